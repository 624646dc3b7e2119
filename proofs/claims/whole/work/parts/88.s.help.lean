
theorem mG_214 : Cond.initialized "LazyForge" ∈ uG := uG_at 214 (by decide +kernel) (by decide +kernel)
theorem mG_783 : Cond.classLink "LazyForgeLaw" 13 "java/lang/IllegalArgumentException" ∈ uG := uG_at 783 (by decide +kernel) (by decide +kernel)
theorem mG_784 : Cond.classLink "LazyForgeLaw" 15 "java/lang/UnsupportedOperationException" ∈ uG := uG_at 784 (by decide +kernel) (by decide +kernel)
theorem mG_785 : Cond.methodLink "LazyForgeLaw" 7 yX11_put ∈ uG := uG_at 785 (by decide +kernel) (by decide +kernel)
theorem mG_786 : Cond.instanceMethod yX11_put ∈ uG := uG_at 786 (by decide +kernel) (by decide +kernel)
theorem mG_787 : Cond.selects "LazyForge" yX11_put yX11_put ∈ uG := uG_at 787 (by decide +kernel) (by decide +kernel)
theorem mG_788 : Cond.code yX11_put prog_1_method_2_code 5 (some .int) ∈ uG := uG_at 788 (by decide +kernel) (by decide +kernel)
theorem mG_874 : Cond.methodLink "LazyForgeLaw" 17 yX11_end ∈ uG := uG_at 874 (by decide +kernel) (by decide +kernel)
theorem mG_875 : Cond.instanceMethod yX11_end ∈ uG := uG_at 875 (by decide +kernel) (by decide +kernel)
theorem mG_876 : Cond.selects "LazyForge" yX11_end yX11_end ∈ uG := uG_at 876 (by decide +kernel) (by decide +kernel)
theorem mG_877 : Cond.code yX11_end prog_1_method_3_code 2 none ∈ uG := uG_at 877 (by decide +kernel) (by decide +kernel)
theorem mG_881 : Cond.methodLink "LazyForgeLaw" 21 yX11_program ∈ uG := uG_at 881 (by decide +kernel) (by decide +kernel)
theorem mG_882 : Cond.instanceMethod yX11_program ∈ uG := uG_at 882 (by decide +kernel) (by decide +kernel)
theorem mG_883 : Cond.selects "LazyForge" yX11_program yX11_program ∈ uG := uG_at 883 (by decide +kernel) (by decide +kernel)
theorem mG_884 : Cond.code yX11_program prog_1_method_5_code 1 (some .int) ∈ uG := uG_at 884 (by decide +kernel) (by decide +kernel)
theorem mG_1615 : Cond.methodLink "LazyForgeLaw" 25 yX11_fault ∈ uG := uG_at 1615 (by decide +kernel) (by decide +kernel)
theorem mG_1616 : Cond.instanceMethod yX11_fault ∈ uG := uG_at 1616 (by decide +kernel) (by decide +kernel)
theorem mG_1617 : Cond.selects "LazyForge" yX11_fault yX11_fault ∈ uG := uG_at 1617 (by decide +kernel) (by decide +kernel)
theorem mG_1618 : Cond.code yX11_fault prog_1_method_6_code 2 (some .int) ∈ uG := uG_at 1618 (by decide +kernel) (by decide +kernel)
theorem mG_1622 : Cond.classLink "LazyForgeLaw" 31 "java/lang/IllegalStateException" ∈ uG := uG_at 1622 (by decide +kernel) (by decide +kernel)
theorem mG_1623 : Cond.methodLink "LazyForgeLaw" 28 yX11_write ∈ uG := uG_at 1623 (by decide +kernel) (by decide +kernel)
theorem mG_1624 : Cond.instanceMethod yX11_write ∈ uG := uG_at 1624 (by decide +kernel) (by decide +kernel)
theorem mG_1625 : Cond.selects "LazyForge" yX11_write yX11_write ∈ uG := uG_at 1625 (by decide +kernel) (by decide +kernel)
theorem mG_1626 : Cond.code yX11_write prog_1_method_7_code 2 (some .int) ∈ uG := uG_at 1626 (by decide +kernel) (by decide +kernel)
theorem mG_1738 : Cond.classLink "LazyForgeLaw" 36 "java/lang/IndexOutOfBoundsException" ∈ uG := uG_at 1738 (by decide +kernel) (by decide +kernel)
theorem mG_1739 : Cond.methodLink "LazyForgeLaw" 33 yX11_letter ∈ uG := uG_at 1739 (by decide +kernel) (by decide +kernel)
theorem mG_1740 : Cond.instanceMethod yX11_letter ∈ uG := uG_at 1740 (by decide +kernel) (by decide +kernel)
theorem mG_1741 : Cond.selects "LazyForge" yX11_letter yX11_letter ∈ uG := uG_at 1741 (by decide +kernel) (by decide +kernel)
theorem mG_1742 : Cond.code yX11_letter prog_1_method_8_code 2 (some .int) ∈ uG := uG_at 1742 (by decide +kernel) (by decide +kernel)
theorem mG_1762 : Cond.methodLink "LazyForgeLaw" 38 yX11_function ∈ uG := uG_at 1762 (by decide +kernel) (by decide +kernel)
theorem mG_1763 : Cond.instanceMethod yX11_function ∈ uG := uG_at 1763 (by decide +kernel) (by decide +kernel)
theorem mG_1764 : Cond.selects "LazyForge" yX11_function yX11_function ∈ uG := uG_at 1764 (by decide +kernel) (by decide +kernel)
theorem mG_1765 : Cond.code yX11_function prog_1_method_9_code 3 (some .int) ∈ uG := uG_at 1765 (by decide +kernel) (by decide +kernel)
theorem mG_1773 : Cond.methodLink "LazyForgeLaw" 42 yX11_needs ∈ uG := uG_at 1773 (by decide +kernel) (by decide +kernel)
theorem mG_1774 : Cond.instanceMethod yX11_needs ∈ uG := uG_at 1774 (by decide +kernel) (by decide +kernel)
theorem mG_1775 : Cond.selects "LazyForge" yX11_needs yX11_needs ∈ uG := uG_at 1775 (by decide +kernel) (by decide +kernel)
theorem mG_1776 : Cond.code yX11_needs prog_1_method_10_code 3 (some .boolean) ∈ uG := uG_at 1776 (by decide +kernel) (by decide +kernel)
theorem mG_1784 : Cond.methodLink "LazyForgeLaw" 46 yX11_bit ∈ uG := uG_at 1784 (by decide +kernel) (by decide +kernel)
theorem mG_1785 : Cond.instanceMethod yX11_bit ∈ uG := uG_at 1785 (by decide +kernel) (by decide +kernel)
theorem mG_1786 : Cond.selects "LazyForge" yX11_bit yX11_bit ∈ uG := uG_at 1786 (by decide +kernel) (by decide +kernel)
theorem mG_1787 : Cond.code yX11_bit prog_1_method_11_code 3 (some .int) ∈ uG := uG_at 1787 (by decide +kernel) (by decide +kernel)
theorem mG_1792 : Cond.methodLink "LazyForgeLaw" 49 yX11_run ∈ uG := uG_at 1792 (by decide +kernel) (by decide +kernel)
theorem mG_1793 : Cond.instanceMethod yX11_run ∈ uG := uG_at 1793 (by decide +kernel) (by decide +kernel)
theorem mG_1794 : Cond.selects "LazyForge" yX11_run yX11_run ∈ uG := uG_at 1794 (by decide +kernel) (by decide +kernel)
theorem mG_1795 : Cond.code yX11_run prog_1_method_12_code 3 (some .int) ∈ uG := uG_at 1795 (by decide +kernel) (by decide +kernel)
theorem mG_2015 : Cond.methodLink "LazyForgeLaw" 53 yX11_result ∈ uG := uG_at 2015 (by decide +kernel) (by decide +kernel)
theorem mG_2016 : Cond.instanceMethod yX11_result ∈ uG := uG_at 2016 (by decide +kernel) (by decide +kernel)
theorem mG_2017 : Cond.selects "LazyForge" yX11_result yX11_result ∈ uG := uG_at 2017 (by decide +kernel) (by decide +kernel)
theorem mG_2018 : Cond.code yX11_result prog_1_method_13_code 2 (some .int) ∈ uG := uG_at 2018 (by decide +kernel) (by decide +kernel)
theorem mG_2022 : Cond.methodLink "LazyForgeLaw" 56 yX11_number ∈ uG := uG_at 2022 (by decide +kernel) (by decide +kernel)
theorem mG_2023 : Cond.instanceMethod yX11_number ∈ uG := uG_at 2023 (by decide +kernel) (by decide +kernel)
theorem mG_2024 : Cond.selects "LazyForge" yX11_number yX11_number ∈ uG := uG_at 2024 (by decide +kernel) (by decide +kernel)
theorem mG_2025 : Cond.code yX11_number prog_1_method_14_code 2 (some .int) ∈ uG := uG_at 2025 (by decide +kernel) (by decide +kernel)
theorem mG_2029 : Cond.methodLink "LazyForgeLaw" 59 yX11_called ∈ uG := uG_at 2029 (by decide +kernel) (by decide +kernel)
theorem mG_2030 : Cond.instanceMethod yX11_called ∈ uG := uG_at 2030 (by decide +kernel) (by decide +kernel)
theorem mG_2031 : Cond.selects "LazyForge" yX11_called yX11_called ∈ uG := uG_at 2031 (by decide +kernel) (by decide +kernel)
theorem mG_2032 : Cond.code yX11_called prog_1_method_15_code 2 (some .int) ∈ uG := uG_at 2032 (by decide +kernel) (by decide +kernel)
theorem mG_2036 : Cond.methodLink "LazyForgeLaw" 62 yX11_about ∈ uG := uG_at 2036 (by decide +kernel) (by decide +kernel)
theorem mG_2037 : Cond.instanceMethod yX11_about ∈ uG := uG_at 2037 (by decide +kernel) (by decide +kernel)
theorem mG_2038 : Cond.selects "LazyForge" yX11_about yX11_about ∈ uG := uG_at 2038 (by decide +kernel) (by decide +kernel)
theorem mG_2039 : Cond.code yX11_about prog_1_method_16_code 2 (some .int) ∈ uG := uG_at 2039 (by decide +kernel) (by decide +kernel)
theorem dL_about_0 : decode cL_about 0 = .ok (.aload_n 2, 1) := by decide +kernel
theorem dL_about_1 : decode cL_about 1 = .ok (.iconst 0, 1) := by decide +kernel
theorem dL_about_2 : decode cL_about 2 = .ok (.aload_n 0, 1) := by decide +kernel
theorem dL_about_3 : decode cL_about 3 = .ok (.iload_n 1, 1) := by decide +kernel
theorem dL_about_4 : decode cL_about 4 = .ok (.invokevirtual 62, 3) := by decide +kernel
theorem dL_about_7 : decode cL_about 7 = .ok (.i2l, 1) := by decide +kernel
theorem dL_about_8 : decode cL_about 8 = .ok (.lastore, 1) := by decide +kernel
theorem dL_about_9 : decode cL_about 9 = .ok (.goto 6, 3) := by decide +kernel
theorem dL_about_12 : decode cL_about 12 = .ok (.astore_n 3, 1) := by decide +kernel
theorem dL_about_13 : decode cL_about 13 = .ok (.iconst 1, 1) := by decide +kernel
theorem dL_about_14 : decode cL_about 14 = .ok (.ireturn, 1) := by decide +kernel
theorem dL_about_15 : decode cL_about 15 = .ok (.iconst 0, 1) := by decide +kernel
theorem dL_about_16 : decode cL_about 16 = .ok (.ireturn, 1) := by decide +kernel
theorem dL_bit_0 : decode cL_bit 0 = .ok (.aload_n 3, 1) := by decide +kernel
theorem dL_bit_1 : decode cL_bit 1 = .ok (.iconst 0, 1) := by decide +kernel
theorem dL_bit_2 : decode cL_bit 2 = .ok (.aload_n 0, 1) := by decide +kernel
theorem dL_bit_3 : decode cL_bit 3 = .ok (.iload_n 1, 1) := by decide +kernel
theorem dL_bit_4 : decode cL_bit 4 = .ok (.iload_n 2, 1) := by decide +kernel
theorem dL_bit_5 : decode cL_bit 5 = .ok (.invokevirtual 46, 3) := by decide +kernel
theorem dL_bit_8 : decode cL_bit 8 = .ok (.i2l, 1) := by decide +kernel
theorem dL_bit_9 : decode cL_bit 9 = .ok (.lastore, 1) := by decide +kernel
theorem dL_bit_10 : decode cL_bit 10 = .ok (.goto 15, 3) := by decide +kernel
theorem dL_bit_13 : decode cL_bit 13 = .ok (.astore 4, 2) := by decide +kernel
theorem dL_bit_15 : decode cL_bit 15 = .ok (.iconst 1, 1) := by decide +kernel
theorem dL_bit_16 : decode cL_bit 16 = .ok (.ireturn, 1) := by decide +kernel
theorem dL_bit_17 : decode cL_bit 17 = .ok (.astore 4, 2) := by decide +kernel
theorem dL_bit_19 : decode cL_bit 19 = .ok (.iconst 2, 1) := by decide +kernel
theorem dL_bit_20 : decode cL_bit 20 = .ok (.ireturn, 1) := by decide +kernel
theorem dL_bit_21 : decode cL_bit 21 = .ok (.astore 4, 2) := by decide +kernel
theorem dL_bit_23 : decode cL_bit 23 = .ok (.iconst 3, 1) := by decide +kernel
theorem dL_bit_24 : decode cL_bit 24 = .ok (.ireturn, 1) := by decide +kernel
theorem dL_bit_25 : decode cL_bit 25 = .ok (.iconst 0, 1) := by decide +kernel
theorem dL_bit_26 : decode cL_bit 26 = .ok (.ireturn, 1) := by decide +kernel
theorem dL_called_0 : decode cL_called 0 = .ok (.aload_n 2, 1) := by decide +kernel
theorem dL_called_1 : decode cL_called 1 = .ok (.iconst 0, 1) := by decide +kernel
theorem dL_called_2 : decode cL_called 2 = .ok (.aload_n 0, 1) := by decide +kernel
theorem dL_called_3 : decode cL_called 3 = .ok (.iload_n 1, 1) := by decide +kernel
theorem dL_called_4 : decode cL_called 4 = .ok (.invokevirtual 59, 3) := by decide +kernel
theorem dL_called_7 : decode cL_called 7 = .ok (.i2l, 1) := by decide +kernel
theorem dL_called_8 : decode cL_called 8 = .ok (.lastore, 1) := by decide +kernel
theorem dL_called_9 : decode cL_called 9 = .ok (.goto 9, 3) := by decide +kernel
theorem dL_called_12 : decode cL_called 12 = .ok (.astore_n 3, 1) := by decide +kernel
theorem dL_called_13 : decode cL_called 13 = .ok (.iconst 1, 1) := by decide +kernel
theorem dL_called_14 : decode cL_called 14 = .ok (.ireturn, 1) := by decide +kernel
theorem dL_called_15 : decode cL_called 15 = .ok (.astore_n 3, 1) := by decide +kernel
theorem dL_called_16 : decode cL_called 16 = .ok (.iconst 2, 1) := by decide +kernel
theorem dL_called_17 : decode cL_called 17 = .ok (.ireturn, 1) := by decide +kernel
theorem dL_called_18 : decode cL_called 18 = .ok (.iconst 0, 1) := by decide +kernel
theorem dL_called_19 : decode cL_called 19 = .ok (.ireturn, 1) := by decide +kernel
theorem dL_end_0 : decode cL_end 0 = .ok (.aload_n 0, 1) := by decide +kernel
theorem dL_end_1 : decode cL_end 1 = .ok (.iload_n 1, 1) := by decide +kernel
theorem dL_end_2 : decode cL_end 2 = .ok (.invokevirtual 17, 3) := by decide +kernel
theorem dL_end_5 : decode cL_end 5 = .ok (.goto 6, 3) := by decide +kernel
theorem dL_end_8 : decode cL_end 8 = .ok (.astore_n 2, 1) := by decide +kernel
theorem dL_end_9 : decode cL_end 9 = .ok (.iconst 1, 1) := by decide +kernel
theorem dL_end_10 : decode cL_end 10 = .ok (.ireturn, 1) := by decide +kernel
theorem dL_end_11 : decode cL_end 11 = .ok (.iconst 0, 1) := by decide +kernel
theorem dL_end_12 : decode cL_end 12 = .ok (.ireturn, 1) := by decide +kernel
theorem dL_fault_0 : decode cL_fault 0 = .ok (.aload_n 2, 1) := by decide +kernel
theorem dL_fault_1 : decode cL_fault 1 = .ok (.iconst 0, 1) := by decide +kernel
theorem dL_fault_2 : decode cL_fault 2 = .ok (.aload_n 0, 1) := by decide +kernel
theorem dL_fault_3 : decode cL_fault 3 = .ok (.iload_n 1, 1) := by decide +kernel
theorem dL_fault_4 : decode cL_fault 4 = .ok (.invokevirtual 25, 3) := by decide +kernel
theorem dL_fault_7 : decode cL_fault 7 = .ok (.i2l, 1) := by decide +kernel
theorem dL_fault_8 : decode cL_fault 8 = .ok (.lastore, 1) := by decide +kernel
theorem dL_fault_9 : decode cL_fault 9 = .ok (.goto 6, 3) := by decide +kernel
theorem dL_fault_12 : decode cL_fault 12 = .ok (.astore_n 3, 1) := by decide +kernel
theorem dL_fault_13 : decode cL_fault 13 = .ok (.iconst 1, 1) := by decide +kernel
theorem dL_fault_14 : decode cL_fault 14 = .ok (.ireturn, 1) := by decide +kernel
theorem dL_fault_15 : decode cL_fault 15 = .ok (.iconst 0, 1) := by decide +kernel
theorem dL_fault_16 : decode cL_fault 16 = .ok (.ireturn, 1) := by decide +kernel
theorem dL_function_0 : decode cL_function 0 = .ok (.aload_n 3, 1) := by decide +kernel
theorem dL_function_1 : decode cL_function 1 = .ok (.iconst 0, 1) := by decide +kernel
theorem dL_function_2 : decode cL_function 2 = .ok (.aload_n 0, 1) := by decide +kernel
theorem dL_function_3 : decode cL_function 3 = .ok (.iload_n 1, 1) := by decide +kernel
theorem dL_function_4 : decode cL_function 4 = .ok (.iload_n 2, 1) := by decide +kernel
theorem dL_function_5 : decode cL_function 5 = .ok (.invokevirtual 38, 3) := by decide +kernel
theorem dL_function_8 : decode cL_function 8 = .ok (.i2l, 1) := by decide +kernel
theorem dL_function_9 : decode cL_function 9 = .ok (.lastore, 1) := by decide +kernel
theorem dL_function_10 : decode cL_function 10 = .ok (.goto 15, 3) := by decide +kernel
theorem dL_function_13 : decode cL_function 13 = .ok (.astore 4, 2) := by decide +kernel
theorem dL_function_15 : decode cL_function 15 = .ok (.iconst 1, 1) := by decide +kernel
theorem dL_function_16 : decode cL_function 16 = .ok (.ireturn, 1) := by decide +kernel
theorem dL_function_17 : decode cL_function 17 = .ok (.astore 4, 2) := by decide +kernel
theorem dL_function_19 : decode cL_function 19 = .ok (.iconst 2, 1) := by decide +kernel
theorem dL_function_20 : decode cL_function 20 = .ok (.ireturn, 1) := by decide +kernel
theorem dL_function_21 : decode cL_function 21 = .ok (.astore 4, 2) := by decide +kernel
theorem dL_function_23 : decode cL_function 23 = .ok (.iconst 3, 1) := by decide +kernel
theorem dL_function_24 : decode cL_function 24 = .ok (.ireturn, 1) := by decide +kernel
theorem dL_function_25 : decode cL_function 25 = .ok (.iconst 0, 1) := by decide +kernel
theorem dL_function_26 : decode cL_function 26 = .ok (.ireturn, 1) := by decide +kernel
theorem dL_letter_0 : decode cL_letter 0 = .ok (.aload_n 2, 1) := by decide +kernel
theorem dL_letter_1 : decode cL_letter 1 = .ok (.iconst 0, 1) := by decide +kernel
theorem dL_letter_2 : decode cL_letter 2 = .ok (.aload_n 0, 1) := by decide +kernel
theorem dL_letter_3 : decode cL_letter 3 = .ok (.iload_n 1, 1) := by decide +kernel
theorem dL_letter_4 : decode cL_letter 4 = .ok (.invokevirtual 33, 3) := by decide +kernel
theorem dL_letter_7 : decode cL_letter 7 = .ok (.i2l, 1) := by decide +kernel
theorem dL_letter_8 : decode cL_letter 8 = .ok (.lastore, 1) := by decide +kernel
theorem dL_letter_9 : decode cL_letter 9 = .ok (.goto 6, 3) := by decide +kernel
theorem dL_letter_12 : decode cL_letter 12 = .ok (.astore_n 3, 1) := by decide +kernel
theorem dL_letter_13 : decode cL_letter 13 = .ok (.iconst 1, 1) := by decide +kernel
theorem dL_letter_14 : decode cL_letter 14 = .ok (.ireturn, 1) := by decide +kernel
theorem dL_letter_15 : decode cL_letter 15 = .ok (.iconst 0, 1) := by decide +kernel
theorem dL_letter_16 : decode cL_letter 16 = .ok (.ireturn, 1) := by decide +kernel
theorem dL_needs_0 : decode cL_needs 0 = .ok (.aload_n 3, 1) := by decide +kernel
theorem dL_needs_1 : decode cL_needs 1 = .ok (.iconst 0, 1) := by decide +kernel
theorem dL_needs_2 : decode cL_needs 2 = .ok (.aload_n 0, 1) := by decide +kernel
theorem dL_needs_3 : decode cL_needs 3 = .ok (.iload_n 1, 1) := by decide +kernel
theorem dL_needs_4 : decode cL_needs 4 = .ok (.iload_n 2, 1) := by decide +kernel
theorem dL_needs_5 : decode cL_needs 5 = .ok (.invokevirtual 42, 3) := by decide +kernel
theorem dL_needs_8 : decode cL_needs 8 = .ok (.ifCond .eq 7, 3) := by decide +kernel
theorem dL_needs_11 : decode cL_needs 11 = .ok (.lconst 1, 1) := by decide +kernel
theorem dL_needs_12 : decode cL_needs 12 = .ok (.goto 4, 3) := by decide +kernel
theorem dL_needs_15 : decode cL_needs 15 = .ok (.lconst 0, 1) := by decide +kernel
theorem dL_needs_16 : decode cL_needs 16 = .ok (.lastore, 1) := by decide +kernel
theorem dL_needs_17 : decode cL_needs 17 = .ok (.goto 11, 3) := by decide +kernel
theorem dL_needs_20 : decode cL_needs 20 = .ok (.astore 4, 2) := by decide +kernel
theorem dL_needs_22 : decode cL_needs 22 = .ok (.iconst 1, 1) := by decide +kernel
theorem dL_needs_23 : decode cL_needs 23 = .ok (.ireturn, 1) := by decide +kernel
theorem dL_needs_24 : decode cL_needs 24 = .ok (.astore 4, 2) := by decide +kernel
theorem dL_needs_26 : decode cL_needs 26 = .ok (.iconst 2, 1) := by decide +kernel
theorem dL_needs_27 : decode cL_needs 27 = .ok (.ireturn, 1) := by decide +kernel
theorem dL_needs_28 : decode cL_needs 28 = .ok (.iconst 0, 1) := by decide +kernel
theorem dL_needs_29 : decode cL_needs 29 = .ok (.ireturn, 1) := by decide +kernel
theorem dL_number_0 : decode cL_number 0 = .ok (.aload_n 2, 1) := by decide +kernel
theorem dL_number_1 : decode cL_number 1 = .ok (.iconst 0, 1) := by decide +kernel
theorem dL_number_2 : decode cL_number 2 = .ok (.aload_n 0, 1) := by decide +kernel
theorem dL_number_3 : decode cL_number 3 = .ok (.iload_n 1, 1) := by decide +kernel
theorem dL_number_4 : decode cL_number 4 = .ok (.invokevirtual 56, 3) := by decide +kernel
theorem dL_number_7 : decode cL_number 7 = .ok (.i2l, 1) := by decide +kernel
theorem dL_number_8 : decode cL_number 8 = .ok (.lastore, 1) := by decide +kernel
theorem dL_number_9 : decode cL_number 9 = .ok (.goto 6, 3) := by decide +kernel
theorem dL_number_12 : decode cL_number 12 = .ok (.astore_n 3, 1) := by decide +kernel
theorem dL_number_13 : decode cL_number 13 = .ok (.iconst 1, 1) := by decide +kernel
theorem dL_number_14 : decode cL_number 14 = .ok (.ireturn, 1) := by decide +kernel
theorem dL_number_15 : decode cL_number 15 = .ok (.iconst 0, 1) := by decide +kernel
theorem dL_number_16 : decode cL_number 16 = .ok (.ireturn, 1) := by decide +kernel
theorem dL_program_0 : decode cL_program 0 = .ok (.aload_n 1, 1) := by decide +kernel
theorem dL_program_1 : decode cL_program 1 = .ok (.iconst 0, 1) := by decide +kernel
theorem dL_program_2 : decode cL_program 2 = .ok (.aload_n 0, 1) := by decide +kernel
theorem dL_program_3 : decode cL_program 3 = .ok (.invokevirtual 21, 3) := by decide +kernel
theorem dL_program_6 : decode cL_program 6 = .ok (.i2l, 1) := by decide +kernel
theorem dL_program_7 : decode cL_program 7 = .ok (.lastore, 1) := by decide +kernel
theorem dL_program_8 : decode cL_program 8 = .ok (.goto 6, 3) := by decide +kernel
theorem dL_program_11 : decode cL_program 11 = .ok (.astore_n 2, 1) := by decide +kernel
theorem dL_program_12 : decode cL_program 12 = .ok (.iconst 1, 1) := by decide +kernel
theorem dL_program_13 : decode cL_program 13 = .ok (.ireturn, 1) := by decide +kernel
theorem dL_program_14 : decode cL_program 14 = .ok (.iconst 0, 1) := by decide +kernel
theorem dL_program_15 : decode cL_program 15 = .ok (.ireturn, 1) := by decide +kernel
theorem dL_put_0 : decode cL_put 0 = .ok (.aload_n 2, 1) := by decide +kernel
theorem dL_put_1 : decode cL_put 1 = .ok (.iconst 0, 1) := by decide +kernel
theorem dL_put_2 : decode cL_put 2 = .ok (.aload_n 0, 1) := by decide +kernel
theorem dL_put_3 : decode cL_put 3 = .ok (.iload_n 1, 1) := by decide +kernel
theorem dL_put_4 : decode cL_put 4 = .ok (.invokevirtual 7, 3) := by decide +kernel
theorem dL_put_7 : decode cL_put 7 = .ok (.i2l, 1) := by decide +kernel
theorem dL_put_8 : decode cL_put 8 = .ok (.lastore, 1) := by decide +kernel
theorem dL_put_9 : decode cL_put 9 = .ok (.goto 9, 3) := by decide +kernel
theorem dL_put_12 : decode cL_put 12 = .ok (.astore_n 3, 1) := by decide +kernel
theorem dL_put_13 : decode cL_put 13 = .ok (.iconst 1, 1) := by decide +kernel
theorem dL_put_14 : decode cL_put 14 = .ok (.ireturn, 1) := by decide +kernel
theorem dL_put_15 : decode cL_put 15 = .ok (.astore_n 3, 1) := by decide +kernel
theorem dL_put_16 : decode cL_put 16 = .ok (.iconst 2, 1) := by decide +kernel
theorem dL_put_17 : decode cL_put 17 = .ok (.ireturn, 1) := by decide +kernel
theorem dL_put_18 : decode cL_put 18 = .ok (.iconst 0, 1) := by decide +kernel
theorem dL_put_19 : decode cL_put 19 = .ok (.ireturn, 1) := by decide +kernel
theorem dL_result_0 : decode cL_result 0 = .ok (.aload_n 2, 1) := by decide +kernel
theorem dL_result_1 : decode cL_result 1 = .ok (.iconst 0, 1) := by decide +kernel
theorem dL_result_2 : decode cL_result 2 = .ok (.aload_n 0, 1) := by decide +kernel
theorem dL_result_3 : decode cL_result 3 = .ok (.iload_n 1, 1) := by decide +kernel
theorem dL_result_4 : decode cL_result 4 = .ok (.invokevirtual 53, 3) := by decide +kernel
theorem dL_result_7 : decode cL_result 7 = .ok (.i2l, 1) := by decide +kernel
theorem dL_result_8 : decode cL_result 8 = .ok (.lastore, 1) := by decide +kernel
theorem dL_result_9 : decode cL_result 9 = .ok (.goto 6, 3) := by decide +kernel
theorem dL_result_12 : decode cL_result 12 = .ok (.astore_n 3, 1) := by decide +kernel
theorem dL_result_13 : decode cL_result 13 = .ok (.iconst 1, 1) := by decide +kernel
theorem dL_result_14 : decode cL_result 14 = .ok (.ireturn, 1) := by decide +kernel
theorem dL_result_15 : decode cL_result 15 = .ok (.iconst 0, 1) := by decide +kernel
theorem dL_result_16 : decode cL_result 16 = .ok (.ireturn, 1) := by decide +kernel
theorem dL_run_0 : decode cL_run 0 = .ok (.aload_n 3, 1) := by decide +kernel
theorem dL_run_1 : decode cL_run 1 = .ok (.iconst 0, 1) := by decide +kernel
theorem dL_run_2 : decode cL_run 2 = .ok (.aload_n 0, 1) := by decide +kernel
theorem dL_run_3 : decode cL_run 3 = .ok (.iload_n 1, 1) := by decide +kernel
theorem dL_run_4 : decode cL_run 4 = .ok (.iload_n 2, 1) := by decide +kernel
theorem dL_run_5 : decode cL_run 5 = .ok (.invokevirtual 49, 3) := by decide +kernel
theorem dL_run_8 : decode cL_run 8 = .ok (.i2l, 1) := by decide +kernel
theorem dL_run_9 : decode cL_run 9 = .ok (.lastore, 1) := by decide +kernel
theorem dL_run_10 : decode cL_run 10 = .ok (.goto 15, 3) := by decide +kernel
theorem dL_run_13 : decode cL_run 13 = .ok (.astore 4, 2) := by decide +kernel
theorem dL_run_15 : decode cL_run 15 = .ok (.iconst 1, 1) := by decide +kernel
theorem dL_run_16 : decode cL_run 16 = .ok (.ireturn, 1) := by decide +kernel
theorem dL_run_17 : decode cL_run 17 = .ok (.astore 4, 2) := by decide +kernel
theorem dL_run_19 : decode cL_run 19 = .ok (.iconst 2, 1) := by decide +kernel
theorem dL_run_20 : decode cL_run 20 = .ok (.ireturn, 1) := by decide +kernel
theorem dL_run_21 : decode cL_run 21 = .ok (.astore 4, 2) := by decide +kernel
theorem dL_run_23 : decode cL_run 23 = .ok (.iconst 3, 1) := by decide +kernel
theorem dL_run_24 : decode cL_run 24 = .ok (.ireturn, 1) := by decide +kernel
theorem dL_run_25 : decode cL_run 25 = .ok (.iconst 0, 1) := by decide +kernel
theorem dL_run_26 : decode cL_run 26 = .ok (.ireturn, 1) := by decide +kernel
theorem dL_write_0 : decode cL_write 0 = .ok (.aload_n 1, 1) := by decide +kernel
theorem dL_write_1 : decode cL_write 1 = .ok (.iconst 0, 1) := by decide +kernel
theorem dL_write_2 : decode cL_write 2 = .ok (.aload_n 0, 1) := by decide +kernel
theorem dL_write_3 : decode cL_write 3 = .ok (.invokevirtual 28, 3) := by decide +kernel
theorem dL_write_6 : decode cL_write 6 = .ok (.i2l, 1) := by decide +kernel
theorem dL_write_7 : decode cL_write 7 = .ok (.lastore, 1) := by decide +kernel
theorem dL_write_8 : decode cL_write 8 = .ok (.goto 6, 3) := by decide +kernel
theorem dL_write_11 : decode cL_write 11 = .ok (.astore_n 2, 1) := by decide +kernel
theorem dL_write_12 : decode cL_write 12 = .ok (.iconst 1, 1) := by decide +kernel
theorem dL_write_13 : decode cL_write 13 = .ok (.ireturn, 1) := by decide +kernel
theorem dL_write_14 : decode cL_write 14 = .ok (.iconst 0, 1) := by decide +kernel
theorem dL_write_15 : decode cL_write 15 = .ok (.ireturn, 1) := by decide +kernel
theorem cw_X11_about : CWV yX11_about cX11_about 2 (some .int) RX11 1 := ⟨mG_2039, mG_2037, mG_2038, mG_214, by decide +kernel⟩
theorem cw_X11_bit : CWV yX11_bit cX11_bit 3 (some .int) RX11 2 := ⟨mG_1787, mG_1785, mG_1786, mG_214, by decide +kernel⟩
theorem cw_X11_called : CWV yX11_called cX11_called 2 (some .int) RX11 1 := ⟨mG_2032, mG_2030, mG_2031, mG_214, by decide +kernel⟩
theorem cw_X11_end : CWV yX11_end cX11_end 2 none RX11 1 := ⟨mG_877, mG_875, mG_876, mG_214, by decide +kernel⟩
theorem cw_X11_fault : CWV yX11_fault cX11_fault 2 (some .int) RX11 1 := ⟨mG_1618, mG_1616, mG_1617, mG_214, by decide +kernel⟩
theorem cw_X11_function : CWV yX11_function cX11_function 3 (some .int) RX11 2 := ⟨mG_1765, mG_1763, mG_1764, mG_214, by decide +kernel⟩
theorem cw_X11_letter : CWV yX11_letter cX11_letter 2 (some .int) RX11 1 := ⟨mG_1742, mG_1740, mG_1741, mG_214, by decide +kernel⟩
theorem cw_X11_needs : CWV yX11_needs cX11_needs 3 (some .boolean) RX11 2 := ⟨mG_1776, mG_1774, mG_1775, mG_214, by decide +kernel⟩
theorem cw_X11_number : CWV yX11_number cX11_number 2 (some .int) RX11 1 := ⟨mG_2025, mG_2023, mG_2024, mG_214, by decide +kernel⟩
theorem cw_X11_program : CWV yX11_program cX11_program 1 (some .int) RX11 0 := ⟨mG_884, mG_882, mG_883, mG_214, by decide +kernel⟩
theorem cw_X11_put : CWV yX11_put cX11_put 5 (some .int) RX11 1 := ⟨mG_788, mG_786, mG_787, mG_214, by decide +kernel⟩
theorem cw_X11_result : CWV yX11_result cX11_result 2 (some .int) RX11 1 := ⟨mG_2018, mG_2016, mG_2017, mG_214, by decide +kernel⟩
theorem cw_X11_run : CWV yX11_run cX11_run 3 (some .int) RX11 2 := ⟨mG_1795, mG_1793, mG_1794, mG_214, by decide +kernel⟩
theorem cw_X11_write : CWV yX11_write cX11_write 2 (some .int) RX11 0 := ⟨mG_1626, mG_1624, mG_1625, mG_214, by decide +kernel⟩
def gQh (D : va_G) (x q9 : Nat) (A : Nat → Prop) (r : Int32) (σ : S5) : Array Value → State → Outcome → State → Prop :=
  va_Qi (S := GG) (fun r' _ => r' = r) (fun γ u => va_P D vwCl (wF x q9 γ.1 γ.2.1 γ.2.2.1 γ.2.2.2.1 γ.2.2.2.2 σ) u.heap ∧ va_K D vwCl (tF γ.2.1) u ∧ va_D A (wF x q9 γ.1 γ.2.1 γ.2.2.1 γ.2.2.2.1 γ.2.2.2.2 σ)) A
section SEM5
variable {p : Program} {l : Launch} {e : Env} {R : Room} {s : State} {m : MethodId} {args : Array Value} {below : List Frame} {meth : Method} {c : Code} {H : Heap} {locs : List Loc} {cells slots mc ms : Nat} {Q : State → Prop}
variable {cc : ByteArray} {nL pc : Nat} {own : String} {ls : Array Slot} {rest : List Value} {dC : Nat → ClassId} {dI : Nat → Nat → Nat} {A : Nat → Prop} {σ : S5} {ak : Nat → Nat} {x q9 : Nat} {ad : Nat → Nat} {kc : Nat → ClassId} {sv : Value} {sa va : Nat}
theorem grh_i {r : Int32} (S : CallFix p m c cc nL s args uG own) (hr : meth.sig.returnType = some .int) (hk : meth.locks = false) (X : gX (dC, dI) (tF kc) (wF x q9 ad kc sv sa va) (zF ak) A s σ H locs) (hc : cells ≤ mc) (hs : slots ≤ ms) (hd : decode cc pc = .ok (.ireturn, 1)) : W p l e R s m args below meth c H locs cells slots (MQ below (gQh (dC, dI) x q9 A r σ) args s mc ms A) (F0 m pc ls [.int r]) :=
  W.widen hc hs (W.iret (v := r) S.1 S.2.1 hr (fun u hu hW => ⟨⟨r, (ad, kc, sv, sa, va), rfl, rfl, by rw [hu]; exact X.2.1, va_K.moved hW.alike X.1, X.2.2.1⟩, X.2.2.2.1.F hu⟩) X.2.2.2.1.2.2 hd hk)
theorem gh_start {y : MethodName} {fr lo sz : Nat} {ret : Option FieldType} {hh : List (Nat × Nat × Nat × Nat)} {av : List Value} {Qc : Array Value → State → Outcome → State → Prop} (hy : plainName y.cls = true) (hle : (lg_sl av).length ≤ nL)
    (body : ∀ (p : Program) (e : Env) (s : State) (m : MethodId) (below : List Frame) (meth : Method) (c : Code) (ls : Array Slot), CallFix p m c cc nL s av.toArray uG y.cls → meth.sig.returnType = ret → meth.locks = false → c.exceptionTable.toList = hh.map (fun h => (⟨h.1, h.2.1, h.2.2.1, h.2.2.2⟩ : ExceptionTableEntry)) → gX (dC, dI) (tF kc) (wF x q9 ad kc sv sa va) (zF ak) (va_A (wF x q9 ad kc sv sa va σ) sz) s σ s.heap [] → lv_has ls nL (lv_args 0 av) → W p l e { frames := fr, cells := mc, slots := ms, locals := lo } s m av.toArray below meth c s.heap [] 0 0 (MQ below Qc av.toArray s mc ms (va_A (wF x q9 ad kc sv sa va σ) sz)) (F0 m 0 ls [])) :
    Met l y (Cond.codeWith y cc nL ret hh :: uG) { frames := fr, cells := mc, slots := ms, locals := lo } (gPc (dC, dI) (tF kc) (wF x q9 ad kc sv sa va) (zF ak) av σ sz) Qc mc ms (va_A (wF x q9 ad kc sv sa va σ) sz) := by
  refine ux_ofWH (cc := cc) (maxL := nL) (ret := ret) (hh := hh) hy rfl ?_
  intro pG eV s m args below meth c s₁ B hml hv
  obtain ⟨rfl, hsz, hP, hK, hD0, hZ, hZk⟩ := hv
  have hts := atoms_spec (ws := Cond.codeWith y cc nL ret hh :: uG) B.pre
  have htab := vx_table (x := y) B (hts _ List.mem_cons_self)
  have hu := fun (w : Cond) (h : w ∈ uG) => hts w (List.mem_cons_of_mem _ h)
  have hown : s.vm.findClass y.cls = some m.cls := findClass_of_methodNamed B.named
  subst hsz
  rw [lg_entry_eq]
  exact body pG eV s m below meth c _ ⟨B.exec, B.bytes, hml, hown, hu⟩ B.returns B.notSynchronized htab ⟨hK, hP, hD0.self, va_S.rf, fun q h => Or.inr h, hZ, hZk⟩ (lv_entry av hle)
theorem gxc_Vi {y : MethodName} {bytes : ByteArray} {maxL fr lo n idx q0 ci m1 m2 : Nat} {ret : Option FieldType} {C : String} {As stk : List Value} {τ : S5} {cl : vw_C} {fs : List Value} {cv : Int32 × Int32} (S : CallFix p m c cc nL s args uG own) (X : gX (dC, dI) (tF kc) (wF x q9 ad kc sv sa va) (zF ak) A s σ H locs)
    (hM : vx_Met l y (Cond.code y bytes maxL ret :: uG) { frames := fr, cells := m1, slots := m2, locals := lo } (gPc (dC, dI) (tF kc) (wF x q9 ad kc sv sa va) (zF ak) (.ref x :: As) σ H.size) (gQx (dC, dI) x q9 (va_A (wF x q9 ad kc sv sa va σ) H.size) cv τ) (uXB dC dI (wF x q9 ad kc sv sa va τ) (tF kc) (va_A (wF x q9 ad kc sv sa va σ) H.size) (cE cv.1)) m1 m2 (va_A (wF x q9 ad kc sv sa va σ) H.size)) (cw : CWV y bytes maxL ret C n) (hlk : Cond.methodLink own idx y ∈ uG)
    (hn : As.length = n) (hci : vwCl[ci]? = some cl) (hcl : cl.1 = C) (hrc : (wF x q9 ad kc sv sa va σ)[q0]? = some (x, .inr (ci, fs))) (hs : stk = As.reverse ++ .ref x :: rest) (hl : ls.size = nL) (hcat : (rest.map fun v => v.category).sum ≤ 8) (hd : decode cc pc = .ok (.invokevirtual idx, 3)) (hc : cells + m1 ≤ R.cells ∧ slots + m2 ≤ R.slots) (hR : fr + 1 ≤ R.frames ∧ 8 + (maxL + 11) + lo ≤ R.locals)
    (kx : ∀ (E : String) (ce : Cell) (q : Addr) (H1 : Heap) (locs1 : List Loc), cE cv.1 E → gX (dC, dI) (tF kc) (wF x q9 ad kc sv sa va) (zF ak) A s τ H1 locs1 → H1[q]? = some ce → ce.vm = .none → s.vm.findClass E = some ce.cls → vx_W p l e R s m args below meth c H1 locs1 (cells + m1) (slots + m2) Q (F0 m pc ls rest) q)
    (kk : ∀ (ad : Nat → Nat) (kc : Nat → ClassId) (sv : Value) (sa va : Nat) (H1 : Heap) (locs1 : List Loc), cv.1 = 0 → gX (dC, dI) (tF kc) (wF x q9 ad kc sv sa va) (zF ak) A s τ H1 locs1 → W p l e R s m args below meth c H1 locs1 (cells + m1) (slots + m2) Q (F0 m (pc + 3) ls (.int cv.2 :: rest))) : W p l e R s m args below meth c H locs cells slots Q (F0 m pc ls stk) := by
  obtain ⟨h0, h2, h3, h4, hy⟩ := cw
  subst hcl
  refine vx_calli (vx_runV (As := As) (rest := rest) S hM (cwV n S.2.2.2.2 (uG_V (fun _ h => h) h0 hlk h2 h3 h4) rfl rfl rfl hy hR) ⟨g_blind, va_recv X.1 X.2.1 hci hrc, fun U hU hW => ⟨rfl, by rw [hU], by rw [hU]; exact X.2.1, va_K.moved hW.alike X.1, X.2.2.1.weaken (fun _ _ _ _ => trivial), gX_Z X hU hW, X.2.2.2.2.2.2⟩⟩ rfl hn hl hs (lv_room hcat) hd hc) X.2.2.2.1 (fun q _ h => gX_free X q h) (gX_free X) (fun q _ h => gX_free X q h) (fun E ce q u t1 H1 locs1 ht hvm hpu hBX hz hk hS hce hcv hcl => ?_) ?_
  · obtain ⟨hE, hP1, hK1, hD1⟩ := hBX
    exact kx E ce q H1 locs1 hE (gX_next X ht ⟨hP1, hK1, hD1⟩ hS) hce hcv hcl
  intro r1 γ t1 H1 locs1 ht hvm hp hB hz hk hS
  obtain ⟨hc0, rfl⟩ := hp
  exact kk γ.1 γ.2.1 γ.2.2.1 γ.2.2.2.1 γ.2.2.2.2 H1 locs1 hc0 ⟨va_K.moved hvm.symm hB.2.1, by rw [← ht]; exact hB.1, hB.2.2.weaken (fun _ _ _ h => gX_free X _ h), hS, X.2.2.2.2⟩
theorem gxc_Vv {y : MethodName} {bytes : ByteArray} {maxL fr lo n idx q0 ci m1 m2 : Nat} {ret : Option FieldType} {C : String} {As stk : List Value} {τ : S5} {cl : vw_C} {fs : List Value} {cv : Int32 × Int32} (S : CallFix p m c cc nL s args uG own) (X : gX (dC, dI) (tF kc) (wF x q9 ad kc sv sa va) (zF ak) A s σ H locs)
    (hM : vx_Met l y (Cond.code y bytes maxL ret :: uG) { frames := fr, cells := m1, slots := m2, locals := lo } (gPc (dC, dI) (tF kc) (wF x q9 ad kc sv sa va) (zF ak) (.ref x :: As) σ H.size) (gQw (dC, dI) x q9 (va_A (wF x q9 ad kc sv sa va σ) H.size) cv τ) (uXB dC dI (wF x q9 ad kc sv sa va τ) (tF kc) (va_A (wF x q9 ad kc sv sa va σ) H.size) (cE cv.1)) m1 m2 (va_A (wF x q9 ad kc sv sa va σ) H.size)) (cw : CWV y bytes maxL ret C n) (hlk : Cond.methodLink own idx y ∈ uG)
    (hn : As.length = n) (hci : vwCl[ci]? = some cl) (hcl : cl.1 = C) (hrc : (wF x q9 ad kc sv sa va σ)[q0]? = some (x, .inr (ci, fs))) (hs : stk = As.reverse ++ .ref x :: rest) (hl : ls.size = nL) (hcat : (rest.map fun v => v.category).sum ≤ 8) (hd : decode cc pc = .ok (.invokevirtual idx, 3)) (hc : cells + m1 ≤ R.cells ∧ slots + m2 ≤ R.slots) (hR : fr + 1 ≤ R.frames ∧ 8 + (maxL + 11) + lo ≤ R.locals)
    (kx : ∀ (E : String) (ce : Cell) (q : Addr) (H1 : Heap) (locs1 : List Loc), cE cv.1 E → gX (dC, dI) (tF kc) (wF x q9 ad kc sv sa va) (zF ak) A s τ H1 locs1 → H1[q]? = some ce → ce.vm = .none → s.vm.findClass E = some ce.cls → vx_W p l e R s m args below meth c H1 locs1 (cells + m1) (slots + m2) Q (F0 m pc ls rest) q)
    (kk : ∀ (ad : Nat → Nat) (kc : Nat → ClassId) (sv : Value) (sa va : Nat) (H1 : Heap) (locs1 : List Loc), cv.1 = 0 → gX (dC, dI) (tF kc) (wF x q9 ad kc sv sa va) (zF ak) A s τ H1 locs1 → W p l e R s m args below meth c H1 locs1 (cells + m1) (slots + m2) Q (F0 m (pc + 3) ls (rest))) : W p l e R s m args below meth c H locs cells slots Q (F0 m pc ls stk) := by
  obtain ⟨h0, h2, h3, h4, hy⟩ := cw
  subst hcl
  refine vx_callv (vx_runV (As := As) (rest := rest) S hM (cwV n S.2.2.2.2 (uG_V (fun _ h => h) h0 hlk h2 h3 h4) rfl rfl rfl hy hR) ⟨g_blind, va_recv X.1 X.2.1 hci hrc, fun U hU hW => ⟨rfl, by rw [hU], by rw [hU]; exact X.2.1, va_K.moved hW.alike X.1, X.2.2.1.weaken (fun _ _ _ _ => trivial), gX_Z X hU hW, X.2.2.2.2.2.2⟩⟩ rfl hn hl hs (lv_room hcat) hd hc) X.2.2.2.1 (fun q _ h => gX_free X q h) (gX_free X) (fun q _ h => gX_free X q h) (fun E ce q u t1 H1 locs1 ht hvm hpu hBX hz hk hS hce hcv hcl => ?_) ?_
  · obtain ⟨hE, hP1, hK1, hD1⟩ := hBX
    exact kx E ce q H1 locs1 hE (gX_next X ht ⟨hP1, hK1, hD1⟩ hS) hce hcv hcl
  intro γ t1 H1 locs1 ht hvm hp hB hz hk hS
  obtain rfl := hp
  exact kk γ.1 γ.2.1 γ.2.2.1 γ.2.2.2.1 γ.2.2.2.2 H1 locs1 rfl ⟨va_K.moved hvm.symm hB.2.1, by rw [← ht]; exact hB.1, hB.2.2.weaken (fun _ _ _ h => gX_free X _ h), hS, X.2.2.2.2⟩
end SEM5
def h_L_put (a1 : Int32) (σ : S5) : Option (Int32 × S5) :=
  bd (f_X11_put (a1) σ) (fun cv τ9 =>
  if cv.1 = 0 then
    (some ((0 : Int32), (pB τ9 30 0 ((cv.2).toInt64))))
  else if cv.1 = 1 then
    (some ((1 : Int32), τ9))
  else if cv.1 = 2 then
    (some ((2 : Int32), τ9))
  else none)
def h_L_end (a1 : Int32) (σ : S5) : Option (Int32 × S5) :=
  bd (f_X11_end (a1) σ) (fun cv τ9 =>
  if cv.1 = 0 then
    (some ((0 : Int32), τ9))
  else if cv.1 = 1 then
    (some ((1 : Int32), τ9))
  else none)
def h_L_program  (σ : S5) : Option (Int32 × S5) :=
  bd (f_X11_program  σ) (fun cv τ9 =>
  if cv.1 = 0 then
    (some ((0 : Int32), (pB τ9 30 0 ((cv.2).toInt64))))
  else if cv.1 = 2 then
    (some ((1 : Int32), τ9))
  else none)
def h_L_fault (a1 : Int32) (σ : S5) : Option (Int32 × S5) :=
  bd (f_X11_fault (a1) σ) (fun cv τ9 =>
  if cv.1 = 0 then
    (some ((0 : Int32), (pB τ9 30 0 ((cv.2).toInt64))))
  else if cv.1 = 1 then
    (some ((1 : Int32), τ9))
  else none)
def h_L_write  (σ : S5) : Option (Int32 × S5) :=
  bd (f_X11_write  σ) (fun cv τ9 =>
  if cv.1 = 0 then
    (some ((0 : Int32), (pB τ9 30 0 ((cv.2).toInt64))))
  else if cv.1 = 3 then
    (some ((1 : Int32), τ9))
  else none)
def h_L_letter (a1 : Int32) (σ : S5) : Option (Int32 × S5) :=
  bd (f_X11_letter (a1) σ) (fun cv τ9 =>
  if cv.1 = 0 then
    (some ((0 : Int32), (pB τ9 30 0 ((cv.2).toInt64))))
  else if cv.1 = 4 then
    (some ((1 : Int32), τ9))
  else none)
def h_L_function (a1 : Int32) (a2 : Int32) (σ : S5) : Option (Int32 × S5) :=
  bd (f_X11_function (a1) (a2) σ) (fun cv τ9 =>
  if cv.1 = 0 then
    (some ((0 : Int32), (pB τ9 30 0 ((cv.2).toInt64))))
  else if cv.1 = 3 then
    (some ((1 : Int32), τ9))
  else if cv.1 = 4 then
    (some ((2 : Int32), τ9))
  else if cv.1 = 1 then
    (some ((3 : Int32), τ9))
  else none)
def h_L_needs (a1 : Int32) (a2 : Int32) (σ : S5) : Option (Int32 × S5) :=
  bd (f_X11_needs (a1) (a2) σ) (fun cv τ9 =>
  if cv.1 = 0 then
    (if cv.2 = 0 then
      (some ((0 : Int32), (pB τ9 30 0 0)))
    else
      (some ((0 : Int32), (pB τ9 30 0 1))))
  else if cv.1 = 3 then
    (some ((1 : Int32), τ9))
  else if cv.1 = 4 then
    (some ((2 : Int32), τ9))
  else none)
def h_L_bit (a1 : Int32) (a2 : Int32) (σ : S5) : Option (Int32 × S5) :=
  bd (f_X11_bit (a1) (a2) σ) (fun cv τ9 =>
  if cv.1 = 0 then
    (some ((0 : Int32), (pB τ9 30 0 ((cv.2).toInt64))))
  else if cv.1 = 3 then
    (some ((1 : Int32), τ9))
  else if cv.1 = 4 then
    (some ((2 : Int32), τ9))
  else if cv.1 = 1 then
    (some ((3 : Int32), τ9))
  else none)
def h_L_run (a1 : Int32) (a2 : Int32) (σ : S5) : Option (Int32 × S5) :=
  bd (f_X11_run (a1) (a2) σ) (fun cv τ9 =>
  if cv.1 = 0 then
    (some ((0 : Int32), (pB τ9 30 0 ((cv.2).toInt64))))
  else if cv.1 = 3 then
    (some ((1 : Int32), τ9))
  else if cv.1 = 1 then
    (some ((2 : Int32), τ9))
  else if cv.1 = 2 then
    (some ((3 : Int32), τ9))
  else none)
def h_L_result (a1 : Int32) (σ : S5) : Option (Int32 × S5) :=
  bd (f_X11_result (a1) σ) (fun cv τ9 =>
  if cv.1 = 0 then
    (some ((0 : Int32), (pB τ9 30 0 ((cv.2).toInt64))))
  else if cv.1 = 1 then
    (some ((1 : Int32), τ9))
  else none)
def h_L_number (a1 : Int32) (σ : S5) : Option (Int32 × S5) :=
  bd (f_X11_number (a1) σ) (fun cv τ9 =>
  if cv.1 = 0 then
    (some ((0 : Int32), (pB τ9 30 0 ((cv.2).toInt64))))
  else if cv.1 = 4 then
    (some ((1 : Int32), τ9))
  else none)
def h_L_called (a1 : Int32) (σ : S5) : Option (Int32 × S5) :=
  bd (f_X11_called (a1) σ) (fun cv τ9 =>
  if cv.1 = 0 then
    (some ((0 : Int32), (pB τ9 30 0 ((cv.2).toInt64))))
  else if cv.1 = 3 then
    (some ((1 : Int32), τ9))
  else if cv.1 = 4 then
    (some ((2 : Int32), τ9))
  else none)
def h_L_about (a1 : Int32) (σ : S5) : Option (Int32 × S5) :=
  bd (f_X11_about (a1) σ) (fun cv τ9 =>
  if cv.1 = 0 then
    (some ((0 : Int32), (pB τ9 30 0 ((cv.2).toInt64))))
  else if cv.1 = 1 then
    (some ((1 : Int32), τ9))
  else none)
set_option maxHeartbeats 4000000 in
set_option maxRecDepth 100000 in
theorem k2_L_put (l : Launch) (hlt : l.stackTraces = false) (dC : Nat → ClassId) (dI : Nat → Nat → Nat) {ak : Nat → Nat} (x q9 : Nat) (ad : Nat → Nat) (kc : Nat → ClassId) (sv : Value) (sa va : Nat) {σ τ : S5} {a1 : Int32} {r : Int32} (hg : h_L_put a1 σ = some (r, τ)) (sz : Nat) : Met l yL_put (Cond.codeWith yL_put cL_put 4 (some .int) [(0, 9, 12, 13), (0, 9, 15, 15)] :: uG) { frames := 7, cells := 1, slots := 6, locals := 114 } (gPc (dC, dI) (tF kc) (wF x q9 ad kc sv sa va) (zF ak) [.ref x, .int a1, .ref q9] σ sz) (gQh (dC, dI) x q9 (va_A (wF x q9 ad kc sv sa va σ) sz) r τ) 1 6 (va_A (wF x q9 ad kc sv sa va σ) sz) := by
  refine gh_start (by decide) (Nat.le_of_ble_eq_true rfl) (fun p e s m below meth c ls S hr hk htab X hl => ?_)
  have hx := S.1
  have hb := S.2.1
  have hown : s.vm.findClass RL = some m.cls := S.2.2.2.1
  have hu := S.2.2.2.2
  have hl : lv_has ls 4 [(0, .ref x), (1, .int a1), (2, .ref q9)] := hl
  generalize hAe : va_A (wF x q9 ad kc sv sa va σ) sz = A at X ⊢
  unfold h_L_put at hg
  refine lv_aload_n hx hb dL_put_0 rfl (lv_at hl 2 rfl) ?_
  refine lv_iconst (v := 0) hx hb dL_put_1 (by decide) ?_
  refine lv_aload_n hx hb dL_put_2 rfl (lv_at hl 0 rfl) ?_
  refine lv_iload_n hx hb dL_put_3 rfl (lv_at hl 1 rfl) ?_
  obtain ⟨cv, τ9, hq9, hg⟩ := bd_some hg
  refine gxc_Vi (As := [.int a1]) (rest := [.int 0, .ref q9]) (q0 := 0) (ci := 14) (m1 := 1) (m2 := 6) S X (k2_X11_put l hlt dC dI x q9 ad kc sv sa va hq9 s.heap.size) cw_X11_put mG_785 rfl rfl rfl rfl rfl hl.1 (Nat.le_of_ble_eq_true rfl) dL_put_4 ⟨Nat.le_of_ble_eq_true rfl, Nat.le_of_ble_eq_true rfl⟩ ⟨Nat.le_refl _, Nat.le_of_ble_eq_true rfl⟩ (fun E ce qx H locs hE X hce hcv hcl => ?_) (fun ad kc sv sa va H locs hc0 X => ?_)
  · rcases hE with ⟨rfl, h1⟩ | ⟨rfl, h1⟩ | ⟨rfl, h1⟩ | ⟨rfl, h1⟩
    · have hg := (if_neg (show ¬ cv.1 = 0 by rw [h1]; decide)).symm.trans hg
      have hg := (if_pos h1).symm.trans hg
      refine vx_catch (own := RL) (name := "java/lang/IllegalArgumentException") hown [] ⟨0, 9, 12, 13⟩ [⟨0, 9, 15, 15⟩] (htab.trans rfl) (fun z hz => nomatch hz) (by decide) (by decide) (hu _ mG_783) (va_Nw.use rfl (X.2.2.2.2.2.1.2.1 _ uc_IAE)) hce hcv hcl ?_
      refine W.eq (g2 := F0 m 12 ls [.ref qx]) rfl ?_
      refine lv_astore_n (lv' := [(3, .ref qx), (0, .ref x), (1, .int a1), (2, .ref q9)]) hx hb dL_put_12 rfl hl (by decide) rfl (fun ls hl => ?_)
      refine lv_iconst (v := 1) hx hb dL_put_13 (by decide) ?_
      obtain ⟨rfl, rfl⟩ := fin_some hg
      exact grh_i S hr hk X (Nat.le_of_eq (Nat.zero_add _)) (Nat.le_of_eq (Nat.zero_add _)) dL_put_14
    · have hg := (if_neg (show ¬ cv.1 = 0 by rw [h1]; decide)).symm.trans hg
      have hg := (if_neg (show ¬ cv.1 = 1 by rw [h1]; decide)).symm.trans hg
      have hg := (if_pos h1).symm.trans hg
      refine vx_catch (own := RL) (name := "java/lang/UnsupportedOperationException") hown [⟨0, 9, 12, 13⟩] ⟨0, 9, 15, 15⟩ [] (htab.trans rfl) (fun z hz => by
          rcases List.mem_cons.mp hz with rfl | hz
          · exact Or.inr ⟨by decide, _, hu _ mG_783, X.2.2.2.2.2.1.2.2.2.1⟩
          exact absurd hz List.not_mem_nil) (by decide) (by decide) (hu _ mG_784) (va_Nw.use rfl (X.2.2.2.2.2.1.2.1 _ uc_UOE)) hce hcv hcl ?_
      refine W.eq (g2 := F0 m 15 ls [.ref qx]) rfl ?_
      refine lv_astore_n (lv' := [(3, .ref qx), (0, .ref x), (1, .int a1), (2, .ref q9)]) hx hb dL_put_15 rfl hl (by decide) rfl (fun ls hl => ?_)
      refine lv_iconst (v := 2) hx hb dL_put_16 (by decide) ?_
      obtain ⟨rfl, rfl⟩ := fin_some hg
      exact grh_i S hr hk X (Nat.le_of_eq (Nat.zero_add _)) (Nat.le_of_eq (Nat.zero_add _)) dL_put_17
    · have hg := (if_neg (show ¬ cv.1 = 0 by rw [h1]; decide)).symm.trans hg
      have hg := (if_neg (show ¬ cv.1 = 1 by rw [h1]; decide)).symm.trans hg
      have hg := (if_neg (show ¬ cv.1 = 2 by rw [h1]; decide)).symm.trans hg
      cases hg
    · have hg := (if_neg (show ¬ cv.1 = 0 by rw [h1]; decide)).symm.trans hg
      have hg := (if_neg (show ¬ cv.1 = 1 by rw [h1]; decide)).symm.trans hg
      have hg := (if_neg (show ¬ cv.1 = 2 by rw [h1]; decide)).symm.trans hg
      cases hg
  · have hg := (if_pos hc0).symm.trans hg
    refine lv_i2l (v := ((cv.2).toInt64)) hx hb dL_put_7 rfl ?_
    refine wfsB_30 S X (vp_in_iff.mpr (by decide)) dL_put_8 (fun H locs X => ?_)
    refine lv_goto (tgt := 18) hx hb dL_put_9 (by decide) ?_
    refine lv_iconst (v := 0) hx hb dL_put_18 (by decide) ?_
    obtain ⟨rfl, rfl⟩ := fin_some hg
    exact grh_i S hr hk X (Nat.le_of_eq (Nat.zero_add _)) (Nat.le_of_eq (Nat.zero_add _)) dL_put_19
set_option maxHeartbeats 4000000 in
set_option maxRecDepth 100000 in
theorem k2_L_end (l : Launch) (hlt : l.stackTraces = false) (dC : Nat → ClassId) (dI : Nat → Nat → Nat) {ak : Nat → Nat} (x q9 : Nat) (ad : Nat → Nat) (kc : Nat → ClassId) (sv : Value) (sa va : Nat) {σ τ : S5} {a1 : Int32} {r : Int32} (hg : h_L_end a1 σ = some (r, τ)) (sz : Nat) : Met l yL_end (Cond.codeWith yL_end cL_end 3 (some .int) [(0, 5, 8, 13)] :: uG) { frames := 7, cells := 1, slots := 6, locals := 111 } (gPc (dC, dI) (tF kc) (wF x q9 ad kc sv sa va) (zF ak) [.ref x, .int a1] σ sz) (gQh (dC, dI) x q9 (va_A (wF x q9 ad kc sv sa va σ) sz) r τ) 1 6 (va_A (wF x q9 ad kc sv sa va σ) sz) := by
  refine gh_start (by decide) (Nat.le_of_ble_eq_true rfl) (fun p e s m below meth c ls S hr hk htab X hl => ?_)
  have hx := S.1
  have hb := S.2.1
  have hown : s.vm.findClass RL = some m.cls := S.2.2.2.1
  have hu := S.2.2.2.2
  have hl : lv_has ls 3 [(0, .ref x), (1, .int a1)] := hl
  generalize hAe : va_A (wF x q9 ad kc sv sa va σ) sz = A at X ⊢
  unfold h_L_end at hg
  refine lv_aload_n hx hb dL_end_0 rfl (lv_at hl 0 rfl) ?_
  refine lv_iload_n hx hb dL_end_1 rfl (lv_at hl 1 rfl) ?_
  obtain ⟨cv, τ9, hq9, hg⟩ := bd_some hg
  refine gxc_Vv (As := [.int a1]) (rest := []) (q0 := 0) (ci := 14) (m1 := 1) (m2 := 6) S X (k2_X11_end l hlt dC dI x q9 ad kc sv sa va hq9 s.heap.size) cw_X11_end mG_874 rfl rfl rfl rfl rfl hl.1 (Nat.le_of_ble_eq_true rfl) dL_end_2 ⟨Nat.le_of_ble_eq_true rfl, Nat.le_of_ble_eq_true rfl⟩ ⟨Nat.le_refl _, Nat.le_of_ble_eq_true rfl⟩ (fun E ce qx H locs hE X hce hcv hcl => ?_) (fun ad kc sv sa va H locs hc0 X => ?_)
  · rcases hE with ⟨rfl, h1⟩ | ⟨rfl, h1⟩ | ⟨rfl, h1⟩ | ⟨rfl, h1⟩
    · have hg := (if_neg (show ¬ cv.1 = 0 by rw [h1]; decide)).symm.trans hg
      have hg := (if_pos h1).symm.trans hg
      refine vx_catch (own := RL) (name := "java/lang/IllegalArgumentException") hown [] ⟨0, 5, 8, 13⟩ [] (htab.trans rfl) (fun z hz => nomatch hz) (by decide) (by decide) (hu _ mG_783) (va_Nw.use rfl (X.2.2.2.2.2.1.2.1 _ uc_IAE)) hce hcv hcl ?_
      refine W.eq (g2 := F0 m 8 ls [.ref qx]) rfl ?_
      refine lv_astore_n (lv' := [(2, .ref qx), (0, .ref x), (1, .int a1)]) hx hb dL_end_8 rfl hl (by decide) rfl (fun ls hl => ?_)
      refine lv_iconst (v := 1) hx hb dL_end_9 (by decide) ?_
      obtain ⟨rfl, rfl⟩ := fin_some hg
      exact grh_i S hr hk X (Nat.le_of_eq (Nat.zero_add _)) (Nat.le_of_eq (Nat.zero_add _)) dL_end_10
    · have hg := (if_neg (show ¬ cv.1 = 0 by rw [h1]; decide)).symm.trans hg
      have hg := (if_neg (show ¬ cv.1 = 1 by rw [h1]; decide)).symm.trans hg
      cases hg
    · have hg := (if_neg (show ¬ cv.1 = 0 by rw [h1]; decide)).symm.trans hg
      have hg := (if_neg (show ¬ cv.1 = 1 by rw [h1]; decide)).symm.trans hg
      cases hg
    · have hg := (if_neg (show ¬ cv.1 = 0 by rw [h1]; decide)).symm.trans hg
      have hg := (if_neg (show ¬ cv.1 = 1 by rw [h1]; decide)).symm.trans hg
      cases hg
  · have hg := (if_pos hc0).symm.trans hg
    refine lv_goto (tgt := 11) hx hb dL_end_5 (by decide) ?_
    refine lv_iconst (v := 0) hx hb dL_end_11 (by decide) ?_
    obtain ⟨rfl, rfl⟩ := fin_some hg
    exact grh_i S hr hk X (Nat.le_of_eq (Nat.zero_add _)) (Nat.le_of_eq (Nat.zero_add _)) dL_end_12
set_option maxHeartbeats 4000000 in
set_option maxRecDepth 100000 in
theorem k2_L_program (l : Launch) (hlt : l.stackTraces = false) (dC : Nat → ClassId) (dI : Nat → Nat → Nat) {ak : Nat → Nat} (x q9 : Nat) (ad : Nat → Nat) (kc : Nat → ClassId) (sv : Value) (sa va : Nat) {σ τ : S5}  {r : Int32} (hg : h_L_program  σ = some (r, τ)) (sz : Nat) : Met l yL_program (Cond.codeWith yL_program cL_program 3 (some .int) [(0, 8, 11, 15)] :: uG) { frames := 843, cells := 1, slots := 6, locals := 19056 } (gPc (dC, dI) (tF kc) (wF x q9 ad kc sv sa va) (zF ak) [.ref x, .ref q9] σ sz) (gQh (dC, dI) x q9 (va_A (wF x q9 ad kc sv sa va σ) sz) r τ) 1 6 (va_A (wF x q9 ad kc sv sa va σ) sz) := by
  refine gh_start (by decide) (Nat.le_of_ble_eq_true rfl) (fun p e s m below meth c ls S hr hk htab X hl => ?_)
  have hx := S.1
  have hb := S.2.1
  have hown : s.vm.findClass RL = some m.cls := S.2.2.2.1
  have hu := S.2.2.2.2
  have hl : lv_has ls 3 [(0, .ref x), (1, .ref q9)] := hl
  generalize hAe : va_A (wF x q9 ad kc sv sa va σ) sz = A at X ⊢
  unfold h_L_program at hg
  refine lv_aload_n hx hb dL_program_0 rfl (lv_at hl 1 rfl) ?_
  refine lv_iconst (v := 0) hx hb dL_program_1 (by decide) ?_
  refine lv_aload_n hx hb dL_program_2 rfl (lv_at hl 0 rfl) ?_
  obtain ⟨cv, τ9, hq9, hg⟩ := bd_some hg
  refine gxc_Vi (As := []) (rest := [.int 0, .ref q9]) (q0 := 0) (ci := 14) (m1 := 1) (m2 := 6) S X (k2_X11_program l hlt dC dI x q9 ad kc sv sa va hq9 s.heap.size) cw_X11_program mG_881 rfl rfl rfl rfl rfl hl.1 (Nat.le_of_ble_eq_true rfl) dL_program_3 ⟨Nat.le_of_ble_eq_true rfl, Nat.le_of_ble_eq_true rfl⟩ ⟨Nat.le_refl _, Nat.le_of_ble_eq_true rfl⟩ (fun E ce qx H locs hE X hce hcv hcl => ?_) (fun ad kc sv sa va H locs hc0 X => ?_)
  · rcases hE with ⟨rfl, h1⟩ | ⟨rfl, h1⟩ | ⟨rfl, h1⟩ | ⟨rfl, h1⟩
    · have hg := (if_neg (show ¬ cv.1 = 0 by rw [h1]; decide)).symm.trans hg
      have hg := (if_neg (show ¬ cv.1 = 2 by rw [h1]; decide)).symm.trans hg
      cases hg
    · have hg := (if_neg (show ¬ cv.1 = 0 by rw [h1]; decide)).symm.trans hg
      have hg := (if_pos h1).symm.trans hg
      refine vx_catch (own := RL) (name := "java/lang/UnsupportedOperationException") hown [] ⟨0, 8, 11, 15⟩ [] (htab.trans rfl) (fun z hz => nomatch hz) (by decide) (by decide) (hu _ mG_784) (va_Nw.use rfl (X.2.2.2.2.2.1.2.1 _ uc_UOE)) hce hcv hcl ?_
      refine W.eq (g2 := F0 m 11 ls [.ref qx]) rfl ?_
      refine lv_astore_n (lv' := [(2, .ref qx), (0, .ref x), (1, .ref q9)]) hx hb dL_program_11 rfl hl (by decide) rfl (fun ls hl => ?_)
      refine lv_iconst (v := 1) hx hb dL_program_12 (by decide) ?_
      obtain ⟨rfl, rfl⟩ := fin_some hg
      exact grh_i S hr hk X (Nat.le_of_eq (Nat.zero_add _)) (Nat.le_of_eq (Nat.zero_add _)) dL_program_13
    · have hg := (if_neg (show ¬ cv.1 = 0 by rw [h1]; decide)).symm.trans hg
      have hg := (if_neg (show ¬ cv.1 = 2 by rw [h1]; decide)).symm.trans hg
      cases hg
    · have hg := (if_neg (show ¬ cv.1 = 0 by rw [h1]; decide)).symm.trans hg
      have hg := (if_neg (show ¬ cv.1 = 2 by rw [h1]; decide)).symm.trans hg
      cases hg
  · have hg := (if_pos hc0).symm.trans hg
    refine lv_i2l (v := ((cv.2).toInt64)) hx hb dL_program_6 rfl ?_
    refine wfsB_30 S X (vp_in_iff.mpr (by decide)) dL_program_7 (fun H locs X => ?_)
    refine lv_goto (tgt := 14) hx hb dL_program_8 (by decide) ?_
    refine lv_iconst (v := 0) hx hb dL_program_14 (by decide) ?_
    obtain ⟨rfl, rfl⟩ := fin_some hg
    exact grh_i S hr hk X (Nat.le_of_eq (Nat.zero_add _)) (Nat.le_of_eq (Nat.zero_add _)) dL_program_15
set_option maxHeartbeats 4000000 in
set_option maxRecDepth 100000 in
theorem k2_L_fault (l : Launch) (hlt : l.stackTraces = false) (dC : Nat → ClassId) (dI : Nat → Nat → Nat) {ak : Nat → Nat} (x q9 : Nat) (ad : Nat → Nat) (kc : Nat → ClassId) (sv : Value) (sa va : Nat) {σ τ : S5} {a1 : Int32} {r : Int32} (hg : h_L_fault a1 σ = some (r, τ)) (sz : Nat) : Met l yL_fault (Cond.codeWith yL_fault cL_fault 4 (some .int) [(0, 9, 12, 13)] :: uG) { frames := 7, cells := 1, slots := 6, locals := 111 } (gPc (dC, dI) (tF kc) (wF x q9 ad kc sv sa va) (zF ak) [.ref x, .int a1, .ref q9] σ sz) (gQh (dC, dI) x q9 (va_A (wF x q9 ad kc sv sa va σ) sz) r τ) 1 6 (va_A (wF x q9 ad kc sv sa va σ) sz) := by
  refine gh_start (by decide) (Nat.le_of_ble_eq_true rfl) (fun p e s m below meth c ls S hr hk htab X hl => ?_)
  have hx := S.1
  have hb := S.2.1
  have hown : s.vm.findClass RL = some m.cls := S.2.2.2.1
  have hu := S.2.2.2.2
  have hl : lv_has ls 4 [(0, .ref x), (1, .int a1), (2, .ref q9)] := hl
  generalize hAe : va_A (wF x q9 ad kc sv sa va σ) sz = A at X ⊢
  unfold h_L_fault at hg
  refine lv_aload_n hx hb dL_fault_0 rfl (lv_at hl 2 rfl) ?_
  refine lv_iconst (v := 0) hx hb dL_fault_1 (by decide) ?_
  refine lv_aload_n hx hb dL_fault_2 rfl (lv_at hl 0 rfl) ?_
  refine lv_iload_n hx hb dL_fault_3 rfl (lv_at hl 1 rfl) ?_
  obtain ⟨cv, τ9, hq9, hg⟩ := bd_some hg
  refine gxc_Vi (As := [.int a1]) (rest := [.int 0, .ref q9]) (q0 := 0) (ci := 14) (m1 := 1) (m2 := 6) S X (k2_X11_fault l hlt dC dI x q9 ad kc sv sa va hq9 s.heap.size) cw_X11_fault mG_1615 rfl rfl rfl rfl rfl hl.1 (Nat.le_of_ble_eq_true rfl) dL_fault_4 ⟨Nat.le_of_ble_eq_true rfl, Nat.le_of_ble_eq_true rfl⟩ ⟨Nat.le_refl _, Nat.le_of_ble_eq_true rfl⟩ (fun E ce qx H locs hE X hce hcv hcl => ?_) (fun ad kc sv sa va H locs hc0 X => ?_)
  · rcases hE with ⟨rfl, h1⟩ | ⟨rfl, h1⟩ | ⟨rfl, h1⟩ | ⟨rfl, h1⟩
    · have hg := (if_neg (show ¬ cv.1 = 0 by rw [h1]; decide)).symm.trans hg
      have hg := (if_pos h1).symm.trans hg
      refine vx_catch (own := RL) (name := "java/lang/IllegalArgumentException") hown [] ⟨0, 9, 12, 13⟩ [] (htab.trans rfl) (fun z hz => nomatch hz) (by decide) (by decide) (hu _ mG_783) (va_Nw.use rfl (X.2.2.2.2.2.1.2.1 _ uc_IAE)) hce hcv hcl ?_
      refine W.eq (g2 := F0 m 12 ls [.ref qx]) rfl ?_
      refine lv_astore_n (lv' := [(3, .ref qx), (0, .ref x), (1, .int a1), (2, .ref q9)]) hx hb dL_fault_12 rfl hl (by decide) rfl (fun ls hl => ?_)
      refine lv_iconst (v := 1) hx hb dL_fault_13 (by decide) ?_
      obtain ⟨rfl, rfl⟩ := fin_some hg
      exact grh_i S hr hk X (Nat.le_of_eq (Nat.zero_add _)) (Nat.le_of_eq (Nat.zero_add _)) dL_fault_14
    · have hg := (if_neg (show ¬ cv.1 = 0 by rw [h1]; decide)).symm.trans hg
      have hg := (if_neg (show ¬ cv.1 = 1 by rw [h1]; decide)).symm.trans hg
      cases hg
    · have hg := (if_neg (show ¬ cv.1 = 0 by rw [h1]; decide)).symm.trans hg
      have hg := (if_neg (show ¬ cv.1 = 1 by rw [h1]; decide)).symm.trans hg
      cases hg
    · have hg := (if_neg (show ¬ cv.1 = 0 by rw [h1]; decide)).symm.trans hg
      have hg := (if_neg (show ¬ cv.1 = 1 by rw [h1]; decide)).symm.trans hg
      cases hg
  · have hg := (if_pos hc0).symm.trans hg
    refine lv_i2l (v := ((cv.2).toInt64)) hx hb dL_fault_7 rfl ?_
    refine wfsB_30 S X (vp_in_iff.mpr (by decide)) dL_fault_8 (fun H locs X => ?_)
    refine lv_goto (tgt := 15) hx hb dL_fault_9 (by decide) ?_
    refine lv_iconst (v := 0) hx hb dL_fault_15 (by decide) ?_
    obtain ⟨rfl, rfl⟩ := fin_some hg
    exact grh_i S hr hk X (Nat.le_of_eq (Nat.zero_add _)) (Nat.le_of_eq (Nat.zero_add _)) dL_fault_16
set_option maxHeartbeats 4000000 in
set_option maxRecDepth 100000 in
theorem k2_L_write (l : Launch) (hlt : l.stackTraces = false) (dC : Nat → ClassId) (dI : Nat → Nat → Nat) {ak : Nat → Nat} (x q9 : Nat) (ad : Nat → Nat) (kc : Nat → ClassId) (sv : Value) (sa va : Nat) {σ τ : S5}  {r : Int32} (hg : h_L_write  σ = some (r, τ)) (sz : Nat) : Met l yL_write (Cond.codeWith yL_write cL_write 3 (some .int) [(0, 8, 11, 31)] :: uG) { frames := 456, cells := 1, slots := 6, locals := 9900 } (gPc (dC, dI) (tF kc) (wF x q9 ad kc sv sa va) (zF ak) [.ref x, .ref q9] σ sz) (gQh (dC, dI) x q9 (va_A (wF x q9 ad kc sv sa va σ) sz) r τ) 1 6 (va_A (wF x q9 ad kc sv sa va σ) sz) := by
  refine gh_start (by decide) (Nat.le_of_ble_eq_true rfl) (fun p e s m below meth c ls S hr hk htab X hl => ?_)
  have hx := S.1
  have hb := S.2.1
  have hown : s.vm.findClass RL = some m.cls := S.2.2.2.1
  have hu := S.2.2.2.2
  have hl : lv_has ls 3 [(0, .ref x), (1, .ref q9)] := hl
  generalize hAe : va_A (wF x q9 ad kc sv sa va σ) sz = A at X ⊢
  unfold h_L_write at hg
  refine lv_aload_n hx hb dL_write_0 rfl (lv_at hl 1 rfl) ?_
  refine lv_iconst (v := 0) hx hb dL_write_1 (by decide) ?_
  refine lv_aload_n hx hb dL_write_2 rfl (lv_at hl 0 rfl) ?_
  obtain ⟨cv, τ9, hq9, hg⟩ := bd_some hg
  refine gxc_Vi (As := []) (rest := [.int 0, .ref q9]) (q0 := 0) (ci := 14) (m1 := 1) (m2 := 6) S X (k2_X11_write l hlt dC dI x q9 ad kc sv sa va hq9 s.heap.size) cw_X11_write mG_1623 rfl rfl rfl rfl rfl hl.1 (Nat.le_of_ble_eq_true rfl) dL_write_3 ⟨Nat.le_of_ble_eq_true rfl, Nat.le_of_ble_eq_true rfl⟩ ⟨Nat.le_refl _, Nat.le_of_ble_eq_true rfl⟩ (fun E ce qx H locs hE X hce hcv hcl => ?_) (fun ad kc sv sa va H locs hc0 X => ?_)
  · rcases hE with ⟨rfl, h1⟩ | ⟨rfl, h1⟩ | ⟨rfl, h1⟩ | ⟨rfl, h1⟩
    · have hg := (if_neg (show ¬ cv.1 = 0 by rw [h1]; decide)).symm.trans hg
      have hg := (if_neg (show ¬ cv.1 = 3 by rw [h1]; decide)).symm.trans hg
      cases hg
    · have hg := (if_neg (show ¬ cv.1 = 0 by rw [h1]; decide)).symm.trans hg
      have hg := (if_neg (show ¬ cv.1 = 3 by rw [h1]; decide)).symm.trans hg
      cases hg
    · have hg := (if_neg (show ¬ cv.1 = 0 by rw [h1]; decide)).symm.trans hg
      have hg := (if_pos h1).symm.trans hg
      refine vx_catch (own := RL) (name := "java/lang/IllegalStateException") hown [] ⟨0, 8, 11, 31⟩ [] (htab.trans rfl) (fun z hz => nomatch hz) (by decide) (by decide) (hu _ mG_1622) (va_Nw.use rfl (X.2.2.2.2.2.1.2.1 _ uc_ISE)) hce hcv hcl ?_
      refine W.eq (g2 := F0 m 11 ls [.ref qx]) rfl ?_
      refine lv_astore_n (lv' := [(2, .ref qx), (0, .ref x), (1, .ref q9)]) hx hb dL_write_11 rfl hl (by decide) rfl (fun ls hl => ?_)
      refine lv_iconst (v := 1) hx hb dL_write_12 (by decide) ?_
      obtain ⟨rfl, rfl⟩ := fin_some hg
      exact grh_i S hr hk X (Nat.le_of_eq (Nat.zero_add _)) (Nat.le_of_eq (Nat.zero_add _)) dL_write_13
    · have hg := (if_neg (show ¬ cv.1 = 0 by rw [h1]; decide)).symm.trans hg
      have hg := (if_neg (show ¬ cv.1 = 3 by rw [h1]; decide)).symm.trans hg
      cases hg
  · have hg := (if_pos hc0).symm.trans hg
    refine lv_i2l (v := ((cv.2).toInt64)) hx hb dL_write_6 rfl ?_
    refine wfsB_30 S X (vp_in_iff.mpr (by decide)) dL_write_7 (fun H locs X => ?_)
    refine lv_goto (tgt := 14) hx hb dL_write_8 (by decide) ?_
    refine lv_iconst (v := 0) hx hb dL_write_14 (by decide) ?_
    obtain ⟨rfl, rfl⟩ := fin_some hg
    exact grh_i S hr hk X (Nat.le_of_eq (Nat.zero_add _)) (Nat.le_of_eq (Nat.zero_add _)) dL_write_15
set_option maxHeartbeats 4000000 in
set_option maxRecDepth 100000 in
theorem k2_L_letter (l : Launch) (hlt : l.stackTraces = false) (dC : Nat → ClassId) (dI : Nat → Nat → Nat) {ak : Nat → Nat} (x q9 : Nat) (ad : Nat → Nat) (kc : Nat → ClassId) (sv : Value) (sa va : Nat) {σ τ : S5} {a1 : Int32} {r : Int32} (hg : h_L_letter a1 σ = some (r, τ)) (sz : Nat) : Met l yL_letter (Cond.codeWith yL_letter cL_letter 4 (some .int) [(0, 9, 12, 36)] :: uG) { frames := 7, cells := 1, slots := 6, locals := 111 } (gPc (dC, dI) (tF kc) (wF x q9 ad kc sv sa va) (zF ak) [.ref x, .int a1, .ref q9] σ sz) (gQh (dC, dI) x q9 (va_A (wF x q9 ad kc sv sa va σ) sz) r τ) 1 6 (va_A (wF x q9 ad kc sv sa va σ) sz) := by
  refine gh_start (by decide) (Nat.le_of_ble_eq_true rfl) (fun p e s m below meth c ls S hr hk htab X hl => ?_)
  have hx := S.1
  have hb := S.2.1
  have hown : s.vm.findClass RL = some m.cls := S.2.2.2.1
  have hu := S.2.2.2.2
  have hl : lv_has ls 4 [(0, .ref x), (1, .int a1), (2, .ref q9)] := hl
  generalize hAe : va_A (wF x q9 ad kc sv sa va σ) sz = A at X ⊢
  unfold h_L_letter at hg
  refine lv_aload_n hx hb dL_letter_0 rfl (lv_at hl 2 rfl) ?_
  refine lv_iconst (v := 0) hx hb dL_letter_1 (by decide) ?_
  refine lv_aload_n hx hb dL_letter_2 rfl (lv_at hl 0 rfl) ?_
  refine lv_iload_n hx hb dL_letter_3 rfl (lv_at hl 1 rfl) ?_
  obtain ⟨cv, τ9, hq9, hg⟩ := bd_some hg
  refine gxc_Vi (As := [.int a1]) (rest := [.int 0, .ref q9]) (q0 := 0) (ci := 14) (m1 := 1) (m2 := 6) S X (k2_X11_letter l hlt dC dI x q9 ad kc sv sa va hq9 s.heap.size) cw_X11_letter mG_1739 rfl rfl rfl rfl rfl hl.1 (Nat.le_of_ble_eq_true rfl) dL_letter_4 ⟨Nat.le_of_ble_eq_true rfl, Nat.le_of_ble_eq_true rfl⟩ ⟨Nat.le_refl _, Nat.le_of_ble_eq_true rfl⟩ (fun E ce qx H locs hE X hce hcv hcl => ?_) (fun ad kc sv sa va H locs hc0 X => ?_)
  · rcases hE with ⟨rfl, h1⟩ | ⟨rfl, h1⟩ | ⟨rfl, h1⟩ | ⟨rfl, h1⟩
    · have hg := (if_neg (show ¬ cv.1 = 0 by rw [h1]; decide)).symm.trans hg
      have hg := (if_neg (show ¬ cv.1 = 4 by rw [h1]; decide)).symm.trans hg
      cases hg
    · have hg := (if_neg (show ¬ cv.1 = 0 by rw [h1]; decide)).symm.trans hg
      have hg := (if_neg (show ¬ cv.1 = 4 by rw [h1]; decide)).symm.trans hg
      cases hg
    · have hg := (if_neg (show ¬ cv.1 = 0 by rw [h1]; decide)).symm.trans hg
      have hg := (if_neg (show ¬ cv.1 = 4 by rw [h1]; decide)).symm.trans hg
      cases hg
    · have hg := (if_neg (show ¬ cv.1 = 0 by rw [h1]; decide)).symm.trans hg
      have hg := (if_pos h1).symm.trans hg
      refine vx_catch (own := RL) (name := "java/lang/IndexOutOfBoundsException") hown [] ⟨0, 9, 12, 36⟩ [] (htab.trans rfl) (fun z hz => nomatch hz) (by decide) (by decide) (hu _ mG_1738) (va_Nw.use rfl (X.2.2.2.2.2.1.2.1 _ uc_IOB)) hce hcv hcl ?_
      refine W.eq (g2 := F0 m 12 ls [.ref qx]) rfl ?_
      refine lv_astore_n (lv' := [(3, .ref qx), (0, .ref x), (1, .int a1), (2, .ref q9)]) hx hb dL_letter_12 rfl hl (by decide) rfl (fun ls hl => ?_)
      refine lv_iconst (v := 1) hx hb dL_letter_13 (by decide) ?_
      obtain ⟨rfl, rfl⟩ := fin_some hg
      exact grh_i S hr hk X (Nat.le_of_eq (Nat.zero_add _)) (Nat.le_of_eq (Nat.zero_add _)) dL_letter_14
  · have hg := (if_pos hc0).symm.trans hg
    refine lv_i2l (v := ((cv.2).toInt64)) hx hb dL_letter_7 rfl ?_
    refine wfsB_30 S X (vp_in_iff.mpr (by decide)) dL_letter_8 (fun H locs X => ?_)
    refine lv_goto (tgt := 15) hx hb dL_letter_9 (by decide) ?_
    refine lv_iconst (v := 0) hx hb dL_letter_15 (by decide) ?_
    obtain ⟨rfl, rfl⟩ := fin_some hg
    exact grh_i S hr hk X (Nat.le_of_eq (Nat.zero_add _)) (Nat.le_of_eq (Nat.zero_add _)) dL_letter_16
set_option maxHeartbeats 4000000 in
set_option maxRecDepth 100000 in
theorem k2_L_function (l : Launch) (hlt : l.stackTraces = false) (dC : Nat → ClassId) (dI : Nat → Nat → Nat) {ak : Nat → Nat} (x q9 : Nat) (ad : Nat → Nat) (kc : Nat → ClassId) (sv : Value) (sa va : Nat) {σ τ : S5} {a1 : Int32} {a2 : Int32} {r : Int32} (hg : h_L_function a1 a2 σ = some (r, τ)) (sz : Nat) : Met l yL_function (Cond.codeWith yL_function cL_function 5 (some .int) [(0, 10, 13, 31), (0, 10, 17, 36), (0, 10, 21, 13)] :: uG) { frames := 7, cells := 1, slots := 6, locals := 112 } (gPc (dC, dI) (tF kc) (wF x q9 ad kc sv sa va) (zF ak) [.ref x, .int a1, .int a2, .ref q9] σ sz) (gQh (dC, dI) x q9 (va_A (wF x q9 ad kc sv sa va σ) sz) r τ) 1 6 (va_A (wF x q9 ad kc sv sa va σ) sz) := by
  refine gh_start (by decide) (Nat.le_of_ble_eq_true rfl) (fun p e s m below meth c ls S hr hk htab X hl => ?_)
  have hx := S.1
  have hb := S.2.1
  have hown : s.vm.findClass RL = some m.cls := S.2.2.2.1
  have hu := S.2.2.2.2
  have hl : lv_has ls 5 [(0, .ref x), (1, .int a1), (2, .int a2), (3, .ref q9)] := hl
  generalize hAe : va_A (wF x q9 ad kc sv sa va σ) sz = A at X ⊢
  unfold h_L_function at hg
  refine lv_aload_n hx hb dL_function_0 rfl (lv_at hl 3 rfl) ?_
  refine lv_iconst (v := 0) hx hb dL_function_1 (by decide) ?_
  refine lv_aload_n hx hb dL_function_2 rfl (lv_at hl 0 rfl) ?_
  refine lv_iload_n hx hb dL_function_3 rfl (lv_at hl 1 rfl) ?_
  refine lv_iload_n hx hb dL_function_4 rfl (lv_at hl 2 rfl) ?_
  obtain ⟨cv, τ9, hq9, hg⟩ := bd_some hg
  refine gxc_Vi (As := [.int a1, .int a2]) (rest := [.int 0, .ref q9]) (q0 := 0) (ci := 14) (m1 := 1) (m2 := 6) S X (k2_X11_function l hlt dC dI x q9 ad kc sv sa va hq9 s.heap.size) cw_X11_function mG_1762 rfl rfl rfl rfl rfl hl.1 (Nat.le_of_ble_eq_true rfl) dL_function_5 ⟨Nat.le_of_ble_eq_true rfl, Nat.le_of_ble_eq_true rfl⟩ ⟨Nat.le_refl _, Nat.le_of_ble_eq_true rfl⟩ (fun E ce qx H locs hE X hce hcv hcl => ?_) (fun ad kc sv sa va H locs hc0 X => ?_)
  · rcases hE with ⟨rfl, h1⟩ | ⟨rfl, h1⟩ | ⟨rfl, h1⟩ | ⟨rfl, h1⟩
    · have hg := (if_neg (show ¬ cv.1 = 0 by rw [h1]; decide)).symm.trans hg
      have hg := (if_neg (show ¬ cv.1 = 3 by rw [h1]; decide)).symm.trans hg
      have hg := (if_neg (show ¬ cv.1 = 4 by rw [h1]; decide)).symm.trans hg
      have hg := (if_pos h1).symm.trans hg
      refine vx_catch (own := RL) (name := "java/lang/IllegalArgumentException") hown [⟨0, 10, 13, 31⟩, ⟨0, 10, 17, 36⟩] ⟨0, 10, 21, 13⟩ [] (htab.trans rfl) (fun z hz => by
          rcases List.mem_cons.mp hz with rfl | hz
          · exact Or.inr ⟨by decide, _, hu _ mG_1622, X.2.2.2.2.2.1.2.2.2.2.2.1⟩
          rcases List.mem_cons.mp hz with rfl | hz
          · exact Or.inr ⟨by decide, _, hu _ mG_1738, X.2.2.2.2.2.1.2.2.2.2.2.2.1⟩
          exact absurd hz List.not_mem_nil) (by decide) (by decide) (hu _ mG_783) (va_Nw.use rfl (X.2.2.2.2.2.1.2.1 _ uc_IAE)) hce hcv hcl ?_
      refine W.eq (g2 := F0 m 21 ls [.ref qx]) rfl ?_
      refine lv_astore (lv' := [(4, .ref qx), (0, .ref x), (1, .int a1), (2, .int a2), (3, .ref q9)]) hx hb dL_function_21 hl (by decide) rfl (fun ls hl => ?_)
      refine lv_iconst (v := 3) hx hb dL_function_23 (by decide) ?_
      obtain ⟨rfl, rfl⟩ := fin_some hg
      exact grh_i S hr hk X (Nat.le_of_eq (Nat.zero_add _)) (Nat.le_of_eq (Nat.zero_add _)) dL_function_24
    · have hg := (if_neg (show ¬ cv.1 = 0 by rw [h1]; decide)).symm.trans hg
      have hg := (if_neg (show ¬ cv.1 = 3 by rw [h1]; decide)).symm.trans hg
      have hg := (if_neg (show ¬ cv.1 = 4 by rw [h1]; decide)).symm.trans hg
      have hg := (if_neg (show ¬ cv.1 = 1 by rw [h1]; decide)).symm.trans hg
      cases hg
    · have hg := (if_neg (show ¬ cv.1 = 0 by rw [h1]; decide)).symm.trans hg
      have hg := (if_pos h1).symm.trans hg
      refine vx_catch (own := RL) (name := "java/lang/IllegalStateException") hown [] ⟨0, 10, 13, 31⟩ [⟨0, 10, 17, 36⟩, ⟨0, 10, 21, 13⟩] (htab.trans rfl) (fun z hz => nomatch hz) (by decide) (by decide) (hu _ mG_1622) (va_Nw.use rfl (X.2.2.2.2.2.1.2.1 _ uc_ISE)) hce hcv hcl ?_
      refine W.eq (g2 := F0 m 13 ls [.ref qx]) rfl ?_
      refine lv_astore (lv' := [(4, .ref qx), (0, .ref x), (1, .int a1), (2, .int a2), (3, .ref q9)]) hx hb dL_function_13 hl (by decide) rfl (fun ls hl => ?_)
      refine lv_iconst (v := 1) hx hb dL_function_15 (by decide) ?_
      obtain ⟨rfl, rfl⟩ := fin_some hg
      exact grh_i S hr hk X (Nat.le_of_eq (Nat.zero_add _)) (Nat.le_of_eq (Nat.zero_add _)) dL_function_16
    · have hg := (if_neg (show ¬ cv.1 = 0 by rw [h1]; decide)).symm.trans hg
      have hg := (if_neg (show ¬ cv.1 = 3 by rw [h1]; decide)).symm.trans hg
      have hg := (if_pos h1).symm.trans hg
      refine vx_catch (own := RL) (name := "java/lang/IndexOutOfBoundsException") hown [⟨0, 10, 13, 31⟩] ⟨0, 10, 17, 36⟩ [⟨0, 10, 21, 13⟩] (htab.trans rfl) (fun z hz => by
          rcases List.mem_cons.mp hz with rfl | hz
          · exact Or.inr ⟨by decide, _, hu _ mG_1622, X.2.2.2.2.2.1.2.2.2.2.1⟩
          exact absurd hz List.not_mem_nil) (by decide) (by decide) (hu _ mG_1738) (va_Nw.use rfl (X.2.2.2.2.2.1.2.1 _ uc_IOB)) hce hcv hcl ?_
      refine W.eq (g2 := F0 m 17 ls [.ref qx]) rfl ?_
      refine lv_astore (lv' := [(4, .ref qx), (0, .ref x), (1, .int a1), (2, .int a2), (3, .ref q9)]) hx hb dL_function_17 hl (by decide) rfl (fun ls hl => ?_)
      refine lv_iconst (v := 2) hx hb dL_function_19 (by decide) ?_
      obtain ⟨rfl, rfl⟩ := fin_some hg
      exact grh_i S hr hk X (Nat.le_of_eq (Nat.zero_add _)) (Nat.le_of_eq (Nat.zero_add _)) dL_function_20
  · have hg := (if_pos hc0).symm.trans hg
    refine lv_i2l (v := ((cv.2).toInt64)) hx hb dL_function_8 rfl ?_
    refine wfsB_30 S X (vp_in_iff.mpr (by decide)) dL_function_9 (fun H locs X => ?_)
    refine lv_goto (tgt := 25) hx hb dL_function_10 (by decide) ?_
    refine lv_iconst (v := 0) hx hb dL_function_25 (by decide) ?_
    obtain ⟨rfl, rfl⟩ := fin_some hg
    exact grh_i S hr hk X (Nat.le_of_eq (Nat.zero_add _)) (Nat.le_of_eq (Nat.zero_add _)) dL_function_26
set_option maxHeartbeats 4000000 in
set_option maxRecDepth 100000 in
theorem k2_L_needs (l : Launch) (hlt : l.stackTraces = false) (dC : Nat → ClassId) (dI : Nat → Nat → Nat) {ak : Nat → Nat} (x q9 : Nat) (ad : Nat → Nat) (kc : Nat → ClassId) (sv : Value) (sa va : Nat) {σ τ : S5} {a1 : Int32} {a2 : Int32} {r : Int32} (hg : h_L_needs a1 a2 σ = some (r, τ)) (sz : Nat) : Met l yL_needs (Cond.codeWith yL_needs cL_needs 5 (some .int) [(0, 17, 20, 31), (0, 17, 24, 36)] :: uG) { frames := 7, cells := 1, slots := 6, locals := 112 } (gPc (dC, dI) (tF kc) (wF x q9 ad kc sv sa va) (zF ak) [.ref x, .int a1, .int a2, .ref q9] σ sz) (gQh (dC, dI) x q9 (va_A (wF x q9 ad kc sv sa va σ) sz) r τ) 1 6 (va_A (wF x q9 ad kc sv sa va σ) sz) := by
  refine gh_start (by decide) (Nat.le_of_ble_eq_true rfl) (fun p e s m below meth c ls S hr hk htab X hl => ?_)
  have hx := S.1
  have hb := S.2.1
  have hown : s.vm.findClass RL = some m.cls := S.2.2.2.1
  have hu := S.2.2.2.2
  have hl : lv_has ls 5 [(0, .ref x), (1, .int a1), (2, .int a2), (3, .ref q9)] := hl
  generalize hAe : va_A (wF x q9 ad kc sv sa va σ) sz = A at X ⊢
  unfold h_L_needs at hg
  refine lv_aload_n hx hb dL_needs_0 rfl (lv_at hl 3 rfl) ?_
  refine lv_iconst (v := 0) hx hb dL_needs_1 (by decide) ?_
  refine lv_aload_n hx hb dL_needs_2 rfl (lv_at hl 0 rfl) ?_
  refine lv_iload_n hx hb dL_needs_3 rfl (lv_at hl 1 rfl) ?_
  refine lv_iload_n hx hb dL_needs_4 rfl (lv_at hl 2 rfl) ?_
  obtain ⟨cv, τ9, hq9, hg⟩ := bd_some hg
  refine gxc_Vi (As := [.int a1, .int a2]) (rest := [.int 0, .ref q9]) (q0 := 0) (ci := 14) (m1 := 1) (m2 := 6) S X (k2_X11_needs l hlt dC dI x q9 ad kc sv sa va hq9 s.heap.size) cw_X11_needs mG_1773 rfl rfl rfl rfl rfl hl.1 (Nat.le_of_ble_eq_true rfl) dL_needs_5 ⟨Nat.le_of_ble_eq_true rfl, Nat.le_of_ble_eq_true rfl⟩ ⟨Nat.le_refl _, Nat.le_of_ble_eq_true rfl⟩ (fun E ce qx H locs hE X hce hcv hcl => ?_) (fun ad kc sv sa va H locs hc0 X => ?_)
  · rcases hE with ⟨rfl, h1⟩ | ⟨rfl, h1⟩ | ⟨rfl, h1⟩ | ⟨rfl, h1⟩
    · have hg := (if_neg (show ¬ cv.1 = 0 by rw [h1]; decide)).symm.trans hg
      have hg := (if_neg (show ¬ cv.1 = 3 by rw [h1]; decide)).symm.trans hg
      have hg := (if_neg (show ¬ cv.1 = 4 by rw [h1]; decide)).symm.trans hg
      cases hg
    · have hg := (if_neg (show ¬ cv.1 = 0 by rw [h1]; decide)).symm.trans hg
      have hg := (if_neg (show ¬ cv.1 = 3 by rw [h1]; decide)).symm.trans hg
      have hg := (if_neg (show ¬ cv.1 = 4 by rw [h1]; decide)).symm.trans hg
      cases hg
    · have hg := (if_neg (show ¬ cv.1 = 0 by rw [h1]; decide)).symm.trans hg
      have hg := (if_pos h1).symm.trans hg
      refine vx_catch (own := RL) (name := "java/lang/IllegalStateException") hown [] ⟨0, 17, 20, 31⟩ [⟨0, 17, 24, 36⟩] (htab.trans rfl) (fun z hz => nomatch hz) (by decide) (by decide) (hu _ mG_1622) (va_Nw.use rfl (X.2.2.2.2.2.1.2.1 _ uc_ISE)) hce hcv hcl ?_
      refine W.eq (g2 := F0 m 20 ls [.ref qx]) rfl ?_
      refine lv_astore (lv' := [(4, .ref qx), (0, .ref x), (1, .int a1), (2, .int a2), (3, .ref q9)]) hx hb dL_needs_20 hl (by decide) rfl (fun ls hl => ?_)
      refine lv_iconst (v := 1) hx hb dL_needs_22 (by decide) ?_
      obtain ⟨rfl, rfl⟩ := fin_some hg
      exact grh_i S hr hk X (Nat.le_of_eq (Nat.zero_add _)) (Nat.le_of_eq (Nat.zero_add _)) dL_needs_23
    · have hg := (if_neg (show ¬ cv.1 = 0 by rw [h1]; decide)).symm.trans hg
      have hg := (if_neg (show ¬ cv.1 = 3 by rw [h1]; decide)).symm.trans hg
      have hg := (if_pos h1).symm.trans hg
      refine vx_catch (own := RL) (name := "java/lang/IndexOutOfBoundsException") hown [⟨0, 17, 20, 31⟩] ⟨0, 17, 24, 36⟩ [] (htab.trans rfl) (fun z hz => by
          rcases List.mem_cons.mp hz with rfl | hz
          · exact Or.inr ⟨by decide, _, hu _ mG_1622, X.2.2.2.2.2.1.2.2.2.2.1⟩
          exact absurd hz List.not_mem_nil) (by decide) (by decide) (hu _ mG_1738) (va_Nw.use rfl (X.2.2.2.2.2.1.2.1 _ uc_IOB)) hce hcv hcl ?_
      refine W.eq (g2 := F0 m 24 ls [.ref qx]) rfl ?_
      refine lv_astore (lv' := [(4, .ref qx), (0, .ref x), (1, .int a1), (2, .int a2), (3, .ref q9)]) hx hb dL_needs_24 hl (by decide) rfl (fun ls hl => ?_)
      refine lv_iconst (v := 2) hx hb dL_needs_26 (by decide) ?_
      obtain ⟨rfl, rfl⟩ := fin_some hg
      exact grh_i S hr hk X (Nat.le_of_eq (Nat.zero_add _)) (Nat.le_of_eq (Nat.zero_add _)) dL_needs_27
  · have hg := (if_pos hc0).symm.trans hg
    refine lv_if_eq (tgt := 15) hx hb dL_needs_8 (by decide) (fun c8 => ?_) (fun c8 => ?_)
    · have hg := (if_pos c8).symm.trans hg
      refine lv_lconst (v := 0) hx hb dL_needs_15 rfl ?_
      refine wfsB_30 S X (vp_in_iff.mpr (by decide)) dL_needs_16 (fun H locs X => ?_)
      refine lv_goto (tgt := 28) hx hb dL_needs_17 (by decide) ?_
      refine lv_iconst (v := 0) hx hb dL_needs_28 (by decide) ?_
      obtain ⟨rfl, rfl⟩ := fin_some hg
      exact grh_i S hr hk X (Nat.le_of_eq (Nat.zero_add _)) (Nat.le_of_eq (Nat.zero_add _)) dL_needs_29
    · have hg := (if_neg c8).symm.trans hg
      refine lv_lconst (v := 1) hx hb dL_needs_11 rfl ?_
      refine lv_goto (tgt := 16) hx hb dL_needs_12 (by decide) ?_
      refine wfsB_30 S X (vp_in_iff.mpr (by decide)) dL_needs_16 (fun H locs X => ?_)
      refine lv_goto (tgt := 28) hx hb dL_needs_17 (by decide) ?_
      refine lv_iconst (v := 0) hx hb dL_needs_28 (by decide) ?_
      obtain ⟨rfl, rfl⟩ := fin_some hg
      exact grh_i S hr hk X (Nat.le_of_eq (Nat.zero_add _)) (Nat.le_of_eq (Nat.zero_add _)) dL_needs_29
set_option maxHeartbeats 4000000 in
set_option maxRecDepth 100000 in
theorem k2_L_bit (l : Launch) (hlt : l.stackTraces = false) (dC : Nat → ClassId) (dI : Nat → Nat → Nat) {ak : Nat → Nat} (x q9 : Nat) (ad : Nat → Nat) (kc : Nat → ClassId) (sv : Value) (sa va : Nat) {σ τ : S5} {a1 : Int32} {a2 : Int32} {r : Int32} (hg : h_L_bit a1 a2 σ = some (r, τ)) (sz : Nat) : Met l yL_bit (Cond.codeWith yL_bit cL_bit 5 (some .int) [(0, 10, 13, 31), (0, 10, 17, 36), (0, 10, 21, 13)] :: uG) { frames := 7, cells := 1, slots := 6, locals := 112 } (gPc (dC, dI) (tF kc) (wF x q9 ad kc sv sa va) (zF ak) [.ref x, .int a1, .int a2, .ref q9] σ sz) (gQh (dC, dI) x q9 (va_A (wF x q9 ad kc sv sa va σ) sz) r τ) 1 6 (va_A (wF x q9 ad kc sv sa va σ) sz) := by
  refine gh_start (by decide) (Nat.le_of_ble_eq_true rfl) (fun p e s m below meth c ls S hr hk htab X hl => ?_)
  have hx := S.1
  have hb := S.2.1
  have hown : s.vm.findClass RL = some m.cls := S.2.2.2.1
  have hu := S.2.2.2.2
  have hl : lv_has ls 5 [(0, .ref x), (1, .int a1), (2, .int a2), (3, .ref q9)] := hl
  generalize hAe : va_A (wF x q9 ad kc sv sa va σ) sz = A at X ⊢
  unfold h_L_bit at hg
  refine lv_aload_n hx hb dL_bit_0 rfl (lv_at hl 3 rfl) ?_
  refine lv_iconst (v := 0) hx hb dL_bit_1 (by decide) ?_
  refine lv_aload_n hx hb dL_bit_2 rfl (lv_at hl 0 rfl) ?_
  refine lv_iload_n hx hb dL_bit_3 rfl (lv_at hl 1 rfl) ?_
  refine lv_iload_n hx hb dL_bit_4 rfl (lv_at hl 2 rfl) ?_
  obtain ⟨cv, τ9, hq9, hg⟩ := bd_some hg
  refine gxc_Vi (As := [.int a1, .int a2]) (rest := [.int 0, .ref q9]) (q0 := 0) (ci := 14) (m1 := 1) (m2 := 6) S X (k2_X11_bit l hlt dC dI x q9 ad kc sv sa va hq9 s.heap.size) cw_X11_bit mG_1784 rfl rfl rfl rfl rfl hl.1 (Nat.le_of_ble_eq_true rfl) dL_bit_5 ⟨Nat.le_of_ble_eq_true rfl, Nat.le_of_ble_eq_true rfl⟩ ⟨Nat.le_refl _, Nat.le_of_ble_eq_true rfl⟩ (fun E ce qx H locs hE X hce hcv hcl => ?_) (fun ad kc sv sa va H locs hc0 X => ?_)
  · rcases hE with ⟨rfl, h1⟩ | ⟨rfl, h1⟩ | ⟨rfl, h1⟩ | ⟨rfl, h1⟩
    · have hg := (if_neg (show ¬ cv.1 = 0 by rw [h1]; decide)).symm.trans hg
      have hg := (if_neg (show ¬ cv.1 = 3 by rw [h1]; decide)).symm.trans hg
      have hg := (if_neg (show ¬ cv.1 = 4 by rw [h1]; decide)).symm.trans hg
      have hg := (if_pos h1).symm.trans hg
      refine vx_catch (own := RL) (name := "java/lang/IllegalArgumentException") hown [⟨0, 10, 13, 31⟩, ⟨0, 10, 17, 36⟩] ⟨0, 10, 21, 13⟩ [] (htab.trans rfl) (fun z hz => by
          rcases List.mem_cons.mp hz with rfl | hz
          · exact Or.inr ⟨by decide, _, hu _ mG_1622, X.2.2.2.2.2.1.2.2.2.2.2.1⟩
          rcases List.mem_cons.mp hz with rfl | hz
          · exact Or.inr ⟨by decide, _, hu _ mG_1738, X.2.2.2.2.2.1.2.2.2.2.2.2.1⟩
          exact absurd hz List.not_mem_nil) (by decide) (by decide) (hu _ mG_783) (va_Nw.use rfl (X.2.2.2.2.2.1.2.1 _ uc_IAE)) hce hcv hcl ?_
      refine W.eq (g2 := F0 m 21 ls [.ref qx]) rfl ?_
      refine lv_astore (lv' := [(4, .ref qx), (0, .ref x), (1, .int a1), (2, .int a2), (3, .ref q9)]) hx hb dL_bit_21 hl (by decide) rfl (fun ls hl => ?_)
      refine lv_iconst (v := 3) hx hb dL_bit_23 (by decide) ?_
      obtain ⟨rfl, rfl⟩ := fin_some hg
      exact grh_i S hr hk X (Nat.le_of_eq (Nat.zero_add _)) (Nat.le_of_eq (Nat.zero_add _)) dL_bit_24
    · have hg := (if_neg (show ¬ cv.1 = 0 by rw [h1]; decide)).symm.trans hg
      have hg := (if_neg (show ¬ cv.1 = 3 by rw [h1]; decide)).symm.trans hg
      have hg := (if_neg (show ¬ cv.1 = 4 by rw [h1]; decide)).symm.trans hg
      have hg := (if_neg (show ¬ cv.1 = 1 by rw [h1]; decide)).symm.trans hg
      cases hg
    · have hg := (if_neg (show ¬ cv.1 = 0 by rw [h1]; decide)).symm.trans hg
      have hg := (if_pos h1).symm.trans hg
      refine vx_catch (own := RL) (name := "java/lang/IllegalStateException") hown [] ⟨0, 10, 13, 31⟩ [⟨0, 10, 17, 36⟩, ⟨0, 10, 21, 13⟩] (htab.trans rfl) (fun z hz => nomatch hz) (by decide) (by decide) (hu _ mG_1622) (va_Nw.use rfl (X.2.2.2.2.2.1.2.1 _ uc_ISE)) hce hcv hcl ?_
      refine W.eq (g2 := F0 m 13 ls [.ref qx]) rfl ?_
      refine lv_astore (lv' := [(4, .ref qx), (0, .ref x), (1, .int a1), (2, .int a2), (3, .ref q9)]) hx hb dL_bit_13 hl (by decide) rfl (fun ls hl => ?_)
      refine lv_iconst (v := 1) hx hb dL_bit_15 (by decide) ?_
      obtain ⟨rfl, rfl⟩ := fin_some hg
      exact grh_i S hr hk X (Nat.le_of_eq (Nat.zero_add _)) (Nat.le_of_eq (Nat.zero_add _)) dL_bit_16
    · have hg := (if_neg (show ¬ cv.1 = 0 by rw [h1]; decide)).symm.trans hg
      have hg := (if_neg (show ¬ cv.1 = 3 by rw [h1]; decide)).symm.trans hg
      have hg := (if_pos h1).symm.trans hg
      refine vx_catch (own := RL) (name := "java/lang/IndexOutOfBoundsException") hown [⟨0, 10, 13, 31⟩] ⟨0, 10, 17, 36⟩ [⟨0, 10, 21, 13⟩] (htab.trans rfl) (fun z hz => by
          rcases List.mem_cons.mp hz with rfl | hz
          · exact Or.inr ⟨by decide, _, hu _ mG_1622, X.2.2.2.2.2.1.2.2.2.2.1⟩
          exact absurd hz List.not_mem_nil) (by decide) (by decide) (hu _ mG_1738) (va_Nw.use rfl (X.2.2.2.2.2.1.2.1 _ uc_IOB)) hce hcv hcl ?_
      refine W.eq (g2 := F0 m 17 ls [.ref qx]) rfl ?_
      refine lv_astore (lv' := [(4, .ref qx), (0, .ref x), (1, .int a1), (2, .int a2), (3, .ref q9)]) hx hb dL_bit_17 hl (by decide) rfl (fun ls hl => ?_)
      refine lv_iconst (v := 2) hx hb dL_bit_19 (by decide) ?_
      obtain ⟨rfl, rfl⟩ := fin_some hg
      exact grh_i S hr hk X (Nat.le_of_eq (Nat.zero_add _)) (Nat.le_of_eq (Nat.zero_add _)) dL_bit_20
  · have hg := (if_pos hc0).symm.trans hg
    refine lv_i2l (v := ((cv.2).toInt64)) hx hb dL_bit_8 rfl ?_
    refine wfsB_30 S X (vp_in_iff.mpr (by decide)) dL_bit_9 (fun H locs X => ?_)
    refine lv_goto (tgt := 25) hx hb dL_bit_10 (by decide) ?_
    refine lv_iconst (v := 0) hx hb dL_bit_25 (by decide) ?_
    obtain ⟨rfl, rfl⟩ := fin_some hg
    exact grh_i S hr hk X (Nat.le_of_eq (Nat.zero_add _)) (Nat.le_of_eq (Nat.zero_add _)) dL_bit_26
set_option maxHeartbeats 4000000 in
set_option maxRecDepth 100000 in
theorem k2_L_run (l : Launch) (hlt : l.stackTraces = false) (dC : Nat → ClassId) (dI : Nat → Nat → Nat) {ak : Nat → Nat} (x q9 : Nat) (ad : Nat → Nat) (kc : Nat → ClassId) (sv : Value) (sa va : Nat) {σ τ : S5} {a1 : Int32} {a2 : Int32} {r : Int32} (hg : h_L_run a1 a2 σ = some (r, τ)) (sz : Nat) : Met l yL_run (Cond.codeWith yL_run cL_run 5 (some .int) [(0, 10, 13, 31), (0, 10, 17, 13), (0, 10, 21, 15)] :: uG) { frames := 199, cells := (1 + (ka τ - ka σ)), slots := (6 + (sl τ - sl σ)), locals := 4837 } (gPc (dC, dI) (tF kc) (wF x q9 ad kc sv sa va) (zF ak) [.ref x, .int a1, .int a2, .ref q9] σ sz) (gQh (dC, dI) x q9 (va_A (wF x q9 ad kc sv sa va σ) sz) r τ) (1 + (ka τ - ka σ)) (6 + (sl τ - sl σ)) (va_A (wF x q9 ad kc sv sa va σ) sz) := by
  refine gh_start (by decide) (Nat.le_of_ble_eq_true rfl) (fun p e s m below meth c ls S hr hk htab X hl => ?_)
  have hx := S.1
  have hb := S.2.1
  have hown : s.vm.findClass RL = some m.cls := S.2.2.2.1
  have hu := S.2.2.2.2
  have hl : lv_has ls 5 [(0, .ref x), (1, .int a1), (2, .int a2), (3, .ref q9)] := hl
  generalize hAe : va_A (wF x q9 ad kc sv sa va σ) sz = A at X ⊢
  unfold h_L_run at hg
  refine lv_aload_n hx hb dL_run_0 rfl (lv_at hl 3 rfl) ?_
  refine lv_iconst (v := 0) hx hb dL_run_1 (by decide) ?_
  refine lv_aload_n hx hb dL_run_2 rfl (lv_at hl 0 rfl) ?_
  refine lv_iload_n hx hb dL_run_3 rfl (lv_at hl 1 rfl) ?_
  refine lv_iload_n hx hb dL_run_4 rfl (lv_at hl 2 rfl) ?_
  obtain ⟨cv, τ9, hq9, hg⟩ := bd_some hg
  have hk9 : ka τ = ka τ9 ∧ sl τ = sl τ9 := by
    by_cases h0 : cv.1 = 0
    · have h := (if_pos h0).symm.trans hg
      obtain ⟨rfl, rfl⟩ := fin_some h
      exact ⟨rfl, rfl⟩
    have h := (if_neg h0).symm.trans hg
    by_cases h3 : cv.1 = 3
    · have h := (if_pos h3).symm.trans h
      obtain ⟨rfl, rfl⟩ := fin_some h
      exact ⟨rfl, rfl⟩
    have h := (if_neg h3).symm.trans h
    by_cases h1 : cv.1 = 1
    · have h := (if_pos h1).symm.trans h
      obtain ⟨rfl, rfl⟩ := fin_some h
      exact ⟨rfl, rfl⟩
    have h := (if_neg h1).symm.trans h
    by_cases h2 : cv.1 = 2
    · have h := (if_pos h2).symm.trans h
      obtain ⟨rfl, rfl⟩ := fin_some h
      exact ⟨rfl, rfl⟩
    have h := (if_neg h2).symm.trans h
    cases h
  refine gxc_Vi (As := [.int a1, .int a2]) (rest := [.int 0, .ref q9]) (q0 := 0) (ci := 14) (m1 := (1 + (ka τ9 - ka σ))) (m2 := (6 + (sl τ9 - sl σ))) S X (k2_X11_run l hlt dC dI x q9 ad kc sv sa va hq9 s.heap.size) cw_X11_run mG_1792 rfl rfl rfl rfl rfl hl.1 (Nat.le_of_ble_eq_true rfl) dL_run_5 ⟨by show 0 + (1 + (ka τ9 - ka σ)) ≤ 1 + (ka τ - ka σ); omega, by show 0 + (6 + (sl τ9 - sl σ)) ≤ 6 + (sl τ - sl σ); omega⟩ ⟨Nat.le_refl _, Nat.le_of_ble_eq_true rfl⟩ (fun E ce qx H locs hE X hce hcv hcl => ?_) (fun ad kc sv sa va H locs hc0 X => ?_)
  · rcases hE with ⟨rfl, h1⟩ | ⟨rfl, h1⟩ | ⟨rfl, h1⟩ | ⟨rfl, h1⟩
    · have hg := (if_neg (show ¬ cv.1 = 0 by rw [h1]; decide)).symm.trans hg
      have hg := (if_neg (show ¬ cv.1 = 3 by rw [h1]; decide)).symm.trans hg
      have hg := (if_pos h1).symm.trans hg
      refine vx_catch (own := RL) (name := "java/lang/IllegalArgumentException") hown [⟨0, 10, 13, 31⟩] ⟨0, 10, 17, 13⟩ [⟨0, 10, 21, 15⟩] (htab.trans rfl) (fun z hz => by
          rcases List.mem_cons.mp hz with rfl | hz
          · exact Or.inr ⟨by decide, _, hu _ mG_1622, X.2.2.2.2.2.1.2.2.2.2.2.1⟩
          exact absurd hz List.not_mem_nil) (by decide) (by decide) (hu _ mG_783) (va_Nw.use rfl (X.2.2.2.2.2.1.2.1 _ uc_IAE)) hce hcv hcl ?_
      refine W.eq (g2 := F0 m 17 ls [.ref qx]) rfl ?_
      refine lv_astore (lv' := [(4, .ref qx), (0, .ref x), (1, .int a1), (2, .int a2), (3, .ref q9)]) hx hb dL_run_17 hl (by decide) rfl (fun ls hl => ?_)
      refine lv_iconst (v := 2) hx hb dL_run_19 (by decide) ?_
      obtain ⟨rfl, rfl⟩ := fin_some hg
      exact grh_i S hr hk X (Nat.le_of_eq (Nat.zero_add _)) (Nat.le_of_eq (Nat.zero_add _)) dL_run_20
    · have hg := (if_neg (show ¬ cv.1 = 0 by rw [h1]; decide)).symm.trans hg
      have hg := (if_neg (show ¬ cv.1 = 3 by rw [h1]; decide)).symm.trans hg
      have hg := (if_neg (show ¬ cv.1 = 1 by rw [h1]; decide)).symm.trans hg
      have hg := (if_pos h1).symm.trans hg
      refine vx_catch (own := RL) (name := "java/lang/UnsupportedOperationException") hown [⟨0, 10, 13, 31⟩, ⟨0, 10, 17, 13⟩] ⟨0, 10, 21, 15⟩ [] (htab.trans rfl) (fun z hz => by
          rcases List.mem_cons.mp hz with rfl | hz
          · exact Or.inr ⟨by decide, _, hu _ mG_1622, X.2.2.2.2.2.1.2.2.2.2.2.2.2⟩
          rcases List.mem_cons.mp hz with rfl | hz
          · exact Or.inr ⟨by decide, _, hu _ mG_783, X.2.2.2.2.2.1.2.2.2.1⟩
          exact absurd hz List.not_mem_nil) (by decide) (by decide) (hu _ mG_784) (va_Nw.use rfl (X.2.2.2.2.2.1.2.1 _ uc_UOE)) hce hcv hcl ?_
      refine W.eq (g2 := F0 m 21 ls [.ref qx]) rfl ?_
      refine lv_astore (lv' := [(4, .ref qx), (0, .ref x), (1, .int a1), (2, .int a2), (3, .ref q9)]) hx hb dL_run_21 hl (by decide) rfl (fun ls hl => ?_)
      refine lv_iconst (v := 3) hx hb dL_run_23 (by decide) ?_
      obtain ⟨rfl, rfl⟩ := fin_some hg
      exact grh_i S hr hk X (Nat.le_of_eq (Nat.zero_add _)) (Nat.le_of_eq (Nat.zero_add _)) dL_run_24
    · have hg := (if_neg (show ¬ cv.1 = 0 by rw [h1]; decide)).symm.trans hg
      have hg := (if_pos h1).symm.trans hg
      refine vx_catch (own := RL) (name := "java/lang/IllegalStateException") hown [] ⟨0, 10, 13, 31⟩ [⟨0, 10, 17, 13⟩, ⟨0, 10, 21, 15⟩] (htab.trans rfl) (fun z hz => nomatch hz) (by decide) (by decide) (hu _ mG_1622) (va_Nw.use rfl (X.2.2.2.2.2.1.2.1 _ uc_ISE)) hce hcv hcl ?_
      refine W.eq (g2 := F0 m 13 ls [.ref qx]) rfl ?_
      refine lv_astore (lv' := [(4, .ref qx), (0, .ref x), (1, .int a1), (2, .int a2), (3, .ref q9)]) hx hb dL_run_13 hl (by decide) rfl (fun ls hl => ?_)
      refine lv_iconst (v := 1) hx hb dL_run_15 (by decide) ?_
      obtain ⟨rfl, rfl⟩ := fin_some hg
      exact grh_i S hr hk X (Nat.le_of_eq (Nat.zero_add _)) (Nat.le_of_eq (Nat.zero_add _)) dL_run_16
    · have hg := (if_neg (show ¬ cv.1 = 0 by rw [h1]; decide)).symm.trans hg
      have hg := (if_neg (show ¬ cv.1 = 3 by rw [h1]; decide)).symm.trans hg
      have hg := (if_neg (show ¬ cv.1 = 1 by rw [h1]; decide)).symm.trans hg
      have hg := (if_neg (show ¬ cv.1 = 2 by rw [h1]; decide)).symm.trans hg
      cases hg
  · have hg := (if_pos hc0).symm.trans hg
    refine lv_i2l (v := ((cv.2).toInt64)) hx hb dL_run_8 rfl ?_
    refine wfsB_30 S X (vp_in_iff.mpr (by decide)) dL_run_9 (fun H locs X => ?_)
    refine lv_goto (tgt := 25) hx hb dL_run_10 (by decide) ?_
    refine lv_iconst (v := 0) hx hb dL_run_25 (by decide) ?_
    obtain ⟨rfl, rfl⟩ := fin_some hg
    exact grh_i S hr hk X (Nat.le_of_eq (Nat.zero_add _)) (Nat.le_of_eq (Nat.zero_add _)) dL_run_26
set_option maxHeartbeats 4000000 in
set_option maxRecDepth 100000 in
theorem k2_L_result (l : Launch) (hlt : l.stackTraces = false) (dC : Nat → ClassId) (dI : Nat → Nat → Nat) {ak : Nat → Nat} (x q9 : Nat) (ad : Nat → Nat) (kc : Nat → ClassId) (sv : Value) (sa va : Nat) {σ τ : S5} {a1 : Int32} {r : Int32} (hg : h_L_result a1 σ = some (r, τ)) (sz : Nat) : Met l yL_result (Cond.codeWith yL_result cL_result 4 (some .int) [(0, 9, 12, 13)] :: uG) { frames := 7, cells := 1, slots := 6, locals := 111 } (gPc (dC, dI) (tF kc) (wF x q9 ad kc sv sa va) (zF ak) [.ref x, .int a1, .ref q9] σ sz) (gQh (dC, dI) x q9 (va_A (wF x q9 ad kc sv sa va σ) sz) r τ) 1 6 (va_A (wF x q9 ad kc sv sa va σ) sz) := by
  refine gh_start (by decide) (Nat.le_of_ble_eq_true rfl) (fun p e s m below meth c ls S hr hk htab X hl => ?_)
  have hx := S.1
  have hb := S.2.1
  have hown : s.vm.findClass RL = some m.cls := S.2.2.2.1
  have hu := S.2.2.2.2
  have hl : lv_has ls 4 [(0, .ref x), (1, .int a1), (2, .ref q9)] := hl
  generalize hAe : va_A (wF x q9 ad kc sv sa va σ) sz = A at X ⊢
  unfold h_L_result at hg
  refine lv_aload_n hx hb dL_result_0 rfl (lv_at hl 2 rfl) ?_
  refine lv_iconst (v := 0) hx hb dL_result_1 (by decide) ?_
  refine lv_aload_n hx hb dL_result_2 rfl (lv_at hl 0 rfl) ?_
  refine lv_iload_n hx hb dL_result_3 rfl (lv_at hl 1 rfl) ?_
  obtain ⟨cv, τ9, hq9, hg⟩ := bd_some hg
  refine gxc_Vi (As := [.int a1]) (rest := [.int 0, .ref q9]) (q0 := 0) (ci := 14) (m1 := 1) (m2 := 6) S X (k2_X11_result l hlt dC dI x q9 ad kc sv sa va hq9 s.heap.size) cw_X11_result mG_2015 rfl rfl rfl rfl rfl hl.1 (Nat.le_of_ble_eq_true rfl) dL_result_4 ⟨Nat.le_of_ble_eq_true rfl, Nat.le_of_ble_eq_true rfl⟩ ⟨Nat.le_refl _, Nat.le_of_ble_eq_true rfl⟩ (fun E ce qx H locs hE X hce hcv hcl => ?_) (fun ad kc sv sa va H locs hc0 X => ?_)
  · rcases hE with ⟨rfl, h1⟩ | ⟨rfl, h1⟩ | ⟨rfl, h1⟩ | ⟨rfl, h1⟩
    · have hg := (if_neg (show ¬ cv.1 = 0 by rw [h1]; decide)).symm.trans hg
      have hg := (if_pos h1).symm.trans hg
      refine vx_catch (own := RL) (name := "java/lang/IllegalArgumentException") hown [] ⟨0, 9, 12, 13⟩ [] (htab.trans rfl) (fun z hz => nomatch hz) (by decide) (by decide) (hu _ mG_783) (va_Nw.use rfl (X.2.2.2.2.2.1.2.1 _ uc_IAE)) hce hcv hcl ?_
      refine W.eq (g2 := F0 m 12 ls [.ref qx]) rfl ?_
      refine lv_astore_n (lv' := [(3, .ref qx), (0, .ref x), (1, .int a1), (2, .ref q9)]) hx hb dL_result_12 rfl hl (by decide) rfl (fun ls hl => ?_)
      refine lv_iconst (v := 1) hx hb dL_result_13 (by decide) ?_
      obtain ⟨rfl, rfl⟩ := fin_some hg
      exact grh_i S hr hk X (Nat.le_of_eq (Nat.zero_add _)) (Nat.le_of_eq (Nat.zero_add _)) dL_result_14
    · have hg := (if_neg (show ¬ cv.1 = 0 by rw [h1]; decide)).symm.trans hg
      have hg := (if_neg (show ¬ cv.1 = 1 by rw [h1]; decide)).symm.trans hg
      cases hg
    · have hg := (if_neg (show ¬ cv.1 = 0 by rw [h1]; decide)).symm.trans hg
      have hg := (if_neg (show ¬ cv.1 = 1 by rw [h1]; decide)).symm.trans hg
      cases hg
    · have hg := (if_neg (show ¬ cv.1 = 0 by rw [h1]; decide)).symm.trans hg
      have hg := (if_neg (show ¬ cv.1 = 1 by rw [h1]; decide)).symm.trans hg
      cases hg
  · have hg := (if_pos hc0).symm.trans hg
    refine lv_i2l (v := ((cv.2).toInt64)) hx hb dL_result_7 rfl ?_
    refine wfsB_30 S X (vp_in_iff.mpr (by decide)) dL_result_8 (fun H locs X => ?_)
    refine lv_goto (tgt := 15) hx hb dL_result_9 (by decide) ?_
    refine lv_iconst (v := 0) hx hb dL_result_15 (by decide) ?_
    obtain ⟨rfl, rfl⟩ := fin_some hg
    exact grh_i S hr hk X (Nat.le_of_eq (Nat.zero_add _)) (Nat.le_of_eq (Nat.zero_add _)) dL_result_16
set_option maxHeartbeats 4000000 in
set_option maxRecDepth 100000 in
theorem k2_L_number (l : Launch) (hlt : l.stackTraces = false) (dC : Nat → ClassId) (dI : Nat → Nat → Nat) {ak : Nat → Nat} (x q9 : Nat) (ad : Nat → Nat) (kc : Nat → ClassId) (sv : Value) (sa va : Nat) {σ τ : S5} {a1 : Int32} {r : Int32} (hg : h_L_number a1 σ = some (r, τ)) (sz : Nat) : Met l yL_number (Cond.codeWith yL_number cL_number 4 (some .int) [(0, 9, 12, 36)] :: uG) { frames := 7, cells := 1, slots := 6, locals := 111 } (gPc (dC, dI) (tF kc) (wF x q9 ad kc sv sa va) (zF ak) [.ref x, .int a1, .ref q9] σ sz) (gQh (dC, dI) x q9 (va_A (wF x q9 ad kc sv sa va σ) sz) r τ) 1 6 (va_A (wF x q9 ad kc sv sa va σ) sz) := by
  refine gh_start (by decide) (Nat.le_of_ble_eq_true rfl) (fun p e s m below meth c ls S hr hk htab X hl => ?_)
  have hx := S.1
  have hb := S.2.1
  have hown : s.vm.findClass RL = some m.cls := S.2.2.2.1
  have hu := S.2.2.2.2
  have hl : lv_has ls 4 [(0, .ref x), (1, .int a1), (2, .ref q9)] := hl
  generalize hAe : va_A (wF x q9 ad kc sv sa va σ) sz = A at X ⊢
  unfold h_L_number at hg
  refine lv_aload_n hx hb dL_number_0 rfl (lv_at hl 2 rfl) ?_
  refine lv_iconst (v := 0) hx hb dL_number_1 (by decide) ?_
  refine lv_aload_n hx hb dL_number_2 rfl (lv_at hl 0 rfl) ?_
  refine lv_iload_n hx hb dL_number_3 rfl (lv_at hl 1 rfl) ?_
  obtain ⟨cv, τ9, hq9, hg⟩ := bd_some hg
  refine gxc_Vi (As := [.int a1]) (rest := [.int 0, .ref q9]) (q0 := 0) (ci := 14) (m1 := 1) (m2 := 6) S X (k2_X11_number l hlt dC dI x q9 ad kc sv sa va hq9 s.heap.size) cw_X11_number mG_2022 rfl rfl rfl rfl rfl hl.1 (Nat.le_of_ble_eq_true rfl) dL_number_4 ⟨Nat.le_of_ble_eq_true rfl, Nat.le_of_ble_eq_true rfl⟩ ⟨Nat.le_refl _, Nat.le_of_ble_eq_true rfl⟩ (fun E ce qx H locs hE X hce hcv hcl => ?_) (fun ad kc sv sa va H locs hc0 X => ?_)
  · rcases hE with ⟨rfl, h1⟩ | ⟨rfl, h1⟩ | ⟨rfl, h1⟩ | ⟨rfl, h1⟩
    · have hg := (if_neg (show ¬ cv.1 = 0 by rw [h1]; decide)).symm.trans hg
      have hg := (if_neg (show ¬ cv.1 = 4 by rw [h1]; decide)).symm.trans hg
      cases hg
    · have hg := (if_neg (show ¬ cv.1 = 0 by rw [h1]; decide)).symm.trans hg
      have hg := (if_neg (show ¬ cv.1 = 4 by rw [h1]; decide)).symm.trans hg
      cases hg
    · have hg := (if_neg (show ¬ cv.1 = 0 by rw [h1]; decide)).symm.trans hg
      have hg := (if_neg (show ¬ cv.1 = 4 by rw [h1]; decide)).symm.trans hg
      cases hg
    · have hg := (if_neg (show ¬ cv.1 = 0 by rw [h1]; decide)).symm.trans hg
      have hg := (if_pos h1).symm.trans hg
      refine vx_catch (own := RL) (name := "java/lang/IndexOutOfBoundsException") hown [] ⟨0, 9, 12, 36⟩ [] (htab.trans rfl) (fun z hz => nomatch hz) (by decide) (by decide) (hu _ mG_1738) (va_Nw.use rfl (X.2.2.2.2.2.1.2.1 _ uc_IOB)) hce hcv hcl ?_
      refine W.eq (g2 := F0 m 12 ls [.ref qx]) rfl ?_
      refine lv_astore_n (lv' := [(3, .ref qx), (0, .ref x), (1, .int a1), (2, .ref q9)]) hx hb dL_number_12 rfl hl (by decide) rfl (fun ls hl => ?_)
      refine lv_iconst (v := 1) hx hb dL_number_13 (by decide) ?_
      obtain ⟨rfl, rfl⟩ := fin_some hg
      exact grh_i S hr hk X (Nat.le_of_eq (Nat.zero_add _)) (Nat.le_of_eq (Nat.zero_add _)) dL_number_14
  · have hg := (if_pos hc0).symm.trans hg
    refine lv_i2l (v := ((cv.2).toInt64)) hx hb dL_number_7 rfl ?_
    refine wfsB_30 S X (vp_in_iff.mpr (by decide)) dL_number_8 (fun H locs X => ?_)
    refine lv_goto (tgt := 15) hx hb dL_number_9 (by decide) ?_
    refine lv_iconst (v := 0) hx hb dL_number_15 (by decide) ?_
    obtain ⟨rfl, rfl⟩ := fin_some hg
    exact grh_i S hr hk X (Nat.le_of_eq (Nat.zero_add _)) (Nat.le_of_eq (Nat.zero_add _)) dL_number_16
set_option maxHeartbeats 4000000 in
set_option maxRecDepth 100000 in
theorem k2_L_called (l : Launch) (hlt : l.stackTraces = false) (dC : Nat → ClassId) (dI : Nat → Nat → Nat) {ak : Nat → Nat} (x q9 : Nat) (ad : Nat → Nat) (kc : Nat → ClassId) (sv : Value) (sa va : Nat) {σ τ : S5} {a1 : Int32} {r : Int32} (hg : h_L_called a1 σ = some (r, τ)) (sz : Nat) : Met l yL_called (Cond.codeWith yL_called cL_called 4 (some .int) [(0, 9, 12, 31), (0, 9, 15, 36)] :: uG) { frames := 7, cells := 1, slots := 6, locals := 111 } (gPc (dC, dI) (tF kc) (wF x q9 ad kc sv sa va) (zF ak) [.ref x, .int a1, .ref q9] σ sz) (gQh (dC, dI) x q9 (va_A (wF x q9 ad kc sv sa va σ) sz) r τ) 1 6 (va_A (wF x q9 ad kc sv sa va σ) sz) := by
  refine gh_start (by decide) (Nat.le_of_ble_eq_true rfl) (fun p e s m below meth c ls S hr hk htab X hl => ?_)
  have hx := S.1
  have hb := S.2.1
  have hown : s.vm.findClass RL = some m.cls := S.2.2.2.1
  have hu := S.2.2.2.2
  have hl : lv_has ls 4 [(0, .ref x), (1, .int a1), (2, .ref q9)] := hl
  generalize hAe : va_A (wF x q9 ad kc sv sa va σ) sz = A at X ⊢
  unfold h_L_called at hg
  refine lv_aload_n hx hb dL_called_0 rfl (lv_at hl 2 rfl) ?_
  refine lv_iconst (v := 0) hx hb dL_called_1 (by decide) ?_
  refine lv_aload_n hx hb dL_called_2 rfl (lv_at hl 0 rfl) ?_
  refine lv_iload_n hx hb dL_called_3 rfl (lv_at hl 1 rfl) ?_
  obtain ⟨cv, τ9, hq9, hg⟩ := bd_some hg
  refine gxc_Vi (As := [.int a1]) (rest := [.int 0, .ref q9]) (q0 := 0) (ci := 14) (m1 := 1) (m2 := 6) S X (k2_X11_called l hlt dC dI x q9 ad kc sv sa va hq9 s.heap.size) cw_X11_called mG_2029 rfl rfl rfl rfl rfl hl.1 (Nat.le_of_ble_eq_true rfl) dL_called_4 ⟨Nat.le_of_ble_eq_true rfl, Nat.le_of_ble_eq_true rfl⟩ ⟨Nat.le_refl _, Nat.le_of_ble_eq_true rfl⟩ (fun E ce qx H locs hE X hce hcv hcl => ?_) (fun ad kc sv sa va H locs hc0 X => ?_)
  · rcases hE with ⟨rfl, h1⟩ | ⟨rfl, h1⟩ | ⟨rfl, h1⟩ | ⟨rfl, h1⟩
    · have hg := (if_neg (show ¬ cv.1 = 0 by rw [h1]; decide)).symm.trans hg
      have hg := (if_neg (show ¬ cv.1 = 3 by rw [h1]; decide)).symm.trans hg
      have hg := (if_neg (show ¬ cv.1 = 4 by rw [h1]; decide)).symm.trans hg
      cases hg
    · have hg := (if_neg (show ¬ cv.1 = 0 by rw [h1]; decide)).symm.trans hg
      have hg := (if_neg (show ¬ cv.1 = 3 by rw [h1]; decide)).symm.trans hg
      have hg := (if_neg (show ¬ cv.1 = 4 by rw [h1]; decide)).symm.trans hg
      cases hg
    · have hg := (if_neg (show ¬ cv.1 = 0 by rw [h1]; decide)).symm.trans hg
      have hg := (if_pos h1).symm.trans hg
      refine vx_catch (own := RL) (name := "java/lang/IllegalStateException") hown [] ⟨0, 9, 12, 31⟩ [⟨0, 9, 15, 36⟩] (htab.trans rfl) (fun z hz => nomatch hz) (by decide) (by decide) (hu _ mG_1622) (va_Nw.use rfl (X.2.2.2.2.2.1.2.1 _ uc_ISE)) hce hcv hcl ?_
      refine W.eq (g2 := F0 m 12 ls [.ref qx]) rfl ?_
      refine lv_astore_n (lv' := [(3, .ref qx), (0, .ref x), (1, .int a1), (2, .ref q9)]) hx hb dL_called_12 rfl hl (by decide) rfl (fun ls hl => ?_)
      refine lv_iconst (v := 1) hx hb dL_called_13 (by decide) ?_
      obtain ⟨rfl, rfl⟩ := fin_some hg
      exact grh_i S hr hk X (Nat.le_of_eq (Nat.zero_add _)) (Nat.le_of_eq (Nat.zero_add _)) dL_called_14
    · have hg := (if_neg (show ¬ cv.1 = 0 by rw [h1]; decide)).symm.trans hg
      have hg := (if_neg (show ¬ cv.1 = 3 by rw [h1]; decide)).symm.trans hg
      have hg := (if_pos h1).symm.trans hg
      refine vx_catch (own := RL) (name := "java/lang/IndexOutOfBoundsException") hown [⟨0, 9, 12, 31⟩] ⟨0, 9, 15, 36⟩ [] (htab.trans rfl) (fun z hz => by
          rcases List.mem_cons.mp hz with rfl | hz
          · exact Or.inr ⟨by decide, _, hu _ mG_1622, X.2.2.2.2.2.1.2.2.2.2.1⟩
          exact absurd hz List.not_mem_nil) (by decide) (by decide) (hu _ mG_1738) (va_Nw.use rfl (X.2.2.2.2.2.1.2.1 _ uc_IOB)) hce hcv hcl ?_
      refine W.eq (g2 := F0 m 15 ls [.ref qx]) rfl ?_
      refine lv_astore_n (lv' := [(3, .ref qx), (0, .ref x), (1, .int a1), (2, .ref q9)]) hx hb dL_called_15 rfl hl (by decide) rfl (fun ls hl => ?_)
      refine lv_iconst (v := 2) hx hb dL_called_16 (by decide) ?_
      obtain ⟨rfl, rfl⟩ := fin_some hg
      exact grh_i S hr hk X (Nat.le_of_eq (Nat.zero_add _)) (Nat.le_of_eq (Nat.zero_add _)) dL_called_17
  · have hg := (if_pos hc0).symm.trans hg
    refine lv_i2l (v := ((cv.2).toInt64)) hx hb dL_called_7 rfl ?_
    refine wfsB_30 S X (vp_in_iff.mpr (by decide)) dL_called_8 (fun H locs X => ?_)
    refine lv_goto (tgt := 18) hx hb dL_called_9 (by decide) ?_
    refine lv_iconst (v := 0) hx hb dL_called_18 (by decide) ?_
    obtain ⟨rfl, rfl⟩ := fin_some hg
    exact grh_i S hr hk X (Nat.le_of_eq (Nat.zero_add _)) (Nat.le_of_eq (Nat.zero_add _)) dL_called_19
set_option maxHeartbeats 4000000 in
set_option maxRecDepth 100000 in
theorem k2_L_about (l : Launch) (hlt : l.stackTraces = false) (dC : Nat → ClassId) (dI : Nat → Nat → Nat) {ak : Nat → Nat} (x q9 : Nat) (ad : Nat → Nat) (kc : Nat → ClassId) (sv : Value) (sa va : Nat) {σ τ : S5} {a1 : Int32} {r : Int32} (hg : h_L_about a1 σ = some (r, τ)) (sz : Nat) : Met l yL_about (Cond.codeWith yL_about cL_about 4 (some .int) [(0, 9, 12, 13)] :: uG) { frames := 7, cells := 1, slots := 6, locals := 111 } (gPc (dC, dI) (tF kc) (wF x q9 ad kc sv sa va) (zF ak) [.ref x, .int a1, .ref q9] σ sz) (gQh (dC, dI) x q9 (va_A (wF x q9 ad kc sv sa va σ) sz) r τ) 1 6 (va_A (wF x q9 ad kc sv sa va σ) sz) := by
  refine gh_start (by decide) (Nat.le_of_ble_eq_true rfl) (fun p e s m below meth c ls S hr hk htab X hl => ?_)
  have hx := S.1
  have hb := S.2.1
  have hown : s.vm.findClass RL = some m.cls := S.2.2.2.1
  have hu := S.2.2.2.2
  have hl : lv_has ls 4 [(0, .ref x), (1, .int a1), (2, .ref q9)] := hl
  generalize hAe : va_A (wF x q9 ad kc sv sa va σ) sz = A at X ⊢
  unfold h_L_about at hg
  refine lv_aload_n hx hb dL_about_0 rfl (lv_at hl 2 rfl) ?_
  refine lv_iconst (v := 0) hx hb dL_about_1 (by decide) ?_
  refine lv_aload_n hx hb dL_about_2 rfl (lv_at hl 0 rfl) ?_
  refine lv_iload_n hx hb dL_about_3 rfl (lv_at hl 1 rfl) ?_
  obtain ⟨cv, τ9, hq9, hg⟩ := bd_some hg
  refine gxc_Vi (As := [.int a1]) (rest := [.int 0, .ref q9]) (q0 := 0) (ci := 14) (m1 := 1) (m2 := 6) S X (k2_X11_about l hlt dC dI x q9 ad kc sv sa va hq9 s.heap.size) cw_X11_about mG_2036 rfl rfl rfl rfl rfl hl.1 (Nat.le_of_ble_eq_true rfl) dL_about_4 ⟨Nat.le_of_ble_eq_true rfl, Nat.le_of_ble_eq_true rfl⟩ ⟨Nat.le_refl _, Nat.le_of_ble_eq_true rfl⟩ (fun E ce qx H locs hE X hce hcv hcl => ?_) (fun ad kc sv sa va H locs hc0 X => ?_)
  · rcases hE with ⟨rfl, h1⟩ | ⟨rfl, h1⟩ | ⟨rfl, h1⟩ | ⟨rfl, h1⟩
    · have hg := (if_neg (show ¬ cv.1 = 0 by rw [h1]; decide)).symm.trans hg
      have hg := (if_pos h1).symm.trans hg
      refine vx_catch (own := RL) (name := "java/lang/IllegalArgumentException") hown [] ⟨0, 9, 12, 13⟩ [] (htab.trans rfl) (fun z hz => nomatch hz) (by decide) (by decide) (hu _ mG_783) (va_Nw.use rfl (X.2.2.2.2.2.1.2.1 _ uc_IAE)) hce hcv hcl ?_
      refine W.eq (g2 := F0 m 12 ls [.ref qx]) rfl ?_
      refine lv_astore_n (lv' := [(3, .ref qx), (0, .ref x), (1, .int a1), (2, .ref q9)]) hx hb dL_about_12 rfl hl (by decide) rfl (fun ls hl => ?_)
      refine lv_iconst (v := 1) hx hb dL_about_13 (by decide) ?_
      obtain ⟨rfl, rfl⟩ := fin_some hg
      exact grh_i S hr hk X (Nat.le_of_eq (Nat.zero_add _)) (Nat.le_of_eq (Nat.zero_add _)) dL_about_14
    · have hg := (if_neg (show ¬ cv.1 = 0 by rw [h1]; decide)).symm.trans hg
      have hg := (if_neg (show ¬ cv.1 = 1 by rw [h1]; decide)).symm.trans hg
      cases hg
    · have hg := (if_neg (show ¬ cv.1 = 0 by rw [h1]; decide)).symm.trans hg
      have hg := (if_neg (show ¬ cv.1 = 1 by rw [h1]; decide)).symm.trans hg
      cases hg
    · have hg := (if_neg (show ¬ cv.1 = 0 by rw [h1]; decide)).symm.trans hg
      have hg := (if_neg (show ¬ cv.1 = 1 by rw [h1]; decide)).symm.trans hg
      cases hg
  · have hg := (if_pos hc0).symm.trans hg
    refine lv_i2l (v := ((cv.2).toInt64)) hx hb dL_about_7 rfl ?_
    refine wfsB_30 S X (vp_in_iff.mpr (by decide)) dL_about_8 (fun H locs X => ?_)
    refine lv_goto (tgt := 15) hx hb dL_about_9 (by decide) ?_
    refine lv_iconst (v := 0) hx hb dL_about_15 (by decide) ?_
    obtain ⟨rfl, rfl⟩ := fin_some hg
    exact grh_i S hr hk X (Nat.le_of_eq (Nat.zero_add _)) (Nat.le_of_eq (Nat.zero_add _)) dL_about_16

