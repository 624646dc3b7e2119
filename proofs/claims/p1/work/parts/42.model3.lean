

theorem dX12_put_0 : decode cX12_put 0 = .ok (.iconst 0, 1) := by decide +kernel
theorem dX12_put_1 : decode cX12_put 1 = .ok (.istore_n 2, 1) := by decide +kernel
theorem dX12_put_2 : decode cX12_put 2 = .ok (.iconst 1, 1) := by decide +kernel
theorem dX12_put_3 : decode cX12_put 3 = .ok (.istore_n 3, 1) := by decide +kernel
theorem dX12_put_4 : decode cX12_put 4 = .ok (.iconst 0, 1) := by decide +kernel
theorem dX12_put_5 : decode cX12_put 5 = .ok (.istore 4, 2) := by decide +kernel
theorem dX12_put_7 : decode cX12_put 7 = .ok (.iload 4, 2) := by decide +kernel
theorem dX12_put_9 : decode cX12_put 9 = .ok (.bipush 32, 2) := by decide +kernel
theorem dX12_put_11 : decode cX12_put 11 = .ok (.if_icmp .ge 68, 3) := by decide +kernel
theorem dX12_put_14 : decode cX12_put 14 = .ok (.iload_n 1, 1) := by decide +kernel
theorem dX12_put_15 : decode cX12_put 15 = .ok (.iload 4, 2) := by decide +kernel
theorem dX12_put_17 : decode cX12_put 17 = .ok (.ishr, 1) := by decide +kernel
theorem dX12_put_18 : decode cX12_put 18 = .ok (.sipush 255, 3) := by decide +kernel
theorem dX12_put_21 : decode cX12_put 21 = .ok (.iand, 1) := by decide +kernel
theorem dX12_put_22 : decode cX12_put 22 = .ok (.istore 5, 2) := by decide +kernel
theorem dX12_put_24 : decode cX12_put 24 = .ok (.iload_n 3, 1) := by decide +kernel
theorem dX12_put_25 : decode cX12_put 25 = .ok (.ifCond .eq 33, 3) := by decide +kernel
theorem dX12_put_28 : decode cX12_put 28 = .ok (.iload 5, 2) := by decide +kernel
theorem dX12_put_30 : decode cX12_put 30 = .ok (.ifCond .eq 24, 3) := by decide +kernel
theorem dX12_put_33 : decode cX12_put 33 = .ok (.iload 5, 2) := by decide +kernel
theorem dX12_put_35 : decode cX12_put 35 = .ok (.bipush 10, 2) := by decide +kernel
theorem dX12_put_37 : decode cX12_put 37 = .ok (.if_icmp .eq 17, 3) := by decide +kernel
theorem dX12_put_40 : decode cX12_put 40 = .ok (.iload 5, 2) := by decide +kernel
theorem dX12_put_42 : decode cX12_put 42 = .ok (.bipush 32, 2) := by decide +kernel
theorem dX12_put_44 : decode cX12_put 44 = .ok (.if_icmp .lt 14, 3) := by decide +kernel
theorem dX12_put_47 : decode cX12_put 47 = .ok (.iload 5, 2) := by decide +kernel
theorem dX12_put_49 : decode cX12_put 49 = .ok (.bipush 126, 2) := by decide +kernel
theorem dX12_put_51 : decode cX12_put 51 = .ok (.if_icmp .gt 7, 3) := by decide +kernel
theorem dX12_put_54 : decode cX12_put 54 = .ok (.iconst 1, 1) := by decide +kernel
theorem dX12_put_55 : decode cX12_put 55 = .ok (.goto 4, 3) := by decide +kernel
theorem dX12_put_58 : decode cX12_put 58 = .ok (.iconst 0, 1) := by decide +kernel
theorem dX12_put_59 : decode cX12_put 59 = .ok (.istore_n 3, 1) := by decide +kernel
theorem dX12_put_60 : decode cX12_put 60 = .ok (.iload_n 2, 1) := by decide +kernel
theorem dX12_put_61 : decode cX12_put 61 = .ok (.iload 5, 2) := by decide +kernel
theorem dX12_put_63 : decode cX12_put 63 = .ok (.ifCond .ne 7, 3) := by decide +kernel
theorem dX12_put_66 : decode cX12_put 66 = .ok (.iconst 0, 1) := by decide +kernel
theorem dX12_put_67 : decode cX12_put 67 = .ok (.goto 4, 3) := by decide +kernel
theorem dX12_put_70 : decode cX12_put 70 = .ok (.iconst 1, 1) := by decide +kernel
theorem dX12_put_71 : decode cX12_put 71 = .ok (.iadd, 1) := by decide +kernel
theorem dX12_put_72 : decode cX12_put 72 = .ok (.istore_n 2, 1) := by decide +kernel
theorem dX12_put_73 : decode cX12_put 73 = .ok (.iinc 4 8, 3) := by decide +kernel
theorem dX12_put_76 : decode cX12_put 76 = .ok (.goto (-69), 3) := by decide +kernel
theorem dX12_put_79 : decode cX12_put 79 = .ok (.aload_n 0, 1) := by decide +kernel
theorem dX12_put_80 : decode cX12_put 80 = .ok (.iload_n 3, 1) := by decide +kernel
theorem dX12_put_81 : decode cX12_put 81 = .ok (.ifCond .ne 7, 3) := by decide +kernel
theorem dX12_put_84 : decode cX12_put 84 = .ok (.iconst 1, 1) := by decide +kernel
theorem dX12_put_85 : decode cX12_put 85 = .ok (.goto 20, 3) := by decide +kernel
theorem dX12_put_88 : decode cX12_put 88 = .ok (.aload_n 0, 1) := by decide +kernel
theorem dX12_put_89 : decode cX12_put 89 = .ok (.getfield 254, 3) := by decide +kernel
theorem dX12_put_92 : decode cX12_put 92 = .ok (.iload_n 2, 1) := by decide +kernel
theorem dX12_put_93 : decode cX12_put 93 = .ok (.iadd, 1) := by decide +kernel
theorem dX12_put_94 : decode cX12_put 94 = .ok (.sipush 3000, 3) := by decide +kernel
theorem dX12_put_97 : decode cX12_put 97 = .ok (.if_icmp .le 7, 3) := by decide +kernel
theorem dX12_put_100 : decode cX12_put 100 = .ok (.iconst 2, 1) := by decide +kernel
theorem dX12_put_101 : decode cX12_put 101 = .ok (.goto 4, 3) := by decide +kernel
theorem dX12_put_104 : decode cX12_put 104 = .ok (.iconst 0, 1) := by decide +kernel
theorem dX12_put_105 : decode cX12_put 105 = .ok (.putfield 251, 3) := by decide +kernel
theorem dX12_put_108 : decode cX12_put 108 = .ok (.aload_n 0, 1) := by decide +kernel
theorem dX12_put_109 : decode cX12_put 109 = .ok (.getfield 251, 3) := by decide +kernel
theorem dX12_put_112 : decode cX12_put 112 = .ok (.ifCond .le 5, 3) := by decide +kernel
theorem dX12_put_115 : decode cX12_put 115 = .ok (.iconst 0, 1) := by decide +kernel
theorem dX12_put_116 : decode cX12_put 116 = .ok (.ireturn, 1) := by decide +kernel
theorem dX12_put_117 : decode cX12_put 117 = .ok (.iconst 0, 1) := by decide +kernel
theorem dX12_put_118 : decode cX12_put 118 = .ok (.istore 4, 2) := by decide +kernel
theorem dX12_put_120 : decode cX12_put 120 = .ok (.iload 4, 2) := by decide +kernel
theorem dX12_put_122 : decode cX12_put 122 = .ok (.bipush 32, 2) := by decide +kernel
theorem dX12_put_124 : decode cX12_put 124 = .ok (.if_icmp .ge 45, 3) := by decide +kernel
theorem dX12_put_127 : decode cX12_put 127 = .ok (.iload_n 1, 1) := by decide +kernel
theorem dX12_put_128 : decode cX12_put 128 = .ok (.iload 4, 2) := by decide +kernel
theorem dX12_put_130 : decode cX12_put 130 = .ok (.ishr, 1) := by decide +kernel
theorem dX12_put_131 : decode cX12_put 131 = .ok (.sipush 255, 3) := by decide +kernel
theorem dX12_put_134 : decode cX12_put 134 = .ok (.iand, 1) := by decide +kernel
theorem dX12_put_135 : decode cX12_put 135 = .ok (.istore 5, 2) := by decide +kernel
theorem dX12_put_137 : decode cX12_put 137 = .ok (.iload 5, 2) := by decide +kernel
theorem dX12_put_139 : decode cX12_put 139 = .ok (.ifCond .eq 24, 3) := by decide +kernel
theorem dX12_put_142 : decode cX12_put 142 = .ok (.aload_n 0, 1) := by decide +kernel
theorem dX12_put_143 : decode cX12_put 143 = .ok (.getfield 7, 3) := by decide +kernel
theorem dX12_put_146 : decode cX12_put 146 = .ok (.aload_n 0, 1) := by decide +kernel
theorem dX12_put_147 : decode cX12_put 147 = .ok (.getfield 254, 3) := by decide +kernel
theorem dX12_put_150 : decode cX12_put 150 = .ok (.iload 5, 2) := by decide +kernel
theorem dX12_put_152 : decode cX12_put 152 = .ok (.iastore, 1) := by decide +kernel
theorem dX12_put_153 : decode cX12_put 153 = .ok (.aload_n 0, 1) := by decide +kernel
theorem dX12_put_154 : decode cX12_put 154 = .ok (.dup, 1) := by decide +kernel
theorem dX12_put_155 : decode cX12_put 155 = .ok (.getfield 254, 3) := by decide +kernel
theorem dX12_put_158 : decode cX12_put 158 = .ok (.iconst 1, 1) := by decide +kernel
theorem dX12_put_159 : decode cX12_put 159 = .ok (.iadd, 1) := by decide +kernel
theorem dX12_put_160 : decode cX12_put 160 = .ok (.putfield 254, 3) := by decide +kernel
theorem dX12_put_163 : decode cX12_put 163 = .ok (.iinc 4 8, 3) := by decide +kernel
theorem dX12_put_166 : decode cX12_put 166 = .ok (.goto (-46), 3) := by decide +kernel
theorem dX12_put_169 : decode cX12_put 169 = .ok (.aload_n 0, 1) := by decide +kernel
theorem dX12_put_170 : decode cX12_put 170 = .ok (.getfield 254, 3) := by decide +kernel
theorem dX12_put_173 : decode cX12_put 173 = .ok (.ireturn, 1) := by decide +kernel
theorem dX12_take_0 : decode cX12_take 0 = .ok (.aload_n 0, 1) := by decide +kernel
theorem dX12_take_1 : decode cX12_take 1 = .ok (.iconst 0, 1) := by decide +kernel
theorem dX12_take_2 : decode cX12_take 2 = .ok (.putfield 251, 3) := by decide +kernel
theorem dX12_take_5 : decode cX12_take 5 = .ok (.aload_n 0, 1) := by decide +kernel
theorem dX12_take_6 : decode cX12_take 6 = .ok (.getfield 777, 3) := by decide +kernel
theorem dX12_take_9 : decode cX12_take 9 = .ok (.sipush 3000, 3) := by decide +kernel
theorem dX12_take_12 : decode cX12_take 12 = .ok (.if_icmp .le 5, 3) := by decide +kernel
theorem dX12_take_15 : decode cX12_take 15 = .ok (.iconst (-1), 1) := by decide +kernel
theorem dX12_take_16 : decode cX12_take 16 = .ok (.ireturn, 1) := by decide +kernel
theorem dX12_take_17 : decode cX12_take 17 = .ok (.iconst 0, 1) := by decide +kernel
theorem dX12_take_18 : decode cX12_take 18 = .ok (.istore_n 1, 1) := by decide +kernel
theorem dX12_take_19 : decode cX12_take 19 = .ok (.iload_n 1, 1) := by decide +kernel
theorem dX12_take_20 : decode cX12_take 20 = .ok (.aload_n 0, 1) := by decide +kernel
theorem dX12_take_21 : decode cX12_take 21 = .ok (.getfield 777, 3) := by decide +kernel
theorem dX12_take_24 : decode cX12_take 24 = .ok (.if_icmp .ge 21, 3) := by decide +kernel
theorem dX12_take_27 : decode cX12_take 27 = .ok (.aload_n 0, 1) := by decide +kernel
theorem dX12_take_28 : decode cX12_take 28 = .ok (.getfield 7, 3) := by decide +kernel
theorem dX12_take_31 : decode cX12_take 31 = .ok (.iload_n 1, 1) := by decide +kernel
theorem dX12_take_32 : decode cX12_take 32 = .ok (.aload_n 0, 1) := by decide +kernel
theorem dX12_take_33 : decode cX12_take 33 = .ok (.getfield 13, 3) := by decide +kernel
theorem dX12_take_36 : decode cX12_take 36 = .ok (.iload_n 1, 1) := by decide +kernel
theorem dX12_take_37 : decode cX12_take 37 = .ok (.iaload, 1) := by decide +kernel
theorem dX12_take_38 : decode cX12_take 38 = .ok (.iastore, 1) := by decide +kernel
theorem dX12_take_39 : decode cX12_take 39 = .ok (.iinc 1 1, 3) := by decide +kernel
theorem dX12_take_42 : decode cX12_take 42 = .ok (.goto (-23), 3) := by decide +kernel
theorem dX12_take_45 : decode cX12_take 45 = .ok (.aload_n 0, 1) := by decide +kernel
theorem dX12_take_46 : decode cX12_take 46 = .ok (.aload_n 0, 1) := by decide +kernel
theorem dX12_take_47 : decode cX12_take 47 = .ok (.getfield 777, 3) := by decide +kernel
theorem dX12_take_50 : decode cX12_take 50 = .ok (.putfield 254, 3) := by decide +kernel
theorem dX12_take_53 : decode cX12_take 53 = .ok (.aload_n 0, 1) := by decide +kernel
theorem dX12_take_54 : decode cX12_take 54 = .ok (.getfield 254, 3) := by decide +kernel
theorem dX12_take_57 : decode cX12_take 57 = .ok (.ireturn, 1) := by decide +kernel
def cpI (f g : Nat → Int32) (k : Nat) : Nat → Int32 := fun j => if j < k then g j else f j
theorem cpI_0 (f g : Nat → Int32) : cpI f g 0 = f := by funext j; simp [cpI]
theorem cpI_s (f g : Nat → Int32) (i : Nat) : upd (cpI f g i) i (g i) = cpI f g (i + 1) := by
  funext j
  simp only [upd, cpI]
  by_cases h : j = i
  · subst h; simp
  · by_cases h2 : j < i
    · simp [h, h2, Nat.lt_succ_of_lt h2]
    · have : ¬ j < i + 1 := by omega
      simp [h, h2, this]
set_option maxHeartbeats 4000000 in
set_option maxRecDepth 100000 in
/-- Model.take() -/
theorem kX12_take (l : Launch) (dC : Nat → ClassId) (dI : Nat → Nat → Nat) (sz : Nat) (o tx ou n on : Nat) (f : Nat → Value) (tf g : Nat → Int32) (cT cO : ClassId) (h4 : f 4 = .int (nI on)) (h1 : f 1 = .ref tx) (h3 : f 3 = .ref ou) (ho : on ≤ 12000) : Met l yX12_take (Cond.code yX12_take cX12_take 2 (some .int) :: uG) ({ frames := 0, cells := 0, slots := 0, locals := 0 }) (va_Pc [.ref o] (fun U => U.heap.size = sz ∧ va_P (dC, dI) vwCl [(o, .inr (15, bF f)), (tx, .inl (cT, 3000, .inl tf)), (ou, .inl (cO, 12000, .inl g))] U.heap ∧ va_K (dC, dI) vwCl [(cT, .int), (cO, .int)] U ∧ va_D (fun _ => True) [(o, .inr (15, bF f)), (tx, .inl (cT, 3000, .inl tf)), (ou, .inl (cO, 12000, .inl g))])) (va_Qi (S := Unit) (fun r _ => r = (if on ≤ 3000 then nI on else (-1))) (fun _ t => va_P (dC, dI) vwCl [(o, .inr (15, bF (if on ≤ 3000 then va_up (va_up f 0 (.int 0)) 2 (.int (nI on)) else va_up f 0 (.int 0)))), (tx, .inl (cT, 3000, .inl (if on ≤ 3000 then cpI tf g on else tf))), (ou, .inl (cO, 12000, .inl g))] t.heap ∧ va_K (dC, dI) vwCl [(cT, .int), (cO, .int)] t ∧ va_D (va_A [(o, .inr (15, bF f)), (tx, .inl (cT, 3000, .inl tf)), (ou, .inl (cO, 12000, .inl g))] sz) [(o, .inr (15, bF (if on ≤ 3000 then va_up (va_up f 0 (.int 0)) 2 (.int (nI on)) else va_up f 0 (.int 0)))), (tx, .inl (cT, 3000, .inl (if on ≤ 3000 then cpI tf g on else tf))), (ou, .inl (cO, 12000, .inl g))]) (va_A [(o, .inr (15, bF f)), (tx, .inl (cT, 3000, .inl tf)), (ou, .inl (cO, 12000, .inl g))] sz)) 0 0 (va_A [(o, .inr (15, bF f)), (tx, .inl (cT, 3000, .inl tf)), (ou, .inl (cO, 12000, .inl g))] sz) := by
  refine Met.ofW (cc := cX12_take) (maxL := 2) (ret := (some .int)) (by decide) rfl ?_
  intro p e s m args below meth c s₁ B hml hv
  obtain ⟨rfl, hsz, hP, hK, hD0⟩ := hv
  have hx := B.exec
  have hb := B.bytes
  have hr := B.returns
  have hts := atoms_spec (ws := Cond.code yX12_take cX12_take 2 (some .int) :: uG) B.pre
  have hu := fun (w : Cond) (h : w ∈ uG) => hts w (List.mem_cons_of_mem _ h)
  have hown : s.vm.findClass RX12 = some m.cls := findClass_of_methodNamed B.named
  have hlocks := B.notSynchronized
  subst hsz
  have hD := hD0.self (sz := s.heap.size)
  generalize hAe : va_A [(o, .inr (15, bF f)), (tx, .inl (cT, 3000, .inl tf)), (ou, .inl (cO, 12000, .inl g))] s.heap.size = A at hD ⊢
  have hA : ∀ q : Nat, s.heap.size ≤ q → A q := fun q h => by rw [← hAe]; exact Or.inr h
  have hS : va_S A s.heap s.heap [] := va_S.rf
  have hP : va_P (dC, dI) vwCl [(o, .inr (15, bF f)), (tx, .inl (cT, 3000, .inl tf)), (ou, .inl (cO, 12000, .inl g))] s.heap := hP
  have hD : va_D A [(o, .inr (15, bF f)), (tx, .inl (cT, 3000, .inl tf)), (ou, .inl (cO, 12000, .inl g))] := hD
  have hl := lv_entry ([.ref o]) (n := 2) (Nat.le_of_ble_eq_true rfl)
  rw [lg_entry_eq]
  generalize (lg_sl ([.ref o]) ++ List.replicate (2 - (lg_sl ([.ref o])).length) Slot.unset).toArray = ls at hl ⊢
  have hl : lv_has ls 2 [(0, .ref o)] := hl
  refine lv_aload_n hx hb dX12_take_0 rfl (lv_at hl 0 rfl) ?_
  refine lv_iconst (v := 0) hx hb dX12_take_1 (by decide) ?_
  refine va_put (D := (dC, dI)) (ci := 15) (v := .int 0) (ty := (tyX12 0)) (C := RX12) (T := TX12) (N := 136) hx hb hu iuX12 tyX12 tyX12_ok nmX12 hown hK hP hD hS 0 rfl rfl 0 (by decide) (hu _ mG_2050) (fun _ h9 => h9) rfl (by decide +kernel) (rfl) (rfl) (by rw [bF_len]; decide) dX12_take_2 (fun H locs hP hD hS => ?_)
  rw [show (bF f).set 0 (.int 0) = bF (va_up f 0 (.int 0)) from bF_set (by decide)] at hP hD
  have hP : va_P (dC, dI) vwCl [(o, .inr (15, bF (va_up f 0 (.int 0)))), (tx, .inl (cT, 3000, .inl tf)), (ou, .inl (cO, 12000, .inl g))] H := hP
  have hD : va_D A [(o, .inr (15, bF (va_up f 0 (.int 0)))), (tx, .inl (cT, 3000, .inl tf)), (ou, .inl (cO, 12000, .inl g))] := hD
  refine lv_aload_n hx hb dX12_take_5 rfl (lv_at hl 0 rfl) ?_
  refine va_get (D := (dC, dI)) (ci := 15) (v := .int (nI on)) (C := RX12) (T := TX12) (N := 136) hx hb hu iuX12 hown hK hP 0 rfl rfl 4 (by decide) (hu _ mG_2054) (fun _ h9 => h9) ((bF_get (by decide)).trans (congrArg some (h4))) dX12_take_6 ?_
  refine lv_sipush (v := 3000) hx hb dX12_take_9 (by decide) ?_
  refine lv_icmp_le (tgt := 17) hx hb dX12_take_12 (by decide) (fun c12 => ?_) (fun c12 => ?_)
  · have h12 : on ≤ 3000 := (nI_leI (b := 3000) (by omega) (by decide)).mp c12
    refine lv_iconst (v := 0) hx hb dX12_take_17 (by decide) ?_
    refine lv_istore_n (lv' := [(1, .int 0), (0, .ref o)]) hx hb dX12_take_18 rfl hl (by decide) rfl (fun ls hl => ?_)
    refine uLoop (σ := Nat) (fun xv H locs ls => (xv ≤ on) ∧ va_P (dC, dI) vwCl [(o, .inr (15, bF (va_up f 0 (.int 0)))), (tx, .inl (cT, 3000, .inl (cpI tf g xv))), (ou, .inl (cO, 12000, .inl g))] H ∧ va_D A [(o, .inr (15, bF (va_up f 0 (.int 0)))), (tx, .inl (cT, 3000, .inl (cpI tf g xv))), (ou, .inl (cO, 12000, .inl g))] ∧ va_S A s.heap H locs ∧ lv_has ls 2 [(0, .ref o), (1, .int (nI xv))]) (fun xv => on - xv) (fun xv H locs ls hI ih19 => ?_) (0) ⟨Nat.zero_le _, by rw [cpI_0]; exact hP, by rw [cpI_0]; exact hD, hS, lv_sub hl [1, 0] rfl⟩
    obtain ⟨i, hxv⟩ : ∃ z, z = xv := ⟨_, rfl⟩
    subst hxv
    obtain ⟨hi, hP, hD, hS, hl⟩ := hI
    have hi : i ≤ on := hi
    have hP : va_P (dC, dI) vwCl [(o, .inr (15, bF (va_up f 0 (.int 0)))), (tx, .inl (cT, 3000, .inl (cpI tf g i))), (ou, .inl (cO, 12000, .inl g))] H := hP
    have hD : va_D A [(o, .inr (15, bF (va_up f 0 (.int 0)))), (tx, .inl (cT, 3000, .inl (cpI tf g i))), (ou, .inl (cO, 12000, .inl g))] := hD
    have hl : lv_has ls 2 [(0, .ref o), (1, .int (nI i))] := hl
    refine lv_iload_n hx hb dX12_take_19 rfl (lv_at hl 1 rfl) ?_
    refine lv_aload_n hx hb dX12_take_20 rfl (lv_at hl 0 rfl) ?_
    refine va_get (D := (dC, dI)) (ci := 15) (v := .int (nI on)) (C := RX12) (T := TX12) (N := 136) hx hb hu iuX12 hown hK hP 0 rfl rfl 4 (by decide) (hu _ mG_2054) (fun _ h9 => h9) ((bF_get (by decide)).trans (congrArg some (h4))) dX12_take_21 ?_
    refine lv_icmp_ge (tgt := 45) hx hb dX12_take_24 (by decide) (fun c24 => ?_) (fun c24 => ?_)
    · have hik : i = on := by have h := (nI_leI (by omega) (by omega)).mp c24; omega
      rw [hik] at hP hD
      refine lv_aload_n hx hb dX12_take_45 rfl (lv_at hl 0 rfl) ?_
      refine lv_aload_n hx hb dX12_take_46 rfl (lv_at hl 0 rfl) ?_
      refine va_get (D := (dC, dI)) (ci := 15) (v := .int (nI on)) (C := RX12) (T := TX12) (N := 136) hx hb hu iuX12 hown hK hP 0 rfl rfl 4 (by decide) (hu _ mG_2054) (fun _ h9 => h9) ((bF_get (by decide)).trans (congrArg some (h4))) dX12_take_47 ?_
      refine va_put (D := (dC, dI)) (ci := 15) (v := .int (nI on)) (ty := (tyX12 2)) (C := RX12) (T := TX12) (N := 136) hx hb hu iuX12 tyX12 tyX12_ok nmX12 hown hK hP hD hS 0 rfl rfl 2 (by decide) (hu _ mG_2052) (fun _ h9 => h9) rfl (by decide +kernel) (rfl) (rfl) (by rw [bF_len]; decide) dX12_take_50 (fun H locs hP hD hS => ?_)
      rw [show (bF (va_up f 0 (.int 0))).set 2 (.int (nI on)) = bF (va_up (va_up f 0 (.int 0)) 2 (.int (nI on))) from bF_set (by decide)] at hP hD
      have hP : va_P (dC, dI) vwCl [(o, .inr (15, bF (va_up (va_up f 0 (.int 0)) 2 (.int (nI on))))), (tx, .inl (cT, 3000, .inl (cpI tf g on))), (ou, .inl (cO, 12000, .inl g))] H := hP
      have hD : va_D A [(o, .inr (15, bF (va_up (va_up f 0 (.int 0)) 2 (.int (nI on))))), (tx, .inl (cT, 3000, .inl (cpI tf g on))), (ou, .inl (cO, 12000, .inl g))] := hD
      refine lv_aload_n hx hb dX12_take_53 rfl (lv_at hl 0 rfl) ?_
      refine va_get (D := (dC, dI)) (ci := 15) (v := .int (nI on)) (C := RX12) (T := TX12) (N := 136) hx hb hu iuX12 hown hK hP 0 rfl rfl 2 (by decide) (hu _ mG_2052) (fun _ h9 => h9) ((bF_get (by decide)).trans (congrArg some (rfl))) dX12_take_54 ?_
      have hP9 : va_P (dC, dI) vwCl [(o, .inr (15, bF (if on ≤ 3000 then va_up (va_up f 0 (.int 0)) 2 (.int (nI on)) else va_up f 0 (.int 0)))), (tx, .inl (cT, 3000, .inl (if on ≤ 3000 then cpI tf g on else tf))), (ou, .inl (cO, 12000, .inl g))] H := by simp only [if_pos h12]; exact hP
      have hD9 : va_D A [(o, .inr (15, bF (if on ≤ 3000 then va_up (va_up f 0 (.int 0)) 2 (.int (nI on)) else va_up f 0 (.int 0)))), (tx, .inl (cT, 3000, .inl (if on ≤ 3000 then cpI tf g on else tf))), (ou, .inl (cO, 12000, .inl g))] := by simp only [if_pos h12]; exact hD
      have hK9 := hK.sub (tys' := [(cT, .int), (cO, .int)]) [0, 1] rfl
      exact W.iret (v := (nI on)) hx hb hr (fun t ht hW => ⟨⟨(nI on), (), rfl, by simp only [if_pos h12], by rw [ht]; exact hP9, va_K.moved hW.alike hK9, hD9⟩, hS.F ht⟩) hS.2.2 dX12_take_57
    · have hik : i < on := (nI_ltI (by omega) (by omega)).mp (Int32.not_le.mp c24)
      refine lv_aload_n hx hb dX12_take_27 rfl (lv_at hl 0 rfl) ?_
      refine va_get (D := (dC, dI)) (ci := 15) (v := .ref tx) (C := RX12) (T := TX12) (N := 136) hx hb hu iuX12 hown hK hP 0 rfl rfl 1 (by decide) (hu _ mG_2051) (fun _ h9 => h9) ((bF_get (by decide)).trans (congrArg some (h1))) dX12_take_28 ?_
      refine lv_iload_n hx hb dX12_take_31 rfl (lv_at hl 1 rfl) ?_
      refine lv_aload_n hx hb dX12_take_32 rfl (lv_at hl 0 rfl) ?_
      refine va_get (D := (dC, dI)) (ci := 15) (v := .ref ou) (C := RX12) (T := TX12) (N := 136) hx hb hu iuX12 hown hK hP 0 rfl rfl 3 (by decide) (hu _ mG_2053) (fun _ h9 => h9) ((bF_get (by decide)).trans (congrArg some (h3))) dX12_take_33 ?_
      refine lv_iload_n hx hb dX12_take_36 rfl (lv_at hl 1 rfl) ?_
      refine va_iald hx hb hK hP 2 1 rfl rfl (vp_in_nI (by omega) (by omega)) dX12_take_37 ?_
      rw [show (g ((nI i)).toNatClampNeg) = (g i) from by rw [nI_clamp (by omega)]]
      refine va_iast hx hb hK hP hD hS 1 0 rfl rfl (vp_in_nI (by omega) (by omega)) dX12_take_38 (fun H locs hP hD hS => ?_)
      rw [show (upd (cpI tf g i) ((nI i)).toNatClampNeg (g i)) = (cpI tf g (i + 1)) from by rw [nI_clamp (by omega), cpI_s]] at hP hD
      have hP : va_P (dC, dI) vwCl [(o, .inr (15, bF (va_up f 0 (.int 0)))), (tx, .inl (cT, 3000, .inl (cpI tf g (i + 1)))), (ou, .inl (cO, 12000, .inl g))] H := hP
      have hD : va_D A [(o, .inr (15, bF (va_up f 0 (.int 0)))), (tx, .inl (cT, 3000, .inl (cpI tf g (i + 1)))), (ou, .inl (cO, 12000, .inl g))] := hD
      refine lv_iinc (v := (nI (i + 1))) (lv' := [(1, .int (nI (i + 1))), (0, .ref o)]) hx hb dX12_take_39 hl (k := 1) rfl (nI_1 i) (by decide) rfl (fun ls hl => ?_)
      refine lv_goto (tgt := 19) hx hb dX12_take_42 (by decide) ?_
      exact ih19 ((i + 1)) _ _ _ ⟨by omega, hP, hD, hS, lv_sub hl [1, 0] rfl⟩ (by omega)
  · have h12 : ¬ on ≤ 3000 := fun h => c12 ((nI_leI (b := 3000) (by omega) (by decide)).mpr h)
    refine lv_iconst (v := (-1)) hx hb dX12_take_15 (by decide) ?_
    have hP9 : va_P (dC, dI) vwCl [(o, .inr (15, bF (if on ≤ 3000 then va_up (va_up f 0 (.int 0)) 2 (.int (nI on)) else va_up f 0 (.int 0)))), (tx, .inl (cT, 3000, .inl (if on ≤ 3000 then cpI tf g on else tf))), (ou, .inl (cO, 12000, .inl g))] H := by simp only [if_neg h12]; exact hP
    have hD9 : va_D A [(o, .inr (15, bF (if on ≤ 3000 then va_up (va_up f 0 (.int 0)) 2 (.int (nI on)) else va_up f 0 (.int 0)))), (tx, .inl (cT, 3000, .inl (if on ≤ 3000 then cpI tf g on else tf))), (ou, .inl (cO, 12000, .inl g))] := by simp only [if_neg h12]; exact hD
    have hK9 := hK.sub (tys' := [(cT, .int), (cO, .int)]) [0, 1] rfl
    exact W.iret (v := (-1)) hx hb hr (fun t ht hW => ⟨⟨(-1), (), rfl, by simp only [if_neg h12], by rw [ht]; exact hP9, va_K.moved hW.alike hK9, hD9⟩, hS.F ht⟩) hS.2.2 dX12_take_16
def okB (b : Nat) : Bool := decide (b = 0) || decide (b = 10) || (decide (32 ≤ b) && decide (b ≤ 126))
theorem okB_iff {b : Nat} : okB b = true ↔ okb b := by simp [okB, okb, or_assoc]
def gdN (s : Int32) : Nat → Bool
  | 0 => true
  | i + 1 => gdN s i && okB (pbN s i)
theorem gdN_iff {s : Int32} : ∀ i, gdN s i = true ↔ ∀ j, j < i → okb (pbN s j)
  | 0 => ⟨fun _ j h => absurd h (Nat.not_lt_zero _), fun _ => rfl⟩
  | i + 1 => by
    simp only [gdN, Bool.and_eq_true, okB_iff, gdN_iff i]
    exact ⟨fun h => ok_s h.1 h.2, fun h => ⟨fun j hj => h j (by omega), h i (by omega)⟩⟩
def bI (b : Bool) : Int32 := if b = true then 1 else 0
theorem bI_0 {b : Bool} (h : bI b = 0) : b = false := by cases b <;> simp [bI] at h ⊢
theorem bI_n {b : Bool} (h : ¬ bI b = 0) : b = true := by cases b <;> simp [bI] at h ⊢
theorem pb_model (s : Int32) (i : Nat) (hi : i < 4) : (s >>> (nI (8 * i) &&& 31)) &&& 255 = nI (pbN s i) := by
  have key : ∀ (sh : Int32) (k : Nat), k ≤ 24 → (sh.toBitVec.smod 32).toNat = k → (s >>> sh).toBitVec.toNat % 2 ^ 8 = s.toBitVec.toNat / 2 ^ k % 256 → (s >>> sh) &&& 255 = nI (s.toBitVec.toNat / 2 ^ k % 256) := fun sh k _ _ h => by
    rw [pk_and _ 8 (by decide), h]
  have hx : ∀ (sh : Int32) (k : Nat), (sh.toBitVec.smod 32).toNat = k → (k = 0 ∨ k = 8 ∨ k = 16 ∨ k = 24) → (s >>> sh).toBitVec.toNat % 2 ^ 8 = s.toBitVec.toNat / 2 ^ k % 256 := fun sh k hs hk => by
    have h1 : (s >>> sh).toBitVec.toInt = s.toBitVec.toInt >>> k := pk_shr s sh k hs
    rw [Int.shiftRight_eq_div_pow] at h1
    have a := BitVec.toInt_eq_toNat_cond (s >>> sh).toBitVec
    have b := BitVec.toInt_eq_toNat_cond s.toBitVec
    have l1 := (s >>> sh).toBitVec.isLt
    have l2 := s.toBitVec.isLt
    rw [h1, b] at a
    generalize (s >>> sh).toBitVec.toNat = p at *
    generalize s.toBitVec.toNat = q at *
    rcases hk with rfl | rfl | rfl | rfl <;> (split at a <;> split at a <;> simp at * <;> omega)
  rcases (show i = 0 ∨ i = 1 ∨ i = 2 ∨ i = 3 by omega) with rfl | rfl | rfl | rfl
  · exact key _ 0 (by decide) (by decide) (hx _ 0 (by decide) (by simp))
  · exact key _ 8 (by decide) (by decide) (hx _ 8 (by decide) (by simp))
  · exact key _ 16 (by decide) (by decide) (hx _ 16 (by decide) (by simp))
  · exact key _ 24 (by decide) (by decide) (hx _ 24 (by decide) (by simp))
theorem n8_l {i : Nat} (hi : i ≤ 4) (h : ¬ (32 : Int32) ≤ nI (8 * i)) : i < 4 := by have := (nI_ltI (b := 32) (by omega) (by decide)).mp (Int32.not_le.mp h); omega
theorem n8_g {i : Nat} (hi : i ≤ 4) (h : (32 : Int32) ≤ nI (8 * i)) : i = 4 := by have := (nI_leI (a := 32) (by decide) (by omega)).mp h; omega
theorem n8_s (i : Nat) : nI (8 * i) + 8 = nI (8 * (i + 1)) := by rw [show (8 : Int32) = nI 8 from rfl, nI_add]; rfl
theorem up_same {α : Type} (g : Nat → α) (k : Nat) (v : α) (h : g k = v) : va_up g k v = g := by funext j; simp only [va_up]; split <;> simp_all
def th_put (n : Nat) (sg : Int32) : Int32 := if bI (gdN sg 4) = 0 then 1 else if nI (n + cntN sg 4) ≤ 3000 then 0 else 2
set_option maxHeartbeats 4000000 in
set_option maxRecDepth 100000 in
/-- Model.put(sg) -/
theorem kX12_put (l : Launch) (dC : Nat → ClassId) (dI : Nat → Nat → Nat) (sz : Nat) (o tx n : Nat) (f : Nat → Value) (sg : Int32) (tf : Nat → Int32) (cT : ClassId) (h2 : f 2 = .int (nI n)) (h1 : f 1 = .ref tx) (hn : n ≤ 3000) : Met l yX12_put (Cond.code yX12_put cX12_put 6 (some .int) :: uG) ({ frames := 0, cells := 0, slots := 0, locals := 0 }) (va_Pc [.ref o, .int sg] (fun U => U.heap.size = sz ∧ va_P (dC, dI) vwCl [(o, .inr (15, bF f)), (tx, .inl (cT, 3000, .inl tf))] U.heap ∧ va_K (dC, dI) vwCl [(cT, .int)] U ∧ va_D (fun _ => True) [(o, .inr (15, bF f)), (tx, .inl (cT, 3000, .inl tf))])) (va_Qi (S := Unit) (fun r _ => r = (if th_put n sg = 0 then nI (n + cntN sg 4) else 0)) (fun _ t => va_P (dC, dI) vwCl [(o, .inr (15, bF (if th_put n sg = 0 then va_up (va_up f 0 (.int (th_put n sg))) 2 (.int (nI (n + cntN sg 4))) else va_up f 0 (.int (th_put n sg))))), (tx, .inl (cT, 3000, .inl (if th_put n sg = 0 then apN sg tf n 4 else tf)))] t.heap ∧ va_K (dC, dI) vwCl [(cT, .int)] t ∧ va_D (va_A [(o, .inr (15, bF f)), (tx, .inl (cT, 3000, .inl tf))] sz) [(o, .inr (15, bF (if th_put n sg = 0 then va_up (va_up f 0 (.int (th_put n sg))) 2 (.int (nI (n + cntN sg 4))) else va_up f 0 (.int (th_put n sg))))), (tx, .inl (cT, 3000, .inl (if th_put n sg = 0 then apN sg tf n 4 else tf)))]) (va_A [(o, .inr (15, bF f)), (tx, .inl (cT, 3000, .inl tf))] sz)) 0 0 (va_A [(o, .inr (15, bF f)), (tx, .inl (cT, 3000, .inl tf))] sz) := by
  refine Met.ofW (cc := cX12_put) (maxL := 6) (ret := (some .int)) (by decide) rfl ?_
  intro p e s m args below meth c s₁ B hml hv
  obtain ⟨rfl, hsz, hP, hK, hD0⟩ := hv
  have hx := B.exec
  have hb := B.bytes
  have hr := B.returns
  have hts := atoms_spec (ws := Cond.code yX12_put cX12_put 6 (some .int) :: uG) B.pre
  have hu := fun (w : Cond) (h : w ∈ uG) => hts w (List.mem_cons_of_mem _ h)
  have hown : s.vm.findClass RX12 = some m.cls := findClass_of_methodNamed B.named
  have hlocks := B.notSynchronized
  subst hsz
  have hD := hD0.self (sz := s.heap.size)
  generalize hAe : va_A [(o, .inr (15, bF f)), (tx, .inl (cT, 3000, .inl tf))] s.heap.size = A at hD ⊢
  have hA : ∀ q : Nat, s.heap.size ≤ q → A q := fun q h => by rw [← hAe]; exact Or.inr h
  have hS : va_S A s.heap s.heap [] := va_S.rf
  have hP : va_P (dC, dI) vwCl [(o, .inr (15, bF f)), (tx, .inl (cT, 3000, .inl tf))] s.heap := hP
  have hD : va_D A [(o, .inr (15, bF f)), (tx, .inl (cT, 3000, .inl tf))] := hD
  have hl := lv_entry ([.ref o, .int sg]) (n := 6) (Nat.le_of_ble_eq_true rfl)
  rw [lg_entry_eq]
  generalize (lg_sl ([.ref o, .int sg]) ++ List.replicate (6 - (lg_sl ([.ref o, .int sg])).length) Slot.unset).toArray = ls at hl ⊢
  have hl : lv_has ls 6 [(0, .ref o), (1, .int sg)] := hl
  refine lv_iconst (v := 0) hx hb dX12_put_0 (by decide) ?_
  refine lv_istore_n (lv' := [(2, .int 0), (0, .ref o), (1, .int sg)]) hx hb dX12_put_1 rfl hl (by decide) rfl (fun ls hl => ?_)
  refine lv_iconst (v := 1) hx hb dX12_put_2 (by decide) ?_
  refine lv_istore_n (lv' := [(3, .int 1), (2, .int 0), (0, .ref o), (1, .int sg)]) hx hb dX12_put_3 rfl hl (by decide) rfl (fun ls hl => ?_)
  refine lv_iconst (v := 0) hx hb dX12_put_4 (by decide) ?_
  refine lv_istore (lv' := [(4, .int 0), (3, .int 1), (2, .int 0), (0, .ref o), (1, .int sg)]) hx hb dX12_put_5 hl (by decide) rfl (fun ls hl => ?_)
  refine uLoop (σ := Nat) (fun xv H locs ls => (xv ≤ 4) ∧ va_P (dC, dI) vwCl [(o, .inr (15, bF f)), (tx, .inl (cT, 3000, .inl tf))] H ∧ va_D A [(o, .inr (15, bF f)), (tx, .inl (cT, 3000, .inl tf))] ∧ va_S A s.heap H locs ∧ lv_has ls 6 [(0, .ref o), (1, .int sg), (2, .int (nI (cntN sg xv))), (3, .int (bI (gdN sg xv))), (4, .int (nI (8 * xv)))]) (fun xv => 4 - xv) (fun xv H locs ls hI ih7 => ?_) (0) ⟨by omega, hP, hD, hS, lv_sub hl [3, 4, 2, 1, 0] rfl⟩
  obtain ⟨i, hxv⟩ : ∃ z, z = xv := ⟨_, rfl⟩
  subst hxv
  obtain ⟨hi, hP, hD, hS, hl⟩ := hI
  have hi : i ≤ 4 := hi
  have hP : va_P (dC, dI) vwCl [(o, .inr (15, bF f)), (tx, .inl (cT, 3000, .inl tf))] H := hP
  have hD : va_D A [(o, .inr (15, bF f)), (tx, .inl (cT, 3000, .inl tf))] := hD
  have hl : lv_has ls 6 [(0, .ref o), (1, .int sg), (2, .int (nI (cntN sg i))), (3, .int (bI (gdN sg i))), (4, .int (nI (8 * i)))] := hl
  refine lv_iload hx hb dX12_put_7 (lv_at hl 4 rfl) ?_
  refine lv_bipush (v := 32) hx hb dX12_put_9 (by decide) ?_
  refine lv_icmp_ge (tgt := 79) hx hb dX12_put_11 (by decide) (fun c11 => ?_) (fun c11 => ?_)
  · have hi4 : i = 4 := n8_g hi c11
    subst hi4
    refine lv_aload_n hx hb dX12_put_79 rfl (lv_at hl 0 rfl) ?_
    refine lv_iload_n hx hb dX12_put_80 rfl (lv_at hl 3 rfl) ?_
    refine lv_if_ne (tgt := 88) hx hb dX12_put_81 (by decide) (fun c81 => ?_) (fun c81 => ?_)
    · refine lv_aload_n hx hb dX12_put_88 rfl (lv_at hl 0 rfl) ?_
      refine va_get (D := (dC, dI)) (ci := 15) (v := .int (nI n)) (C := RX12) (T := TX12) (N := 136) hx hb hu iuX12 hown hK hP 0 rfl rfl 2 (by decide) (hu _ mG_2052) (fun _ h9 => h9) ((bF_get (by decide)).trans (congrArg some (h2))) dX12_put_89 ?_
      refine lv_iload_n hx hb dX12_put_92 rfl (lv_at hl 2 rfl) ?_
      refine lv_iadd hx hb dX12_put_93 ?_
      refine lv_topi (fun x93 ex93 => ?_)
      obtain rfl : x93 = (nI (n + cntN sg 4)) := by rw [ex93]; exact nI_add _ _
      refine lv_sipush (v := 3000) hx hb dX12_put_94 (by decide) ?_
      refine lv_icmp_le (tgt := 104) hx hb dX12_put_97 (by decide) (fun c97 => ?_) (fun c97 => ?_)
      · refine lv_iconst (v := 0) hx hb dX12_put_104 (by decide) ?_
        refine va_put (D := (dC, dI)) (ci := 15) (v := .int 0) (ty := (tyX12 0)) (C := RX12) (T := TX12) (N := 136) hx hb hu iuX12 tyX12 tyX12_ok nmX12 hown hK hP hD hS 0 rfl rfl 0 (by decide) (hu _ mG_2050) (fun _ h9 => h9) rfl (by decide +kernel) (rfl) (rfl) (by rw [bF_len]; decide) dX12_put_105 (fun H locs hP hD hS => ?_)
        rw [show (bF f).set 0 (.int 0) = bF (va_up f 0 (.int 0)) from bF_set (by decide)] at hP hD
        have hP : va_P (dC, dI) vwCl [(o, .inr (15, bF (va_up f 0 (.int 0)))), (tx, .inl (cT, 3000, .inl tf))] H := hP
        have hD : va_D A [(o, .inr (15, bF (va_up f 0 (.int 0)))), (tx, .inl (cT, 3000, .inl tf))] := hD
        refine lv_aload_n hx hb dX12_put_108 rfl (lv_at hl 0 rfl) ?_
        refine va_get (D := (dC, dI)) (ci := 15) (v := .int 0) (C := RX12) (T := TX12) (N := 136) hx hb hu iuX12 hown hK hP 0 rfl rfl 0 (by decide) (hu _ mG_2050) (fun _ h9 => h9) ((bF_get (by decide)).trans (congrArg some (rfl))) dX12_put_109 ?_
        refine lv_if_le (tgt := 117) hx hb dX12_put_112 (by decide) (fun c112 => ?_) (fun c112 => ?_)
        · refine lv_iconst (v := 0) hx hb dX12_put_117 (by decide) ?_
          refine lv_istore (lv' := [(4, .int 0), (0, .ref o), (1, .int sg), (2, .int (nI (cntN sg 4))), (3, .int (bI (gdN sg 4)))]) hx hb dX12_put_118 hl (by decide) rfl (fun ls hl => ?_)
          refine uLoop (σ := Nat) (fun xv H locs ls => (xv ≤ 4) ∧ va_P (dC, dI) vwCl [(o, .inr (15, bF (va_up (va_up f 0 (.int 0)) 2 (.int (nI (n + cntN sg xv)))))), (tx, .inl (cT, 3000, .inl (apN sg tf n xv)))] H ∧ va_D A [(o, .inr (15, bF (va_up (va_up f 0 (.int 0)) 2 (.int (nI (n + cntN sg xv)))))), (tx, .inl (cT, 3000, .inl (apN sg tf n xv)))] ∧ va_S A s.heap H locs ∧ lv_has ls 6 [(0, .ref o), (1, .int sg), (2, .int (nI (cntN sg 4))), (3, .int (bI (gdN sg 4))), (4, .int (nI (8 * xv)))]) (fun xv => 4 - xv) (fun xv H locs ls hI ih120 => ?_) (0) ⟨by omega, by rw [show va_up (va_up f 0 (.int 0)) 2 (.int (nI (n + cntN sg 0))) = va_up f 0 (.int 0) from up_same _ _ _ h2]; exact hP, by rw [show va_up (va_up f 0 (.int 0)) 2 (.int (nI (n + cntN sg 0))) = va_up f 0 (.int 0) from up_same _ _ _ h2]; exact hD, hS, lv_sub hl [1, 2, 3, 4, 0] rfl⟩
          obtain ⟨i, hxv⟩ : ∃ z, z = xv := ⟨_, rfl⟩
          subst hxv
          obtain ⟨hi, hP, hD, hS, hl⟩ := hI
          have hi : i ≤ 4 := hi
          have hP : va_P (dC, dI) vwCl [(o, .inr (15, bF (va_up (va_up f 0 (.int 0)) 2 (.int (nI (n + cntN sg i)))))), (tx, .inl (cT, 3000, .inl (apN sg tf n i)))] H := hP
          have hD : va_D A [(o, .inr (15, bF (va_up (va_up f 0 (.int 0)) 2 (.int (nI (n + cntN sg i)))))), (tx, .inl (cT, 3000, .inl (apN sg tf n i)))] := hD
          have hl : lv_has ls 6 [(0, .ref o), (1, .int sg), (2, .int (nI (cntN sg 4))), (3, .int (bI (gdN sg 4))), (4, .int (nI (8 * i)))] := hl
          have hcm : cntN sg (i + 1) ≤ cntN sg 4 ∨ i = 4 := by rcases Nat.lt_or_ge i 4 with h | h; exact Or.inl (cnt_mono sg (by omega)); exact Or.inr (by omega)
          refine lv_iload hx hb dX12_put_120 (lv_at hl 4 rfl) ?_
          refine lv_bipush (v := 32) hx hb dX12_put_122 (by decide) ?_
          refine lv_icmp_ge (tgt := 169) hx hb dX12_put_124 (by decide) (fun c124 => ?_) (fun c124 => ?_)
          · have hi4 : i = 4 := n8_g hi c124
            subst hi4
            refine lv_aload_n hx hb dX12_put_169 rfl (lv_at hl 0 rfl) ?_
            refine va_get (D := (dC, dI)) (ci := 15) (v := .int (nI (n + cntN sg 4))) (C := RX12) (T := TX12) (N := 136) hx hb hu iuX12 hown hK hP 0 rfl rfl 2 (by decide) (hu _ mG_2052) (fun _ h9 => h9) ((bF_get (by decide)).trans (congrArg some (rfl))) dX12_put_170 ?_
            have e9 : th_put n sg = 0 := by simp [th_put, c81, c97]
            have hP9 : va_P (dC, dI) vwCl [(o, .inr (15, bF (if th_put n sg = 0 then va_up (va_up f 0 (.int (th_put n sg))) 2 (.int (nI (n + cntN sg 4))) else va_up f 0 (.int (th_put n sg))))), (tx, .inl (cT, 3000, .inl (if th_put n sg = 0 then apN sg tf n 4 else tf)))] H := by rw [e9]; exact hP
            have hD9 : va_D A [(o, .inr (15, bF (if th_put n sg = 0 then va_up (va_up f 0 (.int (th_put n sg))) 2 (.int (nI (n + cntN sg 4))) else va_up f 0 (.int (th_put n sg))))), (tx, .inl (cT, 3000, .inl (if th_put n sg = 0 then apN sg tf n 4 else tf)))] := by rw [e9]; exact hD
            have hK9 := hK.sub (tys' := [(cT, .int)]) [0] rfl
            exact W.iret (v := (nI (n + cntN sg 4))) hx hb hr (fun t ht hW => ⟨⟨(nI (n + cntN sg 4)), (), rfl, by simp [e9], by rw [ht]; exact hP9, va_K.moved hW.alike hK9, hD9⟩, hS.F ht⟩) hS.2.2 dX12_put_173
          · have hi4 : i < 4 := n8_l hi c124
            refine lv_iload_n hx hb dX12_put_127 rfl (lv_at hl 1 rfl) ?_
            refine lv_iload hx hb dX12_put_128 (lv_at hl 4 rfl) ?_
            refine lv_ishr hx hb dX12_put_130 ?_
            refine lv_topi (fun x130 ex130 => ?_)
            refine lv_sipush (v := 255) hx hb dX12_put_131 (by decide) ?_
            refine lv_iand hx hb dX12_put_134 ?_
            refine lv_topi (fun x134 ex134 => ?_)
            obtain rfl : x134 = (nI (pbN sg i)) := by rw [ex134, ex130]; exact pb_model sg i hi4
            refine lv_istore (lv' := [(5, .int (nI (pbN sg i))), (0, .ref o), (1, .int sg), (2, .int (nI (cntN sg 4))), (3, .int (bI (gdN sg 4))), (4, .int (nI (8 * i)))]) hx hb dX12_put_135 hl (by decide) rfl (fun ls hl => ?_)
            refine lv_iload hx hb dX12_put_137 (lv_at hl 0 rfl) ?_
            refine lv_if_eq (tgt := 163) hx hb dX12_put_139 (by decide) (fun c139 => ?_) (fun c139 => ?_)
            · have hz := ok_0 (pbN_lt _ _) c139
              rw [← cnt_0 hz, ← ap_0 (f := tf) (n := n) hz] at hP hD
              have hP : va_P (dC, dI) vwCl [(o, .inr (15, bF (va_up (va_up f 0 (.int 0)) 2 (.int (nI (n + cntN sg (i + 1))))))), (tx, .inl (cT, 3000, .inl (apN sg tf n (i + 1))))] H := hP
              have hD : va_D A [(o, .inr (15, bF (va_up (va_up f 0 (.int 0)) 2 (.int (nI (n + cntN sg (i + 1))))))), (tx, .inl (cT, 3000, .inl (apN sg tf n (i + 1))))] := hD
              refine lv_iinc (v := (nI (8 * (i + 1)))) (lv' := [(4, .int (nI (8 * (i + 1)))), (5, .int (nI (pbN sg i))), (0, .ref o), (1, .int sg), (2, .int (nI (cntN sg 4))), (3, .int (bI (gdN sg 4)))]) hx hb dX12_put_163 hl (k := 5) rfl (n8_s i) (by decide) rfl (fun ls hl => ?_)
              refine lv_goto (tgt := 120) hx hb dX12_put_166 (by decide) ?_
              exact ih120 ((i + 1)) _ _ _ ⟨by omega, hP, hD, hS, lv_sub hl [2, 3, 4, 5, 0] rfl⟩ (by omega)
            · have hz : ¬ pbN sg i = 0 := fun h => c139 (by rw [h]; rfl)
              have hcc := cnt_1 hz
              have hle : n + cntN sg 4 ≤ 3000 := (nI_leI (b := 3000) (by have := cntN_le sg 4; omega) (by decide)).mp c97
              refine lv_aload_n hx hb dX12_put_142 rfl (lv_at hl 1 rfl) ?_
              refine va_get (D := (dC, dI)) (ci := 15) (v := .ref tx) (C := RX12) (T := TX12) (N := 136) hx hb hu iuX12 hown hK hP 0 rfl rfl 1 (by decide) (hu _ mG_2051) (fun _ h9 => h9) ((bF_get (by decide)).trans (congrArg some (h1))) dX12_put_143 ?_
              refine lv_aload_n hx hb dX12_put_146 rfl (lv_at hl 1 rfl) ?_
              refine va_get (D := (dC, dI)) (ci := 15) (v := .int (nI (n + cntN sg i))) (C := RX12) (T := TX12) (N := 136) hx hb hu iuX12 hown hK hP 0 rfl rfl 2 (by decide) (hu _ mG_2052) (fun _ h9 => h9) ((bF_get (by decide)).trans (congrArg some (rfl))) dX12_put_147 ?_
              refine lv_iload hx hb dX12_put_150 (lv_at hl 0 rfl) ?_
              refine va_iast hx hb hK hP hD hS 1 0 rfl rfl (vp_in_nI (by omega) (by decide)) dX12_put_152 (fun H locs hP hD hS => ?_)
              rw [show (upd (apN sg tf n i) ((nI (n + cntN sg i))).toNatClampNeg (nI (pbN sg i))) = (apN sg tf n (i + 1)) from by rw [nI_clamp (by omega), ap_1 hz]] at hP hD
              have hP : va_P (dC, dI) vwCl [(o, .inr (15, bF (va_up (va_up f 0 (.int 0)) 2 (.int (nI (n + cntN sg i)))))), (tx, .inl (cT, 3000, .inl (apN sg tf n (i + 1))))] H := hP
              have hD : va_D A [(o, .inr (15, bF (va_up (va_up f 0 (.int 0)) 2 (.int (nI (n + cntN sg i)))))), (tx, .inl (cT, 3000, .inl (apN sg tf n (i + 1))))] := hD
              refine lv_aload_n hx hb dX12_put_153 rfl (lv_at hl 1 rfl) ?_
              refine lv_dup hx hb dX12_put_154 rfl ?_
              refine va_get (D := (dC, dI)) (ci := 15) (v := .int (nI (n + cntN sg i))) (C := RX12) (T := TX12) (N := 136) hx hb hu iuX12 hown hK hP 0 rfl rfl 2 (by decide) (hu _ mG_2052) (fun _ h9 => h9) ((bF_get (by decide)).trans (congrArg some (rfl))) dX12_put_155 ?_
              refine lv_iconst (v := 1) hx hb dX12_put_158 (by decide) ?_
              refine lv_iadd hx hb dX12_put_159 ?_
              refine lv_topi (fun x159 ex159 => ?_)
              obtain rfl : x159 = (nI (n + cntN sg (i + 1))) := by rw [ex159, hcc]; exact nI_1 _
              refine va_put (D := (dC, dI)) (ci := 15) (v := .int (nI (n + cntN sg (i + 1)))) (ty := (tyX12 2)) (C := RX12) (T := TX12) (N := 136) hx hb hu iuX12 tyX12 tyX12_ok nmX12 hown hK hP hD hS 0 rfl rfl 2 (by decide) (hu _ mG_2052) (fun _ h9 => h9) rfl (by decide +kernel) (rfl) (rfl) (by rw [bF_len]; decide) dX12_put_160 (fun H locs hP hD hS => ?_)
              rw [show (bF (va_up (va_up f 0 (.int 0)) 2 (.int (nI (n + cntN sg i))))).set 2 (.int (nI (n + cntN sg (i + 1)))) = bF (va_up (va_up (va_up f 0 (.int 0)) 2 (.int (nI (n + cntN sg i)))) 2 (.int (nI (n + cntN sg (i + 1))))) from bF_set (by decide)] at hP hD
              have hP : va_P (dC, dI) vwCl [(o, .inr (15, bF (va_up (va_up (va_up f 0 (.int 0)) 2 (.int (nI (n + cntN sg i)))) 2 (.int (nI (n + cntN sg (i + 1))))))), (tx, .inl (cT, 3000, .inl (apN sg tf n (i + 1))))] H := hP
              have hD : va_D A [(o, .inr (15, bF (va_up (va_up (va_up f 0 (.int 0)) 2 (.int (nI (n + cntN sg i)))) 2 (.int (nI (n + cntN sg (i + 1))))))), (tx, .inl (cT, 3000, .inl (apN sg tf n (i + 1))))] := hD
              rw [bx_uu] at hP hD
              have hP : va_P (dC, dI) vwCl [(o, .inr (15, bF (va_up (va_up f 0 (.int 0)) 2 (.int (nI (n + cntN sg (i + 1))))))), (tx, .inl (cT, 3000, .inl (apN sg tf n (i + 1))))] H := hP
              have hD : va_D A [(o, .inr (15, bF (va_up (va_up f 0 (.int 0)) 2 (.int (nI (n + cntN sg (i + 1))))))), (tx, .inl (cT, 3000, .inl (apN sg tf n (i + 1))))] := hD
              refine lv_iinc (v := (nI (8 * (i + 1)))) (lv' := [(4, .int (nI (8 * (i + 1)))), (5, .int (nI (pbN sg i))), (0, .ref o), (1, .int sg), (2, .int (nI (cntN sg 4))), (3, .int (bI (gdN sg 4)))]) hx hb dX12_put_163 hl (k := 5) rfl (n8_s i) (by decide) rfl (fun ls hl => ?_)
              refine lv_goto (tgt := 120) hx hb dX12_put_166 (by decide) ?_
              exact ih120 ((i + 1)) _ _ _ ⟨by omega, hP, hD, hS, lv_sub hl [2, 3, 4, 5, 0] rfl⟩ (by omega)
        · exact absurd (by decide) c112
      · refine lv_iconst (v := 2) hx hb dX12_put_100 (by decide) ?_
        refine lv_goto (tgt := 105) hx hb dX12_put_101 (by decide) ?_
        refine va_put (D := (dC, dI)) (ci := 15) (v := .int 2) (ty := (tyX12 0)) (C := RX12) (T := TX12) (N := 136) hx hb hu iuX12 tyX12 tyX12_ok nmX12 hown hK hP hD hS 0 rfl rfl 0 (by decide) (hu _ mG_2050) (fun _ h9 => h9) rfl (by decide +kernel) (rfl) (rfl) (by rw [bF_len]; decide) dX12_put_105 (fun H locs hP hD hS => ?_)
        rw [show (bF f).set 0 (.int 2) = bF (va_up f 0 (.int 2)) from bF_set (by decide)] at hP hD
        have hP : va_P (dC, dI) vwCl [(o, .inr (15, bF (va_up f 0 (.int 2)))), (tx, .inl (cT, 3000, .inl tf))] H := hP
        have hD : va_D A [(o, .inr (15, bF (va_up f 0 (.int 2)))), (tx, .inl (cT, 3000, .inl tf))] := hD
        refine lv_aload_n hx hb dX12_put_108 rfl (lv_at hl 0 rfl) ?_
        refine va_get (D := (dC, dI)) (ci := 15) (v := .int 2) (C := RX12) (T := TX12) (N := 136) hx hb hu iuX12 hown hK hP 0 rfl rfl 0 (by decide) (hu _ mG_2050) (fun _ h9 => h9) ((bF_get (by decide)).trans (congrArg some (rfl))) dX12_put_109 ?_
        refine lv_if_le (tgt := 117) hx hb dX12_put_112 (by decide) (fun c112 => ?_) (fun c112 => ?_)
        · exact absurd c112 (by decide)
        · refine lv_iconst (v := 0) hx hb dX12_put_115 (by decide) ?_
          have e9 : th_put n sg = 2 := by simp [th_put, c81, c97]
          have hP9 : va_P (dC, dI) vwCl [(o, .inr (15, bF (if th_put n sg = 0 then va_up (va_up f 0 (.int (th_put n sg))) 2 (.int (nI (n + cntN sg 4))) else va_up f 0 (.int (th_put n sg))))), (tx, .inl (cT, 3000, .inl (if th_put n sg = 0 then apN sg tf n 4 else tf)))] H := by rw [e9]; simp only [if_neg (show ¬ (2 : Int32) = 0 by decide)]; exact hP
          have hD9 : va_D A [(o, .inr (15, bF (if th_put n sg = 0 then va_up (va_up f 0 (.int (th_put n sg))) 2 (.int (nI (n + cntN sg 4))) else va_up f 0 (.int (th_put n sg))))), (tx, .inl (cT, 3000, .inl (if th_put n sg = 0 then apN sg tf n 4 else tf)))] := by rw [e9]; simp only [if_neg (show ¬ (2 : Int32) = 0 by decide)]; exact hD
          have hK9 := hK.sub (tys' := [(cT, .int)]) [0] rfl
          exact W.iret (v := 0) hx hb hr (fun t ht hW => ⟨⟨0, (), rfl, by simp [e9], by rw [ht]; exact hP9, va_K.moved hW.alike hK9, hD9⟩, hS.F ht⟩) hS.2.2 dX12_put_116
    · refine lv_iconst (v := 1) hx hb dX12_put_84 (by decide) ?_
      refine lv_goto (tgt := 105) hx hb dX12_put_85 (by decide) ?_
      refine va_put (D := (dC, dI)) (ci := 15) (v := .int 1) (ty := (tyX12 0)) (C := RX12) (T := TX12) (N := 136) hx hb hu iuX12 tyX12 tyX12_ok nmX12 hown hK hP hD hS 0 rfl rfl 0 (by decide) (hu _ mG_2050) (fun _ h9 => h9) rfl (by decide +kernel) (rfl) (rfl) (by rw [bF_len]; decide) dX12_put_105 (fun H locs hP hD hS => ?_)
      rw [show (bF f).set 0 (.int 1) = bF (va_up f 0 (.int 1)) from bF_set (by decide)] at hP hD
      have hP : va_P (dC, dI) vwCl [(o, .inr (15, bF (va_up f 0 (.int 1)))), (tx, .inl (cT, 3000, .inl tf))] H := hP
      have hD : va_D A [(o, .inr (15, bF (va_up f 0 (.int 1)))), (tx, .inl (cT, 3000, .inl tf))] := hD
      refine lv_aload_n hx hb dX12_put_108 rfl (lv_at hl 0 rfl) ?_
      refine va_get (D := (dC, dI)) (ci := 15) (v := .int 1) (C := RX12) (T := TX12) (N := 136) hx hb hu iuX12 hown hK hP 0 rfl rfl 0 (by decide) (hu _ mG_2050) (fun _ h9 => h9) ((bF_get (by decide)).trans (congrArg some (rfl))) dX12_put_109 ?_
      refine lv_if_le (tgt := 117) hx hb dX12_put_112 (by decide) (fun c112 => ?_) (fun c112 => ?_)
      · exact absurd c112 (by decide)
      · refine lv_iconst (v := 0) hx hb dX12_put_115 (by decide) ?_
        have e9 : th_put n sg = 1 := by simp [th_put, c81]
        have hP9 : va_P (dC, dI) vwCl [(o, .inr (15, bF (if th_put n sg = 0 then va_up (va_up f 0 (.int (th_put n sg))) 2 (.int (nI (n + cntN sg 4))) else va_up f 0 (.int (th_put n sg))))), (tx, .inl (cT, 3000, .inl (if th_put n sg = 0 then apN sg tf n 4 else tf)))] H := by rw [e9]; simp only [if_neg (show ¬ (1 : Int32) = 0 by decide)]; exact hP
        have hD9 : va_D A [(o, .inr (15, bF (if th_put n sg = 0 then va_up (va_up f 0 (.int (th_put n sg))) 2 (.int (nI (n + cntN sg 4))) else va_up f 0 (.int (th_put n sg))))), (tx, .inl (cT, 3000, .inl (if th_put n sg = 0 then apN sg tf n 4 else tf)))] := by rw [e9]; simp only [if_neg (show ¬ (1 : Int32) = 0 by decide)]; exact hD
        have hK9 := hK.sub (tys' := [(cT, .int)]) [0] rfl
        exact W.iret (v := 0) hx hb hr (fun t ht hW => ⟨⟨0, (), rfl, by simp [e9], by rw [ht]; exact hP9, va_K.moved hW.alike hK9, hD9⟩, hS.F ht⟩) hS.2.2 dX12_put_116
  · have hi4 : i < 4 := n8_l hi c11
    refine lv_iload_n hx hb dX12_put_14 rfl (lv_at hl 1 rfl) ?_
    refine lv_iload hx hb dX12_put_15 (lv_at hl 4 rfl) ?_
    refine lv_ishr hx hb dX12_put_17 ?_
    refine lv_topi (fun x17 ex17 => ?_)
    refine lv_sipush (v := 255) hx hb dX12_put_18 (by decide) ?_
    refine lv_iand hx hb dX12_put_21 ?_
    refine lv_topi (fun x21 ex21 => ?_)
    obtain rfl : x21 = (nI (pbN sg i)) := by rw [ex21, ex17]; exact pb_model sg i hi4
    refine lv_istore (lv' := [(5, .int (nI (pbN sg i))), (0, .ref o), (1, .int sg), (2, .int (nI (cntN sg i))), (3, .int (bI (gdN sg i))), (4, .int (nI (8 * i)))]) hx hb dX12_put_22 hl (by decide) rfl (fun ls hl => ?_)
    refine lv_iload_n hx hb dX12_put_24 rfl (lv_at hl 4 rfl) ?_
    refine lv_if_eq (tgt := 58) hx hb dX12_put_25 (by decide) (fun c25 => ?_) (fun c25 => ?_)
    · refine lv_iconst (v := 0) hx hb dX12_put_58 (by decide) ?_
      refine lv_istore_n (lv' := [(3, .int 0), (5, .int (nI (pbN sg i))), (0, .ref o), (1, .int sg), (2, .int (nI (cntN sg i))), (4, .int (nI (8 * i)))]) hx hb dX12_put_59 rfl hl (by decide) rfl (fun ls hl => ?_)
      have h60 : bI (gdN sg (i + 1)) = 0 := by simp [gdN, bI_0 c25, bI]
      have hl : lv_has ls 6 [(3, .int (bI (gdN sg (i + 1)))), (5, .int (nI (pbN sg i))), (0, .ref o), (1, .int sg), (2, .int (nI (cntN sg i))), (4, .int (nI (8 * i)))] := by rw [h60]; exact hl
      refine lv_iload_n hx hb dX12_put_60 rfl (lv_at hl 4 rfl) ?_
      refine lv_iload hx hb dX12_put_61 (lv_at hl 1 rfl) ?_
      refine lv_if_ne (tgt := 70) hx hb dX12_put_63 (by decide) (fun c63 => ?_) (fun c63 => ?_)
      · have hz : ¬ pbN sg i = 0 := fun h => c63 (by rw [h]; rfl)
        refine lv_iconst (v := 1) hx hb dX12_put_70 (by decide) ?_
        refine lv_iadd hx hb dX12_put_71 ?_
        refine lv_topi (fun x71 ex71 => ?_)
        obtain rfl : x71 = (nI (cntN sg (i + 1))) := by rw [ex71, cnt_1 hz]; exact nI_1 _
        refine lv_istore_n (lv' := [(2, .int (nI (cntN sg (i + 1)))), (3, .int (bI (gdN sg (i + 1)))), (5, .int (nI (pbN sg i))), (0, .ref o), (1, .int sg), (4, .int (nI (8 * i)))]) hx hb dX12_put_72 rfl hl (by decide) rfl (fun ls hl => ?_)
        refine lv_iinc (v := (nI (8 * (i + 1)))) (lv' := [(4, .int (nI (8 * (i + 1)))), (2, .int (nI (cntN sg (i + 1)))), (3, .int (bI (gdN sg (i + 1)))), (5, .int (nI (pbN sg i))), (0, .ref o), (1, .int sg)]) hx hb dX12_put_73 hl (k := 5) rfl (n8_s i) (by decide) rfl (fun ls hl => ?_)
        refine lv_goto (tgt := 7) hx hb dX12_put_76 (by decide) ?_
        exact ih7 ((i + 1)) _ _ _ ⟨by omega, hP, hD, hS, lv_sub hl [4, 5, 1, 2, 0] rfl⟩ (by omega)
      · have hz := ok_0 (pbN_lt _ _) c63
        refine lv_iconst (v := 0) hx hb dX12_put_66 (by decide) ?_
        refine lv_goto (tgt := 71) hx hb dX12_put_67 (by decide) ?_
        refine lv_iadd hx hb dX12_put_71 ?_
        refine lv_topi (fun x71 ex71 => ?_)
        obtain rfl : x71 = (nI (cntN sg (i + 1))) := by rw [ex71, cnt_0 hz]; exact Int32.add_zero _
        refine lv_istore_n (lv' := [(2, .int (nI (cntN sg (i + 1)))), (3, .int (bI (gdN sg (i + 1)))), (5, .int (nI (pbN sg i))), (0, .ref o), (1, .int sg), (4, .int (nI (8 * i)))]) hx hb dX12_put_72 rfl hl (by decide) rfl (fun ls hl => ?_)
        refine lv_iinc (v := (nI (8 * (i + 1)))) (lv' := [(4, .int (nI (8 * (i + 1)))), (2, .int (nI (cntN sg (i + 1)))), (3, .int (bI (gdN sg (i + 1)))), (5, .int (nI (pbN sg i))), (0, .ref o), (1, .int sg)]) hx hb dX12_put_73 hl (k := 5) rfl (n8_s i) (by decide) rfl (fun ls hl => ?_)
        refine lv_goto (tgt := 7) hx hb dX12_put_76 (by decide) ?_
        exact ih7 ((i + 1)) _ _ _ ⟨by omega, hP, hD, hS, lv_sub hl [4, 5, 1, 2, 0] rfl⟩ (by omega)
    · refine lv_iload hx hb dX12_put_28 (lv_at hl 0 rfl) ?_
      refine lv_if_eq (tgt := 54) hx hb dX12_put_30 (by decide) (fun c30 => ?_) (fun c30 => ?_)
      · refine lv_iconst (v := 1) hx hb dX12_put_54 (by decide) ?_
        refine lv_goto (tgt := 59) hx hb dX12_put_55 (by decide) ?_
        refine lv_istore_n (lv' := [(3, .int 1), (5, .int (nI (pbN sg i))), (0, .ref o), (1, .int sg), (2, .int (nI (cntN sg i))), (4, .int (nI (8 * i)))]) hx hb dX12_put_59 rfl hl (by decide) rfl (fun ls hl => ?_)
        have h60 : bI (gdN sg (i + 1)) = 1 := by simp [gdN, bI_n c25, bI, okB, ok_0 (pbN_lt _ _) c30]
        have hl : lv_has ls 6 [(3, .int (bI (gdN sg (i + 1)))), (5, .int (nI (pbN sg i))), (0, .ref o), (1, .int sg), (2, .int (nI (cntN sg i))), (4, .int (nI (8 * i)))] := by rw [h60]; exact hl
        refine lv_iload_n hx hb dX12_put_60 rfl (lv_at hl 4 rfl) ?_
        refine lv_iload hx hb dX12_put_61 (lv_at hl 1 rfl) ?_
        refine lv_if_ne (tgt := 70) hx hb dX12_put_63 (by decide) (fun c63 => ?_) (fun c63 => ?_)
        · have hz : ¬ pbN sg i = 0 := fun h => c63 (by rw [h]; rfl)
          refine lv_iconst (v := 1) hx hb dX12_put_70 (by decide) ?_
          refine lv_iadd hx hb dX12_put_71 ?_
          refine lv_topi (fun x71 ex71 => ?_)
          obtain rfl : x71 = (nI (cntN sg (i + 1))) := by rw [ex71, cnt_1 hz]; exact nI_1 _
          refine lv_istore_n (lv' := [(2, .int (nI (cntN sg (i + 1)))), (3, .int (bI (gdN sg (i + 1)))), (5, .int (nI (pbN sg i))), (0, .ref o), (1, .int sg), (4, .int (nI (8 * i)))]) hx hb dX12_put_72 rfl hl (by decide) rfl (fun ls hl => ?_)
          refine lv_iinc (v := (nI (8 * (i + 1)))) (lv' := [(4, .int (nI (8 * (i + 1)))), (2, .int (nI (cntN sg (i + 1)))), (3, .int (bI (gdN sg (i + 1)))), (5, .int (nI (pbN sg i))), (0, .ref o), (1, .int sg)]) hx hb dX12_put_73 hl (k := 5) rfl (n8_s i) (by decide) rfl (fun ls hl => ?_)
          refine lv_goto (tgt := 7) hx hb dX12_put_76 (by decide) ?_
          exact ih7 ((i + 1)) _ _ _ ⟨by omega, hP, hD, hS, lv_sub hl [4, 5, 1, 2, 0] rfl⟩ (by omega)
        · have hz := ok_0 (pbN_lt _ _) c63
          refine lv_iconst (v := 0) hx hb dX12_put_66 (by decide) ?_
          refine lv_goto (tgt := 71) hx hb dX12_put_67 (by decide) ?_
          refine lv_iadd hx hb dX12_put_71 ?_
          refine lv_topi (fun x71 ex71 => ?_)
          obtain rfl : x71 = (nI (cntN sg (i + 1))) := by rw [ex71, cnt_0 hz]; exact Int32.add_zero _
          refine lv_istore_n (lv' := [(2, .int (nI (cntN sg (i + 1)))), (3, .int (bI (gdN sg (i + 1)))), (5, .int (nI (pbN sg i))), (0, .ref o), (1, .int sg), (4, .int (nI (8 * i)))]) hx hb dX12_put_72 rfl hl (by decide) rfl (fun ls hl => ?_)
          refine lv_iinc (v := (nI (8 * (i + 1)))) (lv' := [(4, .int (nI (8 * (i + 1)))), (2, .int (nI (cntN sg (i + 1)))), (3, .int (bI (gdN sg (i + 1)))), (5, .int (nI (pbN sg i))), (0, .ref o), (1, .int sg)]) hx hb dX12_put_73 hl (k := 5) rfl (n8_s i) (by decide) rfl (fun ls hl => ?_)
          refine lv_goto (tgt := 7) hx hb dX12_put_76 (by decide) ?_
          exact ih7 ((i + 1)) _ _ _ ⟨by omega, hP, hD, hS, lv_sub hl [4, 5, 1, 2, 0] rfl⟩ (by omega)
      · refine lv_iload hx hb dX12_put_33 (lv_at hl 0 rfl) ?_
        refine lv_bipush (v := 10) hx hb dX12_put_35 (by decide) ?_
        refine lv_icmp_eq (tgt := 54) hx hb dX12_put_37 (by decide) (fun c37 => ?_) (fun c37 => ?_)
        · refine lv_iconst (v := 1) hx hb dX12_put_54 (by decide) ?_
          refine lv_goto (tgt := 59) hx hb dX12_put_55 (by decide) ?_
          refine lv_istore_n (lv' := [(3, .int 1), (5, .int (nI (pbN sg i))), (0, .ref o), (1, .int sg), (2, .int (nI (cntN sg i))), (4, .int (nI (8 * i)))]) hx hb dX12_put_59 rfl hl (by decide) rfl (fun ls hl => ?_)
          have h60 : bI (gdN sg (i + 1)) = 1 := by simp [gdN, bI_n c25, bI, okB, ok_10 (pbN_lt _ _) c37]
          have hl : lv_has ls 6 [(3, .int (bI (gdN sg (i + 1)))), (5, .int (nI (pbN sg i))), (0, .ref o), (1, .int sg), (2, .int (nI (cntN sg i))), (4, .int (nI (8 * i)))] := by rw [h60]; exact hl
          refine lv_iload_n hx hb dX12_put_60 rfl (lv_at hl 4 rfl) ?_
          refine lv_iload hx hb dX12_put_61 (lv_at hl 1 rfl) ?_
          refine lv_if_ne (tgt := 70) hx hb dX12_put_63 (by decide) (fun c63 => ?_) (fun c63 => ?_)
          · have hz : ¬ pbN sg i = 0 := fun h => c63 (by rw [h]; rfl)
            refine lv_iconst (v := 1) hx hb dX12_put_70 (by decide) ?_
            refine lv_iadd hx hb dX12_put_71 ?_
            refine lv_topi (fun x71 ex71 => ?_)
            obtain rfl : x71 = (nI (cntN sg (i + 1))) := by rw [ex71, cnt_1 hz]; exact nI_1 _
            refine lv_istore_n (lv' := [(2, .int (nI (cntN sg (i + 1)))), (3, .int (bI (gdN sg (i + 1)))), (5, .int (nI (pbN sg i))), (0, .ref o), (1, .int sg), (4, .int (nI (8 * i)))]) hx hb dX12_put_72 rfl hl (by decide) rfl (fun ls hl => ?_)
            refine lv_iinc (v := (nI (8 * (i + 1)))) (lv' := [(4, .int (nI (8 * (i + 1)))), (2, .int (nI (cntN sg (i + 1)))), (3, .int (bI (gdN sg (i + 1)))), (5, .int (nI (pbN sg i))), (0, .ref o), (1, .int sg)]) hx hb dX12_put_73 hl (k := 5) rfl (n8_s i) (by decide) rfl (fun ls hl => ?_)
            refine lv_goto (tgt := 7) hx hb dX12_put_76 (by decide) ?_
            exact ih7 ((i + 1)) _ _ _ ⟨by omega, hP, hD, hS, lv_sub hl [4, 5, 1, 2, 0] rfl⟩ (by omega)
          · have hz := ok_0 (pbN_lt _ _) c63
            refine lv_iconst (v := 0) hx hb dX12_put_66 (by decide) ?_
            refine lv_goto (tgt := 71) hx hb dX12_put_67 (by decide) ?_
            refine lv_iadd hx hb dX12_put_71 ?_
            refine lv_topi (fun x71 ex71 => ?_)
            obtain rfl : x71 = (nI (cntN sg (i + 1))) := by rw [ex71, cnt_0 hz]; exact Int32.add_zero _
            refine lv_istore_n (lv' := [(2, .int (nI (cntN sg (i + 1)))), (3, .int (bI (gdN sg (i + 1)))), (5, .int (nI (pbN sg i))), (0, .ref o), (1, .int sg), (4, .int (nI (8 * i)))]) hx hb dX12_put_72 rfl hl (by decide) rfl (fun ls hl => ?_)
            refine lv_iinc (v := (nI (8 * (i + 1)))) (lv' := [(4, .int (nI (8 * (i + 1)))), (2, .int (nI (cntN sg (i + 1)))), (3, .int (bI (gdN sg (i + 1)))), (5, .int (nI (pbN sg i))), (0, .ref o), (1, .int sg)]) hx hb dX12_put_73 hl (k := 5) rfl (n8_s i) (by decide) rfl (fun ls hl => ?_)
            refine lv_goto (tgt := 7) hx hb dX12_put_76 (by decide) ?_
            exact ih7 ((i + 1)) _ _ _ ⟨by omega, hP, hD, hS, lv_sub hl [4, 5, 1, 2, 0] rfl⟩ (by omega)
        · refine lv_iload hx hb dX12_put_40 (lv_at hl 0 rfl) ?_
          refine lv_bipush (v := 32) hx hb dX12_put_42 (by decide) ?_
          refine lv_icmp_lt (tgt := 58) hx hb dX12_put_44 (by decide) (fun c44 => ?_) (fun c44 => ?_)
          · refine lv_iconst (v := 0) hx hb dX12_put_58 (by decide) ?_
            refine lv_istore_n (lv' := [(3, .int 0), (5, .int (nI (pbN sg i))), (0, .ref o), (1, .int sg), (2, .int (nI (cntN sg i))), (4, .int (nI (8 * i)))]) hx hb dX12_put_59 rfl hl (by decide) rfl (fun ls hl => ?_)
            have h60 : bI (gdN sg (i + 1)) = 0 := by have hno := fun h => ok_no (pbN_lt sg i) c30 c37 (Or.inl c44) (okB_iff.mp h); simp [gdN, bI, Bool.eq_false_iff.mpr hno]
            have hl : lv_has ls 6 [(3, .int (bI (gdN sg (i + 1)))), (5, .int (nI (pbN sg i))), (0, .ref o), (1, .int sg), (2, .int (nI (cntN sg i))), (4, .int (nI (8 * i)))] := by rw [h60]; exact hl
            refine lv_iload_n hx hb dX12_put_60 rfl (lv_at hl 4 rfl) ?_
            refine lv_iload hx hb dX12_put_61 (lv_at hl 1 rfl) ?_
            refine lv_if_ne (tgt := 70) hx hb dX12_put_63 (by decide) (fun c63 => ?_) (fun c63 => ?_)
            · have hz : ¬ pbN sg i = 0 := fun h => c63 (by rw [h]; rfl)
              refine lv_iconst (v := 1) hx hb dX12_put_70 (by decide) ?_
              refine lv_iadd hx hb dX12_put_71 ?_
              refine lv_topi (fun x71 ex71 => ?_)
              obtain rfl : x71 = (nI (cntN sg (i + 1))) := by rw [ex71, cnt_1 hz]; exact nI_1 _
              refine lv_istore_n (lv' := [(2, .int (nI (cntN sg (i + 1)))), (3, .int (bI (gdN sg (i + 1)))), (5, .int (nI (pbN sg i))), (0, .ref o), (1, .int sg), (4, .int (nI (8 * i)))]) hx hb dX12_put_72 rfl hl (by decide) rfl (fun ls hl => ?_)
              refine lv_iinc (v := (nI (8 * (i + 1)))) (lv' := [(4, .int (nI (8 * (i + 1)))), (2, .int (nI (cntN sg (i + 1)))), (3, .int (bI (gdN sg (i + 1)))), (5, .int (nI (pbN sg i))), (0, .ref o), (1, .int sg)]) hx hb dX12_put_73 hl (k := 5) rfl (n8_s i) (by decide) rfl (fun ls hl => ?_)
              refine lv_goto (tgt := 7) hx hb dX12_put_76 (by decide) ?_
              exact ih7 ((i + 1)) _ _ _ ⟨by omega, hP, hD, hS, lv_sub hl [4, 5, 1, 2, 0] rfl⟩ (by omega)
            · have hz := ok_0 (pbN_lt _ _) c63
              refine lv_iconst (v := 0) hx hb dX12_put_66 (by decide) ?_
              refine lv_goto (tgt := 71) hx hb dX12_put_67 (by decide) ?_
              refine lv_iadd hx hb dX12_put_71 ?_
              refine lv_topi (fun x71 ex71 => ?_)
              obtain rfl : x71 = (nI (cntN sg (i + 1))) := by rw [ex71, cnt_0 hz]; exact Int32.add_zero _
              refine lv_istore_n (lv' := [(2, .int (nI (cntN sg (i + 1)))), (3, .int (bI (gdN sg (i + 1)))), (5, .int (nI (pbN sg i))), (0, .ref o), (1, .int sg), (4, .int (nI (8 * i)))]) hx hb dX12_put_72 rfl hl (by decide) rfl (fun ls hl => ?_)
              refine lv_iinc (v := (nI (8 * (i + 1)))) (lv' := [(4, .int (nI (8 * (i + 1)))), (2, .int (nI (cntN sg (i + 1)))), (3, .int (bI (gdN sg (i + 1)))), (5, .int (nI (pbN sg i))), (0, .ref o), (1, .int sg)]) hx hb dX12_put_73 hl (k := 5) rfl (n8_s i) (by decide) rfl (fun ls hl => ?_)
              refine lv_goto (tgt := 7) hx hb dX12_put_76 (by decide) ?_
              exact ih7 ((i + 1)) _ _ _ ⟨by omega, hP, hD, hS, lv_sub hl [4, 5, 1, 2, 0] rfl⟩ (by omega)
          · refine lv_iload hx hb dX12_put_47 (lv_at hl 0 rfl) ?_
            refine lv_bipush (v := 126) hx hb dX12_put_49 (by decide) ?_
            refine lv_icmp_gt (tgt := 58) hx hb dX12_put_51 (by decide) (fun c51 => ?_) (fun c51 => ?_)
            · refine lv_iconst (v := 0) hx hb dX12_put_58 (by decide) ?_
              refine lv_istore_n (lv' := [(3, .int 0), (5, .int (nI (pbN sg i))), (0, .ref o), (1, .int sg), (2, .int (nI (cntN sg i))), (4, .int (nI (8 * i)))]) hx hb dX12_put_59 rfl hl (by decide) rfl (fun ls hl => ?_)
              have h60 : bI (gdN sg (i + 1)) = 0 := by have hno := fun h => ok_no (pbN_lt sg i) c30 c37 (Or.inr (Int32.not_le.mpr c51)) (okB_iff.mp h); simp [gdN, bI, Bool.eq_false_iff.mpr hno]
              have hl : lv_has ls 6 [(3, .int (bI (gdN sg (i + 1)))), (5, .int (nI (pbN sg i))), (0, .ref o), (1, .int sg), (2, .int (nI (cntN sg i))), (4, .int (nI (8 * i)))] := by rw [h60]; exact hl
              refine lv_iload_n hx hb dX12_put_60 rfl (lv_at hl 4 rfl) ?_
              refine lv_iload hx hb dX12_put_61 (lv_at hl 1 rfl) ?_
              refine lv_if_ne (tgt := 70) hx hb dX12_put_63 (by decide) (fun c63 => ?_) (fun c63 => ?_)
              · have hz : ¬ pbN sg i = 0 := fun h => c63 (by rw [h]; rfl)
                refine lv_iconst (v := 1) hx hb dX12_put_70 (by decide) ?_
                refine lv_iadd hx hb dX12_put_71 ?_
                refine lv_topi (fun x71 ex71 => ?_)
                obtain rfl : x71 = (nI (cntN sg (i + 1))) := by rw [ex71, cnt_1 hz]; exact nI_1 _
                refine lv_istore_n (lv' := [(2, .int (nI (cntN sg (i + 1)))), (3, .int (bI (gdN sg (i + 1)))), (5, .int (nI (pbN sg i))), (0, .ref o), (1, .int sg), (4, .int (nI (8 * i)))]) hx hb dX12_put_72 rfl hl (by decide) rfl (fun ls hl => ?_)
                refine lv_iinc (v := (nI (8 * (i + 1)))) (lv' := [(4, .int (nI (8 * (i + 1)))), (2, .int (nI (cntN sg (i + 1)))), (3, .int (bI (gdN sg (i + 1)))), (5, .int (nI (pbN sg i))), (0, .ref o), (1, .int sg)]) hx hb dX12_put_73 hl (k := 5) rfl (n8_s i) (by decide) rfl (fun ls hl => ?_)
                refine lv_goto (tgt := 7) hx hb dX12_put_76 (by decide) ?_
                exact ih7 ((i + 1)) _ _ _ ⟨by omega, hP, hD, hS, lv_sub hl [4, 5, 1, 2, 0] rfl⟩ (by omega)
              · have hz := ok_0 (pbN_lt _ _) c63
                refine lv_iconst (v := 0) hx hb dX12_put_66 (by decide) ?_
                refine lv_goto (tgt := 71) hx hb dX12_put_67 (by decide) ?_
                refine lv_iadd hx hb dX12_put_71 ?_
                refine lv_topi (fun x71 ex71 => ?_)
                obtain rfl : x71 = (nI (cntN sg (i + 1))) := by rw [ex71, cnt_0 hz]; exact Int32.add_zero _
                refine lv_istore_n (lv' := [(2, .int (nI (cntN sg (i + 1)))), (3, .int (bI (gdN sg (i + 1)))), (5, .int (nI (pbN sg i))), (0, .ref o), (1, .int sg), (4, .int (nI (8 * i)))]) hx hb dX12_put_72 rfl hl (by decide) rfl (fun ls hl => ?_)
                refine lv_iinc (v := (nI (8 * (i + 1)))) (lv' := [(4, .int (nI (8 * (i + 1)))), (2, .int (nI (cntN sg (i + 1)))), (3, .int (bI (gdN sg (i + 1)))), (5, .int (nI (pbN sg i))), (0, .ref o), (1, .int sg)]) hx hb dX12_put_73 hl (k := 5) rfl (n8_s i) (by decide) rfl (fun ls hl => ?_)
                refine lv_goto (tgt := 7) hx hb dX12_put_76 (by decide) ?_
                exact ih7 ((i + 1)) _ _ _ ⟨by omega, hP, hD, hS, lv_sub hl [4, 5, 1, 2, 0] rfl⟩ (by omega)
            · refine lv_iconst (v := 1) hx hb dX12_put_54 (by decide) ?_
              refine lv_goto (tgt := 59) hx hb dX12_put_55 (by decide) ?_
              refine lv_istore_n (lv' := [(3, .int 1), (5, .int (nI (pbN sg i))), (0, .ref o), (1, .int sg), (2, .int (nI (cntN sg i))), (4, .int (nI (8 * i)))]) hx hb dX12_put_59 rfl hl (by decide) rfl (fun ls hl => ?_)
              have h60 : bI (gdN sg (i + 1)) = 1 := by have hok := okB_iff.mpr (ok_r (pbN_lt sg i) c44 (Int32.not_lt.mp c51)); simp [gdN, bI, bI_n c25, hok]
              have hl : lv_has ls 6 [(3, .int (bI (gdN sg (i + 1)))), (5, .int (nI (pbN sg i))), (0, .ref o), (1, .int sg), (2, .int (nI (cntN sg i))), (4, .int (nI (8 * i)))] := by rw [h60]; exact hl
              refine lv_iload_n hx hb dX12_put_60 rfl (lv_at hl 4 rfl) ?_
              refine lv_iload hx hb dX12_put_61 (lv_at hl 1 rfl) ?_
              refine lv_if_ne (tgt := 70) hx hb dX12_put_63 (by decide) (fun c63 => ?_) (fun c63 => ?_)
              · have hz : ¬ pbN sg i = 0 := fun h => c63 (by rw [h]; rfl)
                refine lv_iconst (v := 1) hx hb dX12_put_70 (by decide) ?_
                refine lv_iadd hx hb dX12_put_71 ?_
                refine lv_topi (fun x71 ex71 => ?_)
                obtain rfl : x71 = (nI (cntN sg (i + 1))) := by rw [ex71, cnt_1 hz]; exact nI_1 _
                refine lv_istore_n (lv' := [(2, .int (nI (cntN sg (i + 1)))), (3, .int (bI (gdN sg (i + 1)))), (5, .int (nI (pbN sg i))), (0, .ref o), (1, .int sg), (4, .int (nI (8 * i)))]) hx hb dX12_put_72 rfl hl (by decide) rfl (fun ls hl => ?_)
                refine lv_iinc (v := (nI (8 * (i + 1)))) (lv' := [(4, .int (nI (8 * (i + 1)))), (2, .int (nI (cntN sg (i + 1)))), (3, .int (bI (gdN sg (i + 1)))), (5, .int (nI (pbN sg i))), (0, .ref o), (1, .int sg)]) hx hb dX12_put_73 hl (k := 5) rfl (n8_s i) (by decide) rfl (fun ls hl => ?_)
                refine lv_goto (tgt := 7) hx hb dX12_put_76 (by decide) ?_
                exact ih7 ((i + 1)) _ _ _ ⟨by omega, hP, hD, hS, lv_sub hl [4, 5, 1, 2, 0] rfl⟩ (by omega)
              · have hz := ok_0 (pbN_lt _ _) c63
                refine lv_iconst (v := 0) hx hb dX12_put_66 (by decide) ?_
                refine lv_goto (tgt := 71) hx hb dX12_put_67 (by decide) ?_
                refine lv_iadd hx hb dX12_put_71 ?_
                refine lv_topi (fun x71 ex71 => ?_)
                obtain rfl : x71 = (nI (cntN sg (i + 1))) := by rw [ex71, cnt_0 hz]; exact Int32.add_zero _
                refine lv_istore_n (lv' := [(2, .int (nI (cntN sg (i + 1)))), (3, .int (bI (gdN sg (i + 1)))), (5, .int (nI (pbN sg i))), (0, .ref o), (1, .int sg), (4, .int (nI (8 * i)))]) hx hb dX12_put_72 rfl hl (by decide) rfl (fun ls hl => ?_)
                refine lv_iinc (v := (nI (8 * (i + 1)))) (lv' := [(4, .int (nI (8 * (i + 1)))), (2, .int (nI (cntN sg (i + 1)))), (3, .int (bI (gdN sg (i + 1)))), (5, .int (nI (pbN sg i))), (0, .ref o), (1, .int sg)]) hx hb dX12_put_73 hl (k := 5) rfl (n8_s i) (by decide) rfl (fun ls hl => ?_)
                refine lv_goto (tgt := 7) hx hb dX12_put_76 (by decide) ?_
                exact ih7 ((i + 1)) _ _ _ ⟨by omega, hP, hD, hS, lv_sub hl [4, 5, 1, 2, 0] rfl⟩ (by omega)
