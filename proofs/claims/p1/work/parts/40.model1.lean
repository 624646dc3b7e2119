
theorem mG_2050 : Cond.fieldLink "LazyForgeModel" 251 "LazyForgeModel" "thrown" "I" ∈ uG := uG_at 2050 (by decide +kernel) (by decide +kernel)
theorem mG_2052 : Cond.fieldLink "LazyForgeModel" 254 "LazyForgeModel" "size" "I" ∈ uG := uG_at 2052 (by decide +kernel) (by decide +kernel)
theorem mG_2054 : Cond.fieldLink "LazyForgeModel" 777 "LazyForgeModel" "outSize" "I" ∈ uG := uG_at 2054 (by decide +kernel) (by decide +kernel)
theorem mG_2096 : Cond.fieldLink "LazyForgeModel" 486 "LazyForgeModel" "named" "I" ∈ uG := uG_at 2096 (by decide +kernel) (by decide +kernel)
theorem mG_2138 : Cond.fieldLink "LazyForgeModel" 570 "LazyForgeModel" "hasProgram" "Z" ∈ uG := uG_at 2138 (by decide +kernel) (by decide +kernel)
theorem mG_2139 : Cond.fieldLink "LazyForgeModel" 591 "LazyForgeModel" "lastFault" "I" ∈ uG := uG_at 2139 (by decide +kernel) (by decide +kernel)
theorem mG_2163 : Cond.fieldLink "LazyForgeModel" 760 "LazyForgeModel" "rowCounted" "I" ∈ uG := uG_at 2163 (by decide +kernel) (by decide +kernel)
theorem dX12_codeOf_0 : decode cX12_codeOf 0 = .ok (.aload_n 0, 1) := by decide +kernel
theorem dX12_codeOf_1 : decode cX12_codeOf 1 = .ok (.getfield 570, 3) := by decide +kernel
theorem dX12_codeOf_4 : decode cX12_codeOf 4 = .ok (.ifCond .ne 7, 3) := by decide +kernel
theorem dX12_codeOf_7 : decode cX12_codeOf 7 = .ok (.iconst 1, 1) := by decide +kernel
theorem dX12_codeOf_8 : decode cX12_codeOf 8 = .ok (.goto 20, 3) := by decide +kernel
theorem dX12_codeOf_11 : decode cX12_codeOf 11 = .ok (.iload_n 1, 1) := by decide +kernel
theorem dX12_codeOf_12 : decode cX12_codeOf 12 = .ok (.ifCond .lt 11, 3) := by decide +kernel
theorem dX12_codeOf_15 : decode cX12_codeOf 15 = .ok (.iload_n 1, 1) := by decide +kernel
theorem dX12_codeOf_16 : decode cX12_codeOf 16 = .ok (.aload_n 0, 1) := by decide +kernel
theorem dX12_codeOf_17 : decode cX12_codeOf 17 = .ok (.getfield 486, 3) := by decide +kernel
theorem dX12_codeOf_20 : decode cX12_codeOf 20 = .ok (.if_icmp .lt 7, 3) := by decide +kernel
theorem dX12_codeOf_23 : decode cX12_codeOf 23 = .ok (.iconst 2, 1) := by decide +kernel
theorem dX12_codeOf_24 : decode cX12_codeOf 24 = .ok (.goto 4, 3) := by decide +kernel
theorem dX12_codeOf_27 : decode cX12_codeOf 27 = .ok (.iconst 0, 1) := by decide +kernel
theorem dX12_codeOf_28 : decode cX12_codeOf 28 = .ok (.ireturn, 1) := by decide +kernel
theorem dX12_end_0 : decode cX12_end 0 = .ok (.aload_n 0, 1) := by decide +kernel
theorem dX12_end_1 : decode cX12_end 1 = .ok (.iload_n 1, 1) := by decide +kernel
theorem dX12_end_2 : decode cX12_end 2 = .ok (.ifCond .lt 11, 3) := by decide +kernel
theorem dX12_end_5 : decode cX12_end 5 = .ok (.iload_n 1, 1) := by decide +kernel
theorem dX12_end_6 : decode cX12_end 6 = .ok (.aload_n 0, 1) := by decide +kernel
theorem dX12_end_7 : decode cX12_end 7 = .ok (.getfield 254, 3) := by decide +kernel
theorem dX12_end_10 : decode cX12_end 10 = .ok (.if_icmp .le 7, 3) := by decide +kernel
theorem dX12_end_13 : decode cX12_end 13 = .ok (.iconst 1, 1) := by decide +kernel
theorem dX12_end_14 : decode cX12_end 14 = .ok (.goto 4, 3) := by decide +kernel
theorem dX12_end_17 : decode cX12_end 17 = .ok (.iconst 0, 1) := by decide +kernel
theorem dX12_end_18 : decode cX12_end 18 = .ok (.putfield 251, 3) := by decide +kernel
theorem dX12_end_21 : decode cX12_end 21 = .ok (.aload_n 0, 1) := by decide +kernel
theorem dX12_end_22 : decode cX12_end 22 = .ok (.getfield 251, 3) := by decide +kernel
theorem dX12_end_25 : decode cX12_end 25 = .ok (.ifCond .ne 8, 3) := by decide +kernel
theorem dX12_end_28 : decode cX12_end 28 = .ok (.aload_n 0, 1) := by decide +kernel
theorem dX12_end_29 : decode cX12_end 29 = .ok (.iload_n 1, 1) := by decide +kernel
theorem dX12_end_30 : decode cX12_end 30 = .ok (.putfield 254, 3) := by decide +kernel
theorem dX12_end_33 : decode cX12_end 33 = .ok (.return_, 1) := by decide +kernel
theorem dX12_fault_0 : decode cX12_fault 0 = .ok (.aload_n 0, 1) := by decide +kernel
theorem dX12_fault_1 : decode cX12_fault 1 = .ok (.iload_n 1, 1) := by decide +kernel
theorem dX12_fault_2 : decode cX12_fault 2 = .ok (.ifCond .lt 8, 3) := by decide +kernel
theorem dX12_fault_5 : decode cX12_fault 5 = .ok (.iload_n 1, 1) := by decide +kernel
theorem dX12_fault_6 : decode cX12_fault 6 = .ok (.iconst 1, 1) := by decide +kernel
theorem dX12_fault_7 : decode cX12_fault 7 = .ok (.if_icmp .le 7, 3) := by decide +kernel
theorem dX12_fault_10 : decode cX12_fault 10 = .ok (.iconst 1, 1) := by decide +kernel
theorem dX12_fault_11 : decode cX12_fault 11 = .ok (.goto 4, 3) := by decide +kernel
theorem dX12_fault_14 : decode cX12_fault 14 = .ok (.iconst 0, 1) := by decide +kernel
theorem dX12_fault_15 : decode cX12_fault 15 = .ok (.putfield 251, 3) := by decide +kernel
theorem dX12_fault_18 : decode cX12_fault 18 = .ok (.aload_n 0, 1) := by decide +kernel
theorem dX12_fault_19 : decode cX12_fault 19 = .ok (.getfield 251, 3) := by decide +kernel
theorem dX12_fault_22 : decode cX12_fault 22 = .ok (.ifCond .le 7, 3) := by decide +kernel
theorem dX12_fault_25 : decode cX12_fault 25 = .ok (.iconst 0, 1) := by decide +kernel
theorem dX12_fault_26 : decode cX12_fault 26 = .ok (.goto 18, 3) := by decide +kernel
theorem dX12_fault_29 : decode cX12_fault 29 = .ok (.iload_n 1, 1) := by decide +kernel
theorem dX12_fault_30 : decode cX12_fault 30 = .ok (.ifCond .ne 10, 3) := by decide +kernel
theorem dX12_fault_33 : decode cX12_fault 33 = .ok (.aload_n 0, 1) := by decide +kernel
theorem dX12_fault_34 : decode cX12_fault 34 = .ok (.getfield 591, 3) := by decide +kernel
theorem dX12_fault_37 : decode cX12_fault 37 = .ok (.goto 7, 3) := by decide +kernel
theorem dX12_fault_40 : decode cX12_fault 40 = .ok (.aload_n 0, 1) := by decide +kernel
theorem dX12_fault_41 : decode cX12_fault 41 = .ok (.getfield 187, 3) := by decide +kernel
theorem dX12_fault_44 : decode cX12_fault 44 = .ok (.ireturn, 1) := by decide +kernel
theorem dX12_letter_0 : decode cX12_letter 0 = .ok (.aload_n 0, 1) := by decide +kernel
theorem dX12_letter_1 : decode cX12_letter 1 = .ok (.iload_n 1, 1) := by decide +kernel
theorem dX12_letter_2 : decode cX12_letter 2 = .ok (.ifCond .ge 7, 3) := by decide +kernel
theorem dX12_letter_5 : decode cX12_letter 5 = .ok (.iconst 1, 1) := by decide +kernel
theorem dX12_letter_6 : decode cX12_letter 6 = .ok (.goto 4, 3) := by decide +kernel
theorem dX12_letter_9 : decode cX12_letter 9 = .ok (.iconst 0, 1) := by decide +kernel
theorem dX12_letter_10 : decode cX12_letter 10 = .ok (.putfield 251, 3) := by decide +kernel
theorem dX12_letter_13 : decode cX12_letter 13 = .ok (.aload_n 0, 1) := by decide +kernel
theorem dX12_letter_14 : decode cX12_letter 14 = .ok (.getfield 251, 3) := by decide +kernel
theorem dX12_letter_17 : decode cX12_letter 17 = .ok (.ifCond .le 7, 3) := by decide +kernel
theorem dX12_letter_20 : decode cX12_letter 20 = .ok (.iconst 0, 1) := by decide +kernel
theorem dX12_letter_21 : decode cX12_letter 21 = .ok (.goto 21, 3) := by decide +kernel
theorem dX12_letter_24 : decode cX12_letter 24 = .ok (.iload_n 1, 1) := by decide +kernel
theorem dX12_letter_25 : decode cX12_letter 25 = .ok (.aload_n 0, 1) := by decide +kernel
theorem dX12_letter_26 : decode cX12_letter 26 = .ok (.getfield 777, 3) := by decide +kernel
theorem dX12_letter_29 : decode cX12_letter 29 = .ok (.if_icmp .ge 12, 3) := by decide +kernel
theorem dX12_letter_32 : decode cX12_letter 32 = .ok (.aload_n 0, 1) := by decide +kernel
theorem dX12_letter_33 : decode cX12_letter 33 = .ok (.getfield 13, 3) := by decide +kernel
theorem dX12_letter_36 : decode cX12_letter 36 = .ok (.iload_n 1, 1) := by decide +kernel
theorem dX12_letter_37 : decode cX12_letter 37 = .ok (.iaload, 1) := by decide +kernel
theorem dX12_letter_38 : decode cX12_letter 38 = .ok (.goto 4, 3) := by decide +kernel
theorem dX12_letter_41 : decode cX12_letter 41 = .ok (.iconst (-1), 1) := by decide +kernel
theorem dX12_letter_42 : decode cX12_letter 42 = .ok (.ireturn, 1) := by decide +kernel
theorem dX12_number_0 : decode cX12_number 0 = .ok (.aload_n 0, 1) := by decide +kernel
theorem dX12_number_1 : decode cX12_number 1 = .ok (.iload_n 1, 1) := by decide +kernel
theorem dX12_number_2 : decode cX12_number 2 = .ok (.ifCond .lt 11, 3) := by decide +kernel
theorem dX12_number_5 : decode cX12_number 5 = .ok (.iload_n 1, 1) := by decide +kernel
theorem dX12_number_6 : decode cX12_number 6 = .ok (.aload_n 0, 1) := by decide +kernel
theorem dX12_number_7 : decode cX12_number 7 = .ok (.getfield 760, 3) := by decide +kernel
theorem dX12_number_10 : decode cX12_number 10 = .ok (.if_icmp .lt 7, 3) := by decide +kernel
theorem dX12_number_13 : decode cX12_number 13 = .ok (.iconst 1, 1) := by decide +kernel
theorem dX12_number_14 : decode cX12_number 14 = .ok (.goto 4, 3) := by decide +kernel
theorem dX12_number_17 : decode cX12_number 17 = .ok (.iconst 0, 1) := by decide +kernel
theorem dX12_number_18 : decode cX12_number 18 = .ok (.putfield 251, 3) := by decide +kernel
theorem dX12_number_21 : decode cX12_number 21 = .ok (.aload_n 0, 1) := by decide +kernel
theorem dX12_number_22 : decode cX12_number 22 = .ok (.getfield 251, 3) := by decide +kernel
theorem dX12_number_25 : decode cX12_number 25 = .ok (.ifCond .le 7, 3) := by decide +kernel
theorem dX12_number_28 : decode cX12_number 28 = .ok (.iconst 0, 1) := by decide +kernel
theorem dX12_number_29 : decode cX12_number 29 = .ok (.goto 9, 3) := by decide +kernel
theorem dX12_number_32 : decode cX12_number 32 = .ok (.aload_n 0, 1) := by decide +kernel
theorem dX12_number_33 : decode cX12_number 33 = .ok (.getfield 215, 3) := by decide +kernel
theorem dX12_number_36 : decode cX12_number 36 = .ok (.iload_n 1, 1) := by decide +kernel
theorem dX12_number_37 : decode cX12_number 37 = .ok (.iaload, 1) := by decide +kernel
theorem dX12_number_38 : decode cX12_number 38 = .ok (.ireturn, 1) := by decide +kernel
theorem dX12_thrown_0 : decode cX12_thrown 0 = .ok (.aload_n 0, 1) := by decide +kernel
theorem dX12_thrown_1 : decode cX12_thrown 1 = .ok (.getfield 251, 3) := by decide +kernel
theorem dX12_thrown_4 : decode cX12_thrown 4 = .ok (.ireturn, 1) := by decide +kernel
/-- the model's object: 136 fields, by a function -/
def bF (f : Nat → Value) : List Value := (List.range 136).map f
theorem bF_len {f : Nat → Value} : (bF f).length = 136 := by simp [bF]
theorem bF_get {f : Nat → Value} {k : Nat} (h : k < 136) : (bF f)[k]? = some (f k) := by simp [bF, h]
theorem bF_set {f : Nat → Value} {k : Nat} {v : Value} (h : k < 136) : (bF f).set k v = bF (va_up f k v) := by
  apply List.ext_getElem?
  intro j
  rw [List.getElem?_set, bF_len]
  by_cases hj : k = j
  · subst hj
    simp [h, bF_get h, va_up]
  · rw [if_neg hj]
    by_cases h2 : j < 136
    · rw [bF_get h2, bF_get h2]
      simp [va_up, Ne.symm hj]
    · simp [bF, h2]
set_option maxHeartbeats 4000000 in
set_option maxRecDepth 100000 in
/-- Model.thrown() -/
theorem kX12_thrown (l : Launch) (dC : Nat → ClassId) (dI : Nat → Nat → Nat) (sz : Nat) (o : Nat) (f : Nat → Value) (th : Int32) (h0 : f 0 = .int th) : Met l yX12_thrown (Cond.code yX12_thrown cX12_thrown 1 (some .int) :: uG) ({ frames := 0, cells := 0, slots := 0, locals := 0 }) (va_Pc [.ref o] (fun U => U.heap.size = sz ∧ va_P (dC, dI) vwCl [(o, .inr (15, bF f))] U.heap ∧ va_K (dC, dI) vwCl [] U ∧ va_D (fun _ => True) [(o, .inr (15, bF f))])) (va_Qi (S := Unit) (fun r _ => r = th) (fun _ t => va_P (dC, dI) vwCl [(o, .inr (15, bF f))] t.heap ∧ va_K (dC, dI) vwCl [] t ∧ va_D (va_A [(o, .inr (15, bF f))] sz) [(o, .inr (15, bF f))]) (va_A [(o, .inr (15, bF f))] sz)) 0 0 (va_A [(o, .inr (15, bF f))] sz) := by
  refine Met.ofW (cc := cX12_thrown) (maxL := 1) (ret := (some .int)) (by decide) rfl ?_
  intro p e s m args below meth c s₁ B hml hv
  obtain ⟨rfl, hsz, hP, hK, hD0⟩ := hv
  have hx := B.exec
  have hb := B.bytes
  have hr := B.returns
  have hts := atoms_spec (ws := Cond.code yX12_thrown cX12_thrown 1 (some .int) :: uG) B.pre
  have hu := fun (w : Cond) (h : w ∈ uG) => hts w (List.mem_cons_of_mem _ h)
  have hown : s.vm.findClass RX12 = some m.cls := findClass_of_methodNamed B.named
  have hlocks := B.notSynchronized
  subst hsz
  have hD := hD0.self (sz := s.heap.size)
  generalize hAe : va_A [(o, .inr (15, bF f))] s.heap.size = A at hD ⊢
  have hA : ∀ q : Nat, s.heap.size ≤ q → A q := fun q h => by rw [← hAe]; exact Or.inr h
  have hS : va_S A s.heap s.heap [] := va_S.rf
  have hP : va_P (dC, dI) vwCl [(o, .inr (15, bF f))] s.heap := hP
  have hD : va_D A [(o, .inr (15, bF f))] := hD
  have hl := lv_entry ([.ref o]) (n := 1) (Nat.le_of_ble_eq_true rfl)
  rw [lg_entry_eq]
  generalize (lg_sl ([.ref o]) ++ List.replicate (1 - (lg_sl ([.ref o])).length) Slot.unset).toArray = ls at hl ⊢
  have hl : lv_has ls 1 [(0, .ref o)] := hl
  refine lv_aload_n hx hb dX12_thrown_0 rfl (lv_at hl 0 rfl) ?_
  refine va_get (D := (dC, dI)) (ci := 15) (v := .int th) (C := RX12) (T := TX12) (N := 136) hx hb hu iuX12 hown hK hP 0 rfl rfl 0 (by decide) (hu _ mG_2050) (fun _ h9 => h9) ((bF_get (by decide)).trans (congrArg some (h0))) dX12_thrown_1 ?_
  have hP9 : va_P (dC, dI) vwCl [(o, .inr (15, bF f))] s.heap := by exact hP
  have hD9 : va_D A [(o, .inr (15, bF f))] := by exact hD
  have hK9 := hK.sub (tys' := []) [] rfl
  exact W.iret (v := th) hx hb hr (fun t ht hW => ⟨⟨th, (), rfl, rfl, by rw [ht]; exact hP9, va_K.moved hW.alike hK9, hD9⟩, hS.F ht⟩) hS.2.2 dX12_thrown_4
def th_end (n : Nat) (k : Int32) : Int32 := if k < 0 ∨ ¬ k ≤ nI n then 1 else 0
set_option maxHeartbeats 4000000 in
set_option maxRecDepth 100000 in
/-- Model.end(k) -/
theorem kX12_end (l : Launch) (dC : Nat → ClassId) (dI : Nat → Nat → Nat) (sz : Nat) (o : Nat) (f : Nat → Value) (n : Nat) (k : Int32) (h2 : f 2 = .int (nI n)) : Met l yX12_end (Cond.code yX12_end cX12_end 2 none :: uG) ({ frames := 0, cells := 0, slots := 0, locals := 0 }) (va_Pc [.ref o, .int k] (fun U => U.heap.size = sz ∧ va_P (dC, dI) vwCl [(o, .inr (15, bF f))] U.heap ∧ va_K (dC, dI) vwCl [] U ∧ va_D (fun _ => True) [(o, .inr (15, bF f))])) (va_Qv (S := Unit) (fun _ => True) (fun _ t => va_P (dC, dI) vwCl [(o, .inr (15, bF (if th_end n k = 0 then va_up (va_up f 0 (.int (th_end n k))) 2 (.int k) else va_up f 0 (.int (th_end n k)))))] t.heap ∧ va_K (dC, dI) vwCl [] t ∧ va_D (va_A [(o, .inr (15, bF f))] sz) [(o, .inr (15, bF (if th_end n k = 0 then va_up (va_up f 0 (.int (th_end n k))) 2 (.int k) else va_up f 0 (.int (th_end n k)))))]) (va_A [(o, .inr (15, bF f))] sz)) 0 0 (va_A [(o, .inr (15, bF f))] sz) := by
  refine Met.ofW (cc := cX12_end) (maxL := 2) (ret := none) (by decide) rfl ?_
  intro p e s m args below meth c s₁ B hml hv
  obtain ⟨rfl, hsz, hP, hK, hD0⟩ := hv
  have hx := B.exec
  have hb := B.bytes
  have hr := B.returns
  have hts := atoms_spec (ws := Cond.code yX12_end cX12_end 2 none :: uG) B.pre
  have hu := fun (w : Cond) (h : w ∈ uG) => hts w (List.mem_cons_of_mem _ h)
  have hown : s.vm.findClass RX12 = some m.cls := findClass_of_methodNamed B.named
  have hlocks := B.notSynchronized
  subst hsz
  have hD := hD0.self (sz := s.heap.size)
  generalize hAe : va_A [(o, .inr (15, bF f))] s.heap.size = A at hD ⊢
  have hA : ∀ q : Nat, s.heap.size ≤ q → A q := fun q h => by rw [← hAe]; exact Or.inr h
  have hS : va_S A s.heap s.heap [] := va_S.rf
  have hP : va_P (dC, dI) vwCl [(o, .inr (15, bF f))] s.heap := hP
  have hD : va_D A [(o, .inr (15, bF f))] := hD
  have hl := lv_entry ([.ref o, .int k]) (n := 2) (Nat.le_of_ble_eq_true rfl)
  rw [lg_entry_eq]
  generalize (lg_sl ([.ref o, .int k]) ++ List.replicate (2 - (lg_sl ([.ref o, .int k])).length) Slot.unset).toArray = ls at hl ⊢
  have hl : lv_has ls 2 [(0, .ref o), (1, .int k)] := hl
  refine lv_aload_n hx hb dX12_end_0 rfl (lv_at hl 0 rfl) ?_
  refine lv_iload_n hx hb dX12_end_1 rfl (lv_at hl 1 rfl) ?_
  refine lv_if_lt (tgt := 13) hx hb dX12_end_2 (by decide) (fun c2 => ?_) (fun c2 => ?_)
  · refine lv_iconst (v := 1) hx hb dX12_end_13 (by decide) ?_
    refine lv_goto (tgt := 18) hx hb dX12_end_14 (by decide) ?_
    refine va_put (D := (dC, dI)) (ci := 15) (v := .int 1) (ty := (tyX12 0)) (C := RX12) (T := TX12) (N := 136) hx hb hu iuX12 tyX12 tyX12_ok nmX12 hown hK hP hD hS 0 rfl rfl 0 (by decide) (hu _ mG_2050) (fun _ h9 => h9) rfl (by decide +kernel) (rfl) (rfl) (by rw [bF_len]; decide) dX12_end_18 (fun H locs hP hD hS => ?_)
    rw [show (bF f).set 0 (.int 1) = bF (va_up f 0 (.int 1)) from bF_set (by decide)] at hP hD
    have hP : va_P (dC, dI) vwCl [(o, .inr (15, bF (va_up f 0 (.int 1))))] H := hP
    have hD : va_D A [(o, .inr (15, bF (va_up f 0 (.int 1))))] := hD
    refine lv_aload_n hx hb dX12_end_21 rfl (lv_at hl 0 rfl) ?_
    refine va_get (D := (dC, dI)) (ci := 15) (v := .int 1) (C := RX12) (T := TX12) (N := 136) hx hb hu iuX12 hown hK hP 0 rfl rfl 0 (by decide) (hu _ mG_2050) (fun _ h9 => h9) ((bF_get (by decide)).trans (congrArg some (rfl))) dX12_end_22 ?_
    refine lv_if_ne (tgt := 33) hx hb dX12_end_25 (by decide) (fun c25 => ?_) (fun c25 => ?_)
    · have e9 : (th_end n k : Int32) = 1 := by simp [th_end, c2, c25]
      have hP9 : va_P (dC, dI) vwCl [(o, .inr (15, bF (if th_end n k = 0 then va_up (va_up f 0 (.int (th_end n k))) 2 (.int k) else va_up f 0 (.int (th_end n k)))))] H := by rw [e9]; simp only [if_neg (show ¬ (1 : Int32) = 0 by decide)]; exact hP
      have hD9 : va_D A [(o, .inr (15, bF (if th_end n k = 0 then va_up (va_up f 0 (.int (th_end n k))) 2 (.int k) else va_up f 0 (.int (th_end n k)))))] := by rw [e9]; simp only [if_neg (show ¬ (1 : Int32) = 0 by decide)]; exact hD
      have hK9 := hK.sub (tys' := []) [] rfl
      exact W.vret hx hb hr (fun t ht hW => ⟨⟨(), rfl, trivial, by rw [ht]; exact hP9, va_K.moved hW.alike hK9, hD9⟩, hS.F ht⟩) hS.2.2 dX12_end_33
    · exact absurd c25 (by decide)
  · refine lv_iload_n hx hb dX12_end_5 rfl (lv_at hl 1 rfl) ?_
    refine lv_aload_n hx hb dX12_end_6 rfl (lv_at hl 0 rfl) ?_
    refine va_get (D := (dC, dI)) (ci := 15) (v := .int (nI n)) (C := RX12) (T := TX12) (N := 136) hx hb hu iuX12 hown hK hP 0 rfl rfl 2 (by decide) (hu _ mG_2052) (fun _ h9 => h9) ((bF_get (by decide)).trans (congrArg some (h2))) dX12_end_7 ?_
    refine lv_icmp_le (tgt := 17) hx hb dX12_end_10 (by decide) (fun c10 => ?_) (fun c10 => ?_)
    · refine lv_iconst (v := 0) hx hb dX12_end_17 (by decide) ?_
      refine va_put (D := (dC, dI)) (ci := 15) (v := .int 0) (ty := (tyX12 0)) (C := RX12) (T := TX12) (N := 136) hx hb hu iuX12 tyX12 tyX12_ok nmX12 hown hK hP hD hS 0 rfl rfl 0 (by decide) (hu _ mG_2050) (fun _ h9 => h9) rfl (by decide +kernel) (rfl) (rfl) (by rw [bF_len]; decide) dX12_end_18 (fun H locs hP hD hS => ?_)
      rw [show (bF f).set 0 (.int 0) = bF (va_up f 0 (.int 0)) from bF_set (by decide)] at hP hD
      have hP : va_P (dC, dI) vwCl [(o, .inr (15, bF (va_up f 0 (.int 0))))] H := hP
      have hD : va_D A [(o, .inr (15, bF (va_up f 0 (.int 0))))] := hD
      refine lv_aload_n hx hb dX12_end_21 rfl (lv_at hl 0 rfl) ?_
      refine va_get (D := (dC, dI)) (ci := 15) (v := .int 0) (C := RX12) (T := TX12) (N := 136) hx hb hu iuX12 hown hK hP 0 rfl rfl 0 (by decide) (hu _ mG_2050) (fun _ h9 => h9) ((bF_get (by decide)).trans (congrArg some (rfl))) dX12_end_22 ?_
      refine lv_if_ne (tgt := 33) hx hb dX12_end_25 (by decide) (fun c25 => ?_) (fun c25 => ?_)
      · exact absurd (by decide) c25
      · refine lv_aload_n hx hb dX12_end_28 rfl (lv_at hl 0 rfl) ?_
        refine lv_iload_n hx hb dX12_end_29 rfl (lv_at hl 1 rfl) ?_
        refine va_put (D := (dC, dI)) (ci := 15) (v := .int k) (ty := (tyX12 2)) (C := RX12) (T := TX12) (N := 136) hx hb hu iuX12 tyX12 tyX12_ok nmX12 hown hK hP hD hS 0 rfl rfl 2 (by decide) (hu _ mG_2052) (fun _ h9 => h9) rfl (by decide +kernel) (rfl) (rfl) (by rw [bF_len]; decide) dX12_end_30 (fun H locs hP hD hS => ?_)
        rw [show (bF (va_up f 0 (.int 0))).set 2 (.int k) = bF (va_up (va_up f 0 (.int 0)) 2 (.int k)) from bF_set (by decide)] at hP hD
        have hP : va_P (dC, dI) vwCl [(o, .inr (15, bF (va_up (va_up f 0 (.int 0)) 2 (.int k))))] H := hP
        have hD : va_D A [(o, .inr (15, bF (va_up (va_up f 0 (.int 0)) 2 (.int k))))] := hD
        have e9 : (th_end n k : Int32) = 0 := by simp [th_end, c2, c10, c25]
        have hP9 : va_P (dC, dI) vwCl [(o, .inr (15, bF (if th_end n k = 0 then va_up (va_up f 0 (.int (th_end n k))) 2 (.int k) else va_up f 0 (.int (th_end n k)))))] H := by rw [e9]; simp only [if_pos]; exact hP
        have hD9 : va_D A [(o, .inr (15, bF (if th_end n k = 0 then va_up (va_up f 0 (.int (th_end n k))) 2 (.int k) else va_up f 0 (.int (th_end n k)))))] := by rw [e9]; simp only [if_pos]; exact hD
        have hK9 := hK.sub (tys' := []) [] rfl
        exact W.vret hx hb hr (fun t ht hW => ⟨⟨(), rfl, trivial, by rw [ht]; exact hP9, va_K.moved hW.alike hK9, hD9⟩, hS.F ht⟩) hS.2.2 dX12_end_33
    · refine lv_iconst (v := 1) hx hb dX12_end_13 (by decide) ?_
      refine lv_goto (tgt := 18) hx hb dX12_end_14 (by decide) ?_
      refine va_put (D := (dC, dI)) (ci := 15) (v := .int 1) (ty := (tyX12 0)) (C := RX12) (T := TX12) (N := 136) hx hb hu iuX12 tyX12 tyX12_ok nmX12 hown hK hP hD hS 0 rfl rfl 0 (by decide) (hu _ mG_2050) (fun _ h9 => h9) rfl (by decide +kernel) (rfl) (rfl) (by rw [bF_len]; decide) dX12_end_18 (fun H locs hP hD hS => ?_)
      rw [show (bF f).set 0 (.int 1) = bF (va_up f 0 (.int 1)) from bF_set (by decide)] at hP hD
      have hP : va_P (dC, dI) vwCl [(o, .inr (15, bF (va_up f 0 (.int 1))))] H := hP
      have hD : va_D A [(o, .inr (15, bF (va_up f 0 (.int 1))))] := hD
      refine lv_aload_n hx hb dX12_end_21 rfl (lv_at hl 0 rfl) ?_
      refine va_get (D := (dC, dI)) (ci := 15) (v := .int 1) (C := RX12) (T := TX12) (N := 136) hx hb hu iuX12 hown hK hP 0 rfl rfl 0 (by decide) (hu _ mG_2050) (fun _ h9 => h9) ((bF_get (by decide)).trans (congrArg some (rfl))) dX12_end_22 ?_
      refine lv_if_ne (tgt := 33) hx hb dX12_end_25 (by decide) (fun c25 => ?_) (fun c25 => ?_)
      · have e9 : (th_end n k : Int32) = 1 := by simp [th_end, c2, c10, c25]
        have hP9 : va_P (dC, dI) vwCl [(o, .inr (15, bF (if th_end n k = 0 then va_up (va_up f 0 (.int (th_end n k))) 2 (.int k) else va_up f 0 (.int (th_end n k)))))] H := by rw [e9]; simp only [if_neg (show ¬ (1 : Int32) = 0 by decide)]; exact hP
        have hD9 : va_D A [(o, .inr (15, bF (if th_end n k = 0 then va_up (va_up f 0 (.int (th_end n k))) 2 (.int k) else va_up f 0 (.int (th_end n k)))))] := by rw [e9]; simp only [if_neg (show ¬ (1 : Int32) = 0 by decide)]; exact hD
        have hK9 := hK.sub (tys' := []) [] rfl
        exact W.vret hx hb hr (fun t ht hW => ⟨⟨(), rfl, trivial, by rw [ht]; exact hP9, va_K.moved hW.alike hK9, hD9⟩, hS.F ht⟩) hS.2.2 dX12_end_33
      · exact absurd c25 (by decide)
def th_fault (k : Int32) : Int32 := if k < 0 ∨ ¬ k ≤ 1 then 1 else 0
set_option maxHeartbeats 4000000 in
set_option maxRecDepth 100000 in
/-- Model.fault(k) -/
theorem kX12_fault (l : Launch) (dC : Nat → ClassId) (dI : Nat → Nat → Nat) (sz : Nat) (o : Nat) (f : Nat → Value) (fk fp k : Int32) (h89 : f 89 = .int fk) (h90 : f 90 = .int fp) : Met l yX12_fault (Cond.code yX12_fault cX12_fault 2 (some .int) :: uG) ({ frames := 0, cells := 0, slots := 0, locals := 0 }) (va_Pc [.ref o, .int k] (fun U => U.heap.size = sz ∧ va_P (dC, dI) vwCl [(o, .inr (15, bF f))] U.heap ∧ va_K (dC, dI) vwCl [] U ∧ va_D (fun _ => True) [(o, .inr (15, bF f))])) (va_Qi (S := Unit) (fun r _ => r = (if th_fault k = 0 then (if k = 0 then fk else fp) else 0)) (fun _ t => va_P (dC, dI) vwCl [(o, .inr (15, bF (va_up f 0 (.int (th_fault k)))))] t.heap ∧ va_K (dC, dI) vwCl [] t ∧ va_D (va_A [(o, .inr (15, bF f))] sz) [(o, .inr (15, bF (va_up f 0 (.int (th_fault k)))))]) (va_A [(o, .inr (15, bF f))] sz)) 0 0 (va_A [(o, .inr (15, bF f))] sz) := by
  refine Met.ofW (cc := cX12_fault) (maxL := 2) (ret := (some .int)) (by decide) rfl ?_
  intro p e s m args below meth c s₁ B hml hv
  obtain ⟨rfl, hsz, hP, hK, hD0⟩ := hv
  have hx := B.exec
  have hb := B.bytes
  have hr := B.returns
  have hts := atoms_spec (ws := Cond.code yX12_fault cX12_fault 2 (some .int) :: uG) B.pre
  have hu := fun (w : Cond) (h : w ∈ uG) => hts w (List.mem_cons_of_mem _ h)
  have hown : s.vm.findClass RX12 = some m.cls := findClass_of_methodNamed B.named
  have hlocks := B.notSynchronized
  subst hsz
  have hD := hD0.self (sz := s.heap.size)
  generalize hAe : va_A [(o, .inr (15, bF f))] s.heap.size = A at hD ⊢
  have hA : ∀ q : Nat, s.heap.size ≤ q → A q := fun q h => by rw [← hAe]; exact Or.inr h
  have hS : va_S A s.heap s.heap [] := va_S.rf
  have hP : va_P (dC, dI) vwCl [(o, .inr (15, bF f))] s.heap := hP
  have hD : va_D A [(o, .inr (15, bF f))] := hD
  have hl := lv_entry ([.ref o, .int k]) (n := 2) (Nat.le_of_ble_eq_true rfl)
  rw [lg_entry_eq]
  generalize (lg_sl ([.ref o, .int k]) ++ List.replicate (2 - (lg_sl ([.ref o, .int k])).length) Slot.unset).toArray = ls at hl ⊢
  have hl : lv_has ls 2 [(0, .ref o), (1, .int k)] := hl
  refine lv_aload_n hx hb dX12_fault_0 rfl (lv_at hl 0 rfl) ?_
  refine lv_iload_n hx hb dX12_fault_1 rfl (lv_at hl 1 rfl) ?_
  refine lv_if_lt (tgt := 10) hx hb dX12_fault_2 (by decide) (fun c2 => ?_) (fun c2 => ?_)
  · refine lv_iconst (v := 1) hx hb dX12_fault_10 (by decide) ?_
    refine lv_goto (tgt := 15) hx hb dX12_fault_11 (by decide) ?_
    refine va_put (D := (dC, dI)) (ci := 15) (v := .int 1) (ty := (tyX12 0)) (C := RX12) (T := TX12) (N := 136) hx hb hu iuX12 tyX12 tyX12_ok nmX12 hown hK hP hD hS 0 rfl rfl 0 (by decide) (hu _ mG_2050) (fun _ h9 => h9) rfl (by decide +kernel) (rfl) (rfl) (by rw [bF_len]; decide) dX12_fault_15 (fun H locs hP hD hS => ?_)
    rw [show (bF f).set 0 (.int 1) = bF (va_up f 0 (.int 1)) from bF_set (by decide)] at hP hD
    have hP : va_P (dC, dI) vwCl [(o, .inr (15, bF (va_up f 0 (.int 1))))] H := hP
    have hD : va_D A [(o, .inr (15, bF (va_up f 0 (.int 1))))] := hD
    refine lv_aload_n hx hb dX12_fault_18 rfl (lv_at hl 0 rfl) ?_
    refine va_get (D := (dC, dI)) (ci := 15) (v := .int 1) (C := RX12) (T := TX12) (N := 136) hx hb hu iuX12 hown hK hP 0 rfl rfl 0 (by decide) (hu _ mG_2050) (fun _ h9 => h9) ((bF_get (by decide)).trans (congrArg some (rfl))) dX12_fault_19 ?_
    refine lv_if_le (tgt := 29) hx hb dX12_fault_22 (by decide) (fun c22 => ?_) (fun c22 => ?_)
    · exact absurd c22 (by decide)
    · refine lv_iconst (v := 0) hx hb dX12_fault_25 (by decide) ?_
      refine lv_goto (tgt := 44) hx hb dX12_fault_26 (by decide) ?_
      have e9 : (th_fault k : Int32) = 1 := by simp [th_fault, c2, c22]
      have hP9 : va_P (dC, dI) vwCl [(o, .inr (15, bF (va_up f 0 (.int (th_fault k)))))] H := by rw [e9]; exact hP
      have hD9 : va_D A [(o, .inr (15, bF (va_up f 0 (.int (th_fault k)))))] := by rw [e9]; exact hD
      have hK9 := hK.sub (tys' := []) [] rfl
      exact W.iret (v := 0) hx hb hr (fun t ht hW => ⟨⟨0, (), rfl, by simp [th_fault, c2, c22], by rw [ht]; exact hP9, va_K.moved hW.alike hK9, hD9⟩, hS.F ht⟩) hS.2.2 dX12_fault_44
  · refine lv_iload_n hx hb dX12_fault_5 rfl (lv_at hl 1 rfl) ?_
    refine lv_iconst (v := 1) hx hb dX12_fault_6 (by decide) ?_
    refine lv_icmp_le (tgt := 14) hx hb dX12_fault_7 (by decide) (fun c7 => ?_) (fun c7 => ?_)
    · refine lv_iconst (v := 0) hx hb dX12_fault_14 (by decide) ?_
      refine va_put (D := (dC, dI)) (ci := 15) (v := .int 0) (ty := (tyX12 0)) (C := RX12) (T := TX12) (N := 136) hx hb hu iuX12 tyX12 tyX12_ok nmX12 hown hK hP hD hS 0 rfl rfl 0 (by decide) (hu _ mG_2050) (fun _ h9 => h9) rfl (by decide +kernel) (rfl) (rfl) (by rw [bF_len]; decide) dX12_fault_15 (fun H locs hP hD hS => ?_)
      rw [show (bF f).set 0 (.int 0) = bF (va_up f 0 (.int 0)) from bF_set (by decide)] at hP hD
      have hP : va_P (dC, dI) vwCl [(o, .inr (15, bF (va_up f 0 (.int 0))))] H := hP
      have hD : va_D A [(o, .inr (15, bF (va_up f 0 (.int 0))))] := hD
      refine lv_aload_n hx hb dX12_fault_18 rfl (lv_at hl 0 rfl) ?_
      refine va_get (D := (dC, dI)) (ci := 15) (v := .int 0) (C := RX12) (T := TX12) (N := 136) hx hb hu iuX12 hown hK hP 0 rfl rfl 0 (by decide) (hu _ mG_2050) (fun _ h9 => h9) ((bF_get (by decide)).trans (congrArg some (rfl))) dX12_fault_19 ?_
      refine lv_if_le (tgt := 29) hx hb dX12_fault_22 (by decide) (fun c22 => ?_) (fun c22 => ?_)
      · refine lv_iload_n hx hb dX12_fault_29 rfl (lv_at hl 1 rfl) ?_
        refine lv_if_ne (tgt := 40) hx hb dX12_fault_30 (by decide) (fun c30 => ?_) (fun c30 => ?_)
        · refine lv_aload_n hx hb dX12_fault_40 rfl (lv_at hl 0 rfl) ?_
          refine va_get (D := (dC, dI)) (ci := 15) (v := .int fp) (C := RX12) (T := TX12) (N := 136) hx hb hu iuX12 hown hK hP 0 rfl rfl 90 (by decide) (hu _ mG_2140) (fun _ h9 => h9) ((bF_get (by decide)).trans (congrArg some (h90))) dX12_fault_41 ?_
          have e9 : (th_fault k : Int32) = 0 := by simp [th_fault, c2, c7, c22, c30]
          have hP9 : va_P (dC, dI) vwCl [(o, .inr (15, bF (va_up f 0 (.int (th_fault k)))))] H := by rw [e9]; exact hP
          have hD9 : va_D A [(o, .inr (15, bF (va_up f 0 (.int (th_fault k)))))] := by rw [e9]; exact hD
          have hK9 := hK.sub (tys' := []) [] rfl
          exact W.iret (v := fp) hx hb hr (fun t ht hW => ⟨⟨fp, (), rfl, by simp [th_fault, c2, c7, c22, c30], by rw [ht]; exact hP9, va_K.moved hW.alike hK9, hD9⟩, hS.F ht⟩) hS.2.2 dX12_fault_44
        · refine lv_aload_n hx hb dX12_fault_33 rfl (lv_at hl 0 rfl) ?_
          refine va_get (D := (dC, dI)) (ci := 15) (v := .int fk) (C := RX12) (T := TX12) (N := 136) hx hb hu iuX12 hown hK hP 0 rfl rfl 89 (by decide) (hu _ mG_2139) (fun _ h9 => h9) ((bF_get (by decide)).trans (congrArg some (h89))) dX12_fault_34 ?_
          refine lv_goto (tgt := 44) hx hb dX12_fault_37 (by decide) ?_
          have e9 : (th_fault k : Int32) = 0 := by simp [th_fault, c2, c7, c22, c30]
          have hP9 : va_P (dC, dI) vwCl [(o, .inr (15, bF (va_up f 0 (.int (th_fault k)))))] H := by rw [e9]; exact hP
          have hD9 : va_D A [(o, .inr (15, bF (va_up f 0 (.int (th_fault k)))))] := by rw [e9]; exact hD
          have hK9 := hK.sub (tys' := []) [] rfl
          exact W.iret (v := fk) hx hb hr (fun t ht hW => ⟨⟨fk, (), rfl, by simp [th_fault, c2, c7, c22, c30], by rw [ht]; exact hP9, va_K.moved hW.alike hK9, hD9⟩, hS.F ht⟩) hS.2.2 dX12_fault_44
      · exact absurd (by decide) c22
    · refine lv_iconst (v := 1) hx hb dX12_fault_10 (by decide) ?_
      refine lv_goto (tgt := 15) hx hb dX12_fault_11 (by decide) ?_
      refine va_put (D := (dC, dI)) (ci := 15) (v := .int 1) (ty := (tyX12 0)) (C := RX12) (T := TX12) (N := 136) hx hb hu iuX12 tyX12 tyX12_ok nmX12 hown hK hP hD hS 0 rfl rfl 0 (by decide) (hu _ mG_2050) (fun _ h9 => h9) rfl (by decide +kernel) (rfl) (rfl) (by rw [bF_len]; decide) dX12_fault_15 (fun H locs hP hD hS => ?_)
      rw [show (bF f).set 0 (.int 1) = bF (va_up f 0 (.int 1)) from bF_set (by decide)] at hP hD
      have hP : va_P (dC, dI) vwCl [(o, .inr (15, bF (va_up f 0 (.int 1))))] H := hP
      have hD : va_D A [(o, .inr (15, bF (va_up f 0 (.int 1))))] := hD
      refine lv_aload_n hx hb dX12_fault_18 rfl (lv_at hl 0 rfl) ?_
      refine va_get (D := (dC, dI)) (ci := 15) (v := .int 1) (C := RX12) (T := TX12) (N := 136) hx hb hu iuX12 hown hK hP 0 rfl rfl 0 (by decide) (hu _ mG_2050) (fun _ h9 => h9) ((bF_get (by decide)).trans (congrArg some (rfl))) dX12_fault_19 ?_
      refine lv_if_le (tgt := 29) hx hb dX12_fault_22 (by decide) (fun c22 => ?_) (fun c22 => ?_)
      · exact absurd c22 (by decide)
      · refine lv_iconst (v := 0) hx hb dX12_fault_25 (by decide) ?_
        refine lv_goto (tgt := 44) hx hb dX12_fault_26 (by decide) ?_
        have e9 : (th_fault k : Int32) = 1 := by simp [th_fault, c2, c7, c22]
        have hP9 : va_P (dC, dI) vwCl [(o, .inr (15, bF (va_up f 0 (.int (th_fault k)))))] H := by rw [e9]; exact hP
        have hD9 : va_D A [(o, .inr (15, bF (va_up f 0 (.int (th_fault k)))))] := by rw [e9]; exact hD
        have hK9 := hK.sub (tys' := []) [] rfl
        exact W.iret (v := 0) hx hb hr (fun t ht hW => ⟨⟨0, (), rfl, by simp [th_fault, c2, c7, c22], by rw [ht]; exact hP9, va_K.moved hW.alike hK9, hD9⟩, hS.F ht⟩) hS.2.2 dX12_fault_44
def th_letter (k : Int32) : Int32 := if 0 ≤ k then 0 else 1
set_option maxHeartbeats 4000000 in
set_option maxRecDepth 100000 in
/-- Model.letter(k) -/
theorem kX12_letter (l : Launch) (dC : Nat → ClassId) (dI : Nat → Nat → Nat) (sz : Nat) (o ou n : Nat) (f : Nat → Value) (g : Nat → Int32) (cO : ClassId) (k : Int32) (h4 : f 4 = .int (nI n)) (h3 : f 3 = .ref ou) (hn : n ≤ 12000) : Met l yX12_letter (Cond.code yX12_letter cX12_letter 2 (some .int) :: uG) ({ frames := 0, cells := 0, slots := 0, locals := 0 }) (va_Pc [.ref o, .int k] (fun U => U.heap.size = sz ∧ va_P (dC, dI) vwCl [(o, .inr (15, bF f)), (ou, .inl (cO, 12000, .inl g))] U.heap ∧ va_K (dC, dI) vwCl [(cO, .int)] U ∧ va_D (fun _ => True) [(o, .inr (15, bF f)), (ou, .inl (cO, 12000, .inl g))])) (va_Qi (S := Unit) (fun r _ => r = (if 0 ≤ k then (if nI n ≤ k then (-1) else g k.toNatClampNeg) else 0)) (fun _ t => va_P (dC, dI) vwCl [(o, .inr (15, bF (va_up f 0 (.int (th_letter k))))), (ou, .inl (cO, 12000, .inl g))] t.heap ∧ va_K (dC, dI) vwCl [(cO, .int)] t ∧ va_D (va_A [(o, .inr (15, bF f)), (ou, .inl (cO, 12000, .inl g))] sz) [(o, .inr (15, bF (va_up f 0 (.int (th_letter k))))), (ou, .inl (cO, 12000, .inl g))]) (va_A [(o, .inr (15, bF f)), (ou, .inl (cO, 12000, .inl g))] sz)) 0 0 (va_A [(o, .inr (15, bF f)), (ou, .inl (cO, 12000, .inl g))] sz) := by
  refine Met.ofW (cc := cX12_letter) (maxL := 2) (ret := (some .int)) (by decide) rfl ?_
  intro p e s m args below meth c s₁ B hml hv
  obtain ⟨rfl, hsz, hP, hK, hD0⟩ := hv
  have hx := B.exec
  have hb := B.bytes
  have hr := B.returns
  have hts := atoms_spec (ws := Cond.code yX12_letter cX12_letter 2 (some .int) :: uG) B.pre
  have hu := fun (w : Cond) (h : w ∈ uG) => hts w (List.mem_cons_of_mem _ h)
  have hown : s.vm.findClass RX12 = some m.cls := findClass_of_methodNamed B.named
  have hlocks := B.notSynchronized
  subst hsz
  have hD := hD0.self (sz := s.heap.size)
  generalize hAe : va_A [(o, .inr (15, bF f)), (ou, .inl (cO, 12000, .inl g))] s.heap.size = A at hD ⊢
  have hA : ∀ q : Nat, s.heap.size ≤ q → A q := fun q h => by rw [← hAe]; exact Or.inr h
  have hS : va_S A s.heap s.heap [] := va_S.rf
  have hP : va_P (dC, dI) vwCl [(o, .inr (15, bF f)), (ou, .inl (cO, 12000, .inl g))] s.heap := hP
  have hD : va_D A [(o, .inr (15, bF f)), (ou, .inl (cO, 12000, .inl g))] := hD
  have hl := lv_entry ([.ref o, .int k]) (n := 2) (Nat.le_of_ble_eq_true rfl)
  rw [lg_entry_eq]
  generalize (lg_sl ([.ref o, .int k]) ++ List.replicate (2 - (lg_sl ([.ref o, .int k])).length) Slot.unset).toArray = ls at hl ⊢
  have hl : lv_has ls 2 [(0, .ref o), (1, .int k)] := hl
  refine lv_aload_n hx hb dX12_letter_0 rfl (lv_at hl 0 rfl) ?_
  refine lv_iload_n hx hb dX12_letter_1 rfl (lv_at hl 1 rfl) ?_
  refine lv_if_ge (tgt := 9) hx hb dX12_letter_2 (by decide) (fun c2 => ?_) (fun c2 => ?_)
  · refine lv_iconst (v := 0) hx hb dX12_letter_9 (by decide) ?_
    refine va_put (D := (dC, dI)) (ci := 15) (v := .int 0) (ty := (tyX12 0)) (C := RX12) (T := TX12) (N := 136) hx hb hu iuX12 tyX12 tyX12_ok nmX12 hown hK hP hD hS 0 rfl rfl 0 (by decide) (hu _ mG_2050) (fun _ h9 => h9) rfl (by decide +kernel) (rfl) (rfl) (by rw [bF_len]; decide) dX12_letter_10 (fun H locs hP hD hS => ?_)
    rw [show (bF f).set 0 (.int 0) = bF (va_up f 0 (.int 0)) from bF_set (by decide)] at hP hD
    have hP : va_P (dC, dI) vwCl [(o, .inr (15, bF (va_up f 0 (.int 0)))), (ou, .inl (cO, 12000, .inl g))] H := hP
    have hD : va_D A [(o, .inr (15, bF (va_up f 0 (.int 0)))), (ou, .inl (cO, 12000, .inl g))] := hD
    refine lv_aload_n hx hb dX12_letter_13 rfl (lv_at hl 0 rfl) ?_
    refine va_get (D := (dC, dI)) (ci := 15) (v := .int 0) (C := RX12) (T := TX12) (N := 136) hx hb hu iuX12 hown hK hP 0 rfl rfl 0 (by decide) (hu _ mG_2050) (fun _ h9 => h9) ((bF_get (by decide)).trans (congrArg some (rfl))) dX12_letter_14 ?_
    refine lv_if_le (tgt := 24) hx hb dX12_letter_17 (by decide) (fun c17 => ?_) (fun c17 => ?_)
    · refine lv_iload_n hx hb dX12_letter_24 rfl (lv_at hl 1 rfl) ?_
      refine lv_aload_n hx hb dX12_letter_25 rfl (lv_at hl 0 rfl) ?_
      refine va_get (D := (dC, dI)) (ci := 15) (v := .int (nI n)) (C := RX12) (T := TX12) (N := 136) hx hb hu iuX12 hown hK hP 0 rfl rfl 4 (by decide) (hu _ mG_2054) (fun _ h9 => h9) ((bF_get (by decide)).trans (congrArg some (h4))) dX12_letter_26 ?_
      refine lv_icmp_ge (tgt := 41) hx hb dX12_letter_29 (by decide) (fun c29 => ?_) (fun c29 => ?_)
      · refine lv_iconst (v := (-1)) hx hb dX12_letter_41 (by decide) ?_
        have e9 : (th_letter k : Int32) = 0 := by simp [th_letter, c2, c17, c29]
        have hP9 : va_P (dC, dI) vwCl [(o, .inr (15, bF (va_up f 0 (.int (th_letter k))))), (ou, .inl (cO, 12000, .inl g))] H := by rw [e9]; exact hP
        have hD9 : va_D A [(o, .inr (15, bF (va_up f 0 (.int (th_letter k))))), (ou, .inl (cO, 12000, .inl g))] := by rw [e9]; exact hD
        have hK9 := hK.sub (tys' := [(cO, .int)]) [0] rfl
        exact W.iret (v := (-1)) hx hb hr (fun t ht hW => ⟨⟨(-1), (), rfl, by simp [th_letter, c2, c17, c29], by rw [ht]; exact hP9, va_K.moved hW.alike hK9, hD9⟩, hS.F ht⟩) hS.2.2 dX12_letter_42
      · refine lv_aload_n hx hb dX12_letter_32 rfl (lv_at hl 0 rfl) ?_
        refine va_get (D := (dC, dI)) (ci := 15) (v := .ref ou) (C := RX12) (T := TX12) (N := 136) hx hb hu iuX12 hown hK hP 0 rfl rfl 3 (by decide) (hu _ mG_2053) (fun _ h9 => h9) ((bF_get (by decide)).trans (congrArg some (h3))) dX12_letter_33 ?_
        refine lv_iload_n hx hb dX12_letter_36 rfl (lv_at hl 1 rfl) ?_
        refine va_iald hx hb hK hP 1 0 rfl rfl (vp_in_iff.mpr ⟨Int32.le_iff_toInt_le.mp c2, by have h9 := Int32.lt_iff_toInt_lt.mp (Int32.not_le.mp c29); rw [nI_toInt (by omega)] at h9; omega⟩) dX12_letter_37 ?_
        refine lv_goto (tgt := 42) hx hb dX12_letter_38 (by decide) ?_
        have e9 : (th_letter k : Int32) = 0 := by simp [th_letter, c2, c17, c29]
        have hP9 : va_P (dC, dI) vwCl [(o, .inr (15, bF (va_up f 0 (.int (th_letter k))))), (ou, .inl (cO, 12000, .inl g))] H := by rw [e9]; exact hP
        have hD9 : va_D A [(o, .inr (15, bF (va_up f 0 (.int (th_letter k))))), (ou, .inl (cO, 12000, .inl g))] := by rw [e9]; exact hD
        have hK9 := hK.sub (tys' := [(cO, .int)]) [0] rfl
        exact W.iret (v := (g (k).toNatClampNeg)) hx hb hr (fun t ht hW => ⟨⟨(g (k).toNatClampNeg), (), rfl, by simp [th_letter, c2, c17, c29], by rw [ht]; exact hP9, va_K.moved hW.alike hK9, hD9⟩, hS.F ht⟩) hS.2.2 dX12_letter_42
    · exact absurd (by decide) c17
  · refine lv_iconst (v := 1) hx hb dX12_letter_5 (by decide) ?_
    refine lv_goto (tgt := 10) hx hb dX12_letter_6 (by decide) ?_
    refine va_put (D := (dC, dI)) (ci := 15) (v := .int 1) (ty := (tyX12 0)) (C := RX12) (T := TX12) (N := 136) hx hb hu iuX12 tyX12 tyX12_ok nmX12 hown hK hP hD hS 0 rfl rfl 0 (by decide) (hu _ mG_2050) (fun _ h9 => h9) rfl (by decide +kernel) (rfl) (rfl) (by rw [bF_len]; decide) dX12_letter_10 (fun H locs hP hD hS => ?_)
    rw [show (bF f).set 0 (.int 1) = bF (va_up f 0 (.int 1)) from bF_set (by decide)] at hP hD
    have hP : va_P (dC, dI) vwCl [(o, .inr (15, bF (va_up f 0 (.int 1)))), (ou, .inl (cO, 12000, .inl g))] H := hP
    have hD : va_D A [(o, .inr (15, bF (va_up f 0 (.int 1)))), (ou, .inl (cO, 12000, .inl g))] := hD
    refine lv_aload_n hx hb dX12_letter_13 rfl (lv_at hl 0 rfl) ?_
    refine va_get (D := (dC, dI)) (ci := 15) (v := .int 1) (C := RX12) (T := TX12) (N := 136) hx hb hu iuX12 hown hK hP 0 rfl rfl 0 (by decide) (hu _ mG_2050) (fun _ h9 => h9) ((bF_get (by decide)).trans (congrArg some (rfl))) dX12_letter_14 ?_
    refine lv_if_le (tgt := 24) hx hb dX12_letter_17 (by decide) (fun c17 => ?_) (fun c17 => ?_)
    · exact absurd c17 (by decide)
    · refine lv_iconst (v := 0) hx hb dX12_letter_20 (by decide) ?_
      refine lv_goto (tgt := 42) hx hb dX12_letter_21 (by decide) ?_
      have e9 : (th_letter k : Int32) = 1 := by simp [th_letter, c2, c17]
      have hP9 : va_P (dC, dI) vwCl [(o, .inr (15, bF (va_up f 0 (.int (th_letter k))))), (ou, .inl (cO, 12000, .inl g))] H := by rw [e9]; exact hP
      have hD9 : va_D A [(o, .inr (15, bF (va_up f 0 (.int (th_letter k))))), (ou, .inl (cO, 12000, .inl g))] := by rw [e9]; exact hD
      have hK9 := hK.sub (tys' := [(cO, .int)]) [0] rfl
      exact W.iret (v := 0) hx hb hr (fun t ht hW => ⟨⟨0, (), rfl, by simp [th_letter, c2, c17], by rw [ht]; exact hP9, va_K.moved hW.alike hK9, hD9⟩, hS.F ht⟩) hS.2.2 dX12_letter_42
def th_number (rc k : Int32) : Int32 := if k < 0 ∨ ¬ k < rc then 1 else 0
set_option maxHeartbeats 4000000 in
set_option maxRecDepth 100000 in
/-- Model.number(k) -/
theorem kX12_number (l : Launch) (dC : Nat → ClassId) (dI : Nat → Nat → Nat) (sz : Nat) (o ro : Nat) (f : Nat → Value) (g : Nat → Int32) (cO : ClassId) (rc k : Int32) (h113 : f 113 = .int rc) (h114 : f 114 = .ref ro) (hr9 : rc.toInt ≤ 1000) : Met l yX12_number (Cond.code yX12_number cX12_number 2 (some .int) :: uG) ({ frames := 0, cells := 0, slots := 0, locals := 0 }) (va_Pc [.ref o, .int k] (fun U => U.heap.size = sz ∧ va_P (dC, dI) vwCl [(o, .inr (15, bF f)), (ro, .inl (cO, 1000, .inl g))] U.heap ∧ va_K (dC, dI) vwCl [(cO, .int)] U ∧ va_D (fun _ => True) [(o, .inr (15, bF f)), (ro, .inl (cO, 1000, .inl g))])) (va_Qi (S := Unit) (fun r _ => r = (if th_number rc k = 0 then g k.toNatClampNeg else 0)) (fun _ t => va_P (dC, dI) vwCl [(o, .inr (15, bF (va_up f 0 (.int (th_number rc k))))), (ro, .inl (cO, 1000, .inl g))] t.heap ∧ va_K (dC, dI) vwCl [(cO, .int)] t ∧ va_D (va_A [(o, .inr (15, bF f)), (ro, .inl (cO, 1000, .inl g))] sz) [(o, .inr (15, bF (va_up f 0 (.int (th_number rc k))))), (ro, .inl (cO, 1000, .inl g))]) (va_A [(o, .inr (15, bF f)), (ro, .inl (cO, 1000, .inl g))] sz)) 0 0 (va_A [(o, .inr (15, bF f)), (ro, .inl (cO, 1000, .inl g))] sz) := by
  refine Met.ofW (cc := cX12_number) (maxL := 2) (ret := (some .int)) (by decide) rfl ?_
  intro p e s m args below meth c s₁ B hml hv
  obtain ⟨rfl, hsz, hP, hK, hD0⟩ := hv
  have hx := B.exec
  have hb := B.bytes
  have hr := B.returns
  have hts := atoms_spec (ws := Cond.code yX12_number cX12_number 2 (some .int) :: uG) B.pre
  have hu := fun (w : Cond) (h : w ∈ uG) => hts w (List.mem_cons_of_mem _ h)
  have hown : s.vm.findClass RX12 = some m.cls := findClass_of_methodNamed B.named
  have hlocks := B.notSynchronized
  subst hsz
  have hD := hD0.self (sz := s.heap.size)
  generalize hAe : va_A [(o, .inr (15, bF f)), (ro, .inl (cO, 1000, .inl g))] s.heap.size = A at hD ⊢
  have hA : ∀ q : Nat, s.heap.size ≤ q → A q := fun q h => by rw [← hAe]; exact Or.inr h
  have hS : va_S A s.heap s.heap [] := va_S.rf
  have hP : va_P (dC, dI) vwCl [(o, .inr (15, bF f)), (ro, .inl (cO, 1000, .inl g))] s.heap := hP
  have hD : va_D A [(o, .inr (15, bF f)), (ro, .inl (cO, 1000, .inl g))] := hD
  have hl := lv_entry ([.ref o, .int k]) (n := 2) (Nat.le_of_ble_eq_true rfl)
  rw [lg_entry_eq]
  generalize (lg_sl ([.ref o, .int k]) ++ List.replicate (2 - (lg_sl ([.ref o, .int k])).length) Slot.unset).toArray = ls at hl ⊢
  have hl : lv_has ls 2 [(0, .ref o), (1, .int k)] := hl
  refine lv_aload_n hx hb dX12_number_0 rfl (lv_at hl 0 rfl) ?_
  refine lv_iload_n hx hb dX12_number_1 rfl (lv_at hl 1 rfl) ?_
  refine lv_if_lt (tgt := 13) hx hb dX12_number_2 (by decide) (fun c2 => ?_) (fun c2 => ?_)
  · refine lv_iconst (v := 1) hx hb dX12_number_13 (by decide) ?_
    refine lv_goto (tgt := 18) hx hb dX12_number_14 (by decide) ?_
    refine va_put (D := (dC, dI)) (ci := 15) (v := .int 1) (ty := (tyX12 0)) (C := RX12) (T := TX12) (N := 136) hx hb hu iuX12 tyX12 tyX12_ok nmX12 hown hK hP hD hS 0 rfl rfl 0 (by decide) (hu _ mG_2050) (fun _ h9 => h9) rfl (by decide +kernel) (rfl) (rfl) (by rw [bF_len]; decide) dX12_number_18 (fun H locs hP hD hS => ?_)
    rw [show (bF f).set 0 (.int 1) = bF (va_up f 0 (.int 1)) from bF_set (by decide)] at hP hD
    have hP : va_P (dC, dI) vwCl [(o, .inr (15, bF (va_up f 0 (.int 1)))), (ro, .inl (cO, 1000, .inl g))] H := hP
    have hD : va_D A [(o, .inr (15, bF (va_up f 0 (.int 1)))), (ro, .inl (cO, 1000, .inl g))] := hD
    refine lv_aload_n hx hb dX12_number_21 rfl (lv_at hl 0 rfl) ?_
    refine va_get (D := (dC, dI)) (ci := 15) (v := .int 1) (C := RX12) (T := TX12) (N := 136) hx hb hu iuX12 hown hK hP 0 rfl rfl 0 (by decide) (hu _ mG_2050) (fun _ h9 => h9) ((bF_get (by decide)).trans (congrArg some (rfl))) dX12_number_22 ?_
    refine lv_if_le (tgt := 32) hx hb dX12_number_25 (by decide) (fun c25 => ?_) (fun c25 => ?_)
    · exact absurd c25 (by decide)
    · refine lv_iconst (v := 0) hx hb dX12_number_28 (by decide) ?_
      refine lv_goto (tgt := 38) hx hb dX12_number_29 (by decide) ?_
      have e9 : (th_number rc k : Int32) = 1 := by simp [th_number, c2, c25]
      have hP9 : va_P (dC, dI) vwCl [(o, .inr (15, bF (va_up f 0 (.int (th_number rc k))))), (ro, .inl (cO, 1000, .inl g))] H := by rw [e9]; exact hP
      have hD9 : va_D A [(o, .inr (15, bF (va_up f 0 (.int (th_number rc k))))), (ro, .inl (cO, 1000, .inl g))] := by rw [e9]; exact hD
      have hK9 := hK.sub (tys' := [(cO, .int)]) [0] rfl
      exact W.iret (v := 0) hx hb hr (fun t ht hW => ⟨⟨0, (), rfl, by simp [th_number, c2, c25], by rw [ht]; exact hP9, va_K.moved hW.alike hK9, hD9⟩, hS.F ht⟩) hS.2.2 dX12_number_38
  · refine lv_iload_n hx hb dX12_number_5 rfl (lv_at hl 1 rfl) ?_
    refine lv_aload_n hx hb dX12_number_6 rfl (lv_at hl 0 rfl) ?_
    refine va_get (D := (dC, dI)) (ci := 15) (v := .int rc) (C := RX12) (T := TX12) (N := 136) hx hb hu iuX12 hown hK hP 0 rfl rfl 113 (by decide) (hu _ mG_2163) (fun _ h9 => h9) ((bF_get (by decide)).trans (congrArg some (h113))) dX12_number_7 ?_
    refine lv_icmp_lt (tgt := 17) hx hb dX12_number_10 (by decide) (fun c10 => ?_) (fun c10 => ?_)
    · refine lv_iconst (v := 0) hx hb dX12_number_17 (by decide) ?_
      refine va_put (D := (dC, dI)) (ci := 15) (v := .int 0) (ty := (tyX12 0)) (C := RX12) (T := TX12) (N := 136) hx hb hu iuX12 tyX12 tyX12_ok nmX12 hown hK hP hD hS 0 rfl rfl 0 (by decide) (hu _ mG_2050) (fun _ h9 => h9) rfl (by decide +kernel) (rfl) (rfl) (by rw [bF_len]; decide) dX12_number_18 (fun H locs hP hD hS => ?_)
      rw [show (bF f).set 0 (.int 0) = bF (va_up f 0 (.int 0)) from bF_set (by decide)] at hP hD
      have hP : va_P (dC, dI) vwCl [(o, .inr (15, bF (va_up f 0 (.int 0)))), (ro, .inl (cO, 1000, .inl g))] H := hP
      have hD : va_D A [(o, .inr (15, bF (va_up f 0 (.int 0)))), (ro, .inl (cO, 1000, .inl g))] := hD
      refine lv_aload_n hx hb dX12_number_21 rfl (lv_at hl 0 rfl) ?_
      refine va_get (D := (dC, dI)) (ci := 15) (v := .int 0) (C := RX12) (T := TX12) (N := 136) hx hb hu iuX12 hown hK hP 0 rfl rfl 0 (by decide) (hu _ mG_2050) (fun _ h9 => h9) ((bF_get (by decide)).trans (congrArg some (rfl))) dX12_number_22 ?_
      refine lv_if_le (tgt := 32) hx hb dX12_number_25 (by decide) (fun c25 => ?_) (fun c25 => ?_)
      · refine lv_aload_n hx hb dX12_number_32 rfl (lv_at hl 0 rfl) ?_
        refine va_get (D := (dC, dI)) (ci := 15) (v := .ref ro) (C := RX12) (T := TX12) (N := 136) hx hb hu iuX12 hown hK hP 0 rfl rfl 114 (by decide) (hu _ mG_2164) (fun _ h9 => h9) ((bF_get (by decide)).trans (congrArg some (h114))) dX12_number_33 ?_
        refine lv_iload_n hx hb dX12_number_36 rfl (lv_at hl 1 rfl) ?_
        refine va_iald hx hb hK hP 1 0 rfl rfl (vp_in_iff.mpr ⟨Int32.le_iff_toInt_le.mp (Int32.not_lt.mp c2), by have h9 := Int32.lt_iff_toInt_lt.mp c10; omega⟩) dX12_number_37 ?_
        have e9 : (th_number rc k : Int32) = 0 := by simp [th_number, c2, c10, c25]
        have hP9 : va_P (dC, dI) vwCl [(o, .inr (15, bF (va_up f 0 (.int (th_number rc k))))), (ro, .inl (cO, 1000, .inl g))] H := by rw [e9]; exact hP
        have hD9 : va_D A [(o, .inr (15, bF (va_up f 0 (.int (th_number rc k))))), (ro, .inl (cO, 1000, .inl g))] := by rw [e9]; exact hD
        have hK9 := hK.sub (tys' := [(cO, .int)]) [0] rfl
        exact W.iret (v := (g (k).toNatClampNeg)) hx hb hr (fun t ht hW => ⟨⟨(g (k).toNatClampNeg), (), rfl, by simp [th_number, c2, c10, c25], by rw [ht]; exact hP9, va_K.moved hW.alike hK9, hD9⟩, hS.F ht⟩) hS.2.2 dX12_number_38
      · exact absurd (by decide) c25
    · refine lv_iconst (v := 1) hx hb dX12_number_13 (by decide) ?_
      refine lv_goto (tgt := 18) hx hb dX12_number_14 (by decide) ?_
      refine va_put (D := (dC, dI)) (ci := 15) (v := .int 1) (ty := (tyX12 0)) (C := RX12) (T := TX12) (N := 136) hx hb hu iuX12 tyX12 tyX12_ok nmX12 hown hK hP hD hS 0 rfl rfl 0 (by decide) (hu _ mG_2050) (fun _ h9 => h9) rfl (by decide +kernel) (rfl) (rfl) (by rw [bF_len]; decide) dX12_number_18 (fun H locs hP hD hS => ?_)
      rw [show (bF f).set 0 (.int 1) = bF (va_up f 0 (.int 1)) from bF_set (by decide)] at hP hD
      have hP : va_P (dC, dI) vwCl [(o, .inr (15, bF (va_up f 0 (.int 1)))), (ro, .inl (cO, 1000, .inl g))] H := hP
      have hD : va_D A [(o, .inr (15, bF (va_up f 0 (.int 1)))), (ro, .inl (cO, 1000, .inl g))] := hD
      refine lv_aload_n hx hb dX12_number_21 rfl (lv_at hl 0 rfl) ?_
      refine va_get (D := (dC, dI)) (ci := 15) (v := .int 1) (C := RX12) (T := TX12) (N := 136) hx hb hu iuX12 hown hK hP 0 rfl rfl 0 (by decide) (hu _ mG_2050) (fun _ h9 => h9) ((bF_get (by decide)).trans (congrArg some (rfl))) dX12_number_22 ?_
      refine lv_if_le (tgt := 32) hx hb dX12_number_25 (by decide) (fun c25 => ?_) (fun c25 => ?_)
      · exact absurd c25 (by decide)
      · refine lv_iconst (v := 0) hx hb dX12_number_28 (by decide) ?_
        refine lv_goto (tgt := 38) hx hb dX12_number_29 (by decide) ?_
        have e9 : (th_number rc k : Int32) = 1 := by simp [th_number, c2, c10, c25]
        have hP9 : va_P (dC, dI) vwCl [(o, .inr (15, bF (va_up f 0 (.int (th_number rc k))))), (ro, .inl (cO, 1000, .inl g))] H := by rw [e9]; exact hP
        have hD9 : va_D A [(o, .inr (15, bF (va_up f 0 (.int (th_number rc k))))), (ro, .inl (cO, 1000, .inl g))] := by rw [e9]; exact hD
        have hK9 := hK.sub (tys' := [(cO, .int)]) [0] rfl
        exact W.iret (v := 0) hx hb hr (fun t ht hW => ⟨⟨0, (), rfl, by simp [th_number, c2, c10, c25], by rw [ht]; exact hP9, va_K.moved hW.alike hK9, hD9⟩, hS.F ht⟩) hS.2.2 dX12_number_38
def th_code (hp nm k : Int32) : Int32 := if hp = 0 then 1 else if k < 0 ∨ ¬ k < nm then 2 else 0
set_option maxHeartbeats 4000000 in
set_option maxRecDepth 100000 in
/-- Model.codeOf(k) -/
theorem kX12_codeOf (l : Launch) (dC : Nat → ClassId) (dI : Nat → Nat → Nat) (sz : Nat) (o : Nat) (f : Nat → Value) (hp nm k : Int32) (h88 : f 88 = .int hp) (h46 : f 46 = .int nm) : Met l yX12_codeOf (Cond.code yX12_codeOf cX12_codeOf 2 (some .int) :: uG) ({ frames := 0, cells := 0, slots := 0, locals := 0 }) (va_Pc [.ref o, .int k] (fun U => U.heap.size = sz ∧ va_P (dC, dI) vwCl [(o, .inr (15, bF f))] U.heap ∧ va_K (dC, dI) vwCl [] U ∧ va_D (fun _ => True) [(o, .inr (15, bF f))])) (va_Qi (S := Unit) (fun r _ => r = (th_code hp nm k)) (fun _ t => va_P (dC, dI) vwCl [(o, .inr (15, bF f))] t.heap ∧ va_K (dC, dI) vwCl [] t ∧ va_D (va_A [(o, .inr (15, bF f))] sz) [(o, .inr (15, bF f))]) (va_A [(o, .inr (15, bF f))] sz)) 0 0 (va_A [(o, .inr (15, bF f))] sz) := by
  refine Met.ofW (cc := cX12_codeOf) (maxL := 2) (ret := (some .int)) (by decide) rfl ?_
  intro p e s m args below meth c s₁ B hml hv
  obtain ⟨rfl, hsz, hP, hK, hD0⟩ := hv
  have hx := B.exec
  have hb := B.bytes
  have hr := B.returns
  have hts := atoms_spec (ws := Cond.code yX12_codeOf cX12_codeOf 2 (some .int) :: uG) B.pre
  have hu := fun (w : Cond) (h : w ∈ uG) => hts w (List.mem_cons_of_mem _ h)
  have hown : s.vm.findClass RX12 = some m.cls := findClass_of_methodNamed B.named
  have hlocks := B.notSynchronized
  subst hsz
  have hD := hD0.self (sz := s.heap.size)
  generalize hAe : va_A [(o, .inr (15, bF f))] s.heap.size = A at hD ⊢
  have hA : ∀ q : Nat, s.heap.size ≤ q → A q := fun q h => by rw [← hAe]; exact Or.inr h
  have hS : va_S A s.heap s.heap [] := va_S.rf
  have hP : va_P (dC, dI) vwCl [(o, .inr (15, bF f))] s.heap := hP
  have hD : va_D A [(o, .inr (15, bF f))] := hD
  have hl := lv_entry ([.ref o, .int k]) (n := 2) (Nat.le_of_ble_eq_true rfl)
  rw [lg_entry_eq]
  generalize (lg_sl ([.ref o, .int k]) ++ List.replicate (2 - (lg_sl ([.ref o, .int k])).length) Slot.unset).toArray = ls at hl ⊢
  have hl : lv_has ls 2 [(0, .ref o), (1, .int k)] := hl
  refine lv_aload_n hx hb dX12_codeOf_0 rfl (lv_at hl 0 rfl) ?_
  refine va_get (D := (dC, dI)) (ci := 15) (v := .int hp) (C := RX12) (T := TX12) (N := 136) hx hb hu iuX12 hown hK hP 0 rfl rfl 88 (by decide) (hu _ mG_2138) (fun _ h9 => h9) ((bF_get (by decide)).trans (congrArg some (h88))) dX12_codeOf_1 ?_
  refine lv_if_ne (tgt := 11) hx hb dX12_codeOf_4 (by decide) (fun c4 => ?_) (fun c4 => ?_)
  · refine lv_iload_n hx hb dX12_codeOf_11 rfl (lv_at hl 1 rfl) ?_
    refine lv_if_lt (tgt := 23) hx hb dX12_codeOf_12 (by decide) (fun c12 => ?_) (fun c12 => ?_)
    · refine lv_iconst (v := 2) hx hb dX12_codeOf_23 (by decide) ?_
      refine lv_goto (tgt := 28) hx hb dX12_codeOf_24 (by decide) ?_
      have hP9 : va_P (dC, dI) vwCl [(o, .inr (15, bF f))] s.heap := by exact hP
      have hD9 : va_D A [(o, .inr (15, bF f))] := by exact hD
      have hK9 := hK.sub (tys' := []) [] rfl
      exact W.iret (v := 2) hx hb hr (fun t ht hW => ⟨⟨2, (), rfl, by simp [th_code, c4, c12], by rw [ht]; exact hP9, va_K.moved hW.alike hK9, hD9⟩, hS.F ht⟩) hS.2.2 dX12_codeOf_28
    · refine lv_iload_n hx hb dX12_codeOf_15 rfl (lv_at hl 1 rfl) ?_
      refine lv_aload_n hx hb dX12_codeOf_16 rfl (lv_at hl 0 rfl) ?_
      refine va_get (D := (dC, dI)) (ci := 15) (v := .int nm) (C := RX12) (T := TX12) (N := 136) hx hb hu iuX12 hown hK hP 0 rfl rfl 46 (by decide) (hu _ mG_2096) (fun _ h9 => h9) ((bF_get (by decide)).trans (congrArg some (h46))) dX12_codeOf_17 ?_
      refine lv_icmp_lt (tgt := 27) hx hb dX12_codeOf_20 (by decide) (fun c20 => ?_) (fun c20 => ?_)
      · refine lv_iconst (v := 0) hx hb dX12_codeOf_27 (by decide) ?_
        have hP9 : va_P (dC, dI) vwCl [(o, .inr (15, bF f))] s.heap := by exact hP
        have hD9 : va_D A [(o, .inr (15, bF f))] := by exact hD
        have hK9 := hK.sub (tys' := []) [] rfl
        exact W.iret (v := 0) hx hb hr (fun t ht hW => ⟨⟨0, (), rfl, by simp [th_code, c4, c12, c20], by rw [ht]; exact hP9, va_K.moved hW.alike hK9, hD9⟩, hS.F ht⟩) hS.2.2 dX12_codeOf_28
      · refine lv_iconst (v := 2) hx hb dX12_codeOf_23 (by decide) ?_
        refine lv_goto (tgt := 28) hx hb dX12_codeOf_24 (by decide) ?_
        have hP9 : va_P (dC, dI) vwCl [(o, .inr (15, bF f))] s.heap := by exact hP
        have hD9 : va_D A [(o, .inr (15, bF f))] := by exact hD
        have hK9 := hK.sub (tys' := []) [] rfl
        exact W.iret (v := 2) hx hb hr (fun t ht hW => ⟨⟨2, (), rfl, by simp [th_code, c4, c12, c20], by rw [ht]; exact hP9, va_K.moved hW.alike hK9, hD9⟩, hS.F ht⟩) hS.2.2 dX12_codeOf_28
  · refine lv_iconst (v := 1) hx hb dX12_codeOf_7 (by decide) ?_
    refine lv_goto (tgt := 28) hx hb dX12_codeOf_8 (by decide) ?_
    have hP9 : va_P (dC, dI) vwCl [(o, .inr (15, bF f))] s.heap := by exact hP
    have hD9 : va_D A [(o, .inr (15, bF f))] := by exact hD
    have hK9 := hK.sub (tys' := []) [] rfl
    exact W.iret (v := 1) hx hb hr (fun t ht hW => ⟨⟨1, (), rfl, by simp [th_code, c4], by rw [ht]; exact hP9, va_K.moved hW.alike hK9, hD9⟩, hS.F ht⟩) hS.2.2 dX12_codeOf_28
