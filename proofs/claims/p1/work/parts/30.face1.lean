
theorem mG_230 : Cond.initialized "java/lang/IllegalArgumentException" ∈ uG := uG_at 230 (by decide +kernel) (by decide +kernel)
theorem mG_264 : Cond.fieldLink "LazyForge" 85 "LazyForge$Signs" "count" "I" ∈ uG := uG_at 264 (by decide +kernel) (by decide +kernel)
theorem mG_728 : Cond.fieldLink "LazyForge" 116 "LazyForge" "faultKind" "I" ∈ uG := uG_at 728 (by decide +kernel) (by decide +kernel)
theorem mG_789 : Cond.classLink "LazyForge" 82 "java/lang/IllegalArgumentException" ∈ uG := uG_at 789 (by decide +kernel) (by decide +kernel)
theorem dX11_end_0 : decode cX11_end 0 = .ok (.iload_n 1, 1) := by decide +kernel
theorem dX11_end_1 : decode cX11_end 1 = .ok (.ifCond .lt 14, 3) := by decide +kernel
theorem dX11_end_4 : decode cX11_end 4 = .ok (.iload_n 1, 1) := by decide +kernel
theorem dX11_end_5 : decode cX11_end 5 = .ok (.aload_n 0, 1) := by decide +kernel
theorem dX11_end_6 : decode cX11_end 6 = .ok (.getfield 14, 3) := by decide +kernel
theorem dX11_end_9 : decode cX11_end 9 = .ok (.getfield 85, 3) := by decide +kernel
theorem dX11_end_12 : decode cX11_end 12 = .ok (.if_icmp .le 11, 3) := by decide +kernel
theorem dX11_end_15 : decode cX11_end 15 = .ok (.new 82, 3) := by decide +kernel
theorem dX11_end_18 : decode cX11_end 18 = .ok (.dup, 1) := by decide +kernel
theorem dX11_end_19 : decode cX11_end 19 = .ok (.invokespecial 84, 3) := by decide +kernel
theorem dX11_end_22 : decode cX11_end 22 = .ok (.athrow, 1) := by decide +kernel
theorem dX11_end_23 : decode cX11_end 23 = .ok (.aload_n 0, 1) := by decide +kernel
theorem dX11_end_24 : decode cX11_end 24 = .ok (.getfield 14, 3) := by decide +kernel
theorem dX11_end_27 : decode cX11_end 27 = .ok (.iload_n 1, 1) := by decide +kernel
theorem dX11_end_28 : decode cX11_end 28 = .ok (.putfield 85, 3) := by decide +kernel
theorem dX11_end_31 : decode cX11_end 31 = .ok (.return_, 1) := by decide +kernel
theorem dX11_fault_0 : decode cX11_fault 0 = .ok (.iload_n 1, 1) := by decide +kernel
theorem dX11_fault_1 : decode cX11_fault 1 = .ok (.ifCond .lt 8, 3) := by decide +kernel
theorem dX11_fault_4 : decode cX11_fault 4 = .ok (.iload_n 1, 1) := by decide +kernel
theorem dX11_fault_5 : decode cX11_fault 5 = .ok (.iconst 1, 1) := by decide +kernel
theorem dX11_fault_6 : decode cX11_fault 6 = .ok (.if_icmp .le 11, 3) := by decide +kernel
theorem dX11_fault_9 : decode cX11_fault 9 = .ok (.new 82, 3) := by decide +kernel
theorem dX11_fault_12 : decode cX11_fault 12 = .ok (.dup, 1) := by decide +kernel
theorem dX11_fault_13 : decode cX11_fault 13 = .ok (.invokespecial 84, 3) := by decide +kernel
theorem dX11_fault_16 : decode cX11_fault 16 = .ok (.athrow, 1) := by decide +kernel
theorem dX11_fault_17 : decode cX11_fault 17 = .ok (.iload_n 1, 1) := by decide +kernel
theorem dX11_fault_18 : decode cX11_fault 18 = .ok (.ifCond .ne 10, 3) := by decide +kernel
theorem dX11_fault_21 : decode cX11_fault 21 = .ok (.aload_n 0, 1) := by decide +kernel
theorem dX11_fault_22 : decode cX11_fault 22 = .ok (.getfield 116, 3) := by decide +kernel
theorem dX11_fault_25 : decode cX11_fault 25 = .ok (.goto 7, 3) := by decide +kernel
theorem dX11_fault_28 : decode cX11_fault 28 = .ok (.aload_n 0, 1) := by decide +kernel
theorem dX11_fault_29 : decode cX11_fault 29 = .ok (.getfield 78, 3) := by decide +kernel
theorem dX11_fault_32 : decode cX11_fault 32 = .ok (.ireturn, 1) := by decide +kernel
set_option maxHeartbeats 4000000 in
set_option maxRecDepth 100000 in
/-- LazyForge.end(k) -/
theorem kX11_end (l : Launch) (dC : Nat → ClassId) (dI : Nat → Nat → Nat) (sz : Nat) (hlt : l.stackTraces = false) (x tx pr rd li de sc ma ou dr : Nat) (st fk fp pe ce le : Int32) (r n : Nat) (lo k : Int32) : vx_Met l yX11_end (Cond.code yX11_end cX11_end 2 none :: uG) ({ frames := 6, cells := 1, slots := 6, locals := 90 }) (va_Pc [.ref x, .int k] (fun U => U.heap.size = sz ∧ va_P (dC, dI) vwCl [(x, .inr (14, [.ref tx, .ref pr, .ref rd, .ref li, .ref de, .ref sc, .ref ma, .ref ou, .ref dr, .int st, .int fk, .int fp, .int pe, .int ce, .int le])), (tx, .inr (11, [.ref r, .int (nI n), .int lo]))] U.heap ∧ va_K (dC, dI) vwCl [] U ∧ va_D (fun _ => True) [(x, .inr (14, [.ref tx, .ref pr, .ref rd, .ref li, .ref de, .ref sc, .ref ma, .ref ou, .ref dr, .int st, .int fk, .int fp, .int pe, .int ce, .int le])), (tx, .inr (11, [.ref r, .int (nI n), .int lo]))] ∧ uXw U ∧ uZ (va_A [(x, .inr (14, [.ref tx, .ref pr, .ref rd, .ref li, .ref de, .ref sc, .ref ma, .ref ou, .ref dr, .int st, .int fk, .int fp, .int pe, .int ce, .int le])), (tx, .inr (11, [.ref r, .int (nI n), .int lo]))] sz) U U.heap)) (va_Qv (S := Unit) (fun _ => ¬ k < 0 ∧ k ≤ nI n) (fun _ t => va_P (dC, dI) vwCl [(x, .inr (14, [.ref tx, .ref pr, .ref rd, .ref li, .ref de, .ref sc, .ref ma, .ref ou, .ref dr, .int st, .int fk, .int fp, .int pe, .int ce, .int le])), (tx, .inr (11, [.ref r, .int k, .int lo]))] t.heap ∧ va_K (dC, dI) vwCl [] t ∧ va_D (va_A [(x, .inr (14, [.ref tx, .ref pr, .ref rd, .ref li, .ref de, .ref sc, .ref ma, .ref ou, .ref dr, .int st, .int fk, .int fp, .int pe, .int ce, .int le])), (tx, .inr (11, [.ref r, .int (nI n), .int lo]))] sz) [(x, .inr (14, [.ref tx, .ref pr, .ref rd, .ref li, .ref de, .ref sc, .ref ma, .ref ou, .ref dr, .int st, .int fk, .int fp, .int pe, .int ce, .int le])), (tx, .inr (11, [.ref r, .int k, .int lo]))]) (va_A [(x, .inr (14, [.ref tx, .ref pr, .ref rd, .ref li, .ref de, .ref sc, .ref ma, .ref ou, .ref dr, .int st, .int fk, .int fp, .int pe, .int ce, .int le])), (tx, .inr (11, [.ref r, .int (nI n), .int lo]))] sz)) (uXB dC dI [(x, .inr (14, [.ref tx, .ref pr, .ref rd, .ref li, .ref de, .ref sc, .ref ma, .ref ou, .ref dr, .int st, .int fk, .int fp, .int pe, .int ce, .int le])), (tx, .inr (11, [.ref r, .int (nI n), .int lo]))] [] (va_A [(x, .inr (14, [.ref tx, .ref pr, .ref rd, .ref li, .ref de, .ref sc, .ref ma, .ref ou, .ref dr, .int st, .int fk, .int fp, .int pe, .int ce, .int le])), (tx, .inr (11, [.ref r, .int (nI n), .int lo]))] sz) (fun E => E = "java/lang/IllegalArgumentException" ∧ (k < 0 ∨ ¬ k ≤ nI n))) 1 6 (va_A [(x, .inr (14, [.ref tx, .ref pr, .ref rd, .ref li, .ref de, .ref sc, .ref ma, .ref ou, .ref dr, .int st, .int fk, .int fp, .int pe, .int ce, .int le])), (tx, .inr (11, [.ref r, .int (nI n), .int lo]))] sz) := by
  refine vx_ofW (cc := cX11_end) (maxL := 2) (ret := none) (by decide) rfl ?_
  intro p e s m args below meth c s₁ B hml hno hv
  obtain ⟨rfl, hsz, hP, hK, hD0, hXw, hZ⟩ := hv
  have hx := B.exec
  have hb := B.bytes
  have hr := B.returns
  have hts := atoms_spec (ws := Cond.code yX11_end cX11_end 2 none :: uG) B.pre
  have hu := fun (w : Cond) (h : w ∈ uG) => hts w (List.mem_cons_of_mem _ h)
  have hown : s.vm.findClass RX11 = some m.cls := findClass_of_methodNamed B.named
  have hlocks := B.notSynchronized
  subst hsz
  have hD := hD0.self (sz := s.heap.size)
  generalize hAe : va_A [(x, .inr (14, [.ref tx, .ref pr, .ref rd, .ref li, .ref de, .ref sc, .ref ma, .ref ou, .ref dr, .int st, .int fk, .int fp, .int pe, .int ce, .int le])), (tx, .inr (11, [.ref r, .int (nI n), .int lo]))] s.heap.size = A at hD hZ ⊢
  have hA : ∀ q : Nat, s.heap.size ≤ q → A q := fun q h => by rw [← hAe]; exact Or.inr h
  have hS : va_S A s.heap s.heap [] := va_S.rf
  have hP : va_P (dC, dI) vwCl [(x, .inr (14, [.ref tx, .ref pr, .ref rd, .ref li, .ref de, .ref sc, .ref ma, .ref ou, .ref dr, .int st, .int fk, .int fp, .int pe, .int ce, .int le])), (tx, .inr (11, [.ref r, .int (nI n), .int lo]))] s.heap := hP
  have hD : va_D A [(x, .inr (14, [.ref tx, .ref pr, .ref rd, .ref li, .ref de, .ref sc, .ref ma, .ref ou, .ref dr, .int st, .int fk, .int fp, .int pe, .int ce, .int le])), (tx, .inr (11, [.ref r, .int (nI n), .int lo]))] := hD
  have hl := lv_entry ([.ref x, .int k]) (n := 2) (Nat.le_of_ble_eq_true rfl)
  rw [lg_entry_eq]
  generalize (lg_sl ([.ref x, .int k]) ++ List.replicate (2 - (lg_sl ([.ref x, .int k])).length) Slot.unset).toArray = ls at hl ⊢
  have hl : lv_has ls 2 [(0, .ref x), (1, .int k)] := hl
  refine lv_iload_n hx hb dX11_end_0 rfl (lv_at hl 1 rfl) ?_
  refine lv_if_lt (tgt := 15) hx hb dX11_end_1 (by decide) (fun c1 => ?_) (fun c1 => ?_)
  · exact ut_throw hx hb hlt hown (by decide +kernel) hu hXw hZ mG_789 mG_230 ul_IAE uo_IAE hP hK hD hS (by rw [hml]; exact hl.1) hno dX11_end_15 dX11_end_18 dX11_end_19 dX11_end_22 (Nat.le_of_ble_eq_true rfl) (Nat.le_of_ble_eq_true rfl) (Nat.le_of_ble_eq_true rfl) (Nat.le_of_ble_eq_true rfl) hlocks (Nat.le_of_ble_eq_true rfl) (Nat.le_of_ble_eq_true rfl) (⟨rfl, Or.inl c1⟩)
  · refine lv_iload_n hx hb dX11_end_4 rfl (lv_at hl 1 rfl) ?_
    refine lv_aload_n hx hb dX11_end_5 rfl (lv_at hl 0 rfl) ?_
    refine va_get (D := (dC, dI)) (ci := 14) (v := .ref tx) (C := RX11) (T := TX11) (N := 15) hx hb hu iuX11 hown hK hP 0 rfl rfl 0 (by decide) (hu _ mG_718) (fun _ h9 => h9) rfl dX11_end_6 ?_
    refine va_get (D := (dC, dI)) (ci := 11) (v := .int (nI n)) (C := RX8) (T := TX8) (N := 3) hx hb hu iuX8 hown hK hP 1 rfl rfl 1 (by decide) (hu _ mG_264) (fun _ h9 => h9) rfl dX11_end_9 ?_
    refine lv_icmp_le (tgt := 23) hx hb dX11_end_12 (by decide) (fun c12 => ?_) (fun c12 => ?_)
    · refine lv_aload_n hx hb dX11_end_23 rfl (lv_at hl 0 rfl) ?_
      refine va_get (D := (dC, dI)) (ci := 14) (v := .ref tx) (C := RX11) (T := TX11) (N := 15) hx hb hu iuX11 hown hK hP 0 rfl rfl 0 (by decide) (hu _ mG_718) (fun _ h9 => h9) rfl dX11_end_24 ?_
      refine lv_iload_n hx hb dX11_end_27 rfl (lv_at hl 1 rfl) ?_
      refine va_put (D := (dC, dI)) (ci := 11) (v := .int k) (ty := (tyX8 1)) (C := RX8) (T := TX8) (N := 3) hx hb hu iuX8 tyX8 tyX8_ok nmX8 hown hK hP hD hS 1 rfl rfl 1 (by decide) (hu _ mG_264) (fun _ h9 => h9) rfl (by decide +kernel) (rfl) (rfl) (Nat.le_of_ble_eq_true rfl) dX11_end_28 (fun H locs hP hD hS => ?_)
      have hP : va_P (dC, dI) vwCl [(x, .inr (14, [.ref tx, .ref pr, .ref rd, .ref li, .ref de, .ref sc, .ref ma, .ref ou, .ref dr, .int st, .int fk, .int fp, .int pe, .int ce, .int le])), (tx, .inr (11, [.ref r, .int k, .int lo]))] H := hP
      have hD : va_D A [(x, .inr (14, [.ref tx, .ref pr, .ref rd, .ref li, .ref de, .ref sc, .ref ma, .ref ou, .ref dr, .int st, .int fk, .int fp, .int pe, .int ce, .int le])), (tx, .inr (11, [.ref r, .int k, .int lo]))] := hD
      have hP9 : va_P (dC, dI) vwCl [(x, .inr (14, [.ref tx, .ref pr, .ref rd, .ref li, .ref de, .ref sc, .ref ma, .ref ou, .ref dr, .int st, .int fk, .int fp, .int pe, .int ce, .int le])), (tx, .inr (11, [.ref r, .int k, .int lo]))] H := by exact hP
      have hD9 : va_D A [(x, .inr (14, [.ref tx, .ref pr, .ref rd, .ref li, .ref de, .ref sc, .ref ma, .ref ou, .ref dr, .int st, .int fk, .int fp, .int pe, .int ce, .int le])), (tx, .inr (11, [.ref r, .int k, .int lo]))] := by exact hD
      have hK9 := hK.sub (tys' := []) [] rfl
      refine vx_ret ?_
      refine W.widen (k := 1) (n := 6) (Nat.le_of_ble_eq_true rfl) (Nat.le_of_ble_eq_true rfl) ?_
      exact W.vret hx hb hr (fun t ht hW => ⟨⟨(), rfl, ⟨c1, c12⟩, by rw [ht]; exact hP9, va_K.moved hW.alike hK9, hD9⟩, hS.F ht⟩) hS.2.2 dX11_end_31
    · exact ut_throw hx hb hlt hown (by decide +kernel) hu hXw hZ mG_789 mG_230 ul_IAE uo_IAE hP hK hD hS (by rw [hml]; exact hl.1) hno dX11_end_15 dX11_end_18 dX11_end_19 dX11_end_22 (Nat.le_of_ble_eq_true rfl) (Nat.le_of_ble_eq_true rfl) (Nat.le_of_ble_eq_true rfl) (Nat.le_of_ble_eq_true rfl) hlocks (Nat.le_of_ble_eq_true rfl) (Nat.le_of_ble_eq_true rfl) (⟨rfl, Or.inr c12⟩)
set_option maxHeartbeats 4000000 in
set_option maxRecDepth 100000 in
/-- LazyForge.fault(k) -/
theorem kX11_fault (l : Launch) (dC : Nat → ClassId) (dI : Nat → Nat → Nat) (sz : Nat) (hlt : l.stackTraces = false) (x tx pr rd li de sc ma ou dr : Nat) (st fk fp pe ce le : Int32) (k : Int32) : vx_Met l yX11_fault (Cond.code yX11_fault cX11_fault 2 (some .int) :: uG) ({ frames := 6, cells := 1, slots := 6, locals := 90 }) (va_Pc [.ref x, .int k] (fun U => U.heap.size = sz ∧ va_P (dC, dI) vwCl [(x, .inr (14, [.ref tx, .ref pr, .ref rd, .ref li, .ref de, .ref sc, .ref ma, .ref ou, .ref dr, .int st, .int fk, .int fp, .int pe, .int ce, .int le]))] U.heap ∧ va_K (dC, dI) vwCl [] U ∧ va_D (fun _ => True) [(x, .inr (14, [.ref tx, .ref pr, .ref rd, .ref li, .ref de, .ref sc, .ref ma, .ref ou, .ref dr, .int st, .int fk, .int fp, .int pe, .int ce, .int le]))] ∧ uXw U ∧ uZ (va_A [(x, .inr (14, [.ref tx, .ref pr, .ref rd, .ref li, .ref de, .ref sc, .ref ma, .ref ou, .ref dr, .int st, .int fk, .int fp, .int pe, .int ce, .int le]))] sz) U U.heap)) (va_Qi (S := Unit) (fun r _ => (¬ k < 0 ∧ k ≤ 1) ∧ r = if k = 0 then fk else fp) (fun _ t => va_P (dC, dI) vwCl [(x, .inr (14, [.ref tx, .ref pr, .ref rd, .ref li, .ref de, .ref sc, .ref ma, .ref ou, .ref dr, .int st, .int fk, .int fp, .int pe, .int ce, .int le]))] t.heap ∧ va_K (dC, dI) vwCl [] t ∧ va_D (va_A [(x, .inr (14, [.ref tx, .ref pr, .ref rd, .ref li, .ref de, .ref sc, .ref ma, .ref ou, .ref dr, .int st, .int fk, .int fp, .int pe, .int ce, .int le]))] sz) [(x, .inr (14, [.ref tx, .ref pr, .ref rd, .ref li, .ref de, .ref sc, .ref ma, .ref ou, .ref dr, .int st, .int fk, .int fp, .int pe, .int ce, .int le]))]) (va_A [(x, .inr (14, [.ref tx, .ref pr, .ref rd, .ref li, .ref de, .ref sc, .ref ma, .ref ou, .ref dr, .int st, .int fk, .int fp, .int pe, .int ce, .int le]))] sz)) (uXB dC dI [(x, .inr (14, [.ref tx, .ref pr, .ref rd, .ref li, .ref de, .ref sc, .ref ma, .ref ou, .ref dr, .int st, .int fk, .int fp, .int pe, .int ce, .int le]))] [] (va_A [(x, .inr (14, [.ref tx, .ref pr, .ref rd, .ref li, .ref de, .ref sc, .ref ma, .ref ou, .ref dr, .int st, .int fk, .int fp, .int pe, .int ce, .int le]))] sz) (fun E => E = "java/lang/IllegalArgumentException" ∧ (k < 0 ∨ 1 < k))) 1 6 (va_A [(x, .inr (14, [.ref tx, .ref pr, .ref rd, .ref li, .ref de, .ref sc, .ref ma, .ref ou, .ref dr, .int st, .int fk, .int fp, .int pe, .int ce, .int le]))] sz) := by
  refine vx_ofW (cc := cX11_fault) (maxL := 2) (ret := (some .int)) (by decide) rfl ?_
  intro p e s m args below meth c s₁ B hml hno hv
  obtain ⟨rfl, hsz, hP, hK, hD0, hXw, hZ⟩ := hv
  have hx := B.exec
  have hb := B.bytes
  have hr := B.returns
  have hts := atoms_spec (ws := Cond.code yX11_fault cX11_fault 2 (some .int) :: uG) B.pre
  have hu := fun (w : Cond) (h : w ∈ uG) => hts w (List.mem_cons_of_mem _ h)
  have hown : s.vm.findClass RX11 = some m.cls := findClass_of_methodNamed B.named
  have hlocks := B.notSynchronized
  subst hsz
  have hD := hD0.self (sz := s.heap.size)
  generalize hAe : va_A [(x, .inr (14, [.ref tx, .ref pr, .ref rd, .ref li, .ref de, .ref sc, .ref ma, .ref ou, .ref dr, .int st, .int fk, .int fp, .int pe, .int ce, .int le]))] s.heap.size = A at hD hZ ⊢
  have hA : ∀ q : Nat, s.heap.size ≤ q → A q := fun q h => by rw [← hAe]; exact Or.inr h
  have hS : va_S A s.heap s.heap [] := va_S.rf
  have hP : va_P (dC, dI) vwCl [(x, .inr (14, [.ref tx, .ref pr, .ref rd, .ref li, .ref de, .ref sc, .ref ma, .ref ou, .ref dr, .int st, .int fk, .int fp, .int pe, .int ce, .int le]))] s.heap := hP
  have hD : va_D A [(x, .inr (14, [.ref tx, .ref pr, .ref rd, .ref li, .ref de, .ref sc, .ref ma, .ref ou, .ref dr, .int st, .int fk, .int fp, .int pe, .int ce, .int le]))] := hD
  have hl := lv_entry ([.ref x, .int k]) (n := 2) (Nat.le_of_ble_eq_true rfl)
  rw [lg_entry_eq]
  generalize (lg_sl ([.ref x, .int k]) ++ List.replicate (2 - (lg_sl ([.ref x, .int k])).length) Slot.unset).toArray = ls at hl ⊢
  have hl : lv_has ls 2 [(0, .ref x), (1, .int k)] := hl
  refine lv_iload_n hx hb dX11_fault_0 rfl (lv_at hl 1 rfl) ?_
  refine lv_if_lt (tgt := 9) hx hb dX11_fault_1 (by decide) (fun c1 => ?_) (fun c1 => ?_)
  · exact ut_throw hx hb hlt hown (by decide +kernel) hu hXw hZ mG_789 mG_230 ul_IAE uo_IAE hP hK hD hS (by rw [hml]; exact hl.1) hno dX11_fault_9 dX11_fault_12 dX11_fault_13 dX11_fault_16 (Nat.le_of_ble_eq_true rfl) (Nat.le_of_ble_eq_true rfl) (Nat.le_of_ble_eq_true rfl) (Nat.le_of_ble_eq_true rfl) hlocks (Nat.le_of_ble_eq_true rfl) (Nat.le_of_ble_eq_true rfl) (⟨rfl, Or.inl c1⟩)
  · refine lv_iload_n hx hb dX11_fault_4 rfl (lv_at hl 1 rfl) ?_
    refine lv_iconst (v := 1) hx hb dX11_fault_5 (by decide) ?_
    refine lv_icmp_le (tgt := 17) hx hb dX11_fault_6 (by decide) (fun c6 => ?_) (fun c6 => ?_)
    · refine lv_iload_n hx hb dX11_fault_17 rfl (lv_at hl 1 rfl) ?_
      refine lv_if_ne (tgt := 28) hx hb dX11_fault_18 (by decide) (fun c18 => ?_) (fun c18 => ?_)
      · refine lv_aload_n hx hb dX11_fault_28 rfl (lv_at hl 0 rfl) ?_
        refine va_get (D := (dC, dI)) (ci := 14) (v := .int fp) (C := RX11) (T := TX11) (N := 15) hx hb hu iuX11 hown hK hP 0 rfl rfl 11 (by decide) (hu _ mG_729) (fun _ h9 => h9) rfl dX11_fault_29 ?_
        have hP9 : va_P (dC, dI) vwCl [(x, .inr (14, [.ref tx, .ref pr, .ref rd, .ref li, .ref de, .ref sc, .ref ma, .ref ou, .ref dr, .int st, .int fk, .int fp, .int pe, .int ce, .int le]))] s.heap := by exact hP
        have hD9 : va_D A [(x, .inr (14, [.ref tx, .ref pr, .ref rd, .ref li, .ref de, .ref sc, .ref ma, .ref ou, .ref dr, .int st, .int fk, .int fp, .int pe, .int ce, .int le]))] := by exact hD
        have hK9 := hK.sub (tys' := []) [] rfl
        refine vx_ret ?_
        refine W.widen (k := 1) (n := 6) (Nat.le_of_ble_eq_true rfl) (Nat.le_of_ble_eq_true rfl) ?_
        exact W.iret (v := fp) hx hb hr (fun t ht hW => ⟨⟨fp, (), rfl, ⟨⟨c1, c6⟩, by rw [if_neg c18]⟩, by rw [ht]; exact hP9, va_K.moved hW.alike hK9, hD9⟩, hS.F ht⟩) hS.2.2 dX11_fault_32
      · refine lv_aload_n hx hb dX11_fault_21 rfl (lv_at hl 0 rfl) ?_
        refine va_get (D := (dC, dI)) (ci := 14) (v := .int fk) (C := RX11) (T := TX11) (N := 15) hx hb hu iuX11 hown hK hP 0 rfl rfl 10 (by decide) (hu _ mG_728) (fun _ h9 => h9) rfl dX11_fault_22 ?_
        refine lv_goto (tgt := 32) hx hb dX11_fault_25 (by decide) ?_
        have hP9 : va_P (dC, dI) vwCl [(x, .inr (14, [.ref tx, .ref pr, .ref rd, .ref li, .ref de, .ref sc, .ref ma, .ref ou, .ref dr, .int st, .int fk, .int fp, .int pe, .int ce, .int le]))] s.heap := by exact hP
        have hD9 : va_D A [(x, .inr (14, [.ref tx, .ref pr, .ref rd, .ref li, .ref de, .ref sc, .ref ma, .ref ou, .ref dr, .int st, .int fk, .int fp, .int pe, .int ce, .int le]))] := by exact hD
        have hK9 := hK.sub (tys' := []) [] rfl
        refine vx_ret ?_
        refine W.widen (k := 1) (n := 6) (Nat.le_of_ble_eq_true rfl) (Nat.le_of_ble_eq_true rfl) ?_
        exact W.iret (v := fk) hx hb hr (fun t ht hW => ⟨⟨fk, (), rfl, ⟨⟨c1, c6⟩, by rw [if_pos c18]⟩, by rw [ht]; exact hP9, va_K.moved hW.alike hK9, hD9⟩, hS.F ht⟩) hS.2.2 dX11_fault_32
    · exact ut_throw hx hb hlt hown (by decide +kernel) hu hXw hZ mG_789 mG_230 ul_IAE uo_IAE hP hK hD hS (by rw [hml]; exact hl.1) hno dX11_fault_9 dX11_fault_12 dX11_fault_13 dX11_fault_16 (Nat.le_of_ble_eq_true rfl) (Nat.le_of_ble_eq_true rfl) (Nat.le_of_ble_eq_true rfl) (Nat.le_of_ble_eq_true rfl) hlocks (Nat.le_of_ble_eq_true rfl) (Nat.le_of_ble_eq_true rfl) (⟨rfl, Or.inr (Int32.not_le.mp c6)⟩)
