
theorem mG_313 : Cond.fieldLink "LazyForge" 153 "LazyForge$Program" "parameters" "[I" ∈ uG := uG_at 313 (by decide +kernel) (by decide +kernel)
theorem mG_768 : Cond.methodLink "LazyForge" 94 yX8_copy ∈ uG := uG_at 768 (by decide +kernel) (by decide +kernel)
theorem mG_769 : Cond.instanceMethod yX8_copy ∈ uG := uG_at 769 (by decide +kernel) (by decide +kernel)
theorem mG_770 : Cond.selects "LazyForge$Signs" yX8_copy yX8_copy ∈ uG := uG_at 770 (by decide +kernel) (by decide +kernel)
theorem mG_771 : Cond.code yX8_copy prog_10_method_8_code 3 none ∈ uG := uG_at 771 (by decide +kernel) (by decide +kernel)
theorem mG_1601 : Cond.instanceMethod yX1_look ∈ uG := uG_at 1601 (by decide +kernel) (by decide +kernel)
theorem mG_1602 : Cond.selects "LazyForge$Demand" yX1_look yX1_look ∈ uG := uG_at 1602 (by decide +kernel) (by decide +kernel)
theorem mG_1603 : Cond.code yX1_look prog_3_method_2_code 3 (some .int) ∈ uG := uG_at 1603 (by decide +kernel) (by decide +kernel)
theorem mG_1777 : Cond.methodLink "LazyForge" 157 yX4_needsParameter ∈ uG := uG_at 1777 (by decide +kernel) (by decide +kernel)
theorem mG_1778 : Cond.instanceMethod yX4_needsParameter ∈ uG := uG_at 1778 (by decide +kernel) (by decide +kernel)
theorem mG_1779 : Cond.selects "LazyForge$Program" yX4_needsParameter yX4_needsParameter ∈ uG := uG_at 1779 (by decide +kernel) (by decide +kernel)
theorem mG_1780 : Cond.code yX4_needsParameter prog_6_method_8_code 3 (some .boolean) ∈ uG := uG_at 1780 (by decide +kernel) (by decide +kernel)
theorem mG_1788 : Cond.methodLink "LazyForge" 161 yX1_look ∈ uG := uG_at 1788 (by decide +kernel) (by decide +kernel)
theorem dX11_bit_0 : decode cX11_bit 0 = .ok (.aload_n 0, 1) := by decide +kernel
theorem dX11_bit_1 : decode cX11_bit 1 = .ok (.getfield 123, 3) := by decide +kernel
theorem dX11_bit_4 : decode cX11_bit 4 = .ok (.ifCond .ne 11, 3) := by decide +kernel
theorem dX11_bit_7 : decode cX11_bit 7 = .ok (.new 133, 3) := by decide +kernel
theorem dX11_bit_10 : decode cX11_bit 10 = .ok (.dup, 1) := by decide +kernel
theorem dX11_bit_11 : decode cX11_bit 11 = .ok (.invokespecial 135, 3) := by decide +kernel
theorem dX11_bit_14 : decode cX11_bit 14 = .ok (.athrow, 1) := by decide +kernel
theorem dX11_bit_15 : decode cX11_bit 15 = .ok (.iload_n 1, 1) := by decide +kernel
theorem dX11_bit_16 : decode cX11_bit 16 = .ok (.ifCond .lt 14, 3) := by decide +kernel
theorem dX11_bit_19 : decode cX11_bit 19 = .ok (.iload_n 1, 1) := by decide +kernel
theorem dX11_bit_20 : decode cX11_bit 20 = .ok (.aload_n 0, 1) := by decide +kernel
theorem dX11_bit_21 : decode cX11_bit 21 = .ok (.getfield 27, 3) := by decide +kernel
theorem dX11_bit_24 : decode cX11_bit 24 = .ok (.getfield 130, 3) := by decide +kernel
theorem dX11_bit_27 : decode cX11_bit 27 = .ok (.if_icmp .lt 11, 3) := by decide +kernel
theorem dX11_bit_30 : decode cX11_bit 30 = .ok (.new 142, 3) := by decide +kernel
theorem dX11_bit_33 : decode cX11_bit 33 = .ok (.dup, 1) := by decide +kernel
theorem dX11_bit_34 : decode cX11_bit 34 = .ok (.invokespecial 144, 3) := by decide +kernel
theorem dX11_bit_37 : decode cX11_bit 37 = .ok (.athrow, 1) := by decide +kernel
theorem dX11_bit_38 : decode cX11_bit 38 = .ok (.iload_n 2, 1) := by decide +kernel
theorem dX11_bit_39 : decode cX11_bit 39 = .ok (.ifCond .lt 18, 3) := by decide +kernel
theorem dX11_bit_42 : decode cX11_bit 42 = .ok (.iload_n 2, 1) := by decide +kernel
theorem dX11_bit_43 : decode cX11_bit 43 = .ok (.iconst 1, 1) := by decide +kernel
theorem dX11_bit_44 : decode cX11_bit 44 = .ok (.aload_n 0, 1) := by decide +kernel
theorem dX11_bit_45 : decode cX11_bit 45 = .ok (.getfield 27, 3) := by decide +kernel
theorem dX11_bit_48 : decode cX11_bit 48 = .ok (.getfield 153, 3) := by decide +kernel
theorem dX11_bit_51 : decode cX11_bit 51 = .ok (.iload_n 1, 1) := by decide +kernel
theorem dX11_bit_52 : decode cX11_bit 52 = .ok (.iaload, 1) := by decide +kernel
theorem dX11_bit_53 : decode cX11_bit 53 = .ok (.ishl, 1) := by decide +kernel
theorem dX11_bit_54 : decode cX11_bit 54 = .ok (.if_icmp .lt 11, 3) := by decide +kernel
theorem dX11_bit_57 : decode cX11_bit 57 = .ok (.new 82, 3) := by decide +kernel
theorem dX11_bit_60 : decode cX11_bit 60 = .ok (.dup, 1) := by decide +kernel
theorem dX11_bit_61 : decode cX11_bit 61 = .ok (.invokespecial 84, 3) := by decide +kernel
theorem dX11_bit_64 : decode cX11_bit 64 = .ok (.athrow, 1) := by decide +kernel
theorem dX11_bit_65 : decode cX11_bit 65 = .ok (.aload_n 0, 1) := by decide +kernel
theorem dX11_bit_66 : decode cX11_bit 66 = .ok (.getfield 60, 3) := by decide +kernel
theorem dX11_bit_69 : decode cX11_bit 69 = .ok (.iload_n 1, 1) := by decide +kernel
theorem dX11_bit_70 : decode cX11_bit 70 = .ok (.iload_n 2, 1) := by decide +kernel
theorem dX11_bit_71 : decode cX11_bit 71 = .ok (.invokevirtual 161, 3) := by decide +kernel
theorem dX11_bit_74 : decode cX11_bit 74 = .ok (.ireturn, 1) := by decide +kernel
theorem dX11_needs_0 : decode cX11_needs 0 = .ok (.aload_n 0, 1) := by decide +kernel
theorem dX11_needs_1 : decode cX11_needs 1 = .ok (.getfield 123, 3) := by decide +kernel
theorem dX11_needs_4 : decode cX11_needs 4 = .ok (.ifCond .ne 11, 3) := by decide +kernel
theorem dX11_needs_7 : decode cX11_needs 7 = .ok (.new 133, 3) := by decide +kernel
theorem dX11_needs_10 : decode cX11_needs 10 = .ok (.dup, 1) := by decide +kernel
theorem dX11_needs_11 : decode cX11_needs 11 = .ok (.invokespecial 135, 3) := by decide +kernel
theorem dX11_needs_14 : decode cX11_needs 14 = .ok (.athrow, 1) := by decide +kernel
theorem dX11_needs_15 : decode cX11_needs 15 = .ok (.iload_n 1, 1) := by decide +kernel
theorem dX11_needs_16 : decode cX11_needs 16 = .ok (.ifCond .lt 31, 3) := by decide +kernel
theorem dX11_needs_19 : decode cX11_needs 19 = .ok (.iload_n 1, 1) := by decide +kernel
theorem dX11_needs_20 : decode cX11_needs 20 = .ok (.aload_n 0, 1) := by decide +kernel
theorem dX11_needs_21 : decode cX11_needs 21 = .ok (.getfield 27, 3) := by decide +kernel
theorem dX11_needs_24 : decode cX11_needs 24 = .ok (.getfield 130, 3) := by decide +kernel
theorem dX11_needs_27 : decode cX11_needs 27 = .ok (.if_icmp .ge 20, 3) := by decide +kernel
theorem dX11_needs_30 : decode cX11_needs 30 = .ok (.iload_n 2, 1) := by decide +kernel
theorem dX11_needs_31 : decode cX11_needs 31 = .ok (.ifCond .lt 16, 3) := by decide +kernel
theorem dX11_needs_34 : decode cX11_needs 34 = .ok (.iload_n 2, 1) := by decide +kernel
theorem dX11_needs_35 : decode cX11_needs 35 = .ok (.aload_n 0, 1) := by decide +kernel
theorem dX11_needs_36 : decode cX11_needs 36 = .ok (.getfield 27, 3) := by decide +kernel
theorem dX11_needs_39 : decode cX11_needs 39 = .ok (.getfield 153, 3) := by decide +kernel
theorem dX11_needs_42 : decode cX11_needs 42 = .ok (.iload_n 1, 1) := by decide +kernel
theorem dX11_needs_43 : decode cX11_needs 43 = .ok (.iaload, 1) := by decide +kernel
theorem dX11_needs_44 : decode cX11_needs 44 = .ok (.if_icmp .lt 11, 3) := by decide +kernel
theorem dX11_needs_47 : decode cX11_needs 47 = .ok (.new 142, 3) := by decide +kernel
theorem dX11_needs_50 : decode cX11_needs 50 = .ok (.dup, 1) := by decide +kernel
theorem dX11_needs_51 : decode cX11_needs 51 = .ok (.invokespecial 144, 3) := by decide +kernel
theorem dX11_needs_54 : decode cX11_needs 54 = .ok (.athrow, 1) := by decide +kernel
theorem dX11_needs_55 : decode cX11_needs 55 = .ok (.aload_n 0, 1) := by decide +kernel
theorem dX11_needs_56 : decode cX11_needs 56 = .ok (.getfield 27, 3) := by decide +kernel
theorem dX11_needs_59 : decode cX11_needs 59 = .ok (.iload_n 1, 1) := by decide +kernel
theorem dX11_needs_60 : decode cX11_needs 60 = .ok (.iload_n 2, 1) := by decide +kernel
theorem dX11_needs_61 : decode cX11_needs 61 = .ok (.invokevirtual 157, 3) := by decide +kernel
theorem dX11_needs_64 : decode cX11_needs 64 = .ok (.ireturn, 1) := by decide +kernel
theorem dX11_take_0 : decode cX11_take 0 = .ok (.aload_n 0, 1) := by decide +kernel
theorem dX11_take_1 : decode cX11_take 1 = .ok (.getfield 18, 3) := by decide +kernel
theorem dX11_take_4 : decode cX11_take 4 = .ok (.getfield 85, 3) := by decide +kernel
theorem dX11_take_7 : decode cX11_take 7 = .ok (.sipush 3000, 3) := by decide +kernel
theorem dX11_take_10 : decode cX11_take 10 = .ok (.if_icmp .le 5, 3) := by decide +kernel
theorem dX11_take_13 : decode cX11_take 13 = .ok (.iconst (-1), 1) := by decide +kernel
theorem dX11_take_14 : decode cX11_take 14 = .ok (.ireturn, 1) := by decide +kernel
theorem dX11_take_15 : decode cX11_take 15 = .ok (.aload_n 0, 1) := by decide +kernel
theorem dX11_take_16 : decode cX11_take 16 = .ok (.getfield 14, 3) := by decide +kernel
theorem dX11_take_19 : decode cX11_take 19 = .ok (.aload_n 0, 1) := by decide +kernel
theorem dX11_take_20 : decode cX11_take 20 = .ok (.getfield 18, 3) := by decide +kernel
theorem dX11_take_23 : decode cX11_take 23 = .ok (.invokevirtual 94, 3) := by decide +kernel
theorem dX11_take_26 : decode cX11_take 26 = .ok (.aload_n 0, 1) := by decide +kernel
theorem dX11_take_27 : decode cX11_take 27 = .ok (.getfield 14, 3) := by decide +kernel
theorem dX11_take_30 : decode cX11_take 30 = .ok (.getfield 85, 3) := by decide +kernel
theorem dX11_take_33 : decode cX11_take 33 = .ok (.ireturn, 1) := by decide +kernel
set_option maxHeartbeats 4000000 in
set_option maxRecDepth 100000 in
/-- LazyForge.take() -/
theorem kX11_take (l : Launch) (dC : Nat → ClassId) (dI : Nat → Nat → Nat) (sz : Nat) (x tx pr rd li de sc ma ou dr : Nat) (st fk fp pe ce le : Int32) (r n q on : Nat) (lo l2 : Int32) (f g : Nat → Int32) (cB cQ : ClassId) (ho : on ≤ 12000) : Met l yX11_take (Cond.code yX11_take cX11_take 1 (some .int) :: uG) ({ frames := 2, cells := 0, slots := 0, locals := 43 }) (va_Pc [.ref x] (fun U => U.heap.size = sz ∧ va_P (dC, dI) vwCl [(x, .inr (14, [.ref tx, .ref pr, .ref rd, .ref li, .ref de, .ref sc, .ref ma, .ref ou, .ref dr, .int st, .int fk, .int fp, .int pe, .int ce, .int le])), (tx, .inr (11, [.ref r, .int (nI n), .int lo])), (r, .inl (cB, 3000, .inl f)), (ou, .inr (11, [.ref q, .int (nI on), .int l2])), (q, .inl (cQ, 12000, .inl g))] U.heap ∧ va_K (dC, dI) vwCl [(cB, .byte), (cQ, .byte)] U ∧ va_D (fun _ => True) [(x, .inr (14, [.ref tx, .ref pr, .ref rd, .ref li, .ref de, .ref sc, .ref ma, .ref ou, .ref dr, .int st, .int fk, .int fp, .int pe, .int ce, .int le])), (tx, .inr (11, [.ref r, .int (nI n), .int lo])), (r, .inl (cB, 3000, .inl f)), (ou, .inr (11, [.ref q, .int (nI on), .int l2])), (q, .inl (cQ, 12000, .inl g))])) (va_Qi (S := Unit) (fun r _ => r = (if on ≤ 3000 then nI on else (-1))) (fun _ t => va_P (dC, dI) vwCl [(x, .inr (14, [.ref tx, .ref pr, .ref rd, .ref li, .ref de, .ref sc, .ref ma, .ref ou, .ref dr, .int st, .int fk, .int fp, .int pe, .int ce, .int le])), (tx, .inr (11, [.ref r, .int (nI (if on ≤ 3000 then on else n)), .int (if on ≤ 3000 then 0 else lo)])), (r, .inl (cB, 3000, .inl (if on ≤ 3000 then cpf f g on else f))), (ou, .inr (11, [.ref q, .int (nI on), .int l2])), (q, .inl (cQ, 12000, .inl g))] t.heap ∧ va_K (dC, dI) vwCl [(cB, .byte), (cQ, .byte)] t ∧ va_D (va_A [(x, .inr (14, [.ref tx, .ref pr, .ref rd, .ref li, .ref de, .ref sc, .ref ma, .ref ou, .ref dr, .int st, .int fk, .int fp, .int pe, .int ce, .int le])), (tx, .inr (11, [.ref r, .int (nI n), .int lo])), (r, .inl (cB, 3000, .inl f)), (ou, .inr (11, [.ref q, .int (nI on), .int l2])), (q, .inl (cQ, 12000, .inl g))] sz) [(x, .inr (14, [.ref tx, .ref pr, .ref rd, .ref li, .ref de, .ref sc, .ref ma, .ref ou, .ref dr, .int st, .int fk, .int fp, .int pe, .int ce, .int le])), (tx, .inr (11, [.ref r, .int (nI (if on ≤ 3000 then on else n)), .int (if on ≤ 3000 then 0 else lo)])), (r, .inl (cB, 3000, .inl (if on ≤ 3000 then cpf f g on else f))), (ou, .inr (11, [.ref q, .int (nI on), .int l2])), (q, .inl (cQ, 12000, .inl g))]) (va_A [(x, .inr (14, [.ref tx, .ref pr, .ref rd, .ref li, .ref de, .ref sc, .ref ma, .ref ou, .ref dr, .int st, .int fk, .int fp, .int pe, .int ce, .int le])), (tx, .inr (11, [.ref r, .int (nI n), .int lo])), (r, .inl (cB, 3000, .inl f)), (ou, .inr (11, [.ref q, .int (nI on), .int l2])), (q, .inl (cQ, 12000, .inl g))] sz)) 0 0 (va_A [(x, .inr (14, [.ref tx, .ref pr, .ref rd, .ref li, .ref de, .ref sc, .ref ma, .ref ou, .ref dr, .int st, .int fk, .int fp, .int pe, .int ce, .int le])), (tx, .inr (11, [.ref r, .int (nI n), .int lo])), (r, .inl (cB, 3000, .inl f)), (ou, .inr (11, [.ref q, .int (nI on), .int l2])), (q, .inl (cQ, 12000, .inl g))] sz) := by
  refine Met.ofW (cc := cX11_take) (maxL := 1) (ret := (some .int)) (by decide) rfl ?_
  intro p e s m args below meth c s₁ B hml hv
  obtain ⟨rfl, hsz, hP, hK, hD0⟩ := hv
  have hx := B.exec
  have hb := B.bytes
  have hr := B.returns
  have hts := atoms_spec (ws := Cond.code yX11_take cX11_take 1 (some .int) :: uG) B.pre
  have hu := fun (w : Cond) (h : w ∈ uG) => hts w (List.mem_cons_of_mem _ h)
  have hown : s.vm.findClass RX11 = some m.cls := findClass_of_methodNamed B.named
  have hlocks := B.notSynchronized
  subst hsz
  have hD := hD0.self (sz := s.heap.size)
  generalize hAe : va_A [(x, .inr (14, [.ref tx, .ref pr, .ref rd, .ref li, .ref de, .ref sc, .ref ma, .ref ou, .ref dr, .int st, .int fk, .int fp, .int pe, .int ce, .int le])), (tx, .inr (11, [.ref r, .int (nI n), .int lo])), (r, .inl (cB, 3000, .inl f)), (ou, .inr (11, [.ref q, .int (nI on), .int l2])), (q, .inl (cQ, 12000, .inl g))] s.heap.size = A at hD ⊢
  have hA : ∀ q : Nat, s.heap.size ≤ q → A q := fun q h => by rw [← hAe]; exact Or.inr h
  have hS : va_S A s.heap s.heap [] := va_S.rf
  have hP : va_P (dC, dI) vwCl [(x, .inr (14, [.ref tx, .ref pr, .ref rd, .ref li, .ref de, .ref sc, .ref ma, .ref ou, .ref dr, .int st, .int fk, .int fp, .int pe, .int ce, .int le])), (tx, .inr (11, [.ref r, .int (nI n), .int lo])), (r, .inl (cB, 3000, .inl f)), (ou, .inr (11, [.ref q, .int (nI on), .int l2])), (q, .inl (cQ, 12000, .inl g))] s.heap := hP
  have hD : va_D A [(x, .inr (14, [.ref tx, .ref pr, .ref rd, .ref li, .ref de, .ref sc, .ref ma, .ref ou, .ref dr, .int st, .int fk, .int fp, .int pe, .int ce, .int le])), (tx, .inr (11, [.ref r, .int (nI n), .int lo])), (r, .inl (cB, 3000, .inl f)), (ou, .inr (11, [.ref q, .int (nI on), .int l2])), (q, .inl (cQ, 12000, .inl g))] := hD
  have hl := lv_entry ([.ref x]) (n := 1) (Nat.le_of_ble_eq_true rfl)
  rw [lg_entry_eq]
  generalize (lg_sl ([.ref x]) ++ List.replicate (1 - (lg_sl ([.ref x])).length) Slot.unset).toArray = ls at hl ⊢
  have hl : lv_has ls 1 [(0, .ref x)] := hl
  refine lv_aload_n hx hb dX11_take_0 rfl (lv_at hl 0 rfl) ?_
  refine va_get (D := (dC, dI)) (ci := 14) (v := .ref ou) (C := RX11) (T := TX11) (N := 15) hx hb hu iuX11 hown hK hP 0 rfl rfl 7 (by decide) (hu _ mG_725) (fun _ h9 => h9) rfl dX11_take_1 ?_
  refine va_get (D := (dC, dI)) (ci := 11) (v := .int (nI on)) (C := RX8) (T := TX8) (N := 3) hx hb hu iuX8 hown hK hP 3 rfl rfl 1 (by decide) (hu _ mG_264) (fun _ h9 => h9) rfl dX11_take_4 ?_
  refine lv_sipush (v := 3000) hx hb dX11_take_7 (by decide) ?_
  refine lv_icmp_le (tgt := 15) hx hb dX11_take_10 (by decide) (fun c10 => ?_) (fun c10 => ?_)
  · have h10 : on ≤ 3000 := (nI_leI (b := 3000) (by omega) (by decide)).mp c10
    refine lv_aload_n hx hb dX11_take_15 rfl (lv_at hl 0 rfl) ?_
    refine va_get (D := (dC, dI)) (ci := 14) (v := .ref tx) (C := RX11) (T := TX11) (N := 15) hx hb hu iuX11 hown hK hP 0 rfl rfl 0 (by decide) (hu _ mG_718) (fun _ h9 => h9) rfl dX11_take_16 ?_
    refine lv_aload_n hx hb dX11_take_19 rfl (lv_at hl 0 rfl) ?_
    refine va_get (D := (dC, dI)) (ci := 14) (v := .ref ou) (C := RX11) (T := TX11) (N := 15) hx hb hu iuX11 hown hK hP 0 rfl rfl 7 (by decide) (hu _ mG_725) (fun _ h9 => h9) rfl dX11_take_20 ?_
    have hPc := hP.sub (ws' := [(tx, .inr (11, [.ref r, .int (nI n), .int lo])), (r, .inl (cB, 3000, .inl f)), (ou, .inr (11, [.ref q, .int (nI on), .int l2])), (q, .inl (cQ, 12000, .inl g))]) [1, 2, 3, 4] rfl
    have hDc := hD.sub (ws' := [(tx, .inr (11, [.ref r, .int (nI n), .int lo])), (r, .inl (cB, 3000, .inl f)), (ou, .inr (11, [.ref q, .int (nI on), .int l2])), (q, .inl (cQ, 12000, .inl g))]) [1, 2, 3, 4] (by decide) rfl
    have hKc := hK.sub (tys' := [(cB, .byte), (cQ, .byte)]) [0, 1] rfl
    have hFc := va_free (wc := [(tx, .inr (11, [.ref r, .int (nI n), .int lo])), (r, .inl (cB, 3000, .inl f)), (ou, .inr (11, [.ref q, .int (nI on), .int l2])), (q, .inl (cQ, 12000, .inl g))]) hD hS hA [1, 2, 3, 4] rfl
    refine va_callv (va_runV (As := [.ref ou]) (rest := []) ⟨hx, hb, hml, hown, hu⟩ (kX8_copy l dC dI s.heap.size tx r 3000 n lo f cB ou q 12000 on l2 g cQ h10 ho (by decide) (by decide)) (cwV 1 hu (uG_V (fun _ h => h) mG_771 mG_768 mG_769 mG_770 mG_215) rfl rfl rfl (by decide +kernel) ⟨Nat.le_of_ble_eq_true rfl, Nat.le_of_ble_eq_true rfl⟩) ⟨fun a U g mk q => by obtain ⟨q0, q1, qP, qK, qD⟩ := q; exact ⟨q0, q1, qP, va_K.moved (u := U) (U := U.calling g mk a) (Vm.Alike.refl U.vm) qK, qD⟩, va_recv hKc hPc (ci := 11) (q0 := 0) rfl rfl, fun U hU hW => ⟨rfl, by rw [hU], by rw [hU]; exact hPc, va_K.moved hW.alike hKc, hDc.weaken (fun _ _ _ _ => trivial)⟩⟩ rfl rfl hl.1 rfl (lv_room (Nat.le_of_ble_eq_true rfl)) dX11_take_23 ⟨Nat.le_of_ble_eq_true rfl, Nat.le_of_ble_eq_true rfl⟩) hS (fun q _ h => hFc q h) hFc (fun u t H1 locs ht hvm hw hB hz1 hk1 hS => ?_)
    obtain ⟨hP1, hK1, hD1⟩ := hB
    rw [ht] at hP1
    obtain ⟨hP, hD⟩ := va_join (wr := [(x, .inr (14, [.ref tx, .ref pr, .ref rd, .ref li, .ref de, .ref sc, .ref ma, .ref ou, .ref dr, .int st, .int fk, .int fp, .int pe, .int ce, .int le]))]) (w1 := [(ou, .inr (11, [.ref q, .int (nI on), .int l2])), (q, .inl (cQ, 12000, .inl g)), (tx, .inr (11, [.ref r, .int (nI on), .int 0])), (r, .inl (cB, 3000, .inl (cpf f g on)))]) hP hD [1, 2, 3, 4] [0] rfl rfl (by decide) (by decide) hk1 hFc hP1 hD1
    generalize H1 = H at hP hS ⊢
    have hP : va_P (dC, dI) vwCl [(x, .inr (14, [.ref tx, .ref pr, .ref rd, .ref li, .ref de, .ref sc, .ref ma, .ref ou, .ref dr, .int st, .int fk, .int fp, .int pe, .int ce, .int le])), (ou, .inr (11, [.ref q, .int (nI on), .int l2])), (q, .inl (cQ, 12000, .inl g)), (tx, .inr (11, [.ref r, .int (nI on), .int 0])), (r, .inl (cB, 3000, .inl (cpf f g on)))] H := hP
    have hD : va_D A [(x, .inr (14, [.ref tx, .ref pr, .ref rd, .ref li, .ref de, .ref sc, .ref ma, .ref ou, .ref dr, .int st, .int fk, .int fp, .int pe, .int ce, .int le])), (ou, .inr (11, [.ref q, .int (nI on), .int l2])), (q, .inl (cQ, 12000, .inl g)), (tx, .inr (11, [.ref r, .int (nI on), .int 0])), (r, .inl (cB, 3000, .inl (cpf f g on)))] := hD
    refine lv_aload_n hx hb dX11_take_26 rfl (lv_at hl 0 rfl) ?_
    refine va_get (D := (dC, dI)) (ci := 14) (v := .ref tx) (C := RX11) (T := TX11) (N := 15) hx hb hu iuX11 hown hK hP 0 rfl rfl 0 (by decide) (hu _ mG_718) (fun _ h9 => h9) rfl dX11_take_27 ?_
    refine va_get (D := (dC, dI)) (ci := 11) (v := .int (nI on)) (C := RX8) (T := TX8) (N := 3) hx hb hu iuX8 hown hK hP 3 rfl rfl 1 (by decide) (hu _ mG_264) (fun _ h9 => h9) rfl dX11_take_30 ?_
    have hP9 : va_P (dC, dI) vwCl [(x, .inr (14, [.ref tx, .ref pr, .ref rd, .ref li, .ref de, .ref sc, .ref ma, .ref ou, .ref dr, .int st, .int fk, .int fp, .int pe, .int ce, .int le])), (tx, .inr (11, [.ref r, .int (nI (if on ≤ 3000 then on else n)), .int (if on ≤ 3000 then 0 else lo)])), (r, .inl (cB, 3000, .inl (if on ≤ 3000 then cpf f g on else f))), (ou, .inr (11, [.ref q, .int (nI on), .int l2])), (q, .inl (cQ, 12000, .inl g))] H := by simp only [if_pos h10]; exact hP.sub [0, 3, 4, 1, 2] rfl
    have hD9 : va_D A [(x, .inr (14, [.ref tx, .ref pr, .ref rd, .ref li, .ref de, .ref sc, .ref ma, .ref ou, .ref dr, .int st, .int fk, .int fp, .int pe, .int ce, .int le])), (tx, .inr (11, [.ref r, .int (nI (if on ≤ 3000 then on else n)), .int (if on ≤ 3000 then 0 else lo)])), (r, .inl (cB, 3000, .inl (if on ≤ 3000 then cpf f g on else f))), (ou, .inr (11, [.ref q, .int (nI on), .int l2])), (q, .inl (cQ, 12000, .inl g))] := by simp only [if_pos h10]; exact hD.sub [0, 3, 4, 1, 2] (by decide) rfl
    have hK9 := hK.sub (tys' := [(cB, .byte), (cQ, .byte)]) [0, 1] rfl
    exact W.iret (v := (nI on)) hx hb hr (fun t ht hW => ⟨⟨(nI on), (), rfl, by simp only [if_pos h10], by rw [ht]; exact hP9, va_K.moved hW.alike hK9, hD9⟩, hS.F ht⟩) hS.2.2 dX11_take_33
  · have h10 : ¬ on ≤ 3000 := fun h => c10 ((nI_leI (b := 3000) (by omega) (by decide)).mpr h)
    refine lv_iconst (v := (-1)) hx hb dX11_take_13 (by decide) ?_
    have hP9 : va_P (dC, dI) vwCl [(x, .inr (14, [.ref tx, .ref pr, .ref rd, .ref li, .ref de, .ref sc, .ref ma, .ref ou, .ref dr, .int st, .int fk, .int fp, .int pe, .int ce, .int le])), (tx, .inr (11, [.ref r, .int (nI (if on ≤ 3000 then on else n)), .int (if on ≤ 3000 then 0 else lo)])), (r, .inl (cB, 3000, .inl (if on ≤ 3000 then cpf f g on else f))), (ou, .inr (11, [.ref q, .int (nI on), .int l2])), (q, .inl (cQ, 12000, .inl g))] s.heap := by simp only [if_neg h10]; exact hP
    have hD9 : va_D A [(x, .inr (14, [.ref tx, .ref pr, .ref rd, .ref li, .ref de, .ref sc, .ref ma, .ref ou, .ref dr, .int st, .int fk, .int fp, .int pe, .int ce, .int le])), (tx, .inr (11, [.ref r, .int (nI (if on ≤ 3000 then on else n)), .int (if on ≤ 3000 then 0 else lo)])), (r, .inl (cB, 3000, .inl (if on ≤ 3000 then cpf f g on else f))), (ou, .inr (11, [.ref q, .int (nI on), .int l2])), (q, .inl (cQ, 12000, .inl g))] := by simp only [if_neg h10]; exact hD
    have hK9 := hK.sub (tys' := [(cB, .byte), (cQ, .byte)]) [0, 1] rfl
    exact W.iret (v := (-1)) hx hb hr (fun t ht hW => ⟨⟨(-1), (), rfl, by simp only [if_neg h10], by rw [ht]; exact hP9, va_K.moved hW.alike hK9, hD9⟩, hS.F ht⟩) hS.2.2 dX11_take_14
set_option maxHeartbeats 4000000 in
set_option maxRecDepth 100000 in
/-- LazyForge.needs(k, i) -/
theorem kX11_needs (l : Launch) (dC : Nat → ClassId) (dI : Nat → Nat → Nat) (sz : Nat) (hlt : l.stackTraces = false) (x tx pr rd li de sc ma ou dr : Nat) (st fk fp pe ce le : Int32) (p0 p1 p3 p7 p8 p9 p10 p11 p12 p13 p14 p15 p16 : Nat) (cn tp fn mn : Int32) (f7 f : Nat → Int32) (c7 cI : ClassId) (k i : Int32) (hf : fn.toInt ≤ 630) : vx_Met l yX11_needs (Cond.code yX11_needs cX11_needs 3 (some .boolean) :: uG) ({ frames := 6, cells := 1, slots := 6, locals := 90 }) (va_Pc [.ref x, .int k, .int i] (fun U => U.heap.size = sz ∧ va_P (dC, dI) vwCl [(x, .inr (14, [.ref tx, .ref pr, .ref rd, .ref li, .ref de, .ref sc, .ref ma, .ref ou, .ref dr, .int st, .int fk, .int fp, .int pe, .int ce, .int le])), (pr, .inr (7, [.ref p0, .ref p1, .int cn, .ref p3, .int tp, .int fn, .int mn, .ref p7, .ref p8, .ref p9, .ref p10, .ref p11, .ref p12, .ref p13, .ref p14, .ref p15, .ref p16])), (p7, .inl (c7, 630, .inl f7)), (p16, .inl (cI, 630, .inl f))] U.heap ∧ va_K (dC, dI) vwCl [(c7, .int), (cI, .int)] U ∧ va_D (fun _ => True) [(x, .inr (14, [.ref tx, .ref pr, .ref rd, .ref li, .ref de, .ref sc, .ref ma, .ref ou, .ref dr, .int st, .int fk, .int fp, .int pe, .int ce, .int le])), (pr, .inr (7, [.ref p0, .ref p1, .int cn, .ref p3, .int tp, .int fn, .int mn, .ref p7, .ref p8, .ref p9, .ref p10, .ref p11, .ref p12, .ref p13, .ref p14, .ref p15, .ref p16])), (p7, .inl (c7, 630, .inl f7)), (p16, .inl (cI, 630, .inl f))] ∧ uXw U ∧ uZ (va_A [(x, .inr (14, [.ref tx, .ref pr, .ref rd, .ref li, .ref de, .ref sc, .ref ma, .ref ou, .ref dr, .int st, .int fk, .int fp, .int pe, .int ce, .int le])), (pr, .inr (7, [.ref p0, .ref p1, .int cn, .ref p3, .int tp, .int fn, .int mn, .ref p7, .ref p8, .ref p9, .ref p10, .ref p11, .ref p12, .ref p13, .ref p14, .ref p15, .ref p16])), (p7, .inl (c7, 630, .inl f7)), (p16, .inl (cI, 630, .inl f))] sz) U U.heap)) (va_Qi (S := Unit) (fun r _ => (¬ st = 0 ∧ ¬ k < 0 ∧ k < fn ∧ ¬ i < 0 ∧ i < f7 k.toNatClampNeg) ∧ r = (if ((f k.toNatClampNeg).toUInt32 >>> (i.toUInt32 &&& Int32.toUInt32 31)).toInt32 &&& 1 = 0 then 0 else 1)) (fun _ t => va_P (dC, dI) vwCl [(x, .inr (14, [.ref tx, .ref pr, .ref rd, .ref li, .ref de, .ref sc, .ref ma, .ref ou, .ref dr, .int st, .int fk, .int fp, .int pe, .int ce, .int le])), (pr, .inr (7, [.ref p0, .ref p1, .int cn, .ref p3, .int tp, .int fn, .int mn, .ref p7, .ref p8, .ref p9, .ref p10, .ref p11, .ref p12, .ref p13, .ref p14, .ref p15, .ref p16])), (p7, .inl (c7, 630, .inl f7)), (p16, .inl (cI, 630, .inl f))] t.heap ∧ va_K (dC, dI) vwCl [(c7, .int), (cI, .int)] t ∧ va_D (va_A [(x, .inr (14, [.ref tx, .ref pr, .ref rd, .ref li, .ref de, .ref sc, .ref ma, .ref ou, .ref dr, .int st, .int fk, .int fp, .int pe, .int ce, .int le])), (pr, .inr (7, [.ref p0, .ref p1, .int cn, .ref p3, .int tp, .int fn, .int mn, .ref p7, .ref p8, .ref p9, .ref p10, .ref p11, .ref p12, .ref p13, .ref p14, .ref p15, .ref p16])), (p7, .inl (c7, 630, .inl f7)), (p16, .inl (cI, 630, .inl f))] sz) [(x, .inr (14, [.ref tx, .ref pr, .ref rd, .ref li, .ref de, .ref sc, .ref ma, .ref ou, .ref dr, .int st, .int fk, .int fp, .int pe, .int ce, .int le])), (pr, .inr (7, [.ref p0, .ref p1, .int cn, .ref p3, .int tp, .int fn, .int mn, .ref p7, .ref p8, .ref p9, .ref p10, .ref p11, .ref p12, .ref p13, .ref p14, .ref p15, .ref p16])), (p7, .inl (c7, 630, .inl f7)), (p16, .inl (cI, 630, .inl f))]) (va_A [(x, .inr (14, [.ref tx, .ref pr, .ref rd, .ref li, .ref de, .ref sc, .ref ma, .ref ou, .ref dr, .int st, .int fk, .int fp, .int pe, .int ce, .int le])), (pr, .inr (7, [.ref p0, .ref p1, .int cn, .ref p3, .int tp, .int fn, .int mn, .ref p7, .ref p8, .ref p9, .ref p10, .ref p11, .ref p12, .ref p13, .ref p14, .ref p15, .ref p16])), (p7, .inl (c7, 630, .inl f7)), (p16, .inl (cI, 630, .inl f))] sz)) (uXB dC dI [(x, .inr (14, [.ref tx, .ref pr, .ref rd, .ref li, .ref de, .ref sc, .ref ma, .ref ou, .ref dr, .int st, .int fk, .int fp, .int pe, .int ce, .int le])), (pr, .inr (7, [.ref p0, .ref p1, .int cn, .ref p3, .int tp, .int fn, .int mn, .ref p7, .ref p8, .ref p9, .ref p10, .ref p11, .ref p12, .ref p13, .ref p14, .ref p15, .ref p16])), (p7, .inl (c7, 630, .inl f7)), (p16, .inl (cI, 630, .inl f))] [(c7, .int), (cI, .int)] (va_A [(x, .inr (14, [.ref tx, .ref pr, .ref rd, .ref li, .ref de, .ref sc, .ref ma, .ref ou, .ref dr, .int st, .int fk, .int fp, .int pe, .int ce, .int le])), (pr, .inr (7, [.ref p0, .ref p1, .int cn, .ref p3, .int tp, .int fn, .int mn, .ref p7, .ref p8, .ref p9, .ref p10, .ref p11, .ref p12, .ref p13, .ref p14, .ref p15, .ref p16])), (p7, .inl (c7, 630, .inl f7)), (p16, .inl (cI, 630, .inl f))] sz) (fun E => (E = "java/lang/IllegalStateException" ∧ st = 0) ∨ (E = "java/lang/IndexOutOfBoundsException" ∧ ¬ st = 0 ∧ (k < 0 ∨ ¬ k < fn ∨ i < 0 ∨ ¬ i < f7 k.toNatClampNeg)))) 1 6 (va_A [(x, .inr (14, [.ref tx, .ref pr, .ref rd, .ref li, .ref de, .ref sc, .ref ma, .ref ou, .ref dr, .int st, .int fk, .int fp, .int pe, .int ce, .int le])), (pr, .inr (7, [.ref p0, .ref p1, .int cn, .ref p3, .int tp, .int fn, .int mn, .ref p7, .ref p8, .ref p9, .ref p10, .ref p11, .ref p12, .ref p13, .ref p14, .ref p15, .ref p16])), (p7, .inl (c7, 630, .inl f7)), (p16, .inl (cI, 630, .inl f))] sz) := by
  refine vx_ofW (cc := cX11_needs) (maxL := 3) (ret := (some .boolean)) (by decide) rfl ?_
  intro p e s m args below meth c s₁ B hml hno hv
  obtain ⟨rfl, hsz, hP, hK, hD0, hXw, hZ⟩ := hv
  have hx := B.exec
  have hb := B.bytes
  have hr := B.returns
  have hts := atoms_spec (ws := Cond.code yX11_needs cX11_needs 3 (some .boolean) :: uG) B.pre
  have hu := fun (w : Cond) (h : w ∈ uG) => hts w (List.mem_cons_of_mem _ h)
  have hown : s.vm.findClass RX11 = some m.cls := findClass_of_methodNamed B.named
  have hlocks := B.notSynchronized
  subst hsz
  have hD := hD0.self (sz := s.heap.size)
  generalize hAe : va_A [(x, .inr (14, [.ref tx, .ref pr, .ref rd, .ref li, .ref de, .ref sc, .ref ma, .ref ou, .ref dr, .int st, .int fk, .int fp, .int pe, .int ce, .int le])), (pr, .inr (7, [.ref p0, .ref p1, .int cn, .ref p3, .int tp, .int fn, .int mn, .ref p7, .ref p8, .ref p9, .ref p10, .ref p11, .ref p12, .ref p13, .ref p14, .ref p15, .ref p16])), (p7, .inl (c7, 630, .inl f7)), (p16, .inl (cI, 630, .inl f))] s.heap.size = A at hD hZ ⊢
  have hA : ∀ q : Nat, s.heap.size ≤ q → A q := fun q h => by rw [← hAe]; exact Or.inr h
  have hS : va_S A s.heap s.heap [] := va_S.rf
  have hP : va_P (dC, dI) vwCl [(x, .inr (14, [.ref tx, .ref pr, .ref rd, .ref li, .ref de, .ref sc, .ref ma, .ref ou, .ref dr, .int st, .int fk, .int fp, .int pe, .int ce, .int le])), (pr, .inr (7, [.ref p0, .ref p1, .int cn, .ref p3, .int tp, .int fn, .int mn, .ref p7, .ref p8, .ref p9, .ref p10, .ref p11, .ref p12, .ref p13, .ref p14, .ref p15, .ref p16])), (p7, .inl (c7, 630, .inl f7)), (p16, .inl (cI, 630, .inl f))] s.heap := hP
  have hD : va_D A [(x, .inr (14, [.ref tx, .ref pr, .ref rd, .ref li, .ref de, .ref sc, .ref ma, .ref ou, .ref dr, .int st, .int fk, .int fp, .int pe, .int ce, .int le])), (pr, .inr (7, [.ref p0, .ref p1, .int cn, .ref p3, .int tp, .int fn, .int mn, .ref p7, .ref p8, .ref p9, .ref p10, .ref p11, .ref p12, .ref p13, .ref p14, .ref p15, .ref p16])), (p7, .inl (c7, 630, .inl f7)), (p16, .inl (cI, 630, .inl f))] := hD
  have hl := lv_entry ([.ref x, .int k, .int i]) (n := 3) (Nat.le_of_ble_eq_true rfl)
  rw [lg_entry_eq]
  generalize (lg_sl ([.ref x, .int k, .int i]) ++ List.replicate (3 - (lg_sl ([.ref x, .int k, .int i])).length) Slot.unset).toArray = ls at hl ⊢
  have hl : lv_has ls 3 [(0, .ref x), (1, .int k), (2, .int i)] := hl
  refine lv_aload_n hx hb dX11_needs_0 rfl (lv_at hl 0 rfl) ?_
  refine va_get (D := (dC, dI)) (ci := 14) (v := .int st) (C := RX11) (T := TX11) (N := 15) hx hb hu iuX11 hown hK hP 0 rfl rfl 9 (by decide) (hu _ mG_727) (fun _ h9 => h9) rfl dX11_needs_1 ?_
  refine lv_if_ne (tgt := 15) hx hb dX11_needs_4 (by decide) (fun c4 => ?_) (fun c4 => ?_)
  · refine lv_iload_n hx hb dX11_needs_15 rfl (lv_at hl 1 rfl) ?_
    refine lv_if_lt (tgt := 47) hx hb dX11_needs_16 (by decide) (fun c16 => ?_) (fun c16 => ?_)
    · exact ut_throw hx hb hlt hown (by decide +kernel) hu hXw hZ mG_1743 mG_244 ul_IOB uo_IOB hP hK hD hS (by rw [hml]; exact hl.1) hno dX11_needs_47 dX11_needs_50 dX11_needs_51 dX11_needs_54 (Nat.le_of_ble_eq_true rfl) (Nat.le_of_ble_eq_true rfl) (Nat.le_of_ble_eq_true rfl) (Nat.le_of_ble_eq_true rfl) hlocks (Nat.le_of_ble_eq_true rfl) (Nat.le_of_ble_eq_true rfl) (Or.inr ⟨rfl, c4, Or.inl c16⟩)
    · refine lv_iload_n hx hb dX11_needs_19 rfl (lv_at hl 1 rfl) ?_
      refine lv_aload_n hx hb dX11_needs_20 rfl (lv_at hl 0 rfl) ?_
      refine va_get (D := (dC, dI)) (ci := 14) (v := .ref pr) (C := RX11) (T := TX11) (N := 15) hx hb hu iuX11 hown hK hP 0 rfl rfl 1 (by decide) (hu _ mG_719) (fun _ h9 => h9) rfl dX11_needs_21 ?_
      refine va_get (D := (dC, dI)) (ci := 7) (v := .int fn) (C := RX4) (T := TX4) (N := 17) hx hb hu iuX4 hown hK hP 1 rfl rfl 5 (by decide) (hu _ mG_303) (fun _ h9 => h9) rfl dX11_needs_24 ?_
      refine lv_icmp_ge (tgt := 47) hx hb dX11_needs_27 (by decide) (fun c27 => ?_) (fun c27 => ?_)
      · exact ut_throw hx hb hlt hown (by decide +kernel) hu hXw hZ mG_1743 mG_244 ul_IOB uo_IOB hP hK hD hS (by rw [hml]; exact hl.1) hno dX11_needs_47 dX11_needs_50 dX11_needs_51 dX11_needs_54 (Nat.le_of_ble_eq_true rfl) (Nat.le_of_ble_eq_true rfl) (Nat.le_of_ble_eq_true rfl) (Nat.le_of_ble_eq_true rfl) hlocks (Nat.le_of_ble_eq_true rfl) (Nat.le_of_ble_eq_true rfl) (Or.inr ⟨rfl, c4, Or.inr (Or.inl (Int32.not_lt.mpr c27))⟩)
      · refine lv_iload_n hx hb dX11_needs_30 rfl (lv_at hl 2 rfl) ?_
        refine lv_if_lt (tgt := 47) hx hb dX11_needs_31 (by decide) (fun c31 => ?_) (fun c31 => ?_)
        · exact ut_throw hx hb hlt hown (by decide +kernel) hu hXw hZ mG_1743 mG_244 ul_IOB uo_IOB hP hK hD hS (by rw [hml]; exact hl.1) hno dX11_needs_47 dX11_needs_50 dX11_needs_51 dX11_needs_54 (Nat.le_of_ble_eq_true rfl) (Nat.le_of_ble_eq_true rfl) (Nat.le_of_ble_eq_true rfl) (Nat.le_of_ble_eq_true rfl) hlocks (Nat.le_of_ble_eq_true rfl) (Nat.le_of_ble_eq_true rfl) (Or.inr ⟨rfl, c4, Or.inr (Or.inr (Or.inl c31))⟩)
        · refine lv_iload_n hx hb dX11_needs_34 rfl (lv_at hl 2 rfl) ?_
          refine lv_aload_n hx hb dX11_needs_35 rfl (lv_at hl 0 rfl) ?_
          refine va_get (D := (dC, dI)) (ci := 14) (v := .ref pr) (C := RX11) (T := TX11) (N := 15) hx hb hu iuX11 hown hK hP 0 rfl rfl 1 (by decide) (hu _ mG_719) (fun _ h9 => h9) rfl dX11_needs_36 ?_
          refine va_get (D := (dC, dI)) (ci := 7) (v := .ref p7) (C := RX4) (T := TX4) (N := 17) hx hb hu iuX4 hown hK hP 1 rfl rfl 7 (by decide) (hu _ mG_313) (fun _ h9 => h9) rfl dX11_needs_39 ?_
          refine lv_iload_n hx hb dX11_needs_42 rfl (lv_at hl 1 rfl) ?_
          refine va_iald hx hb hK hP 2 0 rfl rfl (vp_in_iff.mpr ⟨Int32.le_iff_toInt_le.mp (Int32.not_lt.mp c16), by have h9 := Int32.lt_iff_toInt_lt.mp (Int32.not_le.mp c27); omega⟩) dX11_needs_43 ?_
          refine lv_icmp_lt (tgt := 55) hx hb dX11_needs_44 (by decide) (fun c44 => ?_) (fun c44 => ?_)
          · refine lv_aload_n hx hb dX11_needs_55 rfl (lv_at hl 0 rfl) ?_
            refine va_get (D := (dC, dI)) (ci := 14) (v := .ref pr) (C := RX11) (T := TX11) (N := 15) hx hb hu iuX11 hown hK hP 0 rfl rfl 1 (by decide) (hu _ mG_719) (fun _ h9 => h9) rfl dX11_needs_56 ?_
            refine lv_iload_n hx hb dX11_needs_59 rfl (lv_at hl 1 rfl) ?_
            refine lv_iload_n hx hb dX11_needs_60 rfl (lv_at hl 2 rfl) ?_
            have hPc := hP.sub (ws' := [(pr, .inr (7, [.ref p0, .ref p1, .int cn, .ref p3, .int tp, .int fn, .int mn, .ref p7, .ref p8, .ref p9, .ref p10, .ref p11, .ref p12, .ref p13, .ref p14, .ref p15, .ref p16])), (p16, .inl (cI, 630, .inl f))]) [1, 3] rfl
            have hDc := hD.sub (ws' := [(pr, .inr (7, [.ref p0, .ref p1, .int cn, .ref p3, .int tp, .int fn, .int mn, .ref p7, .ref p8, .ref p9, .ref p10, .ref p11, .ref p12, .ref p13, .ref p14, .ref p15, .ref p16])), (p16, .inl (cI, 630, .inl f))]) [1, 3] (by decide) rfl
            have hKc := hK.sub (tys' := [(cI, .int)]) [1] rfl
            have hFc := va_free (wc := [(pr, .inr (7, [.ref p0, .ref p1, .int cn, .ref p3, .int tp, .int fn, .int mn, .ref p7, .ref p8, .ref p9, .ref p10, .ref p11, .ref p12, .ref p13, .ref p14, .ref p15, .ref p16])), (p16, .inl (cI, 630, .inl f))]) hD hS hA [1, 3] rfl
            refine va_calli (va_runV (As := [.int k, .int i]) (rest := []) ⟨hx, hb, hml, hown, hu⟩ (kX4_needsParameter l dC dI s.heap.size pr p0 p1 p3 p7 p8 p9 p10 p11 p12 p13 p14 p15 p16 cn tp fn mn f cI k i (vp_in_iff.mpr ⟨Int32.le_iff_toInt_le.mp (Int32.not_lt.mp c16), by have h9 := Int32.lt_iff_toInt_lt.mp (Int32.not_le.mp c27); omega⟩)) (cwV 2 hu (uG_V (fun _ h => h) mG_1780 mG_1777 mG_1778 mG_1779 mG_216) rfl rfl rfl (by decide +kernel) ⟨Nat.le_of_ble_eq_true rfl, Nat.le_of_ble_eq_true rfl⟩) ⟨fun a U g mk q => by obtain ⟨q0, q1, qP, qK, qD⟩ := q; exact ⟨q0, q1, qP, va_K.moved (u := U) (U := U.calling g mk a) (Vm.Alike.refl U.vm) qK, qD⟩, va_recv hKc hPc (ci := 7) (q0 := 0) rfl rfl, fun U hU hW => ⟨rfl, by rw [hU], by rw [hU]; exact hPc, va_K.moved hW.alike hKc, hDc.weaken (fun _ _ _ _ => trivial)⟩⟩ rfl rfl hl.1 rfl (lv_room (Nat.le_of_ble_eq_true rfl)) dX11_needs_61 ⟨Nat.le_of_ble_eq_true rfl, Nat.le_of_ble_eq_true rfl⟩) hS (fun q _ h => hFc q h) hFc (fun r61 u t H1 locs ht hvm hw hB hz1 hk1 hS => ?_)
            obtain ⟨hP1, hK1, hD1⟩ := hB
            rw [ht] at hP1
            obtain ⟨hP, hD⟩ := va_join (wr := [(x, .inr (14, [.ref tx, .ref pr, .ref rd, .ref li, .ref de, .ref sc, .ref ma, .ref ou, .ref dr, .int st, .int fk, .int fp, .int pe, .int ce, .int le])), (p7, .inl (c7, 630, .inl f7))]) (w1 := [(pr, .inr (7, [.ref p0, .ref p1, .int cn, .ref p3, .int tp, .int fn, .int mn, .ref p7, .ref p8, .ref p9, .ref p10, .ref p11, .ref p12, .ref p13, .ref p14, .ref p15, .ref p16])), (p16, .inl (cI, 630, .inl f))]) hP hD [1, 3] [0, 2] rfl rfl (by decide) (by decide) hk1 hFc hP1 hD1
            generalize H1 = H at hP hS ⊢
            have hP : va_P (dC, dI) vwCl [(x, .inr (14, [.ref tx, .ref pr, .ref rd, .ref li, .ref de, .ref sc, .ref ma, .ref ou, .ref dr, .int st, .int fk, .int fp, .int pe, .int ce, .int le])), (p7, .inl (c7, 630, .inl f7)), (pr, .inr (7, [.ref p0, .ref p1, .int cn, .ref p3, .int tp, .int fn, .int mn, .ref p7, .ref p8, .ref p9, .ref p10, .ref p11, .ref p12, .ref p13, .ref p14, .ref p15, .ref p16])), (p16, .inl (cI, 630, .inl f))] H := hP
            have hD : va_D A [(x, .inr (14, [.ref tx, .ref pr, .ref rd, .ref li, .ref de, .ref sc, .ref ma, .ref ou, .ref dr, .int st, .int fk, .int fp, .int pe, .int ce, .int le])), (p7, .inl (c7, 630, .inl f7)), (pr, .inr (7, [.ref p0, .ref p1, .int cn, .ref p3, .int tp, .int fn, .int mn, .ref p7, .ref p8, .ref p9, .ref p10, .ref p11, .ref p12, .ref p13, .ref p14, .ref p15, .ref p16])), (p16, .inl (cI, 630, .inl f))] := hD
            have er61 : r61 = (if ((f k.toNatClampNeg).toUInt32 >>> (i.toUInt32 &&& Int32.toUInt32 31)).toInt32 &&& 1 = 0 then 0 else 1) := hw
            subst er61
            have hP9 : va_P (dC, dI) vwCl [(x, .inr (14, [.ref tx, .ref pr, .ref rd, .ref li, .ref de, .ref sc, .ref ma, .ref ou, .ref dr, .int st, .int fk, .int fp, .int pe, .int ce, .int le])), (pr, .inr (7, [.ref p0, .ref p1, .int cn, .ref p3, .int tp, .int fn, .int mn, .ref p7, .ref p8, .ref p9, .ref p10, .ref p11, .ref p12, .ref p13, .ref p14, .ref p15, .ref p16])), (p7, .inl (c7, 630, .inl f7)), (p16, .inl (cI, 630, .inl f))] H := by exact hP.sub [0, 2, 1, 3] rfl
            have hD9 : va_D A [(x, .inr (14, [.ref tx, .ref pr, .ref rd, .ref li, .ref de, .ref sc, .ref ma, .ref ou, .ref dr, .int st, .int fk, .int fp, .int pe, .int ce, .int le])), (pr, .inr (7, [.ref p0, .ref p1, .int cn, .ref p3, .int tp, .int fn, .int mn, .ref p7, .ref p8, .ref p9, .ref p10, .ref p11, .ref p12, .ref p13, .ref p14, .ref p15, .ref p16])), (p7, .inl (c7, 630, .inl f7)), (p16, .inl (cI, 630, .inl f))] := by exact hD.sub [0, 2, 1, 3] (by decide) rfl
            have hK9 := hK.sub (tys' := [(c7, .int), (cI, .int)]) [0, 1] rfl
            refine vx_ret ?_
            refine W.widen (k := 1) (n := 6) (Nat.le_of_ble_eq_true rfl) (Nat.le_of_ble_eq_true rfl) ?_
            exact W.zret (v := (if ((f k.toNatClampNeg).toUInt32 >>> (i.toUInt32 &&& Int32.toUInt32 31)).toInt32 &&& 1 = 0 then 0 else 1)) hx hb hr (by split <;> decide) (fun t ht hW => ⟨⟨(if ((f k.toNatClampNeg).toUInt32 >>> (i.toUInt32 &&& Int32.toUInt32 31)).toInt32 &&& 1 = 0 then 0 else 1), (), rfl, ⟨⟨c4, c16, Int32.not_le.mp c27, c31, c44⟩, rfl⟩, by rw [ht]; exact hP9, va_K.moved hW.alike hK9, hD9⟩, hS.F ht⟩) hS.2.2 dX11_needs_64
          · exact ut_throw hx hb hlt hown (by decide +kernel) hu hXw hZ mG_1743 mG_244 ul_IOB uo_IOB hP hK hD hS (by rw [hml]; exact hl.1) hno dX11_needs_47 dX11_needs_50 dX11_needs_51 dX11_needs_54 (Nat.le_of_ble_eq_true rfl) (Nat.le_of_ble_eq_true rfl) (Nat.le_of_ble_eq_true rfl) (Nat.le_of_ble_eq_true rfl) hlocks (Nat.le_of_ble_eq_true rfl) (Nat.le_of_ble_eq_true rfl) (Or.inr ⟨rfl, c4, Or.inr (Or.inr (Or.inr c44))⟩)
  · exact ut_throw hx hb hlt hown (by decide +kernel) hu hXw hZ mG_1627 mG_246 ul_ISE uo_ISE hP hK hD hS (by rw [hml]; exact hl.1) hno dX11_needs_7 dX11_needs_10 dX11_needs_11 dX11_needs_14 (Nat.le_of_ble_eq_true rfl) (Nat.le_of_ble_eq_true rfl) (Nat.le_of_ble_eq_true rfl) (Nat.le_of_ble_eq_true rfl) hlocks (Nat.le_of_ble_eq_true rfl) (Nat.le_of_ble_eq_true rfl) (Or.inl ⟨rfl, c4⟩)
theorem look_in {fn k b : Int32} (hf : fn.toInt ≤ 630) (h1 : ¬ k < 0) (h2 : k < fn) : vp_in (k * 4 + ((b.toUInt32 >>> ((6 : Int32).toUInt32 &&& Int32.toUInt32 31)).toInt32 &&& 3)) 2520 := by
  obtain ⟨j, hj, rfl⟩ := nI_of h1
  have h3 : (nI j).toInt < fn.toInt := Int32.lt_iff_toInt_lt.mp h2
  rw [nI_toInt hj] at h3
  rw [pk_and _ 2 (by decide)]
  have hz : (b.toUInt32 >>> ((6 : Int32).toUInt32 &&& Int32.toUInt32 31)).toInt32.toBitVec.toNat % 2 ^ 2 < 4 := Nat.mod_lt _ (by decide)
  generalize (b.toUInt32 >>> ((6 : Int32).toUInt32 &&& Int32.toUInt32 31)).toInt32.toBitVec.toNat % 2 ^ 2 = z at hz ⊢
  rw [show (4 : Int32) = nI 4 from rfl, pk_mul, nI_add]
  exact vp_in_nI (by omega) (by decide)
set_option maxHeartbeats 4000000 in
set_option maxRecDepth 100000 in
/-- LazyForge.bit(k, b) -/
theorem kX11_bit (l : Launch) (dC : Nat → ClassId) (dI : Nat → Nat → Nat) (sz : Nat) (hlt : l.stackTraces = false) (x tx pr rd li de sc ma ou dr : Nat) (st fk fp pe ce le : Int32) (p0 p1 p3 p7 p8 p9 p10 p11 p12 p13 p14 p15 p16 : Nat) (cn tp fn mn : Int32) (d0 d1 d2 d3 d4 : Nat) (d5 d6 d7 : Int32) (f7 : Nat → Int32) (f : Nat → Int64) (c7 cL : ClassId) (k b : Int32) (hf : fn.toInt ≤ 630) : vx_Met l yX11_bit (Cond.code yX11_bit cX11_bit 3 (some .int) :: uG) ({ frames := 6, cells := 1, slots := 6, locals := 90 }) (va_Pc [.ref x, .int k, .int b] (fun U => U.heap.size = sz ∧ va_P (dC, dI) vwCl [(x, .inr (14, [.ref tx, .ref pr, .ref rd, .ref li, .ref de, .ref sc, .ref ma, .ref ou, .ref dr, .int st, .int fk, .int fp, .int pe, .int ce, .int le])), (pr, .inr (7, [.ref p0, .ref p1, .int cn, .ref p3, .int tp, .int fn, .int mn, .ref p7, .ref p8, .ref p9, .ref p10, .ref p11, .ref p12, .ref p13, .ref p14, .ref p15, .ref p16])), (p7, .inl (c7, 630, .inl f7)), (de, .inr (4, [.ref d0, .ref d1, .ref d2, .ref d3, .ref d4, .int d5, .int d6, .int d7])), (d2, .inl (cL, 2520, .inr (.inl f)))] U.heap ∧ va_K (dC, dI) vwCl [(c7, .int), (cL, .long)] U ∧ va_D (fun _ => True) [(x, .inr (14, [.ref tx, .ref pr, .ref rd, .ref li, .ref de, .ref sc, .ref ma, .ref ou, .ref dr, .int st, .int fk, .int fp, .int pe, .int ce, .int le])), (pr, .inr (7, [.ref p0, .ref p1, .int cn, .ref p3, .int tp, .int fn, .int mn, .ref p7, .ref p8, .ref p9, .ref p10, .ref p11, .ref p12, .ref p13, .ref p14, .ref p15, .ref p16])), (p7, .inl (c7, 630, .inl f7)), (de, .inr (4, [.ref d0, .ref d1, .ref d2, .ref d3, .ref d4, .int d5, .int d6, .int d7])), (d2, .inl (cL, 2520, .inr (.inl f)))] ∧ uXw U ∧ uZ (va_A [(x, .inr (14, [.ref tx, .ref pr, .ref rd, .ref li, .ref de, .ref sc, .ref ma, .ref ou, .ref dr, .int st, .int fk, .int fp, .int pe, .int ce, .int le])), (pr, .inr (7, [.ref p0, .ref p1, .int cn, .ref p3, .int tp, .int fn, .int mn, .ref p7, .ref p8, .ref p9, .ref p10, .ref p11, .ref p12, .ref p13, .ref p14, .ref p15, .ref p16])), (p7, .inl (c7, 630, .inl f7)), (de, .inr (4, [.ref d0, .ref d1, .ref d2, .ref d3, .ref d4, .int d5, .int d6, .int d7])), (d2, .inl (cL, 2520, .inr (.inl f)))] sz) U U.heap)) (va_Qi (S := Unit) (fun r _ => (¬ st = 0 ∧ (¬ k < 0 ∧ k < fn) ∧ ¬ b < 0 ∧ b < 1 <<< (f7 k.toNatClampNeg &&& 31)) ∧ r = a_look f k b) (fun _ t => va_P (dC, dI) vwCl [(x, .inr (14, [.ref tx, .ref pr, .ref rd, .ref li, .ref de, .ref sc, .ref ma, .ref ou, .ref dr, .int st, .int fk, .int fp, .int pe, .int ce, .int le])), (pr, .inr (7, [.ref p0, .ref p1, .int cn, .ref p3, .int tp, .int fn, .int mn, .ref p7, .ref p8, .ref p9, .ref p10, .ref p11, .ref p12, .ref p13, .ref p14, .ref p15, .ref p16])), (p7, .inl (c7, 630, .inl f7)), (de, .inr (4, [.ref d0, .ref d1, .ref d2, .ref d3, .ref d4, .int d5, .int d6, .int d7])), (d2, .inl (cL, 2520, .inr (.inl f)))] t.heap ∧ va_K (dC, dI) vwCl [(c7, .int), (cL, .long)] t ∧ va_D (va_A [(x, .inr (14, [.ref tx, .ref pr, .ref rd, .ref li, .ref de, .ref sc, .ref ma, .ref ou, .ref dr, .int st, .int fk, .int fp, .int pe, .int ce, .int le])), (pr, .inr (7, [.ref p0, .ref p1, .int cn, .ref p3, .int tp, .int fn, .int mn, .ref p7, .ref p8, .ref p9, .ref p10, .ref p11, .ref p12, .ref p13, .ref p14, .ref p15, .ref p16])), (p7, .inl (c7, 630, .inl f7)), (de, .inr (4, [.ref d0, .ref d1, .ref d2, .ref d3, .ref d4, .int d5, .int d6, .int d7])), (d2, .inl (cL, 2520, .inr (.inl f)))] sz) [(x, .inr (14, [.ref tx, .ref pr, .ref rd, .ref li, .ref de, .ref sc, .ref ma, .ref ou, .ref dr, .int st, .int fk, .int fp, .int pe, .int ce, .int le])), (pr, .inr (7, [.ref p0, .ref p1, .int cn, .ref p3, .int tp, .int fn, .int mn, .ref p7, .ref p8, .ref p9, .ref p10, .ref p11, .ref p12, .ref p13, .ref p14, .ref p15, .ref p16])), (p7, .inl (c7, 630, .inl f7)), (de, .inr (4, [.ref d0, .ref d1, .ref d2, .ref d3, .ref d4, .int d5, .int d6, .int d7])), (d2, .inl (cL, 2520, .inr (.inl f)))]) (va_A [(x, .inr (14, [.ref tx, .ref pr, .ref rd, .ref li, .ref de, .ref sc, .ref ma, .ref ou, .ref dr, .int st, .int fk, .int fp, .int pe, .int ce, .int le])), (pr, .inr (7, [.ref p0, .ref p1, .int cn, .ref p3, .int tp, .int fn, .int mn, .ref p7, .ref p8, .ref p9, .ref p10, .ref p11, .ref p12, .ref p13, .ref p14, .ref p15, .ref p16])), (p7, .inl (c7, 630, .inl f7)), (de, .inr (4, [.ref d0, .ref d1, .ref d2, .ref d3, .ref d4, .int d5, .int d6, .int d7])), (d2, .inl (cL, 2520, .inr (.inl f)))] sz)) (uXB dC dI [(x, .inr (14, [.ref tx, .ref pr, .ref rd, .ref li, .ref de, .ref sc, .ref ma, .ref ou, .ref dr, .int st, .int fk, .int fp, .int pe, .int ce, .int le])), (pr, .inr (7, [.ref p0, .ref p1, .int cn, .ref p3, .int tp, .int fn, .int mn, .ref p7, .ref p8, .ref p9, .ref p10, .ref p11, .ref p12, .ref p13, .ref p14, .ref p15, .ref p16])), (p7, .inl (c7, 630, .inl f7)), (de, .inr (4, [.ref d0, .ref d1, .ref d2, .ref d3, .ref d4, .int d5, .int d6, .int d7])), (d2, .inl (cL, 2520, .inr (.inl f)))] [(c7, .int), (cL, .long)] (va_A [(x, .inr (14, [.ref tx, .ref pr, .ref rd, .ref li, .ref de, .ref sc, .ref ma, .ref ou, .ref dr, .int st, .int fk, .int fp, .int pe, .int ce, .int le])), (pr, .inr (7, [.ref p0, .ref p1, .int cn, .ref p3, .int tp, .int fn, .int mn, .ref p7, .ref p8, .ref p9, .ref p10, .ref p11, .ref p12, .ref p13, .ref p14, .ref p15, .ref p16])), (p7, .inl (c7, 630, .inl f7)), (de, .inr (4, [.ref d0, .ref d1, .ref d2, .ref d3, .ref d4, .int d5, .int d6, .int d7])), (d2, .inl (cL, 2520, .inr (.inl f)))] sz) (fun E => (E = "java/lang/IllegalStateException" ∧ st = 0) ∨ (E = "java/lang/IndexOutOfBoundsException" ∧ ¬ st = 0 ∧ (k < 0 ∨ ¬ k < fn)) ∨ (E = "java/lang/IllegalArgumentException" ∧ ¬ st = 0 ∧ (¬ k < 0 ∧ k < fn) ∧ (b < 0 ∨ ¬ b < 1 <<< (f7 k.toNatClampNeg &&& 31))))) 1 6 (va_A [(x, .inr (14, [.ref tx, .ref pr, .ref rd, .ref li, .ref de, .ref sc, .ref ma, .ref ou, .ref dr, .int st, .int fk, .int fp, .int pe, .int ce, .int le])), (pr, .inr (7, [.ref p0, .ref p1, .int cn, .ref p3, .int tp, .int fn, .int mn, .ref p7, .ref p8, .ref p9, .ref p10, .ref p11, .ref p12, .ref p13, .ref p14, .ref p15, .ref p16])), (p7, .inl (c7, 630, .inl f7)), (de, .inr (4, [.ref d0, .ref d1, .ref d2, .ref d3, .ref d4, .int d5, .int d6, .int d7])), (d2, .inl (cL, 2520, .inr (.inl f)))] sz) := by
  refine vx_ofW (cc := cX11_bit) (maxL := 3) (ret := (some .int)) (by decide) rfl ?_
  intro p e s m args below meth c s₁ B hml hno hv
  obtain ⟨rfl, hsz, hP, hK, hD0, hXw, hZ⟩ := hv
  have hx := B.exec
  have hb := B.bytes
  have hr := B.returns
  have hts := atoms_spec (ws := Cond.code yX11_bit cX11_bit 3 (some .int) :: uG) B.pre
  have hu := fun (w : Cond) (h : w ∈ uG) => hts w (List.mem_cons_of_mem _ h)
  have hown : s.vm.findClass RX11 = some m.cls := findClass_of_methodNamed B.named
  have hlocks := B.notSynchronized
  subst hsz
  have hD := hD0.self (sz := s.heap.size)
  generalize hAe : va_A [(x, .inr (14, [.ref tx, .ref pr, .ref rd, .ref li, .ref de, .ref sc, .ref ma, .ref ou, .ref dr, .int st, .int fk, .int fp, .int pe, .int ce, .int le])), (pr, .inr (7, [.ref p0, .ref p1, .int cn, .ref p3, .int tp, .int fn, .int mn, .ref p7, .ref p8, .ref p9, .ref p10, .ref p11, .ref p12, .ref p13, .ref p14, .ref p15, .ref p16])), (p7, .inl (c7, 630, .inl f7)), (de, .inr (4, [.ref d0, .ref d1, .ref d2, .ref d3, .ref d4, .int d5, .int d6, .int d7])), (d2, .inl (cL, 2520, .inr (.inl f)))] s.heap.size = A at hD hZ ⊢
  have hA : ∀ q : Nat, s.heap.size ≤ q → A q := fun q h => by rw [← hAe]; exact Or.inr h
  have hS : va_S A s.heap s.heap [] := va_S.rf
  have hP : va_P (dC, dI) vwCl [(x, .inr (14, [.ref tx, .ref pr, .ref rd, .ref li, .ref de, .ref sc, .ref ma, .ref ou, .ref dr, .int st, .int fk, .int fp, .int pe, .int ce, .int le])), (pr, .inr (7, [.ref p0, .ref p1, .int cn, .ref p3, .int tp, .int fn, .int mn, .ref p7, .ref p8, .ref p9, .ref p10, .ref p11, .ref p12, .ref p13, .ref p14, .ref p15, .ref p16])), (p7, .inl (c7, 630, .inl f7)), (de, .inr (4, [.ref d0, .ref d1, .ref d2, .ref d3, .ref d4, .int d5, .int d6, .int d7])), (d2, .inl (cL, 2520, .inr (.inl f)))] s.heap := hP
  have hD : va_D A [(x, .inr (14, [.ref tx, .ref pr, .ref rd, .ref li, .ref de, .ref sc, .ref ma, .ref ou, .ref dr, .int st, .int fk, .int fp, .int pe, .int ce, .int le])), (pr, .inr (7, [.ref p0, .ref p1, .int cn, .ref p3, .int tp, .int fn, .int mn, .ref p7, .ref p8, .ref p9, .ref p10, .ref p11, .ref p12, .ref p13, .ref p14, .ref p15, .ref p16])), (p7, .inl (c7, 630, .inl f7)), (de, .inr (4, [.ref d0, .ref d1, .ref d2, .ref d3, .ref d4, .int d5, .int d6, .int d7])), (d2, .inl (cL, 2520, .inr (.inl f)))] := hD
  have hl := lv_entry ([.ref x, .int k, .int b]) (n := 3) (Nat.le_of_ble_eq_true rfl)
  rw [lg_entry_eq]
  generalize (lg_sl ([.ref x, .int k, .int b]) ++ List.replicate (3 - (lg_sl ([.ref x, .int k, .int b])).length) Slot.unset).toArray = ls at hl ⊢
  have hl : lv_has ls 3 [(0, .ref x), (1, .int k), (2, .int b)] := hl
  refine lv_aload_n hx hb dX11_bit_0 rfl (lv_at hl 0 rfl) ?_
  refine va_get (D := (dC, dI)) (ci := 14) (v := .int st) (C := RX11) (T := TX11) (N := 15) hx hb hu iuX11 hown hK hP 0 rfl rfl 9 (by decide) (hu _ mG_727) (fun _ h9 => h9) rfl dX11_bit_1 ?_
  refine lv_if_ne (tgt := 15) hx hb dX11_bit_4 (by decide) (fun c4 => ?_) (fun c4 => ?_)
  · refine lv_iload_n hx hb dX11_bit_15 rfl (lv_at hl 1 rfl) ?_
    refine lv_if_lt (tgt := 30) hx hb dX11_bit_16 (by decide) (fun c16 => ?_) (fun c16 => ?_)
    · exact ut_throw hx hb hlt hown (by decide +kernel) hu hXw hZ mG_1743 mG_244 ul_IOB uo_IOB hP hK hD hS (by rw [hml]; exact hl.1) hno dX11_bit_30 dX11_bit_33 dX11_bit_34 dX11_bit_37 (Nat.le_of_ble_eq_true rfl) (Nat.le_of_ble_eq_true rfl) (Nat.le_of_ble_eq_true rfl) (Nat.le_of_ble_eq_true rfl) hlocks (Nat.le_of_ble_eq_true rfl) (Nat.le_of_ble_eq_true rfl) (Or.inr (Or.inl ⟨rfl, c4, Or.inl c16⟩))
    · refine lv_iload_n hx hb dX11_bit_19 rfl (lv_at hl 1 rfl) ?_
      refine lv_aload_n hx hb dX11_bit_20 rfl (lv_at hl 0 rfl) ?_
      refine va_get (D := (dC, dI)) (ci := 14) (v := .ref pr) (C := RX11) (T := TX11) (N := 15) hx hb hu iuX11 hown hK hP 0 rfl rfl 1 (by decide) (hu _ mG_719) (fun _ h9 => h9) rfl dX11_bit_21 ?_
      refine va_get (D := (dC, dI)) (ci := 7) (v := .int fn) (C := RX4) (T := TX4) (N := 17) hx hb hu iuX4 hown hK hP 1 rfl rfl 5 (by decide) (hu _ mG_303) (fun _ h9 => h9) rfl dX11_bit_24 ?_
      refine lv_icmp_lt (tgt := 38) hx hb dX11_bit_27 (by decide) (fun c27 => ?_) (fun c27 => ?_)
      · refine lv_iload_n hx hb dX11_bit_38 rfl (lv_at hl 2 rfl) ?_
        refine lv_if_lt (tgt := 57) hx hb dX11_bit_39 (by decide) (fun c39 => ?_) (fun c39 => ?_)
        · exact ut_throw hx hb hlt hown (by decide +kernel) hu hXw hZ mG_789 mG_230 ul_IAE uo_IAE hP hK hD hS (by rw [hml]; exact hl.1) hno dX11_bit_57 dX11_bit_60 dX11_bit_61 dX11_bit_64 (Nat.le_of_ble_eq_true rfl) (Nat.le_of_ble_eq_true rfl) (Nat.le_of_ble_eq_true rfl) (Nat.le_of_ble_eq_true rfl) hlocks (Nat.le_of_ble_eq_true rfl) (Nat.le_of_ble_eq_true rfl) (Or.inr (Or.inr ⟨rfl, c4, ⟨c16, c27⟩, Or.inl c39⟩))
        · refine lv_iload_n hx hb dX11_bit_42 rfl (lv_at hl 2 rfl) ?_
          refine lv_iconst (v := 1) hx hb dX11_bit_43 (by decide) ?_
          refine lv_aload_n hx hb dX11_bit_44 rfl (lv_at hl 0 rfl) ?_
          refine va_get (D := (dC, dI)) (ci := 14) (v := .ref pr) (C := RX11) (T := TX11) (N := 15) hx hb hu iuX11 hown hK hP 0 rfl rfl 1 (by decide) (hu _ mG_719) (fun _ h9 => h9) rfl dX11_bit_45 ?_
          refine va_get (D := (dC, dI)) (ci := 7) (v := .ref p7) (C := RX4) (T := TX4) (N := 17) hx hb hu iuX4 hown hK hP 1 rfl rfl 7 (by decide) (hu _ mG_313) (fun _ h9 => h9) rfl dX11_bit_48 ?_
          refine lv_iload_n hx hb dX11_bit_51 rfl (lv_at hl 1 rfl) ?_
          refine va_iald hx hb hK hP 2 0 rfl rfl (vp_in_iff.mpr ⟨Int32.le_iff_toInt_le.mp (Int32.not_lt.mp c16), by have h9 := Int32.lt_iff_toInt_lt.mp c27; omega⟩) dX11_bit_52 ?_
          refine lv_ishl hx hb dX11_bit_53 ?_
          refine lv_topi (fun x53 ex53 => ?_)
          refine lv_icmp_lt (tgt := 65) hx hb dX11_bit_54 (by decide) (fun c54 => ?_) (fun c54 => ?_)
          · refine lv_aload_n hx hb dX11_bit_65 rfl (lv_at hl 0 rfl) ?_
            refine va_get (D := (dC, dI)) (ci := 14) (v := .ref de) (C := RX11) (T := TX11) (N := 15) hx hb hu iuX11 hown hK hP 0 rfl rfl 4 (by decide) (hu _ mG_722) (fun _ h9 => h9) rfl dX11_bit_66 ?_
            refine lv_iload_n hx hb dX11_bit_69 rfl (lv_at hl 1 rfl) ?_
            refine lv_iload_n hx hb dX11_bit_70 rfl (lv_at hl 2 rfl) ?_
            have hPc := hP.sub (ws' := [(de, .inr (4, [.ref d0, .ref d1, .ref d2, .ref d3, .ref d4, .int d5, .int d6, .int d7])), (d2, .inl (cL, 2520, .inr (.inl f)))]) [3, 4] rfl
            have hDc := hD.sub (ws' := [(de, .inr (4, [.ref d0, .ref d1, .ref d2, .ref d3, .ref d4, .int d5, .int d6, .int d7])), (d2, .inl (cL, 2520, .inr (.inl f)))]) [3, 4] (by decide) rfl
            have hKc := hK.sub (tys' := [(cL, .long)]) [1] rfl
            have hFc := va_free (wc := [(de, .inr (4, [.ref d0, .ref d1, .ref d2, .ref d3, .ref d4, .int d5, .int d6, .int d7])), (d2, .inl (cL, 2520, .inr (.inl f)))]) hD hS hA [3, 4] rfl
            refine va_calli (va_runV (As := [.int k, .int b]) (rest := []) ⟨hx, hb, hml, hown, hu⟩ (kX1_look l dC dI s.heap.size de d0 d1 d2 d3 d4 d5 d6 d7 f cL k b (look_in hf c16 c27)) (cwV 2 hu (uG_V (fun _ h => h) mG_1603 mG_1788 mG_1601 mG_1602 mG_222) rfl rfl rfl (by decide +kernel) ⟨Nat.le_of_ble_eq_true rfl, Nat.le_of_ble_eq_true rfl⟩) ⟨fun a U g mk q => by obtain ⟨q0, q1, qP, qK, qD⟩ := q; exact ⟨q0, q1, qP, va_K.moved (u := U) (U := U.calling g mk a) (Vm.Alike.refl U.vm) qK, qD⟩, va_recv hKc hPc (ci := 4) (q0 := 0) rfl rfl, fun U hU hW => ⟨rfl, by rw [hU], by rw [hU]; exact hPc, va_K.moved hW.alike hKc, hDc.weaken (fun _ _ _ _ => trivial)⟩⟩ rfl rfl hl.1 rfl (lv_room (Nat.le_of_ble_eq_true rfl)) dX11_bit_71 ⟨Nat.le_of_ble_eq_true rfl, Nat.le_of_ble_eq_true rfl⟩) hS (fun q _ h => hFc q h) hFc (fun r71 u t H1 locs ht hvm hw hB hz1 hk1 hS => ?_)
            obtain ⟨hP1, hK1, hD1⟩ := hB
            rw [ht] at hP1
            obtain ⟨hP, hD⟩ := va_join (wr := [(x, .inr (14, [.ref tx, .ref pr, .ref rd, .ref li, .ref de, .ref sc, .ref ma, .ref ou, .ref dr, .int st, .int fk, .int fp, .int pe, .int ce, .int le])), (pr, .inr (7, [.ref p0, .ref p1, .int cn, .ref p3, .int tp, .int fn, .int mn, .ref p7, .ref p8, .ref p9, .ref p10, .ref p11, .ref p12, .ref p13, .ref p14, .ref p15, .ref p16])), (p7, .inl (c7, 630, .inl f7))]) (w1 := [(de, .inr (4, [.ref d0, .ref d1, .ref d2, .ref d3, .ref d4, .int d5, .int d6, .int d7])), (d2, .inl (cL, 2520, .inr (.inl f)))]) hP hD [3, 4] [0, 1, 2] rfl rfl (by decide) (by decide) hk1 hFc hP1 hD1
            generalize H1 = H at hP hS ⊢
            have hP : va_P (dC, dI) vwCl [(x, .inr (14, [.ref tx, .ref pr, .ref rd, .ref li, .ref de, .ref sc, .ref ma, .ref ou, .ref dr, .int st, .int fk, .int fp, .int pe, .int ce, .int le])), (pr, .inr (7, [.ref p0, .ref p1, .int cn, .ref p3, .int tp, .int fn, .int mn, .ref p7, .ref p8, .ref p9, .ref p10, .ref p11, .ref p12, .ref p13, .ref p14, .ref p15, .ref p16])), (p7, .inl (c7, 630, .inl f7)), (de, .inr (4, [.ref d0, .ref d1, .ref d2, .ref d3, .ref d4, .int d5, .int d6, .int d7])), (d2, .inl (cL, 2520, .inr (.inl f)))] H := hP
            have hD : va_D A [(x, .inr (14, [.ref tx, .ref pr, .ref rd, .ref li, .ref de, .ref sc, .ref ma, .ref ou, .ref dr, .int st, .int fk, .int fp, .int pe, .int ce, .int le])), (pr, .inr (7, [.ref p0, .ref p1, .int cn, .ref p3, .int tp, .int fn, .int mn, .ref p7, .ref p8, .ref p9, .ref p10, .ref p11, .ref p12, .ref p13, .ref p14, .ref p15, .ref p16])), (p7, .inl (c7, 630, .inl f7)), (de, .inr (4, [.ref d0, .ref d1, .ref d2, .ref d3, .ref d4, .int d5, .int d6, .int d7])), (d2, .inl (cL, 2520, .inr (.inl f)))] := hD
            have er71 : r71 = (a_look f k b) := hw
            subst er71
            have hP9 : va_P (dC, dI) vwCl [(x, .inr (14, [.ref tx, .ref pr, .ref rd, .ref li, .ref de, .ref sc, .ref ma, .ref ou, .ref dr, .int st, .int fk, .int fp, .int pe, .int ce, .int le])), (pr, .inr (7, [.ref p0, .ref p1, .int cn, .ref p3, .int tp, .int fn, .int mn, .ref p7, .ref p8, .ref p9, .ref p10, .ref p11, .ref p12, .ref p13, .ref p14, .ref p15, .ref p16])), (p7, .inl (c7, 630, .inl f7)), (de, .inr (4, [.ref d0, .ref d1, .ref d2, .ref d3, .ref d4, .int d5, .int d6, .int d7])), (d2, .inl (cL, 2520, .inr (.inl f)))] H := by exact hP
            have hD9 : va_D A [(x, .inr (14, [.ref tx, .ref pr, .ref rd, .ref li, .ref de, .ref sc, .ref ma, .ref ou, .ref dr, .int st, .int fk, .int fp, .int pe, .int ce, .int le])), (pr, .inr (7, [.ref p0, .ref p1, .int cn, .ref p3, .int tp, .int fn, .int mn, .ref p7, .ref p8, .ref p9, .ref p10, .ref p11, .ref p12, .ref p13, .ref p14, .ref p15, .ref p16])), (p7, .inl (c7, 630, .inl f7)), (de, .inr (4, [.ref d0, .ref d1, .ref d2, .ref d3, .ref d4, .int d5, .int d6, .int d7])), (d2, .inl (cL, 2520, .inr (.inl f)))] := by exact hD
            have hK9 := hK.sub (tys' := [(c7, .int), (cL, .long)]) [0, 1] rfl
            refine vx_ret ?_
            refine W.widen (k := 1) (n := 6) (Nat.le_of_ble_eq_true rfl) (Nat.le_of_ble_eq_true rfl) ?_
            exact W.iret (v := (a_look f k b)) hx hb hr (fun t ht hW => ⟨⟨(a_look f k b), (), rfl, ⟨⟨c4, ⟨c16, c27⟩, c39, by rw [← ex53]; exact c54⟩, rfl⟩, by rw [ht]; exact hP9, va_K.moved hW.alike hK9, hD9⟩, hS.F ht⟩) hS.2.2 dX11_bit_74
          · exact ut_throw hx hb hlt hown (by decide +kernel) hu hXw hZ mG_789 mG_230 ul_IAE uo_IAE hP hK hD hS (by rw [hml]; exact hl.1) hno dX11_bit_57 dX11_bit_60 dX11_bit_61 dX11_bit_64 (Nat.le_of_ble_eq_true rfl) (Nat.le_of_ble_eq_true rfl) (Nat.le_of_ble_eq_true rfl) (Nat.le_of_ble_eq_true rfl) hlocks (Nat.le_of_ble_eq_true rfl) (Nat.le_of_ble_eq_true rfl) (Or.inr (Or.inr ⟨rfl, c4, ⟨c16, c27⟩, Or.inr (by rw [← ex53]; exact c54)⟩))
      · exact ut_throw hx hb hlt hown (by decide +kernel) hu hXw hZ mG_1743 mG_244 ul_IOB uo_IOB hP hK hD hS (by rw [hml]; exact hl.1) hno dX11_bit_30 dX11_bit_33 dX11_bit_34 dX11_bit_37 (Nat.le_of_ble_eq_true rfl) (Nat.le_of_ble_eq_true rfl) (Nat.le_of_ble_eq_true rfl) (Nat.le_of_ble_eq_true rfl) hlocks (Nat.le_of_ble_eq_true rfl) (Nat.le_of_ble_eq_true rfl) (Or.inr (Or.inl ⟨rfl, c4, Or.inr c27⟩))
  · exact ut_throw hx hb hlt hown (by decide +kernel) hu hXw hZ mG_1627 mG_246 ul_ISE uo_ISE hP hK hD hS (by rw [hml]; exact hl.1) hno dX11_bit_7 dX11_bit_10 dX11_bit_11 dX11_bit_14 (Nat.le_of_ble_eq_true rfl) (Nat.le_of_ble_eq_true rfl) (Nat.le_of_ble_eq_true rfl) (Nat.le_of_ble_eq_true rfl) hlocks (Nat.le_of_ble_eq_true rfl) (Nat.le_of_ble_eq_true rfl) (Or.inl ⟨rfl, c4⟩)
