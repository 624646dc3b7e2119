theorem iuX8 : ∀ w ∈ u_ws RX8 TX8 3, w ∈ uG := uG_list _ [268, 270, 272] (by decide +kernel) (by decide +kernel)
theorem mG_262 : Cond.fieldLink "LazyForge$Signs" 9 "LazyForge$Signs" "row" "[B" ∈ uG := uG_at 262 (by decide +kernel) (by decide +kernel)
theorem mG_263 : Cond.fieldLink "LazyForge$Signs" 15 "LazyForge$Signs" "count" "I" ∈ uG := uG_at 263 (by decide +kernel) (by decide +kernel)
theorem mG_266 : Cond.fieldLink "LazyForge$Signs" 19 "LazyForge$Signs" "lost" "Z" ∈ uG := uG_at 266 (by decide +kernel) (by decide +kernel)
theorem dX8_add_0 : decode cX8_add 0 = .ok (.aload_n 0, 1) := by decide +kernel
theorem dX8_add_1 : decode cX8_add 1 = .ok (.getfield 15, 3) := by decide +kernel
theorem dX8_add_4 : decode cX8_add 4 = .ok (.aload_n 0, 1) := by decide +kernel
theorem dX8_add_5 : decode cX8_add 5 = .ok (.getfield 9, 3) := by decide +kernel
theorem dX8_add_8 : decode cX8_add 8 = .ok (.arraylength, 1) := by decide +kernel
theorem dX8_add_9 : decode cX8_add 9 = .ok (.if_icmp .lt 9, 3) := by decide +kernel
theorem dX8_add_12 : decode cX8_add 12 = .ok (.aload_n 0, 1) := by decide +kernel
theorem dX8_add_13 : decode cX8_add 13 = .ok (.iconst 1, 1) := by decide +kernel
theorem dX8_add_14 : decode cX8_add 14 = .ok (.putfield 19, 3) := by decide +kernel
theorem dX8_add_17 : decode cX8_add 17 = .ok (.return_, 1) := by decide +kernel
theorem dX8_add_18 : decode cX8_add 18 = .ok (.aload_n 0, 1) := by decide +kernel
theorem dX8_add_19 : decode cX8_add 19 = .ok (.getfield 9, 3) := by decide +kernel
theorem dX8_add_22 : decode cX8_add 22 = .ok (.aload_n 0, 1) := by decide +kernel
theorem dX8_add_23 : decode cX8_add 23 = .ok (.getfield 15, 3) := by decide +kernel
theorem dX8_add_26 : decode cX8_add 26 = .ok (.iload_n 1, 1) := by decide +kernel
theorem dX8_add_27 : decode cX8_add 27 = .ok (.i2b, 1) := by decide +kernel
theorem dX8_add_28 : decode cX8_add 28 = .ok (.bastore, 1) := by decide +kernel
theorem dX8_add_29 : decode cX8_add 29 = .ok (.aload_n 0, 1) := by decide +kernel
theorem dX8_add_30 : decode cX8_add 30 = .ok (.dup, 1) := by decide +kernel
theorem dX8_add_31 : decode cX8_add 31 = .ok (.getfield 15, 3) := by decide +kernel
theorem dX8_add_34 : decode cX8_add 34 = .ok (.iconst 1, 1) := by decide +kernel
theorem dX8_add_35 : decode cX8_add 35 = .ok (.iadd, 1) := by decide +kernel
theorem dX8_add_36 : decode cX8_add 36 = .ok (.putfield 15, 3) := by decide +kernel
theorem dX8_add_39 : decode cX8_add 39 = .ok (.return_, 1) := by decide +kernel
theorem dX8_clear_0 : decode cX8_clear 0 = .ok (.aload_n 0, 1) := by decide +kernel
theorem dX8_clear_1 : decode cX8_clear 1 = .ok (.iconst 0, 1) := by decide +kernel
theorem dX8_clear_2 : decode cX8_clear 2 = .ok (.putfield 15, 3) := by decide +kernel
theorem dX8_clear_5 : decode cX8_clear 5 = .ok (.aload_n 0, 1) := by decide +kernel
theorem dX8_clear_6 : decode cX8_clear 6 = .ok (.iconst 0, 1) := by decide +kernel
theorem dX8_clear_7 : decode cX8_clear 7 = .ok (.putfield 19, 3) := by decide +kernel
theorem dX8_clear_10 : decode cX8_clear 10 = .ok (.return_, 1) := by decide +kernel
theorem dX8_signAt_0 : decode cX8_signAt 0 = .ok (.iload_n 1, 1) := by decide +kernel
theorem dX8_signAt_1 : decode cX8_signAt 1 = .ok (.ifCond .lt 20, 3) := by decide +kernel
theorem dX8_signAt_4 : decode cX8_signAt 4 = .ok (.iload_n 1, 1) := by decide +kernel
theorem dX8_signAt_5 : decode cX8_signAt 5 = .ok (.aload_n 0, 1) := by decide +kernel
theorem dX8_signAt_6 : decode cX8_signAt 6 = .ok (.getfield 15, 3) := by decide +kernel
theorem dX8_signAt_9 : decode cX8_signAt 9 = .ok (.if_icmp .ge 12, 3) := by decide +kernel
theorem dX8_signAt_12 : decode cX8_signAt 12 = .ok (.aload_n 0, 1) := by decide +kernel
theorem dX8_signAt_13 : decode cX8_signAt 13 = .ok (.getfield 9, 3) := by decide +kernel
theorem dX8_signAt_16 : decode cX8_signAt 16 = .ok (.iload_n 1, 1) := by decide +kernel
theorem dX8_signAt_17 : decode cX8_signAt 17 = .ok (.baload, 1) := by decide +kernel
theorem dX8_signAt_18 : decode cX8_signAt 18 = .ok (.goto 4, 3) := by decide +kernel
theorem dX8_signAt_21 : decode cX8_signAt 21 = .ok (.iconst (-1), 1) := by decide +kernel
theorem dX8_signAt_22 : decode cX8_signAt 22 = .ok (.ireturn, 1) := by decide +kernel
set_option maxHeartbeats 4000000 in
set_option maxRecDepth 100000 in
/-- Signs.clear(): no sign, none lost -/
theorem kX8_clear (l : Launch) (dC : Nat → ClassId) (dI : Nat → Nat → Nat) (sz : Nat) (a r cap n : Nat) (lo : Int32) (f : Nat → Int32) (cB : ClassId) : Met l yX8_clear (Cond.code yX8_clear cX8_clear 1 none :: uG) ({ frames := 0, cells := 0, slots := 0, locals := 0 }) (va_Pc [.ref a] (fun U => U.heap.size = sz ∧ va_P (dC, dI) vwCl [(a, .inr (11, [.ref r, .int (nI n), .int lo])), (r, .inl (cB, cap, .inl f))] U.heap ∧ va_K (dC, dI) vwCl [(cB, .byte)] U ∧ va_D (fun _ => True) [(a, .inr (11, [.ref r, .int (nI n), .int lo])), (r, .inl (cB, cap, .inl f))])) (va_Qv (S := Unit) (fun _ => True) (fun _ t => va_P (dC, dI) vwCl [(a, .inr (11, [.ref r, .int (nI 0), .int 0])), (r, .inl (cB, cap, .inl f))] t.heap ∧ va_K (dC, dI) vwCl [(cB, .byte)] t ∧ va_D (va_A [(a, .inr (11, [.ref r, .int (nI n), .int lo])), (r, .inl (cB, cap, .inl f))] sz) [(a, .inr (11, [.ref r, .int (nI 0), .int 0])), (r, .inl (cB, cap, .inl f))]) (va_A [(a, .inr (11, [.ref r, .int (nI n), .int lo])), (r, .inl (cB, cap, .inl f))] sz)) 0 0 (va_A [(a, .inr (11, [.ref r, .int (nI n), .int lo])), (r, .inl (cB, cap, .inl f))] sz) := by
  refine Met.ofW (cc := cX8_clear) (maxL := 1) (ret := none) (by decide) rfl ?_
  intro p e s m args below meth c s₁ B hml hv
  obtain ⟨rfl, hsz, hP, hK, hD0⟩ := hv
  have hx := B.exec
  have hb := B.bytes
  have hr := B.returns
  have hts := atoms_spec (ws := Cond.code yX8_clear cX8_clear 1 none :: uG) B.pre
  have hu := fun (w : Cond) (h : w ∈ uG) => hts w (List.mem_cons_of_mem _ h)
  have hown : s.vm.findClass RX8 = some m.cls := findClass_of_methodNamed B.named
  have hlocks := B.notSynchronized
  subst hsz
  have hD := hD0.self (sz := s.heap.size)
  generalize hAe : va_A [(a, .inr (11, [.ref r, .int (nI n), .int lo])), (r, .inl (cB, cap, .inl f))] s.heap.size = A at hD ⊢
  have hA : ∀ q : Nat, s.heap.size ≤ q → A q := fun q h => by rw [← hAe]; exact Or.inr h
  have hS : va_S A s.heap s.heap [] := va_S.rf
  have hP : va_P (dC, dI) vwCl [(a, .inr (11, [.ref r, .int (nI n), .int lo])), (r, .inl (cB, cap, .inl f))] s.heap := hP
  have hD : va_D A [(a, .inr (11, [.ref r, .int (nI n), .int lo])), (r, .inl (cB, cap, .inl f))] := hD
  have hl := lv_entry ([.ref a]) (n := 1) (Nat.le_of_ble_eq_true rfl)
  rw [lg_entry_eq]
  generalize (lg_sl ([.ref a]) ++ List.replicate (1 - (lg_sl ([.ref a])).length) Slot.unset).toArray = ls at hl ⊢
  have hl : lv_has ls 1 [(0, .ref a)] := hl
  refine lv_aload_n hx hb dX8_clear_0 rfl (lv_at hl 0 rfl) ?_
  refine lv_iconst (v := 0) hx hb dX8_clear_1 (by decide) ?_
  refine va_put (D := (dC, dI)) (ci := 11) (v := .int 0) (ty := (tyX8 1)) (C := RX8) (T := TX8) (N := 3) hx hb hu iuX8 tyX8 tyX8_ok nmX8 hown hK hP hD hS 0 rfl rfl 1 (by decide) (hu _ mG_263) (fun _ h9 => h9) rfl (by decide +kernel) (rfl) (rfl) (Nat.le_of_ble_eq_true rfl) dX8_clear_2 (fun H locs hP hD hS => ?_)
  have hP : va_P (dC, dI) vwCl [(a, .inr (11, [.ref r, .int 0, .int lo])), (r, .inl (cB, cap, .inl f))] H := hP
  have hD : va_D A [(a, .inr (11, [.ref r, .int 0, .int lo])), (r, .inl (cB, cap, .inl f))] := hD
  refine lv_aload_n hx hb dX8_clear_5 rfl (lv_at hl 0 rfl) ?_
  refine lv_iconst (v := 0) hx hb dX8_clear_6 (by decide) ?_
  refine va_put (D := (dC, dI)) (ci := 11) (v := .int 0) (ty := (tyX8 2)) (C := RX8) (T := TX8) (N := 3) hx hb hu iuX8 tyX8 tyX8_ok nmX8 hown hK hP hD hS 0 rfl rfl 2 (by decide) (hu _ mG_266) (fun _ h9 => h9) rfl (by decide +kernel) (rfl) (rfl) (Nat.le_of_ble_eq_true rfl) dX8_clear_7 (fun H locs hP hD hS => ?_)
  have hP : va_P (dC, dI) vwCl [(a, .inr (11, [.ref r, .int 0, .int 0])), (r, .inl (cB, cap, .inl f))] H := hP
  have hD : va_D A [(a, .inr (11, [.ref r, .int 0, .int 0])), (r, .inl (cB, cap, .inl f))] := hD
  have hP9 : va_P (dC, dI) vwCl [(a, .inr (11, [.ref r, .int (nI 0), .int 0])), (r, .inl (cB, cap, .inl f))] H := by rw [nI_0]; exact hP
  have hD9 : va_D A [(a, .inr (11, [.ref r, .int (nI 0), .int 0])), (r, .inl (cB, cap, .inl f))] := by rw [nI_0]; exact hD
  have hK9 := hK.sub (tys' := [(cB, .byte)]) [0] rfl
  exact W.vret hx hb hr (fun t ht hW => ⟨⟨(), rfl, trivial, by rw [ht]; exact hP9, va_K.moved hW.alike hK9, hD9⟩, hS.F ht⟩) hS.2.2 dX8_clear_10
set_option maxHeartbeats 4000000 in
set_option maxRecDepth 100000 in
/-- Signs.add(x): one sign more, or it is lost -/
theorem kX8_add (l : Launch) (dC : Nat → ClassId) (dI : Nat → Nat → Nat) (sz : Nat) (a r cap n : Nat) (lo : Int32) (f : Nat → Int32) (cB : ClassId) (x : Int32) (hn : n ≤ cap) (hc : cap < 2 ^ 31) : Met l yX8_add (Cond.code yX8_add cX8_add 2 none :: uG) ({ frames := 0, cells := 0, slots := 0, locals := 0 }) (va_Pc [.ref a, .int x] (fun U => U.heap.size = sz ∧ va_P (dC, dI) vwCl [(a, .inr (11, [.ref r, .int (nI n), .int lo])), (r, .inl (cB, cap, .inl f))] U.heap ∧ va_K (dC, dI) vwCl [(cB, .byte)] U ∧ va_D (fun _ => True) [(a, .inr (11, [.ref r, .int (nI n), .int lo])), (r, .inl (cB, cap, .inl f))])) (va_Qv (S := Unit) (fun _ => True) (fun _ t => va_P (dC, dI) vwCl [(a, .inr (11, [.ref r, .int (nI (if n < cap then n + 1 else n)), .int (if n < cap then lo else 1)])), (r, .inl (cB, cap, .inl (if n < cap then upd f n x.toInt8.toInt32 else f)))] t.heap ∧ va_K (dC, dI) vwCl [(cB, .byte)] t ∧ va_D (va_A [(a, .inr (11, [.ref r, .int (nI n), .int lo])), (r, .inl (cB, cap, .inl f))] sz) [(a, .inr (11, [.ref r, .int (nI (if n < cap then n + 1 else n)), .int (if n < cap then lo else 1)])), (r, .inl (cB, cap, .inl (if n < cap then upd f n x.toInt8.toInt32 else f)))]) (va_A [(a, .inr (11, [.ref r, .int (nI n), .int lo])), (r, .inl (cB, cap, .inl f))] sz)) 0 0 (va_A [(a, .inr (11, [.ref r, .int (nI n), .int lo])), (r, .inl (cB, cap, .inl f))] sz) := by
  refine Met.ofW (cc := cX8_add) (maxL := 2) (ret := none) (by decide) rfl ?_
  intro p e s m args below meth c s₁ B hml hv
  obtain ⟨rfl, hsz, hP, hK, hD0⟩ := hv
  have hx := B.exec
  have hb := B.bytes
  have hr := B.returns
  have hts := atoms_spec (ws := Cond.code yX8_add cX8_add 2 none :: uG) B.pre
  have hu := fun (w : Cond) (h : w ∈ uG) => hts w (List.mem_cons_of_mem _ h)
  have hown : s.vm.findClass RX8 = some m.cls := findClass_of_methodNamed B.named
  have hlocks := B.notSynchronized
  subst hsz
  have hD := hD0.self (sz := s.heap.size)
  generalize hAe : va_A [(a, .inr (11, [.ref r, .int (nI n), .int lo])), (r, .inl (cB, cap, .inl f))] s.heap.size = A at hD ⊢
  have hA : ∀ q : Nat, s.heap.size ≤ q → A q := fun q h => by rw [← hAe]; exact Or.inr h
  have hS : va_S A s.heap s.heap [] := va_S.rf
  have hP : va_P (dC, dI) vwCl [(a, .inr (11, [.ref r, .int (nI n), .int lo])), (r, .inl (cB, cap, .inl f))] s.heap := hP
  have hD : va_D A [(a, .inr (11, [.ref r, .int (nI n), .int lo])), (r, .inl (cB, cap, .inl f))] := hD
  have hl := lv_entry ([.ref a, .int x]) (n := 2) (Nat.le_of_ble_eq_true rfl)
  rw [lg_entry_eq]
  generalize (lg_sl ([.ref a, .int x]) ++ List.replicate (2 - (lg_sl ([.ref a, .int x])).length) Slot.unset).toArray = ls at hl ⊢
  have hl : lv_has ls 2 [(0, .ref a), (1, .int x)] := hl
  refine lv_aload_n hx hb dX8_add_0 rfl (lv_at hl 0 rfl) ?_
  refine va_get (D := (dC, dI)) (ci := 11) (v := .int (nI n)) (C := RX8) (T := TX8) (N := 3) hx hb hu iuX8 hown hK hP 0 rfl rfl 1 (by decide) (hu _ mG_263) (fun _ h9 => h9) rfl dX8_add_1 ?_
  refine lv_aload_n hx hb dX8_add_4 rfl (lv_at hl 0 rfl) ?_
  refine va_get (D := (dC, dI)) (ci := 11) (v := .ref r) (C := RX8) (T := TX8) (N := 3) hx hb hu iuX8 hown hK hP 0 rfl rfl 0 (by decide) (hu _ mG_262) (fun _ h9 => h9) rfl dX8_add_5 ?_
  refine va_alen (v := nI (cap)) hx hb hK hP 1 0 rfl rfl rfl dX8_add_8 ?_
  refine lv_icmp_lt (tgt := 18) hx hb dX8_add_9 (by decide) (fun c9 => ?_) (fun c9 => ?_)
  · have h9 : n < cap := (nI_ltI (by omega) hc).mp c9
    refine lv_aload_n hx hb dX8_add_18 rfl (lv_at hl 0 rfl) ?_
    refine va_get (D := (dC, dI)) (ci := 11) (v := .ref r) (C := RX8) (T := TX8) (N := 3) hx hb hu iuX8 hown hK hP 0 rfl rfl 0 (by decide) (hu _ mG_262) (fun _ h9 => h9) rfl dX8_add_19 ?_
    refine lv_aload_n hx hb dX8_add_22 rfl (lv_at hl 0 rfl) ?_
    refine va_get (D := (dC, dI)) (ci := 11) (v := .int (nI n)) (C := RX8) (T := TX8) (N := 3) hx hb hu iuX8 hown hK hP 0 rfl rfl 1 (by decide) (hu _ mG_263) (fun _ h9 => h9) rfl dX8_add_23 ?_
    refine lv_iload_n hx hb dX8_add_26 rfl (lv_at hl 1 rfl) ?_
    refine lv_i2b hx hb dX8_add_27 rfl ?_
    refine lv_topi (fun x27 ex27 => ?_)
    refine va_bast hx hb hK hP hD hS 1 0 rfl rfl (vp_in_nI h9 hc) dX8_add_28 (fun H locs hP hD hS => ?_)
    rw [show (upd f ((nI n)).toNatClampNeg (vp_nar .byte x27)) = (upd f n x.toInt8.toInt32) from by rw [nI_clamp (by omega), ex27, pk_vb]] at hP hD
    have hP : va_P (dC, dI) vwCl [(a, .inr (11, [.ref r, .int (nI n), .int lo])), (r, .inl (cB, cap, .inl (upd f n x.toInt8.toInt32)))] H := hP
    have hD : va_D A [(a, .inr (11, [.ref r, .int (nI n), .int lo])), (r, .inl (cB, cap, .inl (upd f n x.toInt8.toInt32)))] := hD
    refine lv_aload_n hx hb dX8_add_29 rfl (lv_at hl 0 rfl) ?_
    refine lv_dup hx hb dX8_add_30 rfl ?_
    refine va_get (D := (dC, dI)) (ci := 11) (v := .int (nI n)) (C := RX8) (T := TX8) (N := 3) hx hb hu iuX8 hown hK hP 0 rfl rfl 1 (by decide) (hu _ mG_263) (fun _ h9 => h9) rfl dX8_add_31 ?_
    refine lv_iconst (v := 1) hx hb dX8_add_34 (by decide) ?_
    refine lv_iadd hx hb dX8_add_35 ?_
    refine lv_topi (fun x35 ex35 => ?_)
    obtain rfl : x35 = (nI (n + 1)) := by rw [ex35]; exact nI_1 n
    refine va_put (D := (dC, dI)) (ci := 11) (v := .int (nI (n + 1))) (ty := (tyX8 1)) (C := RX8) (T := TX8) (N := 3) hx hb hu iuX8 tyX8 tyX8_ok nmX8 hown hK hP hD hS 0 rfl rfl 1 (by decide) (hu _ mG_263) (fun _ h9 => h9) rfl (by decide +kernel) (rfl) (rfl) (Nat.le_of_ble_eq_true rfl) dX8_add_36 (fun H locs hP hD hS => ?_)
    have hP : va_P (dC, dI) vwCl [(a, .inr (11, [.ref r, .int (nI (n + 1)), .int lo])), (r, .inl (cB, cap, .inl (upd f n x.toInt8.toInt32)))] H := hP
    have hD : va_D A [(a, .inr (11, [.ref r, .int (nI (n + 1)), .int lo])), (r, .inl (cB, cap, .inl (upd f n x.toInt8.toInt32)))] := hD
    have hP9 : va_P (dC, dI) vwCl [(a, .inr (11, [.ref r, .int (nI (if n < cap then n + 1 else n)), .int (if n < cap then lo else 1)])), (r, .inl (cB, cap, .inl (if n < cap then upd f n x.toInt8.toInt32 else f)))] H := by simp only [if_pos h9]; exact hP
    have hD9 : va_D A [(a, .inr (11, [.ref r, .int (nI (if n < cap then n + 1 else n)), .int (if n < cap then lo else 1)])), (r, .inl (cB, cap, .inl (if n < cap then upd f n x.toInt8.toInt32 else f)))] := by simp only [if_pos h9]; exact hD
    have hK9 := hK.sub (tys' := [(cB, .byte)]) [0] rfl
    exact W.vret hx hb hr (fun t ht hW => ⟨⟨(), rfl, trivial, by rw [ht]; exact hP9, va_K.moved hW.alike hK9, hD9⟩, hS.F ht⟩) hS.2.2 dX8_add_39
  · have h9 : ¬ n < cap := fun h => c9 ((nI_ltI (by omega) hc).mpr h)
    refine lv_aload_n hx hb dX8_add_12 rfl (lv_at hl 0 rfl) ?_
    refine lv_iconst (v := 1) hx hb dX8_add_13 (by decide) ?_
    refine va_put (D := (dC, dI)) (ci := 11) (v := .int 1) (ty := (tyX8 2)) (C := RX8) (T := TX8) (N := 3) hx hb hu iuX8 tyX8 tyX8_ok nmX8 hown hK hP hD hS 0 rfl rfl 2 (by decide) (hu _ mG_266) (fun _ h9 => h9) rfl (by decide +kernel) (rfl) (rfl) (Nat.le_of_ble_eq_true rfl) dX8_add_14 (fun H locs hP hD hS => ?_)
    have hP : va_P (dC, dI) vwCl [(a, .inr (11, [.ref r, .int (nI n), .int 1])), (r, .inl (cB, cap, .inl f))] H := hP
    have hD : va_D A [(a, .inr (11, [.ref r, .int (nI n), .int 1])), (r, .inl (cB, cap, .inl f))] := hD
    have hP9 : va_P (dC, dI) vwCl [(a, .inr (11, [.ref r, .int (nI (if n < cap then n + 1 else n)), .int (if n < cap then lo else 1)])), (r, .inl (cB, cap, .inl (if n < cap then upd f n x.toInt8.toInt32 else f)))] H := by simp only [if_neg h9]; exact hP
    have hD9 : va_D A [(a, .inr (11, [.ref r, .int (nI (if n < cap then n + 1 else n)), .int (if n < cap then lo else 1)])), (r, .inl (cB, cap, .inl (if n < cap then upd f n x.toInt8.toInt32 else f)))] := by simp only [if_neg h9]; exact hD
    have hK9 := hK.sub (tys' := [(cB, .byte)]) [0] rfl
    exact W.vret hx hb hr (fun t ht hW => ⟨⟨(), rfl, trivial, by rw [ht]; exact hP9, va_K.moved hW.alike hK9, hD9⟩, hS.F ht⟩) hS.2.2 dX8_add_17
set_option maxHeartbeats 4000000 in
set_option maxRecDepth 100000 in
/-- Signs.signAt(k) -/
theorem kX8_signAt (l : Launch) (dC : Nat → ClassId) (dI : Nat → Nat → Nat) (sz : Nat) (a r cap n : Nat) (lo : Int32) (f : Nat → Int32) (cB : ClassId) (k : Int32) (hn : n ≤ cap) (hc : cap < 2 ^ 31) : Met l yX8_signAt (Cond.code yX8_signAt cX8_signAt 2 (some .int) :: uG) ({ frames := 0, cells := 0, slots := 0, locals := 0 }) (va_Pc [.ref a, .int k] (fun U => U.heap.size = sz ∧ va_P (dC, dI) vwCl [(a, .inr (11, [.ref r, .int (nI n), .int lo])), (r, .inl (cB, cap, .inl f))] U.heap ∧ va_K (dC, dI) vwCl [(cB, .byte)] U ∧ va_D (fun _ => True) [(a, .inr (11, [.ref r, .int (nI n), .int lo])), (r, .inl (cB, cap, .inl f))])) (va_Qi (S := Unit) (fun r _ => r = (if ¬ k < 0 ∧ k < nI n then f k.toNatClampNeg else (-1))) (fun _ t => va_P (dC, dI) vwCl [(a, .inr (11, [.ref r, .int (nI n), .int lo])), (r, .inl (cB, cap, .inl f))] t.heap ∧ va_K (dC, dI) vwCl [(cB, .byte)] t ∧ va_D (va_A [(a, .inr (11, [.ref r, .int (nI n), .int lo])), (r, .inl (cB, cap, .inl f))] sz) [(a, .inr (11, [.ref r, .int (nI n), .int lo])), (r, .inl (cB, cap, .inl f))]) (va_A [(a, .inr (11, [.ref r, .int (nI n), .int lo])), (r, .inl (cB, cap, .inl f))] sz)) 0 0 (va_A [(a, .inr (11, [.ref r, .int (nI n), .int lo])), (r, .inl (cB, cap, .inl f))] sz) := by
  refine Met.ofW (cc := cX8_signAt) (maxL := 2) (ret := (some .int)) (by decide) rfl ?_
  intro p e s m args below meth c s₁ B hml hv
  obtain ⟨rfl, hsz, hP, hK, hD0⟩ := hv
  have hx := B.exec
  have hb := B.bytes
  have hr := B.returns
  have hts := atoms_spec (ws := Cond.code yX8_signAt cX8_signAt 2 (some .int) :: uG) B.pre
  have hu := fun (w : Cond) (h : w ∈ uG) => hts w (List.mem_cons_of_mem _ h)
  have hown : s.vm.findClass RX8 = some m.cls := findClass_of_methodNamed B.named
  have hlocks := B.notSynchronized
  subst hsz
  have hD := hD0.self (sz := s.heap.size)
  generalize hAe : va_A [(a, .inr (11, [.ref r, .int (nI n), .int lo])), (r, .inl (cB, cap, .inl f))] s.heap.size = A at hD ⊢
  have hA : ∀ q : Nat, s.heap.size ≤ q → A q := fun q h => by rw [← hAe]; exact Or.inr h
  have hS : va_S A s.heap s.heap [] := va_S.rf
  have hP : va_P (dC, dI) vwCl [(a, .inr (11, [.ref r, .int (nI n), .int lo])), (r, .inl (cB, cap, .inl f))] s.heap := hP
  have hD : va_D A [(a, .inr (11, [.ref r, .int (nI n), .int lo])), (r, .inl (cB, cap, .inl f))] := hD
  have hl := lv_entry ([.ref a, .int k]) (n := 2) (Nat.le_of_ble_eq_true rfl)
  rw [lg_entry_eq]
  generalize (lg_sl ([.ref a, .int k]) ++ List.replicate (2 - (lg_sl ([.ref a, .int k])).length) Slot.unset).toArray = ls at hl ⊢
  have hl : lv_has ls 2 [(0, .ref a), (1, .int k)] := hl
  refine lv_iload_n hx hb dX8_signAt_0 rfl (lv_at hl 1 rfl) ?_
  refine lv_if_lt (tgt := 21) hx hb dX8_signAt_1 (by decide) (fun c1 => ?_) (fun c1 => ?_)
  · refine lv_iconst (v := (-1)) hx hb dX8_signAt_21 (by decide) ?_
    have hP9 : va_P (dC, dI) vwCl [(a, .inr (11, [.ref r, .int (nI n), .int lo])), (r, .inl (cB, cap, .inl f))] s.heap := by exact hP
    have hD9 : va_D A [(a, .inr (11, [.ref r, .int (nI n), .int lo])), (r, .inl (cB, cap, .inl f))] := by exact hD
    have hK9 := hK.sub (tys' := [(cB, .byte)]) [0] rfl
    exact W.iret (v := (-1)) hx hb hr (fun t ht hW => ⟨⟨(-1), (), rfl, by rw [if_neg (fun h => h.1 c1)], by rw [ht]; exact hP9, va_K.moved hW.alike hK9, hD9⟩, hS.F ht⟩) hS.2.2 dX8_signAt_22
  · refine lv_iload_n hx hb dX8_signAt_4 rfl (lv_at hl 1 rfl) ?_
    refine lv_aload_n hx hb dX8_signAt_5 rfl (lv_at hl 0 rfl) ?_
    refine va_get (D := (dC, dI)) (ci := 11) (v := .int (nI n)) (C := RX8) (T := TX8) (N := 3) hx hb hu iuX8 hown hK hP 0 rfl rfl 1 (by decide) (hu _ mG_263) (fun _ h9 => h9) rfl dX8_signAt_6 ?_
    refine lv_icmp_ge (tgt := 21) hx hb dX8_signAt_9 (by decide) (fun c9 => ?_) (fun c9 => ?_)
    · refine lv_iconst (v := (-1)) hx hb dX8_signAt_21 (by decide) ?_
      have hP9 : va_P (dC, dI) vwCl [(a, .inr (11, [.ref r, .int (nI n), .int lo])), (r, .inl (cB, cap, .inl f))] s.heap := by exact hP
      have hD9 : va_D A [(a, .inr (11, [.ref r, .int (nI n), .int lo])), (r, .inl (cB, cap, .inl f))] := by exact hD
      have hK9 := hK.sub (tys' := [(cB, .byte)]) [0] rfl
      exact W.iret (v := (-1)) hx hb hr (fun t ht hW => ⟨⟨(-1), (), rfl, by rw [if_neg (fun h => Int32.not_le.mpr h.2 c9)], by rw [ht]; exact hP9, va_K.moved hW.alike hK9, hD9⟩, hS.F ht⟩) hS.2.2 dX8_signAt_22
    · refine lv_aload_n hx hb dX8_signAt_12 rfl (lv_at hl 0 rfl) ?_
      refine va_get (D := (dC, dI)) (ci := 11) (v := .ref r) (C := RX8) (T := TX8) (N := 3) hx hb hu iuX8 hown hK hP 0 rfl rfl 0 (by decide) (hu _ mG_262) (fun _ h9 => h9) rfl dX8_signAt_13 ?_
      refine lv_iload_n hx hb dX8_signAt_16 rfl (lv_at hl 1 rfl) ?_
      refine va_bald hx hb hK hP 1 0 rfl rfl (vp_in_iff.mpr ⟨by have := Int32.not_lt.mp c1; exact Int32.le_iff_toInt_le.mp this, by have := Int32.lt_iff_toInt_lt.mp (Int32.not_le.mp c9); rw [nI_toInt (by omega)] at this; omega⟩) dX8_signAt_17 ?_
      refine lv_goto (tgt := 22) hx hb dX8_signAt_18 (by decide) ?_
      have hP9 : va_P (dC, dI) vwCl [(a, .inr (11, [.ref r, .int (nI n), .int lo])), (r, .inl (cB, cap, .inl f))] s.heap := by exact hP
      have hD9 : va_D A [(a, .inr (11, [.ref r, .int (nI n), .int lo])), (r, .inl (cB, cap, .inl f))] := by exact hD
      have hK9 := hK.sub (tys' := [(cB, .byte)]) [0] rfl
      exact W.iret (v := (f (k).toNatClampNeg)) hx hb hr (fun t ht hW => ⟨⟨(f (k).toNatClampNeg), (), rfl, by rw [if_pos ⟨c1, Int32.not_le.mp c9⟩], by rw [ht]; exact hP9, va_K.moved hW.alike hK9, hD9⟩, hS.F ht⟩) hS.2.2 dX8_signAt_22
