
theorem mG_772 : Cond.methodLink "LazyForge$Signs" 37 yX8_clear ∈ uG := uG_at 772 (by decide +kernel) (by decide +kernel)
theorem mG_773 : Cond.instanceMethod yX8_clear ∈ uG := uG_at 773 (by decide +kernel) (by decide +kernel)
theorem mG_774 : Cond.selects "LazyForge$Signs" yX8_clear yX8_clear ∈ uG := uG_at 774 (by decide +kernel) (by decide +kernel)
theorem mG_775 : Cond.code yX8_clear prog_10_method_2_code 1 none ∈ uG := uG_at 775 (by decide +kernel) (by decide +kernel)
theorem mG_776 : Cond.methodLink "LazyForge$Signs" 33 yX8_add ∈ uG := uG_at 776 (by decide +kernel) (by decide +kernel)
theorem mG_777 : Cond.instanceMethod yX8_add ∈ uG := uG_at 777 (by decide +kernel) (by decide +kernel)
theorem mG_778 : Cond.selects "LazyForge$Signs" yX8_add yX8_add ∈ uG := uG_at 778 (by decide +kernel) (by decide +kernel)
theorem mG_779 : Cond.code yX8_add prog_10_method_3_code 2 none ∈ uG := uG_at 779 (by decide +kernel) (by decide +kernel)
theorem dX8_copy_0 : decode cX8_copy 0 = .ok (.aload_n 0, 1) := by decide +kernel
theorem dX8_copy_1 : decode cX8_copy 1 = .ok (.invokevirtual 37, 3) := by decide +kernel
theorem dX8_copy_4 : decode cX8_copy 4 = .ok (.iconst 0, 1) := by decide +kernel
theorem dX8_copy_5 : decode cX8_copy 5 = .ok (.istore_n 2, 1) := by decide +kernel
theorem dX8_copy_6 : decode cX8_copy 6 = .ok (.iload_n 2, 1) := by decide +kernel
theorem dX8_copy_7 : decode cX8_copy 7 = .ok (.aload_n 1, 1) := by decide +kernel
theorem dX8_copy_8 : decode cX8_copy 8 = .ok (.getfield 15, 3) := by decide +kernel
theorem dX8_copy_11 : decode cX8_copy 11 = .ok (.if_icmp .ge 19, 3) := by decide +kernel
theorem dX8_copy_14 : decode cX8_copy 14 = .ok (.aload_n 0, 1) := by decide +kernel
theorem dX8_copy_15 : decode cX8_copy 15 = .ok (.aload_n 1, 1) := by decide +kernel
theorem dX8_copy_16 : decode cX8_copy 16 = .ok (.getfield 9, 3) := by decide +kernel
theorem dX8_copy_19 : decode cX8_copy 19 = .ok (.iload_n 2, 1) := by decide +kernel
theorem dX8_copy_20 : decode cX8_copy 20 = .ok (.baload, 1) := by decide +kernel
theorem dX8_copy_21 : decode cX8_copy 21 = .ok (.invokevirtual 33, 3) := by decide +kernel
theorem dX8_copy_24 : decode cX8_copy 24 = .ok (.iinc 2 1, 3) := by decide +kernel
theorem dX8_copy_27 : decode cX8_copy 27 = .ok (.goto (-21), 3) := by decide +kernel
theorem dX8_copy_30 : decode cX8_copy 30 = .ok (.return_, 1) := by decide +kernel
/-- the first k of g, byte by byte, over f -/
def cpf (f g : Nat → Int32) (k : Nat) : Nat → Int32 := fun j => if j < k then (g j).toInt8.toInt32 else f j
theorem cpf_0 (f g : Nat → Int32) : cpf f g 0 = f := by funext j; simp [cpf]
theorem cpf_s (f g : Nat → Int32) (i : Nat) : upd (cpf f g i) i (g i).toInt8.toInt32 = cpf f g (i + 1) := by
  funext j
  simp only [upd, cpf]
  by_cases h : j = i
  · subst h; simp
  · by_cases h2 : j < i
    · simp [h, h2, Nat.lt_succ_of_lt h2]
    · have : ¬ j < i + 1 := by omega
      simp [h, h2, this]
set_option maxHeartbeats 4000000 in
set_option maxRecDepth 100000 in
/-- Signs.copy(other) -/
theorem kX8_copy (l : Launch) (dC : Nat → ClassId) (dI : Nat → Nat → Nat) (sz : Nat) (a r cap n : Nat) (lo : Int32) (f : Nat → Int32) (cB : ClassId) (b q cq k : Nat) (lb : Int32) (g : Nat → Int32) (cQ : ClassId) (hk : k ≤ cap) (hq : k ≤ cq) (hc : cap < 2 ^ 31) (hc2 : cq < 2 ^ 31) : Met l yX8_copy (Cond.code yX8_copy cX8_copy 3 none :: uG) ({ frames := 1, cells := 0, slots := 0, locals := 21 }) (va_Pc [.ref a, .ref b] (fun U => U.heap.size = sz ∧ va_P (dC, dI) vwCl [(a, .inr (11, [.ref r, .int (nI n), .int lo])), (r, .inl (cB, cap, .inl f)), (b, .inr (11, [.ref q, .int (nI k), .int lb])), (q, .inl (cQ, cq, .inl g))] U.heap ∧ va_K (dC, dI) vwCl [(cB, .byte), (cQ, .byte)] U ∧ va_D (fun _ => True) [(a, .inr (11, [.ref r, .int (nI n), .int lo])), (r, .inl (cB, cap, .inl f)), (b, .inr (11, [.ref q, .int (nI k), .int lb])), (q, .inl (cQ, cq, .inl g))])) (va_Qv (S := Unit) (fun _ => True) (fun _ t => va_P (dC, dI) vwCl [(b, .inr (11, [.ref q, .int (nI k), .int lb])), (q, .inl (cQ, cq, .inl g)), (a, .inr (11, [.ref r, .int (nI k), .int 0])), (r, .inl (cB, cap, .inl (cpf f g k)))] t.heap ∧ va_K (dC, dI) vwCl [(cB, .byte), (cQ, .byte)] t ∧ va_D (va_A [(a, .inr (11, [.ref r, .int (nI n), .int lo])), (r, .inl (cB, cap, .inl f)), (b, .inr (11, [.ref q, .int (nI k), .int lb])), (q, .inl (cQ, cq, .inl g))] sz) [(b, .inr (11, [.ref q, .int (nI k), .int lb])), (q, .inl (cQ, cq, .inl g)), (a, .inr (11, [.ref r, .int (nI k), .int 0])), (r, .inl (cB, cap, .inl (cpf f g k)))]) (va_A [(a, .inr (11, [.ref r, .int (nI n), .int lo])), (r, .inl (cB, cap, .inl f)), (b, .inr (11, [.ref q, .int (nI k), .int lb])), (q, .inl (cQ, cq, .inl g))] sz)) 0 0 (va_A [(a, .inr (11, [.ref r, .int (nI n), .int lo])), (r, .inl (cB, cap, .inl f)), (b, .inr (11, [.ref q, .int (nI k), .int lb])), (q, .inl (cQ, cq, .inl g))] sz) := by
  refine Met.ofW (cc := cX8_copy) (maxL := 3) (ret := none) (by decide) rfl ?_
  intro p e s m args below meth c s₁ B hml hv
  obtain ⟨rfl, hsz, hP, hK, hD0⟩ := hv
  have hx := B.exec
  have hb := B.bytes
  have hr := B.returns
  have hts := atoms_spec (ws := Cond.code yX8_copy cX8_copy 3 none :: uG) B.pre
  have hu := fun (w : Cond) (h : w ∈ uG) => hts w (List.mem_cons_of_mem _ h)
  have hown : s.vm.findClass RX8 = some m.cls := findClass_of_methodNamed B.named
  have hlocks := B.notSynchronized
  subst hsz
  have hD := hD0.self (sz := s.heap.size)
  generalize hAe : va_A [(a, .inr (11, [.ref r, .int (nI n), .int lo])), (r, .inl (cB, cap, .inl f)), (b, .inr (11, [.ref q, .int (nI k), .int lb])), (q, .inl (cQ, cq, .inl g))] s.heap.size = A at hD ⊢
  have hA : ∀ q : Nat, s.heap.size ≤ q → A q := fun q h => by rw [← hAe]; exact Or.inr h
  have hS : va_S A s.heap s.heap [] := va_S.rf
  have hP : va_P (dC, dI) vwCl [(a, .inr (11, [.ref r, .int (nI n), .int lo])), (r, .inl (cB, cap, .inl f)), (b, .inr (11, [.ref q, .int (nI k), .int lb])), (q, .inl (cQ, cq, .inl g))] s.heap := hP
  have hD : va_D A [(a, .inr (11, [.ref r, .int (nI n), .int lo])), (r, .inl (cB, cap, .inl f)), (b, .inr (11, [.ref q, .int (nI k), .int lb])), (q, .inl (cQ, cq, .inl g))] := hD
  have hl := lv_entry ([.ref a, .ref b]) (n := 3) (Nat.le_of_ble_eq_true rfl)
  rw [lg_entry_eq]
  generalize (lg_sl ([.ref a, .ref b]) ++ List.replicate (3 - (lg_sl ([.ref a, .ref b])).length) Slot.unset).toArray = ls at hl ⊢
  have hl : lv_has ls 3 [(0, .ref a), (1, .ref b)] := hl
  refine lv_aload_n hx hb dX8_copy_0 rfl (lv_at hl 0 rfl) ?_
  have hPc := hP.sub (ws' := [(a, .inr (11, [.ref r, .int (nI n), .int lo])), (r, .inl (cB, cap, .inl f))]) [0, 1] rfl
  have hDc := hD.sub (ws' := [(a, .inr (11, [.ref r, .int (nI n), .int lo])), (r, .inl (cB, cap, .inl f))]) [0, 1] (by decide) rfl
  have hKc := hK.sub (tys' := [(cB, .byte)]) [0] rfl
  have hFc := va_free (wc := [(a, .inr (11, [.ref r, .int (nI n), .int lo])), (r, .inl (cB, cap, .inl f))]) hD hS hA [0, 1] rfl
  refine va_callv (va_runV (As := []) (rest := []) ⟨hx, hb, hml, hown, hu⟩ (kX8_clear l dC dI s.heap.size a r cap n lo f cB) (cwV 0 hu (uG_V (fun _ h => h) mG_775 mG_772 mG_773 mG_774 mG_215) rfl rfl rfl (by decide +kernel) ⟨Nat.le_of_ble_eq_true rfl, Nat.le_of_ble_eq_true rfl⟩) ⟨fun a U g mk q => by obtain ⟨q0, q1, qP, qK, qD⟩ := q; exact ⟨q0, q1, qP, va_K.moved (u := U) (U := U.calling g mk a) (Vm.Alike.refl U.vm) qK, qD⟩, va_recv hKc hPc (ci := 11) (q0 := 0) rfl rfl, fun U hU hW => ⟨rfl, by rw [hU], by rw [hU]; exact hPc, va_K.moved hW.alike hKc, hDc.weaken (fun _ _ _ _ => trivial)⟩⟩ rfl rfl hl.1 rfl (lv_room (Nat.le_of_ble_eq_true rfl)) dX8_copy_1 ⟨Nat.le_of_ble_eq_true rfl, Nat.le_of_ble_eq_true rfl⟩) hS (fun q _ h => hFc q h) hFc (fun u t H1 locs ht hvm hw hB hz1 hk1 hS => ?_)
  obtain ⟨hP1, hK1, hD1⟩ := hB
  rw [ht] at hP1
  obtain ⟨hP, hD⟩ := va_join (wr := [(b, .inr (11, [.ref q, .int (nI k), .int lb])), (q, .inl (cQ, cq, .inl g))]) (w1 := [(a, .inr (11, [.ref r, .int (nI 0), .int 0])), (r, .inl (cB, cap, .inl f))]) hP hD [0, 1] [2, 3] rfl rfl (by decide) (by decide) hk1 hFc hP1 hD1
  generalize H1 = H at hP hS ⊢
  have hP : va_P (dC, dI) vwCl [(b, .inr (11, [.ref q, .int (nI k), .int lb])), (q, .inl (cQ, cq, .inl g)), (a, .inr (11, [.ref r, .int (nI 0), .int 0])), (r, .inl (cB, cap, .inl f))] H := hP
  have hD : va_D A [(b, .inr (11, [.ref q, .int (nI k), .int lb])), (q, .inl (cQ, cq, .inl g)), (a, .inr (11, [.ref r, .int (nI 0), .int 0])), (r, .inl (cB, cap, .inl f))] := hD
  refine lv_iconst (v := 0) hx hb dX8_copy_4 (by decide) ?_
  refine lv_istore_n (lv' := [(2, .int 0), (0, .ref a), (1, .ref b)]) hx hb dX8_copy_5 rfl hl (by decide) rfl (fun ls hl => ?_)
  refine uLoop (σ := Nat) (fun xv H locs ls => (xv ≤ k) ∧ va_P (dC, dI) vwCl [(b, .inr (11, [.ref q, .int (nI k), .int lb])), (q, .inl (cQ, cq, .inl g)), (a, .inr (11, [.ref r, .int (nI xv), .int 0])), (r, .inl (cB, cap, .inl (cpf f g xv)))] H ∧ va_D A [(b, .inr (11, [.ref q, .int (nI k), .int lb])), (q, .inl (cQ, cq, .inl g)), (a, .inr (11, [.ref r, .int (nI xv), .int 0])), (r, .inl (cB, cap, .inl (cpf f g xv)))] ∧ va_S A s.heap H locs ∧ lv_has ls 3 [(0, .ref a), (1, .ref b), (2, .int (nI xv))]) (fun xv => k - xv) (fun xv H locs ls hI ih6 => ?_) (0) ⟨Nat.zero_le _, by rw [cpf_0]; exact hP, by rw [cpf_0]; exact hD, hS, lv_sub hl [1, 2, 0] rfl⟩
  obtain ⟨i, hxv⟩ : ∃ z, z = xv := ⟨_, rfl⟩
  subst hxv
  obtain ⟨hi, hP, hD, hS, hl⟩ := hI
  have hi : i ≤ k := hi
  have hP : va_P (dC, dI) vwCl [(b, .inr (11, [.ref q, .int (nI k), .int lb])), (q, .inl (cQ, cq, .inl g)), (a, .inr (11, [.ref r, .int (nI i), .int 0])), (r, .inl (cB, cap, .inl (cpf f g i)))] H := hP
  have hD : va_D A [(b, .inr (11, [.ref q, .int (nI k), .int lb])), (q, .inl (cQ, cq, .inl g)), (a, .inr (11, [.ref r, .int (nI i), .int 0])), (r, .inl (cB, cap, .inl (cpf f g i)))] := hD
  have hl : lv_has ls 3 [(0, .ref a), (1, .ref b), (2, .int (nI i))] := hl
  refine lv_iload_n hx hb dX8_copy_6 rfl (lv_at hl 2 rfl) ?_
  refine lv_aload_n hx hb dX8_copy_7 rfl (lv_at hl 1 rfl) ?_
  refine va_get (D := (dC, dI)) (ci := 11) (v := .int (nI k)) (C := RX8) (T := TX8) (N := 3) hx hb hu iuX8 hown hK hP 0 rfl rfl 1 (by decide) (hu _ mG_263) (fun _ h9 => h9) rfl dX8_copy_8 ?_
  refine lv_icmp_ge (tgt := 30) hx hb dX8_copy_11 (by decide) (fun c11 => ?_) (fun c11 => ?_)
  · have hik : i = k := by
      have h := (nI_leI (by omega) (by omega)).mp c11
      omega
    subst hik
    have hP9 : va_P (dC, dI) vwCl [(b, .inr (11, [.ref q, .int (nI i), .int lb])), (q, .inl (cQ, cq, .inl g)), (a, .inr (11, [.ref r, .int (nI i), .int 0])), (r, .inl (cB, cap, .inl (cpf f g i)))] H := by exact hP
    have hD9 : va_D A [(b, .inr (11, [.ref q, .int (nI i), .int lb])), (q, .inl (cQ, cq, .inl g)), (a, .inr (11, [.ref r, .int (nI i), .int 0])), (r, .inl (cB, cap, .inl (cpf f g i)))] := by exact hD
    have hK9 := hK.sub (tys' := [(cB, .byte), (cQ, .byte)]) [0, 1] rfl
    exact W.vret hx hb hr (fun t ht hW => ⟨⟨(), rfl, trivial, by rw [ht]; exact hP9, va_K.moved hW.alike hK9, hD9⟩, hS.F ht⟩) hS.2.2 dX8_copy_30
  · have hik : i < k := by
      have h := Int32.not_le.mp c11
      exact (nI_ltI (by omega) (by omega)).mp h
    refine lv_aload_n hx hb dX8_copy_14 rfl (lv_at hl 0 rfl) ?_
    refine lv_aload_n hx hb dX8_copy_15 rfl (lv_at hl 1 rfl) ?_
    refine va_get (D := (dC, dI)) (ci := 11) (v := .ref q) (C := RX8) (T := TX8) (N := 3) hx hb hu iuX8 hown hK hP 0 rfl rfl 0 (by decide) (hu _ mG_262) (fun _ h9 => h9) rfl dX8_copy_16 ?_
    refine lv_iload_n hx hb dX8_copy_19 rfl (lv_at hl 2 rfl) ?_
    refine va_bald hx hb hK hP 1 1 rfl rfl (vp_in_nI (by omega) (by omega)) dX8_copy_20 ?_
    rw [show (g ((nI i)).toNatClampNeg) = (g i) from by rw [nI_clamp (by omega)]]
    have hPc := hP.sub (ws' := [(a, .inr (11, [.ref r, .int (nI i), .int 0])), (r, .inl (cB, cap, .inl (cpf f g i)))]) [2, 3] rfl
    have hDc := hD.sub (ws' := [(a, .inr (11, [.ref r, .int (nI i), .int 0])), (r, .inl (cB, cap, .inl (cpf f g i)))]) [2, 3] (by decide) rfl
    have hKc := hK.sub (tys' := [(cB, .byte)]) [0] rfl
    have hFc := va_free (wc := [(a, .inr (11, [.ref r, .int (nI i), .int 0])), (r, .inl (cB, cap, .inl (cpf f g i)))]) hD hS hA [2, 3] rfl
    refine va_callv (va_runV (As := [.int (g i)]) (rest := []) ⟨hx, hb, hml, hown, hu⟩ (kX8_add l dC dI H.size a r cap i 0 (cpf f g i) cB (g i) (by omega) (by omega)) (cwV 1 hu (uG_V (fun _ h => h) mG_779 mG_776 mG_777 mG_778 mG_215) rfl rfl rfl (by decide +kernel) ⟨Nat.le_of_ble_eq_true rfl, Nat.le_of_ble_eq_true rfl⟩) ⟨fun a U g mk q => by obtain ⟨q0, q1, qP, qK, qD⟩ := q; exact ⟨q0, q1, qP, va_K.moved (u := U) (U := U.calling g mk a) (Vm.Alike.refl U.vm) qK, qD⟩, va_recv hKc hPc (ci := 11) (q0 := 0) rfl rfl, fun U hU hW => ⟨rfl, by rw [hU], by rw [hU]; exact hPc, va_K.moved hW.alike hKc, hDc.weaken (fun _ _ _ _ => trivial)⟩⟩ rfl rfl hl.1 rfl (lv_room (Nat.le_of_ble_eq_true rfl)) dX8_copy_21 ⟨Nat.le_of_ble_eq_true rfl, Nat.le_of_ble_eq_true rfl⟩) hS (fun q _ h => hFc q h) hFc (fun u t H1 locs ht hvm hw hB hz1 hk1 hS => ?_)
    obtain ⟨hP1, hK1, hD1⟩ := hB
    rw [ht] at hP1
    obtain ⟨hP, hD⟩ := va_join (wr := [(b, .inr (11, [.ref q, .int (nI k), .int lb])), (q, .inl (cQ, cq, .inl g))]) (w1 := [(a, .inr (11, [.ref r, .int (nI (if i < cap then i + 1 else i)), .int (if i < cap then 0 else 1)])), (r, .inl (cB, cap, .inl (if i < cap then upd (cpf f g i) i (g i).toInt8.toInt32 else cpf f g i)))]) hP hD [2, 3] [0, 1] rfl rfl (by decide) (by decide) hk1 hFc hP1 hD1
    generalize H1 = H at hP hS ⊢
    have hP : va_P (dC, dI) vwCl [(b, .inr (11, [.ref q, .int (nI k), .int lb])), (q, .inl (cQ, cq, .inl g)), (a, .inr (11, [.ref r, .int (nI (if i < cap then i + 1 else i)), .int (if i < cap then 0 else 1)])), (r, .inl (cB, cap, .inl (if i < cap then upd (cpf f g i) i (g i).toInt8.toInt32 else cpf f g i)))] H := hP
    have hD : va_D A [(b, .inr (11, [.ref q, .int (nI k), .int lb])), (q, .inl (cQ, cq, .inl g)), (a, .inr (11, [.ref r, .int (nI (if i < cap then i + 1 else i)), .int (if i < cap then 0 else 1)])), (r, .inl (cB, cap, .inl (if i < cap then upd (cpf f g i) i (g i).toInt8.toInt32 else cpf f g i)))] := hD
    have hic : i < cap := by omega
    simp only [if_pos hic, cpf_s] at hP hD
    have hP : va_P (dC, dI) vwCl [(b, .inr (11, [.ref q, .int (nI k), .int lb])), (q, .inl (cQ, cq, .inl g)), (a, .inr (11, [.ref r, .int (nI (i + 1)), .int 0])), (r, .inl (cB, cap, .inl (cpf f g (i + 1))))] H := hP
    have hD : va_D A [(b, .inr (11, [.ref q, .int (nI k), .int lb])), (q, .inl (cQ, cq, .inl g)), (a, .inr (11, [.ref r, .int (nI (i + 1)), .int 0])), (r, .inl (cB, cap, .inl (cpf f g (i + 1))))] := hD
    refine lv_iinc (v := (nI (i + 1))) (lv' := [(2, .int (nI (i + 1))), (0, .ref a), (1, .ref b)]) hx hb dX8_copy_24 hl (k := 2) rfl (nI_1 i) (by decide) rfl (fun ls hl => ?_)
    refine lv_goto (tgt := 6) hx hb dX8_copy_27 (by decide) ?_
    exact ih6 ((i + 1)) _ _ _ ⟨by omega, hP, hD, hS, lv_sub hl [1, 2, 0] rfl⟩ (by omega)
