
theorem mG_242 : Cond.initialized "java/lang/System" ∈ uG := uG_at 242 (by decide +kernel) (by decide +kernel)
theorem mG_1394 : Cond.methodLink "java/util/Arrays" 304 yJ9_min_7cf53 ∈ uG := uG_at 1394 (by decide +kernel) (by decide +kernel)
theorem mG_1395 : Cond.methodLink "java/util/Arrays" 150 ⟨"java/lang/System","arraycopy","(Ljava/lang/Object;ILjava/lang/Object;II)V"⟩ ∈ uG := uG_at 1395 (by decide +kernel) (by decide +kernel)
theorem mG_1396 : Cond.static ⟨"java/lang/System","arraycopy","(Ljava/lang/Object;ILjava/lang/Object;II)V"⟩ ∈ uG := uG_at 1396 (by decide +kernel) (by decide +kernel)
theorem mG_1397 : Cond.native ⟨"java/lang/System","arraycopy","(Ljava/lang/Object;ILjava/lang/Object;II)V"⟩ ∈ uG := uG_at 1397 (by decide +kernel) (by decide +kernel)
theorem dJ7_copyOf_c38d5_0 : decode cJ7_copyOf_c38d5 0 = .ok (.iload_n 1, 1) := by decide +kernel
theorem dJ7_copyOf_c38d5_1 : decode cJ7_copyOf_c38d5 1 = .ok (.aload_n 0, 1) := by decide +kernel
theorem dJ7_copyOf_c38d5_2 : decode cJ7_copyOf_c38d5 2 = .ok (.arraylength, 1) := by decide +kernel
theorem dJ7_copyOf_c38d5_3 : decode cJ7_copyOf_c38d5 3 = .ok (.if_icmp .ne 11, 3) := by decide +kernel
theorem dJ7_copyOf_c38d5_6 : decode cJ7_copyOf_c38d5 6 = .ok (.aload_n 0, 1) := by decide +kernel
theorem dJ7_copyOf_c38d5_7 : decode cJ7_copyOf_c38d5 7 = .ok (.invokevirtual 319, 3) := by decide +kernel
theorem dJ7_copyOf_c38d5_10 : decode cJ7_copyOf_c38d5 10 = .ok (.checkcast 320, 3) := by decide +kernel
theorem dJ7_copyOf_c38d5_13 : decode cJ7_copyOf_c38d5 13 = .ok (.areturn, 1) := by decide +kernel
theorem dJ7_copyOf_c38d5_14 : decode cJ7_copyOf_c38d5 14 = .ok (.iload_n 1, 1) := by decide +kernel
theorem dJ7_copyOf_c38d5_15 : decode cJ7_copyOf_c38d5 15 = .ok (.newarray .long, 2) := by decide +kernel
theorem dJ7_copyOf_c38d5_17 : decode cJ7_copyOf_c38d5 17 = .ok (.astore_n 2, 1) := by decide +kernel
theorem dJ7_copyOf_c38d5_18 : decode cJ7_copyOf_c38d5 18 = .ok (.aload_n 0, 1) := by decide +kernel
theorem dJ7_copyOf_c38d5_19 : decode cJ7_copyOf_c38d5 19 = .ok (.iconst 0, 1) := by decide +kernel
theorem dJ7_copyOf_c38d5_20 : decode cJ7_copyOf_c38d5 20 = .ok (.aload_n 2, 1) := by decide +kernel
theorem dJ7_copyOf_c38d5_21 : decode cJ7_copyOf_c38d5 21 = .ok (.iconst 0, 1) := by decide +kernel
theorem dJ7_copyOf_c38d5_22 : decode cJ7_copyOf_c38d5 22 = .ok (.aload_n 0, 1) := by decide +kernel
theorem dJ7_copyOf_c38d5_23 : decode cJ7_copyOf_c38d5 23 = .ok (.arraylength, 1) := by decide +kernel
theorem dJ7_copyOf_c38d5_24 : decode cJ7_copyOf_c38d5 24 = .ok (.iload_n 1, 1) := by decide +kernel
theorem dJ7_copyOf_c38d5_25 : decode cJ7_copyOf_c38d5 25 = .ok (.invokestatic 304, 3) := by decide +kernel
theorem dJ7_copyOf_c38d5_28 : decode cJ7_copyOf_c38d5 28 = .ok (.invokestatic 150, 3) := by decide +kernel
theorem dJ7_copyOf_c38d5_31 : decode cJ7_copyOf_c38d5 31 = .ok (.aload_n 2, 1) := by decide +kernel
theorem dJ7_copyOf_c38d5_32 : decode cJ7_copyOf_c38d5 32 = .ok (.areturn, 1) := by decide +kernel
set_option maxHeartbeats 4000000 in
set_option maxRecDepth 100000 in
/-- Arrays.copyOf(long[], int): twice as long -/
theorem kJ7_copyOf_c38d5 (l : Launch) (dC : Nat → ClassId) (dI : Nat → Nat → Nat) (sz : Nat) (a : Nat) (k : ClassId) (n : Nat) (f : Nat → Int64) (hn1 : 1 ≤ n) (hn2 : n < 2 ^ 25) : Met l yJ7_copyOf_c38d5 (Cond.code yJ7_copyOf_c38d5 cJ7_copyOf_c38d5 3 (Option.some (FieldType.array FieldType.long)) :: uG) ({ frames := 1, cells := 1, slots := (2 * n), locals := 60 }) (va_Pc [.ref a, .int (nI (2 * n))] (fun U => U.heap.size = sz ∧ va_P (dC, dI) vwCl [(a, .inl (k, n, .inr (.inl f)))] U.heap ∧ va_K (dC, dI) vwCl [(k, .long)] U ∧ va_D (fun _ => True) [(a, .inl (k, n, .inr (.inl f)))])) (va_Qr (S := ClassId) (fun _ => True) (fun c2 ra t => va_P (dC, dI) vwCl [(a, .inl (k, n, .inr (.inl f))), (ra, .inl (c2, 2 * n, .inr (.inl (va_cpy f (fun _ => 0) 0 0 n))))] t.heap ∧ va_K (dC, dI) vwCl [(k, .long), (c2, .long)] t ∧ va_D (va_A [(a, .inl (k, n, .inr (.inl f)))] sz) [(a, .inl (k, n, .inr (.inl f))), (ra, .inl (c2, 2 * n, .inr (.inl (va_cpy f (fun _ => 0) 0 0 n))))]) (va_A [(a, .inl (k, n, .inr (.inl f)))] sz)) 1 (2 * n) (va_A [(a, .inl (k, n, .inr (.inl f)))] sz) := by
  refine Met.ofW (cc := cJ7_copyOf_c38d5) (maxL := 3) (ret := (Option.some (FieldType.array FieldType.long))) (by decide) rfl ?_
  intro pG eV s m args below meth c s₁ B hml hv
  obtain ⟨rfl, hsz, hP, hK, hD0⟩ := hv
  have hx := B.exec
  have hb := B.bytes
  have hr := B.returns
  have hts := atoms_spec (ws := Cond.code yJ7_copyOf_c38d5 cJ7_copyOf_c38d5 3 (Option.some (FieldType.array FieldType.long)) :: uG) B.pre
  have hu := fun (w : Cond) (h : w ∈ uG) => hts w (List.mem_cons_of_mem _ h)
  have hown : s.vm.findClass RJ7 = some m.cls := findClass_of_methodNamed B.named
  have hlocks := B.notSynchronized
  subst hsz
  have hD := hD0.self (sz := s.heap.size)
  generalize hAe : va_A [(a, .inl (k, n, .inr (.inl f)))] s.heap.size = A at hD ⊢
  have hA : ∀ q : Nat, s.heap.size ≤ q → A q := fun q h => by rw [← hAe]; exact Or.inr h
  have hS : va_S A s.heap s.heap [] := va_S.rf
  have hP : va_P (dC, dI) vwCl [(a, .inl (k, n, .inr (.inl f)))] s.heap := hP
  have hD : va_D A [(a, .inl (k, n, .inr (.inl f)))] := hD
  have hl := lv_entry ([.ref a, .int (nI (2 * n))]) (n := 3) (Nat.le_of_ble_eq_true rfl)
  rw [lg_entry_eq]
  generalize (lg_sl ([.ref a, .int (nI (2 * n))]) ++ List.replicate (3 - (lg_sl ([.ref a, .int (nI (2 * n))])).length) Slot.unset).toArray = ls at hl ⊢
  have hl : lv_has ls 3 [(0, .ref a), (1, .int (nI (2 * n)))] := hl
  refine lv_iload_n hx hb dJ7_copyOf_c38d5_0 rfl (lv_at hl 1 rfl) ?_
  refine lv_aload_n hx hb dJ7_copyOf_c38d5_1 rfl (lv_at hl 0 rfl) ?_
  refine va_alen (v := nI (n)) hx hb hK hP 0 0 rfl rfl rfl dJ7_copyOf_c38d5_2 ?_
  refine lv_icmp_ne (tgt := 14) hx hb dJ7_copyOf_c38d5_3 (by decide) (fun c3 => ?_) (fun c3 => ?_)
  · refine lv_iload_n hx hb dJ7_copyOf_c38d5_14 rfl (lv_at hl 1 rfl) ?_
    refine va_newa (atype := .long) (N' := (2 * n)) (a0 := ((2 * n), .inr (.inl (fun _ => 0)))) hx hb (hu _ mG_372) rfl hK hP hD hS hA (fun _ => rfl) (nI_pos (by omega)) (nI_clamp (by omega)) (by show 2 * n * 8 ≤ 536870912; omega) (Nat.le_refl _) (by show 0 + 2 * n ≤ 2 * n; omega) dJ7_copyOf_c38d5_15 (fun q15 k15 H hK hP hD hS => ?_)
    have hP : va_P (dC, dI) vwCl [(a, .inl (k, n, .inr (.inl f))), (q15, .inl (k15, (2 * n), .inr (.inl (fun _ => 0))))] H := hP
    have hD : va_D A [(a, .inl (k, n, .inr (.inl f))), (q15, .inl (k15, (2 * n), .inr (.inl (fun _ => 0))))] := hD
    have hK : va_K (dC, dI) vwCl [(k, .long), (k15, .long)] s := hK
    refine lv_astore_n (lv' := [(2, .ref q15), (0, .ref a), (1, .int (nI (2 * n)))]) hx hb dJ7_copyOf_c38d5_17 rfl hl (by decide) rfl (fun ls hl => ?_)
    refine lv_aload_n hx hb dJ7_copyOf_c38d5_18 rfl (lv_at hl 1 rfl) ?_
    refine lv_iconst (v := 0) hx hb dJ7_copyOf_c38d5_19 (by decide) ?_
    refine lv_aload_n hx hb dJ7_copyOf_c38d5_20 rfl (lv_at hl 0 rfl) ?_
    refine lv_iconst (v := 0) hx hb dJ7_copyOf_c38d5_21 (by decide) ?_
    refine lv_aload_n hx hb dJ7_copyOf_c38d5_22 rfl (lv_at hl 1 rfl) ?_
    refine va_alen (v := nI (n)) hx hb hK hP 0 0 rfl rfl rfl dJ7_copyOf_c38d5_23 ?_
    refine lv_iload_n hx hb dJ7_copyOf_c38d5_24 rfl (lv_at hl 2 rfl) ?_
    refine va_mmin (cells := 0 + 1) (slots := 0 + 2 * n) (R := { frames := 1, cells := 1, slots := 2 * n, locals := 60 }) (rest := [.int 0, .ref q15, .int 0, .ref a]) (x := nI n) (y := nI (2 * n)) hx hb (hml.trans hl.1.symm) hown (hu _ mG_1394) (hu _ mG_996) (hu _ mG_235) (hu _ mG_997) (Nat.le_of_ble_eq_true rfl) (Nat.le_of_ble_eq_true rfl) (Nat.le_refl _) (by show 0 + 2 * n ≤ 2 * n; omega) dJ7_copyOf_c38d5_25 ?_
    rw [if_neg (show ¬ nI (2 * n) < nI n from fun h => absurd ((nI_ltI (by omega) (by omega)).mp h) (by omega))]
    refine va_copyl (R := { frames := 1, cells := 1, slots := 2 * n, locals := 60 }) (rest := []) hx hb (hml.trans hl.1.symm) hown (hu _ mG_1395) (hu _ mG_1397) (hu _ mG_1396) (hu _ mG_242) hK hP hD hS 0 1 0 1 rfl rfl rfl rfl rfl (by decide) (by decide) (nI_pos (by omega)) (by rw [nI_clamp (by omega)]; show 0 + n ≤ n; omega) (by rw [nI_clamp (by omega)]; show 0 + n ≤ 2 * n; omega) (fun _ _ => rfl) (Nat.le_of_ble_eq_true rfl) (Nat.le_of_ble_eq_true rfl) dJ7_copyOf_c38d5_28 (fun H locs hP hD hS => ?_)
    rw [nI_clamp (show n < 2 ^ 31 by omega)] at hP hD
    have hP : va_P (dC, dI) vwCl [(a, .inl (k, n, .inr (.inl f))), (q15, .inl (k15, (2 * n), .inr (.inl (va_cpy f (fun _ => 0) 0 0 n))))] H := hP
    have hD : va_D A [(a, .inl (k, n, .inr (.inl f))), (q15, .inl (k15, (2 * n), .inr (.inl (va_cpy f (fun _ => 0) 0 0 n))))] := hD
    refine lv_aload_n hx hb dJ7_copyOf_c38d5_31 rfl (lv_at hl 0 rfl) ?_
    refine W.widen (k := 1) (n := 2 * n) (by omega) (by omega) ?_
    exact W.aret hx hb hr (Or.inr ⟨_, rfl⟩) (Or.inr ⟨_, rfl⟩) (fun t ht hW => ⟨⟨k15, q15, rfl, trivial, by rw [ht]; exact hP, va_K.moved hW.alike hK, hD⟩, hS.F ht⟩) hS.2.2 dJ7_copyOf_c38d5_32
  · exact absurd ((nI_eq (by omega) (by omega)).mp c3) (show ¬ 2 * n = n by omega)
theorem nI_dbl (n : Nat) : Int32.ofNat n * 2 = nI (2 * n) := by
  show Int32.ofNat n * 2 = Int32.ofNat (2 * n)
  rw [Nat.mul_comm 2 n, Int32.ofNat_mul]
  rfl

