theorem swo_0_4 {x : Int32} (h : x.toInt < 0 ∨ 4 < x.toInt) : ¬ x = 0 ∧ ¬ x = 1 ∧ ¬ x = 2 ∧ ¬ x = 3 ∧ ¬ x = 4 := by
  refine ⟨?_, ?_, ?_, ?_, ?_⟩ <;> (intro e; rw [e] at h; revert h; decide)


theorem mG_232 : Cond.initialized "java/util/Arrays" ∈ uG := uG_at 232 (by decide +kernel) (by decide +kernel)
theorem mG_290 : Cond.fieldLink "LazyForge$Program" 52 "LazyForge$Program" "constructors" "I" ∈ uG := uG_at 290 (by decide +kernel) (by decide +kernel)
theorem mG_295 : Cond.fieldLink "LazyForge$Program" 64 "LazyForge$Program" "tops" "I" ∈ uG := uG_at 295 (by decide +kernel) (by decide +kernel)
theorem mG_300 : Cond.fieldLink "LazyForge$Program" 67 "LazyForge$Program" "functions" "I" ∈ uG := uG_at 300 (by decide +kernel) (by decide +kernel)
theorem mG_304 : Cond.fieldLink "LazyForge$Program" 70 "LazyForge$Program" "main" "I" ∈ uG := uG_at 304 (by decide +kernel) (by decide +kernel)
theorem mG_413 : Cond.fieldLink "LazyForge$Tree" 37 "LazyForge$Tree" "count" "I" ∈ uG := uG_at 413 (by decide +kernel) (by decide +kernel)
theorem mG_458 : Cond.fieldLink "LazyForge$Scopes" 52 "LazyForge$Scopes" "count" "I" ∈ uG := uG_at 458 (by decide +kernel) (by decide +kernel)
theorem mG_470 : Cond.fieldLink "LazyForge$Scopes" 56 "LazyForge$Scopes" "uses" "I" ∈ uG := uG_at 470 (by decide +kernel) (by decide +kernel)
theorem mG_519 : Cond.fieldLink "LazyForge$Reader" 71 "LazyForge$Words" "place" "I" ∈ uG := uG_at 519 (by decide +kernel) (by decide +kernel)
theorem mG_542 : Cond.fieldLink "LazyForge$Reader" 43 "LazyForge$Reader" "faultKind" "I" ∈ uG := uG_at 542 (by decide +kernel) (by decide +kernel)
theorem mG_544 : Cond.fieldLink "LazyForge$Reader" 47 "LazyForge$Reader" "faultPlace" "I" ∈ uG := uG_at 544 (by decide +kernel) (by decide +kernel)
theorem mG_889 : Cond.methodLink "LazyForge$Machine" 48 yJ7_fill_53178 ∈ uG := uG_at 889 (by decide +kernel) (by decide +kernel)
theorem mG_890 : Cond.static yJ7_fill_53178 ∈ uG := uG_at 890 (by decide +kernel) (by decide +kernel)
theorem mG_891 : Cond.code yJ7_fill_53178 prog_34_method_103_code 4 none ∈ uG := uG_at 891 (by decide +kernel) (by decide +kernel)
theorem mG_904 : Cond.constantLong "LazyForge$Program" 56 302282208101 ∈ uG := uG_at 904 (by decide +kernel) (by decide +kernel)
theorem mG_905 : Cond.methodLink "LazyForge$Program" 58 yX4_addConstructor ∈ uG := uG_at 905 (by decide +kernel) (by decide +kernel)
theorem mG_906 : Cond.instanceMethod yX4_addConstructor ∈ uG := uG_at 906 (by decide +kernel) (by decide +kernel)
theorem mG_907 : Cond.selects "LazyForge$Program" yX4_addConstructor yX4_addConstructor ∈ uG := uG_at 907 (by decide +kernel) (by decide +kernel)
theorem mG_908 : Cond.code yX4_addConstructor prog_6_method_3_code 4 none ∈ uG := uG_at 908 (by decide +kernel) (by decide +kernel)
theorem mG_909 : Cond.constantLong "LazyForge$Program" 62 1416787301 ∈ uG := uG_at 909 (by decide +kernel) (by decide +kernel)
theorem mG_1063 : Cond.methodLink "LazyForge$Reader" 74 yX10_stop ∈ uG := uG_at 1063 (by decide +kernel) (by decide +kernel)
theorem mG_1064 : Cond.instanceMethod yX10_stop ∈ uG := uG_at 1064 (by decide +kernel) (by decide +kernel)
theorem mG_1065 : Cond.selects "LazyForge$Words" yX10_stop yX10_stop ∈ uG := uG_at 1065 (by decide +kernel) (by decide +kernel)
theorem mG_1066 : Cond.code yX10_stop prog_12_method_3_code 1 none ∈ uG := uG_at 1066 (by decide +kernel) (by decide +kernel)
theorem dJ7_fill_53178_0 : decode cJ7_fill_53178 0 = .ok (.iconst 0, 1) := by decide +kernel
theorem dJ7_fill_53178_1 : decode cJ7_fill_53178 1 = .ok (.istore_n 2, 1) := by decide +kernel
theorem dJ7_fill_53178_2 : decode cJ7_fill_53178 2 = .ok (.aload_n 0, 1) := by decide +kernel
theorem dJ7_fill_53178_3 : decode cJ7_fill_53178 3 = .ok (.arraylength, 1) := by decide +kernel
theorem dJ7_fill_53178_4 : decode cJ7_fill_53178 4 = .ok (.istore_n 3, 1) := by decide +kernel
theorem dJ7_fill_53178_5 : decode cJ7_fill_53178 5 = .ok (.iload_n 2, 1) := by decide +kernel
theorem dJ7_fill_53178_6 : decode cJ7_fill_53178 6 = .ok (.iload_n 3, 1) := by decide +kernel
theorem dJ7_fill_53178_7 : decode cJ7_fill_53178 7 = .ok (.if_icmp .ge 13, 3) := by decide +kernel
theorem dJ7_fill_53178_10 : decode cJ7_fill_53178 10 = .ok (.aload_n 0, 1) := by decide +kernel
theorem dJ7_fill_53178_11 : decode cJ7_fill_53178 11 = .ok (.iload_n 2, 1) := by decide +kernel
theorem dJ7_fill_53178_12 : decode cJ7_fill_53178 12 = .ok (.iload_n 1, 1) := by decide +kernel
theorem dJ7_fill_53178_13 : decode cJ7_fill_53178 13 = .ok (.iastore, 1) := by decide +kernel
theorem dJ7_fill_53178_14 : decode cJ7_fill_53178 14 = .ok (.iinc 2 1, 3) := by decide +kernel
theorem dJ7_fill_53178_17 : decode cJ7_fill_53178 17 = .ok (.goto (-12), 3) := by decide +kernel
theorem dJ7_fill_53178_20 : decode cJ7_fill_53178 20 = .ok (.return_, 1) := by decide +kernel
theorem dX3_forget_0 : decode cX3_forget 0 = .ok (.aload_n 0, 1) := by decide +kernel
theorem dX3_forget_1 : decode cX3_forget 1 = .ok (.getfield 13, 3) := by decide +kernel
theorem dX3_forget_4 : decode cX3_forget 4 = .ok (.iconst 0, 1) := by decide +kernel
theorem dX3_forget_5 : decode cX3_forget 5 = .ok (.invokestatic 48, 3) := by decide +kernel
theorem dX3_forget_8 : decode cX3_forget 8 = .ok (.aload_n 0, 1) := by decide +kernel
theorem dX3_forget_9 : decode cX3_forget 9 = .ok (.getfield 17, 3) := by decide +kernel
theorem dX3_forget_12 : decode cX3_forget 12 = .ok (.iconst 0, 1) := by decide +kernel
theorem dX3_forget_13 : decode cX3_forget 13 = .ok (.invokestatic 48, 3) := by decide +kernel
theorem dX3_forget_16 : decode cX3_forget 16 = .ok (.return_, 1) := by decide +kernel
theorem dX4_addConstructor_0 : decode cX4_addConstructor 0 = .ok (.aload_n 0, 1) := by decide +kernel
theorem dX4_addConstructor_1 : decode cX4_addConstructor 1 = .ok (.getfield 52, 3) := by decide +kernel
theorem dX4_addConstructor_4 : decode cX4_addConstructor 4 = .ok (.bipush 30, 2) := by decide +kernel
theorem dX4_addConstructor_6 : decode cX4_addConstructor 6 = .ok (.if_icmp .ge 33, 3) := by decide +kernel
theorem dX4_addConstructor_9 : decode cX4_addConstructor 9 = .ok (.aload_n 0, 1) := by decide +kernel
theorem dX4_addConstructor_10 : decode cX4_addConstructor 10 = .ok (.getfield 9, 3) := by decide +kernel
theorem dX4_addConstructor_13 : decode cX4_addConstructor 13 = .ok (.aload_n 0, 1) := by decide +kernel
theorem dX4_addConstructor_14 : decode cX4_addConstructor 14 = .ok (.getfield 52, 3) := by decide +kernel
theorem dX4_addConstructor_17 : decode cX4_addConstructor 17 = .ok (.lload_n 1, 1) := by decide +kernel
theorem dX4_addConstructor_18 : decode cX4_addConstructor 18 = .ok (.lastore, 1) := by decide +kernel
theorem dX4_addConstructor_19 : decode cX4_addConstructor 19 = .ok (.aload_n 0, 1) := by decide +kernel
theorem dX4_addConstructor_20 : decode cX4_addConstructor 20 = .ok (.getfield 15, 3) := by decide +kernel
theorem dX4_addConstructor_23 : decode cX4_addConstructor 23 = .ok (.aload_n 0, 1) := by decide +kernel
theorem dX4_addConstructor_24 : decode cX4_addConstructor 24 = .ok (.getfield 52, 3) := by decide +kernel
theorem dX4_addConstructor_27 : decode cX4_addConstructor 27 = .ok (.iload_n 3, 1) := by decide +kernel
theorem dX4_addConstructor_28 : decode cX4_addConstructor 28 = .ok (.iastore, 1) := by decide +kernel
theorem dX4_addConstructor_29 : decode cX4_addConstructor 29 = .ok (.aload_n 0, 1) := by decide +kernel
theorem dX4_addConstructor_30 : decode cX4_addConstructor 30 = .ok (.dup, 1) := by decide +kernel
theorem dX4_addConstructor_31 : decode cX4_addConstructor 31 = .ok (.getfield 52, 3) := by decide +kernel
theorem dX4_addConstructor_34 : decode cX4_addConstructor 34 = .ok (.iconst 1, 1) := by decide +kernel
theorem dX4_addConstructor_35 : decode cX4_addConstructor 35 = .ok (.iadd, 1) := by decide +kernel
theorem dX4_addConstructor_36 : decode cX4_addConstructor 36 = .ok (.putfield 52, 3) := by decide +kernel
theorem dX4_addConstructor_39 : decode cX4_addConstructor 39 = .ok (.return_, 1) := by decide +kernel
theorem dX4_clear_0 : decode cX4_clear 0 = .ok (.aload_n 0, 1) := by decide +kernel
theorem dX4_clear_1 : decode cX4_clear 1 = .ok (.iconst 0, 1) := by decide +kernel
theorem dX4_clear_2 : decode cX4_clear 2 = .ok (.putfield 52, 3) := by decide +kernel
theorem dX4_clear_5 : decode cX4_clear 5 = .ok (.aload_n 0, 1) := by decide +kernel
theorem dX4_clear_6 : decode cX4_clear 6 = .ok (.ldc2_w 56, 3) := by decide +kernel
theorem dX4_clear_9 : decode cX4_clear 9 = .ok (.iconst 0, 1) := by decide +kernel
theorem dX4_clear_10 : decode cX4_clear 10 = .ok (.invokevirtual 58, 3) := by decide +kernel
theorem dX4_clear_13 : decode cX4_clear 13 = .ok (.aload_n 0, 1) := by decide +kernel
theorem dX4_clear_14 : decode cX4_clear 14 = .ok (.ldc2_w 62, 3) := by decide +kernel
theorem dX4_clear_17 : decode cX4_clear 17 = .ok (.iconst 0, 1) := by decide +kernel
theorem dX4_clear_18 : decode cX4_clear 18 = .ok (.invokevirtual 58, 3) := by decide +kernel
theorem dX4_clear_21 : decode cX4_clear 21 = .ok (.aload_n 0, 1) := by decide +kernel
theorem dX4_clear_22 : decode cX4_clear 22 = .ok (.iconst 0, 1) := by decide +kernel
theorem dX4_clear_23 : decode cX4_clear 23 = .ok (.putfield 64, 3) := by decide +kernel
theorem dX4_clear_26 : decode cX4_clear 26 = .ok (.aload_n 0, 1) := by decide +kernel
theorem dX4_clear_27 : decode cX4_clear 27 = .ok (.iconst 0, 1) := by decide +kernel
theorem dX4_clear_28 : decode cX4_clear 28 = .ok (.putfield 67, 3) := by decide +kernel
theorem dX4_clear_31 : decode cX4_clear 31 = .ok (.aload_n 0, 1) := by decide +kernel
theorem dX4_clear_32 : decode cX4_clear 32 = .ok (.iconst (-1), 1) := by decide +kernel
theorem dX4_clear_33 : decode cX4_clear 33 = .ok (.putfield 70, 3) := by decide +kernel
theorem dX4_clear_36 : decode cX4_clear 36 = .ok (.return_, 1) := by decide +kernel
theorem dX5_refuse_0 : decode cX5_refuse 0 = .ok (.aload_n 0, 1) := by decide +kernel
theorem dX5_refuse_1 : decode cX5_refuse 1 = .ok (.getfield 43, 3) := by decide +kernel
theorem dX5_refuse_4 : decode cX5_refuse 4 = .ok (.ifCond .ne 26, 3) := by decide +kernel
theorem dX5_refuse_7 : decode cX5_refuse 7 = .ok (.aload_n 0, 1) := by decide +kernel
theorem dX5_refuse_8 : decode cX5_refuse 8 = .ok (.iload_n 1, 1) := by decide +kernel
theorem dX5_refuse_9 : decode cX5_refuse 9 = .ok (.putfield 43, 3) := by decide +kernel
theorem dX5_refuse_12 : decode cX5_refuse 12 = .ok (.aload_n 0, 1) := by decide +kernel
theorem dX5_refuse_13 : decode cX5_refuse 13 = .ok (.aload_n 0, 1) := by decide +kernel
theorem dX5_refuse_14 : decode cX5_refuse 14 = .ok (.getfield 14, 3) := by decide +kernel
theorem dX5_refuse_17 : decode cX5_refuse 17 = .ok (.getfield 71, 3) := by decide +kernel
theorem dX5_refuse_20 : decode cX5_refuse 20 = .ok (.putfield 47, 3) := by decide +kernel
theorem dX5_refuse_23 : decode cX5_refuse 23 = .ok (.aload_n 0, 1) := by decide +kernel
theorem dX5_refuse_24 : decode cX5_refuse 24 = .ok (.getfield 14, 3) := by decide +kernel
theorem dX5_refuse_27 : decode cX5_refuse 27 = .ok (.invokevirtual 74, 3) := by decide +kernel
theorem dX5_refuse_30 : decode cX5_refuse 30 = .ok (.return_, 1) := by decide +kernel
theorem dX6_clear_0 : decode cX6_clear 0 = .ok (.aload_n 0, 1) := by decide +kernel
theorem dX6_clear_1 : decode cX6_clear 1 = .ok (.iconst 0, 1) := by decide +kernel
theorem dX6_clear_2 : decode cX6_clear 2 = .ok (.putfield 52, 3) := by decide +kernel
theorem dX6_clear_5 : decode cX6_clear 5 = .ok (.aload_n 0, 1) := by decide +kernel
theorem dX6_clear_6 : decode cX6_clear 6 = .ok (.iconst 0, 1) := by decide +kernel
theorem dX6_clear_7 : decode cX6_clear 7 = .ok (.putfield 56, 3) := by decide +kernel
theorem dX6_clear_10 : decode cX6_clear 10 = .ok (.return_, 1) := by decide +kernel
theorem dX9_clear_0 : decode cX9_clear 0 = .ok (.aload_n 0, 1) := by decide +kernel
theorem dX9_clear_1 : decode cX9_clear 1 = .ok (.iconst 0, 1) := by decide +kernel
theorem dX9_clear_2 : decode cX9_clear 2 = .ok (.putfield 37, 3) := by decide +kernel
theorem dX9_clear_5 : decode cX9_clear 5 = .ok (.return_, 1) := by decide +kernel
theorem uG_T {big : List Cond} (hb : ∀ w ∈ uG, w ∈ big) {c2 : Cond} {own : String} {idx : Nat} {y : MethodName} (h : c2 ∈ uG) (h1 : Cond.methodLink own idx y ∈ uG) (h2 : Cond.static y ∈ uG) (h4 : Cond.initialized y.cls ∈ uG) : GoodIn big (va_wsS own idx y (c2 :: uG)) := by
  refine uG_app (fun w hw => ?_) (uG_c hb h)
  have hu : w ∈ uG := by
    rcases List.mem_cons.mp hw with rfl | hw
    · exact h1
    rcases List.mem_cons.mp hw with rfl | hw
    · exact h2
    rcases List.mem_cons.mp hw with rfl | hw
    · exact h4
    exact absurd hw List.not_mem_nil
  exact ⟨hb _ hu, uG_good hu⟩
/-- f with v in its first k places -/
def flI (f : Nat → Int32) (v : Int32) (k : Nat) : Nat → Int32 := fun j => if j < k then v else f j
theorem flI_0 (f : Nat → Int32) (v : Int32) : flI f v 0 = f := by funext j; simp [flI]
theorem flI_s (f : Nat → Int32) (v : Int32) (i : Nat) : upd (flI f v i) i v = flI f v (i + 1) := by
  funext j
  simp only [upd, flI]
  by_cases h : j = i
  · subst h; simp
  · by_cases h2 : j < i
    · simp [h, h2, Nat.lt_succ_of_lt h2]
    · have : ¬ j < i + 1 := by omega
      simp [h, h2, this]
set_option maxHeartbeats 4000000 in
set_option maxRecDepth 100000 in
/-- Arrays.fill(a, v) -/
theorem kJ7_fill_53178 (l : Launch) (dC : Nat → ClassId) (dI : Nat → Nat → Nat) (sz : Nat) (a N : Nat) (f : Nat → Int32) (cI : ClassId) (v : Int32) (hN : N < 2 ^ 31) : Met l yJ7_fill_53178 (Cond.code yJ7_fill_53178 cJ7_fill_53178 4 none :: uG) ({ frames := 0, cells := 0, slots := 0, locals := 0 }) (va_Pc [.ref a, .int v] (fun U => U.heap.size = sz ∧ va_P (dC, dI) vwCl [(a, .inl (cI, N, .inl f))] U.heap ∧ va_K (dC, dI) vwCl [(cI, .int)] U ∧ va_D (fun _ => True) [(a, .inl (cI, N, .inl f))])) (va_Qv (S := Unit) (fun _ => True) (fun _ t => va_P (dC, dI) vwCl [(a, .inl (cI, N, .inl (flI f v N)))] t.heap ∧ va_K (dC, dI) vwCl [(cI, .int)] t ∧ va_D (va_A [(a, .inl (cI, N, .inl f))] sz) [(a, .inl (cI, N, .inl (flI f v N)))]) (va_A [(a, .inl (cI, N, .inl f))] sz)) 0 0 (va_A [(a, .inl (cI, N, .inl f))] sz) := by
  refine Met.ofW (cc := cJ7_fill_53178) (maxL := 4) (ret := none) (by decide) rfl ?_
  intro pG eV s m args below meth c s₁ B hml hv
  obtain ⟨rfl, hsz, hP, hK, hD0⟩ := hv
  have hx := B.exec
  have hb := B.bytes
  have hr := B.returns
  have hts := atoms_spec (ws := Cond.code yJ7_fill_53178 cJ7_fill_53178 4 none :: uG) B.pre
  have hu := fun (w : Cond) (h : w ∈ uG) => hts w (List.mem_cons_of_mem _ h)
  have hown : s.vm.findClass RJ7 = some m.cls := findClass_of_methodNamed B.named
  have hlocks := B.notSynchronized
  subst hsz
  have hD := hD0.self (sz := s.heap.size)
  generalize hAe : va_A [(a, .inl (cI, N, .inl f))] s.heap.size = A at hD ⊢
  have hA : ∀ q : Nat, s.heap.size ≤ q → A q := fun q h => by rw [← hAe]; exact Or.inr h
  have hS : va_S A s.heap s.heap [] := va_S.rf
  have hP : va_P (dC, dI) vwCl [(a, .inl (cI, N, .inl f))] s.heap := hP
  have hD : va_D A [(a, .inl (cI, N, .inl f))] := hD
  have hl := lv_entry ([.ref a, .int v]) (n := 4) (Nat.le_of_ble_eq_true rfl)
  rw [lg_entry_eq]
  generalize (lg_sl ([.ref a, .int v]) ++ List.replicate (4 - (lg_sl ([.ref a, .int v])).length) Slot.unset).toArray = ls at hl ⊢
  have hl : lv_has ls 4 [(0, .ref a), (1, .int v)] := hl
  refine lv_iconst (v := 0) hx hb dJ7_fill_53178_0 (by decide) ?_
  refine lv_istore_n (lv' := [(2, .int 0), (0, .ref a), (1, .int v)]) hx hb dJ7_fill_53178_1 rfl hl (by decide) rfl (fun ls hl => ?_)
  refine lv_aload_n hx hb dJ7_fill_53178_2 rfl (lv_at hl 1 rfl) ?_
  refine va_alen (v := nI (N)) hx hb hK hP 0 0 rfl rfl rfl dJ7_fill_53178_3 ?_
  refine lv_istore_n (lv' := [(3, .int (nI (N))), (2, .int 0), (0, .ref a), (1, .int v)]) hx hb dJ7_fill_53178_4 rfl hl (by decide) rfl (fun ls hl => ?_)
  refine uLoop (σ := Nat) (fun xv H locs ls => (xv ≤ N) ∧ va_P (dC, dI) vwCl [(a, .inl (cI, N, .inl (flI f v xv)))] H ∧ va_D A [(a, .inl (cI, N, .inl (flI f v xv)))] ∧ va_S A s.heap H locs ∧ lv_has ls 4 [(0, .ref a), (1, .int v), (2, .int (nI xv)), (3, .int (nI (N)))]) (fun xv => N - xv) (fun xv H locs ls hI ih5 => ?_) (0) ⟨Nat.zero_le _, by rw [flI_0]; exact hP, by rw [flI_0]; exact hD, hS, lv_sub hl [2, 3, 1, 0] rfl⟩
  obtain ⟨i, hxv⟩ : ∃ z, z = xv := ⟨_, rfl⟩
  subst hxv
  obtain ⟨hi, hP, hD, hS, hl⟩ := hI
  have hi : i ≤ N := hi
  have hP : va_P (dC, dI) vwCl [(a, .inl (cI, N, .inl (flI f v i)))] H := hP
  have hD : va_D A [(a, .inl (cI, N, .inl (flI f v i)))] := hD
  have hl : lv_has ls 4 [(0, .ref a), (1, .int v), (2, .int (nI i)), (3, .int (nI (N)))] := hl
  refine lv_iload_n hx hb dJ7_fill_53178_5 rfl (lv_at hl 2 rfl) ?_
  refine lv_iload_n hx hb dJ7_fill_53178_6 rfl (lv_at hl 3 rfl) ?_
  refine lv_icmp_ge (tgt := 20) hx hb dJ7_fill_53178_7 (by decide) (fun c7 => ?_) (fun c7 => ?_)
  · have hik : i = N := by have h := (nI_leI (by omega) (by omega)).mp c7; omega
    rw [hik] at hP hD
    have hP9 : va_P (dC, dI) vwCl [(a, .inl (cI, N, .inl (flI f v N)))] H := by exact hP
    have hD9 : va_D A [(a, .inl (cI, N, .inl (flI f v N)))] := by exact hD
    have hK9 := hK.sub (tys' := [(cI, .int)]) [0] rfl
    exact W.vret hx hb hr (fun t ht hW => ⟨⟨(), rfl, trivial, by rw [ht]; exact hP9, va_K.moved hW.alike hK9, hD9⟩, hS.F ht⟩) hS.2.2 dJ7_fill_53178_20
  · have hin : i < N := (nI_ltI (by omega) (by omega)).mp (Int32.not_le.mp c7)
    refine lv_aload_n hx hb dJ7_fill_53178_10 rfl (lv_at hl 0 rfl) ?_
    refine lv_iload_n hx hb dJ7_fill_53178_11 rfl (lv_at hl 2 rfl) ?_
    refine lv_iload_n hx hb dJ7_fill_53178_12 rfl (lv_at hl 1 rfl) ?_
    refine va_iast hx hb hK hP hD hS 0 0 rfl rfl (vp_in_nI hin hN) dJ7_fill_53178_13 (fun H locs hP hD hS => ?_)
    rw [show (upd (flI f v i) ((nI i)).toNatClampNeg v) = (flI f v (i + 1)) from by rw [nI_clamp (by omega), flI_s]] at hP hD
    have hP : va_P (dC, dI) vwCl [(a, .inl (cI, N, .inl (flI f v (i + 1))))] H := hP
    have hD : va_D A [(a, .inl (cI, N, .inl (flI f v (i + 1))))] := hD
    refine lv_iinc (v := (nI (i + 1))) (lv' := [(2, .int (nI (i + 1))), (0, .ref a), (1, .int v), (3, .int (nI (N)))]) hx hb dJ7_fill_53178_14 hl (k := 2) rfl (nI_1 i) (by decide) rfl (fun ls hl => ?_)
    refine lv_goto (tgt := 5) hx hb dJ7_fill_53178_17 (by decide) ?_
    exact ih5 (i + 1) _ _ _ ⟨by omega, hP, hD, hS, lv_sub hl [1, 2, 0, 3] rfl⟩ (by omega)
set_option maxHeartbeats 4000000 in
set_option maxRecDepth 100000 in
/-- Machine.forget() -/
theorem kX3_forget (l : Launch) (dC : Nat → ClassId) (dI : Nat → Nat → Nat) (sz : Nat) (ma : Nat) (m0 m1 m2 m3 m4 m5 m6 m7 m9 : Nat) (m8 m10 m11 m12 m13 m15 m16 m17 : Int32) (m14 : Int64) (f g : Nat → Int32) (cI cJ : ClassId) : Met l yX3_forget (Cond.code yX3_forget cX3_forget 1 none :: uG) ({ frames := 1, cells := 0, slots := 0, locals := 23 }) (va_Pc [.ref ma] (fun U => U.heap.size = sz ∧ va_P (dC, dI) vwCl [(ma, .inr (6, [.ref m0, .ref m1, .ref m2, .ref m3, .ref m4, .ref m5, .ref m6, .ref m7, .int m8, .ref m9, .int m10, .int m11, .int m12, .int m13, .long m14, .int m15, .int m16, .int m17])), (m2, .inl (cI, 10, .inl f)), (m3, .inl (cJ, 630, .inl g))] U.heap ∧ va_K (dC, dI) vwCl [(cI, .int), (cJ, .int)] U ∧ va_D (fun _ => True) [(ma, .inr (6, [.ref m0, .ref m1, .ref m2, .ref m3, .ref m4, .ref m5, .ref m6, .ref m7, .int m8, .ref m9, .int m10, .int m11, .int m12, .int m13, .long m14, .int m15, .int m16, .int m17])), (m2, .inl (cI, 10, .inl f)), (m3, .inl (cJ, 630, .inl g))])) (va_Qv (S := Unit) (fun _ => True) (fun _ t => va_P (dC, dI) vwCl [(ma, .inr (6, [.ref m0, .ref m1, .ref m2, .ref m3, .ref m4, .ref m5, .ref m6, .ref m7, .int m8, .ref m9, .int m10, .int m11, .int m12, .int m13, .long m14, .int m15, .int m16, .int m17])), (m2, .inl (cI, 10, .inl (flI f 0 10))), (m3, .inl (cJ, 630, .inl (flI g 0 630)))] t.heap ∧ va_K (dC, dI) vwCl [(cI, .int), (cJ, .int)] t ∧ va_D (va_A [(ma, .inr (6, [.ref m0, .ref m1, .ref m2, .ref m3, .ref m4, .ref m5, .ref m6, .ref m7, .int m8, .ref m9, .int m10, .int m11, .int m12, .int m13, .long m14, .int m15, .int m16, .int m17])), (m2, .inl (cI, 10, .inl f)), (m3, .inl (cJ, 630, .inl g))] sz) [(ma, .inr (6, [.ref m0, .ref m1, .ref m2, .ref m3, .ref m4, .ref m5, .ref m6, .ref m7, .int m8, .ref m9, .int m10, .int m11, .int m12, .int m13, .long m14, .int m15, .int m16, .int m17])), (m2, .inl (cI, 10, .inl (flI f 0 10))), (m3, .inl (cJ, 630, .inl (flI g 0 630)))]) (va_A [(ma, .inr (6, [.ref m0, .ref m1, .ref m2, .ref m3, .ref m4, .ref m5, .ref m6, .ref m7, .int m8, .ref m9, .int m10, .int m11, .int m12, .int m13, .long m14, .int m15, .int m16, .int m17])), (m2, .inl (cI, 10, .inl f)), (m3, .inl (cJ, 630, .inl g))] sz)) 0 0 (va_A [(ma, .inr (6, [.ref m0, .ref m1, .ref m2, .ref m3, .ref m4, .ref m5, .ref m6, .ref m7, .int m8, .ref m9, .int m10, .int m11, .int m12, .int m13, .long m14, .int m15, .int m16, .int m17])), (m2, .inl (cI, 10, .inl f)), (m3, .inl (cJ, 630, .inl g))] sz) := by
  refine Met.ofW (cc := cX3_forget) (maxL := 1) (ret := none) (by decide) rfl ?_
  intro pG eV s m args below meth c s₁ B hml hv
  obtain ⟨rfl, hsz, hP, hK, hD0⟩ := hv
  have hx := B.exec
  have hb := B.bytes
  have hr := B.returns
  have hts := atoms_spec (ws := Cond.code yX3_forget cX3_forget 1 none :: uG) B.pre
  have hu := fun (w : Cond) (h : w ∈ uG) => hts w (List.mem_cons_of_mem _ h)
  have hown : s.vm.findClass RX3 = some m.cls := findClass_of_methodNamed B.named
  have hlocks := B.notSynchronized
  subst hsz
  have hD := hD0.self (sz := s.heap.size)
  generalize hAe : va_A [(ma, .inr (6, [.ref m0, .ref m1, .ref m2, .ref m3, .ref m4, .ref m5, .ref m6, .ref m7, .int m8, .ref m9, .int m10, .int m11, .int m12, .int m13, .long m14, .int m15, .int m16, .int m17])), (m2, .inl (cI, 10, .inl f)), (m3, .inl (cJ, 630, .inl g))] s.heap.size = A at hD ⊢
  have hA : ∀ q : Nat, s.heap.size ≤ q → A q := fun q h => by rw [← hAe]; exact Or.inr h
  have hS : va_S A s.heap s.heap [] := va_S.rf
  have hP : va_P (dC, dI) vwCl [(ma, .inr (6, [.ref m0, .ref m1, .ref m2, .ref m3, .ref m4, .ref m5, .ref m6, .ref m7, .int m8, .ref m9, .int m10, .int m11, .int m12, .int m13, .long m14, .int m15, .int m16, .int m17])), (m2, .inl (cI, 10, .inl f)), (m3, .inl (cJ, 630, .inl g))] s.heap := hP
  have hD : va_D A [(ma, .inr (6, [.ref m0, .ref m1, .ref m2, .ref m3, .ref m4, .ref m5, .ref m6, .ref m7, .int m8, .ref m9, .int m10, .int m11, .int m12, .int m13, .long m14, .int m15, .int m16, .int m17])), (m2, .inl (cI, 10, .inl f)), (m3, .inl (cJ, 630, .inl g))] := hD
  have hl := lv_entry ([.ref ma]) (n := 1) (Nat.le_of_ble_eq_true rfl)
  rw [lg_entry_eq]
  generalize (lg_sl ([.ref ma]) ++ List.replicate (1 - (lg_sl ([.ref ma])).length) Slot.unset).toArray = ls at hl ⊢
  have hl : lv_has ls 1 [(0, .ref ma)] := hl
  refine lv_aload_n hx hb dX3_forget_0 rfl (lv_at hl 0 rfl) ?_
  refine va_get (D := (dC, dI)) (ci := 6) (v := .ref m2) (C := RX3) (T := TX3) (N := 18) hx hb hu iuX3 hown hK hP 0 rfl rfl 2 (by decide) (hu _ mG_662) (fun _ h9 => h9) rfl dX3_forget_1 ?_
  refine lv_iconst (v := 0) hx hb dX3_forget_4 (by decide) ?_
  have hPc := hP.sub (ws' := [(m2, .inl (cI, 10, .inl f))]) [1] rfl
  have hDc := hD.sub (ws' := [(m2, .inl (cI, 10, .inl f))]) [1] (by decide) rfl
  have hKc := hK.sub (tys' := [(cI, .int)]) [0] rfl
  have hFc := va_free (wc := [(m2, .inl (cI, 10, .inl f))]) hD hS hA [1] rfl
  refine va_callv (va_runS (As := [.ref m2, .int 0]) (rest := []) ⟨hx, hb, hml, hown, hu⟩ (kJ7_fill_53178 l dC dI s.heap.size m2 10 f cI 0 (by decide)) (va_cwS 2 hu (uG_T (fun _ h => h) mG_891 mG_889 mG_890 mG_232) rfl rfl rfl (by decide +kernel) ⟨Nat.le_of_ble_eq_true rfl, Nat.le_of_ble_eq_true rfl⟩) ⟨fun a U g mk q => by obtain ⟨q0, q1, qP, qK, qD⟩ := q; exact ⟨q0, q1, qP, va_K.moved (u := U) (U := U.calling g mk a) (Vm.Alike.refl U.vm) qK, qD⟩, fun U hU hW => ⟨rfl, by rw [hU], by rw [hU]; exact hPc, va_K.moved hW.alike hKc, hDc.weaken (fun _ _ _ _ => trivial)⟩⟩ rfl rfl hl.1 rfl (lv_room (Nat.le_of_ble_eq_true rfl)) dX3_forget_5 ⟨Nat.le_of_ble_eq_true rfl, Nat.le_of_ble_eq_true rfl⟩) hS (fun q _ h => hFc q h) hFc (fun u t H1 locs ht hvm hw hB hz1 hk1 hS => ?_)
  obtain ⟨hP1, hK1, hD1⟩ := hB
  rw [ht] at hP1
  obtain ⟨hP, hD⟩ := va_join (wr := [(ma, .inr (6, [.ref m0, .ref m1, .ref m2, .ref m3, .ref m4, .ref m5, .ref m6, .ref m7, .int m8, .ref m9, .int m10, .int m11, .int m12, .int m13, .long m14, .int m15, .int m16, .int m17])), (m3, .inl (cJ, 630, .inl g))]) (w1 := [(m2, .inl (cI, 10, .inl (flI f 0 10)))]) hP hD [1] [0, 2] rfl rfl (by decide) (by decide) hk1 hFc hP1 hD1
  generalize H1 = H at hP hS ⊢
  have hP : va_P (dC, dI) vwCl [(ma, .inr (6, [.ref m0, .ref m1, .ref m2, .ref m3, .ref m4, .ref m5, .ref m6, .ref m7, .int m8, .ref m9, .int m10, .int m11, .int m12, .int m13, .long m14, .int m15, .int m16, .int m17])), (m3, .inl (cJ, 630, .inl g)), (m2, .inl (cI, 10, .inl (flI f 0 10)))] H := hP
  have hD : va_D A [(ma, .inr (6, [.ref m0, .ref m1, .ref m2, .ref m3, .ref m4, .ref m5, .ref m6, .ref m7, .int m8, .ref m9, .int m10, .int m11, .int m12, .int m13, .long m14, .int m15, .int m16, .int m17])), (m3, .inl (cJ, 630, .inl g)), (m2, .inl (cI, 10, .inl (flI f 0 10)))] := hD
  refine lv_aload_n hx hb dX3_forget_8 rfl (lv_at hl 0 rfl) ?_
  refine va_get (D := (dC, dI)) (ci := 6) (v := .ref m3) (C := RX3) (T := TX3) (N := 18) hx hb hu iuX3 hown hK hP 0 rfl rfl 3 (by decide) (hu _ mG_664) (fun _ h9 => h9) rfl dX3_forget_9 ?_
  refine lv_iconst (v := 0) hx hb dX3_forget_12 (by decide) ?_
  have hPc := hP.sub (ws' := [(m3, .inl (cJ, 630, .inl g))]) [1] rfl
  have hDc := hD.sub (ws' := [(m3, .inl (cJ, 630, .inl g))]) [1] (by decide) rfl
  have hKc := hK.sub (tys' := [(cJ, .int)]) [1] rfl
  have hFc := va_free (wc := [(m3, .inl (cJ, 630, .inl g))]) hD hS hA [1] rfl
  refine va_callv (va_runS (As := [.ref m3, .int 0]) (rest := []) ⟨hx, hb, hml, hown, hu⟩ (kJ7_fill_53178 l dC dI H.size m3 630 g cJ 0 (by decide)) (va_cwS 2 hu (uG_T (fun _ h => h) mG_891 mG_889 mG_890 mG_232) rfl rfl rfl (by decide +kernel) ⟨Nat.le_of_ble_eq_true rfl, Nat.le_of_ble_eq_true rfl⟩) ⟨fun a U g mk q => by obtain ⟨q0, q1, qP, qK, qD⟩ := q; exact ⟨q0, q1, qP, va_K.moved (u := U) (U := U.calling g mk a) (Vm.Alike.refl U.vm) qK, qD⟩, fun U hU hW => ⟨rfl, by rw [hU], by rw [hU]; exact hPc, va_K.moved hW.alike hKc, hDc.weaken (fun _ _ _ _ => trivial)⟩⟩ rfl rfl hl.1 rfl (lv_room (Nat.le_of_ble_eq_true rfl)) dX3_forget_13 ⟨Nat.le_of_ble_eq_true rfl, Nat.le_of_ble_eq_true rfl⟩) hS (fun q _ h => hFc q h) hFc (fun u t H1 locs ht hvm hw hB hz1 hk1 hS => ?_)
  obtain ⟨hP1, hK1, hD1⟩ := hB
  rw [ht] at hP1
  obtain ⟨hP, hD⟩ := va_join (wr := [(ma, .inr (6, [.ref m0, .ref m1, .ref m2, .ref m3, .ref m4, .ref m5, .ref m6, .ref m7, .int m8, .ref m9, .int m10, .int m11, .int m12, .int m13, .long m14, .int m15, .int m16, .int m17])), (m2, .inl (cI, 10, .inl (flI f 0 10)))]) (w1 := [(m3, .inl (cJ, 630, .inl (flI g 0 630)))]) hP hD [1] [0, 2] rfl rfl (by decide) (by decide) hk1 hFc hP1 hD1
  generalize H1 = H at hP hS ⊢
  have hP : va_P (dC, dI) vwCl [(ma, .inr (6, [.ref m0, .ref m1, .ref m2, .ref m3, .ref m4, .ref m5, .ref m6, .ref m7, .int m8, .ref m9, .int m10, .int m11, .int m12, .int m13, .long m14, .int m15, .int m16, .int m17])), (m2, .inl (cI, 10, .inl (flI f 0 10))), (m3, .inl (cJ, 630, .inl (flI g 0 630)))] H := hP
  have hD : va_D A [(ma, .inr (6, [.ref m0, .ref m1, .ref m2, .ref m3, .ref m4, .ref m5, .ref m6, .ref m7, .int m8, .ref m9, .int m10, .int m11, .int m12, .int m13, .long m14, .int m15, .int m16, .int m17])), (m2, .inl (cI, 10, .inl (flI f 0 10))), (m3, .inl (cJ, 630, .inl (flI g 0 630)))] := hD
  have hP9 : va_P (dC, dI) vwCl [(ma, .inr (6, [.ref m0, .ref m1, .ref m2, .ref m3, .ref m4, .ref m5, .ref m6, .ref m7, .int m8, .ref m9, .int m10, .int m11, .int m12, .int m13, .long m14, .int m15, .int m16, .int m17])), (m2, .inl (cI, 10, .inl (flI f 0 10))), (m3, .inl (cJ, 630, .inl (flI g 0 630)))] H := by exact hP
  have hD9 : va_D A [(ma, .inr (6, [.ref m0, .ref m1, .ref m2, .ref m3, .ref m4, .ref m5, .ref m6, .ref m7, .int m8, .ref m9, .int m10, .int m11, .int m12, .int m13, .long m14, .int m15, .int m16, .int m17])), (m2, .inl (cI, 10, .inl (flI f 0 10))), (m3, .inl (cJ, 630, .inl (flI g 0 630)))] := by exact hD
  have hK9 := hK.sub (tys' := [(cI, .int), (cJ, .int)]) [0, 1] rfl
  exact W.vret hx hb hr (fun t ht hW => ⟨⟨(), rfl, trivial, by rw [ht]; exact hP9, va_K.moved hW.alike hK9, hD9⟩, hS.F ht⟩) hS.2.2 dX3_forget_16
set_option maxHeartbeats 4000000 in
set_option maxRecDepth 100000 in
/-- Tree.clear() -/
theorem kX9_clear (l : Launch) (dC : Nat → ClassId) (dI : Nat → Nat → Nat) (sz : Nat) (tr t0 t1 t2 t3 t4 t5 t6 t7 : Nat) (tc : Int32) : Met l yX9_clear (Cond.code yX9_clear cX9_clear 1 none :: uG) ({ frames := 0, cells := 0, slots := 0, locals := 0 }) (va_Pc [.ref tr] (fun U => U.heap.size = sz ∧ va_P (dC, dI) vwCl [(tr, .inr (12, [.ref t0, .ref t1, .ref t2, .ref t3, .ref t4, .ref t5, .ref t6, .ref t7, .int tc]))] U.heap ∧ va_K (dC, dI) vwCl [] U ∧ va_D (fun _ => True) [(tr, .inr (12, [.ref t0, .ref t1, .ref t2, .ref t3, .ref t4, .ref t5, .ref t6, .ref t7, .int tc]))])) (va_Qv (S := Unit) (fun _ => True) (fun _ t => va_P (dC, dI) vwCl [(tr, .inr (12, [.ref t0, .ref t1, .ref t2, .ref t3, .ref t4, .ref t5, .ref t6, .ref t7, .int 0]))] t.heap ∧ va_K (dC, dI) vwCl [] t ∧ va_D (va_A [(tr, .inr (12, [.ref t0, .ref t1, .ref t2, .ref t3, .ref t4, .ref t5, .ref t6, .ref t7, .int tc]))] sz) [(tr, .inr (12, [.ref t0, .ref t1, .ref t2, .ref t3, .ref t4, .ref t5, .ref t6, .ref t7, .int 0]))]) (va_A [(tr, .inr (12, [.ref t0, .ref t1, .ref t2, .ref t3, .ref t4, .ref t5, .ref t6, .ref t7, .int tc]))] sz)) 0 0 (va_A [(tr, .inr (12, [.ref t0, .ref t1, .ref t2, .ref t3, .ref t4, .ref t5, .ref t6, .ref t7, .int tc]))] sz) := by
  refine Met.ofW (cc := cX9_clear) (maxL := 1) (ret := none) (by decide) rfl ?_
  intro pG eV s m args below meth c s₁ B hml hv
  obtain ⟨rfl, hsz, hP, hK, hD0⟩ := hv
  have hx := B.exec
  have hb := B.bytes
  have hr := B.returns
  have hts := atoms_spec (ws := Cond.code yX9_clear cX9_clear 1 none :: uG) B.pre
  have hu := fun (w : Cond) (h : w ∈ uG) => hts w (List.mem_cons_of_mem _ h)
  have hown : s.vm.findClass RX9 = some m.cls := findClass_of_methodNamed B.named
  have hlocks := B.notSynchronized
  subst hsz
  have hD := hD0.self (sz := s.heap.size)
  generalize hAe : va_A [(tr, .inr (12, [.ref t0, .ref t1, .ref t2, .ref t3, .ref t4, .ref t5, .ref t6, .ref t7, .int tc]))] s.heap.size = A at hD ⊢
  have hA : ∀ q : Nat, s.heap.size ≤ q → A q := fun q h => by rw [← hAe]; exact Or.inr h
  have hS : va_S A s.heap s.heap [] := va_S.rf
  have hP : va_P (dC, dI) vwCl [(tr, .inr (12, [.ref t0, .ref t1, .ref t2, .ref t3, .ref t4, .ref t5, .ref t6, .ref t7, .int tc]))] s.heap := hP
  have hD : va_D A [(tr, .inr (12, [.ref t0, .ref t1, .ref t2, .ref t3, .ref t4, .ref t5, .ref t6, .ref t7, .int tc]))] := hD
  have hl := lv_entry ([.ref tr]) (n := 1) (Nat.le_of_ble_eq_true rfl)
  rw [lg_entry_eq]
  generalize (lg_sl ([.ref tr]) ++ List.replicate (1 - (lg_sl ([.ref tr])).length) Slot.unset).toArray = ls at hl ⊢
  have hl : lv_has ls 1 [(0, .ref tr)] := hl
  refine lv_aload_n hx hb dX9_clear_0 rfl (lv_at hl 0 rfl) ?_
  refine lv_iconst (v := 0) hx hb dX9_clear_1 (by decide) ?_
  refine va_put (D := (dC, dI)) (ci := 12) (v := .int 0) (ty := (tyX9 8)) (C := RX9) (T := TX9) (N := 9) hx hb hu iuX9 tyX9 tyX9_ok nmX9 hown hK hP hD hS 0 rfl rfl 8 (by decide) (hu _ mG_413) (fun _ h9 => h9) rfl (by decide +kernel) (rfl) (rfl) (Nat.le_of_ble_eq_true rfl) dX9_clear_2 (fun H locs hP hD hS => ?_)
  have hP : va_P (dC, dI) vwCl [(tr, .inr (12, [.ref t0, .ref t1, .ref t2, .ref t3, .ref t4, .ref t5, .ref t6, .ref t7, .int 0]))] H := hP
  have hD : va_D A [(tr, .inr (12, [.ref t0, .ref t1, .ref t2, .ref t3, .ref t4, .ref t5, .ref t6, .ref t7, .int 0]))] := hD
  have hP9 : va_P (dC, dI) vwCl [(tr, .inr (12, [.ref t0, .ref t1, .ref t2, .ref t3, .ref t4, .ref t5, .ref t6, .ref t7, .int 0]))] H := by exact hP
  have hD9 : va_D A [(tr, .inr (12, [.ref t0, .ref t1, .ref t2, .ref t3, .ref t4, .ref t5, .ref t6, .ref t7, .int 0]))] := by exact hD
  have hK9 := hK.sub (tys' := []) [] rfl
  exact W.vret hx hb hr (fun t ht hW => ⟨⟨(), rfl, trivial, by rw [ht]; exact hP9, va_K.moved hW.alike hK9, hD9⟩, hS.F ht⟩) hS.2.2 dX9_clear_5
set_option maxHeartbeats 4000000 in
set_option maxRecDepth 100000 in
/-- Scopes.clear() -/
theorem kX6_clear (l : Launch) (dC : Nat → ClassId) (dI : Nat → Nat → Nat) (sz : Nat) (sc s0 s1 s2 s3 s4 s5 s6 s7 s9 s10 s11 s12 s13 : Nat) (sc8 sc14 : Int32) : Met l yX6_clear (Cond.code yX6_clear cX6_clear 1 none :: uG) ({ frames := 0, cells := 0, slots := 0, locals := 0 }) (va_Pc [.ref sc] (fun U => U.heap.size = sz ∧ va_P (dC, dI) vwCl [(sc, .inr (9, [.ref s0, .ref s1, .ref s2, .ref s3, .ref s4, .ref s5, .ref s6, .ref s7, .int sc8, .ref s9, .ref s10, .ref s11, .ref s12, .ref s13, .int sc14]))] U.heap ∧ va_K (dC, dI) vwCl [] U ∧ va_D (fun _ => True) [(sc, .inr (9, [.ref s0, .ref s1, .ref s2, .ref s3, .ref s4, .ref s5, .ref s6, .ref s7, .int sc8, .ref s9, .ref s10, .ref s11, .ref s12, .ref s13, .int sc14]))])) (va_Qv (S := Unit) (fun _ => True) (fun _ t => va_P (dC, dI) vwCl [(sc, .inr (9, [.ref s0, .ref s1, .ref s2, .ref s3, .ref s4, .ref s5, .ref s6, .ref s7, .int 0, .ref s9, .ref s10, .ref s11, .ref s12, .ref s13, .int 0]))] t.heap ∧ va_K (dC, dI) vwCl [] t ∧ va_D (va_A [(sc, .inr (9, [.ref s0, .ref s1, .ref s2, .ref s3, .ref s4, .ref s5, .ref s6, .ref s7, .int sc8, .ref s9, .ref s10, .ref s11, .ref s12, .ref s13, .int sc14]))] sz) [(sc, .inr (9, [.ref s0, .ref s1, .ref s2, .ref s3, .ref s4, .ref s5, .ref s6, .ref s7, .int 0, .ref s9, .ref s10, .ref s11, .ref s12, .ref s13, .int 0]))]) (va_A [(sc, .inr (9, [.ref s0, .ref s1, .ref s2, .ref s3, .ref s4, .ref s5, .ref s6, .ref s7, .int sc8, .ref s9, .ref s10, .ref s11, .ref s12, .ref s13, .int sc14]))] sz)) 0 0 (va_A [(sc, .inr (9, [.ref s0, .ref s1, .ref s2, .ref s3, .ref s4, .ref s5, .ref s6, .ref s7, .int sc8, .ref s9, .ref s10, .ref s11, .ref s12, .ref s13, .int sc14]))] sz) := by
  refine Met.ofW (cc := cX6_clear) (maxL := 1) (ret := none) (by decide) rfl ?_
  intro pG eV s m args below meth c s₁ B hml hv
  obtain ⟨rfl, hsz, hP, hK, hD0⟩ := hv
  have hx := B.exec
  have hb := B.bytes
  have hr := B.returns
  have hts := atoms_spec (ws := Cond.code yX6_clear cX6_clear 1 none :: uG) B.pre
  have hu := fun (w : Cond) (h : w ∈ uG) => hts w (List.mem_cons_of_mem _ h)
  have hown : s.vm.findClass RX6 = some m.cls := findClass_of_methodNamed B.named
  have hlocks := B.notSynchronized
  subst hsz
  have hD := hD0.self (sz := s.heap.size)
  generalize hAe : va_A [(sc, .inr (9, [.ref s0, .ref s1, .ref s2, .ref s3, .ref s4, .ref s5, .ref s6, .ref s7, .int sc8, .ref s9, .ref s10, .ref s11, .ref s12, .ref s13, .int sc14]))] s.heap.size = A at hD ⊢
  have hA : ∀ q : Nat, s.heap.size ≤ q → A q := fun q h => by rw [← hAe]; exact Or.inr h
  have hS : va_S A s.heap s.heap [] := va_S.rf
  have hP : va_P (dC, dI) vwCl [(sc, .inr (9, [.ref s0, .ref s1, .ref s2, .ref s3, .ref s4, .ref s5, .ref s6, .ref s7, .int sc8, .ref s9, .ref s10, .ref s11, .ref s12, .ref s13, .int sc14]))] s.heap := hP
  have hD : va_D A [(sc, .inr (9, [.ref s0, .ref s1, .ref s2, .ref s3, .ref s4, .ref s5, .ref s6, .ref s7, .int sc8, .ref s9, .ref s10, .ref s11, .ref s12, .ref s13, .int sc14]))] := hD
  have hl := lv_entry ([.ref sc]) (n := 1) (Nat.le_of_ble_eq_true rfl)
  rw [lg_entry_eq]
  generalize (lg_sl ([.ref sc]) ++ List.replicate (1 - (lg_sl ([.ref sc])).length) Slot.unset).toArray = ls at hl ⊢
  have hl : lv_has ls 1 [(0, .ref sc)] := hl
  refine lv_aload_n hx hb dX6_clear_0 rfl (lv_at hl 0 rfl) ?_
  refine lv_iconst (v := 0) hx hb dX6_clear_1 (by decide) ?_
  refine va_put (D := (dC, dI)) (ci := 9) (v := .int 0) (ty := (tyX6 8)) (C := RX6) (T := TX6) (N := 15) hx hb hu iuX6 tyX6 tyX6_ok nmX6 hown hK hP hD hS 0 rfl rfl 8 (by decide) (hu _ mG_458) (fun _ h9 => h9) rfl (by decide +kernel) (rfl) (rfl) (Nat.le_of_ble_eq_true rfl) dX6_clear_2 (fun H locs hP hD hS => ?_)
  have hP : va_P (dC, dI) vwCl [(sc, .inr (9, [.ref s0, .ref s1, .ref s2, .ref s3, .ref s4, .ref s5, .ref s6, .ref s7, .int 0, .ref s9, .ref s10, .ref s11, .ref s12, .ref s13, .int sc14]))] H := hP
  have hD : va_D A [(sc, .inr (9, [.ref s0, .ref s1, .ref s2, .ref s3, .ref s4, .ref s5, .ref s6, .ref s7, .int 0, .ref s9, .ref s10, .ref s11, .ref s12, .ref s13, .int sc14]))] := hD
  refine lv_aload_n hx hb dX6_clear_5 rfl (lv_at hl 0 rfl) ?_
  refine lv_iconst (v := 0) hx hb dX6_clear_6 (by decide) ?_
  refine va_put (D := (dC, dI)) (ci := 9) (v := .int 0) (ty := (tyX6 14)) (C := RX6) (T := TX6) (N := 15) hx hb hu iuX6 tyX6 tyX6_ok nmX6 hown hK hP hD hS 0 rfl rfl 14 (by decide) (hu _ mG_470) (fun _ h9 => h9) rfl (by decide +kernel) (rfl) (rfl) (Nat.le_of_ble_eq_true rfl) dX6_clear_7 (fun H locs hP hD hS => ?_)
  have hP : va_P (dC, dI) vwCl [(sc, .inr (9, [.ref s0, .ref s1, .ref s2, .ref s3, .ref s4, .ref s5, .ref s6, .ref s7, .int 0, .ref s9, .ref s10, .ref s11, .ref s12, .ref s13, .int 0]))] H := hP
  have hD : va_D A [(sc, .inr (9, [.ref s0, .ref s1, .ref s2, .ref s3, .ref s4, .ref s5, .ref s6, .ref s7, .int 0, .ref s9, .ref s10, .ref s11, .ref s12, .ref s13, .int 0]))] := hD
  have hP9 : va_P (dC, dI) vwCl [(sc, .inr (9, [.ref s0, .ref s1, .ref s2, .ref s3, .ref s4, .ref s5, .ref s6, .ref s7, .int 0, .ref s9, .ref s10, .ref s11, .ref s12, .ref s13, .int 0]))] H := by exact hP
  have hD9 : va_D A [(sc, .inr (9, [.ref s0, .ref s1, .ref s2, .ref s3, .ref s4, .ref s5, .ref s6, .ref s7, .int 0, .ref s9, .ref s10, .ref s11, .ref s12, .ref s13, .int 0]))] := by exact hD
  have hK9 := hK.sub (tys' := []) [] rfl
  exact W.vret hx hb hr (fun t ht hW => ⟨⟨(), rfl, trivial, by rw [ht]; exact hP9, va_K.moved hW.alike hK9, hD9⟩, hS.F ht⟩) hS.2.2 dX6_clear_10
set_option maxHeartbeats 4000000 in
set_option maxRecDepth 100000 in
/-- Program.addConstructor(name, fields), below 30 -/
theorem kX4_addConstructor (l : Launch) (dC : Nat → ClassId) (dI : Nat → Nat → Nat) (sz : Nat) (pr p0 p1 p3 p7 p8 p9 p10 p11 p12 p13 p14 p15 p16 : Nat) (tp fn mn : Int32) (k : Nat) (f : Nat → Int64) (g : Nat → Int32) (cL cI : ClassId) (nm : Int64) (fc : Int32) (hk : k < 30) : Met l yX4_addConstructor (Cond.code yX4_addConstructor cX4_addConstructor 4 none :: uG) ({ frames := 0, cells := 0, slots := 0, locals := 0 }) (va_Pc [.ref pr, .long nm, .int fc] (fun U => U.heap.size = sz ∧ va_P (dC, dI) vwCl [(pr, .inr (7, [.ref p0, .ref p1, .int (nI k), .ref p3, .int tp, .int fn, .int mn, .ref p7, .ref p8, .ref p9, .ref p10, .ref p11, .ref p12, .ref p13, .ref p14, .ref p15, .ref p16])), (p0, .inl (cL, 30, .inr (.inl f))), (p1, .inl (cI, 30, .inl g))] U.heap ∧ va_K (dC, dI) vwCl [(cL, .long), (cI, .int)] U ∧ va_D (fun _ => True) [(pr, .inr (7, [.ref p0, .ref p1, .int (nI k), .ref p3, .int tp, .int fn, .int mn, .ref p7, .ref p8, .ref p9, .ref p10, .ref p11, .ref p12, .ref p13, .ref p14, .ref p15, .ref p16])), (p0, .inl (cL, 30, .inr (.inl f))), (p1, .inl (cI, 30, .inl g))])) (va_Qv (S := Unit) (fun _ => True) (fun _ t => va_P (dC, dI) vwCl [(pr, .inr (7, [.ref p0, .ref p1, .int (nI (k + 1)), .ref p3, .int tp, .int fn, .int mn, .ref p7, .ref p8, .ref p9, .ref p10, .ref p11, .ref p12, .ref p13, .ref p14, .ref p15, .ref p16])), (p0, .inl (cL, 30, .inr (.inl (vp_updL f k nm)))), (p1, .inl (cI, 30, .inl (upd g k fc)))] t.heap ∧ va_K (dC, dI) vwCl [(cL, .long), (cI, .int)] t ∧ va_D (va_A [(pr, .inr (7, [.ref p0, .ref p1, .int (nI k), .ref p3, .int tp, .int fn, .int mn, .ref p7, .ref p8, .ref p9, .ref p10, .ref p11, .ref p12, .ref p13, .ref p14, .ref p15, .ref p16])), (p0, .inl (cL, 30, .inr (.inl f))), (p1, .inl (cI, 30, .inl g))] sz) [(pr, .inr (7, [.ref p0, .ref p1, .int (nI (k + 1)), .ref p3, .int tp, .int fn, .int mn, .ref p7, .ref p8, .ref p9, .ref p10, .ref p11, .ref p12, .ref p13, .ref p14, .ref p15, .ref p16])), (p0, .inl (cL, 30, .inr (.inl (vp_updL f k nm)))), (p1, .inl (cI, 30, .inl (upd g k fc)))]) (va_A [(pr, .inr (7, [.ref p0, .ref p1, .int (nI k), .ref p3, .int tp, .int fn, .int mn, .ref p7, .ref p8, .ref p9, .ref p10, .ref p11, .ref p12, .ref p13, .ref p14, .ref p15, .ref p16])), (p0, .inl (cL, 30, .inr (.inl f))), (p1, .inl (cI, 30, .inl g))] sz)) 0 0 (va_A [(pr, .inr (7, [.ref p0, .ref p1, .int (nI k), .ref p3, .int tp, .int fn, .int mn, .ref p7, .ref p8, .ref p9, .ref p10, .ref p11, .ref p12, .ref p13, .ref p14, .ref p15, .ref p16])), (p0, .inl (cL, 30, .inr (.inl f))), (p1, .inl (cI, 30, .inl g))] sz) := by
  refine Met.ofW (cc := cX4_addConstructor) (maxL := 4) (ret := none) (by decide) rfl ?_
  intro pG eV s m args below meth c s₁ B hml hv
  obtain ⟨rfl, hsz, hP, hK, hD0⟩ := hv
  have hx := B.exec
  have hb := B.bytes
  have hr := B.returns
  have hts := atoms_spec (ws := Cond.code yX4_addConstructor cX4_addConstructor 4 none :: uG) B.pre
  have hu := fun (w : Cond) (h : w ∈ uG) => hts w (List.mem_cons_of_mem _ h)
  have hown : s.vm.findClass RX4 = some m.cls := findClass_of_methodNamed B.named
  have hlocks := B.notSynchronized
  subst hsz
  have hD := hD0.self (sz := s.heap.size)
  generalize hAe : va_A [(pr, .inr (7, [.ref p0, .ref p1, .int (nI k), .ref p3, .int tp, .int fn, .int mn, .ref p7, .ref p8, .ref p9, .ref p10, .ref p11, .ref p12, .ref p13, .ref p14, .ref p15, .ref p16])), (p0, .inl (cL, 30, .inr (.inl f))), (p1, .inl (cI, 30, .inl g))] s.heap.size = A at hD ⊢
  have hA : ∀ q : Nat, s.heap.size ≤ q → A q := fun q h => by rw [← hAe]; exact Or.inr h
  have hS : va_S A s.heap s.heap [] := va_S.rf
  have hP : va_P (dC, dI) vwCl [(pr, .inr (7, [.ref p0, .ref p1, .int (nI k), .ref p3, .int tp, .int fn, .int mn, .ref p7, .ref p8, .ref p9, .ref p10, .ref p11, .ref p12, .ref p13, .ref p14, .ref p15, .ref p16])), (p0, .inl (cL, 30, .inr (.inl f))), (p1, .inl (cI, 30, .inl g))] s.heap := hP
  have hD : va_D A [(pr, .inr (7, [.ref p0, .ref p1, .int (nI k), .ref p3, .int tp, .int fn, .int mn, .ref p7, .ref p8, .ref p9, .ref p10, .ref p11, .ref p12, .ref p13, .ref p14, .ref p15, .ref p16])), (p0, .inl (cL, 30, .inr (.inl f))), (p1, .inl (cI, 30, .inl g))] := hD
  have hl := lv_entry ([.ref pr, .long nm, .int fc]) (n := 4) (Nat.le_of_ble_eq_true rfl)
  rw [lg_entry_eq]
  generalize (lg_sl ([.ref pr, .long nm, .int fc]) ++ List.replicate (4 - (lg_sl ([.ref pr, .long nm, .int fc])).length) Slot.unset).toArray = ls at hl ⊢
  have hl : lv_has ls 4 [(0, .ref pr), (1, .long nm), (3, .int fc)] := hl
  refine lv_aload_n hx hb dX4_addConstructor_0 rfl (lv_at hl 0 rfl) ?_
  refine va_get (D := (dC, dI)) (ci := 7) (v := .int (nI k)) (C := RX4) (T := TX4) (N := 17) hx hb hu iuX4 hown hK hP 0 rfl rfl 2 (by decide) (hu _ mG_290) (fun _ h9 => h9) rfl dX4_addConstructor_1 ?_
  refine lv_bipush (v := 30) hx hb dX4_addConstructor_4 (by decide) ?_
  refine lv_icmp_ge (tgt := 39) hx hb dX4_addConstructor_6 (by decide) (fun c6 => ?_) (fun c6 => ?_)
  · exact absurd c6 (Int32.not_le.mpr ((nI_ltI (b := 30) (by omega) (by decide)).mpr hk))
  · refine lv_aload_n hx hb dX4_addConstructor_9 rfl (lv_at hl 0 rfl) ?_
    refine va_get (D := (dC, dI)) (ci := 7) (v := .ref p0) (C := RX4) (T := TX4) (N := 17) hx hb hu iuX4 hown hK hP 0 rfl rfl 0 (by decide) (hu _ mG_282) (fun _ h9 => h9) rfl dX4_addConstructor_10 ?_
    refine lv_aload_n hx hb dX4_addConstructor_13 rfl (lv_at hl 0 rfl) ?_
    refine va_get (D := (dC, dI)) (ci := 7) (v := .int (nI k)) (C := RX4) (T := TX4) (N := 17) hx hb hu iuX4 hown hK hP 0 rfl rfl 2 (by decide) (hu _ mG_290) (fun _ h9 => h9) rfl dX4_addConstructor_14 ?_
    refine lv_lload_n hx hb dX4_addConstructor_17 rfl (lv_at hl 1 rfl) ?_
    refine va_last hx hb hK hP hD hS 1 0 rfl rfl (vp_in_nI hk (by decide)) dX4_addConstructor_18 (fun H locs hP hD hS => ?_)
    rw [show (vp_updL f ((nI k)).toNatClampNeg nm) = (vp_updL f k nm) from by rw [nI_clamp (by omega)]] at hP hD
    have hP : va_P (dC, dI) vwCl [(pr, .inr (7, [.ref p0, .ref p1, .int (nI k), .ref p3, .int tp, .int fn, .int mn, .ref p7, .ref p8, .ref p9, .ref p10, .ref p11, .ref p12, .ref p13, .ref p14, .ref p15, .ref p16])), (p0, .inl (cL, 30, .inr (.inl (vp_updL f k nm)))), (p1, .inl (cI, 30, .inl g))] H := hP
    have hD : va_D A [(pr, .inr (7, [.ref p0, .ref p1, .int (nI k), .ref p3, .int tp, .int fn, .int mn, .ref p7, .ref p8, .ref p9, .ref p10, .ref p11, .ref p12, .ref p13, .ref p14, .ref p15, .ref p16])), (p0, .inl (cL, 30, .inr (.inl (vp_updL f k nm)))), (p1, .inl (cI, 30, .inl g))] := hD
    refine lv_aload_n hx hb dX4_addConstructor_19 rfl (lv_at hl 0 rfl) ?_
    refine va_get (D := (dC, dI)) (ci := 7) (v := .ref p1) (C := RX4) (T := TX4) (N := 17) hx hb hu iuX4 hown hK hP 0 rfl rfl 1 (by decide) (hu _ mG_284) (fun _ h9 => h9) rfl dX4_addConstructor_20 ?_
    refine lv_aload_n hx hb dX4_addConstructor_23 rfl (lv_at hl 0 rfl) ?_
    refine va_get (D := (dC, dI)) (ci := 7) (v := .int (nI k)) (C := RX4) (T := TX4) (N := 17) hx hb hu iuX4 hown hK hP 0 rfl rfl 2 (by decide) (hu _ mG_290) (fun _ h9 => h9) rfl dX4_addConstructor_24 ?_
    refine lv_iload_n hx hb dX4_addConstructor_27 rfl (lv_at hl 2 rfl) ?_
    refine va_iast hx hb hK hP hD hS 2 1 rfl rfl (vp_in_nI hk (by decide)) dX4_addConstructor_28 (fun H locs hP hD hS => ?_)
    rw [show (upd g ((nI k)).toNatClampNeg fc) = (upd g k fc) from by rw [nI_clamp (by omega)]] at hP hD
    have hP : va_P (dC, dI) vwCl [(pr, .inr (7, [.ref p0, .ref p1, .int (nI k), .ref p3, .int tp, .int fn, .int mn, .ref p7, .ref p8, .ref p9, .ref p10, .ref p11, .ref p12, .ref p13, .ref p14, .ref p15, .ref p16])), (p0, .inl (cL, 30, .inr (.inl (vp_updL f k nm)))), (p1, .inl (cI, 30, .inl (upd g k fc)))] H := hP
    have hD : va_D A [(pr, .inr (7, [.ref p0, .ref p1, .int (nI k), .ref p3, .int tp, .int fn, .int mn, .ref p7, .ref p8, .ref p9, .ref p10, .ref p11, .ref p12, .ref p13, .ref p14, .ref p15, .ref p16])), (p0, .inl (cL, 30, .inr (.inl (vp_updL f k nm)))), (p1, .inl (cI, 30, .inl (upd g k fc)))] := hD
    refine lv_aload_n hx hb dX4_addConstructor_29 rfl (lv_at hl 0 rfl) ?_
    refine lv_dup hx hb dX4_addConstructor_30 rfl ?_
    refine va_get (D := (dC, dI)) (ci := 7) (v := .int (nI k)) (C := RX4) (T := TX4) (N := 17) hx hb hu iuX4 hown hK hP 0 rfl rfl 2 (by decide) (hu _ mG_290) (fun _ h9 => h9) rfl dX4_addConstructor_31 ?_
    refine lv_iconst (v := 1) hx hb dX4_addConstructor_34 (by decide) ?_
    refine lv_iadd hx hb dX4_addConstructor_35 ?_
    refine lv_topi (fun x35 ex35 => ?_)
    obtain rfl : x35 = (nI (k + 1)) := by rw [ex35]; exact nI_1 k
    refine va_put (D := (dC, dI)) (ci := 7) (v := .int (nI (k + 1))) (ty := (tyX4 2)) (C := RX4) (T := TX4) (N := 17) hx hb hu iuX4 tyX4 tyX4_ok nmX4 hown hK hP hD hS 0 rfl rfl 2 (by decide) (hu _ mG_290) (fun _ h9 => h9) rfl (by decide +kernel) (rfl) (rfl) (Nat.le_of_ble_eq_true rfl) dX4_addConstructor_36 (fun H locs hP hD hS => ?_)
    have hP : va_P (dC, dI) vwCl [(pr, .inr (7, [.ref p0, .ref p1, .int (nI (k + 1)), .ref p3, .int tp, .int fn, .int mn, .ref p7, .ref p8, .ref p9, .ref p10, .ref p11, .ref p12, .ref p13, .ref p14, .ref p15, .ref p16])), (p0, .inl (cL, 30, .inr (.inl (vp_updL f k nm)))), (p1, .inl (cI, 30, .inl (upd g k fc)))] H := hP
    have hD : va_D A [(pr, .inr (7, [.ref p0, .ref p1, .int (nI (k + 1)), .ref p3, .int tp, .int fn, .int mn, .ref p7, .ref p8, .ref p9, .ref p10, .ref p11, .ref p12, .ref p13, .ref p14, .ref p15, .ref p16])), (p0, .inl (cL, 30, .inr (.inl (vp_updL f k nm)))), (p1, .inl (cI, 30, .inl (upd g k fc)))] := hD
    have hP9 : va_P (dC, dI) vwCl [(pr, .inr (7, [.ref p0, .ref p1, .int (nI (k + 1)), .ref p3, .int tp, .int fn, .int mn, .ref p7, .ref p8, .ref p9, .ref p10, .ref p11, .ref p12, .ref p13, .ref p14, .ref p15, .ref p16])), (p0, .inl (cL, 30, .inr (.inl (vp_updL f k nm)))), (p1, .inl (cI, 30, .inl (upd g k fc)))] H := by exact hP
    have hD9 : va_D A [(pr, .inr (7, [.ref p0, .ref p1, .int (nI (k + 1)), .ref p3, .int tp, .int fn, .int mn, .ref p7, .ref p8, .ref p9, .ref p10, .ref p11, .ref p12, .ref p13, .ref p14, .ref p15, .ref p16])), (p0, .inl (cL, 30, .inr (.inl (vp_updL f k nm)))), (p1, .inl (cI, 30, .inl (upd g k fc)))] := by exact hD
    have hK9 := hK.sub (tys' := [(cL, .long), (cI, .int)]) [0, 1] rfl
    exact W.vret hx hb hr (fun t ht hW => ⟨⟨(), rfl, trivial, by rw [ht]; exact hP9, va_K.moved hW.alike hK9, hD9⟩, hS.F ht⟩) hS.2.2 dX4_addConstructor_39
set_option maxHeartbeats 4000000 in
set_option maxRecDepth 100000 in
/-- Program.clear() -/
theorem kX4_clear (l : Launch) (dC : Nat → ClassId) (dI : Nat → Nat → Nat) (sz : Nat) (pr p0 p1 p3 p7 p8 p9 p10 p11 p12 p13 p14 p15 p16 : Nat) (tp fn mn : Int32) (cn : Int32) (f : Nat → Int64) (g : Nat → Int32) (cL cI : ClassId) : Met l yX4_clear (Cond.code yX4_clear cX4_clear 1 none :: uG) ({ frames := 1, cells := 0, slots := 0, locals := 23 }) (va_Pc [.ref pr] (fun U => U.heap.size = sz ∧ va_P (dC, dI) vwCl [(pr, .inr (7, [.ref p0, .ref p1, .int cn, .ref p3, .int tp, .int fn, .int mn, .ref p7, .ref p8, .ref p9, .ref p10, .ref p11, .ref p12, .ref p13, .ref p14, .ref p15, .ref p16])), (p0, .inl (cL, 30, .inr (.inl f))), (p1, .inl (cI, 30, .inl g))] U.heap ∧ va_K (dC, dI) vwCl [(cL, .long), (cI, .int)] U ∧ va_D (fun _ => True) [(pr, .inr (7, [.ref p0, .ref p1, .int cn, .ref p3, .int tp, .int fn, .int mn, .ref p7, .ref p8, .ref p9, .ref p10, .ref p11, .ref p12, .ref p13, .ref p14, .ref p15, .ref p16])), (p0, .inl (cL, 30, .inr (.inl f))), (p1, .inl (cI, 30, .inl g))])) (va_Qv (S := Unit) (fun _ => True) (fun _ t => va_P (dC, dI) vwCl [(pr, .inr (7, [.ref p0, .ref p1, .int (nI 2), .ref p3, .int 0, .int 0, .int (-1), .ref p7, .ref p8, .ref p9, .ref p10, .ref p11, .ref p12, .ref p13, .ref p14, .ref p15, .ref p16])), (p0, .inl (cL, 30, .inr (.inl (vp_updL (vp_updL f 0 302282208101) 1 1416787301)))), (p1, .inl (cI, 30, .inl (upd (upd g 0 0) 1 0)))] t.heap ∧ va_K (dC, dI) vwCl [(cL, .long), (cI, .int)] t ∧ va_D (va_A [(pr, .inr (7, [.ref p0, .ref p1, .int cn, .ref p3, .int tp, .int fn, .int mn, .ref p7, .ref p8, .ref p9, .ref p10, .ref p11, .ref p12, .ref p13, .ref p14, .ref p15, .ref p16])), (p0, .inl (cL, 30, .inr (.inl f))), (p1, .inl (cI, 30, .inl g))] sz) [(pr, .inr (7, [.ref p0, .ref p1, .int (nI 2), .ref p3, .int 0, .int 0, .int (-1), .ref p7, .ref p8, .ref p9, .ref p10, .ref p11, .ref p12, .ref p13, .ref p14, .ref p15, .ref p16])), (p0, .inl (cL, 30, .inr (.inl (vp_updL (vp_updL f 0 302282208101) 1 1416787301)))), (p1, .inl (cI, 30, .inl (upd (upd g 0 0) 1 0)))]) (va_A [(pr, .inr (7, [.ref p0, .ref p1, .int cn, .ref p3, .int tp, .int fn, .int mn, .ref p7, .ref p8, .ref p9, .ref p10, .ref p11, .ref p12, .ref p13, .ref p14, .ref p15, .ref p16])), (p0, .inl (cL, 30, .inr (.inl f))), (p1, .inl (cI, 30, .inl g))] sz)) 0 0 (va_A [(pr, .inr (7, [.ref p0, .ref p1, .int cn, .ref p3, .int tp, .int fn, .int mn, .ref p7, .ref p8, .ref p9, .ref p10, .ref p11, .ref p12, .ref p13, .ref p14, .ref p15, .ref p16])), (p0, .inl (cL, 30, .inr (.inl f))), (p1, .inl (cI, 30, .inl g))] sz) := by
  refine Met.ofW (cc := cX4_clear) (maxL := 1) (ret := none) (by decide) rfl ?_
  intro pG eV s m args below meth c s₁ B hml hv
  obtain ⟨rfl, hsz, hP, hK, hD0⟩ := hv
  have hx := B.exec
  have hb := B.bytes
  have hr := B.returns
  have hts := atoms_spec (ws := Cond.code yX4_clear cX4_clear 1 none :: uG) B.pre
  have hu := fun (w : Cond) (h : w ∈ uG) => hts w (List.mem_cons_of_mem _ h)
  have hown : s.vm.findClass RX4 = some m.cls := findClass_of_methodNamed B.named
  have hlocks := B.notSynchronized
  subst hsz
  have hD := hD0.self (sz := s.heap.size)
  generalize hAe : va_A [(pr, .inr (7, [.ref p0, .ref p1, .int cn, .ref p3, .int tp, .int fn, .int mn, .ref p7, .ref p8, .ref p9, .ref p10, .ref p11, .ref p12, .ref p13, .ref p14, .ref p15, .ref p16])), (p0, .inl (cL, 30, .inr (.inl f))), (p1, .inl (cI, 30, .inl g))] s.heap.size = A at hD ⊢
  have hA : ∀ q : Nat, s.heap.size ≤ q → A q := fun q h => by rw [← hAe]; exact Or.inr h
  have hS : va_S A s.heap s.heap [] := va_S.rf
  have hP : va_P (dC, dI) vwCl [(pr, .inr (7, [.ref p0, .ref p1, .int cn, .ref p3, .int tp, .int fn, .int mn, .ref p7, .ref p8, .ref p9, .ref p10, .ref p11, .ref p12, .ref p13, .ref p14, .ref p15, .ref p16])), (p0, .inl (cL, 30, .inr (.inl f))), (p1, .inl (cI, 30, .inl g))] s.heap := hP
  have hD : va_D A [(pr, .inr (7, [.ref p0, .ref p1, .int cn, .ref p3, .int tp, .int fn, .int mn, .ref p7, .ref p8, .ref p9, .ref p10, .ref p11, .ref p12, .ref p13, .ref p14, .ref p15, .ref p16])), (p0, .inl (cL, 30, .inr (.inl f))), (p1, .inl (cI, 30, .inl g))] := hD
  have hl := lv_entry ([.ref pr]) (n := 1) (Nat.le_of_ble_eq_true rfl)
  rw [lg_entry_eq]
  generalize (lg_sl ([.ref pr]) ++ List.replicate (1 - (lg_sl ([.ref pr])).length) Slot.unset).toArray = ls at hl ⊢
  have hl : lv_has ls 1 [(0, .ref pr)] := hl
  refine lv_aload_n hx hb dX4_clear_0 rfl (lv_at hl 0 rfl) ?_
  refine lv_iconst (v := 0) hx hb dX4_clear_1 (by decide) ?_
  refine va_put (D := (dC, dI)) (ci := 7) (v := .int 0) (ty := (tyX4 2)) (C := RX4) (T := TX4) (N := 17) hx hb hu iuX4 tyX4 tyX4_ok nmX4 hown hK hP hD hS 0 rfl rfl 2 (by decide) (hu _ mG_290) (fun _ h9 => h9) rfl (by decide +kernel) (rfl) (rfl) (Nat.le_of_ble_eq_true rfl) dX4_clear_2 (fun H locs hP hD hS => ?_)
  have hP : va_P (dC, dI) vwCl [(pr, .inr (7, [.ref p0, .ref p1, .int 0, .ref p3, .int tp, .int fn, .int mn, .ref p7, .ref p8, .ref p9, .ref p10, .ref p11, .ref p12, .ref p13, .ref p14, .ref p15, .ref p16])), (p0, .inl (cL, 30, .inr (.inl f))), (p1, .inl (cI, 30, .inl g))] H := hP
  have hD : va_D A [(pr, .inr (7, [.ref p0, .ref p1, .int 0, .ref p3, .int tp, .int fn, .int mn, .ref p7, .ref p8, .ref p9, .ref p10, .ref p11, .ref p12, .ref p13, .ref p14, .ref p15, .ref p16])), (p0, .inl (cL, 30, .inr (.inl f))), (p1, .inl (cI, 30, .inl g))] := hD
  have hP : va_P (dC, dI) vwCl [(pr, .inr (7, [.ref p0, .ref p1, .int (nI 0), .ref p3, .int tp, .int fn, .int mn, .ref p7, .ref p8, .ref p9, .ref p10, .ref p11, .ref p12, .ref p13, .ref p14, .ref p15, .ref p16])), (p0, .inl (cL, 30, .inr (.inl f))), (p1, .inl (cI, 30, .inl g))] H := by rw [nI_0]; exact hP
  have hD : va_D A [(pr, .inr (7, [.ref p0, .ref p1, .int (nI 0), .ref p3, .int tp, .int fn, .int mn, .ref p7, .ref p8, .ref p9, .ref p10, .ref p11, .ref p12, .ref p13, .ref p14, .ref p15, .ref p16])), (p0, .inl (cL, 30, .inr (.inl f))), (p1, .inl (cI, 30, .inl g))] := by rw [nI_0]; exact hD
  refine lv_aload_n hx hb dX4_clear_5 rfl (lv_at hl 0 rfl) ?_
  refine lv_ldc2 (own := RX4) (v := 302282208101) hx hb hown (hu _ mG_904) dX4_clear_6 ?_
  refine lv_iconst (v := 0) hx hb dX4_clear_9 (by decide) ?_
  have hPc := hP.sub (ws' := [(pr, .inr (7, [.ref p0, .ref p1, .int (nI 0), .ref p3, .int tp, .int fn, .int mn, .ref p7, .ref p8, .ref p9, .ref p10, .ref p11, .ref p12, .ref p13, .ref p14, .ref p15, .ref p16])), (p0, .inl (cL, 30, .inr (.inl f))), (p1, .inl (cI, 30, .inl g))]) [0, 1, 2] rfl
  have hDc := hD.sub (ws' := [(pr, .inr (7, [.ref p0, .ref p1, .int (nI 0), .ref p3, .int tp, .int fn, .int mn, .ref p7, .ref p8, .ref p9, .ref p10, .ref p11, .ref p12, .ref p13, .ref p14, .ref p15, .ref p16])), (p0, .inl (cL, 30, .inr (.inl f))), (p1, .inl (cI, 30, .inl g))]) [0, 1, 2] (by decide) rfl
  have hKc := hK.sub (tys' := [(cL, .long), (cI, .int)]) [0, 1] rfl
  have hFc := va_free (wc := [(pr, .inr (7, [.ref p0, .ref p1, .int (nI 0), .ref p3, .int tp, .int fn, .int mn, .ref p7, .ref p8, .ref p9, .ref p10, .ref p11, .ref p12, .ref p13, .ref p14, .ref p15, .ref p16])), (p0, .inl (cL, 30, .inr (.inl f))), (p1, .inl (cI, 30, .inl g))]) hD hS hA [0, 1, 2] rfl
  refine va_callv (va_runV (As := [.long 302282208101, .int 0]) (rest := []) ⟨hx, hb, hml, hown, hu⟩ (kX4_addConstructor l dC dI H.size pr p0 p1 p3 p7 p8 p9 p10 p11 p12 p13 p14 p15 p16 tp fn mn 0 f g cL cI 302282208101 0 (by decide)) (cwV 2 hu (uG_V (fun _ h => h) mG_908 mG_905 mG_906 mG_907 mG_216) rfl rfl rfl (by decide +kernel) ⟨Nat.le_of_ble_eq_true rfl, Nat.le_of_ble_eq_true rfl⟩) ⟨fun a U g mk q => by obtain ⟨q0, q1, qP, qK, qD⟩ := q; exact ⟨q0, q1, qP, va_K.moved (u := U) (U := U.calling g mk a) (Vm.Alike.refl U.vm) qK, qD⟩, va_recv hKc hPc (ci := 7) (q0 := 0) rfl rfl, fun U hU hW => ⟨rfl, by rw [hU], by rw [hU]; exact hPc, va_K.moved hW.alike hKc, hDc.weaken (fun _ _ _ _ => trivial)⟩⟩ rfl rfl hl.1 rfl (lv_room (Nat.le_of_ble_eq_true rfl)) dX4_clear_10 ⟨Nat.le_of_ble_eq_true rfl, Nat.le_of_ble_eq_true rfl⟩) hS (fun q _ h => hFc q h) hFc (fun u t H1 locs ht hvm hw hB hz1 hk1 hS => ?_)
  obtain ⟨hP1, hK1, hD1⟩ := hB
  rw [ht] at hP1
  obtain ⟨hP, hD⟩ := va_join (wr := []) (w1 := [(pr, .inr (7, [.ref p0, .ref p1, .int (nI (0 + 1)), .ref p3, .int tp, .int fn, .int mn, .ref p7, .ref p8, .ref p9, .ref p10, .ref p11, .ref p12, .ref p13, .ref p14, .ref p15, .ref p16])), (p0, .inl (cL, 30, .inr (.inl (vp_updL f 0 302282208101)))), (p1, .inl (cI, 30, .inl (upd g 0 0)))]) hP hD [0, 1, 2] [] rfl rfl (by decide) (by decide) hk1 hFc hP1 hD1
  generalize H1 = H at hP hS ⊢
  have hP : va_P (dC, dI) vwCl [(pr, .inr (7, [.ref p0, .ref p1, .int (nI (0 + 1)), .ref p3, .int tp, .int fn, .int mn, .ref p7, .ref p8, .ref p9, .ref p10, .ref p11, .ref p12, .ref p13, .ref p14, .ref p15, .ref p16])), (p0, .inl (cL, 30, .inr (.inl (vp_updL f 0 302282208101)))), (p1, .inl (cI, 30, .inl (upd g 0 0)))] H := hP
  have hD : va_D A [(pr, .inr (7, [.ref p0, .ref p1, .int (nI (0 + 1)), .ref p3, .int tp, .int fn, .int mn, .ref p7, .ref p8, .ref p9, .ref p10, .ref p11, .ref p12, .ref p13, .ref p14, .ref p15, .ref p16])), (p0, .inl (cL, 30, .inr (.inl (vp_updL f 0 302282208101)))), (p1, .inl (cI, 30, .inl (upd g 0 0)))] := hD
  refine lv_aload_n hx hb dX4_clear_13 rfl (lv_at hl 0 rfl) ?_
  refine lv_ldc2 (own := RX4) (v := 1416787301) hx hb hown (hu _ mG_909) dX4_clear_14 ?_
  refine lv_iconst (v := 0) hx hb dX4_clear_17 (by decide) ?_
  have hPc := hP.sub (ws' := [(pr, .inr (7, [.ref p0, .ref p1, .int (nI (0 + 1)), .ref p3, .int tp, .int fn, .int mn, .ref p7, .ref p8, .ref p9, .ref p10, .ref p11, .ref p12, .ref p13, .ref p14, .ref p15, .ref p16])), (p0, .inl (cL, 30, .inr (.inl (vp_updL f 0 302282208101)))), (p1, .inl (cI, 30, .inl (upd g 0 0)))]) [0, 1, 2] rfl
  have hDc := hD.sub (ws' := [(pr, .inr (7, [.ref p0, .ref p1, .int (nI (0 + 1)), .ref p3, .int tp, .int fn, .int mn, .ref p7, .ref p8, .ref p9, .ref p10, .ref p11, .ref p12, .ref p13, .ref p14, .ref p15, .ref p16])), (p0, .inl (cL, 30, .inr (.inl (vp_updL f 0 302282208101)))), (p1, .inl (cI, 30, .inl (upd g 0 0)))]) [0, 1, 2] (by decide) rfl
  have hKc := hK.sub (tys' := [(cL, .long), (cI, .int)]) [0, 1] rfl
  have hFc := va_free (wc := [(pr, .inr (7, [.ref p0, .ref p1, .int (nI (0 + 1)), .ref p3, .int tp, .int fn, .int mn, .ref p7, .ref p8, .ref p9, .ref p10, .ref p11, .ref p12, .ref p13, .ref p14, .ref p15, .ref p16])), (p0, .inl (cL, 30, .inr (.inl (vp_updL f 0 302282208101)))), (p1, .inl (cI, 30, .inl (upd g 0 0)))]) hD hS hA [0, 1, 2] rfl
  refine va_callv (va_runV (As := [.long 1416787301, .int 0]) (rest := []) ⟨hx, hb, hml, hown, hu⟩ (kX4_addConstructor l dC dI H.size pr p0 p1 p3 p7 p8 p9 p10 p11 p12 p13 p14 p15 p16 tp fn mn 1 (vp_updL f 0 302282208101) (upd g 0 0) cL cI 1416787301 0 (by decide)) (cwV 2 hu (uG_V (fun _ h => h) mG_908 mG_905 mG_906 mG_907 mG_216) rfl rfl rfl (by decide +kernel) ⟨Nat.le_of_ble_eq_true rfl, Nat.le_of_ble_eq_true rfl⟩) ⟨fun a U g mk q => by obtain ⟨q0, q1, qP, qK, qD⟩ := q; exact ⟨q0, q1, qP, va_K.moved (u := U) (U := U.calling g mk a) (Vm.Alike.refl U.vm) qK, qD⟩, va_recv hKc hPc (ci := 7) (q0 := 0) rfl rfl, fun U hU hW => ⟨rfl, by rw [hU], by rw [hU]; exact hPc, va_K.moved hW.alike hKc, hDc.weaken (fun _ _ _ _ => trivial)⟩⟩ rfl rfl hl.1 rfl (lv_room (Nat.le_of_ble_eq_true rfl)) dX4_clear_18 ⟨Nat.le_of_ble_eq_true rfl, Nat.le_of_ble_eq_true rfl⟩) hS (fun q _ h => hFc q h) hFc (fun u t H1 locs ht hvm hw hB hz1 hk1 hS => ?_)
  obtain ⟨hP1, hK1, hD1⟩ := hB
  rw [ht] at hP1
  obtain ⟨hP, hD⟩ := va_join (wr := []) (w1 := [(pr, .inr (7, [.ref p0, .ref p1, .int (nI (1 + 1)), .ref p3, .int tp, .int fn, .int mn, .ref p7, .ref p8, .ref p9, .ref p10, .ref p11, .ref p12, .ref p13, .ref p14, .ref p15, .ref p16])), (p0, .inl (cL, 30, .inr (.inl (vp_updL (vp_updL f 0 302282208101) 1 1416787301)))), (p1, .inl (cI, 30, .inl (upd (upd g 0 0) 1 0)))]) hP hD [0, 1, 2] [] rfl rfl (by decide) (by decide) hk1 hFc hP1 hD1
  generalize H1 = H at hP hS ⊢
  have hP : va_P (dC, dI) vwCl [(pr, .inr (7, [.ref p0, .ref p1, .int (nI (1 + 1)), .ref p3, .int tp, .int fn, .int mn, .ref p7, .ref p8, .ref p9, .ref p10, .ref p11, .ref p12, .ref p13, .ref p14, .ref p15, .ref p16])), (p0, .inl (cL, 30, .inr (.inl (vp_updL (vp_updL f 0 302282208101) 1 1416787301)))), (p1, .inl (cI, 30, .inl (upd (upd g 0 0) 1 0)))] H := hP
  have hD : va_D A [(pr, .inr (7, [.ref p0, .ref p1, .int (nI (1 + 1)), .ref p3, .int tp, .int fn, .int mn, .ref p7, .ref p8, .ref p9, .ref p10, .ref p11, .ref p12, .ref p13, .ref p14, .ref p15, .ref p16])), (p0, .inl (cL, 30, .inr (.inl (vp_updL (vp_updL f 0 302282208101) 1 1416787301)))), (p1, .inl (cI, 30, .inl (upd (upd g 0 0) 1 0)))] := hD
  refine lv_aload_n hx hb dX4_clear_21 rfl (lv_at hl 0 rfl) ?_
  refine lv_iconst (v := 0) hx hb dX4_clear_22 (by decide) ?_
  refine va_put (D := (dC, dI)) (ci := 7) (v := .int 0) (ty := (tyX4 4)) (C := RX4) (T := TX4) (N := 17) hx hb hu iuX4 tyX4 tyX4_ok nmX4 hown hK hP hD hS 0 rfl rfl 4 (by decide) (hu _ mG_295) (fun _ h9 => h9) rfl (by decide +kernel) (rfl) (rfl) (Nat.le_of_ble_eq_true rfl) dX4_clear_23 (fun H locs hP hD hS => ?_)
  have hP : va_P (dC, dI) vwCl [(pr, .inr (7, [.ref p0, .ref p1, .int (nI (1 + 1)), .ref p3, .int 0, .int fn, .int mn, .ref p7, .ref p8, .ref p9, .ref p10, .ref p11, .ref p12, .ref p13, .ref p14, .ref p15, .ref p16])), (p0, .inl (cL, 30, .inr (.inl (vp_updL (vp_updL f 0 302282208101) 1 1416787301)))), (p1, .inl (cI, 30, .inl (upd (upd g 0 0) 1 0)))] H := hP
  have hD : va_D A [(pr, .inr (7, [.ref p0, .ref p1, .int (nI (1 + 1)), .ref p3, .int 0, .int fn, .int mn, .ref p7, .ref p8, .ref p9, .ref p10, .ref p11, .ref p12, .ref p13, .ref p14, .ref p15, .ref p16])), (p0, .inl (cL, 30, .inr (.inl (vp_updL (vp_updL f 0 302282208101) 1 1416787301)))), (p1, .inl (cI, 30, .inl (upd (upd g 0 0) 1 0)))] := hD
  refine lv_aload_n hx hb dX4_clear_26 rfl (lv_at hl 0 rfl) ?_
  refine lv_iconst (v := 0) hx hb dX4_clear_27 (by decide) ?_
  refine va_put (D := (dC, dI)) (ci := 7) (v := .int 0) (ty := (tyX4 5)) (C := RX4) (T := TX4) (N := 17) hx hb hu iuX4 tyX4 tyX4_ok nmX4 hown hK hP hD hS 0 rfl rfl 5 (by decide) (hu _ mG_300) (fun _ h9 => h9) rfl (by decide +kernel) (rfl) (rfl) (Nat.le_of_ble_eq_true rfl) dX4_clear_28 (fun H locs hP hD hS => ?_)
  have hP : va_P (dC, dI) vwCl [(pr, .inr (7, [.ref p0, .ref p1, .int (nI (1 + 1)), .ref p3, .int 0, .int 0, .int mn, .ref p7, .ref p8, .ref p9, .ref p10, .ref p11, .ref p12, .ref p13, .ref p14, .ref p15, .ref p16])), (p0, .inl (cL, 30, .inr (.inl (vp_updL (vp_updL f 0 302282208101) 1 1416787301)))), (p1, .inl (cI, 30, .inl (upd (upd g 0 0) 1 0)))] H := hP
  have hD : va_D A [(pr, .inr (7, [.ref p0, .ref p1, .int (nI (1 + 1)), .ref p3, .int 0, .int 0, .int mn, .ref p7, .ref p8, .ref p9, .ref p10, .ref p11, .ref p12, .ref p13, .ref p14, .ref p15, .ref p16])), (p0, .inl (cL, 30, .inr (.inl (vp_updL (vp_updL f 0 302282208101) 1 1416787301)))), (p1, .inl (cI, 30, .inl (upd (upd g 0 0) 1 0)))] := hD
  refine lv_aload_n hx hb dX4_clear_31 rfl (lv_at hl 0 rfl) ?_
  refine lv_iconst (v := (-1)) hx hb dX4_clear_32 (by decide) ?_
  refine va_put (D := (dC, dI)) (ci := 7) (v := .int (-1)) (ty := (tyX4 6)) (C := RX4) (T := TX4) (N := 17) hx hb hu iuX4 tyX4 tyX4_ok nmX4 hown hK hP hD hS 0 rfl rfl 6 (by decide) (hu _ mG_304) (fun _ h9 => h9) rfl (by decide +kernel) (rfl) (rfl) (Nat.le_of_ble_eq_true rfl) dX4_clear_33 (fun H locs hP hD hS => ?_)
  have hP : va_P (dC, dI) vwCl [(pr, .inr (7, [.ref p0, .ref p1, .int (nI (1 + 1)), .ref p3, .int 0, .int 0, .int (-1), .ref p7, .ref p8, .ref p9, .ref p10, .ref p11, .ref p12, .ref p13, .ref p14, .ref p15, .ref p16])), (p0, .inl (cL, 30, .inr (.inl (vp_updL (vp_updL f 0 302282208101) 1 1416787301)))), (p1, .inl (cI, 30, .inl (upd (upd g 0 0) 1 0)))] H := hP
  have hD : va_D A [(pr, .inr (7, [.ref p0, .ref p1, .int (nI (1 + 1)), .ref p3, .int 0, .int 0, .int (-1), .ref p7, .ref p8, .ref p9, .ref p10, .ref p11, .ref p12, .ref p13, .ref p14, .ref p15, .ref p16])), (p0, .inl (cL, 30, .inr (.inl (vp_updL (vp_updL f 0 302282208101) 1 1416787301)))), (p1, .inl (cI, 30, .inl (upd (upd g 0 0) 1 0)))] := hD
  have hP9 : va_P (dC, dI) vwCl [(pr, .inr (7, [.ref p0, .ref p1, .int (nI 2), .ref p3, .int 0, .int 0, .int (-1), .ref p7, .ref p8, .ref p9, .ref p10, .ref p11, .ref p12, .ref p13, .ref p14, .ref p15, .ref p16])), (p0, .inl (cL, 30, .inr (.inl (vp_updL (vp_updL f 0 302282208101) 1 1416787301)))), (p1, .inl (cI, 30, .inl (upd (upd g 0 0) 1 0)))] H := by exact hP
  have hD9 : va_D A [(pr, .inr (7, [.ref p0, .ref p1, .int (nI 2), .ref p3, .int 0, .int 0, .int (-1), .ref p7, .ref p8, .ref p9, .ref p10, .ref p11, .ref p12, .ref p13, .ref p14, .ref p15, .ref p16])), (p0, .inl (cL, 30, .inr (.inl (vp_updL (vp_updL f 0 302282208101) 1 1416787301)))), (p1, .inl (cI, 30, .inl (upd (upd g 0 0) 1 0)))] := by exact hD
  have hK9 := hK.sub (tys' := [(cL, .long), (cI, .int)]) [0, 1] rfl
  exact W.vret hx hb hr (fun t ht hW => ⟨⟨(), rfl, trivial, by rw [ht]; exact hP9, va_K.moved hW.alike hK9, hD9⟩, hS.F ht⟩) hS.2.2 dX4_clear_36
set_option maxHeartbeats 4000000 in
set_option maxRecDepth 100000 in
/-- Reader.refuse(k) -/
theorem kX5_refuse (l : Launch) (dC : Nat → ClassId) (dI : Nat → Nat → Nat) (sz : Nat) (rd w rt rp rs : Nat) (rk rl ra ro rh : Int32) (tx : Nat) (at0 kd pl nu : Int32) (nm : Int64) (k : Int32) : Met l yX5_refuse (Cond.code yX5_refuse cX5_refuse 2 none :: uG) ({ frames := 1, cells := 0, slots := 0, locals := 20 }) (va_Pc [.ref rd, .int k] (fun U => U.heap.size = sz ∧ va_P (dC, dI) vwCl [(rd, .inr (8, [.ref w, .ref rt, .ref rp, .ref rs, .int rk, .int rl, .int ra, .int ro, .int rh])), (w, .inr (13, [.ref tx, .int at0, .int kd, .int pl, .int nu, .long nm]))] U.heap ∧ va_K (dC, dI) vwCl [] U ∧ va_D (fun _ => True) [(rd, .inr (8, [.ref w, .ref rt, .ref rp, .ref rs, .int rk, .int rl, .int ra, .int ro, .int rh])), (w, .inr (13, [.ref tx, .int at0, .int kd, .int pl, .int nu, .long nm]))])) (va_Qv (S := Unit) (fun _ => True) (fun _ t => va_P (dC, dI) vwCl [(rd, .inr (8, [.ref w, .ref rt, .ref rp, .ref rs, .int (if rk = 0 then k else rk), .int (if rk = 0 then pl else rl), .int ra, .int ro, .int rh])), (w, .inr (13, [.ref tx, .int at0, .int (if rk = 0 then 0 else kd), .int pl, .int nu, .long nm]))] t.heap ∧ va_K (dC, dI) vwCl [] t ∧ va_D (va_A [(rd, .inr (8, [.ref w, .ref rt, .ref rp, .ref rs, .int rk, .int rl, .int ra, .int ro, .int rh])), (w, .inr (13, [.ref tx, .int at0, .int kd, .int pl, .int nu, .long nm]))] sz) [(rd, .inr (8, [.ref w, .ref rt, .ref rp, .ref rs, .int (if rk = 0 then k else rk), .int (if rk = 0 then pl else rl), .int ra, .int ro, .int rh])), (w, .inr (13, [.ref tx, .int at0, .int (if rk = 0 then 0 else kd), .int pl, .int nu, .long nm]))]) (va_A [(rd, .inr (8, [.ref w, .ref rt, .ref rp, .ref rs, .int rk, .int rl, .int ra, .int ro, .int rh])), (w, .inr (13, [.ref tx, .int at0, .int kd, .int pl, .int nu, .long nm]))] sz)) 0 0 (va_A [(rd, .inr (8, [.ref w, .ref rt, .ref rp, .ref rs, .int rk, .int rl, .int ra, .int ro, .int rh])), (w, .inr (13, [.ref tx, .int at0, .int kd, .int pl, .int nu, .long nm]))] sz) := by
  refine Met.ofW (cc := cX5_refuse) (maxL := 2) (ret := none) (by decide) rfl ?_
  intro pG eV s m args below meth c s₁ B hml hv
  obtain ⟨rfl, hsz, hP, hK, hD0⟩ := hv
  have hx := B.exec
  have hb := B.bytes
  have hr := B.returns
  have hts := atoms_spec (ws := Cond.code yX5_refuse cX5_refuse 2 none :: uG) B.pre
  have hu := fun (w : Cond) (h : w ∈ uG) => hts w (List.mem_cons_of_mem _ h)
  have hown : s.vm.findClass RX5 = some m.cls := findClass_of_methodNamed B.named
  have hlocks := B.notSynchronized
  subst hsz
  have hD := hD0.self (sz := s.heap.size)
  generalize hAe : va_A [(rd, .inr (8, [.ref w, .ref rt, .ref rp, .ref rs, .int rk, .int rl, .int ra, .int ro, .int rh])), (w, .inr (13, [.ref tx, .int at0, .int kd, .int pl, .int nu, .long nm]))] s.heap.size = A at hD ⊢
  have hA : ∀ q : Nat, s.heap.size ≤ q → A q := fun q h => by rw [← hAe]; exact Or.inr h
  have hS : va_S A s.heap s.heap [] := va_S.rf
  have hP : va_P (dC, dI) vwCl [(rd, .inr (8, [.ref w, .ref rt, .ref rp, .ref rs, .int rk, .int rl, .int ra, .int ro, .int rh])), (w, .inr (13, [.ref tx, .int at0, .int kd, .int pl, .int nu, .long nm]))] s.heap := hP
  have hD : va_D A [(rd, .inr (8, [.ref w, .ref rt, .ref rp, .ref rs, .int rk, .int rl, .int ra, .int ro, .int rh])), (w, .inr (13, [.ref tx, .int at0, .int kd, .int pl, .int nu, .long nm]))] := hD
  have hl := lv_entry ([.ref rd, .int k]) (n := 2) (Nat.le_of_ble_eq_true rfl)
  rw [lg_entry_eq]
  generalize (lg_sl ([.ref rd, .int k]) ++ List.replicate (2 - (lg_sl ([.ref rd, .int k])).length) Slot.unset).toArray = ls at hl ⊢
  have hl : lv_has ls 2 [(0, .ref rd), (1, .int k)] := hl
  refine lv_aload_n hx hb dX5_refuse_0 rfl (lv_at hl 0 rfl) ?_
  refine va_get (D := (dC, dI)) (ci := 8) (v := .int rk) (C := RX5) (T := TX5) (N := 9) hx hb hu iuX5 hown hK hP 0 rfl rfl 4 (by decide) (hu _ mG_542) (fun _ h9 => h9) rfl dX5_refuse_1 ?_
  refine lv_if_ne (tgt := 30) hx hb dX5_refuse_4 (by decide) (fun c4 => ?_) (fun c4 => ?_)
  · have hP9 : va_P (dC, dI) vwCl [(rd, .inr (8, [.ref w, .ref rt, .ref rp, .ref rs, .int (if rk = 0 then k else rk), .int (if rk = 0 then pl else rl), .int ra, .int ro, .int rh])), (w, .inr (13, [.ref tx, .int at0, .int (if rk = 0 then 0 else kd), .int pl, .int nu, .long nm]))] s.heap := by simp only [if_neg c4]; exact hP
    have hD9 : va_D A [(rd, .inr (8, [.ref w, .ref rt, .ref rp, .ref rs, .int (if rk = 0 then k else rk), .int (if rk = 0 then pl else rl), .int ra, .int ro, .int rh])), (w, .inr (13, [.ref tx, .int at0, .int (if rk = 0 then 0 else kd), .int pl, .int nu, .long nm]))] := by simp only [if_neg c4]; exact hD
    have hK9 := hK.sub (tys' := []) [] rfl
    exact W.vret hx hb hr (fun t ht hW => ⟨⟨(), rfl, trivial, by rw [ht]; exact hP9, va_K.moved hW.alike hK9, hD9⟩, hS.F ht⟩) hS.2.2 dX5_refuse_30
  · refine lv_aload_n hx hb dX5_refuse_7 rfl (lv_at hl 0 rfl) ?_
    refine lv_iload_n hx hb dX5_refuse_8 rfl (lv_at hl 1 rfl) ?_
    refine va_put (D := (dC, dI)) (ci := 8) (v := .int k) (ty := (tyX5 4)) (C := RX5) (T := TX5) (N := 9) hx hb hu iuX5 tyX5 tyX5_ok nmX5 hown hK hP hD hS 0 rfl rfl 4 (by decide) (hu _ mG_542) (fun _ h9 => h9) rfl (by decide +kernel) (rfl) (rfl) (Nat.le_of_ble_eq_true rfl) dX5_refuse_9 (fun H locs hP hD hS => ?_)
    have hP : va_P (dC, dI) vwCl [(rd, .inr (8, [.ref w, .ref rt, .ref rp, .ref rs, .int k, .int rl, .int ra, .int ro, .int rh])), (w, .inr (13, [.ref tx, .int at0, .int kd, .int pl, .int nu, .long nm]))] H := hP
    have hD : va_D A [(rd, .inr (8, [.ref w, .ref rt, .ref rp, .ref rs, .int k, .int rl, .int ra, .int ro, .int rh])), (w, .inr (13, [.ref tx, .int at0, .int kd, .int pl, .int nu, .long nm]))] := hD
    refine lv_aload_n hx hb dX5_refuse_12 rfl (lv_at hl 0 rfl) ?_
    refine lv_aload_n hx hb dX5_refuse_13 rfl (lv_at hl 0 rfl) ?_
    refine va_get (D := (dC, dI)) (ci := 8) (v := .ref w) (C := RX5) (T := TX5) (N := 9) hx hb hu iuX5 hown hK hP 0 rfl rfl 0 (by decide) (hu _ mG_538) (fun _ h9 => h9) rfl dX5_refuse_14 ?_
    refine va_get (D := (dC, dI)) (ci := 13) (v := .int pl) (C := RX10) (T := TX10) (N := 6) hx hb hu iuX10 hown hK hP 1 rfl rfl 3 (by decide) (hu _ mG_519) (fun _ h9 => h9) rfl dX5_refuse_17 ?_
    refine va_put (D := (dC, dI)) (ci := 8) (v := .int pl) (ty := (tyX5 5)) (C := RX5) (T := TX5) (N := 9) hx hb hu iuX5 tyX5 tyX5_ok nmX5 hown hK hP hD hS 0 rfl rfl 5 (by decide) (hu _ mG_544) (fun _ h9 => h9) rfl (by decide +kernel) (rfl) (rfl) (Nat.le_of_ble_eq_true rfl) dX5_refuse_20 (fun H locs hP hD hS => ?_)
    have hP : va_P (dC, dI) vwCl [(rd, .inr (8, [.ref w, .ref rt, .ref rp, .ref rs, .int k, .int pl, .int ra, .int ro, .int rh])), (w, .inr (13, [.ref tx, .int at0, .int kd, .int pl, .int nu, .long nm]))] H := hP
    have hD : va_D A [(rd, .inr (8, [.ref w, .ref rt, .ref rp, .ref rs, .int k, .int pl, .int ra, .int ro, .int rh])), (w, .inr (13, [.ref tx, .int at0, .int kd, .int pl, .int nu, .long nm]))] := hD
    refine lv_aload_n hx hb dX5_refuse_23 rfl (lv_at hl 0 rfl) ?_
    refine va_get (D := (dC, dI)) (ci := 8) (v := .ref w) (C := RX5) (T := TX5) (N := 9) hx hb hu iuX5 hown hK hP 0 rfl rfl 0 (by decide) (hu _ mG_538) (fun _ h9 => h9) rfl dX5_refuse_24 ?_
    have hPc := hP.sub (ws' := [(w, .inr (13, [.ref tx, .int at0, .int kd, .int pl, .int nu, .long nm]))]) [1] rfl
    have hDc := hD.sub (ws' := [(w, .inr (13, [.ref tx, .int at0, .int kd, .int pl, .int nu, .long nm]))]) [1] (by decide) rfl
    have hKc := hK.sub (tys' := []) [] rfl
    have hFc := va_free (wc := [(w, .inr (13, [.ref tx, .int at0, .int kd, .int pl, .int nu, .long nm]))]) hD hS hA [1] rfl
    refine va_callv (va_runV (As := []) (rest := []) ⟨hx, hb, hml, hown, hu⟩ (kX10_stop l dC dI H.size w tx at0 kd pl nu nm) (cwV 0 hu (uG_V (fun _ h => h) mG_1066 mG_1063 mG_1064 mG_1065 mG_220) rfl rfl rfl (by decide +kernel) ⟨Nat.le_of_ble_eq_true rfl, Nat.le_of_ble_eq_true rfl⟩) ⟨fun a U g mk q => by obtain ⟨q0, q1, qP, qK, qD⟩ := q; exact ⟨q0, q1, qP, va_K.moved (u := U) (U := U.calling g mk a) (Vm.Alike.refl U.vm) qK, qD⟩, va_recv hKc hPc (ci := 13) (q0 := 0) rfl rfl, fun U hU hW => ⟨rfl, by rw [hU], by rw [hU]; exact hPc, va_K.moved hW.alike hKc, hDc.weaken (fun _ _ _ _ => trivial)⟩⟩ rfl rfl hl.1 rfl (lv_room (Nat.le_of_ble_eq_true rfl)) dX5_refuse_27 ⟨Nat.le_of_ble_eq_true rfl, Nat.le_of_ble_eq_true rfl⟩) hS (fun q _ h => hFc q h) hFc (fun u t H1 locs ht hvm hw hB hz1 hk1 hS => ?_)
    obtain ⟨hP1, hK1, hD1⟩ := hB
    rw [ht] at hP1
    obtain ⟨hP, hD⟩ := va_join (wr := [(rd, .inr (8, [.ref w, .ref rt, .ref rp, .ref rs, .int k, .int pl, .int ra, .int ro, .int rh]))]) (w1 := [(w, .inr (13, [.ref tx, .int at0, .int 0, .int pl, .int nu, .long nm]))]) hP hD [1] [0] rfl rfl (by decide) (by decide) hk1 hFc hP1 hD1
    generalize H1 = H at hP hS ⊢
    have hP : va_P (dC, dI) vwCl [(rd, .inr (8, [.ref w, .ref rt, .ref rp, .ref rs, .int k, .int pl, .int ra, .int ro, .int rh])), (w, .inr (13, [.ref tx, .int at0, .int 0, .int pl, .int nu, .long nm]))] H := hP
    have hD : va_D A [(rd, .inr (8, [.ref w, .ref rt, .ref rp, .ref rs, .int k, .int pl, .int ra, .int ro, .int rh])), (w, .inr (13, [.ref tx, .int at0, .int 0, .int pl, .int nu, .long nm]))] := hD
    have hP9 : va_P (dC, dI) vwCl [(rd, .inr (8, [.ref w, .ref rt, .ref rp, .ref rs, .int (if rk = 0 then k else rk), .int (if rk = 0 then pl else rl), .int ra, .int ro, .int rh])), (w, .inr (13, [.ref tx, .int at0, .int (if rk = 0 then 0 else kd), .int pl, .int nu, .long nm]))] H := by simp only [if_pos c4]; exact hP
    have hD9 : va_D A [(rd, .inr (8, [.ref w, .ref rt, .ref rp, .ref rs, .int (if rk = 0 then k else rk), .int (if rk = 0 then pl else rl), .int ra, .int ro, .int rh])), (w, .inr (13, [.ref tx, .int at0, .int (if rk = 0 then 0 else kd), .int pl, .int nu, .long nm]))] := by simp only [if_pos c4]; exact hD
    have hK9 := hK.sub (tys' := []) [] rfl
    exact W.vret hx hb hr (fun t ht hW => ⟨⟨(), rfl, trivial, by rw [ht]; exact hP9, va_K.moved hW.alike hK9, hD9⟩, hS.F ht⟩) hS.2.2 dX5_refuse_30
