theorem uc_IAE : Cond.castable "java/lang/IllegalArgumentException" "java/lang/IllegalArgumentException" ∈ uB := List.mem_filter.mpr ⟨List.mem_of_getElem? (i := 791) (by decide +kernel), rfl⟩
theorem uc_UOE : Cond.castable "java/lang/UnsupportedOperationException" "java/lang/UnsupportedOperationException" ∈ uB := List.mem_filter.mpr ⟨List.mem_of_getElem? (i := 857) (by decide +kernel), rfl⟩
theorem uc_ISE : Cond.castable "java/lang/IllegalStateException" "java/lang/IllegalStateException" ∈ uB := List.mem_filter.mpr ⟨List.mem_of_getElem? (i := 1629) (by decide +kernel), rfl⟩
theorem uc_IOB : Cond.castable "java/lang/IndexOutOfBoundsException" "java/lang/IndexOutOfBoundsException" ∈ uB := List.mem_filter.mpr ⟨List.mem_of_getElem? (i := 1745) (by decide +kernel), rfl⟩
theorem mG_214 : Cond.initialized "LazyForge" ∈ uG := uG_at 214 (by decide +kernel) (by decide +kernel)
theorem mG_783 : Cond.classLink "LazyForgeLaw" 13 "java/lang/IllegalArgumentException" ∈ uG := uG_at 783 (by decide +kernel) (by decide +kernel)
theorem mG_874 : Cond.methodLink "LazyForgeLaw" 17 yX11_end ∈ uG := uG_at 874 (by decide +kernel) (by decide +kernel)
theorem mG_875 : Cond.instanceMethod yX11_end ∈ uG := uG_at 875 (by decide +kernel) (by decide +kernel)
theorem mG_876 : Cond.selects "LazyForge" yX11_end yX11_end ∈ uG := uG_at 876 (by decide +kernel) (by decide +kernel)
theorem mG_877 : Cond.code yX11_end prog_1_method_3_code 2 none ∈ uG := uG_at 877 (by decide +kernel) (by decide +kernel)
theorem dL_end_0 : decode cL_end 0 = .ok (.aload_n 0, 1) := by decide +kernel
theorem dL_end_1 : decode cL_end 1 = .ok (.iload_n 1, 1) := by decide +kernel
theorem dL_end_2 : decode cL_end 2 = .ok (.invokevirtual 17, 3) := by decide +kernel
theorem dL_end_5 : decode cL_end 5 = .ok (.goto 6, 3) := by decide +kernel
theorem dL_end_8 : decode cL_end 8 = .ok (.astore_n 2, 1) := by decide +kernel
theorem dL_end_9 : decode cL_end 9 = .ok (.iconst 1, 1) := by decide +kernel
theorem dL_end_10 : decode cL_end 10 = .ok (.ireturn, 1) := by decide +kernel
theorem dL_end_11 : decode cL_end 11 = .ok (.iconst 0, 1) := by decide +kernel
theorem dL_end_12 : decode cL_end 12 = .ok (.ireturn, 1) := by decide +kernel
set_option maxHeartbeats 4000000 in
set_option maxRecDepth 100000 in
/-- the law's L_end -/
theorem kL_end (l : Launch) (dC : Nat → ClassId) (dI : Nat → Nat → Nat) (sz : Nat) (hlt : l.stackTraces = false) (x tx pr rd li de sc ma ou dr : Nat) (st fk fp pe ce le : Int32) (r n : Nat) (lo k : Int32) : Met l yL_end (Cond.codeWith yL_end cL_end 3 (some .int) [(0, 5, 8, 13)] :: uG) ({ frames := 7, cells := 1, slots := 6, locals := 111 }) (va_Pc [.ref x, .int k] (fun U => U.heap.size = sz ∧ va_P (dC, dI) vwCl [(x, .inr (14, [.ref tx, .ref pr, .ref rd, .ref li, .ref de, .ref sc, .ref ma, .ref ou, .ref dr, .int st, .int fk, .int fp, .int pe, .int ce, .int le])), (tx, .inr (11, [.ref r, .int (nI n), .int lo]))] U.heap ∧ va_K (dC, dI) vwCl [] U ∧ va_D (fun _ => True) [(x, .inr (14, [.ref tx, .ref pr, .ref rd, .ref li, .ref de, .ref sc, .ref ma, .ref ou, .ref dr, .int st, .int fk, .int fp, .int pe, .int ce, .int le])), (tx, .inr (11, [.ref r, .int (nI n), .int lo]))] ∧ uXw U ∧ uZ (va_A [(x, .inr (14, [.ref tx, .ref pr, .ref rd, .ref li, .ref de, .ref sc, .ref ma, .ref ou, .ref dr, .int st, .int fk, .int fp, .int pe, .int ce, .int le])), (tx, .inr (11, [.ref r, .int (nI n), .int lo]))] sz) U U.heap ∧ uNc U)) (va_Qi (S := Unit) (fun r _ => r = (th_end n k)) (fun _ t => va_P (dC, dI) vwCl [(x, .inr (14, [.ref tx, .ref pr, .ref rd, .ref li, .ref de, .ref sc, .ref ma, .ref ou, .ref dr, .int st, .int fk, .int fp, .int pe, .int ce, .int le])), (tx, .inr (11, [.ref r, .int (if th_end n k = 0 then k else nI n), .int lo]))] t.heap ∧ va_K (dC, dI) vwCl [] t ∧ va_D (va_A [(x, .inr (14, [.ref tx, .ref pr, .ref rd, .ref li, .ref de, .ref sc, .ref ma, .ref ou, .ref dr, .int st, .int fk, .int fp, .int pe, .int ce, .int le])), (tx, .inr (11, [.ref r, .int (nI n), .int lo]))] sz) [(x, .inr (14, [.ref tx, .ref pr, .ref rd, .ref li, .ref de, .ref sc, .ref ma, .ref ou, .ref dr, .int st, .int fk, .int fp, .int pe, .int ce, .int le])), (tx, .inr (11, [.ref r, .int (if th_end n k = 0 then k else nI n), .int lo]))]) (va_A [(x, .inr (14, [.ref tx, .ref pr, .ref rd, .ref li, .ref de, .ref sc, .ref ma, .ref ou, .ref dr, .int st, .int fk, .int fp, .int pe, .int ce, .int le])), (tx, .inr (11, [.ref r, .int (nI n), .int lo]))] sz)) 1 6 (va_A [(x, .inr (14, [.ref tx, .ref pr, .ref rd, .ref li, .ref de, .ref sc, .ref ma, .ref ou, .ref dr, .int st, .int fk, .int fp, .int pe, .int ce, .int le])), (tx, .inr (11, [.ref r, .int (nI n), .int lo]))] sz) := by
  refine ux_ofWH (cc := cL_end) (maxL := 3) (ret := (some .int)) (hh := [(0, 5, 8, 13)]) (by decide) rfl ?_
  intro p e s m args below meth c s₁ B hml hv
  obtain ⟨rfl, hsz, hP, hK, hD0, hXw, hZ, hNc⟩ := hv
  have hx := B.exec
  have hb := B.bytes
  have hr := B.returns
  have hts := atoms_spec (ws := Cond.codeWith yL_end cL_end 3 (some .int) [(0, 5, 8, 13)] :: uG) B.pre
  have htab := vx_table (x := yL_end) B (hts _ List.mem_cons_self)
  have hu := fun (w : Cond) (h : w ∈ uG) => hts w (List.mem_cons_of_mem _ h)
  have hown : s.vm.findClass RL = some m.cls := findClass_of_methodNamed B.named
  have hlocks := B.notSynchronized
  subst hsz
  have hD := hD0.self (sz := s.heap.size)
  generalize hAe : va_A [(x, .inr (14, [.ref tx, .ref pr, .ref rd, .ref li, .ref de, .ref sc, .ref ma, .ref ou, .ref dr, .int st, .int fk, .int fp, .int pe, .int ce, .int le])), (tx, .inr (11, [.ref r, .int (nI n), .int lo]))] s.heap.size = A at hD hZ ⊢
  have hA : ∀ q : Nat, s.heap.size ≤ q → A q := fun q h => by rw [← hAe]; exact Or.inr h
  have hS : va_S A s.heap s.heap [] := va_S.rf
  have hP : va_P (dC, dI) vwCl [(x, .inr (14, [.ref tx, .ref pr, .ref rd, .ref li, .ref de, .ref sc, .ref ma, .ref ou, .ref dr, .int st, .int fk, .int fp, .int pe, .int ce, .int le])), (tx, .inr (11, [.ref r, .int (nI n), .int lo]))] s.heap := hP
  have hD : va_D A [(x, .inr (14, [.ref tx, .ref pr, .ref rd, .ref li, .ref de, .ref sc, .ref ma, .ref ou, .ref dr, .int st, .int fk, .int fp, .int pe, .int ce, .int le])), (tx, .inr (11, [.ref r, .int (nI n), .int lo]))] := hD
  have hl := lv_entry ([.ref x, .int k]) (n := 3) (Nat.le_of_ble_eq_true rfl)
  rw [lg_entry_eq]
  generalize (lg_sl ([.ref x, .int k]) ++ List.replicate (3 - (lg_sl ([.ref x, .int k])).length) Slot.unset).toArray = ls at hl ⊢
  have hl : lv_has ls 3 [(0, .ref x), (1, .int k)] := hl
  refine lv_aload_n hx hb dL_end_0 rfl (lv_at hl 0 rfl) ?_
  refine lv_iload_n hx hb dL_end_1 rfl (lv_at hl 1 rfl) ?_
  have hPc := hP.sub (ws' := [(x, .inr (14, [.ref tx, .ref pr, .ref rd, .ref li, .ref de, .ref sc, .ref ma, .ref ou, .ref dr, .int st, .int fk, .int fp, .int pe, .int ce, .int le])), (tx, .inr (11, [.ref r, .int (nI n), .int lo]))]) [0, 1] rfl
  have hDc := hD.sub (ws' := [(x, .inr (14, [.ref tx, .ref pr, .ref rd, .ref li, .ref de, .ref sc, .ref ma, .ref ou, .ref dr, .int st, .int fk, .int fp, .int pe, .int ce, .int le])), (tx, .inr (11, [.ref r, .int (nI n), .int lo]))]) [0, 1] (by decide) rfl
  have hKc := hK.sub (tys' := []) [] rfl
  have hFc := va_free (wc := [(x, .inr (14, [.ref tx, .ref pr, .ref rd, .ref li, .ref de, .ref sc, .ref ma, .ref ou, .ref dr, .int st, .int fk, .int fp, .int pe, .int ce, .int le])), (tx, .inr (11, [.ref r, .int (nI n), .int lo]))]) hD hS hA [0, 1] rfl
  refine vx_callv (vx_runV (As := [.int k]) (rest := []) ⟨hx, hb, hml, hown, hu⟩ (kX11_end l dC dI s.heap.size hlt x tx pr rd li de sc ma ou dr st fk fp pe ce le r n lo k) (cwV 1 hu (uG_V (fun _ h => h) mG_877 mG_874 mG_875 mG_876 mG_214) rfl rfl rfl (by decide +kernel) ⟨Nat.le_of_ble_eq_true rfl, Nat.le_of_ble_eq_true rfl⟩) ⟨fun a U g mk q => by obtain ⟨q0, q1, qP, qK, qD, qX, qZ⟩ := q; exact ⟨q0, q1, qP, va_K.moved (u := U) (U := U.calling g mk a) (Vm.Alike.refl U.vm) qK, qD, uXw.same (u := U) (U := U.calling g mk a) rfl qX, uZ.to (U' := U.calling g mk a) (H' := (U.calling g mk a).heap) qZ (Vm.Alike.refl U.vm) (fun _ _ _ => rfl) (fun _ h => h)⟩, va_recv hKc hPc (ci := 14) (q0 := 0) rfl rfl, fun U hU hW => ⟨rfl, by rw [hU], by rw [hU]; exact hPc, va_K.moved hW.alike hKc, hDc.weaken (fun _ _ _ _ => trivial), hXw.warm hW, hZ.to hW.alike (fun a h1 h2 => (congrArg (fun (z : Heap) => z[a]?) hU).trans (hS.2.1 a h1 h2)) hFc⟩⟩ rfl rfl hl.1 rfl (lv_room (Nat.le_of_ble_eq_true rfl)) dL_end_2 ⟨Nat.le_of_ble_eq_true rfl, Nat.le_of_ble_eq_true rfl⟩) hS (fun q _ h => hFc q h) hFc (fun q _ h => hFc q h) (fun E cE9 q9 u t H1 locs ht hvm hpu hBX hz1 hk1 hS hce hcv hcl => ?_) (fun u t H1 locs ht hvm hw hB hz1 hk1 hS => ?_)
  · obtain ⟨hPX, hP1, hK1, hD1⟩ := hBX
    rw [ht] at hP1
    obtain ⟨hP, hD⟩ := va_join (wr := []) (w1 := [(x, .inr (14, [.ref tx, .ref pr, .ref rd, .ref li, .ref de, .ref sc, .ref ma, .ref ou, .ref dr, .int st, .int fk, .int fp, .int pe, .int ce, .int le])), (tx, .inr (11, [.ref r, .int (nI n), .int lo]))]) hP hD [0, 1] [] rfl rfl (by decide) (by decide) hk1 hFc hP1 hD1
    generalize H1 = H at hP hS hce ⊢
    have hP : va_P (dC, dI) vwCl [(x, .inr (14, [.ref tx, .ref pr, .ref rd, .ref li, .ref de, .ref sc, .ref ma, .ref ou, .ref dr, .int st, .int fk, .int fp, .int pe, .int ce, .int le])), (tx, .inr (11, [.ref r, .int (nI n), .int lo]))] H := hP
    have hD : va_D A [(x, .inr (14, [.ref tx, .ref pr, .ref rd, .ref li, .ref de, .ref sc, .ref ma, .ref ou, .ref dr, .int st, .int fk, .int fp, .int pe, .int ce, .int le])), (tx, .inr (11, [.ref r, .int (nI n), .int lo]))] := hD
    obtain ⟨rfl, hc⟩ := hPX
    refine vx_catch (own := RL) (name := "java/lang/IllegalArgumentException") hown [] ⟨0, 5, 8, 13⟩ [] (htab.trans rfl) (fun z hz => nomatch hz) (by decide) (by decide) (hu _ mG_783) (va_Nw.use rfl (hXw _ uc_IAE)) hce hcv hcl ?_
    refine W.eq (g2 := F0 m 8 ls [.ref q9]) rfl ?_
    refine lv_astore_n (lv' := [(2, .ref q9), (0, .ref x), (1, .int k)]) hx hb dL_end_8 rfl hl (by decide) rfl (fun ls hl => ?_)
    refine lv_iconst (v := 1) hx hb dL_end_9 (by decide) ?_
    have e9 : (th_end n k) = 1 := by unfold th_end; rw [if_pos hc]
    have hP9 : va_P (dC, dI) vwCl [(x, .inr (14, [.ref tx, .ref pr, .ref rd, .ref li, .ref de, .ref sc, .ref ma, .ref ou, .ref dr, .int st, .int fk, .int fp, .int pe, .int ce, .int le])), (tx, .inr (11, [.ref r, .int (if th_end n k = 0 then k else nI n), .int lo]))] H := by simp only [e9, if_neg (show ¬ (1 : Int32) = 0 by decide)]; exact hP
    have hD9 : va_D A [(x, .inr (14, [.ref tx, .ref pr, .ref rd, .ref li, .ref de, .ref sc, .ref ma, .ref ou, .ref dr, .int st, .int fk, .int fp, .int pe, .int ce, .int le])), (tx, .inr (11, [.ref r, .int (if th_end n k = 0 then k else nI n), .int lo]))] := by simp only [e9, if_neg (show ¬ (1 : Int32) = 0 by decide)]; exact hD
    exact W.iret (v := 1) hx hb hr (fun t ht hW => ⟨⟨1, (), rfl, e9.symm, by rw [ht]; exact hP9, va_K.moved hW.alike hK, hD9⟩, hS.F ht⟩) hS.2.2 dL_end_10
  · obtain ⟨hP1, hK1, hD1⟩ := hB
    rw [ht] at hP1
    obtain ⟨hP, hD⟩ := va_join (wr := []) (w1 := [(x, .inr (14, [.ref tx, .ref pr, .ref rd, .ref li, .ref de, .ref sc, .ref ma, .ref ou, .ref dr, .int st, .int fk, .int fp, .int pe, .int ce, .int le])), (tx, .inr (11, [.ref r, .int k, .int lo]))]) hP hD [0, 1] [] rfl rfl (by decide) (by decide) hk1 hFc hP1 hD1
    generalize H1 = H at hP hS ⊢
    have hP : va_P (dC, dI) vwCl [(x, .inr (14, [.ref tx, .ref pr, .ref rd, .ref li, .ref de, .ref sc, .ref ma, .ref ou, .ref dr, .int st, .int fk, .int fp, .int pe, .int ce, .int le])), (tx, .inr (11, [.ref r, .int k, .int lo]))] H := hP
    have hD : va_D A [(x, .inr (14, [.ref tx, .ref pr, .ref rd, .ref li, .ref de, .ref sc, .ref ma, .ref ou, .ref dr, .int st, .int fk, .int fp, .int pe, .int ce, .int le])), (tx, .inr (11, [.ref r, .int k, .int lo]))] := hD
    refine lv_goto (tgt := 11) hx hb dL_end_5 (by decide) ?_
    refine lv_iconst (v := 0) hx hb dL_end_11 (by decide) ?_
    have e9 : (th_end n k) = 0 := by simp [th_end, hw.1, hw.2]
    have hP9 : va_P (dC, dI) vwCl [(x, .inr (14, [.ref tx, .ref pr, .ref rd, .ref li, .ref de, .ref sc, .ref ma, .ref ou, .ref dr, .int st, .int fk, .int fp, .int pe, .int ce, .int le])), (tx, .inr (11, [.ref r, .int (if th_end n k = 0 then k else nI n), .int lo]))] H := by simp only [e9, if_pos]; exact hP
    have hD9 : va_D A [(x, .inr (14, [.ref tx, .ref pr, .ref rd, .ref li, .ref de, .ref sc, .ref ma, .ref ou, .ref dr, .int st, .int fk, .int fp, .int pe, .int ce, .int le])), (tx, .inr (11, [.ref r, .int (if th_end n k = 0 then k else nI n), .int lo]))] := by simp only [e9, if_pos]; exact hD
    exact W.iret (v := 0) hx hb hr (fun t ht hW => ⟨⟨0, (), rfl, e9.symm, by rw [ht]; exact hP9, va_K.moved hW.alike hK, hD9⟩, hS.F ht⟩) hS.2.2 dL_end_12
