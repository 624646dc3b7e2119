theorem mG_265 : Cond.fieldLink "LazyForge$Words" 57 "LazyForge$Signs" "count" "I" ∈ uG := uG_at 265 (by decide +kernel) (by decide +kernel)
theorem mG_516 : Cond.fieldLink "LazyForge$Words" 15 "LazyForge$Words" "at" "I" ∈ uG := uG_at 516 (by decide +kernel) (by decide +kernel)
theorem mG_517 : Cond.fieldLink "LazyForge$Words" 19 "LazyForge$Words" "kind" "I" ∈ uG := uG_at 517 (by decide +kernel) (by decide +kernel)
theorem mG_523 : Cond.fieldLink "LazyForge$Words" 60 "LazyForge$Words" "name" "J" ∈ uG := uG_at 523 (by decide +kernel) (by decide +kernel)
theorem mG_926 : Cond.methodLink "LazyForge$Words" 31 yX8_signAt ∈ uG := uG_at 926 (by decide +kernel) (by decide +kernel)
theorem mG_947 : Cond.constantLong "LazyForge$Words" 68 1684108385 ∈ uG := uG_at 947 (by decide +kernel) (by decide +kernel)
theorem mG_948 : Cond.constantLong "LazyForge$Words" 70 7103860 ∈ uG := uG_at 948 (by decide +kernel) (by decide +kernel)
theorem mG_949 : Cond.constantLong "LazyForge$Words" 72 26990 ∈ uG := uG_at 949 (by decide +kernel) (by decide +kernel)
theorem mG_950 : Cond.constantLong "LazyForge$Words" 74 1667330917 ∈ uG := uG_at 950 (by decide +kernel) (by decide +kernel)
theorem mG_951 : Cond.constantLong "LazyForge$Words" 76 28518 ∈ uG := uG_at 951 (by decide +kernel) (by decide +kernel)
theorem mG_952 : Cond.constantLong "LazyForge$Words" 78 1717660012 ∈ uG := uG_at 952 (by decide +kernel) (by decide +kernel)
theorem dX10_isDigit_0 : decode cX10_isDigit 0 = .ok (.iload_n 0, 1) := by decide +kernel
theorem dX10_isDigit_1 : decode cX10_isDigit 1 = .ok (.bipush 48, 2) := by decide +kernel
theorem dX10_isDigit_3 : decode cX10_isDigit 3 = .ok (.if_icmp .lt 13, 3) := by decide +kernel
theorem dX10_isDigit_6 : decode cX10_isDigit 6 = .ok (.iload_n 0, 1) := by decide +kernel
theorem dX10_isDigit_7 : decode cX10_isDigit 7 = .ok (.bipush 57, 2) := by decide +kernel
theorem dX10_isDigit_9 : decode cX10_isDigit 9 = .ok (.if_icmp .gt 7, 3) := by decide +kernel
theorem dX10_isDigit_12 : decode cX10_isDigit 12 = .ok (.iconst 1, 1) := by decide +kernel
theorem dX10_isDigit_13 : decode cX10_isDigit 13 = .ok (.goto 4, 3) := by decide +kernel
theorem dX10_isDigit_16 : decode cX10_isDigit 16 = .ok (.iconst 0, 1) := by decide +kernel
theorem dX10_isDigit_17 : decode cX10_isDigit 17 = .ok (.ireturn, 1) := by decide +kernel
theorem dX10_isGreat_0 : decode cX10_isGreat 0 = .ok (.iload_n 0, 1) := by decide +kernel
theorem dX10_isGreat_1 : decode cX10_isGreat 1 = .ok (.bipush 65, 2) := by decide +kernel
theorem dX10_isGreat_3 : decode cX10_isGreat 3 = .ok (.if_icmp .lt 13, 3) := by decide +kernel
theorem dX10_isGreat_6 : decode cX10_isGreat 6 = .ok (.iload_n 0, 1) := by decide +kernel
theorem dX10_isGreat_7 : decode cX10_isGreat 7 = .ok (.bipush 90, 2) := by decide +kernel
theorem dX10_isGreat_9 : decode cX10_isGreat 9 = .ok (.if_icmp .gt 7, 3) := by decide +kernel
theorem dX10_isGreat_12 : decode cX10_isGreat 12 = .ok (.iconst 1, 1) := by decide +kernel
theorem dX10_isGreat_13 : decode cX10_isGreat 13 = .ok (.goto 4, 3) := by decide +kernel
theorem dX10_isGreat_16 : decode cX10_isGreat 16 = .ok (.iconst 0, 1) := by decide +kernel
theorem dX10_isGreat_17 : decode cX10_isGreat 17 = .ok (.ireturn, 1) := by decide +kernel
theorem dX10_isSmall_0 : decode cX10_isSmall 0 = .ok (.iload_n 0, 1) := by decide +kernel
theorem dX10_isSmall_1 : decode cX10_isSmall 1 = .ok (.bipush 97, 2) := by decide +kernel
theorem dX10_isSmall_3 : decode cX10_isSmall 3 = .ok (.if_icmp .lt 13, 3) := by decide +kernel
theorem dX10_isSmall_6 : decode cX10_isSmall 6 = .ok (.iload_n 0, 1) := by decide +kernel
theorem dX10_isSmall_7 : decode cX10_isSmall 7 = .ok (.bipush 122, 2) := by decide +kernel
theorem dX10_isSmall_9 : decode cX10_isSmall 9 = .ok (.if_icmp .gt 7, 3) := by decide +kernel
theorem dX10_isSmall_12 : decode cX10_isSmall 12 = .ok (.iconst 1, 1) := by decide +kernel
theorem dX10_isSmall_13 : decode cX10_isSmall 13 = .ok (.goto 4, 3) := by decide +kernel
theorem dX10_isSmall_16 : decode cX10_isSmall 16 = .ok (.iconst 0, 1) := by decide +kernel
theorem dX10_isSmall_17 : decode cX10_isSmall 17 = .ok (.ireturn, 1) := by decide +kernel
theorem dX10_kindOfName_0 : decode cX10_kindOfName 0 = .ok (.aload_n 0, 1) := by decide +kernel
theorem dX10_kindOfName_1 : decode cX10_kindOfName 1 = .ok (.getfield 60, 3) := by decide +kernel
theorem dX10_kindOfName_4 : decode cX10_kindOfName 4 = .ok (.ldc2_w 68, 3) := by decide +kernel
theorem dX10_kindOfName_7 : decode cX10_kindOfName 7 = .ok (.lcmp, 1) := by decide +kernel
theorem dX10_kindOfName_8 : decode cX10_kindOfName 8 = .ok (.ifCond .ne 6, 3) := by decide +kernel
theorem dX10_kindOfName_11 : decode cX10_kindOfName 11 = .ok (.bipush 6, 2) := by decide +kernel
theorem dX10_kindOfName_13 : decode cX10_kindOfName 13 = .ok (.ireturn, 1) := by decide +kernel
theorem dX10_kindOfName_14 : decode cX10_kindOfName 14 = .ok (.aload_n 0, 1) := by decide +kernel
theorem dX10_kindOfName_15 : decode cX10_kindOfName 15 = .ok (.getfield 60, 3) := by decide +kernel
theorem dX10_kindOfName_18 : decode cX10_kindOfName 18 = .ok (.ldc2_w 70, 3) := by decide +kernel
theorem dX10_kindOfName_21 : decode cX10_kindOfName 21 = .ok (.lcmp, 1) := by decide +kernel
theorem dX10_kindOfName_22 : decode cX10_kindOfName 22 = .ok (.ifCond .ne 6, 3) := by decide +kernel
theorem dX10_kindOfName_25 : decode cX10_kindOfName 25 = .ok (.bipush 7, 2) := by decide +kernel
theorem dX10_kindOfName_27 : decode cX10_kindOfName 27 = .ok (.ireturn, 1) := by decide +kernel
theorem dX10_kindOfName_28 : decode cX10_kindOfName 28 = .ok (.aload_n 0, 1) := by decide +kernel
theorem dX10_kindOfName_29 : decode cX10_kindOfName 29 = .ok (.getfield 60, 3) := by decide +kernel
theorem dX10_kindOfName_32 : decode cX10_kindOfName 32 = .ok (.ldc2_w 72, 3) := by decide +kernel
theorem dX10_kindOfName_35 : decode cX10_kindOfName 35 = .ok (.lcmp, 1) := by decide +kernel
theorem dX10_kindOfName_36 : decode cX10_kindOfName 36 = .ok (.ifCond .ne 6, 3) := by decide +kernel
theorem dX10_kindOfName_39 : decode cX10_kindOfName 39 = .ok (.bipush 8, 2) := by decide +kernel
theorem dX10_kindOfName_41 : decode cX10_kindOfName 41 = .ok (.ireturn, 1) := by decide +kernel
theorem dX10_kindOfName_42 : decode cX10_kindOfName 42 = .ok (.aload_n 0, 1) := by decide +kernel
theorem dX10_kindOfName_43 : decode cX10_kindOfName 43 = .ok (.getfield 60, 3) := by decide +kernel
theorem dX10_kindOfName_46 : decode cX10_kindOfName 46 = .ok (.ldc2_w 74, 3) := by decide +kernel
theorem dX10_kindOfName_49 : decode cX10_kindOfName 49 = .ok (.lcmp, 1) := by decide +kernel
theorem dX10_kindOfName_50 : decode cX10_kindOfName 50 = .ok (.ifCond .ne 6, 3) := by decide +kernel
theorem dX10_kindOfName_53 : decode cX10_kindOfName 53 = .ok (.bipush 9, 2) := by decide +kernel
theorem dX10_kindOfName_55 : decode cX10_kindOfName 55 = .ok (.ireturn, 1) := by decide +kernel
theorem dX10_kindOfName_56 : decode cX10_kindOfName 56 = .ok (.aload_n 0, 1) := by decide +kernel
theorem dX10_kindOfName_57 : decode cX10_kindOfName 57 = .ok (.getfield 60, 3) := by decide +kernel
theorem dX10_kindOfName_60 : decode cX10_kindOfName 60 = .ok (.ldc2_w 76, 3) := by decide +kernel
theorem dX10_kindOfName_63 : decode cX10_kindOfName 63 = .ok (.lcmp, 1) := by decide +kernel
theorem dX10_kindOfName_64 : decode cX10_kindOfName 64 = .ok (.ifCond .ne 6, 3) := by decide +kernel
theorem dX10_kindOfName_67 : decode cX10_kindOfName 67 = .ok (.bipush 10, 2) := by decide +kernel
theorem dX10_kindOfName_69 : decode cX10_kindOfName 69 = .ok (.ireturn, 1) := by decide +kernel
theorem dX10_kindOfName_70 : decode cX10_kindOfName 70 = .ok (.aload_n 0, 1) := by decide +kernel
theorem dX10_kindOfName_71 : decode cX10_kindOfName 71 = .ok (.getfield 60, 3) := by decide +kernel
theorem dX10_kindOfName_74 : decode cX10_kindOfName 74 = .ok (.ldc2_w 78, 3) := by decide +kernel
theorem dX10_kindOfName_77 : decode cX10_kindOfName 77 = .ok (.lcmp, 1) := by decide +kernel
theorem dX10_kindOfName_78 : decode cX10_kindOfName 78 = .ok (.ifCond .ne 8, 3) := by decide +kernel
theorem dX10_kindOfName_81 : decode cX10_kindOfName 81 = .ok (.bipush 11, 2) := by decide +kernel
theorem dX10_kindOfName_83 : decode cX10_kindOfName 83 = .ok (.goto 4, 3) := by decide +kernel
theorem dX10_kindOfName_86 : decode cX10_kindOfName 86 = .ok (.iconst 3, 1) := by decide +kernel
theorem dX10_kindOfName_87 : decode cX10_kindOfName 87 = .ok (.ireturn, 1) := by decide +kernel
theorem dX10_passBlanks_0 : decode cX10_passBlanks 0 = .ok (.iconst 0, 1) := by decide +kernel
theorem dX10_passBlanks_1 : decode cX10_passBlanks 1 = .ok (.istore_n 1, 1) := by decide +kernel
theorem dX10_passBlanks_2 : decode cX10_passBlanks 2 = .ok (.aload_n 0, 1) := by decide +kernel
theorem dX10_passBlanks_3 : decode cX10_passBlanks 3 = .ok (.getfield 15, 3) := by decide +kernel
theorem dX10_passBlanks_6 : decode cX10_passBlanks 6 = .ok (.aload_n 0, 1) := by decide +kernel
theorem dX10_passBlanks_7 : decode cX10_passBlanks 7 = .ok (.getfield 9, 3) := by decide +kernel
theorem dX10_passBlanks_10 : decode cX10_passBlanks 10 = .ok (.getfield 57, 3) := by decide +kernel
theorem dX10_passBlanks_13 : decode cX10_passBlanks 13 = .ok (.if_icmp .ge 61, 3) := by decide +kernel
theorem dX10_passBlanks_16 : decode cX10_passBlanks 16 = .ok (.aload_n 0, 1) := by decide +kernel
theorem dX10_passBlanks_17 : decode cX10_passBlanks 17 = .ok (.getfield 9, 3) := by decide +kernel
theorem dX10_passBlanks_20 : decode cX10_passBlanks 20 = .ok (.aload_n 0, 1) := by decide +kernel
theorem dX10_passBlanks_21 : decode cX10_passBlanks 21 = .ok (.getfield 15, 3) := by decide +kernel
theorem dX10_passBlanks_24 : decode cX10_passBlanks 24 = .ok (.invokevirtual 31, 3) := by decide +kernel
theorem dX10_passBlanks_27 : decode cX10_passBlanks 27 = .ok (.istore_n 2, 1) := by decide +kernel
theorem dX10_passBlanks_28 : decode cX10_passBlanks 28 = .ok (.iload_n 2, 1) := by decide +kernel
theorem dX10_passBlanks_29 : decode cX10_passBlanks 29 = .ok (.bipush 10, 2) := by decide +kernel
theorem dX10_passBlanks_31 : decode cX10_passBlanks 31 = .ok (.if_icmp .ne 8, 3) := by decide +kernel
theorem dX10_passBlanks_34 : decode cX10_passBlanks 34 = .ok (.iconst 0, 1) := by decide +kernel
theorem dX10_passBlanks_35 : decode cX10_passBlanks 35 = .ok (.istore_n 1, 1) := by decide +kernel
theorem dX10_passBlanks_36 : decode cX10_passBlanks 36 = .ok (.goto 25, 3) := by decide +kernel
theorem dX10_passBlanks_39 : decode cX10_passBlanks 39 = .ok (.iload_n 2, 1) := by decide +kernel
theorem dX10_passBlanks_40 : decode cX10_passBlanks 40 = .ok (.bipush 35, 2) := by decide +kernel
theorem dX10_passBlanks_42 : decode cX10_passBlanks 42 = .ok (.if_icmp .ne 8, 3) := by decide +kernel
theorem dX10_passBlanks_45 : decode cX10_passBlanks 45 = .ok (.iconst 1, 1) := by decide +kernel
theorem dX10_passBlanks_46 : decode cX10_passBlanks 46 = .ok (.istore_n 1, 1) := by decide +kernel
theorem dX10_passBlanks_47 : decode cX10_passBlanks 47 = .ok (.goto 14, 3) := by decide +kernel
theorem dX10_passBlanks_50 : decode cX10_passBlanks 50 = .ok (.iload_n 2, 1) := by decide +kernel
theorem dX10_passBlanks_51 : decode cX10_passBlanks 51 = .ok (.bipush 32, 2) := by decide +kernel
theorem dX10_passBlanks_53 : decode cX10_passBlanks 53 = .ok (.if_icmp .eq 8, 3) := by decide +kernel
theorem dX10_passBlanks_56 : decode cX10_passBlanks 56 = .ok (.iload_n 1, 1) := by decide +kernel
theorem dX10_passBlanks_57 : decode cX10_passBlanks 57 = .ok (.ifCond .ne 4, 3) := by decide +kernel
theorem dX10_passBlanks_60 : decode cX10_passBlanks 60 = .ok (.return_, 1) := by decide +kernel
theorem dX10_passBlanks_61 : decode cX10_passBlanks 61 = .ok (.aload_n 0, 1) := by decide +kernel
theorem dX10_passBlanks_62 : decode cX10_passBlanks 62 = .ok (.dup, 1) := by decide +kernel
theorem dX10_passBlanks_63 : decode cX10_passBlanks 63 = .ok (.getfield 15, 3) := by decide +kernel
theorem dX10_passBlanks_66 : decode cX10_passBlanks 66 = .ok (.iconst 1, 1) := by decide +kernel
theorem dX10_passBlanks_67 : decode cX10_passBlanks 67 = .ok (.iadd, 1) := by decide +kernel
theorem dX10_passBlanks_68 : decode cX10_passBlanks 68 = .ok (.putfield 15, 3) := by decide +kernel
theorem dX10_passBlanks_71 : decode cX10_passBlanks 71 = .ok (.goto (-69), 3) := by decide +kernel
theorem dX10_passBlanks_74 : decode cX10_passBlanks 74 = .ok (.return_, 1) := by decide +kernel
theorem dX10_stop_0 : decode cX10_stop 0 = .ok (.aload_n 0, 1) := by decide +kernel
theorem dX10_stop_1 : decode cX10_stop 1 = .ok (.iconst 0, 1) := by decide +kernel
theorem dX10_stop_2 : decode cX10_stop 2 = .ok (.putfield 19, 3) := by decide +kernel
theorem dX10_stop_5 : decode cX10_stop 5 = .ok (.return_, 1) := by decide +kernel
theorem lg0 {x y : Int64} : lg_cmp x y = 0 ↔ x = y := by
  unfold lg_cmp
  by_cases h1 : y < x
  · simp [h1]
    intro h2; rw [h2] at h1; exact Int64.lt_irrefl h1
  · by_cases h2 : x = y
    · simp [h1, h2]
    · simp [h1, h2]
def cSmall (c : Int32) : Int32 := if c < 97 then 0 else if 122 < c then 0 else 1
def cGreat (c : Int32) : Int32 := if c < 65 then 0 else if 90 < c then 0 else 1
def cDigit (c : Int32) : Int32 := if c < 48 then 0 else if 57 < c then 0 else 1
/-- where the next word begins: blanks, line ends and remarks passed (r: within a remark) -/
def skp (f : Nat → Int32) (n : Nat) : Nat → Bool → Nat → Nat
  | 0, _, a => a
  | k + 1, r, a => if a < n then (if f a = 10 then skp f n k false (a + 1) else if f a = 35 then skp f n k true (a + 1) else if f a = 32 then skp f n k r (a + 1) else if r = true then skp f n k r (a + 1) else a) else a
theorem skp_le (f : Nat → Int32) (n : Nat) : ∀ (k : Nat) (r : Bool) (a : Nat), a ≤ n → skp f n k r a ≤ n
  | 0, _, a, h => h
  | k + 1, r, a, h => by
    simp only [skp]
    split
    · repeat' split
      all_goals first | exact skp_le f n k _ _ (by omega) | omega
    · exact h
/-- what kind of word a name is: a keyword or not -/
def kwd (nm : Int64) : Int32 := if nm = 1684108385 then 6 else if nm = 7103860 then 7 else if nm = 26990 then 8 else if nm = 1667330917 then 9 else if nm = 28518 then 10 else if nm = 1717660012 then 11 else 3
set_option maxHeartbeats 4000000 in
set_option maxRecDepth 100000 in
/-- Words.isSmall(c) -/
theorem kX10_isSmall (l : Launch) (dC : Nat → ClassId) (dI : Nat → Nat → Nat) (sz : Nat) (c9 : Int32) : Met l yX10_isSmall (Cond.code yX10_isSmall cX10_isSmall 1 (some .boolean) :: uG) ({ frames := 0, cells := 0, slots := 0, locals := 0 }) (va_Pc [.int c9] (fun U => U.heap.size = sz ∧ va_P (dC, dI) vwCl [] U.heap ∧ va_K (dC, dI) vwCl [] U ∧ va_D (fun _ => True) [])) (va_Qi (S := Unit) (fun r _ => r = (cSmall c9)) (fun _ t => va_P (dC, dI) vwCl [] t.heap ∧ va_K (dC, dI) vwCl [] t ∧ va_D (va_A [] sz) []) (va_A [] sz)) 0 0 (va_A [] sz) := by
  refine Met.ofW (cc := cX10_isSmall) (maxL := 1) (ret := (some .boolean)) (by decide) rfl ?_
  intro p e s m args below meth c s₁ B hml hv
  obtain ⟨rfl, hsz, hP, hK, hD0⟩ := hv
  have hx := B.exec
  have hb := B.bytes
  have hr := B.returns
  have hts := atoms_spec (ws := Cond.code yX10_isSmall cX10_isSmall 1 (some .boolean) :: uG) B.pre
  have hu := fun (w : Cond) (h : w ∈ uG) => hts w (List.mem_cons_of_mem _ h)
  have hown : s.vm.findClass RX10 = some m.cls := findClass_of_methodNamed B.named
  have hlocks := B.notSynchronized
  subst hsz
  have hD := hD0.self (sz := s.heap.size)
  generalize hAe : va_A [] s.heap.size = A at hD ⊢
  have hA : ∀ q : Nat, s.heap.size ≤ q → A q := fun q h => by rw [← hAe]; exact Or.inr h
  have hS : va_S A s.heap s.heap [] := va_S.rf
  have hP : va_P (dC, dI) vwCl [] s.heap := hP
  have hD : va_D A [] := hD
  have hl := lv_entry ([.int c9]) (n := 1) (Nat.le_of_ble_eq_true rfl)
  rw [lg_entry_eq]
  generalize (lg_sl ([.int c9]) ++ List.replicate (1 - (lg_sl ([.int c9])).length) Slot.unset).toArray = ls at hl ⊢
  have hl : lv_has ls 1 [(0, .int c9)] := hl
  refine lv_iload_n hx hb dX10_isSmall_0 rfl (lv_at hl 0 rfl) ?_
  refine lv_bipush (v := 97) hx hb dX10_isSmall_1 (by decide) ?_
  refine lv_icmp_lt (tgt := 16) hx hb dX10_isSmall_3 (by decide) (fun c3 => ?_) (fun c3 => ?_)
  · refine lv_iconst (v := 0) hx hb dX10_isSmall_16 (by decide) ?_
    have hP9 : va_P (dC, dI) vwCl [] s.heap := by exact hP
    have hD9 : va_D A [] := by exact hD
    have hK9 := hK.sub (tys' := []) [] rfl
    exact W.zret (v := 0) hx hb hr (by decide) (fun t ht hW => ⟨⟨0, (), rfl, by simp [cSmall, c3], by rw [ht]; exact hP9, va_K.moved hW.alike hK9, hD9⟩, hS.F ht⟩) hS.2.2 dX10_isSmall_17
  · refine lv_iload_n hx hb dX10_isSmall_6 rfl (lv_at hl 0 rfl) ?_
    refine lv_bipush (v := 122) hx hb dX10_isSmall_7 (by decide) ?_
    refine lv_icmp_gt (tgt := 16) hx hb dX10_isSmall_9 (by decide) (fun c9 => ?_) (fun c9 => ?_)
    · refine lv_iconst (v := 0) hx hb dX10_isSmall_16 (by decide) ?_
      have hP9 : va_P (dC, dI) vwCl [] s.heap := by exact hP
      have hD9 : va_D A [] := by exact hD
      have hK9 := hK.sub (tys' := []) [] rfl
      exact W.zret (v := 0) hx hb hr (by decide) (fun t ht hW => ⟨⟨0, (), rfl, by simp [cSmall, c3, c9], by rw [ht]; exact hP9, va_K.moved hW.alike hK9, hD9⟩, hS.F ht⟩) hS.2.2 dX10_isSmall_17
    · refine lv_iconst (v := 1) hx hb dX10_isSmall_12 (by decide) ?_
      refine lv_goto (tgt := 17) hx hb dX10_isSmall_13 (by decide) ?_
      have hP9 : va_P (dC, dI) vwCl [] s.heap := by exact hP
      have hD9 : va_D A [] := by exact hD
      have hK9 := hK.sub (tys' := []) [] rfl
      exact W.zret (v := 1) hx hb hr (by decide) (fun t ht hW => ⟨⟨1, (), rfl, by simp [cSmall, c3, c9], by rw [ht]; exact hP9, va_K.moved hW.alike hK9, hD9⟩, hS.F ht⟩) hS.2.2 dX10_isSmall_17
set_option maxHeartbeats 4000000 in
set_option maxRecDepth 100000 in
/-- Words.isGreat(c) -/
theorem kX10_isGreat (l : Launch) (dC : Nat → ClassId) (dI : Nat → Nat → Nat) (sz : Nat) (c9 : Int32) : Met l yX10_isGreat (Cond.code yX10_isGreat cX10_isGreat 1 (some .boolean) :: uG) ({ frames := 0, cells := 0, slots := 0, locals := 0 }) (va_Pc [.int c9] (fun U => U.heap.size = sz ∧ va_P (dC, dI) vwCl [] U.heap ∧ va_K (dC, dI) vwCl [] U ∧ va_D (fun _ => True) [])) (va_Qi (S := Unit) (fun r _ => r = (cGreat c9)) (fun _ t => va_P (dC, dI) vwCl [] t.heap ∧ va_K (dC, dI) vwCl [] t ∧ va_D (va_A [] sz) []) (va_A [] sz)) 0 0 (va_A [] sz) := by
  refine Met.ofW (cc := cX10_isGreat) (maxL := 1) (ret := (some .boolean)) (by decide) rfl ?_
  intro p e s m args below meth c s₁ B hml hv
  obtain ⟨rfl, hsz, hP, hK, hD0⟩ := hv
  have hx := B.exec
  have hb := B.bytes
  have hr := B.returns
  have hts := atoms_spec (ws := Cond.code yX10_isGreat cX10_isGreat 1 (some .boolean) :: uG) B.pre
  have hu := fun (w : Cond) (h : w ∈ uG) => hts w (List.mem_cons_of_mem _ h)
  have hown : s.vm.findClass RX10 = some m.cls := findClass_of_methodNamed B.named
  have hlocks := B.notSynchronized
  subst hsz
  have hD := hD0.self (sz := s.heap.size)
  generalize hAe : va_A [] s.heap.size = A at hD ⊢
  have hA : ∀ q : Nat, s.heap.size ≤ q → A q := fun q h => by rw [← hAe]; exact Or.inr h
  have hS : va_S A s.heap s.heap [] := va_S.rf
  have hP : va_P (dC, dI) vwCl [] s.heap := hP
  have hD : va_D A [] := hD
  have hl := lv_entry ([.int c9]) (n := 1) (Nat.le_of_ble_eq_true rfl)
  rw [lg_entry_eq]
  generalize (lg_sl ([.int c9]) ++ List.replicate (1 - (lg_sl ([.int c9])).length) Slot.unset).toArray = ls at hl ⊢
  have hl : lv_has ls 1 [(0, .int c9)] := hl
  refine lv_iload_n hx hb dX10_isGreat_0 rfl (lv_at hl 0 rfl) ?_
  refine lv_bipush (v := 65) hx hb dX10_isGreat_1 (by decide) ?_
  refine lv_icmp_lt (tgt := 16) hx hb dX10_isGreat_3 (by decide) (fun c3 => ?_) (fun c3 => ?_)
  · refine lv_iconst (v := 0) hx hb dX10_isGreat_16 (by decide) ?_
    have hP9 : va_P (dC, dI) vwCl [] s.heap := by exact hP
    have hD9 : va_D A [] := by exact hD
    have hK9 := hK.sub (tys' := []) [] rfl
    exact W.zret (v := 0) hx hb hr (by decide) (fun t ht hW => ⟨⟨0, (), rfl, by simp [cGreat, c3], by rw [ht]; exact hP9, va_K.moved hW.alike hK9, hD9⟩, hS.F ht⟩) hS.2.2 dX10_isGreat_17
  · refine lv_iload_n hx hb dX10_isGreat_6 rfl (lv_at hl 0 rfl) ?_
    refine lv_bipush (v := 90) hx hb dX10_isGreat_7 (by decide) ?_
    refine lv_icmp_gt (tgt := 16) hx hb dX10_isGreat_9 (by decide) (fun c9 => ?_) (fun c9 => ?_)
    · refine lv_iconst (v := 0) hx hb dX10_isGreat_16 (by decide) ?_
      have hP9 : va_P (dC, dI) vwCl [] s.heap := by exact hP
      have hD9 : va_D A [] := by exact hD
      have hK9 := hK.sub (tys' := []) [] rfl
      exact W.zret (v := 0) hx hb hr (by decide) (fun t ht hW => ⟨⟨0, (), rfl, by simp [cGreat, c3, c9], by rw [ht]; exact hP9, va_K.moved hW.alike hK9, hD9⟩, hS.F ht⟩) hS.2.2 dX10_isGreat_17
    · refine lv_iconst (v := 1) hx hb dX10_isGreat_12 (by decide) ?_
      refine lv_goto (tgt := 17) hx hb dX10_isGreat_13 (by decide) ?_
      have hP9 : va_P (dC, dI) vwCl [] s.heap := by exact hP
      have hD9 : va_D A [] := by exact hD
      have hK9 := hK.sub (tys' := []) [] rfl
      exact W.zret (v := 1) hx hb hr (by decide) (fun t ht hW => ⟨⟨1, (), rfl, by simp [cGreat, c3, c9], by rw [ht]; exact hP9, va_K.moved hW.alike hK9, hD9⟩, hS.F ht⟩) hS.2.2 dX10_isGreat_17
set_option maxHeartbeats 4000000 in
set_option maxRecDepth 100000 in
/-- Words.isDigit(c) -/
theorem kX10_isDigit (l : Launch) (dC : Nat → ClassId) (dI : Nat → Nat → Nat) (sz : Nat) (c9 : Int32) : Met l yX10_isDigit (Cond.code yX10_isDigit cX10_isDigit 1 (some .boolean) :: uG) ({ frames := 0, cells := 0, slots := 0, locals := 0 }) (va_Pc [.int c9] (fun U => U.heap.size = sz ∧ va_P (dC, dI) vwCl [] U.heap ∧ va_K (dC, dI) vwCl [] U ∧ va_D (fun _ => True) [])) (va_Qi (S := Unit) (fun r _ => r = (cDigit c9)) (fun _ t => va_P (dC, dI) vwCl [] t.heap ∧ va_K (dC, dI) vwCl [] t ∧ va_D (va_A [] sz) []) (va_A [] sz)) 0 0 (va_A [] sz) := by
  refine Met.ofW (cc := cX10_isDigit) (maxL := 1) (ret := (some .boolean)) (by decide) rfl ?_
  intro p e s m args below meth c s₁ B hml hv
  obtain ⟨rfl, hsz, hP, hK, hD0⟩ := hv
  have hx := B.exec
  have hb := B.bytes
  have hr := B.returns
  have hts := atoms_spec (ws := Cond.code yX10_isDigit cX10_isDigit 1 (some .boolean) :: uG) B.pre
  have hu := fun (w : Cond) (h : w ∈ uG) => hts w (List.mem_cons_of_mem _ h)
  have hown : s.vm.findClass RX10 = some m.cls := findClass_of_methodNamed B.named
  have hlocks := B.notSynchronized
  subst hsz
  have hD := hD0.self (sz := s.heap.size)
  generalize hAe : va_A [] s.heap.size = A at hD ⊢
  have hA : ∀ q : Nat, s.heap.size ≤ q → A q := fun q h => by rw [← hAe]; exact Or.inr h
  have hS : va_S A s.heap s.heap [] := va_S.rf
  have hP : va_P (dC, dI) vwCl [] s.heap := hP
  have hD : va_D A [] := hD
  have hl := lv_entry ([.int c9]) (n := 1) (Nat.le_of_ble_eq_true rfl)
  rw [lg_entry_eq]
  generalize (lg_sl ([.int c9]) ++ List.replicate (1 - (lg_sl ([.int c9])).length) Slot.unset).toArray = ls at hl ⊢
  have hl : lv_has ls 1 [(0, .int c9)] := hl
  refine lv_iload_n hx hb dX10_isDigit_0 rfl (lv_at hl 0 rfl) ?_
  refine lv_bipush (v := 48) hx hb dX10_isDigit_1 (by decide) ?_
  refine lv_icmp_lt (tgt := 16) hx hb dX10_isDigit_3 (by decide) (fun c3 => ?_) (fun c3 => ?_)
  · refine lv_iconst (v := 0) hx hb dX10_isDigit_16 (by decide) ?_
    have hP9 : va_P (dC, dI) vwCl [] s.heap := by exact hP
    have hD9 : va_D A [] := by exact hD
    have hK9 := hK.sub (tys' := []) [] rfl
    exact W.zret (v := 0) hx hb hr (by decide) (fun t ht hW => ⟨⟨0, (), rfl, by simp [cDigit, c3], by rw [ht]; exact hP9, va_K.moved hW.alike hK9, hD9⟩, hS.F ht⟩) hS.2.2 dX10_isDigit_17
  · refine lv_iload_n hx hb dX10_isDigit_6 rfl (lv_at hl 0 rfl) ?_
    refine lv_bipush (v := 57) hx hb dX10_isDigit_7 (by decide) ?_
    refine lv_icmp_gt (tgt := 16) hx hb dX10_isDigit_9 (by decide) (fun c9 => ?_) (fun c9 => ?_)
    · refine lv_iconst (v := 0) hx hb dX10_isDigit_16 (by decide) ?_
      have hP9 : va_P (dC, dI) vwCl [] s.heap := by exact hP
      have hD9 : va_D A [] := by exact hD
      have hK9 := hK.sub (tys' := []) [] rfl
      exact W.zret (v := 0) hx hb hr (by decide) (fun t ht hW => ⟨⟨0, (), rfl, by simp [cDigit, c3, c9], by rw [ht]; exact hP9, va_K.moved hW.alike hK9, hD9⟩, hS.F ht⟩) hS.2.2 dX10_isDigit_17
    · refine lv_iconst (v := 1) hx hb dX10_isDigit_12 (by decide) ?_
      refine lv_goto (tgt := 17) hx hb dX10_isDigit_13 (by decide) ?_
      have hP9 : va_P (dC, dI) vwCl [] s.heap := by exact hP
      have hD9 : va_D A [] := by exact hD
      have hK9 := hK.sub (tys' := []) [] rfl
      exact W.zret (v := 1) hx hb hr (by decide) (fun t ht hW => ⟨⟨1, (), rfl, by simp [cDigit, c3, c9], by rw [ht]; exact hP9, va_K.moved hW.alike hK9, hD9⟩, hS.F ht⟩) hS.2.2 dX10_isDigit_17
set_option maxHeartbeats 4000000 in
set_option maxRecDepth 100000 in
/-- Words.stop() -/
theorem kX10_stop (l : Launch) (dC : Nat → ClassId) (dI : Nat → Nat → Nat) (sz : Nat) (w tx : Nat) (at0 kd pl nu : Int32) (nm : Int64) : Met l yX10_stop (Cond.code yX10_stop cX10_stop 1 none :: uG) ({ frames := 0, cells := 0, slots := 0, locals := 0 }) (va_Pc [.ref w] (fun U => U.heap.size = sz ∧ va_P (dC, dI) vwCl [(w, .inr (13, [.ref tx, .int at0, .int kd, .int pl, .int nu, .long nm]))] U.heap ∧ va_K (dC, dI) vwCl [] U ∧ va_D (fun _ => True) [(w, .inr (13, [.ref tx, .int at0, .int kd, .int pl, .int nu, .long nm]))])) (va_Qv (S := Unit) (fun _ => True) (fun _ t => va_P (dC, dI) vwCl [(w, .inr (13, [.ref tx, .int at0, .int 0, .int pl, .int nu, .long nm]))] t.heap ∧ va_K (dC, dI) vwCl [] t ∧ va_D (va_A [(w, .inr (13, [.ref tx, .int at0, .int kd, .int pl, .int nu, .long nm]))] sz) [(w, .inr (13, [.ref tx, .int at0, .int 0, .int pl, .int nu, .long nm]))]) (va_A [(w, .inr (13, [.ref tx, .int at0, .int kd, .int pl, .int nu, .long nm]))] sz)) 0 0 (va_A [(w, .inr (13, [.ref tx, .int at0, .int kd, .int pl, .int nu, .long nm]))] sz) := by
  refine Met.ofW (cc := cX10_stop) (maxL := 1) (ret := none) (by decide) rfl ?_
  intro p e s m args below meth c s₁ B hml hv
  obtain ⟨rfl, hsz, hP, hK, hD0⟩ := hv
  have hx := B.exec
  have hb := B.bytes
  have hr := B.returns
  have hts := atoms_spec (ws := Cond.code yX10_stop cX10_stop 1 none :: uG) B.pre
  have hu := fun (w : Cond) (h : w ∈ uG) => hts w (List.mem_cons_of_mem _ h)
  have hown : s.vm.findClass RX10 = some m.cls := findClass_of_methodNamed B.named
  have hlocks := B.notSynchronized
  subst hsz
  have hD := hD0.self (sz := s.heap.size)
  generalize hAe : va_A [(w, .inr (13, [.ref tx, .int at0, .int kd, .int pl, .int nu, .long nm]))] s.heap.size = A at hD ⊢
  have hA : ∀ q : Nat, s.heap.size ≤ q → A q := fun q h => by rw [← hAe]; exact Or.inr h
  have hS : va_S A s.heap s.heap [] := va_S.rf
  have hP : va_P (dC, dI) vwCl [(w, .inr (13, [.ref tx, .int at0, .int kd, .int pl, .int nu, .long nm]))] s.heap := hP
  have hD : va_D A [(w, .inr (13, [.ref tx, .int at0, .int kd, .int pl, .int nu, .long nm]))] := hD
  have hl := lv_entry ([.ref w]) (n := 1) (Nat.le_of_ble_eq_true rfl)
  rw [lg_entry_eq]
  generalize (lg_sl ([.ref w]) ++ List.replicate (1 - (lg_sl ([.ref w])).length) Slot.unset).toArray = ls at hl ⊢
  have hl : lv_has ls 1 [(0, .ref w)] := hl
  refine lv_aload_n hx hb dX10_stop_0 rfl (lv_at hl 0 rfl) ?_
  refine lv_iconst (v := 0) hx hb dX10_stop_1 (by decide) ?_
  refine va_put (D := (dC, dI)) (ci := 13) (v := .int 0) (ty := (tyX10 2)) (C := RX10) (T := TX10) (N := 6) hx hb hu iuX10 tyX10 tyX10_ok nmX10 hown hK hP hD hS 0 rfl rfl 2 (by decide) (hu _ mG_517) (fun _ h9 => h9) rfl (by decide +kernel) (rfl) (rfl) (Nat.le_of_ble_eq_true rfl) dX10_stop_2 (fun H locs hP hD hS => ?_)
  have hP : va_P (dC, dI) vwCl [(w, .inr (13, [.ref tx, .int at0, .int 0, .int pl, .int nu, .long nm]))] H := hP
  have hD : va_D A [(w, .inr (13, [.ref tx, .int at0, .int 0, .int pl, .int nu, .long nm]))] := hD
  have hP9 : va_P (dC, dI) vwCl [(w, .inr (13, [.ref tx, .int at0, .int 0, .int pl, .int nu, .long nm]))] H := by exact hP
  have hD9 : va_D A [(w, .inr (13, [.ref tx, .int at0, .int 0, .int pl, .int nu, .long nm]))] := by exact hD
  have hK9 := hK.sub (tys' := []) [] rfl
  exact W.vret hx hb hr (fun t ht hW => ⟨⟨(), rfl, trivial, by rw [ht]; exact hP9, va_K.moved hW.alike hK9, hD9⟩, hS.F ht⟩) hS.2.2 dX10_stop_5
set_option maxHeartbeats 4000000 in
set_option maxRecDepth 100000 in
/-- Words.kindOfName() -/
theorem kX10_kindOfName (l : Launch) (dC : Nat → ClassId) (dI : Nat → Nat → Nat) (sz : Nat) (w tx : Nat) (at0 kd pl nu : Int32) (nm : Int64) : Met l yX10_kindOfName (Cond.code yX10_kindOfName cX10_kindOfName 1 (some .int) :: uG) ({ frames := 0, cells := 0, slots := 0, locals := 0 }) (va_Pc [.ref w] (fun U => U.heap.size = sz ∧ va_P (dC, dI) vwCl [(w, .inr (13, [.ref tx, .int at0, .int kd, .int pl, .int nu, .long nm]))] U.heap ∧ va_K (dC, dI) vwCl [] U ∧ va_D (fun _ => True) [(w, .inr (13, [.ref tx, .int at0, .int kd, .int pl, .int nu, .long nm]))])) (va_Qi (S := Unit) (fun r _ => r = (kwd nm)) (fun _ t => va_P (dC, dI) vwCl [(w, .inr (13, [.ref tx, .int at0, .int kd, .int pl, .int nu, .long nm]))] t.heap ∧ va_K (dC, dI) vwCl [] t ∧ va_D (va_A [(w, .inr (13, [.ref tx, .int at0, .int kd, .int pl, .int nu, .long nm]))] sz) [(w, .inr (13, [.ref tx, .int at0, .int kd, .int pl, .int nu, .long nm]))]) (va_A [(w, .inr (13, [.ref tx, .int at0, .int kd, .int pl, .int nu, .long nm]))] sz)) 0 0 (va_A [(w, .inr (13, [.ref tx, .int at0, .int kd, .int pl, .int nu, .long nm]))] sz) := by
  refine Met.ofW (cc := cX10_kindOfName) (maxL := 1) (ret := (some .int)) (by decide) rfl ?_
  intro p e s m args below meth c s₁ B hml hv
  obtain ⟨rfl, hsz, hP, hK, hD0⟩ := hv
  have hx := B.exec
  have hb := B.bytes
  have hr := B.returns
  have hts := atoms_spec (ws := Cond.code yX10_kindOfName cX10_kindOfName 1 (some .int) :: uG) B.pre
  have hu := fun (w : Cond) (h : w ∈ uG) => hts w (List.mem_cons_of_mem _ h)
  have hown : s.vm.findClass RX10 = some m.cls := findClass_of_methodNamed B.named
  have hlocks := B.notSynchronized
  subst hsz
  have hD := hD0.self (sz := s.heap.size)
  generalize hAe : va_A [(w, .inr (13, [.ref tx, .int at0, .int kd, .int pl, .int nu, .long nm]))] s.heap.size = A at hD ⊢
  have hA : ∀ q : Nat, s.heap.size ≤ q → A q := fun q h => by rw [← hAe]; exact Or.inr h
  have hS : va_S A s.heap s.heap [] := va_S.rf
  have hP : va_P (dC, dI) vwCl [(w, .inr (13, [.ref tx, .int at0, .int kd, .int pl, .int nu, .long nm]))] s.heap := hP
  have hD : va_D A [(w, .inr (13, [.ref tx, .int at0, .int kd, .int pl, .int nu, .long nm]))] := hD
  have hl := lv_entry ([.ref w]) (n := 1) (Nat.le_of_ble_eq_true rfl)
  rw [lg_entry_eq]
  generalize (lg_sl ([.ref w]) ++ List.replicate (1 - (lg_sl ([.ref w])).length) Slot.unset).toArray = ls at hl ⊢
  have hl : lv_has ls 1 [(0, .ref w)] := hl
  refine lv_aload_n hx hb dX10_kindOfName_0 rfl (lv_at hl 0 rfl) ?_
  refine va_get (D := (dC, dI)) (ci := 13) (v := .long nm) (C := RX10) (T := TX10) (N := 6) hx hb hu iuX10 hown hK hP 0 rfl rfl 5 (by decide) (hu _ mG_523) (fun _ h9 => h9) rfl dX10_kindOfName_1 ?_
  refine lv_ldc2 (own := RX10) (v := 1684108385) hx hb hown (hu _ mG_947) dX10_kindOfName_4 ?_
  refine W.lcmp hx hb dX10_kindOfName_7 ?_
  refine lv_topi (fun x7 ex7 => ?_)
  refine lv_if_ne (tgt := 14) hx hb dX10_kindOfName_8 (by decide) (fun c8 => ?_) (fun c8 => ?_)
  · refine lv_aload_n hx hb dX10_kindOfName_14 rfl (lv_at hl 0 rfl) ?_
    refine va_get (D := (dC, dI)) (ci := 13) (v := .long nm) (C := RX10) (T := TX10) (N := 6) hx hb hu iuX10 hown hK hP 0 rfl rfl 5 (by decide) (hu _ mG_523) (fun _ h9 => h9) rfl dX10_kindOfName_15 ?_
    refine lv_ldc2 (own := RX10) (v := 7103860) hx hb hown (hu _ mG_948) dX10_kindOfName_18 ?_
    refine W.lcmp hx hb dX10_kindOfName_21 ?_
    refine lv_topi (fun x21 ex21 => ?_)
    refine lv_if_ne (tgt := 28) hx hb dX10_kindOfName_22 (by decide) (fun c22 => ?_) (fun c22 => ?_)
    · refine lv_aload_n hx hb dX10_kindOfName_28 rfl (lv_at hl 0 rfl) ?_
      refine va_get (D := (dC, dI)) (ci := 13) (v := .long nm) (C := RX10) (T := TX10) (N := 6) hx hb hu iuX10 hown hK hP 0 rfl rfl 5 (by decide) (hu _ mG_523) (fun _ h9 => h9) rfl dX10_kindOfName_29 ?_
      refine lv_ldc2 (own := RX10) (v := 26990) hx hb hown (hu _ mG_949) dX10_kindOfName_32 ?_
      refine W.lcmp hx hb dX10_kindOfName_35 ?_
      refine lv_topi (fun x35 ex35 => ?_)
      refine lv_if_ne (tgt := 42) hx hb dX10_kindOfName_36 (by decide) (fun c36 => ?_) (fun c36 => ?_)
      · refine lv_aload_n hx hb dX10_kindOfName_42 rfl (lv_at hl 0 rfl) ?_
        refine va_get (D := (dC, dI)) (ci := 13) (v := .long nm) (C := RX10) (T := TX10) (N := 6) hx hb hu iuX10 hown hK hP 0 rfl rfl 5 (by decide) (hu _ mG_523) (fun _ h9 => h9) rfl dX10_kindOfName_43 ?_
        refine lv_ldc2 (own := RX10) (v := 1667330917) hx hb hown (hu _ mG_950) dX10_kindOfName_46 ?_
        refine W.lcmp hx hb dX10_kindOfName_49 ?_
        refine lv_topi (fun x49 ex49 => ?_)
        refine lv_if_ne (tgt := 56) hx hb dX10_kindOfName_50 (by decide) (fun c50 => ?_) (fun c50 => ?_)
        · refine lv_aload_n hx hb dX10_kindOfName_56 rfl (lv_at hl 0 rfl) ?_
          refine va_get (D := (dC, dI)) (ci := 13) (v := .long nm) (C := RX10) (T := TX10) (N := 6) hx hb hu iuX10 hown hK hP 0 rfl rfl 5 (by decide) (hu _ mG_523) (fun _ h9 => h9) rfl dX10_kindOfName_57 ?_
          refine lv_ldc2 (own := RX10) (v := 28518) hx hb hown (hu _ mG_951) dX10_kindOfName_60 ?_
          refine W.lcmp hx hb dX10_kindOfName_63 ?_
          refine lv_topi (fun x63 ex63 => ?_)
          refine lv_if_ne (tgt := 70) hx hb dX10_kindOfName_64 (by decide) (fun c64 => ?_) (fun c64 => ?_)
          · refine lv_aload_n hx hb dX10_kindOfName_70 rfl (lv_at hl 0 rfl) ?_
            refine va_get (D := (dC, dI)) (ci := 13) (v := .long nm) (C := RX10) (T := TX10) (N := 6) hx hb hu iuX10 hown hK hP 0 rfl rfl 5 (by decide) (hu _ mG_523) (fun _ h9 => h9) rfl dX10_kindOfName_71 ?_
            refine lv_ldc2 (own := RX10) (v := 1717660012) hx hb hown (hu _ mG_952) dX10_kindOfName_74 ?_
            refine W.lcmp hx hb dX10_kindOfName_77 ?_
            refine lv_topi (fun x77 ex77 => ?_)
            refine lv_if_ne (tgt := 86) hx hb dX10_kindOfName_78 (by decide) (fun c78 => ?_) (fun c78 => ?_)
            · refine lv_iconst (v := 3) hx hb dX10_kindOfName_86 (by decide) ?_
              have hP9 : va_P (dC, dI) vwCl [(w, .inr (13, [.ref tx, .int at0, .int kd, .int pl, .int nu, .long nm]))] s.heap := by exact hP
              have hD9 : va_D A [(w, .inr (13, [.ref tx, .int at0, .int kd, .int pl, .int nu, .long nm]))] := by exact hD
              have hK9 := hK.sub (tys' := []) [] rfl
              exact W.iret (v := 3) hx hb hr (fun t ht hW => ⟨⟨3, (), rfl, by
                have g8 : ¬ nm = 1684108385 := fun h => c8 (by rw [ex7]; exact lg0.mpr h)
                have g22 : ¬ nm = 7103860 := fun h => c22 (by rw [ex21]; exact lg0.mpr h)
                have g36 : ¬ nm = 26990 := fun h => c36 (by rw [ex35]; exact lg0.mpr h)
                have g50 : ¬ nm = 1667330917 := fun h => c50 (by rw [ex49]; exact lg0.mpr h)
                have g64 : ¬ nm = 28518 := fun h => c64 (by rw [ex63]; exact lg0.mpr h)
                have g78 : ¬ nm = 1717660012 := fun h => c78 (by rw [ex77]; exact lg0.mpr h)
                simp [kwd, g8, g22, g36, g50, g64, g78], by rw [ht]; exact hP9, va_K.moved hW.alike hK9, hD9⟩, hS.F ht⟩) hS.2.2 dX10_kindOfName_87
            · refine lv_bipush (v := 11) hx hb dX10_kindOfName_81 (by decide) ?_
              refine lv_goto (tgt := 87) hx hb dX10_kindOfName_83 (by decide) ?_
              have hP9 : va_P (dC, dI) vwCl [(w, .inr (13, [.ref tx, .int at0, .int kd, .int pl, .int nu, .long nm]))] s.heap := by exact hP
              have hD9 : va_D A [(w, .inr (13, [.ref tx, .int at0, .int kd, .int pl, .int nu, .long nm]))] := by exact hD
              have hK9 := hK.sub (tys' := []) [] rfl
              exact W.iret (v := 11) hx hb hr (fun t ht hW => ⟨⟨11, (), rfl, by
                have g8 : ¬ nm = 1684108385 := fun h => c8 (by rw [ex7]; exact lg0.mpr h)
                have g22 : ¬ nm = 7103860 := fun h => c22 (by rw [ex21]; exact lg0.mpr h)
                have g36 : ¬ nm = 26990 := fun h => c36 (by rw [ex35]; exact lg0.mpr h)
                have g50 : ¬ nm = 1667330917 := fun h => c50 (by rw [ex49]; exact lg0.mpr h)
                have g64 : ¬ nm = 28518 := fun h => c64 (by rw [ex63]; exact lg0.mpr h)
                have g78 : nm = 1717660012 := lg0.mp (by rw [← ex77]; exact c78)
                simp [kwd, g8, g22, g36, g50, g64, g78], by rw [ht]; exact hP9, va_K.moved hW.alike hK9, hD9⟩, hS.F ht⟩) hS.2.2 dX10_kindOfName_87
          · refine lv_bipush (v := 10) hx hb dX10_kindOfName_67 (by decide) ?_
            have hP9 : va_P (dC, dI) vwCl [(w, .inr (13, [.ref tx, .int at0, .int kd, .int pl, .int nu, .long nm]))] s.heap := by exact hP
            have hD9 : va_D A [(w, .inr (13, [.ref tx, .int at0, .int kd, .int pl, .int nu, .long nm]))] := by exact hD
            have hK9 := hK.sub (tys' := []) [] rfl
            exact W.iret (v := 10) hx hb hr (fun t ht hW => ⟨⟨10, (), rfl, by
              have g8 : ¬ nm = 1684108385 := fun h => c8 (by rw [ex7]; exact lg0.mpr h)
              have g22 : ¬ nm = 7103860 := fun h => c22 (by rw [ex21]; exact lg0.mpr h)
              have g36 : ¬ nm = 26990 := fun h => c36 (by rw [ex35]; exact lg0.mpr h)
              have g50 : ¬ nm = 1667330917 := fun h => c50 (by rw [ex49]; exact lg0.mpr h)
              have g64 : nm = 28518 := lg0.mp (by rw [← ex63]; exact c64)
              simp [kwd, g8, g22, g36, g50, g64], by rw [ht]; exact hP9, va_K.moved hW.alike hK9, hD9⟩, hS.F ht⟩) hS.2.2 dX10_kindOfName_69
        · refine lv_bipush (v := 9) hx hb dX10_kindOfName_53 (by decide) ?_
          have hP9 : va_P (dC, dI) vwCl [(w, .inr (13, [.ref tx, .int at0, .int kd, .int pl, .int nu, .long nm]))] s.heap := by exact hP
          have hD9 : va_D A [(w, .inr (13, [.ref tx, .int at0, .int kd, .int pl, .int nu, .long nm]))] := by exact hD
          have hK9 := hK.sub (tys' := []) [] rfl
          exact W.iret (v := 9) hx hb hr (fun t ht hW => ⟨⟨9, (), rfl, by
            have g8 : ¬ nm = 1684108385 := fun h => c8 (by rw [ex7]; exact lg0.mpr h)
            have g22 : ¬ nm = 7103860 := fun h => c22 (by rw [ex21]; exact lg0.mpr h)
            have g36 : ¬ nm = 26990 := fun h => c36 (by rw [ex35]; exact lg0.mpr h)
            have g50 : nm = 1667330917 := lg0.mp (by rw [← ex49]; exact c50)
            simp [kwd, g8, g22, g36, g50], by rw [ht]; exact hP9, va_K.moved hW.alike hK9, hD9⟩, hS.F ht⟩) hS.2.2 dX10_kindOfName_55
      · refine lv_bipush (v := 8) hx hb dX10_kindOfName_39 (by decide) ?_
        have hP9 : va_P (dC, dI) vwCl [(w, .inr (13, [.ref tx, .int at0, .int kd, .int pl, .int nu, .long nm]))] s.heap := by exact hP
        have hD9 : va_D A [(w, .inr (13, [.ref tx, .int at0, .int kd, .int pl, .int nu, .long nm]))] := by exact hD
        have hK9 := hK.sub (tys' := []) [] rfl
        exact W.iret (v := 8) hx hb hr (fun t ht hW => ⟨⟨8, (), rfl, by
          have g8 : ¬ nm = 1684108385 := fun h => c8 (by rw [ex7]; exact lg0.mpr h)
          have g22 : ¬ nm = 7103860 := fun h => c22 (by rw [ex21]; exact lg0.mpr h)
          have g36 : nm = 26990 := lg0.mp (by rw [← ex35]; exact c36)
          simp [kwd, g8, g22, g36], by rw [ht]; exact hP9, va_K.moved hW.alike hK9, hD9⟩, hS.F ht⟩) hS.2.2 dX10_kindOfName_41
    · refine lv_bipush (v := 7) hx hb dX10_kindOfName_25 (by decide) ?_
      have hP9 : va_P (dC, dI) vwCl [(w, .inr (13, [.ref tx, .int at0, .int kd, .int pl, .int nu, .long nm]))] s.heap := by exact hP
      have hD9 : va_D A [(w, .inr (13, [.ref tx, .int at0, .int kd, .int pl, .int nu, .long nm]))] := by exact hD
      have hK9 := hK.sub (tys' := []) [] rfl
      exact W.iret (v := 7) hx hb hr (fun t ht hW => ⟨⟨7, (), rfl, by
        have g8 : ¬ nm = 1684108385 := fun h => c8 (by rw [ex7]; exact lg0.mpr h)
        have g22 : nm = 7103860 := lg0.mp (by rw [← ex21]; exact c22)
        simp [kwd, g8, g22], by rw [ht]; exact hP9, va_K.moved hW.alike hK9, hD9⟩, hS.F ht⟩) hS.2.2 dX10_kindOfName_27
  · refine lv_bipush (v := 6) hx hb dX10_kindOfName_11 (by decide) ?_
    have hP9 : va_P (dC, dI) vwCl [(w, .inr (13, [.ref tx, .int at0, .int kd, .int pl, .int nu, .long nm]))] s.heap := by exact hP
    have hD9 : va_D A [(w, .inr (13, [.ref tx, .int at0, .int kd, .int pl, .int nu, .long nm]))] := by exact hD
    have hK9 := hK.sub (tys' := []) [] rfl
    exact W.iret (v := 6) hx hb hr (fun t ht hW => ⟨⟨6, (), rfl, by
      have g8 : nm = 1684108385 := lg0.mp (by rw [← ex7]; exact c8)
      simp [kwd, g8], by rw [ht]; exact hP9, va_K.moved hW.alike hK9, hD9⟩, hS.F ht⟩) hS.2.2 dX10_kindOfName_13
set_option maxHeartbeats 4000000 in
set_option maxRecDepth 100000 in
/-- Words.passBlanks() -/
theorem kX10_passBlanks (l : Launch) (dC : Nat → ClassId) (dI : Nat → Nat → Nat) (sz : Nat) (w tx : Nat) (a : Nat) (kd pl nu : Int32) (nm : Int64) (r cap n : Nat) (lo : Int32) (f : Nat → Int32) (cB : ClassId) (hn : n ≤ cap) (hc : cap < 2 ^ 31) (ha : a ≤ n) : Met l yX10_passBlanks (Cond.code yX10_passBlanks cX10_passBlanks 3 none :: uG) ({ frames := 1, cells := 0, slots := 0, locals := 21 }) (va_Pc [.ref w] (fun U => U.heap.size = sz ∧ va_P (dC, dI) vwCl [(w, .inr (13, [.ref tx, .int (nI a), .int kd, .int pl, .int nu, .long nm])), (tx, .inr (11, [.ref r, .int (nI n), .int lo])), (r, .inl (cB, cap, .inl f))] U.heap ∧ va_K (dC, dI) vwCl [(cB, .byte)] U ∧ va_D (fun _ => True) [(w, .inr (13, [.ref tx, .int (nI a), .int kd, .int pl, .int nu, .long nm])), (tx, .inr (11, [.ref r, .int (nI n), .int lo])), (r, .inl (cB, cap, .inl f))])) (va_Qv (S := Unit) (fun _ => True) (fun _ t => va_P (dC, dI) vwCl [(w, .inr (13, [.ref tx, .int (nI (skp f n (n - a) false a)), .int kd, .int pl, .int nu, .long nm])), (tx, .inr (11, [.ref r, .int (nI n), .int lo])), (r, .inl (cB, cap, .inl f))] t.heap ∧ va_K (dC, dI) vwCl [(cB, .byte)] t ∧ va_D (va_A [(w, .inr (13, [.ref tx, .int (nI a), .int kd, .int pl, .int nu, .long nm])), (tx, .inr (11, [.ref r, .int (nI n), .int lo])), (r, .inl (cB, cap, .inl f))] sz) [(w, .inr (13, [.ref tx, .int (nI (skp f n (n - a) false a)), .int kd, .int pl, .int nu, .long nm])), (tx, .inr (11, [.ref r, .int (nI n), .int lo])), (r, .inl (cB, cap, .inl f))]) (va_A [(w, .inr (13, [.ref tx, .int (nI a), .int kd, .int pl, .int nu, .long nm])), (tx, .inr (11, [.ref r, .int (nI n), .int lo])), (r, .inl (cB, cap, .inl f))] sz)) 0 0 (va_A [(w, .inr (13, [.ref tx, .int (nI a), .int kd, .int pl, .int nu, .long nm])), (tx, .inr (11, [.ref r, .int (nI n), .int lo])), (r, .inl (cB, cap, .inl f))] sz) := by
  refine Met.ofW (cc := cX10_passBlanks) (maxL := 3) (ret := none) (by decide) rfl ?_
  intro p e s m args below meth c s₁ B hml hv
  obtain ⟨rfl, hsz, hP, hK, hD0⟩ := hv
  have hx := B.exec
  have hb := B.bytes
  have hr := B.returns
  have hts := atoms_spec (ws := Cond.code yX10_passBlanks cX10_passBlanks 3 none :: uG) B.pre
  have hu := fun (w : Cond) (h : w ∈ uG) => hts w (List.mem_cons_of_mem _ h)
  have hown : s.vm.findClass RX10 = some m.cls := findClass_of_methodNamed B.named
  have hlocks := B.notSynchronized
  subst hsz
  have hD := hD0.self (sz := s.heap.size)
  generalize hAe : va_A [(w, .inr (13, [.ref tx, .int (nI a), .int kd, .int pl, .int nu, .long nm])), (tx, .inr (11, [.ref r, .int (nI n), .int lo])), (r, .inl (cB, cap, .inl f))] s.heap.size = A at hD ⊢
  have hA : ∀ q : Nat, s.heap.size ≤ q → A q := fun q h => by rw [← hAe]; exact Or.inr h
  have hS : va_S A s.heap s.heap [] := va_S.rf
  have hP : va_P (dC, dI) vwCl [(w, .inr (13, [.ref tx, .int (nI a), .int kd, .int pl, .int nu, .long nm])), (tx, .inr (11, [.ref r, .int (nI n), .int lo])), (r, .inl (cB, cap, .inl f))] s.heap := hP
  have hD : va_D A [(w, .inr (13, [.ref tx, .int (nI a), .int kd, .int pl, .int nu, .long nm])), (tx, .inr (11, [.ref r, .int (nI n), .int lo])), (r, .inl (cB, cap, .inl f))] := hD
  have hl := lv_entry ([.ref w]) (n := 3) (Nat.le_of_ble_eq_true rfl)
  rw [lg_entry_eq]
  generalize (lg_sl ([.ref w]) ++ List.replicate (3 - (lg_sl ([.ref w])).length) Slot.unset).toArray = ls at hl ⊢
  have hl : lv_has ls 3 [(0, .ref w)] := hl
  refine lv_iconst (v := 0) hx hb dX10_passBlanks_0 (by decide) ?_
  refine lv_istore_n (lv' := [(1, .int 0), (0, .ref w)]) hx hb dX10_passBlanks_1 rfl hl (by decide) rfl (fun ls hl => ?_)
  refine uLoop (σ := Nat × Bool) (fun xv H locs ls => (xv.1 ≤ n) ∧ (skp f n (n - xv.1) xv.2 xv.1 = skp f n (n - a) false a) ∧ va_P (dC, dI) vwCl [(w, .inr (13, [.ref tx, .int (nI xv.1), .int kd, .int pl, .int nu, .long nm])), (tx, .inr (11, [.ref r, .int (nI n), .int lo])), (r, .inl (cB, cap, .inl f))] H ∧ va_D A [(w, .inr (13, [.ref tx, .int (nI xv.1), .int kd, .int pl, .int nu, .long nm])), (tx, .inr (11, [.ref r, .int (nI n), .int lo])), (r, .inl (cB, cap, .inl f))] ∧ va_S A s.heap H locs ∧ lv_has ls 3 [(0, .ref w), (1, .int (bI xv.2))]) (fun xv => n - xv.1) (fun xv H locs ls hI ih2 => ?_) (a, false) ⟨ha, rfl, hP, hD, hS, lv_sub hl [1, 0] rfl⟩
  obtain ⟨i, rm⟩ := xv
  obtain ⟨hi, hsk, hP, hD, hS, hl⟩ := hI
  have hi : i ≤ n := hi
  have hsk : skp f n (n - i) rm i = skp f n (n - a) false a := hsk
  have hP : va_P (dC, dI) vwCl [(w, .inr (13, [.ref tx, .int (nI i), .int kd, .int pl, .int nu, .long nm])), (tx, .inr (11, [.ref r, .int (nI n), .int lo])), (r, .inl (cB, cap, .inl f))] H := hP
  have hD : va_D A [(w, .inr (13, [.ref tx, .int (nI i), .int kd, .int pl, .int nu, .long nm])), (tx, .inr (11, [.ref r, .int (nI n), .int lo])), (r, .inl (cB, cap, .inl f))] := hD
  have hl : lv_has ls 3 [(0, .ref w), (1, .int (bI rm))] := hl
  refine lv_aload_n hx hb dX10_passBlanks_2 rfl (lv_at hl 0 rfl) ?_
  refine va_get (D := (dC, dI)) (ci := 13) (v := .int (nI i)) (C := RX10) (T := TX10) (N := 6) hx hb hu iuX10 hown hK hP 0 rfl rfl 1 (by decide) (hu _ mG_516) (fun _ h9 => h9) rfl dX10_passBlanks_3 ?_
  refine lv_aload_n hx hb dX10_passBlanks_6 rfl (lv_at hl 0 rfl) ?_
  refine va_get (D := (dC, dI)) (ci := 13) (v := .ref tx) (C := RX10) (T := TX10) (N := 6) hx hb hu iuX10 hown hK hP 0 rfl rfl 0 (by decide) (hu _ mG_515) (fun _ h9 => h9) rfl dX10_passBlanks_7 ?_
  refine va_get (D := (dC, dI)) (ci := 11) (v := .int (nI n)) (C := RX8) (T := TX8) (N := 3) hx hb hu iuX8 hown hK hP 1 rfl rfl 1 (by decide) (hu _ mG_265) (fun _ h9 => h9) rfl dX10_passBlanks_10 ?_
  refine lv_icmp_ge (tgt := 74) hx hb dX10_passBlanks_13 (by decide) (fun c13 => ?_) (fun c13 => ?_)
  · have hin : i = n := by have h := (nI_leI (by omega) (by omega)).mp c13; omega
    have hs2 : skp f n (n - a) false a = i := by rw [← hsk, hin, Nat.sub_self]; rfl
    have hP9 : va_P (dC, dI) vwCl [(w, .inr (13, [.ref tx, .int (nI (skp f n (n - a) false a)), .int kd, .int pl, .int nu, .long nm])), (tx, .inr (11, [.ref r, .int (nI n), .int lo])), (r, .inl (cB, cap, .inl f))] H := by rw [hs2]; exact hP
    have hD9 : va_D A [(w, .inr (13, [.ref tx, .int (nI (skp f n (n - a) false a)), .int kd, .int pl, .int nu, .long nm])), (tx, .inr (11, [.ref r, .int (nI n), .int lo])), (r, .inl (cB, cap, .inl f))] := by rw [hs2]; exact hD
    have hK9 := hK.sub (tys' := [(cB, .byte)]) [0] rfl
    exact W.vret hx hb hr (fun t ht hW => ⟨⟨(), rfl, trivial, by rw [ht]; exact hP9, va_K.moved hW.alike hK9, hD9⟩, hS.F ht⟩) hS.2.2 dX10_passBlanks_74
  · have hin : i < n := (nI_ltI (by omega) (by omega)).mp (Int32.not_le.mp c13)
    have hs1 : skp f n (n - i) rm i = (if f i = 10 then skp f n (n - (i + 1)) false (i + 1) else if f i = 35 then skp f n (n - (i + 1)) true (i + 1) else if f i = 32 then skp f n (n - (i + 1)) rm (i + 1) else if rm = true then skp f n (n - (i + 1)) rm (i + 1) else i) := by
      rw [show n - i = (n - (i + 1)) + 1 by omega]
      simp only [skp, if_pos hin]
    refine lv_aload_n hx hb dX10_passBlanks_16 rfl (lv_at hl 0 rfl) ?_
    refine va_get (D := (dC, dI)) (ci := 13) (v := .ref tx) (C := RX10) (T := TX10) (N := 6) hx hb hu iuX10 hown hK hP 0 rfl rfl 0 (by decide) (hu _ mG_515) (fun _ h9 => h9) rfl dX10_passBlanks_17 ?_
    refine lv_aload_n hx hb dX10_passBlanks_20 rfl (lv_at hl 0 rfl) ?_
    refine va_get (D := (dC, dI)) (ci := 13) (v := .int (nI i)) (C := RX10) (T := TX10) (N := 6) hx hb hu iuX10 hown hK hP 0 rfl rfl 1 (by decide) (hu _ mG_516) (fun _ h9 => h9) rfl dX10_passBlanks_21 ?_
    have hPc := hP.sub (ws' := [(tx, .inr (11, [.ref r, .int (nI n), .int lo])), (r, .inl (cB, cap, .inl f))]) [1, 2] rfl
    have hDc := hD.sub (ws' := [(tx, .inr (11, [.ref r, .int (nI n), .int lo])), (r, .inl (cB, cap, .inl f))]) [1, 2] (by decide) rfl
    have hKc := hK.sub (tys' := [(cB, .byte)]) [0] rfl
    have hFc := va_free (wc := [(tx, .inr (11, [.ref r, .int (nI n), .int lo])), (r, .inl (cB, cap, .inl f))]) hD hS hA [1, 2] rfl
    refine va_calli (va_runV (As := [.int (nI i)]) (rest := []) ⟨hx, hb, hml, hown, hu⟩ (kX8_signAt l dC dI H.size tx r cap n lo f cB (nI i) hn hc) (cwV 1 hu (uG_V (fun _ h => h) mG_929 mG_926 mG_927 mG_928 mG_215) rfl rfl rfl (by decide +kernel) ⟨Nat.le_of_ble_eq_true rfl, Nat.le_of_ble_eq_true rfl⟩) ⟨fun a U g mk q => by obtain ⟨q0, q1, qP, qK, qD⟩ := q; exact ⟨q0, q1, qP, va_K.moved (u := U) (U := U.calling g mk a) (Vm.Alike.refl U.vm) qK, qD⟩, va_recv hKc hPc (ci := 11) (q0 := 0) rfl rfl, fun U hU hW => ⟨rfl, by rw [hU], by rw [hU]; exact hPc, va_K.moved hW.alike hKc, hDc.weaken (fun _ _ _ _ => trivial)⟩⟩ rfl rfl hl.1 rfl (lv_room (Nat.le_of_ble_eq_true rfl)) dX10_passBlanks_24 ⟨Nat.le_of_ble_eq_true rfl, Nat.le_of_ble_eq_true rfl⟩) hS (fun q _ h => hFc q h) hFc (fun r24 u t H1 locs ht hvm hw hB hz1 hk1 hS => ?_)
    obtain ⟨hP1, hK1, hD1⟩ := hB
    rw [ht] at hP1
    obtain ⟨hP, hD⟩ := va_join (wr := [(w, .inr (13, [.ref tx, .int (nI i), .int kd, .int pl, .int nu, .long nm]))]) (w1 := [(tx, .inr (11, [.ref r, .int (nI n), .int lo])), (r, .inl (cB, cap, .inl f))]) hP hD [1, 2] [0] rfl rfl (by decide) (by decide) hk1 hFc hP1 hD1
    generalize H1 = H at hP hS ⊢
    have hP : va_P (dC, dI) vwCl [(w, .inr (13, [.ref tx, .int (nI i), .int kd, .int pl, .int nu, .long nm])), (tx, .inr (11, [.ref r, .int (nI n), .int lo])), (r, .inl (cB, cap, .inl f))] H := hP
    have hD : va_D A [(w, .inr (13, [.ref tx, .int (nI i), .int kd, .int pl, .int nu, .long nm])), (tx, .inr (11, [.ref r, .int (nI n), .int lo])), (r, .inl (cB, cap, .inl f))] := hD
    have er24 : r24 = (if ¬ nI i < 0 ∧ nI i < nI n then f (nI i).toNatClampNeg else (-1)) := hw
    subst er24
    rw [show (if ¬ nI i < 0 ∧ nI i < nI n then f (nI i).toNatClampNeg else (-1)) = f i by rw [if_pos ⟨nI_pos (by omega), (nI_ltI (by omega) (by omega)).mpr hin⟩, nI_clamp (by omega)]]
    refine lv_istore_n (lv' := [(2, .int (f i)), (0, .ref w), (1, .int (bI rm))]) hx hb dX10_passBlanks_27 rfl hl (by decide) rfl (fun ls hl => ?_)
    refine lv_iload_n hx hb dX10_passBlanks_28 rfl (lv_at hl 0 rfl) ?_
    refine lv_bipush (v := 10) hx hb dX10_passBlanks_29 (by decide) ?_
    refine lv_icmp_ne (tgt := 39) hx hb dX10_passBlanks_31 (by decide) (fun c31 => ?_) (fun c31 => ?_)
    · refine lv_iload_n hx hb dX10_passBlanks_39 rfl (lv_at hl 0 rfl) ?_
      refine lv_bipush (v := 35) hx hb dX10_passBlanks_40 (by decide) ?_
      refine lv_icmp_ne (tgt := 50) hx hb dX10_passBlanks_42 (by decide) (fun c42 => ?_) (fun c42 => ?_)
      · refine lv_iload_n hx hb dX10_passBlanks_50 rfl (lv_at hl 0 rfl) ?_
        refine lv_bipush (v := 32) hx hb dX10_passBlanks_51 (by decide) ?_
        refine lv_icmp_eq (tgt := 61) hx hb dX10_passBlanks_53 (by decide) (fun c53 => ?_) (fun c53 => ?_)
        · have hs2 : skp f n (n - (i + 1)) rm (i + 1) = skp f n (n - a) false a := by rw [← hsk, hs1, if_neg c31, if_neg c42, if_pos c53]
          refine lv_aload_n hx hb dX10_passBlanks_61 rfl (lv_at hl 1 rfl) ?_
          refine lv_dup hx hb dX10_passBlanks_62 rfl ?_
          refine va_get (D := (dC, dI)) (ci := 13) (v := .int (nI i)) (C := RX10) (T := TX10) (N := 6) hx hb hu iuX10 hown hK hP 0 rfl rfl 1 (by decide) (hu _ mG_516) (fun _ h9 => h9) rfl dX10_passBlanks_63 ?_
          refine lv_iconst (v := 1) hx hb dX10_passBlanks_66 (by decide) ?_
          refine lv_iadd hx hb dX10_passBlanks_67 ?_
          refine lv_topi (fun x67 ex67 => ?_)
          obtain rfl : x67 = (nI (i + 1)) := by rw [ex67]; exact nI_1 i
          refine va_put (D := (dC, dI)) (ci := 13) (v := .int (nI (i + 1))) (ty := (tyX10 1)) (C := RX10) (T := TX10) (N := 6) hx hb hu iuX10 tyX10 tyX10_ok nmX10 hown hK hP hD hS 0 rfl rfl 1 (by decide) (hu _ mG_516) (fun _ h9 => h9) rfl (by decide +kernel) (rfl) (rfl) (Nat.le_of_ble_eq_true rfl) dX10_passBlanks_68 (fun H locs hP hD hS => ?_)
          have hP : va_P (dC, dI) vwCl [(w, .inr (13, [.ref tx, .int (nI (i + 1)), .int kd, .int pl, .int nu, .long nm])), (tx, .inr (11, [.ref r, .int (nI n), .int lo])), (r, .inl (cB, cap, .inl f))] H := hP
          have hD : va_D A [(w, .inr (13, [.ref tx, .int (nI (i + 1)), .int kd, .int pl, .int nu, .long nm])), (tx, .inr (11, [.ref r, .int (nI n), .int lo])), (r, .inl (cB, cap, .inl f))] := hD
          refine lv_goto (tgt := 2) hx hb dX10_passBlanks_71 (by decide) ?_
          exact ih2 (i + 1, rm) _ _ _ ⟨by omega, hs2, hP, hD, hS, lv_sub hl [1, 2] rfl⟩ (by omega)
        · refine lv_iload_n hx hb dX10_passBlanks_56 rfl (lv_at hl 2 rfl) ?_
          refine lv_if_ne (tgt := 61) hx hb dX10_passBlanks_57 (by decide) (fun c57 => ?_) (fun c57 => ?_)
          · have hs2 : skp f n (n - (i + 1)) rm (i + 1) = skp f n (n - a) false a := by rw [← hsk, hs1, if_neg c31, if_neg c42, if_neg c53, if_pos (bI_n c57)]
            refine lv_aload_n hx hb dX10_passBlanks_61 rfl (lv_at hl 1 rfl) ?_
            refine lv_dup hx hb dX10_passBlanks_62 rfl ?_
            refine va_get (D := (dC, dI)) (ci := 13) (v := .int (nI i)) (C := RX10) (T := TX10) (N := 6) hx hb hu iuX10 hown hK hP 0 rfl rfl 1 (by decide) (hu _ mG_516) (fun _ h9 => h9) rfl dX10_passBlanks_63 ?_
            refine lv_iconst (v := 1) hx hb dX10_passBlanks_66 (by decide) ?_
            refine lv_iadd hx hb dX10_passBlanks_67 ?_
            refine lv_topi (fun x67 ex67 => ?_)
            obtain rfl : x67 = (nI (i + 1)) := by rw [ex67]; exact nI_1 i
            refine va_put (D := (dC, dI)) (ci := 13) (v := .int (nI (i + 1))) (ty := (tyX10 1)) (C := RX10) (T := TX10) (N := 6) hx hb hu iuX10 tyX10 tyX10_ok nmX10 hown hK hP hD hS 0 rfl rfl 1 (by decide) (hu _ mG_516) (fun _ h9 => h9) rfl (by decide +kernel) (rfl) (rfl) (Nat.le_of_ble_eq_true rfl) dX10_passBlanks_68 (fun H locs hP hD hS => ?_)
            have hP : va_P (dC, dI) vwCl [(w, .inr (13, [.ref tx, .int (nI (i + 1)), .int kd, .int pl, .int nu, .long nm])), (tx, .inr (11, [.ref r, .int (nI n), .int lo])), (r, .inl (cB, cap, .inl f))] H := hP
            have hD : va_D A [(w, .inr (13, [.ref tx, .int (nI (i + 1)), .int kd, .int pl, .int nu, .long nm])), (tx, .inr (11, [.ref r, .int (nI n), .int lo])), (r, .inl (cB, cap, .inl f))] := hD
            refine lv_goto (tgt := 2) hx hb dX10_passBlanks_71 (by decide) ?_
            exact ih2 (i + 1, rm) _ _ _ ⟨by omega, hs2, hP, hD, hS, lv_sub hl [1, 2] rfl⟩ (by omega)
          · have hs2 : skp f n (n - a) false a = i := by rw [← hsk, hs1, if_neg c31, if_neg c42, if_neg c53, if_neg (by rw [bI_0 c57]; decide)]
            have hP9 : va_P (dC, dI) vwCl [(w, .inr (13, [.ref tx, .int (nI (skp f n (n - a) false a)), .int kd, .int pl, .int nu, .long nm])), (tx, .inr (11, [.ref r, .int (nI n), .int lo])), (r, .inl (cB, cap, .inl f))] H := by rw [hs2]; exact hP
            have hD9 : va_D A [(w, .inr (13, [.ref tx, .int (nI (skp f n (n - a) false a)), .int kd, .int pl, .int nu, .long nm])), (tx, .inr (11, [.ref r, .int (nI n), .int lo])), (r, .inl (cB, cap, .inl f))] := by rw [hs2]; exact hD
            have hK9 := hK.sub (tys' := [(cB, .byte)]) [0] rfl
            exact W.vret hx hb hr (fun t ht hW => ⟨⟨(), rfl, trivial, by rw [ht]; exact hP9, va_K.moved hW.alike hK9, hD9⟩, hS.F ht⟩) hS.2.2 dX10_passBlanks_60
      · have hs2 : skp f n (n - (i + 1)) true (i + 1) = skp f n (n - a) false a := by rw [← hsk, hs1, if_neg c31, if_pos c42]
        refine lv_iconst (v := 1) hx hb dX10_passBlanks_45 (by decide) ?_
        refine lv_istore_n (lv' := [(1, .int 1), (2, .int (f i)), (0, .ref w)]) hx hb dX10_passBlanks_46 rfl hl (by decide) rfl (fun ls hl => ?_)
        refine lv_goto (tgt := 61) hx hb dX10_passBlanks_47 (by decide) ?_
        refine lv_aload_n hx hb dX10_passBlanks_61 rfl (lv_at hl 2 rfl) ?_
        refine lv_dup hx hb dX10_passBlanks_62 rfl ?_
        refine va_get (D := (dC, dI)) (ci := 13) (v := .int (nI i)) (C := RX10) (T := TX10) (N := 6) hx hb hu iuX10 hown hK hP 0 rfl rfl 1 (by decide) (hu _ mG_516) (fun _ h9 => h9) rfl dX10_passBlanks_63 ?_
        refine lv_iconst (v := 1) hx hb dX10_passBlanks_66 (by decide) ?_
        refine lv_iadd hx hb dX10_passBlanks_67 ?_
        refine lv_topi (fun x67 ex67 => ?_)
        obtain rfl : x67 = (nI (i + 1)) := by rw [ex67]; exact nI_1 i
        refine va_put (D := (dC, dI)) (ci := 13) (v := .int (nI (i + 1))) (ty := (tyX10 1)) (C := RX10) (T := TX10) (N := 6) hx hb hu iuX10 tyX10 tyX10_ok nmX10 hown hK hP hD hS 0 rfl rfl 1 (by decide) (hu _ mG_516) (fun _ h9 => h9) rfl (by decide +kernel) (rfl) (rfl) (Nat.le_of_ble_eq_true rfl) dX10_passBlanks_68 (fun H locs hP hD hS => ?_)
        have hP : va_P (dC, dI) vwCl [(w, .inr (13, [.ref tx, .int (nI (i + 1)), .int kd, .int pl, .int nu, .long nm])), (tx, .inr (11, [.ref r, .int (nI n), .int lo])), (r, .inl (cB, cap, .inl f))] H := hP
        have hD : va_D A [(w, .inr (13, [.ref tx, .int (nI (i + 1)), .int kd, .int pl, .int nu, .long nm])), (tx, .inr (11, [.ref r, .int (nI n), .int lo])), (r, .inl (cB, cap, .inl f))] := hD
        refine lv_goto (tgt := 2) hx hb dX10_passBlanks_71 (by decide) ?_
        exact ih2 (i + 1, true) _ _ _ ⟨by omega, hs2, hP, hD, hS, lv_sub hl [2, 0] rfl⟩ (by omega)
    · have hs2 : skp f n (n - (i + 1)) false (i + 1) = skp f n (n - a) false a := by rw [← hsk, hs1, if_pos c31]
      refine lv_iconst (v := 0) hx hb dX10_passBlanks_34 (by decide) ?_
      refine lv_istore_n (lv' := [(1, .int 0), (2, .int (f i)), (0, .ref w)]) hx hb dX10_passBlanks_35 rfl hl (by decide) rfl (fun ls hl => ?_)
      refine lv_goto (tgt := 61) hx hb dX10_passBlanks_36 (by decide) ?_
      refine lv_aload_n hx hb dX10_passBlanks_61 rfl (lv_at hl 2 rfl) ?_
      refine lv_dup hx hb dX10_passBlanks_62 rfl ?_
      refine va_get (D := (dC, dI)) (ci := 13) (v := .int (nI i)) (C := RX10) (T := TX10) (N := 6) hx hb hu iuX10 hown hK hP 0 rfl rfl 1 (by decide) (hu _ mG_516) (fun _ h9 => h9) rfl dX10_passBlanks_63 ?_
      refine lv_iconst (v := 1) hx hb dX10_passBlanks_66 (by decide) ?_
      refine lv_iadd hx hb dX10_passBlanks_67 ?_
      refine lv_topi (fun x67 ex67 => ?_)
      obtain rfl : x67 = (nI (i + 1)) := by rw [ex67]; exact nI_1 i
      refine va_put (D := (dC, dI)) (ci := 13) (v := .int (nI (i + 1))) (ty := (tyX10 1)) (C := RX10) (T := TX10) (N := 6) hx hb hu iuX10 tyX10 tyX10_ok nmX10 hown hK hP hD hS 0 rfl rfl 1 (by decide) (hu _ mG_516) (fun _ h9 => h9) rfl (by decide +kernel) (rfl) (rfl) (Nat.le_of_ble_eq_true rfl) dX10_passBlanks_68 (fun H locs hP hD hS => ?_)
      have hP : va_P (dC, dI) vwCl [(w, .inr (13, [.ref tx, .int (nI (i + 1)), .int kd, .int pl, .int nu, .long nm])), (tx, .inr (11, [.ref r, .int (nI n), .int lo])), (r, .inl (cB, cap, .inl f))] H := hP
      have hD : va_D A [(w, .inr (13, [.ref tx, .int (nI (i + 1)), .int kd, .int pl, .int nu, .long nm])), (tx, .inr (11, [.ref r, .int (nI n), .int lo])), (r, .inl (cB, cap, .inl f))] := hD
      refine lv_goto (tgt := 2) hx hb dX10_passBlanks_71 (by decide) ?_
      exact ih2 (i + 1, false) _ _ _ ⟨by omega, hs2, hP, hD, hS, lv_sub hl [2, 0] rfl⟩ (by omega)
