theorem mG_3 : Cond.selects "LazyForge$Words" yX10_kindOfName yX10_kindOfName ∈ uG := uG_at 3 (by decide +kernel) (by decide +kernel)
theorem mG_930 : Cond.methodLink "LazyForge$Words" 37 yX10_isSmall ∈ uG := uG_at 930 (by decide +kernel) (by decide +kernel)
theorem mG_931 : Cond.static yX10_isSmall ∈ uG := uG_at 931 (by decide +kernel) (by decide +kernel)
theorem mG_932 : Cond.code yX10_isSmall prog_12_method_10_code 1 (some .boolean) ∈ uG := uG_at 932 (by decide +kernel) (by decide +kernel)
theorem mG_933 : Cond.methodLink "LazyForge$Words" 41 yX10_isGreat ∈ uG := uG_at 933 (by decide +kernel) (by decide +kernel)
theorem mG_934 : Cond.static yX10_isGreat ∈ uG := uG_at 934 (by decide +kernel) (by decide +kernel)
theorem mG_935 : Cond.code yX10_isGreat prog_12_method_11_code 1 (some .boolean) ∈ uG := uG_at 935 (by decide +kernel) (by decide +kernel)
theorem mG_940 : Cond.methodLink "LazyForge$Words" 48 yX10_isDigit ∈ uG := uG_at 940 (by decide +kernel) (by decide +kernel)
theorem mG_941 : Cond.static yX10_isDigit ∈ uG := uG_at 941 (by decide +kernel) (by decide +kernel)
theorem mG_942 : Cond.code yX10_isDigit prog_12_method_12_code 1 (some .boolean) ∈ uG := uG_at 942 (by decide +kernel) (by decide +kernel)
theorem mG_943 : Cond.methodLink "LazyForge$Words" 64 yX10_kindOfName ∈ uG := uG_at 943 (by decide +kernel) (by decide +kernel)
theorem mG_945 : Cond.instanceMethod yX10_kindOfName ∈ uG := uG_at 945 (by decide +kernel) (by decide +kernel)
theorem mG_946 : Cond.code yX10_kindOfName prog_12_method_7_code 1 (some .int) ∈ uG := uG_at 946 (by decide +kernel) (by decide +kernel)
theorem dX10_readName_0 : decode cX10_readName 0 = .ok (.aload_n 0, 1) := by decide +kernel
theorem dX10_readName_1 : decode cX10_readName 1 = .ok (.lconst 0, 1) := by decide +kernel
theorem dX10_readName_2 : decode cX10_readName 2 = .ok (.putfield 60, 3) := by decide +kernel
theorem dX10_readName_5 : decode cX10_readName 5 = .ok (.iconst 0, 1) := by decide +kernel
theorem dX10_readName_6 : decode cX10_readName 6 = .ok (.istore_n 2, 1) := by decide +kernel
theorem dX10_readName_7 : decode cX10_readName 7 = .ok (.iload_n 1, 1) := by decide +kernel
theorem dX10_readName_8 : decode cX10_readName 8 = .ok (.istore_n 3, 1) := by decide +kernel
theorem dX10_readName_9 : decode cX10_readName 9 = .ok (.aload_n 0, 1) := by decide +kernel
theorem dX10_readName_10 : decode cX10_readName 10 = .ok (.getfield 15, 3) := by decide +kernel
theorem dX10_readName_13 : decode cX10_readName 13 = .ok (.aload_n 0, 1) := by decide +kernel
theorem dX10_readName_14 : decode cX10_readName 14 = .ok (.getfield 9, 3) := by decide +kernel
theorem dX10_readName_17 : decode cX10_readName 17 = .ok (.getfield 57, 3) := by decide +kernel
theorem dX10_readName_20 : decode cX10_readName 20 = .ok (.if_icmp .ge 63, 3) := by decide +kernel
theorem dX10_readName_23 : decode cX10_readName 23 = .ok (.iload_n 2, 1) := by decide +kernel
theorem dX10_readName_24 : decode cX10_readName 24 = .ok (.ifCond .eq 17, 3) := by decide +kernel
theorem dX10_readName_27 : decode cX10_readName 27 = .ok (.iload_n 3, 1) := by decide +kernel
theorem dX10_readName_28 : decode cX10_readName 28 = .ok (.invokestatic 37, 3) := by decide +kernel
theorem dX10_readName_31 : decode cX10_readName 31 = .ok (.ifCond .ne 10, 3) := by decide +kernel
theorem dX10_readName_34 : decode cX10_readName 34 = .ok (.iload_n 3, 1) := by decide +kernel
theorem dX10_readName_35 : decode cX10_readName 35 = .ok (.invokestatic 48, 3) := by decide +kernel
theorem dX10_readName_38 : decode cX10_readName 38 = .ok (.ifCond .eq 45, 3) := by decide +kernel
theorem dX10_readName_41 : decode cX10_readName 41 = .ok (.aload_n 0, 1) := by decide +kernel
theorem dX10_readName_42 : decode cX10_readName 42 = .ok (.aload_n 0, 1) := by decide +kernel
theorem dX10_readName_43 : decode cX10_readName 43 = .ok (.getfield 60, 3) := by decide +kernel
theorem dX10_readName_46 : decode cX10_readName 46 = .ok (.bipush 8, 2) := by decide +kernel
theorem dX10_readName_48 : decode cX10_readName 48 = .ok (.lshl, 1) := by decide +kernel
theorem dX10_readName_49 : decode cX10_readName 49 = .ok (.iload_n 3, 1) := by decide +kernel
theorem dX10_readName_50 : decode cX10_readName 50 = .ok (.i2l, 1) := by decide +kernel
theorem dX10_readName_51 : decode cX10_readName 51 = .ok (.lor, 1) := by decide +kernel
theorem dX10_readName_52 : decode cX10_readName 52 = .ok (.putfield 60, 3) := by decide +kernel
theorem dX10_readName_55 : decode cX10_readName 55 = .ok (.aload_n 0, 1) := by decide +kernel
theorem dX10_readName_56 : decode cX10_readName 56 = .ok (.dup, 1) := by decide +kernel
theorem dX10_readName_57 : decode cX10_readName 57 = .ok (.getfield 15, 3) := by decide +kernel
theorem dX10_readName_60 : decode cX10_readName 60 = .ok (.iconst 1, 1) := by decide +kernel
theorem dX10_readName_61 : decode cX10_readName 61 = .ok (.iadd, 1) := by decide +kernel
theorem dX10_readName_62 : decode cX10_readName 62 = .ok (.putfield 15, 3) := by decide +kernel
theorem dX10_readName_65 : decode cX10_readName 65 = .ok (.aload_n 0, 1) := by decide +kernel
theorem dX10_readName_66 : decode cX10_readName 66 = .ok (.getfield 9, 3) := by decide +kernel
theorem dX10_readName_69 : decode cX10_readName 69 = .ok (.aload_n 0, 1) := by decide +kernel
theorem dX10_readName_70 : decode cX10_readName 70 = .ok (.getfield 15, 3) := by decide +kernel
theorem dX10_readName_73 : decode cX10_readName 73 = .ok (.invokevirtual 31, 3) := by decide +kernel
theorem dX10_readName_76 : decode cX10_readName 76 = .ok (.istore_n 3, 1) := by decide +kernel
theorem dX10_readName_77 : decode cX10_readName 77 = .ok (.iinc 2 1, 3) := by decide +kernel
theorem dX10_readName_80 : decode cX10_readName 80 = .ok (.goto (-71), 3) := by decide +kernel
theorem dX10_readName_83 : decode cX10_readName 83 = .ok (.iload_n 2, 1) := by decide +kernel
theorem dX10_readName_84 : decode cX10_readName 84 = .ok (.bipush 8, 2) := by decide +kernel
theorem dX10_readName_86 : decode cX10_readName 86 = .ok (.if_icmp .le 11, 3) := by decide +kernel
theorem dX10_readName_89 : decode cX10_readName 89 = .ok (.aload_n 0, 1) := by decide +kernel
theorem dX10_readName_90 : decode cX10_readName 90 = .ok (.iconst 2, 1) := by decide +kernel
theorem dX10_readName_91 : decode cX10_readName 91 = .ok (.putfield 19, 3) := by decide +kernel
theorem dX10_readName_94 : decode cX10_readName 94 = .ok (.goto 22, 3) := by decide +kernel
theorem dX10_readName_97 : decode cX10_readName 97 = .ok (.aload_n 0, 1) := by decide +kernel
theorem dX10_readName_98 : decode cX10_readName 98 = .ok (.iload_n 1, 1) := by decide +kernel
theorem dX10_readName_99 : decode cX10_readName 99 = .ok (.invokestatic 41, 3) := by decide +kernel
theorem dX10_readName_102 : decode cX10_readName 102 = .ok (.ifCond .eq 7, 3) := by decide +kernel
theorem dX10_readName_105 : decode cX10_readName 105 = .ok (.iconst 4, 1) := by decide +kernel
theorem dX10_readName_106 : decode cX10_readName 106 = .ok (.goto 7, 3) := by decide +kernel
theorem dX10_readName_109 : decode cX10_readName 109 = .ok (.aload_n 0, 1) := by decide +kernel
theorem dX10_readName_110 : decode cX10_readName 110 = .ok (.invokevirtual 64, 3) := by decide +kernel
theorem dX10_readName_113 : decode cX10_readName 113 = .ok (.putfield 19, 3) := by decide +kernel
theorem dX10_readName_116 : decode cX10_readName 116 = .ok (.return_, 1) := by decide +kernel
/-- the sign at k, -1 behind the last -/
def sgn (f : Nat → Int32) (n k : Nat) : Int32 := if k < n then f k else (-1)
theorem sgn_at {f : Nat → Int32} {n k : Nat} (h : k < 2 ^ 31) (hn : n < 2 ^ 31) : (if ¬ nI k < 0 ∧ nI k < nI n then f (nI k).toNatClampNeg else (-1)) = sgn f n k := by
  unfold sgn
  by_cases hk : k < n
  · rw [if_pos hk, if_pos ⟨nI_pos h, (nI_ltI h hn).mpr hk⟩, nI_clamp h]
  · rw [if_neg hk, if_neg (fun q => hk ((nI_ltI h hn).mp q.2))]
/-- a name's signs, one byte each: the first i of those from p on -/
def nmA (f : Nat → Int32) (p : Nat) : Nat → Int64
  | 0 => 0
  | i + 1 => (nmA f p i <<< ((8 : Int32).toInt64 &&& 63)) ||| (f (p + i)).toInt64
/-- does the name that begins at p go on at its sign i -/
abbrev nmG (f : Nat → Int32) (n p i : Nat) : Prop := p + i < n ∧ (i = 0 ∨ ¬ cSmall (f (p + i)) = 0 ∨ ¬ cDigit (f (p + i)) = 0)
def nmE (f : Nat → Int32) (n p : Nat) : Nat → Nat → Nat
  | 0, i => i
  | k + 1, i => if nmG f n p i then nmE f n p k (i + 1) else i
set_option maxHeartbeats 4000000 in
set_option maxRecDepth 100000 in
/-- Words.readName(first) -/
theorem kX10_readName (l : Launch) (dC : Nat → ClassId) (dI : Nat → Nat → Nat) (sz : Nat) (w tx p : Nat) (kd pl nu : Int32) (nm : Int64) (r cap n : Nat) (lo : Int32) (f : Nat → Int32) (cB : ClassId) (hn : n ≤ cap) (hc : cap < 2 ^ 31) (hp : p < n) : Met l yX10_readName (Cond.code yX10_readName cX10_readName 4 none :: uG) ({ frames := 1, cells := 0, slots := 0, locals := 21 }) (va_Pc [.ref w, .int (f p)] (fun U => U.heap.size = sz ∧ va_P (dC, dI) vwCl [(w, .inr (13, [.ref tx, .int (nI p), .int kd, .int pl, .int nu, .long nm])), (tx, .inr (11, [.ref r, .int (nI n), .int lo])), (r, .inl (cB, cap, .inl f))] U.heap ∧ va_K (dC, dI) vwCl [(cB, .byte)] U ∧ va_D (fun _ => True) [(w, .inr (13, [.ref tx, .int (nI p), .int kd, .int pl, .int nu, .long nm])), (tx, .inr (11, [.ref r, .int (nI n), .int lo])), (r, .inl (cB, cap, .inl f))])) (va_Qv (S := Unit) (fun _ => True) (fun _ t => va_P (dC, dI) vwCl [(w, .inr (13, [.ref tx, .int (nI (p + (nmE f n p (n - p) 0))), .int (if nI (nmE f n p (n - p) 0) ≤ 8 then (if cGreat (f p) = 0 then kwd (nmA f p (nmE f n p (n - p) 0)) else 4) else 2), .int pl, .int nu, .long (nmA f p (nmE f n p (n - p) 0))])), (tx, .inr (11, [.ref r, .int (nI n), .int lo])), (r, .inl (cB, cap, .inl f))] t.heap ∧ va_K (dC, dI) vwCl [(cB, .byte)] t ∧ va_D (va_A [(w, .inr (13, [.ref tx, .int (nI p), .int kd, .int pl, .int nu, .long nm])), (tx, .inr (11, [.ref r, .int (nI n), .int lo])), (r, .inl (cB, cap, .inl f))] sz) [(w, .inr (13, [.ref tx, .int (nI (p + (nmE f n p (n - p) 0))), .int (if nI (nmE f n p (n - p) 0) ≤ 8 then (if cGreat (f p) = 0 then kwd (nmA f p (nmE f n p (n - p) 0)) else 4) else 2), .int pl, .int nu, .long (nmA f p (nmE f n p (n - p) 0))])), (tx, .inr (11, [.ref r, .int (nI n), .int lo])), (r, .inl (cB, cap, .inl f))]) (va_A [(w, .inr (13, [.ref tx, .int (nI p), .int kd, .int pl, .int nu, .long nm])), (tx, .inr (11, [.ref r, .int (nI n), .int lo])), (r, .inl (cB, cap, .inl f))] sz)) 0 0 (va_A [(w, .inr (13, [.ref tx, .int (nI p), .int kd, .int pl, .int nu, .long nm])), (tx, .inr (11, [.ref r, .int (nI n), .int lo])), (r, .inl (cB, cap, .inl f))] sz) := by
  refine Met.ofW (cc := cX10_readName) (maxL := 4) (ret := none) (by decide) rfl ?_
  intro pG eV s m args below meth c s₁ B hml hv
  obtain ⟨rfl, hsz, hP, hK, hD0⟩ := hv
  have hx := B.exec
  have hb := B.bytes
  have hr := B.returns
  have hts := atoms_spec (ws := Cond.code yX10_readName cX10_readName 4 none :: uG) B.pre
  have hu := fun (w : Cond) (h : w ∈ uG) => hts w (List.mem_cons_of_mem _ h)
  have hown : s.vm.findClass RX10 = some m.cls := findClass_of_methodNamed B.named
  have hlocks := B.notSynchronized
  subst hsz
  have hD := hD0.self (sz := s.heap.size)
  generalize hAe : va_A [(w, .inr (13, [.ref tx, .int (nI p), .int kd, .int pl, .int nu, .long nm])), (tx, .inr (11, [.ref r, .int (nI n), .int lo])), (r, .inl (cB, cap, .inl f))] s.heap.size = A at hD ⊢
  have hA : ∀ q : Nat, s.heap.size ≤ q → A q := fun q h => by rw [← hAe]; exact Or.inr h
  have hS : va_S A s.heap s.heap [] := va_S.rf
  have hP : va_P (dC, dI) vwCl [(w, .inr (13, [.ref tx, .int (nI p), .int kd, .int pl, .int nu, .long nm])), (tx, .inr (11, [.ref r, .int (nI n), .int lo])), (r, .inl (cB, cap, .inl f))] s.heap := hP
  have hD : va_D A [(w, .inr (13, [.ref tx, .int (nI p), .int kd, .int pl, .int nu, .long nm])), (tx, .inr (11, [.ref r, .int (nI n), .int lo])), (r, .inl (cB, cap, .inl f))] := hD
  have hl := lv_entry ([.ref w, .int (f p)]) (n := 4) (Nat.le_of_ble_eq_true rfl)
  rw [lg_entry_eq]
  generalize (lg_sl ([.ref w, .int (f p)]) ++ List.replicate (4 - (lg_sl ([.ref w, .int (f p)])).length) Slot.unset).toArray = ls at hl ⊢
  have hl : lv_has ls 4 [(0, .ref w), (1, .int (f p))] := hl
  refine lv_aload_n hx hb dX10_readName_0 rfl (lv_at hl 0 rfl) ?_
  refine lv_lconst (v := 0) hx hb dX10_readName_1 rfl ?_
  refine va_put (D := (dC, dI)) (ci := 13) (v := .long 0) (ty := (tyX10 5)) (C := RX10) (T := TX10) (N := 6) hx hb hu iuX10 tyX10 tyX10_ok nmX10 hown hK hP hD hS 0 rfl rfl 5 (by decide) (hu _ mG_523) (fun _ h9 => h9) rfl (by decide +kernel) (rfl) (rfl) (Nat.le_of_ble_eq_true rfl) dX10_readName_2 (fun H locs hP hD hS => ?_)
  have hP : va_P (dC, dI) vwCl [(w, .inr (13, [.ref tx, .int (nI p), .int kd, .int pl, .int nu, .long 0])), (tx, .inr (11, [.ref r, .int (nI n), .int lo])), (r, .inl (cB, cap, .inl f))] H := hP
  have hD : va_D A [(w, .inr (13, [.ref tx, .int (nI p), .int kd, .int pl, .int nu, .long 0])), (tx, .inr (11, [.ref r, .int (nI n), .int lo])), (r, .inl (cB, cap, .inl f))] := hD
  refine lv_iconst (v := 0) hx hb dX10_readName_5 (by decide) ?_
  refine lv_istore_n (lv' := [(2, .int 0), (0, .ref w), (1, .int (f p))]) hx hb dX10_readName_6 rfl hl (by decide) rfl (fun ls hl => ?_)
  refine lv_iload_n hx hb dX10_readName_7 rfl (lv_at hl 2 rfl) ?_
  refine lv_istore_n (lv' := [(3, .int (f p)), (2, .int 0), (0, .ref w), (1, .int (f p))]) hx hb dX10_readName_8 rfl hl (by decide) rfl (fun ls hl => ?_)
  refine uLoop (σ := Nat) (fun xv H locs ls => (p + xv ≤ n) ∧ (nmE f n p (n - (p + xv)) xv = (nmE f n p (n - p) 0)) ∧ va_P (dC, dI) vwCl [(w, .inr (13, [.ref tx, .int (nI (p + xv)), .int kd, .int pl, .int nu, .long (nmA f p xv)])), (tx, .inr (11, [.ref r, .int (nI n), .int lo])), (r, .inl (cB, cap, .inl f))] H ∧ va_D A [(w, .inr (13, [.ref tx, .int (nI (p + xv)), .int kd, .int pl, .int nu, .long (nmA f p xv)])), (tx, .inr (11, [.ref r, .int (nI n), .int lo])), (r, .inl (cB, cap, .inl f))] ∧ va_S A s.heap H locs ∧ lv_has ls 4 [(0, .ref w), (1, .int (f p)), (2, .int (nI xv)), (3, .int (sgn f n (p + xv)))]) (fun xv => n - (p + xv)) (fun xv H locs ls hI ih9 => ?_) (0) ⟨by omega, rfl, hP, hD, hS, by rw [show sgn f n (p + 0) = f p from if_pos hp]; exact lv_sub hl [2, 3, 1, 0] rfl⟩
  obtain ⟨i, hxv⟩ : ∃ z, z = xv := ⟨_, rfl⟩
  subst hxv
  obtain ⟨hi, hsk, hP, hD, hS, hl⟩ := hI
  have hi : p + i ≤ n := hi
  have hsk : nmE f n p (n - (p + i)) i = (nmE f n p (n - p) 0) := hsk
  have hP : va_P (dC, dI) vwCl [(w, .inr (13, [.ref tx, .int (nI (p + i)), .int kd, .int pl, .int nu, .long (nmA f p i)])), (tx, .inr (11, [.ref r, .int (nI n), .int lo])), (r, .inl (cB, cap, .inl f))] H := hP
  have hD : va_D A [(w, .inr (13, [.ref tx, .int (nI (p + i)), .int kd, .int pl, .int nu, .long (nmA f p i)])), (tx, .inr (11, [.ref r, .int (nI n), .int lo])), (r, .inl (cB, cap, .inl f))] := hD
  have hl : lv_has ls 4 [(0, .ref w), (1, .int (f p)), (2, .int (nI i)), (3, .int (sgn f n (p + i)))] := hl
  refine lv_aload_n hx hb dX10_readName_9 rfl (lv_at hl 0 rfl) ?_
  refine va_get (D := (dC, dI)) (ci := 13) (v := .int (nI (p + i))) (C := RX10) (T := TX10) (N := 6) hx hb hu iuX10 hown hK hP 0 rfl rfl 1 (by decide) (hu _ mG_516) (fun _ h9 => h9) rfl dX10_readName_10 ?_
  refine lv_aload_n hx hb dX10_readName_13 rfl (lv_at hl 0 rfl) ?_
  refine va_get (D := (dC, dI)) (ci := 13) (v := .ref tx) (C := RX10) (T := TX10) (N := 6) hx hb hu iuX10 hown hK hP 0 rfl rfl 0 (by decide) (hu _ mG_515) (fun _ h9 => h9) rfl dX10_readName_14 ?_
  refine va_get (D := (dC, dI)) (ci := 11) (v := .int (nI n)) (C := RX8) (T := TX8) (N := 3) hx hb hu iuX8 hown hK hP 1 rfl rfl 1 (by decide) (hu _ mG_265) (fun _ h9 => h9) rfl dX10_readName_17 ?_
  refine lv_icmp_ge (tgt := 83) hx hb dX10_readName_20 (by decide) (fun c20 => ?_) (fun c20 => ?_)
  · have hL : (nmE f n p (n - p) 0) = i := by
      rw [← hsk]
      have h20 := (nI_leI (by omega) (by omega)).mp c20
      rw [show n - (p + i) = 0 by omega]; rfl
    refine lv_iload_n hx hb dX10_readName_83 rfl (lv_at hl 2 rfl) ?_
    refine lv_bipush (v := 8) hx hb dX10_readName_84 (by decide) ?_
    refine lv_icmp_le (tgt := 97) hx hb dX10_readName_86 (by decide) (fun c86 => ?_) (fun c86 => ?_)
    · refine lv_aload_n hx hb dX10_readName_97 rfl (lv_at hl 0 rfl) ?_
      refine lv_iload_n hx hb dX10_readName_98 rfl (lv_at hl 1 rfl) ?_
      have hPc := hP.sub (ws' := []) [] rfl
      have hDc := hD.sub (ws' := []) [] (by decide) rfl
      have hKc := hK.sub (tys' := []) [] rfl
      have hFc := va_free (wc := []) hD hS hA [] rfl
      refine va_calli (va_runS (As := [.int (f p)]) (rest := [.ref w]) ⟨hx, hb, hml, hown, hu⟩ (kX10_isGreat l dC dI H.size (f p)) (cwS 1 hu (uG_S (fun _ h => h) mG_935 mG_933 mG_934 mG_220) rfl rfl rfl (by decide +kernel) ⟨Nat.le_of_ble_eq_true rfl, Nat.le_of_ble_eq_true rfl⟩) ⟨fun a U g mk q => by obtain ⟨q0, q1, qP, qK, qD⟩ := q; exact ⟨q0, q1, qP, va_K.moved (u := U) (U := U.calling g mk a) (Vm.Alike.refl U.vm) qK, qD⟩, fun U hU hW => ⟨rfl, by rw [hU], by rw [hU]; exact hPc, va_K.moved hW.alike hKc, hDc.weaken (fun _ _ _ _ => trivial)⟩⟩ rfl rfl hl.1 rfl (lv_room (Nat.le_of_ble_eq_true rfl)) dX10_readName_99 ⟨Nat.le_of_ble_eq_true rfl, Nat.le_of_ble_eq_true rfl⟩) hS (fun q _ h => hFc q h) hFc (fun r99 u t H1 locs ht hvm hw hB hz1 hk1 hS => ?_)
      obtain ⟨hP1, hK1, hD1⟩ := hB
      rw [ht] at hP1
      obtain ⟨hP, hD⟩ := va_join (wr := [(w, .inr (13, [.ref tx, .int (nI (p + i)), .int kd, .int pl, .int nu, .long (nmA f p i)])), (tx, .inr (11, [.ref r, .int (nI n), .int lo])), (r, .inl (cB, cap, .inl f))]) (w1 := []) hP hD [] [0, 1, 2] rfl rfl (by decide) (by decide) hk1 hFc hP1 hD1
      generalize H1 = H at hP hS ⊢
      have hP : va_P (dC, dI) vwCl [(w, .inr (13, [.ref tx, .int (nI (p + i)), .int kd, .int pl, .int nu, .long (nmA f p i)])), (tx, .inr (11, [.ref r, .int (nI n), .int lo])), (r, .inl (cB, cap, .inl f))] H := hP
      have hD : va_D A [(w, .inr (13, [.ref tx, .int (nI (p + i)), .int kd, .int pl, .int nu, .long (nmA f p i)])), (tx, .inr (11, [.ref r, .int (nI n), .int lo])), (r, .inl (cB, cap, .inl f))] := hD
      have er99 : r99 = (cGreat (f p)) := hw
      subst er99
      refine lv_if_eq (tgt := 109) hx hb dX10_readName_102 (by decide) (fun c102 => ?_) (fun c102 => ?_)
      · refine lv_aload_n hx hb dX10_readName_109 rfl (lv_at hl 0 rfl) ?_
        have hPc := hP.sub (ws' := [(w, .inr (13, [.ref tx, .int (nI (p + i)), .int kd, .int pl, .int nu, .long (nmA f p i)]))]) [0] rfl
        have hDc := hD.sub (ws' := [(w, .inr (13, [.ref tx, .int (nI (p + i)), .int kd, .int pl, .int nu, .long (nmA f p i)]))]) [0] (by decide) rfl
        have hKc := hK.sub (tys' := []) [] rfl
        have hFc := va_free (wc := [(w, .inr (13, [.ref tx, .int (nI (p + i)), .int kd, .int pl, .int nu, .long (nmA f p i)]))]) hD hS hA [0] rfl
        refine va_calli (va_runV (As := []) (rest := [.ref w]) ⟨hx, hb, hml, hown, hu⟩ (kX10_kindOfName l dC dI H.size w tx (nI (p + i)) kd pl nu (nmA f p i)) (cwV 0 hu (uG_V (fun _ h => h) mG_946 mG_943 mG_945 mG_3 mG_220) rfl rfl rfl (by decide +kernel) ⟨Nat.le_of_ble_eq_true rfl, Nat.le_of_ble_eq_true rfl⟩) ⟨fun a U g mk q => by obtain ⟨q0, q1, qP, qK, qD⟩ := q; exact ⟨q0, q1, qP, va_K.moved (u := U) (U := U.calling g mk a) (Vm.Alike.refl U.vm) qK, qD⟩, va_recv hKc hPc (ci := 13) (q0 := 0) rfl rfl, fun U hU hW => ⟨rfl, by rw [hU], by rw [hU]; exact hPc, va_K.moved hW.alike hKc, hDc.weaken (fun _ _ _ _ => trivial)⟩⟩ rfl rfl hl.1 rfl (lv_room (Nat.le_of_ble_eq_true rfl)) dX10_readName_110 ⟨Nat.le_of_ble_eq_true rfl, Nat.le_of_ble_eq_true rfl⟩) hS (fun q _ h => hFc q h) hFc (fun r110 u t H1 locs ht hvm hw hB hz1 hk1 hS => ?_)
        obtain ⟨hP1, hK1, hD1⟩ := hB
        rw [ht] at hP1
        obtain ⟨hP, hD⟩ := va_join (wr := [(tx, .inr (11, [.ref r, .int (nI n), .int lo])), (r, .inl (cB, cap, .inl f))]) (w1 := [(w, .inr (13, [.ref tx, .int (nI (p + i)), .int kd, .int pl, .int nu, .long (nmA f p i)]))]) hP hD [0] [1, 2] rfl rfl (by decide) (by decide) hk1 hFc hP1 hD1
        generalize H1 = H at hP hS ⊢
        have hP : va_P (dC, dI) vwCl [(tx, .inr (11, [.ref r, .int (nI n), .int lo])), (r, .inl (cB, cap, .inl f)), (w, .inr (13, [.ref tx, .int (nI (p + i)), .int kd, .int pl, .int nu, .long (nmA f p i)]))] H := hP
        have hD : va_D A [(tx, .inr (11, [.ref r, .int (nI n), .int lo])), (r, .inl (cB, cap, .inl f)), (w, .inr (13, [.ref tx, .int (nI (p + i)), .int kd, .int pl, .int nu, .long (nmA f p i)]))] := hD
        have er110 : r110 = (kwd (nmA f p i)) := hw
        subst er110
        refine va_put (D := (dC, dI)) (ci := 13) (v := .int (kwd (nmA f p i))) (ty := (tyX10 2)) (C := RX10) (T := TX10) (N := 6) hx hb hu iuX10 tyX10 tyX10_ok nmX10 hown hK hP hD hS 2 rfl rfl 2 (by decide) (hu _ mG_517) (fun _ h9 => h9) rfl (by decide +kernel) (rfl) (rfl) (Nat.le_of_ble_eq_true rfl) dX10_readName_113 (fun H locs hP hD hS => ?_)
        have hP : va_P (dC, dI) vwCl [(tx, .inr (11, [.ref r, .int (nI n), .int lo])), (r, .inl (cB, cap, .inl f)), (w, .inr (13, [.ref tx, .int (nI (p + i)), .int (kwd (nmA f p i)), .int pl, .int nu, .long (nmA f p i)]))] H := hP
        have hD : va_D A [(tx, .inr (11, [.ref r, .int (nI n), .int lo])), (r, .inl (cB, cap, .inl f)), (w, .inr (13, [.ref tx, .int (nI (p + i)), .int (kwd (nmA f p i)), .int pl, .int nu, .long (nmA f p i)]))] := hD
        have hP9 : va_P (dC, dI) vwCl [(w, .inr (13, [.ref tx, .int (nI (p + (nmE f n p (n - p) 0))), .int (if nI (nmE f n p (n - p) 0) ≤ 8 then (if cGreat (f p) = 0 then kwd (nmA f p (nmE f n p (n - p) 0)) else 4) else 2), .int pl, .int nu, .long (nmA f p (nmE f n p (n - p) 0))])), (tx, .inr (11, [.ref r, .int (nI n), .int lo])), (r, .inl (cB, cap, .inl f))] H := by simp only [hL, if_pos c86, if_pos c102]; exact hP.sub [2, 0, 1] rfl
        have hD9 : va_D A [(w, .inr (13, [.ref tx, .int (nI (p + (nmE f n p (n - p) 0))), .int (if nI (nmE f n p (n - p) 0) ≤ 8 then (if cGreat (f p) = 0 then kwd (nmA f p (nmE f n p (n - p) 0)) else 4) else 2), .int pl, .int nu, .long (nmA f p (nmE f n p (n - p) 0))])), (tx, .inr (11, [.ref r, .int (nI n), .int lo])), (r, .inl (cB, cap, .inl f))] := by simp only [hL, if_pos c86, if_pos c102]; exact hD.sub [2, 0, 1] (by decide) rfl
        have hK9 := hK.sub (tys' := [(cB, .byte)]) [0] rfl
        exact W.vret hx hb hr (fun t ht hW => ⟨⟨(), rfl, trivial, by rw [ht]; exact hP9, va_K.moved hW.alike hK9, hD9⟩, hS.F ht⟩) hS.2.2 dX10_readName_116
      · refine lv_iconst (v := 4) hx hb dX10_readName_105 (by decide) ?_
        refine lv_goto (tgt := 113) hx hb dX10_readName_106 (by decide) ?_
        refine va_put (D := (dC, dI)) (ci := 13) (v := .int 4) (ty := (tyX10 2)) (C := RX10) (T := TX10) (N := 6) hx hb hu iuX10 tyX10 tyX10_ok nmX10 hown hK hP hD hS 0 rfl rfl 2 (by decide) (hu _ mG_517) (fun _ h9 => h9) rfl (by decide +kernel) (rfl) (rfl) (Nat.le_of_ble_eq_true rfl) dX10_readName_113 (fun H locs hP hD hS => ?_)
        have hP : va_P (dC, dI) vwCl [(w, .inr (13, [.ref tx, .int (nI (p + i)), .int 4, .int pl, .int nu, .long (nmA f p i)])), (tx, .inr (11, [.ref r, .int (nI n), .int lo])), (r, .inl (cB, cap, .inl f))] H := hP
        have hD : va_D A [(w, .inr (13, [.ref tx, .int (nI (p + i)), .int 4, .int pl, .int nu, .long (nmA f p i)])), (tx, .inr (11, [.ref r, .int (nI n), .int lo])), (r, .inl (cB, cap, .inl f))] := hD
        have hP9 : va_P (dC, dI) vwCl [(w, .inr (13, [.ref tx, .int (nI (p + (nmE f n p (n - p) 0))), .int (if nI (nmE f n p (n - p) 0) ≤ 8 then (if cGreat (f p) = 0 then kwd (nmA f p (nmE f n p (n - p) 0)) else 4) else 2), .int pl, .int nu, .long (nmA f p (nmE f n p (n - p) 0))])), (tx, .inr (11, [.ref r, .int (nI n), .int lo])), (r, .inl (cB, cap, .inl f))] H := by simp only [hL, if_pos c86, if_neg c102]; exact hP
        have hD9 : va_D A [(w, .inr (13, [.ref tx, .int (nI (p + (nmE f n p (n - p) 0))), .int (if nI (nmE f n p (n - p) 0) ≤ 8 then (if cGreat (f p) = 0 then kwd (nmA f p (nmE f n p (n - p) 0)) else 4) else 2), .int pl, .int nu, .long (nmA f p (nmE f n p (n - p) 0))])), (tx, .inr (11, [.ref r, .int (nI n), .int lo])), (r, .inl (cB, cap, .inl f))] := by simp only [hL, if_pos c86, if_neg c102]; exact hD
        have hK9 := hK.sub (tys' := [(cB, .byte)]) [0] rfl
        exact W.vret hx hb hr (fun t ht hW => ⟨⟨(), rfl, trivial, by rw [ht]; exact hP9, va_K.moved hW.alike hK9, hD9⟩, hS.F ht⟩) hS.2.2 dX10_readName_116
    · refine lv_aload_n hx hb dX10_readName_89 rfl (lv_at hl 0 rfl) ?_
      refine lv_iconst (v := 2) hx hb dX10_readName_90 (by decide) ?_
      refine va_put (D := (dC, dI)) (ci := 13) (v := .int 2) (ty := (tyX10 2)) (C := RX10) (T := TX10) (N := 6) hx hb hu iuX10 tyX10 tyX10_ok nmX10 hown hK hP hD hS 0 rfl rfl 2 (by decide) (hu _ mG_517) (fun _ h9 => h9) rfl (by decide +kernel) (rfl) (rfl) (Nat.le_of_ble_eq_true rfl) dX10_readName_91 (fun H locs hP hD hS => ?_)
      have hP : va_P (dC, dI) vwCl [(w, .inr (13, [.ref tx, .int (nI (p + i)), .int 2, .int pl, .int nu, .long (nmA f p i)])), (tx, .inr (11, [.ref r, .int (nI n), .int lo])), (r, .inl (cB, cap, .inl f))] H := hP
      have hD : va_D A [(w, .inr (13, [.ref tx, .int (nI (p + i)), .int 2, .int pl, .int nu, .long (nmA f p i)])), (tx, .inr (11, [.ref r, .int (nI n), .int lo])), (r, .inl (cB, cap, .inl f))] := hD
      refine lv_goto (tgt := 116) hx hb dX10_readName_94 (by decide) ?_
      have hP9 : va_P (dC, dI) vwCl [(w, .inr (13, [.ref tx, .int (nI (p + (nmE f n p (n - p) 0))), .int (if nI (nmE f n p (n - p) 0) ≤ 8 then (if cGreat (f p) = 0 then kwd (nmA f p (nmE f n p (n - p) 0)) else 4) else 2), .int pl, .int nu, .long (nmA f p (nmE f n p (n - p) 0))])), (tx, .inr (11, [.ref r, .int (nI n), .int lo])), (r, .inl (cB, cap, .inl f))] H := by simp only [hL, if_neg c86]; exact hP
      have hD9 : va_D A [(w, .inr (13, [.ref tx, .int (nI (p + (nmE f n p (n - p) 0))), .int (if nI (nmE f n p (n - p) 0) ≤ 8 then (if cGreat (f p) = 0 then kwd (nmA f p (nmE f n p (n - p) 0)) else 4) else 2), .int pl, .int nu, .long (nmA f p (nmE f n p (n - p) 0))])), (tx, .inr (11, [.ref r, .int (nI n), .int lo])), (r, .inl (cB, cap, .inl f))] := by simp only [hL, if_neg c86]; exact hD
      have hK9 := hK.sub (tys' := [(cB, .byte)]) [0] rfl
      exact W.vret hx hb hr (fun t ht hW => ⟨⟨(), rfl, trivial, by rw [ht]; exact hP9, va_K.moved hW.alike hK9, hD9⟩, hS.F ht⟩) hS.2.2 dX10_readName_116
  · have hin : p + i < n := (nI_ltI (by omega) (by omega)).mp (Int32.not_le.mp c20)
    have hsg : sgn f n (p + i) = f (p + i) := if_pos hin
    have hs1 : nmE f n p (n - (p + i)) i = if nmG f n p i then nmE f n p (n - (p + (i + 1))) (i + 1) else i := by
      rw [show n - (p + i) = (n - (p + (i + 1))) + 1 by omega]; rfl
    refine lv_iload_n hx hb dX10_readName_23 rfl (lv_at hl 2 rfl) ?_
    refine lv_if_eq (tgt := 41) hx hb dX10_readName_24 (by decide) (fun c24 => ?_) (fun c24 => ?_)
    · have hg : nmG f n p i := ⟨hin, Or.inl ((nI_eq (b := 0) (by omega) (by decide)).mp c24)⟩
      have hs2 : nmE f n p (n - (p + (i + 1))) (i + 1) = (nmE f n p (n - p) 0) := by rw [← hsk, hs1, if_pos hg]
      refine lv_aload_n hx hb dX10_readName_41 rfl (lv_at hl 0 rfl) ?_
      refine lv_aload_n hx hb dX10_readName_42 rfl (lv_at hl 0 rfl) ?_
      refine va_get (D := (dC, dI)) (ci := 13) (v := .long (nmA f p i)) (C := RX10) (T := TX10) (N := 6) hx hb hu iuX10 hown hK hP 0 rfl rfl 5 (by decide) (hu _ mG_523) (fun _ h9 => h9) rfl dX10_readName_43 ?_
      refine lv_bipush (v := 8) hx hb dX10_readName_46 (by decide) ?_
      refine lv_lshl hx hb dX10_readName_48 rfl ?_
      refine lv_topl (fun x48 ex48 => ?_)
      refine lv_iload_n hx hb dX10_readName_49 rfl (lv_at hl 3 rfl) ?_
      refine lv_i2l hx hb dX10_readName_50 rfl ?_
      refine lv_topl (fun x50 ex50 => ?_)
      refine lv_lor hx hb dX10_readName_51 ?_
      refine lv_topl (fun x51 ex51 => ?_)
      obtain rfl : x51 = (nmA f p (i + 1)) := by rw [ex51, ex50, ex48, hsg]; rfl
      refine va_put (D := (dC, dI)) (ci := 13) (v := .long (nmA f p (i + 1))) (ty := (tyX10 5)) (C := RX10) (T := TX10) (N := 6) hx hb hu iuX10 tyX10 tyX10_ok nmX10 hown hK hP hD hS 0 rfl rfl 5 (by decide) (hu _ mG_523) (fun _ h9 => h9) rfl (by decide +kernel) (rfl) (rfl) (Nat.le_of_ble_eq_true rfl) dX10_readName_52 (fun H locs hP hD hS => ?_)
      have hP : va_P (dC, dI) vwCl [(w, .inr (13, [.ref tx, .int (nI (p + i)), .int kd, .int pl, .int nu, .long (nmA f p (i + 1))])), (tx, .inr (11, [.ref r, .int (nI n), .int lo])), (r, .inl (cB, cap, .inl f))] H := hP
      have hD : va_D A [(w, .inr (13, [.ref tx, .int (nI (p + i)), .int kd, .int pl, .int nu, .long (nmA f p (i + 1))])), (tx, .inr (11, [.ref r, .int (nI n), .int lo])), (r, .inl (cB, cap, .inl f))] := hD
      refine lv_aload_n hx hb dX10_readName_55 rfl (lv_at hl 0 rfl) ?_
      refine lv_dup hx hb dX10_readName_56 rfl ?_
      refine va_get (D := (dC, dI)) (ci := 13) (v := .int (nI (p + i))) (C := RX10) (T := TX10) (N := 6) hx hb hu iuX10 hown hK hP 0 rfl rfl 1 (by decide) (hu _ mG_516) (fun _ h9 => h9) rfl dX10_readName_57 ?_
      refine lv_iconst (v := 1) hx hb dX10_readName_60 (by decide) ?_
      refine lv_iadd hx hb dX10_readName_61 ?_
      refine lv_topi (fun x61 ex61 => ?_)
      obtain rfl : x61 = (nI (p + (i + 1))) := by rw [ex61]; exact nI_1 _
      refine va_put (D := (dC, dI)) (ci := 13) (v := .int (nI (p + (i + 1)))) (ty := (tyX10 1)) (C := RX10) (T := TX10) (N := 6) hx hb hu iuX10 tyX10 tyX10_ok nmX10 hown hK hP hD hS 0 rfl rfl 1 (by decide) (hu _ mG_516) (fun _ h9 => h9) rfl (by decide +kernel) (rfl) (rfl) (Nat.le_of_ble_eq_true rfl) dX10_readName_62 (fun H locs hP hD hS => ?_)
      have hP : va_P (dC, dI) vwCl [(w, .inr (13, [.ref tx, .int (nI (p + (i + 1))), .int kd, .int pl, .int nu, .long (nmA f p (i + 1))])), (tx, .inr (11, [.ref r, .int (nI n), .int lo])), (r, .inl (cB, cap, .inl f))] H := hP
      have hD : va_D A [(w, .inr (13, [.ref tx, .int (nI (p + (i + 1))), .int kd, .int pl, .int nu, .long (nmA f p (i + 1))])), (tx, .inr (11, [.ref r, .int (nI n), .int lo])), (r, .inl (cB, cap, .inl f))] := hD
      refine lv_aload_n hx hb dX10_readName_65 rfl (lv_at hl 0 rfl) ?_
      refine va_get (D := (dC, dI)) (ci := 13) (v := .ref tx) (C := RX10) (T := TX10) (N := 6) hx hb hu iuX10 hown hK hP 0 rfl rfl 0 (by decide) (hu _ mG_515) (fun _ h9 => h9) rfl dX10_readName_66 ?_
      refine lv_aload_n hx hb dX10_readName_69 rfl (lv_at hl 0 rfl) ?_
      refine va_get (D := (dC, dI)) (ci := 13) (v := .int (nI (p + (i + 1)))) (C := RX10) (T := TX10) (N := 6) hx hb hu iuX10 hown hK hP 0 rfl rfl 1 (by decide) (hu _ mG_516) (fun _ h9 => h9) rfl dX10_readName_70 ?_
      have hPc := hP.sub (ws' := [(tx, .inr (11, [.ref r, .int (nI n), .int lo])), (r, .inl (cB, cap, .inl f))]) [1, 2] rfl
      have hDc := hD.sub (ws' := [(tx, .inr (11, [.ref r, .int (nI n), .int lo])), (r, .inl (cB, cap, .inl f))]) [1, 2] (by decide) rfl
      have hKc := hK.sub (tys' := [(cB, .byte)]) [0] rfl
      have hFc := va_free (wc := [(tx, .inr (11, [.ref r, .int (nI n), .int lo])), (r, .inl (cB, cap, .inl f))]) hD hS hA [1, 2] rfl
      refine va_calli (va_runV (As := [.int (nI (p + (i + 1)))]) (rest := []) ⟨hx, hb, hml, hown, hu⟩ (kX8_signAt l dC dI H.size tx r cap n lo f cB (nI (p + (i + 1))) hn hc) (cwV 1 hu (uG_V (fun _ h => h) mG_929 mG_926 mG_927 mG_928 mG_215) rfl rfl rfl (by decide +kernel) ⟨Nat.le_of_ble_eq_true rfl, Nat.le_of_ble_eq_true rfl⟩) ⟨fun a U g mk q => by obtain ⟨q0, q1, qP, qK, qD⟩ := q; exact ⟨q0, q1, qP, va_K.moved (u := U) (U := U.calling g mk a) (Vm.Alike.refl U.vm) qK, qD⟩, va_recv hKc hPc (ci := 11) (q0 := 0) rfl rfl, fun U hU hW => ⟨rfl, by rw [hU], by rw [hU]; exact hPc, va_K.moved hW.alike hKc, hDc.weaken (fun _ _ _ _ => trivial)⟩⟩ rfl rfl hl.1 rfl (lv_room (Nat.le_of_ble_eq_true rfl)) dX10_readName_73 ⟨Nat.le_of_ble_eq_true rfl, Nat.le_of_ble_eq_true rfl⟩) hS (fun q _ h => hFc q h) hFc (fun r73 u t H1 locs ht hvm hw hB hz1 hk1 hS => ?_)
      obtain ⟨hP1, hK1, hD1⟩ := hB
      rw [ht] at hP1
      obtain ⟨hP, hD⟩ := va_join (wr := [(w, .inr (13, [.ref tx, .int (nI (p + (i + 1))), .int kd, .int pl, .int nu, .long (nmA f p (i + 1))]))]) (w1 := [(tx, .inr (11, [.ref r, .int (nI n), .int lo])), (r, .inl (cB, cap, .inl f))]) hP hD [1, 2] [0] rfl rfl (by decide) (by decide) hk1 hFc hP1 hD1
      generalize H1 = H at hP hS ⊢
      have hP : va_P (dC, dI) vwCl [(w, .inr (13, [.ref tx, .int (nI (p + (i + 1))), .int kd, .int pl, .int nu, .long (nmA f p (i + 1))])), (tx, .inr (11, [.ref r, .int (nI n), .int lo])), (r, .inl (cB, cap, .inl f))] H := hP
      have hD : va_D A [(w, .inr (13, [.ref tx, .int (nI (p + (i + 1))), .int kd, .int pl, .int nu, .long (nmA f p (i + 1))])), (tx, .inr (11, [.ref r, .int (nI n), .int lo])), (r, .inl (cB, cap, .inl f))] := hD
      have er73 : r73 = (if ¬ nI (p + (i + 1)) < 0 ∧ nI (p + (i + 1)) < nI n then f (nI (p + (i + 1))).toNatClampNeg else (-1)) := hw
      subst er73
      rw [sgn_at (by omega) (by omega)]
      refine lv_istore_n (lv' := [(3, .int (sgn f n (p + (i + 1)))), (0, .ref w), (1, .int (f p)), (2, .int (nI i))]) hx hb dX10_readName_76 rfl hl (by decide) rfl (fun ls hl => ?_)
      refine lv_iinc (v := (nI (i + 1))) (lv' := [(2, .int (nI (i + 1))), (3, .int (sgn f n (p + (i + 1)))), (0, .ref w), (1, .int (f p))]) hx hb dX10_readName_77 hl (k := 3) rfl (nI_1 i) (by decide) rfl (fun ls hl => ?_)
      refine lv_goto (tgt := 9) hx hb dX10_readName_80 (by decide) ?_
      exact ih9 (i + 1) _ _ _ ⟨by omega, hs2, hP, hD, hS, lv_sub hl [2, 3, 0, 1] rfl⟩ (by omega)
    · refine lv_iload_n hx hb dX10_readName_27 rfl (lv_at hl 3 rfl) ?_
      have hPc := hP.sub (ws' := []) [] rfl
      have hDc := hD.sub (ws' := []) [] (by decide) rfl
      have hKc := hK.sub (tys' := []) [] rfl
      have hFc := va_free (wc := []) hD hS hA [] rfl
      refine va_calli (va_runS (As := [.int (sgn f n (p + i))]) (rest := []) ⟨hx, hb, hml, hown, hu⟩ (kX10_isSmall l dC dI H.size (sgn f n (p + i))) (cwS 1 hu (uG_S (fun _ h => h) mG_932 mG_930 mG_931 mG_220) rfl rfl rfl (by decide +kernel) ⟨Nat.le_of_ble_eq_true rfl, Nat.le_of_ble_eq_true rfl⟩) ⟨fun a U g mk q => by obtain ⟨q0, q1, qP, qK, qD⟩ := q; exact ⟨q0, q1, qP, va_K.moved (u := U) (U := U.calling g mk a) (Vm.Alike.refl U.vm) qK, qD⟩, fun U hU hW => ⟨rfl, by rw [hU], by rw [hU]; exact hPc, va_K.moved hW.alike hKc, hDc.weaken (fun _ _ _ _ => trivial)⟩⟩ rfl rfl hl.1 rfl (lv_room (Nat.le_of_ble_eq_true rfl)) dX10_readName_28 ⟨Nat.le_of_ble_eq_true rfl, Nat.le_of_ble_eq_true rfl⟩) hS (fun q _ h => hFc q h) hFc (fun r28 u t H1 locs ht hvm hw hB hz1 hk1 hS => ?_)
      obtain ⟨hP1, hK1, hD1⟩ := hB
      rw [ht] at hP1
      obtain ⟨hP, hD⟩ := va_join (wr := [(w, .inr (13, [.ref tx, .int (nI (p + i)), .int kd, .int pl, .int nu, .long (nmA f p i)])), (tx, .inr (11, [.ref r, .int (nI n), .int lo])), (r, .inl (cB, cap, .inl f))]) (w1 := []) hP hD [] [0, 1, 2] rfl rfl (by decide) (by decide) hk1 hFc hP1 hD1
      generalize H1 = H at hP hS ⊢
      have hP : va_P (dC, dI) vwCl [(w, .inr (13, [.ref tx, .int (nI (p + i)), .int kd, .int pl, .int nu, .long (nmA f p i)])), (tx, .inr (11, [.ref r, .int (nI n), .int lo])), (r, .inl (cB, cap, .inl f))] H := hP
      have hD : va_D A [(w, .inr (13, [.ref tx, .int (nI (p + i)), .int kd, .int pl, .int nu, .long (nmA f p i)])), (tx, .inr (11, [.ref r, .int (nI n), .int lo])), (r, .inl (cB, cap, .inl f))] := hD
      have er28 : r28 = (cSmall (sgn f n (p + i))) := hw
      subst er28
      refine lv_if_ne (tgt := 41) hx hb dX10_readName_31 (by decide) (fun c31 => ?_) (fun c31 => ?_)
      · have hg : nmG f n p i := ⟨hin, Or.inr (Or.inl (by rw [← hsg]; exact c31))⟩
        have hs2 : nmE f n p (n - (p + (i + 1))) (i + 1) = (nmE f n p (n - p) 0) := by rw [← hsk, hs1, if_pos hg]
        refine lv_aload_n hx hb dX10_readName_41 rfl (lv_at hl 0 rfl) ?_
        refine lv_aload_n hx hb dX10_readName_42 rfl (lv_at hl 0 rfl) ?_
        refine va_get (D := (dC, dI)) (ci := 13) (v := .long (nmA f p i)) (C := RX10) (T := TX10) (N := 6) hx hb hu iuX10 hown hK hP 0 rfl rfl 5 (by decide) (hu _ mG_523) (fun _ h9 => h9) rfl dX10_readName_43 ?_
        refine lv_bipush (v := 8) hx hb dX10_readName_46 (by decide) ?_
        refine lv_lshl hx hb dX10_readName_48 rfl ?_
        refine lv_topl (fun x48 ex48 => ?_)
        refine lv_iload_n hx hb dX10_readName_49 rfl (lv_at hl 3 rfl) ?_
        refine lv_i2l hx hb dX10_readName_50 rfl ?_
        refine lv_topl (fun x50 ex50 => ?_)
        refine lv_lor hx hb dX10_readName_51 ?_
        refine lv_topl (fun x51 ex51 => ?_)
        obtain rfl : x51 = (nmA f p (i + 1)) := by rw [ex51, ex50, ex48, hsg]; rfl
        refine va_put (D := (dC, dI)) (ci := 13) (v := .long (nmA f p (i + 1))) (ty := (tyX10 5)) (C := RX10) (T := TX10) (N := 6) hx hb hu iuX10 tyX10 tyX10_ok nmX10 hown hK hP hD hS 0 rfl rfl 5 (by decide) (hu _ mG_523) (fun _ h9 => h9) rfl (by decide +kernel) (rfl) (rfl) (Nat.le_of_ble_eq_true rfl) dX10_readName_52 (fun H locs hP hD hS => ?_)
        have hP : va_P (dC, dI) vwCl [(w, .inr (13, [.ref tx, .int (nI (p + i)), .int kd, .int pl, .int nu, .long (nmA f p (i + 1))])), (tx, .inr (11, [.ref r, .int (nI n), .int lo])), (r, .inl (cB, cap, .inl f))] H := hP
        have hD : va_D A [(w, .inr (13, [.ref tx, .int (nI (p + i)), .int kd, .int pl, .int nu, .long (nmA f p (i + 1))])), (tx, .inr (11, [.ref r, .int (nI n), .int lo])), (r, .inl (cB, cap, .inl f))] := hD
        refine lv_aload_n hx hb dX10_readName_55 rfl (lv_at hl 0 rfl) ?_
        refine lv_dup hx hb dX10_readName_56 rfl ?_
        refine va_get (D := (dC, dI)) (ci := 13) (v := .int (nI (p + i))) (C := RX10) (T := TX10) (N := 6) hx hb hu iuX10 hown hK hP 0 rfl rfl 1 (by decide) (hu _ mG_516) (fun _ h9 => h9) rfl dX10_readName_57 ?_
        refine lv_iconst (v := 1) hx hb dX10_readName_60 (by decide) ?_
        refine lv_iadd hx hb dX10_readName_61 ?_
        refine lv_topi (fun x61 ex61 => ?_)
        obtain rfl : x61 = (nI (p + (i + 1))) := by rw [ex61]; exact nI_1 _
        refine va_put (D := (dC, dI)) (ci := 13) (v := .int (nI (p + (i + 1)))) (ty := (tyX10 1)) (C := RX10) (T := TX10) (N := 6) hx hb hu iuX10 tyX10 tyX10_ok nmX10 hown hK hP hD hS 0 rfl rfl 1 (by decide) (hu _ mG_516) (fun _ h9 => h9) rfl (by decide +kernel) (rfl) (rfl) (Nat.le_of_ble_eq_true rfl) dX10_readName_62 (fun H locs hP hD hS => ?_)
        have hP : va_P (dC, dI) vwCl [(w, .inr (13, [.ref tx, .int (nI (p + (i + 1))), .int kd, .int pl, .int nu, .long (nmA f p (i + 1))])), (tx, .inr (11, [.ref r, .int (nI n), .int lo])), (r, .inl (cB, cap, .inl f))] H := hP
        have hD : va_D A [(w, .inr (13, [.ref tx, .int (nI (p + (i + 1))), .int kd, .int pl, .int nu, .long (nmA f p (i + 1))])), (tx, .inr (11, [.ref r, .int (nI n), .int lo])), (r, .inl (cB, cap, .inl f))] := hD
        refine lv_aload_n hx hb dX10_readName_65 rfl (lv_at hl 0 rfl) ?_
        refine va_get (D := (dC, dI)) (ci := 13) (v := .ref tx) (C := RX10) (T := TX10) (N := 6) hx hb hu iuX10 hown hK hP 0 rfl rfl 0 (by decide) (hu _ mG_515) (fun _ h9 => h9) rfl dX10_readName_66 ?_
        refine lv_aload_n hx hb dX10_readName_69 rfl (lv_at hl 0 rfl) ?_
        refine va_get (D := (dC, dI)) (ci := 13) (v := .int (nI (p + (i + 1)))) (C := RX10) (T := TX10) (N := 6) hx hb hu iuX10 hown hK hP 0 rfl rfl 1 (by decide) (hu _ mG_516) (fun _ h9 => h9) rfl dX10_readName_70 ?_
        have hPc := hP.sub (ws' := [(tx, .inr (11, [.ref r, .int (nI n), .int lo])), (r, .inl (cB, cap, .inl f))]) [1, 2] rfl
        have hDc := hD.sub (ws' := [(tx, .inr (11, [.ref r, .int (nI n), .int lo])), (r, .inl (cB, cap, .inl f))]) [1, 2] (by decide) rfl
        have hKc := hK.sub (tys' := [(cB, .byte)]) [0] rfl
        have hFc := va_free (wc := [(tx, .inr (11, [.ref r, .int (nI n), .int lo])), (r, .inl (cB, cap, .inl f))]) hD hS hA [1, 2] rfl
        refine va_calli (va_runV (As := [.int (nI (p + (i + 1)))]) (rest := []) ⟨hx, hb, hml, hown, hu⟩ (kX8_signAt l dC dI H.size tx r cap n lo f cB (nI (p + (i + 1))) hn hc) (cwV 1 hu (uG_V (fun _ h => h) mG_929 mG_926 mG_927 mG_928 mG_215) rfl rfl rfl (by decide +kernel) ⟨Nat.le_of_ble_eq_true rfl, Nat.le_of_ble_eq_true rfl⟩) ⟨fun a U g mk q => by obtain ⟨q0, q1, qP, qK, qD⟩ := q; exact ⟨q0, q1, qP, va_K.moved (u := U) (U := U.calling g mk a) (Vm.Alike.refl U.vm) qK, qD⟩, va_recv hKc hPc (ci := 11) (q0 := 0) rfl rfl, fun U hU hW => ⟨rfl, by rw [hU], by rw [hU]; exact hPc, va_K.moved hW.alike hKc, hDc.weaken (fun _ _ _ _ => trivial)⟩⟩ rfl rfl hl.1 rfl (lv_room (Nat.le_of_ble_eq_true rfl)) dX10_readName_73 ⟨Nat.le_of_ble_eq_true rfl, Nat.le_of_ble_eq_true rfl⟩) hS (fun q _ h => hFc q h) hFc (fun r73 u t H1 locs ht hvm hw hB hz1 hk1 hS => ?_)
        obtain ⟨hP1, hK1, hD1⟩ := hB
        rw [ht] at hP1
        obtain ⟨hP, hD⟩ := va_join (wr := [(w, .inr (13, [.ref tx, .int (nI (p + (i + 1))), .int kd, .int pl, .int nu, .long (nmA f p (i + 1))]))]) (w1 := [(tx, .inr (11, [.ref r, .int (nI n), .int lo])), (r, .inl (cB, cap, .inl f))]) hP hD [1, 2] [0] rfl rfl (by decide) (by decide) hk1 hFc hP1 hD1
        generalize H1 = H at hP hS ⊢
        have hP : va_P (dC, dI) vwCl [(w, .inr (13, [.ref tx, .int (nI (p + (i + 1))), .int kd, .int pl, .int nu, .long (nmA f p (i + 1))])), (tx, .inr (11, [.ref r, .int (nI n), .int lo])), (r, .inl (cB, cap, .inl f))] H := hP
        have hD : va_D A [(w, .inr (13, [.ref tx, .int (nI (p + (i + 1))), .int kd, .int pl, .int nu, .long (nmA f p (i + 1))])), (tx, .inr (11, [.ref r, .int (nI n), .int lo])), (r, .inl (cB, cap, .inl f))] := hD
        have er73 : r73 = (if ¬ nI (p + (i + 1)) < 0 ∧ nI (p + (i + 1)) < nI n then f (nI (p + (i + 1))).toNatClampNeg else (-1)) := hw
        subst er73
        rw [sgn_at (by omega) (by omega)]
        refine lv_istore_n (lv' := [(3, .int (sgn f n (p + (i + 1)))), (0, .ref w), (1, .int (f p)), (2, .int (nI i))]) hx hb dX10_readName_76 rfl hl (by decide) rfl (fun ls hl => ?_)
        refine lv_iinc (v := (nI (i + 1))) (lv' := [(2, .int (nI (i + 1))), (3, .int (sgn f n (p + (i + 1)))), (0, .ref w), (1, .int (f p))]) hx hb dX10_readName_77 hl (k := 3) rfl (nI_1 i) (by decide) rfl (fun ls hl => ?_)
        refine lv_goto (tgt := 9) hx hb dX10_readName_80 (by decide) ?_
        exact ih9 (i + 1) _ _ _ ⟨by omega, hs2, hP, hD, hS, lv_sub hl [2, 3, 0, 1] rfl⟩ (by omega)
      · refine lv_iload_n hx hb dX10_readName_34 rfl (lv_at hl 3 rfl) ?_
        have hPc := hP.sub (ws' := []) [] rfl
        have hDc := hD.sub (ws' := []) [] (by decide) rfl
        have hKc := hK.sub (tys' := []) [] rfl
        have hFc := va_free (wc := []) hD hS hA [] rfl
        refine va_calli (va_runS (As := [.int (sgn f n (p + i))]) (rest := []) ⟨hx, hb, hml, hown, hu⟩ (kX10_isDigit l dC dI H.size (sgn f n (p + i))) (cwS 1 hu (uG_S (fun _ h => h) mG_942 mG_940 mG_941 mG_220) rfl rfl rfl (by decide +kernel) ⟨Nat.le_of_ble_eq_true rfl, Nat.le_of_ble_eq_true rfl⟩) ⟨fun a U g mk q => by obtain ⟨q0, q1, qP, qK, qD⟩ := q; exact ⟨q0, q1, qP, va_K.moved (u := U) (U := U.calling g mk a) (Vm.Alike.refl U.vm) qK, qD⟩, fun U hU hW => ⟨rfl, by rw [hU], by rw [hU]; exact hPc, va_K.moved hW.alike hKc, hDc.weaken (fun _ _ _ _ => trivial)⟩⟩ rfl rfl hl.1 rfl (lv_room (Nat.le_of_ble_eq_true rfl)) dX10_readName_35 ⟨Nat.le_of_ble_eq_true rfl, Nat.le_of_ble_eq_true rfl⟩) hS (fun q _ h => hFc q h) hFc (fun r35 u t H1 locs ht hvm hw hB hz1 hk1 hS => ?_)
        obtain ⟨hP1, hK1, hD1⟩ := hB
        rw [ht] at hP1
        obtain ⟨hP, hD⟩ := va_join (wr := [(w, .inr (13, [.ref tx, .int (nI (p + i)), .int kd, .int pl, .int nu, .long (nmA f p i)])), (tx, .inr (11, [.ref r, .int (nI n), .int lo])), (r, .inl (cB, cap, .inl f))]) (w1 := []) hP hD [] [0, 1, 2] rfl rfl (by decide) (by decide) hk1 hFc hP1 hD1
        generalize H1 = H at hP hS ⊢
        have hP : va_P (dC, dI) vwCl [(w, .inr (13, [.ref tx, .int (nI (p + i)), .int kd, .int pl, .int nu, .long (nmA f p i)])), (tx, .inr (11, [.ref r, .int (nI n), .int lo])), (r, .inl (cB, cap, .inl f))] H := hP
        have hD : va_D A [(w, .inr (13, [.ref tx, .int (nI (p + i)), .int kd, .int pl, .int nu, .long (nmA f p i)])), (tx, .inr (11, [.ref r, .int (nI n), .int lo])), (r, .inl (cB, cap, .inl f))] := hD
        have er35 : r35 = (cDigit (sgn f n (p + i))) := hw
        subst er35
        refine lv_if_eq (tgt := 83) hx hb dX10_readName_38 (by decide) (fun c38 => ?_) (fun c38 => ?_)
        · have hng : ¬ nmG f n p i := fun h => h.2.elim (fun h0 => c24 (by rw [h0]; rfl)) (fun h1 => h1.elim (fun h2 => h2 (by rw [← hsg]; exact c31)) (fun h2 => h2 (by rw [← hsg]; exact c38)))
          have hL : (nmE f n p (n - p) 0) = i := by rw [← hsk, hs1, if_neg hng]
          refine lv_iload_n hx hb dX10_readName_83 rfl (lv_at hl 2 rfl) ?_
          refine lv_bipush (v := 8) hx hb dX10_readName_84 (by decide) ?_
          refine lv_icmp_le (tgt := 97) hx hb dX10_readName_86 (by decide) (fun c86 => ?_) (fun c86 => ?_)
          · refine lv_aload_n hx hb dX10_readName_97 rfl (lv_at hl 0 rfl) ?_
            refine lv_iload_n hx hb dX10_readName_98 rfl (lv_at hl 1 rfl) ?_
            have hPc := hP.sub (ws' := []) [] rfl
            have hDc := hD.sub (ws' := []) [] (by decide) rfl
            have hKc := hK.sub (tys' := []) [] rfl
            have hFc := va_free (wc := []) hD hS hA [] rfl
            refine va_calli (va_runS (As := [.int (f p)]) (rest := [.ref w]) ⟨hx, hb, hml, hown, hu⟩ (kX10_isGreat l dC dI H.size (f p)) (cwS 1 hu (uG_S (fun _ h => h) mG_935 mG_933 mG_934 mG_220) rfl rfl rfl (by decide +kernel) ⟨Nat.le_of_ble_eq_true rfl, Nat.le_of_ble_eq_true rfl⟩) ⟨fun a U g mk q => by obtain ⟨q0, q1, qP, qK, qD⟩ := q; exact ⟨q0, q1, qP, va_K.moved (u := U) (U := U.calling g mk a) (Vm.Alike.refl U.vm) qK, qD⟩, fun U hU hW => ⟨rfl, by rw [hU], by rw [hU]; exact hPc, va_K.moved hW.alike hKc, hDc.weaken (fun _ _ _ _ => trivial)⟩⟩ rfl rfl hl.1 rfl (lv_room (Nat.le_of_ble_eq_true rfl)) dX10_readName_99 ⟨Nat.le_of_ble_eq_true rfl, Nat.le_of_ble_eq_true rfl⟩) hS (fun q _ h => hFc q h) hFc (fun r99 u t H1 locs ht hvm hw hB hz1 hk1 hS => ?_)
            obtain ⟨hP1, hK1, hD1⟩ := hB
            rw [ht] at hP1
            obtain ⟨hP, hD⟩ := va_join (wr := [(w, .inr (13, [.ref tx, .int (nI (p + i)), .int kd, .int pl, .int nu, .long (nmA f p i)])), (tx, .inr (11, [.ref r, .int (nI n), .int lo])), (r, .inl (cB, cap, .inl f))]) (w1 := []) hP hD [] [0, 1, 2] rfl rfl (by decide) (by decide) hk1 hFc hP1 hD1
            generalize H1 = H at hP hS ⊢
            have hP : va_P (dC, dI) vwCl [(w, .inr (13, [.ref tx, .int (nI (p + i)), .int kd, .int pl, .int nu, .long (nmA f p i)])), (tx, .inr (11, [.ref r, .int (nI n), .int lo])), (r, .inl (cB, cap, .inl f))] H := hP
            have hD : va_D A [(w, .inr (13, [.ref tx, .int (nI (p + i)), .int kd, .int pl, .int nu, .long (nmA f p i)])), (tx, .inr (11, [.ref r, .int (nI n), .int lo])), (r, .inl (cB, cap, .inl f))] := hD
            have er99 : r99 = (cGreat (f p)) := hw
            subst er99
            refine lv_if_eq (tgt := 109) hx hb dX10_readName_102 (by decide) (fun c102 => ?_) (fun c102 => ?_)
            · refine lv_aload_n hx hb dX10_readName_109 rfl (lv_at hl 0 rfl) ?_
              have hPc := hP.sub (ws' := [(w, .inr (13, [.ref tx, .int (nI (p + i)), .int kd, .int pl, .int nu, .long (nmA f p i)]))]) [0] rfl
              have hDc := hD.sub (ws' := [(w, .inr (13, [.ref tx, .int (nI (p + i)), .int kd, .int pl, .int nu, .long (nmA f p i)]))]) [0] (by decide) rfl
              have hKc := hK.sub (tys' := []) [] rfl
              have hFc := va_free (wc := [(w, .inr (13, [.ref tx, .int (nI (p + i)), .int kd, .int pl, .int nu, .long (nmA f p i)]))]) hD hS hA [0] rfl
              refine va_calli (va_runV (As := []) (rest := [.ref w]) ⟨hx, hb, hml, hown, hu⟩ (kX10_kindOfName l dC dI H.size w tx (nI (p + i)) kd pl nu (nmA f p i)) (cwV 0 hu (uG_V (fun _ h => h) mG_946 mG_943 mG_945 mG_3 mG_220) rfl rfl rfl (by decide +kernel) ⟨Nat.le_of_ble_eq_true rfl, Nat.le_of_ble_eq_true rfl⟩) ⟨fun a U g mk q => by obtain ⟨q0, q1, qP, qK, qD⟩ := q; exact ⟨q0, q1, qP, va_K.moved (u := U) (U := U.calling g mk a) (Vm.Alike.refl U.vm) qK, qD⟩, va_recv hKc hPc (ci := 13) (q0 := 0) rfl rfl, fun U hU hW => ⟨rfl, by rw [hU], by rw [hU]; exact hPc, va_K.moved hW.alike hKc, hDc.weaken (fun _ _ _ _ => trivial)⟩⟩ rfl rfl hl.1 rfl (lv_room (Nat.le_of_ble_eq_true rfl)) dX10_readName_110 ⟨Nat.le_of_ble_eq_true rfl, Nat.le_of_ble_eq_true rfl⟩) hS (fun q _ h => hFc q h) hFc (fun r110 u t H1 locs ht hvm hw hB hz1 hk1 hS => ?_)
              obtain ⟨hP1, hK1, hD1⟩ := hB
              rw [ht] at hP1
              obtain ⟨hP, hD⟩ := va_join (wr := [(tx, .inr (11, [.ref r, .int (nI n), .int lo])), (r, .inl (cB, cap, .inl f))]) (w1 := [(w, .inr (13, [.ref tx, .int (nI (p + i)), .int kd, .int pl, .int nu, .long (nmA f p i)]))]) hP hD [0] [1, 2] rfl rfl (by decide) (by decide) hk1 hFc hP1 hD1
              generalize H1 = H at hP hS ⊢
              have hP : va_P (dC, dI) vwCl [(tx, .inr (11, [.ref r, .int (nI n), .int lo])), (r, .inl (cB, cap, .inl f)), (w, .inr (13, [.ref tx, .int (nI (p + i)), .int kd, .int pl, .int nu, .long (nmA f p i)]))] H := hP
              have hD : va_D A [(tx, .inr (11, [.ref r, .int (nI n), .int lo])), (r, .inl (cB, cap, .inl f)), (w, .inr (13, [.ref tx, .int (nI (p + i)), .int kd, .int pl, .int nu, .long (nmA f p i)]))] := hD
              have er110 : r110 = (kwd (nmA f p i)) := hw
              subst er110
              refine va_put (D := (dC, dI)) (ci := 13) (v := .int (kwd (nmA f p i))) (ty := (tyX10 2)) (C := RX10) (T := TX10) (N := 6) hx hb hu iuX10 tyX10 tyX10_ok nmX10 hown hK hP hD hS 2 rfl rfl 2 (by decide) (hu _ mG_517) (fun _ h9 => h9) rfl (by decide +kernel) (rfl) (rfl) (Nat.le_of_ble_eq_true rfl) dX10_readName_113 (fun H locs hP hD hS => ?_)
              have hP : va_P (dC, dI) vwCl [(tx, .inr (11, [.ref r, .int (nI n), .int lo])), (r, .inl (cB, cap, .inl f)), (w, .inr (13, [.ref tx, .int (nI (p + i)), .int (kwd (nmA f p i)), .int pl, .int nu, .long (nmA f p i)]))] H := hP
              have hD : va_D A [(tx, .inr (11, [.ref r, .int (nI n), .int lo])), (r, .inl (cB, cap, .inl f)), (w, .inr (13, [.ref tx, .int (nI (p + i)), .int (kwd (nmA f p i)), .int pl, .int nu, .long (nmA f p i)]))] := hD
              have hP9 : va_P (dC, dI) vwCl [(w, .inr (13, [.ref tx, .int (nI (p + (nmE f n p (n - p) 0))), .int (if nI (nmE f n p (n - p) 0) ≤ 8 then (if cGreat (f p) = 0 then kwd (nmA f p (nmE f n p (n - p) 0)) else 4) else 2), .int pl, .int nu, .long (nmA f p (nmE f n p (n - p) 0))])), (tx, .inr (11, [.ref r, .int (nI n), .int lo])), (r, .inl (cB, cap, .inl f))] H := by simp only [hL, if_pos c86, if_pos c102]; exact hP.sub [2, 0, 1] rfl
              have hD9 : va_D A [(w, .inr (13, [.ref tx, .int (nI (p + (nmE f n p (n - p) 0))), .int (if nI (nmE f n p (n - p) 0) ≤ 8 then (if cGreat (f p) = 0 then kwd (nmA f p (nmE f n p (n - p) 0)) else 4) else 2), .int pl, .int nu, .long (nmA f p (nmE f n p (n - p) 0))])), (tx, .inr (11, [.ref r, .int (nI n), .int lo])), (r, .inl (cB, cap, .inl f))] := by simp only [hL, if_pos c86, if_pos c102]; exact hD.sub [2, 0, 1] (by decide) rfl
              have hK9 := hK.sub (tys' := [(cB, .byte)]) [0] rfl
              exact W.vret hx hb hr (fun t ht hW => ⟨⟨(), rfl, trivial, by rw [ht]; exact hP9, va_K.moved hW.alike hK9, hD9⟩, hS.F ht⟩) hS.2.2 dX10_readName_116
            · refine lv_iconst (v := 4) hx hb dX10_readName_105 (by decide) ?_
              refine lv_goto (tgt := 113) hx hb dX10_readName_106 (by decide) ?_
              refine va_put (D := (dC, dI)) (ci := 13) (v := .int 4) (ty := (tyX10 2)) (C := RX10) (T := TX10) (N := 6) hx hb hu iuX10 tyX10 tyX10_ok nmX10 hown hK hP hD hS 0 rfl rfl 2 (by decide) (hu _ mG_517) (fun _ h9 => h9) rfl (by decide +kernel) (rfl) (rfl) (Nat.le_of_ble_eq_true rfl) dX10_readName_113 (fun H locs hP hD hS => ?_)
              have hP : va_P (dC, dI) vwCl [(w, .inr (13, [.ref tx, .int (nI (p + i)), .int 4, .int pl, .int nu, .long (nmA f p i)])), (tx, .inr (11, [.ref r, .int (nI n), .int lo])), (r, .inl (cB, cap, .inl f))] H := hP
              have hD : va_D A [(w, .inr (13, [.ref tx, .int (nI (p + i)), .int 4, .int pl, .int nu, .long (nmA f p i)])), (tx, .inr (11, [.ref r, .int (nI n), .int lo])), (r, .inl (cB, cap, .inl f))] := hD
              have hP9 : va_P (dC, dI) vwCl [(w, .inr (13, [.ref tx, .int (nI (p + (nmE f n p (n - p) 0))), .int (if nI (nmE f n p (n - p) 0) ≤ 8 then (if cGreat (f p) = 0 then kwd (nmA f p (nmE f n p (n - p) 0)) else 4) else 2), .int pl, .int nu, .long (nmA f p (nmE f n p (n - p) 0))])), (tx, .inr (11, [.ref r, .int (nI n), .int lo])), (r, .inl (cB, cap, .inl f))] H := by simp only [hL, if_pos c86, if_neg c102]; exact hP
              have hD9 : va_D A [(w, .inr (13, [.ref tx, .int (nI (p + (nmE f n p (n - p) 0))), .int (if nI (nmE f n p (n - p) 0) ≤ 8 then (if cGreat (f p) = 0 then kwd (nmA f p (nmE f n p (n - p) 0)) else 4) else 2), .int pl, .int nu, .long (nmA f p (nmE f n p (n - p) 0))])), (tx, .inr (11, [.ref r, .int (nI n), .int lo])), (r, .inl (cB, cap, .inl f))] := by simp only [hL, if_pos c86, if_neg c102]; exact hD
              have hK9 := hK.sub (tys' := [(cB, .byte)]) [0] rfl
              exact W.vret hx hb hr (fun t ht hW => ⟨⟨(), rfl, trivial, by rw [ht]; exact hP9, va_K.moved hW.alike hK9, hD9⟩, hS.F ht⟩) hS.2.2 dX10_readName_116
          · refine lv_aload_n hx hb dX10_readName_89 rfl (lv_at hl 0 rfl) ?_
            refine lv_iconst (v := 2) hx hb dX10_readName_90 (by decide) ?_
            refine va_put (D := (dC, dI)) (ci := 13) (v := .int 2) (ty := (tyX10 2)) (C := RX10) (T := TX10) (N := 6) hx hb hu iuX10 tyX10 tyX10_ok nmX10 hown hK hP hD hS 0 rfl rfl 2 (by decide) (hu _ mG_517) (fun _ h9 => h9) rfl (by decide +kernel) (rfl) (rfl) (Nat.le_of_ble_eq_true rfl) dX10_readName_91 (fun H locs hP hD hS => ?_)
            have hP : va_P (dC, dI) vwCl [(w, .inr (13, [.ref tx, .int (nI (p + i)), .int 2, .int pl, .int nu, .long (nmA f p i)])), (tx, .inr (11, [.ref r, .int (nI n), .int lo])), (r, .inl (cB, cap, .inl f))] H := hP
            have hD : va_D A [(w, .inr (13, [.ref tx, .int (nI (p + i)), .int 2, .int pl, .int nu, .long (nmA f p i)])), (tx, .inr (11, [.ref r, .int (nI n), .int lo])), (r, .inl (cB, cap, .inl f))] := hD
            refine lv_goto (tgt := 116) hx hb dX10_readName_94 (by decide) ?_
            have hP9 : va_P (dC, dI) vwCl [(w, .inr (13, [.ref tx, .int (nI (p + (nmE f n p (n - p) 0))), .int (if nI (nmE f n p (n - p) 0) ≤ 8 then (if cGreat (f p) = 0 then kwd (nmA f p (nmE f n p (n - p) 0)) else 4) else 2), .int pl, .int nu, .long (nmA f p (nmE f n p (n - p) 0))])), (tx, .inr (11, [.ref r, .int (nI n), .int lo])), (r, .inl (cB, cap, .inl f))] H := by simp only [hL, if_neg c86]; exact hP
            have hD9 : va_D A [(w, .inr (13, [.ref tx, .int (nI (p + (nmE f n p (n - p) 0))), .int (if nI (nmE f n p (n - p) 0) ≤ 8 then (if cGreat (f p) = 0 then kwd (nmA f p (nmE f n p (n - p) 0)) else 4) else 2), .int pl, .int nu, .long (nmA f p (nmE f n p (n - p) 0))])), (tx, .inr (11, [.ref r, .int (nI n), .int lo])), (r, .inl (cB, cap, .inl f))] := by simp only [hL, if_neg c86]; exact hD
            have hK9 := hK.sub (tys' := [(cB, .byte)]) [0] rfl
            exact W.vret hx hb hr (fun t ht hW => ⟨⟨(), rfl, trivial, by rw [ht]; exact hP9, va_K.moved hW.alike hK9, hD9⟩, hS.F ht⟩) hS.2.2 dX10_readName_116
        · have hg : nmG f n p i := ⟨hin, Or.inr (Or.inr (by rw [← hsg]; exact c38))⟩
          have hs2 : nmE f n p (n - (p + (i + 1))) (i + 1) = (nmE f n p (n - p) 0) := by rw [← hsk, hs1, if_pos hg]
          refine lv_aload_n hx hb dX10_readName_41 rfl (lv_at hl 0 rfl) ?_
          refine lv_aload_n hx hb dX10_readName_42 rfl (lv_at hl 0 rfl) ?_
          refine va_get (D := (dC, dI)) (ci := 13) (v := .long (nmA f p i)) (C := RX10) (T := TX10) (N := 6) hx hb hu iuX10 hown hK hP 0 rfl rfl 5 (by decide) (hu _ mG_523) (fun _ h9 => h9) rfl dX10_readName_43 ?_
          refine lv_bipush (v := 8) hx hb dX10_readName_46 (by decide) ?_
          refine lv_lshl hx hb dX10_readName_48 rfl ?_
          refine lv_topl (fun x48 ex48 => ?_)
          refine lv_iload_n hx hb dX10_readName_49 rfl (lv_at hl 3 rfl) ?_
          refine lv_i2l hx hb dX10_readName_50 rfl ?_
          refine lv_topl (fun x50 ex50 => ?_)
          refine lv_lor hx hb dX10_readName_51 ?_
          refine lv_topl (fun x51 ex51 => ?_)
          obtain rfl : x51 = (nmA f p (i + 1)) := by rw [ex51, ex50, ex48, hsg]; rfl
          refine va_put (D := (dC, dI)) (ci := 13) (v := .long (nmA f p (i + 1))) (ty := (tyX10 5)) (C := RX10) (T := TX10) (N := 6) hx hb hu iuX10 tyX10 tyX10_ok nmX10 hown hK hP hD hS 0 rfl rfl 5 (by decide) (hu _ mG_523) (fun _ h9 => h9) rfl (by decide +kernel) (rfl) (rfl) (Nat.le_of_ble_eq_true rfl) dX10_readName_52 (fun H locs hP hD hS => ?_)
          have hP : va_P (dC, dI) vwCl [(w, .inr (13, [.ref tx, .int (nI (p + i)), .int kd, .int pl, .int nu, .long (nmA f p (i + 1))])), (tx, .inr (11, [.ref r, .int (nI n), .int lo])), (r, .inl (cB, cap, .inl f))] H := hP
          have hD : va_D A [(w, .inr (13, [.ref tx, .int (nI (p + i)), .int kd, .int pl, .int nu, .long (nmA f p (i + 1))])), (tx, .inr (11, [.ref r, .int (nI n), .int lo])), (r, .inl (cB, cap, .inl f))] := hD
          refine lv_aload_n hx hb dX10_readName_55 rfl (lv_at hl 0 rfl) ?_
          refine lv_dup hx hb dX10_readName_56 rfl ?_
          refine va_get (D := (dC, dI)) (ci := 13) (v := .int (nI (p + i))) (C := RX10) (T := TX10) (N := 6) hx hb hu iuX10 hown hK hP 0 rfl rfl 1 (by decide) (hu _ mG_516) (fun _ h9 => h9) rfl dX10_readName_57 ?_
          refine lv_iconst (v := 1) hx hb dX10_readName_60 (by decide) ?_
          refine lv_iadd hx hb dX10_readName_61 ?_
          refine lv_topi (fun x61 ex61 => ?_)
          obtain rfl : x61 = (nI (p + (i + 1))) := by rw [ex61]; exact nI_1 _
          refine va_put (D := (dC, dI)) (ci := 13) (v := .int (nI (p + (i + 1)))) (ty := (tyX10 1)) (C := RX10) (T := TX10) (N := 6) hx hb hu iuX10 tyX10 tyX10_ok nmX10 hown hK hP hD hS 0 rfl rfl 1 (by decide) (hu _ mG_516) (fun _ h9 => h9) rfl (by decide +kernel) (rfl) (rfl) (Nat.le_of_ble_eq_true rfl) dX10_readName_62 (fun H locs hP hD hS => ?_)
          have hP : va_P (dC, dI) vwCl [(w, .inr (13, [.ref tx, .int (nI (p + (i + 1))), .int kd, .int pl, .int nu, .long (nmA f p (i + 1))])), (tx, .inr (11, [.ref r, .int (nI n), .int lo])), (r, .inl (cB, cap, .inl f))] H := hP
          have hD : va_D A [(w, .inr (13, [.ref tx, .int (nI (p + (i + 1))), .int kd, .int pl, .int nu, .long (nmA f p (i + 1))])), (tx, .inr (11, [.ref r, .int (nI n), .int lo])), (r, .inl (cB, cap, .inl f))] := hD
          refine lv_aload_n hx hb dX10_readName_65 rfl (lv_at hl 0 rfl) ?_
          refine va_get (D := (dC, dI)) (ci := 13) (v := .ref tx) (C := RX10) (T := TX10) (N := 6) hx hb hu iuX10 hown hK hP 0 rfl rfl 0 (by decide) (hu _ mG_515) (fun _ h9 => h9) rfl dX10_readName_66 ?_
          refine lv_aload_n hx hb dX10_readName_69 rfl (lv_at hl 0 rfl) ?_
          refine va_get (D := (dC, dI)) (ci := 13) (v := .int (nI (p + (i + 1)))) (C := RX10) (T := TX10) (N := 6) hx hb hu iuX10 hown hK hP 0 rfl rfl 1 (by decide) (hu _ mG_516) (fun _ h9 => h9) rfl dX10_readName_70 ?_
          have hPc := hP.sub (ws' := [(tx, .inr (11, [.ref r, .int (nI n), .int lo])), (r, .inl (cB, cap, .inl f))]) [1, 2] rfl
          have hDc := hD.sub (ws' := [(tx, .inr (11, [.ref r, .int (nI n), .int lo])), (r, .inl (cB, cap, .inl f))]) [1, 2] (by decide) rfl
          have hKc := hK.sub (tys' := [(cB, .byte)]) [0] rfl
          have hFc := va_free (wc := [(tx, .inr (11, [.ref r, .int (nI n), .int lo])), (r, .inl (cB, cap, .inl f))]) hD hS hA [1, 2] rfl
          refine va_calli (va_runV (As := [.int (nI (p + (i + 1)))]) (rest := []) ⟨hx, hb, hml, hown, hu⟩ (kX8_signAt l dC dI H.size tx r cap n lo f cB (nI (p + (i + 1))) hn hc) (cwV 1 hu (uG_V (fun _ h => h) mG_929 mG_926 mG_927 mG_928 mG_215) rfl rfl rfl (by decide +kernel) ⟨Nat.le_of_ble_eq_true rfl, Nat.le_of_ble_eq_true rfl⟩) ⟨fun a U g mk q => by obtain ⟨q0, q1, qP, qK, qD⟩ := q; exact ⟨q0, q1, qP, va_K.moved (u := U) (U := U.calling g mk a) (Vm.Alike.refl U.vm) qK, qD⟩, va_recv hKc hPc (ci := 11) (q0 := 0) rfl rfl, fun U hU hW => ⟨rfl, by rw [hU], by rw [hU]; exact hPc, va_K.moved hW.alike hKc, hDc.weaken (fun _ _ _ _ => trivial)⟩⟩ rfl rfl hl.1 rfl (lv_room (Nat.le_of_ble_eq_true rfl)) dX10_readName_73 ⟨Nat.le_of_ble_eq_true rfl, Nat.le_of_ble_eq_true rfl⟩) hS (fun q _ h => hFc q h) hFc (fun r73 u t H1 locs ht hvm hw hB hz1 hk1 hS => ?_)
          obtain ⟨hP1, hK1, hD1⟩ := hB
          rw [ht] at hP1
          obtain ⟨hP, hD⟩ := va_join (wr := [(w, .inr (13, [.ref tx, .int (nI (p + (i + 1))), .int kd, .int pl, .int nu, .long (nmA f p (i + 1))]))]) (w1 := [(tx, .inr (11, [.ref r, .int (nI n), .int lo])), (r, .inl (cB, cap, .inl f))]) hP hD [1, 2] [0] rfl rfl (by decide) (by decide) hk1 hFc hP1 hD1
          generalize H1 = H at hP hS ⊢
          have hP : va_P (dC, dI) vwCl [(w, .inr (13, [.ref tx, .int (nI (p + (i + 1))), .int kd, .int pl, .int nu, .long (nmA f p (i + 1))])), (tx, .inr (11, [.ref r, .int (nI n), .int lo])), (r, .inl (cB, cap, .inl f))] H := hP
          have hD : va_D A [(w, .inr (13, [.ref tx, .int (nI (p + (i + 1))), .int kd, .int pl, .int nu, .long (nmA f p (i + 1))])), (tx, .inr (11, [.ref r, .int (nI n), .int lo])), (r, .inl (cB, cap, .inl f))] := hD
          have er73 : r73 = (if ¬ nI (p + (i + 1)) < 0 ∧ nI (p + (i + 1)) < nI n then f (nI (p + (i + 1))).toNatClampNeg else (-1)) := hw
          subst er73
          rw [sgn_at (by omega) (by omega)]
          refine lv_istore_n (lv' := [(3, .int (sgn f n (p + (i + 1)))), (0, .ref w), (1, .int (f p)), (2, .int (nI i))]) hx hb dX10_readName_76 rfl hl (by decide) rfl (fun ls hl => ?_)
          refine lv_iinc (v := (nI (i + 1))) (lv' := [(2, .int (nI (i + 1))), (3, .int (sgn f n (p + (i + 1)))), (0, .ref w), (1, .int (f p))]) hx hb dX10_readName_77 hl (k := 3) rfl (nI_1 i) (by decide) rfl (fun ls hl => ?_)
          refine lv_goto (tgt := 9) hx hb dX10_readName_80 (by decide) ?_
          exact ih9 (i + 1) _ _ _ ⟨by omega, hs2, hP, hD, hS, lv_sub hl [2, 3, 0, 1] rfl⟩ (by omega)
