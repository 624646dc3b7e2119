theorem mG_522 : Cond.fieldLink "LazyForge$Words" 84 "LazyForge$Words" "number" "I" ∈ uG := uG_at 522 (by decide +kernel) (by decide +kernel)
theorem mG_957 : Cond.constantLong "LazyForge$Words" 80 10 ∈ uG := uG_at 957 (by decide +kernel) (by decide +kernel)
theorem mG_958 : Cond.constantLong "LazyForge$Words" 82 2147483647 ∈ uG := uG_at 958 (by decide +kernel) (by decide +kernel)
theorem dX10_readNumber_0 : decode cX10_readNumber 0 = .ok (.lconst 0, 1) := by decide +kernel
theorem dX10_readNumber_1 : decode cX10_readNumber 1 = .ok (.lstore_n 1, 1) := by decide +kernel
theorem dX10_readNumber_2 : decode cX10_readNumber 2 = .ok (.iconst 0, 1) := by decide +kernel
theorem dX10_readNumber_3 : decode cX10_readNumber 3 = .ok (.istore_n 3, 1) := by decide +kernel
theorem dX10_readNumber_4 : decode cX10_readNumber 4 = .ok (.aload_n 0, 1) := by decide +kernel
theorem dX10_readNumber_5 : decode cX10_readNumber 5 = .ok (.getfield 15, 3) := by decide +kernel
theorem dX10_readNumber_8 : decode cX10_readNumber 8 = .ok (.aload_n 0, 1) := by decide +kernel
theorem dX10_readNumber_9 : decode cX10_readNumber 9 = .ok (.getfield 9, 3) := by decide +kernel
theorem dX10_readNumber_12 : decode cX10_readNumber 12 = .ok (.getfield 57, 3) := by decide +kernel
theorem dX10_readNumber_15 : decode cX10_readNumber 15 = .ok (.if_icmp .ge 64, 3) := by decide +kernel
theorem dX10_readNumber_18 : decode cX10_readNumber 18 = .ok (.aload_n 0, 1) := by decide +kernel
theorem dX10_readNumber_19 : decode cX10_readNumber 19 = .ok (.getfield 9, 3) := by decide +kernel
theorem dX10_readNumber_22 : decode cX10_readNumber 22 = .ok (.aload_n 0, 1) := by decide +kernel
theorem dX10_readNumber_23 : decode cX10_readNumber 23 = .ok (.getfield 15, 3) := by decide +kernel
theorem dX10_readNumber_26 : decode cX10_readNumber 26 = .ok (.invokevirtual 31, 3) := by decide +kernel
theorem dX10_readNumber_29 : decode cX10_readNumber 29 = .ok (.invokestatic 48, 3) := by decide +kernel
theorem dX10_readNumber_32 : decode cX10_readNumber 32 = .ok (.ifCond .eq 47, 3) := by decide +kernel
theorem dX10_readNumber_35 : decode cX10_readNumber 35 = .ok (.iinc 3 1, 3) := by decide +kernel
theorem dX10_readNumber_38 : decode cX10_readNumber 38 = .ok (.iload_n 3, 1) := by decide +kernel
theorem dX10_readNumber_39 : decode cX10_readNumber 39 = .ok (.bipush 10, 2) := by decide +kernel
theorem dX10_readNumber_41 : decode cX10_readNumber 41 = .ok (.if_icmp .gt 25, 3) := by decide +kernel
theorem dX10_readNumber_44 : decode cX10_readNumber 44 = .ok (.lload_n 1, 1) := by decide +kernel
theorem dX10_readNumber_45 : decode cX10_readNumber 45 = .ok (.ldc2_w 80, 3) := by decide +kernel
theorem dX10_readNumber_48 : decode cX10_readNumber 48 = .ok (.lmul, 1) := by decide +kernel
theorem dX10_readNumber_49 : decode cX10_readNumber 49 = .ok (.aload_n 0, 1) := by decide +kernel
theorem dX10_readNumber_50 : decode cX10_readNumber 50 = .ok (.getfield 9, 3) := by decide +kernel
theorem dX10_readNumber_53 : decode cX10_readNumber 53 = .ok (.aload_n 0, 1) := by decide +kernel
theorem dX10_readNumber_54 : decode cX10_readNumber 54 = .ok (.getfield 15, 3) := by decide +kernel
theorem dX10_readNumber_57 : decode cX10_readNumber 57 = .ok (.invokevirtual 31, 3) := by decide +kernel
theorem dX10_readNumber_60 : decode cX10_readNumber 60 = .ok (.bipush 48, 2) := by decide +kernel
theorem dX10_readNumber_62 : decode cX10_readNumber 62 = .ok (.isub, 1) := by decide +kernel
theorem dX10_readNumber_63 : decode cX10_readNumber 63 = .ok (.i2l, 1) := by decide +kernel
theorem dX10_readNumber_64 : decode cX10_readNumber 64 = .ok (.ladd, 1) := by decide +kernel
theorem dX10_readNumber_65 : decode cX10_readNumber 65 = .ok (.lstore_n 1, 1) := by decide +kernel
theorem dX10_readNumber_66 : decode cX10_readNumber 66 = .ok (.aload_n 0, 1) := by decide +kernel
theorem dX10_readNumber_67 : decode cX10_readNumber 67 = .ok (.dup, 1) := by decide +kernel
theorem dX10_readNumber_68 : decode cX10_readNumber 68 = .ok (.getfield 15, 3) := by decide +kernel
theorem dX10_readNumber_71 : decode cX10_readNumber 71 = .ok (.iconst 1, 1) := by decide +kernel
theorem dX10_readNumber_72 : decode cX10_readNumber 72 = .ok (.iadd, 1) := by decide +kernel
theorem dX10_readNumber_73 : decode cX10_readNumber 73 = .ok (.putfield 15, 3) := by decide +kernel
theorem dX10_readNumber_76 : decode cX10_readNumber 76 = .ok (.goto (-72), 3) := by decide +kernel
theorem dX10_readNumber_79 : decode cX10_readNumber 79 = .ok (.iload_n 3, 1) := by decide +kernel
theorem dX10_readNumber_80 : decode cX10_readNumber 80 = .ok (.bipush 10, 2) := by decide +kernel
theorem dX10_readNumber_82 : decode cX10_readNumber 82 = .ok (.if_icmp .gt 15, 3) := by decide +kernel
theorem dX10_readNumber_85 : decode cX10_readNumber 85 = .ok (.lload_n 1, 1) := by decide +kernel
theorem dX10_readNumber_86 : decode cX10_readNumber 86 = .ok (.ldc2_w 82, 3) := by decide +kernel
theorem dX10_readNumber_89 : decode cX10_readNumber 89 = .ok (.lcmp, 1) := by decide +kernel
theorem dX10_readNumber_90 : decode cX10_readNumber 90 = .ok (.ifCond .gt 7, 3) := by decide +kernel
theorem dX10_readNumber_93 : decode cX10_readNumber 93 = .ok (.iconst 1, 1) := by decide +kernel
theorem dX10_readNumber_94 : decode cX10_readNumber 94 = .ok (.goto 4, 3) := by decide +kernel
theorem dX10_readNumber_97 : decode cX10_readNumber 97 = .ok (.iconst 0, 1) := by decide +kernel
theorem dX10_readNumber_98 : decode cX10_readNumber 98 = .ok (.istore 4, 2) := by decide +kernel
theorem dX10_readNumber_100 : decode cX10_readNumber 100 = .ok (.aload_n 0, 1) := by decide +kernel
theorem dX10_readNumber_101 : decode cX10_readNumber 101 = .ok (.iload 4, 2) := by decide +kernel
theorem dX10_readNumber_103 : decode cX10_readNumber 103 = .ok (.ifCond .eq 7, 3) := by decide +kernel
theorem dX10_readNumber_106 : decode cX10_readNumber 106 = .ok (.iconst 5, 1) := by decide +kernel
theorem dX10_readNumber_107 : decode cX10_readNumber 107 = .ok (.goto 4, 3) := by decide +kernel
theorem dX10_readNumber_110 : decode cX10_readNumber 110 = .ok (.iconst 2, 1) := by decide +kernel
theorem dX10_readNumber_111 : decode cX10_readNumber 111 = .ok (.putfield 19, 3) := by decide +kernel
theorem dX10_readNumber_114 : decode cX10_readNumber 114 = .ok (.aload_n 0, 1) := by decide +kernel
theorem dX10_readNumber_115 : decode cX10_readNumber 115 = .ok (.iload 4, 2) := by decide +kernel
theorem dX10_readNumber_117 : decode cX10_readNumber 117 = .ok (.ifCond .eq 8, 3) := by decide +kernel
theorem dX10_readNumber_120 : decode cX10_readNumber 120 = .ok (.lload_n 1, 1) := by decide +kernel
theorem dX10_readNumber_121 : decode cX10_readNumber 121 = .ok (.l2i, 1) := by decide +kernel
theorem dX10_readNumber_122 : decode cX10_readNumber 122 = .ok (.goto 4, 3) := by decide +kernel
theorem dX10_readNumber_125 : decode cX10_readNumber 125 = .ok (.iconst 0, 1) := by decide +kernel
theorem dX10_readNumber_126 : decode cX10_readNumber 126 = .ok (.putfield 84, 3) := by decide +kernel
theorem dX10_readNumber_129 : decode cX10_readNumber 129 = .ok (.return_, 1) := by decide +kernel
/-- a number's digits: the first ten of the first i from p on -/
def nuA (f : Nat → Int32) (p : Nat) : Nat → Int64
  | 0 => 0
  | i + 1 => if i < 10 then nuA f p i * 10 + (f (p + i) - 48).toInt64 else nuA f p i
abbrev nuG (f : Nat → Int32) (n p i : Nat) : Prop := p + i < n ∧ ¬ cDigit (f (p + i)) = 0
def nuE (f : Nat → Int32) (n p : Nat) : Nat → Nat → Nat
  | 0, i => i
  | k + 1, i => if nuG f n p i then nuE f n p k (i + 1) else i
set_option maxHeartbeats 4000000 in
set_option maxRecDepth 100000 in
/-- Words.readNumber() -/
theorem kX10_readNumber (l : Launch) (dC : Nat → ClassId) (dI : Nat → Nat → Nat) (sz : Nat) (w tx p : Nat) (kd pl nu : Int32) (nm : Int64) (r cap n : Nat) (lo : Int32) (f : Nat → Int32) (cB : ClassId) (hn : n ≤ cap) (hc : cap < 2 ^ 31) (hp : p < n) : Met l yX10_readNumber (Cond.code yX10_readNumber cX10_readNumber 5 none :: uG) ({ frames := 1, cells := 0, slots := 0, locals := 21 }) (va_Pc [.ref w] (fun U => U.heap.size = sz ∧ va_P (dC, dI) vwCl [(w, .inr (13, [.ref tx, .int (nI p), .int kd, .int pl, .int nu, .long nm])), (tx, .inr (11, [.ref r, .int (nI n), .int lo])), (r, .inl (cB, cap, .inl f))] U.heap ∧ va_K (dC, dI) vwCl [(cB, .byte)] U ∧ va_D (fun _ => True) [(w, .inr (13, [.ref tx, .int (nI p), .int kd, .int pl, .int nu, .long nm])), (tx, .inr (11, [.ref r, .int (nI n), .int lo])), (r, .inl (cB, cap, .inl f))])) (va_Qv (S := Unit) (fun _ => True) (fun _ t => va_P (dC, dI) vwCl [(w, .inr (13, [.ref tx, .int (nI (p + (nuE f n p (n - p) 0))), .int (if 10 < nI (nuE f n p (n - p) 0) then 2 else if 0 < lg_cmp (nuA f p (nuE f n p (n - p) 0)) 2147483647 then 2 else 5), .int pl, .int (if 10 < nI (nuE f n p (n - p) 0) then 0 else if 0 < lg_cmp (nuA f p (nuE f n p (n - p) 0)) 2147483647 then 0 else (nuA f p (nuE f n p (n - p) 0)).toInt32), .long nm])), (tx, .inr (11, [.ref r, .int (nI n), .int lo])), (r, .inl (cB, cap, .inl f))] t.heap ∧ va_K (dC, dI) vwCl [(cB, .byte)] t ∧ va_D (va_A [(w, .inr (13, [.ref tx, .int (nI p), .int kd, .int pl, .int nu, .long nm])), (tx, .inr (11, [.ref r, .int (nI n), .int lo])), (r, .inl (cB, cap, .inl f))] sz) [(w, .inr (13, [.ref tx, .int (nI (p + (nuE f n p (n - p) 0))), .int (if 10 < nI (nuE f n p (n - p) 0) then 2 else if 0 < lg_cmp (nuA f p (nuE f n p (n - p) 0)) 2147483647 then 2 else 5), .int pl, .int (if 10 < nI (nuE f n p (n - p) 0) then 0 else if 0 < lg_cmp (nuA f p (nuE f n p (n - p) 0)) 2147483647 then 0 else (nuA f p (nuE f n p (n - p) 0)).toInt32), .long nm])), (tx, .inr (11, [.ref r, .int (nI n), .int lo])), (r, .inl (cB, cap, .inl f))]) (va_A [(w, .inr (13, [.ref tx, .int (nI p), .int kd, .int pl, .int nu, .long nm])), (tx, .inr (11, [.ref r, .int (nI n), .int lo])), (r, .inl (cB, cap, .inl f))] sz)) 0 0 (va_A [(w, .inr (13, [.ref tx, .int (nI p), .int kd, .int pl, .int nu, .long nm])), (tx, .inr (11, [.ref r, .int (nI n), .int lo])), (r, .inl (cB, cap, .inl f))] sz) := by
  refine Met.ofW (cc := cX10_readNumber) (maxL := 5) (ret := none) (by decide) rfl ?_
  intro pG eV s m args below meth c s₁ B hml hv
  obtain ⟨rfl, hsz, hP, hK, hD0⟩ := hv
  have hx := B.exec
  have hb := B.bytes
  have hr := B.returns
  have hts := atoms_spec (ws := Cond.code yX10_readNumber cX10_readNumber 5 none :: uG) B.pre
  have hu := fun (w : Cond) (h : w ∈ uG) => hts w (List.mem_cons_of_mem _ h)
  have hown : s.vm.findClass RX10 = some m.cls := findClass_of_methodNamed B.named
  have hlocks := B.notSynchronized
  subst hsz
  have hD := hD0.self (sz := s.heap.size)
  generalize hAe : va_A [(w, .inr (13, [.ref tx, .int (nI p), .int kd, .int pl, .int nu, .long nm])), (tx, .inr (11, [.ref r, .int (nI n), .int lo])), (r, .inl (cB, cap, .inl f))] s.heap.size = A at hD ⊢
  have hA : ∀ q : Nat, s.heap.size ≤ q → A q := fun q h => by rw [← hAe]; exact Or.inr h
  have hS : va_S A s.heap s.heap [] := va_S.rf
  have hP : va_P (dC, dI) vwCl [(w, .inr (13, [.ref tx, .int (nI p), .int kd, .int pl, .int nu, .long nm])), (tx, .inr (11, [.ref r, .int (nI n), .int lo])), (r, .inl (cB, cap, .inl f))] s.heap := hP
  have hD : va_D A [(w, .inr (13, [.ref tx, .int (nI p), .int kd, .int pl, .int nu, .long nm])), (tx, .inr (11, [.ref r, .int (nI n), .int lo])), (r, .inl (cB, cap, .inl f))] := hD
  have hl := lv_entry ([.ref w]) (n := 5) (Nat.le_of_ble_eq_true rfl)
  rw [lg_entry_eq]
  generalize (lg_sl ([.ref w]) ++ List.replicate (5 - (lg_sl ([.ref w])).length) Slot.unset).toArray = ls at hl ⊢
  have hl : lv_has ls 5 [(0, .ref w)] := hl
  refine lv_lconst (v := 0) hx hb dX10_readNumber_0 rfl ?_
  refine lv_lstore_n (lv' := [(1, .long 0), (0, .ref w)]) hx hb dX10_readNumber_1 rfl hl (by decide) rfl (fun ls hl => ?_)
  refine lv_iconst (v := 0) hx hb dX10_readNumber_2 (by decide) ?_
  refine lv_istore_n (lv' := [(3, .int 0), (1, .long 0), (0, .ref w)]) hx hb dX10_readNumber_3 rfl hl (by decide) rfl (fun ls hl => ?_)
  refine uLoop (σ := Nat) (fun xv H locs ls => (p + xv ≤ n) ∧ (nuE f n p (n - (p + xv)) xv = (nuE f n p (n - p) 0)) ∧ va_P (dC, dI) vwCl [(w, .inr (13, [.ref tx, .int (nI (p + xv)), .int kd, .int pl, .int nu, .long nm])), (tx, .inr (11, [.ref r, .int (nI n), .int lo])), (r, .inl (cB, cap, .inl f))] H ∧ va_D A [(w, .inr (13, [.ref tx, .int (nI (p + xv)), .int kd, .int pl, .int nu, .long nm])), (tx, .inr (11, [.ref r, .int (nI n), .int lo])), (r, .inl (cB, cap, .inl f))] ∧ va_S A s.heap H locs ∧ lv_has ls 5 [(0, .ref w), (1, .long (nuA f p xv)), (3, .int (nI xv))]) (fun xv => n - (p + xv)) (fun xv H locs ls hI ih4 => ?_) (0) ⟨by omega, rfl, hP, hD, hS, lv_sub hl [2, 1, 0] rfl⟩
  obtain ⟨i, hxv⟩ : ∃ z, z = xv := ⟨_, rfl⟩
  subst hxv
  obtain ⟨hi, hsk, hP, hD, hS, hl⟩ := hI
  have hi : p + i ≤ n := hi
  have hsk : nuE f n p (n - (p + i)) i = (nuE f n p (n - p) 0) := hsk
  have hP : va_P (dC, dI) vwCl [(w, .inr (13, [.ref tx, .int (nI (p + i)), .int kd, .int pl, .int nu, .long nm])), (tx, .inr (11, [.ref r, .int (nI n), .int lo])), (r, .inl (cB, cap, .inl f))] H := hP
  have hD : va_D A [(w, .inr (13, [.ref tx, .int (nI (p + i)), .int kd, .int pl, .int nu, .long nm])), (tx, .inr (11, [.ref r, .int (nI n), .int lo])), (r, .inl (cB, cap, .inl f))] := hD
  have hl : lv_has ls 5 [(0, .ref w), (1, .long (nuA f p i)), (3, .int (nI i))] := hl
  refine lv_aload_n hx hb dX10_readNumber_4 rfl (lv_at hl 0 rfl) ?_
  refine va_get (D := (dC, dI)) (ci := 13) (v := .int (nI (p + i))) (C := RX10) (T := TX10) (N := 6) hx hb hu iuX10 hown hK hP 0 rfl rfl 1 (by decide) (hu _ mG_516) (fun _ h9 => h9) rfl dX10_readNumber_5 ?_
  refine lv_aload_n hx hb dX10_readNumber_8 rfl (lv_at hl 0 rfl) ?_
  refine va_get (D := (dC, dI)) (ci := 13) (v := .ref tx) (C := RX10) (T := TX10) (N := 6) hx hb hu iuX10 hown hK hP 0 rfl rfl 0 (by decide) (hu _ mG_515) (fun _ h9 => h9) rfl dX10_readNumber_9 ?_
  refine va_get (D := (dC, dI)) (ci := 11) (v := .int (nI n)) (C := RX8) (T := TX8) (N := 3) hx hb hu iuX8 hown hK hP 1 rfl rfl 1 (by decide) (hu _ mG_265) (fun _ h9 => h9) rfl dX10_readNumber_12 ?_
  refine lv_icmp_ge (tgt := 79) hx hb dX10_readNumber_15 (by decide) (fun c15 => ?_) (fun c15 => ?_)
  · have hL : (nuE f n p (n - p) 0) = i := by
      rw [← hsk]
      have h15 := (nI_leI (by omega) (by omega)).mp c15
      rw [show n - (p + i) = 0 by omega]; rfl
    refine lv_iload_n hx hb dX10_readNumber_79 rfl (lv_at hl 2 rfl) ?_
    refine lv_bipush (v := 10) hx hb dX10_readNumber_80 (by decide) ?_
    refine lv_icmp_gt (tgt := 97) hx hb dX10_readNumber_82 (by decide) (fun c82 => ?_) (fun c82 => ?_)
    · refine lv_iconst (v := 0) hx hb dX10_readNumber_97 (by decide) ?_
      refine lv_istore (lv' := [(4, .int 0), (0, .ref w), (1, .long (nuA f p i)), (3, .int (nI i))]) hx hb dX10_readNumber_98 hl (by decide) rfl (fun ls hl => ?_)
      refine lv_aload_n hx hb dX10_readNumber_100 rfl (lv_at hl 1 rfl) ?_
      refine lv_iload hx hb dX10_readNumber_101 (lv_at hl 0 rfl) ?_
      refine lv_if_eq (tgt := 110) hx hb dX10_readNumber_103 (by decide) (fun c103 => ?_) (fun c103 => ?_)
      · refine lv_iconst (v := 2) hx hb dX10_readNumber_110 (by decide) ?_
        refine va_put (D := (dC, dI)) (ci := 13) (v := .int 2) (ty := (tyX10 2)) (C := RX10) (T := TX10) (N := 6) hx hb hu iuX10 tyX10 tyX10_ok nmX10 hown hK hP hD hS 0 rfl rfl 2 (by decide) (hu _ mG_517) (fun _ h9 => h9) rfl (by decide +kernel) (rfl) (rfl) (Nat.le_of_ble_eq_true rfl) dX10_readNumber_111 (fun H locs hP hD hS => ?_)
        have hP : va_P (dC, dI) vwCl [(w, .inr (13, [.ref tx, .int (nI (p + i)), .int 2, .int pl, .int nu, .long nm])), (tx, .inr (11, [.ref r, .int (nI n), .int lo])), (r, .inl (cB, cap, .inl f))] H := hP
        have hD : va_D A [(w, .inr (13, [.ref tx, .int (nI (p + i)), .int 2, .int pl, .int nu, .long nm])), (tx, .inr (11, [.ref r, .int (nI n), .int lo])), (r, .inl (cB, cap, .inl f))] := hD
        refine lv_aload_n hx hb dX10_readNumber_114 rfl (lv_at hl 1 rfl) ?_
        refine lv_iload hx hb dX10_readNumber_115 (lv_at hl 0 rfl) ?_
        refine lv_if_eq (tgt := 125) hx hb dX10_readNumber_117 (by decide) (fun c117 => ?_) (fun c117 => ?_)
        · refine lv_iconst (v := 0) hx hb dX10_readNumber_125 (by decide) ?_
          refine va_put (D := (dC, dI)) (ci := 13) (v := .int 0) (ty := (tyX10 4)) (C := RX10) (T := TX10) (N := 6) hx hb hu iuX10 tyX10 tyX10_ok nmX10 hown hK hP hD hS 0 rfl rfl 4 (by decide) (hu _ mG_522) (fun _ h9 => h9) rfl (by decide +kernel) (rfl) (rfl) (Nat.le_of_ble_eq_true rfl) dX10_readNumber_126 (fun H locs hP hD hS => ?_)
          have hP : va_P (dC, dI) vwCl [(w, .inr (13, [.ref tx, .int (nI (p + i)), .int 2, .int pl, .int 0, .long nm])), (tx, .inr (11, [.ref r, .int (nI n), .int lo])), (r, .inl (cB, cap, .inl f))] H := hP
          have hD : va_D A [(w, .inr (13, [.ref tx, .int (nI (p + i)), .int 2, .int pl, .int 0, .long nm])), (tx, .inr (11, [.ref r, .int (nI n), .int lo])), (r, .inl (cB, cap, .inl f))] := hD
          have hP9 : va_P (dC, dI) vwCl [(w, .inr (13, [.ref tx, .int (nI (p + (nuE f n p (n - p) 0))), .int (if 10 < nI (nuE f n p (n - p) 0) then 2 else if 0 < lg_cmp (nuA f p (nuE f n p (n - p) 0)) 2147483647 then 2 else 5), .int pl, .int (if 10 < nI (nuE f n p (n - p) 0) then 0 else if 0 < lg_cmp (nuA f p (nuE f n p (n - p) 0)) 2147483647 then 0 else (nuA f p (nuE f n p (n - p) 0)).toInt32), .long nm])), (tx, .inr (11, [.ref r, .int (nI n), .int lo])), (r, .inl (cB, cap, .inl f))] H := by simp only [hL, if_pos c82]; exact hP
          have hD9 : va_D A [(w, .inr (13, [.ref tx, .int (nI (p + (nuE f n p (n - p) 0))), .int (if 10 < nI (nuE f n p (n - p) 0) then 2 else if 0 < lg_cmp (nuA f p (nuE f n p (n - p) 0)) 2147483647 then 2 else 5), .int pl, .int (if 10 < nI (nuE f n p (n - p) 0) then 0 else if 0 < lg_cmp (nuA f p (nuE f n p (n - p) 0)) 2147483647 then 0 else (nuA f p (nuE f n p (n - p) 0)).toInt32), .long nm])), (tx, .inr (11, [.ref r, .int (nI n), .int lo])), (r, .inl (cB, cap, .inl f))] := by simp only [hL, if_pos c82]; exact hD
          have hK9 := hK.sub (tys' := [(cB, .byte)]) [0] rfl
          exact W.vret hx hb hr (fun t ht hW => ⟨⟨(), rfl, trivial, by rw [ht]; exact hP9, va_K.moved hW.alike hK9, hD9⟩, hS.F ht⟩) hS.2.2 dX10_readNumber_129
        · exact absurd (by decide) c117
      · exact absurd (by decide) c103
    · refine lv_lload_n hx hb dX10_readNumber_85 rfl (lv_at hl 1 rfl) ?_
      refine lv_ldc2 (own := RX10) (v := 2147483647) hx hb hown (hu _ mG_958) dX10_readNumber_86 ?_
      refine W.lcmp hx hb dX10_readNumber_89 ?_
      refine lv_topi (fun x89 ex89 => ?_)
      refine lv_if_gt (tgt := 97) hx hb dX10_readNumber_90 (by decide) (fun c90 => ?_) (fun c90 => ?_)
      · refine lv_iconst (v := 0) hx hb dX10_readNumber_97 (by decide) ?_
        refine lv_istore (lv' := [(4, .int 0), (0, .ref w), (1, .long (nuA f p i)), (3, .int (nI i))]) hx hb dX10_readNumber_98 hl (by decide) rfl (fun ls hl => ?_)
        refine lv_aload_n hx hb dX10_readNumber_100 rfl (lv_at hl 1 rfl) ?_
        refine lv_iload hx hb dX10_readNumber_101 (lv_at hl 0 rfl) ?_
        refine lv_if_eq (tgt := 110) hx hb dX10_readNumber_103 (by decide) (fun c103 => ?_) (fun c103 => ?_)
        · refine lv_iconst (v := 2) hx hb dX10_readNumber_110 (by decide) ?_
          refine va_put (D := (dC, dI)) (ci := 13) (v := .int 2) (ty := (tyX10 2)) (C := RX10) (T := TX10) (N := 6) hx hb hu iuX10 tyX10 tyX10_ok nmX10 hown hK hP hD hS 0 rfl rfl 2 (by decide) (hu _ mG_517) (fun _ h9 => h9) rfl (by decide +kernel) (rfl) (rfl) (Nat.le_of_ble_eq_true rfl) dX10_readNumber_111 (fun H locs hP hD hS => ?_)
          have hP : va_P (dC, dI) vwCl [(w, .inr (13, [.ref tx, .int (nI (p + i)), .int 2, .int pl, .int nu, .long nm])), (tx, .inr (11, [.ref r, .int (nI n), .int lo])), (r, .inl (cB, cap, .inl f))] H := hP
          have hD : va_D A [(w, .inr (13, [.ref tx, .int (nI (p + i)), .int 2, .int pl, .int nu, .long nm])), (tx, .inr (11, [.ref r, .int (nI n), .int lo])), (r, .inl (cB, cap, .inl f))] := hD
          refine lv_aload_n hx hb dX10_readNumber_114 rfl (lv_at hl 1 rfl) ?_
          refine lv_iload hx hb dX10_readNumber_115 (lv_at hl 0 rfl) ?_
          refine lv_if_eq (tgt := 125) hx hb dX10_readNumber_117 (by decide) (fun c117 => ?_) (fun c117 => ?_)
          · refine lv_iconst (v := 0) hx hb dX10_readNumber_125 (by decide) ?_
            refine va_put (D := (dC, dI)) (ci := 13) (v := .int 0) (ty := (tyX10 4)) (C := RX10) (T := TX10) (N := 6) hx hb hu iuX10 tyX10 tyX10_ok nmX10 hown hK hP hD hS 0 rfl rfl 4 (by decide) (hu _ mG_522) (fun _ h9 => h9) rfl (by decide +kernel) (rfl) (rfl) (Nat.le_of_ble_eq_true rfl) dX10_readNumber_126 (fun H locs hP hD hS => ?_)
            have hP : va_P (dC, dI) vwCl [(w, .inr (13, [.ref tx, .int (nI (p + i)), .int 2, .int pl, .int 0, .long nm])), (tx, .inr (11, [.ref r, .int (nI n), .int lo])), (r, .inl (cB, cap, .inl f))] H := hP
            have hD : va_D A [(w, .inr (13, [.ref tx, .int (nI (p + i)), .int 2, .int pl, .int 0, .long nm])), (tx, .inr (11, [.ref r, .int (nI n), .int lo])), (r, .inl (cB, cap, .inl f))] := hD
            have hP9 : va_P (dC, dI) vwCl [(w, .inr (13, [.ref tx, .int (nI (p + (nuE f n p (n - p) 0))), .int (if 10 < nI (nuE f n p (n - p) 0) then 2 else if 0 < lg_cmp (nuA f p (nuE f n p (n - p) 0)) 2147483647 then 2 else 5), .int pl, .int (if 10 < nI (nuE f n p (n - p) 0) then 0 else if 0 < lg_cmp (nuA f p (nuE f n p (n - p) 0)) 2147483647 then 0 else (nuA f p (nuE f n p (n - p) 0)).toInt32), .long nm])), (tx, .inr (11, [.ref r, .int (nI n), .int lo])), (r, .inl (cB, cap, .inl f))] H := by have h90 : 0 < lg_cmp (nuA f p i) 2147483647 := (by rw [← ex89]; exact c90); simp only [hL, if_neg c82, if_pos h90]; exact hP
            have hD9 : va_D A [(w, .inr (13, [.ref tx, .int (nI (p + (nuE f n p (n - p) 0))), .int (if 10 < nI (nuE f n p (n - p) 0) then 2 else if 0 < lg_cmp (nuA f p (nuE f n p (n - p) 0)) 2147483647 then 2 else 5), .int pl, .int (if 10 < nI (nuE f n p (n - p) 0) then 0 else if 0 < lg_cmp (nuA f p (nuE f n p (n - p) 0)) 2147483647 then 0 else (nuA f p (nuE f n p (n - p) 0)).toInt32), .long nm])), (tx, .inr (11, [.ref r, .int (nI n), .int lo])), (r, .inl (cB, cap, .inl f))] := by have h90 : 0 < lg_cmp (nuA f p i) 2147483647 := (by rw [← ex89]; exact c90); simp only [hL, if_neg c82, if_pos h90]; exact hD
            have hK9 := hK.sub (tys' := [(cB, .byte)]) [0] rfl
            exact W.vret hx hb hr (fun t ht hW => ⟨⟨(), rfl, trivial, by rw [ht]; exact hP9, va_K.moved hW.alike hK9, hD9⟩, hS.F ht⟩) hS.2.2 dX10_readNumber_129
          · exact absurd (by decide) c117
        · exact absurd (by decide) c103
      · refine lv_iconst (v := 1) hx hb dX10_readNumber_93 (by decide) ?_
        refine lv_goto (tgt := 98) hx hb dX10_readNumber_94 (by decide) ?_
        refine lv_istore (lv' := [(4, .int 1), (0, .ref w), (1, .long (nuA f p i)), (3, .int (nI i))]) hx hb dX10_readNumber_98 hl (by decide) rfl (fun ls hl => ?_)
        refine lv_aload_n hx hb dX10_readNumber_100 rfl (lv_at hl 1 rfl) ?_
        refine lv_iload hx hb dX10_readNumber_101 (lv_at hl 0 rfl) ?_
        refine lv_if_eq (tgt := 110) hx hb dX10_readNumber_103 (by decide) (fun c103 => ?_) (fun c103 => ?_)
        · exact absurd c103 (by decide)
        · refine lv_iconst (v := 5) hx hb dX10_readNumber_106 (by decide) ?_
          refine lv_goto (tgt := 111) hx hb dX10_readNumber_107 (by decide) ?_
          refine va_put (D := (dC, dI)) (ci := 13) (v := .int 5) (ty := (tyX10 2)) (C := RX10) (T := TX10) (N := 6) hx hb hu iuX10 tyX10 tyX10_ok nmX10 hown hK hP hD hS 0 rfl rfl 2 (by decide) (hu _ mG_517) (fun _ h9 => h9) rfl (by decide +kernel) (rfl) (rfl) (Nat.le_of_ble_eq_true rfl) dX10_readNumber_111 (fun H locs hP hD hS => ?_)
          have hP : va_P (dC, dI) vwCl [(w, .inr (13, [.ref tx, .int (nI (p + i)), .int 5, .int pl, .int nu, .long nm])), (tx, .inr (11, [.ref r, .int (nI n), .int lo])), (r, .inl (cB, cap, .inl f))] H := hP
          have hD : va_D A [(w, .inr (13, [.ref tx, .int (nI (p + i)), .int 5, .int pl, .int nu, .long nm])), (tx, .inr (11, [.ref r, .int (nI n), .int lo])), (r, .inl (cB, cap, .inl f))] := hD
          refine lv_aload_n hx hb dX10_readNumber_114 rfl (lv_at hl 1 rfl) ?_
          refine lv_iload hx hb dX10_readNumber_115 (lv_at hl 0 rfl) ?_
          refine lv_if_eq (tgt := 125) hx hb dX10_readNumber_117 (by decide) (fun c117 => ?_) (fun c117 => ?_)
          · exact absurd c117 (by decide)
          · refine lv_lload_n hx hb dX10_readNumber_120 rfl (lv_at hl 2 rfl) ?_
            refine lv_l2i hx hb dX10_readNumber_121 rfl ?_
            refine lv_topi (fun x121 ex121 => ?_)
            subst ex121
            refine lv_goto (tgt := 126) hx hb dX10_readNumber_122 (by decide) ?_
            refine va_put (D := (dC, dI)) (ci := 13) (v := .int (nuA f p i).toInt32) (ty := (tyX10 4)) (C := RX10) (T := TX10) (N := 6) hx hb hu iuX10 tyX10 tyX10_ok nmX10 hown hK hP hD hS 0 rfl rfl 4 (by decide) (hu _ mG_522) (fun _ h9 => h9) rfl (by decide +kernel) (rfl) (rfl) (Nat.le_of_ble_eq_true rfl) dX10_readNumber_126 (fun H locs hP hD hS => ?_)
            have hP : va_P (dC, dI) vwCl [(w, .inr (13, [.ref tx, .int (nI (p + i)), .int 5, .int pl, .int (nuA f p i).toInt32, .long nm])), (tx, .inr (11, [.ref r, .int (nI n), .int lo])), (r, .inl (cB, cap, .inl f))] H := hP
            have hD : va_D A [(w, .inr (13, [.ref tx, .int (nI (p + i)), .int 5, .int pl, .int (nuA f p i).toInt32, .long nm])), (tx, .inr (11, [.ref r, .int (nI n), .int lo])), (r, .inl (cB, cap, .inl f))] := hD
            have hP9 : va_P (dC, dI) vwCl [(w, .inr (13, [.ref tx, .int (nI (p + (nuE f n p (n - p) 0))), .int (if 10 < nI (nuE f n p (n - p) 0) then 2 else if 0 < lg_cmp (nuA f p (nuE f n p (n - p) 0)) 2147483647 then 2 else 5), .int pl, .int (if 10 < nI (nuE f n p (n - p) 0) then 0 else if 0 < lg_cmp (nuA f p (nuE f n p (n - p) 0)) 2147483647 then 0 else (nuA f p (nuE f n p (n - p) 0)).toInt32), .long nm])), (tx, .inr (11, [.ref r, .int (nI n), .int lo])), (r, .inl (cB, cap, .inl f))] H := by have h90 : ¬ 0 < lg_cmp (nuA f p i) 2147483647 := (by rw [← ex89]; exact c90); simp only [hL, if_neg c82, if_neg h90]; exact hP
            have hD9 : va_D A [(w, .inr (13, [.ref tx, .int (nI (p + (nuE f n p (n - p) 0))), .int (if 10 < nI (nuE f n p (n - p) 0) then 2 else if 0 < lg_cmp (nuA f p (nuE f n p (n - p) 0)) 2147483647 then 2 else 5), .int pl, .int (if 10 < nI (nuE f n p (n - p) 0) then 0 else if 0 < lg_cmp (nuA f p (nuE f n p (n - p) 0)) 2147483647 then 0 else (nuA f p (nuE f n p (n - p) 0)).toInt32), .long nm])), (tx, .inr (11, [.ref r, .int (nI n), .int lo])), (r, .inl (cB, cap, .inl f))] := by have h90 : ¬ 0 < lg_cmp (nuA f p i) 2147483647 := (by rw [← ex89]; exact c90); simp only [hL, if_neg c82, if_neg h90]; exact hD
            have hK9 := hK.sub (tys' := [(cB, .byte)]) [0] rfl
            exact W.vret hx hb hr (fun t ht hW => ⟨⟨(), rfl, trivial, by rw [ht]; exact hP9, va_K.moved hW.alike hK9, hD9⟩, hS.F ht⟩) hS.2.2 dX10_readNumber_129
  · have hin : p + i < n := (nI_ltI (by omega) (by omega)).mp (Int32.not_le.mp c15)
    have hsg : sgn f n (p + i) = f (p + i) := if_pos hin
    have hs1 : nuE f n p (n - (p + i)) i = if nuG f n p i then nuE f n p (n - (p + (i + 1))) (i + 1) else i := by
      rw [show n - (p + i) = (n - (p + (i + 1))) + 1 by omega]; rfl
    refine lv_aload_n hx hb dX10_readNumber_18 rfl (lv_at hl 0 rfl) ?_
    refine va_get (D := (dC, dI)) (ci := 13) (v := .ref tx) (C := RX10) (T := TX10) (N := 6) hx hb hu iuX10 hown hK hP 0 rfl rfl 0 (by decide) (hu _ mG_515) (fun _ h9 => h9) rfl dX10_readNumber_19 ?_
    refine lv_aload_n hx hb dX10_readNumber_22 rfl (lv_at hl 0 rfl) ?_
    refine va_get (D := (dC, dI)) (ci := 13) (v := .int (nI (p + i))) (C := RX10) (T := TX10) (N := 6) hx hb hu iuX10 hown hK hP 0 rfl rfl 1 (by decide) (hu _ mG_516) (fun _ h9 => h9) rfl dX10_readNumber_23 ?_
    have hPc := hP.sub (ws' := [(tx, .inr (11, [.ref r, .int (nI n), .int lo])), (r, .inl (cB, cap, .inl f))]) [1, 2] rfl
    have hDc := hD.sub (ws' := [(tx, .inr (11, [.ref r, .int (nI n), .int lo])), (r, .inl (cB, cap, .inl f))]) [1, 2] (by decide) rfl
    have hKc := hK.sub (tys' := [(cB, .byte)]) [0] rfl
    have hFc := va_free (wc := [(tx, .inr (11, [.ref r, .int (nI n), .int lo])), (r, .inl (cB, cap, .inl f))]) hD hS hA [1, 2] rfl
    refine va_calli (va_runV (As := [.int (nI (p + i))]) (rest := []) ⟨hx, hb, hml, hown, hu⟩ (kX8_signAt l dC dI H.size tx r cap n lo f cB (nI (p + i)) hn hc) (cwV 1 hu (uG_V (fun _ h => h) mG_929 mG_926 mG_927 mG_928 mG_215) rfl rfl rfl (by decide +kernel) ⟨Nat.le_of_ble_eq_true rfl, Nat.le_of_ble_eq_true rfl⟩) ⟨fun a U g mk q => by obtain ⟨q0, q1, qP, qK, qD⟩ := q; exact ⟨q0, q1, qP, va_K.moved (u := U) (U := U.calling g mk a) (Vm.Alike.refl U.vm) qK, qD⟩, va_recv hKc hPc (ci := 11) (q0 := 0) rfl rfl, fun U hU hW => ⟨rfl, by rw [hU], by rw [hU]; exact hPc, va_K.moved hW.alike hKc, hDc.weaken (fun _ _ _ _ => trivial)⟩⟩ rfl rfl hl.1 rfl (lv_room (Nat.le_of_ble_eq_true rfl)) dX10_readNumber_26 ⟨Nat.le_of_ble_eq_true rfl, Nat.le_of_ble_eq_true rfl⟩) hS (fun q _ h => hFc q h) hFc (fun r26 u t H1 locs ht hvm hw hB hz1 hk1 hS => ?_)
    obtain ⟨hP1, hK1, hD1⟩ := hB
    rw [ht] at hP1
    obtain ⟨hP, hD⟩ := va_join (wr := [(w, .inr (13, [.ref tx, .int (nI (p + i)), .int kd, .int pl, .int nu, .long nm]))]) (w1 := [(tx, .inr (11, [.ref r, .int (nI n), .int lo])), (r, .inl (cB, cap, .inl f))]) hP hD [1, 2] [0] rfl rfl (by decide) (by decide) hk1 hFc hP1 hD1
    generalize H1 = H at hP hS ⊢
    have hP : va_P (dC, dI) vwCl [(w, .inr (13, [.ref tx, .int (nI (p + i)), .int kd, .int pl, .int nu, .long nm])), (tx, .inr (11, [.ref r, .int (nI n), .int lo])), (r, .inl (cB, cap, .inl f))] H := hP
    have hD : va_D A [(w, .inr (13, [.ref tx, .int (nI (p + i)), .int kd, .int pl, .int nu, .long nm])), (tx, .inr (11, [.ref r, .int (nI n), .int lo])), (r, .inl (cB, cap, .inl f))] := hD
    have er26 : r26 = (if ¬ nI (p + i) < 0 ∧ nI (p + i) < nI n then f (nI (p + i)).toNatClampNeg else (-1)) := hw
    subst er26
    rw [sgn_at (by omega) (by omega), hsg]
    have hPc := hP.sub (ws' := []) [] rfl
    have hDc := hD.sub (ws' := []) [] (by decide) rfl
    have hKc := hK.sub (tys' := []) [] rfl
    have hFc := va_free (wc := []) hD hS hA [] rfl
    refine va_calli (va_runS (As := [.int (f (p + i))]) (rest := []) ⟨hx, hb, hml, hown, hu⟩ (kX10_isDigit l dC dI H.size (f (p + i))) (cwS 1 hu (uG_S (fun _ h => h) mG_942 mG_940 mG_941 mG_220) rfl rfl rfl (by decide +kernel) ⟨Nat.le_of_ble_eq_true rfl, Nat.le_of_ble_eq_true rfl⟩) ⟨fun a U g mk q => by obtain ⟨q0, q1, qP, qK, qD⟩ := q; exact ⟨q0, q1, qP, va_K.moved (u := U) (U := U.calling g mk a) (Vm.Alike.refl U.vm) qK, qD⟩, fun U hU hW => ⟨rfl, by rw [hU], by rw [hU]; exact hPc, va_K.moved hW.alike hKc, hDc.weaken (fun _ _ _ _ => trivial)⟩⟩ rfl rfl hl.1 rfl (lv_room (Nat.le_of_ble_eq_true rfl)) dX10_readNumber_29 ⟨Nat.le_of_ble_eq_true rfl, Nat.le_of_ble_eq_true rfl⟩) hS (fun q _ h => hFc q h) hFc (fun r29 u t H1 locs ht hvm hw hB hz1 hk1 hS => ?_)
    obtain ⟨hP1, hK1, hD1⟩ := hB
    rw [ht] at hP1
    obtain ⟨hP, hD⟩ := va_join (wr := [(w, .inr (13, [.ref tx, .int (nI (p + i)), .int kd, .int pl, .int nu, .long nm])), (tx, .inr (11, [.ref r, .int (nI n), .int lo])), (r, .inl (cB, cap, .inl f))]) (w1 := []) hP hD [] [0, 1, 2] rfl rfl (by decide) (by decide) hk1 hFc hP1 hD1
    generalize H1 = H at hP hS ⊢
    have hP : va_P (dC, dI) vwCl [(w, .inr (13, [.ref tx, .int (nI (p + i)), .int kd, .int pl, .int nu, .long nm])), (tx, .inr (11, [.ref r, .int (nI n), .int lo])), (r, .inl (cB, cap, .inl f))] H := hP
    have hD : va_D A [(w, .inr (13, [.ref tx, .int (nI (p + i)), .int kd, .int pl, .int nu, .long nm])), (tx, .inr (11, [.ref r, .int (nI n), .int lo])), (r, .inl (cB, cap, .inl f))] := hD
    have er29 : r29 = (cDigit (f (p + i))) := hw
    subst er29
    refine lv_if_eq (tgt := 79) hx hb dX10_readNumber_32 (by decide) (fun c32 => ?_) (fun c32 => ?_)
    · have hL : (nuE f n p (n - p) 0) = i := by rw [← hsk, hs1, if_neg (fun h => h.2 c32)]
      refine lv_iload_n hx hb dX10_readNumber_79 rfl (lv_at hl 2 rfl) ?_
      refine lv_bipush (v := 10) hx hb dX10_readNumber_80 (by decide) ?_
      refine lv_icmp_gt (tgt := 97) hx hb dX10_readNumber_82 (by decide) (fun c82 => ?_) (fun c82 => ?_)
      · refine lv_iconst (v := 0) hx hb dX10_readNumber_97 (by decide) ?_
        refine lv_istore (lv' := [(4, .int 0), (0, .ref w), (1, .long (nuA f p i)), (3, .int (nI i))]) hx hb dX10_readNumber_98 hl (by decide) rfl (fun ls hl => ?_)
        refine lv_aload_n hx hb dX10_readNumber_100 rfl (lv_at hl 1 rfl) ?_
        refine lv_iload hx hb dX10_readNumber_101 (lv_at hl 0 rfl) ?_
        refine lv_if_eq (tgt := 110) hx hb dX10_readNumber_103 (by decide) (fun c103 => ?_) (fun c103 => ?_)
        · refine lv_iconst (v := 2) hx hb dX10_readNumber_110 (by decide) ?_
          refine va_put (D := (dC, dI)) (ci := 13) (v := .int 2) (ty := (tyX10 2)) (C := RX10) (T := TX10) (N := 6) hx hb hu iuX10 tyX10 tyX10_ok nmX10 hown hK hP hD hS 0 rfl rfl 2 (by decide) (hu _ mG_517) (fun _ h9 => h9) rfl (by decide +kernel) (rfl) (rfl) (Nat.le_of_ble_eq_true rfl) dX10_readNumber_111 (fun H locs hP hD hS => ?_)
          have hP : va_P (dC, dI) vwCl [(w, .inr (13, [.ref tx, .int (nI (p + i)), .int 2, .int pl, .int nu, .long nm])), (tx, .inr (11, [.ref r, .int (nI n), .int lo])), (r, .inl (cB, cap, .inl f))] H := hP
          have hD : va_D A [(w, .inr (13, [.ref tx, .int (nI (p + i)), .int 2, .int pl, .int nu, .long nm])), (tx, .inr (11, [.ref r, .int (nI n), .int lo])), (r, .inl (cB, cap, .inl f))] := hD
          refine lv_aload_n hx hb dX10_readNumber_114 rfl (lv_at hl 1 rfl) ?_
          refine lv_iload hx hb dX10_readNumber_115 (lv_at hl 0 rfl) ?_
          refine lv_if_eq (tgt := 125) hx hb dX10_readNumber_117 (by decide) (fun c117 => ?_) (fun c117 => ?_)
          · refine lv_iconst (v := 0) hx hb dX10_readNumber_125 (by decide) ?_
            refine va_put (D := (dC, dI)) (ci := 13) (v := .int 0) (ty := (tyX10 4)) (C := RX10) (T := TX10) (N := 6) hx hb hu iuX10 tyX10 tyX10_ok nmX10 hown hK hP hD hS 0 rfl rfl 4 (by decide) (hu _ mG_522) (fun _ h9 => h9) rfl (by decide +kernel) (rfl) (rfl) (Nat.le_of_ble_eq_true rfl) dX10_readNumber_126 (fun H locs hP hD hS => ?_)
            have hP : va_P (dC, dI) vwCl [(w, .inr (13, [.ref tx, .int (nI (p + i)), .int 2, .int pl, .int 0, .long nm])), (tx, .inr (11, [.ref r, .int (nI n), .int lo])), (r, .inl (cB, cap, .inl f))] H := hP
            have hD : va_D A [(w, .inr (13, [.ref tx, .int (nI (p + i)), .int 2, .int pl, .int 0, .long nm])), (tx, .inr (11, [.ref r, .int (nI n), .int lo])), (r, .inl (cB, cap, .inl f))] := hD
            have hP9 : va_P (dC, dI) vwCl [(w, .inr (13, [.ref tx, .int (nI (p + (nuE f n p (n - p) 0))), .int (if 10 < nI (nuE f n p (n - p) 0) then 2 else if 0 < lg_cmp (nuA f p (nuE f n p (n - p) 0)) 2147483647 then 2 else 5), .int pl, .int (if 10 < nI (nuE f n p (n - p) 0) then 0 else if 0 < lg_cmp (nuA f p (nuE f n p (n - p) 0)) 2147483647 then 0 else (nuA f p (nuE f n p (n - p) 0)).toInt32), .long nm])), (tx, .inr (11, [.ref r, .int (nI n), .int lo])), (r, .inl (cB, cap, .inl f))] H := by simp only [hL, if_pos c82]; exact hP
            have hD9 : va_D A [(w, .inr (13, [.ref tx, .int (nI (p + (nuE f n p (n - p) 0))), .int (if 10 < nI (nuE f n p (n - p) 0) then 2 else if 0 < lg_cmp (nuA f p (nuE f n p (n - p) 0)) 2147483647 then 2 else 5), .int pl, .int (if 10 < nI (nuE f n p (n - p) 0) then 0 else if 0 < lg_cmp (nuA f p (nuE f n p (n - p) 0)) 2147483647 then 0 else (nuA f p (nuE f n p (n - p) 0)).toInt32), .long nm])), (tx, .inr (11, [.ref r, .int (nI n), .int lo])), (r, .inl (cB, cap, .inl f))] := by simp only [hL, if_pos c82]; exact hD
            have hK9 := hK.sub (tys' := [(cB, .byte)]) [0] rfl
            exact W.vret hx hb hr (fun t ht hW => ⟨⟨(), rfl, trivial, by rw [ht]; exact hP9, va_K.moved hW.alike hK9, hD9⟩, hS.F ht⟩) hS.2.2 dX10_readNumber_129
          · exact absurd (by decide) c117
        · exact absurd (by decide) c103
      · refine lv_lload_n hx hb dX10_readNumber_85 rfl (lv_at hl 1 rfl) ?_
        refine lv_ldc2 (own := RX10) (v := 2147483647) hx hb hown (hu _ mG_958) dX10_readNumber_86 ?_
        refine W.lcmp hx hb dX10_readNumber_89 ?_
        refine lv_topi (fun x89 ex89 => ?_)
        refine lv_if_gt (tgt := 97) hx hb dX10_readNumber_90 (by decide) (fun c90 => ?_) (fun c90 => ?_)
        · refine lv_iconst (v := 0) hx hb dX10_readNumber_97 (by decide) ?_
          refine lv_istore (lv' := [(4, .int 0), (0, .ref w), (1, .long (nuA f p i)), (3, .int (nI i))]) hx hb dX10_readNumber_98 hl (by decide) rfl (fun ls hl => ?_)
          refine lv_aload_n hx hb dX10_readNumber_100 rfl (lv_at hl 1 rfl) ?_
          refine lv_iload hx hb dX10_readNumber_101 (lv_at hl 0 rfl) ?_
          refine lv_if_eq (tgt := 110) hx hb dX10_readNumber_103 (by decide) (fun c103 => ?_) (fun c103 => ?_)
          · refine lv_iconst (v := 2) hx hb dX10_readNumber_110 (by decide) ?_
            refine va_put (D := (dC, dI)) (ci := 13) (v := .int 2) (ty := (tyX10 2)) (C := RX10) (T := TX10) (N := 6) hx hb hu iuX10 tyX10 tyX10_ok nmX10 hown hK hP hD hS 0 rfl rfl 2 (by decide) (hu _ mG_517) (fun _ h9 => h9) rfl (by decide +kernel) (rfl) (rfl) (Nat.le_of_ble_eq_true rfl) dX10_readNumber_111 (fun H locs hP hD hS => ?_)
            have hP : va_P (dC, dI) vwCl [(w, .inr (13, [.ref tx, .int (nI (p + i)), .int 2, .int pl, .int nu, .long nm])), (tx, .inr (11, [.ref r, .int (nI n), .int lo])), (r, .inl (cB, cap, .inl f))] H := hP
            have hD : va_D A [(w, .inr (13, [.ref tx, .int (nI (p + i)), .int 2, .int pl, .int nu, .long nm])), (tx, .inr (11, [.ref r, .int (nI n), .int lo])), (r, .inl (cB, cap, .inl f))] := hD
            refine lv_aload_n hx hb dX10_readNumber_114 rfl (lv_at hl 1 rfl) ?_
            refine lv_iload hx hb dX10_readNumber_115 (lv_at hl 0 rfl) ?_
            refine lv_if_eq (tgt := 125) hx hb dX10_readNumber_117 (by decide) (fun c117 => ?_) (fun c117 => ?_)
            · refine lv_iconst (v := 0) hx hb dX10_readNumber_125 (by decide) ?_
              refine va_put (D := (dC, dI)) (ci := 13) (v := .int 0) (ty := (tyX10 4)) (C := RX10) (T := TX10) (N := 6) hx hb hu iuX10 tyX10 tyX10_ok nmX10 hown hK hP hD hS 0 rfl rfl 4 (by decide) (hu _ mG_522) (fun _ h9 => h9) rfl (by decide +kernel) (rfl) (rfl) (Nat.le_of_ble_eq_true rfl) dX10_readNumber_126 (fun H locs hP hD hS => ?_)
              have hP : va_P (dC, dI) vwCl [(w, .inr (13, [.ref tx, .int (nI (p + i)), .int 2, .int pl, .int 0, .long nm])), (tx, .inr (11, [.ref r, .int (nI n), .int lo])), (r, .inl (cB, cap, .inl f))] H := hP
              have hD : va_D A [(w, .inr (13, [.ref tx, .int (nI (p + i)), .int 2, .int pl, .int 0, .long nm])), (tx, .inr (11, [.ref r, .int (nI n), .int lo])), (r, .inl (cB, cap, .inl f))] := hD
              have hP9 : va_P (dC, dI) vwCl [(w, .inr (13, [.ref tx, .int (nI (p + (nuE f n p (n - p) 0))), .int (if 10 < nI (nuE f n p (n - p) 0) then 2 else if 0 < lg_cmp (nuA f p (nuE f n p (n - p) 0)) 2147483647 then 2 else 5), .int pl, .int (if 10 < nI (nuE f n p (n - p) 0) then 0 else if 0 < lg_cmp (nuA f p (nuE f n p (n - p) 0)) 2147483647 then 0 else (nuA f p (nuE f n p (n - p) 0)).toInt32), .long nm])), (tx, .inr (11, [.ref r, .int (nI n), .int lo])), (r, .inl (cB, cap, .inl f))] H := by have h90 : 0 < lg_cmp (nuA f p i) 2147483647 := (by rw [← ex89]; exact c90); simp only [hL, if_neg c82, if_pos h90]; exact hP
              have hD9 : va_D A [(w, .inr (13, [.ref tx, .int (nI (p + (nuE f n p (n - p) 0))), .int (if 10 < nI (nuE f n p (n - p) 0) then 2 else if 0 < lg_cmp (nuA f p (nuE f n p (n - p) 0)) 2147483647 then 2 else 5), .int pl, .int (if 10 < nI (nuE f n p (n - p) 0) then 0 else if 0 < lg_cmp (nuA f p (nuE f n p (n - p) 0)) 2147483647 then 0 else (nuA f p (nuE f n p (n - p) 0)).toInt32), .long nm])), (tx, .inr (11, [.ref r, .int (nI n), .int lo])), (r, .inl (cB, cap, .inl f))] := by have h90 : 0 < lg_cmp (nuA f p i) 2147483647 := (by rw [← ex89]; exact c90); simp only [hL, if_neg c82, if_pos h90]; exact hD
              have hK9 := hK.sub (tys' := [(cB, .byte)]) [0] rfl
              exact W.vret hx hb hr (fun t ht hW => ⟨⟨(), rfl, trivial, by rw [ht]; exact hP9, va_K.moved hW.alike hK9, hD9⟩, hS.F ht⟩) hS.2.2 dX10_readNumber_129
            · exact absurd (by decide) c117
          · exact absurd (by decide) c103
        · refine lv_iconst (v := 1) hx hb dX10_readNumber_93 (by decide) ?_
          refine lv_goto (tgt := 98) hx hb dX10_readNumber_94 (by decide) ?_
          refine lv_istore (lv' := [(4, .int 1), (0, .ref w), (1, .long (nuA f p i)), (3, .int (nI i))]) hx hb dX10_readNumber_98 hl (by decide) rfl (fun ls hl => ?_)
          refine lv_aload_n hx hb dX10_readNumber_100 rfl (lv_at hl 1 rfl) ?_
          refine lv_iload hx hb dX10_readNumber_101 (lv_at hl 0 rfl) ?_
          refine lv_if_eq (tgt := 110) hx hb dX10_readNumber_103 (by decide) (fun c103 => ?_) (fun c103 => ?_)
          · exact absurd c103 (by decide)
          · refine lv_iconst (v := 5) hx hb dX10_readNumber_106 (by decide) ?_
            refine lv_goto (tgt := 111) hx hb dX10_readNumber_107 (by decide) ?_
            refine va_put (D := (dC, dI)) (ci := 13) (v := .int 5) (ty := (tyX10 2)) (C := RX10) (T := TX10) (N := 6) hx hb hu iuX10 tyX10 tyX10_ok nmX10 hown hK hP hD hS 0 rfl rfl 2 (by decide) (hu _ mG_517) (fun _ h9 => h9) rfl (by decide +kernel) (rfl) (rfl) (Nat.le_of_ble_eq_true rfl) dX10_readNumber_111 (fun H locs hP hD hS => ?_)
            have hP : va_P (dC, dI) vwCl [(w, .inr (13, [.ref tx, .int (nI (p + i)), .int 5, .int pl, .int nu, .long nm])), (tx, .inr (11, [.ref r, .int (nI n), .int lo])), (r, .inl (cB, cap, .inl f))] H := hP
            have hD : va_D A [(w, .inr (13, [.ref tx, .int (nI (p + i)), .int 5, .int pl, .int nu, .long nm])), (tx, .inr (11, [.ref r, .int (nI n), .int lo])), (r, .inl (cB, cap, .inl f))] := hD
            refine lv_aload_n hx hb dX10_readNumber_114 rfl (lv_at hl 1 rfl) ?_
            refine lv_iload hx hb dX10_readNumber_115 (lv_at hl 0 rfl) ?_
            refine lv_if_eq (tgt := 125) hx hb dX10_readNumber_117 (by decide) (fun c117 => ?_) (fun c117 => ?_)
            · exact absurd c117 (by decide)
            · refine lv_lload_n hx hb dX10_readNumber_120 rfl (lv_at hl 2 rfl) ?_
              refine lv_l2i hx hb dX10_readNumber_121 rfl ?_
              refine lv_topi (fun x121 ex121 => ?_)
              subst ex121
              refine lv_goto (tgt := 126) hx hb dX10_readNumber_122 (by decide) ?_
              refine va_put (D := (dC, dI)) (ci := 13) (v := .int (nuA f p i).toInt32) (ty := (tyX10 4)) (C := RX10) (T := TX10) (N := 6) hx hb hu iuX10 tyX10 tyX10_ok nmX10 hown hK hP hD hS 0 rfl rfl 4 (by decide) (hu _ mG_522) (fun _ h9 => h9) rfl (by decide +kernel) (rfl) (rfl) (Nat.le_of_ble_eq_true rfl) dX10_readNumber_126 (fun H locs hP hD hS => ?_)
              have hP : va_P (dC, dI) vwCl [(w, .inr (13, [.ref tx, .int (nI (p + i)), .int 5, .int pl, .int (nuA f p i).toInt32, .long nm])), (tx, .inr (11, [.ref r, .int (nI n), .int lo])), (r, .inl (cB, cap, .inl f))] H := hP
              have hD : va_D A [(w, .inr (13, [.ref tx, .int (nI (p + i)), .int 5, .int pl, .int (nuA f p i).toInt32, .long nm])), (tx, .inr (11, [.ref r, .int (nI n), .int lo])), (r, .inl (cB, cap, .inl f))] := hD
              have hP9 : va_P (dC, dI) vwCl [(w, .inr (13, [.ref tx, .int (nI (p + (nuE f n p (n - p) 0))), .int (if 10 < nI (nuE f n p (n - p) 0) then 2 else if 0 < lg_cmp (nuA f p (nuE f n p (n - p) 0)) 2147483647 then 2 else 5), .int pl, .int (if 10 < nI (nuE f n p (n - p) 0) then 0 else if 0 < lg_cmp (nuA f p (nuE f n p (n - p) 0)) 2147483647 then 0 else (nuA f p (nuE f n p (n - p) 0)).toInt32), .long nm])), (tx, .inr (11, [.ref r, .int (nI n), .int lo])), (r, .inl (cB, cap, .inl f))] H := by have h90 : ¬ 0 < lg_cmp (nuA f p i) 2147483647 := (by rw [← ex89]; exact c90); simp only [hL, if_neg c82, if_neg h90]; exact hP
              have hD9 : va_D A [(w, .inr (13, [.ref tx, .int (nI (p + (nuE f n p (n - p) 0))), .int (if 10 < nI (nuE f n p (n - p) 0) then 2 else if 0 < lg_cmp (nuA f p (nuE f n p (n - p) 0)) 2147483647 then 2 else 5), .int pl, .int (if 10 < nI (nuE f n p (n - p) 0) then 0 else if 0 < lg_cmp (nuA f p (nuE f n p (n - p) 0)) 2147483647 then 0 else (nuA f p (nuE f n p (n - p) 0)).toInt32), .long nm])), (tx, .inr (11, [.ref r, .int (nI n), .int lo])), (r, .inl (cB, cap, .inl f))] := by have h90 : ¬ 0 < lg_cmp (nuA f p i) 2147483647 := (by rw [← ex89]; exact c90); simp only [hL, if_neg c82, if_neg h90]; exact hD
              have hK9 := hK.sub (tys' := [(cB, .byte)]) [0] rfl
              exact W.vret hx hb hr (fun t ht hW => ⟨⟨(), rfl, trivial, by rw [ht]; exact hP9, va_K.moved hW.alike hK9, hD9⟩, hS.F ht⟩) hS.2.2 dX10_readNumber_129
    · have hs2 : nuE f n p (n - (p + (i + 1))) (i + 1) = (nuE f n p (n - p) 0) := by rw [← hsk, hs1, if_pos ⟨hin, c32⟩]
      refine lv_iinc (v := (nI (i + 1))) (lv' := [(3, .int (nI (i + 1))), (0, .ref w), (1, .long (nuA f p i))]) hx hb dX10_readNumber_35 hl (k := 2) rfl (nI_1 i) (by decide) rfl (fun ls hl => ?_)
      refine lv_iload_n hx hb dX10_readNumber_38 rfl (lv_at hl 0 rfl) ?_
      refine lv_bipush (v := 10) hx hb dX10_readNumber_39 (by decide) ?_
      refine lv_icmp_gt (tgt := 66) hx hb dX10_readNumber_41 (by decide) (fun c41 => ?_) (fun c41 => ?_)
      · have hna : nuA f p (i + 1) = nuA f p i := by
          have h := (nI_ltI (a := 10) (by decide) (by omega)).mp c41
          simp only [nuA]; rw [if_neg (by omega)]
        have hl : lv_has ls 5 [(3, .int (nI (i + 1))), (0, .ref w), (1, .long (nuA f p (i + 1)))] := by rw [hna]; exact hl
        refine lv_aload_n hx hb dX10_readNumber_66 rfl (lv_at hl 1 rfl) ?_
        refine lv_dup hx hb dX10_readNumber_67 rfl ?_
        refine va_get (D := (dC, dI)) (ci := 13) (v := .int (nI (p + i))) (C := RX10) (T := TX10) (N := 6) hx hb hu iuX10 hown hK hP 0 rfl rfl 1 (by decide) (hu _ mG_516) (fun _ h9 => h9) rfl dX10_readNumber_68 ?_
        refine lv_iconst (v := 1) hx hb dX10_readNumber_71 (by decide) ?_
        refine lv_iadd hx hb dX10_readNumber_72 ?_
        refine lv_topi (fun x72 ex72 => ?_)
        obtain rfl : x72 = (nI (p + (i + 1))) := by rw [ex72]; exact nI_1 _
        refine va_put (D := (dC, dI)) (ci := 13) (v := .int (nI (p + (i + 1)))) (ty := (tyX10 1)) (C := RX10) (T := TX10) (N := 6) hx hb hu iuX10 tyX10 tyX10_ok nmX10 hown hK hP hD hS 0 rfl rfl 1 (by decide) (hu _ mG_516) (fun _ h9 => h9) rfl (by decide +kernel) (rfl) (rfl) (Nat.le_of_ble_eq_true rfl) dX10_readNumber_73 (fun H locs hP hD hS => ?_)
        have hP : va_P (dC, dI) vwCl [(w, .inr (13, [.ref tx, .int (nI (p + (i + 1))), .int kd, .int pl, .int nu, .long nm])), (tx, .inr (11, [.ref r, .int (nI n), .int lo])), (r, .inl (cB, cap, .inl f))] H := hP
        have hD : va_D A [(w, .inr (13, [.ref tx, .int (nI (p + (i + 1))), .int kd, .int pl, .int nu, .long nm])), (tx, .inr (11, [.ref r, .int (nI n), .int lo])), (r, .inl (cB, cap, .inl f))] := hD
        refine lv_goto (tgt := 4) hx hb dX10_readNumber_76 (by decide) ?_
        exact ih4 (i + 1) _ _ _ ⟨by omega, hs2, hP, hD, hS, lv_sub hl [1, 2, 0] rfl⟩ (by omega)
      · refine lv_lload_n hx hb dX10_readNumber_44 rfl (lv_at hl 2 rfl) ?_
        refine lv_ldc2 (own := RX10) (v := 10) hx hb hown (hu _ mG_957) dX10_readNumber_45 ?_
        refine lv_lmul hx hb dX10_readNumber_48 ?_
        refine lv_topl (fun x48 ex48 => ?_)
        refine lv_aload_n hx hb dX10_readNumber_49 rfl (lv_at hl 1 rfl) ?_
        refine va_get (D := (dC, dI)) (ci := 13) (v := .ref tx) (C := RX10) (T := TX10) (N := 6) hx hb hu iuX10 hown hK hP 0 rfl rfl 0 (by decide) (hu _ mG_515) (fun _ h9 => h9) rfl dX10_readNumber_50 ?_
        refine lv_aload_n hx hb dX10_readNumber_53 rfl (lv_at hl 1 rfl) ?_
        refine va_get (D := (dC, dI)) (ci := 13) (v := .int (nI (p + i))) (C := RX10) (T := TX10) (N := 6) hx hb hu iuX10 hown hK hP 0 rfl rfl 1 (by decide) (hu _ mG_516) (fun _ h9 => h9) rfl dX10_readNumber_54 ?_
        have hPc := hP.sub (ws' := [(tx, .inr (11, [.ref r, .int (nI n), .int lo])), (r, .inl (cB, cap, .inl f))]) [1, 2] rfl
        have hDc := hD.sub (ws' := [(tx, .inr (11, [.ref r, .int (nI n), .int lo])), (r, .inl (cB, cap, .inl f))]) [1, 2] (by decide) rfl
        have hKc := hK.sub (tys' := [(cB, .byte)]) [0] rfl
        have hFc := va_free (wc := [(tx, .inr (11, [.ref r, .int (nI n), .int lo])), (r, .inl (cB, cap, .inl f))]) hD hS hA [1, 2] rfl
        refine va_calli (va_runV (As := [.int (nI (p + i))]) (rest := [.long x48]) ⟨hx, hb, hml, hown, hu⟩ (kX8_signAt l dC dI H.size tx r cap n lo f cB (nI (p + i)) hn hc) (cwV 1 hu (uG_V (fun _ h => h) mG_929 mG_926 mG_927 mG_928 mG_215) rfl rfl rfl (by decide +kernel) ⟨Nat.le_of_ble_eq_true rfl, Nat.le_of_ble_eq_true rfl⟩) ⟨fun a U g mk q => by obtain ⟨q0, q1, qP, qK, qD⟩ := q; exact ⟨q0, q1, qP, va_K.moved (u := U) (U := U.calling g mk a) (Vm.Alike.refl U.vm) qK, qD⟩, va_recv hKc hPc (ci := 11) (q0 := 0) rfl rfl, fun U hU hW => ⟨rfl, by rw [hU], by rw [hU]; exact hPc, va_K.moved hW.alike hKc, hDc.weaken (fun _ _ _ _ => trivial)⟩⟩ rfl rfl hl.1 rfl (lv_room (Nat.le_of_ble_eq_true rfl)) dX10_readNumber_57 ⟨Nat.le_of_ble_eq_true rfl, Nat.le_of_ble_eq_true rfl⟩) hS (fun q _ h => hFc q h) hFc (fun r57 u t H1 locs ht hvm hw hB hz1 hk1 hS => ?_)
        obtain ⟨hP1, hK1, hD1⟩ := hB
        rw [ht] at hP1
        obtain ⟨hP, hD⟩ := va_join (wr := [(w, .inr (13, [.ref tx, .int (nI (p + i)), .int kd, .int pl, .int nu, .long nm]))]) (w1 := [(tx, .inr (11, [.ref r, .int (nI n), .int lo])), (r, .inl (cB, cap, .inl f))]) hP hD [1, 2] [0] rfl rfl (by decide) (by decide) hk1 hFc hP1 hD1
        generalize H1 = H at hP hS ⊢
        have hP : va_P (dC, dI) vwCl [(w, .inr (13, [.ref tx, .int (nI (p + i)), .int kd, .int pl, .int nu, .long nm])), (tx, .inr (11, [.ref r, .int (nI n), .int lo])), (r, .inl (cB, cap, .inl f))] H := hP
        have hD : va_D A [(w, .inr (13, [.ref tx, .int (nI (p + i)), .int kd, .int pl, .int nu, .long nm])), (tx, .inr (11, [.ref r, .int (nI n), .int lo])), (r, .inl (cB, cap, .inl f))] := hD
        have er57 : r57 = (if ¬ nI (p + i) < 0 ∧ nI (p + i) < nI n then f (nI (p + i)).toNatClampNeg else (-1)) := hw
        subst er57
        rw [sgn_at (by omega) (by omega), hsg]
        refine lv_bipush (v := 48) hx hb dX10_readNumber_60 (by decide) ?_
        refine lv_isub hx hb dX10_readNumber_62 ?_
        refine lv_topi (fun x62 ex62 => ?_)
        refine lv_i2l hx hb dX10_readNumber_63 rfl ?_
        refine lv_topl (fun x63 ex63 => ?_)
        refine lv_ladd hx hb dX10_readNumber_64 ?_
        refine lv_topl (fun x64 ex64 => ?_)
        obtain rfl : x64 = (nuA f p (i + 1)) := by
          have h := Nat.not_lt.mp (fun h => c41 ((nI_ltI (a := 10) (by decide) (by omega)).mpr h))
          simp only [nuA]; rw [if_pos (by omega), ex64, ex63, ex62, ex48]
        refine lv_lstore_n (lv' := [(1, .long (nuA f p (i + 1))), (3, .int (nI (i + 1))), (0, .ref w)]) hx hb dX10_readNumber_65 rfl hl (by decide) rfl (fun ls hl => ?_)
        refine lv_aload_n hx hb dX10_readNumber_66 rfl (lv_at hl 2 rfl) ?_
        refine lv_dup hx hb dX10_readNumber_67 rfl ?_
        refine va_get (D := (dC, dI)) (ci := 13) (v := .int (nI (p + i))) (C := RX10) (T := TX10) (N := 6) hx hb hu iuX10 hown hK hP 0 rfl rfl 1 (by decide) (hu _ mG_516) (fun _ h9 => h9) rfl dX10_readNumber_68 ?_
        refine lv_iconst (v := 1) hx hb dX10_readNumber_71 (by decide) ?_
        refine lv_iadd hx hb dX10_readNumber_72 ?_
        refine lv_topi (fun x72 ex72 => ?_)
        obtain rfl : x72 = (nI (p + (i + 1))) := by rw [ex72]; exact nI_1 _
        refine va_put (D := (dC, dI)) (ci := 13) (v := .int (nI (p + (i + 1)))) (ty := (tyX10 1)) (C := RX10) (T := TX10) (N := 6) hx hb hu iuX10 tyX10 tyX10_ok nmX10 hown hK hP hD hS 0 rfl rfl 1 (by decide) (hu _ mG_516) (fun _ h9 => h9) rfl (by decide +kernel) (rfl) (rfl) (Nat.le_of_ble_eq_true rfl) dX10_readNumber_73 (fun H locs hP hD hS => ?_)
        have hP : va_P (dC, dI) vwCl [(w, .inr (13, [.ref tx, .int (nI (p + (i + 1))), .int kd, .int pl, .int nu, .long nm])), (tx, .inr (11, [.ref r, .int (nI n), .int lo])), (r, .inl (cB, cap, .inl f))] H := hP
        have hD : va_D A [(w, .inr (13, [.ref tx, .int (nI (p + (i + 1))), .int kd, .int pl, .int nu, .long nm])), (tx, .inr (11, [.ref r, .int (nI n), .int lo])), (r, .inl (cB, cap, .inl f))] := hD
        refine lv_goto (tgt := 4) hx hb dX10_readNumber_76 (by decide) ?_
        exact ih4 (i + 1) _ _ _ ⟨by omega, hs2, hP, hD, hS, lv_sub hl [2, 0, 1] rfl⟩ (by omega)
