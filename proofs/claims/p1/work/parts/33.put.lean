
theorem mG_231 : Cond.initialized "java/lang/UnsupportedOperationException" ∈ uG := uG_at 231 (by decide +kernel) (by decide +kernel)
theorem mG_855 : Cond.classLink "LazyForge" 88 "java/lang/UnsupportedOperationException" ∈ uG := uG_at 855 (by decide +kernel) (by decide +kernel)
theorem mG_870 : Cond.methodLink "LazyForge" 91 yX8_add ∈ uG := uG_at 870 (by decide +kernel) (by decide +kernel)
theorem dX11_put_0 : decode cX11_put 0 = .ok (.iconst 0, 1) := by decide +kernel
theorem dX11_put_1 : decode cX11_put 1 = .ok (.istore_n 2, 1) := by decide +kernel
theorem dX11_put_2 : decode cX11_put 2 = .ok (.iconst 0, 1) := by decide +kernel
theorem dX11_put_3 : decode cX11_put 3 = .ok (.istore_n 3, 1) := by decide +kernel
theorem dX11_put_4 : decode cX11_put 4 = .ok (.iload_n 3, 1) := by decide +kernel
theorem dX11_put_5 : decode cX11_put 5 = .ok (.iconst 4, 1) := by decide +kernel
theorem dX11_put_6 : decode cX11_put 6 = .ok (.if_icmp .ge 68, 3) := by decide +kernel
theorem dX11_put_9 : decode cX11_put 9 = .ok (.iload_n 1, 1) := by decide +kernel
theorem dX11_put_10 : decode cX11_put 10 = .ok (.bipush 8, 2) := by decide +kernel
theorem dX11_put_12 : decode cX11_put 12 = .ok (.iload_n 3, 1) := by decide +kernel
theorem dX11_put_13 : decode cX11_put 13 = .ok (.imul, 1) := by decide +kernel
theorem dX11_put_14 : decode cX11_put 14 = .ok (.iushr, 1) := by decide +kernel
theorem dX11_put_15 : decode cX11_put 15 = .ok (.sipush 255, 3) := by decide +kernel
theorem dX11_put_18 : decode cX11_put 18 = .ok (.iand, 1) := by decide +kernel
theorem dX11_put_19 : decode cX11_put 19 = .ok (.istore 4, 2) := by decide +kernel
theorem dX11_put_21 : decode cX11_put 21 = .ok (.iload 4, 2) := by decide +kernel
theorem dX11_put_23 : decode cX11_put 23 = .ok (.ifCond .eq 32, 3) := by decide +kernel
theorem dX11_put_26 : decode cX11_put 26 = .ok (.iload 4, 2) := by decide +kernel
theorem dX11_put_28 : decode cX11_put 28 = .ok (.bipush 10, 2) := by decide +kernel
theorem dX11_put_30 : decode cX11_put 30 = .ok (.if_icmp .eq 25, 3) := by decide +kernel
theorem dX11_put_33 : decode cX11_put 33 = .ok (.iload 4, 2) := by decide +kernel
theorem dX11_put_35 : decode cX11_put 35 = .ok (.bipush 32, 2) := by decide +kernel
theorem dX11_put_37 : decode cX11_put 37 = .ok (.if_icmp .lt 10, 3) := by decide +kernel
theorem dX11_put_40 : decode cX11_put 40 = .ok (.iload 4, 2) := by decide +kernel
theorem dX11_put_42 : decode cX11_put 42 = .ok (.bipush 126, 2) := by decide +kernel
theorem dX11_put_44 : decode cX11_put 44 = .ok (.if_icmp .le 11, 3) := by decide +kernel
theorem dX11_put_47 : decode cX11_put 47 = .ok (.new 82, 3) := by decide +kernel
theorem dX11_put_50 : decode cX11_put 50 = .ok (.dup, 1) := by decide +kernel
theorem dX11_put_51 : decode cX11_put 51 = .ok (.invokespecial 84, 3) := by decide +kernel
theorem dX11_put_54 : decode cX11_put 54 = .ok (.athrow, 1) := by decide +kernel
theorem dX11_put_55 : decode cX11_put 55 = .ok (.iload_n 2, 1) := by decide +kernel
theorem dX11_put_56 : decode cX11_put 56 = .ok (.iload 4, 2) := by decide +kernel
theorem dX11_put_58 : decode cX11_put 58 = .ok (.ifCond .ne 7, 3) := by decide +kernel
theorem dX11_put_61 : decode cX11_put 61 = .ok (.iconst 0, 1) := by decide +kernel
theorem dX11_put_62 : decode cX11_put 62 = .ok (.goto 4, 3) := by decide +kernel
theorem dX11_put_65 : decode cX11_put 65 = .ok (.iconst 1, 1) := by decide +kernel
theorem dX11_put_66 : decode cX11_put 66 = .ok (.iadd, 1) := by decide +kernel
theorem dX11_put_67 : decode cX11_put 67 = .ok (.istore_n 2, 1) := by decide +kernel
theorem dX11_put_68 : decode cX11_put 68 = .ok (.iinc 3 1, 3) := by decide +kernel
theorem dX11_put_71 : decode cX11_put 71 = .ok (.goto (-67), 3) := by decide +kernel
theorem dX11_put_74 : decode cX11_put 74 = .ok (.aload_n 0, 1) := by decide +kernel
theorem dX11_put_75 : decode cX11_put 75 = .ok (.getfield 14, 3) := by decide +kernel
theorem dX11_put_78 : decode cX11_put 78 = .ok (.getfield 85, 3) := by decide +kernel
theorem dX11_put_81 : decode cX11_put 81 = .ok (.iload_n 2, 1) := by decide +kernel
theorem dX11_put_82 : decode cX11_put 82 = .ok (.iadd, 1) := by decide +kernel
theorem dX11_put_83 : decode cX11_put 83 = .ok (.sipush 3000, 3) := by decide +kernel
theorem dX11_put_86 : decode cX11_put 86 = .ok (.if_icmp .le 11, 3) := by decide +kernel
theorem dX11_put_89 : decode cX11_put 89 = .ok (.new 88, 3) := by decide +kernel
theorem dX11_put_92 : decode cX11_put 92 = .ok (.dup, 1) := by decide +kernel
theorem dX11_put_93 : decode cX11_put 93 = .ok (.invokespecial 90, 3) := by decide +kernel
theorem dX11_put_96 : decode cX11_put 96 = .ok (.athrow, 1) := by decide +kernel
theorem dX11_put_97 : decode cX11_put 97 = .ok (.iconst 0, 1) := by decide +kernel
theorem dX11_put_98 : decode cX11_put 98 = .ok (.istore_n 3, 1) := by decide +kernel
theorem dX11_put_99 : decode cX11_put 99 = .ok (.iload_n 3, 1) := by decide +kernel
theorem dX11_put_100 : decode cX11_put 100 = .ok (.iconst 4, 1) := by decide +kernel
theorem dX11_put_101 : decode cX11_put 101 = .ok (.if_icmp .ge 35, 3) := by decide +kernel
theorem dX11_put_104 : decode cX11_put 104 = .ok (.iload_n 1, 1) := by decide +kernel
theorem dX11_put_105 : decode cX11_put 105 = .ok (.bipush 8, 2) := by decide +kernel
theorem dX11_put_107 : decode cX11_put 107 = .ok (.iload_n 3, 1) := by decide +kernel
theorem dX11_put_108 : decode cX11_put 108 = .ok (.imul, 1) := by decide +kernel
theorem dX11_put_109 : decode cX11_put 109 = .ok (.iushr, 1) := by decide +kernel
theorem dX11_put_110 : decode cX11_put 110 = .ok (.sipush 255, 3) := by decide +kernel
theorem dX11_put_113 : decode cX11_put 113 = .ok (.iand, 1) := by decide +kernel
theorem dX11_put_114 : decode cX11_put 114 = .ok (.istore 4, 2) := by decide +kernel
theorem dX11_put_116 : decode cX11_put 116 = .ok (.iload 4, 2) := by decide +kernel
theorem dX11_put_118 : decode cX11_put 118 = .ok (.ifCond .eq 12, 3) := by decide +kernel
theorem dX11_put_121 : decode cX11_put 121 = .ok (.aload_n 0, 1) := by decide +kernel
theorem dX11_put_122 : decode cX11_put 122 = .ok (.getfield 14, 3) := by decide +kernel
theorem dX11_put_125 : decode cX11_put 125 = .ok (.iload 4, 2) := by decide +kernel
theorem dX11_put_127 : decode cX11_put 127 = .ok (.invokevirtual 91, 3) := by decide +kernel
theorem dX11_put_130 : decode cX11_put 130 = .ok (.iinc 3 1, 3) := by decide +kernel
theorem dX11_put_133 : decode cX11_put 133 = .ok (.goto (-34), 3) := by decide +kernel
theorem dX11_put_136 : decode cX11_put 136 = .ok (.aload_n 0, 1) := by decide +kernel
theorem dX11_put_137 : decode cX11_put 137 = .ok (.getfield 14, 3) := by decide +kernel
theorem dX11_put_140 : decode cX11_put 140 = .ok (.getfield 85, 3) := by decide +kernel
theorem dX11_put_143 : decode cX11_put 143 = .ok (.ireturn, 1) := by decide +kernel
/-- byte i of s -/
def pbN (s : Int32) (i : Nat) : Nat := s.toBitVec.toNat / 2 ^ (8 * i) % 256
theorem pbN_lt (s : Int32) (i : Nat) : pbN s i < 256 := Nat.mod_lt _ (by decide)
/-- how many of the first i bytes are not 0 -/
def cntN (s : Int32) : Nat → Nat
  | 0 => 0
  | i + 1 => cntN s i + (if pbN s i = 0 then 0 else 1)
theorem cntN_le (s : Int32) : ∀ i, cntN s i ≤ i
  | 0 => Nat.le_refl _
  | i + 1 => by have := cntN_le s i; simp only [cntN]; split <;> omega
/-- a sign that a text may have, or 0 -/
def okb (b : Nat) : Prop := b = 0 ∨ b = 10 ∨ (32 ≤ b ∧ b ≤ 126)
/-- the text f of n signs, with those of the first i bytes behind it -/
def apN (s : Int32) (f : Nat → Int32) (n : Nat) : Nat → Nat → Int32
  | 0 => f
  | i + 1 => if pbN s i = 0 then apN s f n i else upd (apN s f n i) (n + cntN s i) (nI (pbN s i))
theorem pb_class (s : Int32) (i : Nat) (hi : i < 4) : (s.toUInt32 >>> ((8 * nI i).toUInt32 &&& Int32.toUInt32 31)).toInt32 &&& 255 = nI (pbN s i) := by
  rw [pk_and _ 8 (by decide), pk_ushr s (8 * nI i) (8 * i) (by rcases (show i = 0 ∨ i = 1 ∨ i = 2 ∨ i = 3 by omega) with rfl | rfl | rfl | rfl <;> decide)]
  rfl
theorem ok_0 {b : Nat} (hb : b < 256) (h : nI b = 0) : b = 0 := (nI_eq (b := 0) (by omega) (by decide)).mp h
theorem ok_10 {b : Nat} (hb : b < 256) (h : nI b = 10) : b = 10 := (nI_eq (b := 10) (by omega) (by decide)).mp h
theorem ok_r {b : Nat} (hb : b < 256) (h1 : ¬ nI b < 32) (h2 : nI b ≤ 126) : okb b := by
  have a1 : ¬ b < 32 := fun h => h1 ((nI_ltI (b := 32) (by omega) (by decide)).mpr h)
  have a2 : b ≤ 126 := (nI_leI (b := 126) (by omega) (by decide)).mp h2
  exact Or.inr (Or.inr ⟨by omega, a2⟩)
theorem ok_no {b : Nat} (hb : b < 256) (h0 : ¬ nI b = 0) (h1 : ¬ nI b = 10) (h2 : nI b < 32 ∨ ¬ nI b ≤ 126) : ¬ okb b := by
  rintro (rfl | rfl | ⟨a, c⟩)
  · exact h0 rfl
  · exact h1 rfl
  · rcases h2 with h | h
    · have := (nI_ltI (b := 32) (by omega) (by decide)).mp h; omega
    · exact h ((nI_leI (b := 126) (by omega) (by decide)).mpr c)
theorem ok_s {s : Int32} {i : Nat} (h : ∀ j, j < i → okb (pbN s j)) (hi : okb (pbN s i)) : ∀ j, j < i + 1 → okb (pbN s j) := fun j hj => by
  rcases Nat.lt_or_ge j i with a | a
  · exact h j a
  · have : j = i := by omega
    subst this; exact hi
theorem cnt_0 {s : Int32} {i : Nat} (h : pbN s i = 0) : cntN s (i + 1) = cntN s i := by simp [cntN, h]
theorem cnt_1 {s : Int32} {i : Nat} (h : ¬ pbN s i = 0) : cntN s (i + 1) = cntN s i + 1 := by simp [cntN, h]
theorem ap_0 {s : Int32} {f : Nat → Int32} {n i : Nat} (h : pbN s i = 0) : apN s f n (i + 1) = apN s f n i := by simp [apN, h]
theorem ap_1 {s : Int32} {f : Nat → Int32} {n i : Nat} (h : ¬ pbN s i = 0) : apN s f n (i + 1) = upd (apN s f n i) (n + cntN s i) (nI (pbN s i)) := by simp [apN, h]
theorem by_128 : ∀ b : Nat, b < 128 → (nI b).toInt8.toInt32 = nI b := by decide
theorem okb_lt {b : Nat} (h : okb b) : b < 128 := by rcases h with h | h | h <;> omega
theorem cnt_mono (s : Int32) {i j : Nat} (h : i ≤ j) : cntN s i ≤ cntN s j := by
  induction h with
  | refl => exact Nat.le_refl _
  | step _ ih => exact Nat.le_trans ih (by simp only [cntN]; omega)
theorem nI_l4 {i : Nat} (hi : i ≤ 4) (h : ¬ (4 : Int32) ≤ nI i) : i < 4 := (nI_ltI (b := 4) (by omega) (by decide)).mp (Int32.not_le.mp h)
theorem nI_g4 {i : Nat} (hi : i ≤ 4) (h : (4 : Int32) ≤ nI i) : i = 4 := by have := (nI_leI (a := 4) (by decide) (by omega)).mp h; omega
set_option maxHeartbeats 4000000 in
set_option maxRecDepth 100000 in
/-- LazyForge.put(sg) -/
theorem kX11_put (l : Launch) (dC : Nat → ClassId) (dI : Nat → Nat → Nat) (sz : Nat) (hlt : l.stackTraces = false) (x tx pr rd li de sc ma ou dr : Nat) (st fk fp pe ce le : Int32) (r n : Nat) (lo sg : Int32) (f : Nat → Int32) (cB : ClassId) (hn : n ≤ 3000) : vx_Met l yX11_put (Cond.code yX11_put cX11_put 5 (some .int) :: uG) ({ frames := 6, cells := 1, slots := 6, locals := 90 }) (va_Pc [.ref x, .int sg] (fun U => U.heap.size = sz ∧ va_P (dC, dI) vwCl [(x, .inr (14, [.ref tx, .ref pr, .ref rd, .ref li, .ref de, .ref sc, .ref ma, .ref ou, .ref dr, .int st, .int fk, .int fp, .int pe, .int ce, .int le])), (tx, .inr (11, [.ref r, .int (nI (n)), .int lo])), (r, .inl (cB, 3000, .inl f))] U.heap ∧ va_K (dC, dI) vwCl [(cB, .byte)] U ∧ va_D (fun _ => True) [(x, .inr (14, [.ref tx, .ref pr, .ref rd, .ref li, .ref de, .ref sc, .ref ma, .ref ou, .ref dr, .int st, .int fk, .int fp, .int pe, .int ce, .int le])), (tx, .inr (11, [.ref r, .int (nI (n)), .int lo])), (r, .inl (cB, 3000, .inl f))] ∧ uXw U ∧ uZ (va_A [(x, .inr (14, [.ref tx, .ref pr, .ref rd, .ref li, .ref de, .ref sc, .ref ma, .ref ou, .ref dr, .int st, .int fk, .int fp, .int pe, .int ce, .int le])), (tx, .inr (11, [.ref r, .int (nI (n)), .int lo])), (r, .inl (cB, 3000, .inl f))] sz) U U.heap)) (va_Qi (S := Unit) (fun r _ => ((∀ j, j < 4 → okb (pbN sg j)) ∧ n + cntN sg 4 ≤ 3000) ∧ r = nI (n + cntN sg 4)) (fun _ t => va_P (dC, dI) vwCl [(x, .inr (14, [.ref tx, .ref pr, .ref rd, .ref li, .ref de, .ref sc, .ref ma, .ref ou, .ref dr, .int st, .int fk, .int fp, .int pe, .int ce, .int le])), (tx, .inr (11, [.ref r, .int (nI (n + cntN sg 4)), .int lo])), (r, .inl (cB, 3000, .inl (apN sg f n 4)))] t.heap ∧ va_K (dC, dI) vwCl [(cB, .byte)] t ∧ va_D (va_A [(x, .inr (14, [.ref tx, .ref pr, .ref rd, .ref li, .ref de, .ref sc, .ref ma, .ref ou, .ref dr, .int st, .int fk, .int fp, .int pe, .int ce, .int le])), (tx, .inr (11, [.ref r, .int (nI (n)), .int lo])), (r, .inl (cB, 3000, .inl f))] sz) [(x, .inr (14, [.ref tx, .ref pr, .ref rd, .ref li, .ref de, .ref sc, .ref ma, .ref ou, .ref dr, .int st, .int fk, .int fp, .int pe, .int ce, .int le])), (tx, .inr (11, [.ref r, .int (nI (n + cntN sg 4)), .int lo])), (r, .inl (cB, 3000, .inl (apN sg f n 4)))]) (va_A [(x, .inr (14, [.ref tx, .ref pr, .ref rd, .ref li, .ref de, .ref sc, .ref ma, .ref ou, .ref dr, .int st, .int fk, .int fp, .int pe, .int ce, .int le])), (tx, .inr (11, [.ref r, .int (nI (n)), .int lo])), (r, .inl (cB, 3000, .inl f))] sz)) (uXB dC dI [(x, .inr (14, [.ref tx, .ref pr, .ref rd, .ref li, .ref de, .ref sc, .ref ma, .ref ou, .ref dr, .int st, .int fk, .int fp, .int pe, .int ce, .int le])), (tx, .inr (11, [.ref r, .int (nI (n)), .int lo])), (r, .inl (cB, 3000, .inl f))] [(cB, .byte)] (va_A [(x, .inr (14, [.ref tx, .ref pr, .ref rd, .ref li, .ref de, .ref sc, .ref ma, .ref ou, .ref dr, .int st, .int fk, .int fp, .int pe, .int ce, .int le])), (tx, .inr (11, [.ref r, .int (nI (n)), .int lo])), (r, .inl (cB, 3000, .inl f))] sz) (fun E => (E = "java/lang/IllegalArgumentException" ∧ ∃ j, j < 4 ∧ ¬ okb (pbN sg j)) ∨ (E = "java/lang/UnsupportedOperationException" ∧ (∀ j, j < 4 → okb (pbN sg j)) ∧ ¬ n + cntN sg 4 ≤ 3000))) 1 6 (va_A [(x, .inr (14, [.ref tx, .ref pr, .ref rd, .ref li, .ref de, .ref sc, .ref ma, .ref ou, .ref dr, .int st, .int fk, .int fp, .int pe, .int ce, .int le])), (tx, .inr (11, [.ref r, .int (nI (n)), .int lo])), (r, .inl (cB, 3000, .inl f))] sz) := by
  refine vx_ofW (cc := cX11_put) (maxL := 5) (ret := (some .int)) (by decide) rfl ?_
  intro p e s m args below meth c s₁ B hml hno hv
  obtain ⟨rfl, hsz, hP, hK, hD0, hXw, hZ⟩ := hv
  have hx := B.exec
  have hb := B.bytes
  have hr := B.returns
  have hts := atoms_spec (ws := Cond.code yX11_put cX11_put 5 (some .int) :: uG) B.pre
  have hu := fun (w : Cond) (h : w ∈ uG) => hts w (List.mem_cons_of_mem _ h)
  have hown : s.vm.findClass RX11 = some m.cls := findClass_of_methodNamed B.named
  have hlocks := B.notSynchronized
  subst hsz
  have hD := hD0.self (sz := s.heap.size)
  generalize hAe : va_A [(x, .inr (14, [.ref tx, .ref pr, .ref rd, .ref li, .ref de, .ref sc, .ref ma, .ref ou, .ref dr, .int st, .int fk, .int fp, .int pe, .int ce, .int le])), (tx, .inr (11, [.ref r, .int (nI (n)), .int lo])), (r, .inl (cB, 3000, .inl f))] s.heap.size = A at hD hZ ⊢
  have hA : ∀ q : Nat, s.heap.size ≤ q → A q := fun q h => by rw [← hAe]; exact Or.inr h
  have hS : va_S A s.heap s.heap [] := va_S.rf
  have hP : va_P (dC, dI) vwCl [(x, .inr (14, [.ref tx, .ref pr, .ref rd, .ref li, .ref de, .ref sc, .ref ma, .ref ou, .ref dr, .int st, .int fk, .int fp, .int pe, .int ce, .int le])), (tx, .inr (11, [.ref r, .int (nI (n)), .int lo])), (r, .inl (cB, 3000, .inl f))] s.heap := hP
  have hD : va_D A [(x, .inr (14, [.ref tx, .ref pr, .ref rd, .ref li, .ref de, .ref sc, .ref ma, .ref ou, .ref dr, .int st, .int fk, .int fp, .int pe, .int ce, .int le])), (tx, .inr (11, [.ref r, .int (nI (n)), .int lo])), (r, .inl (cB, 3000, .inl f))] := hD
  have hl := lv_entry ([.ref x, .int sg]) (n := 5) (Nat.le_of_ble_eq_true rfl)
  rw [lg_entry_eq]
  generalize (lg_sl ([.ref x, .int sg]) ++ List.replicate (5 - (lg_sl ([.ref x, .int sg])).length) Slot.unset).toArray = ls at hl ⊢
  have hl : lv_has ls 5 [(0, .ref x), (1, .int sg)] := hl
  refine lv_iconst (v := 0) hx hb dX11_put_0 (by decide) ?_
  refine lv_istore_n (lv' := [(2, .int 0), (0, .ref x), (1, .int sg)]) hx hb dX11_put_1 rfl hl (by decide) rfl (fun ls hl => ?_)
  refine lv_iconst (v := 0) hx hb dX11_put_2 (by decide) ?_
  refine lv_istore_n (lv' := [(3, .int 0), (2, .int 0), (0, .ref x), (1, .int sg)]) hx hb dX11_put_3 rfl hl (by decide) rfl (fun ls hl => ?_)
  refine uLoop (σ := Nat) (fun xv H locs ls => (xv ≤ 4) ∧ (∀ j, j < xv → okb (pbN sg j)) ∧ va_P (dC, dI) vwCl [(x, .inr (14, [.ref tx, .ref pr, .ref rd, .ref li, .ref de, .ref sc, .ref ma, .ref ou, .ref dr, .int st, .int fk, .int fp, .int pe, .int ce, .int le])), (tx, .inr (11, [.ref r, .int (nI (n)), .int lo])), (r, .inl (cB, 3000, .inl f))] H ∧ va_D A [(x, .inr (14, [.ref tx, .ref pr, .ref rd, .ref li, .ref de, .ref sc, .ref ma, .ref ou, .ref dr, .int st, .int fk, .int fp, .int pe, .int ce, .int le])), (tx, .inr (11, [.ref r, .int (nI (n)), .int lo])), (r, .inl (cB, 3000, .inl f))] ∧ va_S A s.heap H locs ∧ lv_has ls 5 [(0, .ref x), (1, .int sg), (2, .int (nI (cntN sg xv))), (3, .int (nI xv))]) (fun xv => 4 - xv) (fun xv H locs ls hI ih4 => ?_) (0) ⟨by omega, fun j h => absurd h (Nat.not_lt_zero _), hP, hD, hS, lv_sub hl [2, 3, 1, 0] rfl⟩
  obtain ⟨i, hxv⟩ : ∃ z, z = xv := ⟨_, rfl⟩
  subst hxv
  obtain ⟨hi, hok, hP, hD, hS, hl⟩ := hI
  have hi : i ≤ 4 := hi
  have hok : ∀ j, j < i → okb (pbN sg j) := hok
  have hP : va_P (dC, dI) vwCl [(x, .inr (14, [.ref tx, .ref pr, .ref rd, .ref li, .ref de, .ref sc, .ref ma, .ref ou, .ref dr, .int st, .int fk, .int fp, .int pe, .int ce, .int le])), (tx, .inr (11, [.ref r, .int (nI (n)), .int lo])), (r, .inl (cB, 3000, .inl f))] H := hP
  have hD : va_D A [(x, .inr (14, [.ref tx, .ref pr, .ref rd, .ref li, .ref de, .ref sc, .ref ma, .ref ou, .ref dr, .int st, .int fk, .int fp, .int pe, .int ce, .int le])), (tx, .inr (11, [.ref r, .int (nI (n)), .int lo])), (r, .inl (cB, 3000, .inl f))] := hD
  have hl : lv_has ls 5 [(0, .ref x), (1, .int sg), (2, .int (nI (cntN sg i))), (3, .int (nI i))] := hl
  refine lv_iload_n hx hb dX11_put_4 rfl (lv_at hl 3 rfl) ?_
  refine lv_iconst (v := 4) hx hb dX11_put_5 (by decide) ?_
  refine lv_icmp_ge (tgt := 74) hx hb dX11_put_6 (by decide) (fun c6 => ?_) (fun c6 => ?_)
  · have hi4 : i = 4 := nI_g4 hi c6
    subst hi4
    refine lv_aload_n hx hb dX11_put_74 rfl (lv_at hl 0 rfl) ?_
    refine va_get (D := (dC, dI)) (ci := 14) (v := .ref tx) (C := RX11) (T := TX11) (N := 15) hx hb hu iuX11 hown hK hP 0 rfl rfl 0 (by decide) (hu _ mG_718) (fun _ h9 => h9) rfl dX11_put_75 ?_
    refine va_get (D := (dC, dI)) (ci := 11) (v := .int (nI (n))) (C := RX8) (T := TX8) (N := 3) hx hb hu iuX8 hown hK hP 1 rfl rfl 1 (by decide) (hu _ mG_264) (fun _ h9 => h9) rfl dX11_put_78 ?_
    refine lv_iload_n hx hb dX11_put_81 rfl (lv_at hl 2 rfl) ?_
    refine lv_iadd hx hb dX11_put_82 ?_
    refine lv_topi (fun x82 ex82 => ?_)
    obtain rfl : x82 = (nI (n + cntN sg 4)) := by rw [ex82]; exact nI_add _ _
    refine lv_sipush (v := 3000) hx hb dX11_put_83 (by decide) ?_
    refine lv_icmp_le (tgt := 97) hx hb dX11_put_86 (by decide) (fun c86 => ?_) (fun c86 => ?_)
    · have h86 : n + cntN sg 4 ≤ 3000 := (nI_leI (b := 3000) (by have := cntN_le sg 4; omega) (by decide)).mp c86
      refine lv_iconst (v := 0) hx hb dX11_put_97 (by decide) ?_
      refine lv_istore_n (lv' := [(3, .int 0), (0, .ref x), (1, .int sg), (2, .int (nI (cntN sg 4)))]) hx hb dX11_put_98 rfl hl (by decide) rfl (fun ls hl => ?_)
      refine uLoop (σ := Nat) (fun xv H locs ls => (xv ≤ 4) ∧ va_P (dC, dI) vwCl [(x, .inr (14, [.ref tx, .ref pr, .ref rd, .ref li, .ref de, .ref sc, .ref ma, .ref ou, .ref dr, .int st, .int fk, .int fp, .int pe, .int ce, .int le])), (tx, .inr (11, [.ref r, .int (nI (n + cntN sg xv)), .int lo])), (r, .inl (cB, 3000, .inl (apN sg f n xv)))] H ∧ va_D A [(x, .inr (14, [.ref tx, .ref pr, .ref rd, .ref li, .ref de, .ref sc, .ref ma, .ref ou, .ref dr, .int st, .int fk, .int fp, .int pe, .int ce, .int le])), (tx, .inr (11, [.ref r, .int (nI (n + cntN sg xv)), .int lo])), (r, .inl (cB, 3000, .inl (apN sg f n xv)))] ∧ va_S A s.heap H locs ∧ lv_has ls 5 [(0, .ref x), (1, .int sg), (2, .int (nI (cntN sg 4))), (3, .int (nI xv))]) (fun xv => 4 - xv) (fun xv H locs ls hI ih99 => ?_) (0) ⟨by omega, hP, hD, hS, lv_sub hl [1, 2, 3, 0] rfl⟩
      obtain ⟨i, hxv⟩ : ∃ z, z = xv := ⟨_, rfl⟩
      subst hxv
      obtain ⟨hi, hP, hD, hS, hl⟩ := hI
      have hi : i ≤ 4 := hi
      have hP : va_P (dC, dI) vwCl [(x, .inr (14, [.ref tx, .ref pr, .ref rd, .ref li, .ref de, .ref sc, .ref ma, .ref ou, .ref dr, .int st, .int fk, .int fp, .int pe, .int ce, .int le])), (tx, .inr (11, [.ref r, .int (nI (n + cntN sg i)), .int lo])), (r, .inl (cB, 3000, .inl (apN sg f n i)))] H := hP
      have hD : va_D A [(x, .inr (14, [.ref tx, .ref pr, .ref rd, .ref li, .ref de, .ref sc, .ref ma, .ref ou, .ref dr, .int st, .int fk, .int fp, .int pe, .int ce, .int le])), (tx, .inr (11, [.ref r, .int (nI (n + cntN sg i)), .int lo])), (r, .inl (cB, 3000, .inl (apN sg f n i)))] := hD
      have hl : lv_has ls 5 [(0, .ref x), (1, .int sg), (2, .int (nI (cntN sg 4))), (3, .int (nI i))] := hl
      have hok4 : ∀ j, j < 4 → okb (pbN sg j) := hok
      refine lv_iload_n hx hb dX11_put_99 rfl (lv_at hl 3 rfl) ?_
      refine lv_iconst (v := 4) hx hb dX11_put_100 (by decide) ?_
      refine lv_icmp_ge (tgt := 136) hx hb dX11_put_101 (by decide) (fun c101 => ?_) (fun c101 => ?_)
      · have hi4 : i = 4 := nI_g4 hi c101
        subst hi4
        refine lv_aload_n hx hb dX11_put_136 rfl (lv_at hl 0 rfl) ?_
        refine va_get (D := (dC, dI)) (ci := 14) (v := .ref tx) (C := RX11) (T := TX11) (N := 15) hx hb hu iuX11 hown hK hP 0 rfl rfl 0 (by decide) (hu _ mG_718) (fun _ h9 => h9) rfl dX11_put_137 ?_
        refine va_get (D := (dC, dI)) (ci := 11) (v := .int (nI (n + cntN sg 4))) (C := RX8) (T := TX8) (N := 3) hx hb hu iuX8 hown hK hP 1 rfl rfl 1 (by decide) (hu _ mG_264) (fun _ h9 => h9) rfl dX11_put_140 ?_
        have hP9 : va_P (dC, dI) vwCl [(x, .inr (14, [.ref tx, .ref pr, .ref rd, .ref li, .ref de, .ref sc, .ref ma, .ref ou, .ref dr, .int st, .int fk, .int fp, .int pe, .int ce, .int le])), (tx, .inr (11, [.ref r, .int (nI (n + cntN sg 4)), .int lo])), (r, .inl (cB, 3000, .inl (apN sg f n 4)))] H := by exact hP
        have hD9 : va_D A [(x, .inr (14, [.ref tx, .ref pr, .ref rd, .ref li, .ref de, .ref sc, .ref ma, .ref ou, .ref dr, .int st, .int fk, .int fp, .int pe, .int ce, .int le])), (tx, .inr (11, [.ref r, .int (nI (n + cntN sg 4)), .int lo])), (r, .inl (cB, 3000, .inl (apN sg f n 4)))] := by exact hD
        have hK9 := hK.sub (tys' := [(cB, .byte)]) [0] rfl
        refine vx_ret ?_
        refine W.widen (k := 1) (n := 6) (Nat.le_of_ble_eq_true rfl) (Nat.le_of_ble_eq_true rfl) ?_
        exact W.iret (v := (nI (n + cntN sg 4))) hx hb hr (fun t ht hW => ⟨⟨(nI (n + cntN sg 4)), (), rfl, ⟨⟨hok4, h86⟩, rfl⟩, by rw [ht]; exact hP9, va_K.moved hW.alike hK9, hD9⟩, hS.F ht⟩) hS.2.2 dX11_put_143
      · have hi4 : i < 4 := nI_l4 hi c101
        have hcm : cntN sg (i + 1) ≤ cntN sg 4 := cnt_mono sg (by omega)
        refine lv_iload_n hx hb dX11_put_104 rfl (lv_at hl 1 rfl) ?_
        refine lv_bipush (v := 8) hx hb dX11_put_105 (by decide) ?_
        refine lv_iload_n hx hb dX11_put_107 rfl (lv_at hl 3 rfl) ?_
        refine lv_imul hx hb dX11_put_108 ?_
        refine lv_topi (fun x108 ex108 => ?_)
        refine lv_iushr hx hb dX11_put_109 rfl ?_
        refine lv_topi (fun x109 ex109 => ?_)
        refine lv_sipush (v := 255) hx hb dX11_put_110 (by decide) ?_
        refine lv_iand hx hb dX11_put_113 ?_
        refine lv_topi (fun x113 ex113 => ?_)
        obtain rfl : x113 = (nI (pbN sg i)) := by rw [ex113, ex109, ex108]; exact pb_class sg i hi4
        refine lv_istore (lv' := [(4, .int (nI (pbN sg i))), (0, .ref x), (1, .int sg), (2, .int (nI (cntN sg 4))), (3, .int (nI i))]) hx hb dX11_put_114 hl (by decide) rfl (fun ls hl => ?_)
        refine lv_iload hx hb dX11_put_116 (lv_at hl 0 rfl) ?_
        refine lv_if_eq (tgt := 130) hx hb dX11_put_118 (by decide) (fun c118 => ?_) (fun c118 => ?_)
        · have hz := ok_0 (pbN_lt _ _) c118
          rw [← cnt_0 hz, ← ap_0 (f := f) (n := n) hz] at hP hD
          have hP : va_P (dC, dI) vwCl [(x, .inr (14, [.ref tx, .ref pr, .ref rd, .ref li, .ref de, .ref sc, .ref ma, .ref ou, .ref dr, .int st, .int fk, .int fp, .int pe, .int ce, .int le])), (tx, .inr (11, [.ref r, .int (nI (n + cntN sg (i + 1))), .int lo])), (r, .inl (cB, 3000, .inl (apN sg f n (i + 1))))] H := hP
          have hD : va_D A [(x, .inr (14, [.ref tx, .ref pr, .ref rd, .ref li, .ref de, .ref sc, .ref ma, .ref ou, .ref dr, .int st, .int fk, .int fp, .int pe, .int ce, .int le])), (tx, .inr (11, [.ref r, .int (nI (n + cntN sg (i + 1))), .int lo])), (r, .inl (cB, 3000, .inl (apN sg f n (i + 1))))] := hD
          refine lv_iinc (v := (nI (i + 1))) (lv' := [(3, .int (nI (i + 1))), (4, .int (nI (pbN sg i))), (0, .ref x), (1, .int sg), (2, .int (nI (cntN sg 4)))]) hx hb dX11_put_130 hl (k := 4) rfl (nI_1 i) (by decide) rfl (fun ls hl => ?_)
          refine lv_goto (tgt := 99) hx hb dX11_put_133 (by decide) ?_
          exact ih99 ((i + 1)) _ _ _ ⟨by omega, hP, hD, hS, lv_sub hl [2, 3, 4, 0] rfl⟩ (by omega)
        · have hz : ¬ pbN sg i = 0 := fun h => c118 (by rw [h]; rfl)
          have hcc := cnt_1 hz
          refine lv_aload_n hx hb dX11_put_121 rfl (lv_at hl 1 rfl) ?_
          refine va_get (D := (dC, dI)) (ci := 14) (v := .ref tx) (C := RX11) (T := TX11) (N := 15) hx hb hu iuX11 hown hK hP 0 rfl rfl 0 (by decide) (hu _ mG_718) (fun _ h9 => h9) rfl dX11_put_122 ?_
          refine lv_iload hx hb dX11_put_125 (lv_at hl 0 rfl) ?_
          have hPc := hP.sub (ws' := [(tx, .inr (11, [.ref r, .int (nI (n + cntN sg i)), .int lo])), (r, .inl (cB, 3000, .inl (apN sg f n i)))]) [1, 2] rfl
          have hDc := hD.sub (ws' := [(tx, .inr (11, [.ref r, .int (nI (n + cntN sg i)), .int lo])), (r, .inl (cB, 3000, .inl (apN sg f n i)))]) [1, 2] (by decide) rfl
          have hKc := hK.sub (tys' := [(cB, .byte)]) [0] rfl
          have hFc := va_free (wc := [(tx, .inr (11, [.ref r, .int (nI (n + cntN sg i)), .int lo])), (r, .inl (cB, 3000, .inl (apN sg f n i)))]) hD hS hA [1, 2] rfl
          refine va_callv (va_runV (As := [.int (nI (pbN sg i))]) (rest := []) ⟨hx, hb, hml, hown, hu⟩ (kX8_add l dC dI H.size tx r 3000 (n + cntN sg i) lo (apN sg f n i) cB (nI (pbN sg i)) (by omega) (by decide)) (cwV 1 hu (uG_V (fun _ h => h) mG_779 mG_870 mG_777 mG_778 mG_215) rfl rfl rfl (by decide +kernel) ⟨Nat.le_of_ble_eq_true rfl, Nat.le_of_ble_eq_true rfl⟩) ⟨fun a U g mk q => by obtain ⟨q0, q1, qP, qK, qD⟩ := q; exact ⟨q0, q1, qP, va_K.moved (u := U) (U := U.calling g mk a) (Vm.Alike.refl U.vm) qK, qD⟩, va_recv hKc hPc (ci := 11) (q0 := 0) rfl rfl, fun U hU hW => ⟨rfl, by rw [hU], by rw [hU]; exact hPc, va_K.moved hW.alike hKc, hDc.weaken (fun _ _ _ _ => trivial)⟩⟩ rfl rfl hl.1 rfl (lv_room (Nat.le_of_ble_eq_true rfl)) dX11_put_127 ⟨Nat.le_of_ble_eq_true rfl, Nat.le_of_ble_eq_true rfl⟩) hS (fun q _ h => hFc q h) hFc (fun u t H1 locs ht hvm hw hB hz1 hk1 hS => ?_)
          obtain ⟨hP1, hK1, hD1⟩ := hB
          rw [ht] at hP1
          obtain ⟨hP, hD⟩ := va_join (wr := [(x, .inr (14, [.ref tx, .ref pr, .ref rd, .ref li, .ref de, .ref sc, .ref ma, .ref ou, .ref dr, .int st, .int fk, .int fp, .int pe, .int ce, .int le]))]) (w1 := [(tx, .inr (11, [.ref r, .int (nI (if n + cntN sg i < 3000 then n + cntN sg i + 1 else n + cntN sg i)), .int (if n + cntN sg i < 3000 then lo else 1)])), (r, .inl (cB, 3000, .inl (if n + cntN sg i < 3000 then upd (apN sg f n i) (n + cntN sg i) (nI (pbN sg i)).toInt8.toInt32 else apN sg f n i)))]) hP hD [1, 2] [0] rfl rfl (by decide) (by decide) hk1 hFc hP1 hD1
          generalize H1 = H at hP hS ⊢
          have hP : va_P (dC, dI) vwCl [(x, .inr (14, [.ref tx, .ref pr, .ref rd, .ref li, .ref de, .ref sc, .ref ma, .ref ou, .ref dr, .int st, .int fk, .int fp, .int pe, .int ce, .int le])), (tx, .inr (11, [.ref r, .int (nI (if n + cntN sg i < 3000 then n + cntN sg i + 1 else n + cntN sg i)), .int (if n + cntN sg i < 3000 then lo else 1)])), (r, .inl (cB, 3000, .inl (if n + cntN sg i < 3000 then upd (apN sg f n i) (n + cntN sg i) (nI (pbN sg i)).toInt8.toInt32 else apN sg f n i)))] H := hP
          have hD : va_D A [(x, .inr (14, [.ref tx, .ref pr, .ref rd, .ref li, .ref de, .ref sc, .ref ma, .ref ou, .ref dr, .int st, .int fk, .int fp, .int pe, .int ce, .int le])), (tx, .inr (11, [.ref r, .int (nI (if n + cntN sg i < 3000 then n + cntN sg i + 1 else n + cntN sg i)), .int (if n + cntN sg i < 3000 then lo else 1)])), (r, .inl (cB, 3000, .inl (if n + cntN sg i < 3000 then upd (apN sg f n i) (n + cntN sg i) (nI (pbN sg i)).toInt8.toInt32 else apN sg f n i)))] := hD
          have hin : n + cntN sg i < 3000 := by omega
          simp only [if_pos hin, by_128 _ (okb_lt (hok4 i hi4))] at hP hD
          rw [← ap_1 (f := f) (n := n) hz, Nat.add_assoc, ← hcc] at hP hD
          have hP : va_P (dC, dI) vwCl [(x, .inr (14, [.ref tx, .ref pr, .ref rd, .ref li, .ref de, .ref sc, .ref ma, .ref ou, .ref dr, .int st, .int fk, .int fp, .int pe, .int ce, .int le])), (tx, .inr (11, [.ref r, .int (nI (n + cntN sg (i + 1))), .int lo])), (r, .inl (cB, 3000, .inl (apN sg f n (i + 1))))] H := hP
          have hD : va_D A [(x, .inr (14, [.ref tx, .ref pr, .ref rd, .ref li, .ref de, .ref sc, .ref ma, .ref ou, .ref dr, .int st, .int fk, .int fp, .int pe, .int ce, .int le])), (tx, .inr (11, [.ref r, .int (nI (n + cntN sg (i + 1))), .int lo])), (r, .inl (cB, 3000, .inl (apN sg f n (i + 1))))] := hD
          refine lv_iinc (v := (nI (i + 1))) (lv' := [(3, .int (nI (i + 1))), (4, .int (nI (pbN sg i))), (0, .ref x), (1, .int sg), (2, .int (nI (cntN sg 4)))]) hx hb dX11_put_130 hl (k := 4) rfl (nI_1 i) (by decide) rfl (fun ls hl => ?_)
          refine lv_goto (tgt := 99) hx hb dX11_put_133 (by decide) ?_
          exact ih99 ((i + 1)) _ _ _ ⟨by omega, hP, hD, hS, lv_sub hl [2, 3, 4, 0] rfl⟩ (by omega)
    · exact ut_throw hx hb hlt hown (by decide +kernel) hu hXw hZ mG_855 mG_231 ul_UOE uo_UOE hP hK hD hS (by rw [hml]; exact hl.1) hno dX11_put_89 dX11_put_92 dX11_put_93 dX11_put_96 (Nat.le_of_ble_eq_true rfl) (Nat.le_of_ble_eq_true rfl) (Nat.le_of_ble_eq_true rfl) (Nat.le_of_ble_eq_true rfl) hlocks (Nat.le_of_ble_eq_true rfl) (Nat.le_of_ble_eq_true rfl) (Or.inr ⟨rfl, hok, fun h => c86 ((nI_leI (b := 3000) (by omega) (by decide)).mpr h)⟩)
  · have hi4 : i < 4 := nI_l4 hi c6
    refine lv_iload_n hx hb dX11_put_9 rfl (lv_at hl 1 rfl) ?_
    refine lv_bipush (v := 8) hx hb dX11_put_10 (by decide) ?_
    refine lv_iload_n hx hb dX11_put_12 rfl (lv_at hl 3 rfl) ?_
    refine lv_imul hx hb dX11_put_13 ?_
    refine lv_topi (fun x13 ex13 => ?_)
    refine lv_iushr hx hb dX11_put_14 rfl ?_
    refine lv_topi (fun x14 ex14 => ?_)
    refine lv_sipush (v := 255) hx hb dX11_put_15 (by decide) ?_
    refine lv_iand hx hb dX11_put_18 ?_
    refine lv_topi (fun x18 ex18 => ?_)
    obtain rfl : x18 = (nI (pbN sg i)) := by rw [ex18, ex14, ex13]; exact pb_class sg i hi4
    refine lv_istore (lv' := [(4, .int (nI (pbN sg i))), (0, .ref x), (1, .int sg), (2, .int (nI (cntN sg i))), (3, .int (nI i))]) hx hb dX11_put_19 hl (by decide) rfl (fun ls hl => ?_)
    refine lv_iload hx hb dX11_put_21 (lv_at hl 0 rfl) ?_
    refine lv_if_eq (tgt := 55) hx hb dX11_put_23 (by decide) (fun c23 => ?_) (fun c23 => ?_)
    · have hz := ok_0 (pbN_lt _ _) c23
      have hob : okb (pbN sg i) := Or.inl hz
      refine lv_iload_n hx hb dX11_put_55 rfl (lv_at hl 3 rfl) ?_
      refine lv_iload hx hb dX11_put_56 (lv_at hl 0 rfl) ?_
      refine lv_if_ne (tgt := 65) hx hb dX11_put_58 (by decide) (fun c58 => ?_) (fun c58 => ?_)
      · exact absurd (by rw [hz]; rfl) c58
      · refine lv_iconst (v := 0) hx hb dX11_put_61 (by decide) ?_
        refine lv_goto (tgt := 66) hx hb dX11_put_62 (by decide) ?_
        refine lv_iadd hx hb dX11_put_66 ?_
        refine lv_topi (fun x66 ex66 => ?_)
        obtain rfl : x66 = (nI (cntN sg (i + 1))) := by rw [ex66, cnt_0 hz]; exact Int32.add_zero _
        refine lv_istore_n (lv' := [(2, .int (nI (cntN sg (i + 1)))), (4, .int (nI (pbN sg i))), (0, .ref x), (1, .int sg), (3, .int (nI i))]) hx hb dX11_put_67 rfl hl (by decide) rfl (fun ls hl => ?_)
        refine lv_iinc (v := (nI (i + 1))) (lv' := [(3, .int (nI (i + 1))), (2, .int (nI (cntN sg (i + 1)))), (4, .int (nI (pbN sg i))), (0, .ref x), (1, .int sg)]) hx hb dX11_put_68 hl (k := 4) rfl (nI_1 i) (by decide) rfl (fun ls hl => ?_)
        refine lv_goto (tgt := 4) hx hb dX11_put_71 (by decide) ?_
        exact ih4 ((i + 1)) _ _ _ ⟨by omega, ok_s hok hob, hP, hD, hS, lv_sub hl [3, 4, 1, 0] rfl⟩ (by omega)
    · refine lv_iload hx hb dX11_put_26 (lv_at hl 0 rfl) ?_
      refine lv_bipush (v := 10) hx hb dX11_put_28 (by decide) ?_
      refine lv_icmp_eq (tgt := 55) hx hb dX11_put_30 (by decide) (fun c30 => ?_) (fun c30 => ?_)
      · have hob : okb (pbN sg i) := Or.inr (Or.inl (ok_10 (pbN_lt _ _) c30))
        have hz : ¬ pbN sg i = 0 := fun h => c23 (by rw [h]; rfl)
        refine lv_iload_n hx hb dX11_put_55 rfl (lv_at hl 3 rfl) ?_
        refine lv_iload hx hb dX11_put_56 (lv_at hl 0 rfl) ?_
        refine lv_if_ne (tgt := 65) hx hb dX11_put_58 (by decide) (fun c58 => ?_) (fun c58 => ?_)
        · refine lv_iconst (v := 1) hx hb dX11_put_65 (by decide) ?_
          refine lv_iadd hx hb dX11_put_66 ?_
          refine lv_topi (fun x66 ex66 => ?_)
          obtain rfl : x66 = (nI (cntN sg (i + 1))) := by rw [ex66, cnt_1 hz]; exact nI_1 _
          refine lv_istore_n (lv' := [(2, .int (nI (cntN sg (i + 1)))), (4, .int (nI (pbN sg i))), (0, .ref x), (1, .int sg), (3, .int (nI i))]) hx hb dX11_put_67 rfl hl (by decide) rfl (fun ls hl => ?_)
          refine lv_iinc (v := (nI (i + 1))) (lv' := [(3, .int (nI (i + 1))), (2, .int (nI (cntN sg (i + 1)))), (4, .int (nI (pbN sg i))), (0, .ref x), (1, .int sg)]) hx hb dX11_put_68 hl (k := 4) rfl (nI_1 i) (by decide) rfl (fun ls hl => ?_)
          refine lv_goto (tgt := 4) hx hb dX11_put_71 (by decide) ?_
          exact ih4 ((i + 1)) _ _ _ ⟨by omega, ok_s hok hob, hP, hD, hS, lv_sub hl [3, 4, 1, 0] rfl⟩ (by omega)
        · exact absurd c58 (fun h => hz (ok_0 (pbN_lt _ _) h))
      · refine lv_iload hx hb dX11_put_33 (lv_at hl 0 rfl) ?_
        refine lv_bipush (v := 32) hx hb dX11_put_35 (by decide) ?_
        refine lv_icmp_lt (tgt := 47) hx hb dX11_put_37 (by decide) (fun c37 => ?_) (fun c37 => ?_)
        · exact ut_throw hx hb hlt hown (by decide +kernel) hu hXw hZ mG_789 mG_230 ul_IAE uo_IAE hP hK hD hS (by rw [hml]; exact hl.1) hno dX11_put_47 dX11_put_50 dX11_put_51 dX11_put_54 (Nat.le_of_ble_eq_true rfl) (Nat.le_of_ble_eq_true rfl) (Nat.le_of_ble_eq_true rfl) (Nat.le_of_ble_eq_true rfl) hlocks (Nat.le_of_ble_eq_true rfl) (Nat.le_of_ble_eq_true rfl) (Or.inl ⟨rfl, i, hi4, ok_no (pbN_lt _ _) c23 c30 (Or.inl c37)⟩)
        · refine lv_iload hx hb dX11_put_40 (lv_at hl 0 rfl) ?_
          refine lv_bipush (v := 126) hx hb dX11_put_42 (by decide) ?_
          refine lv_icmp_le (tgt := 55) hx hb dX11_put_44 (by decide) (fun c44 => ?_) (fun c44 => ?_)
          · have hob : okb (pbN sg i) := ok_r (pbN_lt _ _) c37 c44
            have hz : ¬ pbN sg i = 0 := fun h => c23 (by rw [h]; rfl)
            refine lv_iload_n hx hb dX11_put_55 rfl (lv_at hl 3 rfl) ?_
            refine lv_iload hx hb dX11_put_56 (lv_at hl 0 rfl) ?_
            refine lv_if_ne (tgt := 65) hx hb dX11_put_58 (by decide) (fun c58 => ?_) (fun c58 => ?_)
            · refine lv_iconst (v := 1) hx hb dX11_put_65 (by decide) ?_
              refine lv_iadd hx hb dX11_put_66 ?_
              refine lv_topi (fun x66 ex66 => ?_)
              obtain rfl : x66 = (nI (cntN sg (i + 1))) := by rw [ex66, cnt_1 hz]; exact nI_1 _
              refine lv_istore_n (lv' := [(2, .int (nI (cntN sg (i + 1)))), (4, .int (nI (pbN sg i))), (0, .ref x), (1, .int sg), (3, .int (nI i))]) hx hb dX11_put_67 rfl hl (by decide) rfl (fun ls hl => ?_)
              refine lv_iinc (v := (nI (i + 1))) (lv' := [(3, .int (nI (i + 1))), (2, .int (nI (cntN sg (i + 1)))), (4, .int (nI (pbN sg i))), (0, .ref x), (1, .int sg)]) hx hb dX11_put_68 hl (k := 4) rfl (nI_1 i) (by decide) rfl (fun ls hl => ?_)
              refine lv_goto (tgt := 4) hx hb dX11_put_71 (by decide) ?_
              exact ih4 ((i + 1)) _ _ _ ⟨by omega, ok_s hok hob, hP, hD, hS, lv_sub hl [3, 4, 1, 0] rfl⟩ (by omega)
            · exact absurd c58 (fun h => hz (ok_0 (pbN_lt _ _) h))
          · exact ut_throw hx hb hlt hown (by decide +kernel) hu hXw hZ mG_789 mG_230 ul_IAE uo_IAE hP hK hD hS (by rw [hml]; exact hl.1) hno dX11_put_47 dX11_put_50 dX11_put_51 dX11_put_54 (Nat.le_of_ble_eq_true rfl) (Nat.le_of_ble_eq_true rfl) (Nat.le_of_ble_eq_true rfl) (Nat.le_of_ble_eq_true rfl) hlocks (Nat.le_of_ble_eq_true rfl) (Nat.le_of_ble_eq_true rfl) (Or.inl ⟨rfl, i, hi4, ok_no (pbN_lt _ _) c23 c30 (Or.inr c44)⟩)
