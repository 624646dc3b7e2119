theorem sw_0_14 (x : Int32) : (x.toInt < 0 ∨ 14 < x.toInt) ∨ x = 0 ∨ x = 1 ∨ x = 2 ∨ x = 3 ∨ x = 4 ∨ x = 5 ∨ x = 6 ∨ x = 7 ∨ x = 8 ∨ x = 9 ∨ x = 10 ∨ x = 11 ∨ x = 12 ∨ x = 13 ∨ x = 14 := by
  by_cases h : x.toInt < 0 ∨ 14 < x.toInt
  · exact Or.inl h
  · have h2 : x.toInt = 0 ∨ x.toInt = 1 ∨ x.toInt = 2 ∨ x.toInt = 3 ∨ x.toInt = 4 ∨ x.toInt = 5 ∨ x.toInt = 6 ∨ x.toInt = 7 ∨ x.toInt = 8 ∨ x.toInt = 9 ∨ x.toInt = 10 ∨ x.toInt = 11 ∨ x.toInt = 12 ∨ x.toInt = 13 ∨ x.toInt = 14 := by omega
    refine Or.inr ?_
    rcases h2 with h | h | h | h | h | h | h | h | h | h | h | h | h | h | h
    · exact Or.inl (Int32.toInt_inj.mp (h.trans (by decide)))
    · exact Or.inr (Or.inl (Int32.toInt_inj.mp (h.trans (by decide))))
    · exact Or.inr (Or.inr (Or.inl (Int32.toInt_inj.mp (h.trans (by decide)))))
    · exact Or.inr (Or.inr (Or.inr (Or.inl (Int32.toInt_inj.mp (h.trans (by decide))))))
    · exact Or.inr (Or.inr (Or.inr (Or.inr (Or.inl (Int32.toInt_inj.mp (h.trans (by decide)))))))
    · exact Or.inr (Or.inr (Or.inr (Or.inr (Or.inr (Or.inl (Int32.toInt_inj.mp (h.trans (by decide))))))))
    · exact Or.inr (Or.inr (Or.inr (Or.inr (Or.inr (Or.inr (Or.inl (Int32.toInt_inj.mp (h.trans (by decide)))))))))
    · exact Or.inr (Or.inr (Or.inr (Or.inr (Or.inr (Or.inr (Or.inr (Or.inl (Int32.toInt_inj.mp (h.trans (by decide))))))))))
    · exact Or.inr (Or.inr (Or.inr (Or.inr (Or.inr (Or.inr (Or.inr (Or.inr (Or.inl (Int32.toInt_inj.mp (h.trans (by decide)))))))))))
    · exact Or.inr (Or.inr (Or.inr (Or.inr (Or.inr (Or.inr (Or.inr (Or.inr (Or.inr (Or.inl (Int32.toInt_inj.mp (h.trans (by decide))))))))))))
    · exact Or.inr (Or.inr (Or.inr (Or.inr (Or.inr (Or.inr (Or.inr (Or.inr (Or.inr (Or.inr (Or.inl (Int32.toInt_inj.mp (h.trans (by decide)))))))))))))
    · exact Or.inr (Or.inr (Or.inr (Or.inr (Or.inr (Or.inr (Or.inr (Or.inr (Or.inr (Or.inr (Or.inr (Or.inl (Int32.toInt_inj.mp (h.trans (by decide))))))))))))))
    · exact Or.inr (Or.inr (Or.inr (Or.inr (Or.inr (Or.inr (Or.inr (Or.inr (Or.inr (Or.inr (Or.inr (Or.inr (Or.inl (Int32.toInt_inj.mp (h.trans (by decide)))))))))))))))
    · exact Or.inr (Or.inr (Or.inr (Or.inr (Or.inr (Or.inr (Or.inr (Or.inr (Or.inr (Or.inr (Or.inr (Or.inr (Or.inr (Or.inl (Int32.toInt_inj.mp (h.trans (by decide))))))))))))))))
    · exact Or.inr (Or.inr (Or.inr (Or.inr (Or.inr (Or.inr (Or.inr (Or.inr (Or.inr (Or.inr (Or.inr (Or.inr (Or.inr (Or.inr (Int32.toInt_inj.mp (h.trans (by decide))))))))))))))))



/-- the room is as large as this; its numbers may be made anew with the statement -/
theorem rm_c : 601000 ≤ room_1.cells := Nat.le_of_ble_eq_true rfl
theorem rm_s : 7293000 ≤ room_1.slots := Nat.le_of_ble_eq_true rfl
def R_law : String := "LazyForgeLaw"
def lw_P (b : Addr) (xs : List Int32) (args : Array Value) (s : State) : Prop := args = #[.ref b] ∧ s.IntsAt b xs ∧ xs.length ≤ 1536 ∧ (Jvm.Cond.and given_1 narrow_1).before args s = true
def lw_Q (_ : Array Value) (s : State) (o : Outcome) (t : State) : Prop := o = .returned (some (.int 1)) ∧ Framed s o t [] room_1.cells room_1.slots
def lw_Z (below : List Frame) (a : Array Value) (s : State) : State → Prop := fun t => ∃ o, t.status = .running ∧ Ended t below o ∧ lw_Q a s o t
/-- the law's own end, with 1 on the stack, nothing written that was there before, its room as the claim has it -/
theorem lw_ret {p : Program} {l : Launch} {e : Env} {s : State} {m : MethodId} {below : List Frame} {meth : Method} {c : Code} {b : Nat} (hx : p.tables.exec = Jvm.exec) (hb : c.code = code) (hr : meth.sig.returnType = ret) (hlocks : meth.locks = false) {pc : Nat} {H : Heap} {ls : Array Slot} (hdg : decode code pc = .ok (.ireturn, 1)) : W p l e room_1 s m #[Value.ref b] below meth c H [] room_1.cells room_1.slots (lw_Z below #[Value.ref b] s) (F0 m pc ls [.int 1]) := by
  intro T hT X
  obtain ⟨fs, hret, hrun, hended, hW, hframe⟩ := X.leave (v := some (.int 1)) (hlocks := hlocks) (fun h => by rw [hr] at h; cases h)
  have hmeth' : T.vm.method? m = some meth := X.method'
  refine ⟨T.setFrames fs, ?_, .returned (some (.int 1)), hrun, hended, rfl, ⟨_, rfl⟩, hW, hframe⟩
  jvm_step X.here [X.here.top, hx, hb, hdg, hmeth', hr, ret, narrow_b1]
  (try refine ⟨rfl, ?_⟩); (try refine ⟨rfl, ?_⟩)
  first | (intro acts; rw [hret _ acts rfl rfl rfl]) | rw [hret _ _ rfl rfl rfl]
  exact Steps.refl _
/-- what holds at the law's entry: the machine, the code, the tables' words (any of lw_tbl by 'hts w (by decide +kernel)'), the script of L ints xs at the cell b, what the Statement gives of the start (any of its parts by flat_of_before) -/
def lw_At (p : Program) (s : State) (m : MethodId) (meth : Method) (c : Code) (b L : Nat) (xs : Nat → Int32) : Prop :=
  p.tables.exec = Jvm.exec ∧ c.code = code ∧ meth.sig.returnType = ret ∧ c.maxLocals = 7 ∧ s.vm.findClass R_law = some m.cls ∧ (∀ w ∈ lw_tbl, w.before #[Value.ref b] s = true) ∧ va_X b L xs s s.heap ∧ b < s.heap.size ∧ meth.locks = false ∧ (Jvm.Cond.and given_1 narrow_1).before #[Value.ref b] s = true

/-- what the relation of both states must bear: one call -/
def St0 (Rel : S5 → S5 → Prop) (h f : S5 → Option (Int32 × S5)) : Prop := ∀ (σ μ : S5), Rel σ μ → ∃ (kx rm : Int32) (τ μ1 : S5), h σ = some (kx, τ) ∧ f μ = some (rm, μ1) ∧ gI μ1 0 = kx ∧ (kx = 0 → gB τ 30 (0 : Int32).toNatClampNeg = (rm).toInt64) ∧ Rel τ μ1 ∧ ka σ ≤ ka τ ∧ sl σ ≤ sl τ
def St1 (Rel : S5 → S5 → Prop) (h f : Int32 → S5 → Option (Int32 × S5)) : Prop := ∀ (σ μ : S5) (a : Int32), Rel σ μ → ∃ (kx rm : Int32) (τ μ1 : S5), h a σ = some (kx, τ) ∧ f a μ = some (rm, μ1) ∧ gI μ1 0 = kx ∧ (kx = 0 → gB τ 30 (0 : Int32).toNatClampNeg = (rm).toInt64) ∧ Rel τ μ1 ∧ ka σ ≤ ka τ ∧ sl σ ≤ sl τ
def St2 (Rel : S5 → S5 → Prop) (h f : Int32 → Int32 → S5 → Option (Int32 × S5)) : Prop := ∀ (σ μ : S5) (a a2 : Int32), Rel σ μ → ∃ (kx rm : Int32) (τ μ1 : S5), h a a2 σ = some (kx, τ) ∧ f a a2 μ = some (rm, μ1) ∧ gI μ1 0 = kx ∧ (kx = 0 → gB τ 30 (0 : Int32).toNatClampNeg = (rm).toInt64) ∧ Rel τ μ1 ∧ ka σ ≤ ka τ ∧ sl σ ≤ sl τ
def StE (Rel : S5 → S5 → Prop) : Prop := ∀ (σ μ : S5) (a : Int32), Rel σ μ → ∃ (kx : Int32) (τ μ1 : S5), h_L_end a σ = some (kx, τ) ∧ f_X12_end a μ = some ((), μ1) ∧ gI μ1 0 = kx ∧ Rel τ μ1 ∧ ka σ ≤ ka τ ∧ sl σ ≤ sl τ
def StT (Rel : S5 → S5 → Prop) : Prop := ∀ (σ μ : S5), Rel σ μ → ∃ (cv : Int32 × Int32) (rm : Int32) (τ μ1 : S5), cv.1 = 0 ∧ f_X11_take σ = some (cv, τ) ∧ f_X12_take μ = some (rm, μ1) ∧ cv.2 = rm ∧ Rel τ μ1 ∧ ka σ ≤ ka τ ∧ sl σ ≤ sl τ
def StN (Rel : S5 → S5 → Prop) : Prop := ∀ (σ μ : S5) (a a2 : Int32), Rel σ μ → ∃ (kx rm : Int32) (τ μ1 : S5), h_L_needs a a2 σ = some (kx, τ) ∧ f_X12_needs a a2 μ = some (rm, μ1) ∧ gI μ1 0 = kx ∧ (kx = 0 → gB τ 30 (0 : Int32).toNatClampNeg = if rm = 0 then 0 else 1) ∧ Rel τ μ1 ∧ ka σ ≤ ka τ ∧ sl σ ≤ sl τ
def LawStep (Rel : S5 → S5 → Prop) : Prop := St1 Rel h_L_put f_X12_put ∧ StE Rel ∧ StT Rel ∧ St0 Rel h_L_program f_X12_program ∧ St1 Rel h_L_fault f_X12_fault ∧ St0 Rel h_L_write f_X12_write ∧ St1 Rel h_L_letter f_X12_letter ∧ St2 Rel h_L_function f_X12_function ∧ StN Rel ∧ St2 Rel h_L_bit f_X12_bit ∧ St2 Rel (fun a a2 σ => h_L_run (if a = 0 then 0 else 1) a2 σ) (fun a a2 μ => f_X12_run (if a = 0 then 0 else 1) a2 μ) ∧ St1 Rel h_L_result f_X12_result ∧ St1 Rel h_L_number f_X12_number ∧ St1 Rel h_L_called f_X12_called ∧ St1 Rel h_L_about f_X12_about
/-- the relation bounds the rows that were made longer -/
def LawRoom (Rel : S5 → S5 → Prop) : Prop := ∀ (σ μ : S5), Rel σ μ → ka σ ≤ 2560 ∧ sl σ ≤ 2621440
theorem law_i {L i : Nat} (hL : L ≤ 1536) (hi : i ≤ 4000) : (Int32.ofNat L - 3 < nI i) ↔ L < i + 3 := by
  have h1 : (Int32.ofNat L).toInt = (L : Int) := Int32.toInt_ofNat_of_lt (by omega)
  have h2 : (nI i).toInt = (i : Int) := Int32.toInt_ofNat_of_lt (by omega)
  have h3 : (Int32.ofNat L - 3).toInt = (L : Int) - 3 := by
    rw [Int32.toInt_sub, h1, show (3 : Int32).toInt = 3 from rfl]
    exact Int.bmod_eq_of_le (by omega) (by omega)
  rw [Int32.lt_iff_toInt_lt, h2, h3]
  omega
theorem nI_add1 (i : Nat) : nI i + 1 = nI (i + 1) := by
  show Int32.ofNat i + 1 = Int32.ofNat (i + 1)
  rw [Int32.ofNat_add]
  rfl
theorem nI_add2 (i : Nat) : nI i + 2 = nI (i + 2) := by
  show Int32.ofNat i + 2 = Int32.ofNat (i + 2)
  rw [Int32.ofNat_add]
  rfl
theorem nI_add3 (i : Nat) : nI i + Int32.ofInt 3 = nI (i + 3) := by
  show Int32.ofNat i + Int32.ofInt 3 = Int32.ofNat (i + 3)
  rw [Int32.ofNat_add]
  rfl
set_option maxHeartbeats 4000000 in
set_option maxRecDepth 100000 in
/-- one turn of the law's loop -/
theorem law_once {p : Program} {l : Launch} {e : Env} {s : State} {m : MethodId} {below : List Frame} {meth : Method} {c : Code} {dC : Nat → ClassId} {dI : Nat → Nat → Nat} {A : Nat → Prop} {ak am : Nat → Nat} {km : Nat → ClassId} {x q9 b L : Nat} {xs : Nat → Int32} {Rel : S5 → S5 → Prop} (hst : LawStep Rel) (hbd : LawRoom Rel) (hlt : l.stackTraces = false) (S : CallFix p m c cL_law 7 s #[Value.ref b] uG RL) (hr : meth.sig.returnType = ret) (hlocks : meth.locks = false) (hX : va_X b L xs s s.heap) (hbl : b < s.heap.size) (hAe : A = fun q : Nat => s.heap.size ≤ q) (hL : L ≤ 1536) {j : Nat} (hj : 3 * j ≤ 1539)
    (nxt : 3 * j + 3 ≤ L → ∀ (ad : Nat → Nat) (kc : Nat → ClassId) (sv : Value) (sa va : Nat) (σ μ : S5) (H : Heap) (locs : List Loc) (ls : Array Slot) (cells slots : Nat), Rel σ μ → cells ≤ 200 + (j + 1) + ka σ → slots ≤ 2000000 + 6 * (j + 1) + sl σ → gL (dC, dI) x q9 ad kc sv sa va σ am km μ ak A s H locs → lv_has ls 7 [(0, .ref b), (1, .ref x), (2, .ref (am 0)), (3, .ref q9), (4, .int (nI (3 * j + 3)))] → W p l e room_1 s m #[Value.ref b] below meth c H locs cells slots (lw_Z below #[Value.ref b] s) (F0 m 23 ls [])) : ∀ (ad : Nat → Nat) (kc : Nat → ClassId) (sv : Value) (sa va : Nat) (σ μ : S5) (H : Heap) (locs : List Loc) (ls : Array Slot) (cells slots : Nat), Rel σ μ → cells ≤ 200 + (j) + ka σ → slots ≤ 2000000 + 6 * (j) + sl σ → gL (dC, dI) x q9 ad kc sv sa va σ am km μ ak A s H locs → lv_has ls 7 [(0, .ref b), (1, .ref x), (2, .ref (am 0)), (3, .ref q9), (4, .int (nI (3 * j)))] → W p l e room_1 s m #[Value.ref b] below meth c H locs cells slots (lw_Z below #[Value.ref b] s) (F0 m 23 ls []) := by
  intro ad kc sv sa va σ μ H locs ls cells slots hrel hcl hsl X hl
  have hx := S.1
  have hb := S.2.1
  have hbA : ¬ A b := by rw [hAe]; exact Nat.not_le.mpr hbl
  have hb1 := hbd σ μ hrel
  refine lv_iload hx hb dL_law_23 (lv_at hl 4 rfl) ?_
  refine lv_aload_n hx hb dL_law_25 rfl (lv_at hl 0 rfl) ?_
  refine va_slen hx hb hX hbl hbA X.2.2.2.1 dL_law_26 ?_
  refine lv_iconst (v := 3) hx hb dL_law_27 (by decide) ?_
  refine lv_isub hx hb dL_law_28 ?_
  refine lv_icmp_gt (tgt := 942) hx hb dL_law_29 (by decide) (fun c29 => ?_) (fun c29 => ?_)
  · refine lv_iconst (v := 1) hx hb dL_law_942 (by decide) ?_
    refine va_forget (fun q hq => by have h := X.2.2.2.1.2.2 q hq; rw [hAe] at h; exact h) ?_
    refine W.widen (k := room_1.cells) (n := room_1.slots) (by have := rm_c; omega) (by have := rm_s; omega) ?_
    exact lw_ret hx hb hr hlocks dL_law_943
  have hj3 : 3 * j + 3 ≤ L := Nat.not_lt.mp (fun h => c29 ((law_i hL (by omega)).mpr h))
  have hi0 : vp_in (nI (3 * j)) L := vp_in_nI (by omega) (by omega)
  have hi1 : vp_in (nI (3 * j) + 1) L := by rw [nI_add1]; exact vp_in_nI (by omega) (by omega)
  have hi2 : vp_in (nI (3 * j) + 2) L := by rw [nI_add2]; exact vp_in_nI (by omega) (by omega)
  have hRc := rm_c
  have hRs := rm_s
  have back : ∀ (ad : Nat → Nat) (kc : Nat → ClassId) (sv : Value) (sa va : Nat) (σ μ : S5) (H : Heap) (locs : List Loc) (ls : Array Slot) (cells slots : Nat), Rel σ μ → cells ≤ 200 + (j + 1) + ka σ → slots ≤ 2000000 + 6 * (j + 1) + sl σ → gL (dC, dI) x q9 ad kc sv sa va σ am km μ ak A s H locs → lv_has ls 7 [(0, .ref b), (1, .ref x), (2, .ref (am 0)), (3, .ref q9), (4, .int (nI (3 * j)))] → W p l e room_1 s m #[Value.ref b] below meth c H locs cells slots (lw_Z below #[Value.ref b] s) (F0 m 936 ls []) := by
    intro ad kc sv sa va σ μ H locs ls cells slots hrel hcl hsl X hl
    refine lv_iinc (v := nI (3 * j + 3)) (lv' := [(4, .int (nI (3 * j + 3))), (0, .ref b), (1, .ref x), (2, .ref (am 0)), (3, .ref q9)]) hx hb dL_law_936 hl (k := 4) rfl (nI_add3 _) (by decide) rfl (fun ls hl => ?_)
    refine lv_goto (tgt := 23) hx hb dL_law_939 (by decide) ?_
    exact nxt hj3 ad kc sv sa va σ μ H locs ls cells slots hrel hcl hsl X (lv_sub hl [1, 2, 3, 4, 0] rfl)
  refine lv_aload_n hx hb dL_law_32 rfl (lv_at hl 0 rfl) ?_
  refine lv_iload hx hb dL_law_33 (lv_at hl 4 rfl) ?_
  refine va_sld hx hb hX hbl hbA X.2.2.2.1 hi0 dL_law_35 ?_
  refine lv_bipush (v := 15) hx hb dL_law_36 (by decide) ?_
  refine lv_iand hx hb dL_law_38 ?_
  obtain ⟨s0, s1, s2, s3, s4, s5, s6, s7, s8, s9, s10, s11, s12, s13, s14⟩ := hst
  rcases sw_0_14 (xs (nI (3 * j)).toNatClampNeg &&& 15) with hsw | hsw | hsw | hsw | hsw | hsw | hsw | hsw | hsw | hsw | hsw | hsw | hsw | hsw | hsw | hsw
  · refine lv_tableOut (tgt := 936) hx hb dL_law_39 hsw (by decide) ?_
    exact back ad kc sv sa va σ μ H locs ls cells slots hrel (by omega) (by omega) X hl
  · refine lv_tableIn (off := 73) (tgt := 112) hx hb dL_law_39 (by rw [hsw]; decide) (by rw [hsw]; decide) (by rw [hsw]; decide) (by decide) ?_
    obtain ⟨kx, rm, τ, μ1, h1, h2, ht, ho, hR, hk1, hk2⟩ := s0 σ μ (xs (nI (3 * j) + 1).toNatClampNeg) hrel
    have hb2 := hbd τ μ1 hR
    exact lg_0 hlt S hX hbl hbA hi1 hi2 h1 h2 ht ho ⟨by omega, by omega⟩ X hl (fun ad kc sv sa va H locs ls X hl => back ad kc sv sa va τ μ1 H locs ls _ _ hR (by omega) (by omega) X hl)
  · refine lv_tableIn (off := 129) (tgt := 168) hx hb dL_law_39 (by rw [hsw]; decide) (by rw [hsw]; decide) (by rw [hsw]; decide) (by decide) ?_
    obtain ⟨kx, τ, μ1, h1, h2, ht, hR, hk1, hk2⟩ := s1 σ μ (xs (nI (3 * j) + 1).toNatClampNeg) hrel
    have hb2 := hbd τ μ1 hR
    exact lg_1 hlt S hX hbl hbA hi1 hi2 h1 h2 ht ⟨by omega, by omega⟩ X hl (fun ad kc sv sa va H locs ls X hl => back ad kc sv sa va τ μ1 H locs ls _ _ hR (by omega) (by omega) X hl)
  · refine lv_tableIn (off := 165) (tgt := 204) hx hb dL_law_39 (by rw [hsw]; decide) (by rw [hsw]; decide) (by rw [hsw]; decide) (by decide) ?_
    obtain ⟨cv, rm, τ, μ1, hcv, h1, h2, he, hR, hk1, hk2⟩ := s2 σ μ hrel
    have hb2 := hbd τ μ1 hR
    exact lg_2 hlt S hX hbl hbA hi1 hi2 hcv h1 h2 he ⟨by omega, by omega⟩ X hl (fun ad kc sv sa va H locs ls X hl => back ad kc sv sa va τ μ1 H locs ls _ _ hR (by omega) (by omega) X hl)
  · refine lv_tableIn (off := 178) (tgt := 217) hx hb dL_law_39 (by rw [hsw]; decide) (by rw [hsw]; decide) (by rw [hsw]; decide) (by decide) ?_
    obtain ⟨kx, rm, τ, μ1, h1, h2, ht, ho, hR, hk1, hk2⟩ := s3 σ μ  hrel
    have hb2 := hbd τ μ1 hR
    exact lg_3 hlt S hX hbl hbA hi1 hi2 h1 h2 ht ho ⟨by omega, by omega⟩ X hl (fun ad kc sv sa va H locs ls X hl => back ad kc sv sa va τ μ1 H locs ls _ _ hR (by omega) (by omega) X hl)
  · refine lv_tableIn (off := 222) (tgt := 261) hx hb dL_law_39 (by rw [hsw]; decide) (by rw [hsw]; decide) (by rw [hsw]; decide) (by decide) ?_
    obtain ⟨kx, rm, τ, μ1, h1, h2, ht, ho, hR, hk1, hk2⟩ := s4 σ μ (xs (nI (3 * j) + 1).toNatClampNeg) hrel
    have hb2 := hbd τ μ1 hR
    exact lg_4 hlt S hX hbl hbA hi1 hi2 h1 h2 ht ho ⟨by omega, by omega⟩ X hl (fun ad kc sv sa va H locs ls X hl => back ad kc sv sa va τ μ1 H locs ls _ _ hR (by omega) (by omega) X hl)
  · refine lv_tableIn (off := 278) (tgt := 317) hx hb dL_law_39 (by rw [hsw]; decide) (by rw [hsw]; decide) (by rw [hsw]; decide) (by decide) ?_
    obtain ⟨kx, rm, τ, μ1, h1, h2, ht, ho, hR, hk1, hk2⟩ := s5 σ μ  hrel
    have hb2 := hbd τ μ1 hR
    exact lg_5 hlt S hX hbl hbA hi1 hi2 h1 h2 ht ho ⟨by omega, by omega⟩ X hl (fun ad kc sv sa va H locs ls X hl => back ad kc sv sa va τ μ1 H locs ls _ _ hR (by omega) (by omega) X hl)
  · refine lv_tableIn (off := 322) (tgt := 361) hx hb dL_law_39 (by rw [hsw]; decide) (by rw [hsw]; decide) (by rw [hsw]; decide) (by decide) ?_
    obtain ⟨kx, rm, τ, μ1, h1, h2, ht, ho, hR, hk1, hk2⟩ := s6 σ μ (xs (nI (3 * j) + 1).toNatClampNeg) hrel
    have hb2 := hbd τ μ1 hR
    exact lg_6 hlt S hX hbl hbA hi1 hi2 h1 h2 ht ho ⟨by omega, by omega⟩ X hl (fun ad kc sv sa va H locs ls X hl => back ad kc sv sa va τ μ1 H locs ls _ _ hR (by omega) (by omega) X hl)
  · refine lv_tableIn (off := 378) (tgt := 417) hx hb dL_law_39 (by rw [hsw]; decide) (by rw [hsw]; decide) (by rw [hsw]; decide) (by decide) ?_
    obtain ⟨kx, rm, τ, μ1, h1, h2, ht, ho, hR, hk1, hk2⟩ := s7 σ μ (xs (nI (3 * j) + 1).toNatClampNeg) (xs (nI (3 * j) + 2).toNatClampNeg) hrel
    have hb2 := hbd τ μ1 hR
    exact lg_7 hlt S hX hbl hbA hi1 hi2 h1 h2 ht ho ⟨by omega, by omega⟩ X hl (fun ad kc sv sa va H locs ls X hl => back ad kc sv sa va τ μ1 H locs ls _ _ hR (by omega) (by omega) X hl)
  · refine lv_tableIn (off := 446) (tgt := 485) hx hb dL_law_39 (by rw [hsw]; decide) (by rw [hsw]; decide) (by rw [hsw]; decide) (by decide) ?_
    obtain ⟨kx, rm, τ, μ1, h1, h2, ht, ho, hR, hk1, hk2⟩ := s8 σ μ (xs (nI (3 * j) + 1).toNatClampNeg) (xs (nI (3 * j) + 2).toNatClampNeg) hrel
    have hb2 := hbd τ μ1 hR
    exact lg_8 hlt S hX hbl hbA hi1 hi2 h1 h2 ht ho ⟨by omega, by omega⟩ X hl (fun ad kc sv sa va H locs ls X hl => back ad kc sv sa va τ μ1 H locs ls _ _ hR (by omega) (by omega) X hl)
  · refine lv_tableIn (off := 521) (tgt := 560) hx hb dL_law_39 (by rw [hsw]; decide) (by rw [hsw]; decide) (by rw [hsw]; decide) (by decide) ?_
    obtain ⟨kx, rm, τ, μ1, h1, h2, ht, ho, hR, hk1, hk2⟩ := s9 σ μ (xs (nI (3 * j) + 1).toNatClampNeg) (xs (nI (3 * j) + 2).toNatClampNeg) hrel
    have hb2 := hbd τ μ1 hR
    exact lg_9 hlt S hX hbl hbA hi1 hi2 h1 h2 ht ho ⟨by omega, by omega⟩ X hl (fun ad kc sv sa va H locs ls X hl => back ad kc sv sa va τ μ1 H locs ls _ _ hR (by omega) (by omega) X hl)
  · refine lv_tableIn (off := 589) (tgt := 628) hx hb dL_law_39 (by rw [hsw]; decide) (by rw [hsw]; decide) (by rw [hsw]; decide) (by decide) ?_
    obtain ⟨kx, rm, τ, μ1, h1, h2, ht, ho, hR, hk1, hk2⟩ := s10 σ μ (xs (nI (3 * j) + 1).toNatClampNeg) (xs (nI (3 * j) + 2).toNatClampNeg) hrel
    have hb2 := hbd τ μ1 hR
    exact lg_10 hlt S hX hbl hbA hi1 hi2 h1 h2 ht ho ⟨by omega, by omega⟩ X hl (fun ad kc sv sa va H locs ls X hl => back ad kc sv sa va τ μ1 H locs ls _ _ hR (by omega) (by omega) X hl)
  · refine lv_tableIn (off := 673) (tgt := 712) hx hb dL_law_39 (by rw [hsw]; decide) (by rw [hsw]; decide) (by rw [hsw]; decide) (by decide) ?_
    obtain ⟨kx, rm, τ, μ1, h1, h2, ht, ho, hR, hk1, hk2⟩ := s11 σ μ (xs (nI (3 * j) + 1).toNatClampNeg) hrel
    have hb2 := hbd τ μ1 hR
    exact lg_11 hlt S hX hbl hbA hi1 hi2 h1 h2 ht ho ⟨by omega, by omega⟩ X hl (fun ad kc sv sa va H locs ls X hl => back ad kc sv sa va τ μ1 H locs ls _ _ hR (by omega) (by omega) X hl)
  · refine lv_tableIn (off := 729) (tgt := 768) hx hb dL_law_39 (by rw [hsw]; decide) (by rw [hsw]; decide) (by rw [hsw]; decide) (by decide) ?_
    obtain ⟨kx, rm, τ, μ1, h1, h2, ht, ho, hR, hk1, hk2⟩ := s12 σ μ (xs (nI (3 * j) + 1).toNatClampNeg) hrel
    have hb2 := hbd τ μ1 hR
    exact lg_12 hlt S hX hbl hbA hi1 hi2 h1 h2 ht ho ⟨by omega, by omega⟩ X hl (fun ad kc sv sa va H locs ls X hl => back ad kc sv sa va τ μ1 H locs ls _ _ hR (by omega) (by omega) X hl)
  · refine lv_tableIn (off := 785) (tgt := 824) hx hb dL_law_39 (by rw [hsw]; decide) (by rw [hsw]; decide) (by rw [hsw]; decide) (by decide) ?_
    obtain ⟨kx, rm, τ, μ1, h1, h2, ht, ho, hR, hk1, hk2⟩ := s13 σ μ (xs (nI (3 * j) + 1).toNatClampNeg) hrel
    have hb2 := hbd τ μ1 hR
    exact lg_13 hlt S hX hbl hbA hi1 hi2 h1 h2 ht ho ⟨by omega, by omega⟩ X hl (fun ad kc sv sa va H locs ls X hl => back ad kc sv sa va τ μ1 H locs ls _ _ hR (by omega) (by omega) X hl)
  · refine lv_tableIn (off := 841) (tgt := 880) hx hb dL_law_39 (by rw [hsw]; decide) (by rw [hsw]; decide) (by rw [hsw]; decide) (by decide) ?_
    obtain ⟨kx, rm, τ, μ1, h1, h2, ht, ho, hR, hk1, hk2⟩ := s14 σ μ (xs (nI (3 * j) + 1).toNatClampNeg) hrel
    have hb2 := hbd τ μ1 hR
    exact lg_14 hlt S hX hbl hbA hi1 hi2 h1 h2 ht ho ⟨by omega, by omega⟩ X hl (fun ad kc sv sa va H locs ls X hl => back ad kc sv sa va τ μ1 H locs ls _ _ hR (by omega) (by omega) X hl)
set_option maxHeartbeats 4000000 in
/-- the law's loop, from any turn on -/
theorem law_head {p : Program} {l : Launch} {e : Env} {s : State} {m : MethodId} {below : List Frame} {meth : Method} {c : Code} {dC : Nat → ClassId} {dI : Nat → Nat → Nat} {A : Nat → Prop} {ak am : Nat → Nat} {km : Nat → ClassId} {x q9 b L : Nat} {xs : Nat → Int32} {Rel : S5 → S5 → Prop} (hst : LawStep Rel) (hbd : LawRoom Rel) (hlt : l.stackTraces = false) (S : CallFix p m c cL_law 7 s #[Value.ref b] uG RL) (hr : meth.sig.returnType = ret) (hlocks : meth.locks = false) (hX : va_X b L xs s s.heap) (hbl : b < s.heap.size) (hAe : A = fun q : Nat => s.heap.size ≤ q) (hL : L ≤ 1536) : ∀ (n j : Nat), L ≤ 3 * j + 3 * n → 3 * j ≤ 1539 → ∀ (ad : Nat → Nat) (kc : Nat → ClassId) (sv : Value) (sa va : Nat) (σ μ : S5) (H : Heap) (locs : List Loc) (ls : Array Slot) (cells slots : Nat), Rel σ μ → cells ≤ 200 + (j) + ka σ → slots ≤ 2000000 + 6 * (j) + sl σ → gL (dC, dI) x q9 ad kc sv sa va σ am km μ ak A s H locs → lv_has ls 7 [(0, .ref b), (1, .ref x), (2, .ref (am 0)), (3, .ref q9), (4, .int (nI (3 * j)))] → W p l e room_1 s m #[Value.ref b] below meth c H locs cells slots (lw_Z below #[Value.ref b] s) (F0 m 23 ls []) := by
  intro n
  induction n with
  | zero => intro j h1 h2; exact law_once hst hbd hlt S hr hlocks hX hbl hAe hL (by omega) (fun h => absurd h (by omega))
  | succ n ih => intro j h1 h2; exact law_once hst hbd hlt S hr hlocks hX hbl hAe hL (by omega) (fun h => ih (j + 1) (by omega) (by omega))

