


/-- a system's state as numbers: ints, longs, int rows, long rows, and what else counts (places, lengths) -/
abbrev S5 : Type := (Nat → Int32) × (Nat → Int64) × (Nat → Nat → Int32) × (Nat → Nat → Int64) × (Nat → Nat)
def gI (σ : S5) (k : Nat) : Int32 := σ.1 k
def gJ (σ : S5) (k : Nat) : Int64 := σ.2.1 k
def gA (σ : S5) (k : Nat) : Nat → Int32 := σ.2.2.1 k
def gB (σ : S5) (k : Nat) : Nat → Int64 := σ.2.2.2.1 k
def gN (σ : S5) (k : Nat) : Nat := σ.2.2.2.2 k
def xA (σ : S5) (k : Nat) (i : Int32) : Int32 := σ.2.2.1 k i.toNatClampNeg
def xB (σ : S5) (k : Nat) (i : Int32) : Int64 := σ.2.2.2.1 k i.toNatClampNeg
def pI (σ : S5) (k : Nat) (v : Int32) : S5 := (fun j => cond (Nat.beq j k) v (σ.1 j), σ.2)
def pJ (σ : S5) (k : Nat) (v : Int64) : S5 := (σ.1, fun j => cond (Nat.beq j k) v (σ.2.1 j), σ.2.2)
def pA (σ : S5) (k : Nat) (i v : Int32) : S5 := (σ.1, σ.2.1, fun j => cond (Nat.beq j k) (upd (σ.2.2.1 j) i.toNatClampNeg v) (σ.2.2.1 j), σ.2.2.2)
def pN (σ : S5) (k v : Nat) : S5 := (σ.1, σ.2.1, σ.2.2.1, σ.2.2.2.1, fun j => cond (Nat.beq j k) v (σ.2.2.2.2 j))
def pB (σ : S5) (k : Nat) (i : Int32) (v : Int64) : S5 := (σ.1, σ.2.1, σ.2.2.1, fun j => cond (Nat.beq j k) (vp_updL (σ.2.2.2.1 j) i.toNatClampNeg v) (σ.2.2.2.1 j), σ.2.2.2.2)
/-- a guard: the place lies in its row -/
def gd {β : Type} (i : Int32) (n : Nat) (x : Option β) : Option β := if i < 0 ∨ n ≤ i.toNatClampNeg then none else x
theorem gd_some {β : Type} {i : Int32} {n : Nat} {x : Option β} {b : β} (h : gd i n x = some b) : vp_in i n ∧ x = some b := by
  unfold gd at h
  by_cases hc : i < 0 ∨ n ≤ i.toNatClampNeg
  · rw [if_pos hc] at h; cases h
  · rw [if_neg hc] at h; exact ⟨hc, h⟩
/-- a guard: a divisor isn't 0 -/
def gz {β : Type} (y : Int32) (x : Option β) : Option β := if y = 0 then none else x
theorem gz_some {β : Type} {y : Int32} {x : Option β} {b : β} (h : gz y x = some b) : ¬ y = 0 ∧ x = some b := by
  unfold gz at h
  by_cases hc : y = 0
  · rw [if_pos hc] at h; cases h
  · rw [if_neg hc] at h; exact ⟨hc, h⟩
/-- a guard: a truth value -/
def g_t {β : Type} (y : Int32) (x : Option β) : Option β := if y = 0 ∨ y = 1 then x else none
theorem g_t_some {β : Type} {y : Int32} {x : Option β} {b : β} (h : g_t y x = some b) : (y = 0 ∨ y = 1) ∧ x = some b := by
  unfold g_t at h
  by_cases hc : y = 0 ∨ y = 1
  · rw [if_pos hc] at h
    exact ⟨hc, h⟩
  · rw [if_neg hc] at h; cases h
/-- one behind the other -/
def bd {α β : Type} (x : Option (α × S5)) (f : α → S5 → Option β) : Option β := match x with
  | none => none
  | some q => f q.1 q.2
theorem bd_some {α β : Type} {x : Option (α × S5)} {f : α → S5 → Option β} {b : β} (h : bd x f = some b) : ∃ (a : α) (τ : S5), x = some (a, τ) ∧ f a τ = some b := by
  cases x with
  | none => cases h
  | some q => exact ⟨q.1, q.2, rfl, h⟩
theorem fin_some {α : Type} {v r : α} {σ τ : S5} (h : (some (v, σ) : Option (α × S5)) = some (r, τ)) : v = r ∧ σ = τ := Prod.mk.inj (Option.some.inj h)
/-- a guard: a number is what it must be -/
def gq {β : Type} (i n : Nat) (x : Option β) : Option β := if i = n then x else none
theorem gq_some {β : Type} {i n : Nat} {x : Option β} {b : β} (h : gq i n x = some b) : i = n ∧ x = some b := by
  unfold gq at h
  by_cases hc : i = n
  · rw [if_pos hc] at h; exact ⟨hc, h⟩
  · rw [if_neg hc] at h; cases h
/-- a guard: a text's number -/
def gs {β : Type} (i n : Nat) (x : Option β) : Option β := if i < n then x else none
theorem gs_some {β : Type} {i n : Nat} {x : Option β} {b : β} (h : gs i n x = some b) : i < n ∧ x = some b := by
  unfold gs at h
  by_cases hc : i < n
  · rw [if_pos hc] at h; exact ⟨hc, h⟩
  · rw [if_neg hc] at h; cases h
/-- a guard: a sign -/
def gc {β : Type} (y : Int32) (x : Option β) : Option β := if (y.toUInt32 % 65536).toInt32 = y then x else none
theorem gc_some {β : Type} {y : Int32} {x : Option β} {b : β} (h : gc y x = some b) : narrow .char (.int y) = .int y ∧ x = some b := by
  unfold gc at h
  by_cases hc : (y.toUInt32 % 65536).toInt32 = y
  · rw [if_pos hc] at h
    exact ⟨congrArg Value.int hc, h⟩
  · rw [if_neg hc] at h; cases h
def j_iushr (x y : Int32) : Int32 := (x.toUInt32 >>> (y.toUInt32 &&& Int32.toUInt32 31)).toInt32
def j_lushr (x : Int64) (y : Int32) : Int64 := (x.toUInt64 >>> (y.toInt64.toUInt64 &&& Int64.toUInt64 63)).toInt64
def j_lshl (x : Int64) (y : Int32) : Int64 := x <<< (y.toInt64 &&& 63)
def j_lshr (x : Int64) (y : Int32) : Int64 := x >>> (y.toInt64 &&& 63)
theorem lk_ne {x v : Int32} {a : Int} (h : ¬ x = v) (hv : v.toInt = a) : (a = x.toInt) = False := eq_false (fun q => h (Int32.toInt_inj.mp (q.symm.trans hv.symm)))
/-- turns enough for every loop -/
def FU : Nat := 2 ^ 40
/-- what stands in the heap beside the system and is never written (texts, static rows) -/
abbrev ZZ : Type := (Nat → Prop) → State → Heap → Prop
def Zok (Z : ZZ) : Prop := ∀ (A B : Nat → Prop) (U U1 : State) (H H1 : Heap), Z A U H → (U.WarmedH U1.vm ∨ U1.vm = U.vm) → (∀ a : Nat, a < H.size → ¬ A a → H1[a]? = H[a]?) → (∀ q, B q → A q) → Z B U1 H1
/-- the machine's heap holds the state σ -/
def gX (D : va_G) (tys : List (ClassId × FieldType)) (w : S5 → va_W) (Z : ZZ) (A : Nat → Prop) (s : State) (σ : S5) (H : Heap) (locs : List Loc) : Prop :=
  va_K D vwCl tys s ∧ va_P D vwCl (w σ) H ∧ va_D A (w σ) ∧ va_S A s.heap H locs ∧ (∀ q : Nat, s.heap.size ≤ q → A q) ∧ Z A s s.heap ∧ Zok Z
def gPc (D : va_G) (tys : List (ClassId × FieldType)) (w : S5 → va_W) (Z : ZZ) (av : List Value) (σ : S5) (sz : Nat) : Array Value → State → Prop :=
  va_Pc av (fun U => U.heap.size = sz ∧ va_P D vwCl (w σ) U.heap ∧ va_K D vwCl tys U ∧ va_D (fun _ => True) (w σ) ∧ Z (va_A (w σ) sz) U U.heap ∧ Zok Z)
def gQi (D : va_G) (tys : List (ClassId × FieldType)) (w : S5 → va_W) (A : Nat → Prop) (r : Int32) (σ : S5) : Array Value → State → Outcome → State → Prop :=
  va_Qi (S := Unit) (fun r' _ => r' = r) (fun _ u => va_P D vwCl (w σ) u.heap ∧ va_K D vwCl tys u ∧ va_D A (w σ)) A
def gQl (D : va_G) (tys : List (ClassId × FieldType)) (w : S5 → va_W) (A : Nat → Prop) (r : Int64) (σ : S5) : Array Value → State → Outcome → State → Prop :=
  va_Ql (S := Unit) (fun r' _ => r' = r) (fun _ u => va_P D vwCl (w σ) u.heap ∧ va_K D vwCl tys u ∧ va_D A (w σ)) A
def gQv (D : va_G) (tys : List (ClassId × FieldType)) (w : S5 → va_W) (A : Nat → Prop) (_ : Unit) (σ : S5) : Array Value → State → Outcome → State → Prop :=
  va_Qv (S := Unit) (fun _ => True) (fun _ u => va_P D vwCl (w σ) u.heap ∧ va_K D vwCl tys u ∧ va_D A (w σ)) A
section SEM0
variable {p : Program} {l : Launch} {e : Env} {R : Room} {s : State} {m : MethodId} {args : Array Value} {below : List Frame} {meth : Method} {c : Code} {H : Heap} {locs : List Loc} {Q : State → Prop}
variable {cc : ByteArray} {nL pc : Nat} {own : String} {ls : Array Slot} {rest : List Value} {D : va_G} {tys : List (ClassId × FieldType)} {w : S5 → va_W} {Z : ZZ} {A : Nat → Prop} {σ : S5}
theorem gr_i {r : Int32} (S : CallFix p m c cc nL s args uG own) (hr : meth.sig.returnType = some .int) (hk : meth.locks = false) (X : gX D tys w Z A s σ H locs) (hd : decode cc pc = .ok (.ireturn, 1)) : W p l e R s m args below meth c H locs 0 0 (MQ below (gQi D tys w A r σ) args s 0 0 A) (F0 m pc ls [.int r]) :=
  W.iret (v := r) S.1 S.2.1 hr (fun u hu hW => ⟨⟨r, (), rfl, rfl, by rw [hu]; exact X.2.1, va_K.moved hW.alike X.1, X.2.2.1⟩, X.2.2.2.1.F hu⟩) X.2.2.2.1.2.2 hd hk
theorem gr_z {r : Int32} (S : CallFix p m c cc nL s args uG own) (hr : meth.sig.returnType = some .boolean) (hk : meth.locks = false) (X : gX D tys w Z A s σ H locs) (hn : r = 0 ∨ r = 1) (hd : decode cc pc = .ok (.ireturn, 1)) : W p l e R s m args below meth c H locs 0 0 (MQ below (gQi D tys w A r σ) args s 0 0 A) (F0 m pc ls [.int r]) :=
  W.zret (v := r) S.1 S.2.1 hr (by rcases hn with rfl | rfl <;> rfl) (fun u hu hW => ⟨⟨r, (), rfl, rfl, by rw [hu]; exact X.2.1, va_K.moved hW.alike X.1, X.2.2.1⟩, X.2.2.2.1.F hu⟩) X.2.2.2.1.2.2 hd hk
theorem gr_c {r : Int32} (S : CallFix p m c cc nL s args uG own) (hr : meth.sig.returnType = some .char) (hk : meth.locks = false) (X : gX D tys w Z A s σ H locs) (hn : narrow .char (.int r) = .int r) (hd : decode cc pc = .ok (.ireturn, 1)) : W p l e R s m args below meth c H locs 0 0 (MQ below (gQi D tys w A r σ) args s 0 0 A) (F0 m pc ls [.int r]) :=
  W.zret (v := r) S.1 S.2.1 hr hn (fun u hu hW => ⟨⟨r, (), rfl, rfl, by rw [hu]; exact X.2.1, va_K.moved hW.alike X.1, X.2.2.1⟩, X.2.2.2.1.F hu⟩) X.2.2.2.1.2.2 hd hk
theorem gr_b {r : Int32} (S : CallFix p m c cc nL s args uG own) (hr : meth.sig.returnType = some .byte) (hk : meth.locks = false) (X : gX D tys w Z A s σ H locs) (hn : narrow .byte (.int r) = .int r) (hd : decode cc pc = .ok (.ireturn, 1)) : W p l e R s m args below meth c H locs 0 0 (MQ below (gQi D tys w A r σ) args s 0 0 A) (F0 m pc ls [.int r]) :=
  W.zret (v := r) S.1 S.2.1 hr hn (fun u hu hW => ⟨⟨r, (), rfl, rfl, by rw [hu]; exact X.2.1, va_K.moved hW.alike X.1, X.2.2.1⟩, X.2.2.2.1.F hu⟩) X.2.2.2.1.2.2 hd hk
theorem gr_l {r : Int64} (S : CallFix p m c cc nL s args uG own) (hr : meth.sig.returnType = some .long) (hk : meth.locks = false) (X : gX D tys w Z A s σ H locs) (hd : decode cc pc = .ok (.lreturn, 1)) : W p l e R s m args below meth c H locs 0 0 (MQ below (gQl D tys w A r σ) args s 0 0 A) (F0 m pc ls [.long r]) :=
  W.lret (v := r) S.1 S.2.1 hr (fun u hu hW => ⟨⟨r, (), rfl, rfl, by rw [hu]; exact X.2.1, va_K.moved hW.alike X.1, X.2.2.1⟩, X.2.2.2.1.F hu⟩) X.2.2.2.1.2.2 hd hk
theorem gr_v {r : Unit} (S : CallFix p m c cc nL s args uG own) (hr : meth.sig.returnType = none) (hk : meth.locks = false) (X : gX D tys w Z A s σ H locs) (hd : decode cc pc = .ok (.return_, 1)) : W p l e R s m args below meth c H locs 0 0 (MQ below (gQv D tys w A r σ) args s 0 0 A) (F0 m pc ls []) :=
  W.vret S.1 S.2.1 hr (fun u hu hW => ⟨⟨(), rfl, trivial, by rw [hu]; exact X.2.1, va_K.moved hW.alike X.1, X.2.2.1⟩, X.2.2.2.1.F hu⟩) X.2.2.2.1.2.2 hd hk
theorem g_start {y : MethodName} {fr lo sz : Nat} {ret : Option FieldType} {av : List Value} {Qc : Array Value → State → Outcome → State → Prop} (hy : plainName y.cls = true) (hle : (lg_sl av).length ≤ nL)
    (body : ∀ (p : Program) (e : Env) (s : State) (m : MethodId) (below : List Frame) (meth : Method) (c : Code) (ls : Array Slot), CallFix p m c cc nL s av.toArray uG y.cls → meth.sig.returnType = ret → meth.locks = false → gX D tys w Z (va_A (w σ) sz) s σ s.heap [] → lv_has ls nL (lv_args 0 av) → W p l e { frames := fr, cells := 0, slots := 0, locals := lo } s m av.toArray below meth c s.heap [] 0 0 (MQ below Qc av.toArray s 0 0 (va_A (w σ) sz)) (F0 m 0 ls [])) :
    Met l y (Cond.code y cc nL ret :: uG) { frames := fr, cells := 0, slots := 0, locals := lo } (gPc D tys w Z av σ sz) Qc 0 0 (va_A (w σ) sz) := by
  refine Met.ofW (cc := cc) (maxL := nL) (ret := ret) hy rfl ?_
  intro pG eV s m args below meth c s₁ B hml hv
  obtain ⟨rfl, hsz, hP, hK, hD0, hZ, hZk⟩ := hv
  have hts := atoms_spec (ws := Cond.code y cc nL ret :: uG) B.pre
  have hu := fun (w : Cond) (h : w ∈ uG) => hts w (List.mem_cons_of_mem _ h)
  have hown : s.vm.findClass y.cls = some m.cls := findClass_of_methodNamed B.named
  subst hsz
  rw [lg_entry_eq]
  exact body pG eV s m below meth c _ ⟨B.exec, B.bytes, hml, hown, hu⟩ B.returns B.notSynchronized ⟨hK, hP, hD0.self, va_S.rf, fun q h => Or.inr h, hZ, hZk⟩ (lv_entry av hle)
/-- the words of a callee -/
def CWV (y : MethodName) (bytes : ByteArray) (maxL : Nat) (ret : Option FieldType) (C : String) (n : Nat) : Prop :=
  Cond.code y bytes maxL ret ∈ uG ∧ Cond.instanceMethod y ∈ uG ∧ Cond.selects C y y ∈ uG ∧ Cond.initialized C ∈ uG ∧ (y.cls = C ∧ y.cls ≠ "java/lang/invoke/MethodHandle" ∧ y.cls ≠ "java/lang/invoke/VarHandle" ∧ (parseMethodDescriptor y.desc).map (fun d => d.parameters.length) = some n)
def CWS (y : MethodName) (bytes : ByteArray) (maxL : Nat) (ret : Option FieldType) (C : String) (n : Nat) : Prop :=
  Cond.code y bytes maxL ret ∈ uG ∧ Cond.static y ∈ uG ∧ Cond.initialized C ∈ uG ∧ (y.cls = C ∧ y.cls ≠ "java/lang/invoke/MethodHandle" ∧ y.cls ≠ "java/lang/invoke/VarHandle" ∧ (parseMethodDescriptor y.desc).map (fun d => d.parameters.length) = some n)
theorem gX_free (X : gX D tys w Z A s σ H locs) : ∀ q, va_A (w σ) H.size q → A q := by
  intro q h
  rcases h with ⟨k, e, h⟩ | h
  · exact X.2.2.1.2 k (q, e) h
  · exact X.2.2.2.2.1 q (Nat.le_trans X.2.2.2.1.1 h)
theorem gX_Z {U : State} (X : gX D tys w Z A s σ H locs) (hU : U.heap = H) (hvm : s.WarmedH U.vm) : Z (va_A (w σ) H.size) U U.heap := by
  refine X.2.2.2.2.2.2 A _ s U s.heap U.heap X.2.2.2.2.2.1 (Or.inl hvm) (fun a h1 h2 => ?_) (gX_free X)
  rw [hU]
  exact X.2.2.2.1.2.1 a h1 h2
theorem gX_next {τ : S5} {H1 : Heap} {locs1 : List Loc} {u : State} (X : gX D tys w Z A s σ H locs) (hu : u.heap = H1) (hB : va_P D vwCl (w τ) u.heap ∧ va_K D vwCl tys u ∧ va_D (va_A (w σ) H.size) (w τ)) (hS : va_S A s.heap H1 locs1) : gX D tys w Z A s τ H1 locs1 :=
  ⟨X.1, by rw [← hu]; exact hB.1, hB.2.2.weaken (fun _ _ _ h => gX_free X _ h), hS, X.2.2.2.2⟩
theorem g_blind {av : List Value} {sz : Nat} : FrameBlind (gPc D tys w Z av σ sz) := fun a U g mk q => by
  obtain ⟨q0, q1, qP, qK, qD, qZ, qk⟩ := q
  exact ⟨q0, q1, qP, va_K.moved (u := U) (U := U.calling g mk a) (Vm.Alike.refl U.vm) qK, qD, qk _ _ U (U.calling g mk a) _ _ qZ (Or.inr rfl) (fun _ _ _ => rfl) (fun _ h => h), qk⟩
section CALLV
variable {y : MethodName} {bytes : ByteArray} {maxL fr lo n idx b q0 ci : Nat} {ret : Option FieldType} {C : String} {As stk : List Value} {τ : S5} {cl : vw_C} {fs : List Value}
theorem gc_Vi {r : Int32} (S : CallFix p m c cc nL s args uG own) (X : gX D tys w Z A s σ H locs) (hM : Met l y (Cond.code y bytes maxL ret :: uG) { frames := fr, cells := 0, slots := 0, locals := lo } (gPc D tys w Z (.ref b :: As) σ H.size) (gQi D tys w (va_A (w σ) H.size) r τ) 0 0 (va_A (w σ) H.size)) (cw : CWV y bytes maxL ret C n) (hlk : Cond.methodLink own idx y ∈ uG)
    (hn : As.length = n) (hci : vwCl[ci]? = some cl) (hcl : cl.1 = C) (hrc : (w σ)[q0]? = some (b, .inr (ci, fs))) (hs : stk = As.reverse ++ .ref b :: rest) (hl : ls.size = nL) (hcat : (rest.map fun v => v.category).sum ≤ 8) (hd : decode cc pc = .ok (.invokevirtual idx, 3)) (hR : fr + 1 ≤ R.frames ∧ 8 + (maxL + 11) + lo ≤ R.locals)
    (kk : ∀ (H1 : Heap) (locs1 : List Loc), gX D tys w Z A s τ H1 locs1 → W p l e R s m args below meth c H1 locs1 0 0 Q (F0 m (pc + 3) ls (.int r :: rest))) : W p l e R s m args below meth c H locs 0 0 Q (F0 m pc ls stk) := by
  obtain ⟨h0, h2, h3, h4, hy⟩ := cw
  subst hcl
  refine va_calli (va_runV (As := As) (rest := rest) S hM (cwV n S.2.2.2.2 (uG_V (fun _ h => h) h0 hlk h2 h3 h4) rfl rfl rfl hy hR) ⟨g_blind, va_recv X.1 X.2.1 hci hrc, fun U hU hW => ⟨rfl, by rw [hU], by rw [hU]; exact X.2.1, va_K.moved hW.alike X.1, X.2.2.1.weaken (fun _ _ _ _ => trivial), gX_Z X hU hW, X.2.2.2.2.2.2⟩⟩ rfl hn hl hs (lv_room hcat) hd ⟨Nat.zero_le _, Nat.zero_le _⟩) X.2.2.2.1 (fun q _ h => gX_free X q h) (gX_free X) ?_
  intro r1 u1 t1 H1 locs1 ht hvm hp hB hz hk hS
  obtain rfl : r1 = r := hp
  exact kk H1 locs1 (gX_next X ht hB hS)
theorem gc_Vl {r : Int64} (S : CallFix p m c cc nL s args uG own) (X : gX D tys w Z A s σ H locs) (hM : Met l y (Cond.code y bytes maxL ret :: uG) { frames := fr, cells := 0, slots := 0, locals := lo } (gPc D tys w Z (.ref b :: As) σ H.size) (gQl D tys w (va_A (w σ) H.size) r τ) 0 0 (va_A (w σ) H.size)) (cw : CWV y bytes maxL ret C n) (hlk : Cond.methodLink own idx y ∈ uG)
    (hn : As.length = n) (hci : vwCl[ci]? = some cl) (hcl : cl.1 = C) (hrc : (w σ)[q0]? = some (b, .inr (ci, fs))) (hs : stk = As.reverse ++ .ref b :: rest) (hl : ls.size = nL) (hcat : (rest.map fun v => v.category).sum ≤ 8) (hd : decode cc pc = .ok (.invokevirtual idx, 3)) (hR : fr + 1 ≤ R.frames ∧ 8 + (maxL + 11) + lo ≤ R.locals)
    (kk : ∀ (H1 : Heap) (locs1 : List Loc), gX D tys w Z A s τ H1 locs1 → W p l e R s m args below meth c H1 locs1 0 0 Q (F0 m (pc + 3) ls (.long r :: rest))) : W p l e R s m args below meth c H locs 0 0 Q (F0 m pc ls stk) := by
  obtain ⟨h0, h2, h3, h4, hy⟩ := cw
  subst hcl
  refine va_calll (va_runV (As := As) (rest := rest) S hM (cwV n S.2.2.2.2 (uG_V (fun _ h => h) h0 hlk h2 h3 h4) rfl rfl rfl hy hR) ⟨g_blind, va_recv X.1 X.2.1 hci hrc, fun U hU hW => ⟨rfl, by rw [hU], by rw [hU]; exact X.2.1, va_K.moved hW.alike X.1, X.2.2.1.weaken (fun _ _ _ _ => trivial), gX_Z X hU hW, X.2.2.2.2.2.2⟩⟩ rfl hn hl hs (lv_room hcat) hd ⟨Nat.zero_le _, Nat.zero_le _⟩) X.2.2.2.1 (fun q _ h => gX_free X q h) (gX_free X) ?_
  intro r1 u1 t1 H1 locs1 ht hvm hp hB hz hk hS
  obtain rfl : r1 = r := hp
  exact kk H1 locs1 (gX_next X ht hB hS)
theorem gc_Vv {r : Unit} (S : CallFix p m c cc nL s args uG own) (X : gX D tys w Z A s σ H locs) (hM : Met l y (Cond.code y bytes maxL ret :: uG) { frames := fr, cells := 0, slots := 0, locals := lo } (gPc D tys w Z (.ref b :: As) σ H.size) (gQv D tys w (va_A (w σ) H.size) r τ) 0 0 (va_A (w σ) H.size)) (cw : CWV y bytes maxL ret C n) (hlk : Cond.methodLink own idx y ∈ uG)
    (hn : As.length = n) (hci : vwCl[ci]? = some cl) (hcl : cl.1 = C) (hrc : (w σ)[q0]? = some (b, .inr (ci, fs))) (hs : stk = As.reverse ++ .ref b :: rest) (hl : ls.size = nL) (hcat : (rest.map fun v => v.category).sum ≤ 8) (hd : decode cc pc = .ok (.invokevirtual idx, 3)) (hR : fr + 1 ≤ R.frames ∧ 8 + (maxL + 11) + lo ≤ R.locals)
    (kk : ∀ (H1 : Heap) (locs1 : List Loc), gX D tys w Z A s τ H1 locs1 → W p l e R s m args below meth c H1 locs1 0 0 Q (F0 m (pc + 3) ls (rest))) : W p l e R s m args below meth c H locs 0 0 Q (F0 m pc ls stk) := by
  obtain ⟨h0, h2, h3, h4, hy⟩ := cw
  subst hcl
  refine va_callv (va_runV (As := As) (rest := rest) S hM (cwV n S.2.2.2.2 (uG_V (fun _ h => h) h0 hlk h2 h3 h4) rfl rfl rfl hy hR) ⟨g_blind, va_recv X.1 X.2.1 hci hrc, fun U hU hW => ⟨rfl, by rw [hU], by rw [hU]; exact X.2.1, va_K.moved hW.alike X.1, X.2.2.1.weaken (fun _ _ _ _ => trivial), gX_Z X hU hW, X.2.2.2.2.2.2⟩⟩ rfl hn hl hs (lv_room hcat) hd ⟨Nat.zero_le _, Nat.zero_le _⟩) X.2.2.2.1 (fun q _ h => gX_free X q h) (gX_free X) ?_
  intro u1 t1 H1 locs1 ht hvm hp hB hz hk hS
  exact kk H1 locs1 (gX_next X ht hB hS)
theorem gc_Wi {r : Int32} (S : CallFix p m c cc nL s args uG own) (X : gX D tys w Z A s σ H locs) (hM : Met l y (Cond.code y bytes maxL ret :: uG) { frames := fr, cells := 0, slots := 0, locals := lo } (gPc D tys w Z (.ref b :: As) σ H.size) (gQi D tys w (va_A (w σ) H.size) r τ) 0 0 (va_A (w σ) H.size)) (cw : CWV y bytes maxL ret C n) (hlk : Cond.methodLink own idx y ∈ uG)
    (hn : As.length = n) (hrc : ∃ cell : Cell, H[b]? = some cell ∧ cell.vm.isStatics = false ∧ s.vm.findClass C = some cell.cls) (hs : stk = As.reverse ++ .ref b :: rest) (hl : ls.size = nL) (hcat : (rest.map fun v => v.category).sum ≤ 8) (hd : decode cc pc = .ok (.invokevirtual idx, 3)) (hR : fr + 1 ≤ R.frames ∧ 8 + (maxL + 11) + lo ≤ R.locals)
    (kk : ∀ (H1 : Heap) (locs1 : List Loc), gX D tys w Z A s τ H1 locs1 → W p l e R s m args below meth c H1 locs1 0 0 Q (F0 m (pc + 3) ls (.int r :: rest))) : W p l e R s m args below meth c H locs 0 0 Q (F0 m pc ls stk) := by
  obtain ⟨h0, h2, h3, h4, hy⟩ := cw
  refine va_calli (va_runV (As := As) (rest := rest) S hM (cwV n S.2.2.2.2 (uG_V (fun _ h => h) h0 hlk h2 h3 h4) rfl rfl rfl hy hR) ⟨g_blind, hrc, fun U hU hW => ⟨rfl, by rw [hU], by rw [hU]; exact X.2.1, va_K.moved hW.alike X.1, X.2.2.1.weaken (fun _ _ _ _ => trivial), gX_Z X hU hW, X.2.2.2.2.2.2⟩⟩ rfl hn hl hs (lv_room hcat) hd ⟨Nat.zero_le _, Nat.zero_le _⟩) X.2.2.2.1 (fun q _ h => gX_free X q h) (gX_free X) ?_
  intro r1 u1 t1 H1 locs1 ht hvm hp hB hz hk hS
  obtain rfl : r1 = r := hp
  exact kk H1 locs1 (gX_next X ht hB hS)
theorem gc_Si {r : Int32} (S : CallFix p m c cc nL s args uG own) (X : gX D tys w Z A s σ H locs) (hM : Met l y (Cond.code y bytes maxL ret :: uG) { frames := fr, cells := 0, slots := 0, locals := lo } (gPc D tys w Z As σ H.size) (gQi D tys w (va_A (w σ) H.size) r τ) 0 0 (va_A (w σ) H.size)) (cw : CWS y bytes maxL ret own n) (hlk : Cond.methodLink own idx y ∈ uG)
    (hn : As.length = n) (hs : stk = As.reverse ++ rest) (hl : ls.size = nL) (hcat : (rest.map fun v => v.category).sum ≤ 8) (hd : decode cc pc = .ok (.invokestatic idx, 3)) (hR : fr + 1 ≤ R.frames ∧ 8 + (maxL + 11) + lo ≤ R.locals)
    (kk : ∀ (H1 : Heap) (locs1 : List Loc), gX D tys w Z A s τ H1 locs1 → W p l e R s m args below meth c H1 locs1 0 0 Q (F0 m (pc + 3) ls (.int r :: rest))) : W p l e R s m args below meth c H locs 0 0 Q (F0 m pc ls stk) := by
  obtain ⟨h0, h2, h4, hy⟩ := cw
  refine va_calli (va_runS (As := As) (rest := rest) S hM (cwS n S.2.2.2.2 (uG_S (fun _ h => h) h0 hlk h2 h4) rfl rfl rfl hy hR) ⟨g_blind, fun U hU hW => ⟨rfl, by rw [hU], by rw [hU]; exact X.2.1, va_K.moved hW.alike X.1, X.2.2.1.weaken (fun _ _ _ _ => trivial), gX_Z X hU hW, X.2.2.2.2.2.2⟩⟩ rfl hn hl hs (lv_room hcat) hd ⟨Nat.zero_le _, Nat.zero_le _⟩) X.2.2.2.1 (fun q _ h => gX_free X q h) (gX_free X) ?_
  intro r1 u1 t1 H1 locs1 ht hvm hp hB hz hk hS
  obtain rfl : r1 = r := hp
  exact kk H1 locs1 (gX_next X ht hB hS)
theorem gc_Ti {r : Int32} (S : CallFix p m c cc nL s args uG own) (X : gX D tys w Z A s σ H locs) (hM : Met l y (Cond.code y bytes maxL ret :: uG) { frames := fr, cells := 0, slots := 0, locals := lo } (gPc D tys w Z As σ H.size) (gQi D tys w (va_A (w σ) H.size) r τ) 0 0 (va_A (w σ) H.size)) (cw : CWS y bytes maxL ret C n) (hlk : Cond.methodLink own idx y ∈ uG)
    (hn : As.length = n) (hs : stk = As.reverse ++ rest) (hl : ls.size = nL) (hcat : (rest.map fun v => v.category).sum ≤ 8) (hd : decode cc pc = .ok (.invokestatic idx, 3)) (hR : fr + 1 ≤ R.frames ∧ 8 + (maxL + 11) + lo ≤ R.locals)
    (kk : ∀ (H1 : Heap) (locs1 : List Loc), gX D tys w Z A s τ H1 locs1 → W p l e R s m args below meth c H1 locs1 0 0 Q (F0 m (pc + 3) ls (.int r :: rest))) : W p l e R s m args below meth c H locs 0 0 Q (F0 m pc ls stk) := by
  obtain ⟨h0, h2, h4, hy⟩ := cw
  refine va_calli (va_runS (As := As) (rest := rest) S hM (va_cwS n S.2.2.2.2 (uG_T (fun _ h => h) h0 hlk h2 (by rw [hy.1]; exact h4)) rfl rfl rfl hy.2 hR) ⟨g_blind, fun U hU hW => ⟨rfl, by rw [hU], by rw [hU]; exact X.2.1, va_K.moved hW.alike X.1, X.2.2.1.weaken (fun _ _ _ _ => trivial), gX_Z X hU hW, X.2.2.2.2.2.2⟩⟩ rfl hn hl hs (lv_room hcat) hd ⟨Nat.zero_le _, Nat.zero_le _⟩) X.2.2.2.1 (fun q _ h => gX_free X q h) (gX_free X) ?_
  intro r1 u1 t1 H1 locs1 ht hvm hp hB hz hk hS
  obtain rfl : r1 = r := hp
  exact kk H1 locs1 (gX_next X ht hB hS)
theorem gc_Sl {r : Int64} (S : CallFix p m c cc nL s args uG own) (X : gX D tys w Z A s σ H locs) (hM : Met l y (Cond.code y bytes maxL ret :: uG) { frames := fr, cells := 0, slots := 0, locals := lo } (gPc D tys w Z As σ H.size) (gQl D tys w (va_A (w σ) H.size) r τ) 0 0 (va_A (w σ) H.size)) (cw : CWS y bytes maxL ret own n) (hlk : Cond.methodLink own idx y ∈ uG)
    (hn : As.length = n) (hs : stk = As.reverse ++ rest) (hl : ls.size = nL) (hcat : (rest.map fun v => v.category).sum ≤ 8) (hd : decode cc pc = .ok (.invokestatic idx, 3)) (hR : fr + 1 ≤ R.frames ∧ 8 + (maxL + 11) + lo ≤ R.locals)
    (kk : ∀ (H1 : Heap) (locs1 : List Loc), gX D tys w Z A s τ H1 locs1 → W p l e R s m args below meth c H1 locs1 0 0 Q (F0 m (pc + 3) ls (.long r :: rest))) : W p l e R s m args below meth c H locs 0 0 Q (F0 m pc ls stk) := by
  obtain ⟨h0, h2, h4, hy⟩ := cw
  refine va_calll (va_runS (As := As) (rest := rest) S hM (cwS n S.2.2.2.2 (uG_S (fun _ h => h) h0 hlk h2 h4) rfl rfl rfl hy hR) ⟨g_blind, fun U hU hW => ⟨rfl, by rw [hU], by rw [hU]; exact X.2.1, va_K.moved hW.alike X.1, X.2.2.1.weaken (fun _ _ _ _ => trivial), gX_Z X hU hW, X.2.2.2.2.2.2⟩⟩ rfl hn hl hs (lv_room hcat) hd ⟨Nat.zero_le _, Nat.zero_le _⟩) X.2.2.2.1 (fun q _ h => gX_free X q h) (gX_free X) ?_
  intro r1 u1 t1 H1 locs1 ht hvm hp hB hz hk hS
  obtain rfl : r1 = r := hp
  exact kk H1 locs1 (gX_next X ht hB hS)
theorem gc_Tl {r : Int64} (S : CallFix p m c cc nL s args uG own) (X : gX D tys w Z A s σ H locs) (hM : Met l y (Cond.code y bytes maxL ret :: uG) { frames := fr, cells := 0, slots := 0, locals := lo } (gPc D tys w Z As σ H.size) (gQl D tys w (va_A (w σ) H.size) r τ) 0 0 (va_A (w σ) H.size)) (cw : CWS y bytes maxL ret C n) (hlk : Cond.methodLink own idx y ∈ uG)
    (hn : As.length = n) (hs : stk = As.reverse ++ rest) (hl : ls.size = nL) (hcat : (rest.map fun v => v.category).sum ≤ 8) (hd : decode cc pc = .ok (.invokestatic idx, 3)) (hR : fr + 1 ≤ R.frames ∧ 8 + (maxL + 11) + lo ≤ R.locals)
    (kk : ∀ (H1 : Heap) (locs1 : List Loc), gX D tys w Z A s τ H1 locs1 → W p l e R s m args below meth c H1 locs1 0 0 Q (F0 m (pc + 3) ls (.long r :: rest))) : W p l e R s m args below meth c H locs 0 0 Q (F0 m pc ls stk) := by
  obtain ⟨h0, h2, h4, hy⟩ := cw
  refine va_calll (va_runS (As := As) (rest := rest) S hM (va_cwS n S.2.2.2.2 (uG_T (fun _ h => h) h0 hlk h2 (by rw [hy.1]; exact h4)) rfl rfl rfl hy.2 hR) ⟨g_blind, fun U hU hW => ⟨rfl, by rw [hU], by rw [hU]; exact X.2.1, va_K.moved hW.alike X.1, X.2.2.1.weaken (fun _ _ _ _ => trivial), gX_Z X hU hW, X.2.2.2.2.2.2⟩⟩ rfl hn hl hs (lv_room hcat) hd ⟨Nat.zero_le _, Nat.zero_le _⟩) X.2.2.2.1 (fun q _ h => gX_free X q h) (gX_free X) ?_
  intro r1 u1 t1 H1 locs1 ht hvm hp hB hz hk hS
  obtain rfl : r1 = r := hp
  exact kk H1 locs1 (gX_next X ht hB hS)
theorem gc_Sv {r : Unit} (S : CallFix p m c cc nL s args uG own) (X : gX D tys w Z A s σ H locs) (hM : Met l y (Cond.code y bytes maxL ret :: uG) { frames := fr, cells := 0, slots := 0, locals := lo } (gPc D tys w Z As σ H.size) (gQv D tys w (va_A (w σ) H.size) r τ) 0 0 (va_A (w σ) H.size)) (cw : CWS y bytes maxL ret own n) (hlk : Cond.methodLink own idx y ∈ uG)
    (hn : As.length = n) (hs : stk = As.reverse ++ rest) (hl : ls.size = nL) (hcat : (rest.map fun v => v.category).sum ≤ 8) (hd : decode cc pc = .ok (.invokestatic idx, 3)) (hR : fr + 1 ≤ R.frames ∧ 8 + (maxL + 11) + lo ≤ R.locals)
    (kk : ∀ (H1 : Heap) (locs1 : List Loc), gX D tys w Z A s τ H1 locs1 → W p l e R s m args below meth c H1 locs1 0 0 Q (F0 m (pc + 3) ls (rest))) : W p l e R s m args below meth c H locs 0 0 Q (F0 m pc ls stk) := by
  obtain ⟨h0, h2, h4, hy⟩ := cw
  refine va_callv (va_runS (As := As) (rest := rest) S hM (cwS n S.2.2.2.2 (uG_S (fun _ h => h) h0 hlk h2 h4) rfl rfl rfl hy hR) ⟨g_blind, fun U hU hW => ⟨rfl, by rw [hU], by rw [hU]; exact X.2.1, va_K.moved hW.alike X.1, X.2.2.1.weaken (fun _ _ _ _ => trivial), gX_Z X hU hW, X.2.2.2.2.2.2⟩⟩ rfl hn hl hs (lv_room hcat) hd ⟨Nat.zero_le _, Nat.zero_le _⟩) X.2.2.2.1 (fun q _ h => gX_free X q h) (gX_free X) ?_
  intro u1 t1 H1 locs1 ht hvm hp hB hz hk hS
  exact kk H1 locs1 (gX_next X ht hB hS)
theorem gc_Tv {r : Unit} (S : CallFix p m c cc nL s args uG own) (X : gX D tys w Z A s σ H locs) (hM : Met l y (Cond.code y bytes maxL ret :: uG) { frames := fr, cells := 0, slots := 0, locals := lo } (gPc D tys w Z As σ H.size) (gQv D tys w (va_A (w σ) H.size) r τ) 0 0 (va_A (w σ) H.size)) (cw : CWS y bytes maxL ret C n) (hlk : Cond.methodLink own idx y ∈ uG)
    (hn : As.length = n) (hs : stk = As.reverse ++ rest) (hl : ls.size = nL) (hcat : (rest.map fun v => v.category).sum ≤ 8) (hd : decode cc pc = .ok (.invokestatic idx, 3)) (hR : fr + 1 ≤ R.frames ∧ 8 + (maxL + 11) + lo ≤ R.locals)
    (kk : ∀ (H1 : Heap) (locs1 : List Loc), gX D tys w Z A s τ H1 locs1 → W p l e R s m args below meth c H1 locs1 0 0 Q (F0 m (pc + 3) ls (rest))) : W p l e R s m args below meth c H locs 0 0 Q (F0 m pc ls stk) := by
  obtain ⟨h0, h2, h4, hy⟩ := cw
  refine va_callv (va_runS (As := As) (rest := rest) S hM (va_cwS n S.2.2.2.2 (uG_T (fun _ h => h) h0 hlk h2 (by rw [hy.1]; exact h4)) rfl rfl rfl hy.2 hR) ⟨g_blind, fun U hU hW => ⟨rfl, by rw [hU], by rw [hU]; exact X.2.1, va_K.moved hW.alike X.1, X.2.2.1.weaken (fun _ _ _ _ => trivial), gX_Z X hU hW, X.2.2.2.2.2.2⟩⟩ rfl hn hl hs (lv_room hcat) hd ⟨Nat.zero_le _, Nat.zero_le _⟩) X.2.2.2.1 (fun q _ h => gX_free X q h) (gX_free X) ?_
  intro u1 t1 H1 locs1 ht hvm hp hB hz hk hS
  exact kk H1 locs1 (gX_next X ht hB hS)
end CALLV
end SEM0
def sN : Nat := 16
def sLen : List Nat := [17, 5, 3, 2, 4, 3, 4, 2, 2, 5, 5, 2, 4, 4, 2, 4]
def sByt : List (List Int32) := [[40, 41, 123, 125, 61, 59, 44, 92, 46, 95, 43, 45, 42, 47, 37, 60, 124], [100, 97, 116, 97, 32], [32, 124, 32], [59, 10], [109, 97, 105, 110], [32, 61, 32], [102, 97, 105, 108], [61, 61], [60, 61], [99, 97, 115, 101, 32], [32, 111, 102, 32, 123], [59, 32], [32, 45, 62, 32], [108, 101, 116, 32], [44, 32], [32, 105, 110, 32]]
def sLanes : List Int64 := [(-6148914691236517206), (-3689348814741910324), (-1085102592571150096), (-71777214294589696), (-281470681808896), (-4294967296)]
def zC (ak : Nat → Nat) : ZZ := fun A U H =>
  vk_S sN sLen sByt (fun i => ak (2 * i)) (fun i => ak (2 * i + 1)) A U H ∧ va_Z "java/lang/String" "COMPACT_STRINGS" "Z" (.int 1) A U H ∧ va_Z "LazyForge$Demand" "LANE_BITS" "[J" (.ref (ak 100)) A U H ∧ va_T .long (ak 100) 6 (fun j => .long (sLanes.getD j 0)) A U H ∧ va_Zq "jdk/internal/util/Preconditions" "SIOOBE_FORMATTER" "Ljava/util/function/BiFunction;" A U H
  ∧ vk_R RX10 87 "(){}=;,\\._+-*/%<|" (ak 0) U ∧ vk_R RX7 65 "data " (ak 2) U ∧ vk_R RX7 67 " | " (ak 4) U ∧ vk_R RX7 60 ";\n" (ak 6) U ∧ vk_R RX7 86 "main" (ak 8) U ∧ vk_R RX7 48 " = " (ak 10) U ∧ vk_R RX7 95 "fail" (ak 12) U ∧ vk_R RX7 126 "==" (ak 14) U ∧ vk_R RX7 128 "<=" (ak 16) U ∧ vk_R RX7 109 "case " (ak 18) U ∧ vk_R RX7 111 " of {" (ak 20) U ∧ vk_R RX7 132 "; " (ak 22) U ∧ vk_R RX7 137 " -> " (ak 24) U ∧ vk_R RX7 116 "let " (ak 26) U ∧ vk_R RX7 130 ", " (ak 28) U ∧ vk_R RX7 121 " in " (ak 30) U
theorem vk_R.both {own tx : String} {k a : Nat} {s U : State} (h : vk_R own k tx a s) (hv : s.WarmedH U.vm ∨ U.vm = s.vm) : vk_R own k tx a U := hv.elim (fun q => h.warm q) (fun q => h.same q)
theorem wm_alike {s U : State} (h : s.WarmedH U.vm ∨ U.vm = s.vm) : s.vm.Alike U.vm := h.elim (fun q => q.alike) (fun q => by rw [q]; exact Vm.Alike.refl _)
theorem zC_ok (ak : Nat → Nat) : Zok (zC ak) := by
  intro A B U U1 H H1 h hv hk hAB
  have ha := wm_alike hv
  obtain ⟨h1, h2, h3, h4, h5, r0, r1, r2, r3, r4, r5, r6, r7, r8, r9, r10, r11, r12, r13, r14, r15⟩ := h
  exact ⟨((h1.moved ha).kept hk).narrow hAB, ((h2.moved ha).kept hk).narrow hAB, ((h3.moved ha).kept hk).narrow hAB, ((h4.moved ha).kept hk).narrow hAB, ((h5.moved ha).kept hk).narrow hAB, r0.both hv, r1.both hv, r2.both hv, r3.both hv, r4.both hv, r5.both hv, r6.both hv, r7.both hv, r8.both hv, r9.both hv, r10.both hv, r11.both hv, r12.both hv, r13.both hv, r14.both hv, r15.both hv⟩
theorem zR_0 {D : va_G} {tys : List (ClassId × FieldType)} {w : S5 → va_W} {ak : Nat → Nat} {A : Nat → Prop} {s : State} {σ : S5} {H : Heap} {locs : List Loc} (X : gX D tys w (zC ak) A s σ H locs) : vk_R RX10 87 "(){}=;,\\._+-*/%<|" (ak 0) s := X.2.2.2.2.2.1.2.2.2.2.2.1
theorem zR_1 {D : va_G} {tys : List (ClassId × FieldType)} {w : S5 → va_W} {ak : Nat → Nat} {A : Nat → Prop} {s : State} {σ : S5} {H : Heap} {locs : List Loc} (X : gX D tys w (zC ak) A s σ H locs) : vk_R RX7 65 "data " (ak 2) s := X.2.2.2.2.2.1.2.2.2.2.2.2.1
theorem zR_2 {D : va_G} {tys : List (ClassId × FieldType)} {w : S5 → va_W} {ak : Nat → Nat} {A : Nat → Prop} {s : State} {σ : S5} {H : Heap} {locs : List Loc} (X : gX D tys w (zC ak) A s σ H locs) : vk_R RX7 67 " | " (ak 4) s := X.2.2.2.2.2.1.2.2.2.2.2.2.2.1
theorem zR_3 {D : va_G} {tys : List (ClassId × FieldType)} {w : S5 → va_W} {ak : Nat → Nat} {A : Nat → Prop} {s : State} {σ : S5} {H : Heap} {locs : List Loc} (X : gX D tys w (zC ak) A s σ H locs) : vk_R RX7 60 ";\n" (ak 6) s := X.2.2.2.2.2.1.2.2.2.2.2.2.2.2.1
theorem zR_4 {D : va_G} {tys : List (ClassId × FieldType)} {w : S5 → va_W} {ak : Nat → Nat} {A : Nat → Prop} {s : State} {σ : S5} {H : Heap} {locs : List Loc} (X : gX D tys w (zC ak) A s σ H locs) : vk_R RX7 86 "main" (ak 8) s := X.2.2.2.2.2.1.2.2.2.2.2.2.2.2.2.1
theorem zR_5 {D : va_G} {tys : List (ClassId × FieldType)} {w : S5 → va_W} {ak : Nat → Nat} {A : Nat → Prop} {s : State} {σ : S5} {H : Heap} {locs : List Loc} (X : gX D tys w (zC ak) A s σ H locs) : vk_R RX7 48 " = " (ak 10) s := X.2.2.2.2.2.1.2.2.2.2.2.2.2.2.2.2.1
theorem zR_6 {D : va_G} {tys : List (ClassId × FieldType)} {w : S5 → va_W} {ak : Nat → Nat} {A : Nat → Prop} {s : State} {σ : S5} {H : Heap} {locs : List Loc} (X : gX D tys w (zC ak) A s σ H locs) : vk_R RX7 95 "fail" (ak 12) s := X.2.2.2.2.2.1.2.2.2.2.2.2.2.2.2.2.2.1
theorem zR_7 {D : va_G} {tys : List (ClassId × FieldType)} {w : S5 → va_W} {ak : Nat → Nat} {A : Nat → Prop} {s : State} {σ : S5} {H : Heap} {locs : List Loc} (X : gX D tys w (zC ak) A s σ H locs) : vk_R RX7 126 "==" (ak 14) s := X.2.2.2.2.2.1.2.2.2.2.2.2.2.2.2.2.2.2.1
theorem zR_8 {D : va_G} {tys : List (ClassId × FieldType)} {w : S5 → va_W} {ak : Nat → Nat} {A : Nat → Prop} {s : State} {σ : S5} {H : Heap} {locs : List Loc} (X : gX D tys w (zC ak) A s σ H locs) : vk_R RX7 128 "<=" (ak 16) s := X.2.2.2.2.2.1.2.2.2.2.2.2.2.2.2.2.2.2.2.1
theorem zR_9 {D : va_G} {tys : List (ClassId × FieldType)} {w : S5 → va_W} {ak : Nat → Nat} {A : Nat → Prop} {s : State} {σ : S5} {H : Heap} {locs : List Loc} (X : gX D tys w (zC ak) A s σ H locs) : vk_R RX7 109 "case " (ak 18) s := X.2.2.2.2.2.1.2.2.2.2.2.2.2.2.2.2.2.2.2.2.1
theorem zR_10 {D : va_G} {tys : List (ClassId × FieldType)} {w : S5 → va_W} {ak : Nat → Nat} {A : Nat → Prop} {s : State} {σ : S5} {H : Heap} {locs : List Loc} (X : gX D tys w (zC ak) A s σ H locs) : vk_R RX7 111 " of {" (ak 20) s := X.2.2.2.2.2.1.2.2.2.2.2.2.2.2.2.2.2.2.2.2.2.1
theorem zR_11 {D : va_G} {tys : List (ClassId × FieldType)} {w : S5 → va_W} {ak : Nat → Nat} {A : Nat → Prop} {s : State} {σ : S5} {H : Heap} {locs : List Loc} (X : gX D tys w (zC ak) A s σ H locs) : vk_R RX7 132 "; " (ak 22) s := X.2.2.2.2.2.1.2.2.2.2.2.2.2.2.2.2.2.2.2.2.2.2.1
theorem zR_12 {D : va_G} {tys : List (ClassId × FieldType)} {w : S5 → va_W} {ak : Nat → Nat} {A : Nat → Prop} {s : State} {σ : S5} {H : Heap} {locs : List Loc} (X : gX D tys w (zC ak) A s σ H locs) : vk_R RX7 137 " -> " (ak 24) s := X.2.2.2.2.2.1.2.2.2.2.2.2.2.2.2.2.2.2.2.2.2.2.2.1
theorem zR_13 {D : va_G} {tys : List (ClassId × FieldType)} {w : S5 → va_W} {ak : Nat → Nat} {A : Nat → Prop} {s : State} {σ : S5} {H : Heap} {locs : List Loc} (X : gX D tys w (zC ak) A s σ H locs) : vk_R RX7 116 "let " (ak 26) s := X.2.2.2.2.2.1.2.2.2.2.2.2.2.2.2.2.2.2.2.2.2.2.2.2.1
theorem zR_14 {D : va_G} {tys : List (ClassId × FieldType)} {w : S5 → va_W} {ak : Nat → Nat} {A : Nat → Prop} {s : State} {σ : S5} {H : Heap} {locs : List Loc} (X : gX D tys w (zC ak) A s σ H locs) : vk_R RX7 130 ", " (ak 28) s := X.2.2.2.2.2.1.2.2.2.2.2.2.2.2.2.2.2.2.2.2.2.2.2.2.2.1
theorem zR_15 {D : va_G} {tys : List (ClassId × FieldType)} {w : S5 → va_W} {ak : Nat → Nat} {A : Nat → Prop} {s : State} {σ : S5} {H : Heap} {locs : List Loc} (X : gX D tys w (zC ak) A s σ H locs) : vk_R RX7 121 " in " (ak 30) s := X.2.2.2.2.2.1.2.2.2.2.2.2.2.2.2.2.2.2.2.2.2.2.2.2.2.2

