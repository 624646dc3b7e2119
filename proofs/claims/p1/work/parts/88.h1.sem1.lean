


/-- what the rows that were made longer have cost -/
def ka (σ : S5) : Nat := gN σ 1 / 512 + gN σ 3 / 512
def sl (σ : S5) : Nat := 2 * gN σ 1 + 2 * gN σ 3
theorem ka_mono {σ τ : S5} (h1 : gN σ 1 ≤ gN τ 1) (h3 : gN σ 3 ≤ gN τ 3) : ka σ ≤ ka τ ∧ sl σ ≤ sl τ := by
  unfold ka sl
  omega
theorem ka_same {σ τ : S5} (h1 : gN τ 1 = gN σ 1) (h3 : gN τ 3 = gN σ 3) : ka τ = ka σ ∧ sl τ = sl σ := by
  unfold ka sl
  rw [h1, h3]
  exact ⟨rfl, rfl⟩
def gle {β : Type} (i n : Nat) (x : Option β) : Option β := if i ≤ n then x else none
theorem gle_some {β : Type} {i n : Nat} {x : Option β} {b : β} (h : gle i n x = some b) : i ≤ n ∧ x = some b := by
  unfold gle at h
  by_cases hc : i ≤ n
  · rw [if_pos hc] at h; exact ⟨hc, h⟩
  · rw [if_neg hc] at h; cases h
def gQy (D : va_G) (tys : List (ClassId × FieldType)) (w : Nat → Nat → S5 → va_W) (A : Nat → Prop) (σ : S5) : Array Value → State → Outcome → State → Prop :=
  va_Qv (S := Nat × Nat) (fun _ => True) (fun q u => va_P D vwCl (w q.1 q.2 σ) u.heap ∧ va_K D vwCl tys u ∧ va_D A (w q.1 q.2 σ)) A
/-- a row of longs, twice as long -/
def grB (σ : S5) (k n : Nat) : S5 := (σ.1, σ.2.1, σ.2.2.1, fun j => cond (Nat.beq j k) (va_cpy (σ.2.2.2.1 j) (fun _ => 0) 0 0 n) (σ.2.2.2.1 j), σ.2.2.2.2)
section SEM1
variable {p : Program} {l : Launch} {e : Env} {R : Room} {s : State} {m : MethodId} {args : Array Value} {below : List Frame} {meth : Method} {c : Code} {H : Heap} {locs : List Loc} {cells slots : Nat} {Q : State → Prop}
variable {cc : ByteArray} {nL pc : Nat} {own : String} {ls : Array Slot} {rest : List Value} {D : va_G} {tys : List (ClassId × FieldType)} {Z : ZZ} {A : Nat → Prop} {σ : S5}
theorem gr_y {w : Nat → Nat → S5 → va_W} {sa va : Nat} (S : CallFix p m c cc nL s args uG own) (hr : meth.sig.returnType = none) (hk : meth.locks = false) (X : gX D tys (w sa va) Z A s σ H locs) (hd : decode cc pc = .ok (.return_, 1)) : W p l e R s m args below meth c H locs cells slots (MQ below (gQy D tys w A σ) args s cells slots A) (F0 m pc ls []) :=
  W.vret S.1 S.2.1 hr (fun u hu hW => ⟨⟨(sa, va), rfl, trivial, by rw [hu]; exact X.2.1, va_K.moved hW.alike X.1, X.2.2.1⟩, X.2.2.2.1.F hu⟩) X.2.2.2.1.2.2 hd hk
theorem gy_start {w : S5 → va_W} {y : MethodName} {fr lo sz mc ms : Nat} {ret : Option FieldType} {av : List Value} {Qc : Array Value → State → Outcome → State → Prop} (hy : plainName y.cls = true) (hle : (lg_sl av).length ≤ nL)
    (body : ∀ (p : Program) (e : Env) (s : State) (m : MethodId) (below : List Frame) (meth : Method) (c : Code) (ls : Array Slot), CallFix p m c cc nL s av.toArray uG y.cls → meth.sig.returnType = ret → meth.locks = false → gX D tys w Z (va_A (w σ) sz) s σ s.heap [] → lv_has ls nL (lv_args 0 av) → W p l e { frames := fr, cells := mc, slots := ms, locals := lo } s m av.toArray below meth c s.heap [] 0 0 (MQ below Qc av.toArray s mc ms (va_A (w σ) sz)) (F0 m 0 ls [])) :
    Met l y (Cond.code y cc nL ret :: uG) { frames := fr, cells := mc, slots := ms, locals := lo } (gPc D tys w Z av σ sz) Qc mc ms (va_A (w σ) sz) := by
  refine Met.ofW (cc := cc) (maxL := nL) (ret := ret) hy rfl ?_
  intro pG eV s m args below meth c s₁ B hml hv
  obtain ⟨rfl, hsz, hP, hK, hD0, hZ, hZk⟩ := hv
  have hts := atoms_spec (ws := Cond.code y cc nL ret :: uG) B.pre
  have hu := fun (w : Cond) (h : w ∈ uG) => hts w (List.mem_cons_of_mem _ h)
  have hown : s.vm.findClass y.cls = some m.cls := findClass_of_methodNamed B.named
  subst hsz
  rw [lg_entry_eq]
  exact body pG eV s m below meth c _ ⟨B.exec, B.bytes, hml, hown, hu⟩ B.returns B.notSynchronized ⟨hK, hP, hD0.self, va_S.rf, fun q h => Or.inr h, hZ, hZk⟩ (lv_entry av hle)
section CALLK
variable {w : S5 → va_W} {y : MethodName} {bytes : ByteArray} {maxL fr lo n idx b q0 ci : Nat} {ret : Option FieldType} {C : String} {As stk : List Value} {τ : S5} {cl : vw_C} {fs : List Value}
theorem gck_Vi {r : Int32} (S : CallFix p m c cc nL s args uG own) (X : gX D tys w Z A s σ H locs) (hM : Met l y (Cond.code y bytes maxL ret :: uG) { frames := fr, cells := 0, slots := 0, locals := lo } (gPc D tys w Z (.ref b :: As) σ H.size) (gQi D tys w (va_A (w σ) H.size) r τ) 0 0 (va_A (w σ) H.size)) (cw : CWV y bytes maxL ret C n) (hlk : Cond.methodLink own idx y ∈ uG)
    (hn : As.length = n) (hci : vwCl[ci]? = some cl) (hcl : cl.1 = C) (hrc : (w σ)[q0]? = some (b, .inr (ci, fs))) (hs : stk = As.reverse ++ .ref b :: rest) (hl : ls.size = nL) (hcat : (rest.map fun v => v.category).sum ≤ 8) (hd : decode cc pc = .ok (.invokevirtual idx, 3)) (hc : cells ≤ R.cells ∧ slots ≤ R.slots) (hR : fr + 1 ≤ R.frames ∧ 8 + (maxL + 11) + lo ≤ R.locals)
    (kk : ∀ (H1 : Heap) (locs1 : List Loc), gX D tys w Z A s τ H1 locs1 → W p l e R s m args below meth c H1 locs1 cells slots Q (F0 m (pc + 3) ls (.int r :: rest))) : W p l e R s m args below meth c H locs cells slots Q (F0 m pc ls stk) := by
  obtain ⟨h0, h2, h3, h4, hy⟩ := cw
  subst hcl
  refine va_calli (va_runV (As := As) (rest := rest) S hM (cwV n S.2.2.2.2 (uG_V (fun _ h => h) h0 hlk h2 h3 h4) rfl rfl rfl hy hR) ⟨g_blind, va_recv X.1 X.2.1 hci hrc, fun U hU hW => ⟨rfl, by rw [hU], by rw [hU]; exact X.2.1, va_K.moved hW.alike X.1, X.2.2.1.weaken (fun _ _ _ _ => trivial), gX_Z X hU hW, X.2.2.2.2.2.2⟩⟩ rfl hn hl hs (lv_room hcat) hd hc) X.2.2.2.1 (fun q _ h => gX_free X q h) (gX_free X) ?_
  intro r1 u1 t1 H1 locs1 ht hvm hp hB hz hk hS
  obtain rfl : r1 = r := hp
  exact kk H1 locs1 (gX_next X ht hB hS)
theorem gck_Vl {r : Int64} (S : CallFix p m c cc nL s args uG own) (X : gX D tys w Z A s σ H locs) (hM : Met l y (Cond.code y bytes maxL ret :: uG) { frames := fr, cells := 0, slots := 0, locals := lo } (gPc D tys w Z (.ref b :: As) σ H.size) (gQl D tys w (va_A (w σ) H.size) r τ) 0 0 (va_A (w σ) H.size)) (cw : CWV y bytes maxL ret C n) (hlk : Cond.methodLink own idx y ∈ uG)
    (hn : As.length = n) (hci : vwCl[ci]? = some cl) (hcl : cl.1 = C) (hrc : (w σ)[q0]? = some (b, .inr (ci, fs))) (hs : stk = As.reverse ++ .ref b :: rest) (hl : ls.size = nL) (hcat : (rest.map fun v => v.category).sum ≤ 8) (hd : decode cc pc = .ok (.invokevirtual idx, 3)) (hc : cells ≤ R.cells ∧ slots ≤ R.slots) (hR : fr + 1 ≤ R.frames ∧ 8 + (maxL + 11) + lo ≤ R.locals)
    (kk : ∀ (H1 : Heap) (locs1 : List Loc), gX D tys w Z A s τ H1 locs1 → W p l e R s m args below meth c H1 locs1 cells slots Q (F0 m (pc + 3) ls (.long r :: rest))) : W p l e R s m args below meth c H locs cells slots Q (F0 m pc ls stk) := by
  obtain ⟨h0, h2, h3, h4, hy⟩ := cw
  subst hcl
  refine va_calll (va_runV (As := As) (rest := rest) S hM (cwV n S.2.2.2.2 (uG_V (fun _ h => h) h0 hlk h2 h3 h4) rfl rfl rfl hy hR) ⟨g_blind, va_recv X.1 X.2.1 hci hrc, fun U hU hW => ⟨rfl, by rw [hU], by rw [hU]; exact X.2.1, va_K.moved hW.alike X.1, X.2.2.1.weaken (fun _ _ _ _ => trivial), gX_Z X hU hW, X.2.2.2.2.2.2⟩⟩ rfl hn hl hs (lv_room hcat) hd hc) X.2.2.2.1 (fun q _ h => gX_free X q h) (gX_free X) ?_
  intro r1 u1 t1 H1 locs1 ht hvm hp hB hz hk hS
  obtain rfl : r1 = r := hp
  exact kk H1 locs1 (gX_next X ht hB hS)
theorem gck_Vv {r : Unit} (S : CallFix p m c cc nL s args uG own) (X : gX D tys w Z A s σ H locs) (hM : Met l y (Cond.code y bytes maxL ret :: uG) { frames := fr, cells := 0, slots := 0, locals := lo } (gPc D tys w Z (.ref b :: As) σ H.size) (gQv D tys w (va_A (w σ) H.size) r τ) 0 0 (va_A (w σ) H.size)) (cw : CWV y bytes maxL ret C n) (hlk : Cond.methodLink own idx y ∈ uG)
    (hn : As.length = n) (hci : vwCl[ci]? = some cl) (hcl : cl.1 = C) (hrc : (w σ)[q0]? = some (b, .inr (ci, fs))) (hs : stk = As.reverse ++ .ref b :: rest) (hl : ls.size = nL) (hcat : (rest.map fun v => v.category).sum ≤ 8) (hd : decode cc pc = .ok (.invokevirtual idx, 3)) (hc : cells ≤ R.cells ∧ slots ≤ R.slots) (hR : fr + 1 ≤ R.frames ∧ 8 + (maxL + 11) + lo ≤ R.locals)
    (kk : ∀ (H1 : Heap) (locs1 : List Loc), gX D tys w Z A s τ H1 locs1 → W p l e R s m args below meth c H1 locs1 cells slots Q (F0 m (pc + 3) ls (rest))) : W p l e R s m args below meth c H locs cells slots Q (F0 m pc ls stk) := by
  obtain ⟨h0, h2, h3, h4, hy⟩ := cw
  subst hcl
  refine va_callv (va_runV (As := As) (rest := rest) S hM (cwV n S.2.2.2.2 (uG_V (fun _ h => h) h0 hlk h2 h3 h4) rfl rfl rfl hy hR) ⟨g_blind, va_recv X.1 X.2.1 hci hrc, fun U hU hW => ⟨rfl, by rw [hU], by rw [hU]; exact X.2.1, va_K.moved hW.alike X.1, X.2.2.1.weaken (fun _ _ _ _ => trivial), gX_Z X hU hW, X.2.2.2.2.2.2⟩⟩ rfl hn hl hs (lv_room hcat) hd hc) X.2.2.2.1 (fun q _ h => gX_free X q h) (gX_free X) ?_
  intro u1 t1 H1 locs1 ht hvm hp hB hz hk hS
  exact kk H1 locs1 (gX_next X ht hB hS)
theorem gck_Si {r : Int32} (S : CallFix p m c cc nL s args uG own) (X : gX D tys w Z A s σ H locs) (hM : Met l y (Cond.code y bytes maxL ret :: uG) { frames := fr, cells := 0, slots := 0, locals := lo } (gPc D tys w Z As σ H.size) (gQi D tys w (va_A (w σ) H.size) r τ) 0 0 (va_A (w σ) H.size)) (cw : CWS y bytes maxL ret own n) (hlk : Cond.methodLink own idx y ∈ uG)
    (hn : As.length = n) (hs : stk = As.reverse ++ rest) (hl : ls.size = nL) (hcat : (rest.map fun v => v.category).sum ≤ 8) (hd : decode cc pc = .ok (.invokestatic idx, 3)) (hc : cells ≤ R.cells ∧ slots ≤ R.slots) (hR : fr + 1 ≤ R.frames ∧ 8 + (maxL + 11) + lo ≤ R.locals)
    (kk : ∀ (H1 : Heap) (locs1 : List Loc), gX D tys w Z A s τ H1 locs1 → W p l e R s m args below meth c H1 locs1 cells slots Q (F0 m (pc + 3) ls (.int r :: rest))) : W p l e R s m args below meth c H locs cells slots Q (F0 m pc ls stk) := by
  obtain ⟨h0, h2, h4, hy⟩ := cw
  refine va_calli (va_runS (As := As) (rest := rest) S hM (cwS n S.2.2.2.2 (uG_S (fun _ h => h) h0 hlk h2 h4) rfl rfl rfl hy hR) ⟨g_blind, fun U hU hW => ⟨rfl, by rw [hU], by rw [hU]; exact X.2.1, va_K.moved hW.alike X.1, X.2.2.1.weaken (fun _ _ _ _ => trivial), gX_Z X hU hW, X.2.2.2.2.2.2⟩⟩ rfl hn hl hs (lv_room hcat) hd hc) X.2.2.2.1 (fun q _ h => gX_free X q h) (gX_free X) ?_
  intro r1 u1 t1 H1 locs1 ht hvm hp hB hz hk hS
  obtain rfl : r1 = r := hp
  exact kk H1 locs1 (gX_next X ht hB hS)
theorem gck_Ti {r : Int32} (S : CallFix p m c cc nL s args uG own) (X : gX D tys w Z A s σ H locs) (hM : Met l y (Cond.code y bytes maxL ret :: uG) { frames := fr, cells := 0, slots := 0, locals := lo } (gPc D tys w Z As σ H.size) (gQi D tys w (va_A (w σ) H.size) r τ) 0 0 (va_A (w σ) H.size)) (cw : CWS y bytes maxL ret C n) (hlk : Cond.methodLink own idx y ∈ uG)
    (hn : As.length = n) (hs : stk = As.reverse ++ rest) (hl : ls.size = nL) (hcat : (rest.map fun v => v.category).sum ≤ 8) (hd : decode cc pc = .ok (.invokestatic idx, 3)) (hc : cells ≤ R.cells ∧ slots ≤ R.slots) (hR : fr + 1 ≤ R.frames ∧ 8 + (maxL + 11) + lo ≤ R.locals)
    (kk : ∀ (H1 : Heap) (locs1 : List Loc), gX D tys w Z A s τ H1 locs1 → W p l e R s m args below meth c H1 locs1 cells slots Q (F0 m (pc + 3) ls (.int r :: rest))) : W p l e R s m args below meth c H locs cells slots Q (F0 m pc ls stk) := by
  obtain ⟨h0, h2, h4, hy⟩ := cw
  refine va_calli (va_runS (As := As) (rest := rest) S hM (va_cwS n S.2.2.2.2 (uG_T (fun _ h => h) h0 hlk h2 (by rw [hy.1]; exact h4)) rfl rfl rfl hy.2 hR) ⟨g_blind, fun U hU hW => ⟨rfl, by rw [hU], by rw [hU]; exact X.2.1, va_K.moved hW.alike X.1, X.2.2.1.weaken (fun _ _ _ _ => trivial), gX_Z X hU hW, X.2.2.2.2.2.2⟩⟩ rfl hn hl hs (lv_room hcat) hd hc) X.2.2.2.1 (fun q _ h => gX_free X q h) (gX_free X) ?_
  intro r1 u1 t1 H1 locs1 ht hvm hp hB hz hk hS
  obtain rfl : r1 = r := hp
  exact kk H1 locs1 (gX_next X ht hB hS)
theorem gck_Sl {r : Int64} (S : CallFix p m c cc nL s args uG own) (X : gX D tys w Z A s σ H locs) (hM : Met l y (Cond.code y bytes maxL ret :: uG) { frames := fr, cells := 0, slots := 0, locals := lo } (gPc D tys w Z As σ H.size) (gQl D tys w (va_A (w σ) H.size) r τ) 0 0 (va_A (w σ) H.size)) (cw : CWS y bytes maxL ret own n) (hlk : Cond.methodLink own idx y ∈ uG)
    (hn : As.length = n) (hs : stk = As.reverse ++ rest) (hl : ls.size = nL) (hcat : (rest.map fun v => v.category).sum ≤ 8) (hd : decode cc pc = .ok (.invokestatic idx, 3)) (hc : cells ≤ R.cells ∧ slots ≤ R.slots) (hR : fr + 1 ≤ R.frames ∧ 8 + (maxL + 11) + lo ≤ R.locals)
    (kk : ∀ (H1 : Heap) (locs1 : List Loc), gX D tys w Z A s τ H1 locs1 → W p l e R s m args below meth c H1 locs1 cells slots Q (F0 m (pc + 3) ls (.long r :: rest))) : W p l e R s m args below meth c H locs cells slots Q (F0 m pc ls stk) := by
  obtain ⟨h0, h2, h4, hy⟩ := cw
  refine va_calll (va_runS (As := As) (rest := rest) S hM (cwS n S.2.2.2.2 (uG_S (fun _ h => h) h0 hlk h2 h4) rfl rfl rfl hy hR) ⟨g_blind, fun U hU hW => ⟨rfl, by rw [hU], by rw [hU]; exact X.2.1, va_K.moved hW.alike X.1, X.2.2.1.weaken (fun _ _ _ _ => trivial), gX_Z X hU hW, X.2.2.2.2.2.2⟩⟩ rfl hn hl hs (lv_room hcat) hd hc) X.2.2.2.1 (fun q _ h => gX_free X q h) (gX_free X) ?_
  intro r1 u1 t1 H1 locs1 ht hvm hp hB hz hk hS
  obtain rfl : r1 = r := hp
  exact kk H1 locs1 (gX_next X ht hB hS)
theorem gck_Tl {r : Int64} (S : CallFix p m c cc nL s args uG own) (X : gX D tys w Z A s σ H locs) (hM : Met l y (Cond.code y bytes maxL ret :: uG) { frames := fr, cells := 0, slots := 0, locals := lo } (gPc D tys w Z As σ H.size) (gQl D tys w (va_A (w σ) H.size) r τ) 0 0 (va_A (w σ) H.size)) (cw : CWS y bytes maxL ret C n) (hlk : Cond.methodLink own idx y ∈ uG)
    (hn : As.length = n) (hs : stk = As.reverse ++ rest) (hl : ls.size = nL) (hcat : (rest.map fun v => v.category).sum ≤ 8) (hd : decode cc pc = .ok (.invokestatic idx, 3)) (hc : cells ≤ R.cells ∧ slots ≤ R.slots) (hR : fr + 1 ≤ R.frames ∧ 8 + (maxL + 11) + lo ≤ R.locals)
    (kk : ∀ (H1 : Heap) (locs1 : List Loc), gX D tys w Z A s τ H1 locs1 → W p l e R s m args below meth c H1 locs1 cells slots Q (F0 m (pc + 3) ls (.long r :: rest))) : W p l e R s m args below meth c H locs cells slots Q (F0 m pc ls stk) := by
  obtain ⟨h0, h2, h4, hy⟩ := cw
  refine va_calll (va_runS (As := As) (rest := rest) S hM (va_cwS n S.2.2.2.2 (uG_T (fun _ h => h) h0 hlk h2 (by rw [hy.1]; exact h4)) rfl rfl rfl hy.2 hR) ⟨g_blind, fun U hU hW => ⟨rfl, by rw [hU], by rw [hU]; exact X.2.1, va_K.moved hW.alike X.1, X.2.2.1.weaken (fun _ _ _ _ => trivial), gX_Z X hU hW, X.2.2.2.2.2.2⟩⟩ rfl hn hl hs (lv_room hcat) hd hc) X.2.2.2.1 (fun q _ h => gX_free X q h) (gX_free X) ?_
  intro r1 u1 t1 H1 locs1 ht hvm hp hB hz hk hS
  obtain rfl : r1 = r := hp
  exact kk H1 locs1 (gX_next X ht hB hS)
theorem gck_Sv {r : Unit} (S : CallFix p m c cc nL s args uG own) (X : gX D tys w Z A s σ H locs) (hM : Met l y (Cond.code y bytes maxL ret :: uG) { frames := fr, cells := 0, slots := 0, locals := lo } (gPc D tys w Z As σ H.size) (gQv D tys w (va_A (w σ) H.size) r τ) 0 0 (va_A (w σ) H.size)) (cw : CWS y bytes maxL ret own n) (hlk : Cond.methodLink own idx y ∈ uG)
    (hn : As.length = n) (hs : stk = As.reverse ++ rest) (hl : ls.size = nL) (hcat : (rest.map fun v => v.category).sum ≤ 8) (hd : decode cc pc = .ok (.invokestatic idx, 3)) (hc : cells ≤ R.cells ∧ slots ≤ R.slots) (hR : fr + 1 ≤ R.frames ∧ 8 + (maxL + 11) + lo ≤ R.locals)
    (kk : ∀ (H1 : Heap) (locs1 : List Loc), gX D tys w Z A s τ H1 locs1 → W p l e R s m args below meth c H1 locs1 cells slots Q (F0 m (pc + 3) ls (rest))) : W p l e R s m args below meth c H locs cells slots Q (F0 m pc ls stk) := by
  obtain ⟨h0, h2, h4, hy⟩ := cw
  refine va_callv (va_runS (As := As) (rest := rest) S hM (cwS n S.2.2.2.2 (uG_S (fun _ h => h) h0 hlk h2 h4) rfl rfl rfl hy hR) ⟨g_blind, fun U hU hW => ⟨rfl, by rw [hU], by rw [hU]; exact X.2.1, va_K.moved hW.alike X.1, X.2.2.1.weaken (fun _ _ _ _ => trivial), gX_Z X hU hW, X.2.2.2.2.2.2⟩⟩ rfl hn hl hs (lv_room hcat) hd hc) X.2.2.2.1 (fun q _ h => gX_free X q h) (gX_free X) ?_
  intro u1 t1 H1 locs1 ht hvm hp hB hz hk hS
  exact kk H1 locs1 (gX_next X ht hB hS)
theorem gck_Tv {r : Unit} (S : CallFix p m c cc nL s args uG own) (X : gX D tys w Z A s σ H locs) (hM : Met l y (Cond.code y bytes maxL ret :: uG) { frames := fr, cells := 0, slots := 0, locals := lo } (gPc D tys w Z As σ H.size) (gQv D tys w (va_A (w σ) H.size) r τ) 0 0 (va_A (w σ) H.size)) (cw : CWS y bytes maxL ret C n) (hlk : Cond.methodLink own idx y ∈ uG)
    (hn : As.length = n) (hs : stk = As.reverse ++ rest) (hl : ls.size = nL) (hcat : (rest.map fun v => v.category).sum ≤ 8) (hd : decode cc pc = .ok (.invokestatic idx, 3)) (hc : cells ≤ R.cells ∧ slots ≤ R.slots) (hR : fr + 1 ≤ R.frames ∧ 8 + (maxL + 11) + lo ≤ R.locals)
    (kk : ∀ (H1 : Heap) (locs1 : List Loc), gX D tys w Z A s τ H1 locs1 → W p l e R s m args below meth c H1 locs1 cells slots Q (F0 m (pc + 3) ls (rest))) : W p l e R s m args below meth c H locs cells slots Q (F0 m pc ls stk) := by
  obtain ⟨h0, h2, h4, hy⟩ := cw
  refine va_callv (va_runS (As := As) (rest := rest) S hM (va_cwS n S.2.2.2.2 (uG_T (fun _ h => h) h0 hlk h2 (by rw [hy.1]; exact h4)) rfl rfl rfl hy.2 hR) ⟨g_blind, fun U hU hW => ⟨rfl, by rw [hU], by rw [hU]; exact X.2.1, va_K.moved hW.alike X.1, X.2.2.1.weaken (fun _ _ _ _ => trivial), gX_Z X hU hW, X.2.2.2.2.2.2⟩⟩ rfl hn hl hs (lv_room hcat) hd hc) X.2.2.2.1 (fun q _ h => gX_free X q h) (gX_free X) ?_
  intro u1 t1 H1 locs1 ht hvm hp hB hz hk hS
  exact kk H1 locs1 (gX_next X ht hB hS)
end CALLK
section CALLY
variable {w : S5 → va_W} {y : MethodName} {bytes : ByteArray} {maxL fr lo n idx b q0 ci : Nat} {ret : Option FieldType} {C : String} {As stk : List Value} {τ : S5} {cl : vw_C} {fs : List Value}
theorem gX_nexty {w1 : S5 → va_W} {H1 : Heap} {locs1 : List Loc} {u : State} (X : gX D tys w Z A s σ H locs) (hu : u.heap = H1) (hB : va_P D vwCl (w1 τ) u.heap ∧ va_K D vwCl tys u ∧ va_D (va_A (w σ) H.size) (w1 τ)) (hS : va_S A s.heap H1 locs1) : gX D tys w1 Z A s τ H1 locs1 :=
  ⟨X.1, by rw [← hu]; exact hB.1, hB.2.2.weaken (fun _ _ _ h => gX_free X _ h), hS, X.2.2.2.2⟩
theorem gcy_V {w : Nat → Nat → S5 → va_W} {sa va mc ms : Nat} (S : CallFix p m c cc nL s args uG own) (X : gX D tys (w sa va) Z A s σ H locs) (hM : Met l y (Cond.code y bytes maxL ret :: uG) { frames := fr, cells := mc, slots := ms, locals := lo } (gPc D tys (w sa va) Z (.ref b :: As) σ H.size) (gQy D tys w (va_A (w sa va σ) H.size) τ) mc ms (va_A (w sa va σ) H.size)) (cw : CWV y bytes maxL ret C n) (hlk : Cond.methodLink own idx y ∈ uG)
    (hn : As.length = n) (hci : vwCl[ci]? = some cl) (hcl : cl.1 = C) (hrc : (w sa va σ)[q0]? = some (b, .inr (ci, fs))) (hs : stk = As.reverse ++ .ref b :: rest) (hl : ls.size = nL) (hcat : (rest.map fun v => v.category).sum ≤ 8) (hd : decode cc pc = .ok (.invokevirtual idx, 3)) (hc : cells + mc ≤ R.cells ∧ slots + ms ≤ R.slots) (hR : fr + 1 ≤ R.frames ∧ 8 + (maxL + 11) + lo ≤ R.locals)
    (kk : ∀ (sa1 va1 : Nat) (H1 : Heap) (locs1 : List Loc), gX D tys (w sa1 va1) Z A s τ H1 locs1 → W p l e R s m args below meth c H1 locs1 (cells + mc) (slots + ms) Q (F0 m (pc + 3) ls (rest))) : W p l e R s m args below meth c H locs cells slots Q (F0 m pc ls stk) := by
  obtain ⟨h0, h2, h3, h4, hy⟩ := cw
  subst hcl
  refine va_callv (va_runV (As := As) (rest := rest) S hM (cwV n S.2.2.2.2 (uG_V (fun _ h => h) h0 hlk h2 h3 h4) rfl rfl rfl hy hR) ⟨g_blind, va_recv X.1 X.2.1 hci hrc, fun U hU hW => ⟨rfl, by rw [hU], by rw [hU]; exact X.2.1, va_K.moved hW.alike X.1, X.2.2.1.weaken (fun _ _ _ _ => trivial), gX_Z X hU hW, X.2.2.2.2.2.2⟩⟩ rfl hn hl hs (lv_room hcat) hd hc) X.2.2.2.1 (fun q _ h => gX_free X q h) (gX_free X) ?_
  intro u1 t1 H1 locs1 ht hvm hp hB hz hk hS
  exact kk u1.1 u1.2 H1 locs1 (gX_nexty X ht hB hS)
end CALLY
end SEM1

