


/-- the parts of a state that the reader's side has, taken from τ, all else from σ -/
def mC (σ τ : S5) : S5 := (fun k => cond (Nat.ble k 24) (τ.1 k) (σ.1 k), fun k => cond (Nat.beq k 0) (τ.2.1 k) (σ.2.1 k), fun k => cond (Nat.ble k 30) (τ.2.2.1 k) (σ.2.2.1 k), fun k => cond (Nat.ble k 7) (τ.2.2.2.1 k) (σ.2.2.2.1 k), fun k => cond (Nat.beq k 9) (τ.2.2.2.2 k) (σ.2.2.2.2 k))
/-- likewise the machine's side -/
def mK (σ τ : S5) : S5 := (fun k => cond (Nat.ble 4 k && Nat.ble k 8 || Nat.ble 40 k && Nat.ble k 59) (τ.1 k) (σ.1 k), fun k => cond (Nat.beq k 5) (τ.2.1 k) (σ.2.1 k), fun k => cond (Nat.ble 2 k && Nat.ble k 19 || Nat.ble 40 k && Nat.ble k 49) (τ.2.2.1 k) (σ.2.2.1 k), fun k => cond (Nat.ble k 2 || Nat.ble 12 k && Nat.ble k 14) (τ.2.2.2.1 k) (σ.2.2.2.1 k), fun k => cond (Nat.beq k 1 || Nat.beq k 3) (τ.2.2.2.2 k) (σ.2.2.2.2 k))
def zF (ak : Nat → Nat) : ZZ := fun A U H => zC ak A U H ∧ uXw U ∧ uZ A U H ∧ uNc U
theorem zF_ok (ak : Nat → Nat) : Zok (zF ak) := by
  intro A B U U1 H H1 h hv hk hAB
  have ha := wm_alike hv
  exact ⟨zC_ok ak A B U U1 H H1 h.1 hv hk hAB, hv.elim (fun q => h.2.1.warm q) (fun q => uXw.same q.symm h.2.1), h.2.2.1.to ha hk hAB, uNc.moved ha h.2.2.2⟩
abbrev GG : Type := (Nat → Nat) × (Nat → ClassId) × Value × Nat × Nat
/-- which throw a number stands for -/
def cE (n : Int32) (E : String) : Prop := (E = "java/lang/IllegalArgumentException" ∧ n = 1) ∨ (E = "java/lang/UnsupportedOperationException" ∧ n = 2) ∨ (E = "java/lang/IllegalStateException" ∧ n = 3) ∨ (E = "java/lang/IndexOutOfBoundsException" ∧ n = 4)
theorem fm_of {α β : Type} {f : α → Option β} : ∀ {is : List α} {w : List β}, is.map f = w.map some → is.filterMap f = w
  | [], [], _ => rfl
  | [], _ :: _, h => by cases h
  | _ :: _, [], h => by cases h
  | i :: is, b :: w, h => by
    have h1 : f i = some b := (List.cons.inj h).1
    rw [List.filterMap_cons_some h1, fm_of (List.cons.inj h).2]
/-- a part of a world: its cells, the others, and the whole behind a change of the part -/
def gF (wb wc wb1 : va_W) (wc1 : va_W) (tb tc : List (ClassId × FieldType)) : Prop := ∃ (is js pm ts : List Nat) (wr : va_W),
  is.map (fun i => wb[i]?) = wc.map some ∧ js.map (fun i => wb[i]?) = wr.map some ∧ va_nd js = true ∧ va_nd is = true ∧ (∀ i ∈ js, i ∉ is) ∧ pm.map (fun i => (wr ++ wc1)[i]?) = wb1.map some ∧ va_nd pm = true ∧ ts.filterMap (fun i => tb[i]?) = tc
def gQx (D : va_G) (x q9 : Nat) (A : Nat → Prop) (cv : Int32 × Int32) (σ : S5) : Array Value → State → Outcome → State → Prop :=
  va_Qi (S := GG) (fun r _ => cv.1 = 0 ∧ r = cv.2) (fun γ u => va_P D vwCl (wF x q9 γ.1 γ.2.1 γ.2.2.1 γ.2.2.2.1 γ.2.2.2.2 σ) u.heap ∧ va_K D vwCl (tF γ.2.1) u ∧ va_D A (wF x q9 γ.1 γ.2.1 γ.2.2.1 γ.2.2.2.1 γ.2.2.2.2 σ)) A
def gQw (D : va_G) (x q9 : Nat) (A : Nat → Prop) (cv : Int32 × Int32) (σ : S5) : Array Value → State → Outcome → State → Prop :=
  va_Qv (S := GG) (fun _ => cv = (0, 0)) (fun γ u => va_P D vwCl (wF x q9 γ.1 γ.2.1 γ.2.2.1 γ.2.2.2.1 γ.2.2.2.2 σ) u.heap ∧ va_K D vwCl (tF γ.2.1) u ∧ va_D A (wF x q9 γ.1 γ.2.1 γ.2.2.1 γ.2.2.2.1 γ.2.2.2.2 σ)) A
section SEM3
variable {p : Program} {l : Launch} {e : Env} {R : Room} {s : State} {m : MethodId} {args : Array Value} {below : List Frame} {meth : Method} {c : Code} {H : Heap} {locs : List Loc} {cells slots mc ms : Nat} {Q : State → Prop} {XC : String → State → State → Prop}
variable {cc : ByteArray} {nL pc : Nat} {own : String} {ls : Array Slot} {rest : List Value} {D : va_G} {A : Nat → Prop} {σ : S5} {Z : ZZ} {x q9 : Nat} {ad : Nat → Nat} {kc : Nat → ClassId} {sv : Value} {sa va : Nat}
theorem grx_i {r : Int32} (S : CallFix p m c cc nL s args uG own) (hr : meth.sig.returnType = some .int) (hk : meth.locks = false) (X : gX D (tF kc) (wF x q9 ad kc sv sa va) Z A s σ H locs) (hc : cells ≤ mc) (hs : slots ≤ ms) (hd : decode cc pc = .ok (.ireturn, 1)) : W p l e R s m args below meth c H locs cells slots (vx_MQ below (gQx D x q9 A (0, r) σ) XC args s mc ms A) (F0 m pc ls [.int r]) :=
  vx_ret (W.widen hc hs (W.iret (v := r) S.1 S.2.1 hr (fun u hu hW => ⟨⟨r, (ad, kc, sv, sa, va), rfl, ⟨rfl, rfl⟩, by rw [hu]; exact X.2.1, va_K.moved hW.alike X.1, X.2.2.1⟩, X.2.2.2.1.F hu⟩) X.2.2.2.1.2.2 hd hk))
theorem grx_z {r : Int32} (S : CallFix p m c cc nL s args uG own) (hr : meth.sig.returnType = some .boolean) (hk : meth.locks = false) (X : gX D (tF kc) (wF x q9 ad kc sv sa va) Z A s σ H locs) (hn : r = 0 ∨ r = 1) (hc : cells ≤ mc) (hs : slots ≤ ms) (hd : decode cc pc = .ok (.ireturn, 1)) : W p l e R s m args below meth c H locs cells slots (vx_MQ below (gQx D x q9 A (0, r) σ) XC args s mc ms A) (F0 m pc ls [.int r]) :=
  vx_ret (W.widen hc hs (W.zret (v := r) S.1 S.2.1 hr (by rcases hn with rfl | rfl <;> rfl) (fun u hu hW => ⟨⟨r, (ad, kc, sv, sa, va), rfl, ⟨rfl, rfl⟩, by rw [hu]; exact X.2.1, va_K.moved hW.alike X.1, X.2.2.1⟩, X.2.2.2.1.F hu⟩) X.2.2.2.1.2.2 hd hk))
theorem grx_v (S : CallFix p m c cc nL s args uG own) (hr : meth.sig.returnType = none) (hk : meth.locks = false) (X : gX D (tF kc) (wF x q9 ad kc sv sa va) Z A s σ H locs) (hc : cells ≤ mc) (hs : slots ≤ ms) (hd : decode cc pc = .ok (.return_, 1)) : W p l e R s m args below meth c H locs cells slots (vx_MQ below (gQw D x q9 A (0, 0) σ) XC args s mc ms A) (F0 m pc ls []) :=
  vx_ret (W.widen hc hs (W.vret S.1 S.2.1 hr (fun u hu hW => ⟨⟨(ad, kc, sv, sa, va), rfl, rfl, by rw [hu]; exact X.2.1, va_K.moved hW.alike X.1, X.2.2.1⟩, X.2.2.2.1.F hu⟩) X.2.2.2.1.2.2 hd hk))
theorem gx_start {y : MethodName} {fr lo sz : Nat} {ret : Option FieldType} {av : List Value} {tys : List (ClassId × FieldType)} {w : S5 → va_W} {Qc : Array Value → State → Outcome → State → Prop} (hy : plainName y.cls = true) (hle : (lg_sl av).length ≤ nL)
    (body : ∀ (p : Program) (e : Env) (s : State) (m : MethodId) (below : List Frame) (meth : Method) (c : Code) (ls : Array Slot), CallFix p m c cc nL s av.toArray uG y.cls → meth.sig.returnType = ret → meth.locks = false → (∀ x ∈ c.exceptionTable.toList, False) → gX D tys w Z (va_A (w σ) sz) s σ s.heap [] → lv_has ls nL (lv_args 0 av) → W p l e { frames := fr, cells := mc, slots := ms, locals := lo } s m av.toArray below meth c s.heap [] 0 0 (vx_MQ below Qc XC av.toArray s mc ms (va_A (w σ) sz)) (F0 m 0 ls [])) :
    vx_Met l y (Cond.code y cc nL ret :: uG) { frames := fr, cells := mc, slots := ms, locals := lo } (gPc D tys w Z av σ sz) Qc XC mc ms (va_A (w σ) sz) := by
  refine vx_ofW (cc := cc) (maxL := nL) (ret := ret) hy rfl ?_
  intro pG eV s m args below meth c s₁ B hml hno hv
  obtain ⟨rfl, hsz, hP, hK, hD0, hZ, hZk⟩ := hv
  have hts := atoms_spec (ws := Cond.code y cc nL ret :: uG) B.pre
  have hu := fun (w : Cond) (h : w ∈ uG) => hts w (List.mem_cons_of_mem _ h)
  have hown : s.vm.findClass y.cls = some m.cls := findClass_of_methodNamed B.named
  subst hsz
  rw [lg_entry_eq]
  exact body pG eV s m below meth c _ ⟨B.exec, B.bytes, hml, hown, hu⟩ B.returns B.notSynchronized hno ⟨hK, hP, hD0.self, va_S.rf, fun q h => Or.inr h, hZ, hZk⟩ (lv_entry av hle)
section CALLF
variable {wb : S5 → va_W} {wc : S5 → va_W} {tb tc : List (ClassId × FieldType)} {Zc : ZZ} {y : MethodName} {bytes : ByteArray} {maxL fr lo n idx b q0 ci : Nat} {ret : Option FieldType} {C : String} {As stk : List Value} {τ ρ : S5} {cl : vw_C} {fs : List Value}
theorem gf_Vi {r : Int32} (S : CallFix p m c cc nL s args uG own) (X : gX D tb wb Z A s σ H locs) (hM : Met l y (Cond.code y bytes maxL ret :: uG) { frames := fr, cells := 0, slots := 0, locals := lo } (gPc D tc wc Zc (.ref b :: As) σ H.size) (gQi D tc wc (va_A (wc σ) H.size) r τ) 0 0 (va_A (wc σ) H.size)) (hF : gF (wb σ) (wc σ) (wb ρ) (wc τ) tb tc) (hZc : ∀ A U H, Z A U H → Zc A U H) (hZk : Zok Zc) (cw : CWV y bytes maxL ret C n) (hlk : Cond.methodLink own idx y ∈ uG)
    (hn : As.length = n) (hci : vwCl[ci]? = some cl) (hcl : cl.1 = C) (hrc : (wc σ)[q0]? = some (b, .inr (ci, fs))) (hs : stk = As.reverse ++ .ref b :: rest) (hl : ls.size = nL) (hcat : (rest.map fun v => v.category).sum ≤ 8) (hd : decode cc pc = .ok (.invokevirtual idx, 3)) (hc : cells ≤ R.cells ∧ slots ≤ R.slots) (hR : fr + 1 ≤ R.frames ∧ 8 + (maxL + 11) + lo ≤ R.locals)
    (kk : ∀ (H1 : Heap) (locs1 : List Loc), gX D tb wb Z A s ρ H1 locs1 → W p l e R s m args below meth c H1 locs1 cells slots Q (F0 m (pc + 3) ls (.int r :: rest))) : W p l e R s m args below meth c H locs cells slots Q (F0 m pc ls stk) := by
  obtain ⟨h0, h2, h3, h4, hy⟩ := cw
  subst hcl
  obtain ⟨is, js, pm, ts, wr, e1, e2, n1, n2, dj, e3, n3, e4⟩ := hF
  obtain ⟨hK, hP, hD, hS, hA, hZ, hZo⟩ := X
  have hPc := hP.sub (ws' := wc σ) is (fm_of e1)
  have hDc := hD.sub (ws' := wc σ) is n2 e1
  have hKc := hK.sub (tys' := tc) ts e4
  have hFc := va_free (wc := wc σ) hD hS hA is e1
  refine va_calli (va_runV (As := As) (rest := rest) S hM (cwV n S.2.2.2.2 (uG_V (fun _ h => h) h0 hlk h2 h3 h4) rfl rfl rfl hy hR) ⟨g_blind, va_recv hKc hPc hci hrc, fun U hU hW => ⟨rfl, by rw [hU], by rw [hU]; exact hPc, va_K.moved hW.alike hKc, hDc.weaken (fun _ _ _ _ => trivial), hZk A _ s U s.heap U.heap (hZc A s s.heap hZ) (Or.inl hW) (fun a h1 h2 => (congrArg (fun (z : Heap) => z[a]?) hU).trans (hS.2.1 a h1 h2)) hFc, hZk⟩⟩ rfl hn hl hs (lv_room hcat) hd hc) hS (fun q _ h => hFc q h) hFc ?_
  intro r1 u1 t1 H1 locs1 ht hvm hp hB hz hk hS1
  obtain rfl : r1 = r := hp
  obtain ⟨hP1, hK1, hD1⟩ := hB
  rw [ht] at hP1
  obtain ⟨hPj, hDj⟩ := va_join (wr := wr) (w1 := wc τ) hP hD is js e1 e2 n1 dj hk hFc hP1 hD1
  exact kk H1 locs1 ⟨hK, hPj.sub (ws' := wb ρ) pm (fm_of e3), hDj.sub (ws' := wb ρ) pm n3 e3, hS1, hA, hZ, hZo⟩
theorem gf_Vv {r : Unit} (S : CallFix p m c cc nL s args uG own) (X : gX D tb wb Z A s σ H locs) (hM : Met l y (Cond.code y bytes maxL ret :: uG) { frames := fr, cells := 0, slots := 0, locals := lo } (gPc D tc wc Zc (.ref b :: As) σ H.size) (gQv D tc wc (va_A (wc σ) H.size) r τ) 0 0 (va_A (wc σ) H.size)) (hF : gF (wb σ) (wc σ) (wb ρ) (wc τ) tb tc) (hZc : ∀ A U H, Z A U H → Zc A U H) (hZk : Zok Zc) (cw : CWV y bytes maxL ret C n) (hlk : Cond.methodLink own idx y ∈ uG)
    (hn : As.length = n) (hci : vwCl[ci]? = some cl) (hcl : cl.1 = C) (hrc : (wc σ)[q0]? = some (b, .inr (ci, fs))) (hs : stk = As.reverse ++ .ref b :: rest) (hl : ls.size = nL) (hcat : (rest.map fun v => v.category).sum ≤ 8) (hd : decode cc pc = .ok (.invokevirtual idx, 3)) (hc : cells ≤ R.cells ∧ slots ≤ R.slots) (hR : fr + 1 ≤ R.frames ∧ 8 + (maxL + 11) + lo ≤ R.locals)
    (kk : ∀ (H1 : Heap) (locs1 : List Loc), gX D tb wb Z A s ρ H1 locs1 → W p l e R s m args below meth c H1 locs1 cells slots Q (F0 m (pc + 3) ls (rest))) : W p l e R s m args below meth c H locs cells slots Q (F0 m pc ls stk) := by
  obtain ⟨h0, h2, h3, h4, hy⟩ := cw
  subst hcl
  obtain ⟨is, js, pm, ts, wr, e1, e2, n1, n2, dj, e3, n3, e4⟩ := hF
  obtain ⟨hK, hP, hD, hS, hA, hZ, hZo⟩ := X
  have hPc := hP.sub (ws' := wc σ) is (fm_of e1)
  have hDc := hD.sub (ws' := wc σ) is n2 e1
  have hKc := hK.sub (tys' := tc) ts e4
  have hFc := va_free (wc := wc σ) hD hS hA is e1
  refine va_callv (va_runV (As := As) (rest := rest) S hM (cwV n S.2.2.2.2 (uG_V (fun _ h => h) h0 hlk h2 h3 h4) rfl rfl rfl hy hR) ⟨g_blind, va_recv hKc hPc hci hrc, fun U hU hW => ⟨rfl, by rw [hU], by rw [hU]; exact hPc, va_K.moved hW.alike hKc, hDc.weaken (fun _ _ _ _ => trivial), hZk A _ s U s.heap U.heap (hZc A s s.heap hZ) (Or.inl hW) (fun a h1 h2 => (congrArg (fun (z : Heap) => z[a]?) hU).trans (hS.2.1 a h1 h2)) hFc, hZk⟩⟩ rfl hn hl hs (lv_room hcat) hd hc) hS (fun q _ h => hFc q h) hFc ?_
  intro u1 t1 H1 locs1 ht hvm hp hB hz hk hS1
  obtain ⟨hP1, hK1, hD1⟩ := hB
  rw [ht] at hP1
  obtain ⟨hPj, hDj⟩ := va_join (wr := wr) (w1 := wc τ) hP hD is js e1 e2 n1 dj hk hFc hP1 hD1
  exact kk H1 locs1 ⟨hK, hPj.sub (ws' := wb ρ) pm (fm_of e3), hDj.sub (ws' := wb ρ) pm n3 e3, hS1, hA, hZ, hZo⟩
theorem gfy_V {wy : Nat → Nat → S5 → va_W} {wz : Nat → Nat → S5 → va_W} {m1 m2 : Nat} (S : CallFix p m c cc nL s args uG own) (X : gX D tb (wy sa va) Z A s σ H locs) (hM : Met l y (Cond.code y bytes maxL ret :: uG) { frames := fr, cells := m1, slots := m2, locals := lo } (gPc D tc (wz sa va) Zc (.ref b :: As) σ H.size) (gQy D tc wz (va_A (wz sa va σ) H.size) τ) m1 m2 (va_A (wz sa va σ) H.size)) (hF : ∀ sa1 va1 : Nat, gF (wy sa va σ) (wz sa va σ) (wy sa1 va1 ρ) (wz sa1 va1 τ) tb tc) (hZc : ∀ A U H, Z A U H → Zc A U H) (hZk : Zok Zc) (cw : CWV y bytes maxL ret C n) (hlk : Cond.methodLink own idx y ∈ uG)
    (hn : As.length = n) (hci : vwCl[ci]? = some cl) (hcl : cl.1 = C) (hrc : (wz sa va σ)[q0]? = some (b, .inr (ci, fs))) (hs : stk = As.reverse ++ .ref b :: rest) (hl : ls.size = nL) (hcat : (rest.map fun v => v.category).sum ≤ 8) (hd : decode cc pc = .ok (.invokevirtual idx, 3)) (hc : cells + m1 ≤ R.cells ∧ slots + m2 ≤ R.slots) (hR : fr + 1 ≤ R.frames ∧ 8 + (maxL + 11) + lo ≤ R.locals)
    (kk : ∀ (sa1 va1 : Nat) (H1 : Heap) (locs1 : List Loc), gX D tb (wy sa1 va1) Z A s ρ H1 locs1 → W p l e R s m args below meth c H1 locs1 (cells + m1) (slots + m2) Q (F0 m (pc + 3) ls (rest))) : W p l e R s m args below meth c H locs cells slots Q (F0 m pc ls stk) := by
  obtain ⟨h0, h2, h3, h4, hy⟩ := cw
  subst hcl
  obtain ⟨is0, js0, pm0, ts0, wr0, e1, e2, n1, n2, dj, e30, n30, e4⟩ := hF sa va
  obtain ⟨hK, hP, hD, hS, hA, hZ, hZo⟩ := X
  have hPc := hP.sub (ws' := wz sa va σ) is0 (fm_of e1)
  have hDc := hD.sub (ws' := wz sa va σ) is0 n2 e1
  have hKc := hK.sub (tys' := tc) ts0 e4
  have hFc := va_free (wc := wz sa va σ) hD hS hA is0 e1
  refine va_callv (va_runV (As := As) (rest := rest) S hM (cwV n S.2.2.2.2 (uG_V (fun _ h => h) h0 hlk h2 h3 h4) rfl rfl rfl hy hR) ⟨g_blind, va_recv hKc hPc hci hrc, fun U hU hW => ⟨rfl, by rw [hU], by rw [hU]; exact hPc, va_K.moved hW.alike hKc, hDc.weaken (fun _ _ _ _ => trivial), hZk A _ s U s.heap U.heap (hZc A s s.heap hZ) (Or.inl hW) (fun a h1 h2 => (congrArg (fun (z : Heap) => z[a]?) hU).trans (hS.2.1 a h1 h2)) hFc, hZk⟩⟩ rfl hn hl hs (lv_room hcat) hd hc) hS (fun q _ h => hFc q h) hFc ?_
  intro u1 t1 H1 locs1 ht hvm hp hB hz hk hS1
  obtain ⟨hP1, hK1, hD1⟩ := hB
  rw [ht] at hP1
  obtain ⟨is, js, pm, ts, wr, f1, f2, o1, o2, dj2, f3, o3, f4⟩ := hF u1.1 u1.2
  obtain ⟨hPj, hDj⟩ := va_join (wr := wr) (w1 := wz u1.1 u1.2 τ) hP hD is js f1 f2 o1 dj2 hk hFc hP1 hD1
  exact kk u1.1 u1.2 H1 locs1 ⟨hK, hPj.sub (ws' := wy u1.1 u1.2 ρ) pm (fm_of f3), hDj.sub (ws' := wy u1.1 u1.2 ρ) pm o3 f3, hS1, hA, hZ, hZo⟩
end CALLF
end SEM3
set_option maxRecDepth 100000 in
set_option maxHeartbeats 4000000 in
theorem fr_C (x q9 : Nat) (ad : Nat → Nat) (kc : Nat → ClassId) (sv : Value) (sa va : Nat) (σ τ : S5) : gF (wF x q9 ad kc sv sa va σ) (wC (fun i => ad (i + 4)) (fun i => kc (i + 4)) sv σ) (wF x q9 ad kc sv sa va (mC σ τ)) (wC (fun i => ad (i + 4)) (fun i => kc (i + 4)) sv τ) (tF kc) (tC (fun i => kc (i + 4))) :=
  ⟨[4, 5, 6, 7, 8, 9, 10, 11, 12, 13, 14, 15, 16, 17, 18, 19, 20, 21, 22, 23, 24, 25, 26, 27, 28, 29, 30, 31, 32, 33, 34, 35, 36, 37, 38, 39, 40, 41, 42, 43, 44, 45, 46, 47, 48, 49, 50, 51, 52], [0, 1, 2, 3, 53, 54, 55, 56, 57, 58, 59, 60, 61], [0, 1, 2, 3, 13, 14, 15, 16, 17, 18, 19, 20, 21, 22, 23, 24, 25, 26, 27, 28, 29, 30, 31, 32, 33, 34, 35, 36, 37, 38, 39, 40, 41, 42, 43, 44, 45, 46, 47, 48, 49, 50, 51, 52, 53, 54, 55, 56, 57, 58, 59, 60, 61, 4, 5, 6, 7, 8, 9, 10, 11, 12], [2, 3, 4, 5, 6, 7, 8, 9, 10, 11, 12, 13, 14, 15, 16, 17, 18, 19, 20, 21, 22, 23, 24, 25, 26, 27, 28, 29, 30, 31, 32, 33, 34, 35, 36, 37, 38, 39, 40], [(x, .inr (14, [.ref (ad 4), .ref (ad 6), .ref (ad 9), .ref (ad 11), .ref (ad 12), .ref (ad 13), .ref (ad 53), .ref (ad 1), .ref (ad 5), .int (gI σ 60), .int (gI σ 61), .int (gI σ 62), .int (gI σ 63), .int (gI σ 64), .int (gI σ 65)])), (ad 1, .inr (11, [.ref (ad 2), .int (gI σ 66), .int (gI σ 67)])), (ad 2, .inl (kc 2, 12000, .inl (gA σ 50))), (q9, .inl (kc 3, 1, .inr (.inl (gB σ 30)))), (ad 53, .inr (6, [.ref (ad 7), .ref (ad 6), .ref (ad 55), .ref (ad 56), .ref (ad 57), .ref (ad 58), .ref (ad 54), .ref sa, .int (gI σ 40), .ref va, .int (gI σ 41), .int (gI σ 42), .int (gI σ 43), .int (gI σ 44), .long (gJ σ 5), .int (gI σ 45), .int (gI σ 46), .int (gI σ 47)])), (ad 54, .inr (3, [.ref (ad 61), .ref (ad 55)])), (ad 55, .inl (kc 55, 10, .inl (gA σ 40))), (ad 56, .inl (kc 56, 630, .inl (gA σ 41))), (ad 57, .inl (kc 57, 1000, .inl (gA σ 42))), (ad 58, .inl (kc 58, 30, .inl (gA σ 43))), (sa, .inl (kc 59, (gN σ 1), .inr (.inl (gB σ 12)))), (va, .inl (kc 60, (gN σ 3), .inr (.inl (gB σ 13)))), (ad 61, .inl (kc 61, 4000, .inr (.inl (gB σ 14))))], rfl, rfl, by decide, by decide, by decide, rfl, by decide, rfl⟩
def kM (f : Nat → Nat) : Nat → Nat := fun i => f (([53, 54, 6, 7, 55, 56, 57, 58, 59, 60, 61, 16, 17, 18, 19, 20, 21, 22, 23, 24, 25, 26, 27, 28, 29, 30, 31, 32, 33, 34, 35, 36] : List Nat).getD i 0)
def kN (f : Nat → ClassId) : Nat → ClassId := fun i => f (([53, 54, 6, 7, 55, 56, 57, 58, 59, 60, 61, 16, 17, 18, 19, 20, 21, 22, 23, 24, 25, 26, 27, 28, 29, 30, 31, 32, 33, 34, 35, 36] : List Nat).getD i 0)
set_option maxRecDepth 100000 in
set_option maxHeartbeats 4000000 in
theorem fr_K (x q9 : Nat) (ad : Nat → Nat) (kc : Nat → ClassId) (sv : Value) (sa va sa1 va1 : Nat) (σ τ : S5) : gF (wF x q9 ad kc sv sa va σ) (wK (kM ad) (kN kc) sa va σ) (wF x q9 ad kc sv sa1 va1 (mK σ τ)) (wK (kM ad) (kN kc) sa1 va1 τ) (tF kc) (tK (kN kc)) :=
  ⟨[53, 54, 6, 7, 55, 56, 57, 58, 59, 60, 61, 16, 17, 18, 19, 20, 21, 22, 23, 24, 25, 26, 27, 28, 29, 30, 31, 32, 33, 34, 35, 36], [0, 1, 2, 3, 4, 5, 8, 9, 10, 11, 12, 13, 14, 15, 37, 38, 39, 40, 41, 42, 43, 44, 45, 46, 47, 48, 49, 50, 51, 52], [0, 1, 2, 3, 4, 5, 32, 33, 6, 7, 8, 9, 10, 11, 12, 13, 41, 42, 43, 44, 45, 46, 47, 48, 49, 50, 51, 52, 53, 54, 55, 56, 57, 58, 59, 60, 61, 14, 15, 16, 17, 18, 19, 20, 21, 22, 23, 24, 25, 26, 27, 28, 29, 30, 31, 34, 35, 36, 37, 38, 39, 40], [41, 42, 43, 44, 45, 46, 47, 4, 5, 6, 7, 8, 9, 10, 11, 12, 13, 14, 15, 16, 17, 18, 19, 20, 21, 22, 23, 24], [(x, .inr (14, [.ref (ad 4), .ref (ad 6), .ref (ad 9), .ref (ad 11), .ref (ad 12), .ref (ad 13), .ref (ad 53), .ref (ad 1), .ref (ad 5), .int (gI σ 60), .int (gI σ 61), .int (gI σ 62), .int (gI σ 63), .int (gI σ 64), .int (gI σ 65)])), (ad 1, .inr (11, [.ref (ad 2), .int (gI σ 66), .int (gI σ 67)])), (ad 2, .inl (kc 2, 12000, .inl (gA σ 50))), (q9, .inl (kc 3, 1, .inr (.inl (gB σ 30)))), (ad 4, .inr (11, [.ref (ad 14), .int (gI σ 0), .int (gI σ 1)])), (ad 5, .inr (11, [.ref (ad 15), .int (gI σ 2), .int (gI σ 3)])), (ad 8, .inr (9, [.ref (ad 37), .ref (ad 38), .ref (ad 39), .ref (ad 40), .ref (ad 41), .ref (ad 42), .ref (ad 43), .ref (ad 44), .int (gI σ 9), .ref (ad 45), .ref (ad 46), .ref (ad 47), .ref (ad 48), .ref (ad 49), .int (gI σ 10)])), (ad 9, .inr (8, [.ref (ad 10), .ref (ad 7), .ref (ad 6), .ref (ad 8), .int (gI σ 11), .int (gI σ 12), .int (gI σ 13), .int (gI σ 14), .int (gI σ 15)])), (ad 10, .inr (13, [.ref (ad 4), .int (gI σ 16), .int (gI σ 17), .int (gI σ 18), .int (gI σ 19), .long (gJ σ 0)])), (ad 11, .inr (5, [.ref (ad 7), .ref (ad 6), .ref (ad 8), .int (gI σ 20), .int (gI σ 21)])), (ad 12, .inr (4, [.ref (ad 7), .ref (ad 6), .ref (ad 50), .ref (ad 51), .ref (ad 52), .int (gI σ 22), .int (gI σ 23), .int (gI σ 24)])), (ad 13, .inr (10, [.ref (ad 7), .ref (ad 6), cond (Nat.beq (gN σ 9) 1) (.ref (ad 5)) sv])), (ad 14, .inl (kc 14, 3000, .inl (gA σ 0))), (ad 15, .inl (kc 15, 12000, .inl (gA σ 1))), (ad 37, .inl (kc 37, 3500, .inr (.inl (gB σ 3)))), (ad 38, .inl (kc 38, 700, .inl (gA σ 20))), (ad 39, .inl (kc 39, 700, .inl (gA σ 21))), (ad 40, .inl (kc 40, 700, .inl (gA σ 22))), (ad 41, .inl (kc 41, 700, .inl (gA σ 23))), (ad 42, .inl (kc 42, 700, .inl (gA σ 24))), (ad 43, .inl (kc 43, 700, .inl (gA σ 25))), (ad 44, .inl (kc 44, 700, .inl (gA σ 26))), (ad 45, .inl (kc 45, 600, .inr (.inl (gB σ 4)))), (ad 46, .inl (kc 46, 600, .inl (gA σ 27))), (ad 47, .inl (kc 47, 600, .inl (gA σ 28))), (ad 48, .inl (kc 48, 600, .inl (gA σ 29))), (ad 49, .inl (kc 49, 600, .inl (gA σ 30))), (ad 50, .inl (kc 50, 2520, .inr (.inl (gB σ 5)))), (ad 51, .inl (kc 51, 40, .inr (.inl (gB σ 6)))), (ad 52, .inl (kc 52, 328, .inr (.inl (gB σ 7))))], rfl, rfl, by decide, by decide, by decide, rfl, by decide, rfl⟩

