


/-- both worlds -/
def gL (D : va_G) (x q9 : Nat) (ad : Nat → Nat) (kc : Nat → ClassId) (sv : Value) (sa va : Nat) (σ : S5) (am : Nat → Nat) (km : Nat → ClassId) (μ : S5) (ak : Nat → Nat) (A : Nat → Prop) (s : State) (H : Heap) (locs : List Loc) : Prop :=
  va_K D vwCl (tF kc ++ tM km) s ∧ va_P D vwCl (wF x q9 ad kc sv sa va σ ++ wM am km μ) H ∧ va_D A (wF x q9 ad kc sv sa va σ ++ wM am km μ) ∧ va_S A s.heap H locs ∧ (∀ q : Nat, s.heap.size ≤ q → A q) ∧ zF ak A s s.heap
theorem ap_l {D : va_G} {cl : List vw_C} {a b : va_W} {H : Heap} (h : va_P D cl (a ++ b) H) : va_P D cl a H := fun k q hk => h k q (by rw [List.getElem?_append_left (List.getElem?_eq_some_iff.mp hk).1]; exact hk)
theorem ap_r {D : va_G} {cl : List vw_C} {a b : va_W} {H : Heap} (h : va_P D cl (a ++ b) H) : va_P D cl b H := fun k q hk => h (a.length + k) q (by rw [List.getElem?_append_right (Nat.le_add_right _ _), Nat.add_sub_cancel_left]; exact hk)
theorem ad_l {A : Nat → Prop} {a b : va_W} (h : va_D A (a ++ b)) : va_D A a := by
  have e : ∀ {i : Nat} {p : Nat × va_E}, a[i]? = some p → (a ++ b)[i]? = some p := fun hi => by rw [List.getElem?_append_left (List.getElem?_eq_some_iff.mp hi).1]; exact hi
  exact ⟨fun i j p q hi hj hpq => h.1 i j p q (e hi) (e hj) hpq, fun k q hk => h.2 k q (e hk)⟩
theorem ad_r {A : Nat → Prop} {a b : va_W} (h : va_D A (a ++ b)) : va_D A b := by
  have e : ∀ {i : Nat} {p : Nat × va_E}, b[i]? = some p → (a ++ b)[a.length + i]? = some p := fun hi => by rw [List.getElem?_append_right (Nat.le_add_right _ _), Nat.add_sub_cancel_left]; exact hi
  exact ⟨fun i j p q hi hj hpq => Nat.add_left_cancel (h.1 _ _ p q (e hi) (e hj) hpq), fun k q hk => h.2 _ q (e hk)⟩
theorem ap_apart {A : Nat → Prop} {a b : va_W} (h : va_D A (a ++ b)) {i j : Nat} {p q : Nat × va_E} (hi : a[i]? = some p) (hj : b[j]? = some q) : p.1 ≠ q.1 := by
  intro e
  have e1 : (a ++ b)[i]? = some p := by rw [List.getElem?_append_left (List.getElem?_eq_some_iff.mp hi).1]; exact hi
  have e2 : (a ++ b)[a.length + j]? = some q := by rw [List.getElem?_append_right (Nat.le_add_right _ _), Nat.add_sub_cancel_left]; exact hj
  have h1 := h.1 _ _ p q e1 e2 e
  have h2 := (List.getElem?_eq_some_iff.mp hi).1
  omega
theorem ak_l {D : va_G} {cl : List vw_C} {a b : List (ClassId × FieldType)} {U : State} (h : va_K D cl (a ++ b) U) : va_K D cl a U := ⟨h.1, fun k q hk => h.2 k q (by rw [List.getElem?_append_left (List.getElem?_eq_some_iff.mp hk).1]; exact hk)⟩
theorem ak_r {D : va_G} {cl : List vw_C} {a b : List (ClassId × FieldType)} {U : State} (h : va_K D cl (a ++ b) U) : va_K D cl b U := ⟨h.1, fun k q hk => h.2 (a.length + k) q (by rw [List.getElem?_append_right (Nat.le_add_right _ _), Nat.add_sub_cancel_left]; exact hk)⟩
theorem ap_free {A : Nat → Prop} {a : va_W} {s : State} {H : Heap} {locs : List Loc} (hD : va_D A a) (hS : va_S A s.heap H locs) (hA : ∀ q : Nat, s.heap.size ≤ q → A q) : ∀ q, va_A a H.size q → A q := by
  intro q h
  rcases h with ⟨k, e, h⟩ | h
  · exact hD.2 k (q, e) h
  · exact hA q (Nat.le_trans hS.1 h)
/-- a call on the left part leaves the right one as it was -/
theorem ap_cl {D : va_G} {cl : List vw_C} {A : Nat → Prop} {a b a1 : va_W} {H H1 : Heap} (hP : va_P D cl (a ++ b) H) (hD : va_D A (a ++ b)) (hk : ∀ q : Nat, q < H.size → ¬ va_A a H.size q → H1[q]? = H[q]?) (hF : ∀ q, va_A a H.size q → A q) (hP1 : va_P D cl a1 H1) (hD1 : va_D (va_A a H.size) a1) : va_P D cl (a1 ++ b) H1 ∧ va_D A (a1 ++ b) := by
  have apart : ∀ (k : Nat) (q : Nat × va_E), b[k]? = some q → q.1 < H.size ∧ ¬ va_A a H.size q.1 := by
    intro k q hq
    have hl := (ap_r hP k q hq).lt
    refine ⟨hl, fun h => ?_⟩
    rcases h with ⟨i, e, h⟩ | h
    · exact ap_apart hD h hq rfl
    · omega
  refine ⟨va_P.app hP1 (fun k q hq => (ap_r hP k q hq).kept (hk q.1 (apart k q hq).1 (apart k q hq).2)), va_D.app (hD1.weaken (fun k q _ h => hF q.1 h)) (ad_r hD) (fun i j x y hx hy hxy => ?_)⟩
  exact (apart j y hy).2 (by rw [← hxy]; exact hD1.2 i x hx)
theorem ap_cr {D : va_G} {cl : List vw_C} {A : Nat → Prop} {a b b1 : va_W} {H H1 : Heap} (hP : va_P D cl (a ++ b) H) (hD : va_D A (a ++ b)) (hk : ∀ q : Nat, q < H.size → ¬ va_A b H.size q → H1[q]? = H[q]?) (hF : ∀ q, va_A b H.size q → A q) (hP1 : va_P D cl b1 H1) (hD1 : va_D (va_A b H.size) b1) : va_P D cl (a ++ b1) H1 ∧ va_D A (a ++ b1) := by
  have apart : ∀ (k : Nat) (q : Nat × va_E), a[k]? = some q → q.1 < H.size ∧ ¬ va_A b H.size q.1 := by
    intro k q hq
    have hl := (ap_l hP k q hq).lt
    refine ⟨hl, fun h => ?_⟩
    rcases h with ⟨i, e, h⟩ | h
    · exact ap_apart hD hq h rfl
    · omega
  refine ⟨va_P.app (fun k q hq => (ap_l hP k q hq).kept (hk q.1 (apart k q hq).1 (apart k q hq).2)) hP1, va_D.app (ad_l hD) (hD1.weaken (fun k q _ h => hF q.1 h)) (fun i j x y hx hy hxy => ?_)⟩
  exact (apart i x hx).2 (by rw [hxy]; exact hD1.2 j y hy)
theorem lg_self (z : Int64) : lg_cmp z z = 0 := by
  unfold lg_cmp
  simp
section SEM6
variable {p : Program} {l : Launch} {e : Env} {R : Room} {s : State} {m : MethodId} {args : Array Value} {below : List Frame} {meth : Method} {c : Code} {H : Heap} {locs : List Loc} {cells slots : Nat} {Q : State → Prop}
variable {cc : ByteArray} {nL pc : Nat} {ls : Array Slot} {rest : List Value} {dC : Nat → ClassId} {dI : Nat → Nat → Nat} {A : Nat → Prop} {σ τ μ μ1 : S5} {ak am : Nat → Nat} {km : Nat → ClassId} {x q9 : Nat} {ad : Nat → Nat} {kc : Nat → ClassId} {sv : Value} {sa va : Nat}
variable {y : MethodName} {bytes : ByteArray} {maxL fr lo n idx q0 ci m1 m2 : Nat} {ret : Option FieldType} {C : String} {As stk : List Value} {cl : vw_C} {fs : List Value} {hh : List (Nat × Nat × Nat × Nat)}
theorem gl_help {r : Int32} (S : CallFix p m c cc nL s args uG RL) (X : gL (dC, dI) x q9 ad kc sv sa va σ am km μ ak A s H locs) (hM : Met l y (Cond.codeWith y bytes maxL ret hh :: uG) { frames := fr, cells := m1, slots := m2, locals := lo } (gPc (dC, dI) (tF kc) (wF x q9 ad kc sv sa va) (zF ak) As σ H.size) (gQh (dC, dI) x q9 (va_A (wF x q9 ad kc sv sa va σ) H.size) r τ) m1 m2 (va_A (wF x q9 ad kc sv sa va σ) H.size))
    (h0 : Cond.codeWith y bytes maxL ret hh ∈ uG) (h2 : Cond.static y ∈ uG) (h4 : Cond.initialized y.cls ∈ uG) (hlk : Cond.methodLink RL idx y ∈ uG) (hy : y.cls ≠ "java/lang/invoke/MethodHandle" ∧ y.cls ≠ "java/lang/invoke/VarHandle" ∧ (parseMethodDescriptor y.desc).map (fun d => d.parameters.length) = some n)
    (hn : As.length = n) (hs : stk = As.reverse ++ rest) (hl : ls.size = nL) (hcat : (rest.map fun v => v.category).sum ≤ 8) (hd : decode cc pc = .ok (.invokestatic idx, 3)) (hc : cells + m1 ≤ R.cells ∧ slots + m2 ≤ R.slots) (hR : fr + 1 ≤ R.frames ∧ 8 + (maxL + 11) + lo ≤ R.locals)
    (kk : ∀ (ad : Nat → Nat) (kc : Nat → ClassId) (sv : Value) (sa va : Nat) (H1 : Heap) (locs1 : List Loc), gL (dC, dI) x q9 ad kc sv sa va τ am km μ ak A s H1 locs1 → W p l e R s m args below meth c H1 locs1 (cells + m1) (slots + m2) Q (F0 m (pc + 3) ls (.int r :: rest))) : W p l e R s m args below meth c H locs cells slots Q (F0 m pc ls stk) := by
  obtain ⟨hK, hP, hD, hS, hA, hZ⟩ := X
  have hFc := ap_free (ad_l hD) hS hA
  refine va_calli (vx_runSW (As := As) (rest := rest) S hM (vx_cwSW n S.2.2.2.2 (uG_T (fun _ h => h) h0 hlk h2 h4) rfl rfl rfl hy hR) ⟨g_blind, fun U hU hW => ⟨rfl, by rw [hU], by rw [hU]; exact ap_l hP, va_K.moved hW.alike (ak_l hK), (ad_l hD).weaken (fun _ _ _ _ => trivial), zF_ok ak A _ s U s.heap U.heap hZ (Or.inl hW) (fun a h1 h2 => (congrArg (fun (z : Heap) => z[a]?) hU).trans (hS.2.1 a h1 h2)) hFc, zF_ok ak⟩⟩ rfl hn hl hs (lv_room hcat) hd hc) hS (fun q _ h => hFc q h) hFc ?_
  intro r1 γ t1 H1 locs1 ht hvm hp hB hz hk hS1
  obtain rfl : r1 = r := hp
  obtain ⟨hP1, hK1, hD1⟩ := hB
  rw [ht] at hP1
  obtain ⟨hPj, hDj⟩ := ap_cl hP hD hk hFc hP1 hD1
  exact kk γ.1 γ.2.1 γ.2.2.1 γ.2.2.2.1 γ.2.2.2.2 H1 locs1 ⟨va_K.app (va_K.moved hvm.symm hK1) (ak_r hK), hPj, hDj, hS1, hA, hZ⟩
theorem gl_mi {r : Int32} (S : CallFix p m c cc nL s args uG RL) (X : gL (dC, dI) x q9 ad kc sv sa va σ am km μ ak A s H locs) (hM : Met l y (Cond.code y bytes maxL ret :: uG) { frames := fr, cells := 0, slots := 0, locals := lo } (gPc (dC, dI) (tM km) (wM am km) (fun _ _ _ => True) (.ref (am 0) :: As) μ H.size) (gQi (dC, dI) (tM km) (wM am km) (va_A (wM am km μ) H.size) r μ1) 0 0 (va_A (wM am km μ) H.size)) (cw : CWV y bytes maxL ret C n) (hlk : Cond.methodLink RL idx y ∈ uG)
    (hn : As.length = n) (hci : vwCl[ci]? = some cl) (hcl : cl.1 = C) (hrc : (wM am km μ)[0]? = some (am 0, .inr (ci, fs))) (hs : stk = As.reverse ++ .ref (am 0) :: rest) (hl : ls.size = nL) (hcat : (rest.map fun v => v.category).sum ≤ 8) (hd : decode cc pc = .ok (.invokevirtual idx, 3)) (hc : cells ≤ R.cells ∧ slots ≤ R.slots) (hR : fr + 1 ≤ R.frames ∧ 8 + (maxL + 11) + lo ≤ R.locals)
    (kk : ∀ (H1 : Heap) (locs1 : List Loc), gL (dC, dI) x q9 ad kc sv sa va σ am km μ1 ak A s H1 locs1 → W p l e R s m args below meth c H1 locs1 cells slots Q (F0 m (pc + 3) ls (.int r :: rest))) : W p l e R s m args below meth c H locs cells slots Q (F0 m pc ls stk) := by
  obtain ⟨h0, h2, h3, h4, hy⟩ := cw
  subst hcl
  obtain ⟨hK, hP, hD, hS, hA, hZ⟩ := X
  have hFc := ap_free (ad_r hD) hS hA
  refine va_calli (va_runV (As := As) (rest := rest) S hM (cwV n S.2.2.2.2 (uG_V (fun _ h => h) h0 hlk h2 h3 h4) rfl rfl rfl hy hR) ⟨g_blind, va_recv (ak_r hK) (ap_r hP) hci hrc, fun U hU hW => ⟨rfl, by rw [hU], by rw [hU]; exact ap_r hP, va_K.moved hW.alike (ak_r hK), (ad_r hD).weaken (fun _ _ _ _ => trivial), trivial, fun _ _ _ _ _ _ _ _ _ _ => trivial⟩⟩ rfl hn hl hs (lv_room hcat) hd hc) hS (fun q _ h => hFc q h) hFc ?_
  intro r1 u1 t1 H1 locs1 ht hvm hp hB hz hk hS1
  obtain rfl : r1 = r := hp
  obtain ⟨hP1, hK1, hD1⟩ := hB
  rw [ht] at hP1
  obtain ⟨hPj, hDj⟩ := ap_cr hP hD hk hFc hP1 hD1
  exact kk H1 locs1 ⟨hK, hPj, hDj, hS1, hA, hZ⟩
theorem gl_mv {r : Unit} (S : CallFix p m c cc nL s args uG RL) (X : gL (dC, dI) x q9 ad kc sv sa va σ am km μ ak A s H locs) (hM : Met l y (Cond.code y bytes maxL ret :: uG) { frames := fr, cells := 0, slots := 0, locals := lo } (gPc (dC, dI) (tM km) (wM am km) (fun _ _ _ => True) (.ref (am 0) :: As) μ H.size) (gQv (dC, dI) (tM km) (wM am km) (va_A (wM am km μ) H.size) r μ1) 0 0 (va_A (wM am km μ) H.size)) (cw : CWV y bytes maxL ret C n) (hlk : Cond.methodLink RL idx y ∈ uG)
    (hn : As.length = n) (hci : vwCl[ci]? = some cl) (hcl : cl.1 = C) (hrc : (wM am km μ)[0]? = some (am 0, .inr (ci, fs))) (hs : stk = As.reverse ++ .ref (am 0) :: rest) (hl : ls.size = nL) (hcat : (rest.map fun v => v.category).sum ≤ 8) (hd : decode cc pc = .ok (.invokevirtual idx, 3)) (hc : cells ≤ R.cells ∧ slots ≤ R.slots) (hR : fr + 1 ≤ R.frames ∧ 8 + (maxL + 11) + lo ≤ R.locals)
    (kk : ∀ (H1 : Heap) (locs1 : List Loc), gL (dC, dI) x q9 ad kc sv sa va σ am km μ1 ak A s H1 locs1 → W p l e R s m args below meth c H1 locs1 cells slots Q (F0 m (pc + 3) ls (rest))) : W p l e R s m args below meth c H locs cells slots Q (F0 m pc ls stk) := by
  obtain ⟨h0, h2, h3, h4, hy⟩ := cw
  subst hcl
  obtain ⟨hK, hP, hD, hS, hA, hZ⟩ := X
  have hFc := ap_free (ad_r hD) hS hA
  refine va_callv (va_runV (As := As) (rest := rest) S hM (cwV n S.2.2.2.2 (uG_V (fun _ h => h) h0 hlk h2 h3 h4) rfl rfl rfl hy hR) ⟨g_blind, va_recv (ak_r hK) (ap_r hP) hci hrc, fun U hU hW => ⟨rfl, by rw [hU], by rw [hU]; exact ap_r hP, va_K.moved hW.alike (ak_r hK), (ad_r hD).weaken (fun _ _ _ _ => trivial), trivial, fun _ _ _ _ _ _ _ _ _ _ => trivial⟩⟩ rfl hn hl hs (lv_room hcat) hd hc) hS (fun q _ h => hFc q h) hFc ?_
  intro u1 t1 H1 locs1 ht hvm hp hB hz hk hS1
  obtain ⟨hP1, hK1, hD1⟩ := hB
  rw [ht] at hP1
  obtain ⟨hPj, hDj⟩ := ap_cr hP hD hk hFc hP1 hD1
  exact kk H1 locs1 ⟨hK, hPj, hDj, hS1, hA, hZ⟩
theorem gl_take {cv : Int32 × Int32} (S : CallFix p m c cc nL s args uG RL) (X : gL (dC, dI) x q9 ad kc sv sa va σ am km μ ak A s H locs) (hcv : cv.1 = 0)
    (hM : vx_Met l y (Cond.code y bytes maxL ret :: uG) { frames := fr, cells := m1, slots := m2, locals := lo } (gPc (dC, dI) (tF kc) (wF x q9 ad kc sv sa va) (zF ak) (.ref x :: As) σ H.size) (gQx (dC, dI) x q9 (va_A (wF x q9 ad kc sv sa va σ) H.size) cv τ) (uXB dC dI (wF x q9 ad kc sv sa va τ) (tF kc) (va_A (wF x q9 ad kc sv sa va σ) H.size) (cE cv.1)) m1 m2 (va_A (wF x q9 ad kc sv sa va σ) H.size)) (cw : CWV y bytes maxL ret C n) (hlk : Cond.methodLink RL idx y ∈ uG)
    (hn : As.length = n) (hci : vwCl[ci]? = some cl) (hcl : cl.1 = C) (hrc : (wF x q9 ad kc sv sa va σ)[0]? = some (x, .inr (ci, fs))) (hs : stk = As.reverse ++ .ref x :: rest) (hl : ls.size = nL) (hcat : (rest.map fun v => v.category).sum ≤ 8) (hd : decode cc pc = .ok (.invokevirtual idx, 3)) (hc : cells + m1 ≤ R.cells ∧ slots + m2 ≤ R.slots) (hR : fr + 1 ≤ R.frames ∧ 8 + (maxL + 11) + lo ≤ R.locals)
    (kk : ∀ (ad : Nat → Nat) (kc : Nat → ClassId) (sv : Value) (sa va : Nat) (H1 : Heap) (locs1 : List Loc), gL (dC, dI) x q9 ad kc sv sa va τ am km μ ak A s H1 locs1 → W p l e R s m args below meth c H1 locs1 (cells + m1) (slots + m2) Q (F0 m (pc + 3) ls (.int cv.2 :: rest))) : W p l e R s m args below meth c H locs cells slots Q (F0 m pc ls stk) := by
  obtain ⟨h0, h2, h3, h4, hy⟩ := cw
  subst hcl
  obtain ⟨hK, hP, hD, hS, hA, hZ⟩ := X
  have hFc := ap_free (ad_l hD) hS hA
  refine vx_calli (vx_runV (As := As) (rest := rest) S hM (cwV n S.2.2.2.2 (uG_V (fun _ h => h) h0 hlk h2 h3 h4) rfl rfl rfl hy hR) ⟨g_blind, va_recv (ak_l hK) (ap_l hP) hci hrc, fun U hU hW => ⟨rfl, by rw [hU], by rw [hU]; exact ap_l hP, va_K.moved hW.alike (ak_l hK), (ad_l hD).weaken (fun _ _ _ _ => trivial), zF_ok ak A _ s U s.heap U.heap hZ (Or.inl hW) (fun a h1 h2 => (congrArg (fun (z : Heap) => z[a]?) hU).trans (hS.2.1 a h1 h2)) hFc, zF_ok ak⟩⟩ rfl hn hl hs (lv_room hcat) hd hc) hS (fun q _ h => hFc q h) hFc (fun q _ h => hFc q h) (fun E ce q u t1 H1 locs1 ht hvm hpu hBX hz hk hS hce hcv1 hcl => ?_) ?_
  · obtain ⟨hE, -, -, -⟩ := hBX
    rcases hE with ⟨-, h⟩ | ⟨-, h⟩ | ⟨-, h⟩ | ⟨-, h⟩ <;> (rw [hcv] at h; exact absurd h (by decide))
  intro r1 γ t1 H1 locs1 ht hvm hp hB hz hk hS1
  obtain ⟨-, rfl⟩ := hp
  obtain ⟨hP1, hK1, hD1⟩ := hB
  rw [ht] at hP1
  obtain ⟨hPj, hDj⟩ := ap_cl hP hD hk hFc hP1 hD1
  exact kk γ.1 γ.2.1 γ.2.2.1 γ.2.2.2.1 γ.2.2.2.2 H1 locs1 ⟨va_K.app (va_K.moved hvm.symm hK1) (ak_r hK), hPj, hDj, hS1, hA, hZ⟩
end SEM6

