/-! a throw that comes out of a callee: which row of the caller's table takes it (my own rows: the library's stand in a part that rounds don't have) -/
/-- one row of the table that covers the place and names a class: it takes the object, or the search goes on -/
theorem ux_row {Q : Handler → Pre} {E : CtlPost} {e : Env} {d : Bool} {acts : List Action} {s : State} {f : JFrame} {a : Addr} {x : ExceptionTableEntry} {t : List ExceptionTableEntry} {k : ClassId} {cell : Cell} (b : Bool)
    (hx : covers x f.pc = true) (h0 : x.catchType ≠ 0) (hl : s.vm.ClassLinks e.platform f.method.cls x.catchType k) (hcell : s.heap[a]? = some cell) (hobj : ∀ j, cell.vm ≠ .statics j)
    (hk : ∃ j, s.vm.classes[cell.cls]? = some j) (hc : ∃ j, s.vm.classes[k]? = some j) (hb : s.vm.assignable cell.cls k = b) :
    wp (findHandler.go f a (x :: t)) Q E e d acts s ↔ (match b with
      | true => Q (.found x.handlerPc) d acts (s.setVm (s.vm.noted f.method.cls x.catchType (.cls k)))
      | false => wp (findHandler.go f a t) Q E e d acts (s.setVm (s.vm.noted f.method.cls x.catchType (.cls k)))) := by
  simp only [covers] at hx
  have hal : s.vm.Alike (s.vm.noted f.method.cls x.catchType (.cls k)) := (Vm.Alike.refl s.vm).noted _ _ _
  obtain ⟨hop, hto⟩ := (resolveClass_links e.toSetting hl).op (op := VmOp.resolveClass f.method.cls x.catchType) rfl
  obtain ⟨j1, hj1⟩ := hk
  obtain ⟨j2, hj2⟩ := hc
  obtain ⟨_, hk1, -⟩ := hal.2.2 _ _ hj1
  obtain ⟨_, hk2, -⟩ := hal.2.2 _ _ hj2
  have hb' : (s.vm.noted f.method.cls x.catchType (.cls k)).assignable cell.cls k = b := by rw [hal.assignable]; exact hb
  cases b <;> simp [findHandler.go, hx, h0, hop, hto, hcell, hobj, hk1, hk2, hb', VmOp.dirties, VmOp.acts]
/-- a row that is passed: it doesn't cover the place, or names a class that the object isn't of -/
def ux_Pass (pl : Platform) (s₀ : State) (dc : ClassId) (pc : Nat) (th : ClassId) (y : ExceptionTableEntry) : Prop :=
  covers y pc = false ∨ (y.catchType ≠ 0 ∧ ∃ k, s₀.vm.ClassLinks pl dc y.catchType k ∧ s₀.vm.assignable th k = false)
/-- the search past such rows, up to one that takes it -/
theorem ux_find {e : Env} {s₀ : State} {f : JFrame} {a : Addr} {cell : Cell} (hobj : ∀ j, cell.vm ≠ .statics j) (hk : ∃ j, s₀.vm.classes[cell.cls]? = some j) {x : ExceptionTableEntry} {suf : List ExceptionTableEntry} (hx : covers x f.pc = true) (h0 : x.catchType ≠ 0)
    {k : ClassId} (hl : s₀.vm.ClassLinks e.platform f.method.cls x.catchType k) (hfit : s₀.vm.assignable cell.cls k = true) (pre : List ExceptionTableEntry) :
    ∀ S : State, s₀.WarmedH S.vm → S.heap[a]? = some cell → (∀ y ∈ pre, ux_Pass e.platform s₀ f.method.cls f.pc cell.cls y) →
      ∃ vm', s₀.WarmedH vm' ∧ ∀ (Q : Handler → Pre) (E : CtlPost) (d : Bool) (acts : List Action), wp (findHandler.go f a (pre ++ x :: suf)) Q E e d acts S ↔ Q (.found x.handlerPc) d acts (S.setVm vm') := by
  obtain ⟨j0, hj0⟩ := hk
  induction pre with
  | nil =>
    intro S hW hc _
    obtain ⟨dk, _, _, kt, hd, _, _, _, _, hkt, _, hopn⟩ := hl.here
    obtain ⟨j1, hj1, -⟩ := hW.alike.2.2 _ _ hj0
    obtain ⟨j2, hj2, -⟩ := hW.alike.2.2 _ _ hkt
    exact ⟨_, hW.noted hd hopn (State.rightAt_cls hl), fun Q E d acts => ux_row true hx h0 (hW.classLinks hl) hc hobj ⟨j1, hj1⟩ ⟨j2, hj2⟩ (by rw [hW.alike.assignable]; exact hfit)⟩
  | cons y ys ih =>
    intro S hW hc hp
    have hp' : ∀ z ∈ ys, ux_Pass e.platform s₀ f.method.cls f.pc cell.cls z := fun z hz => hp z (List.mem_cons_of_mem _ hz)
    obtain ⟨j1, hj1, -⟩ := hW.alike.2.2 _ _ hj0
    rcases hp y List.mem_cons_self with hn | ⟨hy0, ky, hly, hno⟩
    · obtain ⟨vm', hW', hq⟩ := ih S hW hc hp'
      exact ⟨vm', hW', fun Q E d acts => by rw [List.cons_append, W.findHandler_go_skip hn]; exact hq Q E d acts⟩
    · cases hcv : covers y f.pc with
      | false =>
        obtain ⟨vm', hW', hq⟩ := ih S hW hc hp'
        exact ⟨vm', hW', fun Q E d acts => by rw [List.cons_append, W.findHandler_go_skip hcv]; exact hq Q E d acts⟩
      | true =>
        obtain ⟨dk, _, _, kt, hd, _, _, _, _, hkt, _, hopn⟩ := hly.here
        obtain ⟨j2, hj2, -⟩ := hW.alike.2.2 _ _ hkt
        obtain ⟨vm', hW', hq⟩ := ih (S.setVm (S.vm.noted f.method.cls y.catchType (.cls ky))) (hW.noted hd hopn (State.rightAt_cls hly)) hc hp'
        refine ⟨vm', hW', fun Q E d acts => ?_⟩
        rw [List.cons_append]
        exact (ux_row false hcv hy0 (hW.classLinks hly) hc hobj ⟨j1, hj1⟩ ⟨j2, hj2⟩ (by rw [hW.alike.assignable]; exact hno)).trans (hq Q E d acts)
/-- .. and the frame goes on at the handler -/
theorem ux_caught {p : Program} {l : Launch} {e : Env} {R : Room} {s : State} {m : MethodId} {args : Array Value} {below : List Frame} {meth : Method} {c : Code} {T : State} {locs : List Loc} {cells slots : Nat} (X : Stand p l e R s m args below meth c T locs cells slots) (a : Addr) {g : JFrame} (hg : g.method = m)
    {cell : Cell} (hcell : T.heap[a]? = some cell) (hobj : cell.vm.isStatics = false) (hk : ∃ j, s.vm.classes[cell.cls]? = some j) (pre : List ExceptionTableEntry) (x : ExceptionTableEntry) (suf : List ExceptionTableEntry) (hsplit : c.exceptionTable.toList = pre ++ x :: suf)
    (hp : ∀ y ∈ pre, ux_Pass e.platform s m.cls g.pc cell.cls y) (hx : covers x g.pc = true) (h0 : x.catchType ≠ 0) {k : ClassId} (hl : s.vm.ClassLinks e.platform m.cls x.catchType k) (hfit : s.vm.assignable cell.cls k = true) :
    ∃ vm', Stand p l e R s m args below meth c (T.setVm vm') locs cells slots ∧ Steps p.tables e below ((T.setTop g).pushFrame (.throwing a)) ((T.setVm vm').setTop { g with pc := x.handlerPc, stack := [.ref a] }) := by
  subst hg
  have ho : ∀ j, cell.vm ≠ .statics j := fun j hj => by rw [hj] at hobj; cases hobj
  obtain ⟨vm', hW', hq⟩ := ux_find (e := e) (f := g) (a := a) (suf := suf) ho hk hx h0 hl hfit pre ((T.setTop g).pushFrame (.throwing a)) X.warmed hcell hp
  refine ⟨vm', X.noted hW', ?_⟩
  obtain ⟨hgo, hw⟩ := X.here.throwing (g := g) a
  refine Steps.head hgo hw ?_
  have hm' : ((T.setTop g).pushFrame (.throwing a)).vm.method? g.method = some meth := X.method'
  have hfd : ∀ (Q : Handler → Pre) (E : CtlPost) (d : Bool) (acts : List Action), wp (findHandler g a) Q E e d acts ((T.setTop g).pushFrame (.throwing a)) ↔ Q (.found x.handlerPc) d acts (((T.setTop g).pushFrame (.throwing a)).setVm vm') := fun Q E d acts => by
    rw [W.findHandler_eq hm' X.code, hsplit]
    exact hq Q E d acts
  have hs : (stepThrowing e ((T.setTop g).pushFrame (.throwing a)) a (.java g :: below)).1 = (((T.setTop g).pushFrame (.throwing a)).setVm vm').setFrames (.java { g with pc := x.handlerPc, stack := [.ref a] } :: below) := by
    simp only [stepThrowing, searchFrame, vmDo]
    generalize hr : Sem.go _ e false [] _ = res
    obtain ⟨as, rfl, -⟩ := Sem.eq_ok_of hr (a := Handler.found x.handlerPc) (s' := ((T.setTop g).pushFrame (.throwing a)).setVm vm') (acts' := []) (by simp [hfd _ _ _ _])
    rfl
  obtain ⟨g₁, hfr⟩ := X.frames_eq
  have hfr2 : (T.setVm vm').frames = .java g₁ :: below := hfr
  have hfe : ((T.setTop g).pushFrame (.throwing a)).frames = .throwing a :: .java g :: below := by
    have h9 := frames_entered (g := g) X.here.top (.throwing a)
    rw [hfr] at h9
    exact h9
  rw [stepThread_throwing hfe, hs]
  rw [State.setTop_of_frames _ hfr2, State.pushFrame, State.frames_setTop _ hfr, State.setTop_of_frames _ hfr, First.setVm_setFrames, First.setVm_setFrames]
  exact Steps.refl _
