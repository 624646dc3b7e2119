/-- the uses: weights of nodes -/
def w8 (μ : S5) (i : Nat) : Nat := if xA μ 2 (nI i) = 8 then 1 else 0
/-- names of the scopes of one function: weights -/
def wO (σ : S5) (o : Int32) (i : Nat) : Nat := if xA σ 22 (nI i) = o then vC σ i else 0
/-- what the walk never writes -/
def WF (μ0 μ : S5) : Prop := (∀ j, j ≤ 6 ∨ (9 ≤ j ∧ j ≤ 22) ∨ 26 ≤ j → gI μ j = gI μ0 j) ∧ (∀ j, gJ μ j = gJ μ0 j) ∧ (∀ j, j ≤ 6 ∨ (9 ≤ j ∧ j ≤ 19) ∨ 31 ≤ j → gA μ j = gA μ0 j) ∧ (∀ j, ¬ j = 4 → gB μ j = gB μ0 j) ∧ μ.2.2.2.2 = μ0.2.2.2.2 ∧ (∀ i : Int32, ¬ xA μ0 2 i = 8 → xA μ 7 i = xA μ0 7 i ∧ xA μ 8 i = xA μ0 8 i)
theorem WF.x {μ0 μ : S5} (h : WF μ0 μ) (j : Nat) (i : Int32) (hj : j ≤ 6 ∨ (9 ≤ j ∧ j ≤ 19) ∨ 31 ≤ j) : xA μ j i = xA μ0 j i := by
  show gA μ j i.toNatClampNeg = gA μ0 j i.toNatClampNeg
  rw [h.2.2.1 j hj]
theorem WF.y {μ0 μ : S5} (h : WF μ0 μ) (j : Nat) (i : Int32) (hj : ¬ j = 4) : xB μ j i = xB μ0 j i := by
  show gB μ j i.toNatClampNeg = gB μ0 j i.toNatClampNeg
  rw [h.2.2.2.1 j hj]
/-- homes of variables, and how many a function has -/
def HV (σ τr μ : S5) (S s : Int32) : Prop := (∀ (x : Int32) (i j : Nat), 0 ≤ x → x < s → xA σ 20 x = nI j → j ≤ 5 → i < j → xA μ 22 (nI (prI (vC σ) x + i)) = xA τr 26 (xA σ 22 x) ∧ xA μ 23 (nI (prI (vC σ) x + i)) = nI (prI (wO σ (xA σ 22 x)) x + i)) ∧ (∀ (o : Int32) (f : Nat), 0 ≤ o → o < S → xA σ 22 o = o → xA τr 26 o = nI f → xA μ 24 (nI f) = nI (prI (wO σ o) s))
/-- sums before the frontier -/
def PE (σ μ0 : S5) (s : Int32) (u : Nat) (a : Int32) : Prop := prI (fC σ) s = prI (fM μ0) a ∧ prI (vC σ) s = prI (vM μ0) a ∧ u = prI (w8 μ0) a
/-- what has been written at the nodes before the frontier -/
def NW (σ μ0 μ : S5) (k : Nat) (a : Int32) : Prop := (∀ n : Int32, 0 ≤ n → n < a → xA μ0 2 n = 8 → Sd σ μ k (prI (w8 μ0) n) n) ∧ (∀ n : Int32, 0 ≤ n → n < a → xA μ0 2 n = 0 ∨ xA μ0 2 n = 1 ∨ xA μ0 2 n = 2 ∨ xA μ0 2 n = 4 ∨ xA μ0 2 n = 12 → xA μ 25 n = nI (prI (vM μ0) n))
/-- both while the names are looked for: within the scope h; the next scope s, use u, node a -/
def WS (σ τr μ0 : S5) (k F : Nat) (S : Int32) (D : Int32 → Nat) (h s : Int32) (u : Nat) (a : Int32) (m top d B : Nat) (τ μ : S5) : Prop := WF μ0 μ ∧ gI μ 23 = nI (prI (vC σ) s) ∧ (gI μ 24 = nI top ∧ Stk σ μ m h top ∧ top ≤ prI (vC σ) s) ∧ (gI μ 25 = nI d ∧ Aro σ τr μ S d (xA σ 22 h) d ∧ d ≤ D h) ∧ HV σ τr μ S s ∧ (FRs σ τ μ B F ∧ FrF τr τ ∧ B ≤ 700 * u) ∧ FlU σ k u (gI μ 7) (gI μ 8) ∧ PE σ μ0 s u a ∧ NW σ μ0 μ k a
/-- the walk's own rows -/
def FrW (a : Int32) (μ ν : S5) : Prop := (∀ j, gI ν j = gI μ j) ∧ (∀ j, gJ ν j = gJ μ j) ∧ (∀ j, ¬ j = 25 → ¬ j = 28 → ¬ j = 29 → ¬ j = 30 → gA ν j = gA μ j) ∧ (∀ j, gB ν j = gB μ j) ∧ ν.2.2.2.2 = μ.2.2.2.2 ∧ (∀ i : Int32, 0 ≤ i → i < a → xA ν 25 i = xA μ 25 i)
theorem FrW.rf (a : Int32) (μ : S5) : FrW a μ μ := ⟨fun _ => rfl, fun _ => rfl, fun _ _ _ _ _ => rfl, fun _ => rfl, rfl, fun _ _ _ => rfl⟩
theorem FrW.tr {a : Int32} {σ τ ρ : S5} (h : FrW a σ τ) (h2 : FrW a τ ρ) : FrW a σ ρ := ⟨fun j => (h2.1 j).trans (h.1 j), fun j => (h2.2.1 j).trans (h.2.1 j), fun j a b c d => (h2.2.2.1 j a b c d).trans (h.2.2.1 j a b c d), fun j => (h2.2.2.2.1 j).trans (h.2.2.2.1 j), h2.2.2.2.2.1.trans h.2.2.2.2.1, fun i i0 i1 => (h2.2.2.2.2.2 i i0 i1).trans (h.2.2.2.2.2 i i0 i1)⟩
theorem FrW.A {a : Int32} {μ ν : S5} {k : Nat} {i v : Int32} (h : FrW a μ ν) (hk : k = 28 ∨ k = 29 ∨ k = 30) : FrW a μ (pA ν k i v) := ⟨h.1, h.2.1, fun j a b c d => by rw [gA_ne _ _ _ (by omega)]; exact h.2.2.1 j a b c d, h.2.2.2.1, h.2.2.2.2.1, fun x x0 x1 => by rw [xA_pA, if_neg (by omega)]; exact h.2.2.2.2.2 x x0 x1⟩
theorem FrW.F {a : Int32} {μ ν : S5} {i v : Int32} (h : FrW a μ ν) (hi : a ≤ i) : FrW a μ (pA ν 25 i v) := ⟨h.1, h.2.1, fun j a b c d => by rw [gA_ne _ _ _ (by omega)]; exact h.2.2.1 j a b c d, h.2.2.2.1, h.2.2.2.2.1, fun x x0 x1 => by rw [xA_pA, if_neg (fun w => by have := (i_inj x0 (by grind)).mp w.2; grind)]; exact h.2.2.2.2.2 x x0 x1⟩
theorem FrW.x {a : Int32} {σ τ : S5} (h : FrW a σ τ) (j : Nat) (i : Int32) (h1 : ¬ j = 25) (h2 : ¬ j = 28) (h3 : ¬ j = 29) (h4 : ¬ j = 30) : xA τ j i = xA σ j i := by
  show gA τ j i.toNatClampNeg = gA σ j i.toNatClampNeg
  rw [h.2.2.1 j h1 h2 h3 h4]
theorem FrW.y {a : Int32} {σ τ : S5} (h : FrW a σ τ) (j : Nat) (i : Int32) : xB τ j i = xB σ j i := by
  show gB τ j i.toNatClampNeg = gB σ j i.toNatClampNeg
  rw [h.2.2.2.1 j]
theorem Sd.st {σ μ ν : S5} {k u : Nat} {n : Int32} (h : Sd σ μ k u n) (h7 : xA ν 7 n = xA μ 7 n) (h8 : xA ν 8 n = xA μ 8 n) : Sd σ ν k u n := by
  unfold Sd
  rw [h7, h8]
  exact h
theorem WF.w {μ0 μ ν : S5} {a : Int32} (h : WF μ0 μ) (w : FrW a μ ν) : WF μ0 ν := by
  obtain ⟨h1, h2, h3, h4, h5, h6⟩ := h
  refine ⟨fun j hj => (w.1 j).trans (h1 j hj), fun j => (w.2.1 j).trans (h2 j), fun j hj => (w.2.2.1 j (by omega) (by omega) (by omega) (by omega)).trans (h3 j hj), fun j hj => (w.2.2.2.1 j).trans (h4 j hj), w.2.2.2.2.1.trans h5, fun i hi => ?_⟩
  rw [w.x 7 i (by decide) (by decide) (by decide) (by decide), w.x 8 i (by decide) (by decide) (by decide) (by decide)]
  exact h6 i hi
/-- the walk's own rows don't matter -/
theorem WS.w {σ τr μ0 : S5} {k F : Nat} {S : Int32} {D : Int32 → Nat} {h s : Int32} {u : Nat} {a : Int32} {m top d B : Nat} {τ μ ν : S5} (q : WS σ τr μ0 k F S D h s u a m top d B τ μ) (w : FrW a μ ν) : WS σ τr μ0 k F S D h s u a m top d B τ ν := by
  obtain ⟨q1, q2, ⟨q3, q4, q5⟩, ⟨q6, q7, q8⟩, ⟨q9, q10⟩, ⟨q11, q12, q13⟩, q14, q15, ⟨q16, q17⟩⟩ := q
  refine ⟨q1.w w, (w.1 23).trans q2, ⟨(w.1 24).trans q3, q4.st m h top (fun p _ => ⟨w.y 4 _, w.x 26 _ (by decide) (by decide) (by decide) (by decide)⟩), q5⟩, ⟨(w.1 25).trans q6, q7.st d _ d (fun p _ => w.x 27 _ (by decide) (by decide) (by decide) (by decide)), q8⟩, ⟨fun x i j x0 x1 xj x5 ij => ?_, fun o f o0 o1 o2 o3 => ?_⟩, ⟨q11.st (fun x => w.x 20 _ (by decide) (by decide) (by decide) (by decide)) (fun x => w.x 21 _ (by decide) (by decide) (by decide) (by decide)), q12, q13⟩, by rw [w.1 7, w.1 8]; exact q14, q15, ⟨fun n n0 n1 n2 => ?_, fun n n0 n1 n2 => ?_⟩⟩
  · rw [w.x 22 _ (by decide) (by decide) (by decide) (by decide), w.x 23 _ (by decide) (by decide) (by decide) (by decide)]
    exact q9 x i j x0 x1 xj x5 ij
  · rw [w.x 24 _ (by decide) (by decide) (by decide) (by decide)]
    exact q10 o f o0 o1 o2 o3
  · exact (q16 n n0 n1 n2).st (w.x 7 _ (by decide) (by decide) (by decide) (by decide)) (w.x 8 _ (by decide) (by decide) (by decide) (by decide))
  · rw [w.2.2.2.2.2 n n0 n1]
    exact q17 n n0 n1 n2
/-- the frontier goes past a node that means nothing here -/
theorem WS.z {σ τr μ0 : S5} {k F : Nat} {S : Int32} {D : Int32 → Nat} {h s : Int32} {u : Nat} {a : Int32} {m top d B : Nat} {τ μ : S5} (q : WS σ τr μ0 k F S D h s u a m top d B τ μ) (h0 : 0 ≤ a) (h1 : a < 3200) (hf : fM μ0 a.toNatClampNeg = 0) (hv : vM μ0 a.toNatClampNeg = 0) (h8 : ¬ xA μ0 2 a = 8) (h25 : xA μ0 2 a = 0 ∨ xA μ0 2 a = 1 ∨ xA μ0 2 a = 2 ∨ xA μ0 2 a = 4 ∨ xA μ0 2 a = 12 → xA μ 25 a = nI (prI (vM μ0) a)) : WS σ τr μ0 k F S D h s u (a + 1) m top d B τ μ := by
  obtain ⟨q1, q2, q3, q4, q5, q6, q7, ⟨q8, q9, q10⟩, ⟨q11, q12⟩⟩ := q
  have e8 : w8 μ0 a.toNatClampNeg = 0 := by unfold w8; rw [xA_tn, if_neg h8]
  refine ⟨q1, q2, q3, q4, q5, q6, q7, ⟨?_, ?_, ?_⟩, ⟨fun n n0 n1 n2 => ?_, fun n n0 n1 n2 => ?_⟩⟩
  · rw [prI_s _ h0 (by grind), hf]; exact q8
  · rw [prI_s _ h0 (by grind), hv]; exact q9
  · rw [prI_s _ h0 (by grind), e8]; exact q10
  · by_cases hn : n = a
    · subst hn; exact absurd n2 h8
    · exact q11 n n0 (by grind) n2
  · by_cases hn : n = a
    · subst hn; exact h25 n2
    · exact q12 n n0 (by grind) n2
