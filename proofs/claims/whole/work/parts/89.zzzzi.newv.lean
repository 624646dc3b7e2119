/-- what a new variable never writes -/
def FrP (σ τ : S5) : Prop := (∀ j, ¬ j = 23 → ¬ j = 24 → gI τ j = gI σ j) ∧ (∀ j, gJ τ j = gJ σ j) ∧ (∀ j, ¬ j = 22 → ¬ j = 23 → ¬ j = 24 → ¬ j = 26 → gA τ j = gA σ j) ∧ (∀ j, ¬ j = 4 → gB τ j = gB σ j) ∧ τ.2.2.2.2 = σ.2.2.2.2
theorem FrP.rf (σ : S5) : FrP σ σ := ⟨fun _ _ _ => rfl, fun _ => rfl, fun _ _ _ _ _ => rfl, fun _ _ => rfl, rfl⟩
theorem FrP.tr {σ τ ρ : S5} (h : FrP σ τ) (h2 : FrP τ ρ) : FrP σ ρ := ⟨fun j a b => (h2.1 j a b).trans (h.1 j a b), fun j => (h2.2.1 j).trans (h.2.1 j), fun j a b c d => (h2.2.2.1 j a b c d).trans (h.2.2.1 j a b c d), fun j a => (h2.2.2.2.1 j a).trans (h.2.2.2.1 j a), h2.2.2.2.2.trans h.2.2.2.2⟩
theorem FrP.A {σ τ : S5} {k : Nat} {i v : Int32} (h : FrP σ τ) (hk : k = 22 ∨ k = 23 ∨ k = 24 ∨ k = 26) : FrP σ (pA τ k i v) := ⟨h.1, h.2.1, fun j a b c d => by rw [gA_ne _ _ _ (by omega)]; exact h.2.2.1 j a b c d, h.2.2.2⟩
theorem FrP.I {σ τ : S5} {k : Nat} {v : Int32} (h : FrP σ τ) (hk : k = 23 ∨ k = 24) : FrP σ (pI τ k v) := ⟨fun j a b => by rw [gI_pI, if_neg (by omega)]; exact h.1 j a b, h.2⟩
theorem FrP.B {σ τ : S5} {i : Int32} {v : Int64} (h : FrP σ τ) : FrP σ (pB τ 4 i v) := ⟨h.1, h.2.1, h.2.2.1, fun j a => by rw [gB_ne _ _ _ a]; exact h.2.2.2.1 j a, h.2.2.2.2⟩
theorem FrP.x {σ τ : S5} (h : FrP σ τ) (j : Nat) (i : Int32) (h1 : ¬ j = 22) (h2 : ¬ j = 23) (h3 : ¬ j = 24) (h4 : ¬ j = 26) : xA τ j i = xA σ j i := by
  show gA τ j i.toNatClampNeg = gA σ j i.toNatClampNeg
  rw [h.2.2.1 j h1 h2 h3 h4]
theorem FrP.y {σ τ : S5} (h : FrP σ τ) (j : Nat) (i : Int32) (h1 : ¬ j = 4) : xB τ j i = xB σ j i := by
  show gB τ j i.toNatClampNeg = gB σ j i.toNatClampNeg
  rw [h.2.2.2.1 j h1]
/-- the reference with a new variable -/
def mNv (μ : S5) (z : Int64) (f t v o : Nat) : S5 := pI (pA (pB (pA (pA (pA (pI μ 23 (nI v + 1)) 22 (nI v) (nI f)) 23 (nI v) (nI o)) 24 (nI f) (nI o + 1)) 4 (nI t) z) 26 (nI t) (nI v)) 24 (nI t + 1)
theorem m_newV {μ : S5} {z : Int64} {f t v o d : Nat} (h25 : gI μ 25 = nI (d + 1)) (hd : d < 64) (h27 : xA μ 27 (nI d) = nI f) (hf : f < 640) (h23 : gI μ 23 = nI v) (hv : v < 3200) (h24 : gI μ 24 = nI t) (ht : t < 3200) (ho : xA μ 24 (nI f) = nI o) : f_X12_newVariable z μ = some (nI v, mNv μ z f t v o) := by
  have e1 : nI (d + 1) - 1 = nI d := by rw [← nI_add1]; grind
  unfold f_X12_newVariable mNv
  rw [h25, e1, h27, h23, h24, ho, gdn hd (by omega), gdn hv (by omega), gdn hf (by omega), gdn hv (by omega), gdn hf (by omega), gdn hf (by omega), gdn ht (by omega), gdn ht (by omega)]
/-- j new variables of the function f, the first is v -/
def PV (μ ν : S5) (z : Nat → Int64) (f t v o j : Nat) : Prop := FrP μ ν ∧ (gI ν 23 = nI (v + j) ∧ gI ν 24 = nI (t + j)) ∧ (∀ i, i < j → xB ν 4 (nI (t + i)) = z i ∧ xA ν 26 (nI (t + i)) = nI (v + i) ∧ xA ν 22 (nI (v + i)) = nI f ∧ xA ν 23 (nI (v + i)) = nI (o + i)) ∧ (∀ x, x < t → xB ν 4 (nI x) = xB μ 4 (nI x) ∧ xA ν 26 (nI x) = xA μ 26 (nI x)) ∧ (∀ x, x < v → xA ν 22 (nI x) = xA μ 22 (nI x) ∧ xA ν 23 (nI x) = xA μ 23 (nI x)) ∧ xA ν 24 (nI f) = nI (o + j) ∧ (∀ g, g < 640 → ¬ g = f → xA ν 24 (nI g) = xA μ 24 (nI g))
theorem PV.zero {μ : S5} {z : Nat → Int64} {f t v o : Nat} (h23 : gI μ 23 = nI v) (h24 : gI μ 24 = nI t) (ho : xA μ 24 (nI f) = nI o) : PV μ μ z f t v o 0 := ⟨FrP.rf μ, ⟨h23, h24⟩, fun i hi => absurd hi (by omega), fun _ _ => ⟨rfl, rfl⟩, fun _ _ => ⟨rfl, rfl⟩, ho, fun _ _ _ => rfl⟩
theorem mNv_fr (μ : S5) (z : Int64) (f t v o : Nat) : FrP μ (mNv μ z f t v o) := (((((((FrP.rf μ).I (Or.inl rfl)).A (Or.inl rfl)).A (by omega)).A (by omega)).B).A (by omega)).I (Or.inr rfl)
theorem PV.step {μ ν : S5} {z : Nat → Int64} {f t v o j d : Nat} (h : PV μ ν z f t v o j) (h25 : gI μ 25 = nI (d + 1)) (hd : d < 64) (h27 : xA μ 27 (nI d) = nI f) (hf : f < 640) (hv : v + j < 3200) (ht : t + j < 3200) : ∃ ν', f_X12_newVariable (z j) ν = some (nI (v + j), ν') ∧ PV μ ν' z f t v o (j + 1) := by
  obtain ⟨p1, p2, p3, p4, p5, p6, p7⟩ := h
  refine ⟨mNv ν (z j) f (t + j) (v + j) (o + j), m_newV (by rw [p1.1 25 (by decide) (by decide)]; exact h25) hd (by rw [p1.x 27 _ (by decide) (by decide) (by decide) (by decide)]; exact h27) hf p2.1 hv p2.2 ht p6, ?_⟩
  have x4 : ∀ x, x < 4000 → xB (mNv ν (z j) f (t + j) (v + j) (o + j)) 4 (nI x) = if x = t + j then z j else xB ν 4 (nI x) := by
    intro x hx
    unfold mNv
    rw [xB_pI, xB_pA, xB_pB]
    by_cases he : x = t + j
    · subst he
      rw [if_pos ⟨rfl, rfl⟩, if_pos rfl]
    · rw [if_neg (fun w => tn_ne (by omega) (by omega) he w.2), if_neg he]
      rfl
  have x26 : ∀ x, x < 4000 → xA (mNv ν (z j) f (t + j) (v + j) (o + j)) 26 (nI x) = if x = t + j then nI (v + j) else xA ν 26 (nI x) := by
    intro x hx
    unfold mNv
    rw [xA_pI, xA_pA]
    by_cases he : x = t + j
    · subst he
      rw [if_pos ⟨rfl, rfl⟩, if_pos rfl]
    · rw [if_neg (fun w => tn_ne (by omega) (by omega) he w.2), if_neg he, xA_pB, xA_pA, if_neg (fun w => absurd w.1 (by decide)), xA_pA, if_neg (fun w => absurd w.1 (by decide)), xA_pA, if_neg (fun w => absurd w.1 (by decide)), xA_pI]
  have x22 : ∀ x, x < 4000 → xA (mNv ν (z j) f (t + j) (v + j) (o + j)) 22 (nI x) = if x = v + j then nI f else xA ν 22 (nI x) := by
    intro x hx
    unfold mNv
    rw [xA_pI, xA_pA, if_neg (fun w => absurd w.1 (by decide)), xA_pB, xA_pA, if_neg (fun w => absurd w.1 (by decide)), xA_pA, if_neg (fun w => absurd w.1 (by decide)), xA_pA]
    by_cases he : x = v + j
    · subst he
      rw [if_pos ⟨rfl, rfl⟩, if_pos rfl]
    · rw [if_neg (fun w => tn_ne (by omega) (by omega) he w.2), if_neg he, xA_pI]
  have x23 : ∀ x, x < 4000 → xA (mNv ν (z j) f (t + j) (v + j) (o + j)) 23 (nI x) = if x = v + j then nI (o + j) else xA ν 23 (nI x) := by
    intro x hx
    unfold mNv
    rw [xA_pI, xA_pA, if_neg (fun w => absurd w.1 (by decide)), xA_pB, xA_pA, if_neg (fun w => absurd w.1 (by decide)), xA_pA]
    by_cases he : x = v + j
    · subst he
      rw [if_pos ⟨rfl, rfl⟩, if_pos rfl]
    · rw [if_neg (fun w => tn_ne (by omega) (by omega) he w.2), if_neg he, xA_pA, if_neg (fun w => absurd w.1 (by decide)), xA_pI]
  have x24 : ∀ x, x < 640 → xA (mNv ν (z j) f (t + j) (v + j) (o + j)) 24 (nI x) = if x = f then nI (o + j) + 1 else xA ν 24 (nI x) := by
    intro x hx
    unfold mNv
    rw [xA_pI, xA_pA, if_neg (fun w => absurd w.1 (by decide)), xA_pB, xA_pA]
    by_cases he : x = f
    · subst he
      rw [if_pos ⟨rfl, rfl⟩, if_pos rfl]
    · rw [if_neg (fun w => tn_ne (by omega) (by omega) he w.2), if_neg he, xA_pA, if_neg (fun w => absurd w.1 (by decide)), xA_pA, if_neg (fun w => absurd w.1 (by decide)), xA_pI]
  refine ⟨p1.tr (mNv_fr _ _ _ _ _ _), ⟨?_, ?_⟩, fun i hi => ?_, fun x hx => ?_, fun x hx => ?_, ?_, fun g hg hgf => ?_⟩
  · show nI (v + j) + 1 = _
    rw [nI_add1]
    rfl
  · show nI (t + j) + 1 = _
    rw [nI_add1]
    rfl
  · rw [x4 _ (by omega), x26 _ (by omega), x22 _ (by omega), x23 _ (by omega)]
    by_cases he : i = j
    · subst he
      rw [if_pos rfl, if_pos rfl, if_pos rfl, if_pos rfl]
      exact ⟨rfl, rfl, rfl, rfl⟩
    · rw [if_neg (by omega), if_neg (by omega), if_neg (by omega), if_neg (by omega)]
      exact p3 i (by omega)
  · rw [x4 _ (by omega), x26 _ (by omega), if_neg (by omega), if_neg (by omega)]
    exact p4 x hx
  · rw [x22 _ (by omega), x23 _ (by omega), if_neg (by omega), if_neg (by omega)]
    exact p5 x hx
  · rw [x24 _ hf, if_pos rfl, nI_add1]
    rfl
  · rw [x24 _ hg, if_neg hgf]
    exact p7 g hg hgf
