/-- only the tree is written -/
def FrPN (σ τ : S5) : Prop := (∀ j, ¬ j = 8 → gI τ j = gI σ j) ∧ (∀ j, gJ τ j = gJ σ j) ∧ (∀ j, j < 13 ∨ 19 < j → gA τ j = gA σ j) ∧ (∀ j, ¬ j = 2 → gB τ j = gB σ j) ∧ τ.2.2.2.2 = σ.2.2.2.2
theorem FrPN.rf (σ : S5) : FrPN σ σ := ⟨fun _ _ => rfl, fun _ => rfl, fun _ _ => rfl, fun _ _ => rfl, rfl⟩
theorem FrPN.tr {σ τ ρ : S5} (h : FrPN σ τ) (h2 : FrPN τ ρ) : FrPN σ ρ := ⟨fun j a => (h2.1 j a).trans (h.1 j a), fun j => (h2.2.1 j).trans (h.2.1 j), fun j a => (h2.2.2.1 j a).trans (h.2.2.1 j a), fun j a => (h2.2.2.2.1 j a).trans (h.2.2.2.1 j a), h2.2.2.2.2.trans h.2.2.2.2⟩
theorem FrPN.A {σ τ : S5} {k : Nat} {i v : Int32} (h : FrPN σ τ) (hk : 13 ≤ k ∧ k ≤ 19) : FrPN σ (pA τ k i v) := ⟨h.1, h.2.1, fun j a => by rw [gA_ne _ _ _ (by omega)]; exact h.2.2.1 j a, h.2.2.2⟩
theorem FrPN.I {σ τ : S5} {v : Int32} (h : FrPN σ τ) : FrPN σ (pI τ 8 v) := ⟨fun j a => by rw [gI_pI, if_neg a]; exact h.1 j a, h.2⟩
theorem FrPN.B {σ τ : S5} {i : Int32} {v : Int64} (h : FrPN σ τ) : FrPN σ (pB τ 2 i v) := ⟨h.1, h.2.1, h.2.2.1, fun j a => by rw [gB_ne _ _ _ a]; exact h.2.2.2.1 j a, h.2.2.2.2⟩
theorem FrPN.x {σ τ : S5} (h : FrPN σ τ) (j : Nat) (i : Int32) (hj : j < 13 ∨ 19 < j) : xA τ j i = xA σ j i := by
  show gA τ j i.toNatClampNeg = gA σ j i.toNatClampNeg
  rw [h.2.2.1 j hj]
/-- a leaf that stands there, measured -/
def LfR (τ : S5) (x k v nx : Int32) : Prop := xA τ 13 x = k ∧ xA τ 14 x = v ∧ xA τ 16 x = -1 ∧ xA τ 17 x = nx ∧ xA τ 18 x = 1 ∧ xA τ 19 x = 1 ∧ xB τ 2 x = lbit k v
theorem LfR.tw {τ τ' : S5} {x k v nx : Int32} (h : LfR τ x k v nx) (t : Tw τ τ' x) : LfR τ' x k v nx := ⟨t.1.trans h.1, t.2.1.trans h.2.1, t.2.2.2.1.trans h.2.2.1, t.2.2.2.2.1.trans h.2.2.2.1, t.2.2.2.2.2.1.trans h.2.2.2.2.1, t.2.2.2.2.2.2.1.trans h.2.2.2.2.2.1, t.2.2.2.2.2.2.2.trans h.2.2.2.2.2.2⟩
theorem Tw.A {τ τ' : S5} {x i v : Int32} {k : Nat} (h : Tw τ τ' x) (hne : ¬ x.toNatClampNeg = i.toNatClampNeg) : Tw τ (pA τ' k i v) x := by
  have e : ∀ g, xA (pA τ' k i v) g x = xA τ' g x := fun g => by rw [xA_pA, if_neg (fun w => hne w.2)]
  unfold Tw
  rw [e, e, e, e, e, e, e]
  exact h
theorem Tw.B {τ τ' : S5} {x i : Int32} {v : Int64} {k : Nat} (h : Tw τ τ' x) (hne : ¬ x.toNatClampNeg = i.toNatClampNeg) : Tw τ (pB τ' k i v) x := by
  have e : xB (pB τ' k i v) 2 x = xB τ' 2 x := by rw [xB_pB, if_neg (fun w => hne w.2)]
  obtain ⟨a1, a2, a3, a4, a5, a6, a7, a8⟩ := h
  exact ⟨a1, a2, a3, a4, a5, a6, a7, e.trans a8⟩
theorem Tw.I {τ τ' : S5} {x v : Int32} {k : Nat} (h : Tw τ τ' x) : Tw τ (pI τ' k v) x := h
theorem pl_leaf {τ : S5} {n : Nat} (k v : Int32) (h8 : gI τ 8 = nI n) (hn : n < 6200) : ∃ τ', f_X2_plantLeaf k v τ = some (nI n, τ') ∧ FrPN τ τ' ∧ gI τ' 8 = nI (n + 1) ∧ (∀ x, 0 ≤ x → ¬ x = nI n → Tw τ τ' x) ∧ LfR τ' (nI n) k v (-1) := by
  have n0 : 0 ≤ nI n := i_le0 (nI_nneg (by omega))
  have n1 : nI n < 6200 := (nI_lt31 (b := 6200) (by omega) (by omega)).mpr hn
  have hadd : f_X9_addLeaf k v τ = some (nI n, pI (pA (pA (pA (pA (pA τ 13 (nI n) k) 14 (nI n) v) 15 (nI n) 0) 16 (nI n) (-1)) 17 (nI n) (-1)) 8 (nI (n + 1))) := by
    unfold f_X9_addLeaf f_X9_add
    rw [h8, if_pos n1, gd6200 n0 n1, gd6200 n0 n1, gd6200 n0 n1, gd6200 n0 n1, gd6200 n0 n1, bd_of, nI_add1, show nI (n + 1) - 1 = nI n from by rw [← nI_add1]; grind]
  refine ⟨mlf (pI (pA (pA (pA (pA (pA τ 13 (nI n) k) 14 (nI n) v) 15 (nI n) 0) 16 (nI n) (-1)) 17 (nI n) (-1)) 8 (nI (n + 1))) (nI n), ?_, ?_, ?_, fun x x0 hx => ?_, ?_⟩
  · unfold f_X2_plantLeaf
    rw [hadd, bd_of, ml_go n0 n1, bd_of]
  · unfold mlf
    exact (((((((((FrPN.rf τ).A (by decide)).A (by decide)).A (by decide)).A (by decide)).A (by decide)).I).A (by decide)).A (by decide)).B
  · show gI (pI (pA (pA (pA (pA (pA τ 13 (nI n) k) 14 (nI n) v) 15 (nI n) 0) 16 (nI n) (-1)) 17 (nI n) (-1)) 8 (nI (n + 1))) 8 = _
    rw [gI_pI, if_pos rfl]
  · have hne : ¬ x.toNatClampNeg = (nI n).toNatClampNeg := fun w => hx ((i_inj x0 n0).mp w)
    unfold mlf
    exact (((((((((Tw.rf τ x).A hne).A hne).A hne).A hne).A hne).I).A hne).A hne).B hne
  · have e13 : xA (pI (pA (pA (pA (pA (pA τ 13 (nI n) k) 14 (nI n) v) 15 (nI n) 0) 16 (nI n) (-1)) 17 (nI n) (-1)) 8 (nI (n + 1))) 13 (nI n) = k := by
      rw [xA_pI, xA_pA, if_neg (fun w => absurd w.1 (by decide)), xA_pA, if_neg (fun w => absurd w.1 (by decide)), xA_pA, if_neg (fun w => absurd w.1 (by decide)), xA_pA, if_neg (fun w => absurd w.1 (by decide)), xA_self]
    have e14 : xA (pI (pA (pA (pA (pA (pA τ 13 (nI n) k) 14 (nI n) v) 15 (nI n) 0) 16 (nI n) (-1)) 17 (nI n) (-1)) 8 (nI (n + 1))) 14 (nI n) = v := by
      rw [xA_pI, xA_pA, if_neg (fun w => absurd w.1 (by decide)), xA_pA, if_neg (fun w => absurd w.1 (by decide)), xA_pA, if_neg (fun w => absurd w.1 (by decide)), xA_self]
    have e16 : xA (pI (pA (pA (pA (pA (pA τ 13 (nI n) k) 14 (nI n) v) 15 (nI n) 0) 16 (nI n) (-1)) 17 (nI n) (-1)) 8 (nI (n + 1))) 16 (nI n) = -1 := by
      rw [xA_pI, xA_pA, if_neg (fun w => absurd w.1 (by decide)), xA_self]
    have e17 : xA (pI (pA (pA (pA (pA (pA τ 13 (nI n) k) 14 (nI n) v) 15 (nI n) 0) 16 (nI n) (-1)) 17 (nI n) (-1)) 8 (nI (n + 1))) 17 (nI n) = -1 := by
      rw [xA_pI, xA_self]
    unfold mlf
    rw [e13, e14]
    generalize pI (pA (pA (pA (pA (pA τ 13 (nI n) k) 14 (nI n) v) 15 (nI n) 0) 16 (nI n) (-1)) 17 (nI n) (-1)) 8 (nI (n + 1)) = ρ at e13 e14 e16 e17
    have ex : ∀ g, ¬ g = 18 → ¬ g = 19 → xA (pB (pA (pA ρ 18 (nI n) 1) 19 (nI n) 1) 2 (nI n) (lbit k v)) g (nI n) = xA ρ g (nI n) := fun g a b => by
      show xA (pA (pA ρ 18 (nI n) 1) 19 (nI n) 1) g (nI n) = _
      rw [xA_pA, if_neg (fun w => b w.1), xA_pA, if_neg (fun w => a w.1)]
    refine ⟨(ex 13 (by decide) (by decide)).trans e13, (ex 14 (by decide) (by decide)).trans e14, (ex 16 (by decide) (by decide)).trans e16, (ex 17 (by decide) (by decide)).trans e17, ?_, ?_, ?_⟩
    · show xA (pA (pA ρ 18 (nI n) 1) 19 (nI n) 1) 18 (nI n) = _
      rw [xA_pA, if_neg (fun w => absurd w.1 (by decide)), xA_self]
    · show xA (pA (pA ρ 18 (nI n) 1) 19 (nI n) 1) 19 (nI n) = _
      rw [xA_self]
    · rw [xB_pB, if_pos ⟨rfl, rfl⟩]
