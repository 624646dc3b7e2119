/-- the free variables of a function, alike -/
def FR1 (σ τ μ : S5) (B f : Nat) : Prop := ∃ c r : Nat, xA τ 4 (nI f) = nI c ∧ xA μ 20 (nI f) = nI r ∧ c ≤ B ∧ ((r ≤ 8 ∧ c = r) ∨ (r = 9 ∧ 9 ≤ c)) ∧ ∀ i, i < r → i < 8 → VR σ (xA τ 5 (nI (f * 8 + i))) (xA μ 21 (nI (9 * f + i)))
def FRs (σ τ μ : S5) (B F : Nat) : Prop := ∀ f, f < F → FR1 σ τ μ B f
/-- what looking for free variables never writes -/
def FrF (σ τ : S5) : Prop := (∀ j, gI τ j = gI σ j) ∧ (∀ j, gJ τ j = gJ σ j) ∧ (∀ j, ¬ j = 4 → ¬ j = 5 → gA τ j = gA σ j) ∧ (∀ j, gB τ j = gB σ j) ∧ τ.2.2.2.2 = σ.2.2.2.2
theorem FrF.rf (σ : S5) : FrF σ σ := ⟨fun _ => rfl, fun _ => rfl, fun _ _ _ => rfl, fun _ => rfl, rfl⟩
theorem FrF.tr {σ τ ρ : S5} (h : FrF σ τ) (h2 : FrF τ ρ) : FrF σ ρ := ⟨fun j => (h2.1 j).trans (h.1 j), fun j => (h2.2.1 j).trans (h.2.1 j), fun j a b => (h2.2.2.1 j a b).trans (h.2.2.1 j a b), fun j => (h2.2.2.2.1 j).trans (h.2.2.2.1 j), h2.2.2.2.2.trans h.2.2.2.2⟩
theorem FrF.A {σ τ : S5} {k : Nat} {i v : Int32} (h : FrF σ τ) (hk : k = 4 ∨ k = 5) : FrF σ (pA τ k i v) := ⟨h.1, h.2.1, fun j a b => by rw [gA_ne _ _ _ (by omega)]; exact h.2.2.1 j a b, h.2.2.2⟩
theorem FrF.x {σ τ : S5} (h : FrF σ τ) (j : Nat) (i : Int32) (h1 : ¬ j = 4) (h2 : ¬ j = 5) : xA τ j i = xA σ j i := by
  show gA τ j i.toNatClampNeg = gA σ j i.toNatClampNeg
  rw [h.2.2.1 j h1 h2]
def FrG (σ τ : S5) : Prop := (∀ j, gI τ j = gI σ j) ∧ (∀ j, gJ τ j = gJ σ j) ∧ (∀ j, ¬ j = 20 → ¬ j = 21 → gA τ j = gA σ j) ∧ (∀ j, gB τ j = gB σ j) ∧ τ.2.2.2.2 = σ.2.2.2.2
theorem FrG.rf (σ : S5) : FrG σ σ := ⟨fun _ => rfl, fun _ => rfl, fun _ _ _ => rfl, fun _ => rfl, rfl⟩
theorem FrG.tr {σ τ ρ : S5} (h : FrG σ τ) (h2 : FrG τ ρ) : FrG σ ρ := ⟨fun j => (h2.1 j).trans (h.1 j), fun j => (h2.2.1 j).trans (h.2.1 j), fun j a b => (h2.2.2.1 j a b).trans (h.2.2.1 j a b), fun j => (h2.2.2.2.1 j).trans (h.2.2.2.1 j), h2.2.2.2.2.trans h.2.2.2.2⟩
theorem FrG.A {σ τ : S5} {k : Nat} {i v : Int32} (h : FrG σ τ) (hk : k = 20 ∨ k = 21) : FrG σ (pA τ k i v) := ⟨h.1, h.2.1, fun j a b => by rw [gA_ne _ _ _ (by omega)]; exact h.2.2.1 j a b, h.2.2.2⟩
theorem FrG.x {σ τ : S5} (h : FrG σ τ) (j : Nat) (i : Int32) (h1 : ¬ j = 20) (h2 : ¬ j = 21) : xA τ j i = xA σ j i := by
  show gA τ j i.toNatClampNeg = gA σ j i.toNatClampNeg
  rw [h.2.2.1 j h1 h2]
theorem FR1.le {σ τ μ : S5} {B B' f : Nat} (h : FR1 σ τ μ B f) (hB : B ≤ B') : FR1 σ τ μ B' f := by
  obtain ⟨c, r, a1, a2, a3, a4⟩ := h
  exact ⟨c, r, a1, a2, by omega, a4⟩
theorem FRs.le {σ τ μ : S5} {B B' F : Nat} (h : FRs σ τ μ B F) (hB : B ≤ B') : FRs σ τ μ B' F := fun f hf => (h f hf).le hB
/-- the class's rows of free variables, one more -/
def cFr (τ : S5) (f c : Nat) (y : Int32) : S5 := pA (if c < 8 then pA τ 5 (nI (f * 8 + c)) y else τ) 4 (nI f) (nI (c + 1))
theorem c_addF {τ : S5} {f c : Nat} {y : Int32} (hf : f < 630) (hc : xA τ 4 (nI f) = nI c) (hc7 : c < 1000000) : (∃ q, q < min c 8 ∧ xA τ 5 (nI (f * 8 + q)) = y ∧ f_X2_addFree (nI f) y τ = some ((), τ)) ∨ ((∀ a, a < min c 8 → ¬ xA τ 5 (nI (f * 8 + a)) = y) ∧ f_X2_addFree (nI f) y τ = some ((), cFr τ f c y)) := by
  have hbig := FU_big (n := 30000) (by decide)
  unfold f_X2_addFree f_X2_freeIndex
  rcases fi_loop (y := y) hf hc hc7 (min c 8) 0 FU (by omega) (by omega) with ⟨q, q1, q2, q3, q4, q5⟩ | ⟨q1, q2⟩
  · refine Or.inl ⟨q, q2, q3, ?_⟩
    rw [show (0 : Int32) = nI 0 from rfl, q5, bd_of, if_neg (by have : ¬ nI q < 0 := nI_nneg (by omega); grind)]
  · refine Or.inr ⟨fun a ha => q1 a (by omega) ha, ?_⟩
    rw [show (0 : Int32) = nI 0 from rfl, q2, bd_of, if_pos rfl, gdn hf (by omega), hc]
    unfold f_X2_addFree_b48 cFr
    by_cases h8 : c < 8
    · rw [if_neg (fun w => by have := (nI_le31 (a := 8) (by omega) (by omega)).mp w; omega), if_pos h8, gdn hf (by omega), ix8, gdn (by omega) (by omega), gdn hf (by omega), gdn hf (by omega), xA_pA τ 5 4, if_neg (fun w => absurd w.1 (by decide)), hc, nI_add1]
    · rw [if_pos (show (8 : Int32) ≤ nI c from (nI_le31 (a := 8) (by omega) (by omega)).mpr (by omega)), if_neg h8, gdn hf (by omega), gdn hf (by omega), hc, nI_add1]
theorem cFr_4 (τ : S5) (f c g : Nat) (y : Int32) (hf : f < 630) (hg : g < 630) : xA (cFr τ f c y) 4 (nI g) = if g = f then nI (c + 1) else xA τ 4 (nI g) := by
  unfold cFr
  by_cases h : g = f
  · subst h
    rw [if_pos rfl, xA_pA, if_pos ⟨rfl, rfl⟩]
  · rw [if_neg h, xA_pA, if_neg (fun w => tn_ne (by omega) (by omega) h w.2)]
    by_cases h8 : c < 8
    · rw [if_pos h8, xA_pA, if_neg (fun w => absurd w.1 (by decide))]
    · rw [if_neg h8]
theorem tn_neL {a b : Nat} (ha : a < 1000000) (hb : b < 1000000) (h : ¬ a = b) : ¬ (nI a).toNatClampNeg = (nI b).toNatClampNeg := by
  rw [nI_clamp (by omega), nI_clamp (by omega)]
  exact h
theorem cFr_5 (τ : S5) (f c x : Nat) (y : Int32) (hf : f < 630) (hc : c < 1000000) (hx : x < 5040) : xA (cFr τ f c y) 5 (nI x) = if c < 8 ∧ x = f * 8 + c then y else xA τ 5 (nI x) := by
  unfold cFr
  rw [xA_pA, if_neg (fun w => absurd w.1 (by decide))]
  by_cases h8 : c < 8
  · rw [if_pos h8]
    by_cases hxx : x = f * 8 + c
    · subst hxx
      rw [if_pos ⟨h8, rfl⟩, xA_pA, if_pos ⟨rfl, rfl⟩]
    · rw [if_neg (fun w => hxx w.2), xA_pA, if_neg (fun w => tn_neL (by omega) (by omega) hxx w.2)]
  · rw [if_neg h8, if_neg (fun w => h8 w.1)]
theorem frF_cFr (τ : S5) (f c : Nat) (y : Int32) : FrF τ (cFr τ f c y) := by
  unfold cFr
  refine FrF.A ?_ (Or.inl rfl)
  by_cases h8 : c < 8
  · rw [if_pos h8]; exact (FrF.rf τ).A (Or.inr rfl)
  · rw [if_neg h8]; exact FrF.rf τ
