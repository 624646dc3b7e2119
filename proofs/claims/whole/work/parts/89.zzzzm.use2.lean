theorem Stk.st {σ μ ν : S5} : ∀ (m : Nat) (h : Int32) (top : Nat), Stk σ μ m h top → (∀ p, p < top → xB ν 4 (nI p) = xB μ 4 (nI p) ∧ xA ν 26 (nI p) = xA μ 26 (nI p)) → Stk σ ν m h top := by
  intro m
  induction m with
  | zero => intro h top q; exact absurd q (fun w => w)
  | succ m ih =>
    intro h top q hp
    rcases q with q | ⟨h0, h7, j, base, j5, hj, ht, hrow, hs⟩
    · exact Or.inl q
    · refine Or.inr ⟨h0, h7, j, base, j5, hj, ht, fun i hi => ?_, ih _ _ hs (fun p hpb => hp p (by omega))⟩
      have := hp (base + i) (by omega)
      rw [this.1, this.2]
      exact hrow i hi
theorem Aro.st {σ τ μ ν : S5} {S : Int32} : ∀ (m : Nat) (o : Int32) (d : Nat), Aro σ τ μ S m o d → (∀ p, p < d → xA ν 27 (nI p) = xA μ 27 (nI p)) → Aro σ τ ν S m o d := by
  intro m
  induction m with
  | zero => intro o d q; exact absurd q (fun w => w)
  | succ m ih =>
    intro o d q hp
    obtain ⟨h1, h2, h3, d1, h4, h5, h6⟩ := q
    refine ⟨h1, h2, h3, d1, h4, by rw [hp d1 (by omega)]; exact h5, ?_⟩
    rcases h6 with h6 | ⟨h6, h7, h8⟩
    · exact Or.inl h6
    · exact Or.inr ⟨h6, h7, ih _ _ h8 (fun p hpd => hp p (by omega))⟩
theorem FRs.st {σ τ μ ν : S5} {B F : Nat} (h : FRs σ τ μ B F) (h20 : ∀ x, xA ν 20 x = xA μ 20 x) (h21 : ∀ x, xA ν 21 x = xA μ 21 x) : FRs σ τ ν B F := by
  intro f hf
  obtain ⟨c, r, a1, a2, a3, a4, a5⟩ := h f hf
  exact ⟨c, r, a1, by rw [h20]; exact a2, a3, a4, fun i i1 i2 => by rw [h21]; exact a5 i i1 i2⟩
theorem Ich.le {σ : S5} {k : Nat} {fs : Nat → Int32} {S : Int32} (hg : GS σ k fs S) : ∀ (m : Nat) (h s : Int32), Ich σ m h s → h < S → 0 ≤ s → s ≤ h := by
  intro m
  induction m with
  | zero => intro h s q; exact absurd q (fun w => w)
  | succ m ih =>
    intro h s q hS s0
    rcases q with q | ⟨q1, q2⟩
    · rw [q]; grind
    · rcases hg.1 h q1 hS with ⟨c1, c2, _⟩ | ⟨c1, c2, c3⟩
      · rw [c1] at q2
        match m, q2 with
        | m + 1, Or.inl q => exact absurd s0 (by rw [← q]; decide)
        | m + 1, Or.inr q => exact absurd q.1 (by decide)
      · have := ih _ _ q2 (by grind) s0
        grind
theorem Och.up {σ : S5} {o w : Int32} : ∀ (d m : Nat) (o w : Int32), Och σ m o w → Och σ (m + d) o w := by
  intro d m
  induction m with
  | zero => intro o w q; exact absurd q (fun w => w)
  | succ m ih =>
    intro o w q
    rw [show m + 1 + d = (m + d) + 1 by omega]
    rcases q with q | ⟨q1, q2⟩
    · exact Or.inl q
    · exact Or.inr ⟨q1, ih _ _ q2⟩
theorem Aro.up {σ τ μ : S5} {S : Int32} : ∀ (e m : Nat) (o : Int32) (d : Nat), Aro σ τ μ S m o d → Aro σ τ μ S (m + e) o d := by
  intro e m
  induction m with
  | zero => intro o d q; exact absurd q (fun w => w)
  | succ m ih =>
    intro o d q
    obtain ⟨h1, h2, h3, d1, h4, h5, h6⟩ := q
    rw [show m + 1 + e = (m + e) + 1 by omega]
    refine ⟨h1, h2, h3, d1, h4, h5, ?_⟩
    rcases h6 with h6 | ⟨h6, h7, h8⟩
    · exact Or.inl h6
    · exact Or.inr ⟨h6, h7, ih _ _ h8⟩
/-- what stays the same while the names are looked for -/
def Env (σ τr μ0 : S5) (k U F : Nat) (fs : Nat → Int32) (S : Int32) : Prop := DN σ ∧ GS σ k fs S ∧ (0 ≤ S ∧ S ≤ 630) ∧ k ≤ 30 ∧ F ≤ 630 ∧ Nij σ τr S F ∧ Al σ τr ∧ (∀ u, u < U → xA τr 30 (nI u) = tg σ k u) ∧ (U ≤ 600 ∧ gI σ 10 = nI U) ∧ gI μ0 13 = nI k ∧ (∀ i, i < k → xB σ 1 (nI i) = xB μ0 2 (nI i))
/-- what a use never writes -/
def FrU (n : Int32) (σ τ : S5) : Prop := (∀ j, ¬ j = 7 → ¬ j = 8 → gI τ j = gI σ j) ∧ (∀ j, gJ τ j = gJ σ j) ∧ (∀ j, ¬ j = 7 → ¬ j = 8 → ¬ j = 20 → ¬ j = 21 → gA τ j = gA σ j) ∧ (∀ j, gB τ j = gB σ j) ∧ τ.2.2.2.2 = σ.2.2.2.2 ∧ (∀ i : Int32, ¬ i.toNatClampNeg = n.toNatClampNeg → xA τ 7 i = xA σ 7 i ∧ xA τ 8 i = xA σ 8 i)
theorem FrU.us (μ : S5) (n a b : Int32) : FrU n μ (mUs μ n a b) := by
  refine ⟨fun _ _ _ => rfl, fun _ => rfl, fun j h7 h8 _ _ => ?_, fun _ => rfl, rfl, fun i hi => ⟨?_, ?_⟩⟩
  · unfold mUs
    rw [gA_ne _ _ _ h7, gA_ne _ _ _ h8]
  · unfold mUs
    rw [xA_pA, if_neg (fun w => hi w.2), xA_pA, if_neg (fun w => absurd w.1 (by decide))]
  · unfold mUs
    rw [xA_pA, if_neg (fun w => absurd w.1 (by decide)), xA_pA, if_neg (fun w => hi w.2)]
theorem FrU.fl {μ ν : S5} {n a b : Int32} (h : FrU n μ ν) : FrU n μ (pI (pI ν 7 a) 8 b) := ⟨fun j h7 h8 => by rw [gI_pI, if_neg h8, gI_pI, if_neg h7]; exact h.1 j h7 h8, h.2⟩
theorem FrU.g {μ ν ρ : S5} {n : Int32} (h : FrU n μ ν) (g : FrG ν ρ) : FrU n μ ρ := by
  refine ⟨fun j a b => (g.1 j).trans (h.1 j a b), fun j => (g.2.1 j).trans (h.2.1 j), fun j a b c d => (g.2.2.1 j c d).trans (h.2.2.1 j a b c d), fun j => (g.2.2.2.1 j).trans (h.2.2.2.1 j), g.2.2.2.2.trans h.2.2.2.2.1, fun i hi => ?_⟩
  rw [g.x 7 i (by decide) (by decide), g.x 8 i (by decide) (by decide)]
  exact h.2.2.2.2.2 i hi
/-- what is said of a use at its node -/
def Sd (σ ν : S5) (k u : Nat) (n : Int32) : Prop := (0 ≤ tg σ k u ∧ xA ν 8 n = 1 ∧ VR σ (tg σ k u) (xA ν 7 n)) ∨ (tg σ k u < 0 ∧ xA ν 8 n = 0 ∧ (¬ tg σ k u = -1 → xA ν 7 n = -2 - tg σ k u ∧ 0 ≤ xA ν 7 n ∧ xA ν 7 n < nI k))
