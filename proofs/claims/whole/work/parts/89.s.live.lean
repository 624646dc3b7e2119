theorem Ct_eq {σ σ' μ μ' : S5} (h : Ct σ μ) (h1 : EqE σ σ') (h2 : EqR μ μ') : Ct σ' μ' := by
  have e1 : gI σ' 4 = gI σ 4 := h1.1 4 (by decide)
  have e2 : gI μ' 14 = gI μ 14 := h2.1 14 (by decide)
  have e3 : ∀ i, xB σ' 0 i = xB σ 0 i := fun i => congrFun (h1.2.2.2.1 0 (by decide)) _
  have e4 : ∀ i, xB μ' 3 i = xB μ 3 i := fun i => congrFun (h2.2.2.2.1 3 (by decide)) _
  have e5 : ∀ i, xA σ' 2 i = xA σ 2 i := fun i => congrFun (h1.2.2.1 2 (by decide)) _
  have e6 : ∀ i, xA μ' 13 i = xA μ 13 i := fun i => congrFun (h2.2.2.1 13 (by decide)) _
  obtain ⟨a1, a2, a3, a4⟩ := h
  refine ⟨by rw [e1, e2]; exact a1, by rw [e1]; exact a2, by rw [e1]; exact a3, fun i q1 q2 => ?_⟩
  rw [e3, e4, e5, e6]
  exact a4 i q1 (by rw [← e1]; exact q2)
/-- numbers within their bounds -/
def Bg (σ μ : S5) : Prop := gI σ 11 = 0 ∧ gI μ 7 = 0 ∧ gI σ 13 = gI μ 11 ∧ 0 ≤ gI σ 13 ∧ gI σ 13 ≤ 600 ∧ gI σ 14 = gI μ 15 ∧ 0 ≤ gI σ 14 ∧ gI σ 14 ≤ 30 ∧ 0 ≤ gI σ 8 ∧ gI σ 8 ≤ 2 * gI σ 18 ∧ 0 ≤ gI σ 9 ∧ gI σ 9 ≤ gI σ 5 + gI σ 13 ∧ 0 ≤ gI σ 5 ∧ gI σ 5 ≤ 30 ∧ 0 ≤ gI σ 10 ∧ gI σ 10 ≤ gI σ 13 ∧ 0 ≤ gI μ 9 ∧ 2 * gI μ 9 ≤ 2 * gI σ 13 + gI σ 18 ∧ 0 ≤ gI μ 10 ∧ gI μ 10 ≤ gI σ 18 ∧ 0 ≤ gI σ 15 ∧ gI σ 15 < gI σ 9
def Sim (σ μ : S5) : Prop := Wd σ μ ∧ Ct σ μ ∧ Bg σ μ
theorem Sim.p3 {σ μ : S5} (h : Sim σ μ) : 0 ≤ gI σ 18 ∧ gI σ 18 ≤ 3000 := by
  obtain ⟨⟨h1, h2, h3, h4, h5, h6, h7, h8, h9, h10, h11⟩, _⟩ := h
  have := h1.2.2.1
  exact ⟨h6, by grind⟩
theorem Sim.rg {σ μ : S5} (h : Sim σ μ) : rg σ := by
  have hp := h.p3
  obtain ⟨hw, hc, hb⟩ := h
  unfold Bg at hb
  obtain ⟨c1, c2, c3, c4⟩ := hc
  exact ⟨by grind, by grind, by grind, by grind, by grind, by grind, c3, fun i q1 q2 => (c4 i q1 q2).2.2.2⟩
/-- the class stops at the word at hand -/
theorem c_ref {σ μ : S5} (h : Sim σ μ) {k : Int32} (hk : ¬ k = 0) : ∃ τ, f_X5_refuse k σ = some ((), τ) ∧ St k (gI σ 18) (gI σ 13) τ := by
  have hr := h.rg
  unfold f_X5_refuse f_X10_stop
  rw [if_pos h.2.2.1]
  exact ⟨_, rfl, rfl, hk, rfl, rfl, rfl, hr⟩
/-- may the word begin an atom, and which constructor is it? -/
def stdK (σ : S5) (r : Int32) : Prop := atK (gI σ 17) ∧ (gI σ 17 = 4 → 0 ≤ r ∧ r < gI σ 4 ∧ xA σ 2 r = 0) ∧ (gI σ 17 = 40 → gI σ 14 < 30)
/-- the fault of a word that may not -/
def badK (σ : S5) (r : Int32) : Int32 := if gI σ 17 = 4 ∧ r = -1 then 3 else 1
theorem c_stands {σ μ : S5} (h : Sim σ μ) {r : Int32} (hr : gI σ 17 = 4 → f_X4_constructorOf (gJ σ 0) σ = some (r, σ) ∧ (r = -1 ∨ (0 ≤ r ∧ r < gI σ 4))) : (stdK σ r ∧ f_X5_atomStands σ = some (1, σ)) ∨ (¬ stdK σ r ∧ ∃ τ, f_X5_atomStands σ = some (0, τ) ∧ St (badK σ r) (gI σ 18) (gI σ 13) τ) := by
  have hk := okK_ne h.1.2.2.2.1
  have hc := h.2.1
  unfold f_X5_atomStands f_X5_atomStands_b93 f_X5_atomStands_b56 f_X5_atomStands_b98 stdK badK atK
  by_cases c4 : gI σ 17 = 4
  · obtain ⟨e, hr⟩ := hr c4
    rw [if_pos c4, e, bd_of]
    by_cases c1 : r = -1
    · right
      obtain ⟨τ, e1, e2⟩ := c_ref h (k := 3) (by decide)
      rw [if_pos c1, e1, bd_of, if_pos e2.1]
      exact ⟨fun q => by have := (q.2.1 c4).1; rw [c1] at this; exact absurd this (by decide), τ, rfl, by rw [if_pos ⟨c4, c1⟩]; exact e2⟩
    · have hr2 : 0 ≤ r ∧ r < gI σ 4 := by rcases hr with hr | hr; exact absurd hr c1; exact hr
      have h4 := hc.2.2.2 r hr2.1 hr2.2
      rw [if_neg c1, gd30 hr2.1 (by have := hc.2.2.1; grind)]
      by_cases c2 : xA σ 2 r ≤ 0
      · left
        rw [if_pos c2, if_neg hk]
        exact ⟨⟨by grind, fun _ => ⟨hr2.1, hr2.2, by grind⟩, fun q => by rw [c4] at q; exact absurd q (by decide)⟩, rfl⟩
      · right
        obtain ⟨τ, e1, e2⟩ := c_ref h (k := 1) (by decide)
        rw [if_neg c2, e1, bd_of, if_pos e2.1]
        exact ⟨fun q => by have := (q.2.1 c4).2.2; grind, τ, rfl, by rw [if_neg (fun q => c1 q.2)]; exact e2⟩
  · rw [if_neg c4, c_isAtom, bd_of]
    obtain ⟨τ, e1, e2⟩ := c_ref h (k := 1) (by decide)
    by_cases c5 : gI σ 17 = 3 ∨ gI σ 17 = 4 ∨ gI σ 17 = 5 ∨ gI σ 17 = 11 ∨ gI σ 17 = 40
    · rw [if_pos c5, if_neg (by decide)]
      by_cases c6 : gI σ 17 = 40
      · rw [if_pos c6]
        by_cases c7 : gI σ 14 < 30
        · left
          rw [if_pos c7, if_neg hk]
          exact ⟨⟨c5, fun q => absurd q c4, fun _ => c7⟩, rfl⟩
        · right
          rw [if_neg c7, e1, bd_of, if_pos e2.1]
          exact ⟨fun q => c7 (q.2.2 c6), τ, rfl, by rw [if_neg (fun q => c4 q.1)]; exact e2⟩
      · left
        rw [if_neg c6, if_neg hk]
        exact ⟨⟨c5, fun q => absurd q c4, fun q => absurd q c6⟩, rfl⟩
    · right
      rw [if_neg c5, if_pos rfl, e1, bd_of, if_pos e2.1]
      exact ⟨fun q => c5 q.1, τ, rfl, by rw [if_neg (fun q => c4 q.1)]; exact e2⟩
