/-- signs are written, one behind the other -/
def LWc : List Int32 → S5 → S5 → Prop
  | [], σ, τ => τ = σ
  | b :: L, σ, τ => ∃ ρ, f_X8_add_draft b σ = some ((), ρ) ∧ LWc L ρ τ
def LWm : List Int32 → S5 → S5 → Prop
  | [], μ, ν => ν = μ
  | b :: L, μ, ν => ∃ ρ, f_X12_letters b μ = some ((), ρ) ∧ LWm L ρ ν
theorem LWc.ap : ∀ {L L' : List Int32} {σ τ : S5}, LWc (L ++ L') σ τ → ∃ ρ, LWc L σ ρ ∧ LWc L' ρ τ
  | [], _, σ, _, h => ⟨σ, rfl, h⟩
  | _ :: _, _, _, _, ⟨ρ, h1, h2⟩ => by
    obtain ⟨ρ', a, b⟩ := LWc.ap h2
    exact ⟨ρ', ⟨ρ, h1, a⟩, b⟩
theorem LWm.ap : ∀ {L L' : List Int32} {σ τ : S5}, LWm (L ++ L') σ τ → ∃ ρ, LWm L σ ρ ∧ LWm L' ρ τ
  | [], _, σ, _, h => ⟨σ, rfl, h⟩
  | _ :: _, _, _, _, ⟨ρ, h1, h2⟩ => by
    obtain ⟨ρ', a, b⟩ := LWm.ap h2
    exact ⟨ρ', ⟨ρ, h1, a⟩, b⟩
/-- BOTH WRITE THE SAME SIGNS -/
theorem wr_L : ∀ (L : List Int32) {σ μ : S5}, WR σ μ → (∀ b, b ∈ L → okS b) → ∃ τ ν, LWc L σ τ ∧ LWm L μ ν ∧ WR τ ν ∧ FrWc σ τ ∧ FrWm μ ν ∧ gA ν 28 = gA μ 28 ∧ gA ν 29 = gA μ 29
  | [], σ, μ, h, _ => ⟨σ, μ, rfl, rfl, h, FrWc.rf σ, FrWm.rf μ, rfl, rfl⟩
  | b :: L, σ, μ, h, hok => by
    obtain ⟨τ, ν, a1, a2, a3, a4, a5, a6, a7⟩ := wr_1 h (hok b (List.mem_cons_self ..))
    obtain ⟨τ', ν', b1, b2, b3, b4, b5, b6, b7⟩ := wr_L L a3 (fun x hx => hok x (List.mem_cons_of_mem _ hx))
    exact ⟨τ', ν', ⟨τ, a1, b1⟩, ⟨ν, a2, b2⟩, b3, a4.tr b4, a5.tr b5, b6.trans a6, b7.trans a7⟩
theorem add_N {b : Int32} {σ τ : S5} (h : f_X8_add_draft b σ = some ((), τ)) : FrWc σ τ := by
  unfold f_X8_add_draft at h
  split at h
  · obtain ⟨-, h⟩ := gd_some h
    cases h
    exact ⟨fun j a _ => by rw [gI_pI, if_neg a]; rfl, fun _ => rfl, fun j a => gA_pA_ne a, fun _ => rfl, rfl⟩
  · cases h
    exact ⟨fun j _ a => by rw [gI_pI, if_neg a], fun _ => rfl, fun _ _ => rfl, fun _ => rfl, rfl⟩
theorem LWc.fr : ∀ {L : List Int32} {σ τ : S5}, LWc L σ τ → FrWc σ τ
  | [], σ, _, h => by cases h; exact FrWc.rf σ
  | _ :: _, _, _, ⟨_, h1, h2⟩ => (add_N h1).tr (LWc.fr h2)
theorem let_N {b : Int32} {μ ν : S5} (h : f_X12_letters b μ = some ((), ν)) : FrWm μ ν ∧ gA ν 28 = gA μ 28 ∧ gA ν 29 = gA μ 29 := by
  unfold f_X12_letters at h
  split at h
  · cases h
    exact ⟨FrWm.rf _, rfl, rfl⟩
  · obtain ⟨-, h⟩ := gd_some h
    cases h
    exact ⟨⟨fun j a => by rw [gI_pI, if_neg a]; rfl, fun _ => rfl, fun j a _ _ => gA_pA_ne a, fun _ => rfl, rfl⟩, gA_pA_ne (by decide), gA_pA_ne (by decide)⟩
theorem LWm.fr : ∀ {L : List Int32} {μ ν : S5}, LWm L μ ν → FrWm μ ν ∧ gA ν 28 = gA μ 28 ∧ gA ν 29 = gA μ 29
  | [], μ, _, h => by cases h; exact ⟨FrWm.rf μ, rfl, rfl⟩
  | _ :: _, _, _, ⟨_, h1, h2⟩ => by
    obtain ⟨a1, a2, a3⟩ := let_N h1
    obtain ⟨b1, b2, b3⟩ := LWm.fr h2
    exact ⟨a1.tr b1, b2.trans a2, b3.trans a3⟩
