/-- the i-th behind a node -/
def nx17 (τ : S5) : Nat → Int32 → Int32
  | 0, c => c
  | i + 1, c => nx17 τ i (xA τ 17 c)
/-- one of the alternatives has a value -/
def orA (τ : S5) (v : Int32 → Bool) : Nat → Int32 → Bool
  | 0, _ => false
  | k + 1, a => if a = -1 then false else v (xA τ 16 a) || orA τ v k (xA τ 17 a)
/-- whether a part may have a value: tables T of the functions, X of the variables, pa the numbers of parameters -/
def dv (τ : S5) (pa : Nat → Nat) (T : Nat → (Nat → Bool) → Bool) (X : Nat → Bool) : Nat → Int32 → Bool
  | 0, _ => true
  | n + 1, c =>
    if xA τ 13 c = 2 then (if pa (xA τ 14 c).toNatClampNeg = 0 then T (xA τ 14 c).toNatClampNeg (fun _ => false) else true)
    else if xA τ 13 c = 3 then X (xA τ 14 c).toNatClampNeg
    else if xA τ 13 c = 4 then false
    else if xA τ 13 c = 5 then dv τ pa T X n (xA τ 16 c) && dv τ pa T X n (xA τ 17 (xA τ 16 c))
    else if xA τ 13 c = 6 then dv τ pa T X n (xA τ 16 c) && orA τ (dv τ pa T X n) 9 (xA τ 17 (xA τ 16 c))
    else if xA τ 13 c = 7 then dv τ pa T X n (xA τ 16 c)
    else if xA τ 13 c = 8 then
      (if xA τ 13 (xA τ 16 c) = 2 then
        (if pa (xA τ 14 (xA τ 16 c)).toNatClampNeg ≤ (xA τ 15 c).toNatClampNeg then T (xA τ 14 (xA τ 16 c)).toNatClampNeg (fun i => decide (i < pa (xA τ 14 (xA τ 16 c)).toNatClampNeg) && dv τ pa T X n (nx17 τ i (xA τ 17 (xA τ 16 c)))) else true)
      else dv τ pa T X n (xA τ 16 c))
    else true
theorem orA_le {τ : S5} {v v' : Int32 → Bool} (h : ∀ c, v c = true → v' c = true) : ∀ k a, orA τ v k a = true → orA τ v' k a = true
  | 0, _, w => w
  | k + 1, a, w => by
    unfold orA at w ⊢
    by_cases ha : a = -1
    · rw [if_pos ha] at w
      exact absurd w (by decide)
    · rw [if_neg ha] at w ⊢
      rw [Bool.or_eq_true] at w ⊢
      rcases w with w | w
      · exact Or.inl (h _ w)
      · exact Or.inr (orA_le h k _ w)
/-- more values beneath, more values above -/
theorem dv_le {τ : S5} {pa : Nat → Nat} {T T' : Nat → (Nat → Bool) → Bool} {X X' : Nat → Bool} (hT : ∀ f (ρ ρ' : Nat → Bool), (∀ i, ρ i = true → ρ' i = true) → T f ρ = true → T' f ρ' = true) (hX : ∀ x, X x = true → X' x = true) : ∀ n c, dv τ pa T X n c = true → dv τ pa T' X' n c = true
  | 0, _, _ => rfl
  | n + 1, c, w => by
    have ih := dv_le (τ := τ) (pa := pa) hT hX n
    unfold dv at w ⊢
    by_cases h2 : xA τ 13 c = 2
    · rw [if_pos h2] at w ⊢
      by_cases hp : pa (xA τ 14 c).toNatClampNeg = 0
      · rw [if_pos hp] at w ⊢
        exact hT _ _ _ (fun _ z => z) w
      · rw [if_neg hp]
    · rw [if_neg h2] at w ⊢
      by_cases h3 : xA τ 13 c = 3
      · rw [if_pos h3] at w ⊢
        exact hX _ w
      · rw [if_neg h3] at w ⊢
        by_cases h4 : xA τ 13 c = 4
        · rw [if_pos h4] at w
          exact absurd w (by decide)
        · rw [if_neg h4] at w ⊢
          by_cases h5 : xA τ 13 c = 5
          · rw [if_pos h5] at w ⊢
            rw [Bool.and_eq_true] at w ⊢
            exact ⟨ih _ w.1, ih _ w.2⟩
          · rw [if_neg h5] at w ⊢
            by_cases h6 : xA τ 13 c = 6
            · rw [if_pos h6] at w ⊢
              rw [Bool.and_eq_true] at w ⊢
              exact ⟨ih _ w.1, orA_le ih 9 _ w.2⟩
            · rw [if_neg h6] at w ⊢
              by_cases h7 : xA τ 13 c = 7
              · rw [if_pos h7] at w ⊢
                exact ih _ w
              · rw [if_neg h7] at w ⊢
                by_cases h8 : xA τ 13 c = 8
                · rw [if_pos h8] at w ⊢
                  by_cases h9 : xA τ 13 (xA τ 16 c) = 2
                  · rw [if_pos h9] at w ⊢
                    by_cases hp : pa (xA τ 14 (xA τ 16 c)).toNatClampNeg ≤ (xA τ 15 c).toNatClampNeg
                    · rw [if_pos hp] at w ⊢
                      refine hT _ _ _ (fun i z => ?_) w
                      rw [Bool.and_eq_true] at z ⊢
                      exact ⟨z.1, ih _ z.2⟩
                    · rw [if_neg hp]
                  · rw [if_neg h9] at w ⊢
                    exact ih _ w
                · rw [if_neg h8]
/-- a table that grows with its row -/
def TMo (T : Nat → (Nat → Bool) → Bool) : Prop := ∀ f (ρ ρ' : Nat → Bool), (∀ i, ρ i = true → ρ' i = true) → T f ρ = true → T f ρ' = true
def TLe (T T' : Nat → (Nat → Bool) → Bool) : Prop := ∀ f ρ, T f ρ = true → T' f ρ = true
theorem TLe.l {T T' : Nat → (Nat → Bool) → Bool} (h : TLe T T') (m : TMo T) : ∀ f (ρ ρ' : Nat → Bool), (∀ i, ρ i = true → ρ' i = true) → T f ρ = true → T' f ρ' = true := fun f ρ ρ' hr w => h f ρ' (m f ρ ρ' hr w)
theorem TLe.r {T T' : Nat → (Nat → Bool) → Bool} (h : TLe T T') (m : TMo T') : ∀ f (ρ ρ' : Nat → Bool), (∀ i, ρ i = true → ρ' i = true) → T f ρ = true → T' f ρ' = true := fun f ρ ρ' hr w => m f ρ ρ' hr (h f ρ w)
