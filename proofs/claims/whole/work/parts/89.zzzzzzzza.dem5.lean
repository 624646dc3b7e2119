/-- a truth value as a bit -/
noncomputable def bP (p : Prop) : Bool := @decide p (Classical.propDecidable p)
theorem bP_t {p : Prop} : bP p = true ↔ p := by
  unfold bP
  exact @decide_eq_true_iff p (Classical.propDecidable p)
/-- the tables, round by round: pa parameters, root rt of each function -/
noncomputable def Tj (τ : S5) (pa : Nat → Nat) (rt : Nat → Int32) (n : Nat) : Nat → Nat → (Nat → Bool) → Bool
  | 0, _, _ => false
  | k + 1, f, ρ => bP (pa f ≤ 8 ∧ valP τ pa (Tj τ pa rt n k) n (pa f) (rt f) ρ)
theorem Tj_mo (τ : S5) (pa : Nat → Nat) (rt : Nat → Int32) (n : Nat) : ∀ k, TMo (Tj τ pa rt n k)
  | 0, _, _, _, _, w => absurd w Bool.false_ne_true
  | k + 1, f, ρ, ρ', hr, w => by
    have h1 := bP_t.mp w
    exact bP_t.mpr ⟨h1.1, valP_le (Tj_mo τ pa rt n k) (fun x _ z => hr x z) h1.2⟩
theorem Tj_le (τ : S5) (pa : Nat → Nat) (rt : Nat → Int32) (n : Nat) : ∀ k, TLe (Tj τ pa rt n k) (Tj τ pa rt n (k + 1))
  | 0, _, _, w => absurd w Bool.false_ne_true
  | k + 1, f, ρ, w => bP_t.mpr ⟨(bP_t.mp w).1, valP_le ((Tj_le τ pa rt n k).l (Tj_mo τ pa rt n k)) (fun _ _ z => z) (bP_t.mp w).2⟩
theorem Tj_up (τ : S5) (pa : Nat → Nat) (rt : Nat → Int32) (n k : Nat) : ∀ d, TLe (Tj τ pa rt n k) (Tj τ pa rt n (k + d))
  | 0, _, _, w => w
  | d + 1, f, ρ, w => Tj_le τ pa rt n (k + d) f ρ (Tj_up τ pa rt n k d f ρ w)
/-- THE LEAST TABLES -/
noncomputable def Tl (τ : S5) (pa : Nat → Nat) (rt : Nat → Int32) (n : Nat) (f : Nat) (ρ : Nat → Bool) : Bool := bP (∃ k, Tj τ pa rt n k f ρ = true)
theorem Tl_mo (τ : S5) (pa : Nat → Nat) (rt : Nat → Int32) (n : Nat) : TMo (Tl τ pa rt n) := fun f ρ ρ' hr w => by
  obtain ⟨k, h⟩ := bP_t.mp w
  exact bP_t.mpr ⟨k, Tj_mo τ pa rt n k f ρ ρ' hr h⟩
theorem Tj_Tl (τ : S5) (pa : Nat → Nat) (rt : Nat → Int32) (n k : Nat) : TLe (Tj τ pa rt n k) (Tl τ pa rt n) := fun _ _ w => bP_t.mpr ⟨k, w⟩
/-- what is closed lies above the least tables -/
theorem Tl_min {τ : S5} {pa : Nat → Nat} {rt : Nat → Int32} {n : Nat} {T : Nat → (Nat → Bool) → Bool} (h : ∀ k, TLe (Tj τ pa rt n k) T → TLe (Tj τ pa rt n (k + 1)) T) : TLe (Tl τ pa rt n) T := fun f ρ w => by
  obtain ⟨k, hk⟩ := bP_t.mp w
  have : ∀ k, TLe (Tj τ pa rt n k) T := by
    intro k
    induction k with
    | zero => exact fun _ _ z => absurd z Bool.false_ne_true
    | succ k ih => exact h k ih
  exact this k f ρ hk
