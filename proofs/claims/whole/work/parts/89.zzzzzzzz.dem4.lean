theorem chA_mo {τ : S5} {P Q : Int32 → Prop} (h : ∀ a, P a → Q a) : ∀ k a, chA τ P k a → chA τ Q k a
  | 0, _, _ => True.intro
  | k + 1, a, w => by
    rcases w with w | ⟨w1, w2⟩
    · exact Or.inl w
    · exact Or.inr ⟨h a w1, chA_mo h k _ w2⟩
/-- X bears all: what a binding's part may have, its variable has; what an alternative binds has a value -/
def Clo (τ : S5) (pa : Nat → Nat) (T : Nat → (Nat → Bool) → Bool) (X : Nat → Bool) : Nat → Int32 → Prop
  | 0, _ => True
  | n + 1, c => (xA τ 13 c = 5 ∨ xA τ 13 c = 8 ∨ xA τ 13 c = 9 → chA τ (fun a => Clo τ pa T X n a) 9 (xA τ 16 c)) ∧ (xA τ 13 c = 6 → Clo τ pa T X n (xA τ 16 c) ∧ chA τ (fun a => Clo τ pa T X n (xA τ 16 a) ∧ (xA τ 13 a = 11 → ∀ q, q < (xA τ 2 (xA τ 14 a)).toNatClampNeg → X ((xA τ 15 a).toNatClampNeg + q) = true)) 9 (xA τ 17 (xA τ 16 c))) ∧ (xA τ 13 c = 7 → Clo τ pa T X n (xA τ 16 c) ∧ chA τ (fun b => Clo τ pa T X n (xA τ 16 b) ∧ (dv τ pa T X n (xA τ 16 b) = true → X (xA τ 14 b).toNatClampNeg = true)) 9 (xA τ 17 (xA τ 16 c)))
/-- what bears a greater table bears a smaller one -/
theorem Clo_le {τ : S5} {pa : Nat → Nat} {T T' : Nat → (Nat → Bool) → Bool} {X : Nat → Bool} (hT : ∀ f (ρ ρ' : Nat → Bool), (∀ i, ρ i = true → ρ' i = true) → T f ρ = true → T' f ρ' = true) : ∀ n c, Clo τ pa T' X n c → Clo τ pa T X n c
  | 0, _, _ => True.intro
  | n + 1, c, w => by
    have ih := Clo_le (τ := τ) (pa := pa) (X := X) hT n
    unfold Clo at w ⊢
    obtain ⟨w1, w2, w3⟩ := w
    refine ⟨fun h => chA_mo (fun a z => ih a z) 9 _ (w1 h), fun h => ⟨ih _ (w2 h).1, chA_mo (fun a z => ⟨ih _ z.1, z.2⟩) 9 _ (w2 h).2⟩, fun h => ⟨ih _ (w3 h).1, chA_mo (fun a z => ⟨ih _ z.1, fun y => z.2 (dv_le hT (fun _ v => v) n _ y)⟩) 9 _ (w3 h).2⟩⟩
/-- the value of a part with p parameters: what every X that bears all gives -/
def valP (τ : S5) (pa : Nat → Nat) (T : Nat → (Nat → Bool) → Bool) (n p : Nat) (c : Int32) (ρ : Nat → Bool) : Prop := ∀ X : Nat → Bool, (∀ x, x < p → ρ x = true → X x = true) → Clo τ pa T X n c → dv τ pa T X n c = true
theorem valP_le {τ : S5} {pa : Nat → Nat} {T T' : Nat → (Nat → Bool) → Bool} {n p : Nat} {c : Int32} {ρ ρ' : Nat → Bool} (hT : ∀ f (ρ ρ' : Nat → Bool), (∀ i, ρ i = true → ρ' i = true) → T f ρ = true → T' f ρ' = true) (hr : ∀ x, x < p → ρ x = true → ρ' x = true) (h : valP τ pa T n p c ρ) : valP τ pa T' n p c ρ' := fun X h1 h2 => dv_le hT (fun _ v => v) n c (h X (fun x hx w => h1 x hx (hr x hx w)) (Clo_le hT n c h2))
/-- an X that lies beneath all that bear, and bears itself, gives the value -/
theorem valP_of {τ : S5} {pa : Nat → Nat} {T : Nat → (Nat → Bool) → Bool} {n p : Nat} {c : Int32} {ρ : Nat → Bool} (hT : TMo T) {X : Nat → Bool} (h1 : ∀ x, x < p → ρ x = true → X x = true) (h2 : Clo τ pa T X n c) (h3 : ∀ Y : Nat → Bool, (∀ x, x < p → ρ x = true → Y x = true) → Clo τ pa T Y n c → ∀ x, X x = true → Y x = true) : dv τ pa T X n c = true ↔ valP τ pa T n p c ρ := ⟨fun w Y y1 y2 => dv_le hT (h3 Y y1 y2) n c w, fun w => w X h1 h2⟩
