/-- the tree is the same -/
def TE (τ σ : S5) : Prop := (∀ c, xA σ 13 c = xA τ 13 c ∧ xA σ 15 c = xA τ 15 c ∧ xA σ 16 c = xA τ 16 c ∧ xA σ 17 c = xA τ 17 c ∧ (¬ xA τ 13 c = 7 → xA σ 14 c = xA τ 14 c)) ∧ (∀ g, xA σ 2 g = xA τ 2 g) ∧ (∀ g, xA σ 3 g = xA τ 3 g)
theorem TE.of {τ σ σ' : S5} (h : TE τ σ) (e : ∀ j, gA σ' j = gA σ j) : TE τ σ' := by
  have ex : ∀ j i, xA σ' j i = xA σ j i := fun j i => by show gA σ' j _ = gA σ j _; rw [e]
  refine ⟨fun c => ?_, fun g => by rw [ex]; exact h.2.1 g, fun g => by rw [ex]; exact h.2.2 g⟩
  rw [ex, ex, ex, ex, ex]
  exact h.1 c
/-- a lane's variables -/
def XL (σ : S5) (l x : Nat) : Bool := lb (xB σ 6 (nI x)) l
/-- what finding a word writes -/
def FrD (g lo hi : Nat) (σ σ' : S5) : Prop := (∀ j, ¬ j = 24 → ¬ j = 22 → gI σ' j = gI σ j) ∧ (∀ j, gJ σ' j = gJ σ j) ∧ (∀ j, gA σ' j = gA σ j) ∧ (∀ j, ¬ j = 6 → ¬ j = 7 → gB σ' j = gB σ j) ∧ σ'.2.2.2.2 = σ.2.2.2.2 ∧ (∀ x, x < g → xB σ' 7 (nI x) = xB σ 7 (nI x)) ∧ (∀ x, x < 40 → x < lo ∨ hi ≤ x → xB σ' 6 (nI x) = xB σ 6 (nI x)) ∧ (∀ x l, x < 40 → l < 64 → XL σ l x = true → XL σ' l x = true) ∧ (gI σ' 24 = 0 → gI σ 24 = 0) ∧ (gI σ 24 = 0 ∨ gI σ 24 = 1 → gI σ' 24 = 0 ∨ gI σ' 24 = 1) ∧ (gI σ 24 = 0 → gI σ' 24 = 0 ∨ ∃ x l, x < 40 ∧ l < 64 ∧ XL σ l x = false ∧ XL σ' l x = true)
theorem FrD.rf (g lo hi : Nat) (σ : S5) : FrD g lo hi σ σ := ⟨fun _ _ _ => rfl, fun _ => rfl, fun _ => rfl, fun _ _ _ => rfl, rfl, fun _ _ => rfl, fun _ _ _ => rfl, fun _ _ _ _ w => w, fun w => w, fun w => w, fun w => Or.inl w⟩
theorem FrD.tr {g lo hi : Nat} {σ σ1 σ2 : S5} (h : FrD g lo hi σ σ1) (k : FrD g lo hi σ1 σ2) : FrD g lo hi σ σ2 := by
  obtain ⟨a1, a2, a3, a4, a5, a6, a7, a8, a9, a10, a11⟩ := h
  obtain ⟨b1, b2, b3, b4, b5, b6, b7, b8, b9, b10, b11⟩ := k
  refine ⟨fun j x y => (b1 j x y).trans (a1 j x y), fun j => (b2 j).trans (a2 j), fun j => (b3 j).trans (a3 j), fun j x y => (b4 j x y).trans (a4 j x y), b5.trans a5, fun x w => (b6 x w).trans (a6 x w), fun x w z => (b7 x w z).trans (a7 x w z), fun x l w z y => b8 x l w z (a8 x l w z y), fun w => a9 (b9 w), fun w => b10 (a10 w), fun w => ?_⟩
  rcases a11 w with z | ⟨x, l, z1, z2, z3, z4⟩
  · rcases b11 z with y | ⟨x, l, z1, z2, z3, z4⟩
    · exact Or.inl y
    · refine Or.inr ⟨x, l, z1, z2, ?_, z4⟩
      cases e : XL σ l x with
      | false => rfl
      | true => rw [a8 x l z1 z2 e] at z3; exact absurd z3 (by decide)
  · exact Or.inr ⟨x, l, z1, z2, z3, b8 x l z1 z2 z4⟩
theorem FrD.wd {g lo hi g' lo' hi' : Nat} {σ σ1 : S5} (h : FrD g' lo' hi' σ σ1) (hg : g ≤ g') (h1 : lo ≤ lo') (h2 : hi' ≤ hi) : FrD g lo hi σ σ1 := by
  obtain ⟨a1, a2, a3, a4, a5, a6, a7, a8⟩ := h
  exact ⟨a1, a2, a3, a4, a5, fun x w => a6 x (by omega), fun x w z => a7 x w (by omega), a8⟩
theorem FrD.T {g lo hi : Nat} {σ σ1 : S5} (h : FrD g lo hi σ σ1) (pa : Nat → Nat) : TBc σ1 pa = TBc σ pa := by
  funext f ρ
  unfold TBc
  show (_ && lb (gB σ1 5 _) _) = (_ && lb (gB σ 5 _) _)
  rw [h.2.2.2.1 5 (by decide) (by decide)]
theorem FrD.xl {g lo hi : Nat} {σ σ1 : S5} (h : FrD g lo hi σ σ1) {x : Nat} (hx : x < 40) (hz : x < lo ∨ hi ≤ x) (l : Nat) : XL σ1 l x = XL σ l x := by
  unfold XL
  rw [h.2.2.2.2.2.2.1 x hx hz]
/-- tables beneath tables -/
def Crs (T T' : Nat → (Nat → Bool) → Bool) : Prop := ∀ f (ρ ρ' : Nat → Bool), (∀ i, ρ i = true → ρ' i = true) → T f ρ = true → T' f ρ' = true
/-- a lane's variables lie beneath Y -/
def HY (Z : Nat → Prop) (σ : S5) (l : Nat) (Y : Nat → Bool) : Prop := ∀ x, Z x → XL σ l x = true → Y x = true
def Zn (Sc : Nat → Prop) (lo hi : Nat) (x : Nat) : Prop := Sc x ∨ (lo ≤ x ∧ x < hi)
/-- what a word says of its part -/
def WdP (τ : S5) (pa : Nat → Nat) (n L : Nat) (T : Nat → (Nat → Bool) → Bool) (Sc : Nat → Prop) (lo hi : Nat) (c : Int32) (σ : S5) (w : Int64) (σ' : S5) : Prop :=
  (∀ l, l < L → ∀ T' Y, Crs T T' → Clo τ pa T' Y n c → HY (Zn Sc lo hi) σ l Y → HY (Zn Sc lo hi) σ' l Y ∧ (lb w l = true → dv τ pa T' Y n c = true)) ∧ (gI σ' 24 = 0 → ∀ l, l < L → lb w l = dv τ pa T (XL σ' l) n c ∧ ClV τ pa T (XL σ' l) n c)
/-- the word of a part is found -/
def WdA (τ : S5) (pa : Nat → Nat) (d n : Nat) (c : Int32) (Sc : Nat → Prop) (lo hi : Nat) : Prop := ∀ (g L : Nat) (σ : S5), TE τ σ → gI σ 22 = nI g → gI σ 23 = nI L → L ≤ 64 → (gI σ 24 = 0 ∨ gI σ 24 = 1) → g + 8 * hF τ c ≤ 328 → ∃ w σ', f_wordE d c σ = some (w, σ') ∧ gI σ' 22 = nI g ∧ FrD g lo hi σ σ' ∧ WdP τ pa n L (TBc σ pa) Sc lo hi c σ w σ'
theorem HY.kid {Sc Sc' : Nat → Prop} {lo hi lo' hi' g : Nat} {σ σ1 : S5} {l : Nat} {Y : Nat → Bool} (hZ : ∀ x, Zn Sc lo hi x → x < 40) (hF : FrD g lo' hi' σ σ1) (h : HY (Zn Sc lo hi) σ l Y) (h' : HY (Zn Sc' lo' hi') σ1 l Y) : HY (Zn Sc lo hi) σ1 l Y := fun x zx w => by
  by_cases hx : lo' ≤ x ∧ x < hi'
  · exact h' x (Or.inr hx) w
  · rw [hF.xl (hZ x zx) (by omega)] at w
    exact h x zx w
/-- what is known of a part's numbers -/
def Rg (τ : S5) (F : Nat) : Nat → Int32 → Prop
  | 0, _ => True
  | n + 1, c => (0 ≤ c ∧ c < 6200) ∧ (xA τ 13 c = 2 → ∃ g, g < F ∧ xA τ 14 c = nI g) ∧ (xA τ 13 c = 5 ∨ xA τ 13 c = 8 ∨ xA τ 13 c = 9 → chA τ (fun a => Rg τ F n a) 9 (xA τ 16 c)) ∧ (xA τ 13 c = 6 → Rg τ F n (xA τ 16 c) ∧ chA τ (fun a => Rg τ F n (xA τ 16 a) ∧ (xA τ 13 a = 11 → 0 ≤ xA τ 14 a ∧ xA τ 14 a < 30)) 9 (xA τ 17 (xA τ 16 c))) ∧ (xA τ 13 c = 7 → Rg τ F n (xA τ 16 c) ∧ chA τ (fun b => Rg τ F n (xA τ 16 b) ∧ ¬ xA τ 13 b = 7) 9 (xA τ 17 (xA τ 16 c)))
theorem Rg.c {τ : S5} {F n : Nat} {c : Int32} (h : Rg τ F n c) (hn : 0 < n) : 0 ≤ c ∧ c < 6200 := by
  obtain ⟨m, rfl⟩ : ∃ m, n = m + 1 := ⟨n - 1, by omega⟩
  exact h.1
theorem wordE_s (d : Nat) (c : Int32) (σ : S5) : f_wordE (d + 1) c σ = f_X1_wordOf (f_wordE d) c σ := rfl
/-- the word of a leaf -/
theorem wd_leaf {τ : S5} {pa : Nat → Nat} {F d n : Nat} {c : Int32} {Sc : Nat → Prop} {lo hi : Nat} (hpa : ∀ g, g < F → xA τ 3 (nI g) = nI (pa g) ∧ pa g ≤ 8) (hF6 : F ≤ 630) (hlh : lo ≤ hi) (q1 : xA τ 13 c ≤ 4) (q2 : xA τ 13 c = 3 → ∃ x, xA τ 14 c = nI x ∧ Sc x) (hS : ∀ x, Sc x → x < lo) (h40 : hi ≤ 40) (hR : Rg τ F (n + 1) c) : WdA τ pa (d + 1) (n + 1) c Sc lo hi := by
  intro g L σ hE h22 h23 hL h24 hg
  obtain ⟨⟨c0, c6⟩, r2, -⟩ := hR
  have h5 : ¬ xA τ 13 c = 5 := fun w => by rw [w] at q1; exact absurd q1 (by decide)
  have h6 : ¬ xA τ 13 c = 6 := fun w => by rw [w] at q1; exact absurd q1 (by decide)
  have h7 : ¬ xA τ 13 c = 7 := fun w => by rw [w] at q1; exact absurd q1 (by decide)
  have h8 : ¬ xA τ 13 c = 8 := fun w => by rw [w] at q1; exact absurd q1 (by decide)
  have e13 := (hE.1 c).1
  have e14 := (hE.1 c).2.2.2.2 h7
  have hcl : ∀ T X, ClV τ pa T X (n + 1) c := fun T X => by
    unfold ClV
    exact ⟨fun w => absurd w h5, fun w => absurd w h6, fun w => absurd w h7, fun w => absurd w h8⟩
  have fin : ∀ w, f_wordE (d + 1) c σ = some (w, σ) → (∀ l, l < L → lb w l = dv τ pa (TBc σ pa) (XL σ l) (n + 1) c) → (∀ l, l < L → ∀ T' Y, Crs (TBc σ pa) T' → HY (Zn Sc lo hi) σ l Y → lb w l = true → dv τ pa T' Y (n + 1) c = true) → ∃ w σ', f_wordE (d + 1) c σ = some (w, σ') ∧ gI σ' 22 = nI g ∧ FrD g lo hi σ σ' ∧ WdP τ pa (n + 1) L (TBc σ pa) Sc lo hi c σ w σ' := fun w a b b' => ⟨w, σ, a, h22, FrD.rf _ _ _ _, fun l hl T' Y k1 k2 k3 => ⟨k3, b' l hl T' Y k1 k3⟩, fun _ l hl => ⟨b l hl, hcl _ _⟩⟩
  have ew : f_wordE (d + 1) c σ = if xA τ 13 c = 2 then bd (f_X1_alone (xA τ 14 c) σ) (fun r85 τ85 => some (r85, τ85)) else if xA τ 13 c = 3 then (gd (xA τ 14 c) 40 <| some ((xB σ 6 (xA τ 14 c)), σ)) else if xA τ 13 c = 4 then some ((0 : Int64), σ) else some (((-1) : Int64), σ) := by
    rw [wordE_s]
    unfold f_X1_wordOf
    rw [gd6200 c0 c6, gd6200 c0 c6, gd6200 c0 c6, gd6200 c0 c6, e13, e14, if_neg h5, if_neg h6, if_neg h7, if_neg h8]
  by_cases k2 : xA τ 13 c = 2
  · obtain ⟨f, f1, f2⟩ := r2 k2
    obtain ⟨p1, p2⟩ := hpa f f1
    rw [if_pos k2, f2, alone_go (pa := pa) (by omega) (by rw [hE.2.2]; exact p1) p2, bd_of] at ew
    have hd : ∀ T X, dv τ pa T X (n + 1) c = if pa f = 0 then T f (fun _ => false) else true := fun T X => by
      unfold dv
      rw [if_pos k2, f2, nI_clamp (by omega)]
    refine fin _ ew (fun l hl => ?_) (fun l hl T' Y k1 k3 w => ?_)
    · rw [hd]
      by_cases hz : pa f = 0
      · rw [if_pos hz, if_pos hz]
        cases TBc σ pa f (fun _ => false) with
        | false => rw [if_neg (by decide), lb_0]
        | true => rw [if_pos rfl, lb_m1 (by omega)]
      · rw [if_neg hz, if_neg hz, lb_m1 (by omega)]
    · rw [hd]
      by_cases hz : pa f = 0
      · rw [if_pos hz] at w ⊢
        cases ht : TBc σ pa f (fun _ => false) with
        | false => rw [ht, if_neg (by decide), lb_0] at w; exact absurd w (by decide)
        | true => exact k1 f _ _ (fun _ z => z) ht
      · rw [if_neg hz]
  · rw [if_neg k2] at ew
    by_cases k3 : xA τ 13 c = 3
    · obtain ⟨x, x1, x2⟩ := q2 k3
      have hx := hS x x2
      have hd : ∀ T X, dv τ pa T X (n + 1) c = X x := fun T X => by
        unfold dv
        rw [if_neg k2, if_pos k3, x1, nI_clamp (by omega)]
      rw [if_pos k3, x1, gdn (by omega) (by omega)] at ew
      refine fin _ ew (fun l hl => ?_) (fun l hl T' Y k1 k3 w => ?_)
      · rw [hd]; rfl
      · rw [hd]
        exact k3 x (Or.inl x2) w
    · rw [if_neg k3] at ew
      by_cases k4 : xA τ 13 c = 4
      · rw [if_pos k4] at ew
        have hd : ∀ T X, dv τ pa T X (n + 1) c = false := fun T X => by
          unfold dv
          rw [if_neg k2, if_neg k3, if_pos k4]
        exact fin _ ew (fun l hl => by rw [hd, lb_0]) (fun l hl T' Y k1 k3 w => by rw [lb_0] at w; exact absurd w (by decide))
      · rw [if_neg k4] at ew
        have hd : ∀ T X, dv τ pa T X (n + 1) c = true := fun T X => by
          unfold dv
          rw [if_neg k2, if_neg k3, if_neg k4, if_neg h5, if_neg h6, if_neg h7, if_neg h8]
        exact fin _ ew (fun l hl => by rw [hd, lb_m1 (by omega)]) (fun l hl T' Y k1 k3 w => hd _ _)
