theorem xA_self (σ : S5) (k : Nat) (i v : Int32) : xA (pA σ k i v) k i = v := by rw [xA_pA, if_pos ⟨rfl, rfl⟩]
/-- the first function with too many parameters -/
def FlJ (bad : Nat → Prop) (pl : Nat → Int32) (n : Nat) (f p : Int32) : Prop := (f = 0 ∧ ∀ x, x < n → ¬ bad x) ∨ (f = 6 ∧ ∃ x, x < n ∧ bad x ∧ p = pl x ∧ ∀ y, y < x → ¬ bad y)
theorem FlJ.ok {bad : Nat → Prop} {pl : Nat → Int32} {n : Nat} {f p : Int32} (h : FlJ bad pl n f p) (hb : ¬ bad n) : FlJ bad pl (n + 1) f p := by
  rcases h with ⟨a, b⟩ | ⟨a, x, b1, b2, b3, b4⟩
  · refine Or.inl ⟨a, fun x hx => ?_⟩
    by_cases hxu : x = n
    · rw [hxu]; exact hb
    · exact b x (by omega)
  · exact Or.inr ⟨a, x, by omega, b2, b3, b4⟩
theorem FlJ.no {bad : Nat → Prop} {pl : Nat → Int32} {n : Nat} {f p f' p' : Int32} (h : FlJ bad pl n f p) (hb : bad n) (h0 : f = 0 → f' = 6 ∧ p' = pl n) (h6 : ¬ f = 0 → f' = f ∧ p' = p) : FlJ bad pl (n + 1) f' p' := by
  rcases h with ⟨a, b⟩ | ⟨a, x, b1, b2, b3, b4⟩
  · obtain ⟨c1, c2⟩ := h0 a
    exact Or.inr ⟨c1, n, by omega, hb, c2, b⟩
  · obtain ⟨c1, c2⟩ := h6 (by rw [a]; decide)
    exact Or.inr ⟨by rw [c1]; exact a, x, by omega, b2, by rw [c2]; exact b3, b4⟩
theorem FlJ.eq {bad bad2 : Nat → Prop} {pl pl2 : Nat → Int32} {n : Nat} {f p f2 p2 : Int32} (h : FlJ bad pl n f p) (h2 : FlJ bad2 pl2 n f2 p2) (hb : ∀ x, x < n → (bad x ↔ bad2 x)) (hp : ∀ x, x < n → pl x = pl2 x) : f = f2 ∧ (¬ f = 0 → p = p2) := by
  rcases h with ⟨a, b⟩ | ⟨a, x, b1, b2, b3, b4⟩
  · rcases h2 with ⟨a', b'⟩ | ⟨a', x', b1', b2', b3', b4'⟩
    · exact ⟨a.trans a'.symm, fun w => absurd a w⟩
    · exact absurd ((hb x' b1').mpr b2') (b x' b1')
  · rcases h2 with ⟨a', b'⟩ | ⟨a', x', b1', b2', b3', b4'⟩
    · exact absurd ((hb x b1).mp b2) (b' x b1)
    · refine ⟨a.trans a'.symm, fun _ => ?_⟩
      rcases Nat.lt_trichotomy x x' with w | w | w
      · exact absurd ((hb x b1).mp b2) (b4' x w)
      · subst w
        rw [b3, b3', hp x b1]
      · exact absurd ((hb x' b1').mpr b2') (b4 x' w)
/-- only the counts of parameters are written, and the fault -/
def FrJ (σ τ : S5) : Prop := (∀ j, ¬ j = 20 → ¬ j = 21 → gI τ j = gI σ j) ∧ (∀ j, gJ τ j = gJ σ j) ∧ (∀ j, ¬ j = 3 → gA τ j = gA σ j) ∧ (∀ j, gB τ j = gB σ j) ∧ τ.2.2.2.2 = σ.2.2.2.2
theorem FrJ.x {σ τ : S5} (h : FrJ σ τ) (j : Nat) (i : Int32) (h1 : ¬ j = 3) : xA τ j i = xA σ j i := by
  show gA τ j i.toNatClampNeg = gA σ j i.toNatClampNeg
  rw [h.2.2.1 j h1]
theorem FrJ.A {σ τ : S5} {i v : Int32} (h : FrJ σ τ) : FrJ σ (pA τ 3 i v) := ⟨h.1, h.2.1, fun j a => by rw [gA_ne _ _ _ a]; exact h.2.2.1 j a, h.2.2.2⟩
theorem FrJ.I {σ τ : S5} {k : Nat} {v : Int32} (h : FrJ σ τ) (hk : k = 20 ∨ k = 21) : FrJ σ (pI τ k v) := ⟨fun j a b => by rw [gI_pI, if_neg (by omega)]; exact h.1 j a b, h.2⟩
def badC (τ : S5) (f : Nat) : Prop := ¬ xA τ 4 (nI f) + xA τ 20 (xA τ 8 (nI f)) ≤ 8
def plC (τ : S5) (f : Nat) : Int32 := xA τ 24 (xA τ 8 (nI f))
def JP (τf : S5) (v : Nat) (τ : S5) : Prop := FrJ τf τ ∧ (∀ f, f < v → xA τ 3 (nI f) = xA τf 4 (nI f) + xA τf 20 (xA τf 8 (nI f))) ∧ FlJ (badC τf) (plC τf) v (gI τ 20) (gI τ 21)
theorem rm_L2 {τf : S5} {F : Nat} (hF : F ≤ 630) (h6 : gI τf 6 = nI F) (h8 : ∀ f, f < F → 0 ≤ xA τf 8 (nI f) ∧ xA τf 8 (nI f) < 700) : ∀ (d v m : Nat) (τ : S5), v + d = F → d < m → JP τf v τ → ∃ τ', f_X2_refuseManyParameters_L2 m (nI v) τ = some ((), τ') ∧ JP τf F τ' := by
  intro d
  induction d with
  | zero =>
    intro v m τ hv hm h
    obtain ⟨m, rfl⟩ : ∃ m', m = m' + 1 := ⟨m - 1, by omega⟩
    have : v = F := by omega
    subst this
    refine ⟨τ, ?_, h⟩
    show f_X2_refuseManyParameters_B2 _ _ _ = _
    unfold f_X2_refuseManyParameters_B2
    rw [h.1.1 6 (by decide) (by decide), h6, if_pos (Int32.le_refl _)]
  | succ d ih =>
    intro v m τ hv hm h
    obtain ⟨m, rfl⟩ : ∃ m', m = m' + 1 := ⟨m - 1, by omega⟩
    obtain ⟨k1, k2⟩ := h8 v (by omega)
    obtain ⟨q1, q2, q3⟩ := h
    have hB : f_X2_refuseManyParameters_L2 (m + 1) (nI v) τ = if xA τf 4 (nI v) + xA τf 20 (xA τf 8 (nI v)) ≤ 8 then f_X2_refuseManyParameters_L2 m (nI (v + 1)) (pA τ 3 (nI v) (xA τf 4 (nI v) + xA τf 20 (xA τf 8 (nI v)))) else bd (f_X2_refuse 6 (plC τf v) (pA τ 3 (nI v) (xA τf 4 (nI v) + xA τf 20 (xA τf 8 (nI v))))) (fun _ τ77 => f_X2_refuseManyParameters_L2 m (nI (v + 1)) τ77) := by
      show f_X2_refuseManyParameters_B2 _ _ _ = _
      unfold f_X2_refuseManyParameters_B2 f_X2_refuseManyParameters_b80 plC
      rw [q1.1 6 (by decide) (by decide), h6, if_neg (fun w => by have := (nI_le31 (by omega) (by omega)).mp w; omega), gdn (by omega) (by omega), gdn (by omega) (by omega), q1.x 8 _ (by decide), gd700 k1 k2, gdn (by omega) (by omega), gdn (by omega) (by omega), xA_self, q1.x 4 _ (by decide), q1.x 20 _ (by decide), gd700 k1 k2, q1.x 24 _ (by decide), nI_add1]
    rw [hB]
    have hrow : ∀ f, f < v + 1 → xA (pA τ 3 (nI v) (xA τf 4 (nI v) + xA τf 20 (xA τf 8 (nI v)))) 3 (nI f) = xA τf 4 (nI f) + xA τf 20 (xA τf 8 (nI f)) := by
      intro f hf
      by_cases hfv : f = v
      · rw [hfv, xA_pA, if_pos ⟨rfl, rfl⟩]
      · rw [xA_pA, if_neg (fun w => tn_ne (by omega) (by omega) (by omega) w.2)]
        exact q2 f (by omega)
    by_cases hb : xA τf 4 (nI v) + xA τf 20 (xA τf 8 (nI v)) ≤ 8
    · rw [if_pos hb]
      exact ih (v + 1) m _ (by omega) (by omega) ⟨q1.A, hrow, q3.ok (fun w => w hb)⟩
    · rw [if_neg hb]
      unfold f_X2_refuse
      by_cases h0 : gI τ 20 = 0
      · rw [gI_pA, if_pos h0, bd_of]
        refine ih (v + 1) m _ (by omega) (by omega) ⟨(q1.A.I (Or.inl rfl)).I (Or.inr rfl), hrow, q3.no hb (fun _ => ⟨by rw [gI_pI, if_neg (by decide), gI_pI, if_pos rfl], by rw [gI_pI, if_pos rfl]⟩) (fun w => absurd h0 w)⟩
      · rw [gI_pA, if_neg h0, bd_of]
        exact ih (v + 1) m _ (by omega) (by omega) ⟨q1.A, hrow, q3.no hb (fun w => absurd w h0) (fun _ => ⟨rfl, rfl⟩)⟩
/-- only the fault is written -/
def FrK (μ ν : S5) : Prop := (∀ j, ¬ j = 7 → ¬ j = 8 → gI ν j = gI μ j) ∧ ν.2 = μ.2
theorem FrK.x {σ τ : S5} (h : FrK σ τ) (j : Nat) (i : Int32) : xA τ j i = xA σ j i := by
  show τ.2.2.1 j i.toNatClampNeg = σ.2.2.1 j i.toNatClampNeg
  rw [h.2]
theorem FrK.y {σ τ : S5} (h : FrK σ τ) (j : Nat) (i : Int32) : xB τ j i = xB σ j i := by
  show τ.2.2.2.1 j i.toNatClampNeg = σ.2.2.2.1 j i.toNatClampNeg
  rw [h.2]
theorem FrK.I {σ τ : S5} {k : Nat} {v : Int32} (h : FrK σ τ) (hk : k = 7 ∨ k = 8) : FrK σ (pI τ k v) := ⟨fun j a b => by rw [gI_pI, if_neg (by omega)]; exact h.1 j a b, h.2⟩
def badM (μ : S5) (f : Nat) : Prop := ¬ xA μ 20 (nI f) + xA μ 10 (xA μ 12 (nI f)) ≤ 8
def plM (μ : S5) (f : Nat) : Int32 := xA μ 11 (nI f)
def JMf (μf : S5) (v : Nat) (μ : S5) : Prop := FrK μf μ ∧ FlJ (badM μf) (plM μf) v (gI μ 7) (gI μ 8)
/-- the part of judging that looks at main -/
def jmain (μ : S5) : Option (Unit × S5) := bd (f_X12_mainFunction μ) (fun r55 τ55 => if r55 < 0 then f_X12_judge_b77 τ55 else gd r55 640 <| gd (xA τ55 12 r55) 3200 <| if (xA τ55 10 (xA τ55 12 r55)) ≤ 0 then some ((), τ55) else f_X12_judge_b77 τ55)
theorem jd_L5 {μf : S5} {F : Nat} (hF : F ≤ 630) (h22 : gI μf 22 = nI F) (h12 : ∀ f, f < F → 0 ≤ xA μf 12 (nI f) ∧ xA μf 12 (nI f) < 3200) : ∀ (d v m : Nat) (μ : S5), v + d = F → d < m → JMf μf v μ → ∃ μ', f_X12_judge_L5 m (nI v) μ = jmain μ' ∧ JMf μf F μ' := by
  intro d
  induction d with
  | zero =>
    intro v m μ hv hm h
    obtain ⟨m, rfl⟩ : ∃ m', m = m' + 1 := ⟨m - 1, by omega⟩
    have : v = F := by omega
    subst this
    refine ⟨μ, ?_, h⟩
    show f_X12_judge_B5 _ _ _ = _
    unfold f_X12_judge_B5 jmain
    rw [h.1.1 22 (by decide) (by decide), h22, if_pos (Int32.le_refl _)]
  | succ d ih =>
    intro v m μ hv hm h
    obtain ⟨m, rfl⟩ : ∃ m', m = m' + 1 := ⟨m - 1, by omega⟩
    obtain ⟨k1, k2⟩ := h12 v (by omega)
    obtain ⟨q1, q3⟩ := h
    have hB : f_X12_judge_L5 (m + 1) (nI v) μ = if xA μf 20 (nI v) + xA μf 10 (xA μf 12 (nI v)) ≤ 8 then f_X12_judge_L5 m (nI (v + 1)) μ else bd (f_X12_fail 6 (plM μf v) μ) (fun _ τ45 => f_X12_judge_L5 m (nI (v + 1)) τ45) := by
      show f_X12_judge_B5 _ _ _ = _
      unfold f_X12_judge_B5 f_X12_judge_b48 plM
      rw [q1.1 22 (by decide) (by decide), h22, if_neg (fun w => by have := (nI_le31 (by omega) (by omega)).mp w; omega), gdn (by omega) (by omega), gdn (by omega) (by omega), q1.x 12, gd3200 k1 k2, q1.x 20, q1.x 10, gdn (by omega) (by omega), q1.x 11, nI_add1]
    rw [hB]
    by_cases hb : xA μf 20 (nI v) + xA μf 10 (xA μf 12 (nI v)) ≤ 8
    · rw [if_pos hb]
      exact ih (v + 1) m _ (by omega) (by omega) ⟨q1, q3.ok (fun w => w hb)⟩
    · rw [if_neg hb]
      by_cases h0 : gI μ 7 = 0
      · rw [m_fail0 _ _ h0, bd_of]
        exact ih (v + 1) m _ (by omega) (by omega) ⟨(q1.I (Or.inl rfl)).I (Or.inr rfl), q3.no hb (fun _ => ⟨by rw [gI_pI, if_neg (by decide), gI_pI, if_pos rfl], by rw [gI_pI, if_pos rfl]⟩) (fun w => absurd h0 w)⟩
      · rw [m_failF _ _ h0, bd_of]
        exact ih (v + 1) m _ (by omega) (by omega) ⟨q1, q3.no hb (fun w => absurd w h0) (fun _ => ⟨rfl, rfl⟩)⟩
