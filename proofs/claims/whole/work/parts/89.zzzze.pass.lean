/-- the functions around, in the reference's row -/
def Aro (σ τ μ : S5) (S : Int32) : Nat → Int32 → Nat → Prop
  | 0, _, _ => False
  | m + 1, o, d => 0 ≤ o ∧ o < S ∧ xA σ 22 o = o ∧ ∃ d' : Nat, d = d' + 1 ∧ xA μ 27 (nI d') = xA τ 26 o ∧ ((xA σ 21 o = -1 ∧ d' = 0) ∨ (0 ≤ xA σ 21 o ∧ xA σ 21 o < S ∧ Aro σ τ μ S m (xA σ 22 (xA σ 21 o)) d'))
/-- a function is around another -/
def Och (σ : S5) : Nat → Int32 → Int32 → Prop
  | 0, _, _ => False
  | m + 1, o, w => o = w ∨ (0 ≤ xA σ 21 o ∧ Och σ m (xA σ 22 (xA σ 21 o)) w)
/-- numbers of functions: there, and not the same -/
def Nij (σ τ : S5) (S : Int32) (F : Nat) : Prop := (∀ x, 0 ≤ x → x < S → xA σ 22 x = x → ∃ f, f < F ∧ xA τ 26 x = nI f) ∧ (∀ x x', 0 ≤ x → x < S → xA σ 22 x = x → 0 ≤ x' → x' < S → xA σ 22 x' = x' → xA τ 26 x = xA τ 26 x' → x = x')
theorem pt_go {σ τ0 : S5} (hD : DN σ) {S : Int32} {F : Nat} (hS : S ≤ 630) (hF : F ≤ 630) (hN : Nij σ τ0 S F) (h21 : ∀ x, xA τ0 21 x = xA σ 21 x) (h22 : ∀ x, xA τ0 22 x = xA σ 22 x) {y v w : Int32} (hv : VR σ y v) (hv0 : 0 ≤ v) (hv1 : v < 3200) (hw0 : 0 ≤ w) (hw1 : w < S) (hw : xA σ 22 w = w) : ∀ (m : Nat) (o : Int32) (d e B fuel fuel' : Nat) (τ μ : S5), Aro σ τ0 μ S m o d → Och σ m o w → FRs σ τ μ B F → FrF τ0 τ → xA μ 22 v = xA τ0 26 w → d ≤ 64 → e + m ≤ 700 → m < fuel → m < fuel' → B + m < 900000 → ∃ τ' μ', f_X2_passThrough_L18 fuel y w o (nI e) τ = some ((), τ') ∧ f_X12_use_L66 fuel' v (nI d - 1) μ = some ((), μ') ∧ FRs σ τ' μ' (B + m) F ∧ FrF τ τ' ∧ FrG μ μ' := by
  intro m
  induction m with
  | zero => intro o d e B fuel fuel' τ μ hA; exact absurd hA (fun w => w)
  | succ m ih =>
    intro o d e B fuel fuel' τ μ hA hO hR hFr hh hd he hfu hfu' hB
    obtain ⟨fuel, rfl⟩ : ∃ f', fuel = f' + 1 := ⟨fuel - 1, by omega⟩
    obtain ⟨fuel', rfl⟩ : ∃ f', fuel' = f' + 1 := ⟨fuel' - 1, by omega⟩
    obtain ⟨o0, o1, o22, d', hdd, o27, hA⟩ := hA
    have e1 : nI d - 1 = nI d' := by rw [hdd, ← nI_add1]; grind
    have t21 : ∀ x, xA τ 21 x = xA σ 21 x := fun x => (hFr.x 21 x (by decide) (by decide)).trans (h21 x)
    have t22 : ∀ x, xA τ 22 x = xA σ 22 x := fun x => (hFr.x 22 x (by decide) (by decide)).trans (h22 x)
    have t26 : xA τ 26 o = xA τ0 26 o := hFr.x 26 o (by decide) (by decide)
    have hC : f_X2_passThrough_L18 (fuel + 1) y w o (nI e) τ = if o = w then some ((), τ) else if xA σ 21 o = -1 then some ((), τ) else bd (f_X2_addFree (xA τ0 26 o) y τ) (fun _ τ58 => gd o 700 <| gd (xA τ58 21 o) 700 <| f_X2_passThrough_L18 fuel y w (xA τ58 22 (xA τ58 21 o)) (nI e + 1) τ58) := by
      show f_X2_passThrough_B18 _ _ _ _ _ _ = _
      unfold f_X2_passThrough_B18
      rw [if_neg (fun w => by have := (nI_le31 (a := 700) (by omega) (by omega)).mp w; omega), gd700 o0 (by grind), gd700 o0 (by grind), t21, t26]
    have hM : f_X12_use_L66 (fuel' + 1) v (nI d - 1) μ = if xA τ0 26 o = xA τ0 26 w then some ((), μ) else bd (f_X12_addFree (xA τ0 26 o) v μ) (fun _ τ91 => f_X12_use_L66 fuel' v (nI d' - 1) τ91) := by
      show f_X12_use_B66 _ _ _ _ = _
      unfold f_X12_use_B66
      rw [e1, gdn (by omega) (by omega), gdn (by omega) (by omega), gd3200 hv0 hv1, o27, hh, show nI d' + -1 = nI d' - 1 from by grind]
    rw [hC, hM]
    by_cases how : o = w
    · subst how
      exact ⟨τ, μ, by rw [if_pos rfl], by rw [if_pos rfl], hR.le (by omega), FrF.rf τ, FrG.rf μ⟩
    · have hne : ¬ xA τ0 26 o = xA τ0 26 w := fun q => how (hN.2 o w o0 o1 o22 hw0 hw1 hw q)
      rcases hO with hO | ⟨hO1, hO2⟩
      · exact absurd hO how
      · rcases hA with ⟨a1, _⟩ | ⟨a1, a2, a3⟩
        · exact absurd a1 (by grind)
        · obtain ⟨f, f1, f2⟩ := hN.1 o o0 o1 o22
          obtain ⟨τ1, μ1, b1, b2, b3, b4, b5⟩ := af_step hD hF hR f1 (by omega) hv
          have hA1 : Aro σ τ0 μ1 S m (xA σ 22 (xA σ 21 o)) d' := by
            have key : ∀ (m : Nat) (o : Int32) (d : Nat), Aro σ τ0 μ S m o d → Aro σ τ0 μ1 S m o d := by
              intro m
              induction m with
              | zero => intro o d h; exact h
              | succ m ih =>
                intro o d h
                obtain ⟨h1, h2, h3, d1, h4, h5, h6⟩ := h
                refine ⟨h1, h2, h3, d1, h4, by rw [b5.x 27 _ (by decide) (by decide)]; exact h5, ?_⟩
                rcases h6 with h6 | ⟨h6, h7, h8⟩
                · exact Or.inl h6
                · exact Or.inr ⟨h6, h7, ih _ _ h8⟩
            exact key m _ _ a3
          obtain ⟨τ2, μ2, c1, c2, c3, c4, c5⟩ := ih (xA σ 22 (xA σ 21 o)) d' (e + 1) (B + 1) fuel fuel' τ1 μ1 hA1 hO2 b3 (hFr.tr b4) (by rw [b5.x 22 _ (by decide) (by decide)]; exact hh) (by omega) (by omega) (by omega) (by omega) (by omega)
          refine ⟨τ2, μ2, ?_, ?_, c3.le (by omega), b4.tr c4, b5.tr c5⟩
          · rw [if_neg how, if_neg (by grind), f2, b1, bd_of, gd700 o0 (by grind), b4.x 21 _ (by decide) (by decide), t21, gd700 a1 (by grind), b4.x 22 _ (by decide) (by decide), t22, nI_add1]
            exact c1
          · rw [if_neg hne, f2, b2, bd_of]
            exact c2
