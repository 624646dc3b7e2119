theorem nI_injL {a b : Nat} (ha : a < 2 ^ 31) (hb : b < 2 ^ 31) (h : nI a = nI b) : a = b := by
  have := congrArg Int32.toNatClampNeg h
  rw [nI_clamp ha, nI_clamp hb] at this
  exact this
/-- a variable is among a function's free ones, or there are too many -/
def OVm (τ : S5) (f : Nat) (y : Int32) : Prop := ∃ c, xA τ 4 (nI f) = nI c ∧ c < 1000000 ∧ (8 < c ∨ ∃ p, p < c ∧ p < 8 ∧ xA τ 5 (nI (f * 8 + p)) = y)
theorem mm_add {τ : S5} {f c : Nat} {y : Int32} (hf : f < 630) (hc : xA τ 4 (nI f) = nI c) (hc7 : c < 900000) : ∃ τ', f_X2_addFree (nI f) y τ = some ((), τ') ∧ FrF τ τ' ∧ OVm τ' f y ∧ (∀ g z, g < 630 → OVm τ g z → OVm τ' g z) ∧ (∀ g c', g < 630 → xA τ 4 (nI g) = nI c' → ∃ c'', xA τ' 4 (nI g) = nI c'' ∧ c'' ≤ c' + 1) ∧ (∀ g p c'', g < 630 → p < 8 → xA τ' 4 (nI g) = nI c'' → c'' < 1000000 → p < c'' → (xA τ' 5 (nI (g * 8 + p)) = xA τ 5 (nI (g * 8 + p)) ∧ (g = f → p < c) ∧ (¬ g = f → xA τ 4 (nI g) = nI c'')) ∨ (g = f ∧ xA τ' 5 (nI (g * 8 + p)) = y)) := by
  rcases c_addF (τ := τ) (f := f) (c := c) (y := y) hf hc (by omega) with ⟨q, q1, q2, q3⟩ | ⟨q1, q2⟩
  · refine ⟨τ, q3, FrF.rf τ, ⟨c, hc, by omega, Or.inr ⟨q, by omega, by omega, q2⟩⟩, fun _ _ _ h => h, fun g c' _ h => ⟨c', h, by omega⟩, fun g p c'' a b d e e2 => Or.inl ⟨rfl, fun hg => ?_, fun _ => d⟩⟩
    subst hg
    have := nI_injL (by omega) (by omega) (d.symm.trans hc)
    omega
  · refine ⟨cFr τ f c y, q2, frF_cFr τ f c y, ?_, fun g z hg h => ?_, fun g c' hg h => ?_, fun g p c'' hg hp h4 h6 hpc => ?_⟩
    · refine ⟨c + 1, by rw [cFr_4 _ _ _ _ _ hf hf, if_pos rfl], by omega, ?_⟩
      by_cases h8 : c < 8
      · exact Or.inr ⟨c, by omega, h8, by rw [cFr_5 _ _ _ _ _ hf (by omega) (by omega), if_pos ⟨h8, rfl⟩]⟩
      · exact Or.inl (by omega)
    · obtain ⟨c0, a1, a2, a3⟩ := h
      by_cases hgf : g = f
      · subst hgf
        have e0 : c0 = c := nI_injL (by omega) (by omega) (a1.symm.trans hc)
        subst e0
        refine ⟨c0 + 1, by rw [cFr_4 _ _ _ _ _ hf hf, if_pos rfl], by omega, ?_⟩
        rcases a3 with w | ⟨p, p1, p2, p3⟩
        · exact Or.inl (by omega)
        · exact Or.inr ⟨p, by omega, p2, by rw [cFr_5 _ _ _ _ _ hf (by omega) (by omega), if_neg (by omega)]; exact p3⟩
      · refine ⟨c0, by rw [cFr_4 _ _ _ _ _ hf hg, if_neg hgf]; exact a1, a2, ?_⟩
        rcases a3 with w | ⟨p, p1, p2, p3⟩
        · exact Or.inl w
        · exact Or.inr ⟨p, p1, p2, by rw [cFr_5 _ _ _ _ _ hf (by omega) (by omega), if_neg (by omega)]; exact p3⟩
    · by_cases hgf : g = f
      · subst hgf
        exact ⟨c + 1, by rw [cFr_4 _ _ _ _ _ hf hf, if_pos rfl], by
          rcases Nat.lt_or_ge c' (2 ^ 31) with w | w
          · have := nI_injL (by omega) w (hc.symm.trans h); omega
          · omega⟩
      · exact ⟨c', by rw [cFr_4 _ _ _ _ _ hf hg, if_neg hgf]; exact h, by omega⟩
    · rw [cFr_4 _ _ _ _ _ hf hg] at h4
      rw [cFr_5 _ _ _ _ _ hf (by omega) (by omega)]
      by_cases hgf : g = f
      · subst hgf
        rw [if_pos rfl] at h4
        have e0 : c + 1 = c'' := nI_injL (by omega) (by omega) h4
        by_cases hpc' : p = c
        · subst hpc'
          exact Or.inr ⟨rfl, by rw [if_pos ⟨hp, rfl⟩]⟩
        · exact Or.inl ⟨by rw [if_neg (by omega)], fun _ => by omega, fun w => absurd rfl w⟩
      · rw [if_neg hgf] at h4
        exact Or.inl ⟨by rw [if_neg (by omega)], fun w => absurd w hgf, fun _ => h4⟩
/-- counts of free variables -/
def CKs (τr : S5) (F B : Nat) (τ : S5) : Prop := FrF τr τ ∧ ∀ f, f < F → ∃ c, xA τ 4 (nI f) = nI c ∧ c ≤ B
/-- a free variable of a function within is one of the function around it, or that one's own; but y where o is around -/
def Cl (σ τr : S5) (F : Nat) (S : Int32) (ex : Int32 → Int32 → Prop) (τ : S5) : Prop := ∀ (x : Int32) (g p c : Nat), 0 ≤ x → x < S → xA σ 22 x = x → xA τr 26 x = nI g → g < F → 0 ≤ xA σ 21 x → xA τ 4 (nI g) = nI c → c < 1000000 → p < c → p < 8 → xA σ 22 (xA τ 5 (nI (g * 8 + p)) / 5) = xA σ 22 (xA σ 21 x) ∨ (∀ g', xA τr 26 (xA σ 22 (xA σ 21 x)) = nI g' → g' < F → OVm τ g' (xA τ 5 (nI (g * 8 + p)))) ∨ ex (xA σ 22 (xA σ 21 x)) (xA τ 5 (nI (g * 8 + p)))
theorem pt_cl {σ τr ν : S5} {k U F : Nat} {fs : Nat → Int32} {S : Int32} (hE : Env σ τr ν k U F fs S) {y w : Int32} (hy : xA σ 22 (y / 5) = w) : ∀ (m : Nat) (o : Int32) (e B fuel : Nat) (τ : S5), Och σ m o w → 0 ≤ o → o < S → xA σ 22 o = o → CKs τr F B τ → Cl σ τr F S (fun o' y' => o' = o ∧ y' = y) τ → e + m ≤ 700 → m < fuel → B + m < 900000 → ∃ τ', f_X2_passThrough_L18 fuel y w o (nI e) τ = some ((), τ') ∧ CKs τr F (B + m) τ' ∧ Cl σ τr F S (fun _ _ => False) τ' ∧ (∀ g z, g < 630 → OVm τ g z → OVm τ' g z) ∧ (o = w ∨ ∃ g, xA τr 26 o = nI g ∧ g < F ∧ OVm τ' g y) := by
  obtain ⟨hD, hG, ⟨hS0, hS6⟩, hk, hF, hN, hA, -⟩ := hE
  intro m
  induction m with
  | zero => intro o e B fuel τ hO; exact absurd hO (fun w => w)
  | succ m ih =>
    intro o e B fuel τ hO o0 o1 o22 hC hL he hfu hB
    obtain ⟨fuel, rfl⟩ : ∃ f', fuel = f' + 1 := ⟨fuel - 1, by omega⟩
    obtain ⟨hFr, hct⟩ := hC
    have t21 : ∀ x, xA τ 21 x = xA σ 21 x := fun x => (hFr.x 21 x (by decide) (by decide)).trans (hA.2.1 x)
    have t22 : ∀ x, xA τ 22 x = xA σ 22 x := fun x => (hFr.x 22 x (by decide) (by decide)).trans (hA.2.2.1 x)
    have t26 : xA τ 26 o = xA τr 26 o := hFr.x 26 o (by decide) (by decide)
    have hCq : f_X2_passThrough_L18 (fuel + 1) y w o (nI e) τ = if o = w then some ((), τ) else if xA σ 21 o = -1 then some ((), τ) else bd (f_X2_addFree (xA τr 26 o) y τ) (fun _ τ58 => gd o 700 <| gd (xA τ58 21 o) 700 <| f_X2_passThrough_L18 fuel y w (xA τ58 22 (xA τ58 21 o)) (nI e + 1) τ58) := by
      show f_X2_passThrough_B18 _ _ _ _ _ _ = _
      unfold f_X2_passThrough_B18
      rw [if_neg (fun w => by have := (nI_le31 (a := 700) (by omega) (by omega)).mp w; omega), gd700 o0 (by grind), gd700 o0 (by grind), t21, t26]
    by_cases how : o = w
    · subst how
      refine ⟨τ, by rw [hCq, if_pos rfl], ⟨hFr, fun f hf => ?_⟩, ?_, fun _ _ _ h => h, Or.inl rfl⟩
      · obtain ⟨c, c1, c2⟩ := hct f hf
        exact ⟨c, c1, by omega⟩
      · intro x g p c a1 a2 a3 a4 a5 a6 a7 a8 a9 a10
        rcases hL x g p c a1 a2 a3 a4 a5 a6 a7 a8 a9 a10 with q | q | ⟨q, q'⟩
        · exact Or.inl q
        · exact Or.inr (Or.inl q)
        · exact Or.inl (by rw [q', hy, q])
    · rcases hO with hO | ⟨hO1, hO2⟩
      · exact absurd hO how
      · have hpS : xA σ 21 o < S := by
          rcases hG.1 o o0 o1 with ⟨q, _⟩ | q
          · rw [q] at hO1; exact absurd hO1 (by decide)
          · have := q.2.1; grind
        obtain ⟨f, f1, f2⟩ := hN.1 o o0 o1 o22
        obtain ⟨c, c1, c2⟩ := hct f f1
        obtain ⟨τ1, b1, b2, b3, b4, b5, b6⟩ := mm_add (y := y) (by omega) c1 (by omega)
        have hown := hG.own _ hO1 hpS
        have hC1 : CKs τr F (B + 1) τ1 := ⟨hFr.tr b2, fun g hg => by
          obtain ⟨c0, k1, k2⟩ := hct g hg
          obtain ⟨c3, k3, k4⟩ := b5 g c0 (by omega) k1
          exact ⟨c3, k3, by omega⟩⟩
        have hL1 : Cl σ τr F S (fun o' y' => o' = xA σ 22 (xA σ 21 o) ∧ y' = y) τ1 := by
          intro x g p c'' a1 a2 a3 a4 a5 a6 a7 a8 a9 a10
          rcases b6 g p c'' (by omega) a10 a7 a8 a9 with ⟨k1, k2, k3⟩ | ⟨k1, k2⟩
          · rw [k1]
            have old : ∃ c0, xA τ 4 (nI g) = nI c0 ∧ c0 < 1000000 ∧ p < c0 := by
              by_cases hgf : g = f
              · subst hgf
                exact ⟨c, c1, by omega, k2 rfl⟩
              · exact ⟨c'', k3 hgf, a8, a9⟩
            obtain ⟨c0, z1, z2, z3⟩ := old
            rcases hL x g p c0 a1 a2 a3 a4 a5 a6 z1 z2 z3 a10 with q | q | ⟨q, q'⟩
            · exact Or.inl q
            · exact Or.inr (Or.inl (fun g' g1 g2 => b4 g' _ (by omega) (q g' g1 g2)))
            · refine Or.inr (Or.inl (fun g' g1 g2 => ?_))
              rw [q, f2] at g1
              have : f = g' := nI_injL (by omega) (by omega) g1
              subst this
              rw [q']
              exact b3
          · have hxo : x = o := by
              refine hN.2 x o a1 a2 a3 o0 o1 o22 ?_
              rw [a4, f2, k1]
            exact Or.inr (Or.inr ⟨by rw [hxo], k2⟩)
        obtain ⟨τ2, d1, d2, d3, d4, d5⟩ := ih (xA σ 22 (xA σ 21 o)) (e + 1) (B + 1) fuel τ1 hO2 hown.1 hown.2.1 hown.2.2 hC1 hL1 (by omega) (by omega) (by omega)
        refine ⟨τ2, ?_, ⟨d2.1, fun g hg => ?_⟩, d3, fun g z hg h => d4 g z hg (b4 g z hg h), Or.inr ⟨f, f2, f1, d4 f y (by omega) b3⟩⟩
        · rw [hCq, if_neg how, if_neg (by grind), f2, b1, bd_of, gd700 o0 (by grind), b2.x 21 _ (by decide) (by decide), t21, gd700 hO1 (by grind), b2.x 22 _ (by decide) (by decide), t22, nI_add1]
          exact d1
        · obtain ⟨c0, k1, k2⟩ := d2.2 g hg
          exact ⟨c0, k1, by omega⟩
/-- a variable that a use means is of a scope around the use -/
theorem vi_rg {b : Int32 → Int64} {h : Int32} {z : Int64} : ∀ (d k : Nat), vi b h z d k = -1 ∨ ∃ i, k ≤ i ∧ i < k + d ∧ vi b h z d k = h * 5 + nI i
  | 0, _ => Or.inl rfl
  | d + 1, k => by
    unfold vi
    by_cases he : b (h * 5 + nI k) = z
    · rw [if_pos he]
      exact Or.inr ⟨k, by omega, by omega, rfl⟩
    · rw [if_neg he]
      rcases vi_rg (b := b) (h := h) (z := z) d (k + 1) with w | ⟨i, i1, i2, i3⟩
      · exact Or.inl w
      · exact Or.inr ⟨i, by omega, by omega, i3⟩
theorem fd_ich {σ : S5} (hD : DN σ) {S : Int32} (hS : S ≤ 630) (hG : ∀ x, 0 ≤ x → x < S → xA σ 21 x = -1 ∨ (0 ≤ xA σ 21 x ∧ xA σ 21 x < x)) (z : Int64) : ∀ (m : Nat) (h : Int32), (h = -1 ∨ (0 ≤ h ∧ h < S ∧ h.toNatClampNeg < m)) → fd (xA σ 20) (xA σ 21) (xB σ 3) z m h = -1 ∨ ∃ (s : Int32) (i j m' : Nat), (0 ≤ s ∧ s < S) ∧ xA σ 20 s = nI j ∧ j ≤ 5 ∧ i < j ∧ fd (xA σ 20) (xA σ 21) (xB σ 3) z m h = s * 5 + nI i ∧ m' ≤ h.toNatClampNeg + 1 ∧ Ich σ m' h s
  | 0, h, hh => Or.inl rfl
  | m + 1, h, hh => by
    unfold fd
    by_cases h1 : h = -1
    · rw [if_pos h1]; exact Or.inl rfl
    · rw [if_neg h1]
      rcases hh with hh | ⟨q0, q1, q2⟩
      · exact absurd hh h1
      · obtain ⟨j, j5, ej, _⟩ := hD h q0 (by grind)
        rcases vi_rg (b := xB σ 3) (h := h) (z := z) (xA σ 20 h).toNatClampNeg 0 with w | ⟨i, i1, i2, i3⟩
        · rw [if_pos w]
          have hp := hG h q0 q1
          have hpl : 0 ≤ xA σ 21 h → xA σ 21 h < h → (xA σ 21 h).toNatClampNeg < h.toNatClampNeg := fun a b => i_lt (not_neg a) b
          rcases fd_ich hD hS hG z m (xA σ 21 h) (by
            rcases hp with w | ⟨w1, w2⟩
            · exact Or.inl w
            · exact Or.inr ⟨w1, by grind, by have := hpl w1 w2; omega⟩) with w2 | ⟨s, i, j', m', k1, k2, k3, k4, k5, k6, k7⟩
          · exact Or.inl w2
          · refine Or.inr ⟨s, i, j', m' + 1, k1, k2, k3, k4, k5, ?_, Or.inr ⟨q0, k7⟩⟩
            rcases hp with w | ⟨w1, w2⟩
            · rw [w] at k7
              match m', k7 with
              | 0, k7 => exact absurd k7 (fun w => w)
              | n + 1, k7 =>
                rcases k7 with w3 | ⟨w3, _⟩
                · rw [← w3] at k1; exact absurd k1.1 (by decide)
                · exact absurd w3 (by decide)
            · have := hpl w1 w2; omega
        · rw [ej, nI_clamp (by omega)] at i2
          rw [i3]
          have hr := s5_rg (i := i) q0 (by grind) (by omega)
          rw [if_neg (by grind)]
          exact Or.inr ⟨h, i, j, 1, ⟨q0, q1⟩, ej, j5, by omega, rfl, by omega, Or.inl rfl⟩
