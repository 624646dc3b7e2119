/-- what a use means: a variable, or, below -1, a function at the top; -1: nothing -/
def tg (σ : S5) (k u : Nat) : Int32 := if fd (xA σ 20) (xA σ 21) (xB σ 3) (xB σ 4 (nI u)) 701 (xA σ 27 (nI u)) = -1 then -2 - tp (xB σ 1) (xB σ 4 (nI u)) k 0 else fd (xA σ 20) (xA σ 21) (xB σ 3) (xB σ 4 (nI u)) 701 (xA σ 27 (nI u))
/-- the first use that means nothing -/
def FlU (σ : S5) (k u : Nat) (f p : Int32) : Prop := (f = 0 ∧ ∀ x, x < u → ¬ tg σ k x = -1) ∨ (f = 5 ∧ ∃ x, x < u ∧ tg σ k x = -1 ∧ p = xA σ 28 (nI x) ∧ ∀ y, y < x → ¬ tg σ k y = -1)
theorem FlU.ok {σ : S5} {k u : Nat} {f p : Int32} (h : FlU σ k u f p) (ht : ¬ tg σ k u = -1) : FlU σ k (u + 1) f p := by
  rcases h with ⟨a, b⟩ | ⟨a, x, b1, b2, b3, b4⟩
  · refine Or.inl ⟨a, fun x hx => ?_⟩
    by_cases hxu : x = u
    · rw [hxu]; exact ht
    · exact b x (by omega)
  · exact Or.inr ⟨a, x, by omega, b2, b3, b4⟩
theorem FlU.no {σ : S5} {k u : Nat} {f p f' p' : Int32} (h : FlU σ k u f p) (ht : tg σ k u = -1) (h0 : f = 0 → f' = 5 ∧ p' = xA σ 28 (nI u)) (h5 : ¬ f = 0 → f' = f ∧ p' = p) : FlU σ k (u + 1) f' p' := by
  rcases h with ⟨a, b⟩ | ⟨a, x, b1, b2, b3, b4⟩
  · obtain ⟨c1, c2⟩ := h0 a
    exact Or.inr ⟨c1, u, by omega, ht, c2, b⟩
  · obtain ⟨c1, c2⟩ := h5 (by rw [a]; decide)
    exact Or.inr ⟨by rw [c1]; exact a, x, by omega, b2, by rw [c2]; exact b3, b4⟩
/-- what resolving never writes -/
def FrR (σ τ : S5) : Prop := (∀ j, ¬ j = 20 → ¬ j = 21 → gI τ j = gI σ j) ∧ (∀ j, gJ τ j = gJ σ j) ∧ (∀ j, ¬ j = 30 → gA τ j = gA σ j) ∧ (∀ j, gB τ j = gB σ j) ∧ τ.2.2.2.2 = σ.2.2.2.2
theorem FrR.rf (σ : S5) : FrR σ σ := ⟨fun _ _ _ => rfl, fun _ => rfl, fun _ _ => rfl, fun _ => rfl, rfl⟩
theorem FrR.A {σ τ : S5} {i v : Int32} (h : FrR σ τ) : FrR σ (pA τ 30 i v) := ⟨h.1, h.2.1, fun j a => by rw [gA_ne _ _ _ (by omega)]; exact h.2.2.1 j a, h.2.2.2⟩
theorem FrR.I {σ τ : S5} {k : Nat} {v : Int32} (h : FrR σ τ) (hk : k = 20 ∨ k = 21) : FrR σ (pI τ k v) := ⟨fun j a b => by rw [gI_pI, if_neg (by omega)]; exact h.1 j a b, h.2⟩
theorem FrR.x {σ τ : S5} (h : FrR σ τ) (j : Nat) (h1 : ¬ j = 30) : xA τ j = xA σ j := by
  funext i
  show gA τ j i.toNatClampNeg = gA σ j i.toNatClampNeg
  rw [h.2.2.1 j h1]
theorem FrR.y {σ τ : S5} (h : FrR σ τ) (j : Nat) : xB τ j = xB σ j := by
  funext i
  show gB τ j i.toNatClampNeg = gB σ j i.toNatClampNeg
  rw [h.2.2.2.1 j]
/-- the first u uses are resolved -/
def RU (σ τ : S5) (k u : Nat) : Prop := FrR σ τ ∧ (∀ x, x < u → xA τ 30 (nI x) = tg σ k x) ∧ FlU σ k u (gI τ 20) (gI τ 21)
theorem RU.put {σ τ : S5} {k u : Nat} {f p : Int32} (h : RU σ τ k u) (hu : u < 600) (hf : FlU σ k (u + 1) f p) {τ1 : S5} (h1 : FrR σ τ1) (hx : ∀ i, xA τ1 30 i = xA τ 30 i) (h20 : gI τ1 20 = f) (h21 : gI τ1 21 = p) : RU σ (pA τ1 30 (nI u) (tg σ k u)) k (u + 1) := by
  refine ⟨h1.A, fun x hxu => ?_, by rw [gI_pA, gI_pA, h20, h21]; exact hf⟩
  by_cases he : x = u
  · subst he
    rw [xA_pA, if_pos ⟨rfl, rfl⟩]
  · rw [xA_pA, if_neg (fun w => tn_ne (by omega) (by omega) he w.2), hx]
    exact h.2.1 x (by omega)
theorem ru_L2 {σ : S5} (hD : DN σ) {S : Int32} {k U : Nat} (hS : S ≤ 630) (hG : ∀ x, 0 ≤ x → x < S → xA σ 21 x = -1 ∨ (0 ≤ xA σ 21 x ∧ xA σ 21 x < x)) (hk : k ≤ 30) (h5 : gI σ 5 = nI k) (hU : U ≤ 600) (h10 : gI σ 10 = nI U) (hu : ∀ u, u < U → 0 ≤ xA σ 27 (nI u) ∧ xA σ 27 (nI u) < S) : ∀ (d u m : Nat) (τ : S5), u + d = U → d < m → RU σ τ k u → ∃ τ', f_X2_resolveUses_L2 m (nI u) τ = some ((), τ') ∧ RU σ τ' k U := by
  intro d
  induction d with
  | zero =>
    intro u m τ hi hm hR
    obtain ⟨m, rfl⟩ : ∃ m', m = m' + 1 := ⟨m - 1, by omega⟩
    have huU : u = U := by omega
    subst huU
    refine ⟨τ, ?_, hR⟩
    show f_X2_resolveUses_B2 _ _ _ = _
    unfold f_X2_resolveUses_B2
    rw [hR.1.1 10 (by decide) (by decide), h10, if_pos ((nI_le31 (by omega) (by omega)).mpr (by omega))]
  | succ d ih =>
    intro u m τ hi hm hR
    obtain ⟨m, rfl⟩ : ∃ m', m = m' + 1 := ⟨m - 1, by omega⟩
    have hc : ¬ nI U ≤ nI u := fun w => by have := (nI_le31 (by omega) (by omega)).mp w; omega
    have hF := hR.1
    have hbig := FU_big (n := 30000) (by decide)
    have hDτ : DN τ := DN_of hD (fun i => by rw [hF.x 20 (by decide)]) (fun i => by rw [hF.y 3])
    have hfd : ∀ z h, 0 ≤ h → h < S → f_X6_find h z τ = some (fd (xA σ 20) (xA σ 21) (xB σ 3) z 701 h, τ) := by
      intro z h q0 q1
      have hl : h.toNatClampNeg < 630 := i_lt (n := 630) (fun w => by grind) (by grind)
      have := fd_go hDτ hS (fun x x0 x1 => by rw [hF.x 21 (by decide)]; exact hG x x0 x1) z 701 h 0 FU (Or.inr ⟨q0, q1, by omega⟩) (by omega) (by omega) (by omega)
      rw [hF.x 20 (by decide), hF.x 21 (by decide), hF.y 3] at this
      exact this
    have htp : ∀ z, f_X4_topOf z τ = some (tp (xB σ 1) z k 0, τ) := by
      intro z
      have := tp_go hk (by rw [hF.1 5 (by decide) (by decide)]; exact h5) z k 0 FU (σ := τ) (by omega) (by omega)
      rw [hF.y 1] at this
      exact this
    have hB : f_X2_resolveUses_L2 (m + 1) (nI u) τ = if fd (xA σ 20) (xA σ 21) (xB σ 3) (xB σ 4 (nI u)) 701 (xA σ 27 (nI u)) = -1 then (if tp (xB σ 1) (xB σ 4 (nI u)) k 0 = -1 then bd (f_X2_refuse 5 (xA σ 28 (nI u)) τ) (fun _ τ77 => gd (nI u) 600 <| f_X2_resolveUses_L2 m (nI (u + 1)) (pA τ77 30 (nI u) (-2 - tp (xB σ 1) (xB σ 4 (nI u)) k 0))) else f_X2_resolveUses_L2 m (nI (u + 1)) (pA τ 30 (nI u) (-2 - tp (xB σ 1) (xB σ 4 (nI u)) k 0))) else f_X2_resolveUses_L2 m (nI (u + 1)) (pA τ 30 (nI u) (fd (xA σ 20) (xA σ 21) (xB σ 3) (xB σ 4 (nI u)) 701 (xA σ 27 (nI u)))) := by
      show f_X2_resolveUses_B2 _ _ _ = _
      have hu1 := hu u (by omega)
      unfold f_X2_resolveUses_B2 f_X2_resolveUses_b80 f_X2_resolveUses_b85
      rw [hF.1 10 (by decide) (by decide), h10, if_neg hc, gdn (by omega) (by omega), gdn (by omega) (by omega), hF.x 27 (by decide), hF.y 4, hfd _ _ hu1.1 hu1.2, bd_of, gdn (by omega) (by omega), hF.y 4, htp, bd_of, gdn (by omega) (by omega), gdn (by omega) (by omega), gdn (by omega) (by omega), hF.x 28 (by decide), nI_add1]
    rw [hB]
    by_cases h1 : fd (xA σ 20) (xA σ 21) (xB σ 3) (xB σ 4 (nI u)) 701 (xA σ 27 (nI u)) = -1
    · have ht : tg σ k u = -2 - tp (xB σ 1) (xB σ 4 (nI u)) k 0 := by unfold tg; rw [if_pos h1]
      rw [if_pos h1, ← ht]
      by_cases h2 : tp (xB σ 1) (xB σ 4 (nI u)) k 0 = -1
      · have ht1 : tg σ k u = -1 := by rw [ht, h2]; decide
        rw [if_pos h2]
        by_cases h20 : gI τ 20 = 0
        · have hq : f_X2_refuse 5 (xA σ 28 (nI u)) τ = some ((), pI (pI τ 20 5) 21 (xA σ 28 (nI u))) := by
            unfold f_X2_refuse
            rw [if_pos h20]
          obtain ⟨τ', a1, a2⟩ := ih (u + 1) m _ (by omega) (by omega) (hR.put (f := 5) (p := xA σ 28 (nI u)) (τ1 := pI (pI τ 20 5) 21 (xA σ 28 (nI u))) (by omega) (hR.2.2.no ht1 (fun _ => ⟨rfl, rfl⟩) (fun w => absurd h20 w)) ((hF.I (Or.inl rfl)).I (Or.inr rfl)) (fun _ => rfl) rfl rfl)
          refine ⟨τ', ?_, a2⟩
          rw [hq, bd_of, gdn (by omega) (by omega)]
          exact a1
        · have hq : f_X2_refuse 5 (xA σ 28 (nI u)) τ = some ((), τ) := by
            unfold f_X2_refuse
            rw [if_neg h20]
          obtain ⟨τ', a1, a2⟩ := ih (u + 1) m _ (by omega) (by omega) (hR.put (f := gI τ 20) (p := gI τ 21) (τ1 := τ) (by omega) (hR.2.2.no ht1 (fun w => absurd w h20) (fun _ => ⟨rfl, rfl⟩)) hF (fun _ => rfl) rfl rfl)
          refine ⟨τ', ?_, a2⟩
          rw [hq, bd_of, gdn (by omega) (by omega)]
          exact a1
      · have ht1 : ¬ tg σ k u = -1 := by rw [ht]; grind
        obtain ⟨τ', a1, a2⟩ := ih (u + 1) m _ (by omega) (by omega) (hR.put (f := gI τ 20) (p := gI τ 21) (τ1 := τ) (by omega) (hR.2.2.ok ht1) hF (fun _ => rfl) rfl rfl)
        refine ⟨τ', ?_, a2⟩
        rw [if_neg h2]
        exact a1
    · have ht : tg σ k u = fd (xA σ 20) (xA σ 21) (xB σ 3) (xB σ 4 (nI u)) 701 (xA σ 27 (nI u)) := by unfold tg; rw [if_neg h1]
      have ht1 : ¬ tg σ k u = -1 := by rw [ht]; exact h1
      obtain ⟨τ', a1, a2⟩ := ih (u + 1) m _ (by omega) (by omega) (hR.put (f := gI τ 20) (p := gI τ 21) (τ1 := τ) (by omega) (hR.2.2.ok ht1) hF (fun _ => rfl) rfl rfl)
      refine ⟨τ', ?_, a2⟩
      rw [if_neg h1, ← ht]
      exact a1
