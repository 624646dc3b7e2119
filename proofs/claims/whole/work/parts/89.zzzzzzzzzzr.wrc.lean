theorem n10 {i : Nat} (h : i < 10) : ¬ (10 : Int32) ≤ nI i := fun w => by have := (nI_le31 (a := 10) (b := i) (by omega) (by omega)).mp w; omega
theorem nle0 {i : Nat} (h : i < 2 ^ 31) (h0 : ¬ i = 0) : ¬ nI i ≤ 0 := fun w => by have := (nI_le31 (a := i) (b := 0) h (by omega)).mp w; omega
theorem nneg1 {c : Int32} (h : 0 ≤ c) : ¬ c = -1 := fun w => by rw [w] at h; exact absurd h (by decide)
/-- the row of a node's parts -/
theorem cl_row {τ0 : S5} {E : Int32 → S5 → Option (Unit × S5)} {k : Nat} {cc : Nat → Int32} {L : Nat → List Int32} (hk : k ≤ 9) (hc : ∀ i, i < k → (0 ≤ cc i ∧ cc i < 6200) ∧ xA τ0 17 (cc i) = (if i + 1 < k then cc (i + 1) else -1) ∧ Wc τ0 (E (cc i)) (L i)) : ∀ (m i : Nat), i + m = k → ∀ N, m < N → Wc τ0 (f_X7_writeRow_L4 E N (nI i) (if i < k then cc i else -1)) (jn (fun i => if i = 0 then [] else [32]) L [] m i) := by
  intro m
  induction m with
  | zero =>
    intro i hi N hN σ τ hC h
    obtain ⟨N, rfl⟩ : ∃ n, N = n + 1 := ⟨N - 1, by omega⟩
    cases h
    show f_X7_writeRow_B4 _ _ _ _ _ = _
    unfold f_X7_writeRow_B4
    rw [if_neg (n10 (by omega)), if_neg (show ¬ i < k by omega), if_pos rfl]
  | succ m ih =>
    intro i hi N hN σ τ hC h
    obtain ⟨N, rfl⟩ : ∃ n, N = n + 1 := ⟨N - 1, by omega⟩
    obtain ⟨⟨c0, c1⟩, c2, c3⟩ := hc i (by omega)
    obtain ⟨ρ1, l1, l2⟩ := LWc.ap h
    obtain ⟨ρ2, l3, l4⟩ := LWc.ap l2
    dsimp only at l1
    have k1 := hC.fr l1.fr
    have k2 := k1.fr l3.fr
    have fin := ih (i + 1) (by omega) N (by omega) _ _ k2 l4
    show f_X7_writeRow_B4 _ _ _ _ _ = _
    unfold f_X7_writeRow_B4 f_X7_writeRow_b28
    rw [if_neg (n10 (by omega)), if_pos (show i < k by omega), if_neg (nneg1 c0)]
    by_cases h0 : i = 0
    · rw [if_pos h0] at l1
      cases l1
      rw [if_pos (by rw [h0]; decide), c3 _ _ hC l3, bd_of, gd6200 c0 c1, k2.x 17 _ (by decide), c2, nI_add1]
      exact fin
    · rw [if_neg h0] at l1
      rw [if_neg (nle0 (by omega) h0), gq1 hC, l1.one, bd_of, c3 _ _ k1 l3, bd_of, gd6200 c0 c1, k2.x 17 _ (by decide), c2, nI_add1]
      exact fin
/-- the bindings of a let -/
theorem cl_bind {τ0 : S5} {E : Int32 → S5 → Option (Unit × S5)} {k x0 : Nat} {bb : Nat → Int32} {L Lv : Nat → List Int32} (hk : k ≤ 9) (hc : ∀ i, i < k → (0 ≤ bb i ∧ bb i < 6200) ∧ xA τ0 17 (bb i) = (if i + 1 < k then bb (i + 1) else -1) ∧ xA τ0 14 (bb i) = nI (x0 + i) ∧ Wc τ0 (f_X7_writeVariable (nI (x0 + i))) (Lv i) ∧ Wc τ0 (E (xA τ0 16 (bb i))) (L i)) : ∀ (m i : Nat), i + m = k → ∀ N, m < N → Wc τ0 (f_X7_writeBindings_L4 E N (nI i) (if i < k then bb i else -1)) (jn (fun i => (if i = 0 then [] else [44, 32]) ++ (Lv i ++ [32, 61, 32])) L [] m i) := by
  intro m
  induction m with
  | zero =>
    intro i hi N hN σ τ hC h
    obtain ⟨N, rfl⟩ : ∃ n, N = n + 1 := ⟨N - 1, by omega⟩
    cases h
    show f_X7_writeBindings_B4 _ _ _ _ _ = _
    unfold f_X7_writeBindings_B4
    rw [if_neg (n10 (by omega)), if_neg (show ¬ i < k by omega), if_pos rfl]
  | succ m ih =>
    intro i hi N hN σ τ hC h
    obtain ⟨N, rfl⟩ : ∃ n, N = n + 1 := ⟨N - 1, by omega⟩
    obtain ⟨⟨c0, c1⟩, c2, c3, c4, c5⟩ := hc i (by omega)
    obtain ⟨ρ3, l1', l2⟩ := LWc.ap h
    dsimp only at l1'
    obtain ⟨ρ4, l3, l4⟩ := LWc.ap l2
    obtain ⟨ρ1, l1, l5⟩ := LWc.ap l1'
    obtain ⟨ρ2, l6, l7⟩ := LWc.ap l5
    have k1 := hC.fr l1.fr
    have k2 := k1.fr l6.fr
    have k3 := k2.fr l7.fr
    have k4 := k3.fr l3.fr
    have fin := ih (i + 1) (by omega) N (by omega) _ _ k4 l4
    have body : f_X7_writeBindings_b28 E (f_X7_writeBindings_L4 E N) (nI i) (bb i) ρ1 = some ((), τ) := by
      unfold f_X7_writeBindings_b28
      rw [gd6200 c0 c1, k1.x 14 _ (by decide), c3, c4 _ _ k1 l6, bd_of, gq1 k2, txC (by decide) tl_5 l7, bd_of, gd6200 c0 c1, k3.x 16 _ (by decide), c5 _ _ k3 l3, bd_of, gd6200 c0 c1, k4.x 17 _ (by decide), c2, nI_add1]
      exact fin
    show f_X7_writeBindings_B4 _ _ _ _ _ = _
    unfold f_X7_writeBindings_B4
    rw [if_neg (n10 (by omega)), if_pos (show i < k by omega), if_neg (nneg1 c0)]
    by_cases h0 : i = 0
    · rw [if_pos h0] at l1
      cases l1
      rw [if_pos (by rw [h0]; decide)]
      exact body
    · rw [if_neg h0] at l1
      rw [if_neg (nle0 (by omega) h0), gq1 hC, txC (by decide) tl_14 l1, bd_of]
      exact body
/-- the alternatives of a case -/
theorem cl_alt {τ0 : S5} {E : Int32 → S5 → Option (Unit × S5)} {k : Nat} {aa : Nat → Int32} {L Lp : Nat → List Int32} (hk : k ≤ 9) (hc : ∀ i, i < k → (0 ≤ aa i ∧ aa i < 6200) ∧ xA τ0 17 (aa i) = (if i + 1 < k then aa (i + 1) else -1) ∧ Wc τ0 (f_X7_writePattern (aa i)) (Lp i) ∧ Wc τ0 (E (xA τ0 16 (aa i))) (L i)) : ∀ (m i : Nat), i + m = k → ∀ N, m < N → Wc τ0 (f_X7_writeAlternatives_L4 E N (nI i) (if i < k then aa i else -1)) (jn (fun i => (if i = 0 then [] else [59, 32]) ++ (Lp i ++ [32, 45, 62, 32])) L [] m i) := by
  intro m
  induction m with
  | zero =>
    intro i hi N hN σ τ hC h
    obtain ⟨N, rfl⟩ : ∃ n, N = n + 1 := ⟨N - 1, by omega⟩
    cases h
    show f_X7_writeAlternatives_B4 _ _ _ _ _ = _
    unfold f_X7_writeAlternatives_B4
    rw [if_neg (n10 (by omega)), if_neg (show ¬ i < k by omega), if_pos rfl]
  | succ m ih =>
    intro i hi N hN σ τ hC h
    obtain ⟨N, rfl⟩ : ∃ n, N = n + 1 := ⟨N - 1, by omega⟩
    obtain ⟨⟨c0, c1⟩, c2, c4, c5⟩ := hc i (by omega)
    obtain ⟨ρ3, l1', l2⟩ := LWc.ap h
    dsimp only at l1'
    obtain ⟨ρ4, l3, l4⟩ := LWc.ap l2
    obtain ⟨ρ1, l1, l5⟩ := LWc.ap l1'
    obtain ⟨ρ2, l6, l7⟩ := LWc.ap l5
    have k1 := hC.fr l1.fr
    have k2 := k1.fr l6.fr
    have k3 := k2.fr l7.fr
    have k4 := k3.fr l3.fr
    have fin := ih (i + 1) (by omega) N (by omega) _ _ k4 l4
    have body : f_X7_writeAlternatives_b28 E (f_X7_writeAlternatives_L4 E N) (nI i) (aa i) ρ1 = some ((), τ) := by
      unfold f_X7_writeAlternatives_b28
      rw [c4 _ _ k1 l6, bd_of, gq1 k2, txC (by decide) tl_12 l7, bd_of, gd6200 c0 c1, k3.x 16 _ (by decide), c5 _ _ k3 l3, bd_of, gd6200 c0 c1, k4.x 17 _ (by decide), c2, nI_add1]
      exact fin
    show f_X7_writeAlternatives_B4 _ _ _ _ _ = _
    unfold f_X7_writeAlternatives_B4
    rw [if_neg (n10 (by omega)), if_pos (show i < k by omega), if_neg (nneg1 c0)]
    by_cases h0 : i = 0
    · rw [if_pos h0] at l1
      cases l1
      rw [if_pos (by rw [h0]; decide)]
      exact body
    · rw [if_neg h0] at l1
      rw [if_neg (nle0 (by omega) h0), gq1 hC, txC (by decide) tl_11 l1, bd_of]
      exact body
