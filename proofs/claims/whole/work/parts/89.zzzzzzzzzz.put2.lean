def wz (v : Int32) (i : Nat) : Nat := if by8 v i = 0 then 0 else 1
def okB (b : Int32) : Prop := b = 0 ∨ b = 10 ∨ (32 ≤ b ∧ b ≤ 126)
theorem by8_c (v : Int32) (i : Nat) : ((j_iushr v (8 * nI i)) &&& 255) = by8 v i := rfl
theorem by8_m (v : Int32) {i : Nat} (hi : i < 4) : ((v >>> (nI (8 * i) &&& 31)) &&& 255) = by8 v i := by
  rw [← by8_bits v (8 * i) (by omega) _ rfl, ← nI_x8]
  rfl
theorem wz_le (v : Int32) (i : Nat) : wz v i ≤ 1 := by
  unfold wz
  split <;> omega
theorem pz_le (v : Int32) : ∀ n, pre (wz v) n ≤ n
  | 0 => Nat.le_refl _
  | n + 1 => by
    have h1 := pz_le v n
    have h2 := wz_le v n
    show pre (wz v) n + wz v n ≤ n + 1
    omega
theorem nI_8s (i : Nat) : nI (8 * i) + 8 = nI (8 * (i + 1)) := by
  rw [show (8 : Int32) = nI 8 from rfl, nI_plus, show 8 * i + 8 = 8 * (i + 1) by omega]
/-- once a sign is bad, the other goes on to the end and refuses -/
theorem put_bad {v : Int32} : ∀ (m i N : Nat) (n : Int32) (μ : S5), i + m = 4 → m < N → f_X12_put_L7 N v n 0 (nI (8 * i)) μ = some (0, pI μ 0 1) := by
  intro m
  induction m with
  | zero =>
    intro i N n μ hi hN
    obtain ⟨N, rfl⟩ : ∃ n, N = n + 1 := ⟨N - 1, by omega⟩
    obtain rfl : i = 4 := by omega
    rfl
  | succ m ih =>
    intro i N n μ hi hN
    obtain ⟨N, rfl⟩ : ∃ n, N = n + 1 := ⟨N - 1, by omega⟩
    show f_X12_put_B7 _ _ _ _ _ _ = _
    unfold f_X12_put_B7
    rw [if_neg (fun w => by have := (nI_le31 (a := 32) (b := 8 * i) (by omega) (by omega)).mp w; omega), if_pos rfl]
    unfold f_X12_put_b58 f_X12_put_b59 f_X12_put_b71
    rw [nI_8s]
    split
    · exact ih (i + 1) N _ μ (by omega) (by omega)
    · exact ih (i + 1) N _ μ (by omega) (by omega)
/-- the signs are looked at -/
theorem put_look {v : Int32} {σ μ : S5} : ∀ (m i N N' : Nat), i + m = 4 → m < N → m < N' → (f_X11_put_L4 N v (nI (pre (wz v) i)) (nI i) σ = some ((1, 0), σ) ∧ f_X12_put_L7 N' v (nI (pre (wz v) i)) 1 (nI (8 * i)) μ = some (0, pI μ 0 1)) ∨ ((∀ x, i ≤ x → x < 4 → okB (by8 v x)) ∧ f_X11_put_L4 N v (nI (pre (wz v) i)) (nI i) σ = (if (gI σ 0) + nI (pre (wz v) 4) ≤ 3000 then f_X11_put_L99 FU v 0 σ else some ((2, 0), σ)) ∧ f_X12_put_L7 N' v (nI (pre (wz v) i)) 1 (nI (8 * i)) μ = (if (gI μ 1) + nI (pre (wz v) 4) ≤ 3000 then f_X12_put_b105 v 0 μ else f_X12_put_b105 v 2 μ)) := by
  intro m
  induction m with
  | zero =>
    intro i N N' hi hN hN'
    obtain ⟨N, rfl⟩ : ∃ n, N = n + 1 := ⟨N - 1, by omega⟩
    obtain ⟨N', rfl⟩ : ∃ n, N' = n + 1 := ⟨N' - 1, by omega⟩
    obtain rfl : i = 4 := by omega
    refine Or.inr ⟨fun x a b => absurd b (by omega), ?_, ?_⟩
    · show f_X11_put_B4 _ _ _ _ _ = _
      unfold f_X11_put_B4
      rw [if_pos (by decide)]
    · show f_X12_put_B7 _ _ _ _ _ _ = _
      unfold f_X12_put_B7
      rw [if_pos (by decide), if_neg (by decide)]
  | succ m ih =>
    intro i N N' hi hN hN'
    obtain ⟨N, rfl⟩ : ∃ n, N = n + 1 := ⟨N - 1, by omega⟩
    obtain ⟨N', rfl⟩ : ∃ n, N' = n + 1 := ⟨N' - 1, by omega⟩
    have h4 : ¬ (4 : Int32) ≤ nI i := fun w => by have := (nI_le31 (a := 4) (b := i) (by omega) (by omega)).mp w; omega
    have h32 : ¬ (32 : Int32) ≤ nI (8 * i) := fun w => by have := (nI_le31 (a := 32) (b := 8 * i) (by omega) (by omega)).mp w; omega
    have hc : f_X11_put_L4 (N + 1) v (nI (pre (wz v) i)) (nI i) σ = if by8 v i = 0 then f_X11_put_b55 (f_X11_put_L4 N) v (nI (pre (wz v) i)) (nI i) (by8 v i) σ else if by8 v i = 10 then f_X11_put_b55 (f_X11_put_L4 N) v (nI (pre (wz v) i)) (nI i) (by8 v i) σ else if by8 v i < 32 then some ((1, 0), σ) else if by8 v i ≤ 126 then f_X11_put_b55 (f_X11_put_L4 N) v (nI (pre (wz v) i)) (nI i) (by8 v i) σ else some ((1, 0), σ) := by
      show f_X11_put_B4 (f_X11_put_L4 N) v (nI (pre (wz v) i)) (nI i) σ = _
      unfold f_X11_put_B4
      rw [if_neg h4, by8_c]
    have hm : f_X12_put_L7 (N' + 1) v (nI (pre (wz v) i)) 1 (nI (8 * i)) μ = if by8 v i = 0 then f_X12_put_b54 (f_X12_put_L7 N') v (nI (pre (wz v) i)) (nI (8 * i)) (by8 v i) μ else if by8 v i = 10 then f_X12_put_b54 (f_X12_put_L7 N') v (nI (pre (wz v) i)) (nI (8 * i)) (by8 v i) μ else if by8 v i < 32 then f_X12_put_b58 (f_X12_put_L7 N') v (nI (pre (wz v) i)) (nI (8 * i)) (by8 v i) μ else if 126 < by8 v i then f_X12_put_b58 (f_X12_put_L7 N') v (nI (pre (wz v) i)) (nI (8 * i)) (by8 v i) μ else f_X12_put_b54 (f_X12_put_L7 N') v (nI (pre (wz v) i)) (nI (8 * i)) (by8 v i) μ := by
      show f_X12_put_B7 (f_X12_put_L7 N') v (nI (pre (wz v) i)) 1 (nI (8 * i)) μ = _
      unfold f_X12_put_B7
      rw [if_neg h32, if_neg (show ¬ (1 : Int32) = 0 by decide), by8_m v (by omega)]
    rw [hc, hm]
    clear hc hm
    have hp : nI (pre (wz v) i) + nI (wz v i) = nI (pre (wz v) (i + 1)) := nI_plus _ _
    have go : okB (by8 v i) → f_X11_put_b55 (f_X11_put_L4 N) v (nI (pre (wz v) i)) (nI i) (by8 v i) σ = f_X11_put_L4 N v (nI (pre (wz v) (i + 1))) (nI (i + 1)) σ ∧ f_X12_put_b54 (f_X12_put_L7 N') v (nI (pre (wz v) i)) (nI (8 * i)) (by8 v i) μ = f_X12_put_L7 N' v (nI (pre (wz v) (i + 1))) 1 (nI (8 * (i + 1))) μ := fun _ => by
      unfold f_X11_put_b55 f_X11_put_b66 f_X12_put_b54 f_X12_put_b59 f_X12_put_b71
      rw [nI_add1, nI_8s]
      by_cases h0 : by8 v i = 0
      · have e : wz v i = 0 := by unfold wz; rw [if_pos h0]
        rw [e] at hp
        rw [if_pos h0, if_pos h0, ← hp]
        exact ⟨rfl, rfl⟩
      · have e : wz v i = 1 := by unfold wz; rw [if_neg h0]
        rw [e] at hp
        rw [if_neg h0, if_neg h0, ← hp]
        exact ⟨rfl, rfl⟩
    have no : f_X12_put_b58 (f_X12_put_L7 N') v (nI (pre (wz v) i)) (nI (8 * i)) (by8 v i) μ = some (0, pI μ 0 1) := by
      unfold f_X12_put_b58 f_X12_put_b59 f_X12_put_b71
      rw [nI_8s]
      split
      · exact put_bad m (i + 1) N' _ μ (by omega) (by omega)
      · exact put_bad m (i + 1) N' _ μ (by omega) (by omega)
    have fin : okB (by8 v i) → (f_X11_put_L4 N v (nI (pre (wz v) (i + 1))) (nI (i + 1)) σ = some ((1, 0), σ) ∧ f_X12_put_L7 N' v (nI (pre (wz v) (i + 1))) 1 (nI (8 * (i + 1))) μ = some (0, pI μ 0 1)) ∨ ((∀ x, i ≤ x → x < 4 → okB (by8 v x)) ∧ f_X11_put_L4 N v (nI (pre (wz v) (i + 1))) (nI (i + 1)) σ = (if (gI σ 0) + nI (pre (wz v) 4) ≤ 3000 then f_X11_put_L99 FU v 0 σ else some ((2, 0), σ)) ∧ f_X12_put_L7 N' v (nI (pre (wz v) (i + 1))) 1 (nI (8 * (i + 1))) μ = (if (gI μ 1) + nI (pre (wz v) 4) ≤ 3000 then f_X12_put_b105 v 0 μ else f_X12_put_b105 v 2 μ)) := fun hok => by
      rcases ih (i + 1) N N' (by omega) (by omega) (by omega) with w | ⟨w1, w2, w3⟩
      · exact Or.inl w
      · refine Or.inr ⟨fun x a b => ?_, w2, w3⟩
        by_cases hx : x = i
        · rw [hx]; exact hok
        · exact w1 x (by omega) b
    by_cases h0 : by8 v i = 0
    · have hok : okB (by8 v i) := Or.inl h0
      rw [if_pos h0, if_pos h0, (go hok).1, (go hok).2]
      exact fin hok
    · rw [if_neg h0, if_neg h0]
      by_cases h10 : by8 v i = 10
      · have hok : okB (by8 v i) := Or.inr (Or.inl h10)
        rw [if_pos h10, if_pos h10, (go hok).1, (go hok).2]
        exact fin hok
      · rw [if_neg h10, if_neg h10]
        by_cases hs : by8 v i < 32
        · rw [if_pos hs, if_pos hs, no]
          exact Or.inl ⟨rfl, rfl⟩
        · rw [if_neg hs, if_neg hs]
          by_cases h126 : by8 v i ≤ 126
          · have hok : okB (by8 v i) := Or.inr (Or.inr ⟨by generalize by8 v i = z at hs; clear go fin no hp ih h4 h32; grind, h126⟩)
            rw [if_pos h126, if_neg (by generalize by8 v i = z at h126; clear go fin no hp ih h4 h32; grind), (go hok).1, (go hok).2]
            exact fin hok
          · rw [if_neg h126, if_pos (by generalize by8 v i = z at h126; clear go fin no hp ih h4 h32; grind), no]
            exact Or.inl ⟨rfl, rfl⟩
