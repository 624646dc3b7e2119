theorem orA_cg {τ : S5} {v v' : Int32 → Bool} {l : Nat} {aa : Nat → Int32} (hc : ∀ i, i < l → ¬ aa i = -1 ∧ xA τ 17 (aa i) = (if i + 1 < l then aa (i + 1) else -1) ∧ v (xA τ 16 (aa i)) = v' (xA τ 16 (aa i))) : ∀ (m i : Nat), i ≤ l → orA τ v m (if i < l then aa i else -1) = orA τ v' m (if i < l then aa i else -1)
  | 0, _, _ => rfl
  | m + 1, i, hi => by
    unfold orA
    by_cases hil : i < l
    · obtain ⟨h1, h2, h3⟩ := hc i hil
      rw [if_pos hil, if_neg h1, if_neg h1, h2, h3, orA_cg hc m (i + 1) (by omega)]
    · rw [if_neg hil, if_pos rfl, if_pos rfl]
theorem nx17_at {τ : S5} {k : Nat} {cc : Nat → Int32} (hc : ∀ i, i < k → xA τ 17 (cc i) = if i + 1 < k then cc (i + 1) else -1) : ∀ (i j : Nat), j + i < k → nx17 τ i (cc j) = cc (j + i)
  | 0, _, _ => rfl
  | i + 1, j, h => by
    show nx17 τ i (xA τ 17 (cc j)) = _
    rw [hc j (by omega), if_pos (by omega), nx17_at hc i (j + 1) (by omega), show j + 1 + i = j + (i + 1) by omega]
