theorem orA_cg {τ : S5} {v v' : Int32 → Bool} {l : Nat} {aa : Nat → Int32} (hc : ∀ i, i < l → ¬ aa i = -1 ∧ xA τ 17 (aa i) = (if i + 1 < l then aa (i + 1) else -1) ∧ v (xA τ 16 (aa i)) = v' (xA τ 16 (aa i))) : ∀ (m i : Nat), i ≤ l → orA τ v m (if i < l then aa i else -1) = orA τ v' m (if i < l then aa i else -1)
  | 0, _, _ => rfl
  | m + 1, i, hi => by
    unfold orA
    by_cases hil : i < l
    · obtain ⟨h1, h2, h3⟩ := hc i hil
      rw [if_pos hil, if_neg h1, if_neg h1, h2, h3, orA_cg hc m (i + 1) (by omega)]
    · rw [if_neg hil, if_pos rfl, if_pos rfl]
theorem nx17_at {τ : S5} {k : Nat} {cc : Nat → Int32} (hc : ∀ i, i < k → xA τ 17 (cc i) = if i + 1 < k then cc (i + 1) else -1) : ∀ (i j : Nat), j + i < k → nx17 τ i (cc j) = cc (j + i)
  | 0, _, _ => rfl
  | i + 1, j, h => by
    show nx17 τ i (xA τ 17 (cc j)) = _
    rw [hc j (by omega), if_pos (by omega), nx17_at hc i (j + 1) (by omega), show j + 1 + i = j + (i + 1) by omega]
theorem i_nm {a : Int32} (h : 0 ≤ a) : ¬ a = -1 := fun w => by rw [w] at h; exact absurd h (by decide)
/-- enough fuel is enough -/
theorem dv_fu {τ : S5} {pa : Nat → Nat} {T : Nat → (Nat → Bool) → Bool} {X : Nat → Bool} {c : Int32} {Sc : Nat → Prop} {lo hi : Nat} (q : VS τ c Sc lo hi) : ∀ n n', hF τ c < n → hF τ c < n' → dv τ pa T X n c = dv τ pa T X n' c := by
  refine VS.ind (P := fun c _ _ _ => ∀ n n', hF τ c < n → hF τ c < n' → dv τ pa T X n c = dv τ pa T X n' c) ?_ q
  clear q
  intro c Sc lo hi q n n' hn hn'
  obtain ⟨n, rfl⟩ : ∃ m, n = m + 1 := ⟨n - 1, by omega⟩
  obtain ⟨n', rfl⟩ : ∃ m, n' = m + 1 := ⟨n' - 1, by omega⟩
  unfold dv
  rcases q with ⟨⟨-, q1⟩, -, -⟩ | ⟨q1, k, cc, ll, q2, q3, ⟨q4, q4'⟩, q5, ⟨q6, q7, q8, q8'⟩, q9⟩ | ⟨q1, l, bb, ll, q2, q3, q4, q5, q6, ⟨q7, q8, q9⟩, q10, q11⟩ | ⟨q1, l, aa, ll, q2, q3, q4, q5, ⟨q6, q7, q8⟩, q9⟩
  · have h5 : ¬ xA τ 13 c = 5 := fun w => by rw [w] at q1; exact absurd q1 (by decide)
    have h6 : ¬ xA τ 13 c = 6 := fun w => by rw [w] at q1; exact absurd q1 (by decide)
    have h7 : ¬ xA τ 13 c = 7 := fun w => by rw [w] at q1; exact absurd q1 (by decide)
    have h8 : ¬ xA τ 13 c = 8 := fun w => by rw [w] at q1; exact absurd q1 (by decide)
    rw [if_neg h5, if_neg h6, if_neg h7, if_neg h8, if_neg h5, if_neg h6, if_neg h7, if_neg h8]
  · have e0 : dv τ pa T X n (xA τ 16 c) = dv τ pa T X n' (xA τ 16 c) := by
      rw [q4]
      have := q7 0 (by omega)
      exact (q9 0 (by omega)).2 n n' (by omega) (by omega)
    rcases q1 with w | w | w
    · have hk := q8' w
      subst hk
      rw [w]
      show (dv τ pa T X n (xA τ 16 c) && dv τ pa T X n (xA τ 17 (xA τ 16 c))) = (dv τ pa T X n' (xA τ 16 c) && dv τ pa T X n' (xA τ 17 (xA τ 16 c)))
      have e1 : xA τ 17 (xA τ 16 c) = cc 1 := by rw [q4]; exact (q4' 0 (by omega)).2
      have h1 := q7 1 (by omega)
      rw [e0, e1, (q9 1 (by omega)).2 n n' (by omega) (by omega)]
    · rw [w]
      show (if xA τ 13 (xA τ 16 c) = 2 then (if pa (xA τ 14 (xA τ 16 c)).toNatClampNeg ≤ (xA τ 15 c).toNatClampNeg then T (xA τ 14 (xA τ 16 c)).toNatClampNeg (fun i => decide (i < pa (xA τ 14 (xA τ 16 c)).toNatClampNeg) && dv τ pa T X n (nx17 τ i (xA τ 17 (xA τ 16 c)))) else true) else dv τ pa T X n (xA τ 16 c)) = (if xA τ 13 (xA τ 16 c) = 2 then (if pa (xA τ 14 (xA τ 16 c)).toNatClampNeg ≤ (xA τ 15 c).toNatClampNeg then T (xA τ 14 (xA τ 16 c)).toNatClampNeg (fun i => decide (i < pa (xA τ 14 (xA τ 16 c)).toNatClampNeg) && dv τ pa T X n' (nx17 τ i (xA τ 17 (xA τ 16 c)))) else true) else dv τ pa T X n' (xA τ 16 c))
      by_cases h2 : xA τ 13 (xA τ 16 c) = 2
      · rw [if_pos h2, if_pos h2]
        by_cases hp : pa (xA τ 14 (xA τ 16 c)).toNatClampNeg ≤ (xA τ 15 c).toNatClampNeg
        · rw [if_pos hp, if_pos hp]
          congr 1
          funext i
          by_cases hip : i < pa (xA τ 14 (xA τ 16 c)).toNatClampNeg
          · have h15 := q8 w
            rw [h15, nI_clamp (by omega)] at hp
            have e1 : xA τ 17 (xA τ 16 c) = cc 1 := by rw [q4, (q4' 0 (by omega)).2, if_pos (by omega)]
            rw [e1, nx17_at (fun j hj => (q4' j hj).2) i 1 (by omega)]
            have h1 := q7 (1 + i) (by omega)
            rw [(q9 (1 + i) (by omega)).2 n n' (by omega) (by omega)]
          · rw [decide_eq_false hip]
            rfl
        · rw [if_neg hp, if_neg hp]
      · rw [if_neg h2, if_neg h2]
        exact e0
    · rw [w]; rfl
  · rw [q1]
    show dv τ pa T X n (xA τ 16 c) = dv τ pa T X n' (xA τ 16 c)
    exact q10.2 n n' (by omega) (by omega)
  · rw [q1]
    show (dv τ pa T X n (xA τ 16 c) && orA τ (dv τ pa T X n) 9 (xA τ 17 (xA τ 16 c))) = (dv τ pa T X n' (xA τ 16 c) && orA τ (dv τ pa T X n') 9 (xA τ 17 (xA τ 16 c)))
    have e := orA_cg (τ := τ) (v := dv τ pa T X n) (v' := dv τ pa T X n') (l := l) (aa := aa) (fun i hi => by
      obtain ⟨⟨r1, r2⟩, r3⟩ := q9 i hi
      have h1 := q8 i hi
      refine ⟨i_nm r1.1, r2, ?_⟩
      rcases r3 with ⟨-, j, -, -, -, -, r4⟩ | ⟨-, r4⟩
      · exact r4.2 n n' (by omega) (by omega)
      · exact r4.2 n n' (by omega) (by omega)) 9 0 (by omega)
    rw [if_pos (by omega), ← q4] at e
    rw [q5.2 n n' (by omega) (by omega), e]
