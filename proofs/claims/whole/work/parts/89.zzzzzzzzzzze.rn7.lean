/-- the other: variables go into cells -/
theorem st_m {a : Int64} {p base p0 : Nat} (hp7 : p < 7000) (hb : base + 40 ≤ 193000) (hp : p0 + pcn (i64n a) 40 ≤ 4100) : ∀ (m x N : Nat) (μ : S5), x + m = 40 → m < N → xB μ 5 (nI p) = a → gI μ 50 = nI base → ∃ ν, f_X12_fill_L23 N (nI p) (nI p0) (nI (pcn (i64n a) x)) (nI x) μ = some ((), ν) ∧ Fb 7 μ ν ∧ (∀ y, x ≤ y → y < 40 → ub a y = true → gB ν 7 (p0 + pcn (i64n a) y) = gB μ 9 (base + y)) ∧ ∀ j, (j < p0 + pcn (i64n a) x ∨ p0 + pcn (i64n a) 40 ≤ j) → gB ν 7 j = gB μ 7 j := by
  intro m
  induction m with
  | zero =>
    intro x N μ hx hN h5 h50
    obtain ⟨N, rfl⟩ : ∃ n, N = n + 1 := ⟨N - 1, by omega⟩
    refine ⟨μ, ?_, Fb.rf 7 μ, fun y a b _ => by omega, fun _ _ => rfl⟩
    show f_X12_fill_B23 _ _ _ _ _ _ = _
    unfold f_X12_fill_B23
    rw [if_pos (by rw [show x = 40 by omega]; decide)]
  | succ m ih =>
    intro x N μ hx hN h5 h50
    obtain ⟨N, rfl⟩ : ∃ n, N = n + 1 := ⟨N - 1, by omega⟩
    have hle : ¬ (40 : Int32) ≤ nI x := fun w => by have := (nI_le31 (a := 40) (b := x) (by omega) (by omega)).mp w; omega
    by_cases hu : ub a x = true
    · have hpx := pcn_t hu
      have hpm := pcn_mono (X := i64n a) (show x + 1 ≤ 40 by omega)
      obtain ⟨ν, t1, t2, t3, t4⟩ := ih (x + 1) N (pB μ 7 (nI (p0 + pcn (i64n a) x)) (gB μ 9 (base + x))) (by omega) (by omega) (by rw [← h5]; exact congrFun (gB_pB_ne (by decide)) _) h50
      refine ⟨ν, ?_, (Fb.p _ _ _ _).tr t2, fun y y1 y2 y3 => ?_, fun j hj => ?_⟩
      · show f_X12_fill_B23 _ _ _ _ _ _ = _
        unfold f_X12_fill_B23 f_X12_fill_b70
        rw [if_neg hle, gdn hp7 (by omega), h5, if_pos ((lg_um (by omega)).mpr hu), h50, nI_plus, nI_plus, gdn (by omega) (by omega), gdn (by omega) (by omega), xB_n (by omega), nI_add1, nI_add1, ← hpx]
        exact t1
      · by_cases hyx : y = x
        · subst hyx
          rw [t4 _ (Or.inl (by omega)), gB_s (by omega)]
        · rw [t3 y (by omega) y2 y3]
          exact congrFun (gB_pB_ne (by decide)) _
      · rcases hj with hj | hj
        · rw [t4 j (Or.inl (by omega)), gB_n (by omega) (by omega)]
        · rw [t4 j (Or.inr hj), gB_n (by omega) (by omega)]
    · have hpx := pcn_f hu
      obtain ⟨ν, t1, t2, t3, t4⟩ := ih (x + 1) N μ (by omega) (by omega) h5 h50
      refine ⟨ν, ?_, t2, fun y y1 y2 y3 => ?_, fun j hj => ?_⟩
      · show f_X12_fill_B23 _ _ _ _ _ _ = _
        unfold f_X12_fill_B23 f_X12_fill_b70
        rw [if_neg hle, gdn hp7 (by omega), h5, if_neg (fun w => hu ((lg_um (by omega)).mp w)), nI_add1]
        rw [hpx] at t1
        exact t1
      · by_cases hyx : y = x
        · subst hyx
          exact absurd y3 hu
        · exact t3 y (by omega) y2 y3
      · exact t4 j (by omega)
/-- and come out of them, and the part is begun -/
theorem ld_m {a : Int64} {c p base p0 : Nat} (hp7 : p < 7000) (hc : c < 4100) (hb : base + 40 ≤ 193000) (hp : p0 + pcn (i64n a) 40 ≤ 4100) : ∀ (m x N : Nat) (μ : S5), x + m = 40 → m < N → xB μ 5 (nI p) = a → gI μ 50 = nI base → xA μ 55 (nI c) = nI p0 → xA μ 56 (nI c) = nI (pcn (i64n a) 40) → ∃ ν, f_X12_enter_L113 N (nI c) (nI p) (nI (pcn (i64n a) x)) (nI x) μ = some ((), pI (pI ν 52 (nI p)) 53 0) ∧ Fb 9 μ ν ∧ (∀ y, x ≤ y → y < 40 → ub a y = true → gB ν 9 (base + y) = gB μ 7 (p0 + pcn (i64n a) y)) ∧ ∀ j, (∀ y, x ≤ y → y < 40 → ub a y = true → ¬ j = base + y) → gB ν 9 j = gB μ 9 j := by
  intro m
  induction m with
  | zero =>
    intro x N μ hx hN h5 h50 h55 h56
    obtain ⟨N, rfl⟩ : ∃ n, N = n + 1 := ⟨N - 1, by omega⟩
    refine ⟨μ, ?_, Fb.rf 9 μ, fun y a b _ => by omega, fun _ _ => rfl⟩
    show f_X12_enter_B113 _ _ _ _ _ _ = _
    unfold f_X12_enter_B113
    rw [if_pos (by rw [show x = 40 by omega]; decide)]
    rfl
  | succ m ih =>
    intro x N μ hx hN h5 h50 h55 h56
    obtain ⟨N, rfl⟩ : ∃ n, N = n + 1 := ⟨N - 1, by omega⟩
    have hle : ¬ (40 : Int32) ≤ nI x := fun w => by have := (nI_le31 (a := 40) (b := x) (by omega) (by omega)).mp w; omega
    have hx40 := pcn_le (X := i64n a) 40
    have hxx := pcn_mono (X := i64n a) (show x ≤ 40 by omega)
    by_cases hen : pcn (i64n a) 40 ≤ pcn (i64n a) x
    · have hno : ∀ y, x ≤ y → y < 40 → ¬ ub a y = true := fun y y1 y2 y3 => by
        have h1 := pcn_t y3
        have h2 := pcn_mono (X := i64n a) y1
        have h3 := pcn_mono (X := i64n a) (show y + 1 ≤ 40 by omega)
        omega
      refine ⟨μ, ?_, Fb.rf 9 μ, fun y y1 y2 y3 => absurd y3 (hno y y1 y2), fun _ _ => rfl⟩
      show f_X12_enter_B113 _ _ _ _ _ _ = _
      unfold f_X12_enter_B113
      rw [if_neg hle, gdn hc (by omega), h56, if_pos ((nI_le31 (by omega) (by omega)).mpr hen)]
      rfl
    · have hen' : ¬ nI (pcn (i64n a) 40) ≤ nI (pcn (i64n a) x) := fun w => hen ((nI_le31 (by omega) (by omega)).mp w)
      by_cases hu : ub a x = true
      · have hpx := pcn_t hu
        have hpm := pcn_mono (X := i64n a) (show x + 1 ≤ 40 by omega)
        obtain ⟨ν, t1, t2, t3, t4⟩ := ih (x + 1) N (pB μ 9 (nI (base + x)) (gB μ 7 (p0 + pcn (i64n a) x))) (by omega) (by omega) (by rw [← h5]; exact congrFun (gB_pB_ne (by decide)) _) h50 h55 h56
        refine ⟨ν, ?_, (Fb.p _ _ _ _).tr t2, fun y y1 y2 y3 => ?_, fun j hj => ?_⟩
        · show f_X12_enter_B113 _ _ _ _ _ _ = _
          unfold f_X12_enter_B113 f_X12_enter_b177
          rw [if_neg hle, gdn hc (by omega), h56, if_neg hen', gdn hp7 (by omega), h5, if_pos ((lg_um (by omega)).mpr hu), gdn hc (by omega), h55, h50, nI_plus, nI_plus, gdn (by omega) (by omega), gdn (by omega) (by omega), xB_n (by omega), nI_add1, nI_add1, ← hpx]
          exact t1
        · by_cases hyx : y = x
          · subst hyx
            rw [t4 _ (fun z z1 z2 z3 => by omega), gB_s (by omega)]
          · rw [t3 y (by omega) y2 y3]
            exact congrFun (gB_pB_ne (by decide)) _
        · rw [t4 j (fun y y1 y2 y3 => hj y (by omega) y2 y3), gB_n (by omega) (hj x (Nat.le_refl _) (by omega) hu)]
      · have hpx := pcn_f hu
        obtain ⟨ν, t1, t2, t3, t4⟩ := ih (x + 1) N μ (by omega) (by omega) h5 h50 h55 h56
        refine ⟨ν, ?_, t2, fun y y1 y2 y3 => ?_, fun j hj => ?_⟩
        · show f_X12_enter_B113 _ _ _ _ _ _ = _
          unfold f_X12_enter_B113 f_X12_enter_b177
          rw [if_neg hle, gdn hc (by omega), h56, if_neg hen', gdn hp7 (by omega), h5, if_neg (fun w => hu ((lg_um (by omega)).mp w)), nI_add1]
          rw [hpx] at t1
          exact t1
        · by_cases hyx : y = x
          · subst hyx
            exact absurd y3 hu
          · exact t3 y (by omega) y2 y3
        · exact t4 j (fun y y1 y2 y3 => hj y (by omega) y2 y3)
