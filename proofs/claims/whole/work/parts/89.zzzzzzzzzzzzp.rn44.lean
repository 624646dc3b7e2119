theorem xB_at {σ : S5} {k i : Nat} (hi : i < 2 ^ 31) : xB σ k (nI i) = gB σ k i := by
  show gB σ k (nI i).toNatClampNeg = _
  rw [nI_clamp hi]
theorem lp_le {a b : Nat} (ha : a < 2 ^ 31) (hb : b < 2 ^ 31) : (nI a ≤ nI b) ↔ a ≤ b := nI_le31 ha hb
/-- what a part of a call holds becomes variables -/
theorem cl105 {v1 v2 v5 v6 v7 : Int32} {A had e : Nat} (hv2 : 0 < had → v2 = nI A) (hA : A + 2 + had ≤ 4000) (hh : had ≤ 8) (he : e < 2 ^ 20) : ∀ (m j N : Nat) (σ : S5), j + m = had → m < N → e + had ≤ gN σ 3 → gN σ 3 < 2 ^ 31 → ∃ σ', f_X3_enterCall_L105 N v1 v2 (nI had) v5 v6 v7 (nI e) (nI j) σ = f_X3_enterCall_L145 FU v1 (nI had) v5 v6 v7 (nI e) 0 σ' ∧ Fb 13 σ σ' ∧ (∀ y, j ≤ y → y < had → gB σ' 13 (e + y) = gB σ 14 (A + 2 + y)) ∧ ∀ q, (∀ y, j ≤ y → y < had → ¬ q = e + y) → gB σ' 13 q = gB σ 13 q := by
  intro m
  induction m with
  | zero =>
    intro j N σ hj hN h3 h31
    obtain ⟨N, rfl⟩ : ∃ n, N = n + 1 := ⟨N - 1, by omega⟩
    refine ⟨σ, ?_, Fb.rf 13 σ, fun y a b => by omega, fun _ _ => rfl⟩
    show f_X3_enterCall_B105 _ _ _ _ _ _ _ _ _ _ = _
    unfold f_X3_enterCall_B105
    rw [if_pos ((lp_le (by omega) (by omega)).mpr (by omega))]
  | succ m ih =>
    intro j N σ hj hN h3 h31
    obtain ⟨N, rfl⟩ : ∃ n, N = n + 1 := ⟨N - 1, by omega⟩
    have e2 := hv2 (by omega)
    obtain ⟨σ', i1, i2, i3, i4⟩ := ih (j + 1) N (pB σ 13 (nI (e + j)) (gB σ 14 (A + 2 + j))) (by omega) (by omega) h3 h31
    refine ⟨σ', ?_, (Fb.p _ _ _ _).tr i2, fun y a b => ?_, fun q hq => ?_⟩
    · rw [← i1]
      show f_X3_enterCall_B105 _ _ _ _ _ _ _ _ _ _ = _
      unfold f_X3_enterCall_B105
      rw [if_neg (fun w => absurd ((lp_le (by omega) (by omega)).mp w) (by omega)), e2, show (2 : Int32) = nI 2 from rfl, nI_plus, nI_plus, nI_plus, gdn (by omega) (by omega), gdn (by omega) h31, nI_add1, xB_at (by omega)]
    · by_cases hy : y = j
      · subst hy
        rw [i4 _ (fun y' a' b' => by omega), gB_s (by omega)]
      · rw [i3 y (by omega) b]
        rw [gB_pB_ne (by decide)]
    · rw [i4 q (fun y a b => hq y (by omega) b), gB_n (by omega) (hq j (Nat.le_refl _) (by omega))]
/-- arguments on the stack become variables -/
theorem cl145 {v1 v7 : Int32} {had tk fr0 e : Nat} (hh : had ≤ 8) (htk : tk ≤ 8) (he : e < 2 ^ 20) (hf : fr0 < 2 ^ 21) : ∀ (m j N : Nat) (σ : S5), j + m = tk → m < N → e + had + tk ≤ gN σ 3 → gN σ 3 < 2 ^ 31 → fr0 + tk ≤ gN σ 1 → gN σ 1 < 2 ^ 31 → ∃ σ', f_X3_enterCall_L145 N v1 (nI had) (nI tk) (nI fr0) v7 (nI e) (nI j) σ = f_X3_enterCall_L184 FU v1 (nI tk) (nI fr0) v7 0 σ' ∧ Fb 13 σ σ' ∧ (∀ y, j ≤ y → y < tk → gB σ' 13 (e + had + y) = gB σ 12 (fr0 + y)) ∧ ∀ q, (∀ y, j ≤ y → y < tk → ¬ q = e + had + y) → gB σ' 13 q = gB σ 13 q := by
  intro m
  induction m with
  | zero =>
    intro j N σ hj hN h3 h31 h1 h11
    obtain ⟨N, rfl⟩ : ∃ n, N = n + 1 := ⟨N - 1, by omega⟩
    refine ⟨σ, ?_, Fb.rf 13 σ, fun y a b => by omega, fun _ _ => rfl⟩
    show f_X3_enterCall_B145 _ _ _ _ _ _ _ _ _ = _
    unfold f_X3_enterCall_B145
    rw [if_pos ((lp_le (by omega) (by omega)).mpr (by omega))]
  | succ m ih =>
    intro j N σ hj hN h3 h31 h1 h11
    obtain ⟨N, rfl⟩ : ∃ n, N = n + 1 := ⟨N - 1, by omega⟩
    obtain ⟨σ', i1, i2, i3, i4⟩ := ih (j + 1) N (pB σ 13 (nI (e + had + j)) (gB σ 12 (fr0 + j))) (by omega) (by omega) h3 h31 h1 h11
    refine ⟨σ', ?_, (Fb.p _ _ _ _).tr i2, fun y a b => ?_, fun q hq => ?_⟩
    · rw [← i1]
      show f_X3_enterCall_B145 _ _ _ _ _ _ _ _ _ = _
      unfold f_X3_enterCall_B145
      rw [if_neg (fun w => absurd ((lp_le (by omega) (by omega)).mp w) (by omega)), nI_plus, nI_plus, nI_plus, gdn (by omega) h11, gdn (by omega) h31, nI_add1, xB_at (by omega)]
    · by_cases hy : y = j
      · subst hy
        rw [i4 _ (fun y' a' b' => by omega), gB_s (by omega)]
      · rw [i3 y (by omega) b]
        rw [gB_pB_ne (by decide)]
    · rw [i4 q (fun y a b => hq y (by omega) b), gB_n (by omega) (hq j (Nat.le_refl _) (by omega))]
/-- what comes behind -/
def clT (v1 : Int32) (fr0 lf : Nat) (σ : S5) : Option (Unit × S5) := if lf = 0 then f_X3_enterCall_b246 v1 (pI σ 40 (nI fr0)) else bd (f_X3_push (fr 6 lf 0) (pI σ 40 (nI (fr0 + lf)))) (fun _ τ243 => gle (gN σ 1) (gN τ243 1) <| gle (gN σ 3) (gN τ243 3) <| f_X3_enterCall_b246 (v1) τ243)
/-- the arguments that are left move down -/
theorem cl184 {v1 : Int32} {tk fr0 lf : Nat} (htk1 : 1 ≤ tk) (htk : tk ≤ 8) (hl : lf ≤ 8) (hf : fr0 < 2 ^ 21) : ∀ (m j N : Nat) (σ : S5), j + m = lf → m < N → fr0 + tk + lf ≤ gN σ 1 → gN σ 1 < 2 ^ 31 → ∃ σ', f_X3_enterCall_L184 N v1 (nI tk) (nI fr0) (nI lf) (nI j) σ = clT v1 fr0 lf σ' ∧ Fb 12 σ σ' ∧ (∀ y, j ≤ y → y < lf → gB σ' 12 (fr0 + y) = gB σ 12 (fr0 + tk + y)) ∧ ∀ q, (∀ y, j ≤ y → y < lf → ¬ q = fr0 + y) → gB σ' 12 q = gB σ 12 q := by
  intro m
  induction m with
  | zero =>
    intro j N σ hj hN h1 h11
    obtain ⟨N, rfl⟩ : ∃ n, N = n + 1 := ⟨N - 1, by omega⟩
    refine ⟨σ, ?_, Fb.rf 12 σ, fun y a b => by omega, fun _ _ => rfl⟩
    show f_X3_enterCall_B184 _ _ _ _ _ _ _ = _
    unfold f_X3_enterCall_B184 clT
    rw [if_pos ((lp_le (by omega) (by omega)).mpr (by omega)), nI_plus]
    by_cases e0 : lf = 0
    · subst e0
      rw [if_pos (by decide), if_pos rfl]
      rfl
    · rw [if_neg (nle0 (by omega) (by omega)), if_neg e0]
      unfold f_X3_frame gq
      rw [bd_of, if_pos (show gN (pI σ 40 (nI (fr0 + lf))) 1 = gN σ 1 from rfl), if_pos (show gN (pI σ 40 (nI (fr0 + lf))) 3 = gN σ 3 from rfl)]
      rfl
  | succ m ih =>
    intro j N σ hj hN h1 h11
    obtain ⟨N, rfl⟩ : ∃ n, N = n + 1 := ⟨N - 1, by omega⟩
    obtain ⟨σ', i1, i2, i3, i4⟩ := ih (j + 1) N (pB σ 12 (nI (fr0 + j)) (gB σ 12 (fr0 + tk + j))) (by omega) (by omega) h1 h11
    refine ⟨σ', ?_, (Fb.p _ _ _ _).tr i2, fun y a b => ?_, fun q hq => ?_⟩
    · rw [← i1]
      show f_X3_enterCall_B184 _ _ _ _ _ _ _ = _
      unfold f_X3_enterCall_B184
      rw [if_neg (fun w => absurd ((lp_le (by omega) (by omega)).mp w) (by omega)), nI_plus, nI_plus, nI_plus, gdn (by omega) h11, gdn (by omega) h11, nI_add1, xB_at (by omega)]
    · by_cases hy : y = j
      · subst hy
        rw [i4 _ (fun y' a' b' => by omega), gB_s (by omega)]
      · rw [i3 y (by omega) b, gB_n (by omega) (by omega)]
    · rw [i4 q (fun y a b => hq y (by omega) b), gB_n (by omega) (hq j (Nat.le_refl _) (by omega))]
/-- the other's three rounds -/
theorem ml117 {v1 v2 v5 v6 v7 : Int32} {c had b p0 : Nat} (hv2 : 0 < had → v2 = nI c) (hc : c < 4100) (hp : p0 + had ≤ 4100) (hh : had ≤ 8) (hb : b + had ≤ 193000) : ∀ (m j N : Nat) (μ : S5), j + m = had → m < N → gI μ 50 = nI b → (0 < had → gA μ 55 c = nI p0) → ∃ ν, f_X12_call_L117 N v1 v2 (nI had) v5 v6 v7 (nI j) μ = f_X12_call_L159 FU v1 (nI had) v5 v6 v7 0 ν ∧ Fb 9 μ ν ∧ (∀ y, j ≤ y → y < had → gB ν 9 (b + y) = gB μ 7 (p0 + y)) ∧ ∀ q, (∀ y, j ≤ y → y < had → ¬ q = b + y) → gB ν 9 q = gB μ 9 q := by
  intro m
  induction m with
  | zero =>
    intro j N μ hj hN h50 h55
    obtain ⟨N, rfl⟩ : ∃ n, N = n + 1 := ⟨N - 1, by omega⟩
    refine ⟨μ, ?_, Fb.rf 9 μ, fun y a b => by omega, fun _ _ => rfl⟩
    show f_X12_call_B117 _ _ _ _ _ _ _ _ _ = _
    unfold f_X12_call_B117
    rw [if_pos ((lp_le (by omega) (by omega)).mpr (by omega))]
  | succ m ih =>
    intro j N μ hj hN h50 h55
    obtain ⟨N, rfl⟩ : ∃ n, N = n + 1 := ⟨N - 1, by omega⟩
    have e2 := hv2 (by omega)
    obtain ⟨ν, i1, i2, i3, i4⟩ := ih (j + 1) N (pB μ 9 (nI (b + j)) (gB μ 7 (p0 + j))) (by omega) (by omega) h50 h55
    refine ⟨ν, ?_, (Fb.p _ _ _ _).tr i2, fun y a b => ?_, fun q hq => ?_⟩
    · rw [← i1]
      show f_X12_call_B117 _ _ _ _ _ _ _ _ _ = _
      unfold f_X12_call_B117
      rw [if_neg (fun w => absurd ((lp_le (by omega) (by omega)).mp w) (by omega)), e2, gdn hc (by omega), xA_n (by omega), h55 (by omega), h50, nI_plus, nI_plus, gdn (by omega) (by omega), gdn (by omega) (by omega), nI_add1, xB_at (by omega)]
    · by_cases hy : y = j
      · subst hy
        rw [i4 _ (fun y' a' b' => by omega), gB_s (by omega)]
      · rw [i3 y (by omega) b]
        rw [gB_pB_ne (by decide)]
    · rw [i4 q (fun y a b => hq y (by omega) b), gB_n (by omega) (hq j (Nat.le_refl _) (by omega))]
theorem ml159 {v1 v6 : Int32} {had tk fr0 b : Nat} (hh : had ≤ 8) (htk : tk ≤ 8) (hb : b + had + tk ≤ 193000) (hf : fr0 + tk ≤ 580000) : ∀ (m j N : Nat) (μ : S5), j + m = tk → m < N → gI μ 50 = nI b → ∃ ν, f_X12_call_L159 N v1 (nI had) (nI tk) v6 (nI fr0) (nI j) μ = f_X12_call_L200 FU v1 (nI tk) v6 (nI fr0) 0 ν ∧ Fb 9 μ ν ∧ (∀ y, j ≤ y → y < tk → gB ν 9 (b + had + y) = gB μ 8 (fr0 + y)) ∧ ∀ q, (∀ y, j ≤ y → y < tk → ¬ q = b + had + y) → gB ν 9 q = gB μ 9 q := by
  intro m
  induction m with
  | zero =>
    intro j N μ hj hN h50
    obtain ⟨N, rfl⟩ : ∃ n, N = n + 1 := ⟨N - 1, by omega⟩
    refine ⟨μ, ?_, Fb.rf 9 μ, fun y a b => by omega, fun _ _ => rfl⟩
    show f_X12_call_B159 _ _ _ _ _ _ _ _ = _
    unfold f_X12_call_B159
    rw [if_pos ((lp_le (by omega) (by omega)).mpr (by omega))]
  | succ m ih =>
    intro j N μ hj hN h50
    obtain ⟨N, rfl⟩ : ∃ n, N = n + 1 := ⟨N - 1, by omega⟩
    obtain ⟨ν, i1, i2, i3, i4⟩ := ih (j + 1) N (pB μ 9 (nI (b + had + j)) (gB μ 8 (fr0 + j))) (by omega) (by omega) h50
    refine ⟨ν, ?_, (Fb.p _ _ _ _).tr i2, fun y a b => ?_, fun q hq => ?_⟩
    · rw [← i1]
      show f_X12_call_B159 _ _ _ _ _ _ _ _ = _
      unfold f_X12_call_B159
      rw [if_neg (fun w => absurd ((lp_le (by omega) (by omega)).mp w) (by omega)), h50, nI_plus, nI_plus, nI_plus, gdn (by omega) (by omega), gdn (by omega) (by omega), nI_add1, xB_at (by omega)]
    · by_cases hy : y = j
      · subst hy
        rw [i4 _ (fun y' a' b' => by omega), gB_s (by omega)]
      · rw [i3 y (by omega) b]
        rw [gB_pB_ne (by decide)]
    · rw [i4 q (fun y a b => hq y (by omega) b), gB_n (by omega) (hq j (Nat.le_refl _) (by omega))]
theorem ml200 {g tk fr0 lf : Nat} (hg : g < 640) (htk1 : 1 ≤ tk) (htk : tk ≤ 8) (hl : lf ≤ 8) (hf : fr0 + tk + lf ≤ 580000) : ∀ (m j N : Nat) (μ : S5), j + m = lf → m < N → ∃ ν, f_X12_call_L200 N (nI g) (nI tk) (nI lf) (nI fr0) (nI j) μ = some ((), pI (pI (pI ν 49 (nI (fr0 + lf))) 52 (xA μ 45 (nI g))) 53 0) ∧ Fb 8 μ ν ∧ (∀ y, j ≤ y → y < lf → gB ν 8 (fr0 + y) = gB μ 8 (fr0 + tk + y)) ∧ ∀ q, (∀ y, j ≤ y → y < lf → ¬ q = fr0 + y) → gB ν 8 q = gB μ 8 q := by
  intro m
  induction m with
  | zero =>
    intro j N μ hj hN
    obtain ⟨N, rfl⟩ : ∃ n, N = n + 1 := ⟨N - 1, by omega⟩
    refine ⟨μ, ?_, Fb.rf 8 μ, fun y a b => by omega, fun _ _ => rfl⟩
    show f_X12_call_B200 _ _ _ _ _ _ _ = _
    unfold f_X12_call_B200 f_X12_evaluate
    rw [if_pos ((lp_le (by omega) (by omega)).mpr (by omega)), gdn hg (by omega), bd_of, nI_plus]
  | succ m ih =>
    intro j N μ hj hN
    obtain ⟨N, rfl⟩ : ∃ n, N = n + 1 := ⟨N - 1, by omega⟩
    obtain ⟨ν, i1, i2, i3, i4⟩ := ih (j + 1) N (pB μ 8 (nI (fr0 + j)) (gB μ 8 (fr0 + tk + j))) (by omega) (by omega)
    refine ⟨ν, ?_, (Fb.p _ _ _ _).tr i2, fun y a b => ?_, fun q hq => ?_⟩
    · rw [show xA μ 45 (nI g) = xA (pB μ 8 (nI (fr0 + j)) (gB μ 8 (fr0 + tk + j))) 45 (nI g) from rfl, ← i1]
      show f_X12_call_B200 _ _ _ _ _ _ _ = _
      unfold f_X12_call_B200
      rw [if_neg (fun w => absurd ((lp_le (by omega) (by omega)).mp w) (by omega)), nI_plus, nI_plus, nI_plus, gdn (by omega) (by omega), gdn (by omega) (by omega), nI_add1, xB_at (by omega)]
    · by_cases hy : y = j
      · subst hy
        rw [i4 _ (fun y' a' b' => by omega), gB_s (by omega)]
      · rw [i3 y (by omega) b, gB_n (by omega) (by omega)]
    · rw [i4 q (fun y a b => hq y (by omega) b), gB_n (by omega) (hq j (Nat.le_refl _) (by omega))]
