/-- a variable of the class and the reference's -/
def VR (σ : S5) (y v : Int32) : Prop := ∃ (s : Int32) (i j : Nat), 0 ≤ s ∧ s < 700 ∧ xA σ 20 s = nI j ∧ j ≤ 5 ∧ i < j ∧ y = s * 5 + nI i ∧ v = nI (prI (vC σ) s + i)
theorem vC_le {σ : S5} (hD : DN σ) : ∀ n, n ≤ 700 → pre (vC σ) n ≤ 5 * n := by
  intro n
  induction n with
  | zero => intro _; exact Nat.le_refl _
  | succ n ih =>
    intro hn
    have q := ih (by omega)
    obtain ⟨j, j5, hj, _⟩ := hD (nI n) (i_le0 (nI_nneg (by omega))) ((nI_lt31 (b := 700) (by omega) (by omega)).mpr (by omega))
    have e : vC σ n = j := by
      unfold vC
      rw [hj, nI_clamp (by omega)]
    show pre (vC σ) n + vC σ n ≤ _
    omega
theorem VR.ord {σ : S5} {s s' : Int32} {i j i' : Nat} (h0 : 0 ≤ s) (h1 : s < 700) (h7 : s' < 700) (hj : xA σ 20 s = nI j) (j5 : j ≤ 5) (hi : i < j) (hlt : s < s') : prI (vC σ) s + i < prI (vC σ) s' + i' := by
  have hl : s.toNatClampNeg < s'.toNatClampNeg := i_lt (fun w => by grind) hlt
  have e1 := prI_s (vC σ) h0 (by grind)
  have e2 : vC σ s.toNatClampNeg = j := by
    unfold vC
    rw [xA_tn, hj, nI_clamp (by omega)]
  have m := pre_mono (w := vC σ) (s'.toNatClampNeg - (s.toNatClampNeg + 1)) (s.toNatClampNeg + 1)
  rw [show s.toNatClampNeg + 1 + (s'.toNatClampNeg - (s.toNatClampNeg + 1)) = s'.toNatClampNeg by omega] at m
  unfold prI at *
  rw [tn_s h0 (by grind)] at e1
  omega
theorem VR.eq {σ : S5} (hD : DN σ) {y v y' v' : Int32} (h : VR σ y v) (h' : VR σ y' v') : y = y' ↔ v = v' := by
  obtain ⟨s, i, j, a1, a2, a3, a4, a5, a6, a7⟩ := h
  obtain ⟨t, i', j', b1, b2, b3, b4, b5, b6, b7⟩ := h'
  have ls : s.toNatClampNeg < 700 := i_lt (n := 700) (fun w => by grind) a2
  have lt : t.toNatClampNeg < 700 := i_lt (n := 700) (fun w => by grind) b2
  have ps := vC_le hD s.toNatClampNeg (by omega)
  have pt := vC_le hD t.toNatClampNeg (by omega)
  constructor
  · intro w
    have q : (s * 5 + nI i).toNatClampNeg = (t * 5 + nI i').toNatClampNeg := by rw [← a6, ← b6, w]
    rw [s5_n a1 a2 (by omega), s5_n b1 b2 (by omega)] at q
    have hst : s.toNatClampNeg = t.toNatClampNeg := by omega
    have hii : i = i' := by omega
    rw [a7, b7, (i_inj a1 b1).mp hst, hii]
  · intro w
    rw [a7, b7] at w
    have q := nI_inj (a := prI (vC σ) s + i) (b := prI (vC σ) t + i') (by unfold prI; omega) (by unfold prI; omega) w
    by_cases c1 : s < t
    · have := VR.ord (i' := i') a1 a2 b2 a3 a4 a5 c1
      omega
    · by_cases c2 : t < s
      · have := VR.ord (i' := i) b1 b2 a2 b3 b4 b5 c2
        omega
      · have hst : s = t := by grind
        subst hst
        rw [a6, b6, show i = i' by omega]
theorem ix8 (f i : Nat) : nI f * 8 + nI i = nI (f * 8 + i) := by unfold nI; rw [Int32.ofNat_add, Int32.ofNat_mul]; rfl
theorem ix9 (f i : Nat) : 9 * nI f + nI i = nI (9 * f + i) := by unfold nI; rw [Int32.ofNat_add, Int32.ofNat_mul]; rfl
theorem gdn {β : Type} {a n : Nat} {x : Option β} (h : a < n) (hn : n < 2 ^ 31) : gd (nI a) n x = x := by
  unfold gd
  rw [if_neg]
  intro w
  rcases w with w | w
  · exact nI_nneg (by omega) w
  · rw [nI_clamp (by omega)] at w
    omega
/-- the class looks among a function's free variables -/
theorem fi_loop {τ : S5} {f c : Nat} {y : Int32} (hf : f < 630) (hc : xA τ 4 (nI f) = nI c) (hc7 : c < 1000000) : ∀ (d i m : Nat), i + d = min c 8 → d < m → (∃ q, i ≤ q ∧ q < min c 8 ∧ xA τ 5 (nI (f * 8 + q)) = y ∧ (∀ a, i ≤ a → a < q → ¬ xA τ 5 (nI (f * 8 + a)) = y) ∧ f_X2_freeIndex_L2 m (nI f) y (nI i) τ = some (nI q, τ)) ∨ ((∀ a, i ≤ a → a < min c 8 → ¬ xA τ 5 (nI (f * 8 + a)) = y) ∧ f_X2_freeIndex_L2 m (nI f) y (nI i) τ = some (-1, τ)) := by
  intro d
  induction d with
  | zero =>
    intro i m hi hm
    obtain ⟨m, rfl⟩ : ∃ m', m = m' + 1 := ⟨m - 1, by omega⟩
    refine Or.inr ⟨fun a ha hb => absurd hb (by omega), ?_⟩
    show f_X2_freeIndex_B2 _ _ _ _ _ = _
    unfold f_X2_freeIndex_B2
    rw [gdn hf (by omega), hc]
    by_cases h : c ≤ i
    · rw [if_pos ((nI_le31 (by omega) (by omega)).mpr h)]
    · rw [if_neg (fun w => h ((nI_le31 (by omega) (by omega)).mp w)), if_pos (show (8 : Int32) ≤ nI i from (nI_le31 (a := 8) (by omega) (by omega)).mpr (by omega))]
  | succ d ih =>
    intro i m hi hm
    obtain ⟨m, rfl⟩ : ∃ m', m = m' + 1 := ⟨m - 1, by omega⟩
    have hB : f_X2_freeIndex_L2 (m + 1) (nI f) y (nI i) τ = if xA τ 5 (nI (f * 8 + i)) = y then some (nI i, τ) else f_X2_freeIndex_L2 m (nI f) y (nI (i + 1)) τ := by
      show f_X2_freeIndex_B2 _ _ _ _ _ = _
      unfold f_X2_freeIndex_B2
      rw [gdn hf (by omega), hc, if_neg (fun w => by have := (nI_le31 (by omega) (by omega)).mp w; omega), if_neg (fun w => by have := (nI_le31 (a := 8) (by omega) (by omega)).mp w; omega), ix8, gdn (by omega) (by omega), nI_add1]
    rw [hB]
    by_cases he : xA τ 5 (nI (f * 8 + i)) = y
    · rw [if_pos he]
      exact Or.inl ⟨i, Nat.le_refl _, by omega, he, fun a ha hb => absurd hb (by omega), rfl⟩
    · rw [if_neg he]
      rcases ih (i + 1) m (by omega) (by omega) with ⟨q, q1, q2, q3, q4, q5⟩ | ⟨q1, q2⟩
      · refine Or.inl ⟨q, by omega, q2, q3, fun a ha hb => ?_, q5⟩
        by_cases hai : a = i
        · rw [hai]; exact he
        · exact q4 a (by omega) hb
      · refine Or.inr ⟨fun a ha hb => ?_, q2⟩
        by_cases hai : a = i
        · rw [hai]; exact he
        · exact q1 a (by omega) hb
/-- the reference looks among a function's free variables -/
theorem af_1 {μ : S5} {f r : Nat} {v : Int32} (hf : f < 640) (hr : xA μ 20 (nI f) = nI r) (hr9 : r ≤ 9) : ∀ (d i m : Nat), i + d = r → d < m → f_X12_addFree_L5 m (nI f) v 1 (nI i) μ = some ((), μ) := by
  intro d
  induction d with
  | zero =>
    intro i m hi hm
    obtain ⟨m, rfl⟩ : ∃ m', m = m' + 1 := ⟨m - 1, by omega⟩
    show f_X12_addFree_B5 _ _ _ _ _ _ = _
    unfold f_X12_addFree_B5
    rw [gdn hf (by omega), hr, if_pos ((nI_le31 (by omega) (by omega)).mpr (by omega)), if_neg (by decide)]
  | succ d ih =>
    intro i m hi hm
    obtain ⟨m, rfl⟩ : ∃ m', m = m' + 1 := ⟨m - 1, by omega⟩
    rw [← ih (i + 1) m (by omega) (by omega), ← nI_add1]
    show f_X12_addFree_B5 _ _ _ _ _ _ = _
    unfold f_X12_addFree_B5 f_X12_addFree_b36 f_X12_addFree_b41
    rw [gdn hf (by omega), hr, if_neg (fun w => by have := (nI_le31 (by omega) (by omega)).mp w; omega), if_neg (by decide)]
theorem af_0 {μ : S5} {f r : Nat} {v : Int32} (hf : f < 640) (hr : xA μ 20 (nI f) = nI r) (hr9 : r ≤ 9) : ∀ (d i m : Nat), i + d = r → d < m → ((∃ q, i ≤ q ∧ q < r ∧ xA μ 21 (nI (9 * f + q)) = v) → f_X12_addFree_L5 m (nI f) v 0 (nI i) μ = some ((), μ)) ∧ ((∀ q, i ≤ q → q < r → ¬ xA μ 21 (nI (9 * f + q)) = v) → f_X12_addFree_L5 m (nI f) v 0 (nI i) μ = if r = 9 then some ((), μ) else some ((), pA (pA μ 21 (nI (9 * f + r)) v) 20 (nI f) (nI (r + 1)))) := by
  intro d
  induction d with
  | zero =>
    intro i m hi hm
    obtain ⟨m, rfl⟩ : ∃ m', m = m' + 1 := ⟨m - 1, by omega⟩
    refine ⟨fun ⟨q, q1, q2, _⟩ => absurd q2 (by omega), fun _ => ?_⟩
    show f_X12_addFree_B5 _ _ _ _ _ _ = _
    unfold f_X12_addFree_B5
    rw [gdn hf (by omega), hr, if_pos ((nI_le31 (by omega) (by omega)).mpr (by omega)), if_pos rfl, gdn hf (by omega)]
    by_cases h9 : r = 9
    · rw [if_pos h9, if_pos (show (9 : Int32) ≤ nI r from (nI_le31 (a := 9) (by omega) (by omega)).mpr (by omega))]
    · rw [if_neg h9, if_neg (fun w => by have := (nI_le31 (a := 9) (by omega) (by omega)).mp w; omega), gdn hf (by omega), ix9, gdn (by omega) (by omega), gdn hf (by omega), gdn hf (by omega), nI_add1]
  | succ d ih =>
    intro i m hi hm
    obtain ⟨m, rfl⟩ : ∃ m', m = m' + 1 := ⟨m - 1, by omega⟩
    have hB : f_X12_addFree_L5 (m + 1) (nI f) v 0 (nI i) μ = if xA μ 21 (nI (9 * f + i)) = v then f_X12_addFree_L5 m (nI f) v 1 (nI (i + 1)) μ else f_X12_addFree_L5 m (nI f) v 0 (nI (i + 1)) μ := by
      show f_X12_addFree_B5 _ _ _ _ _ _ = _
      unfold f_X12_addFree_B5 f_X12_addFree_b36 f_X12_addFree_b41
      rw [gdn hf (by omega), hr, if_neg (fun w => by have := (nI_le31 (by omega) (by omega)).mp w; omega), if_pos rfl, ix9, gdn (by omega) (by omega), nI_add1]
    rw [hB]
    obtain ⟨i1, i2⟩ := ih (i + 1) m (by omega) (by omega)
    by_cases he : xA μ 21 (nI (9 * f + i)) = v
    · rw [if_pos he]
      refine ⟨fun _ => af_1 hf hr hr9 d (i + 1) m (by omega) (by omega), fun hno => absurd he (hno i (Nat.le_refl _) (by omega))⟩
    · rw [if_neg he]
      refine ⟨fun ⟨q, q1, q2, q3⟩ => i1 ⟨q, ?_, q2, q3⟩, fun hno => i2 (fun q q1 q2 => hno q (by omega) q2)⟩
      have : ¬ q = i := fun w => he (w ▸ q3)
      omega
