/-- only kinds and values of nodes are written -/
def FrPU (σ τ : S5) : Prop := (∀ j, gI τ j = gI σ j) ∧ (∀ j, gJ τ j = gJ σ j) ∧ (∀ j, ¬ j = 13 → ¬ j = 14 → gA τ j = gA σ j) ∧ (∀ j, gB τ j = gB σ j) ∧ τ.2.2.2.2 = σ.2.2.2.2
theorem FrPU.x {σ τ : S5} (h : FrPU σ τ) (j : Nat) (i : Int32) (h1 : ¬ j = 13) (h2 : ¬ j = 14) : xA τ j i = xA σ j i := by
  show gA τ j i.toNatClampNeg = gA σ j i.toNatClampNeg
  rw [h.2.2.1 j h1 h2]
theorem FrPU.ch {σ τ : S5} {i a b : Int32} (h : FrPU σ τ) : FrPU σ (pA (pA τ 13 i a) 14 i b) := ⟨h.1, h.2.1, fun j q r => by rw [gA_ne _ _ _ r, gA_ne _ _ _ q]; exact h.2.2.1 j q r, h.2.2.2⟩
/-- the first n uses are planted -/
def PU (σ τv : S5) (k F : Nat) (sc : Nat → Int32) (cf : Nat → Nat) (n : Nat) (τ : S5) : Prop := FrPU τv τ ∧ (∀ j, 0 ≤ j → ¬ xA σ 13 j = 3 → xA τ 13 j = xA σ 13 j ∧ xA τ 14 j = xA σ 14 j) ∧ (∀ u, u < n → (0 ≤ tg σ k u → ∃ f, f < F ∧ xA σ 22 (xA σ 27 (nI u)) = sc f ∧ xA τ 13 (xA σ 29 (nI u)) = 3 ∧ xA τ 14 (xA σ 29 (nI u)) = nI (qn σ τv sc cf f (tg σ k u))) ∧ (tg σ k u < 0 → xA τ 13 (xA σ 29 (nI u)) = 2 ∧ xA τ 14 (xA σ 29 (nI u)) = -2 - tg σ k u))
theorem pu_L2 {σ ν τr τv : S5} {k U F : Nat} {S : Int32} {sc : Nat → Int32} {cf : Nat → Nat} (hL : LXc σ ν τr τv k U F S sc cf) : ∀ (d u m : Nat) (τ : S5), u + d = U → d < m → PU σ τv k F sc cf u τ → ∃ τ', f_X2_plantUses_L2 m (nI u) τ = some ((), τ') ∧ PU σ τv k F sc cf U τ' := by
  obtain ⟨⟨hDN, ⟨hS0, hS6⟩, hSe, hF, hkF, hU6, hU⟩, hown, hsc, hnum, ⟨xs, x26, g8, g10, g6, g20⟩, hbase, htg, hku, hkf, hcov, h80, hroom⟩ := hL
  have hiu : ∀ u, u < U → ∃ h c, (0 ≤ h ∧ h < S) ∧ (0 ≤ c ∧ c < 6200) ∧ xA σ 13 c = 3 ∧ xA σ 27 (nI u) = h ∧ xA σ 29 (nI u) = c ∧ u = prI (w3 σ) c := by
    intro u hu
    have hu0 : 0 ≤ nI u := i_le0 (nI_nneg (by omega))
    have huU : nI u < gI σ 10 := by rw [hU]; exact (nI_lt31 (by omega) (by omega)).mpr hu
    obtain ⟨h, n, c, q1, q2, q3, q4, q5, q6, q7, q8, q9, q10, q11, q12⟩ := hcov.2.2 (nI u) hu0 huU
    rw [nI_clamp (by omega)] at q12
    exact ⟨h, c, q1, q3, q5, q8, q10, q12⟩
  intro d
  induction d with
  | zero =>
    intro u m τ hi hm q
    obtain ⟨m, rfl⟩ : ∃ m', m = m' + 1 := ⟨m - 1, by omega⟩
    have : u = U := by omega
    subst this
    refine ⟨τ, ?_, q⟩
    show f_X2_plantUses_B2 _ _ _ = _
    unfold f_X2_plantUses_B2
    rw [q.1.1 10, g10, hU, if_pos (Int32.le_refl _)]
  | succ d ih =>
    intro u m τ hi hm q
    obtain ⟨m, rfl⟩ : ∃ m', m = m' + 1 := ⟨m - 1, by omega⟩
    obtain ⟨q1, q2, q3⟩ := q
    obtain ⟨h, c, k1, k2, k3, k4, k5, k6⟩ := hiu u (by omega)
    have hne : ∀ x, x < u → ¬ xA σ 29 (nI x) = c := by
      intro x hx w
      obtain ⟨h', c', l1, l2, l3, l4, l5, l6⟩ := hiu x (by omega)
      rw [l5] at w
      rw [w, ← k6] at l6
      omega
    have hc0 : ∀ x, x < U → 0 ≤ xA σ 29 (nI x) := fun x hx => by
      obtain ⟨h', c', l1, l2, l3, l4, l5, l6⟩ := hiu x hx
      rw [l5]; exact l2.1
    have hS7 : h < 700 := by grind
    have step : ∀ (a b : Int32), ((0 ≤ tg σ k u → ∃ f, f < F ∧ xA σ 22 (xA σ 27 (nI u)) = sc f ∧ a = 3 ∧ b = nI (qn σ τv sc cf f (tg σ k u))) ∧ (tg σ k u < 0 → a = 2 ∧ b = -2 - tg σ k u)) → PU σ τv k F sc cf (u + 1) (pA (pA τ 13 c a) 14 c b) := by
      intro a b hab
      have r13 : ∀ j, 0 ≤ j → xA (pA (pA τ 13 c a) 14 c b) 13 j = if j = c then a else xA τ 13 j := by
        intro j j0
        rw [xA_pA, if_neg (fun w => absurd w.1 (by decide)), xA_pA]
        by_cases hj : j = c
        · rw [if_pos hj, if_pos ⟨rfl, by rw [hj]⟩]
        · rw [if_neg hj, if_neg (fun w => hj ((i_inj j0 k2.1).mp w.2))]
      have r14 : ∀ j, 0 ≤ j → xA (pA (pA τ 13 c a) 14 c b) 14 j = if j = c then b else xA τ 14 j := by
        intro j j0
        rw [xA_pA]
        by_cases hj : j = c
        · rw [if_pos hj, if_pos ⟨rfl, by rw [hj]⟩]
        · rw [if_neg hj, if_neg (fun w => hj ((i_inj j0 k2.1).mp w.2)), xA_pA, if_neg (fun w => absurd w.1 (by decide))]
      refine ⟨q1.ch, fun j j0 hj => ?_, fun x hx => ?_⟩
      · have hjc : ¬ j = c := fun w => hj (by rw [w]; exact k3)
        rw [r13 j j0, r14 j j0, if_neg hjc, if_neg hjc]
        exact q2 j j0 hj
      · by_cases hxu : x = u
        · subst hxu
          rw [r13 _ (hc0 x (by omega)), r14 _ (hc0 x (by omega)), k5, if_pos rfl, if_pos rfl]
          exact hab
        · rw [r13 _ (hc0 x (by omega)), r14 _ (hc0 x (by omega)), if_neg (hne x (by omega)), if_neg (hne x (by omega))]
          exact q3 x (by omega)
    have e30 : xA τ 30 (nI u) = tg σ k u := by rw [q1.x 30 _ (by decide) (by decide)]; exact htg u (by omega)
    have e29 : xA τ 29 (nI u) = c := by rw [q1.x 29 _ (by decide) (by decide), xs 29 _ (by omega)]; exact k5
    have hch : ∀ a b, f_X9_change c a b τ = some ((), pA (pA τ 13 c a) 14 c b) := fun a b => by
      unfold f_X9_change
      rw [gd6200 k2.1 k2.2, gd6200 k2.1 k2.2]
    by_cases hpos : 0 ≤ tg σ k u
    · obtain ⟨f, f1, f2, f3⟩ := hku u (by omega) hpos
      obtain ⟨⟨s0, s1, s2, s3⟩, t1, t2, t3, t4, t5⟩ := hsc f f1
      have hnin : f_X2_numberIn (nI f) (tg σ k u) τ = some (nI (qn σ τv sc cf f (tg σ k u)), τ) := nin_go (F := F) hS6 hF f1 (fun x => by rw [q1.x 22 _ (by decide) (by decide), xs 22 _ (by omega)]) (by rw [q1.x 8 _ (by decide) (by decide)]; exact t1) (fun s a b e => by rw [q1.x 25 _ (by decide) (by decide)]; exact hbase f s f1 a b e) (by rw [q1.x 4 _ (by decide) (by decide)]; exact t3) t4 (fun x => q1.x 5 _ (by decide) (by decide)) f3
      have hB : f_X2_plantUses_L2 (m + 1) (nI u) τ = f_X2_plantUses_L2 m (nI (u + 1)) (pA (pA τ 13 c 3) 14 c (nI (qn σ τv sc cf f (tg σ k u)))) := by
        show f_X2_plantUses_B2 _ _ _ = _
        unfold f_X2_plantUses_B2 f_X2_plantUses_b96
        rw [k4] at f2
        rw [q1.1 10, g10, hU, if_neg (fun w => by have := (nI_le31 (by omega) (by omega)).mp w; omega), gdn (by omega) (by omega), gdn (by omega) (by omega), e30, if_pos hpos, gdn (by omega) (by omega), q1.x 27 _ (by decide) (by decide), xs 27 _ (by omega), k4, gd700 k1.1 hS7, q1.x 22 _ (by decide) (by decide), xs 22 _ (by omega), f2, gd700 s0 (by grind), q1.x 26 _ (by decide) (by decide), x26, s3, hnin, bd_of, e29, hch, bd_of, nI_add1]
      rw [hB]
      exact ih (u + 1) m _ (by omega) (by omega) (step _ _ ⟨fun _ => ⟨f, f1, f2, rfl, rfl⟩, fun w => absurd hpos (by grind)⟩)
    · have hB : f_X2_plantUses_L2 (m + 1) (nI u) τ = f_X2_plantUses_L2 m (nI (u + 1)) (pA (pA τ 13 c 2) 14 c (-2 - tg σ k u)) := by
        show f_X2_plantUses_B2 _ _ _ = _
        unfold f_X2_plantUses_B2 f_X2_plantUses_b96
        rw [q1.1 10, g10, hU, if_neg (fun w => by have := (nI_le31 (by omega) (by omega)).mp w; omega), gdn (by omega) (by omega), gdn (by omega) (by omega), e30, if_neg hpos, e29, hch, bd_of, nI_add1]
      rw [hB]
      exact ih (u + 1) m _ (by omega) (by omega) (step _ _ ⟨fun w => absurd w hpos, fun _ => ⟨rfl, rfl⟩⟩)
theorem pu_go {σ ν τr τv : S5} {k U F : Nat} {S : Int32} {sc : Nat → Int32} {cf : Nat → Nat} (hL : LXc σ ν τr τv k U F S sc cf) : ∃ τu, f_X2_plantUses τv = some ((), τu) ∧ PU σ τv k F sc cf U τu := by
  have hbig := FU_big (n := 30000) (by decide)
  have hU6 := hL.1.2.2.2.2.2.1
  have xs := hL.2.2.2.2.1.1
  exact pu_L2 hL U 0 FU τv (by omega) (by omega) ⟨⟨fun _ => rfl, fun _ => rfl, fun _ _ _ => rfl, fun _ => rfl, rfl⟩, fun j _ _ => ⟨xs 13 j (by omega), xs 14 j (by omega)⟩, fun u hu => absurd hu (by omega)⟩
