theorem nI_plus (a b : Nat) : nI a + nI b = nI (a + b) := by unfold nI; rw [Int32.ofNat_add]
theorem tp_congr {b b2 : Int32 → Int64} {z : Int64} : ∀ (d i : Nat), (∀ x, i ≤ x → x < i + d → b (nI x) = b2 (nI x)) → tp b z d i = tp b2 z d i
  | 0, _, _ => rfl
  | d + 1, i, h => by
    unfold tp
    rw [h i (by omega) (by omega), tp_congr d (i + 1) (fun x a c => h x (by omega) (by omega))]
theorem tp_rg {b : Int32 → Int64} {z : Int64} : ∀ (d i : Nat), tp b z d i = -1 ∨ ∃ x, i ≤ x ∧ x < i + d ∧ tp b z d i = nI x ∧ b (nI x) = z
  | 0, _ => Or.inl rfl
  | d + 1, i => by
    unfold tp
    by_cases h : b (nI i) = z
    · rw [if_pos h]
      exact Or.inr ⟨i, by omega, by omega, rfl, h⟩
    · rw [if_neg h]
      rcases tp_rg (b := b) (z := z) d (i + 1) with w | ⟨x, x1, x2, x3, x4⟩
      · exact Or.inl w
      · exact Or.inr ⟨x, by omega, by omega, x3, x4⟩
theorem nI_ne1 {a : Nat} (h : a < 2 ^ 31) : ¬ nI a = -1 := fun w => by
  have := nI_nneg h
  rw [w] at this
  exact this (by decide)
theorem mf_L4 {μ : S5} {k : Nat} (hk : k ≤ 30) (h13 : gI μ 13 = nI k) (hd : ∀ i j, i < j → j < k → ¬ xB μ 2 (nI i) = xB μ 2 (nI j)) : ∀ (d i m : Nat) (acc : Int32), i + d = k → d < m → f_X12_mainFunction_L4 m acc (nI i) μ = some (if tp (xB μ 2) 1835100526 d i = -1 then acc else tp (xB μ 2) 1835100526 d i, μ) := by
  intro d
  induction d with
  | zero =>
    intro i m acc hi hm
    obtain ⟨m, rfl⟩ : ∃ m', m = m' + 1 := ⟨m - 1, by omega⟩
    show f_X12_mainFunction_B4 _ _ _ _ = _
    unfold f_X12_mainFunction_B4 tp
    rw [h13, if_pos ((nI_le31 (by omega) (by omega)).mpr (by omega)), if_pos rfl]
  | succ d ih =>
    intro i m acc hi hm
    obtain ⟨m, rfl⟩ : ∃ m', m = m' + 1 := ⟨m - 1, by omega⟩
    have hpk : f_X12_pack 109 97 105 110 0 μ = some (1835100526, μ) := by
      rw [m_pack4 _ (by decide) (by decide) (by decide)]
      have : (j_lshl (j_lshl (j_lshl (Int32.toInt64 109) 8 ||| Int32.toInt64 97) 8 ||| Int32.toInt64 105) 8 ||| Int32.toInt64 110 : Int64) = 1835100526 := by decide
      rw [this]
    have hB : f_X12_mainFunction_L4 (m + 1) acc (nI i) μ = if xB μ 2 (nI i) = 1835100526 then f_X12_mainFunction_L4 m (nI i) (nI (i + 1)) μ else f_X12_mainFunction_L4 m acc (nI (i + 1)) μ := by
      show f_X12_mainFunction_B4 _ _ _ _ = _
      unfold f_X12_mainFunction_B4 f_X12_mainFunction_b39
      rw [h13, if_neg (fun w => by have := (nI_le31 (by omega) (by omega)).mp w; omega), gdn (by omega) (by omega), hpk, bd_of, nI_add1]
      by_cases he : xB μ 2 (nI i) = 1835100526
      · rw [if_pos he, if_pos ((lg_cmp_eq _ _).mpr he)]
      · rw [if_neg he, if_neg (fun w => he ((lg_cmp_eq _ _).mp w))]
    rw [hB]
    by_cases he : xB μ 2 (nI i) = 1835100526
    · rw [if_pos he, ih (i + 1) m _ (by omega) (by omega)]
      have h1 : tp (xB μ 2) 1835100526 d (i + 1) = -1 := by
        rcases tp_rg (b := xB μ 2) (z := 1835100526) d (i + 1) with w | ⟨x, x1, x2, x3, x4⟩
        · exact w
        · exact absurd (he.trans x4.symm) (hd i x (by omega) (by omega))
      have h2 : tp (xB μ 2) 1835100526 (d + 1) i = nI i := if_pos he
      rw [h1, h2, if_pos rfl, if_neg (nI_ne1 (by omega))]
    · rw [if_neg he, ih (i + 1) m _ (by omega) (by omega)]
      have h2 : tp (xB μ 2) 1835100526 (d + 1) i = tp (xB μ 2) 1835100526 d (i + 1) := if_neg he
      rw [h2]
/-- what judging writes in the end -/
def FrJ7 (σ τ : S5) : Prop := (∀ j, ¬ j = 7 → ¬ j = 20 → ¬ j = 21 → gI τ j = gI σ j) ∧ (∀ j, gJ τ j = gJ σ j) ∧ (∀ j, ¬ j = 3 → gA τ j = gA σ j) ∧ (∀ j, gB τ j = gB σ j) ∧ τ.2.2.2.2 = σ.2.2.2.2
/-- both have judged -/
def JG (σ τf μf τm μm : S5) (k F : Nat) : Prop := (gI τm 20 = gI μm 7 ∧ (¬ gI τm 20 = 0 → gI τm 21 = gI μm 8)) ∧ FrK μf μm ∧ FrJ7 τf τm ∧ (∀ f, f < F → xA τm 3 (nI f) = xA τf 4 (nI f) + xA τf 20 (xA τf 8 (nI f))) ∧ (gI τm 20 = 0 → (∀ f, f < F → ¬ badC τf f) ∧ gI τm 7 = tp (xB σ 1) 1835100526 k 0 ∧ ¬ gI τm 7 = -1)
theorem jg_go {σ μ τn τr ν τf μf : S5} {k U F B : Nat} {cc fs fu fn ft : Nat → Int32} (h : LF σ μ τn τr ν τf μf k U F B cc fs fu fn ft) (hf : f_X2_findFree τr = some ((), τf)) (h20 : gI τr 20 = 0) (h5 : gI σ 5 = nI k) : ∃ τj τm μm, f_X2_refuseManyParameters τf = some ((), τj) ∧ f_X12_judge μf = some ((), μm) ∧ f_X2_lift_b33 τj = f_X2_lift_b44 τm ∧ JG σ τf μf τm μm k F := by
  have hbig := FU_big (n := 30000) (by decide)
  have hfj := h.fj
  have htz := h.tz hf
  obtain ⟨hE, ⟨hN, hF, hF6⟩, ⟨hR, hfl⟩, ⟨hV, hFm⟩, hp, ⟨hU, hU6, v90, v9, v10⟩, hW⟩ := h
  obtain ⟨w1, w2, w3, w4, ⟨w5, w6, w7⟩, w8, w9, w10⟩ := hW
  have hk30 := hE.2.2.2.1
  have xf : ∀ j i, ¬ j = 4 → ¬ j = 5 → xA τf j i = xA τr j i := fun j i a b => by show gA τf j _ = gA τr j _; rw [w6.2.2.1 j a b]
  have xn : ∀ j i, ¬ j = 4 → ¬ j = 5 → ¬ j = 30 → xA τf j i = xA τn j i := fun j i a b c => by rw [xf j i a b, hR.x j c]
  have xs : ∀ j i, j = 20 ∨ j = 24 → xA τf j i = xA σ j i := fun j i hj => by rw [xn j i (by omega) (by omega) (by omega)]; exact hN.1.1.x j i (by omega) (by omega) (by omega) (by omega) (by omega)
  have g6 : gI τf 6 = nI F := by rw [w6.1 6, hR.1 6 (by decide) (by decide), hN.1.2.1, hF]
  have g20 : gI τf 20 = 0 := by rw [w6.1 20]; exact h20
  have m7 : gI μf 7 = 0 := by
    rcases w8 with ⟨a, _⟩ | ⟨_, x, x1, x2, _⟩
    · exact a
    · rcases hfl with ⟨_, b⟩ | ⟨b, _⟩
      · exact absurd x2 (b x x1)
      · rw [h20] at b; exact absurd b (by decide)
  have m22 : gI μf 22 = nI F := by rw [w1.1 22 (by omega), hV.1.2.1, hFm]
  have h8 : ∀ f, f < F → 0 ≤ xA τf 8 (nI f) ∧ xA τf 8 (nI f) < 700 := fun f hf' => by
    obtain ⟨x, y, ⟨a1, a2, a3, a4, c, ⟨_, _, _, _, _, b1, b2, b3, _⟩, a6⟩, _⟩ := hfj f hf'
    rw [xn 8 _ (by decide) (by decide) (by decide), a1]
    exact b3.2
  have h12 : ∀ f, f < F → 0 ≤ xA μf 12 (nI f) ∧ xA μf 12 (nI f) < 3200 := fun f hf' => by
    obtain ⟨x, y, ⟨a1, a2, a3, a4, c, ⟨_, _, _, _, _, b1, b2, b3, b4, _⟩, a6⟩, _⟩ := hfj f hf'
    rw [w1.x 12 _ (by omega), a2]
    exact b4
  have hbad : ∀ f, f < F → (badC τf f ↔ badM μf f) ∧ plC τf f = plM μf f ∧ (f < k → ¬ badM μf f) := by
    intro f hf'
    obtain ⟨x, y, ⟨a1, a2, a3, a4, c0, ⟨_, _, _, _, _, b1, b2, b3, b4, _⟩, a6⟩, _⟩ := hfj f hf'
    obtain ⟨c, r, c1, c2, c3, c4, c5⟩ := w5 f hf'
    have j0 := b1.2.1
    have j5 : (xA ν 10 y).toNatClampNeg ≤ 5 := i_le (n := 5) b1.2.2.1
    have ejn := nI_tn j0
    generalize (xA ν 10 y).toNatClampNeg = j at ejn j5
    have ex : xA τf 4 (nI f) + xA τf 20 (xA τf 8 (nI f)) = nI (c + j) := by
      rw [c1, xn 8 _ (by decide) (by decide) (by decide), a1, xs 20 _ (by omega), b1.1, ejn, nI_plus]
    have ey : xA μf 20 (nI f) + xA μf 10 (xA μf 12 (nI f)) = nI (r + j) := by
      rw [c2, w1.x 12 _ (by omega), a2, w1.x 10 _ (by omega), ejn, nI_plus]
    have k1 : nI (c + j) ≤ 8 ↔ c + j ≤ 8 := nI_le31 (b := 8) (by omega) (by omega)
    have k2 : nI (r + j) ≤ 8 ↔ r + j ≤ 8 := nI_le31 (b := 8) (by omega) (by omega)
    refine ⟨?_, ?_, fun hfk => ?_⟩
    · unfold badC badM
      rw [ex, ey, k1, k2]
      omega
    · unfold plC plM
      rw [xn 8 _ (by decide) (by decide) (by decide), a1, xs 24 _ (by omega), b2, w1.x 11 _ (by omega), a3]
    · have : c = 0 := by
        have := htz f hfk
        rw [c1] at this
        rcases Nat.eq_zero_or_pos c with w | w
        · exact w
        · have := (nI_lt31 (a := 0) (b := c) (by omega) (by omega)).mpr w
          rw [‹nI c = 0›] at this
          exact absurd this (by decide)
      unfold badM
      rw [ey, k2]
      omega
  have hkF : k ≤ F := by omega
  obtain ⟨τj, r1, q1, q2, q3⟩ := rm_L2 hF6 g6 h8 F 0 FU τf (by omega) (by omega) ⟨⟨fun _ _ _ => rfl, fun _ => rfl, fun _ _ => rfl, fun _ => rfl, rfl⟩, fun f hf' => absurd hf' (by omega), Or.inl ⟨g20, fun x hx => absurd hx (by omega)⟩⟩
  obtain ⟨μj, j1, q4, q5⟩ := jd_L5 hF6 m22 h12 (F - k) k FU μf (by omega) (by omega) ⟨⟨fun _ _ _ => rfl, rfl⟩, Or.inl ⟨m7, fun x hx => (hbad x (by omega)).2.2 hx⟩⟩
  have eqJ := q3.eq q5 (fun x hx => (hbad x hx).1) (fun x hx => (hbad x hx).2.1)
  have f5 : gI τj 5 = nI k := by rw [q1.1 5 (by decide) (by decide), w6.1 5, hR.1 5 (by decide) (by decide), hN.1.1.1 5 (by decide)]; exact h5
  have b1e : ∀ i, xB τj 1 i = xB σ 1 i := fun i => by
    show gB τj 1 _ = gB σ 1 _
    rw [q1.2.2.2.1 1, w6.2.2.2.1 1, hR.2.2.2.1 1, hN.1.1.2.2.2.1 1]
  have b2e : ∀ i, xB μj 2 i = xB ν 2 i := fun i => by rw [q4.y 2 i, w1.y 2 _ (by decide)]
  have j13 : gI μj 13 = nI k := by rw [q4.1 13 (by decide) (by decide), w1.1 13 (by omega)]; exact hE.2.2.2.2.2.2.2.2.2.1
  have etp : tp (xB μj 2) 1835100526 k 0 = tp (xB σ 1) 1835100526 k 0 := tp_congr k 0 (fun x _ hx => by rw [b2e]; exact ((hE.2.2.2.2.2.2.2.2.2.2) x (by omega)).symm)
  have htp : f_X4_topOf 1835100526 τj = some (tp (xB σ 1) 1835100526 k 0, τj) := by
    have := tp_go hk30 f5 1835100526 k 0 FU (by omega) (by omega)
    rw [show xB τj 1 = xB σ 1 from funext b1e] at this
    exact this
  have hmf : f_X12_mainFunction μj = some (tp (xB σ 1) 1835100526 k 0, μj) := by
    have := mf_L4 hk30 j13 (fun i j a b => by
      rw [b2e, b2e, ← hE.2.2.2.2.2.2.2.2.2.2 i (by omega), ← hE.2.2.2.2.2.2.2.2.2.2 j b]
      exact hp.2.2 i j a b) k 0 FU (-1) (by omega) (by omega)
    rw [etp] at this
    unfold f_X12_mainFunction
    rw [show (0 : Int32) = nI 0 from rfl, this]
    by_cases hh : tp (xB σ 1) 1835100526 k 0 = -1
    · rw [if_pos hh, hh]
    · rw [if_neg hh]
  have hju : f_X12_judge μf = jmain μj := by
    unfold f_X12_judge
    rw [w1.1 13 (by omega), hE.2.2.2.2.2.2.2.2.2.1]
    exact j1
  have hgo : ∀ τm μm, gI τm 20 = gI μm 7 → (¬ gI τm 20 = 0 → gI τm 21 = gI μm 8) → FrK μf μm → FrJ7 τf τm → (∀ f, f < F → xA τm 3 (nI f) = xA τj 3 (nI f)) → (gI τm 20 = 0 → gI τj 20 = 0 ∧ gI τm 7 = tp (xB σ 1) 1835100526 k 0 ∧ ¬ gI τm 7 = -1) → JG σ τf μf τm μm k F := by
    intro τm μm z1 z2 z3 z4 z5 z6
    refine ⟨⟨z1, z2⟩, z3, z4, fun f hf' => by rw [z5 f hf']; exact q2 f hf', fun z0 => ?_⟩
    obtain ⟨y1, y2, y3⟩ := z6 z0
    refine ⟨fun f hf' => ?_, y2, y3⟩
    rcases q3 with ⟨_, b⟩ | ⟨b, _⟩
    · exact b f hf'
    · rw [y1] at b; exact absurd b (by decide)
  have fJ : FrJ7 τf τj := ⟨fun j a b c => q1.1 j b c, q1.2⟩
  have r1' : f_X2_refuseManyParameters τf = some ((), τj) := r1
  by_cases h0 : gI τj 20 = 0
  · have m0 : gI μj 7 = 0 := by rw [← eqJ.1]; exact h0
    have hb77 : f_X12_judge_b77 μj = some ((), pI (pI μj 7 7) 8 0) := by
      unfold f_X12_judge_b77
      rw [m_fail0 _ _ m0, bd_of]
    have hb46 : ∀ r, f_X2_findMain_b46 (pI τj 7 r) = some ((), pI (pI (pI τj 7 r) 20 7) 21 0) := fun r => by
      unfold f_X2_findMain_b46 f_X2_refuse
      rw [show gI (pI τj 7 r) 20 = 0 from by rw [gI_pI, if_neg (by decide)]; exact h0, if_pos rfl, bd_of]
    have fK2 : FrK μf (pI (pI μj 7 7) 8 0) := (q4.I (Or.inl rfl)).I (Or.inr rfl)
    have fJ2 : ∀ r, FrJ7 τf (pI (pI (pI τj 7 r) 20 7) 21 0) := fun r => ⟨fun j a b c => by rw [gI_pI, if_neg c, gI_pI, if_neg b, gI_pI, if_neg a]; exact fJ.1 j a b c, fJ.2⟩
    have bad7 : ∀ r, JG σ τf μf (pI (pI (pI τj 7 r) 20 7) 21 0) (pI (pI μj 7 7) 8 0) k F := fun r => hgo _ _ (by rw [gI_pI, if_neg (by decide), gI_pI, if_pos rfl, gI_pI, if_neg (by decide), gI_pI, if_pos rfl]) (fun _ => by rw [gI_pI, if_pos rfl, gI_pI, if_pos rfl]) fK2 (fJ2 r) (fun _ _ => rfl) (fun w => by rw [gI_pI, if_neg (by decide), gI_pI, if_pos rfl] at w; exact absurd w (by decide))
    have hl33 : f_X2_lift_b33 τj = bd (f_X2_findMain τj) (fun _ τ41 => f_X2_lift_b44 τ41) := by
      unfold f_X2_lift_b33
      rw [if_pos h0]
    rcases tp_rg (b := xB σ 1) (z := 1835100526) k 0 with ht | ⟨i, i1, i2, i3, i4⟩
    · refine ⟨τj, pI (pI (pI τj 7 (-1)) 20 7) 21 0, pI (pI μj 7 7) 8 0, r1', ?_, ?_, bad7 (-1)⟩
      · rw [hju]
        unfold jmain
        rw [hmf, bd_of, ht, if_pos (by decide)]
        exact hb77
      · rw [hl33]
        unfold f_X2_findMain
        rw [htp, bd_of, ht, if_pos rfl, hb46, bd_of]
    · have hik : i < k := by omega
      obtain ⟨x, y, ⟨a1, a2, a3, a4, c0, ⟨_, _, _, _, _, b1, b2, b3, b4, _⟩, a6⟩, _⟩ := hfj i (by omega)
      have e3 : xA τj 3 (nI i) = xA ν 10 y := by
        rw [q2 i (by omega), htz i hik, xn 8 _ (by decide) (by decide) (by decide), a1, xs 20 _ (by omega), b1.1, Int32.zero_add]
      have hju2 : f_X12_judge μf = if xA ν 10 y ≤ 0 then some ((), μj) else some ((), pI (pI μj 7 7) 8 0) := by
        rw [hju]
        unfold jmain
        rw [hmf, bd_of, i3, if_neg (nI_nneg (by omega)), gdn (by omega) (by omega), q4.x 12, w1.x 12 _ (by omega), a2, gd3200 b4.1 b4.2, q4.x 10, w1.x 10 _ (by omega), hb77]
      have hmn : f_X2_findMain τj = if xA ν 10 y ≤ 0 then some ((), pI τj 7 (nI i)) else some ((), pI (pI (pI τj 7 (nI i)) 20 7) 21 0) := by
        unfold f_X2_findMain
        rw [htp, bd_of, i3, if_neg (nI_ne1 (by omega)), gdn (by omega) (by omega), e3, hb46]
      by_cases hy : xA ν 10 y ≤ 0
      · rw [if_pos hy] at hju2 hmn
        refine ⟨τj, pI τj 7 (nI i), μj, r1', hju2, by rw [hl33, hmn, bd_of], hgo _ _ (by rw [gI_pI, if_neg (by decide)]; exact eqJ.1) (fun w => absurd (by rw [gI_pI, if_neg (by decide)]; exact h0) w) q4 ⟨fun j a b c => by rw [gI_pI, if_neg a]; exact fJ.1 j a b c, fJ.2⟩ (fun _ _ => rfl) (fun _ => ⟨h0, by rw [gI_pI, if_pos rfl, i3], by rw [gI_pI, if_pos rfl]; exact nI_ne1 (by omega)⟩)⟩
      · rw [if_neg hy] at hju2 hmn
        exact ⟨τj, pI (pI (pI τj 7 (nI i)) 20 7) 21 0, pI (pI μj 7 7) 8 0, r1', hju2, by rw [hl33, hmn, bd_of], bad7 (nI i)⟩
  · have m0 : ¬ gI μj 7 = 0 := by rw [← eqJ.1]; exact h0
    have hb77 : f_X12_judge_b77 μj = some ((), μj) := by
      unfold f_X12_judge_b77
      rw [m_failF _ _ m0, bd_of]
    have hl33 : f_X2_lift_b33 τj = f_X2_lift_b44 τj := by
      unfold f_X2_lift_b33
      rw [if_neg h0]
    refine ⟨τj, τj, μj, r1', ?_, hl33, hgo _ _ eqJ.1 (fun w => eqJ.2 w) q4 fJ (fun _ _ => rfl) (fun w => absurd w h0)⟩
    rw [hju]
    unfold jmain
    rw [hmf, bd_of, hb77]
    rcases tp_rg (b := xB σ 1) (z := 1835100526) k 0 with ht | ⟨i, i1, i2, i3, i4⟩
    · rw [ht, if_pos (by decide)]
    · obtain ⟨x, y, ⟨a1, a2, a3, a4, c0, ⟨_, _, _, _, _, b1, b2, b3, b4, _⟩, a6⟩, _⟩ := hfj i (by omega)
      rw [i3, if_neg (nI_nneg (by omega)), gdn (by omega) (by omega), q4.x 12, w1.x 12 _ (by omega), a2, gd3200 b4.1 b4.2]
      exact ite_self _
