theorem tn31 (a : Int32) : a.toNatClampNeg < 2 ^ 31 := by
  have := a.toInt_lt
  show a.toInt.toNat < _
  omega
/-- a constructor's name -/
theorem wn {τ0 μ0 : S5} (hct : Ct τ0 μ0) (hN : ∀ i, okN (gB τ0 0 i)) {z : Int32} (h0 : 0 ≤ z) (h1 : z < gI τ0 4) : ∃ L, okL L ∧ (∀ σ τ, LWc L σ τ → f_X8_addName_draft (xB τ0 0 z) σ = some ((), τ)) ∧ ∀ μ ν, LWm L μ ν → f_X12_signs (xB μ0 3 z) μ = some ((), ν) := by
  have hk : okN (xB τ0 0 z) := hN _
  obtain ⟨a1, a2, a3⟩ := tx_name (v := xB τ0 0 z) (hk.m 8 (Nat.le_refl _))
  rw [← (hct.2.2.2 z h0 h1).1]
  exact ⟨_, a1, a2, a3⟩
theorem ok_ar : okL [32, 45, 62, 32] := okL.cs (Or.inr (by decide)) (okL.cs (Or.inr (by decide)) (okL.cs (Or.inr (by decide)) (okL.cs (Or.inr (by decide)) okL.nil)))
/-- the names of a pattern -/
theorem wp_l {τ0 μ0 : S5} {a z : Int32} {t j x0 : Nat} (ha0 : 0 ≤ a) (ha1 : a < 6200) (hz0 : 0 ≤ z) (hz1 : z < 30) (ht : t < 14000) (hj : j ≤ 5) (hx : x0 < 2 ^ 30) (h2 : 0 < j → xA τ0 2 z = nI j ∧ xA τ0 15 a = nI x0 ∧ xA μ0 42 (nI t) = nI x0) (h2' : j = 0 → xA τ0 2 z = 0) (h43 : xA μ0 43 (nI t) = nI j) : ∀ (m i : Nat), i + m = j → ∃ L, okL L ∧ (∀ N, m < N → Wc τ0 (f_X7_writePattern_L79 N a z (nI i)) L) ∧ ∀ N, m < N → Wm μ0 (f_X12_pattern_L59 N (nI t) (nI i)) (L ++ [32, 45, 62, 32]) := by
  intro m
  have e2 : xA τ0 2 z = nI j := by
    by_cases h : 0 < j
    · exact (h2 h).1
    · have : j = 0 := by omega
      rw [h2' this, this]
      rfl
  induction m with
  | zero =>
    intro i hi
    obtain rfl : i = j := by omega
    refine ⟨[], okL.nil, fun N hN σ τ hC h => ?_, fun N hN μ ν hq h => ?_⟩
    · obtain ⟨N, rfl⟩ : ∃ n, N = n + 1 := ⟨N - 1, by omega⟩
      cases h
      show f_X7_writePattern_B79 _ _ _ _ _ = _
      unfold f_X7_writePattern_B79
      rw [gd30 hz0 hz1, hC.x 2 z (by decide), e2, if_pos (Int32.le_refl _)]
    · obtain ⟨N, rfl⟩ : ∃ n, N = n + 1 := ⟨N - 1, by omega⟩
      show f_X12_pattern_B59 _ _ _ _ = _
      unfold f_X12_pattern_B59
      rw [gdn ht (by omega), hq.x 43 _ (by decide), h43, if_pos (Int32.le_refl _), pk_go, bd_of, sgk pl_ar h, bd_of]
  | succ m ih =>
    intro i hi
    obtain ⟨e1, e15, e42⟩ := h2 (by omega)
    obtain ⟨Lv, v1, v2, v3⟩ := wv (x := x0 + i) (by omega)
    obtain ⟨L, a1, a2, a3⟩ := ih (i + 1) (by omega)
    have hn : ¬ nI j ≤ nI i := fun w => by have := (nI_le31 (by omega) (by omega)).mp w; omega
    refine ⟨[32] ++ (Lv ++ L), (okL.cs (Or.inr (by decide)) okL.nil).ap (v1.ap a1), fun N hN σ τ hC h => ?_, fun N hN μ ν hq h => ?_⟩
    · obtain ⟨N, rfl⟩ : ∃ n, N = n + 1 := ⟨N - 1, by omega⟩
      obtain ⟨ρ1, g1, g2⟩ := LWc.ap h
      obtain ⟨ρ2, g3, g4⟩ := LWc.ap g2
      have c1 := hC.fr g1.fr
      have c2 := c1.fr g3.fr
      show f_X7_writePattern_B79 _ _ _ _ _ = _
      unfold f_X7_writePattern_B79
      rw [gd30 hz0 hz1, hC.x 2 z (by decide), e2, if_neg hn, gq1 hC, g1.one, bd_of, gd6200 ha0 ha1, c1.x 15 a (by decide), e15, nI_plus, v2 τ0 _ _ c1 g3, bd_of, nI_add1]
      exact a2 N (by omega) _ _ c2 g4
    · obtain ⟨N, rfl⟩ : ∃ n, N = n + 1 := ⟨N - 1, by omega⟩
      rw [List.append_assoc, List.append_assoc] at h
      obtain ⟨ρ1, g1, g2⟩ := LWm.ap h
      obtain ⟨ρ2, g3, g4⟩ := LWm.ap g2
      have c1 := hq.fr g1.fr.1
      have c2 := c1.fr g3.fr.1
      show f_X12_pattern_B59 _ _ _ _ = _
      unfold f_X12_pattern_B59
      rw [gdn ht (by omega), hq.x 43 _ (by decide), h43, if_neg hn, g1.one, bd_of, gdn ht (by omega), c1.x 42 _ (by decide), e42, nI_plus, v3 μ0 _ _ c1 g3, bd_of, nI_add1]
      exact a3 N (by omega) _ _ c2 g4
/-- a pattern -/
theorem wpt {τ0 μ0 : S5} (hct : Ct τ0 μ0) (hN : ∀ i, okN (gB τ0 0 i)) {a : Int32} {t j x0 : Nat} (h : XAlt τ0 μ0 a (nI t) j x0) (ha0 : 0 ≤ a) (ha1 : a < 6200) (ht : t < 14000) (hx : x0 < 2 ^ 30) : ∃ L, okL L ∧ Wc τ0 (f_X7_writePattern a) L ∧ Wm μ0 (f_X12_pattern (nI t)) (L ++ [32, 45, 62, 32]) := by
  have hb := FU_big (n := 5000) (by decide)
  have fin : xA μ0 43 (nI t) = 0 → Wm μ0 (f_X12_pattern_L59 FU (nI t) 0) [32, 45, 62, 32] := by
    intro h43
    have key : ∀ N, 0 < N → Wm μ0 (f_X12_pattern_L59 N (nI t) 0) [32, 45, 62, 32] := by
      intro N hN μ ν hq h
      obtain ⟨N, rfl⟩ : ∃ n, N = n + 1 := ⟨N - 1, by omega⟩
      show f_X12_pattern_B59 _ _ _ _ = _
      unfold f_X12_pattern_B59
      rw [gdn ht (by omega), hq.x 43 _ (by decide), h43, if_pos (Int32.le_refl _), pk_go, bd_of, sgk pl_ar h, bd_of]
    exact key FU (by omega)
  rcases h with ⟨a1, a2, a3, a4, a5, a6, a7, a8, a9, a10, a11⟩ | ⟨a1, a2, a3, a4, a5, a6⟩ | ⟨a1, a2, a3, a4⟩
  · have hz1 : xA τ0 14 a < 30 := by
      have := hct.2.2.1
      clear hct
      grind
    obtain ⟨Ln, n1, n2, n3⟩ := wn hct hN a4 a5
    obtain ⟨L, b1, b2, b3⟩ := wp_l (τ0 := τ0) (μ0 := μ0) ha0 ha1 a4 hz1 ht a6 hx (fun w => ⟨a7, a9, a10 w⟩) (fun w => by rw [a7, w]; rfl) a8 j 0 (by omega)
    refine ⟨Ln ++ L, n1.ap b1, fun σ τ hC h => ?_, fun μ ν hq h => ?_⟩
    · obtain ⟨ρ1, g1, g2⟩ := LWc.ap h
      unfold f_X7_writePattern
      rw [gd6200 ha0 ha1, gd6200 ha0 ha1, hC.x 13 a (by decide), a1, if_neg (by decide), gd6200 ha0 ha1, if_neg (by decide), gq1 hC, hC.x 14 a (by decide), gd30 a4 hz1, hC.y 0 _ (by decide), n2 _ _ g1, bd_of]
      exact b2 FU (by omega) _ _ (hC.fr g1.fr) g2
    · rw [List.append_assoc] at h
      obtain ⟨ρ1, g1, g2⟩ := LWm.ap h
      unfold f_X12_pattern f_X12_pattern_b57
      rw [gdn ht (by omega), hq.x 40 _ (by decide), a2, if_neg (by decide), gdn ht (by omega), if_neg (by decide), gdn ht (by omega), hq.x 41 _ (by decide), a3, gd30 a4 hz1, hq.y 3 _ (by decide), n3 _ _ g1, bd_of]
      exact b3 FU (by omega) _ _ (hq.fr g1.fr.1) g2
  · have hv : xA τ0 14 a = nI (xA τ0 14 a).toNatClampNeg := nI_tn a4
    have hv31 : (xA τ0 14 a).toNatClampNeg < 2 ^ 31 := tn31 _
    obtain ⟨L, b1, b2, b3⟩ := tx_nm hv31
    rw [← hv] at b2 b3
    refine ⟨L, b1, fun σ τ hC h => ?_, fun μ ν hq h => ?_⟩
    · unfold f_X7_writePattern
      rw [gd6200 ha0 ha1, gd6200 ha0 ha1, hC.x 13 a (by decide), a1, if_neg (by decide), gd6200 ha0 ha1, if_pos rfl, gq1 hC, hC.x 14 a (by decide), b2 _ _ h, bd_of]
    · obtain ⟨ρ1, g1, g2⟩ := LWm.ap h
      unfold f_X12_pattern f_X12_pattern_b57
      rw [gdn ht (by omega), hq.x 40 _ (by decide), a2, if_neg (by decide), gdn ht (by omega), if_pos rfl, gdn ht (by omega), hq.x 41 _ (by decide), a3, b3 _ _ g1, bd_of]
      exact fin a5 _ _ (hq.fr g1.fr.1) g2
  · refine ⟨[95], okL.cs (Or.inr (by decide)) okL.nil, fun σ τ hC h => ?_, fun μ ν hq h => ?_⟩
    · unfold f_X7_writePattern
      rw [gd6200 ha0 ha1, gd6200 ha0 ha1, hC.x 13 a (by decide), a1, if_pos rfl, gq1 hC, h.one, bd_of]
    · obtain ⟨ρ1, g1, g2⟩ := LWm.ap h
      unfold f_X12_pattern f_X12_pattern_b57
      rw [gdn ht (by omega), hq.x 40 _ (by decide), a2, if_pos rfl, g1.one, bd_of]
      exact fin a3 _ _ (hq.fr g1.fr.1) g2
