/-- the other counts needed lets -/
theorem fl_131 {ρ : S5} {f p : Nat} (hf : f < 630) (hp : p < 7000) (h45 : xA ρ 45 (nI f) = nI p) : ∀ (m i N v : Nat), i + m = p + 1 → m < N → f_X12_function_L131 N (nI f) (nI v) (nI i) ρ = some (nI (v + (pre (wMn ρ) (p + 1) - pre (wMn ρ) i)), ρ) := by
  intro m
  induction m with
  | zero =>
    intro i N v hi hN
    obtain ⟨N, rfl⟩ : ∃ n, N = n + 1 := ⟨N - 1, by omega⟩
    obtain rfl : i = p + 1 := by omega
    show f_X12_function_B131 _ _ _ _ _ = _
    unfold f_X12_function_B131
    rw [gdn (by omega) (by omega), h45, if_pos (show nI p < nI (p + 1) from (nI_lt31 (by omega) (by omega)).mpr (by omega)), Nat.sub_self, Nat.add_zero]
  | succ m ih =>
    intro i N v hi hN
    obtain ⟨N, rfl⟩ : ∃ n, N = n + 1 := ⟨N - 1, by omega⟩
    have hs : pre (wMn ρ) (i + 1) = pre (wMn ρ) i + if xA ρ 36 (nI i) = 0 then 0 else 1 := rfl
    have hmo : pre (wMn ρ) (i + 1) ≤ pre (wMn ρ) (p + 1) := by
      have := pre_mono (w := wMn ρ) m (i + 1)
      rw [show i + 1 + m = p + 1 by omega] at this
      exact this
    have hn : ¬ nI p < nI i := fun w => by have := (nI_lt31 (a := p) (b := i) (by omega) (by omega)).mp w; omega
    have st : f_X12_function_L131 (N + 1) (nI f) (nI v) (nI i) ρ = f_X12_function_L131 N (nI f) (nI (v + if xA ρ 36 (nI i) = 0 then 0 else 1)) (nI (i + 1)) ρ := by
      show f_X12_function_B131 _ _ _ _ _ = _
      unfold f_X12_function_B131 f_X12_function_b158
      rw [gdn (by omega) (by omega), h45, if_neg hn, gdn (by omega) (by omega), nI_add1]
      by_cases h0 : xA ρ 36 (nI i) = 0
      · rw [if_pos h0, if_pos h0, show (0 : Int32) = nI 0 from rfl, nI_plus]
      · rw [if_neg h0, if_neg h0, show (1 : Int32) = nI 1 from rfl, nI_plus]
    rw [st, ih (i + 1) N _ (by omega) (by omega)]
    have e : v + (if xA ρ 36 (nI i) = 0 then 0 else 1) + (pre (wMn ρ) (p + 1) - pre (wMn ρ) (i + 1)) = v + (pre (wMn ρ) (p + 1) - pre (wMn ρ) i) := by
      by_cases h0 : xA ρ 36 (nI i) = 0
      · rw [if_pos h0] at hs ⊢
        omega
      · rw [if_neg h0] at hs ⊢
        omega
    rw [e]
/-- the call function -/
theorem e_function {σ μ : S5} (a a2 : Int32) (h : RA σ μ) (hX : RXX σ μ) : E1 (h_L_function a a2 σ) (f_X12_function a a2 μ) σ μ := by
  have hb := FU_big (n := 9000) (by decide)
  obtain ⟨s1, s2, s3⟩ := h.2.2.2.1
  rcases s1 with s1 | s1
  · have s4 : gI μ 29 = 0 := s2 ▸ s1
    exact E1_no 1 0 (by decide) (by simp [h_L_function, f_X11_function, bd, s1]) (by simp [f_X12_function, f_X12_function_b38, f_X12_codeOf, bd, s4, pI_same]) h
  have s4 : gI μ 29 = 1 := s2 ▸ s1
  obtain ⟨p1, p2, p3, -⟩ := s3 s1
  by_cases c1 : a < 0
  · exact E1_no 2 0 (by decide) (by simp [h_L_function, f_X11_function, bd, s1, c1]) (by simp [f_X12_function, f_X12_function_b38, f_X12_codeOf, f_X12_codeOf_b23, bd, s4, c1, pI_same]) h
  by_cases c2 : a < gI σ 6
  · have c3 : a < gI μ 22 := p1 ▸ c2
    obtain ⟨σ0, μ0, ⟨x1, x2, x3⟩, ⟨y1, y2, y3⟩, F, k, T, pa, nv, Tt, ⟨b1, -⟩, ⟨b2, b3⟩, -, -, -, -, hpF, -, hf⟩ := hX.2.2 s1
    have e6 : gI σ 6 = nI F := by rw [x1 6 (by decide)]; exact b2
    rw [e6] at c2
    obtain ⟨f, hfF, rfl⟩ := i_natF c1 c2 (by omega)
    obtain ⟨q, p, hi, ⟨d1, d2, d3, -⟩, d4, ⟨d5, d6, -⟩, ⟨d7, d8, -⟩, ⟨d9, d10⟩, hl, -, -, -, W, hW, d11⟩ := hf f hfF
    have u : ∀ j, 2 ≤ j ∧ j ≤ 19 → xA σ j (nI f) = xA σ0 j (nI f) := fun j hj => by
      show gA σ j _ = gA σ0 j _
      rw [x2 j hj]
    have v : ∀ j x w, j = 13 ∨ j = 20 ∨ (31 ≤ j ∧ j ≤ 47) ∨ j = 49 ∨ j = 52 → xA (pI μ 0 w) j x = xA μ0 j x := fun j x w hj => by
      show gA μ j _ = gA μ0 j _
      rw [y2 j hj]
    obtain ⟨hq1, hq2, -⟩ := hl.un.1.1
    have g1 : ∀ {β : Type} (x : Option β), gd (nI f) 630 x = x := fun x => gdn (by omega) (by omega)
    have g2 : ∀ {β : Type} (x : Option β), gd (nI f) 640 x = x := fun x => gdn (by omega) (by omega)
    have g3 : ∀ {β : Type} (x : Option β), gd (nI p) 7000 x = x := fun x => gdn (by omega) (by omega)
    by_cases k1 : a2 < 0
    · exact E1_no 3 0 (by decide) (by simp [h_L_function, f_X11_function, bd, s1, c1, e6, c2, k1]) (by simp [f_X12_function, f_X12_function_b38, f_X12_function_b33, f_X12_codeOf, bd, s4, c1, c3, k1, pI_same]) h
    by_cases k2 : a2 ≤ 5
    · have hc : ∀ r, f_X4_tell_F (nI f) a2 σ = some (r, σ) → h_L_function (nI f) a2 σ = some (0, pB σ 30 0 r.toInt64) := fun r hr => by
        simp [h_L_function, f_X11_function, bd, s1, c1, e6, c2, k1, k2, hr]
      have hm : ∀ r, f_X12_function_b38 (nI f) a2 0 (pI μ 0 0) = some (r, pI μ 0 0) → f_X12_function (nI f) a2 μ = some (r, pI μ 0 0) := fun r hr => by
        simp [f_X12_function, f_X12_codeOf, bd, s4, c1, c3, k1, k2, hr]
      by_cases z0 : a2 = 0
      · subst z0
        refine E1_ok (nI (pa f)) (hc _ ?_) (hm _ ?_) h
        · simp [f_X4_tell_F, g1, u 3 (by decide), d1]
        · simp [f_X12_function_b38, g2, v 47 _ _ (by decide), d2, pI_same]
      by_cases z1 : a2 = 1
      · subst z1
        refine E1_ok (xA μ0 20 (nI f)) (hc _ ?_) (hm _ ?_) h
        · simp [f_X4_tell_F, g1, u 4 (by decide), d4]
        · simp [f_X12_function_b38, g2, v 20 _ _ (by decide), pI_same]
      by_cases z2 : a2 = 2
      · subst z2
        refine E1_ok (nI (nv f)) (hc _ ?_) (hm _ ?_) h
        · simp [f_X4_tell_F, g1, u 6 (by decide), d5]
        · simp [f_X12_function_b38, g2, v 46 _ _ (by decide), d6, pI_same]
      by_cases z3 : a2 = 3
      · subst z3
        have e : nI p - nI q + 1 = nI (p + 1 - q) := by
          rw [nI_sub hq1, nI_add1, show p - q + 1 = p + 1 - q by omega]
        refine E1_ok (nI (p + 1 - q)) (hc _ ?_) (hm _ ?_) h
        · simp [f_X4_tell_F, g1, u 9 (by decide), d9]
        · simp [f_X12_function_b38, g2, v 45 _ _ (by decide), v 44 _ _ (by decide), d7, d8, e, pI_same]
      by_cases z4 : a2 = 4
      · subst z4
        have hw : ∀ n, wMn (pI μ 0 0) n = wMn μ0 n := fun n => by
          unfold wMn
          rw [v 36 _ _ (by decide)]
        have hwe : wMn (pI μ 0 0) = wMn μ0 := funext hw
        have hl131 := fl_131 (ρ := pI μ 0 0) (f := f) (p := p) (by omega) hq2 (by rw [v 45 _ _ (by decide)]; exact d8) (p + 1 - q) q FU 0 (by omega) (by omega)
        rw [hwe, hW, show nI 0 = 0 from rfl, show 0 + (pre (wMn μ0) q + W - pre (wMn μ0) q) = W by omega] at hl131
        refine E1_ok (nI W) (hc _ ?_) (hm _ ?_) h
        · simp [f_X4_tell_F, g1, u 11 (by decide), d11]
        · unfold f_X12_function_b38
          rw [if_pos (by decide), if_neg (by decide), if_neg (by decide), if_neg (by decide), if_neg (by decide), if_pos rfl, g2, v 44 _ _ (by decide), d7, pI_same]
          exact hl131
      · refine E1_ok (xA μ0 37 (nI p)) (hc _ ?_) (hm _ ?_) h
        · simp [f_X4_tell_F, z0, z1, z2, z3, z4, g1, u 10 (by decide), d10]
        · simp [f_X12_function_b38, z0, z1, z2, z3, z4, g2, v 45 _ _ (by decide), d8, g3, v 37 _ _ (by decide), pI_same]
    · exact E1_no 3 0 (by decide) (by simp [h_L_function, f_X11_function, bd, s1, c1, e6, c2, k1, k2]) (by simp [f_X12_function, f_X12_function_b38, f_X12_function_b33, f_X12_codeOf, bd, s4, c1, c3, k1, k2, pI_same]) h
  · have c3 : ¬ a < gI μ 22 := p1 ▸ c2
    exact E1_no 2 0 (by decide) (by simp [h_L_function, f_X11_function, bd, s1, c1, c2]) (by simp [f_X12_function, f_X12_function_b38, f_X12_codeOf, f_X12_codeOf_b23, bd, s4, c1, c3, pI_same]) h
/-- the calls that only ask, and the text, leave the program as it stands -/
theorem RXX.mv {σ τ μ ν : S5} (hC : eqC σ τ) (hM : eqM μ ν) (h : RXX σ μ) : RXX τ ν := by
  have cA : ∀ k x, ¬ k = 0 → xA τ k x = xA σ k x := fun k x a => congrFun (hC.2.2.1 k a) _
  have cB : ∀ k x, ¬ k = 30 → xB τ k x = xB σ k x := fun k x a => congrFun (hC.2.2.2.1 k a) _
  refine ⟨DN_of h.1 (fun i => cA 20 i (by decide)) (fun i => cB 3 i (by decide)), (hC.1 22 (by decide) (by decide)).trans h.2.1, fun w => ?_⟩
  obtain ⟨σ0, μ0, ⟨a1, a2, a3⟩, ⟨b1, b2, b3⟩, c⟩ := h.2.2 ((hC.1 60 (by decide) (by decide)).symm.trans w)
  exact ⟨σ0, μ0, ⟨fun j hj => (hC.1 j (by omega) (by omega)).trans (a1 j hj), fun j hj => (hC.2.2.1 j (by omega)).trans (a2 j hj), fun j hj => (hC.2.2.2.1 j (by omega)).trans (a3 j hj)⟩, ⟨fun j hj => (hM.1 j (by omega) (by omega)).trans (b1 j hj), fun j hj => (hM.2.2.1 j (by omega)).trans (b2 j hj), fun j hj => (congrFun hM.2.2.2.1 j).trans (b3 j hj)⟩, c⟩
