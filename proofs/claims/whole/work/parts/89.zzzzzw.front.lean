/-- what stands when the names have been found -/
def LF (σ μ τn τr ν τf μf : S5) (k U F B : Nat) (cc fs fu fn ft : Nat → Int32) : Prop := Env σ τr ν k U F fs (gI σ 9) ∧ (NU σ τn k fs (gI σ 9).toNatClampNeg ∧ F = k + pre (fC σ) (gI σ 9).toNatClampNeg ∧ F ≤ 630) ∧ (FrR τn τr ∧ FlU σ k U (gI τr 20) (gI τr 21)) ∧ (VU μ ν k (gI μ 9).toNatClampNeg ∧ F = k + pre (fM μ) (gI μ 9).toNatClampNeg) ∧ PG σ ν k cc fs fu fn ft ∧ (gI σ 10 = nI U ∧ U ≤ 600 ∧ 0 ≤ gI ν 9 ∧ gI ν 9 ≤ 2200 ∧ gI ν 10 ≤ 3000) ∧ WT σ τr ν k F (gI σ 9) (gI σ 9) U (gI ν 9) B τf μf
theorem lf_in {σ μ : S5} {k : Nat} {cc fs fu fn ft : Nat → Int32} (hp : PG σ μ k cc fs fu fn ft) (hk : k ≤ 30) (h5 : gI σ 5 = nI k) (h6 : gI σ 6 = nI k) (h13 : gI μ 13 = nI k) (h90 : 0 ≤ gI σ 9) (h9 : gI σ 9 ≤ 630) (h100 : 0 ≤ gI σ 10) (h10 : gI σ 10 ≤ 600) (m90 : 0 ≤ gI μ 9) (m9 : gI μ 9 ≤ 2200) (m10 : gI μ 10 ≤ 3000) (h20 : gI σ 20 = 0) (m7 : gI μ 7 = 0) (hDN : DN σ) {D : Int32 → Nat} (hDp : ∀ x, 0 ≤ x → x < gI σ 9 → 1 ≤ D x ∧ D x ≤ 61 ∧ (0 ≤ xA σ 21 x → xA σ 21 x < x ∧ D x = D (xA σ 21 x) + 1)) : ∃ (U F B : Nat) (τn τr ν τf μf : S5), f_X2_numberFunctions σ = some ((), τn) ∧ f_X2_resolveUses τn = some ((), τr) ∧ f_X2_findFree τr = some ((), τf) ∧ f_X12_numberAll μ = some ((), ν) ∧ f_X12_find ν = some ((), μf) ∧ LF σ μ τn τr ν τf μf k U F B cc fs fu fn ft := by
  have hbig := FU_big (n := 30000) (by decide)
  have hU := nI_tn h100
  have hU6 : (gI σ 10).toNatClampNeg ≤ 600 := i_le (n := 600) h10
  generalize hUe : (gI σ 10).toNatClampNeg = U at hU hU6
  obtain ⟨τn, n1, n2, n3⟩ := nf_go hp hk h5 h6 h9 h90
  obtain ⟨ν, v1, v2, v3⟩ := na_go hp hk h13 h9 m9 m90
  have hg := hp.gs
  have hcov := hp.cov h9 m9
  have hN := NU.nij hg h9 hk n2 h90 n3
  have fN := n2.1.1
  have eA : ∀ j i, j = 20 ∨ j = 21 ∨ j = 22 ∨ j = 27 ∨ j = 28 → xA τn j i = xA σ j i := fun j i hj => fN.x j i (by omega) (by omega) (by omega) (by omega) (by omega)
  have eB : ∀ j i, xB τn j i = xB σ j i := fun j i => by show gB τn j _ = gB σ j _; rw [fN.2.2.2.1 j]
  have etg : ∀ x, tg τn k x = tg σ k x := tg_eq (fun x => eA 20 x (by omega)) (fun x => eA 21 x (by omega)) (fun x => eA 27 x (by omega)) (eB 1) (eB 3) (eB 4) k
  have hDn : DN τn := DN_of hDN (fun i => eA 20 i (by omega)) (fun i => eB 3 i)
  obtain ⟨τr, r1, r2⟩ := ru_L2 hDn (S := gI σ 9) (k := k) (U := U) h9 (fun x x0 x1 => by
    rw [eA 21 x (by omega)]
    rcases hg.1 x x0 x1 with ⟨w, _⟩ | w
    · exact Or.inl w
    · exact Or.inr ⟨w.1, w.2.1⟩) hk (by rw [fN.1 5 (by decide)]; exact h5) hU6 (by rw [fN.1 10 (by decide)]; exact hU) (fun u hu => by
    have hlt : nI u < gI σ 10 := by rw [hU]; exact (nI_lt31 (by omega) (by omega)).mpr hu
    obtain ⟨h, n, c, q1, q2, q3, q4, q5, q6, q7, q8, q9, q10⟩ := hcov.2.2 (nI u) (i_le0 (nI_nneg (by omega))) hlt
    rw [eA 27 _ (by omega), q8]
    exact q1) U 0 FU τn (by omega) (by omega) ⟨FrR.rf _, fun x hx => absurd hx (by omega), Or.inl ⟨by rw [fN.1 20 (by decide)]; exact h20, fun x hx => absurd hx (by omega)⟩⟩
  have hfl : FlU σ k U (gI τr 20) (gI τr 21) := by
    rcases r2.2.2 with ⟨w1, w2⟩ | ⟨w1, x, w2, w3, w4, w5⟩
    · exact Or.inl ⟨w1, fun x hx => by rw [← etg]; exact w2 x hx⟩
    · exact Or.inr ⟨w1, x, w2, by rw [← etg]; exact w3, by rw [← eA 28 _ (by omega)]; exact w4, fun y hy => by rw [← etg]; exact w5 y hy⟩
  have hAg : AgP σ σ μ ν k := v2.agp
  have hpν := hp.st hAg
  have fV := v2.1.1
  have efM : fM ν = fM μ := by
    funext x
    unfold fM
    rw [fV.x 2 _ (by decide) (by decide) (by decide) (by decide) (by decide), fV.x 10 _ (by decide) (by decide) (by decide) (by decide) (by decide)]
  have r26 : ∀ x, xA τr 26 x = xA τn 26 x := fun x => by rw [r2.1.x 26 (by decide)]
  have rA : ∀ j i, j = 20 ∨ j = 21 ∨ j = 22 ∨ j = 27 → xA τr j i = xA σ j i := fun j i hj => by rw [r2.1.x j (by omega)]; exact eA j i (by omega)
  have hE : Env σ τr ν k U (k + pre (fC σ) (gI σ 9).toNatClampNeg) fs (gI σ 9) := by
    refine ⟨hDN, hg, ⟨h90, h9⟩, hk, n3, ⟨fun x x0 x1 x2 => by rw [r26]; exact hN.1 x x0 x1 x2, fun x x' a b c d e f g => hN.2 x x' a b c d e f (by rw [← r26, ← r26]; exact g)⟩, ⟨fun x => rA 20 x (by omega), fun x => rA 21 x (by omega), fun x => rA 22 x (by omega), fun x => rA 27 x (by omega), by rw [r2.1.1 10 (by decide) (by decide), fN.1 10 (by decide)]⟩, fun u hu => by rw [← etg]; exact r2.2.1 u hu, ⟨hU6, hU⟩, by rw [fV.1 13 (by decide)]; exact h13, fun i hi => (hpν.2.1 i hi).1.1⟩
  have n9 : gI ν 9 = gI μ 9 := hAg.2.2.2.2.1.1
  have hw : Wk σ τr ν k (k + pre (fC σ) (gI σ 9).toNatClampNeg) (gI σ 9) (gI ν 9) D := by
    refine ⟨fun x x0 x1 => ⟨(hDp x x0 x1).2.1, fun h => ((hDp x x0 x1).2.2 h).2⟩, fun n n0 nN => ?_, fun s s0 s1 s2 s3 => ?_, by rw [hAg.2.2.2.2.1.2]; exact m10⟩
    · have hl : n.toNatClampNeg < (gI μ 9).toNatClampNeg := i_lt (fun w => by grind) (by rw [← n9]; exact nN)
      have := (v2.1.2.2.2 n.toNatClampNeg hl).1
      rw [xA_tn] at this
      rw [efM]
      exact this
    · have hl : s.toNatClampNeg < (gI σ 9).toNatClampNeg := i_lt (fun w => by grind) s1
      have hc : fC σ s.toNatClampNeg = 1 := by unfold fC; rw [xA_tn, xA_tn, ← nI_tn s0, if_pos ⟨s2, by grind⟩]
      have a1 := (n2.1.2.2.2.1 s.toNatClampNeg hl hc).1
      rw [xA_tn] at a1
      rw [r26]
      refine ⟨a1, ?_⟩
      have a2 := pre_mono (w := fC σ) ((gI σ 9).toNatClampNeg - (s.toNatClampNeg + 1)) (s.toNatClampNeg + 1)
      rw [show s.toNatClampNeg + 1 + ((gI σ 9).toNatClampNeg - (s.toNatClampNeg + 1)) = (gI σ 9).toNatClampNeg by omega] at a2
      have a3 : pre (fC σ) (s.toNatClampNeg + 1) = pre (fC σ) s.toNatClampNeg + fC σ s.toNatClampNeg := rfl
      unfold prI
      omega
  have hp0 := hpν.1
  have w0 : WT σ τr ν k (k + pre (fC σ) (gI σ 9).toNatClampNeg) (gI σ 9) (fs 0) (fu 0).toNatClampNeg (fn 0) 0 τr (pI (pI ν 23 0) 24 0) := by
    rw [hp0.1, hp0.2.2.1, hp0.2.2.2.2.1]
    refine ⟨⟨fun j hj => by rw [gI_pI, if_neg (by omega), gI_pI, if_neg (by omega)], fun _ => rfl, fun _ _ => rfl, fun _ _ => rfl, rfl, fun _ _ => ⟨rfl, rfl⟩⟩, by rw [gI_pI, if_neg (by decide), gI_pI, if_pos rfl]; rfl, by rw [gI_pI, if_pos rfl]; rfl, ⟨fun x i j x0 x1 => absurd x1 (by grind), fun o f o0 o1 o2 o3 => ?_⟩, ⟨fun f hf => ?_, ⟨fun _ => rfl, fun _ => rfl, fun _ _ _ => rfl, fun _ => rfl, rfl⟩, Nat.zero_le _⟩, Or.inl ⟨?_, fun x hx => absurd (show x < 0 from hx) (by omega)⟩, ⟨rfl, rfl, rfl⟩, ⟨fun n n0 n1 => absurd n1 (by grind), fun n n0 n1 => absurd n1 (by grind)⟩⟩
    · obtain ⟨f', f1, f2⟩ := hE.2.2.2.2.2.1.1 o o0 o1 o2
      show xA ν 24 (nI f) = _
      rw [← o3, f2, (v2.2 f' (by omega)).2]
      rfl
    · refine ⟨0, 0, ?_, ?_, Nat.le_refl _, Or.inl ⟨by omega, rfl⟩, fun i hi => absurd hi (by omega)⟩
      · rw [r2.1.x 4 (by decide)]
        exact (n2.1.2.2.2.2 f hf).1
      · show xA ν 20 (nI f) = _
        exact (v2.2 f (by omega)).1
    · show gI ν 7 = 0
      rw [fV.1 7 (by decide)]
      exact m7
  obtain ⟨B, τf, μf, c1, c2, c3⟩ := fl_loop hE hw (fun x x0 x1 => (hDp x x0 x1).1) hpν rfl rfl (by rw [n9]; exact m9) (fun i hi => by rw [r26]; exact (n2.1.2.2.1 i hi).1) (by omega) k 0 FU 0 τr _ (by omega) (by omega) w0
  have eU : (fu k).toNatClampNeg = U := by rw [hp0.2.2.2.1]; exact hUe
  rw [eU, hp0.2.2.1] at c2
  rw [eU, hp0.2.1, hp0.2.2.2.2.2.1] at c3
  refine ⟨U, _, B, τn, τr, ν, τf, μf, n1, r1, ?_, v1, c1, hE, ⟨n2, rfl, n3⟩, ⟨r2.1, hfl⟩, ⟨v2, by rw [v3]⟩, hpν, ⟨hU, hU6, by rw [n9]; exact m90, by rw [n9]; exact m9, by rw [hAg.2.2.2.2.1.2]; exact m10⟩, c3⟩
  have k1 := c2 (FU - U)
  rw [show FU - U + (U - Int32.toNatClampNeg 0) = FU by show FU - U + (U - 0) = FU; omega] at k1
  have k2 : f_X2_findFree τr = f_X2_findFree_L2 (FU - U) (nI U) τf := k1
  rw [k2]
  obtain ⟨m, hm⟩ : ∃ m, FU - U = m + 1 := ⟨FU - U - 1, by omega⟩
  rw [hm]
  show f_X2_findFree_B2 _ _ _ = _
  unfold f_X2_findFree_B2
  have e10 : gI τf 10 = nI U := by rw [c3.2.2.2.2.1.2.1.1 10, hE.2.2.2.2.2.2.1.2.2.2.2, hU]
  rw [e10, if_pos (Int32.le_refl _)]
