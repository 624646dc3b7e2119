/-- what lifting needs, from what came before -/
theorem LF.mx {σ μ τn τr ν τf μf τm μm τv : S5} {k U F B : Nat} {cc fs fu fn ft sc : Nat → Int32} {cf : Nat → Nat} (h : LF σ μ τn τr ν τf μf k U F B cc fs fu fn ft) (hJ : JG σ τf μf τm μm k F) (h20 : gI τm 20 = 0) (h20r : gI τr 20 = 0) (hL : LXc σ ν τr τv k U F (gI σ 9) sc cf) (hB : FrB τm τv) (hc : ∀ f, f < F → xA τf 4 (nI f) = nI (cf f) ∧ xA τn 8 (nI f) = sc f) : MX σ ν τr τv μm k U F (gI σ 9) cf ∧ NX σ ν k sc fs ∧ gI μm 22 = nI F ∧ gI μm 7 = 0 := by
  obtain ⟨hE, ⟨hN, hF, hF6⟩, ⟨hR, hFl⟩, ⟨hV, hFm⟩, hp, ⟨hU, hU6, v90, v9, v10⟩, hW⟩ := h
  obtain ⟨hWF, -, -, hHV, ⟨w5, w6, w7⟩, -, -, hNW⟩ := hW
  obtain ⟨⟨j1, -⟩, j2, j3, -, -⟩ := hJ
  have hk30 : k ≤ 30 := hE.2.2.2.1
  have xm : ∀ j x, xA μm j x = xA μf j x := fun j x => by
    show gA μm j x.toNatClampNeg = gA μf j x.toNatClampNeg
    have : gA μm = gA μf := by unfold gA; rw [j2.2]
    rw [this]
  have xw : ∀ j x, j ≤ 6 ∨ (9 ≤ j ∧ j ≤ 19) → xA μf j x = xA ν j x := fun j x hj => by
    show gA μf j x.toNatClampNeg = gA ν j x.toNatClampNeg
    rw [hWF.2.2.1 j (by omega)]
  have fV := hV.1.1
  have efM : fM ν = fM μ := by
    funext x
    unfold fM
    rw [fV.x 2 _ (by decide) (by decide) (by decide) (by decide) (by decide), fV.x 10 _ (by decide) (by decide) (by decide) (by decide) (by decide)]
  have n9 : gI ν 9 = gI μ 9 := fV.1 9 (by decide)
  have x5 : ∀ x, xA τv 5 x = xA τf 5 x := fun x => by
    show gA τv 5 x.toNatClampNeg = gA τf 5 x.toNatClampNeg
    rw [hB.2.2.1 5 (by decide) (by decide), j3.2.2.1 5 (by decide)]
  refine ⟨⟨fun j x hj => by rw [xm]; exact xw j x hj, fun x hx => by rw [xm, xm]; exact hWF.2.2.2.2.2 x hx, ⟨fun n a b c => ?_, fun n a b c => by rw [xm]; exact hNW.2 n a b c⟩, ⟨fun x i j a b c d e => by rw [xm, xm]; exact hHV.1 x i j a b c d e, fun o f a b c d => by rw [xm]; exact hHV.2 o f a b c d⟩, fun g hg => ?_, fun n n0 nN => ?_, fun s s0 s1 s2 s3 => ?_, hE.2.2.2.2.2.1, fun u hu => ?_, ?_⟩, ⟨fun n n0 nN hfm => ?_, fun i hi => ?_, hE.2.2.1.2, v9⟩, ?_, by rw [← j1]; exact h20⟩
  · have := hNW.1 n a b c
    unfold Sd at *
    rw [xm, xm]
    exact this
  · obtain ⟨c, r, r1, r2, r3, r4, r5⟩ := w5 g hg
    have hc8 : cf g ≤ 8 := (hL.2.2.1 g hg).2.2.2.2.1
    have ec : c = cf g := by
      have e := (hc g hg).1
      rw [r1] at e
      exact nI_injL (by omega) (by omega) e
    have er : r = cf g := by omega
    rw [xm, r2, er]
    refine ⟨rfl, fun i hi => ?_⟩
    rw [xm, x5]
    exact r5 i (by omega) (by omega)
  · have hl : n.toNatClampNeg < (gI μ 9).toNatClampNeg := i_lt (not_neg n0) (by rw [← n9]; exact nN)
    have := (hV.1.2.2.2 n.toNatClampNeg hl).1
    rw [xA_tn] at this
    rw [efM]
    exact this
  · have hl : s.toNatClampNeg < (gI σ 9).toNatClampNeg := i_lt (not_neg s0) s1
    have hfc : fC σ s.toNatClampNeg = 1 := by unfold fC; rw [xA_tn, xA_tn, ← nI_tn s0, if_pos ⟨s2, fun w => by rw [w] at s3; exact absurd s3 (by decide)⟩]
    have a1 := (hN.1.2.2.2.1 s.toNatClampNeg hl hfc).1
    rw [xA_tn] at a1
    rw [hR.x 26 (by decide)]
    exact a1
  · rcases hFl with ⟨-, w⟩ | ⟨w, -⟩
    · exact w u hu
    · rw [h20r] at w; exact absurd w (by decide)
  · rw [hB.1 4, j3.1 4 (by decide) (by decide) (by decide), w6.1 4, hR.1 4 (by decide) (by decide), hN.1.1.1 4 (by decide)]
  · have hl : n.toNatClampNeg < (gI μ 9).toNatClampNeg := i_lt (not_neg n0) (by rw [← n9]; exact nN)
    rw [efM] at hfm ⊢
    obtain ⟨a, b⟩ := (hV.1.2.2.2 n.toNatClampNeg hl).2 hfm
    refine ⟨a.trans (nI_tn n0).symm, ?_⟩
    rw [xA_tn, ← fV.x 6 _ (by decide) (by decide) (by decide) (by decide) (by decide)] at b
    exact b
  · have hkF : k ≤ F := hL.1.2.2.2.2.1
    rw [← (hc i (by omega)).2]
    exact (hN.1.2.2.1 i hi).2
  · rw [j2.1 22 (by decide) (by decide), hWF.1 22 (by omega), hV.1.2.1, ← hFm]
