/-- a function of both: its scope, its node, its number -/
def FJ (σ ν τn : S5) (f : Nat) (x y : Int32) : Prop := xA τn 8 (nI f) = x ∧ xA ν 12 (nI f) = y ∧ xA ν 11 (nI f) = xA ν 6 y ∧ xA τn 26 x = nI f ∧ ∃ c, FBo σ ν 0 x y c ∧ xA τn 7 (nI f) = c
theorem LF.fj {σ μ τn τr ν τf μf : S5} {k U F B : Nat} {cc fs fu fn ft : Nat → Int32} (h : LF σ μ τn τr ν τf μf k U F B cc fs fu fn ft) : ∀ f, f < F → ∃ x y, FJ σ ν τn f x y ∧ x < gI σ 9 := by
  obtain ⟨hE, ⟨hN, hF, hF6⟩, -, ⟨hV, hFm⟩, hp, ⟨hU, hU6, v90, v9, v10⟩, -⟩ := h
  have h9 := hE.2.2.1.2
  have h90 := hE.2.2.1.1
  have hcov := hp.cov h9 v9
  have fV := hV.1.1
  have n9 : gI ν 9 = gI μ 9 := fV.1 9 (by decide)
  have efM : fM ν = fM μ := by
    funext x
    unfold fM
    rw [fV.x 2 _ (by decide) (by decide) (by decide) (by decide) (by decide), fV.x 10 _ (by decide) (by decide) (by decide) (by decide) (by decide)]
  intro f hf
  by_cases hfk : f < k
  · obtain ⟨hq, hs, hu, hn, ht, htc⟩ := hp.2.1 f hfk
    have cx := hp.cx h9 v9 hfk
    obtain ⟨q1, ⟨q2, q3, q4⟩, ⟨q5, q6, q7⟩, ⟨q8, q9, q10⟩, q11, q12, q13, q14⟩ := hq
    have n3 := hN.1.2.2.1 f hfk
    refine ⟨fs f, fn f, ⟨n3.2, q5, q6, n3.1, cc f, ⟨_, _, _, _, _, q11, q10, ⟨q9, hs.1, by grind⟩, ⟨hn.1, by grind⟩, q12, q13, q14, cx⟩, ?_⟩, by grind⟩
    rw [hN.2 f (by omega), n3.2]
    exact q12
  · obtain ⟨x, x1, x2, x3⟩ := pre_sur (w := fC σ) (fun i => by unfold fC; split <;> omega) (gI σ 9).toNatClampNeg (f - k) (by omega)
    have x6 : (gI σ 9).toNatClampNeg ≤ 630 := i_le (n := 630) h9
    have hxS : nI x < gI σ 9 := by
      rw [nI_tn h90]
      exact (nI_lt31 (by omega) (by omega)).mpr x1
    have hx0 : 0 ≤ nI x := i_le0 (nI_nneg (by omega))
    have ec : (nI x).toNatClampNeg = x := nI_clamp (by omega)
    obtain ⟨y, c, b1, b2, b3⟩ := (hcov.2.1 (nI x) hx0 hxS).fb (by rw [ec]; exact x2) 0
    have e3 : pre (fM μ) y.toNatClampNeg = f - k := by
      have : prI (fC σ) (nI x) = pre (fC σ) x := by unfold prI; rw [ec]
      unfold prI at b3
      rw [ec, x3, efM] at b3
      exact b3.symm
    have yN : y.toNatClampNeg < (gI μ 9).toNatClampNeg := by
      rcases Nat.lt_or_ge y.toNatClampNeg (gI μ 9).toNatClampNeg with w | w
      · exact w
      · have := pre_mono (w := fM μ) (y.toNatClampNeg - (gI μ 9).toNatClampNeg) (gI μ 9).toNatClampNeg
        rw [show (gI μ 9).toNatClampNeg + (y.toNatClampNeg - (gI μ 9).toNatClampNeg) = y.toNatClampNeg by omega] at this
        omega
    have n4 := hN.1.2.2.2.1 x x1 x2
    rw [x3, show k + (f - k) = f by omega] at n4
    rw [efM] at b2
    have v4 := (hV.1.2.2.2 y.toNatClampNeg yN).2 b2
    rw [e3, show k + (f - k) = f by omega] at v4
    have y0 : 0 ≤ y := by
      obtain ⟨_, _, _, _, _, _, _, _, w, _⟩ := b1
      exact w.1
    have b23 : xA σ 23 (nI x) = c := by
      obtain ⟨_, _, _, _, _, _, _, _, _, w, _⟩ := b1
      exact w
    refine ⟨nI x, y, ⟨n4.2, by rw [v4.1, ← nI_tn y0], ?_, n4.1, c, b1, ?_⟩, hxS⟩
    · rw [v4.2, xA_tn, fV.x 6 _ (by decide) (by decide) (by decide) (by decide) (by decide)]
    · rw [hN.2 f (by omega), n4.2]
      exact b23
/-- the functions at the top have no free variables -/
def Tz (τr : S5) (k : Nat) (τ : S5) : Prop := FrF τr τ ∧ ∀ i, i < k → xA τ 4 (nI i) = 0
theorem kd_fi {P : S5 → Prop} : ∀ (n : Nat) (v1 v2 v3 : Int32) (σ : S5), P σ → Kd P (f_X2_freeIndex_L2 n v1 v2 v3 σ)
  | 0, _, _, _, _, _ => kd_none
  | n + 1, _, _, _, _, h => kd_gd (kd_ite (kd_some h) (kd_ite (kd_some h) (kd_gd (kd_ite (kd_some h) (kd_fi n _ _ _ _ h)))))
theorem Tz.A {τr : S5} {k g : Nat} {τ : S5} {v : Int32} (h : Tz τr k τ) (hg : k ≤ g) (hg6 : g < 4000) : Tz τr k (pA τ 4 (nI g) v) := by
  refine ⟨⟨h.1.1, h.1.2.1, fun j a b => by rw [gA_ne _ _ _ a]; exact h.1.2.2.1 j a b, h.1.2.2.2⟩, fun i hi => ?_⟩
  rw [xA_pA, if_neg (fun w => tn_ne (by omega) (by omega) (by omega) w.2)]
  exact h.2 i hi
theorem Tz.B {τr : S5} {k : Nat} {τ : S5} {i v : Int32} (h : Tz τr k τ) : Tz τr k (pA τ 5 i v) := by
  refine ⟨⟨h.1.1, h.1.2.1, fun j a b => by rw [gA_ne _ _ _ b]; exact h.1.2.2.1 j a b, h.1.2.2.2⟩, fun i hi => ?_⟩
  rw [xA_pA, if_neg (fun w => absurd w.1 (by decide))]
  exact h.2 i hi
theorem af_tz {τr : S5} {k g : Nat} {τ : S5} (y : Int32) (h : Tz τr k τ) (hg : k ≤ g) (hg6 : g < 4000) : Kd (Tz τr k) (f_X2_addFree (nI g) y τ) := by
  unfold f_X2_addFree
  refine kd_bd (kd_fi _ _ _ _ _ h) (fun _ _ q => kd_ite (kd_gd (kd_ite ?_ (kd_gd (kd_gd ?_)))) (kd_some q))
  · exact kd_gd (kd_gd (kd_some (q.A hg hg6)))
  · exact kd_gd (kd_gd (kd_some (q.B.A hg hg6)))
theorem pt_tz {σ τr ν : S5} {k U F : Nat} {fs : Nat → Int32} {S : Int32} (hE : Env σ τr ν k U F fs S) (h26 : ∀ i, i < k → xA τr 26 (fs i) = nI i) (v1 v3 : Int32) : ∀ (n : Nat) (o e : Int32) (τ : S5), 0 ≤ o → o < S → xA σ 22 o = o → Tz τr k τ → Kd (Tz τr k) (f_X2_passThrough_L18 n v1 v3 o e τ)
  | 0, _, _, _, _, _, _, _ => kd_none
  | n + 1, o, e, τ, o0, o1, o2, h => by
    have hE' := hE
    obtain ⟨hD, hG, ⟨hS0, hS6⟩, hk, hF, hN, hA, -⟩ := hE'
    refine kd_ite (kd_some h) (kd_ite (kd_some h) (kd_gd ?_))
    have e21 : xA τ 21 o = xA σ 21 o := by
      rw [← hA.2.1 o]
      show gA τ 21 _ = gA τr 21 _
      rw [h.1.2.2.1 21 (by decide) (by decide)]
    by_cases hp : xA τ 21 o = -1
    · rw [if_pos hp]; exact kd_some h
    · rw [if_neg hp]
      obtain ⟨g, g1, g2⟩ := hN.1 o o0 o1 o2
      have e26 : xA τ 26 o = nI g := by
        rw [← g2]
        show gA τ 26 _ = gA τr 26 _
        rw [h.1.2.2.1 26 (by decide) (by decide)]
      have hgk : k ≤ g := by
        rcases Nat.lt_or_ge g k with w | w
        · obtain ⟨q0, q1, q2, q3⟩ := hG.2.1 g w
          have := hN.2 o (fs g) o0 o1 o2 q0 q1 q3 (by rw [g2, h26 g w])
          rw [e21, this] at hp
          exact absurd q2 hp
        · exact w
      rw [e26]
      refine kd_gd (kd_bd (af_tz _ h hgk (by omega)) (fun _ t q => kd_gd (kd_gd ?_)))
      have t21 : xA t 21 o = xA σ 21 o := by
        rw [← hA.2.1 o]
        show gA t 21 _ = gA τr 21 _
        rw [q.1.2.2.1 21 (by decide) (by decide)]
      have t22 : ∀ z, xA t 22 z = xA σ 22 z := fun z => by
        rw [← hA.2.2.1 z]
        show gA t 22 _ = gA τr 22 _
        rw [q.1.2.2.1 22 (by decide) (by decide)]
      have hpar : 0 ≤ xA σ 21 o ∧ xA σ 21 o < S := by
        rcases hG.1 o o0 o1 with ⟨w, _⟩ | w
        · rw [e21] at hp; exact absurd w hp
        · exact ⟨w.1, by have := w.2.1; grind⟩
      have ho := hG.own _ hpar.1 hpar.2
      rw [t21, t22]
      exact pt_tz hE h26 v1 v3 n _ _ _ ho.1 ho.2.1 ho.2.2 q
theorem ff_tz {σ τr ν : S5} {k U F : Nat} {fs : Nat → Int32} {S : Int32} (hE : Env σ τr ν k U F fs S) (h26 : ∀ i, i < k → xA τr 26 (fs i) = nI i) (hu : ∀ v, 0 ≤ v → v < gI σ 10 → 0 ≤ xA σ 27 v ∧ xA σ 27 v < S) : ∀ (n : Nat) (v : Int32) (τ : S5), Tz τr k τ → Kd (Tz τr k) (f_X2_findFree_L2 n v τ)
  | 0, _, _, _ => kd_none
  | n + 1, v, τ, h => by
    have hA := hE.2.2.2.2.2.2.1
    show Kd _ (f_X2_findFree_B2 _ _ _)
    unfold f_X2_findFree_B2 f_X2_findFree_b49
    by_cases h10 : gI τ 10 ≤ v
    · rw [if_pos h10]; exact kd_some h
    · rw [if_neg h10]
      intro r τ' e
      have hg := gd_some e
      have v0 : 0 ≤ v := i_le0 (fun w => hg.1 (Or.inl w))
      refine (kd_ite (ff_tz hE h26 hu n _ _ h) (kd_gd (kd_gd (kd_bd ?_ (fun _ t q => ff_tz hE h26 hu n _ _ q))))) r τ' hg.2
      have e27 : xA τ 27 v = xA σ 27 v := by
        rw [← hA.2.2.2.1 v]
        show gA τ 27 _ = gA τr 27 _
        rw [h.1.2.2.1 27 (by decide) (by decide)]
      have e22 : ∀ z, xA τ 22 z = xA σ 22 z := fun z => by
        rw [← hA.2.2.1 z]
        show gA τ 22 _ = gA τr 22 _
        rw [h.1.2.2.1 22 (by decide) (by decide)]
      have hs := hu v v0 (by
        rw [h.1.1 10, hA.2.2.2.2] at h10
        grind)
      have ho := hE.2.1.own _ hs.1 hs.2
      rw [e27, e22]
      unfold f_X2_passThrough
      exact kd_gd (pt_tz hE h26 _ _ _ _ _ _ ho.1 ho.2.1 ho.2.2 h)
theorem LF.tz {σ μ τn τr ν τf μf : S5} {k U F B : Nat} {cc fs fu fn ft : Nat → Int32} (h : LF σ μ τn τr ν τf μf k U F B cc fs fu fn ft) (hf : f_X2_findFree τr = some ((), τf)) : ∀ i, i < k → xA τf 4 (nI i) = 0 := by
  obtain ⟨hE, ⟨hN, hF, hF6⟩, ⟨hR, -⟩, ⟨hV, hFm⟩, hp, ⟨hU, hU6, v90, v9, v10⟩, -⟩ := h
  have hcov := hp.cov hE.2.2.1.2 v9
  refine (ff_tz hE (fun i hi => by rw [hR.x 26 (by decide)]; exact (hN.1.2.2.1 i hi).1) (fun v v0 v1 => ?_) _ _ _ ⟨⟨fun _ => rfl, fun _ => rfl, fun _ _ _ => rfl, fun _ => rfl, rfl⟩, fun i hi => ?_⟩ _ _ hf).2
  · obtain ⟨h, n, c, q1, q2, q3, q4, q5, q6, q7, q8, q9, q10⟩ := hcov.2.2 v v0 v1
    rw [q8]
    exact q1
  · rw [hR.x 4 (by decide)]
    exact (hN.1.2.2.2.2 i (by omega)).1
