/-- what a part of a call holds goes into the new one, on both sides -/
theorem xl34 {v2 v4 : Int32} {v6 : Int64} {A A' had : Nat} (hv2 : 0 < had → v2 = nI A) (hd : 0 < had → A + 2 + had ≤ A') (hA : A' + 2 + had ≤ 4000) : ∀ (m j N : Nat) (σ : S5), j + m = had → m < N → ∃ σ', f_X3_extendPart_L34 N v2 (nI had) v4 (nI A') v6 (nI j) σ = f_X3_extendPart_L78 FU (nI had) v4 (nI A') v6 0 σ' ∧ Fb 14 σ σ' ∧ (∀ y, j ≤ y → y < had → gB σ' 14 (A' + 2 + y) = gB σ 14 (A + 2 + y)) ∧ ∀ q, (∀ y, j ≤ y → y < had → ¬ q = A' + 2 + y) → gB σ' 14 q = gB σ 14 q := by
  intro m
  induction m with
  | zero =>
    intro j N σ hj hN
    obtain ⟨N, rfl⟩ : ∃ n, N = n + 1 := ⟨N - 1, by omega⟩
    refine ⟨σ, ?_, Fb.rf 14 σ, fun y a b => by omega, fun _ _ => rfl⟩
    show f_X3_extendPart_B34 _ _ _ _ _ _ _ _ = _
    unfold f_X3_extendPart_B34
    rw [if_pos ((lp_le (by omega) (by omega)).mpr (by omega))]
  | succ m ih =>
    intro j N σ hj hN
    obtain ⟨N, rfl⟩ : ∃ n, N = n + 1 := ⟨N - 1, by omega⟩
    have e2 := hv2 (by omega)
    have hd' := hd (by omega)
    obtain ⟨σ', i1, i2, i3, i4⟩ := ih (j + 1) N (pB σ 14 (nI (A' + 2 + j)) (gB σ 14 (A + 2 + j))) (by omega) (by omega)
    refine ⟨σ', ?_, (Fb.p _ _ _ _).tr i2, fun y a b => ?_, fun q hq => ?_⟩
    · rw [← i1]
      show f_X3_extendPart_B34 _ _ _ _ _ _ _ _ = _
      unfold f_X3_extendPart_B34
      rw [if_neg (fun w => absurd ((lp_le (by omega) (by omega)).mp w) (by omega)), e2, show (2 : Int32) = nI 2 from rfl, nI_plus, nI_plus, nI_plus, nI_plus, gdn (by omega) (by omega), gdn (by omega) (by omega), nI_add1, xB_at (by omega)]
    · by_cases hy : y = j
      · subst hy
        rw [i4 _ (fun y' a' b' => by omega), gB_s (by omega)]
      · rw [i3 y (by omega) b, gB_n (by omega) (by omega)]
    · rw [i4 q (fun y a b => hq y (by omega) b), gB_n (by omega) (hq j (Nat.le_refl _) (by omega))]
/-- arguments on the stack go into the new one -/
theorem xl78 {v6 : Int64} {A' had i t : Nat} (hi : i ≤ 8) (hh : had ≤ 8) (hA : A' + 2 + had + i ≤ 4000) (ht : t + i < 2 ^ 21) : ∀ (m j N : Nat) (σ : S5), j + m = i → m < N → gI σ 40 = nI (t + i) → t + i ≤ gN σ 1 → gN σ 1 < 2 ^ 31 → ∃ σ', f_X3_extendPart_L78 N (nI had) (nI i) (nI A') v6 (nI j) σ = some ((), pI (pJ (pI σ' 40 (nI t)) 5 v6) 45 0) ∧ Fb 14 σ σ' ∧ (∀ y, j ≤ y → y < i → gB σ' 14 (A' + 2 + had + y) = gB σ 12 (t + y)) ∧ ∀ q, (∀ y, j ≤ y → y < i → ¬ q = A' + 2 + had + y) → gB σ' 14 q = gB σ 14 q := by
  intro m
  induction m with
  | zero =>
    intro j N σ hj hN h40 h1 h2
    obtain ⟨N, rfl⟩ : ∃ n, N = n + 1 := ⟨N - 1, by omega⟩
    refine ⟨σ, ?_, Fb.rf 14 σ, fun y a b => by omega, fun _ _ => rfl⟩
    show f_X3_extendPart_B78 _ _ _ _ _ _ _ = _
    unfold f_X3_extendPart_B78 f_X3_give
    rw [if_pos ((lp_le (by omega) (by omega)).mpr (by omega)), h40, nI_sub (by omega), show t + i - i = t by omega, bd_of]
  | succ m ih =>
    intro j N σ hj hN h40 h1 h2
    obtain ⟨N, rfl⟩ : ∃ n, N = n + 1 := ⟨N - 1, by omega⟩
    obtain ⟨σ', i1, i2, i3, i4⟩ := ih (j + 1) N (pB σ 14 (nI (A' + 2 + had + j)) (gB σ 12 (t + j))) (by omega) (by omega) h40 h1 h2
    refine ⟨σ', ?_, (Fb.p _ _ _ _).tr i2, fun y a b => ?_, fun q hq => ?_⟩
    · rw [← i1]
      show f_X3_extendPart_B78 _ _ _ _ _ _ _ = _
      unfold f_X3_extendPart_B78
      rw [if_neg (fun w => absurd ((lp_le (by omega) (by omega)).mp w) (by omega)), h40, nI_sub (by omega), show t + i - i = t by omega, show (2 : Int32) = nI 2 from rfl, nI_plus, nI_plus, nI_plus, nI_plus, gdn (by omega) h2, gdn (by omega) (by omega), nI_add1, xB_at (by omega)]
    · by_cases hy : y = j
      · subst hy
        rw [i4 _ (fun y' a' b' => by omega), gB_s (by omega)]
      · rw [i3 y (by omega) b]
        rw [gB_pB_ne (by decide)]
    · rw [i4 q (fun y a b => hq y (by omega) b), gB_n (by omega) (hq j (Nat.le_refl _) (by omega))]
theorem xm154 {v3 v5 : Int32} {c c0 had p0 p1 : Nat} (hv5 : 0 < had → v5 = nI c) (hc : c < 4100) (hc0 : c0 < 4100) (hp0 : p0 + had ≤ 4100) (hp1 : p1 + had ≤ 4100) (hd : 0 < had → p0 + had ≤ p1) (hh : had ≤ 8) : ∀ (m j N : Nat) (μ : S5), j + m = had → m < N → (0 < had → gA μ 55 c = nI p0) → gA μ 55 c0 = nI p1 → ∃ ν, f_X12_apply_L154 N v3 v5 (nI had) (nI c0) (nI j) μ = f_X12_apply_L210 FU v3 (nI had) (nI c0) 0 (pI ν 49 (gI ν 49 - v3)) ∧ Fb 7 μ ν ∧ (∀ y, j ≤ y → y < had → gB ν 7 (p1 + y) = gB μ 7 (p0 + y)) ∧ ∀ q, (∀ y, j ≤ y → y < had → ¬ q = p1 + y) → gB ν 7 q = gB μ 7 q := by
  intro m
  induction m with
  | zero =>
    intro j N μ hj hN h55 h55'
    obtain ⟨N, rfl⟩ : ∃ n, N = n + 1 := ⟨N - 1, by omega⟩
    refine ⟨μ, ?_, Fb.rf 7 μ, fun y a b => by omega, fun _ _ => rfl⟩
    show f_X12_apply_B154 _ _ _ _ _ _ _ = _
    unfold f_X12_apply_B154
    rw [if_pos ((lp_le (by omega) (by omega)).mpr (by omega))]
  | succ m ih =>
    intro j N μ hj hN h55 h55'
    obtain ⟨N, rfl⟩ : ∃ n, N = n + 1 := ⟨N - 1, by omega⟩
    have e2 := hv5 (by omega)
    have hd' := hd (by omega)
    obtain ⟨ν, i1, i2, i3, i4⟩ := ih (j + 1) N (pB μ 7 (nI (p1 + j)) (gB μ 7 (p0 + j))) (by omega) (by omega) h55 h55'
    refine ⟨ν, ?_, (Fb.p _ _ _ _).tr i2, fun y a b => ?_, fun q hq => ?_⟩
    · rw [← i1]
      show f_X12_apply_B154 _ _ _ _ _ _ _ = _
      unfold f_X12_apply_B154
      rw [if_neg (fun w => absurd ((lp_le (by omega) (by omega)).mp w) (by omega)), e2, gdn hc0 (by omega), gdn hc (by omega), xA_n (i := c) (by omega), xA_n (i := c0) (by omega), h55 (by omega), h55', nI_plus, nI_plus, gdn (by omega) (by omega), gdn (by omega) (by omega), nI_add1, xB_at (by omega)]
    · by_cases hy : y = j
      · subst hy
        rw [i4 _ (fun y' a' b' => by omega), gB_s (by omega)]
      · rw [i3 y (by omega) b, gB_n (by omega) (by omega)]
    · rw [i4 q (fun y a b => hq y (by omega) b), gB_n (by omega) (hq j (Nat.le_refl _) (by omega))]
theorem xm210 {c0 had i p1 V : Nat} (hc0 : c0 < 4100) (hp1 : p1 + had + i ≤ 4100) (hi : i ≤ 8) (hh : had ≤ 8) (hV : V + i ≤ 580000) : ∀ (m j N : Nat) (μ : S5), j + m = i → m < N → gA μ 55 c0 = nI p1 → ∃ ν, f_X12_apply_L210 N (nI i) (nI had) (nI c0) (nI j) (pI μ 49 (nI V)) = some ((), pI (pJ (pI ν 49 (nI V)) 1 (vv 3 (nI c0))) 53 1) ∧ Fb 7 μ ν ∧ (∀ y, j ≤ y → y < i → gB ν 7 (p1 + had + y) = gB μ 8 (V + y)) ∧ ∀ q, (∀ y, j ≤ y → y < i → ¬ q = p1 + had + y) → gB ν 7 q = gB μ 7 q := by
  intro m
  induction m with
  | zero =>
    intro j N μ hj hN h55'
    obtain ⟨N, rfl⟩ : ∃ n, N = n + 1 := ⟨N - 1, by omega⟩
    refine ⟨μ, ?_, Fb.rf 7 μ, fun y a b => by omega, fun _ _ => rfl⟩
    show f_X12_apply_B210 _ _ _ _ _ _ = _
    unfold f_X12_apply_B210 f_X12_value f_X12_gives
    rw [if_pos ((lp_le (by omega) (by omega)).mpr (by omega)), bd_of, bd_of]
    rfl
  | succ m ih =>
    intro j N μ hj hN h55'
    obtain ⟨N, rfl⟩ : ∃ n, N = n + 1 := ⟨N - 1, by omega⟩
    obtain ⟨ν, i1, i2, i3, i4⟩ := ih (j + 1) N (pB μ 7 (nI (p1 + had + j)) (gB μ 8 (V + j))) (by omega) (by omega) h55'
    refine ⟨ν, ?_, (Fb.p _ _ _ _).tr i2, fun y a b => ?_, fun q hq => ?_⟩
    · rw [← i1]
      show f_X12_apply_B210 _ _ _ _ _ _ = _
      unfold f_X12_apply_B210
      have e49 : gI (pI μ 49 (nI V)) 49 = nI V := rfl
      have e55 : xA (pI μ 49 (nI V)) 55 (nI c0) = nI p1 := by
        show gA μ 55 (nI c0).toNatClampNeg = _
        rw [nI_clamp (by omega)]
        exact h55'
      have e8 : xB (pI μ 49 (nI V)) 8 (nI (V + j)) = gB μ 8 (V + j) := by
        show gB μ 8 (nI (V + j)).toNatClampNeg = _
        rw [nI_clamp (by omega)]
      rw [if_neg (fun w => absurd ((lp_le (by omega) (by omega)).mp w) (by omega)), gdn hc0 (by omega), e49, e55, nI_plus, nI_plus, nI_plus, gdn (by omega) (by omega), gdn (by omega) (by omega), nI_add1, e8]
      rfl
    · by_cases hy : y = j
      · subst hy
        rw [i4 _ (fun y' a' b' => by omega), gB_s (by omega)]
      · rw [i3 y (by omega) b]
        rw [gB_pB_ne (by decide)]
    · rw [i4 q (fun y a b => hq y (by omega) b), gB_n (by omega) (hq j (Nat.le_refl _) (by omega))]
/-- LESS THAN A CALL: a new part of a call is made of all, on both sides -/
theorem ext_go {τ μ0 : S5} {F k T : Nat} {pa nv D E : Nat → Nat} (hS : PSt τ μ0 F k T pa nv) {σs μs : S5} (hQs : eqQ μ0 μs) {t0 : Nat} {σ μ : S5} {n : Nat} {tg ct : Nat → Nat} {K : List (Nat × Nat × Nat × Nat × Nat)} {t W V b f e r P R i : Nat} (h : MSv τ μ0 F k T pa nv D E σs μs t0 σ μ n tg ct K t W V b f e r P R i) {g had : Nat} {v2 v3 : Int32} (hg : g < F) (hi1 : 1 ≤ i) (hi8 : i ≤ 8) (hless : had + i < pa g) (hv : (had = 0 ∧ v2 = -1 ∧ v3 = -1) ∨ (∃ c, c < n ∧ tg c = 5 ∧ ct c = had ∧ v2 = nI (adr tg ct c) ∧ v3 = nI c)) {Z : Nat} (hZ : R ≤ Z) : GOt τ μ0 F k T pa nv D E σs μs t0 Z σ (f_X3_extendPart (nI g) v2 (nI had) (nI i) σ) (bd (f_X12_newCell (1) (nI g) ((nI had + nI i)) (((2 + nI had) + nI i)) μ) (fun r140 τ140 => if 0 ≤ r140 then (f_X12_apply_L154 FU (nI i) v3 (nI had) (r140) (0) τ140) else (some ((), τ140)))) := by
  have hbig := FU_big (n := 5000) (by decide)
  have hnv := hS.nv
  obtain ⟨b1, b2, b3, b4, b5, b6, b7, b8⟩ := h.bd
  obtain ⟨⟨f1, f2, -⟩, hH, ⟨hn, h0⟩, hMC, hMM, hK, hG, hB, hvs⟩ := id h
  obtain ⟨⟨s1, s2, s3, s4⟩, -, -⟩ := hS.2.2.2.2 g hg
  have l1 := hMC.2.1.b
  obtain ⟨A, c, q0, hA, hc41, hq0, w2, w3, h55, hfl⟩ : ∃ A c q0, (0 < had → A + 2 + had ≤ adr tg ct n) ∧ c < 4100 ∧ (q0 + had ≤ 4100 ∧ (0 < had → q0 + had ≤ pre ct n ∧ c < n)) ∧ (0 < had → v2 = nI A) ∧ (0 < had → v3 = nI c) ∧ (0 < had → gA μ 55 c = nI q0) ∧ ∀ y, y < had → VL τ F pa n tg ct (gB σ 14 (A + 2 + y)) (gB μ 7 (q0 + y)) := by
    rcases hv with ⟨y1, y2, y3⟩ | ⟨c, y1, y2, y3, y4, y5⟩
    · exact ⟨0, 0, 0, by omega, by omega, by omega, fun w => by omega, fun w => by omega, fun w => by omega, fun y hy => by omega⟩
    · obtain ⟨⟨hbe, hco⟩, hcell, hfld⟩ := hH.2 c y1
      have hsz := adr_mo tg ct y1
      have hszc : szc tg ct c = ct c + 2 := by
        show ct c + 1 + (if tg c = 5 then 1 else 0) = _
        rw [if_pos y2]
      have hofs : ofs tg c = 2 := by unfold ofs; rw [if_pos y2]
      have h4 := hH.1.2.2.1
      have hpr := pre_mo' ct y1
      have hge := (adr_ge tg ct n).2
      refine ⟨adr tg ct c, c, pre ct c, by omega, by omega, ⟨by omega, fun _ => ⟨by omega, y1⟩⟩, fun _ => y4, fun _ => y5, fun _ => hbe, fun y hy => ?_⟩
      have := hfld trivial (fun w => by omega) y (by omega)
      rw [hofs] at this
      exact this
  have h4 := hH.1.2.2.1
  have hge := (adr_ge tg ct n).2
  rw [nI_plus, show (2 : Int32) + nI had + nI i = nI (had + i + 2) by rw [show (2 : Int32) = nI 2 from rfl, nI_plus, nI_plus]; congr 1; omega]
  have mk := mk_part hH hn h0 hg (m := had + i) (by omega) hless s3
  have h1 : (1 : Int32) = nI 1 := rfl
  rcases mk with ⟨σ1, μ1, m1, m2, m3, m4, m5, m6, m7, m8, m9, -, -, -, -, m14⟩ | ⟨σ1, μ1, m1, m2, m3, m4, m5⟩
  · -- it is made
    have hg' := Gro.nw n tg ct 5 (had + i)
    obtain ⟨ga, gp⟩ := hg'.ad (Nat.le_refl n)
    have hadn : adr (updN tg n 5) (updN ct n (had + i)) (n + 1) = adr tg ct n + (had + i + 2) := by
      rw [adr_s, ga]
      unfold szc
      rw [updN_s, updN_s, if_pos rfl]
    have hfit : adr tg ct n + (had + i + 2) ≤ 4000 := by
      have := m3.1.2.2.1
      rw [hadn] at this
      exact this
    have hpren : pre (updN ct n (had + i)) (n + 1) = pre ct n + (had + i) := by
      show pre (updN ct n (had + i)) n + updN ct n (had + i) n = _
      rw [gp, updN_s]
    obtain ⟨⟨hbe, hco⟩, hcell, -⟩ := m3.2 n (Nat.lt_succ_self n)
    rw [gp] at hbe
    have hn41 : n < 4100 := by omega
    -- class
    obtain ⟨r9, τ9, x1, x2⟩ := bd_some m1
    obtain ⟨r18, τ18, x3, x4⟩ := bd_some x2
    cases x4
    have er9 : r9 = nI (adr tg ct n) := by
      by_cases hr : r9 = -1
      · exfalso
        rw [hr, made_n] at x3
        obtain ⟨⟨⟩, τ'', -, x6⟩ := bd_some x3
        have : (0 : Int64) = vv (nI 5) (nI (adr tg ct n)) := congrArg Prod.fst (Option.some.inj x6)
        have h2 : (j_lushr (vv (nI 5) (nI (adr tg ct n))) 32).toInt32 = nI 5 := vv_tag 5 _
        rw [← this] at h2
        exact absurd h2 (by decide)
      · unfold f_X3_made at x3
        rw [if_neg hr] at x3
        unfold f_X0_value at x3
        rw [bd_of] at x3
        have : vv 5 r9 = vv (nI 5) (nI (adr tg ct n)) := congrArg Prod.fst (Option.some.inj x3)
        have h2 := congrArg Int64.toInt32 this
        rw [vv_of, vv_of] at h2
        exact h2
    have h00 : xA σ1 40 0 = 0 := m4.1.1.trans m9
    obtain ⟨σ2, c1, c2, c3, c4⟩ := xl34 (v2 := v2) (v4 := nI i) (v6 := vv (nI 5) (nI (adr tg ct n))) (A := A) (A' := adr tg ct n) (had := had) w2 hA (by omega) had 0 FU σ1 (by omega) (by omega)
    have e40 : gI σ2 40 = nI (t + i) := by rw [c2.1, m5.1]; exact hMC.1.1
    have eN2 : ∀ j, gN σ2 j = gN σ j := fun j => (congrFun c2.2.2.2.2 j).trans (congrFun m5.2.2.2.2 j)
    obtain ⟨σ3, d1, d2, d3, d4⟩ := xl78 (v6 := vv (nI 5) (nI (adr tg ct n))) (A' := adr tg ct n) (had := had) (i := i) (t := t) hi8 (by omega) (by omega) (by omega) i 0 FU σ2 (by omega) (by omega) e40 (by rw [eN2]; exact hMC.2.2.1) (by rw [eN2]; omega)
    -- the other
    have hbe' : gA μ1 55 n = nI (pre ct n) := hbe
    have hOC := nc_pt (D := D) (so := 1) (h.pt hQs D) (by omega) (show had + i + 1 ≤ had + i + 2 by omega) (by omega) m2
    have hOE := nc_pt (D := E) (so := 1) (h.pt hQs E) (by omega) (show had + i + 1 ≤ had + i + 2 by omega) (by omega) m2
    have hne : ¬ nI n = -1 := fun w => absurd w (nneg1 (i_le0 (nI_nneg (by omega))))
    rcases hOC with ⟨z, -⟩ | ⟨-, -, -, pD, oc, -⟩
    · exact absurd z hne
    rcases hOE with ⟨z, -⟩ | ⟨-, -, -, pE, -, -⟩
    · exact absurd z hne
    have h55' : 0 < had → gA μ1 55 c = nI q0 := fun w => by
      rw [(oc.1 c (hq0.2 w).2).2.2]
      exact h55 w
    obtain ⟨μ2, g1, g2, g3, g4⟩ := xm154 (v3 := nI i) (v5 := v3) (c := c) (c0 := n) (had := had) (p0 := q0) (p1 := pre ct n) w3 hc41 hn41 hq0.1 (by omega) (fun w => (hq0.2 w).1) (by omega) had 0 FU μ1 (by omega) (by omega) h55' hbe'
    obtain ⟨μ3, k1, k2, k3, k4⟩ := xm210 (c0 := n) (had := had) (i := i) (p1 := pre ct n) (V := V) hn41 (by omega) hi8 (by omega) (by omega) i 0 FU μ2 (by omega) (by omega) (by rw [g2.2.2.1 55]; exact hbe')
    have e49 : gI μ2 49 - nI i = nI V := by
      rw [g2.1, m6.1 49 (by omega) (by omega) (by omega) (by omega) (by omega), hMM.2.1, nI_sub (by omega), show V + i - i = V by omega]
    -- heaps
    have hofs : ofs (updN tg n 5) n = 2 := by unfold ofs; rw [updN_s, if_pos rfl]
    have hszc : szc (updN tg n 5) (updN ct n (had + i)) n = had + i + 2 := by
      unfold szc
      rw [updN_s, updN_s, if_pos rfl]
    have hctn : updN ct n (had + i) n = had + i := updN_s
    have hRn : ¬ (fun c => c < n ∧ (fun _ : Nat => True) c) n := fun w => absurd w.1 (Nat.lt_irrefl n)
    have F14 : ∀ j, gB σ3 14 j = gB σ1 14 j ∨ (adr tg ct n + 2 ≤ j ∧ j < adr tg ct n + 2 + had + i) := fun j => by
      by_cases hj : adr tg ct n + 2 ≤ j ∧ j < adr tg ct n + 2 + had + i
      · exact Or.inr hj
      · refine Or.inl ?_
        rw [d4 j (fun y _ _ => by omega), c4 j (fun y _ _ => by omega)]
    have F7 : ∀ j, gB μ3 7 j = gB μ1 7 j ∨ (pre ct n ≤ j ∧ j < pre ct n + had + i) := fun j => by
      by_cases hj : pre ct n ≤ j ∧ j < pre ct n + had + i
      · exact Or.inr hj
      · refine Or.inl ?_
        rw [k4 j (fun y _ _ => by omega), g4 j (fun y _ _ => by omega)]
    have hH1 := hs_wc (σ' := σ3) m3 (c0 := n) (Nat.lt_succ_self n) hRn (by rw [d2.2.2.1 40, c2.2.2.1 40]) (fun j hj => by
      rw [ga, hofs, hszc] at hj
      rcases F14 j with w | w
      · exact w
      · omega)
    have hH2 := hs_wm (μ' := μ3) hH1 (c0 := n) (Nat.lt_succ_self n) hRn (fun j _ _ => by rw [k2.1, g2.1]) (fun j _ _ => by rw [k2.2.2.1, g2.2.2.1]) (by rw [k2.2.2.2.1 6 (by decide), g2.2.2.2.1 6 (by decide)]) (fun j hj => by
      rw [gp, hctn] at hj
      rcases F7 j with w | w
      · exact w
      · omega)
    have hH3 : HS τ μ0 F T pa nv σ3 μ3 (n + 1) (updN tg n 5) (updN ct n (had + i)) (fun _ => True) := by
      refine hs_rd hH2 (c0 := n) (fun y hy => ?_) (fun c hc _ => ?_)
      · rw [hctn] at hy
        rw [ga, gp, hofs]
        by_cases hyh : y < had
        · rw [d4 _ (fun z _ _ => by omega), c3 y (Nat.zero_le _) hyh, k4 _ (fun z _ _ => by omega), g3 y (Nat.zero_le _) hyh, m7 _ (by have := hA (by omega); omega), m8]
          exact (hfl y hyh).gr hg'
        · rw [show adr tg ct n + 2 + y = adr tg ct n + 2 + had + (y - had) by omega, d3 (y - had) (Nat.zero_le _) (by omega), show pre ct n + y = pre ct n + had + (y - had) by omega, k3 (y - had) (Nat.zero_le _) (by omega), c2.2.2.2.1 12 (by decide), m5.2.2.2.1 12 (by decide), g2.2.2.2.1 8 (by decide), m6.2.2.2.1 8 (by decide)]
          exact (hvs (y - had) (by omega)).gr hg'
      · by_cases e : c = n
        · exact Or.inr e
        · exact Or.inl ⟨by omega, trivial⟩
    have fC : FkC σ σ3 := (m5.tr c2.kc).tr d2.kc
    have fM : FkM μ μ3 := (m6.tr g2.km).tr k2.km
    have hN3 : NR σ3 μ3 := m4.st (fun x _ => by rw [d2.2.2.1 40, c2.2.2.1 40]) (by rw [d2.2.2.1 41, c2.2.2.1 41]) (by rw [d2.2.2.1 42, c2.2.2.1 42]) (fun j _ => by rw [d2.1, c2.1]) (fun j _ => by rw [k2.1, g2.1]) (by rw [k2.2.2.1 57, g2.2.2.1 57]) (by rw [k2.2.2.1 58, g2.2.2.1 58])
    have hsp : ∀ G : Nat → Nat, spC G μ3 = spC G μ1 := fun G => funext (fun x => by unfold spC; rw [k2.2.2.1 53, k2.2.2.1 54, g2.2.2.1 53, g2.2.2.1 54])
    have cD := pD.2.2.2
    have cE := pE.2.2.2
    rw [if_neg (show ¬ (1 : Nat) = 2 by omega)] at cD cE
    have z0 : ∀ G : Nat → Nat, pre (fun j => G (gA μ1 62 j).toNatClampNeg) 0 = 0 := fun _ => rfl
    have zD := z0 D
    have zE := z0 E
    have hm3 := h.gr hnv hg' fC.l fM.l hH3 hN3 (by rw [k2.1, g2.1]; exact m9) (fun c hc => by rw [k2.2.2.1 53, g2.2.2.1 53]; exact m14 c hc) (fun j w => by
      rw [fC.2.2.2.1 13 (by decide), fM.2.2.2.1 9 (by decide)]
      exact w.gr hg') (fun j hj => by
      rcases F7 j with w | w
      · rw [w, m8]
      · omega) (P' := P) (B := 0) (by rw [hsp]; omega) (by omega) (B2 := 0) (by rw [hsp]; omega) (R' := R) (by omega)
    have hd3 := hm3.drop hnv
    have q1 : gN σ3 1 = gN σ 1 := (congrFun fC.2.2.2.2 1)
    have q3 : gN σ3 3 = gN σ 3 := (congrFun fC.2.2.2.2 3)
    refine gv_mk hnv hd3 (x := vv (nI 5) (nI (adr tg ct n))) (y := vv 3 (nI n)) (Or.inr (Or.inr (Or.inr ⟨n, Nat.lt_succ_self n, Or.inr (Or.inl updN_s), by rw [updN_s, ga], rfl⟩))) hZ (Nat.le_of_eq q1.symm) (Nat.le_of_eq q3.symm) ?_ ?_
    · unfold f_X3_extendPart
      rw [nI_plus, x1, bd_of, x3, bd_of]
      unfold f_X3_isOver
      rw [if_pos h00, bd_of, if_pos rfl, er9]
      have c1' : f_X3_extendPart_L34 FU v2 (nI had) (nI i) (nI (adr tg ct n)) (vv (nI 5) (nI (adr tg ct n))) 0 σ1 = f_X3_extendPart_L78 FU (nI had) (nI i) (nI (adr tg ct n)) (vv (nI 5) (nI (adr tg ct n))) 0 σ2 := c1
      rw [c1']
      exact d1
    · rw [m2, bd_of, if_pos (i_le0 (nI_nneg (by omega)))]
      have g1' : f_X12_apply_L154 FU (nI i) v3 (nI had) (nI n) 0 μ1 = f_X12_apply_L210 FU (nI i) (nI had) (nI n) 0 (pI μ2 49 (gI μ2 49 - nI i)) := g1
      rw [g1', e49]
      exact k1
  · -- no room
    obtain ⟨r9, τ9, x1, x2⟩ := bd_some m1
    obtain ⟨r18, τ18, x3, x4⟩ := bd_some x2
    cases x4
    have q1 : gN σ1 1 = gN σ 1 := (congrFun m4.2.2.2.2 1)
    have q3 : gN σ1 3 = gN σ 3 := (congrFun m4.2.2.2.2 3)
    refine ov_mk f1 f2 m3 (hMC.fk m4) m4.fm m5.fm ⟨Nat.le_of_eq q1.symm, Nat.le_of_eq q3.symm⟩ ?_ ?_
    · unfold f_X3_extendPart
      rw [nI_plus, x1, bd_of, x3, bd_of]
      unfold f_X3_isOver
      rw [if_neg m3.c, bd_of, if_neg (by decide)]
    · rw [m2, bd_of, if_neg (by decide)]
