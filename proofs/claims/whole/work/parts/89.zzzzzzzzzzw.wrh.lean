/-- what writing leaves of both -/
def KwC (σ τ : S5) : Prop := (∀ j, ¬ j = 2 → ¬ j = 3 → ¬ j = 66 → ¬ j = 67 → gI τ j = gI σ j) ∧ (∀ j, gJ τ j = gJ σ j) ∧ (∀ j, ¬ j = 1 → ¬ j = 50 → gA τ j = gA σ j) ∧ (∀ j, ¬ j = 30 → gB τ j = gB σ j) ∧ ∀ k, ¬ k = 9 → gN τ k = gN σ k
def KwM (μ ν : S5) : Prop := (∀ j, ¬ j = 0 → ¬ j = 2 → ¬ j = 56 → gI ν j = gI μ j) ∧ (∀ j, gJ ν j = gJ μ j) ∧ (∀ j, ¬ j = 1 → ¬ j = 28 → ¬ j = 29 → ¬ j = 65 → gA ν j = gA μ j) ∧ (∀ j, gB ν j = gB μ j) ∧ ν.2.2.2.2 = μ.2.2.2.2
theorem ra_kw {σ τ μ ν : S5} (h : RA σ μ) (hC : KwC σ τ) (hM : KwM μ ν) (hO : RO τ ν) : RA τ ν := by
  obtain ⟨⟨t1, t2, t3, t4⟩, -, ⟨f1, f2, f3, f4, f5⟩, ⟨s1, s2, s3⟩, r⟩ := h
  have cI : ∀ j, ¬ j = 2 → ¬ j = 3 → ¬ j = 66 → ¬ j = 67 → gI τ j = gI σ j := hC.1
  have mI : ∀ j, ¬ j = 0 → ¬ j = 2 → ¬ j = 56 → gI ν j = gI μ j := hM.1
  have cA : ∀ j, ¬ j = 1 → ¬ j = 50 → gA τ j = gA σ j := hC.2.2.1
  have mA : ∀ j, ¬ j = 1 → ¬ j = 28 → ¬ j = 29 → ¬ j = 65 → gA ν j = gA μ j := hM.2.2.1
  refine ⟨⟨?_, ?_, ?_, ?_⟩, hO, ⟨?_, ?_, ?_, ?_, ?_⟩, ⟨?_, ?_, fun w => ?_⟩, ?_⟩
  · rw [cI 0 (by decide) (by decide) (by decide) (by decide), mI 1 (by decide) (by decide) (by decide)]; exact t1
  · rw [cI 0 (by decide) (by decide) (by decide) (by decide)]; exact t2
  · rw [cI 0 (by decide) (by decide) (by decide) (by decide)]; exact t3
  · rw [cI 0 (by decide) (by decide) (by decide) (by decide), cA 0 (by decide) (by decide), mA 0 (by decide) (by decide) (by decide) (by decide)]; exact t4
  · rw [cI 61 (by decide) (by decide) (by decide) (by decide), mI 30 (by decide) (by decide) (by decide)]; exact f1
  · rw [cI 62 (by decide) (by decide) (by decide) (by decide), mI 31 (by decide) (by decide) (by decide)]; exact f2
  · rw [cI 63 (by decide) (by decide) (by decide) (by decide), mI 12 (by decide) (by decide) (by decide)]; exact f3
  · rw [cI 64 (by decide) (by decide) (by decide) (by decide), mI 36 (by decide) (by decide) (by decide)]; exact f4
  · rw [cI 65 (by decide) (by decide) (by decide) (by decide), mI 35 (by decide) (by decide) (by decide)]; exact f5
  · rw [cI 60 (by decide) (by decide) (by decide) (by decide)]; exact s1
  · rw [cI 60 (by decide) (by decide) (by decide) (by decide), mI 29 (by decide) (by decide) (by decide)]; exact s2
  · rw [cI 60 (by decide) (by decide) (by decide) (by decide)] at w
    have p := s3 w
    unfold RP at p ⊢
    rw [cI 6 (by decide) (by decide) (by decide) (by decide), cI 4 (by decide) (by decide) (by decide) (by decide), cI 13 (by decide) (by decide) (by decide) (by decide), mI 22 (by decide) (by decide) (by decide), mI 14 (by decide) (by decide) (by decide), mI 11 (by decide) (by decide) (by decide), cA 3 (by decide) (by decide), cA 4 (by decide) (by decide), cA 6 (by decide) (by decide), mA 47 (by decide) (by decide) (by decide) (by decide), mA 20 (by decide) (by decide) (by decide) (by decide), mA 46 (by decide) (by decide) (by decide) (by decide)]
    exact p
  · unfold RR at r ⊢
    rw [cA 40 (by decide) (by decide), cA 41 (by decide) (by decide), cA 42 (by decide) (by decide), mA 57 (by decide) (by decide) (by decide) (by decide), mA 58 (by decide) (by decide) (by decide) (by decide), mI 44 (by decide) (by decide) (by decide), mI 45 (by decide) (by decide) (by decide), mI 38 (by decide) (by decide) (by decide), mI 34 (by decide) (by decide) (by decide), mI 39 (by decide) (by decide) (by decide), mI 40 (by decide) (by decide) (by decide), mI 41 (by decide) (by decide) (by decide), mI 42 (by decide) (by decide) (by decide), mI 43 (by decide) (by decide) (by decide), mI 46 (by decide) (by decide) (by decide)]
    exact r
theorem RXX.kw {σ τ μ ν : S5} (h : RXX σ μ) (hC : KwC σ τ) (hM : KwM μ ν) : RXX τ ν := by
  refine ⟨DN_of h.1 (fun i => congrFun (hC.2.2.1 20 (by decide) (by decide)) _) (fun i => congrFun (hC.2.2.2.1 3 (by decide)) _), (hC.1 22 (by decide) (by decide) (by decide) (by decide)).trans h.2.1, fun w => ?_⟩
  obtain ⟨σ0, μ0, ⟨a1, a2, a3⟩, ⟨b1, b2, b3⟩, c⟩ := h.2.2 ((hC.1 60 (by decide) (by decide) (by decide) (by decide)).symm.trans w)
  exact ⟨σ0, μ0, ⟨fun j hj => (hC.1 j (by omega) (by omega) (by omega) (by omega)).trans (a1 j hj), fun j hj => (hC.2.2.1 j (by omega) (by omega)).trans (a2 j hj), fun j hj => (hC.2.2.2.1 j (by omega)).trans (a3 j hj)⟩, ⟨fun j hj => (hM.1 j (by omega) (by omega) (by omega)).trans (b1 j hj), fun j hj => (hM.2.2.1 j (by omega) (by omega) (by omega) (by omega)).trans (b2 j hj), fun j hj => (hM.2.2.2.1 j).trans (b3 j hj)⟩, c⟩
theorem NKs.kw {σ τ : S5} (h : NKs σ) (hC : KwC σ τ) : NKs τ := ⟨by rw [hC.2.1 0]; exact h.1, fun i => by rw [hC.2.2.2.1 0 (by decide)]; exact h.2 i⟩
theorem KwC.out {σ τ : S5} (h : KwC σ τ) (i : Int32) (v : Int64) : KwC σ (pB τ 30 i v) := ⟨h.1, h.2.1, h.2.2.1, fun j hj => (gB_pB_ne hj).trans (h.2.2.2.1 j hj), h.2.2.2.2⟩
theorem mC_eq2 {σ τ : S5} (hI : ∀ j, 24 < j → gI τ j = gI σ j) (hJ : ∀ j, gJ τ j = gJ σ j) (hA : ∀ j, 30 < j → gA τ j = gA σ j) (hB : ∀ j, 7 < j → gB τ j = gB σ j) (hN : ∀ k, ¬ k = 9 → gN τ k = gN σ k) : mC σ τ = τ := by
  have e1 : (mC σ τ).1 = τ.1 := funext (fun k => by
    by_cases h : k ≤ 24
    · exact mC_I h
    · exact (mC_I' (by omega)).trans (hI k (by omega)).symm)
  have e2 : (mC σ τ).2.1 = τ.2.1 := funext (fun k => by
    show cond (Nat.beq k 0) (τ.2.1 k) (σ.2.1 k) = τ.2.1 k
    have : σ.2.1 k = τ.2.1 k := (hJ k).symm
    rw [this]
    cases Nat.beq k 0 <;> rfl)
  have e3 : (mC σ τ).2.2.1 = τ.2.2.1 := funext (fun k => by
    by_cases h : k ≤ 30
    · exact mC_A h
    · exact (mC_A' (by omega)).trans (hA k (by omega)).symm)
  have e4 : (mC σ τ).2.2.2.1 = τ.2.2.2.1 := funext (fun k => by
    by_cases h : k ≤ 7
    · exact mC_B h
    · exact (mC_B' (by omega)).trans (hB k (by omega)).symm)
  have e5 : (mC σ τ).2.2.2.2 = τ.2.2.2.2 := funext (fun k => by
    by_cases h : k = 9
    · subst h; rfl
    · exact (mC_N h).trans (hN k h).symm)
  exact Prod.ext e1 (Prod.ext e2 (Prod.ext e3 (Prod.ext e4 e5)))
/-- the other copies what it wrote -/
theorem cp_l {n : Nat} (hn : n ≤ 12000) : ∀ (m i N : Nat) (ν : S5), i + m = n → m < N → gI ν 56 = nI n → ∃ ν', f_X12_write_L229 N (nI i) ν = some (nI n, pI ν' 2 (nI n)) ∧ (∀ j, gI ν' j = gI ν j) ∧ (∀ j, gJ ν' j = gJ ν j) ∧ (∀ j, ¬ j = 1 → gA ν' j = gA ν j) ∧ (∀ j, gB ν' j = gB ν j) ∧ ν'.2.2.2.2 = ν.2.2.2.2 ∧ (∀ x, x < i → gA ν' 1 x = gA ν 1 x) ∧ ∀ x, i ≤ x → x < n → gA ν' 1 x = gA ν 65 x := by
  intro m
  induction m with
  | zero =>
    intro i N ν hi hN h56
    obtain ⟨N, rfl⟩ : ∃ n, N = n + 1 := ⟨N - 1, by omega⟩
    refine ⟨ν, ?_, fun _ => rfl, fun _ => rfl, fun _ _ => rfl, fun _ => rfl, rfl, fun _ _ => rfl, fun x a b => by omega⟩
    show f_X12_write_B229 _ _ _ = _
    unfold f_X12_write_B229
    rw [h56, if_pos (by rw [show i = n by omega]; exact Int32.le_refl _)]
  | succ m ih =>
    intro i N ν hi hN h56
    obtain ⟨N, rfl⟩ : ∃ n, N = n + 1 := ⟨N - 1, by omega⟩
    obtain ⟨ν', a1, a2, a3, a4, a5, a6, a7, a8⟩ := ih (i + 1) N (pA ν 1 (nI i) (xA ν 65 (nI i))) (by omega) (by omega) h56
    have ex : xA ν 65 (nI i) = gA ν 65 i := by
      show gA ν 65 (nI i).toNatClampNeg = _
      rw [nI_clamp (by omega)]
    refine ⟨ν', ?_, a2, a3, fun j hj => (a4 j hj).trans (gA_pA_ne hj), a5, a6, fun x hx => ?_, fun x hx1 hx2 => ?_⟩
    · show f_X12_write_B229 _ _ _ = _
      unfold f_X12_write_B229
      rw [h56, if_neg (fun w => by have := (nI_le31 (by omega) (by omega)).mp w; omega), gdn (by omega) (by omega), gdn (by omega) (by omega), nI_add1]
      exact a1
    · rw [a7 x (by omega), gA_pA, nI_clamp (by omega), if_neg (by omega)]
    · by_cases hxi : x = i
      · rw [a7 x (by omega), gA_pA, nI_clamp (by omega), if_pos ⟨rfl, hxi⟩, ex, hxi]
      · rw [a8 x (by omega) hx2, gA_pA_ne (by decide)]
/-- THE CALL WRITE -/
theorem e_write {σ μ : S5} (h : RA σ μ) (hX : RXX σ μ) (hN : NKs σ) : ∃ (kx rm : Int32) (τ μ1 : S5), h_L_write σ = some (kx, τ) ∧ f_X12_write μ = some (rm, μ1) ∧ gI μ1 0 = kx ∧ (kx = 0 → gB τ 30 (0 : Int32).toNatClampNeg = rm.toInt64) ∧ RA τ μ1 ∧ RXX τ μ1 ∧ NKs τ ∧ KwC σ τ ∧ KwM μ μ1 := by
  have hb := FU_big (n := 20000) (by decide)
  obtain ⟨s1, s2, s3⟩ := h.2.2.2.1
  rcases s1 with s1 | s1
  · have s4 : gI μ 29 = 0 := s2 ▸ s1
    have hC : KwC σ σ := ⟨fun _ _ _ _ _ => rfl, fun _ => rfl, fun _ _ _ => rfl, fun _ _ => rfl, fun _ _ => rfl⟩
    have hM : KwM μ (pI μ 0 1) := ⟨fun j a _ _ => by rw [gI_pI, if_neg a], fun _ => rfl, fun _ _ _ _ _ => rfl, fun _ => rfl, rfl⟩
    refine ⟨1, 0, σ, pI μ 0 1, by simp [h_L_write, f_X11_write, bd, s1], by simp [f_X12_write, f_X12_write_b13, s4], rfl, fun w => absurd w (by decide), ra_kw h hC hM ?_, hX.kw hC hM, hN, hC, hM⟩
    exact h.2.1
  have s4 : gI μ 29 = 1 := s2 ▸ s1
  obtain ⟨σ0, μ0, hP, hQ, F, k, T, pa, nv, Tt, ⟨b1, b1', b1'', b1'''⟩, ⟨b2, b3⟩, ⟨b4, b5, b6, b7⟩, ⟨b8, b9⟩, b10, b11, b12, b13, b14⟩ := hX.2.2 s1
  have hWH : WH σ0 μ0 k := ⟨⟨b1'', b5⟩, b6, b7, b8, b10, fun i => by rw [← hP.2.2 0 (by decide)]; exact hN.2 i⟩
  obtain ⟨C, hC4, hC30⟩ : ∃ C, gI σ0 4 = nI C ∧ C ≤ 30 := by
    refine ⟨(gI σ0 4).toNatClampNeg, nI_tn ?_, i_le (n := 30) b10.2.2.1⟩
    have := b10.2.1
    clear b10 hWH
    grind
  have hC2 : 2 ≤ C := by
    have := b10.2.1
    rw [hC4] at this
    exact (nI_le31 (a := 2) (b := C) (by omega) (by omega)).mp this
  obtain ⟨Lc, c1, c2, c3⟩ := wk_l hWH hC4 hC30 hC2 (C - 2) 2 (by omega) (by omega)
  obtain ⟨Lz, z1, z2, z3⟩ := wz_l hWH b1 b2 b3 b14 F 0 (by omega)
  obtain ⟨σ1, e1⟩ : ∃ s, s = pI (pI σ 2 0) 3 0 := ⟨_, rfl⟩
  obtain ⟨σ2, e2⟩ : ∃ s, s = pN σ1 9 1 := ⟨_, rfl⟩
  obtain ⟨μ2, e3⟩ : ∃ s, s = pI (pI μ 0 0) 56 0 := ⟨_, rfl⟩
  have hI1 : ∀ j, ¬ j = 2 → ¬ j = 3 → gI σ1 j = gI σ j := fun j a b => by rw [e1, gI_pI, if_neg b, gI_pI, if_neg a]
  have hA1 : ∀ j, gA σ1 j = gA σ j := fun j => by rw [e1]; rfl
  have hB1 : ∀ j, gB σ1 j = gB σ j := fun j => by rw [e1]; rfl
  have hJ1 : ∀ j, gJ σ1 j = gJ σ j := fun j => by rw [e1]; rfl
  have hN1 : σ1.2.2.2.2 = σ.2.2.2.2 := by rw [e1]; rfl
  have hm1 : mC σ σ1 = σ1 := mC_eq (fun j a => hI1 j (by omega) (by omega)) hJ1 (fun j _ => hA1 j) (fun j _ => hB1 j) hN1
  have hCW : CW σ0 σ2 := by
    refine ⟨⟨fun j hj => ?_, fun j hj => ?_, fun j hj => ?_⟩, ?_⟩
    · rw [e2, show gI (pN σ1 9 1) j = gI σ1 j from rfl, hI1 j (by omega) (by omega)]; exact hP.1 j hj
    · rw [e2, show gA (pN σ1 9 1) j = gA σ1 j from rfl, hA1]; exact hP.2.1 j hj
    · rw [e2, show gB (pN σ1 9 1) j = gB σ1 j from rfl, hB1]; exact hP.2.2 j hj
    · rw [e2]; rfl
  have hQ2 : eqQ μ0 μ2 := ⟨fun j hj => by rw [e3, gI_pI, if_neg (by omega), gI_pI, if_neg (by omega)]; exact hQ.1 j hj, fun j hj => by rw [e3]; exact hQ.2.1 j hj, fun j hj => by rw [e3]; exact hQ.2.2 j hj⟩
  have hWR : WR σ2 μ2 := Or.inl ⟨by rw [e2, e1]; rfl, 0, by omega, by rw [e2, e1]; rfl, by rw [e3]; rfl, fun i hi => absurd hi (Nat.not_lt_zero i)⟩
  obtain ⟨τ, ν, l1, l2, l3, l4, l5, -, -⟩ := wr_L (Lc ++ Lz) hWR (c1.ap z1)
  obtain ⟨ρ, p1, p2⟩ := LWc.ap l1
  obtain ⟨ρ', q1, q2⟩ := LWm.ap l2
  have hcl : f_X7_writeProgram (f_writeE 64) σ1 = some ((), τ) := by
    unfold f_X7_writeProgram f_X7_writeConstructors
    rw [← e2, show (2 : Int32) = nI 2 from rfl, c2 FU (by omega) _ _ hCW p1, bd_of, show (0 : Int32) = nI 0 from rfl]
    exact z2 FU (by omega) _ _ (hCW.fr p1.fr) p2
  have hre : ∃ x' y', f_X12_write μ = finW (wQp ν x' y') := by
    obtain ⟨x', y', w⟩ := z3 FU (by omega) ρ' ν (gA ρ' 28) (gA ρ' 29) (hQ2.fr q1.fr.1) q2
    refine ⟨x', y', ?_⟩
    rw [wQp_id] at w
    unfold f_X12_write f_X12_write_b13
    rw [s4, if_neg (by decide), if_pos (by decide), ← e3, show (2 : Int32) = nI 2 from rfl, c3 FU (by omega) _ _ hQ2 q1]
    unfold f_X12_write_b128
    exact w
  obtain ⟨x', y', hre⟩ := hre
  have tI : ∀ j, ¬ j = 2 → ¬ j = 3 → gI τ j = gI σ j := fun j a b => by rw [l4.1 j a b, e2, show gI (pN σ1 9 1) j = gI σ1 j from rfl, hI1 j a b]
  have tA : ∀ j, ¬ j = 1 → gA τ j = gA σ j := fun j a => by rw [l4.2.2.1 j a, e2, show gA (pN σ1 9 1) j = gA σ1 j from rfl, hA1]
  have tB : ∀ j, gB τ j = gB σ j := fun j => by rw [l4.2.2.2.1 j, e2, show gB (pN σ1 9 1) j = gB σ1 j from rfl, hB1]
  have tJ : ∀ j, gJ τ j = gJ σ j := fun j => by rw [l4.2.1 j, e2, show gJ (pN σ1 9 1) j = gJ σ1 j from rfl, hJ1]
  have tN : ∀ k, ¬ k = 9 → gN τ k = gN σ k := fun k hk => by
    have : gN τ k = gN σ2 k := congrFun l4.2.2.2.2 k
    rw [this, e2]
    show cond (Nat.beq k 9) 1 (σ1.2.2.2.2 k) = σ.2.2.2.2 k
    rw [beq_ne hk, hN1]
    rfl
  have hm2 : mC σ1 τ = τ := mC_eq2 (fun j a => by rw [tI j (by omega) (by omega), hI1 j (by omega) (by omega)]) (fun j => by rw [tJ, hJ1]) (fun j a => by rw [tA j (by omega), hA1]) (fun j _ => by rw [tB, hB1]) (fun k hk => by rw [tN k hk]; exact (congrFun hN1 k).symm)
  have vI : ∀ j, ¬ j = 0 → ¬ j = 56 → gI ν j = gI μ j := fun j a b => by rw [l5.1 j b, e3, gI_pI, if_neg b, gI_pI, if_neg a]
  have vA : ∀ j, ¬ j = 65 → ¬ j = 28 → ¬ j = 29 → gA ν j = gA μ j := fun j a b c => by rw [l5.2.2.1 j a b c, e3]; rfl
  have vB : ∀ j, gB ν j = gB μ j := fun j => by rw [l5.2.2.2.1 j, e3]; rfl
  have vJ : ∀ j, gJ ν j = gJ μ j := fun j => by rw [l5.2.1 j, e3]; rfl
  have vN : ν.2.2.2.2 = μ.2.2.2.2 := by rw [l5.2.2.2.2, e3]; rfl
  have v0 : gI ν 0 = 0 := by rw [l5.1 0 (by decide), e3]; rfl
  have h60 : ¬ gI σ 60 = 0 := by rw [s1]; decide
  have hcd : f_X8_clear_draft σ = some ((), σ1) := by rw [e1]; rfl
  rcases l3 with ⟨r1, n, hn, r2, r3, r4⟩ | ⟨r1, r2, r3⟩
  · obtain ⟨ν', w1, w2, w3, w4, w5, w6, -, w8⟩ := cp_l hn n 0 FU (wQp ν x' y') (by omega) (by omega) r3
    have hre2 : f_X12_write μ = some (nI n, pI ν' 2 (nI n)) := by
      rw [hre]
      unfold finW
      rw [show gI (wQp ν x' y') 56 = gI ν 56 from rfl, r3, if_pos (show nI n ≤ 12000 from (nI_le31 (b := 12000) (by omega) (by omega)).mpr hn), show (0 : Int32) = nI 0 from rfl]
      exact w1
    have hcl2 : h_L_write σ = some (0, pB (swS τ) 30 0 (gI (swS τ) 66).toInt64) := by
      unfold h_L_write f_X11_write
      rw [if_neg h60, hcd, bd_of, hm1, hcl, bd_of, hm2, if_pos r1, bd_of, if_pos rfl]
    have e66 : gI (swS τ) 66 = nI n := r2
    have hsI : ∀ j, ¬ j = 2 → ¬ j = 3 → ¬ j = 66 → ¬ j = 67 → gI (swS τ) j = gI τ j := fun j a b c d => by
      show cond (Nat.beq j 2) _ (cond (Nat.beq j 66) _ (cond (Nat.beq j 3) _ (cond (Nat.beq j 67) _ (τ.1 j)))) = _
      rw [beq_ne a, beq_ne b, beq_ne c, beq_ne d]
      rfl
    have hsA : ∀ j, ¬ j = 1 → ¬ j = 50 → gA (swS τ) j = gA τ j := fun j a b => by
      show cond (Nat.beq j 1) _ (cond (Nat.beq j 50) _ (τ.2.2.1 j)) = _
      rw [beq_ne a, beq_ne b]
      rfl
    have hsN : ∀ k, ¬ k = 9 → gN (swS τ) k = gN τ k := fun k hk => by
      show cond (Nat.beq k 9) _ (τ.2.2.2.2 k) = _
      rw [beq_ne hk]
      rfl
    have hKC0 : KwC σ (swS τ) := ⟨fun j a b c d => (hsI j a b c d).trans (tI j a b), tJ, fun j a b => (hsA j a b).trans (tA j a), fun j _ => tB j, fun k hk => (hsN k hk).trans (tN k hk)⟩
    have hKC := hKC0.out 0 (gI (swS τ) 66).toInt64
    have hKM : KwM μ (pI ν' 2 (nI n)) := ⟨fun j a b c => by rw [gI_pI, if_neg b, w2 j]; exact vI j a c, fun j => (w3 j).trans (vJ j), fun j a b c d => by
      rw [show gA (pI ν' 2 (nI n)) j = gA ν' j from rfl, w4 j a, wQp_A b c]
      exact vA j d b c, fun j => (w5 j).trans (vB j), w6.trans vN⟩
    refine ⟨0, nI n, _, _, hcl2, hre2, ?_, fun _ => ?_, ra_kw h hKC hKM ?_, hX.kw hKC hKM, hN.kw hKC, hKC, hKM⟩
    · rw [gI_pI, if_neg (by decide), w2 0]
      exact v0
    · rw [out_at, e66]
    · show RO (swS τ) (pI ν' 2 (nI n))
      refine ⟨by rw [e66]; rfl, by rw [e66]; exact i_le0 (nI_nneg (by omega)), by rw [e66]; exact (nI_le31 (b := 12000) (by omega) (by omega)).mpr hn, fun i hi => ?_⟩
      rw [e66, nI_clamp (by omega)] at hi
      obtain ⟨g1, g2⟩ := r4 i hi
      have e50 : gA (swS τ) 50 i = gA τ 1 i := rfl
      have e1' : gA (pI ν' 2 (nI n)) 1 i = gA ν 65 i := by
        rw [show gA (pI ν' 2 (nI n)) 1 i = gA ν' 1 i from rfl, w8 i (by omega) hi, wQp_A (by decide) (by decide)]
      rw [e50, e1']
      exact ⟨g1, g2⟩
  · have hre2 : f_X12_write μ = some (-1, wQp ν x' y') := by
      rw [hre]
      unfold finW
      rw [show gI (wQp ν x' y') 56 = gI ν 56 from rfl, r3, if_neg (by decide)]
    have hcl2 : h_L_write σ = some (0, pB τ 30 0 (-1 : Int32).toInt64) := by
      unfold h_L_write f_X11_write
      rw [if_neg h60, hcd, bd_of, hm1, hcl, bd_of, hm2, if_neg (by rw [r1]; decide), bd_of, if_pos rfl]
    have hKC0 : KwC σ τ := ⟨fun j a b _ _ => tI j a b, tJ, fun j a _ => tA j a, fun j _ => tB j, tN⟩
    have hKC := hKC0.out 0 (-1 : Int32).toInt64
    have hKM : KwM μ (wQp ν x' y') := ⟨fun j a _ c => vI j a c, vJ, fun j a b c d => (wQp_A b c).trans (vA j d b c), vB, vN⟩
    refine ⟨0, -1, _, _, hcl2, hre2, v0, fun _ => out_at _ _, ra_kw h hKC hKM ?_, hX.kw hKC hKM, hN.kw hKC, hKC, hKM⟩
    obtain ⟨o1, o2, o3, o4⟩ := h.2.1
    have z66 : gI (pB τ 30 0 (-1 : Int32).toInt64) 66 = gI σ 66 := tI 66 (by decide) (by decide)
    have zA : gA (pB τ 30 0 (-1 : Int32).toInt64) 50 = gA σ 50 := tA 50 (by decide)
    have z2' : gI (wQp ν x' y') 2 = gI μ 2 := vI 2 (by decide) (by decide)
    have z1' : gA (wQp ν x' y') 1 = gA μ 1 := (wQp_A (by decide) (by decide)).trans (vA 1 (by decide) (by decide) (by decide))
    exact ⟨by rw [z66, z2']; exact o1, by rw [z66]; exact o2, by rw [z66]; exact o3, by rw [z66, zA, z1']; exact o4⟩
