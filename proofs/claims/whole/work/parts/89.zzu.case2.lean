theorem c_ref4 {σ μ : S5} (h : Sim σ μ) {k : Int32} (hk : ¬ k = 0) : ∃ τ, f_X5_refuse k σ = some ((), τ) ∧ St k (gI σ 18) (gI σ 13) τ ∧ gI τ 4 = gI σ 4 := by
  have hr := h.rg
  unfold f_X5_refuse f_X10_stop
  rw [if_pos h.2.2.1]
  exact ⟨_, rfl, ⟨rfl, hk, rfl, rfl, rfl, hr⟩, rfl⟩
/-- a branch of the reference, when its fellows have been counted -/
def brT (v1 v2 : Int32) (σ : S5) : Option (Unit × S5) := if gI σ 4 = 4 then f_X12_branch_b59 v1 v2 σ else if gI σ 4 = 2 then f_X12_branch_b59 v1 v2 σ else bd (f_X12_isSign 95 σ) (fun r53 τ53 => if r53 = 0 then f_X12_branch_b64 v1 v2 0 τ53 else f_X12_branch_b59 v1 v2 τ53)
theorem br_loop {μ : S5} {l : Int32} {k : Nat} {g : Nat → Int32} (hrow : ∀ i, i < k → 0 ≤ g i ∧ g i < 3200 ∧ xA μ 5 (g i) = (if i + 1 < k then g (i + 1) else -1)) : ∀ (d i m : Nat), i + d = k → d < m → f_X12_branch_L17 m l (nI i) (if i < k then g i else -1) μ = brT l (nI k) μ := by
  intro d
  induction d with
  | zero =>
    intro i m hi hm
    obtain ⟨m, rfl⟩ : ∃ x, m = x + 1 := ⟨m - 1, by omega⟩
    rw [if_neg (by omega)]
    show f_X12_branch_B17 _ _ _ _ _ = _
    unfold f_X12_branch_B17 brT
    rw [if_pos (by decide), show i = k by omega]
  | succ d ih =>
    intro i m hi hm
    obtain ⟨m, rfl⟩ : ∃ x, m = x + 1 := ⟨m - 1, by omega⟩
    obtain ⟨r1, r2, r3⟩ := hrow i (by omega)
    rw [if_pos (by omega)]
    show f_X12_branch_B17 _ _ _ _ _ = _
    unfold f_X12_branch_B17
    have hx := ih (i + 1) m (by omega) (by omega)
    rw [← r3, ← nI_add1] at hx
    rw [if_neg (by grind), gd3200 r1 r2, hx]
theorem m_130F {μ : S5} {l c : Int32} (h7 : 0 < gI μ 7) : f_X12_branch_b130 l c μ = some ((), μ) := by
  unfold f_X12_branch_b130
  rw [if_neg (by grind)]
theorem m_b85 {μ : S5} {l r : Int32} {k : Nat} (h7 : gI μ 7 = 0) (hr : 0 ≤ r) (hk : k ≤ 8) : f_X12_branch_b85 l (nI k) 1 r μ = if k = 8 then some ((), pI (pI μ 7 4) 8 (gI μ 5)) else f_X12_branch_b130 l r μ := by
  unfold f_X12_branch_b85
  rw [if_neg (by decide), if_pos hr]
  by_cases c : k = 8
  · rw [if_pos c, if_pos (by rw [c]; rfl), m_fail0 _ _ h7, bd_of, m_130F (by exact (by decide : (0 : Int32) < 4))]
  · rw [if_neg c, if_neg]
    intro w
    have h1 := (nI_lt31 (a := k) (b := 8) (by omega) (by omega)).mpr (by omega)
    rw [w] at h1
    exact absurd h1 (by decide)
theorem nI8 {k : Nat} (hk : k ≤ 8) : nI k < 8 ↔ ¬ k = 8 := by
  rw [show (8 : Int32) = nI 8 from rfl, nI_lt31 (by omega) (by omega)]
  omega
/-- the first word of an alternative is judged alike -/
theorem al_head {σ0 μ0 σ μ : S5} {c0 s1 u1 a1 : Int32} {k : Nat} {g cc fs fu fn ft : Nat → Int32} (E : S5 → Option (Int32 × S5)) (hs0 : Sim σ0 μ0) (h : CI σ0 μ0 σ μ c0 s1 u1 a1 k g cc fs fu fn ft) : (∃ (f ck con : Int32) (τ : S5), f_X5_readAlternative E (nI k) σ = f_X5_readAlternative_b85 E ck con τ ∧ St f (gI σ 18) (gI σ 13) τ ∧ (con = -1 ∨ (0 ≤ con ∧ con < gI τ 4)) ∧ f_X12_branch (gI μ0 9) μ = some ((), pI (pI μ 7 f) 8 (gI μ 5))) ∨ (∃ ck con cr : Int32, k ≤ 7 ∧ f_X5_readAlternative E (nI k) σ = f_X5_readAlternative_b85 E ck con σ ∧ f_X12_branch (gI μ0 9) μ = f_X12_branch_b130 (gI μ0 9) cr μ ∧ gI σ 17 = ck ∧ ((ck = 4 ∧ cr = con ∧ 0 ≤ con ∧ con < gI σ 4) ∨ (ck = 5 ∧ con = -1 ∧ cr = 0) ∨ (ck = 95 ∧ con = -1 ∧ cr = 0))) := by
  have hb0 := hs0.2.2
  unfold Bg at hb0
  obtain ⟨l1, lF, lx, ⟨r1, r2, r3, r4, r5, r6, r7, r8⟩, lp, ⟨z2, z5, z10, z3, z4⟩, lT, hk8, hRG, hG, hG2⟩ := h
  have hb := l1.2.2
  unfold Bg at hb
  have hl00 : 0 ≤ gI μ0 9 ∧ gI μ0 9 < 3200 := by grind
  have w3 := l1.1.2.2.1
  have w4 := l1.1.2.2.2.1
  have hrow : ∀ i, i < k → 0 ≤ g i ∧ g i < 3200 ∧ xA μ 5 (g i) = (if i + 1 < k then g (i + 1) else -1) := by
    intro i hi
    obtain ⟨d1, hbi, d2, d3, d4, d5, d6, d7, d8, d9, d10, d11, d12, d13⟩ := hRG.2.2.2.2.2.2.2.2 i hi
    unfold Bi at hbi
    exact ⟨by grind, by grind, d12⟩
  have hbr : f_X12_branch (gI μ0 9) μ = brT (gI μ0 9) (nI k) μ := by
    unfold f_X12_branch
    rw [if_pos (by rw [hb.2.1]; decide), gd3200 hl00.1 hl00.2, z3]
    exact br_loop hrow k 0 FU (by omega) (FU_big (by omega))
  rw [hbr]
  by_cases c4 : gI σ 17 = 4
  · have hm4 : gI μ 4 = 4 := by rw [w3, c4]; decide
    have hz : gJ σ 0 = gJ μ 0 := l1.1.2.2.2.2.2.2.2.2.2.1 (Or.inr c4)
    obtain ⟨r, f1, f2, f3⟩ := con_of l1.2.1 (gJ σ 0)
    have hcl : f_X5_readAlternative E (nI k) σ = f_X5_readAlternative_b56 E (nI k) 4 r σ := by
      unfold f_X5_readAlternative f_X5_readAlternative_b31
      rw [c4, if_pos rfl, f1, bd_of, if_pos rfl]
    have hrf : brT (gI μ0 9) (nI k) μ = f_X12_branch_b85 (gI μ0 9) (nI k) 1 r μ := by
      unfold brT f_X12_branch_b59 f_X12_branch_b64
      rw [if_pos hm4, if_pos hm4, ← hz, f2, bd_of]
    rw [hcl, hrf]
    unfold f_X5_readAlternative_b56 f_X5_readAlternative_b74
    rw [if_pos rfl]
    rcases f3 with f3 | f3
    · left
      obtain ⟨τ, g1, g2⟩ := c_ref l1 (k := 3) (by decide)
      refine ⟨3, 4, r, τ, by rw [if_pos f3, g1, bd_of], g2, Or.inl f3, ?_⟩
      unfold f_X12_branch_b85
      rw [if_neg (by decide), if_neg (by rw [f3]; decide), m_fail0 _ _ hb.2.1, bd_of, m_130F (by exact (by decide : (0 : Int32) < 3))]
    · have hne : ¬ r = -1 := by grind
      rw [if_neg hne, m_b85 hb.2.1 f3.1 hk8]
      by_cases ck : k = 8
      · left
        obtain ⟨τ, g1, g2, g3⟩ := c_ref4 l1 (k := 4) (by decide)
        exact ⟨4, 4, r, τ, by rw [if_neg (fun w => (nI8 hk8).mp w ck), g1, bd_of], g2, Or.inr ⟨f3.1, by rw [g3]; exact f3.2⟩, by rw [if_pos ck]⟩
      · right
        exact ⟨4, r, r, by omega, by rw [if_pos ((nI8 hk8).mpr ck)], by rw [if_neg ck], c4, Or.inl ⟨rfl, rfl, f3.1, f3.2⟩⟩
  · have hm4 : ¬ gI μ 4 = 4 := by rw [w3]; intro q; exact c4 ((kMd_at 4 (by decide +kernel) w4).mp (by rw [q]; decide))
    by_cases c5 : gI σ 17 = 5 ∨ gI σ 17 = 95
    · have hcl : f_X5_readAlternative E (nI k) σ = f_X5_readAlternative_b74 E (nI k) (gI σ 17) (-1) σ := by
        unfold f_X5_readAlternative f_X5_readAlternative_b31 f_X5_readAlternative_b56
        rw [if_neg c4, if_neg c4, if_neg c4]
        by_cases c5' : gI σ 17 = 5
        · rw [if_pos c5']
        · rw [if_neg c5', if_pos (by rcases c5 with c5 | c5; exact absurd c5 c5'; exact c5)]
      have hrf : brT (gI μ0 9) (nI k) μ = f_X12_branch_b85 (gI μ0 9) (nI k) 1 0 μ := by
        unfold brT f_X12_branch_b59 f_X12_branch_b64
        rw [if_neg hm4, if_neg hm4]
        by_cases c5' : gI σ 17 = 5
        · rw [if_pos (by rw [w3, c5']; decide)]
        · have c95 : gI σ 17 = 95 := by rcases c5 with c5 | c5; exact absurd c5 c5'; exact c5
          rw [if_neg (by rw [w3, c95]; decide), m_isS, bd_of, if_pos (show gI μ 4 = 100 + 95 by rw [w3, c95]; decide), if_neg (by decide), if_neg hm4]
      rw [hcl, hrf, m_b85 hb.2.1 (by decide) hk8]
      unfold f_X5_readAlternative_b74
      by_cases ck : k = 8
      · left
        obtain ⟨τ, g1, g2⟩ := c_ref l1 (k := 4) (by decide)
        exact ⟨4, gI σ 17, -1, τ, by rw [if_neg (fun w => (nI8 hk8).mp w ck), g1, bd_of], g2, Or.inl rfl, by rw [if_pos ck]⟩
      · right
        refine ⟨gI σ 17, -1, 0, by omega, by rw [if_pos ((nI8 hk8).mpr ck)], by rw [if_neg ck], rfl, ?_⟩
        rcases c5 with c5 | c5
        · exact Or.inr (Or.inl ⟨c5, rfl, rfl⟩)
        · exact Or.inr (Or.inr ⟨c5, rfl, rfl⟩)
    · have c5a : ¬ gI σ 17 = 5 := fun q => c5 (Or.inl q)
      have c5b : ¬ gI σ 17 = 95 := fun q => c5 (Or.inr q)
      left
      obtain ⟨τ, g1, g2⟩ := c_ref l1 (k := 1) (by decide)
      refine ⟨1, gI σ 17, -1, τ, ?_, g2, Or.inl rfl, ?_⟩
      · unfold f_X5_readAlternative f_X5_readAlternative_b31
        rw [if_neg c4, if_neg c4, if_neg c5a, if_neg c5b, g1, bd_of]
      · have hm2 : ¬ gI μ 4 = 2 := by rw [w3]; intro q; exact c5a ((kMd_at 5 (by decide +kernel) w4).mp (by rw [q]; decide))
        have hm95 : ¬ gI μ 4 = 100 + 95 := by rw [w3]; intro q; exact c5b ((kMd_at 95 (by decide +kernel) w4).mp (by rw [q]; decide))
        unfold brT f_X12_branch_b64 f_X12_branch_b85
        rw [if_neg hm4, if_neg hm2, m_isS, bd_of, if_neg hm95, if_pos rfl, if_neg hm4, if_pos rfl, m_wrong0 hb.2.1, bd_of, m_130F (by exact (by decide : (0 : Int32) < 1))]
