/-- what is left of an application, when the class has stopped -/
theorem st_appL {f p n : Int32} {σ : S5} (E : S5 → Option (Int32 × S5)) (B : Int32 → Prop) {m : Nat} {v1 v2 v3 : Int32} (h : St f p n σ) (h0 : 0 ≤ v1) (h1 : v1 < 6200) : Qt (f_X5_readApplication_L67 E (m + 1) v1 v2 v3 σ) (fun r τ => Dm B f p n τ ∧ 0 ≤ r ∧ r < 6200) := by
  show Qt (f_X5_readApplication_B67 E _ v1 v2 v3 σ) _
  unfold f_X5_readApplication_B67 f_X5_readApplication_b139
  rw [c_isAtom, bd_of, h.1]
  simp only [show ¬ ((0 : Int32) = 3 ∨ (0 : Int32) = 4 ∨ (0 : Int32) = 5 ∨ (0 : Int32) = 11 ∨ (0 : Int32) = 40) by decide, if_false, if_true, ite_self, bd_eta']
  split
  · exact Qt.so ⟨Or.inl h, h0, h1⟩
  · exact dm_add9 _ _ _ _ (Or.inl h)
theorem st_app113 {f p n : Int32} {σ : S5} (E : S5 → Option (Int32 × S5)) (B : Int32 → Prop) {m : Nat} {v1 v2 v3 : Int32} (h : St f p n σ) (h0 : 0 ≤ v1) (h1 : v1 < 6200) (h2 : 0 ≤ v2) (h3 : v2 < 6200) : Qt (f_X5_readApplication_b113 E (f_X5_readApplication_L67 E (m + 1)) v1 v2 v3 σ) (fun r τ => Dm B f p n τ ∧ 0 ≤ r ∧ r < 6200) := by
  unfold f_X5_readApplication_b113
  rw [st_atom E h, bd_of, gd6200 h2 h3]
  exact st_appL E B (St17 _ _ h) h0 h1
/-- the end of an atom in an application -/
theorem m_ae8 {μ : S5} (h0 : 0 ≤ gI μ 16 - 1) (h1 : gI μ 16 - 1 < 3200) (h8 : xA μ 14 (gI μ 16 - 1) = 8) : f_X12_atomEnds μ = (if xA μ 15 (gI μ 16 - 1) < 0 then f_X12_atomEnds_b139 (gI μ 16 - 1) (xA μ 15 (gI μ 16 - 1)) (xA μ 17 (gI μ 16 - 1) + 1) (pA μ 17 (gI μ 16 - 1) (xA μ 17 (gI μ 16 - 1) + 1)) else bd (f_X12_taken (pA μ 17 (gI μ 16 - 1) (xA μ 17 (gI μ 16 - 1) + 1))) (fun r τ => bd (f_X12_append (xA μ 15 (gI μ 16 - 1)) r τ) (fun _ ρ => f_X12_atomEnds_b139 (gI μ 16 - 1) (xA μ 15 (gI μ 16 - 1)) (xA μ 17 (gI μ 16 - 1) + 1) ρ))) := by
  unfold f_X12_atomEnds
  simp only [gd3200 h0 h1]
  rw [if_neg (by rw [h8]; decide)]
  have e : xA (pA μ 17 (gI μ 16 - 1) (xA μ 17 (gI μ 16 - 1) + 1)) 17 (gI μ 16 - 1) = xA μ 17 (gI μ 16 - 1) + 1 := by rw [xA_pA, if_pos ⟨rfl, rfl⟩]
  rw [e]
/-- it was the last atom -/
theorem m_aeX {μ : S5} {k v h : Int32} (ha : ¬ (gI μ 4 = 3 ∨ gI μ 4 = 4 ∨ gI μ 4 = 2 ∨ gI μ 4 = 15 ∨ gI μ 4 = 140)) (h0 : 0 ≤ gI μ 17) (h1 : gI μ 17 < 3200) : f_X12_atomEnds_b139 k v h μ = some ((), if v < 0 then pI (pI μ 16 (gI μ 16 - 1)) 20 1 else pI (mO (pI μ 16 (gI μ 16 - 1)) v) 20 1) := by
  unfold f_X12_atomEnds_b139 f_X12_atomEnds_b165
  rw [m_isAtom, bd_of, if_neg ha, if_pos rfl]
  by_cases c : v < 0
  · rw [if_pos c, if_pos c]
  · rw [if_neg c, if_neg c, m_oper (μ := pI μ 16 (gI μ 16 - 1)) v h0 h1, bd_of]
    rfl
/-- the next atom may not stand here -/
theorem m_aeB {σ μ : S5} (hs : Sim σ μ) (ha : atK (gI σ 17)) {r : Int32} (hk : ¬ stdK σ r) (hr : gI σ 17 = 4 → f_X12_findConstructor (gJ μ 0) μ = some (r, μ) ∧ (r = -1 ∨ (0 ≤ r ∧ r < gI σ 4))) (k v h : Int32) : ∃ τ : S5, f_X12_atomEnds_b139 k v h μ = some ((), τ) ∧ gI τ 7 = badK σ r ∧ gI τ 8 = gI σ 18 ∧ gI τ 11 = gI σ 13 ∧ gI τ 12 = gI μ 12 ∧ EqR μ τ := by
  obtain ⟨hw, hc, hb⟩ := hs
  unfold Bg at hb
  obtain ⟨b1, b2, b3, b4, b5, b6, b7, b8, b9⟩ := hb
  obtain ⟨w1, w2, w3, w4, w5, w6⟩ := id hw
  have hat := (kMd_atom w4).mpr ha
  rw [← w3] at hat
  have hfin : ∀ f : Int32, ¬ f = 0 → f_X12_atomEnds_b259 k v (pI (pI μ 7 f) 8 (gI μ 5)) = some ((), pI (pI (pI (pI μ 7 f) 8 (gI μ 5)) 19 0) 18 1) := by
    intro f hf
    unfold f_X12_atomEnds_b259 f_X12_atomEnds_b303 f_X12_atomEnds_b322 f_X12_atomEnds_b323
    rw [if_neg (show ¬ gI (pI (pI μ 7 f) 8 (gI μ 5)) 7 = 0 from hf), if_neg (show ¬ gI (pI (pI μ 7 f) 8 (gI μ 5)) 7 = 0 from hf)]
    rfl
  have hres : ∀ f : Int32, f = badK σ r → ∃ τ : S5, (some ((), pI (pI (pI (pI μ 7 f) 8 (gI μ 5)) 19 0) 18 1) : Option (Unit × S5)) = some ((), τ) ∧ gI τ 7 = badK σ r ∧ gI τ 8 = gI σ 18 ∧ gI τ 11 = gI σ 13 ∧ gI τ 12 = gI μ 12 ∧ EqR μ τ := fun f hf => ⟨_, rfl, hf, w5.symm, b3.symm, rfl, ((((EqR.rf μ).I (by decide)).I (by decide)).I (by decide)).I (by decide)⟩
  unfold f_X12_atomEnds_b139 f_X12_atomEnds_b191 f_X12_tooDeep
  rw [m_isAtom, bd_of, if_pos hat, if_neg (by decide), m_isS, bd_of]
  by_cases h40 : gI σ 17 = 40
  · have hw4 : gI μ 4 = 100 + 40 := by rw [w3, h40]; decide
    have hm4 : ¬ gI μ 4 = 4 := by rw [hw4]; decide
    have ho : gI μ 15 = 30 := by
      rw [← b6]
      apply Classical.byContradiction
      intro hc2
      exact hk ⟨by unfold atK; grind, fun q => by rw [h40] at q; exact absurd q (by decide), fun _ => by grind⟩
    unfold f_X12_atomEnds_b227
    rw [if_neg hm4, if_pos hw4, if_neg (by decide), if_pos ho, bd_eta, m_wrong0 b2, bd_of, if_neg (show ¬ gI (pI (pI μ 7 1) 8 (gI μ 5)) 4 = 4 from hm4), if_pos (by decide), m_failF (μ := pI (pI μ 7 1) 8 (gI μ 5)) _ _ (by exact (by decide : ¬ (1 : Int32) = 0)), bd_of, ite_self, hfin 1 (by decide)]
    refine hres 1 ?_
    unfold badK
    rw [if_neg (fun q => by rw [h40] at q; exact absurd q.1 (by decide))]
  · have hw4 : ¬ gI μ 4 = 100 + 40 := by rw [w3]; intro q; exact h40 ((kMd_at 40 (by decide +kernel) w4).mp (by rw [q]; decide))
    have c4 : gI σ 17 = 4 := by
      apply Classical.byContradiction
      intro c4
      exact hk ⟨ha, fun q => absurd q c4, fun q => absurd q h40⟩
    have hm4 : gI μ 4 = 4 := by rw [w3, c4]; decide
    obtain ⟨e1, e2⟩ := hr c4
    rw [if_pos hm4, e1, bd_of, m_isS, bd_of, if_neg hw4, if_pos rfl, bd_of, if_pos hm4]
    by_cases cr : r = -1
    · unfold f_X12_atomEnds_b227
      rw [if_pos (by rw [cr]; decide), if_neg (by rw [cr]; decide), m_fail0 _ _ b2, bd_of, hfin 3 (by decide)]
      refine hres 3 ?_
      unfold badK
      rw [if_pos ⟨c4, cr⟩]
    · have hr2 : 0 ≤ r ∧ r < gI σ 4 := by rcases e2 with e2 | e2; exact absurd e2 cr; exact e2
      have hf := hc.2.2.2 r hr2.1 hr2.2
      have hf2 : ¬ xA μ 13 r ≤ 0 := by
        rw [← hf.2.1]
        intro hc2
        exact hk ⟨ha, fun _ => ⟨hr2.1, hr2.2, by grind⟩, fun q => absurd q h40⟩
      rw [if_neg (by grind), gd30 hr2.1 (by have := hc.2.2.1; grind), if_neg hf2, m_wrong0 b2, bd_of, hfin 1 (by decide)]
      refine hres 1 ?_
      unfold badK
      rw [if_neg (fun q => cr q.2)]
/-- the next atom may stand here -/
theorem m_aeK {σ μ : S5} (hs : Sim σ μ) {r : Int32} (hk : stdK σ r) (hr : gI σ 17 = 4 → f_X12_findConstructor (gJ μ 0) μ = some (r, μ)) (k v h : Int32) : f_X12_atomEnds_b139 k v h μ = (if h = 6 then f_X12_atomEnds_b259 k v (pI (pI μ 7 4) 8 (gI μ 5)) else f_X12_atomEnds_b259 k v μ) := by
  obtain ⟨hw, hc, hb⟩ := hs
  unfold Bg at hb
  obtain ⟨b1, b2, b3, b4, b5, b6, b7, b8, b9⟩ := hb
  obtain ⟨w1, w2, w3, w4, w5, w6⟩ := id hw
  obtain ⟨k1, k2, k3⟩ := hk
  have hat := (kMd_atom w4).mpr k1
  rw [← w3] at hat
  have htd : f_X12_tooDeep μ = some ((), μ) := by
    unfold f_X12_tooDeep
    rw [m_isS, bd_of]
    by_cases h40 : gI σ 17 = 40
    · have hw4 : gI μ 4 = 100 + 40 := by rw [w3, h40]; decide
      have := k3 h40
      rw [if_pos hw4, if_neg (by decide), if_neg (by rw [← b6]; grind)]
    · have hw4 : ¬ gI μ 4 = 100 + 40 := by rw [w3]; intro q; exact h40 ((kMd_at 40 (by decide +kernel) w4).mp (by rw [q]; decide))
      rw [if_neg hw4, if_pos rfl]
  unfold f_X12_atomEnds_b139 f_X12_atomEnds_b191 f_X12_atomEnds_b227
  rw [m_isAtom, bd_of, if_pos hat, if_neg (by decide)]
  by_cases c4 : gI σ 17 = 4
  · have hm4 : gI μ 4 = 4 := by rw [w3, c4]; decide
    obtain ⟨f1, f2, f3⟩ := k2 c4
    have hf := hc.2.2.2 r f1 f2
    rw [if_pos hm4, hr c4, bd_of, htd, bd_of, if_pos hm4, if_neg (by grind), gd30 f1 (by have := hc.2.2.1; grind), if_pos (by rw [← hf.2.1, f3]; decide), if_pos f1, m_fail0 _ _ b2, bd_of]
  · have hm4 : ¬ gI μ 4 = 4 := by rw [w3]; intro q; exact c4 ((kMd_at 4 (by decide +kernel) w4).mp (by rw [q]; decide))
    rw [if_neg hm4, htd, bd_of, if_neg hm4, if_pos (by decide), m_fail0 _ _ b2, bd_of]
