/-- the reference judges a word -/
theorem m_judge0 {σ μ : S5} (hw : Wd σ μ) (hc : Ct σ μ) (b6 : gI σ 14 = gI μ 15) {r : Int32} (hk : stdK σ r) (hr : gI σ 17 = 4 → f_X12_findConstructor (gJ μ 0) μ = some (r, μ)) : f_X12_judgeAtom μ = some ((), μ) := by
  obtain ⟨w1, w2, w3, w4, w5, w6⟩ := id hw
  obtain ⟨k1, k2, k3⟩ := hk
  have hat := (kMd_atom w4).mpr k1
  rw [← w3] at hat
  have htd : f_X12_tooDeep μ = some ((), μ) := by
    unfold f_X12_tooDeep
    rw [m_isS, bd_of]
    by_cases h40 : gI σ 17 = 40
    · have hw4 : gI μ 4 = 100 + 40 := by rw [w3, h40]; decide
      have := k3 h40
      rw [if_pos hw4, if_neg (by decide), if_neg (by rw [← b6]; grind)]
    · have hw4 : ¬ gI μ 4 = 100 + 40 := by rw [w3]; intro q; exact h40 ((kMd_at 40 (by decide +kernel) w4).mp (by rw [q]; decide))
      rw [if_neg hw4, if_pos rfl]
  unfold f_X12_judgeAtom f_X12_judgeAtom_b20 f_X12_judgeAtom_b46
  by_cases c4 : gI σ 17 = 4
  · have hm4 : gI μ 4 = 4 := by rw [w3, c4]; decide
    obtain ⟨f1, f2, f3⟩ := k2 c4
    have hf := hc.2.2.2 r f1 f2
    rw [if_pos hm4, hr c4, bd_of, htd, bd_of, if_pos hm4, if_neg (by grind), gd30 f1 (by have := hc.2.2.1; grind), if_neg (by rw [← hf.2.1, f3]; decide), m_isAtom, bd_of, if_pos hat, if_neg (by decide), if_pos f1]
  · have hm4 : ¬ gI μ 4 = 4 := by rw [w3]; intro q; exact c4 ((kMd_at 4 (by decide +kernel) w4).mp (by rw [q]; decide))
    rw [if_neg hm4, htd, bd_of, if_neg hm4, m_isAtom, bd_of, if_pos hat, if_neg (by decide), if_pos (by decide)]
theorem m_judgeB {σ μ : S5} (hw : Wd σ μ) (hc : Ct σ μ) (b2 : gI μ 7 = 0) (b6 : gI σ 14 = gI μ 15) (b8 : gI σ 14 ≤ 30) {r : Int32} (hk : ¬ stdK σ r) (hr : gI σ 17 = 4 → f_X12_findConstructor (gJ μ 0) μ = some (r, μ) ∧ (r = -1 ∨ (0 ≤ r ∧ r < gI σ 4))) : f_X12_judgeAtom μ = some ((), pI (pI μ 7 (badK σ r)) 8 (gI μ 5)) := by
  obtain ⟨w1, w2, w3, w4, w5, w6⟩ := id hw
  unfold f_X12_judgeAtom f_X12_judgeAtom_b20 f_X12_judgeAtom_b46 f_X12_judgeAtom_b53 f_X12_tooDeep
  rw [m_isS, bd_of]
  by_cases h40 : gI σ 17 = 40
  · have hw4 : gI μ 4 = 100 + 40 := by rw [w3, h40]; decide
    have hm4 : ¬ gI μ 4 = 4 := by rw [hw4]; decide
    have ho : gI μ 15 = 30 := by
      rw [← b6]
      apply Classical.byContradiction
      intro hc2
      exact hk ⟨by unfold atK; grind, fun q => by rw [h40] at q; exact absurd q (by decide), fun _ => by grind⟩
    have hb : badK σ r = 1 := by
      unfold badK
      rw [if_neg (fun q => by rw [h40] at q; exact absurd q.1 (by decide))]
    rw [if_neg hm4, if_pos hw4, if_neg (by decide), if_pos ho, bd_eta, m_wrong0 b2, bd_of, if_neg (show ¬ gI (pI (pI μ 7 1) 8 (gI μ 5)) 4 = 4 from hm4), m_isAtom, bd_of, if_pos (show gI (pI (pI μ 7 1) 8 (gI μ 5)) 4 = 3 ∨ gI (pI (pI μ 7 1) 8 (gI μ 5)) 4 = 4 ∨ gI (pI (pI μ 7 1) 8 (gI μ 5)) 4 = 2 ∨ gI (pI (pI μ 7 1) 8 (gI μ 5)) 4 = 15 ∨ gI (pI (pI μ 7 1) 8 (gI μ 5)) 4 = 140 from Or.inr (Or.inr (Or.inr (Or.inr hw4)))), if_neg (by decide), if_pos (by decide), hb]
  · have hw4 : ¬ gI μ 4 = 100 + 40 := by rw [w3]; intro q; exact h40 ((kMd_at 40 (by decide +kernel) w4).mp (by rw [q]; decide))
    rw [if_neg hw4, if_pos rfl]
    simp only [bd_of]
    by_cases c4 : gI σ 17 = 4
    · have hm4 : gI μ 4 = 4 := by rw [w3, c4]; decide
      obtain ⟨e1, e2⟩ := hr c4
      rw [if_pos hm4, e1, bd_of, m_isS, bd_of, if_neg hw4, if_pos rfl, bd_of, if_pos hm4]
      by_cases cr : r = -1
      · have hb : badK σ r = 3 := by
          unfold badK
          rw [if_pos ⟨c4, cr⟩]
        rw [if_pos (by rw [cr]; decide), m_isAtom, bd_of, if_pos (Or.inr (Or.inl hm4)), if_neg (by decide), if_neg (by rw [cr]; decide), bd_eta, m_fail0 _ _ b2, hb]
      · have hr2 : 0 ≤ r ∧ r < gI σ 4 := by rcases e2 with e2 | e2; exact absurd e2 cr; exact e2
        have hf := hc.2.2.2 r hr2.1 hr2.2
        have hf2 : 0 < xA μ 13 r := by
          rw [← hf.2.1]
          apply Classical.byContradiction
          intro hc2
          exact hk ⟨by unfold atK; grind, fun _ => ⟨hr2.1, hr2.2, by grind⟩, fun q => absurd q h40⟩
        have hb : badK σ r = 1 := by
          unfold badK
          rw [if_neg (fun q => cr q.2)]
        rw [if_neg (by grind), gd30 hr2.1 (by have := hc.2.2.1; grind), if_pos hf2, bd_eta, m_wrong0 b2, hb]
    · have hm4 : ¬ gI μ 4 = 4 := by rw [w3]; intro q; exact c4 ((kMd_at 4 (by decide +kernel) w4).mp (by rw [q]; decide))
      have hb : badK σ r = 1 := by
        unfold badK
        rw [if_neg (fun q => c4 q.1)]
      have hna : ¬ (gI μ 4 = 3 ∨ gI μ 4 = 4 ∨ gI μ 4 = 2 ∨ gI μ 4 = 15 ∨ gI μ 4 = 140) := by rw [w3, kMd_atom w4]; intro q; exact hk ⟨q, fun q => absurd q c4, fun q => absurd q h40⟩
      rw [if_neg hm4, if_neg hm4, m_isAtom, bd_of, if_neg hna, if_pos rfl, bd_eta, m_wrong0 b2, hb]
/-- the end of an atom of a constructor -/
theorem m_ae9 {μ : S5} (h0 : 0 ≤ gI μ 16 - 1) (h1 : gI μ 16 - 1 < 3200) (h9 : xA μ 14 (gI μ 16 - 1) = 9) : f_X12_atomEnds μ = bd (f_X12_taken (pA μ 17 (gI μ 16 - 1) (xA μ 17 (gI μ 16 - 1) + 1))) (fun r τ => bd (f_X12_append (xA μ 15 (gI μ 16 - 1)) r τ) (fun _ ρ => gd (xA μ 15 (gI μ 16 - 1)) 3200 <| gd (xA ρ 7 (xA μ 15 (gI μ 16 - 1))) 30 <| if (xA ρ 13 (xA ρ 7 (xA μ 15 (gI μ 16 - 1)))) ≤ xA μ 17 (gI μ 16 - 1) + 1 then
      (bd (f_X12_isAtom  ρ) (fun r92 τ92 =>
      if r92 = 0 then
        (bd (f_X12_operand ((xA μ 15 ((gI μ 16) - 1))) (pI τ92 16 ((gI τ92 16) - 1))) (fun _ τ117 =>
        some ((), (pI τ117 20 1))))
      else
        (bd (f_X12_wrong  τ92) (fun _ τ99 =>
        some ((), τ99)))))
    else
      (bd (f_X12_field (((gI μ 16) - 1)) ρ) (fun r69 τ69 =>
      if r69 = 0 then
        (f_X12_atomEnds_b80  (1) τ69)
      else
        (f_X12_atomEnds_b80  (0) τ69))))) := by
  unfold f_X12_atomEnds
  simp only [gd3200 h0 h1]
  rw [if_pos h9]
  have e : xA (pA μ 17 (gI μ 16 - 1) (xA μ 17 (gI μ 16 - 1) + 1)) 17 (gI μ 16 - 1) = xA μ 17 (gI μ 16 - 1) + 1 := by rw [xA_pA, if_pos ⟨rfl, rfl⟩]
  rw [e]
