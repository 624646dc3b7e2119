/-- an atom, where one may stand -/
theorem at_go {σ μ : S5} {E : S5 → Option (Int32 × S5)} (hE : ESp E (gI σ 14 + 1)) (hs : Sim σ μ) {r : Int32} (hk : stdK σ r) (hr : gI σ 17 = 4 → f_X12_findConstructor (gJ μ 0) μ = some (r, μ)) (hq : Pz 4 σ μ) (h21 : gI μ 21 = 0) : ∃ (q : Int32) (τ : S5), f_X12_atom μ = some (q, τ) ∧ (q = 0 ∨ q = 1) ∧ gI τ 20 = gI μ 20 ∧ Qt (f_X5_readAtom E σ) (Out (4 * pn σ + 4) (fun μ' => gI μ' 20 = 0 ∧ gI μ' 21 = 0) (fun _ => True) (fun _ => False) σ μ (aft (1 - q) τ)) := by
  have hb := hs.2.2
  unfold Bg at hb
  have hw := hs.1
  obtain ⟨hq1, hq2, hq3, hq4⟩ := hq.rg hb.2.2.2.2.2.2.2.1 (by decide)
  by_cases h40 : gI σ 17 = 40
  · obtain ⟨τ, e1, e2, e3⟩ := at_group hE hs h40 (hk.2.2 h40) hq
    exact ⟨0, τ, e1, Or.inl rfl, e2, e3⟩
  by_cases hp : gI σ 13 < 600
  · obtain ⟨σ', μ1, e1, e2, e3, e4, e5, e6, e7⟩ := at_leaf hs hk hr h40 hp hq3 (by grind) E
    refine ⟨1, μ1, e2, Or.inr rfl, e7, Qt.eq e1 (Or.inl ⟨aft 0 μ1, gI μ 9, 0, ?_, Rch.rf _, e3, ⟨e4, by rw [e5]; exact h21⟩, trivial⟩)⟩
    have := pn_lt hs.p3.1 e6
    omega
  · have hp6 : gI μ 11 = 600 := by grind
    have hc := hs.2.1
    have hM := m_atom6 (r := r) hb.2.1 hw.2.2.1 hw.2.2.2.1 hk.1 h40 (fun q => ⟨hr q, (hk.2.1 q).1, by have := (hk.2.1 q).2.1; have := hc.2.2.1; grind, by rw [← (hc.2.2.2 r (hk.2.1 q).1 (hk.2.1 q).2.1).2.1]; exact (hk.2.1 q).2.2⟩) hp6
    obtain ⟨τ, e1, e2⟩ := c_cnt1 hs hp
    refine ⟨0, _, hM, Or.inl rfl, rfl, ?_⟩
    unfold f_X5_readAtom
    rw [if_neg (okK_ne hw.2.2.2.1), if_neg h40, e1, bd_of, if_pos e2.1]
    refine Qt.so (Or.inr ⟨4, gI σ 18, gI σ 13, 0, ?_, ?_, Or.inl e2, by decide, by decide⟩)
    · have := pn_3 hs
      omega
    · exact die_of (Rch.rf _) (by decide) rfl (by show gI μ 5 = gI σ 18; exact hw.2.2.2.2.1.symm) (by show gI μ 11 = gI σ 13; exact hb.2.2.1.symm) rfl ((((EqR.rf μ).I (by decide)).I (by decide)).aft)
/-- no atom may stand here -/
theorem m_bad {σ μ : S5} (hs : Sim σ μ) {r : Int32} (hk : ¬ stdK σ r) (hr : gI σ 17 = 4 → f_X12_findConstructor (gJ μ 0) μ = some (r, μ) ∧ (r = -1 ∨ (0 ≤ r ∧ r < gI σ 4))) (hq1 : 0 < gI μ 16) (hq2 : gI μ 16 < 3200) : ∃ τ : S5, f_X12_atom μ = some (0, τ) ∧ gI τ 7 = badK σ r ∧ gI τ 8 = gI σ 18 ∧ gI τ 11 = gI σ 13 ∧ gI τ 12 = gI μ 12 ∧ EqR μ τ := by
  obtain ⟨hw, hc, hb⟩ := hs
  unfold Bg at hb
  obtain ⟨b1, b2, b3, b4, b5, b6, b7, b8, b9⟩ := hb
  obtain ⟨w1, w2, w3, w4, w5, w6⟩ := id hw
  have he : ∀ (f : Int32), ¬ f = 0 → ∀ v : Int32, f_X12_atom_b96 v (pI (pI μ 7 f) 8 (gI μ 5)) = some (0, pI (pI μ 7 f) 8 (gI μ 5)) ∨ f < 0 := by
    intro f hf v
    by_cases h0 : 0 < f
    · left
      unfold f_X12_atom_b96
      rw [if_pos (show 0 < gI (pI (pI μ 7 f) 8 (gI μ 5)) 7 from h0)]
    · right; grind
  unfold f_X12_atom f_X12_atom_b47 f_X12_atom_b69 f_X12_atom_b76
  rw [m_isS, bd_of]
  by_cases h40 : gI σ 17 = 40
  · have hw4 : gI μ 4 = 100 + 40 := by rw [w3, h40]; decide
    have ho : gI μ 15 = 30 := by
      rw [← b6]
      apply Classical.byContradiction
      intro hc2
      exact hk ⟨by unfold atK; grind, fun q => by rw [h40] at q; exact absurd q (by decide), fun _ => by grind⟩
    unfold f_X12_opens f_X12_opens_b13
    rw [if_pos hw4, if_neg (by decide), if_pos ho, m_wrong0 b2, bd_of, bd_of, m_accF (μ := pI (pI (pI μ 7 1) 8 (gI μ 5)) 15 (gI (pI (pI μ 7 1) 8 (gI μ 5)) 15 + 1)) 1 (by exact (by decide : ¬ (1 : Int32) = 0)), bd_of, m_pile (μ := pI (pI (pI μ 7 1) 8 (gI μ 5)) 15 (gI (pI (pI μ 7 1) 8 (gI μ 5)) 15 + 1)) 1 0 0 (by show 0 ≤ gI μ 16; grind) (by show gI μ 16 < 3200; grind), bd_of]
    refine ⟨_, rfl, ?_, ?_, ?_, rfl, ?_⟩
    · show (1 : Int32) = badK σ r
      unfold badK
      rw [if_neg (fun q => by rw [h40] at q; exact absurd q.1 (by decide))]
    · exact w5.symm
    · exact b3.symm
    · exact (((EqR.rf μ).I (by decide)).I (by decide) |>.I (by decide)).pl
  · have hw4 : ¬ gI μ 4 = 100 + 40 := by rw [w3]; intro q; exact h40 ((kMd_at 40 (by decide +kernel) w4).mp (by rw [q]; decide))
    rw [if_neg hw4, if_pos rfl]
    by_cases c4 : gI σ 17 = 4
    · have hm4 : gI μ 4 = 4 := by rw [w3, c4]; decide
      obtain ⟨e1, e2⟩ := hr c4
      rw [if_pos hm4, e1, bd_of, if_pos hm4]
      by_cases cr : r = -1
      · rw [if_pos (by rw [cr]; decide), m_isAtom, bd_of, if_pos (Or.inr (Or.inl hm4)), if_neg (by decide), if_neg (by rw [cr]; decide), m_fail0 _ _ b2, bd_of]
        rcases he 3 (by decide) r with q | q
        · rw [q]
          refine ⟨_, rfl, ?_, w5.symm, b3.symm, rfl, ((EqR.rf μ).I (by decide)).I (by decide)⟩
          show (3 : Int32) = badK σ r
          unfold badK
          rw [if_pos ⟨c4, cr⟩]
        · exact absurd q (by decide)
      · have hr2 : 0 ≤ r ∧ r < gI σ 4 := by rcases e2 with e2 | e2; exact absurd e2 cr; exact e2
        have hf := hc.2.2.2 r hr2.1 hr2.2
        have hf2 : 0 < xA μ 13 r := by
          rw [← hf.2.1]
          apply Classical.byContradiction
          intro hc2
          exact hk ⟨by unfold atK; grind, fun _ => ⟨hr2.1, hr2.2, by grind⟩, fun q => absurd q h40⟩
        rw [if_neg (by grind), gd30 hr2.1 (by have := hc.2.2.1; grind), if_pos hf2, m_wrong0 b2, bd_of]
        rcases he 1 (by decide) r with q | q
        · rw [q]
          refine ⟨_, rfl, ?_, w5.symm, b3.symm, rfl, ((EqR.rf μ).I (by decide)).I (by decide)⟩
          show (1 : Int32) = badK σ r
          unfold badK
          rw [if_neg (fun q => cr q.2)]
        · exact absurd q (by decide)
    · have hm4 : ¬ gI μ 4 = 4 := by rw [w3]; intro q; exact c4 ((kMd_at 4 (by decide +kernel) w4).mp (by rw [q]; decide))
      have hna : ¬ (gI μ 4 = 3 ∨ gI μ 4 = 4 ∨ gI μ 4 = 2 ∨ gI μ 4 = 15 ∨ gI μ 4 = 140) := by rw [w3, kMd_atom w4]; intro q; exact hk ⟨q, fun q => absurd q c4, fun q => absurd q h40⟩
      rw [if_neg hm4, if_neg hm4, m_isAtom, bd_of, if_neg hna, if_pos rfl, m_wrong0 b2, bd_of]
      rcases he 1 (by decide) 0 with q | q
      · rw [q]
        refine ⟨_, rfl, ?_, w5.symm, b3.symm, rfl, ((EqR.rf μ).I (by decide)).I (by decide)⟩
        show (1 : Int32) = badK σ r
        unfold badK
        rw [if_neg (fun q => c4 q.1)]
      · exact absurd q (by decide)
