def z0 : Nat → Int32 := fun _ => 0
/-- both stand at the top, and no function has been read -/
def D0 (μ0 σ μ : S5) : Prop := TP μ0 σ μ 0 z0 z0 z0 z0 z0
theorem D0.go {μ0 σ μ σ' μ' : S5} (h : D0 μ0 σ μ) (hS : Sv σ' μ') (SI : ∀ j, j < 16 → ¬ j = 4 → gI σ' j = gI σ j) (S18 : gI σ 18 ≤ gI σ' 18) (MI : ∀ j, 6 < j → ¬ j = 14 → gI μ' j = gI μ j) (hT : EqT μ μ') : D0 μ0 σ' μ' := by
  obtain ⟨hs, hbm, ⟨h15, h14, h16, h17, hs7⟩, ⟨hk30, h5, h6, h13⟩, h12, hT0, ⟨⟨p1, p2, p3, p4, p5, p6, p7, p8⟩, hPG, hdist⟩⟩ := h
  refine ⟨hS, ?_, ⟨by rw [SI 15 (by decide) (by decide)]; exact h15, by rw [SI 14 (by decide) (by decide)]; exact h14, by rw [MI 16 (by decide) (by decide)]; exact h16, by rw [MI 17 (by decide) (by decide)]; exact h17, by rw [SI 7 (by decide) (by decide)]; exact hs7⟩, ⟨hk30, by rw [SI 5 (by decide) (by decide)]; exact h5, by rw [SI 6 (by decide) (by decide)]; exact h6, by rw [MI 13 (by decide) (by decide)]; exact h13⟩, by rw [MI 12 (by decide) (by decide), MI 11 (by decide) (by decide)]; exact h12, hT0.tr hT, ⟨⟨p1, by rw [SI 9 (by decide) (by decide)]; exact p2, p3, by rw [SI 10 (by decide) (by decide)]; exact p4, p5, by rw [MI 9 (by decide) (by decide)]; exact p6, p7, by rw [SI 8 (by decide) (by decide)]; exact p8⟩, fun i hi => absurd hi (by omega), fun i j _ hj => absurd hj (by omega)⟩⟩
  have i8 := iv_eq (SI 8 (by decide) (by decide))
  have i9 := iv_eq (SI 9 (by decide) (by decide))
  have i10 := iv_eq (SI 10 (by decide) (by decide))
  have i13 := iv_eq (SI 13 (by decide) (by decide))
  have i5 := iv_eq (SI 5 (by decide) (by decide))
  have i18 := iv_le S18
  have m9 := iv_eq (MI 9 (by decide) (by decide))
  have m10 := iv_eq (MI 10 (by decide) (by decide))
  unfold Bm at *
  omega
theorem D0.w {μ0 σ μ : S5} {e kc p v vm : Int32} {z zm : Int64} (h : D0 μ0 σ μ) (hS : Sv (wdC σ e kc p v z) (wdM μ e (kMd kc) p vm zm)) (hp : gI σ 18 < p) : D0 μ0 (wdC σ e kc p v z) (wdM μ e (kMd kc) p vm zm) :=
  h.go hS (fun j w _ => gI_wdC (Or.inl w)) (by rw [p_wdC]; grind) (fun j w _ => gI_wdM (Or.inr w)) ((EqT.rf μ).w)
/-- a constructor more: the class, the reference -/
def cCn (σ : S5) (z : Int64) (v : Int32) : S5 := pI (pA (pB σ 0 (gI σ 4) z) 2 (gI σ 4) v) 4 (gI σ 4 + 1)
def mCn (μ : S5) (z : Int64) (v : Int32) : S5 := pI (pA (pB μ 3 (gI μ 14) z) 13 (gI μ 14) v) 14 (gI μ 14 + 1)
theorem Ct.cn {σ μ : S5} (h : Ct σ μ) (h30 : gI σ 4 < 30) (z : Int64) {v : Int32} (h0 : 0 ≤ v) (h4 : v ≤ 4) : Ct (cCn σ z v) (mCn μ z v) := by
  obtain ⟨a1, a2, a3, a4⟩ := h
  have e4 : gI (cCn σ z v) 4 = gI σ 4 + 1 := rfl
  have e14 : gI (mCn μ z v) 14 = gI μ 14 + 1 := rfl
  refine ⟨by rw [e4, e14, a1], by rw [e4]; grind, by rw [e4]; grind, fun i q1 q2 => ?_⟩
  rw [e4] at q2
  unfold cCn mCn
  by_cases c : i = gI σ 4
  · rw [← a1, c]
    simp [xA_pI, xA_pA, xA_pB, xB_pI, xB_pA, xB_pB]
    exact ⟨h0, h4⟩
  · have hne : ¬ i.toNatClampNeg = (gI σ 4).toNatClampNeg := fun w => c ((i_inj q1 (by grind)).mp w)
    have := a4 i q1 (by grind)
    rw [← a1]
    simp [xA_pI, xA_pA, xA_pB, xB_pI, xB_pA, xB_pB, hne]
    exact this
theorem Wd.Cn {σ μ : S5} {z : Int64} {v : Int32} (h : Wd σ μ) : Wd (cCn σ z v) μ := h
theorem Wd.mCn {σ μ : S5} {z : Int64} {v : Int32} (h : Wd σ μ) : Wd σ (mCn μ z v) := h
theorem c_addC {σ : S5} (z : Int64) (v : Int32) (h0 : 0 ≤ gI σ 4) (h1 : gI σ 4 < 30) : f_X4_addConstructor z v σ = some ((), cCn σ z v) := by
  unfold f_X4_addConstructor
  rw [if_neg (by grind), gd30 h0 h1, gd30 h0 h1]
  rfl
theorem cCn_gI (σ : S5) (z : Int64) (v : Int32) {j : Nat} (h : ¬ j = 4) : gI (cCn σ z v) j = gI σ j := by
  unfold cCn
  rw [gI_pI, if_neg h]
  rfl
theorem mCn_gI (σ : S5) (z : Int64) (v : Int32) {j : Nat} (h : ¬ j = 14) : gI (mCn σ z v) j = gI σ j := by
  unfold mCn
  rw [gI_pI, if_neg h]
  rfl
theorem EqT.Cn {σ τ : S5} {z : Int64} {v : Int32} (h : EqT σ τ) : EqT σ (mCn τ z v) := ((h.B (by decide)).A (by decide)).I (by decide)
theorem mCn_w (μ : S5) (e k p w : Int32) (y z : Int64) (v : Int32) : gI (mCn (wdM μ e k p w y) z v) 14 = gI (mCn μ z v) 14 ∧ (∀ x, xB (mCn (wdM μ e k p w y) z v) 3 x = xB (mCn μ z v) 3 x) ∧ (∀ x, xA (mCn (wdM μ e k p w y) z v) 13 x = xA (mCn μ z v) 13 x) := by
  have h14 : gI (wdM μ e k p w y) 14 = gI μ 14 := gI_wdM (by decide)
  have hA : ∀ x, xA (wdM μ e k p w y) 13 x = xA μ 13 x := fun x => xA_wdM ..
  have hB : ∀ x, xB (wdM μ e k p w y) 3 x = xB μ 3 x := fun x => xB_wdM ..
  generalize wdM μ e k p w y = M at *
  unfold mCn
  rw [h14]
  refine ⟨rfl, fun x => ?_, fun x => ?_⟩
  · rw [xB_pI, xB_pA, xB_pB, xB_pI, xB_pA, xB_pB, hB]
  · rw [xA_pI, xA_pA, xA_pB, xA_pI, xA_pA, xA_pB, hA]
theorem rd_0F {F : S5} (m : Nat) (h7 : ¬ gI F 7 = 0) : f_X12_readData_b152 (f_X12_readData_L2 (m + 1)) F = some ((), F) := by
  unfold f_X12_readData_b152 f_X12_readData_b172 f_X12_readData_b173 f_X12_readData_b182
  rw [if_neg h7, if_pos rfl]
  show f_X12_readData_B2 _ _ _ = _
  unfold f_X12_readData_B2
  rw [if_pos rfl, m_isS, bd_of, m_accF _ h7, bd_of]
theorem rd_111F {rec : Int32 → S5 → Option (Unit × S5)} {F : S5} {z : Int64} {v u : Int32} (h7 : ¬ gI F 7 = 0) : f_X12_readData_b111 rec z v u F = f_X12_readData_b152 rec F := by
  unfold f_X12_readData_b111
  rw [m_accF _ h7, bd_of, if_neg h7]
theorem rd_82F {rec : Int32 → S5 → Option (Unit × S5)} {F : S5} {z : Int64} {u : Int32} (h7 : ¬ gI F 7 = 0) : f_X12_readData_b82 rec z u F = f_X12_readData_b152 rec F := by
  unfold f_X12_readData_b82 f_X12_readData_b110
  rw [m_accF _ h7, bd_of, rd_111F h7, rd_111F h7, ite_self, ite_self]
theorem rd_63F {rec : Int32 → S5 → Option (Unit × S5)} {F : S5} (h7 : ¬ gI F 7 = 0) : f_X12_readData_b63 rec F = f_X12_readData_b152 rec F := by
  unfold f_X12_readData_b63
  rw [rd_82F h7, rd_82F h7, ite_self]
/-- a constructor's name and its number -/
theorem dc_go {μ0 σ μ : S5} (h : D0 μ0 σ μ) : (∃ σ' μ' : S5, f_X5_readConstructor σ = some ((), σ') ∧ (∀ m, f_X12_readData_L2 (m + 1) 1 μ = f_X12_readData_b152 (f_X12_readData_L2 m) μ') ∧ D0 μ0 σ' μ' ∧ gI σ' 4 = gI σ 4 + 1 ∧ gI σ 4 < 30 ∧ gI σ 18 < gI σ' 18) ∨ (∃ (f p n : Int32) (σ' μ' : S5), f_X5_readConstructor σ = some ((), σ') ∧ (∀ m, f_X12_readData_L2 (m + 2) 1 μ = some ((), μ')) ∧ TD μ0 f p n σ' μ') := by
  have hl := h
  obtain ⟨hs, hbm, -, -, h12, hT, -⟩ := hl
  have hb := hs.2.2
  have hp3 := hs.p3
  unfold Bv at hb
  have w3 := hs.1.2.2.1
  have w4 := hs.1.2.2.2.1
  have w5 : gI σ 18 = gI μ 5 := hs.1.2.2.2.2.1
  have hst64 : ∀ (f p n : Int32) (z : Int64) (τ : S5), St f p n τ → f_X5_readConstructor_b64 z τ = some ((), τ) := by
    intro f p n z τ hst
    unfold f_X5_readConstructor_b64 f_X5_readConstructor_b93
    rw [st_adv hst, bd_of, if_neg (by rw [hst.1]; decide), st_refuse _ hst, bd_of]
  have hfa : ∀ (f : Int32), ¬ f = 0 → ∀ m, f_X12_readData_b152 (f_X12_readData_L2 (m + 1)) (pI (pI μ 7 f) 8 (gI μ 5)) = some ((), pI (pI μ 7 f) 8 (gI μ 5)) := fun f hf m => rd_0F m hf
  by_cases c4 : gI σ 17 = 4
  · have hm4 : gI μ 4 = 4 := by rw [w3, c4]; decide
    have hz : gJ σ 0 = gJ μ 0 := hs.1.2.2.2.2.2.2.2.2.2.1 (Or.inr c4)
    obtain ⟨r, f1, f2, f3⟩ := con_of hs.2.1 (gJ σ 0)
    rw [hz] at f2
    by_cases cr : r = -1
    · subst cr
      have hB : ∀ m, f_X12_readData_L2 (m + 1) 1 μ = f_X12_readData_b37 (f_X12_readData_L2 m) μ := by
        intro m
        show f_X12_readData_B2 _ _ _ = _
        unfold f_X12_readData_B2
        rw [if_neg (by decide), if_pos hm4, f2, bd_of, if_pos (by decide)]
      by_cases c30 : gI σ 4 < 30
      · have hm30 : ¬ gI μ 14 = 30 := by rw [← hs.2.1.1]; grind
        obtain ⟨e, kc, p, v, z, vm, zm, a1, a2, a3, a4, a5⟩ := sv_adv hs (by rw [c4]; decide)
        have hB2 : ∀ m, f_X12_readData_L2 (m + 1) 1 μ = (if gI (wdM μ e (kMd kc) p vm zm) 4 = 2 then (if 4 < gI (wdM μ e (kMd kc) p vm zm) 6 then f_X12_readData_b110 (f_X12_readData_L2 m) (gJ μ 0) (gI (wdM μ e (kMd kc) p vm zm) 6) (wdM μ e (kMd kc) p vm zm) else f_X12_readData_b111 (f_X12_readData_L2 m) (gJ μ 0) (gI (wdM μ e (kMd kc) p vm zm) 6) 1 (wdM μ e (kMd kc) p vm zm)) else f_X12_readData_b110 (f_X12_readData_L2 m) (gJ μ 0) (gI (wdM μ e (kMd kc) p vm zm) 6) (wdM μ e (kMd kc) p vm zm)) := by
          intro m
          rw [hB]
          unfold f_X12_readData_b37 f_X12_readData_b63 f_X12_readData_b82
          rw [if_pos hm4, if_neg hm30, if_pos hm4, m_acc1 hb.2.1, a2, bd_of]
        have hC : f_X5_readConstructor σ = (if gI (wdC σ e kc p v z) 17 = 5 then (if gI (wdC σ e kc p v z) 19 ≤ 4 then (bd (f_X4_addConstructor (gJ σ 0) (gI (wdC σ e kc p v z) 19) (wdC σ e kc p v z)) (fun _ τ111 => bd (f_X10_advance τ111) (fun _ τ118 => some ((), τ118)))) else f_X5_readConstructor_b93 (wdC σ e kc p v z)) else f_X5_readConstructor_b93 (wdC σ e kc p v z)) := by
          unfold f_X5_readConstructor f_X5_readConstructor_b64
          rw [if_pos c4, f1, bd_of, if_pos rfl, if_pos c30, a1, bd_of]
        have hD1 := h.w a3 a4
        have e4 : gI (wdC σ e kc p v z) 4 = gI σ 4 := gI_wdC (by decide)
        have e18 : gI (wdC σ e kc p v z) 18 = p := p_wdC
        clear a1 a2
        generalize wdC σ e kc p v z = σ1 at *
        generalize wdM μ e (kMd kc) p vm zm = μ1 at *
        have hb1 := a3.2.2
        unfold Bv at hb1
        have v3 := a3.1.2.2.1
        have v4 := a3.1.2.2.2.1
        by_cases c5 : gI σ1 17 = 5 ∧ gI σ1 19 ≤ 4
        · left
          have hw11 := a3.1.2.2.2.2.2.2.2.2.2.2 c5.1
          have hm2 : gI μ1 4 = 2 := by rw [v3, c5.1]; decide
          have hm6 : ¬ 4 < gI μ1 6 := by rw [← hw11.1]; have := c5.2; grind
          have h04 : 0 ≤ gI σ1 4 ∧ gI σ1 4 < 30 := by rw [e4]; exact ⟨by have := hs.2.1.2.1; grind, c30⟩
          rw [if_pos c5.1, if_pos c5.2, c_addC _ _ h04.1 h04.2, bd_of] at hC
          obtain ⟨e', kc', p', v', z', vm', zm', b1, b2, b3, b4, b5, b6⟩ := adv (a3.1.Cn (z := gJ σ 0) (v := gI σ1 19)) (by show ¬ gI σ1 17 = 1; rw [c5.1]; decide)
          have b4' : gI σ1 18 < p' := b4
          rw [b1, bd_of] at hC
          refine ⟨wdC (cCn σ1 (gJ σ 0) (gI σ1 19)) e' kc' p' v' z', mCn (wdM μ1 e' (kMd kc') p' vm' zm') (gJ μ 0) (gI μ1 6), hC, fun m => ?_, ?_, ?_, c30, ?_⟩
          · rw [hB2 m, if_pos hm2, if_neg hm6]
            unfold f_X12_readData_b111
            have m7 : gI (wdM μ1 e' (kMd kc') p' vm' zm') 7 = 0 := (gI_wdM (by decide)).trans hb1.2.1
            have m14 : gI (wdM μ1 e' (kMd kc') p' vm' zm') 14 = gI σ1 4 := (gI_wdM (by decide)).trans a3.2.1.1.symm
            rw [m_acc1 hb1.2.1, b2, bd_of, if_pos m7, gd30 (by rw [m14]; exact h04.1) (by rw [m14]; exact h04.2), gd30 (by rw [m14]; exact h04.1) (by rw [m14]; exact h04.2)]
            rfl
          · rw [← hz, ← hw11.1]
            have S18 : gI (wdC (cCn σ1 (gJ σ 0) (gI σ1 19)) e' kc' p' v' z') 18 = p' := p_wdC
            have SI : ∀ j, j < 16 → ¬ j = 4 → gI (wdC (cCn σ1 (gJ σ 0) (gI σ1 19)) e' kc' p' v' z') j = gI σ1 j := fun j w w1 => (gI_wdC (Or.inl w)).trans (cCn_gI _ _ _ w1)
            have MI : ∀ j, 6 < j → ¬ j = 14 → gI (mCn (wdM μ1 e' (kMd kc') p' vm' zm') (gJ σ 0) (gI σ1 19)) j = gI μ1 j := fun j w w1 => (mCn_gI _ _ _ w1).trans (gI_wdM (Or.inr w))
            have hCt := a3.2.1.cn h04.2 (gJ σ 0) hw11.2 c5.2
            have hCt' : Ct (wdC (cCn σ1 (gJ σ 0) (gI σ1 19)) e' kc' p' v' z') (mCn (wdM μ1 e' (kMd kc') p' vm' zm') (gJ σ 0) (gI σ1 19)) := Ct_of hCt (gI_wdC (by decide)) (mCn_w ..).1 (fun x => xB_wdC ..) (mCn_w ..).2.1 (fun x => xA_wdC ..) (mCn_w ..).2.2
            have hW : Wd (wdC (cCn σ1 (gJ σ 0) (gI σ1 19)) e' kc' p' v' z') (mCn (wdM μ1 e' (kMd kc') p' vm' zm') (gJ σ 0) (gI σ1 19)) := b3.mCn
            have hTT : EqT μ1 (mCn (wdM μ1 e' (kMd kc') p' vm' zm') (gJ σ 0) (gI σ1 19)) := ((EqT.rf μ1).w).Cn
            clear b1 b2 b3 hC hB2 hB
            generalize wdC (cCn σ1 (gJ σ 0) (gI σ1 19)) e' kc' p' v' z' = S at *
            generalize mCn (wdM μ1 e' (kMd kc') p' vm' zm') (gJ σ 0) (gI σ1 19) = M at *
            obtain ⟨b1, b2, b3, b4, b5, b6, b7, b8, b9, b10, b11, b12, b13, b14, b15, b16, b17, b18, b19, b20, b21, b22, b23⟩ := hb1
            have hBw : Bw S M := by
              have i8 := iv_eq (SI 8 (by decide) (by decide))
              have i9 := iv_eq (SI 9 (by decide) (by decide))
              have i10 := iv_eq (SI 10 (by decide) (by decide))
              have i13 := iv_eq (SI 13 (by decide) (by decide))
              have i5 := iv_eq (SI 5 (by decide) (by decide))
              have i18 : iv σ1 18 < iv S 18 := iv_lt (by rw [S18]; exact b4')
              have m9 := iv_eq (MI 9 (by decide) (by decide))
              have m10 := iv_eq (MI 10 (by decide) (by decide))
              unfold Bw at *
              omega
            refine hD1.go ⟨hW, hCt', Bv_mk (by rw [SI 11 (by decide) (by decide)]; exact b1) (by rw [MI 7 (by decide) (by decide)]; exact b2) (by rw [SI 13 (by decide) (by decide), MI 11 (by decide) (by decide)]; exact b3) (by rw [SI 13 (by decide) (by decide)]; exact b4) (by rw [SI 13 (by decide) (by decide)]; exact b5) (by rw [SI 14 (by decide) (by decide), MI 15 (by decide) (by decide)]; exact b6) (by rw [SI 14 (by decide) (by decide)]; exact b7) (by rw [SI 14 (by decide) (by decide)]; exact b8) (by rw [SI 8 (by decide) (by decide)]; exact b9) (by rw [SI 9 (by decide) (by decide)]; exact b11) (by rw [SI 5 (by decide) (by decide)]; exact b13) (by rw [SI 5 (by decide) (by decide)]; exact b14) (by rw [SI 10 (by decide) (by decide)]; exact b15) (by rw [MI 9 (by decide) (by decide)]; exact b17) (by rw [MI 10 (by decide) (by decide)]; exact b19) (by rw [SI 15 (by decide) (by decide)]; exact b21) (by rw [SI 15 (by decide) (by decide)]; exact b22) (by rw [S18]; assumption) hBw⟩ SI (by rw [S18]; grind) MI hTT
          · rw [gI_wdC (by decide)]
            show gI σ1 4 + 1 = gI σ 4 + 1
            rw [e4]
          · rw [p_wdC]; grind
        · right
          have hbad : ∀ m, f_X12_readData_L2 (m + 2) 1 μ = some ((), pI (pI μ1 7 1) 8 (gI μ1 5)) := by
            intro m
            have hF : ¬ gI (pI (pI μ1 7 1) 8 (gI μ1 5)) 7 = 0 := (by decide : ¬ (1 : Int32) = 0)
            have h110 : f_X12_readData_b110 (f_X12_readData_L2 (m + 1)) (gJ μ 0) (gI μ1 6) μ1 = some ((), pI (pI μ1 7 1) 8 (gI μ1 5)) := by
              unfold f_X12_readData_b110 f_X12_readData_b111
              rw [m_acc0 hb1.2.1, bd_of, if_neg hF]
              exact rd_0F m hF
            rw [hB2 (m + 1)]
            by_cases c52 : gI σ1 17 = 5
            · have hw11 := a3.1.2.2.2.2.2.2.2.2.2.2 c52
              rw [if_pos (by rw [v3, c52]; decide), if_pos (by rw [← hw11.1]; have : ¬ gI σ1 19 ≤ 4 := fun w => c5 ⟨c52, w⟩; grind), h110]
            · rw [if_neg (by rw [v3]; intro q; exact c52 ((kMd_at 5 (by decide +kernel) v4).mp (by rw [q]; decide))), h110]
          obtain ⟨τ, g1, g2⟩ := c_refv a3 (k := 1) (by decide)
          have h93 : f_X5_readConstructor_b93 σ1 = some ((), τ) := by
            unfold f_X5_readConstructor_b93
            rw [g1, bd_of]
          refine ⟨1, gI σ1 18, gI σ1 13, τ, _, ?_, hbad, g2, rfl, a3.1.2.2.2.2.1.symm, hb1.2.2.1.symm, hD1.2.2.2.2.1, ((hD1.2.2.2.2.2.1).I (by decide)).I (by decide)⟩
          rw [hC]
          by_cases c52 : gI σ1 17 = 5
          · rw [if_pos c52, if_neg (fun w => c5 ⟨c52, w⟩), h93]
          · rw [if_neg c52, h93]
      · right
        have hm30 : gI μ 14 = 30 := by rw [← hs.2.1.1]; have := hs.2.1.2.2.1; grind
        obtain ⟨τ, g1, g2⟩ := c_refv hs (k := 4) (by decide)
        refine ⟨4, gI σ 18, gI σ 13, τ, pI (pI μ 7 4) 8 (gI μ 5), ?_, fun m => ?_, g2, rfl, w5.symm, hb.2.2.1.symm, h12, (hT.I (by decide)).I (by decide)⟩
        · unfold f_X5_readConstructor
          rw [if_pos c4, f1, bd_of, if_pos rfl, if_neg c30, g1, bd_of, hst64 _ _ _ _ τ g2]
        · rw [hB (m + 1)]
          unfold f_X12_readData_b37
          rw [if_pos hm4, if_pos hm30, m_fail0 _ _ hb.2.1, bd_of, rd_63F (by exact (by decide : ¬ (4 : Int32) = 0)), hfa 4 (by decide) m]
    · right
      have hr0 : 0 ≤ r := by rcases f3 with f3 | f3; exact absurd f3 cr; exact f3.1
      obtain ⟨τ, g1, g2⟩ := c_refv hs (k := 2) (by decide)
      refine ⟨2, gI σ 18, gI σ 13, τ, pI (pI μ 7 2) 8 (gI μ 5), ?_, fun m => ?_, g2, rfl, w5.symm, hb.2.2.1.symm, h12, (hT.I (by decide)).I (by decide)⟩
      · unfold f_X5_readConstructor
        rw [if_pos c4, f1, bd_of, if_neg cr, g1, bd_of, hst64 _ _ _ _ τ g2]
      · show f_X12_readData_B2 (f_X12_readData_L2 (m + 1)) _ _ = _
        unfold f_X12_readData_B2
        rw [if_neg (by decide), if_pos hm4, f2, bd_of, if_neg (by grind), m_fail0 _ _ hb.2.1, bd_of, rd_63F (by exact (by decide : ¬ (2 : Int32) = 0)), hfa 2 (by decide) m]
  · right
    have hm4 : ¬ gI μ 4 = 4 := by rw [w3]; intro q; exact c4 ((kMd_at 4 (by decide +kernel) w4).mp (by rw [q]; decide))
    obtain ⟨τ, g1, g2⟩ := c_refv hs (k := 1) (by decide)
    refine ⟨1, gI σ 18, gI σ 13, τ, pI (pI μ 7 1) 8 (gI μ 5), ?_, fun m => ?_, g2, rfl, w5.symm, hb.2.2.1.symm, h12, (hT.I (by decide)).I (by decide)⟩
    · unfold f_X5_readConstructor
      rw [if_neg c4, g1, bd_of, hst64 _ _ _ _ τ g2]
    · show f_X12_readData_B2 (f_X12_readData_L2 (m + 1)) _ _ = _
      have hF : ¬ gI (pI (pI μ 7 1) 8 (gI μ 5)) 7 = 0 := (by decide : ¬ (1 : Int32) = 0)
      unfold f_X12_readData_B2 f_X12_readData_b37 f_X12_readData_b63 f_X12_readData_b82 f_X12_readData_b110
      rw [if_neg (by decide), if_neg hm4, if_neg hm4, if_neg hm4, m_acc0 hb.2.1, bd_of, rd_111F hF, rd_111F hF, ite_self, ite_self, hfa 1 (by decide) m]
