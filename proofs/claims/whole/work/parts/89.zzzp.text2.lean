/-- a text is read alike -/
theorem rt_go {σ μ : S5} (h : RT σ μ) : ∃ σ' μ' : S5, f_X5_readText (f_readE 64) σ = some ((), σ') ∧ f_X12_readProgram μ = some ((), μ') ∧ RX μ σ' μ' := by
  obtain ⟨S, hS, s0, sA, s16, s17, s4, s5, s6, s7, s8, s9, s10, s11, s13, s14, s15, sb0, sb1, sa0, sa1⟩ := rs_C σ
  obtain ⟨M, hM, m1, mA, m3, m7, m9, m10, m11, m12, m13, m14, m15, m16, m17, mb0, mb1, ma0, ma1, mT⟩ := rs_M μ
  have hRT : RT S M := by
    unfold RT at *
    rw [s0, m1, sA, mA]
    exact h
  have hn3 := hRT.2.2.1
  obtain ⟨e, kc, p, v, z, vm, zm, l1, l2, l3, l4, l5, l6, l7, l8, l9, l10⟩ := lex hRT (by rw [s16, m3]) (by rw [s16]; decide) (by rw [s16]; exact hRT.2.1) (by rw [s17]; decide)
  rw [hS, hM, l1, bd_of, l2, bd_of]
  have hp0 : 0 ≤ p := by rw [s16] at l4; exact l4
  have hp3 : p ≤ 3000 := i_trans l5 (i_trans l6 hn3)
  have hW : Wd (wdC S e kc p v z) (wdM M e (kMd kc) p vm zm) := ⟨RT_w hRT .., rfl, rfl, l3, rfl, hp0, l5, l6, l8, l9, l10⟩
  have SI : ∀ j, (j < 16 ∨ 19 < j) → gI (wdC S e kc p v z) j = gI S j := fun j w => gI_wdC w
  have S18 : gI (wdC S e kc p v z) 18 = p := p_wdC
  have SA : ∀ j x, xA (wdC S e kc p v z) j x = xA S j x := fun j x => xA_wdC ..
  have SB : ∀ j x, xB (wdC S e kc p v z) j x = xB S j x := fun j x => xB_wdC ..
  have MI : ∀ j, (j < 3 ∨ 6 < j) → gI (wdM M e (kMd kc) p vm zm) j = gI M j := fun j w => gI_wdM w
  have MA : ∀ j x, xA (wdM M e (kMd kc) p vm zm) j x = xA M j x := fun j x => xA_wdM ..
  have MB : ∀ j x, xB (wdM M e (kMd kc) p vm zm) j x = xB M j x := fun j x => xB_wdM ..
  have hT : EqT μ (wdM M e (kMd kc) p vm zm) := mT.w
  clear l1 l2 hS hM
  generalize wdC S e kc p v z = T at *
  generalize wdM M e (kMd kc) p vm zm = N at *
  have i8 : iv T 8 = 0 := by unfold iv; rw [SI 8 (by decide), s8]; rfl
  have i9 : iv T 9 = 0 := by unfold iv; rw [SI 9 (by decide), s9]; rfl
  have i10 : iv T 10 = 0 := by unfold iv; rw [SI 10 (by decide), s10]; rfl
  have i5 : iv T 5 = 0 := by unfold iv; rw [SI 5 (by decide), s5]; rfl
  have i13 : iv T 13 = 0 := by unfold iv; rw [SI 13 (by decide), s13]; rfl
  have i18 : 0 ≤ iv T 18 := iv_0 (by rw [S18]; exact hp0)
  have j9 : iv N 9 = 0 := by unfold iv; rw [MI 9 (by decide), m9]; rfl
  have j10 : iv N 10 = 0 := by unfold iv; rw [MI 10 (by decide), m10]; rfl
  have hCt : Ct T N := by
    refine ⟨by rw [SI 4 (by decide), MI 14 (by decide), s4, m14], by rw [SI 4 (by decide), s4]; decide, by rw [SI 4 (by decide), s4]; decide, fun i q1 q2 => ?_⟩
    rw [SI 4 (by decide), s4] at q2
    have hi : i = 0 ∨ i = 1 := by grind
    rw [SB, MB, SA, MA]
    rcases hi with rfl | rfl
    · rw [sb0, mb0, sa0, ma0]; exact ⟨rfl, rfl, by decide, by decide⟩
    · rw [sb1, mb1, sa1, ma1]; exact ⟨rfl, rfl, by decide, by decide⟩
  have hSv : Sv T N := ⟨hW, hCt, Bv_mk (by rw [SI 11 (by decide)]; exact s11) (by rw [MI 7 (by decide)]; exact m7) (by rw [SI 13 (by decide), MI 11 (by decide), s13, m11]) (by rw [SI 13 (by decide), s13]; decide) (by rw [SI 13 (by decide), s13]; decide) (by rw [SI 14 (by decide), MI 15 (by decide), s14, m15]) (by rw [SI 14 (by decide), s14]; decide) (by rw [SI 14 (by decide), s14]; decide) (by rw [SI 8 (by decide), s8]; decide) (by rw [SI 9 (by decide), s9]; decide) (by rw [SI 5 (by decide), s5]; decide) (by rw [SI 5 (by decide), s5]; decide) (by rw [SI 10 (by decide), s10]; decide) (by rw [MI 9 (by decide), m9]; decide) (by rw [MI 10 (by decide), m10]; decide) (by rw [SI 15 (by decide), s15]; decide) (by rw [SI 15 (by decide), s15]; decide) (by rw [S18]; exact hp3) (by unfold Bw; omega)⟩
  have hD : D0 μ T N := by
    refine ⟨hSv, by unfold Bm; omega, ⟨by rw [SI 15 (by decide)]; exact s15, by rw [SI 14 (by decide)]; exact s14, by rw [MI 16 (by decide)]; exact m16, by rw [MI 17 (by decide)]; exact m17, by rw [SI 7 (by decide)]; exact s7⟩, ⟨by omega, by rw [SI 5 (by decide)]; exact s5, by rw [SI 6 (by decide)]; exact s6, by rw [MI 13 (by decide)]; exact m13⟩, ?_, hT, ⟨⟨rfl, by rw [SI 9 (by decide), s9]; rfl, rfl, by rw [SI 10 (by decide), s10]; rfl, rfl, by rw [MI 9 (by decide), m9]; rfl, rfl, by rw [SI 8 (by decide), s8]; rfl⟩, fun i hi => absurd hi (by omega), fun i j _ hj => absurd hj (by omega)⟩⟩
    rw [MI 12 (by decide), MI 11 (by decide), m12, m11, Int32.sub_zero]
  have hbig := FU_big (n := 30000) (by decide)
  have hpn : pn T ≤ 3000 := i_le (a := gI T 18) (n := 3000) (by rw [S18]; exact hp3)
  exact tx_loop (es_all 63 0 (by decide) (by decide)) (3000 - pn T) 0 FU FU T N hD (by omega) (by omega) (by omega) (by omega)
