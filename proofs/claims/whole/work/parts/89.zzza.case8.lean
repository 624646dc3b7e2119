theorem m_eR {μ9 : S5} {P O v n9 l : Int32} (h7 : gI μ9 7 = 0) (hP0 : 0 ≤ P) (hP1 : P < 3100) (e16 : gI μ9 16 = P + 1 + 1) (hO0 : 0 ≤ O) (hO1 : O < 3100) (e17 : gI μ9 17 = O + 1) (t14 : xA μ9 14 (P + 1) = 6) (t15 : xA μ9 15 (P + 1) = v) (tl : xA μ9 15 P = l) (t18 : xA μ9 18 O = n9) (hv0 : 0 ≤ v) (hv1 : v < 3200) : f_X12_endE μ9 = if gI μ9 4 = 159 then bd (f_X12_next (mEB μ9 v n9)) (fun _ τ => f_X12_branch l τ) else if gI μ9 4 = 225 then bd (f_X12_next (mEB μ9 v n9)) (fun _ τ => f_X12_close l τ) else f_X12_close l (pI (pI (mEB μ9 v n9) 7 1) 8 (gI μ9 5)) := by
  have hp : gI μ9 16 - 1 = P + 1 := by rw [e16]; grind
  have hp2 : gI (pI μ9 17 (gI μ9 17 - 1)) 16 - 1 - 1 = P := by show gI μ9 16 - 1 - 1 = P; rw [e16]; grind
  have ho : gI μ9 17 - 1 = O := by rw [e17]; grind
  have hM : pI (pA (pI μ9 17 (gI μ9 17 - 1)) 3 v (xA μ9 18 (gI μ9 17 - 1))) 16 (gI (pI μ9 17 (gI μ9 17 - 1)) 16 - 1) = mEB μ9 v n9 := by
    rw [show xA μ9 18 (gI μ9 17 - 1) = n9 by rw [ho]; exact t18]
    rfl
  unfold f_X12_endE
  rw [red_no 1 (by rw [e16]; grind) (by rw [e16]; grind) (by rw [hp, t14]; decide), bd_of, hp, gd3200 (by grind) (by grind), gd3200 (by grind) (by grind), t14, t15, if_neg (by decide), if_neg (by decide), if_neg (by decide), if_neg (by decide), if_neg (by decide), if_pos rfl, bd_eta]
  unfold f_X12_endBranch
  rw [m_taken (by rw [ho]; exact hO0) (by rw [ho]; grind), bd_of, gd3200 hv0 hv1, hp2, gd3200 hP0 (by grind), hM, m_isS, bd_of, show gI (mEB μ9 v n9) 4 = gI μ9 4 from rfl, show (100 : Int32) + 59 = 159 from rfl, show xA (pI μ9 17 (gI μ9 17 - 1)) 15 P = l from tl]
  have h7' : gI (mEB μ9 v n9) 7 = 0 := h7
  by_cases c : gI μ9 4 = 159
  · rw [if_pos c, if_pos c, if_neg (by decide)]
    simp only [bd_eta]
  · rw [if_neg c, if_neg c, if_pos rfl, m_isS, bd_of, show gI (mEB μ9 v n9) 4 = gI μ9 4 from rfl, show (100 : Int32) + 125 = 225 from rfl]
    by_cases c2 : gI μ9 4 = 225
    · rw [if_pos c2, if_pos c2, m_acc1 h7']
      simp only [bd_eta]
    · rw [if_neg c2, if_neg c2, m_acc0 h7', bd_of, bd_eta]
      rfl
/-- the reference hangs a case's E on it -/
def mEC (μ : S5) (l n : Int32) : S5 := pA (pI μ 17 (gI μ 17 - 1)) 7 l n
theorem m_eC {μ9 : S5} {P O l n9 : Int32} (hP0 : 0 ≤ P) (hP1 : P < 3100) (e16 : gI μ9 16 = P + 1) (hO0 : 0 ≤ O) (hO1 : O < 3100) (e17 : gI μ9 17 = O + 1) (t14 : xA μ9 14 P = 5) (t15 : xA μ9 15 P = l) (t18 : xA μ9 18 O = n9) (hl0 : 0 ≤ l) (hl1 : l < 3200) : f_X12_endE μ9 = f_X12_endE_b176 l (if gI μ9 4 = 14 then 1 else 0) (mEC μ9 l n9) := by
  have hp : gI μ9 16 - 1 = P := by rw [e16]; grind
  have ho : gI μ9 17 - 1 = O := by rw [e17]; grind
  have hM : pA (pI μ9 17 (gI μ9 17 - 1)) 7 l (xA μ9 18 (gI μ9 17 - 1)) = mEC μ9 l n9 := by
    rw [show xA μ9 18 (gI μ9 17 - 1) = n9 by rw [ho]; exact t18]
    rfl
  unfold f_X12_endE
  rw [red_no 1 (by rw [e16]; grind) (by rw [e16]; grind) (by rw [hp, t14]; decide), bd_of, hp, gd3200 hP0 (by grind), gd3200 hP0 (by grind), t14, t15, if_neg (by decide), if_neg (by decide), if_neg (by decide), if_neg (by decide), if_pos rfl, m_taken (by rw [ho]; exact hO0) (by rw [ho]; grind), bd_of, gd3200 hl0 hl1, hM, show gI (pI μ9 17 (gI μ9 17 - 1)) 4 = gI μ9 4 from rfl]
  by_cases c : gI μ9 4 = 14
  · rw [if_pos c, if_pos c]
  · rw [if_neg c, if_neg c]
theorem m_176 {μ : S5} {l : Int32} (h7 : gI μ 7 = 0) (h4 : gI μ 4 = 14) : f_X12_endE_b176 l 1 μ = bd (f_X12_next μ) (fun _ τ => bd (f_X12_isSign 123 τ) (fun r τ1 => bd (f_X12_accept r τ1) (fun _ τ2 => f_X12_branch l τ2))) := by
  unfold f_X12_endE_b176
  rw [m_acc1 h7]
  simp only [bd_eta]
theorem m_176F {μ : S5} {l : Int32} (h7 : gI μ 7 = 0) : f_X12_endE_b176 l 0 μ = some ((), pI (pI μ 7 1) 8 (gI μ 5)) := by
  unfold f_X12_endE_b176 f_X12_branch
  have hF7 : ¬ gI (pI (pI μ 7 1) 8 (gI μ 5)) 7 = 0 := (by decide : ¬ (1 : Int32) = 0)
  rw [m_acc0 h7, bd_of, m_isS, bd_of, m_accF (μ := pI (pI μ 7 1) 8 (gI μ 5)) _ hF7, bd_of, if_neg (by exact (by decide : ¬ (1 : Int32) ≤ 0)), bd_of]
theorem m_brF {μ : S5} {l : Int32} (h7 : 0 < gI μ 7) : f_X12_branch l μ = some ((), μ) := by
  unfold f_X12_branch
  rw [if_neg (by grind)]
/-- what stands when a case's E is to be read -/
def CS (σ0 μ0 σ N : S5) : Prop := Sim σ N ∧ Fx σ0 μ0 σ N ∧ (gI σ 8 = gI σ0 8 ∧ gI σ 9 = gI σ0 9 ∧ gI σ 10 = gI σ0 10 ∧ gI σ 14 = gI σ0 14 + 1 ∧ gI σ 15 = gI σ0 15 ∧ gI σ0 18 < gI σ 18) ∧ (gI N 9 = gI μ0 9 + 1 ∧ gI N 16 = gI μ0 16 + 1 ∧ gI N 17 = gI μ0 17 ∧ gI N 18 = 1 ∧ gI N 19 = 1) ∧ (xA N 14 (gI μ0 16) = 5 ∧ xA N 15 (gI μ0 16) = gI μ0 9) ∧ (xA N 2 (gI μ0 9) = 3 ∧ xA N 3 (gI μ0 9) = -1 ∧ xA N 5 (gI μ0 9) = -1 ∧ xA N 10 (gI μ0 9) = 0) ∧ Gm 2 1 σ0 σ μ0 N ∧ 2 * iv N 9 + 2 * iv σ0 13 + iv σ0 18 + 1 ≤ 2 * iv μ0 9 + 2 * iv σ 13 + iv σ 18
theorem CS.ci {σ0 μ0 σ N σ7 μ9 : S5} {c n9 : Int32} (hs0 : Sim σ0 μ0) (h170 : 0 ≤ gI μ0 17) (h171 : gI μ0 17 < 3100) (h160 : 0 ≤ gI μ0 16) (h161 : gI μ0 16 < 3100) (h : CS σ0 μ0 σ N) (hC : Cor σ N c σ7 μ9 n9) : CI σ0 μ0 σ7 (mEC μ9 (gI μ0 9) n9) c (gI σ7 9) (gI σ7 10) (gI μ9 9) 0 (fun _ => 0) (fun _ => 0) (fun _ => gI σ7 9) (fun _ => gI σ7 10) (fun _ => gI μ9 9) (fun _ => c + 1) := by
  have hb0 := hs0.2.2
  unfold Bg at hb0
  obtain ⟨l1, ⟨fE, fR, fC, fM, fP, f12, f8, f9, f10, fm9, fm10, f18⟩, ⟨x8, x9, x10, x14, x15, x18⟩, ⟨y9, y16, y17, y18, y19⟩, ⟨p14, p15⟩, ⟨z2, z3, z5, z10⟩, hG, hG2⟩ := h
  obtain ⟨s1, s2, ⟨u1, u2, u3, u4, u5⟩, s4, s5, s6, s7, s8, s9, s10, s11, s12, s13, s14, s15⟩ := hC
  obtain ⟨gs1, gs2, gs3, gs4, gs5, gs6, gs7⟩ := s11
  have hb7 := s1.2.2
  unfold Bg at hb7
  rw [x15, x9, x10, y9, x8] at s12
  have hcc := s12.c
  have hbd := s12.un.1
  unfold Bd at hbd
  have hl00 : 0 ≤ gI μ0 9 ∧ gI μ0 9 < 3200 := by grind
  have hc8 := c_of1 hcc.1 s13 hb7.2.2.2.2.2.2.2.2.1
  have MI : ∀ j, ¬ j = 17 → gI (mEC μ9 (gI μ0 9) n9) j = gI μ9 j := fun j w => by
    unfold mEC
    rw [gI_pA, gI_pI, if_neg w]
  have M17 : gI (mEC μ9 (gI μ0 9) n9) 17 = gI μ9 17 - 1 := rfl
  have MA : ∀ j x, ¬ j = 7 → xA (mEC μ9 (gI μ0 9) n9) j x = xA μ9 j x := fun j x w => by
    unfold mEC
    rw [xA_pA, if_neg (fun q => w q.1), xA_pI]
  have M7 : xA (mEC μ9 (gI μ0 9) n9) 7 (gI μ0 9) = n9 := by
    unfold mEC
    rw [xA_pA, if_pos ⟨rfl, rfl⟩]
  have M7n : ∀ x, 0 ≤ x → ¬ x = gI μ0 9 → xA (mEC μ9 (gI μ0 9) n9) 7 x = xA μ9 7 x := fun x p w => by
    unfold mEC
    rw [xA_pA, if_neg (fun q => w ((i_inj p hl00.1).mp q.2)), xA_pI]
  have MB : ∀ j x, xB (mEC μ9 (gI μ0 9) n9) j x = xB μ9 j x := fun j x => rfl
  have ME : EqR μ9 (mEC μ9 (gI μ0 9) n9) := ((EqR.rf μ9).I (by decide)).A (by decide)
  have MS : Sim σ7 (mEC μ9 (gI μ0 9) n9) := s1.of ME rfl rfl rfl rfl rfl rfl rfl rfl rfl rfl
  generalize mEC μ9 (gI μ0 9) n9 = M at *
  have kl := s10.1 (gI μ0 9) hl00.1 (by rw [y9]; grind)
  have hFC := fC.tr s9 f8 f9 f10 (by grind) (by grind)
  have hFM := fM.tr s10 fm9 fm10
  have hPF := fP.tr ⟨u4, u5⟩ (by rw [y16]; grind) (by rw [y17]; exact Int32.le_refl _)
  have m9 := iv_eq (MI 9 (by decide))
  have m10 := iv_eq (MI 10 (by decide))
  refine ⟨MS, ⟨fE.tr s4, (fR.tr s5).tr ME, hFC, ⟨fun i p q => ?_, fun i p q => (MB _ _).trans (hFM.2 i p q)⟩, ⟨fun i p q => ?_, fun i p q => (MA _ _ (by decide)).trans (hPF.2 i p q)⟩, ?_, i_trans f8 gs1, i_trans f9 gs2, i_trans f10 gs3, by rw [MI 9 (by decide)]; exact i_trans fm9 gs4, by rw [MI 10 (by decide)]; exact i_trans fm10 gs5, i_trans f18 gs6⟩, ⟨by rw [s7]; exact x14, by rw [s8]; exact x15, by rw [MI 16 (by decide), u1]; exact y16, by rw [M17, u2, y17]; grind⟩, ⟨by rw [← x9]; exact gs2, Int32.le_refl _, by rw [← x10]; exact gs3, Int32.le_refl _, by rw [← y9]; exact gs4, by rw [MI 9 (by decide)]; exact Int32.le_refl _, by grind, hc8⟩, ?_, ⟨?_, ?_, ?_, ?_, fun w => absurd w (by omega)⟩, ⟨by rw [if_neg (by omega)]; exact s14, ?_⟩, by omega, ⟨rfl, rfl, rfl, rfl, rfl, (MI 9 (by decide)).symm, rfl, s13, fun i hi => absurd hi (by omega)⟩, ?_, ?_⟩
  · rw [MA 2 _ (by decide), MA 3 _ (by decide), MA 4 _ (by decide), MA 5 _ (by decide), MA 6 _ (by decide), M7n i p (by grind), MA 8 _ (by decide), MA 9 _ (by decide), MA 10 _ (by decide), MB]
    exact hFM.1 i p q
  · rw [MA 14 _ (by decide), MA 15 _ (by decide), MA 16 _ (by decide), MA 17 _ (by decide)]
    exact hPF.1 i p q
  · rw [MI 12 (by decide), MI 11 (by decide), s6]; exact f12
  · have w := u4 (gI μ0 16) h160 (by rw [y16]; grind)
    rw [MA 14 _ (by decide), MA 15 _ (by decide)]
    exact ⟨w.1.trans p14, w.2.1.trans p15⟩
  · rw [MA 2 _ (by decide), kl.1]; exact z2
  · rw [MA 5 _ (by decide), kl.2.2.2.1]; exact z5
  · rw [MA 10 _ (by decide), kl.2.2.2.2.2.2.2.2.1]; exact z10
  · rw [MA 3 _ (by decide), kl.2.1, if_neg (by omega)]; exact z3
  · rw [M7]
    refine s12.st ⟨fun i _ _ => ⟨rfl, rfl, rfl, rfl⟩, fun i _ _ => rfl, fun i _ _ => ⟨rfl, rfl, rfl, rfl⟩, fun i _ _ => rfl, fun i _ _ => rfl, fun i _ _ => ⟨rfl, rfl, rfl, rfl⟩, fun i p q => ⟨MA _ _ (by decide), MA _ _ (by decide), MA _ _ (by decide), MA _ _ (by decide), M7n i (by grind) (by grind), MA _ _ (by decide), MA _ _ (by decide), MA _ _ (by decide), MB _ _⟩, fun i _ _ _ => MA _ _ (by decide), fun i _ _ => MB _ _, by rw [MI 10 (by decide)]; exact Int32.le_refl _, rfl, fun i _ _ => rfl⟩
  · have g2 := hG.tr gs7
    unfold Gm at *
    omega
  · have g2 := hG.tr gs7
    unfold Gm at *
    omega
