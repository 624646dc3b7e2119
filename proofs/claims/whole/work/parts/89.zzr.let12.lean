theorem m_eB {μ9 : S5} {P O v n9 l : Int32} (h7 : gI μ9 7 = 0) (hP0 : 0 ≤ P) (hP1 : P < 3100) (e16 : gI μ9 16 = P + 1 + 1) (hO0 : 0 ≤ O) (hO1 : O < 3100) (e17 : gI μ9 17 = O + 1) (t14 : xA μ9 14 (P + 1) = 2) (t15 : xA μ9 15 (P + 1) = v) (tl : xA μ9 15 P = l) (t18 : xA μ9 18 O = n9) (hv0 : 0 ≤ v) (hv1 : v < 3200) : f_X12_endE μ9 = if gI μ9 4 = 144 then bd (f_X12_next (mEB μ9 v n9)) (fun _ τ => f_X12_binding l τ) else if gI μ9 4 = 12 then bd (f_X12_next (mEB μ9 v n9)) (fun _ τ => some ((), pI (pI τ 19 1) 18 1)) else some ((), pI (pI (pI (pI (mEB μ9 v n9) 7 1) 8 (gI μ9 5)) 19 1) 18 1) := by
  have hp : gI μ9 16 - 1 = P + 1 := by rw [e16]; grind
  have hp2 : gI (pI μ9 17 (gI μ9 17 - 1)) 16 - 1 - 1 = P := by show gI μ9 16 - 1 - 1 = P; rw [e16]; grind
  have ho : gI μ9 17 - 1 = O := by rw [e17]; grind
  have hM : pI (pA (pI μ9 17 (gI μ9 17 - 1)) 3 v (xA μ9 18 (gI μ9 17 - 1))) 16 (gI (pI μ9 17 (gI μ9 17 - 1)) 16 - 1) = mEB μ9 v n9 := by
    rw [show xA μ9 18 (gI μ9 17 - 1) = n9 by rw [ho]; exact t18]
    rfl
  unfold f_X12_endE
  rw [red_no 1 (by rw [e16]; grind) (by rw [e16]; grind) (by rw [hp, t14]; decide), bd_of, hp, gd3200 (by grind) (by grind), gd3200 (by grind) (by grind), t14, t15, if_neg (by decide), if_pos rfl, bd_eta]
  unfold f_X12_endBinding
  rw [m_taken (by rw [ho]; exact hO0) (by rw [ho]; grind), bd_of, gd3200 hv0 hv1, hp2, gd3200 hP0 (by grind), hM, m_isS, bd_of, show gI (mEB μ9 v n9) 4 = gI μ9 4 from rfl, show (100 : Int32) + 44 = 144 from rfl, show xA (pI μ9 17 (gI μ9 17 - 1)) 15 P = l from tl]
  have h7' : gI (mEB μ9 v n9) 7 = 0 := h7
  by_cases c : gI μ9 4 = 144
  · rw [if_pos c, if_pos c, if_neg (by decide)]
    simp only [bd_eta]
  · rw [if_neg c, if_neg c, if_pos rfl]
    unfold f_X12_endBinding_b68
    by_cases c2 : gI μ9 4 = 12
    · rw [if_pos c2, if_pos c2, m_acc1 h7']
    · rw [if_neg c2, if_neg c2, m_acc0 h7', bd_of]
      rfl
/-- the reference's end of a let -/
theorem m_endT {μ9 : S5} {P O n n9 : Int32} (hP0 : 0 ≤ P) (hP1 : P < 3100) (e16 : gI μ9 16 = P + 1) (hO0 : 0 ≤ O) (hO1 : O < 3100) (e17 : gI μ9 17 = O + 1) (t14 : xA μ9 14 P = 3) (t15 : xA μ9 15 P = n) (t18 : xA μ9 18 O = n9) (hn0 : 0 ≤ n) (hn1 : n < 3200) : f_X12_endE μ9 = some ((), mCl (pA (pI μ9 17 (gI μ9 17 - 1)) 7 n n9) n) := by
  have hp : gI μ9 16 - 1 = P := by rw [e16]; grind
  have ho : gI μ9 17 - 1 = O := by rw [e17]; grind
  unfold f_X12_endE
  rw [red_no 1 (by rw [e16]; grind) (by rw [e16]; grind) (by rw [hp, t14]; decide), bd_of, hp, gd3200 hP0 (by grind), gd3200 hP0 (by grind), t14, t15, if_neg (by decide), if_neg (by decide), if_pos rfl, m_taken (by rw [ho]; exact hO0) (by rw [ho]; grind), bd_of, gd3200 hn0 hn1, ho, t18, m_close (μ := pA (pI μ9 17 O) 7 n n9) n (by exact hO0) (by show O < 3200; grind), bd_of]
/-- the body of a let -/
theorem le_body {σ0 μ0 : S5} {E : S5 → Option (Int32 × S5)} (hE : ESp E (gI σ0 14 + 1)) (hs0 : Sim σ0 μ0) (hz : Pz 0 σ0 μ0) {k : Nat} {σ N : S5} {kk : Nat} {g cc fs fu fn ft : Nat → Int32} (hk1 : 1 ≤ k) (hkk : kk + 4 * pn σ0 + 1 ≤ 4 * pn σ) (hR : Rch kk μ0 N) (n18 : gI N 18 = 1) (n19 : gI N 19 = 1) (h : LI σ0 μ0 σ N k g cc fs fu fn ft) : Qt (bd (E σ) (fun r121 τ121 => gd r121 6200 <| bd (f_X9_add 7 0 (gI σ0 9) r121 (pI (pI (pA τ121 17 r121 (cc 0)) 15 (gI σ0 15)) 14 (gI τ121 14 - 1))) (fun r162 τ162 => some (r162, τ162)))) (Out (4 * pn σ0) (fun μ' => gI μ' 20 = 1) (fun k => rkK k = 0) abE σ0 μ0 μ0) := by
  have hb0 := hs0.2.2
  unfold Bg at hb0
  obtain ⟨h160, h161, h170, h171⟩ := hz.rg hb0.2.2.2.2.2.2.2.1 (by decide)
  have hl := h
  obtain ⟨l1, ⟨fE, fR, fC, fM, fP, f12, f8, f9, f10, fm9, fm10, f18⟩, ⟨x14, x15, x16, x17, x9, q9⟩, ⟨p14, p15⟩, ly, lz, lBN, hRG, hG, hG2⟩ := hl
  have hIn := hE.2 σ N l1 (by rw [n19]; decide) (by rw [n18]; decide) (by
    have i16 := iv_a1 x16 (by grind) (by grind)
    have i17 := iv_eq x17
    have i14 := iv_a1 x14 (by grind) (by grind)
    unfold Pz at *
    omega) (by rw [x14]; exact Int32.le_refl _) (by rw [x16, show gI μ0 16 + 1 - 1 = gI μ0 16 by grind, p14]; decide)
  refine Qt.bd hIn (fun c σ7 ow => ?_)
  rcases ow with ⟨μ9, n9, k2, o1, o2, o3, o4, o5⟩ | ⟨f, pp, mm, k2, o1, o2, o3, o4, o5⟩
  · have hc1 := o3.1
    have hb7 := hc1.2.2
    unfold Bg at hb7
    obtain ⟨u1, u2, u3, u4, u5⟩ := o3.2.2.1
    have hcc := o3.2.2.2.2.2.2.2.2.2.2.2.1.c
    have u4t := u4 (gI μ0 16) (by grind) (by rw [x16]; grind)
    have hend := m_endT (μ9 := μ9) (P := gI μ0 16) (O := gI μ0 17) (n := gI μ0 9) (n9 := n9) (by grind) (by grind) (by rw [u1, x16]) h170 (by grind) (by rw [u2, x17]) (u4t.1.trans p14) (u4t.2.1.trans p15) (by rw [← x17]; exact u3) (by grind) (by grind)
    have hgen := le_fin hs0 hz h hk1 o3 (fs3_of σ7 (gI σ0 9) c (cc 0) (gI σ0 15) hcc.1) (fm7_cl (μ9 := μ9) (gI μ0 9) n9 (O := gI μ0 17) (by rw [u2, x17]; grind)) ((wd_FS3 hc1.1).Cl7)
    have hrk0 : rkM (gI μ9 4) ≤ 0 := by rw [hc1.1.2.2.1, rk_eq hc1.1.2.2.2.1, o5]; decide
    have ht2 := tn_end hb7.2.1 (by rw [u1, x16]; grind) o3.2.1 (by rw [o4]; decide) hrk0 (by rw [pI_self μ9 20 o4]; exact hend)
    rw [gd6200 hcc.1 hcc.2, c_addN (σ := pI (pI (pA σ7 17 c (cc 0)) 15 (gI σ0 15)) 14 (gI σ7 14 - 1)) 7 0 (gI σ0 9) c (by show 0 ≤ gI σ7 8; grind) (by show gI σ7 8 < 6200; grind), bd_of]
    refine Qt.so (Or.inl ⟨_, gI μ0 9, kk + k2 + 1, ?_, (hR.tr o2).tr ht2, hgen, o4, o5⟩)
    have hq : pn (cN (pI (pI (pA σ7 17 c (cc 0)) 15 (gI σ0 15)) 14 (gI σ7 14 - 1)) 7 0 (gI σ0 9) c) = pn σ7 := rfl
    omega
  · rw [gd6200 o4 o5, bd_eta']
    exact (dm_add9 _ _ _ _ (Dm14 _ (Dm15 (Dm17 _ _ o3) (by grind) (by grind)))).mono (fun c3 σ8 w => Or.inr ⟨f, pp, mm, kk + k2, by omega, hR.die o2 f12 fR, w.1, w.2.1, w.2.2⟩)
