/-- the next word reduces a sign of rank r -/
def Lv (r k : Int32) : Prop := rkK k = 0 ∨ (if rkK k = 1 then 2 else rkK k) ≤ r
theorem bd_as {α β γ : Type} (x : Option (α × S5)) (f : α → S5 → Option (β × S5)) (g : β → S5 → Option γ) : bd (bd x f) g = bd x (fun a τ => bd (f a τ) g) := by
  cases x with
  | none => rfl
  | some q => rfl
theorem rk_0 {k : Int32} (h : okK k = true) : 0 ≤ rkK k ∧ rkK k ≤ 3 := by
  have := okK_all (fun k => decide (0 ≤ rkK k ∧ rkK k ≤ 3)) (by decide +kernel) h
  exact of_decide_eq_true this
theorem rd_go {σ2 μ2 : S5} {d : Nat} {r : Int32} (hw : Wd σ2 μ2) (hd : d ≤ 3) (hB : PB (d + 1) μ2) (ho : nI (d + 1) + 1 ≤ gI μ2 17) (hr : xA μ2 16 (gI μ2 16 - 1) = r) (hr1 : 1 ≤ r) (h7 : gI μ2 7 = 0) (h19 : gI μ2 19 = 0) (h20 : gI μ2 20 = 1) (h21 : gI μ2 21 = 0) (hl : Lv r (gI σ2 17)) : Rch 0 μ2 (mRd μ2) := by
  have hB' := hB
  obtain ⟨a1, a2, a3, a4, a5, a6⟩ := hB'
  have hn : nI (d + 1) = nI d + 1 := (nI_add1 d).symm
  have hb : 0 ≤ nI d ∧ nI d ≤ 4 := ⟨i_le0 (nI_nneg (by omega)), (nI_le31 (b := 4) (by omega) (by omega)).mpr (by omega)⟩
  rw [hn] at a1
  have hrk := rk_eq hw.2.2.2.1
  rw [← hw.2.2.1] at hrk
  have hrk0 := rk_0 hw.2.2.2.1
  have e7 : gI (mRd μ2) 7 = 0 := (mRd_gI μ2 (by decide) (by decide)).trans h7
  have e19 : gI (mRd μ2) 19 = 0 := (mRd_gI μ2 (by decide) (by decide)).trans h19
  have e20 : gI (mRd μ2) 20 = 1 := (mRd_gI μ2 (by decide) (by decide)).trans h20
  have e21 : gI (mRd μ2) 21 = 0 := (mRd_gI μ2 (by decide) (by decide)).trans h21
  have e4 : gI (mRd μ2) 4 = gI μ2 4 := mRd_gI μ2 (by decide) (by decide)
  have e16 : gI (mRd μ2) 16 = gI μ2 16 - 1 := rfl
  intro m
  show f_X12_readE_B22 (f_X12_readE_L22 m) μ2 = f_X12_readE_B22 (f_X12_readE_L22 m) (mRd μ2)
  unfold f_X12_readE_B22 f_X12_readE_b88
  rw [if_pos h7, if_pos e7, if_neg (by grind), if_neg (show ¬ gI (mRd μ2) 16 ≤ 0 by rw [e16]; grind), if_pos h19, if_pos e19, if_neg (by rw [h20]; decide), if_neg (show ¬ gI (mRd μ2) 20 = 0 by rw [e20]; decide), m_rank, m_rank, bd_of, bd_of, e4, hrk]
  by_cases c0 : rkK (gI σ2 17) ≤ 0
  · rw [if_pos c0, if_pos c0, m_rank, m_rank, bd_of, bd_of, hrk, if_pos c0, if_pos c0, pI_self μ2 20 h20, pI_self (mRd μ2) 20 e20]
    unfold f_X12_endE
    rw [red_eq hd hB ho (by rw [hr]; grind)]
  · rw [if_neg c0, if_neg c0, if_pos h21, if_pos e21, m_rank, m_rank, bd_of, bd_of, hrk, if_neg c0, if_neg c0]
    unfold f_X12_signE f_X12_signE_b19
    rw [m_rank, m_rank, bd_of, bd_of, e4, hrk]
    have hl2 : (if rkK (gI σ2 17) = 1 then 2 else rkK (gI σ2 17)) ≤ r := by
      rcases hl with hl | hl
      · exact absurd (by rw [hl]; decide) c0
      · exact hl
    by_cases c1 : rkK (gI σ2 17) = 1
    · rw [if_pos c1] at hl2
      rw [if_pos c1, if_pos c1, red_eq hd hB ho (by rw [hr]; grind)]
    · rw [if_neg c1] at hl2
      rw [if_neg c1, if_neg c1, red_eq hd hB ho (by rw [hr]; grind)]
/-- the pile behind a sign -/
theorem PB.up {μ0 μ2 : S5} {d : Nat} {ns : Int32} (hd : d ≤ 3) (h : PB d μ0) (e16 : gI μ2 16 = gI μ0 16 + 1) (e17 : gI μ2 17 = gI μ0 17 + 2) (h161 : gI μ0 16 < 3000) (h171 : gI μ0 17 < 3000) (t14 : xA μ2 14 (gI μ0 16) = 7) (t15 : xA μ2 15 (gI μ0 16) = ns) (hn : 0 ≤ ns) (hn' : ns < 3200) (hf : ∀ i, 0 ≤ i → i < gI μ0 16 → xA μ2 14 i = xA μ0 14 i ∧ xA μ2 15 i = xA μ0 15 i) : PB (d + 1) μ2 ∧ nI (d + 1) + 1 ≤ gI μ2 17 := by
  obtain ⟨a1, a2, a3, a4, a5, a6⟩ := h
  have hnd : nI (d + 1) = nI d + 1 := (nI_add1 d).symm
  have hb : 0 ≤ nI d ∧ nI d ≤ 3 := ⟨i_le0 (nI_nneg (by omega)), (nI_le31 (b := 3) (by omega) (by omega)).mpr hd⟩
  have e1 : gI μ2 16 - 1 - nI (d + 1) = gI μ0 16 - 1 - nI d := by rw [e16, hnd]; grind
  have f1 := hf (gI μ0 16 - 1 - nI d) (by grind) (by grind)
  unfold PB
  rw [e1, f1.1, hnd, e16, e17]
  refine ⟨⟨by grind, by grind, by grind, by grind, a5, fun i hi => ?_⟩, by grind⟩
  by_cases c : i = 0
  · subst c
    rw [show gI μ0 16 + 1 - 1 - nI 0 = gI μ0 16 by rw [show nI 0 = 0 from rfl]; grind, t14, t15]
    exact ⟨rfl, hn, hn'⟩
  · obtain ⟨j, rfl⟩ : ∃ j, i = j + 1 := ⟨i - 1, by omega⟩
    have hj : 0 ≤ nI j ∧ nI j < nI d := ⟨i_le0 (nI_nneg (by omega)), (nI_lt31 (by omega) (by omega)).mpr (by omega)⟩
    have e2 : gI μ0 16 + 1 - 1 - nI (j + 1) = gI μ0 16 - 1 - nI j := by rw [← nI_add1]; grind
    have f2 := hf (gI μ0 16 - 1 - nI j) (by grind) (by grind)
    rw [e2, f2.1, f2.2]
    exact a6 j (by omega)
theorem bin_step {σ0 μ0 σ μ : S5} {c n r : Int32} {d : Nat} {X : S5 → Option (Int32 × S5)} {K B : Int32 → Prop} (hs0 : Sim σ0 μ0) (hC : Cor σ0 μ0 c σ μ n) (f20 : gI μ 20 = 1) (f21 : gI μ 21 = 0) (hr : rkK (gI σ 17) = r) (hr0 : 0 < r) (hT : Tk r μ0) (hd : d ≤ 2) (hPB : PB d μ0) (h160 : 0 < gI μ0 16) (h161 : gI μ0 16 < 3000) (h170 : 0 ≤ gI μ0 17) (h171 : gI μ0 17 < 2990) (hX : ∀ σ1 μ1, SG σ μ σ1 μ1 (gI σ 17) r → Qt (X σ1) (Out (4 * pn σ1) (fun μ' => gI μ' 20 = 1 ∧ gI μ' 21 = 0) K B σ1 μ1 μ1)) (hXs : ∀ (f p n : Int32) (σ : S5), St f p n σ → X σ = some (0, σ)) (hbad : ∀ k, okK k = true → K k → ¬ Lv r k → r = 1 ∧ rkK k = 1 ∧ B k) : Qt (bd (f_X5_readSign σ) (fun s τ => bd (X τ) (fun c2 τ2 => f_X5_join s c c2 τ2))) (Out (4 * pn σ + 1) (fun μ' => gI μ' 20 = 1 ∧ gI μ' 21 = 0) (fun k => K k ∧ Lv r k) B σ0 μ0 μ) := by
  have hcc := hC.2.2.2.2.2.2.2.2.2.2.2.1.c
  obtain ⟨r1, r2, ⟨t1, t2, t3, t4, t5⟩, r4, r5, r6, r7, r8, r9, r10, r11, r12, r13, r14, r15⟩ := id hC
  have hpn3 := pn_3 r1
  have hp3 := r1.p3
  have hTm : Tk r μ := by
    have x := t4 (gI μ0 16 - 1) (by grind) (by grind)
    unfold Tk at *
    rw [t1, x.1, x.2.2.1]
    exact hT
  rcases sg_go r1 f20 f21 r2 hr hr0 hTm (by rw [t1]; exact h160) (by rw [t1]; exact h161) with ⟨σ1, μ1, e1, e2, e3⟩ | ⟨σ1, e1, e2, e3⟩
  · rw [e1, bd_of]
    obtain ⟨g1, gE, gR, gFC, gFM, gPF, ⟨x8, x9, x10, x13, x14, x15, x18⟩, ⟨q9, q10, q11, q12, q16, q17, q18, q19⟩, ⟨n2', n10', n5', n7'⟩, ⟨p14, p15, p16⟩, gG⟩ := id e3
    have hpn1 : pn σ + 1 ≤ pn σ1 := pn_lt hp3.1 x18
    refine Qt.bd (hX σ1 μ1 e3) (fun c2 σ2 ho => ?_)
    rcases ho with ⟨μ2, n2, k, o1, o2, o3, o4, o5⟩ | ⟨f, pp, mm, k, o1, o2, o3, o4, o5⟩
    · obtain ⟨j1, j2⟩ := bin_cor hs0 hC e3 o3 (by rw [hr]; exact hr0) h160 h161 h170 (by grind)
      obtain ⟨s1, s2, ⟨u1, u2, u3, u4, u5⟩, s4, s5, s6, s7⟩ := id o3
      have hpn2 := pn_3 s1
      have hb2 := s1.2.2
      have hbL := r1.2.2
      unfold Bg at hb2 hbL
      have y16 : gI μ2 16 = gI μ0 16 + 1 := by rw [u1, q16, t1]
      have y17 : gI μ2 17 = gI μ0 17 + 2 := by rw [u2, q17, t2]; grind
      rw [t1] at p14 p15 p16
      have hPt := u4 (gI μ0 16) (by grind) (by rw [q16, t1]; grind)
      have hup := hPB.up (μ2 := μ2) (ns := gI μ 9) (by omega) y16 y17 h161 (by grind) (hPt.1.trans p14) (hPt.2.1.trans p15) (by grind) (by grind) (fun i p q => by
        have z1 := u4 i p (by rw [q16, t1]; grind)
        have z2 := gPF.1 i p (by rw [t1]; exact q)
        have z3 := t4 i p q
        exact ⟨(z1.1.trans z2.1).trans z3.1, (z1.2.1.trans z2.2.1).trans z3.2.1⟩)
      have htr : xA μ2 16 (gI μ2 16 - 1) = r := by
        rw [y16, show gI μ0 16 + 1 - 1 = gI μ0 16 by grind]; exact hPt.2.2.1.trans p16
      have hS17 : gI (cN (pA σ2 17 c c2) 5 (gI σ 17) 0 c) 17 = gI σ2 17 := rfl
      have hSpn : pn (cN (pA σ2 17 c c2) 5 (gI σ 17) 0 c) = pn σ2 := rfl
      have m20 : gI (mRd μ2) 20 = 1 := (mRd_gI μ2 (by decide) (by decide)).trans o4.1
      have m21 : gI (mRd μ2) 21 = 0 := (mRd_gI μ2 (by decide) (by decide)).trans o4.2
      refine Qt.eq j1 ?_
      by_cases hl : Lv r (gI σ2 17)
      · have hrd := rd_go (d := d) s1.1 (by omega) hup.1 hup.2 htr (by grind) hb2.2.1 s2 o4.1 o4.2 hl
        exact Or.inl ⟨mRd μ2, gI μ 9, 1 + k + 0, by omega, (e2.tr o2).tr hrd, j2, ⟨m20, m21⟩, ⟨o5, hl⟩⟩
      · obtain ⟨w1, w2, w3⟩ := hbad _ s1.1.2.2.2.1 o5 hl
        have hrk := rk_eq s1.1.2.2.2.1
        rw [← s1.1.2.2.1, w2] at hrk
        have hsg : f_X12_signE μ2 = some ((), pI (pI μ2 7 1) 8 (gI μ2 5)) := by
          unfold f_X12_signE f_X12_signE_b19
          rw [m_rank, bd_of, hrk, if_pos rfl, red_stop 2 (by grind) (by grind) (Or.inr (by rw [htr, w1]; decide)), bd_of, if_pos rfl, gd3200 (by grind) (by grind), if_pos (by rw [y16, show gI μ0 16 + 1 - 1 = gI μ0 16 by grind]; exact hPt.1.trans p14), bd_eta, m_wrong0 hb2.2.1]
        have hts := tn_sign hb2.2.1 (by grind) s2 (by rw [o4.1]; decide) o4.2 (by rw [hrk]; decide) hsg
        have hrg := s1.rg
        refine Or.inr ⟨1, gI σ2 18, gI σ2 13, 1 + k + 1, by omega, die_of ((e2.tr o2).tr hts) (by decide) rfl ?_ ?_ ?_ ?_, Or.inr ⟨rfl, hb2.1, okK_ne s1.1.2.2.2.1, w3, rfl, rfl, ?_⟩, by grind, by grind⟩
        · show gI μ2 5 = gI σ2 18
          exact s1.1.2.2.2.2.1.symm
        · show gI μ2 11 = gI σ2 13
          exact hb2.2.2.1.symm
        · show gI μ2 12 - gI μ2 11 = gI μ0 12 - gI μ0 11
          rw [s6, q12, q11, ← r6]; grind
        · exact ((((r5.tr gR).tr s5).I (by decide)).I (by decide))
        · obtain ⟨a1, a2, a3, a4, a5, a6, a7, a8⟩ := hrg
          exact ⟨by show 0 ≤ gI σ2 8 + 1; grind, by show gI σ2 8 + 1 ≤ 6200; grind, a3, a4, a5, a6, a7, a8⟩
    · refine (dm_join (gI σ 17) c c2 o3 hcc.1 hcc.2).mono (fun c3 σ3 w => Or.inr ⟨f, pp, mm, 1 + k, by omega, e2.die o2 ?_ (r5.tr gR), w.1, w.2.1, w.2.2⟩)
      rw [q12, q11, ← r6]; grind
  · rw [e1, bd_of, hXs _ _ _ _ e2, bd_of]
    exact (dm_join (gI σ 17) c 0 (Or.inl e2) hcc.1 hcc.2).mono (fun c3 σ3 w => Or.inr ⟨4, gI σ 18, gI σ 13, 1, by omega, e3.base r6 r5, w.1, w.2.1, w.2.2⟩)
