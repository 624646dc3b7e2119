theorem fh_top {σ μ σ2 μ2 : S5} {k : Nat} (h1 : FN1 σ μ σ2 μ2 k) (h90 : 0 ≤ gI σ 9) (h91 : gI σ 9 ≤ 10000) : ∃ σ1 : S5, gI σ1 9 = gI σ 9 ∧ (∀ j, ¬ j = 9 → gI σ1 j = gI σ2 j) ∧ FrC σ σ1 ∧ EqE σ2 σ1 ∧ FHd 0 (-1) σ1 μ2 σ2 μ2 (gI μ 9) (gI σ 18) (gI μ 5) (-1) 12 (gI σ 9) := by
  obtain ⟨n1, n18, nI', ⟨n5, n6, n9'⟩, n2, nF, ni, nk, ns, ⟨mI, m9, m13, mF⟩, mi, mk, mr, mT⟩ := h1
  refine ⟨pI σ2 9 (gI σ 9), rfl, fun j w => by rw [gI_pI, if_neg w], nF, (EqE.rf σ2).I (by decide), ⟨fun j q => by rw [gI_pI, if_neg (by omega)], fun _ _ => rfl, fun _ _ => rfl, fun _ _ => rfl, rfl⟩, EqR.rf μ2, ⟨fun i _ _ => ⟨rfl, rfl, rfl, rfl, rfl⟩, fun i _ _ => ⟨rfl, rfl, rfl, rfl, rfl⟩, fun i _ _ => rfl, fun i _ _ => ⟨rfl, rfl, rfl, rfl⟩⟩, FrM.pI9 (fun i _ _ => ⟨rfl, rfl, rfl, rfl, rfl, rfl, rfl, rfl, rfl, rfl⟩) (fun i _ _ => rfl), ⟨fun i _ _ => ⟨rfl, rfl, rfl, rfl⟩, fun i _ _ => rfl⟩, rfl, ⟨rfl, n9', rfl, rfl, rfl⟩, ⟨m9, Int32.le_refl _, rfl, rfl⟩, ⟨ns.2.1, ns.2.2.1, ns.2.2.2⟩, ⟨mr.1, mr.2.1, mr.2.2.1, rfl, rfl, rfl⟩, ?_, ?_⟩
  · have : iv (pI σ2 9 (gI σ 9)) 18 = iv σ2 18 := iv_eq rfl
    omega
  · have i8 : iv (pI σ2 9 (gI σ 9)) 8 = iv σ2 8 := iv_eq rfl
    have i9 : iv (pI σ2 9 (gI σ 9)) 9 = iv σ 9 := iv_eq rfl
    have i10 : iv (pI σ2 9 (gI σ 9)) 10 = iv σ2 10 := iv_eq rfl
    have i13 : iv (pI σ2 9 (gI σ 9)) 13 = iv σ2 13 := iv_eq rfl
    have i18 : iv (pI σ2 9 (gI σ 9)) 18 = iv σ2 18 := iv_eq rfl
    have j9 := iv_a1 n9' h90 h91
    unfold Gm
    omega
/-- the E of a function, and its end -/
theorem fn_E {μ0 σ μ σ1 σ2 μ2 σ6 N : S5} {E : S5 → Option (Int32 × S5)} {k j : Nat} {cc fs fu fn ft : Nat → Int32} (hE : ESp E 0) (h : TP μ0 σ μ k cc fs fu fn ft) (hk : k ≤ 29) (hz : gJ σ 0 = gJ μ 0) (hnew : ∀ i, i < k → ¬ xB σ 1 (nI i) = gJ σ 0) (h1 : FN1 σ μ σ2 μ2 k) (e9 : gI σ1 9 = gI σ 9) (eI : ∀ j, ¬ j = 9 → gI σ1 j = gI σ2 j) (eF : FrC σ σ1) (eE : EqE σ2 σ1) (hH : BH2 (-1) 12 0 σ1 μ2 σ6 N (gI μ 9) (gI σ 18) (gI μ 5) (-1) (gI σ 9) j) : (∃ (σ' μ' : S5) (cc' fs' fu' fn' ft' : Nat → Int32), fT E (gI σ 9) σ6 = some ((), σ') ∧ f_X12_readE_L22 FU N = some ((), μ') ∧ gI σ 18 < gI σ' 18 ∧ TP μ0 σ' μ' (k + 1) cc' fs' fu' fn' ft') ∨ (∃ (f p n : Int32) (σ' μ' : S5), fT E (gI σ 9) σ6 = some ((), σ') ∧ f_X12_readE_L22 FU N = some ((), μ') ∧ TD μ0 f p n σ' μ') := by
  have hl := h
  obtain ⟨hs, hbm, ⟨h15, h14, h16, h17, hs7⟩, -, h12, hT, -⟩ := hl
  have hbs := hs.2.2
  have hps := hs.p3
  unfold Bv at hbs
  have hs00 : 0 ≤ gI σ 9 ∧ gI σ 9 < 690 := ⟨hbs.2.2.2.2.2.2.2.2.2.2.1, by have := hbs.2.2.2.2.2.2.2.2.2.2.2.1; grind⟩
  have hn00 : 0 ≤ gI μ 9 ∧ gI μ 9 < 3200 := ⟨hbs.2.2.2.2.2.2.2.2.2.2.2.2.2.2.2.2.1, by have := hbs.2.2.2.2.2.2.2.2.2.2.2.2.2.2.2.2.2.1; grind⟩
  have hf1 := h1
  obtain ⟨n1, n18, nI', ⟨n5, n6, n9'⟩, n2, nF, ni, nk, ns, ⟨mI, m9, m13, mF⟩, mi, mk, mr, mT⟩ := hf1
  have hH' := hH
  obtain ⟨NS, SE6, NE, SC, NM', NP, N12, ⟨g8, g9, g10, g14, g15⟩, ⟨N9, N10, N16, N17, N18, N19⟩, gy, gn, gz, ⟨t14, t15⟩, S18, -⟩ := hH'
  have q16 : gI μ2 16 = 0 := (mI 16 (by decide) (by decide) (by decide)).trans h16
  have q17 : gI μ2 17 = 0 := (mI 17 (by decide) (by decide) (by decide)).trans h17
  have z16 : gI N 16 = 1 := by rw [N16, q16]; decide
  have z17 : gI N 17 = 0 := N17.trans q17
  have z14 : gI σ6 14 = 0 := by rw [g14, eI 14 (by decide), nI' 14 (by decide) (by decide) (by decide) (by decide)]; exact h14
  have z15 : gI σ6 15 = -1 := by rw [g15, eI 15 (by decide), nI' 15 (by decide) (by decide) (by decide) (by decide)]; exact h15
  rw [q16] at t14 t15
  have hIn := hE.2 (pI σ6 15 (gI σ1 9)) N NS (by rw [N19]; decide) (by rw [N18]; decide) (by
    have i16 : iv N 16 = 1 := by unfold iv; rw [z16]; rfl
    have i17 : iv N 17 = 0 := by unfold iv; rw [z17]; rfl
    have i14 : iv (pI σ6 15 (gI σ1 9)) 14 = 0 := by show (gI σ6 14).toInt = 0; rw [z14]; rfl
    unfold Pz
    omega) (by show 0 ≤ gI σ6 14; rw [z14]; decide) (by rw [z16, show (1 : Int32) - 1 = 0 from rfl, t14]; decide)
  have hpn6 := pn_3 NS
  obtain ⟨c, σ7, e1, ow⟩ := hIn
  rw [e9] at e1
  have hcl : fT E (gI σ 9) σ6 = bd (f_X5_expect 59 (pA (pI σ7 15 (-1)) 23 (gI σ 9) c)) (fun _ τ140 => some ((), τ140)) := by
    unfold fT f_X5_readWithin
    rw [e1, bd_of, bd_of, z15, gd700 hs00.1 (by grind)]
  have hd0 : gI N 12 - gI N 11 = gI μ0 12 := by rw [N12, mI 12 (by decide) (by decide) (by decide), mI 11 (by decide) (by decide) (by decide)]; exact h12
  have hT0 : EqT μ0 N := (hT.tr mT).tr NE.t
  rw [hcl, bd_eta]
  rcases ow with ⟨μ9, n9, kk, o1, o2, o3, o4, o5⟩ | ⟨f, pp, mm, kk, o1, o2, o3, o4, o5⟩
  · have hc1 := o3.1
    have hb7 := hc1.2.2
    have hp7 := hc1.p3
    have hpn7 := pn_3 hc1
    have hrg := hc1.rg
    unfold Bg at hb7
    obtain ⟨u1, u2, u3, u4, u5⟩ := o3.2.2.1
    rw [z17] at u3
    have u40 := u4 0 (by decide) (by rw [z16]; decide)
    have e16 : gI μ9 16 = 1 := u1.trans z16
    have e17 : gI μ9 17 = 1 := by rw [u2, z17]; decide
    have hend := m_eF (n := gI μ 9) (n9 := n9) hb7.2.1 e16 e17 (u40.1.trans t14) (u40.2.1.trans t15) u3 hn00.1 hn00.2
    have hrk0 : rkM (gI μ9 4) ≤ 0 := by rw [hc1.1.2.2.1, rk_eq hc1.1.2.2.2.1, o5]; decide
    have htn : ∀ τ, f_X12_endE μ9 = some ((), τ) → Rch (kk + 1) N τ := fun τ he => o2.tr (tn_end hb7.2.1 (by rw [e16]; decide) o3.2.1 (by rw [o4]; decide) hrk0 (by rw [pI_self μ9 20 o4]; exact he))
    have w3 := hc1.1.2.2.1
    have w4 := hc1.1.2.2.2.1
    have hgr18 : gI σ6 18 ≤ gI σ7 18 := o3.2.2.2.2.2.2.2.2.2.2.1.2.2.2.2.2.1
    by_cases c59 : gI σ7 17 = 59
    · left
      have hm59 : gI μ9 4 = 159 := by rw [w3, c59]; decide
      have hW := (hc1.1.fnS (s := gI σ 9) (c := c) (h := -1)).fnM (n := gI μ 9) (m := n9)
      obtain ⟨e, kc, p, vv, z, vm, zm, a1, a2, a3, a4, a5, a6⟩ := adv hW (by show ¬ gI σ7 17 = 1; rw [c59]; decide)
      have a4' : gI σ7 18 < p := a4
      have hex : f_X5_expect 59 (pA (pI σ7 15 (-1)) 23 (gI σ 9) c) = some ((), wdC (pA (pI σ7 15 (-1)) 23 (gI σ 9) c) e kc p vv z) := by
        unfold f_X5_expect
        rw [if_pos (show gI (pA (pI σ7 15 (-1)) 23 (gI σ 9) c) 17 = 59 from c59), a1, bd_of]
      have m16 : gI (wdM (pA (pI μ9 17 0) 3 (gI μ 9) n9) e (kMd kc) p vm zm) 16 = 1 := (gI_wdM (by decide)).trans e16
      rw [if_pos hm59, a2, bd_of, m16, show (1 : Int32) - 1 = 0 from rfl] at hend
      have hrun := rE_run (by omega) (htn _ hend) (Or.inr (by exact (by decide : (0 : Int32) ≤ 0)))
      have p18 : gI (wdC (pA (pI σ7 15 (-1)) 23 (gI σ 9) c) e kc p vv z) 18 = p := p_wdC
      have hfin := fn_fin (S := wdC (pA (pI σ7 15 (-1)) 23 (gI σ 9) c) e kc p vv z) (M := pI (wdM (pA (pI μ9 17 0) 3 (gI μ 9) n9) e (kMd kc) p vm zm) 16 0) h hk hz hnew h1 e9 eI eF eE hH o3 (fun j w w1 => (gI_wdC (Or.inl w)).trans ((gI_pA ..).trans (by rw [gI_pI, if_neg w1]))) ((gI_wdC (by decide)).trans rfl) (by rw [p18]; exact a4') (fun j x w => (xA_wdC ..).trans (by rw [xA_pA, if_neg (fun q => w q.1), xA_pI])) (fun x => (xA_wdC ..).trans (by rw [xA_pA, xA_pI]; simp)) (fun j x => xB_wdC ..) ((((EqE.rf σ7).I (by decide)).A (by decide)).w) (fun j w w1 w2 => by rw [gI_pI, if_neg w1, gI_wdM (Or.inr w), gI_pA, gI_pI, if_neg w2]) rfl (by rw [gI_pI, if_neg (by decide), gI_wdM (by decide)]; rfl) (fun j x w => by rw [xA_pI, xA_wdM, xA_pA, if_neg (fun q => w q.1), xA_pI]) (fun x => by rw [xA_pI, xA_wdM, xA_pA, xA_pI]; simp) (fun j x => rfl) (((((EqR.rf μ9).I (by decide)).A (by decide)).w).I (by decide)) (a3.I16) (by rw [p18]; exact a6)
      refine ⟨_, _, _, _, _, _, _, hex, hrun, ?_, hfin⟩
      rw [p18]
      have := Int32.lt_iff_toInt_lt.mpr (show iv σ 18 < iv σ6 18 by have := iv_eq (show gI σ1 18 = gI σ2 18 from eI 18 (by decide)); omega)
      grind
    · right
      have hm59 : ¬ gI μ9 4 = 159 := by rw [w3]; intro q; exact c59 ((kMd_at 59 (by decide +kernel) w4).mp (by rw [q]; decide))
      rw [if_neg hm59, bd_of] at hend
      have hrun := rE_run (by omega) (htn _ hend) (Or.inl (by exact (by decide : ¬ (1 : Int32) = 0)))
      have hrS : rg (pA (pI σ7 15 (-1)) 23 (gI σ 9) c) := by
        obtain ⟨a1, a2, a3, a4, a5, a6, a7, a8⟩ := hrg
        exact ⟨a1, a2, a3, a4, by exact (by decide : (-1 : Int32) ≤ -1), by exact (by decide : (-1 : Int32) < 700), a7, a8⟩
      obtain ⟨_, τ, f1, f2⟩ := dm_expect (σ := pA (pI σ7 15 (-1)) 23 (gI σ 9) c) (f := 1) (p := gI σ7 18) (n := gI σ7 13) (B := fun x => ¬ x = 59) 59 (fun x hx => hx) (by decide) (Or.inr ⟨rfl, hb7.1, okK_ne w4, c59, rfl, rfl, hrS⟩)
      refine ⟨1, gI σ7 18, gI σ7 13, τ, _, f1, hrun, f2, rfl, hc1.1.2.2.2.2.1.symm, hb7.2.2.1.symm, ?_, ?_⟩
      · exact (o3.2.2.2.2.2.1).trans hd0
      · exact hT0.tr (((((((o3.2.2.2.2.1).I (by decide)).A (by decide)).I (by decide)).I (by decide)).I (by decide)).t)
  · right
    obtain ⟨_, τ, f1, f2⟩ := dm_expect (B := abE) 59 (fun x hx => hx.2.2.2.1) (by decide) (Dm23 (gI σ 9) c (Dm15 (v := -1) o3 (by decide) (by decide)))
    obtain ⟨μ', y1, y2, y3, y4, y5, y6⟩ := die_run (by omega) o2
    exact ⟨f, pp, mm, τ, μ', f1, y1, f2, y2, y3, y4, y5.trans hd0, hT0.tr y6.t⟩
