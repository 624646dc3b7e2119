/-- a case has been read by both -/
theorem ca_fin {σ0 μ0 σ μ : S5} {c0 s1 u1 a1 : Int32} {k : Nat} {g cc fs fu fn ft : Nat → Int32} (hs0 : Sim σ0 μ0) (hz : Pz 0 σ0 μ0) (h : CI σ0 μ0 σ μ c0 s1 u1 a1 k g cc fs fu fn ft) (hk1 : 1 ≤ k) (h19 : gI μ 19 = 0) : Cor σ0 μ0 (gI σ 8) (cN (pI σ 14 (gI σ 14 - 1)) 6 0 0 c0) (mCl μ (gI μ0 9)) (gI μ0 9) := by
  have hb0 := hs0.2.2
  unfold Bg at hb0
  obtain ⟨h160, h161, h170, h171⟩ := hz.rg hb0.2.2.2.2.2.2.2.1 (by decide)
  obtain ⟨l1, ⟨fE, fR, fC, fM, fP, f12, f8, f9, f10, fm9, fm10, f18⟩, ⟨x14, x15, x16, x17⟩, ⟨r1, r2, r3, r4, r5, r6, r7, r8⟩, ⟨p14, p15⟩, ⟨z2, z5, z10, z3, z4⟩, ⟨a17, aT⟩, hk8, hRG, hG, hG2⟩ := h
  have hb1 := l1.2.2
  have hp1 := l1.p3
  unfold Bg at hb1
  have hbd := aT.un.1
  unfold Bd at hbd
  have hl00 : 0 ≤ gI μ0 9 ∧ gI μ0 9 < 3200 := by grind
  have hr := cN_row (pI σ 14 (gI σ 14 - 1)) 6 0 0 c0
  rw [show gI (pI σ 14 (gI σ 14 - 1)) 8 = gI σ 8 from rfl] at hr
  have hf : FrC σ (cN (pI σ 14 (gI σ 14 - 1)) 6 0 0 c0) := FrC.N (pI σ 14 (gI σ 14 - 1)) 6 0 0 c0
  have SI : ∀ j, ¬ j = 8 → ¬ j = 14 → gI (cN (pI σ 14 (gI σ 14 - 1)) 6 0 0 c0) j = gI σ j := fun j h1 h2 => by rw [cN_gI _ _ _ _ _ h1, gI_pI, if_neg h2]
  have S8 : gI (cN (pI σ 14 (gI σ 14 - 1)) 6 0 0 c0) 8 = gI σ 8 + 1 := rfl
  have S14 : gI (cN (pI σ 14 (gI σ 14 - 1)) 6 0 0 c0) 14 = gI σ 14 - 1 := rfl
  have SE : EqE σ (cN (pI σ 14 (gI σ 14 - 1)) 6 0 0 c0) := ((EqE.rf σ).I (by decide)).N
  have e17 : gI (pI (pI μ 16 (gI μ 16 - 1)) 15 (gI μ 15 - 1)) 17 = gI μ0 17 := x17
  have M16 : gI (mCl μ (gI μ0 9)) 16 = gI μ 16 - 1 := rfl
  have M15 : gI (mCl μ (gI μ0 9)) 15 = gI μ 15 - 1 := rfl
  have M17 : gI (mCl μ (gI μ0 9)) 17 = gI μ 17 + 1 := rfl
  have MI : ∀ j, ¬ j = 15 → ¬ j = 16 → ¬ j = 17 → ¬ j = 21 → gI (mCl μ (gI μ0 9)) j = gI μ j := fun j h1 h2 h3 h4 => by
    unfold mCl
    rw [gI_pI, if_neg h4, gI_mO h3, gI_pI, if_neg h1, gI_pI, if_neg h2]
  have MA : ∀ j x, ¬ j = 18 → xA (mCl μ (gI μ0 9)) j x = xA μ j x := fun j x h2 => by
    unfold mCl
    rw [xA_pI, xA_mO h2, xA_pI, xA_pI]
  have M18 : ∀ x : Int32, xA (mCl μ (gI μ0 9)) 18 x = if x.toNatClampNeg = (gI μ0 17).toNatClampNeg then gI μ0 9 else xA μ 18 x := fun x => by
    unfold mCl mO
    rw [xA_pI, xA_pI, e17]
    simp [xA_pI, xA_pA]
  have MB : ∀ j x, xB (mCl μ (gI μ0 9)) j x = xB μ j x := fun j x => rfl
  have ME : EqR μ (mCl μ (gI μ0 9)) := ((((EqR.rf μ).I (by decide)).I (by decide)).O).I (by decide)
  have hW : Wd (cN (pI σ 14 (gI σ 14 - 1)) 6 0 0 c0) (mCl μ (gI μ0 9)) := l1.1
  generalize cN (pI σ 14 (gI σ 14 - 1)) 6 0 0 c0 = S at *
  generalize mCl μ (gI μ0 9) = M at *
  have hFM : FrM μ M := ⟨fun i _ _ => ⟨MA _ _ (by decide), MA _ _ (by decide), MA _ _ (by decide), MA _ _ (by decide), MA _ _ (by decide), MA _ _ (by decide), MA _ _ (by decide), MA _ _ (by decide), MA _ _ (by decide), MB _ _⟩, fun i _ _ => MB _ _⟩
  have M9 := MI 9 (by decide) (by decide) (by decide) (by decide)
  have M10 := MI 10 (by decide) (by decide) (by decide) (by decide)
  have hGm : Gm 1 1 σ0 S μ0 M := by
    have i8 := iv_a1 S8 (by grind) (by grind)
    have i9 := iv_eq (SI 9 (by decide) (by decide))
    have i10 := iv_eq (SI 10 (by decide) (by decide))
    have i13 := iv_eq (SI 13 (by decide) (by decide))
    have i18 := iv_eq (SI 18 (by decide) (by decide))
    have m9 := iv_eq M9
    have m10 := iv_eq M10
    unfold Gm at *
    omega
  have hEE := fE.tr SE
  have hRR := fR.tr ME
  have hSim : Sim S M := by
    obtain ⟨b1, b2, b3, b4, b5, b6, b7, b8, b9, b10, b11, b12, b13, b14, b15, b16, b17, b18, b19, b20, b21, b22, b23⟩ := hb1
    exact Sim.mk2 hs0 hW hEE hRR hGm (by decide) (by decide) (by rw [SI 11 (by decide) (by decide)]; exact b1) (by rw [MI 7 (by decide) (by decide) (by decide) (by decide)]; exact b2) (by rw [SI 13 (by decide) (by decide), MI 11 (by decide) (by decide) (by decide) (by decide)]; exact b3) (by rw [SI 13 (by decide) (by decide)]; exact ⟨b4, b5⟩) (by rw [S14, M15, b6]) (by rw [S14, x14]; grind) (by rw [S8]; grind) (by rw [SI 9 (by decide) (by decide)]; exact b11) (by rw [SI 10 (by decide) (by decide)]; exact b15) (by rw [M9]; exact b17) (by rw [M10]; exact b19) (by rw [SI 15 (by decide) (by decide), SI 9 (by decide) (by decide)]; exact ⟨b21, b22⟩) (by rw [SI 18 (by decide) (by decide)]; exact hp1.2)
  have hR8 := hRG.fr (QA_st (gI σ0 15)) SE hf hFM (by rw [M10]; exact Int32.le_refl _) (Int32.le_refl _) (by grind) (Int32.le_refl _) (Int32.le_refl _) (Int32.le_refl _)
  have hrow := hR8.rowP (P := TAlt S M (TR S M) (gI σ0 15)) (fun i hi q => q.2.2)
  have hT8 := aT.st (Agr.fr SE hf hFM (by rw [M10]; exact Int32.le_refl _) ⟨by grind, r1, r2, by grind⟩ ⟨by grind, r4⟩ ⟨by grind, r6⟩ ⟨by grind, r8⟩)
  rw [if_pos (by omega)] at z3 a17
  refine ⟨hSim, by rw [MI 19 (by decide) (by decide) (by decide) (by decide)]; exact h19, ⟨by rw [M16, x16]; grind, by rw [M17, x17], by rw [M18, if_pos rfl], fun i p q => ?_, fun i p q => ?_⟩, hEE, hRR, ?_, by rw [S14, x14]; grind, by rw [SI 15 (by decide) (by decide)]; exact x15, ?_, ?_, ?_, ?_, S8.symm, hr.2.2.2.2, ?_⟩
  · rw [MA 14 _ (by decide), MA 15 _ (by decide), MA 16 _ (by decide), MA 17 _ (by decide)]
    exact fP.1 i p q
  · rw [M18, if_neg (i_ne p q)]
    exact fP.2 i p q
  · rw [MI 12 (by decide) (by decide) (by decide) (by decide), MI 11 (by decide) (by decide) (by decide) (by decide)]; exact f12
  · exact fC.tr hf f8 f9 f10 (by grind) (by grind)
  · exact fM.tr hFM fm9 fm10
  · exact ⟨by rw [S8]; grind, by rw [SI 9 (by decide) (by decide)]; exact f9, by rw [SI 10 (by decide) (by decide)]; exact f10, by rw [M9]; exact fm9, by rw [M10]; exact fm10, by rw [SI 18 (by decide) (by decide)]; exact f18, hGm⟩
  · rw [SI 9 (by decide) (by decide), SI 10 (by decide) (by decide), M9]
    refine TR.fold ⟨?_, Or.inr (Or.inr (Or.inr (Or.inr (Or.inr (Or.inr ⟨?_, ?_, rfl, hr.1, k, s1, u1, a1, c0, hk1, hk8, hr.2.2.2.1, ?_, ?_, ?_, r2, r4, r6⟩)))))⟩
    · unfold Bd
      grind
    · rw [MA 2 _ (by decide)]; exact z2
    · rw [MA 10 _ (by decide)]; exact z10
    · rw [MA 7 _ (by decide)]; exact hT8
    · unfold Wi
      grind
    · rw [MA 3 _ (by decide), z3, (hf.1 c0 (by grind) r8).2.2.2.2, a17]; exact hrow
  · rw [MA 5 _ (by decide)]; exact z5
/-- a case's loop over its alternatives -/
theorem ca_loop {σ0 μ0 : S5} {E : S5 → Option (Int32 × S5)} (hE : ESp E (gI σ0 14 + 1)) (hs0 : Sim σ0 μ0) (hz : Pz 0 σ0 μ0) : ∀ (d k m : Nat) (σ μ9 : S5) (c0 s1 u1 a1 v n9 : Int32) (kk : Nat) (g cc fs fu fn ft : Nat → Int32), k + d = 8 → 1 ≤ k → d + 1 < m → kk + 4 * pn σ0 ≤ 4 * pn σ → Rch kk μ0 μ9 → AE μ0 μ9 v n9 → 0 ≤ v → v < 3200 → CI σ0 μ0 σ (mEB μ9 v n9) c0 s1 u1 a1 k g cc fs fu fn ft → Qt (f_X5_readCase_L55 E m c0 (cc (k - 1)) (nI k) σ) (Out (4 * pn σ0) (fun μ' => gI μ' 20 = 1) (fun k => rkK k = 0) abE σ0 μ0 μ0) := by
  have hb0 := hs0.2.2
  unfold Bg at hb0
  obtain ⟨h160, h161, h170, h171⟩ := hz.rg hb0.2.2.2.2.2.2.2.1 (by decide)
  intro d
  induction d using Nat.strongRecOn with
  | _ d ih =>
  intro k m σ μ9 c0 s1 u1 a1 v n9 kk g cc fs fu fn ft hkd hk1 hm hkk hR hAE hv0 hv1 h
  obtain ⟨m, rfl⟩ : ∃ x, m = x + 2 := ⟨m - 2, by omega⟩
  have hl := h
  obtain ⟨l1, ⟨fE, fR, fC, fM, fP, f12, f8, f9, f10, fm9, fm10, f18⟩, ⟨x14, x15, x16, x17⟩, -, -, -, -, hk8, hRG, -, -⟩ := hl
  obtain ⟨e7, e19, e20, er, e16, e17, e14, e15, el, e18⟩ := hAE
  have hb := l1.2.2
  have hp3 := l1.p3
  have hpn := pn_3 l1
  unfold Bg at hb
  have w3 : gI μ9 4 = kMd (gI σ 17) := l1.1.2.2.1
  have w4 := l1.1.2.2.2.1
  have hend := m_eR e7 (by grind) (by grind) e16 h170 (by grind) e17 e14 e15 el e18 hv0 hv1
  have htn : ∀ τ, f_X12_endE μ9 = some ((), τ) → Rch (kk + 1) μ0 τ := fun τ he => hR.tr (tn_end e7 (by rw [e16]; grind) e19 (by rw [e20]; decide) er (by rw [pI_self μ9 20 e20]; exact he))
  have hcl := hRG.c0 (i := k - 1) (by omega)
  have h8 : ¬ 8 < nI k := by
    intro w
    have := (nI_lt31 (a := 8) (b := k) (by omega) (by omega)).mp w
    omega
  show Qt (f_X5_readCase_B55 E (f_X5_readCase_L55 E (m + 1)) _ _ _ σ) _
  unfold f_X5_readCase_B55
  rw [if_neg h8]
  by_cases c59 : gI σ 17 = 59
  · rw [if_pos c59]
    have hm59 : gI μ9 4 = 159 := by rw [w3, c59]; decide
    obtain ⟨e, kc, p, vv, z, vm, zm, a1', a2, a3, a4, a5⟩ := sim_adv l1 (by rw [c59]; decide)
    have hCI' := h.w a3 a4
    have hpn2 : pn σ + 1 ≤ pn (wdC σ e kc p vv z) := pn_lt hp3.1 (by rw [p_wdC]; exact a4)
    obtain ⟨ν, e1, e2⟩ := al_go hE hs0 hz hCI'
    have hE1 : f_X12_endE μ9 = some ((), ν) := by rw [hend, if_pos hm59, a2, bd_of, e1]
    have hR1 := htn ν hE1
    rw [a1', bd_of]
    clear a1' a2 e1 hE1 hend htn
    generalize wdC σ e kc p vv z = σ2 at *
    have hpn3 := pn_3 a3
    rcases e2 with ⟨f, pf, mf, hf0, y1, y2, y3, y4, y5, hQ⟩ | ⟨v18, v19, v', hv0', hv1', hQ⟩
    · refine Qt.bd hQ (fun r τ w => ?_)
      rw [gd6200 hcl.1 hcl.2]
      exact (dm_caseL (E := E) abE abE (fun x hx => ⟨hx.2.2.2.2.1, hx.2.2.2.1⟩) (Dm17 _ _ w.1)).mono (fun c3 σ8 w => Or.inr ⟨f, pf, mf, kk + 1, by omega, die_of hR1 hf0 y1 y2 y3 y4 y5, w.1, w.2.1, w.2.2⟩)
    · refine Qt.bd hQ (fun c σ' ow => ?_)
      rw [gd6200 hcl.1 hcl.2]
      rcases ow with ⟨μ9', n9', kk', g', fs', fu', fn', ft', o1, o2, o3, o4, o5⟩ | ⟨f, pp, mm, kk', o1, o2, o3, o4, o5⟩
      · have hln : pA σ' 17 (cc (k - 1)) c = lkA σ' k cc c0 c := by
          unfold lkA
          rw [if_neg (by omega)]
        have hk5 : k + 1 ≤ 8 := by
          obtain ⟨_, _, _, _, _, _, _, hk, _⟩ := o5
          exact hk
        have hpl : pn (lkA σ' k cc c0 c) = pn σ' := rfl
        rw [hln]
        have := ih (d - 1) (by omega) (k + 1) (m + 1) (lkA σ' k cc c0 c) μ9' c0 s1 u1 a1 v' n9' (kk + 1 + kk') g' (upN cc k c) fs' fu' fn' ft' (by omega) (by omega) (by omega) (by omega) (hR1.tr o2) o3 hv0' hv1' o5
        rw [show k + 1 - 1 = k by omega, upN_at] at this
        rw [nI_add1]
        exact this
      · exact (dm_caseL (E := E) abE abE (fun x hx => ⟨hx.2.2.2.2.1, hx.2.2.2.1⟩) (Dm17 _ _ o3)).mono (fun c3 σ8 w => Or.inr ⟨f, pp, mm, kk + 1 + kk', by omega, hR1.die o2 rfl (EqR.rf μ0), w.1, w.2.1, w.2.2⟩)
  · rw [if_neg c59]
    have hm59 : ¬ gI μ9 4 = 159 := by rw [w3]; intro q; exact c59 ((kMd_at 59 (by decide +kernel) w4).mp (by rw [q]; decide))
    by_cases c125 : gI σ 17 = 125
    · have hm8 : gI μ9 4 = 225 := by rw [w3, c125]; decide
      obtain ⟨e, kc, p, vv, z, vm, zm, a1', a2, a3, a4, a5⟩ := sim_adv l1 (by rw [c125]; decide)
      have hCI' := h.w a3 a4
      have hpn2 : pn σ + 1 ≤ pn (wdC σ e kc p vv z) := pn_lt hp3.1 (by rw [p_wdC]; exact a4)
      have n17 : gI (wdM (mEB μ9 v n9) e (kMd kc) p vm zm) 17 = gI μ0 17 := (gI_wdM (by decide)).trans x17
      have n19 : gI (wdM (mEB μ9 v n9) e (kMd kc) p vm zm) 19 = 0 := (gI_wdM (by decide)).trans e19
      have n20 : gI (wdM (mEB μ9 v n9) e (kMd kc) p vm zm) 20 = 1 := (gI_wdM (by decide)).trans e20
      have hE1 : f_X12_endE μ9 = some ((), mCl (wdM (mEB μ9 v n9) e (kMd kc) p vm zm) (gI μ0 9)) := by
        rw [hend, if_neg hm59, if_pos hm8, a2, bd_of]
        exact m_close _ (by rw [n17]; exact h170) (by rw [n17]; grind)
      have hR1 := htn _ hE1
      have hex : f_X5_expect 125 σ = some ((), wdC σ e kc p vv z) := by
        unfold f_X5_expect
        rw [if_pos c125, a1', bd_of]
      have hfin := ca_fin hs0 hz hCI' hk1 n19
      have hc1 := hfin.1
      have hb2 := a3.2.2
      unfold Bg at hb2
      have hpn3 := pn_3 a3
      have hk17 : gI (wdC σ e kc p vv z) 17 = kc := k_wdC
      unfold f_X5_readCase_b107
      rw [hex, bd_of]
      clear hex hE1 hend htn a1' a2
      generalize wdC σ e kc p vv z = σ2 at *
      generalize wdM (mEB μ9 v n9) e (kMd kc) p vm zm = μ2 at *
      have hcl21 : gI (mCl μ2 (gI μ0 9)) 21 = 1 := rfl
      have hcl20 : gI (mCl μ2 (gI μ0 9)) 20 = 1 := n20
      rw [c_addN (σ := pI σ2 14 (gI σ2 14 - 1)) 6 0 0 c0 (by show 0 ≤ gI σ2 8; grind) (by show gI σ2 8 < 6200; grind), bd_of]
      have hS17 : gI (cN (pI σ2 14 (gI σ2 14 - 1)) 6 0 0 c0) 17 = kc := hk17
      have hS8 : pn (cN (pI σ2 14 (gI σ2 14 - 1)) 6 0 0 c0) = pn σ2 := rfl
      have hgI8 : gI (pI σ2 14 (gI σ2 14 - 1)) 8 = gI σ2 8 := rfl
      rw [hgI8]
      by_cases hrk : rkK kc = 0
      · refine Qt.so (Or.inl ⟨_, gI μ0 9, kk + 1, by omega, hR1, hfin, hcl20, by show rkK (gI (cN (pI σ2 14 (gI σ2 14 - 1)) 6 0 0 c0) 17) = 0; rw [hS17]; exact hrk⟩)
      · have w17 := hc1.1.2.2.1
        have w18 := hc1.1.2.2.2.1
        rw [hS17] at w17 w18
        have hrp : 0 < rkM (gI (mCl μ2 (gI μ0 9)) 4) := by
          rw [w17, rk_eq w18]
          clear hfin hR1
          unfold rkK at hrk ⊢
          repeat' split
          all_goals first | decide | skip
          all_goals simp_all
        have hpl := hfin.2.2.1.1
        have hb3 := hc1.2.2
        unfold Bg at hb3
        have ht2 := tn_ended hb3.2.1 (by rw [hpl]; exact h160) hfin.2.1 (by rw [hcl20]; decide) (by rw [hcl21]; decide) hrp
        refine Qt.so (Or.inr ⟨1, gI σ2 18, gI σ2 13, kk + 1 + 1, by omega, die_of (hR1.tr ht2) (by decide) rfl ?_ ?_ ?_ ?_, Or.inr ⟨rfl, hb2.1, ?_, ?_, rfl, rfl, hc1.rg⟩, ?_, ?_⟩)
        · exact a3.1.2.2.2.2.1.symm
        · exact hb2.2.2.1.symm
        · exact hfin.2.2.2.2.2.1
        · exact (hfin.2.2.2.2.1.I (by decide)).I (by decide)
        · rw [hS17]; exact okK_ne w18
        · rw [hS17]
          unfold abE
          refine ⟨?_, ?_, ?_, ?_, ?_, ?_⟩ <;> (intro w; rw [w] at hrk; exact hrk (by decide))
        · grind
        · grind
    · have hm8 : ¬ gI μ9 4 = 225 := by rw [w3]; intro q; exact c125 ((kMd_at 125 (by decide +kernel) w4).mp (by rw [q]; decide))
      rw [if_neg hm59, if_neg hm8, m_close (μ := pI (pI (mEB μ9 v n9) 7 1) 8 (gI μ9 5)) _ (by show 0 ≤ gI μ9 17 - 1; rw [e17]; grind) (by show gI μ9 17 - 1 < 3200; rw [e17]; grind)] at hend
      have hR1 := htn _ hend
      refine (dm_case107 (E := E) (fun x => ¬ x = 125) abE (fun x hx => hx) (Or.inr ⟨rfl, hb.1, okK_ne w4, c125, rfl, rfl, l1.rg⟩)).mono (fun c3 σ8 w => Or.inr ⟨1, gI σ 18, gI σ 13, kk + 1, by omega, die_of hR1 (by decide) rfl ?_ ?_ f12 ?_, w.1, w.2.1, w.2.2⟩)
      · exact l1.1.2.2.2.2.1.symm
      · exact hb.2.2.1.symm
      · exact ((((((fR.I (by decide)).I (by decide)).I (by decide)).I (by decide)).O).I (by decide))
