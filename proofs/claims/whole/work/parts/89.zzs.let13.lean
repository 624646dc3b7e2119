/-- what stands at a binding's end -/
def LE (μ0 μ9 : S5) (v n9 : Int32) : Prop := gI μ9 7 = 0 ∧ gI μ9 19 = 0 ∧ gI μ9 20 = 1 ∧ rkM (gI μ9 4) ≤ 0 ∧ gI μ9 16 = gI μ0 16 + 1 + 1 ∧ gI μ9 17 = gI μ0 17 + 1 ∧ xA μ9 14 (gI μ0 16 + 1) = 2 ∧ xA μ9 15 (gI μ0 16 + 1) = v ∧ xA μ9 15 (gI μ0 16) = gI μ0 9 ∧ xA μ9 18 (gI μ0 17) = n9
theorem RG.c0 {Q : Q9} {σ μ : S5} {s0 u0 a0 t0 nn s1 u1 b1 c1 nx : Int32} {k : Nat} {g cc fs fu fn ft : Nat → Int32} (q : RG Q σ μ s0 u0 a0 t0 nn s1 u1 b1 c1 nx k g cc fs fu fn ft) {i : Nat} (hi : i < k) : 0 ≤ cc i ∧ cc i < 6200 := by
  obtain ⟨d1, hb, d2⟩ := q.2.2.2.2.2.2.2.2 i hi
  unfold Bi at hb
  grind
theorem le_loop {σ0 μ0 : S5} {E : S5 → Option (Int32 × S5)} (hE : ESp E (gI σ0 14 + 1)) (hs0 : Sim σ0 μ0) (hz : Pz 0 σ0 μ0) : ∀ (d k m : Nat) (σ μ9 : S5) (v n9 : Int32) (kk : Nat) (g cc fs fu fn ft : Nat → Int32), k + d = 5 → 1 ≤ k → d + 1 < m → kk + 4 * pn σ0 ≤ 4 * pn σ → Rch kk μ0 μ9 → LE μ0 μ9 v n9 → 0 ≤ v → v < 3200 → LI σ0 μ0 σ (mEB μ9 v n9) k g cc fs fu fn ft → Qt (f_X5_readLet_L61 E m (gI σ0 15) (gI σ0 9) (cc 0) (cc (k - 1)) (nI (k - 1)) σ) (Out (4 * pn σ0) (fun μ' => gI μ' 20 = 1) (fun k => rkK k = 0) abE σ0 μ0 μ0) := by
  have hb0 := hs0.2.2
  unfold Bg at hb0
  obtain ⟨h160, h161, h170, h171⟩ := hz.rg hb0.2.2.2.2.2.2.2.1 (by decide)
  intro d
  induction d using Nat.strongRecOn with
  | _ d ih =>
  intro k m σ μ9 v n9 kk g cc fs fu fn ft hkd hk1 hm hkk hR hLE hv0 hv1 h
  obtain ⟨m, rfl⟩ : ∃ x, m = x + 2 := ⟨m - 2, by omega⟩
  have hl := h
  obtain ⟨l1, ⟨fE, fR, fC, fM, fP, f12, f8, f9, f10, fm9, fm10, f18⟩, ⟨x14, x15, x16, x17, x9, q9⟩, lp, ly, lz, lBN, hRG, hG, hG2⟩ := hl
  obtain ⟨e7, e19, e20, er, e16, e17, e14, e15, el, e18⟩ := hLE
  have hb := l1.2.2
  have hp3 := l1.p3
  have hpn := pn_3 l1
  unfold Bg at hb
  have w3 : gI μ9 4 = kMd (gI σ 17) := l1.1.2.2.1
  have w4 := l1.1.2.2.2.1
  have hend := m_eB e7 (by grind) (by grind) e16 h170 (by grind) e17 e14 e15 el e18 hv0 hv1
  have htn : ∀ τ, f_X12_endE μ9 = some ((), τ) → Rch (kk + 1) μ0 τ := fun τ he => hR.tr (tn_end e7 (by rw [e16]; grind) e19 (by rw [e20]; decide) er (by rw [pI_self μ9 20 e20]; exact he))
  have hcl := hRG.c0 (i := k - 1) (by omega)
  have h5 : ¬ 5 < nI (k - 1) := by
    intro w
    have := (nI_lt31 (a := 5) (b := k - 1) (by omega) (by omega)).mp w
    omega
  show Qt (f_X5_readLet_B61 E (f_X5_readLet_L61 E (m + 1)) _ _ _ _ _ σ) _
  unfold f_X5_readLet_B61
  rw [if_neg h5]
  by_cases c44 : gI σ 17 = 44
  · rw [if_pos c44]
    have hm44 : gI μ9 4 = 144 := by rw [w3, c44]; decide
    obtain ⟨e, kc, p, vv, z, vm, zm, a1, a2, a3, a4, a5⟩ := sim_adv l1 (by rw [c44]; decide)
    have hLI' := h.w a3 a4
    have hpn2 : pn σ + 1 ≤ pn (wdC σ e kc p vv z) := pn_lt hp3.1 (by rw [p_wdC]; exact a4)
    obtain ⟨ν, e1, e2⟩ := bi_go hE hs0 hz hLI'
    have hE1 : f_X12_endE μ9 = some ((), ν) := by rw [hend, if_pos hm44, a2, bd_of, e1]
    have hR1 := htn ν hE1
    rw [a1, bd_of]
    clear a1 a2 e1 hE1 hend htn
    generalize wdC σ e kc p vv z = σ2 at *
    have hpn3 := pn_3 a3
    rcases e2 with ⟨f, pf, mf, hf0, y1, y2, y3, y4, y5, hQ⟩ | ⟨v18, v19, v', hv0', hv1', hQ⟩
    · refine Qt.bd hQ (fun r τ w => ?_)
      rw [gd6200 hcl.1 hcl.2]
      exact (dm_letL abE abE (fun x hx => ⟨hx.2.1, hx.1⟩) hE.1 (Dm17 _ _ w.1) (by grind) (by grind)).mono (fun c3 σ8 w => Or.inr ⟨f, pf, mf, kk + 1, by omega, die_of hR1 hf0 y1 y2 y3 y4 y5, w.1, w.2.1, w.2.2⟩)
    · refine Qt.bd hQ (fun c σ' ow => ?_)
      rw [gd6200 hcl.1 hcl.2]
      rcases ow with ⟨μ9', n9', kk', g', fs', fu', fn', ft', o1, o2, o3, o4, o5⟩ | ⟨f, pp, mm, kk', o1, o2, o3, o4, o5⟩
      · have hln : pA σ' 17 (cc (k - 1)) c = lnk σ' k cc c := by
          unfold lnk
          rw [if_neg (by omega)]
        have hk5 : k + 1 ≤ 5 := by
          obtain ⟨_, _, _, _, _, _, hBN2, _⟩ := o5
          exact hBN2.1
        have hpl : pn (lnk σ' k cc c) = pn σ' := by
          unfold pn
          rw [lnk_I]
        rw [hln]
        have := ih (d - 1) (by omega) (k + 1) (m + 1) (lnk σ' k cc c) μ9' v' n9' (kk + 1 + kk') g' (upN cc k c) fs' fu' fn' ft' (by omega) (by omega) (by omega) (by omega) (hR1.tr o2) o3 hv0' hv1' o5
        rw [show k + 1 - 1 = k by omega, upN_at, upN_ne _ _ (by omega)] at this
        rw [show nI (k - 1) + 1 = nI k by rw [nI_add1, show k - 1 + 1 = k by omega]]
        exact this
      · exact (dm_letL abE abE (fun x hx => ⟨hx.2.1, hx.1⟩) hE.1 (Dm17 _ _ o3) (by grind) (by grind)).mono (fun c3 σ8 w => Or.inr ⟨f, pp, mm, kk + 1 + kk', by omega, hR1.die o2 rfl (EqR.rf μ0), w.1, w.2.1, w.2.2⟩)
  · rw [if_neg c44]
    have hm44 : ¬ gI μ9 4 = 144 := by rw [w3]; intro q; exact c44 ((kMd_at 44 (by decide +kernel) w4).mp (by rw [q]; decide))
    by_cases c8 : gI σ 17 = 8
    · have hm8 : gI μ9 4 = 12 := by rw [w3, c8]; decide
      obtain ⟨e, kc, p, vv, z, vm, zm, a1, a2, a3, a4, a5⟩ := sim_adv l1 (by rw [c8]; decide)
      have hLI' := h.w2 a3 a4
      have hpn2 : pn σ + 1 ≤ pn (wdC σ e kc p vv z) := pn_lt hp3.1 (by rw [p_wdC]; exact a4)
      have hE1 : f_X12_endE μ9 = some ((), pI (pI (wdM (mEB μ9 v n9) e (kMd kc) p vm zm) 19 1) 18 1) := by rw [hend, if_neg hm44, if_pos hm8, a2, bd_of]
      have hR1 := htn _ hE1
      have hex : f_X5_expect 8 σ = some ((), wdC σ e kc p vv z) := by
        unfold f_X5_expect
        rw [if_pos c8, a1, bd_of]
      unfold f_X5_readLet_b114
      rw [hex, bd_of]
      exact le_body hE hs0 hz hk1 (by omega) hR1 rfl rfl hLI'
    · have hm8 : ¬ gI μ9 4 = 12 := by rw [w3]; intro q; exact c8 ((kMd_at 8 (by decide +kernel) w4).mp (by rw [q]; decide))
      rw [if_neg hm44, if_neg hm8] at hend
      have hR1 := htn _ hend
      refine (dm_let114 (fun x => ¬ x = 8) abE (fun x hx => hx) hE.1 (Or.inr ⟨rfl, hb.1, okK_ne w4, c8, rfl, rfl, l1.rg⟩) (by grind) (by grind)).mono (fun c3 σ8 w => Or.inr ⟨1, gI σ 18, gI σ 13, kk + 1, by omega, die_of hR1 (by decide) rfl ?_ ?_ f12 ?_, w.1, w.2.1, w.2.2⟩)
      · exact l1.1.2.2.2.2.1.symm
      · exact hb.2.2.1.symm
      · exact (((fR.I (by decide)).I (by decide)).I (by decide)).I (by decide)
/-- a let -/
theorem le_go {σ0 μ0 : S5} {E : S5 → Option (Int32 × S5)} (hE : ESp E (gI σ0 14 + 1)) (hs0 : Sim σ0 μ0) (hz : Pz 0 σ0 μ0) (h19 : ¬ gI μ0 19 = 0) (h18 : ¬ gI μ0 18 = 0) (hk : gI σ0 17 = 7) : Qt (f_X5_readLet E σ0) (Out (4 * pn σ0) (fun μ' => gI μ' 20 = 1) (fun k => rkK k = 0) abE σ0 μ0 μ0) := by
  have hb := hs0.2.2
  have hp3 := hs0.p3
  have hpn := pn_3 hs0
  unfold Bg at hb
  obtain ⟨h160, h161, h170, h171⟩ := hz.rg hb.2.2.2.2.2.2.2.1 (by decide)
  have hw4 : gI μ0 4 = 11 := by rw [hs0.1.2.2.1, hk]; decide
  by_cases ho : gI σ0 14 < 30
  · by_cases hp : gI σ0 13 < 600
    · obtain ⟨σ, μ1, a1, a2, a16, a18, hLI⟩ := le_one hs0 ho hp hk (by grind)
      rw [c_let0 hk ho hp (by grind) (by grind) (by grind) (by grind) a1]
      obtain ⟨ν, e1, e2⟩ := bi_go hE hs0 hz hLI
      have hbeg : f_X12_begins μ0 = some (1, ν) := m_let0 hw4 hb.2.1 (by rw [← hb.2.2.2.2.2.1]; grind) (by rw [← hb.2.2.1]; grind) (by grind) (by grind) a2 (by rw [a16]; grind) (by rw [a16]; grind) e1
      have hwE := m_wB h18 hbeg
      have hR1 := tn_want hb.2.1 h160 h19 hwE
      have hpn2 : pn σ0 + 1 ≤ pn σ := pn_lt hp3.1 a18
      have hl1 := hLI.1
      have hpn3 := pn_3 hl1
      clear a1 a2 hbeg hwE e1
      obtain ⟨m, hm⟩ := FU_s
      rcases e2 with ⟨f, pf, mf, hf0, y1, y2, y3, y4, y5, hQ⟩ | ⟨v18, v19, v, hv0, hv1, hQ⟩
      · refine Qt.bd hQ (fun r τ w => ?_)
        rw [hm]
        exact (dm_letL abE abE (fun x hx => ⟨hx.2.1, hx.1⟩) hE.1 w.1 (by grind) (by grind)).mono (fun c3 σ8 w => Or.inr ⟨f, pf, mf, 1, by omega, die_of hR1 hf0 ((I19_gI _ (by decide) (by decide)).trans y1) ((I19_gI _ (by decide) (by decide)).trans y2) ((I19_gI _ (by decide) (by decide)).trans y3) (by rw [I19_gI _ (by decide) (by decide), I19_gI _ (by decide) (by decide)]; exact y4) ((y5.I (by decide)).I (by decide)), w.1, w.2.1, w.2.2⟩)
      · rw [pI_self ν 19 v19, pI_self ν 18 v18] at hR1
        refine Qt.bd hQ (fun c σ' ow => ?_)
        rcases ow with ⟨μ9, n9, kk, g', fs', fu', fn', ft', o1, o2, o3, o4, o5⟩ | ⟨f, pp, mm, kk, o1, o2, o3, o4, o5⟩
        · have hln : lnk σ' 0 (fun _ => 0) c = σ' := if_pos rfl
          rw [hln] at o5
          have hbig := FU_big (n := 5000) (by decide)
          have := le_loop hE hs0 hz 4 1 FU σ' μ9 v n9 (1 + kk) g' (upN (fun _ => 0) 0 c) fs' fu' fn' ft' (by omega) (by omega) (by omega) (by omega) (hR1.tr o2) o3 hv0 hv1 o5
          exact this
        · rw [hm]
          exact (dm_letL abE abE (fun x hx => ⟨hx.2.1, hx.1⟩) hE.1 o3 (by grind) (by grind)).mono (fun c3 σ8 w => Or.inr ⟨f, pp, mm, 1 + kk, by omega, hR1.die o2 rfl (EqR.rf μ0), w.1, w.2.1, w.2.2⟩)
    · obtain ⟨τ, g1, g2⟩ := c_cnt1 (hs0.op ho) hp
      have hr := g2.2.2.2.2.2
      unfold f_X5_readLet f_X5_opens
      rw [if_pos ho, bd_of, if_neg (by decide), g1, bd_of]
      have hwE : f_X12_wantE μ0 = some ((), pI (pI (mPl (pI (pI (pI μ0 15 (gI μ0 15 + 1)) 7 4) 8 (gI μ0 5)) 3 0 0) 19 1) 18 1) := m_wB h18 (m_let6 hw4 hb.2.1 (by rw [← hb.2.2.2.2.2.1]; grind) (by rw [← hb.2.2.1]; grind) (by grind) (by grind))
      refine Qt.bd (st_add6 g2 hr.2.2.2.2.1 hr.2.2.2.2.2.1) (fun r τ1 w => ?_)
      have w15 := St15 (a := r) w.1 (by have := w.2.1; grind) w.2.2
      rw [st_adv w15, bd_of]
      unfold f_X5_readBinding
      rw [st_decl _ w15, bd_of, if_neg (by rw [w15.1]; decide), st_expect 61 (by decide) w15, bd_of, hE.1 _ _ _ _ w15, bd_of]
      unfold f_X5_readBinding_b52
      rw [bd_eta']
      refine Qt.bd (dm_add9 (B := abE) _ _ _ _ (Or.inl w15)) (fun r2 τ2 w2 => ?_)
      obtain ⟨m, hm⟩ := FU_s
      rw [hm]
      refine (dm_letL abE abE (fun x hx => ⟨hx.2.1, hx.1⟩) hE.1 w2.1 hr.2.2.2.2.1 hr.2.2.2.2.2.1).mono (fun c3 σ8 w => Or.inr ⟨4, gI σ0 18, gI σ0 13, 1, by omega, die_of (tn_want hb.2.1 h160 h19 hwE) (by decide) rfl ?_ ?_ ?_ ?_, w.1, w.2.1, w.2.2⟩)
      · exact hs0.1.2.2.2.2.1.symm
      · exact hb.2.2.1.symm
      · rfl
      · exact ((((((EqR.rf μ0).I (by decide)).I (by decide)).I (by decide)).Pl).I (by decide)).I (by decide)
  · obtain ⟨τ, g1, g2⟩ := c_ref hs0 (k := 1) (by decide)
    unfold f_X5_readLet f_X5_opens
    rw [if_neg ho, g1, bd_of, bd_of, if_pos rfl]
    have hwE : f_X12_wantE μ0 = some ((), pI (pI (mPl (pI (pI (pI μ0 7 1) 8 (gI μ0 5)) 15 (gI μ0 15 + 1)) 3 0 0) 19 1) 18 1) := m_wB h18 (m_let30 hw4 hb.2.1 (by rw [← hb.2.2.2.2.2.1]; grind) (by grind) (by grind))
    refine Qt.so (Or.inr ⟨1, gI σ0 18, gI σ0 13, 1, by omega, die_of (tn_want hb.2.1 h160 h19 hwE) (by decide) rfl ?_ ?_ ?_ ?_, Or.inl g2, by decide, by decide⟩)
    · exact hs0.1.2.2.2.2.1.symm
    · exact hb.2.2.1.symm
    · rfl
    · exact ((((((EqR.rf μ0).I (by decide)).I (by decide)).I (by decide)).Pl).I (by decide)).I (by decide)
