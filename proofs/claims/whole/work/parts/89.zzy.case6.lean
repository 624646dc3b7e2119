theorem r16_of {a b : Int32} (h : a = b + 1) (h0 : 0 < b) (h1 : b < 3000) : 0 ≤ a ∧ a < 3100 := by
  subst h
  grind
theorem r17_of {a b : Int32} (h : a = b) (h0 : 0 ≤ b) (h1 : b < 3000) : 0 ≤ a ∧ a < 3100 := by
  subst h
  grind
theorem rv_of {a b v : Int32} (h0 : 0 ≤ b) (hb : b < 3000) (h1 : b + 1 ≤ a) (h2 : a ≤ v) : 0 ≤ v ∧ b < v := by grind
/-- an alternative behind its -> -/
def aC (E : S5 → Option (Int32 × S5)) (ck con num s' : Int32) (σ : S5) : Option (Int32 × S5) := bd (f_X5_readWithin E s' σ) (fun r173 τ173 => if ck = 4 then (bd (f_X9_add 11 con s' r173 τ173) (fun r194 τ194 => some (r194, τ194))) else (if ck = 5 then f_X5_readAlternative_b214 E num r173 12 τ173 else f_X5_readAlternative_b214 E num r173 13 τ173))
theorem c_163 (E : S5 → Option (Int32 × S5)) (ck con num s' : Int32) (σ : S5) : f_X5_readAlternative_b163 E ck con num s' σ = bd (f_X5_expect 128 σ) (fun _ τ => aC E ck con num s' τ) := rfl
theorem st_aC {f p n : Int32} {σ : S5} {E : S5 → Option (Int32 × S5)} (hE : ∀ (f p n : Int32) (σ : S5), St f p n σ → E σ = some (0, σ)) (B : Int32 → Prop) {ck con num s' : Int32} (h : St f p n σ) (h0 : -1 ≤ s') (h1 : s' < 700) : Qt (aC E ck con num s' σ) (fun r τ => Dm B f p n τ ∧ 0 ≤ r ∧ r < 6200) := by
  unfold aC
  rw [st_within hE h h0 h1, bd_of]
  exact dm_altAdd E (Or.inl h)
theorem c_aA {σ8 : S5} (E : S5 → Option (Int32 × S5)) {ck con num s' s c1 : Int32} (h0 : 0 ≤ gI σ8 8) (h1 : gI σ8 8 < 6200) (hs : ck = 4 → s' = s) : (if ck = 4 then (bd (f_X9_add 11 con s' c1 σ8) (fun r194 τ194 => some (r194, τ194))) else (if ck = 5 then f_X5_readAlternative_b214 E num c1 12 σ8 else f_X5_readAlternative_b214 E num c1 13 σ8)) = some (gI σ8 8, cN σ8 (aK ck) (aV ck con num) (aS ck s) c1) := by
  unfold aK aV aS f_X5_readAlternative_b214
  by_cases c4 : ck = 4
  · rw [if_pos c4, if_pos c4, if_pos c4, if_pos c4, c_addN _ _ _ _ h0 h1, bd_of, hs c4]
  · rw [if_neg c4, if_neg c4, if_neg c4, if_neg c4, c_addN _ _ _ _ h0 h1, c_addN _ _ _ _ h0 h1, bd_of, bd_of]
    by_cases c5 : ck = 5
    · rw [if_pos c5, if_pos c5]
    · rw [if_neg c5, if_neg c5]
/-- what stands at a branch's end -/
def AE (μ0 μ9 : S5) (v n9 : Int32) : Prop := gI μ9 7 = 0 ∧ gI μ9 19 = 0 ∧ gI μ9 20 = 1 ∧ rkM (gI μ9 4) ≤ 0 ∧ gI μ9 16 = gI μ0 16 + 1 + 1 ∧ gI μ9 17 = gI μ0 17 + 1 ∧ xA μ9 14 (gI μ0 16 + 1) = 6 ∧ xA μ9 15 (gI μ0 16 + 1) = v ∧ xA μ9 15 (gI μ0 16) = gI μ0 9 ∧ xA μ9 18 (gI μ0 17) = n9
def AOut (σ0 μ0 σ : S5) (c0 s1 u1 a1 : Int32) (k : Nat) (v : Int32) (cc : Nat → Int32) (ν : S5) (c : Int32) (σ' : S5) : Prop :=
  (∃ (μ9 : S5) (n9 : Int32) (kk : Nat) (g' fs' fu' fn' ft' : Nat → Int32), kk + 4 * pn σ ≤ 4 * pn σ' ∧ Rch kk ν μ9 ∧ AE μ0 μ9 v n9 ∧ (0 ≤ c ∧ c < 6200) ∧ CI σ0 μ0 (lkA σ' k cc c0 c) (mEB μ9 v n9) c0 s1 u1 a1 (k + 1) g' (upN cc k c) fs' fu' fn' ft') ∨ (∃ (f p m : Int32) (kk : Nat), kk + 4 * pn σ ≤ 12010 ∧ Die kk ν μ0 f p m ∧ Dm abE f p m σ' ∧ 0 ≤ c ∧ c < 6200)
theorem AOut.wk {σ0 μ0 σ σ1 ν σ' : S5} {c0 s1 u1 a1 : Int32} {k : Nat} {v c : Int32} {cc : Nat → Int32} (h : AOut σ0 μ0 σ1 c0 s1 u1 a1 k v cc ν c σ') (hp : pn σ ≤ pn σ1) : AOut σ0 μ0 σ c0 s1 u1 a1 k v cc ν c σ' := by
  rcases h with ⟨μ9, n9, kk, g', fs', fu', fn', ft', o1, o2⟩ | ⟨f, p, m, kk, o1, o2⟩
  · exact Or.inl ⟨μ9, n9, kk, g', fs', fu', fn', ft', by omega, o2⟩
  · exact Or.inr ⟨f, p, m, kk, by omega, o2⟩
/-- the E of an alternative -/
theorem al_E {σ0 μ0 σ1 μ1 σ6 N : S5} {E : S5 → Option (Int32 × S5)} {k : Nat} {c0 s1 u1 a1 v ck con num s' : Int32} {g cc fs fu fn ft : Nat → Int32} (hE : ESp E (gI σ0 14 + 1)) (hs0 : Sim σ0 μ0) (hz : Pz 0 σ0 μ0) (h : CB σ0 μ0 σ1 μ1 c0 s1 u1 a1 k v ck con num g cc fs fu fn ft) (hH : AH σ1 μ1 σ6 N v s') (hX : AX σ1 σ6 N v s' ck con) : Qt (aC E ck con num s' σ6) (AOut σ0 μ0 σ1 c0 s1 u1 a1 k v cc N) := by
  have hb0 := hs0.2.2
  unfold Bg at hb0
  obtain ⟨h160, h161, h170, h171⟩ := hz.rg hb0.2.2.2.2.2.2.2.1 (by decide)
  have hl := h
  obtain ⟨l1, ⟨fE, fR, fC, fM, fP, f12, f8, f9, f10, fm9, fm10, f18⟩, ⟨x14, x15, x16, x17, x9⟩, ⟨-, -, -, -, r5, r6, -, -⟩, ⟨p14, p15⟩, -, -, -, -, -, -, -⟩ := hl
  have hb1 := l1.2.2
  have hp1 := l1.p3
  have hpn1 := pn_3 l1
  unfold Bg at hb1
  have hv0 : 0 ≤ v := (rv_of (by grind) (by grind) r5 r6).1
  have h16 := r16_of x16 h160 h161
  have h17 := r17_of x17 h170 h171
  clear r5 r6
  have hH' := hH
  obtain ⟨NS, SE6, NE, SC, NM', NP, N12, ⟨g8, g9, g10, g14, g15⟩, ⟨N9, N10, N16, N17, N18, N19⟩, gz, ⟨t14, t15⟩, S18, hG6⟩ := hH'
  have n16 : gI N 16 = gI μ0 16 + 1 + 1 := by rw [N16, x16]
  have n17 : gI N 17 = gI μ0 17 := N17.trans x17
  have hpn2 : pn σ1 + 1 ≤ pn (pI σ6 15 s') := pn_lt hp1.1 (show gI σ1 18 < gI σ6 18 from Int32.lt_iff_toInt_lt.mpr (by have : iv σ1 18 + 1 ≤ iv σ6 18 := S18; unfold iv at this; omega))
  have hIn := hE.2 (pI σ6 15 s') N NS (by rw [N19]; decide) (by rw [N18]; decide) (by
    have i16 := iv_a1 N16 h16.1 (by grind)
    have i16' := iv_a1 x16 (by grind) (by grind)
    have i17 := iv_eq n17
    have i14 : iv (pI σ6 15 s') 14 = iv σ1 14 := iv_eq g14
    have i14' := iv_a1 x14 (by grind) (by grind)
    unfold Pz at *
    omega) (by show gI σ0 14 + 1 ≤ gI σ6 14; rw [g14, x14]; exact Int32.le_refl _) (by rw [N16, show gI μ1 16 + 1 - 1 = gI μ1 16 by grind, t14]; decide)
  unfold aC f_X5_readWithin
  rw [bd_as]
  refine Qt.bd hIn (fun c σ7 ow => ?_)
  rw [bd_of, g15]
  rcases ow with ⟨μ9, n9, kk, o1, o2, o3, o4, o5⟩ | ⟨f, pp, mm, kk, o1, o2, o3, o4, o5⟩
  · have hc1 := o3.1
    have hb7 := hc1.2.2
    unfold Bg at hb7
    have hCM := al_mid l1 x9 hv0 hH hX o3 (fb_of μ9 v n9) h16.1 h16.2 h17.1 h17.2
    have hCI := hCM.ci hs0 h (by grind) (by grind) h170
    obtain ⟨u1', u2, u3, u4, u5⟩ := o3.2.2.1
    have u41 := u4 (gI μ0 16 + 1) (by grind) (by rw [n16]; grind)
    have u40 := u4 (gI μ0 16) (by grind) (by rw [n16]; grind)
    have np := NP.1 (gI μ0 16) (by grind) (by rw [x16]; grind)
    rw [c_aA (σ8 := pI σ7 15 (gI σ1 15)) E (s := gI σ1 9) (by show 0 ≤ gI σ7 8; grind) (by show gI σ7 8 < 6200; grind) (fun w => by rcases hX with hX | hX; exact hX.2.2.1; exact absurd w hX.1)]
    refine Qt.so (Or.inl ⟨μ9, n9, kk, _, _, _, _, _, ?_, o2, ⟨hb7.2.1, o3.2.1, o4, ?_, by rw [u1', n16], by rw [u2, n17], ?_, ?_, ?_, ?_⟩, ⟨by show 0 ≤ gI σ7 8; grind, by show gI σ7 8 < 6200; grind⟩, hCI⟩)
    · have hq : pn (cN (pI σ7 15 (gI σ1 15)) (aK ck) (aV ck con num) (aS ck (gI σ1 9)) c) = pn σ7 := rfl
      omega
    · rw [hc1.1.2.2.1, rk_eq hc1.1.2.2.2.1, o5]; decide
    · rw [u41.1, ← x16]; exact t14
    · rw [u41.2.1, ← x16]; exact t15
    · rw [u40.2.1, np.2.1]; exact p15
    · rw [← n17]; exact u3
  · exact (dm_altAdd E (Dm15 o3 (by grind) (by grind))).mono (fun c3 σ8 w => Or.inr ⟨f, pp, mm, kk, by omega, o2.base (N12.trans f12) (fR.tr NE), w.1, w.2.1, w.2.2⟩)
theorem BH2.ah {σ1 μ1 σ6 N : S5} {v pl pm h o : Int32} {j : Nat} (hH : BH2 (-1) 4 6 σ1 μ1 σ6 N v pl pm h o j) (h90 : 0 ≤ gI σ1 9) (h91 : gI σ1 9 < 700) : AH σ1 μ1 σ6 N v (gI σ1 9) := by
  obtain ⟨NS, SE6, NE, SC, NM', NP, N12, ⟨g8, g9, g10, g14, g15⟩, ⟨N9, N10, N16, N17, N18, N19⟩, gy, gn, ⟨N2, N5, N6, N0, N7, N8⟩, ⟨t14, t15⟩, S18, hG6⟩ := hH
  exact ⟨NS, SE6, NE, SC, NM', NP, N12, ⟨g8, by rw [g9]; grind, g10, g14, g15⟩, ⟨N9, N10, N16, N17, N18, N19⟩, ⟨N2, N5, N7, N8⟩, ⟨t14, t15⟩, S18, hG6⟩
/-- an alternative whose pattern is a constructor, from its fields on -/
theorem al_con {σ0 μ0 σ1 μ1 : S5} {E : S5 → Option (Int32 × S5)} {k : Nat} {c0 s1 u1 a1 v con num : Int32} {g cc fs fu fn ft : Nat → Int32} (hE : ESp E (gI σ0 14 + 1)) (hs0 : Sim σ0 μ0) (hz : Pz 0 σ0 μ0) (h : CB σ0 μ0 σ1 μ1 c0 s1 u1 a1 k v 4 con num g cc fs fu fn ft) : ∃ ν : S5, f_X12_branch_L215 FU con v 0 μ1 = some ((), ν) ∧ (BF μ0 ν (bd (f_X6_add (gI σ1 15) (gI σ1 18) 0 σ1) (fun r128 τ128 => f_X5_readAlternative_L136 E FU 4 con num r128 0 τ128)) ∨ (gI ν 18 = 1 ∧ gI ν 19 = 1 ∧ Qt (bd (f_X6_add (gI σ1 15) (gI σ1 18) 0 σ1) (fun r128 τ128 => f_X5_readAlternative_L136 E FU 4 con num r128 0 τ128)) (AOut σ0 μ0 σ1 c0 s1 u1 a1 k v cc ν))) := by
  have hb0 := hs0.2.2
  unfold Bg at hb0
  obtain ⟨h160, h161, h170, h171⟩ := hz.rg hb0.2.2.2.2.2.2.2.1 (by decide)
  have hl := h
  obtain ⟨l1, ⟨fE, fR, fC, fM, fP, f12, f8, f9, f10, fm9, fm10, f18⟩, ⟨x14, x15, x16, x17, x9⟩, ⟨-, -, -, -, r5, r6, -, -⟩, ⟨p14, p15⟩, -, -, -, ⟨w2, w5, w10, w9⟩, hPK, -, lG⟩ := hl
  have hb1 := l1.2.2
  unfold Bg at hb1
  have hv : 0 ≤ v ∧ v < 3200 := ⟨(rv_of (by grind) (by grind) r5 r6).1, by grind⟩
  have hs00 : 0 ≤ gI σ1 9 ∧ gI σ1 9 < 690 := by grind
  have h16 := r16_of x16 h160 h161
  clear r5 r6
  have hpk : xA μ1 8 v = 0 ∧ xA μ1 7 v = con ∧ 0 ≤ con ∧ con < gI σ1 4 := by
    rcases hPK with q | q | q
    · exact q.2
    · exact absurd q.2.1 (by decide)
    · exact absurd q.2.1 (by decide)
  have hadd := c_add60 (σ := σ1) (a := gI σ1 15) (gI σ1 18) hs00.1 (by grind) (by grind) (by grind)
  obtain ⟨hS2, hF2, hN2, hg2⟩ := ph_one hs0 l1 fE fR lG x9 hv.1 w2 w5 w10 w9
  have hq := l1.2.1.2.2.2 con hpk.2.2.1 hpk.2.2.2
  have hF4 : (xA σ1 2 con).toNatClampNeg ≤ 4 := i_le hq.2.2.2
  have hFn : xA σ1 2 con = nI (xA σ1 2 con).toNatClampNeg := nI_tn hq.2.2.1
  have e4 : gI (cSc σ1 (gI σ1 15) (gI σ1 18) (xA σ1 22 (gI σ1 15))) 4 = gI σ1 4 := cSc_gI _ _ _ _ (by decide)
  have e2 : xA (cSc σ1 (gI σ1 15) (gI σ1 18) (xA σ1 22 (gI σ1 15))) 2 con = xA σ1 2 con := rfl
  have e13 : gI (cSc σ1 (gI σ1 15) (gI σ1 18) (xA σ1 22 (gI σ1 15))) 13 = gI σ1 13 := cSc_gI _ _ _ _ (by decide)
  have hpt := pt_loop (ck := 4) (num := num) hE.1 hs00.1 (by grind : gI σ1 9 < 700) hv.1 hv.2 hpk.2.2.1 hF4 _ 0 FU _ μ1 (Nat.zero_add _) (FU_big (by omega)) hS2 hN2 hg2 hpk.1 (by rw [e4]; exact hpk.2.2.2) (by rw [e2]; exact hFn)
  rw [hadd, bd_of]
  rcases hpt with ⟨σ5, μ5, n1, n2, n3, n5, n7, n8⟩ | ⟨f, q, μ5, n1, n2, d1, d2, d3, d4, d5, d6, d7⟩
  · have hF5 := hF2.pm (d := 0) n8 (by have := iv_le n8.2.2.2.2.2.2.1; omega)
    rw [show f_X5_readAlternative_L136 E FU 4 con num (gI σ1 9) 0 (cSc σ1 (gI σ1 15) (gI σ1 18) (xA σ1 22 (gI σ1 15))) = f_X5_readAlternative_b163 E 4 con num (gI σ1 9) σ5 from n1, show f_X12_branch_L215 FU con v 0 μ1 = f_X12_branch_b316 v μ5 from n2, c_163]
    have hb5 := n3.2.2
    unfold Bg at hb5
    have w3 := n3.1.2.2.1
    have w4 := n3.1.2.2.2.1
    obtain ⟨tE, tR, tC, tM, tP, t12, ⟨x58, x59, x510, x514, x515⟩, ⟨y9, y10, y16, y17⟩, ty, tz, t8, t9⟩ := id hF5
    rw [m_316 hb5.2.1]
    by_cases h128 : gI σ5 17 = 128
    · have hm20 : gI μ5 4 = 20 := by rw [w3, h128]; decide
      obtain ⟨e, kc, p, vv, z, vm, zm, a1', a2, a3, a4, a5⟩ := sim_adv n3 (by rw [h128]; decide)
      have hex : f_X5_expect 128 σ5 = some ((), wdC σ5 e kc p vv z) := by
        unfold f_X5_expect
        rw [if_pos h128, a1', bd_of]
      have r16' : gI (wdM μ5 e (kMd kc) p vm zm) 16 = gI μ1 16 := (gI_wdM (by decide)).trans y16
      have hν : bd (f_X12_next μ5) (fun _ τ2 => bd (f_X12_pile 6 v 0 τ2) (fun _ τ3 => some ((), pI (pI τ3 19 1) 18 1))) = some ((), pI (pI (mPl (wdM μ5 e (kMd kc) p vm zm) 6 v 0) 19 1) 18 1) := by
        rw [a2, bd_of, m_pile (μ := wdM μ5 e (kMd kc) p vm zm) 6 v 0 (by rw [r16']; exact h16.1) (by rw [r16']; grind), bd_of]
        rfl
      have hP6 := hF5.pm (d := 1) (PmF.w (σ := σ5) (μ := μ5) (gI σ1 9) v e kc p vv e (kMd kc) vm z zm a4) (by have : iv σ5 18 < iv (wdC σ5 e kc p vv z) 18 := iv_lt (by rw [p_wdC]; exact a4); omega)
      have hN6 : NM (wdC σ5 e kc p vv z) (wdM μ5 e (kMd kc) p vm zm) (gI σ1 9) v (xA σ1 2 con).toNatClampNeg := n5.w
      have hg6 : xA (wdM μ5 e (kMd kc) p vm zm) 9 v + nI (xA σ1 2 con).toNatClampNeg = gI (wdM μ5 e (kMd kc) p vm zm) 10 := by rw [xA_wdM, gI_wdM (by decide)]; exact n7
      have hS6 : Sim (pI (wdC σ5 e kc p vv z) 15 (gI σ1 9)) (wdM μ5 e (kMd kc) p vm zm) := a3.h15 hs00.1 (by rw [gI_wdC (by decide), x59]; grind)
      have hH := hP6.bh 6 (by decide) hS6 hN6 hg6
      have hAH := hH.ah hs00.1 (by grind)
      have hAX : AX σ1 (wdC σ5 e kc p vv z) (pI (pI (mPl (wdM μ5 e (kMd kc) p vm zm) 6 v 0) 19 1) 18 1) v (gI σ1 9) 4 con := by
        obtain ⟨NS, SE6, NE, SC, NM', NP, N12, ⟨g8, g9, g10, g14, g15⟩, gN, ⟨gy1, gy2, gy3⟩, ⟨gn1, gn2⟩, gz, gt, S18, hG6⟩ := hH
        exact Or.inl ⟨rfl, g9, rfl, gy1, gy2, _, gn1, gn2, hFn⟩
      rw [if_pos hm20, hν, hex, bd_of]
      exact ⟨_, rfl, Or.inr ⟨rfl, rfl, al_E hE hs0 hz h hAH hAX⟩⟩
    · have hm20 : ¬ gI μ5 4 = 20 := by rw [w3]; intro q; exact h128 ((kMd_at 128 (by decide +kernel) w4).mp (by rw [q]; decide))
      obtain ⟨τ, g1, g2⟩ := c_ref n3 (k := 1) (by decide)
      have hex : f_X5_expect 128 σ5 = some ((), τ) := by
        unfold f_X5_expect
        rw [if_neg h128, bd_eta, g1]
      rw [if_neg hm20, bd_of, m_pile (μ := pI (pI μ5 7 1) 8 (gI μ5 5)) 6 v 0 (by show 0 ≤ gI μ5 16; rw [y16]; exact h16.1) (by show gI μ5 16 < 3200; rw [y16]; grind), bd_of, hex, bd_of]
      refine ⟨_, rfl, Or.inl ⟨1, gI σ5 18, gI σ5 13, by decide, rfl, n3.1.2.2.2.2.1.symm, hb5.2.2.1.symm, t12.trans f12, ?_, st_aC hE.1 abE g2 (by grind) (by grind)⟩⟩
      exact (((((fR.tr tR).I (by decide)).I (by decide)).pl).I (by decide)).I (by decide)
  · have hb2 := hS2.2.2
    rw [show f_X12_branch_L215 FU con v 0 μ1 = f_X12_branch_b316 v μ5 from n2, m_316F (by rw [d2]; exact d1) (by rw [d7]; exact h16.1) (by rw [d7]; grind)]
    refine ⟨_, rfl, Or.inl ⟨f, q, gI σ1 13, d1, ?_, ?_, ?_, ?_, ?_, ?_⟩⟩
    · rw [mPl_gI _ _ _ _ (by decide) (by decide) (by decide)]; exact d2
    · rw [mPl_gI _ _ _ _ (by decide) (by decide) (by decide)]; exact d3
    · rw [mPl_gI _ _ _ _ (by decide) (by decide) (by decide), d4]; exact hb1.2.2.1.symm
    · rw [mPl_gI _ _ _ _ (by decide) (by decide) (by decide), mPl_gI _ _ _ _ (by decide) (by decide) (by decide), d5, d4]; exact f12
    · exact ((((fR.tr d6).Pl).I (by decide)).I (by decide))
    · rw [e13] at n1
      exact n1
