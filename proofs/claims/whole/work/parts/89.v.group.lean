/-- what may not follow an E -/
def abE (k : Int32) : Prop := ¬ k = 44 ∧ ¬ k = 8 ∧ ¬ k = 10 ∧ ¬ k = 59 ∧ ¬ k = 125 ∧ ¬ k = 41
/-- E reads as the reference does, where at least o stand open -/
def ESp (E : S5 → Option (Int32 × S5)) (o : Int32) : Prop := (∀ (f p n : Int32) (σ : S5), St f p n σ → E σ = some (0, σ)) ∧ ∀ σ μ : S5, Sim σ μ → ¬ gI μ 19 = 0 → ¬ gI μ 18 = 0 → 0 < gI μ 16 → gI μ 16 ≤ 7 * gI σ 14 + 1 → 0 ≤ gI μ 17 → gI μ 17 ≤ 7 * gI σ 14 → o ≤ gI σ 14 → ¬ xA μ 14 (gI μ 16 - 1) = 7 → Qt (E σ) (Out (pn σ) (fun μ' => gI μ' 20 = 1) (fun k => rkK k = 0) abE σ μ μ)
theorem TR.rows {σ σ' μ μ' : S5} {h s s' u u' a b t n c : Int32} (q : TR σ μ h s s' u u' a b t n c) (h1 : σ'.2.2 = σ.2.2) (h2 : ∀ k, k ≤ 13 → gA μ' k = gA μ k) (h3 : gB μ' = gB μ) (h4 : gI μ 10 ≤ gI μ' 10) (h5 : gI σ' 4 = gI σ 4) : TR σ' μ' h s s' u u' a b t n c := by
  have xa : ∀ k i, xA σ' k i = xA σ k i := fun k i => by show σ'.2.2.1 k _ = σ.2.2.1 k _; rw [h1]
  have xb : ∀ k i, xB σ' k i = xB σ k i := fun k i => by show σ'.2.2.2.1 k _ = σ.2.2.2.1 k _; rw [h1]
  have ya : ∀ k i, k ≤ 13 → xA μ' k i = xA μ k i := fun k i hk => congrFun (h2 k hk) _
  have yb : ∀ k i, xB μ' k i = xB μ k i := fun k i => congrFun (congrFun h3 k) _
  refine q.st ⟨fun i _ _ => ⟨xa _ _, xa _ _, xa _ _, xa _ _⟩, fun i _ _ => xa _ _, fun i _ _ => ⟨xa _ _, xa _ _, xa _ _, xa _ _⟩, fun i _ _ => xa _ _, fun i _ _ => xb _ _, fun i _ _ => ⟨xa _ _, xa _ _, xa _ _, xb _ _⟩, fun i _ _ => ⟨ya _ _ (by decide), ya _ _ (by decide), ya _ _ (by decide), ya _ _ (by decide), ya _ _ (by decide), ya _ _ (by decide), ya _ _ (by decide), ya _ _ (by decide), yb _ _⟩, fun i _ _ _ => ya _ _ (by decide), fun i _ _ => yb _ _, h4, h5, fun i _ _ => xa _ _⟩
theorem pn_lt {σ σ' : S5} (h0 : 0 ≤ gI σ 18) (h : gI σ 18 < gI σ' 18) : pn σ + 1 ≤ pn σ' := i_lt (not_neg h0) h
theorem pn_le {σ σ' : S5} (h : gI σ 18 ≤ gI σ' 18) : pn σ ≤ pn σ' := i_le h
theorem pn_3 {σ μ : S5} (h : Sim σ μ) : pn σ ≤ 3000 := i_le h.p3.2
theorem red_no {μ : S5} (r : Int32) (h0 : 0 < gI μ 16) (h1 : gI μ 16 < 3200) (h : ¬ xA μ 14 (gI μ 16 - 1) = 7) : f_X12_reduce r μ = some ((), μ) := by
  unfold f_X12_reduce
  obtain ⟨m, hm⟩ := FU_s
  rw [hm]
  show f_X12_reduce_B0 _ _ _ = _
  unfold f_X12_reduce_B0
  rw [if_neg (by grind), gd3200 (by grind) (by grind), if_neg h]
theorem m_atomG {μ : S5} (h7 : gI μ 7 = 0) (hw : gI μ 4 = 140) (ho : ¬ gI μ 15 = 30) : f_X12_atom μ = bd (f_X12_next (pI μ 15 (gI μ 15 + 1))) (fun _ τ => bd (f_X12_pile 1 0 0 τ) (fun _ ρ => some (0, ρ))) := by
  unfold f_X12_atom f_X12_opens f_X12_opens_b13
  rw [m_isS, bd_of, if_pos (by rw [hw]; decide), if_neg (by decide), if_neg ho, bd_of, m_acc1 (μ := pI μ 15 (gI μ 15 + 1)) h7]
theorem EqR.Pl {σ τ : S5} {k n r : Int32} (h : EqR σ τ) : EqR σ (mPl τ k n r) := h.pl
/-- an E in brackets -/
theorem at_group {σ μ : S5} {E : S5 → Option (Int32 × S5)} (hE : ESp E (gI σ 14 + 1)) (hs : Sim σ μ) (h40 : gI σ 17 = 40) (h30 : gI σ 14 < 30) (hq1 : 0 < gI μ 16) (hq2 : gI μ 16 ≤ 7 * gI σ 14 + 5) (hq3 : 0 ≤ gI μ 17) (hq4 : gI μ 17 ≤ 7 * gI σ 14 + 4) : ∃ τ : S5, f_X12_atom μ = some (0, τ) ∧ gI τ 20 = gI μ 20 ∧ Qt (f_X5_readAtom E σ) (Out (pn σ + 1) (fun μ' => gI μ' 20 = 0 ∧ gI μ' 21 = 0) (fun _ => True) (fun _ => False) σ μ (aft 1 τ)) := by
  have hp3 := hs.p3
  obtain ⟨hw, hc, hb⟩ := hs
  have hb' := hb
  unfold Bg at hb'
  obtain ⟨b1, b2, b3, b4, b5, b6, b7, b8, b9, b10, b11, b12, b13, b14, b15, b16, b17, b18, b19, b20, b21, b22⟩ := hb'
  have hw4 : gI μ 4 = 140 := by rw [hw.2.2.1, h40]; decide
  have hM := m_atomG b2 hw4 (by rw [← b6]; grind)
  have hwd : Wd (pI σ 14 (gI σ 14 + 1)) (pI μ 15 (gI μ 15 + 1)) := Wd_of hw rfl rfl rfl rfl rfl rfl rfl rfl rfl rfl rfl rfl rfl rfl
  obtain ⟨e, kc, p, v, z, vm, zm, a1, a2, a3, a4, a5, a6⟩ := adv hwd (by show ¬ gI σ 17 = 1; rw [h40]; decide)
  have a4' : gI σ 18 < p := a4
  generalize hσ1 : wdC (pI σ 14 (gI σ 14 + 1)) e kc p v z = σ1 at *
  have ex16 : gI (wdM (pI μ 15 (gI μ 15 + 1)) e (kMd kc) p vm zm) 16 = gI μ 16 := rfl
  rw [a2, bd_of, m_pile (μ := wdM (pI μ 15 (gI μ 15 + 1)) e (kMd kc) p vm zm) 1 0 0 (by rw [ex16]; grind) (by rw [ex16]; grind), bd_of] at hM
  refine ⟨_, hM, rfl, ?_⟩
  generalize hν : aft 1 (pI (pA (pA (pA (pA (wdM (pI μ 15 (gI μ 15 + 1)) e (kMd kc) p vm zm) 14 (gI (wdM (pI μ 15 (gI μ 15 + 1)) e (kMd kc) p vm zm) 16) 1) 15 (gI (wdM (pI μ 15 (gI μ 15 + 1)) e (kMd kc) p vm zm) 16) 0) 16 (gI (wdM (pI μ 15 (gI μ 15 + 1)) e (kMd kc) p vm zm) 16) 0) 17 (gI (wdM (pI μ 15 (gI μ 15 + 1)) e (kMd kc) p vm zm) 16) 0) 16 (gI (wdM (pI μ 15 (gI μ 15 + 1)) e (kMd kc) p vm zm) 16 + 1)) = ν
  have hEE : EqE σ σ1 := by rw [← hσ1]; exact ((EqE.rf σ).I (by decide)).w
  have hRR : EqR μ ν := by rw [← hν]; exact (((((EqR.rf μ).I (by decide)).w).pl).I (by decide) |>.I (by decide) |>.I (by decide))
  have s8 : gI σ1 8 = gI σ 8 := by rw [← hσ1]; rfl
  have s9 : gI σ1 9 = gI σ 9 := by rw [← hσ1]; rfl
  have s10 : gI σ1 10 = gI σ 10 := by rw [← hσ1]; rfl
  have s13 : gI σ1 13 = gI σ 13 := by rw [← hσ1]; rfl
  have s14 : gI σ1 14 = gI σ 14 + 1 := by rw [← hσ1]; rfl
  have s15 : gI σ1 15 = gI σ 15 := by rw [← hσ1]; rfl
  have s5 : gI σ1 5 = gI σ 5 := by rw [← hσ1]; rfl
  have s11 : gI σ1 11 = gI σ 11 := by rw [← hσ1]; rfl
  have s18 : gI σ1 18 = p := by rw [← hσ1]; rfl
  have sA : σ1.2.2 = σ.2.2 := by rw [← hσ1]; rfl
  have n7 : gI ν 7 = gI μ 7 := by rw [← hν]; rfl
  have n9 : gI ν 9 = gI μ 9 := by rw [← hν]; rfl
  have n10 : gI ν 10 = gI μ 10 := by rw [← hν]; rfl
  have n11 : gI ν 11 = gI μ 11 := by rw [← hν]; rfl
  have n12 : gI ν 12 = gI μ 12 := by rw [← hν]; rfl
  have n15 : gI ν 15 = gI μ 15 + 1 := by rw [← hν]; rfl
  have n16 : gI ν 16 = gI μ 16 + 1 := by rw [← hν]; rfl
  have n17 : gI ν 17 = gI μ 17 := by rw [← hν]; rfl
  have n18 : ¬ gI ν 18 = 0 := by rw [← hν]; exact (by decide : ¬ (1 : Int32) = 0)
  have n19 : ¬ gI ν 19 = 0 := by rw [← hν]; exact (by decide : ¬ (1 : Int32) = 0)
  have nA : ∀ k, k ≤ 13 → gA ν k = gA μ k := by
    intro k hk
    rw [← hν]
    show gA (pA (pA (pA (pA (wdM (pI μ 15 (gI μ 15 + 1)) e (kMd kc) p vm zm) 14 _ 1) 15 _ 0) 16 _ 0) 17 _ 0) k = _
    rw [gA_ne _ _ _ (by omega), gA_ne _ _ _ (by omega), gA_ne _ _ _ (by omega), gA_ne _ _ _ (by omega)]
    rfl
  have nB : gB ν = gB μ := by rw [← hν]; rfl
  have nP : ∀ i, 0 ≤ i → i < gI μ 16 → xA ν 14 i = xA μ 14 i ∧ xA ν 15 i = xA μ 15 i ∧ xA ν 16 i = xA μ 16 i ∧ xA ν 17 i = xA μ 17 i := by
    intro i q1 q2
    have := i_ne q1 q2
    rw [← hν]
    simp [aft, wdM, xA_pI, xA_pJ, xA_pA, gI_pI, gI_pJ, this]
  have nT : xA ν 14 (gI μ 16) = 1 := by
    rw [← hν]
    simp [aft, wdM, xA_pI, xA_pJ, xA_pA, gI_pI, gI_pJ]
  have nO : ∀ i, xA ν 18 i = xA μ 18 i := by
    intro i
    rw [← hν]
    simp [aft, wdM, xA_pI, xA_pJ, xA_pA, gI_pI, gI_pJ]
  have hwν : Wd σ1 ν := by
    rw [← hν]
    exact Wd_of a3 rfl rfl rfl rfl rfl rfl rfl rfl rfl rfl rfl rfl rfl rfl
  have hsν : Sim σ1 ν := by
    refine ⟨hwν, Ct_eq hc hEE hRR, ?_⟩
    unfold Bg
    rw [s8, s9, s10, s13, s14, s15, s5, s11, s18, n7, n9, n10, n11, n15]
    grind
  unfold f_X5_readAtom
  rw [if_neg (by rw [h40]; decide), if_pos h40, a1, bd_of]
  have hIn := hE.2 σ1 ν hsν n19 n18 (by rw [n16]; grind) (by rw [n16, s14]; grind) (by rw [n17]; exact hq3) (by rw [n17, s14]; grind) (by rw [s14]; grind) (by rw [n16, show gI μ 16 + 1 - 1 = gI μ 16 by grind, nT]; decide)
  have hpn : pn σ + 1 ≤ pn σ1 := pn_lt hp3.1 (by rw [s18]; exact a4')
  refine Qt.bd hIn (fun c σ2 ho => ?_)
  rcases ho with ⟨μ2, n, k, o1, o2, o3, o4, o5⟩ | ⟨f, pp, m, k, o1, o2, o3, o4, o5⟩
  · obtain ⟨r1, r2, r3, r4, r5, r6, r7, r8, r9, r10, r11, r12, r13, r14, r15⟩ := o3
    obtain ⟨t1, t2, t3, t4, t5⟩ := r3
    have hp32 := r1.p3
    obtain ⟨y1, y2, y3⟩ := id r1
    have y3' := y3
    unfold Bg at y3'
    obtain ⟨d1, d2, d3, d4, d5, d6, d7, d8, d9, d10, d11, d12, d13, d14, d15, d16, d17, d18, d19, d20, d21, d22⟩ := y3'
    have hr0 : rkM (gI μ2 4) ≤ 0 := by rw [y1.2.2.1, rk_eq y1.2.2.2.1, o5]; decide
    have h16 : gI μ2 16 = gI μ 16 + 1 := by rw [t1, n16]
    have htop : xA μ2 14 (gI μ2 16 - 1) = 1 := by
      rw [h16, show gI μ 16 + 1 - 1 = gI μ 16 by grind, (t4 (gI μ 16) (by grind) (by rw [n16]; grind)).1, nT]
    have hred : f_X12_reduce 1 (pI μ2 20 1) = some ((), pI μ2 20 1) := red_no 1 (by show 0 < gI μ2 16; grind) (by show gI μ2 16 < 3200; grind) (by show ¬ xA μ2 14 (gI μ2 16 - 1) = 7; rw [htop]; decide)
    have hend : f_X12_endE (pI μ2 20 1) = bd (f_X12_accept (if gI μ2 4 = 141 then 1 else 0) (pI μ2 20 1)) (fun _ τ71 => some ((), (pI (pI (pI (pI τ71 16 ((gI τ71 16) - 1)) 15 ((gI τ71 15) - 1)) 20 0) 21 0))) := by
      unfold f_X12_endE
      have g16 : gI (pI μ2 20 1) 16 = gI μ2 16 := rfl
      rw [hred, bd_of, g16, gd3200 (by grind) (by grind), gd3200 (by grind) (by grind), show xA (pI μ2 20 1) 14 (gI μ2 16 - 1) = 1 from htop, if_pos rfl, m_isS, bd_of]
      rfl
    have hpn2 := pn_le (σ := σ1) (σ' := σ2) r11.2.2.2.2.2.1
    by_cases h41 : gI σ2 17 = 41
    · have hm4 : gI μ2 4 = 141 := by rw [y1.2.2.1, h41]; decide
      have hwd2 : Wd σ2 (pI μ2 20 1) := Wd_of y1 rfl rfl rfl rfl rfl rfl rfl rfl rfl rfl rfl rfl rfl rfl
      obtain ⟨e', kc', p', v', z', vm', zm', x1, x2, x3, x4, x5, x6⟩ := adv hwd2 (by rw [h41]; decide)
      rw [if_pos hm4, m_acc1 (μ := pI μ2 20 1) d2, x2, bd_of] at hend
      have hex : f_X5_expect 41 σ2 = some ((), wdC σ2 e' kc' p' v' z') := by
        unfold f_X5_expect
        rw [if_pos h41, x1, bd_of]
      rw [hex, bd_of]
      refine Qt.so (Or.inl ⟨_, n, k + 1, ?_, o2.tr (tn_end d2 (by grind) r2 (by rw [o4]; decide) hr0 hend), ?_, ⟨rfl, rfl⟩, trivial⟩)
      · have : pn σ2 + 1 ≤ pn (pI (wdC σ2 e' kc' p' v' z') 14 (gI (wdC σ2 e' kc' p' v' z') 14 - 1)) := pn_lt hp32.1 x4
        omega
      · have k8 : gI (pI (wdC σ2 e' kc' p' v' z') 14 (gI (wdC σ2 e' kc' p' v' z') 14 - 1)) 8 = gI σ2 8 := rfl
        refine ⟨⟨Wd_of x3 rfl rfl rfl rfl rfl rfl rfl rfl rfl rfl rfl rfl rfl rfl, ?_, ?_⟩, r2, ⟨?_, ?_, ?_, ?_, ?_⟩, ?_, ?_, ?_, ?_, ?_, ?_, ?_, ?_, ?_, r13, r14, r15⟩
        · exact Ct_eq y2 (((EqE.rf σ2).w).I (by decide)) ((((((EqR.rf μ2).I (by decide)).w).I (by decide)).I (by decide)).I (by decide) |>.I (by decide))
        · unfold Bg
          refine ⟨d1, d2, d3, d4, d5, ?_, ?_, ?_, d9, ?_, d11, d12, d13, d14, d15, d16, d17, ?_, d19, ?_, d21, d22⟩
          · show gI σ2 14 - 1 = gI μ2 15 - 1
            rw [d6]
          · show 0 ≤ gI σ2 14 - 1
            grind
          · show gI σ2 14 - 1 ≤ 30
            grind
          · show gI σ2 8 ≤ 2 * p'
            grind
          · show 2 * gI μ2 9 ≤ 2 * gI σ2 13 + p'
            grind
          · show gI μ2 10 ≤ p'
            grind
        · show gI μ2 16 - 1 = gI μ 16
          grind
        · show gI μ2 17 = gI μ 17 + 1
          rw [t2, n17]
        · show xA μ2 18 (gI μ 17) = n
          rw [← n17]; exact t3
        · intro i q1 q2
          have u1 := t4 i q1 (by rw [n16]; grind)
          have u2 := nP i q1 q2
          exact ⟨u1.1.trans u2.1, u1.2.1.trans u2.2.1, u1.2.2.1.trans u2.2.2.1, u1.2.2.2.trans u2.2.2.2⟩
        · intro i q1 q2
          have u1 := t5 i q1 (by rw [n17]; exact q2)
          exact u1.trans (nO i)
        · exact hEE.tr ((r4.w).I (by decide))
        · exact hRR.tr (((((r5.I (by decide)).w).I (by decide)).I (by decide)).I (by decide) |>.I (by decide))
        · show gI μ2 12 - gI μ2 11 = gI μ 12 - gI μ 11
          rw [r6, n12, n11]
        · show gI σ2 14 - 1 = gI σ 14
          grind
        · show gI σ2 15 = gI σ 15
          rw [r8, s15]
        · have ra : ∀ k i, xA σ1 k i = xA σ k i := fun k i => by show σ1.2.2.1 k _ = σ.2.2.1 k _; rw [sA]
          have rb : ∀ k i, xB σ1 k i = xB σ k i := fun k i => by show σ1.2.2.2.1 k _ = σ.2.2.2.1 k _; rw [sA]
          unfold FrC at r9 ⊢
          rw [s8, s9, s10] at r9
          simp only [ra, rb] at r9
          exact r9
        · have ra : ∀ k i, k ≤ 13 → xA ν k i = xA μ k i := fun k i hk => congrFun (nA k hk) _
          have rb : ∀ k i, xB ν k i = xB μ k i := fun k i => congrFun (congrFun nB k) _
          unfold FrM at r10 ⊢
          rw [n9, n10] at r10
          simp only [rb, ra 2 _ (by decide), ra 3 _ (by decide), ra 4 _ (by decide), ra 5 _ (by decide), ra 6 _ (by decide), ra 7 _ (by decide), ra 8 _ (by decide), ra 9 _ (by decide), ra 10 _ (by decide)] at r10
          exact r10
        · unfold Gr at r11 ⊢
          rw [s8, s9, s10, s13, s18, n9, n10] at r11
          have g18 : gI (pI (wdC σ2 e' kc' p' v' z') 14 (gI (wdC σ2 e' kc' p' v' z') 14 - 1)) 18 = p' := rfl
          rw [g18]
          have g1 : gI (pI (pI (pI (pI (wdM (pI μ2 20 1) e' (kMd kc') p' vm' zm') 16 (gI (wdM (pI μ2 20 1) e' (kMd kc') p' vm' zm') 16 - 1)) 15 (gI (wdM (pI μ2 20 1) e' (kMd kc') p' vm' zm') 15 - 1)) 20 0) 21 0) 9 = gI μ2 9 := rfl
          have g2 : gI (pI (pI (pI (pI (wdM (pI μ2 20 1) e' (kMd kc') p' vm' zm') 16 (gI (wdM (pI μ2 20 1) e' (kMd kc') p' vm' zm') 16 - 1)) 15 (gI (wdM (pI μ2 20 1) e' (kMd kc') p' vm' zm') 15 - 1)) 20 0) 21 0) 10 = gI μ2 10 := rfl
          rw [g1, g2]
          have h8 : gI (pI (wdC σ2 e' kc' p' v' z') 14 (gI (wdC σ2 e' kc' p' v' z') 14 - 1)) 8 = gI σ2 8 := rfl
          have h9 : gI (pI (wdC σ2 e' kc' p' v' z') 14 (gI (wdC σ2 e' kc' p' v' z') 14 - 1)) 9 = gI σ2 9 := rfl
          have h10 : gI (pI (wdC σ2 e' kc' p' v' z') 14 (gI (wdC σ2 e' kc' p' v' z') 14 - 1)) 10 = gI σ2 10 := rfl
          have h13 : gI (pI (wdC σ2 e' kc' p' v' z') 14 (gI (wdC σ2 e' kc' p' v' z') 14 - 1)) 13 = gI σ2 13 := rfl
          rw [h8, h9, h10, h13]
          grind
        · rw [s15, s9, s10, s8, n9] at r12
          exact r12.rows rfl (fun _ _ => rfl) rfl (by show gI μ2 10 ≤ gI μ2 10; grind) rfl
    · have hm4 : ¬ gI μ2 4 = 141 := by rw [y1.2.2.1]; intro q; exact h41 ((kMd_at 41 (by decide +kernel) y1.2.2.2.1).mp (by rw [q]; decide))
      rw [if_neg hm4, m_acc0 (μ := pI μ2 20 1) d2, bd_of] at hend
      obtain ⟨σ3, x1, x2⟩ := c_ref r1 (k := 1) (by decide)
      have hex : f_X5_expect 41 σ2 = some ((), σ3) := by
        unfold f_X5_expect
        rw [if_neg h41, bd_eta, x1]
      rw [hex, bd_of]
      have hc6 : 0 ≤ c ∧ c < 6200 := by grind
      refine Qt.so (Or.inr ⟨1, gI σ2 18, gI σ2 13, k + 1, ?_, die_of (o2.tr (tn_end d2 (by grind) r2 (by rw [o4]; decide) hr0 hend)) (by decide) rfl ?_ ?_ ?_ ?_, Or.inl (St14 _ x2), hc6.1, hc6.2⟩)
      · have := pn_3 r1
        omega
      · show gI μ2 5 = gI σ2 18
        exact y1.2.2.2.2.1.symm
      · show gI μ2 11 = gI σ2 13
        exact d3.symm
      · show gI μ2 12 - gI μ2 11 = gI μ 12 - gI μ 11
        rw [r6, n12, n11]
      · exact hRR.tr (((((((r5.I (by decide)).I (by decide)).I (by decide)).I (by decide)).I (by decide)).I (by decide)).I (by decide))
  · refine Qt.bd (dm_expect 41 (fun x hx => hx.2.2.2.2.2) (by decide) o3) (fun _ σ3 hst => ?_)
    exact Qt.so (Or.inr ⟨f, pp, m, k, by omega, o2.base (by rw [n12, n11]) hRR, Or.inl (St14 _ hst), o4, o5⟩)
