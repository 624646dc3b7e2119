/-- what may not follow an E -/
def abE (k : Int32) : Prop := ¬ k = 44 ∧ ¬ k = 8 ∧ ¬ k = 10 ∧ ¬ k = 59 ∧ ¬ k = 125 ∧ ¬ k = 41
/-- pile and operands are not too many -/
def Pz (e : Int) (σ μ : S5) : Prop := 0 < iv μ 16 ∧ iv μ 16 ≤ 7 * iv σ 14 + 1 + e ∧ 0 ≤ iv μ 17 ∧ iv μ 17 ≤ 7 * iv σ 14 + e
theorem Pz.rg {e : Int} {σ μ : S5} (h : Pz e σ μ) (h1 : gI σ 14 ≤ 30) (he : e ≤ 5) : 0 < gI μ 16 ∧ gI μ 16 < 3000 ∧ 0 ≤ gI μ 17 ∧ gI μ 17 < 3000 := by
  have h2 := iv_fr h1
  have e1 : (30 : Int32).toInt = 30 := rfl
  obtain ⟨a, b, c, d⟩ := h
  refine ⟨Int32.lt_iff_toInt_lt.mpr a, Int32.lt_iff_toInt_lt.mpr ?_, Int32.le_iff_toInt_le.mpr c, Int32.lt_iff_toInt_lt.mpr ?_⟩
  · have e2 : (3000 : Int32).toInt = 3000 := rfl
    show iv μ 16 < _
    omega
  · have e2 : (3000 : Int32).toInt = 3000 := rfl
    show iv μ 17 < _
    omega
/-- E reads as the reference does, where at least o stand open -/
def ESp (E : S5 → Option (Int32 × S5)) (o : Int32) : Prop := (∀ (f p n : Int32) (σ : S5), St f p n σ → E σ = some (0, σ)) ∧ ∀ σ μ : S5, Sim σ μ → ¬ gI μ 19 = 0 → ¬ gI μ 18 = 0 → Pz 0 σ μ → o ≤ gI σ 14 → ¬ xA μ 14 (gI μ 16 - 1) = 7 → Qt (E σ) (Out (4 * pn σ) (fun μ' => gI μ' 20 = 1) (fun k => rkK k = 0) abE σ μ μ)
theorem TR.rows {σ σ' μ μ' : S5} {h s s' u u' a b t n c : Int32} (q : TR σ μ h s s' u u' a b t n c) (h1 : σ'.2.2 = σ.2.2) (h2 : ∀ k, k ≤ 13 → gA μ' k = gA μ k) (h3 : gB μ' = gB μ) (h4 : gI μ 10 ≤ gI μ' 10) (h5 : gI σ' 4 = gI σ 4) : TR σ' μ' h s s' u u' a b t n c := by
  have xa : ∀ k i, xA σ' k i = xA σ k i := fun k i => by show σ'.2.2.1 k _ = σ.2.2.1 k _; rw [h1]
  have xb : ∀ k i, xB σ' k i = xB σ k i := fun k i => by show σ'.2.2.2.1 k _ = σ.2.2.2.1 k _; rw [h1]
  have ya : ∀ k i, k ≤ 13 → xA μ' k i = xA μ k i := fun k i hk => congrFun (h2 k hk) _
  have yb : ∀ k i, xB μ' k i = xB μ k i := fun k i => congrFun (congrFun h3 k) _
  refine q.st ⟨fun i _ _ => ⟨xa _ _, xa _ _, xa _ _, xa _ _⟩, fun i _ _ => xa _ _, fun i _ _ => ⟨xa _ _, xa _ _, xa _ _, xa _ _⟩, fun i _ _ => xa _ _, fun i _ _ => xb _ _, fun i _ _ => ⟨xa _ _, xa _ _, xa _ _, xb _ _⟩, fun i _ _ => ⟨ya _ _ (by decide), ya _ _ (by decide), ya _ _ (by decide), ya _ _ (by decide), ya _ _ (by decide), ya _ _ (by decide), ya _ _ (by decide), ya _ _ (by decide), yb _ _⟩, fun i _ _ _ => ya _ _ (by decide), fun i _ _ => yb _ _, h4, h5, fun i _ _ => xa _ _⟩
theorem TR.c {σ μ : S5} {h s s' u u' a b t n c : Int32} (q : TR σ μ h s s' u u' a b t n c) : 0 ≤ c ∧ c < 6200 := by
  have hb := q.un.1
  unfold Bd at hb
  exact ⟨i_trans hb.2.2.2.2.2.2.2.2.2.2.2.1 hb.2.2.2.2.2.2.2.2.2.2.2.2.1, hb.2.2.2.2.2.2.2.2.2.2.2.2.2⟩
theorem pn_lt {σ σ' : S5} (h0 : 0 ≤ gI σ 18) (h : gI σ 18 < gI σ' 18) : pn σ + 1 ≤ pn σ' := i_lt (not_neg h0) h
theorem pn_le {σ σ' : S5} (h : gI σ 18 ≤ gI σ' 18) : pn σ ≤ pn σ' := i_le h
theorem pn_3 {σ μ : S5} (h : Sim σ μ) : pn σ ≤ 3000 := i_le h.p3.2
theorem red_no {μ : S5} (r : Int32) (h0 : 0 < gI μ 16) (h1 : gI μ 16 < 3200) (h : ¬ xA μ 14 (gI μ 16 - 1) = 7) : f_X12_reduce r μ = some ((), μ) := by
  unfold f_X12_reduce
  obtain ⟨m, hm⟩ := FU_s
  rw [hm]
  show f_X12_reduce_B0 _ _ _ = _
  unfold f_X12_reduce_B0
  rw [if_neg (by grind), gd3200 (by grind) (by grind), if_neg h]
theorem m_atomG {μ : S5} (h7 : gI μ 7 = 0) (hw : gI μ 4 = 140) (ho : ¬ gI μ 15 = 30) : f_X12_atom μ = bd (f_X12_next (pI μ 15 (gI μ 15 + 1))) (fun _ τ => bd (f_X12_pile 1 0 0 τ) (fun _ ρ => some (0, ρ))) := by
  unfold f_X12_atom f_X12_opens f_X12_opens_b13
  rw [m_isS, bd_of, if_pos (show gI μ 4 = 100 + 40 by rw [hw]; decide), if_neg (by decide), if_neg ho, bd_of, m_acc1 (μ := pI μ 15 (gI μ 15 + 1)) h7]
theorem EqR.Pl {σ τ : S5} {k n r : Int32} (h : EqR σ τ) : EqR σ (mPl τ k n r) := h.pl
/-- an E in brackets -/
theorem at_group {σ μ : S5} {E : S5 → Option (Int32 × S5)} (hE : ESp E (gI σ 14 + 1)) (hs : Sim σ μ) (h40 : gI σ 17 = 40) (h30 : gI σ 14 < 30) (hq : Pz 4 σ μ) : ∃ τ : S5, f_X12_atom μ = some (0, τ) ∧ gI τ 20 = gI μ 20 ∧ Qt (f_X5_readAtom E σ) (Out (4 * pn σ + 4) (fun μ' => gI μ' 20 = 0 ∧ gI μ' 21 = 0) (fun _ => True) (fun _ => False) σ μ (aft 1 τ)) := by
  have hp3 := hs.p3
  obtain ⟨hw, hc, hb⟩ := hs
  have hb' := hb
  unfold Bg at hb'
  obtain ⟨b1, b2, b3, b4, b5, b6, b7, b8, b9, b10, b11, b12, b13, b14, b15, b16, b17, b18, b19, b20, b21, b22, b23⟩ := hb'
  obtain ⟨hq1, hq2, hq3, hq4⟩ := hq.rg b8 (by decide)
  have hw4 : gI μ 4 = 140 := by rw [hw.2.2.1, h40]; decide
  have hM := m_atomG b2 hw4 (by rw [← b6]; grind)
  have hwd : Wd (pI σ 14 (gI σ 14 + 1)) (pI μ 15 (gI μ 15 + 1)) := Wd_of hw rfl rfl rfl rfl rfl rfl rfl rfl rfl rfl rfl rfl rfl rfl
  obtain ⟨e, kc, p, v, z, vm, zm, a1, a2, a3, a4, a5, a6⟩ := adv hwd (by show ¬ gI σ 17 = 1; rw [h40]; decide)
  have a4' : gI σ 18 < p := a4
  generalize hσ1 : wdC (pI σ 14 (gI σ 14 + 1)) e kc p v z = σ1 at *
  have ex16 : gI (wdM (pI μ 15 (gI μ 15 + 1)) e (kMd kc) p vm zm) 16 = gI μ 16 := rfl
  rw [a2, bd_of, m_pile (μ := wdM (pI μ 15 (gI μ 15 + 1)) e (kMd kc) p vm zm) 1 0 0 (by rw [ex16]; grind) (by rw [ex16]; grind), bd_of] at hM
  refine ⟨_, hM, rfl, ?_⟩
  generalize hν : aft 1 (pI (pA (pA (pA (pA (wdM (pI μ 15 (gI μ 15 + 1)) e (kMd kc) p vm zm) 14 (gI (wdM (pI μ 15 (gI μ 15 + 1)) e (kMd kc) p vm zm) 16) 1) 15 (gI (wdM (pI μ 15 (gI μ 15 + 1)) e (kMd kc) p vm zm) 16) 0) 16 (gI (wdM (pI μ 15 (gI μ 15 + 1)) e (kMd kc) p vm zm) 16) 0) 17 (gI (wdM (pI μ 15 (gI μ 15 + 1)) e (kMd kc) p vm zm) 16) 0) 16 (gI (wdM (pI μ 15 (gI μ 15 + 1)) e (kMd kc) p vm zm) 16 + 1)) = ν
  have hEE : EqE σ σ1 := by rw [← hσ1]; exact ((EqE.rf σ).I (by decide)).w
  have hRR : EqR μ ν := by rw [← hν]; exact (((((EqR.rf μ).I (by decide)).w).pl).I (by decide) |>.I (by decide) |>.I (by decide))
  have s8 : gI σ1 8 = gI σ 8 := by rw [← hσ1]; rfl
  have s9 : gI σ1 9 = gI σ 9 := by rw [← hσ1]; rfl
  have s10 : gI σ1 10 = gI σ 10 := by rw [← hσ1]; rfl
  have s13 : gI σ1 13 = gI σ 13 := by rw [← hσ1]; rfl
  have s14 : gI σ1 14 = gI σ 14 + 1 := by rw [← hσ1]; rfl
  have s15 : gI σ1 15 = gI σ 15 := by rw [← hσ1]; rfl
  have s5 : gI σ1 5 = gI σ 5 := by rw [← hσ1]; rfl
  have s11 : gI σ1 11 = gI σ 11 := by rw [← hσ1]; rfl
  have s18 : gI σ1 18 = p := by rw [← hσ1]; rfl
  have sA : σ1.2.2 = σ.2.2 := by rw [← hσ1]; rfl
  have n7 : gI ν 7 = gI μ 7 := by rw [← hν]; rfl
  have n9 : gI ν 9 = gI μ 9 := by rw [← hν]; rfl
  have n10 : gI ν 10 = gI μ 10 := by rw [← hν]; rfl
  have n11 : gI ν 11 = gI μ 11 := by rw [← hν]; rfl
  have n12 : gI ν 12 = gI μ 12 := by rw [← hν]; rfl
  have n15 : gI ν 15 = gI μ 15 + 1 := by rw [← hν]; rfl
  have n16 : gI ν 16 = gI μ 16 + 1 := by rw [← hν]; rfl
  have n17 : gI ν 17 = gI μ 17 := by rw [← hν]; rfl
  have n18 : ¬ gI ν 18 = 0 := by rw [← hν]; exact (by decide : ¬ (1 : Int32) = 0)
  have n19 : ¬ gI ν 19 = 0 := by rw [← hν]; exact (by decide : ¬ (1 : Int32) = 0)
  have nA : ∀ k, k ≤ 13 → gA ν k = gA μ k := by
    intro k hk
    rw [← hν]
    show gA (pA (pA (pA (pA (wdM (pI μ 15 (gI μ 15 + 1)) e (kMd kc) p vm zm) 14 _ 1) 15 _ 0) 16 _ 0) 17 _ 0) k = _
    rw [gA_ne _ _ _ (by omega), gA_ne _ _ _ (by omega), gA_ne _ _ _ (by omega), gA_ne _ _ _ (by omega)]
    rfl
  have nB : gB ν = gB μ := by rw [← hν]; rfl
  have nP : ∀ i, 0 ≤ i → i < gI μ 16 → xA ν 14 i = xA μ 14 i ∧ xA ν 15 i = xA μ 15 i ∧ xA ν 16 i = xA μ 16 i ∧ xA ν 17 i = xA μ 17 i := by
    intro i q1 q2
    have := i_ne q1 q2
    rw [← hν]
    simp [aft, wdM, xA_pI, xA_pJ, xA_pA, gI_pI, gI_pJ, this]
  have nT : xA ν 14 (gI μ 16) = 1 := by
    rw [← hν]
    simp [aft, wdM, xA_pI, xA_pJ, xA_pA, gI_pI, gI_pJ]
  have nO : ∀ i, xA ν 18 i = xA μ 18 i := by
    intro i
    rw [← hν]
    simp [aft, wdM, xA_pI, xA_pJ, xA_pA, gI_pI, gI_pJ]
  have hwν : Wd σ1 ν := by
    rw [← hν]
    exact Wd_of a3 rfl rfl rfl rfl rfl rfl rfl rfl rfl rfl rfl rfl rfl rfl
  have hsν : Sim σ1 ν := by
    refine ⟨hwν, Ct_eq hc hEE hRR, ?_⟩
    have g0 : Gm 0 0 σ σ1 μ ν := by
      have i8 := iv_eq s8
      have i9 := iv_eq s9
      have i10 := iv_eq s10
      have i13 := iv_eq s13
      have i18 : iv σ 18 < iv σ1 18 := iv_lt (by rw [s18]; exact a4')
      have m9 := iv_eq n9
      have m10 := iv_eq n10
      unfold Gm
      omega
    exact Bg_mk (by rw [s11]; exact b1) (by rw [n7]; exact b2) (by rw [s13, n11]; exact b3) (by rw [s13]; exact b4) (by rw [s13]; exact b5) (by rw [s14, n15, b6]) (by rw [s14]; grind) (by rw [s14]; grind) (by rw [s8]; exact b9) (by rw [s9]; exact b11) (by rw [s5]; exact b13) (by rw [s5]; exact b14) (by rw [s10]; exact b15) (by rw [n9]; exact b17) (by rw [n10]; exact b19) (by rw [s15]; exact b21) (by rw [s15, s9]; exact b22) (by rw [s18]; exact a6) (b23.gr g0 (by decide) (by decide) s5)
  have hPz : Pz 0 σ1 ν := by
    have i14 := iv_a1 s14 b7 (by grind)
    have i16 := iv_a1 n16 (by grind) (by grind)
    have i17 := iv_eq n17
    unfold Pz at *
    omega
  unfold f_X5_readAtom
  rw [if_neg (by rw [h40]; decide), if_pos h40, a1, bd_of]
  have hIn := hE.2 σ1 ν hsν n19 n18 hPz (by rw [s14]; grind) (by rw [n16, show gI μ 16 + 1 - 1 = gI μ 16 by grind, nT]; decide)
  have hpn : pn σ + 1 ≤ pn σ1 := pn_lt hp3.1 (by rw [s18]; exact a4')
  refine Qt.bd hIn (fun c σ2 ho => ?_)
  rcases ho with ⟨μ2, n, k, o1, o2, o3, o4, o5⟩ | ⟨f, pp, m, k, o1, o2, o3, o4, o5⟩
  · obtain ⟨r1, r2, r3, r4, r5, r6, r7, r8, r9, r10, r11, r12, r13, r14, r15⟩ := o3
    obtain ⟨t1, t2, t3, t4, t5⟩ := r3
    have hp32 := r1.p3
    obtain ⟨y1, y2, y3⟩ := id r1
    have y3' := y3
    unfold Bg at y3'
    obtain ⟨d1, d2, d3, d4, d5, d6, d7, d8, d9, d10, d11, d12, d13, d14, d15, d16, d17, d18, d19, d20, d21, d22, d23⟩ := y3'
    have hr0 : rkM (gI μ2 4) ≤ 0 := by rw [y1.2.2.1, rk_eq y1.2.2.2.1, o5]; decide
    have h16 : gI μ2 16 = gI μ 16 + 1 := by rw [t1, n16]
    have htop : xA μ2 14 (gI μ2 16 - 1) = 1 := by
      rw [h16, show gI μ 16 + 1 - 1 = gI μ 16 by grind, (t4 (gI μ 16) (by grind) (by rw [n16]; grind)).1, nT]
    have hred : f_X12_reduce 1 (pI μ2 20 1) = some ((), pI μ2 20 1) := red_no 1 (by show 0 < gI μ2 16; grind) (by show gI μ2 16 < 3200; grind) (by show ¬ xA μ2 14 (gI μ2 16 - 1) = 7; rw [htop]; decide)
    have hend : f_X12_endE (pI μ2 20 1) = bd (f_X12_accept (if gI μ2 4 = 141 then 1 else 0) (pI μ2 20 1)) (fun _ τ71 => some ((), (pI (pI (pI (pI τ71 16 ((gI τ71 16) - 1)) 15 ((gI τ71 15) - 1)) 20 0) 21 0))) := by
      unfold f_X12_endE
      have g16 : gI (pI μ2 20 1) 16 = gI μ2 16 := rfl
      rw [hred, bd_of, g16, gd3200 (by grind) (by grind), gd3200 (by grind) (by grind), show xA (pI μ2 20 1) 14 (gI μ2 16 - 1) = 1 from htop, if_pos rfl, m_isS, bd_of]
      rfl
    have hpn2 := pn_le (σ := σ1) (σ' := σ2) r11.2.2.2.2.2.1
    by_cases h41 : gI σ2 17 = 41
    · have hm4 : gI μ2 4 = 141 := by rw [y1.2.2.1, h41]; decide
      have hwd2 : Wd σ2 (pI μ2 20 1) := Wd_of y1 rfl rfl rfl rfl rfl rfl rfl rfl rfl rfl rfl rfl rfl rfl
      obtain ⟨e', kc', p', v', z', vm', zm', x1, x2, x3, x4, x5, x6⟩ := adv hwd2 (by rw [h41]; decide)
      rw [if_pos hm4, m_acc1 (μ := pI μ2 20 1) d2, x2, bd_of] at hend
      have hex : f_X5_expect 41 σ2 = some ((), wdC σ2 e' kc' p' v' z') := by
        unfold f_X5_expect
        rw [if_pos h41, x1, bd_of]
      rw [hex, bd_of]
      have hGm1 : Gm 0 0 σ σ1 μ ν := by
        have i8 := iv_eq s8
        have i9 := iv_eq s9
        have i10 := iv_eq s10
        have i13 := iv_eq s13
        have i18 : iv σ 18 < iv σ1 18 := iv_lt (by rw [s18]; exact a4')
        have m9 := iv_eq n9
        have m10 := iv_eq n10
        unfold Gm
        omega
      have S8 : ∀ j, ¬ j = 14 → (j < 16 ∨ 19 < j) → gI (pI (wdC σ2 e' kc' p' v' z') 14 (gI (wdC σ2 e' kc' p' v' z') 14 - 1)) j = gI σ2 j := fun j h1 h2 => by rw [gI_pI, if_neg h1, gI_wdC h2]
      have S14 : gI (pI (wdC σ2 e' kc' p' v' z') 14 (gI (wdC σ2 e' kc' p' v' z') 14 - 1)) 14 = gI σ2 14 - 1 := by rw [gI_pI, if_pos rfl, gI_wdC (by decide)]
      have S18 : gI (pI (wdC σ2 e' kc' p' v' z') 14 (gI (wdC σ2 e' kc' p' v' z') 14 - 1)) 18 = p' := by rw [gI_pI, if_neg (by decide), p_wdC]
      have SA : (pI (wdC σ2 e' kc' p' v' z') 14 (gI (wdC σ2 e' kc' p' v' z') 14 - 1)).2.2 = σ2.2.2 := rfl
      have SE : EqE σ2 (pI (wdC σ2 e' kc' p' v' z') 14 (gI (wdC σ2 e' kc' p' v' z') 14 - 1)) := ((EqE.rf σ2).w).I (by decide)
      have M8 : ∀ j, ¬ j = 15 → ¬ j = 16 → ¬ j = 20 → ¬ j = 21 → (j < 3 ∨ 6 < j) → gI (pI (pI (pI (pI (wdM (pI μ2 20 1) e' (kMd kc') p' vm' zm') 16 (gI (wdM (pI μ2 20 1) e' (kMd kc') p' vm' zm') 16 - 1)) 15 (gI (wdM (pI μ2 20 1) e' (kMd kc') p' vm' zm') 15 - 1)) 20 0) 21 0) j = gI μ2 j := fun j h1 h2 h3 h4 h5 => by rw [gI_pI, if_neg h4, gI_pI, if_neg h3, gI_pI, if_neg h1, gI_pI, if_neg h2, gI_wdM h5, gI_pI, if_neg h3]
      have M16 : gI (pI (pI (pI (pI (wdM (pI μ2 20 1) e' (kMd kc') p' vm' zm') 16 (gI (wdM (pI μ2 20 1) e' (kMd kc') p' vm' zm') 16 - 1)) 15 (gI (wdM (pI μ2 20 1) e' (kMd kc') p' vm' zm') 15 - 1)) 20 0) 21 0) 16 = gI μ2 16 - 1 := rfl
      have M15 : gI (pI (pI (pI (pI (wdM (pI μ2 20 1) e' (kMd kc') p' vm' zm') 16 (gI (wdM (pI μ2 20 1) e' (kMd kc') p' vm' zm') 16 - 1)) 15 (gI (wdM (pI μ2 20 1) e' (kMd kc') p' vm' zm') 15 - 1)) 20 0) 21 0) 15 = gI μ2 15 - 1 := rfl
      have MA : (pI (pI (pI (pI (wdM (pI μ2 20 1) e' (kMd kc') p' vm' zm') 16 (gI (wdM (pI μ2 20 1) e' (kMd kc') p' vm' zm') 16 - 1)) 15 (gI (wdM (pI μ2 20 1) e' (kMd kc') p' vm' zm') 15 - 1)) 20 0) 21 0).2.2 = μ2.2.2 := rfl
      have ME : EqR μ2 (pI (pI (pI (pI (wdM (pI μ2 20 1) e' (kMd kc') p' vm' zm') 16 (gI (wdM (pI μ2 20 1) e' (kMd kc') p' vm' zm') 16 - 1)) 15 (gI (wdM (pI μ2 20 1) e' (kMd kc') p' vm' zm') 15 - 1)) 20 0) 21 0) := ((((((EqR.rf μ2).I (by decide)).w).I (by decide)).I (by decide)).I (by decide)).I (by decide)
      have MW : Wd (pI (wdC σ2 e' kc' p' v' z') 14 (gI (wdC σ2 e' kc' p' v' z') 14 - 1)) (pI (pI (pI (pI (wdM (pI μ2 20 1) e' (kMd kc') p' vm' zm') 16 (gI (wdM (pI μ2 20 1) e' (kMd kc') p' vm' zm') 16 - 1)) 15 (gI (wdM (pI μ2 20 1) e' (kMd kc') p' vm' zm') 15 - 1)) 20 0) 21 0) := Wd_of x3 rfl rfl rfl rfl rfl rfl rfl rfl rfl rfl rfl rfl rfl rfl
      have M20 : gI (pI (pI (pI (pI (wdM (pI μ2 20 1) e' (kMd kc') p' vm' zm') 16 (gI (wdM (pI μ2 20 1) e' (kMd kc') p' vm' zm') 16 - 1)) 15 (gI (wdM (pI μ2 20 1) e' (kMd kc') p' vm' zm') 15 - 1)) 20 0) 21 0) 20 = 0 := rfl
      have M21 : gI (pI (pI (pI (pI (wdM (pI μ2 20 1) e' (kMd kc') p' vm' zm') 16 (gI (wdM (pI μ2 20 1) e' (kMd kc') p' vm' zm') 16 - 1)) 15 (gI (wdM (pI μ2 20 1) e' (kMd kc') p' vm' zm') 15 - 1)) 20 0) 21 0) 21 = 0 := rfl
      refine Qt.so (Or.inl ⟨_, n, k + 1, ?_, o2.tr (tn_end d2 (by grind) r2 (by rw [o4]; decide) hr0 hend), ?_, ⟨M20, M21⟩, trivial⟩)
      · have : pn σ2 + 1 ≤ pn (pI (wdC σ2 e' kc' p' v' z') 14 (gI (wdC σ2 e' kc' p' v' z') 14 - 1)) := pn_lt hp32.1 (by rw [S18]; exact x4)
        omega
      clear hend hex hred x1 x2 x3
      generalize pI (wdC σ2 e' kc' p' v' z') 14 (gI (wdC σ2 e' kc' p' v' z') 14 - 1) = S at *
      generalize pI (pI (pI (pI (wdM (pI μ2 20 1) e' (kMd kc') p' vm' zm') 16 (gI (wdM (pI μ2 20 1) e' (kMd kc') p' vm' zm') 16 - 1)) 15 (gI (wdM (pI μ2 20 1) e' (kMd kc') p' vm' zm') 15 - 1)) 20 0) 21 0 = M at *
      have hGm2 : Gm 0 0 σ2 S μ2 M := by
        have i8 := iv_eq (S8 8 (by decide) (by decide))
        have i9 := iv_eq (S8 9 (by decide) (by decide))
        have i10 := iv_eq (S8 10 (by decide) (by decide))
        have i13 := iv_eq (S8 13 (by decide) (by decide))
        have i18 : iv σ2 18 < iv S 18 := iv_lt (by rw [S18]; exact x4)
        have m9 := iv_eq (M8 9 (by decide) (by decide) (by decide) (by decide) (by decide))
        have m10 := iv_eq (M8 10 (by decide) (by decide) (by decide) (by decide) (by decide))
        unfold Gm
        omega
      have hGm : Gm 1 1 σ S μ M := ((hGm1.tr r11.2.2.2.2.2.2).tr hGm2).wk (by decide) (by decide)
      have ra : ∀ k i, xA σ1 k i = xA σ k i := fun k i => by show σ1.2.2.1 k _ = σ.2.2.1 k _; rw [sA]
      have rb : ∀ k i, xB σ1 k i = xB σ k i := fun k i => by show σ1.2.2.2.1 k _ = σ.2.2.2.1 k _; rw [sA]
      have Sa : ∀ k i, xA S k i = xA σ2 k i := fun k i => by show S.2.2.1 k _ = σ2.2.2.1 k _; rw [SA]
      have Sb : ∀ k i, xB S k i = xB σ2 k i := fun k i => by show S.2.2.2.1 k _ = σ2.2.2.2.1 k _; rw [SA]
      have ya : ∀ k i, k ≤ 13 → xA ν k i = xA μ k i := fun k i hk => congrFun (nA k hk) _
      have yb : ∀ k i, xB ν k i = xB μ k i := fun k i => congrFun (congrFun nB k) _
      have Ma : ∀ k i, xA M k i = xA μ2 k i := fun k i => by show M.2.2.1 k _ = μ2.2.2.1 k _; rw [MA]
      have Mb : ∀ k i, xB M k i = xB μ2 k i := fun k i => by show M.2.2.2.1 k _ = μ2.2.2.2.1 k _; rw [MA]
      refine ⟨⟨MW, Ct_eq y2 SE ME, ?_⟩, (M8 19 (by decide) (by decide) (by decide) (by decide) (by decide)).trans r2, ⟨?_, ?_, ?_, ?_, ?_⟩, hEE.tr (r4.tr SE), hRR.tr (r5.tr ME), ?_, ?_, ?_, ?_, ?_, ?_, ?_, ?_, by rw [Sa]; exact r14, by rw [Ma]; exact r15⟩
      · exact Bg_mk (by rw [S8 11 (by decide) (by decide)]; exact d1) (by rw [M8 7 (by decide) (by decide) (by decide) (by decide) (by decide)]; exact d2) (by rw [S8 13 (by decide) (by decide), M8 11 (by decide) (by decide) (by decide) (by decide) (by decide)]; exact d3) (by rw [S8 13 (by decide) (by decide)]; exact d4) (by rw [S8 13 (by decide) (by decide)]; exact d5) (by rw [S14, M15, d6]) (by rw [S14]; grind) (by rw [S14]; grind) (by rw [S8 8 (by decide) (by decide)]; exact d9) (by rw [S8 9 (by decide) (by decide)]; exact d11) (by rw [S8 5 (by decide) (by decide)]; exact d13) (by rw [S8 5 (by decide) (by decide)]; exact d14) (by rw [S8 10 (by decide) (by decide)]; exact d15) (by rw [M8 9 (by decide) (by decide) (by decide) (by decide) (by decide)]; exact d17) (by rw [M8 10 (by decide) (by decide) (by decide) (by decide) (by decide)]; exact d19) (by rw [S8 15 (by decide) (by decide)]; exact d21) (by rw [S8 15 (by decide) (by decide), S8 9 (by decide) (by decide)]; exact d22) (by rw [S18]; exact x6) (d23.gr hGm2 (by decide) (by decide) (S8 5 (by decide) (by decide)))
      · rw [M16]; grind
      · rw [M8 17 (by decide) (by decide) (by decide) (by decide) (by decide), t2, n17]
      · rw [Ma, ← n17]; exact t3
      · intro i q1 q2
        have u1 := t4 i q1 (by rw [n16]; grind)
        have u2 := nP i q1 q2
        rw [Ma, Ma, Ma, Ma]
        exact ⟨u1.1.trans u2.1, u1.2.1.trans u2.2.1, u1.2.2.1.trans u2.2.2.1, u1.2.2.2.trans u2.2.2.2⟩
      · intro i q1 q2
        have u1 := t5 i q1 (by rw [n17]; exact q2)
        rw [Ma]
        exact u1.trans (nO i)
      · rw [M8 12 (by decide) (by decide) (by decide) (by decide) (by decide), M8 11 (by decide) (by decide) (by decide) (by decide) (by decide), r6, n12, n11]
      · rw [S14, r7, s14]; grind
      · rw [S8 15 (by decide) (by decide), r8, s15]
      · unfold FrC at r9 ⊢
        rw [s8, s9, s10] at r9
        simp only [ra, rb] at r9
        simp only [Sa, Sb]
        exact r9
      · unfold FrM at r10 ⊢
        rw [n9, n10] at r10
        simp only [yb, ya 2 _ (by decide), ya 3 _ (by decide), ya 4 _ (by decide), ya 5 _ (by decide), ya 6 _ (by decide), ya 7 _ (by decide), ya 8 _ (by decide), ya 9 _ (by decide), ya 10 _ (by decide)] at r10
        simp only [Ma, Mb]
        exact r10
      · refine ⟨?_, ?_, ?_, ?_, ?_, ?_, hGm⟩
        · rw [S8 8 (by decide) (by decide), ← s8]; exact r11.1
        · rw [S8 9 (by decide) (by decide), ← s9]; exact r11.2.1
        · rw [S8 10 (by decide) (by decide), ← s10]; exact r11.2.2.1
        · rw [M8 9 (by decide) (by decide) (by decide) (by decide) (by decide), ← n9]; exact r11.2.2.2.1
        · rw [M8 10 (by decide) (by decide) (by decide) (by decide) (by decide), ← n10]; exact r11.2.2.2.2.1
        · rw [S18]
          have := r11.2.2.2.2.2.1
          rw [s18] at this
          grind
      · rw [s15, s9, s10, s8, n9] at r12
        rw [S8 9 (by decide) (by decide), S8 10 (by decide) (by decide), M8 9 (by decide) (by decide) (by decide) (by decide) (by decide)]
        exact r12.rows SA (fun k _ => by show M.2.2.1 k = μ2.2.2.1 k; rw [MA]) (by show M.2.2.2.1 = μ2.2.2.2.1; rw [MA]) (by rw [M8 10 (by decide) (by decide) (by decide) (by decide) (by decide)]; grind) (SE.1 4 (by decide))
      · rw [S8 8 (by decide) (by decide)]; exact r13
    · have hm4 : ¬ gI μ2 4 = 141 := by rw [y1.2.2.1]; intro q; exact h41 ((kMd_at 41 (by decide +kernel) y1.2.2.2.1).mp (by rw [q]; decide))
      rw [if_neg hm4, m_acc0 (μ := pI μ2 20 1) d2, bd_of] at hend
      obtain ⟨σ3, x1, x2⟩ := c_ref r1 (k := 1) (by decide)
      have hex : f_X5_expect 41 σ2 = some ((), σ3) := by
        unfold f_X5_expect
        rw [if_neg h41, bd_eta, x1]
      rw [hex, bd_of]
      have hc6 := r12.c
      refine Qt.so (Or.inr ⟨1, gI σ2 18, gI σ2 13, k + 1, ?_, die_of (o2.tr (tn_end d2 (by grind) r2 (by rw [o4]; decide) hr0 hend)) (by decide) rfl ?_ ?_ ?_ ?_, Or.inl (St14 _ x2), hc6.1, hc6.2⟩)
      · have := pn_3 r1
        omega
      · show gI μ2 5 = gI σ2 18
        exact y1.2.2.2.2.1.symm
      · show gI μ2 11 = gI σ2 13
        exact d3.symm
      · show gI μ2 12 - gI μ2 11 = gI μ 12 - gI μ 11
        rw [r6, n12, n11]
      · exact hRR.tr (((((((r5.I (by decide)).I (by decide)).I (by decide)).I (by decide)).I (by decide)).I (by decide)).I (by decide))
  · refine Qt.bd (dm_expect 41 (fun x hx => hx.2.2.2.2.2) (by decide) o3) (fun _ σ3 hst => ?_)
    exact Qt.so (Or.inr ⟨f, pp, m, k, by omega, o2.base (by rw [n12, n11]) hRR, Or.inl (St14 _ hst), o4, o5⟩)
