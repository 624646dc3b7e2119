/-- what stands while a function's head is read -/
def LPr (nk : Int32) (σ0 μ0 σ μ : S5) : Prop := Sim σ μ ∧ EqE σ0 σ ∧ EqR μ0 μ ∧ FrC σ0 σ ∧ FrM μ0 μ ∧ PF μ0 μ ∧ gI μ 12 - gI μ 11 = gI μ0 12 - gI μ0 11 ∧ (gI σ 8 = gI σ0 8 ∧ gI σ 9 = gI σ0 9 + 1 ∧ gI σ 10 = gI σ0 10 ∧ gI σ 14 = gI σ0 14 + 1 ∧ gI σ 15 = gI σ0 15 ∧ gI σ0 18 < gI σ 18) ∧ (gI μ 9 = gI μ0 9 + 1 ∧ gI μ0 10 ≤ gI μ 10 ∧ gI μ 16 = gI μ0 16 ∧ gI μ 17 = gI μ0 17) ∧ (xA σ 21 (gI σ0 9) = gI σ0 15 ∧ xA σ 22 (gI σ0 9) = gI σ0 9 ∧ xA σ 24 (gI σ0 9) = gI σ0 18) ∧ (xA μ 2 (gI μ0 9) = nk ∧ xA μ 5 (gI μ0 9) = -1 ∧ xA μ 6 (gI μ0 9) = gI σ0 18) ∧ Gm 1 0 σ0 σ μ0 μ
theorem LPr.pm {nk : Int32} {σ0 μ0 σ μ σ' μ' : S5} (hs0 : Sim σ0 μ0) (h : LPr nk σ0 μ0 σ μ) (hs : Sim σ' μ') (hF : PmF σ σ' μ μ' (gI σ0 9) (gI μ0 9)) : LPr nk σ0 μ0 σ' μ' := by
  have hb0 := hs0.2.2
  unfold Bg at hb0
  obtain ⟨l1, l2, l3, l4, l5, l6, l7, ⟨x8, x9, x10, x14, x15, x18⟩, ⟨q9, q10, q16, q17⟩, ⟨y1, y2, y3⟩, ⟨z1, z2, z3⟩, l8⟩ := h
  obtain ⟨⟨a1, a2, a3, a4, a5, a6, a7, a8⟩, b2, b3, b4, b5, b6, b7, b8⟩ := hF
  refine ⟨hs, l2.tr b2, l3.tr b3, ?_, ?_, ?_, ?_, ⟨?_, ?_, ?_, ?_, ?_, ?_⟩, ⟨?_, i_trans q10 b6, ?_, ?_⟩, ⟨?_, ?_, ?_⟩, ⟨?_, ?_, ?_⟩, ?_⟩
  · obtain ⟨f1, f2, f3, f4⟩ := l4
    refine ⟨fun i p q => ?_, fun i p q => ?_, fun i p q => (a4 i p q).trans (f3 i p q), fun i p q => ?_⟩
    · rw [a1 13 i (by decide), a1 14 i (by decide), a1 15 i (by decide), a1 16 i (by decide), a1 17 i (by decide)]; exact f1 i p q
    · rw [a2 i p (by grind), a1 21 i (by decide), a1 22 i (by decide), a1 23 i (by decide), a1 24 i (by decide)]; exact f2 i p q
    · rw [a1 27 i (by decide), a1 28 i (by decide), a1 29 i (by decide), a3 4 i (by decide)]; exact f4 i p q
  · obtain ⟨f1, f2⟩ := l5
    refine ⟨fun i p q => ?_, fun i p q => (a8 i p (by grind)).trans (f2 i p q)⟩
    rw [a5 2 i (by decide), a5 3 i (by decide), a5 4 i (by decide), a5 5 i (by decide), a5 6 i (by decide), a5 7 i (by decide), a5 8 i (by decide), a5 9 i (by decide), a6 i p (by grind), a7 0 i (by decide)]
    exact f1 i p q
  · obtain ⟨f1, f2⟩ := l6
    refine ⟨fun i p q => ?_, fun i p q => (a5 18 i (by decide)).trans (f2 i p q)⟩
    rw [a5 14 i (by decide), a5 15 i (by decide), a5 16 i (by decide), a5 17 i (by decide)]
    exact f1 i p q
  · rw [b5 12 (by decide) (by decide), b5 11 (by decide) (by decide)]; exact l7
  · rw [b4 8 (by decide)]; exact x8
  · rw [b4 9 (by decide)]; exact x9
  · rw [b4 10 (by decide)]; exact x10
  · rw [b4 14 (by decide)]; exact x14
  · rw [b4 15 (by decide)]; exact x15
  · grind
  · rw [b5 9 (by decide) (by decide)]; exact q9
  · rw [b5 16 (by decide) (by decide)]; exact q16
  · rw [b5 17 (by decide) (by decide)]; exact q17
  · rw [a1 21 _ (by decide)]; exact y1
  · rw [a1 22 _ (by decide)]; exact y2
  · rw [a1 24 _ (by decide)]; exact y3
  · rw [a5 2 _ (by decide)]; exact z1
  · rw [a5 5 _ (by decide)]; exact z2
  · rw [a5 6 _ (by decide)]; exact z3
  · have i8 := iv_eq (b4 8 (by decide))
    have i9 := iv_eq (b4 9 (by decide))
    have i10 := iv_eq (b4 10 (by decide))
    have i13 := iv_eq (b4 13 (by decide))
    have i18 := iv_le b7
    have m9 := iv_eq (b5 9 (by decide) (by decide))
    unfold Gm at *
    omega
/-- both go on to the next word -/
theorem sim_adv {σ μ : S5} (hs : Sim σ μ) (hk : ¬ gI σ 17 = 1) : ∃ (e kc p v : Int32) (z : Int64) (vm : Int32) (zm : Int64), f_X10_advance σ = some ((), wdC σ e kc p v z) ∧ f_X12_next μ = some ((), wdM μ e (kMd kc) p vm zm) ∧ Sim (wdC σ e kc p v z) (wdM μ e (kMd kc) p vm zm) ∧ gI σ 18 < p ∧ okK kc = true := by
  obtain ⟨e, kc, p, v, z, vm, zm, a1, a2, a3, a4, a5, a6⟩ := adv hs.1 hk
  have hb := hs.2.2
  unfold Bg at hb
  have hI : ∀ k, (k < 16 ∨ 19 < k) → gI (wdC σ e kc p v z) k = gI σ k := fun k h => gI_wdC h
  have hM : ∀ k, (k < 3 ∨ 6 < k) → gI (wdM μ e (kMd kc) p vm zm) k = gI μ k := fun k h => gI_wdM h
  have hp : gI (wdC σ e kc p v z) 18 = p := p_wdC
  have hEE : EqE σ (wdC σ e kc p v z) := (EqE.rf σ).w
  have hER : EqR μ (wdM μ e (kMd kc) p vm zm) := (EqR.rf μ).w
  refine ⟨e, kc, p, v, z, vm, zm, a1, a2, ?_, a4, a5⟩
  clear a1 a2
  generalize wdC σ e kc p v z = S at *
  generalize wdM μ e (kMd kc) p vm zm = M at *
  refine ⟨a3, Ct_eq hs.2.1 hEE hER, ?_⟩
  have hg : Gm 0 0 σ S μ M := by
    have i8 := iv_eq (hI 8 (by decide))
    have i9 := iv_eq (hI 9 (by decide))
    have i10 := iv_eq (hI 10 (by decide))
    have i13 := iv_eq (hI 13 (by decide))
    have i18 : iv σ 18 < iv S 18 := iv_lt (by rw [hp]; exact a4)
    have m9 := iv_eq (hM 9 (by decide))
    have m10 := iv_eq (hM 10 (by decide))
    unfold Gm
    omega
  have hbm := hs.bm
  obtain ⟨b1, b2, b3, b4, b5, b6, b7, b8, b9, b10, b11, b12, b13, b14, b15, b16, b17, b18, b19, b20, b21, b22, b23⟩ := hb
  exact Bg_mk (by rw [hI 11 (by decide)]; exact b1) (by rw [hM 7 (by decide)]; exact b2) (by rw [hI 13 (by decide), hM 11 (by decide)]; exact b3) (by rw [hI 13 (by decide)]; exact b4) (by rw [hI 13 (by decide)]; exact b5) (by rw [hI 14 (by decide), hM 15 (by decide)]; exact b6) (by rw [hI 14 (by decide)]; exact b7) (by rw [hI 14 (by decide)]; exact b8) (by rw [hI 8 (by decide)]; exact b9) (by rw [hI 9 (by decide)]; exact b11) (by rw [hI 5 (by decide)]; exact b13) (by rw [hI 5 (by decide)]; exact b14) (by rw [hI 10 (by decide)]; exact b15) (by rw [hM 9 (by decide)]; exact b17) (by rw [hM 10 (by decide)]; exact b19) (by rw [hI 15 (by decide)]; exact b21) (by rw [hI 15 (by decide), hI 9 (by decide)]; exact b22) (by rw [hp]; exact a6) (hbm.gr hg (by decide) (by decide) (hI 5 (by decide)))
theorem NF.w (σ μ : S5) (s n e k p v e' k' p' v' : Int32) (z z' : Int64) : NF σ (wdC σ e k p v z) μ (wdM μ e' k' p' v' z') s n := ⟨fun _ _ _ => rfl, fun _ _ _ => rfl, fun _ _ _ => rfl, fun _ _ _ => rfl, fun _ _ _ => rfl, fun _ _ _ => rfl, fun _ _ _ => rfl, fun _ _ _ => rfl⟩
theorem PmF.w {σ μ : S5} (s n e k p v e' k' v' : Int32) (z z' : Int64) (h : gI σ 18 < p) : PmF σ (wdC σ e k p v z) μ (wdM μ e' k' p v' z') s n := by
  have hp : gI (wdC σ e k p v z) 18 = p := p_wdC
  have m10 : gI (wdM μ e' k' p v' z') 10 = gI μ 10 := gI_wdM (by decide)
  refine ⟨NF.w σ μ s n e k p v e' k' p v' z z', (EqE.rf σ).w, (EqR.rf μ).w, fun k h => gI_wdC h, fun k h _ => gI_wdM h, by rw [m10]; grind, by rw [hp]; grind, ?_⟩
  have i18 : iv σ 18 < iv (wdC σ e k p v z) 18 := iv_lt (by rw [hp]; exact h)
  have i10 := iv_eq m10
  omega
/-- the pile grows: the head is done -/
theorem LPr.lh {nk : Int32} {σ0 μ0 σ μ : S5} {j : Nat} (pk : Int32) (hs0 : Sim σ0 μ0) (h : LPr nk σ0 μ0 σ μ) (hN : NM σ μ (gI σ0 9) (gI μ0 9) j) (hj : 1 ≤ j) (hg : xA μ 9 (gI μ0 9) + nI j = gI μ 10) (h160 : 0 ≤ gI μ0 16) : LH nk pk σ0 μ0 σ (pI (pI (mPl μ pk (gI μ0 9) 0) 19 1) 18 1) j := by
  have hb0 := hs0.2.2
  unfold Bg at hb0
  obtain ⟨l1, l2, l3, l4, l5, l6, l7, ⟨x8, x9, x10, x14, x15, x18⟩, ⟨q9, q10, q16, q17⟩, ⟨y1, y2, y3⟩, ⟨z1, z2, z3⟩, l8⟩ := h
  have hI : ∀ k, ¬ k = 16 → ¬ k = 18 → ¬ k = 19 → gI (pI (pI (mPl μ pk (gI μ0 9) 0) 19 1) 18 1) k = gI μ k := fun k h1 h2 h3 => by
    unfold mPl
    rw [gI_pI, if_neg h2, gI_pI, if_neg h3, gI_pI, if_neg h1]
    rfl
  have h16 : gI (pI (pI (mPl μ pk (gI μ0 9) 0) 19 1) 18 1) 16 = gI μ0 16 + 1 := by show gI μ 16 + 1 = _; rw [q16]
  have hA : ∀ k i, k ≤ 13 → xA (pI (pI (mPl μ pk (gI μ0 9) 0) 19 1) 18 1) k i = xA μ k i := fun k i h => by
    unfold mPl
    simp only [xA_pI, xA_pA]
    rw [if_neg (by omega), if_neg (by omega), if_neg (by omega), if_neg (by omega)]
  have hB : ∀ k i, xB (pI (pI (mPl μ pk (gI μ0 9) 0) 19 1) 18 1) k i = xB μ k i := fun k i => rfl
  have hE : EqR μ (pI (pI (mPl μ pk (gI μ0 9) 0) 19 1) 18 1) := (((EqR.rf μ).Pl).I (by decide)).I (by decide)
  have htop : xA (pI (pI (mPl μ pk (gI μ0 9) 0) 19 1) 18 1) 14 (gI μ0 16) = pk ∧ xA (pI (pI (mPl μ pk (gI μ0 9) 0) 19 1) 18 1) 15 (gI μ0 16) = gI μ0 9 := by
    rw [← q16]
    simp [mPl, xA_pI, xA_pA]
  have hPF : PF μ (pI (pI (mPl μ pk (gI μ0 9) 0) 19 1) 18 1) := by
    refine ⟨fun i p q => ?_, fun i p q => rfl⟩
    have := i_ne p q
    simp [mPl, xA_pI, xA_pA, this]
  have h18 : ¬ gI (pI (pI (mPl μ pk (gI μ0 9) 0) 19 1) 18 1) 18 = 0 := by exact (by decide : ¬ (1 : Int32) = 0)
  have h19 : ¬ gI (pI (pI (mPl μ pk (gI μ0 9) 0) 19 1) 18 1) 19 = 0 := by exact (by decide : ¬ (1 : Int32) = 0)
  have hW : Wd (pI σ 15 (gI σ0 9)) (pI (pI (mPl μ pk (gI μ0 9) 0) 19 1) 18 1) := ((l1.1.I15).Pl).I19
  generalize pI (pI (mPl μ pk (gI μ0 9) 0) 19 1) 18 1 = M at *
  have hM9 := hI 9 (by decide) (by decide) (by decide)
  have hM10 := hI 10 (by decide) (by decide) (by decide)
  have hGm : Gm 1 0 σ0 σ μ0 M := by
    have m9 := iv_eq hM9
    have m10 := iv_eq hM10
    unfold Gm at *
    omega
  obtain ⟨n1, n2, n3, n4, n5, n6⟩ := hN
  refine ⟨⟨hW, Ct_eq l1.2.1 ((EqE.rf σ).I (by decide)) hE, ?_⟩, l2, l3.tr hE, l4, ?_, ?_, ?_, ⟨x8, x9, x10, x14, x15, x18⟩, ⟨by rw [hM9]; exact q9, by rw [hM10]; exact q10, h16, by rw [hI 17 (by decide) (by decide) (by decide)]; exact q17, h18, h19⟩, ⟨y1, y2, y3⟩, ⟨⟨n1, n2, by rw [hA 10 _ (by decide)]; exact n3, by rw [hA 9 _ (by decide)]; exact n4, by rw [hA 9 _ (by decide)]; exact n5, fun i hi => ?_⟩, hj, ?_⟩, ⟨by rw [hA 2 _ (by decide)]; exact z1, by rw [hA 5 _ (by decide)]; exact z2, by rw [hA 6 _ (by decide)]; exact z3⟩, htop, hGm⟩
  · have hb := l1.2.2
    have hbm := l1.bm
    have hp3 := l1.p3
    unfold Bg at hb
    obtain ⟨b1, b2, b3, b4, b5, b6, b7, b8, b9, b10, b11, b12, b13, b14, b15, b16, b17, b18, b19, b20, b21, b22, b23⟩ := hb
    have hg0 : Gm 0 0 σ (pI σ 15 (gI σ0 9)) μ M := by
      have i8 : iv (pI σ 15 (gI σ0 9)) 8 = iv σ 8 := iv_eq rfl
      have i9 : iv (pI σ 15 (gI σ0 9)) 9 = iv σ 9 := iv_eq rfl
      have i10 : iv (pI σ 15 (gI σ0 9)) 10 = iv σ 10 := iv_eq rfl
      have i13 : iv (pI σ 15 (gI σ0 9)) 13 = iv σ 13 := iv_eq rfl
      have i18 : iv (pI σ 15 (gI σ0 9)) 18 = iv σ 18 := iv_eq rfl
      have m9 := iv_eq hM9
      have m10 := iv_eq hM10
      unfold Gm
      omega
    exact Bg_mk b1 (by rw [hI 7 (by decide) (by decide) (by decide)]; exact b2) (by rw [hI 11 (by decide) (by decide) (by decide)]; exact b3) b4 b5 (by rw [hI 15 (by decide) (by decide) (by decide)]; exact b6) b7 b8 b9 b11 b13 b14 b15 (by rw [hM9]; exact b17) (by rw [hM10]; exact b19) (by show 0 ≤ gI σ0 9; grind) (by show gI σ0 9 < gI σ 9; rw [x9]; grind) hp3.2 (hbm.gr hg0 (by decide) (by decide) rfl)
  · obtain ⟨f1, f2⟩ := l5
    refine ⟨fun i p q => ?_, fun i p q => (hB _ _).trans (f2 i p q)⟩
    rw [hA 2 i (by decide), hA 3 i (by decide), hA 4 i (by decide), hA 5 i (by decide), hA 6 i (by decide), hA 7 i (by decide), hA 8 i (by decide), hA 9 i (by decide), hA 10 i (by decide), hB]
    exact f1 i p q
  · exact l6.tr hPF (by rw [q16]; grind) (by rw [q17]; grind)
  · rw [hI 12 (by decide) (by decide) (by decide), hI 11 (by decide) (by decide) (by decide)]; exact l7
  · rw [hA 9 _ (by decide), hB]; exact n6 i hi
  · rw [hA 9 _ (by decide), hM10]; exact hg
