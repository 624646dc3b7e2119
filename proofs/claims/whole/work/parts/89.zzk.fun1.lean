/-- while a function's head is read, behind the node v that is its own: the class's scope is there -/
def FHd (e d : Int) (σ1 μ1 σ μ : S5) (v pl pm h nk o : Int32) : Prop := EqE σ1 σ ∧ EqR μ1 μ ∧ FrC σ1 σ ∧ FrM (pI μ1 9 v) μ ∧ PF μ1 μ ∧ gI μ 12 - gI μ 11 = gI μ1 12 - gI μ1 11 ∧ (gI σ 8 = gI σ1 8 ∧ gI σ 9 = gI σ1 9 + 1 ∧ gI σ 10 = gI σ1 10 ∧ gI σ 14 = gI σ1 14 ∧ gI σ 15 = gI σ1 15) ∧ (gI μ 9 = v + 1 ∧ gI μ1 10 ≤ gI μ 10 ∧ gI μ 16 = gI μ1 16 ∧ gI μ 17 = gI μ1 17) ∧ (xA σ 21 (gI σ1 9) = h ∧ xA σ 22 (gI σ1 9) = o ∧ xA σ 24 (gI σ1 9) = pl) ∧ (xA μ 2 v = nk ∧ xA μ 5 v = -1 ∧ xA μ 6 v = pm ∧ xB μ 0 v = xB μ1 0 v ∧ xA μ 7 v = xA μ1 7 v ∧ xA μ 8 v = xA μ1 8 v) ∧ iv σ1 18 + e ≤ iv σ 18 ∧ Gm (2 * e) d σ1 σ μ1 μ
theorem FHd.pm {e d b : Int} {σ1 μ1 σ μ σ' μ' : S5} {v pl pm hh nk o : Int32} (h : FHd e b σ1 μ1 σ μ v pl pm hh nk o) (hF : PmF σ σ' μ μ' (gI σ1 9) v) (hd : iv σ 18 + d ≤ iv σ' 18) : FHd (e + d) b σ1 μ1 σ' μ' v pl pm hh nk o := by
  obtain ⟨l2, l3, l4, l5, l6, l7, ⟨x8, x9, x10, x14, x15⟩, ⟨q9, q10, q16, q17⟩, ⟨y1, y2, y3⟩, ⟨z1, z2, z3, z4, z5, z6⟩, l8, l9⟩ := h
  obtain ⟨⟨a1, a2, a3, a4, a5, a6, a7, a8⟩, b2, b3, b4, b5, b6, b7, b8⟩ := hF
  refine ⟨l2.tr b2, l3.tr b3, ?_, ?_, ?_, ?_, ⟨?_, ?_, ?_, ?_, ?_⟩, ⟨?_, i_trans q10 b6, ?_, ?_⟩, ⟨?_, ?_, ?_⟩, ⟨?_, ?_, ?_, ?_, by rw [a5 7 _ (by decide)]; exact z5, by rw [a5 8 _ (by decide)]; exact z6⟩, by omega, ?_⟩
  · obtain ⟨f1, f2, f3, f4⟩ := l4
    refine ⟨fun i p q => ?_, fun i p q => ?_, fun i p q => (a4 i p q).trans (f3 i p q), fun i p q => ?_⟩
    · rw [a1 13 i (by decide), a1 14 i (by decide), a1 15 i (by decide), a1 16 i (by decide), a1 17 i (by decide)]; exact f1 i p q
    · rw [a2 i p (by grind), a1 21 i (by decide), a1 22 i (by decide), a1 23 i (by decide), a1 24 i (by decide)]; exact f2 i p q
    · rw [a1 27 i (by decide), a1 28 i (by decide), a1 29 i (by decide), a3 4 i (by decide)]; exact f4 i p q
  · obtain ⟨f1, f2⟩ := l5.of9
    refine FrM.pI9 (fun i p q => ?_) (fun i p q => (a8 i p (by grind)).trans (f2 i p q))
    rw [a5 2 i (by decide), a5 3 i (by decide), a5 4 i (by decide), a5 5 i (by decide), a5 6 i (by decide), a5 7 i (by decide), a5 8 i (by decide), a5 9 i (by decide), a6 i p (by grind), a7 0 i (by decide)]
    exact f1 i p q
  · obtain ⟨f1, f2⟩ := l6
    refine ⟨fun i p q => ?_, fun i p q => (a5 18 i (by decide)).trans (f2 i p q)⟩
    rw [a5 14 i (by decide), a5 15 i (by decide), a5 16 i (by decide), a5 17 i (by decide)]
    exact f1 i p q
  · rw [b5 12 (by decide) (by decide), b5 11 (by decide) (by decide)]; exact l7
  · rw [b4 8 (by decide)]; exact x8
  · rw [b4 9 (by decide)]; exact x9
  · rw [b4 10 (by decide)]; exact x10
  · rw [b4 14 (by decide)]; exact x14
  · rw [b4 15 (by decide)]; exact x15
  · rw [b5 9 (by decide) (by decide)]; exact q9
  · rw [b5 16 (by decide) (by decide)]; exact q16
  · rw [b5 17 (by decide) (by decide)]; exact q17
  · rw [a1 21 _ (by decide)]; exact y1
  · rw [a1 22 _ (by decide)]; exact y2
  · rw [a1 24 _ (by decide)]; exact y3
  · rw [a5 2 _ (by decide)]; exact z1
  · rw [a5 5 _ (by decide)]; exact z2
  · rw [a5 6 _ (by decide)]; exact z3
  · rw [a7 0 _ (by decide)]; exact z4
  · have i8 := iv_eq (b4 8 (by decide))
    have i9 := iv_eq (b4 9 (by decide))
    have i10 := iv_eq (b4 10 (by decide))
    have i13 := iv_eq (b4 13 (by decide))
    have i18 := iv_le b7
    have m9 := iv_eq (b5 9 (by decide) (by decide))
    unfold Gm at *
    omega
theorem Sim.h15 {σ μ : S5} {a : Int32} (h : Sim σ μ) (h0 : 0 ≤ a) (h1 : a < gI σ 9) : Sim (pI σ 15 a) μ := by
  obtain ⟨hw, hc, hb⟩ := h
  unfold Bg at hb
  obtain ⟨b1, b2, b3, b4, b5, b6, b7, b8, b9, b10, b11, b12, b13, b14, b15, b16, b17, b18, b19, b20, b21, b22, b23⟩ := hb
  exact ⟨hw.I15, Ct_eq hc ((EqE.rf σ).I (by decide)) (EqR.rf μ), ⟨b1, b2, b3, b4, b5, b6, b7, b8, b9, b10, b11, b12, b13, b14, b15, b16, b17, b18, b19, b20, h0, h1, b23⟩⟩
/-- a binding's function begins: its part is counted, its scope is there -/
theorem fh_one {σ1 μ1 : S5} {v pl : Int32} (hs : Sim σ1 μ1) (hp : gI σ1 13 < 600) (h9 : gI μ1 9 = v + 1) (hv : 0 ≤ v) (w2 : xA μ1 2 v = 1) (w5 : xA μ1 5 v = -1) (w6 : xA μ1 6 v = pl) (w10 : xA μ1 10 v = 0) : Sim (cSc (cP σ1) (gI σ1 15) pl (gI σ1 9)) (mP (pA μ1 9 v (gI μ1 10))) ∧ FHd 0 0 σ1 μ1 (cSc (cP σ1) (gI σ1 15) pl (gI σ1 9)) (mP (pA μ1 9 v (gI μ1 10))) v pl pl (gI σ1 15) 1 (gI σ1 9) ∧ NM (cSc (cP σ1) (gI σ1 15) pl (gI σ1 9)) (mP (pA μ1 9 v (gI μ1 10))) (gI σ1 9) v 0 ∧ xA (mP (pA μ1 9 v (gI μ1 10))) 9 v + nI 0 = gI (mP (pA μ1 9 v (gI μ1 10))) 10 ∧ (∀ k, ¬ k = 9 → ¬ k = 13 → gI (cSc (cP σ1) (gI σ1 15) pl (gI σ1 9)) k = gI σ1 k) ∧ gI (cSc (cP σ1) (gI σ1 15) pl (gI σ1 9)) 13 = gI σ1 13 + 1 := by
  have hb := hs.2.2
  have hp3 := hs.p3
  unfold Bg at hb
  obtain ⟨b1, b2, b3, b4, b5, b6, b7, b8, b9, b10, b11, b12, b13, b14, b15, b16, b17, b18, b19, b20, b21, b22, b23⟩ := hb
  have hrow := cSc_row (cP σ1) (gI σ1 15) pl (gI σ1 9)
  rw [show gI (cP σ1) 9 = gI σ1 9 from rfl] at hrow
  have hfr : FrC σ1 (cSc (cP σ1) (gI σ1 15) pl (gI σ1 9)) := (cSc_fr (cP σ1) (gI σ1 15) pl (gI σ1 9)).cP
  have SI : ∀ k, ¬ k = 9 → ¬ k = 13 → gI (cSc (cP σ1) (gI σ1 15) pl (gI σ1 9)) k = gI σ1 k := fun k h1 h2 => by
    rw [cSc_gI _ _ _ _ h1]
    unfold cP
    rw [gI_pI, if_neg h2]
  have S9 : gI (cSc (cP σ1) (gI σ1 15) pl (gI σ1 9)) 9 = gI σ1 9 + 1 := rfl
  have S13 : gI (cSc (cP σ1) (gI σ1 15) pl (gI σ1 9)) 13 = gI σ1 13 + 1 := rfl
  have SE : EqE σ1 (cSc (cP σ1) (gI σ1 15) pl (gI σ1 9)) := ((EqE.rf σ1).P).Sc
  have MI : ∀ k, ¬ k = 11 → ¬ k = 12 → gI (mP (pA μ1 9 v (gI μ1 10))) k = gI μ1 k := fun k h1 h2 => by
    unfold mP
    rw [gI_pI, if_neg h2, gI_pI, if_neg h1]
    rfl
  have M11 : gI (mP (pA μ1 9 v (gI μ1 10))) 11 = gI μ1 11 + 1 := rfl
  have M12 : gI (mP (pA μ1 9 v (gI μ1 10))) 12 = gI μ1 12 + 1 := rfl
  have MA : ∀ k x, ¬ k = 9 → xA (mP (pA μ1 9 v (gI μ1 10))) k x = xA μ1 k x := fun k x h => by
    unfold mP
    rw [xA_pI, xA_pI, a9_A _ _ _ _ h]
  have M9 : xA (mP (pA μ1 9 v (gI μ1 10))) 9 v = gI μ1 10 := by
    unfold mP
    rw [xA_pI, xA_pI, xA_pA, if_pos ⟨rfl, rfl⟩]
  have M9b : ∀ x, 0 ≤ x → x < v → xA (mP (pA μ1 9 v (gI μ1 10))) 9 x = xA μ1 9 x := fun x h1 h2 => by
    unfold mP
    rw [xA_pI, xA_pI, a9_9 _ _ h1 h2]
  have MB : ∀ k x, xB (mP (pA μ1 9 v (gI μ1 10))) k x = xB μ1 k x := fun k x => rfl
  have ME : EqR μ1 (mP (pA μ1 9 v (gI μ1 10))) := ((EqR.rf μ1).A (by decide)).P
  have hW : Wd (cSc (cP σ1) (gI σ1 15) pl (gI σ1 9)) (mP (pA μ1 9 v (gI μ1 10))) := (((hs.1.cP).Sc).A9).mP
  generalize cSc (cP σ1) (gI σ1 15) pl (gI σ1 9) = S at *
  generalize mP (pA μ1 9 v (gI μ1 10)) = M at *
  have i18 := iv_eq (SI 18 (by decide) (by decide))
  have hGm : Gm 0 0 σ1 S μ1 M := by
    have i8 := iv_eq (SI 8 (by decide) (by decide))
    have i9 := iv_a1 S9 b11 (by grind)
    have i10 := iv_eq (SI 10 (by decide) (by decide))
    have i13 := iv_a1 S13 b4 (by grind)
    have j9 := iv_eq (MI 9 (by decide) (by decide))
    have j10 := iv_eq (MI 10 (by decide) (by decide))
    unfold Gm
    omega
  refine ⟨Sim.mk2 hs hW SE ME hGm (by decide) (by decide) (by rw [SI 11 (by decide) (by decide)]; exact b1) (by rw [MI 7 (by decide) (by decide)]; exact b2) (by rw [S13, M11, b3]) (by rw [S13]; grind) (by rw [SI 14 (by decide) (by decide), MI 15 (by decide) (by decide)]; exact b6) (by rw [SI 14 (by decide) (by decide)]; exact ⟨b7, b8⟩) (by rw [SI 8 (by decide) (by decide)]; exact b9) (by rw [S9]; grind) (by rw [SI 10 (by decide) (by decide)]; exact b15) (by rw [MI 9 (by decide) (by decide)]; exact b17) (by rw [MI 10 (by decide) (by decide)]; exact b19) (by rw [SI 15 (by decide) (by decide), S9]; grind) (by rw [SI 18 (by decide) (by decide)]; exact hp3.2), ⟨SE, ME, hfr, FrM.pI9 (fun i p q => ?_) (fun i p q => MB _ _), ⟨fun i p q => ?_, fun i p q => MA _ _ (by decide)⟩, ?_, ⟨SI 8 (by decide) (by decide), S9, SI 10 (by decide) (by decide), SI 14 (by decide) (by decide), SI 15 (by decide) (by decide)⟩, ⟨(MI 9 (by decide) (by decide)).trans h9, by rw [MI 10 (by decide) (by decide)]; exact Int32.le_refl _, MI 16 (by decide) (by decide), MI 17 (by decide) (by decide)⟩, ⟨hrow.2.1, hrow.2.2.1, hrow.2.2.2⟩, ⟨by rw [MA 2 _ (by decide)]; exact w2, by rw [MA 5 _ (by decide)]; exact w5, by rw [MA 6 _ (by decide)]; exact w6, MB _ _, MA 7 _ (by decide), MA 8 _ (by decide)⟩, by omega, hGm⟩, ⟨by omega, hrow.1, by rw [MA 10 _ (by decide)]; exact w10, by rw [M9]; exact b19, by rw [M9]; grind, fun i hi => absurd hi (by omega)⟩, by rw [M9, MI 10 (by decide) (by decide), show nI 0 = 0 from rfl, Int32.add_zero], SI, S13⟩
  · rw [MA 2 _ (by decide), MA 3 _ (by decide), MA 4 _ (by decide), MA 5 _ (by decide), MA 6 _ (by decide), MA 7 _ (by decide), MA 8 _ (by decide), M9b i p q, MA 10 _ (by decide), MB]
    exact ⟨rfl, rfl, rfl, rfl, rfl, rfl, rfl, rfl, rfl, rfl⟩
  · rw [MA 14 _ (by decide), MA 15 _ (by decide), MA 16 _ (by decide), MA 17 _ (by decide)]
    exact ⟨rfl, rfl, rfl, rfl⟩
  · rw [M12, M11]; grind
/-- a function's head has been read -/
def BH2 (d : Int) (nk pk : Int32) (σ1 μ1 σ6 N : S5) (v pl pm h o : Int32) (j : Nat) : Prop := Sim (pI σ6 15 (gI σ1 9)) N ∧ EqE σ1 σ6 ∧ EqR μ1 N ∧ FrC σ1 σ6 ∧ FrM (pI μ1 9 v) N ∧ PF μ1 N ∧ gI N 12 - gI N 11 = gI μ1 12 - gI μ1 11 ∧ (gI σ6 8 = gI σ1 8 ∧ gI σ6 9 = gI σ1 9 + 1 ∧ gI σ6 10 = gI σ1 10 ∧ gI σ6 14 = gI σ1 14 ∧ gI σ6 15 = gI σ1 15) ∧ (gI N 9 = v + 1 ∧ gI μ1 10 ≤ gI N 10 ∧ gI N 16 = gI μ1 16 + 1 ∧ gI N 17 = gI μ1 17 ∧ gI N 18 = 1 ∧ gI N 19 = 1) ∧ (xA σ6 21 (gI σ1 9) = h ∧ xA σ6 22 (gI σ1 9) = o ∧ xA σ6 24 (gI σ1 9) = pl) ∧ (NM σ6 N (gI σ1 9) v j ∧ xA N 9 v + nI j = gI N 10) ∧ (xA N 2 v = nk ∧ xA N 5 v = -1 ∧ xA N 6 v = pm ∧ xB N 0 v = xB μ1 0 v ∧ xA N 7 v = xA μ1 7 v ∧ xA N 8 v = xA μ1 8 v) ∧ (xA N 14 (gI μ1 16) = pk ∧ xA N 15 (gI μ1 16) = v) ∧ iv σ1 18 + 1 ≤ iv σ6 18 ∧ Gm 2 d σ1 σ6 μ1 N
theorem FHd.bh {e d : Int} {σ1 μ1 σ μ : S5} {v pl pm hh nk o : Int32} {j : Nat} (pk : Int32) (h : FHd e d σ1 μ1 σ μ v pl pm hh nk o) (he : 1 ≤ e) (hS : Sim (pI σ 15 (gI σ1 9)) μ) (hN : NM σ μ (gI σ1 9) v j) (hg : xA μ 9 v + nI j = gI μ 10) : BH2 d nk pk σ1 μ1 σ (pI (pI (mPl μ pk v 0) 19 1) 18 1) v pl pm hh o j := by
  obtain ⟨l2, l3, l4, l5, l6, l7, ⟨x8, x9, x10, x14, x15⟩, ⟨q9, q10, q16, q17⟩, ⟨y1, y2, y3⟩, ⟨z1, z2, z3, z4, z5, z6⟩, l8, l9⟩ := h
  obtain ⟨n1, n2, n3, n4, n5, n6⟩ := hN
  have tp := mPl_top μ pk v 0
  rw [q16] at tp
  have hM9 := mPl_gI μ pk v 0 (j := 9) (by decide) (by decide) (by decide)
  have hM10 := mPl_gI μ pk v 0 (j := 10) (by decide) (by decide) (by decide)
  refine ⟨hS.Pl, l2, ((l3.Pl).I (by decide)).I (by decide), l4, FrM.pI9 (fun i p q => ?_) (fun i p q => (mPl_B ..).trans (l5.of9.2 i p q)), l6.tr (mPl_PF μ pk v 0) (by rw [q16]; exact Int32.le_refl _) (by rw [q17]; exact Int32.le_refl _), ?_, ⟨x8, x9, x10, x14, x15⟩, ⟨hM9.trans q9, by rw [hM10]; exact q10, (mPl_16 ..).trans (by rw [q16]), (mPl_gI μ pk v 0 (by decide) (by decide) (by decide)).trans q17, rfl, rfl⟩, ⟨y1, y2, y3⟩, ⟨⟨n1, n2, by rw [mPl_A _ _ _ _ _ (by decide)]; exact n3, by rw [mPl_A _ _ _ _ _ (by decide)]; exact n4, by rw [mPl_A _ _ _ _ _ (by decide)]; exact n5, fun i hi => ?_⟩, ?_⟩, ⟨by rw [mPl_A _ _ _ _ _ (by decide)]; exact z1, by rw [mPl_A _ _ _ _ _ (by decide)]; exact z2, by rw [mPl_A _ _ _ _ _ (by decide)]; exact z3, (mPl_B ..).trans z4, by rw [mPl_A _ _ _ _ _ (by decide)]; exact z5, by rw [mPl_A _ _ _ _ _ (by decide)]; exact z6⟩, ⟨tp.1, tp.2⟩, by omega, ?_⟩
  · rw [mPl_A _ _ _ _ _ (by decide), mPl_A _ _ _ _ _ (by decide), mPl_A _ _ _ _ _ (by decide), mPl_A _ _ _ _ _ (by decide), mPl_A _ _ _ _ _ (by decide), mPl_A _ _ _ _ _ (by decide), mPl_A _ _ _ _ _ (by decide), mPl_A _ _ _ _ _ (by decide), mPl_A _ _ _ _ _ (by decide), mPl_B]
    exact l5.of9.1 i p q
  · rw [mPl_gI _ _ _ _ (by decide) (by decide) (by decide), mPl_gI _ _ _ _ (by decide) (by decide) (by decide)]; exact l7
  · rw [mPl_A _ _ _ _ _ (by decide), mPl_B]; exact n6 i hi
  · rw [mPl_A _ _ _ _ _ (by decide), hM10]; exact hg
  · have m9 := iv_eq hM9
    have m10 := iv_eq hM10
    unfold Gm at *
    omega
