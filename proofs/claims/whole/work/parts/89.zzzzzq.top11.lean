/-- a whole function at the top -/
theorem gt_top {σ τr μ0 : S5} {k U F : Nat} {fs : Nat → Int32} {S N : Int32} (hE : Env σ τr μ0 k U F fs S) {D : Int32 → Nat} (hw : Wk σ τr μ0 k F S N D) (hD1 : ∀ x, 0 ≤ x → x < S → 1 ≤ D x) {i : Nat} (hi : i < k) (hiF : i < F) {s s' u u' a b t c : Int32} (hq : QF σ μ0 i s s' u u' a b t c) (h26 : xA τr 26 s = nI i) (s0 : 0 ≤ s) (hss : s < s') (sS : s' ≤ S) (a0 : 0 ≤ a) (hab : a < b) (bN : b ≤ N) (hN : N ≤ 2200) (hu' : u'.toNatClampNeg ≤ U) {B : Nat} {τ μ : S5} (q : WT σ τr μ0 k F S s u.toNatClampNeg a B τ μ) : ∃ (B' : Nat) (τ' μ' : S5), (∀ rec, f_X12_find_B12 rec (nI i) μ = rec (nI (i + 1)) μ') ∧ (∀ q, f_X2_findFree_L2 (q + (u'.toNatClampNeg - u.toNatClampNeg)) (nI u.toNatClampNeg) τ = f_X2_findFree_L2 q (nI u'.toNatClampNeg) τ') ∧ WT σ τr μ0 k F S s' u'.toNatClampNeg b B' τ' μ' := by
  obtain ⟨e1, ⟨e2, e3, e4⟩, ⟨e5, e6, e7⟩, ⟨e8, e9, e10⟩, e11, e12, e13, e14⟩ := hq
  have hE' := hE
  obtain ⟨gD, hG, ⟨hS0, hS6⟩, hkk, hF, hNj, -, -, -, h13, -⟩ := hE'
  have hbd := e14.un.1
  unfold Bd at hbd
  have hn1 : a < 3200 := by grind
  have sS' : s < S := by grind
  have hbig := FU_big (n := 30000) (by decide)
  have hj0 := e11.2.1
  have hj5 := e11.2.2.1
  obtain ⟨t1, t2, t3, t4, t5, t6, t7⟩ := e11
  have hjn := nI_tn hj0
  have hj : (xA μ0 10 a).toNatClampNeg ≤ 5 := i_le (n := 5) hj5
  generalize (xA μ0 10 a).toNatClampNeg = j at hjn hj
  have hz : fM μ0 a.toNatClampNeg = 0 := by unfold fM; rw [xA_tn, xA_tn, e7, if_neg (fun w => w.elim (fun e => absurd e (by decide)) (fun e => absurd e.1 (by decide)))]
  have hc : fC σ s.toNatClampNeg = 0 := by unfold fC; rw [xA_tn, xA_tn, ← nI_tn s0, if_neg (fun w => w.2 e8)]
  have hv : vC σ s.toNatClampNeg = vM μ0 a.toNatClampNeg := by
    unfold vC vM
    rw [xA_tn, xA_tn, xA_tn, xA_tn, if_neg (by rw [e7]; decide), t1]
  have h19 := hw.no2 a0 (by grind) hz
  have hls : s.toNatClampNeg < 630 := i_lt (n := 630) (not_neg s0) (by grind)
  have hpv := vC_le gD s.toNatClampNeg (by omega)
  have hkb : ¬ xA μ0 2 a = 0 ∧ ¬ xA μ0 2 a = 3 ∧ ¬ xA μ0 2 a = 6 ∧ ¬ xA μ0 2 a = 7 := by rw [e7]; decide
  have hk8 : ¬ xA μ0 2 a = 8 := by rw [e7]; decide
  have hk12 : xA μ0 2 a = 1 ∨ xA μ0 2 a = 2 ∨ xA μ0 2 a = 4 ∨ xA μ0 2 a = 12 := Or.inr (Or.inr (Or.inr e7))
  have hji : ∀ y, y < j → 0 ≤ nI y ∧ nI y < xA μ0 10 a := fun y hy => ⟨i_le0 (nI_nneg (by omega)), by rw [hjn]; exact (nI_lt31 (by omega) (by omega)).mpr hy⟩
  have hg10 := hw.2.2.2
  -- the state at which the function is begun
  have q1 : WT σ τr μ0 k F S s u.toNatClampNeg a B τ (mBa (pA (pI μ 25 1) 27 (nI 0) (nI i)) 0 a (-1)) := by
    refine q.fr ⟨fun g g1 g2 => ?_, fun _ => rfl, fun g g1 g2 g3 g4 g5 => ?_, fun _ => rfl, rfl, fun y _ _ => ?_⟩ q.2.2.1
    · show gI (pI μ 25 1) g = _
      rw [gI_pI, if_neg g2]
    · unfold mBa
      rw [gA_ne _ _ _ g5, gA_ne _ _ _ g4, gA_ne _ _ _ g3, gA_ne _ _ _ g2, gA_pI]
    · unfold mBa
      rw [xA_pA, if_neg (fun w => absurd w.1 (by decide)), xA_pA, if_neg (fun w => absurd w.1 (by decide)), xA_pA, if_neg (fun w => absurd w.1 (by decide)), xA_pA, if_neg (fun w => absurd w.1 (by decide)), xA_pI]
  have x25 : gI (mBa (pA (pI μ 25 1) 27 (nI 0) (nI i)) 0 a (-1)) 25 = nI (0 + 1) := by
    show gI (pI μ 25 1) 25 = _
    rw [gI_pI, if_pos rfl]
    rfl
  have x27 : xA (mBa (pA (pI μ 25 1) 27 (nI 0) (nI i)) 0 a (-1)) 27 (nI 0) = nI i := by
    unfold mBa
    rw [xA_pA, if_neg (fun w => absurd w.1 (by decide)), xA_pA, if_neg (fun w => absurd w.1 (by decide)), xA_pA, if_neg (fun w => absurd w.1 (by decide)), xA_pA, if_pos ⟨rfl, rfl⟩]
  have xat := mBa_at (pA (pI μ 25 1) 27 (nI 0) (nI i)) 0 a (-1)
  have hB : ∀ rec, f_X12_find_B12 rec (nI i) μ = bd (f_X12_comeInto a (mBa (pA (pI μ 25 1) 27 (nI 0) (nI i)) 0 a (-1))) (fun _ τ52 => f_X12_find_L55 rec FU (nI i) (nI 1) τ52) := by
    intro rec
    have h12 : xA μ 12 (nI i) = a := (q.1.x 12 _ (by omega)).trans e5
    unfold f_X12_find_B12
    rw [(q.1.1 13 (by omega)).trans h13, if_neg (fun w => by have := (nI_le31 (by omega) (by omega)).mp w; omega), gdn (by omega) (by omega), h12, show (0 : Int32) = nI 0 from rfl, ba_no (by omega) a0 hn1 (by
      rw [xA_pA, if_neg (fun w => absurd w.1 (by decide)), xA_pI, q.1.x 2 _ (by omega)]
      exact hkb), bd_of, xat.1]
    rfl
  generalize mBa (pA (pI μ 25 1) 27 (nI 0) (nI i)) 0 a (-1) = m2 at q1 x25 x27 xat hB
  clear q
  obtain ⟨ν, n1, n2⟩ := gn_go (μ := m2) (n := a) (f := i) (t := 0) (v := prI (vC σ) s) (o := prI (wO σ (xA σ 22 s)) s) (j := j) (d0 := 0) (z := fun y => xB σ 3 (s * 5 + nI y)) a0 hn1 (by rw [q1.1.x 10 _ (by omega)]; exact hjn) hj (fun y hy => by
    have w := hji y hy
    rw [q1.1.x 9 _ (by omega), q1.1.y 1 _ (by decide)]
    refine ⟨by grind, by grind, (t7 (nI y) w.1 w.2).symm⟩) x25 (by omega) x27 (by omega) (by unfold prI; omega) (by omega) q1.2.1 q1.2.2.1 (by rw [e9]; exact q1.2.2.2.1.2 s i s0 sS' e9 h26)
  have hci : f_X12_comeInto a m2 = some ((), ν) := by
    unfold f_X12_comeInto f_X12_comeInto_b34
    rw [gd3200 a0 hn1, q1.1.x 19 _ (by omega), h19, if_pos (by decide), gd3200 a0 hn1, q1.1.x 2 _ (by omega), if_neg hkb.1, gd3200 a0 hn1, if_neg hk8, n1, bd_of]
  have hFQ : FrQ a 0 m2 (pA m2 25 a (nI (prI (vC σ) s))) := ⟨fun _ _ => rfl, fun _ => rfl, fun g g1 _ => by rw [gA_ne _ _ _ g1], fun _ => rfl, rfl, fun y y0 y1 => by rw [xA_pA, if_neg (fun w => y1 ((i_inj y0 a0).mp w.2))], fun p hp => absurd hp (by omega)⟩
  have hAr : Aro σ τr (pA m2 25 a (nI (prI (vC σ) s))) S 1 (xA σ 22 s) 1 := by
    rw [e9]
    exact ⟨s0, sS', e9, 0, rfl, by rw [xA_pA, if_neg (fun w => absurd w.1 (by decide)), x27, h26], Or.inl ⟨e8, rfl⟩⟩
  have z2 := ws_top (D := D) hE q1 hFQ a0 hn1 s0 sS' e8 (t1.trans hjn) hj (fun y _ => rfl) x25 hAr (hD1 s s0 sS') n2 (by rw [e9]; exact h26) hiF (by rw [e9]; exact ⟨s0, sS', e9⟩) (by rw [xA_pA, if_pos ⟨rfl, rfl⟩, q1.2.2.2.2.2.2.1.2.1]) (hc.trans hz.symm) hv hk8
  have x28 : ∀ g y, g = 28 ∨ g = 29 ∨ g = 30 → xA ν g y = xA m2 g y := fun g y hg => by rw [n2.1.x g y (by omega) (by omega) (by omega) (by omega), xA_pA, if_neg (by omega)]
  have hat : At ν 0 a 0 (-1) := ⟨(x28 28 _ (by omega)).trans xat.1, (x28 29 _ (by omega)).trans xat.2.1, (x28 30 _ (by omega)).trans xat.2.2⟩
  have pe := q1.2.2.2.2.2.2.1.1
  clear q1 n1 n2 x25 x27 xat hFQ hAr x28
  have g12 := gt_all hE hw e14 ⟨by unfold Ow; rw [e9]; exact ⟨s0, by grind⟩, bN, sS, hu', by rw [prI_s _ s0 (by grind), prI_s _ a0 (lt_7 hn1), hc, hz]; exact pe⟩
  have l2 : (a + 1).toNatClampNeg < b.toNatClampNeg := i_lt (fun w => by grind) (by grind)
  have lb : b.toNatClampNeg ≤ 2200 := i_le (n := 2200) (by grind)
  have en : (a + 1).toNatClampNeg = a.toNatClampNeg + 1 := tn_s a0 (lt_7 hn1)
  have c1 := nx_no (v := 0) (x := xA μ0 3 a) (by omega) a0 hn1 hat (by rw [z2.1.x 2 _ (by omega)]; exact hkb) (by rw [chA_one a0 hn1 (by rw [z2.1.x 2 _ (by omega)]; exact hk12), if_pos rfl, z2.1.x 3 _ (by omega)])
  obtain ⟨j1, B1, τ1, μ1, a1, a2, a3, a4, a5⟩ := gt_kid g12 z2 (by omega) c1 ((FrW.rf (a + 1) ν).A (by omega)) (by grind) (by omega) (by have := hD1 s s0 sS'; omega)
  have r1 : At μ1 0 a (0 + 1) (-1) := by
    refine At.st ?_ a5 (by omega)
    refine ⟨?_, ?_, ?_⟩
    · rw [xA_pA, if_neg (fun w => absurd w.1 (by decide))]; exact hat.1
    · rw [xA_pA, if_pos ⟨rfl, rfl⟩]
    · rw [xA_pA, if_neg (fun w => absurd w.1 (by decide))]; exact hat.2.2
  have c3 := nx_no (v := 0) (x := -1) (by omega) a0 hn1 r1 (by rw [a4.1.x 2 _ (by omega)]; exact hkb) (by rw [chA_one a0 hn1 (by rw [a4.1.x 2 _ (by omega)]; exact hk12), if_neg (by decide)])
  have a4' := a4.w ((FrW.rf b μ1).A (k := 29) (i := nI 0) (v := 0 + 1 + 1) (by omega))
  have e24 : gI (pA μ1 29 (nI 0) (0 + 1 + 1)) 24 - nI j = nI 0 := by
    rw [a4'.2.2.1.1, Nat.zero_add, Int32.sub_self]
    rfl
  have hgo : f_X12_goOutOf a (pA μ1 29 (nI 0) (0 + 1 + 1)) = some ((), pI (pA μ1 29 (nI 0) (0 + 1 + 1)) 24 (nI 0)) := by
    unfold f_X12_goOutOf f_X12_goOutOf_b19
    rw [gd3200 a0 hn1, a4'.1.x 19 _ (by omega), h19, if_pos (by decide), gd3200 a0 hn1, a4'.1.x 2 _ (by omega), if_neg hkb.1, gd3200 a0 hn1, a4'.1.x 10 _ (by omega), hjn, e24]
  have ho := st_out (v := 0) (by omega) c3 (by decide) (n := a) (by rw [xA_pA, if_neg (fun w => absurd w.1 (by decide))]; exact r1.1) hgo
  refine ⟨B1, τ1, _, fun rec => ?_, a3, a4'.t (ν := pI (pA μ1 29 (nI 0) (0 + 1 + 1)) 24 (nI 0)) ⟨fun g g1 _ => by rw [gI_pI, if_neg g1], fun _ => rfl, fun _ _ _ _ _ _ => rfl, fun _ => rfl, rfl, fun _ _ _ => rfl⟩ (by rw [gI_pI, if_pos rfl])⟩
  rw [hB, hci, bd_of]
  obtain ⟨fu, hfu⟩ : ∃ fu, FU = fu + 1 + 1 + j1 := ⟨FU - j1 - 2, by omega⟩
  rw [hfu]
  have k1 := a2 rec (fu + 1 + 1) (nI i)
  rw [show (0 : Nat) + 1 = 1 from rfl] at k1
  rw [k1]
  have k2 := ho rec (fu + 1) (nI i)
  rw [show (0 : Nat) + 1 = 1 from rfl] at k2
  rw [k2]
  show f_X12_find_B55 _ _ _ _ _ = _
  unfold f_X12_find_B55
  rw [if_pos (show nI 0 ≤ (0 : Int32) from by decide), nI_add1]
