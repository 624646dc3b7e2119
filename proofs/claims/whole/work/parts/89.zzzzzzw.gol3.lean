theorem LIf.lb {μ μ' : S5} {kind value : Int32} {n m ct hd : Nat} (h : LIf μ μ' kind value n m ct hd) : LBf μ μ' m ct hd := by
  obtain ⟨c1, c2, c5, c6, c7, c8, c9, c14, c15, c16⟩ := h
  exact ⟨c5, fun y hy => ⟨c6 y hy, c1.x 40 _ (by omega), c1.x 41 _ (by omega), c1.x 42 _ (by omega), c1.x 43 _ (by omega)⟩, c7⟩
theorem LIf.kw {μ μ' : S5} {kind value : Int32} {n m ct hd : Nat} (h : LIf μ μ' kind value n m ct hd) (w : Nat) : KW w μ μ' := fun p _ => ⟨h.1.x 28 _ (by omega), h.1.x 29 _ (by omega), h.1.x 30 _ (by omega)⟩
theorem LIf.wl {μm μ μ' : S5} {kind value : Int32} {n m ct hd : Nat} (h : LIf μ μ' kind value n m ct hd) (hw : FrWL μm μ) : WLs μm (m + 1) (ct + n) (hd + 1) μ' := ⟨hw.tr h.1.wl, h.2.1.1, h.2.1.2.1, h.2.1.2.2⟩
theorem mBa_wl {μm μ : S5} {m ct hd v : Nat} {n r : Int32} (h : WLs μm m ct hd μ) : WLs μm m ct hd (mBa μ v n r) := ((h.A (by omega)).A (by omega)).A (by omega)
theorem mBa_lb {μ : S5} {m ct hd v : Nat} {n r : Int32} : LBf μ (mBa μ v n r) m ct hd := (((LBf.rf μ m ct hd).W (by omega)).W (by omega)).W (by omega)
/-- a leaf is lifted -/
theorem gc_lf {τp μm : S5} {F V f : Nat} {n c : Int32} {kind value : Int32} (hn0 : 0 ≤ n) (hn1 : n < 3200) (hk : xA μm 2 n = 8 ∨ xA μm 2 n = 9 ∨ xA μm 2 n = 10 ∨ xA μm 2 n = 11) (h19 : xA μm 19 n = -1) (hcl : ∀ (m ct hd : Nat) (μ : S5), WLs μm m ct hd μ → m < 7000 → ct ≤ 14000 → hd < 7000 → ∃ μ5, f_X12_closePart (nI f) n μ = some ((), μ5) ∧ LIf μ μ5 kind value 0 m ct hd) (hlt : ∀ (μ : S5) (p : Nat), xA μ 31 (nI p) = kind → xA μ 32 (nI p) = value → xA μ 34 (nI p) = nI 0 → LLeaf τp μ F V c p p) (e18 : xA τp 18 c = 1) (e19 : xA τp 19 c = 1) (eB : V ≤ 40 → xB τp 2 c = if kind = 13 then j_lshl 1 value else 0) (c0 : 0 ≤ c) (c6 : c < 6200) : GoC τp μm F V f n c 1 := by
  have eP : (xA τp 19 c).toNatClampNeg = 1 := by rw [e19]; rfl
  refine ⟨by omega, ?_⟩
  rw [eP]
  intro v m ct hd μ μ1 q hnx hq hv hm hct hhd
  obtain ⟨q1, q2⟩ := hq
  have hkb : ¬ xA μm 2 n = 0 ∧ ¬ xA μm 2 n = 3 ∧ ¬ xA μm 2 n = 6 ∧ ¬ xA μm 2 n = 7 := by rcases hk with w | w | w | w <;> rw [w] <;> decide
  have w2 := mBa_wl (v := v + 1) (n := n) (r := -1) q1
  have hat := mBa_at μ1 (v + 1) n (-1)
  have hb := ba_no (μ := μ1) (v := v + 1) (by omega) hn0 hn1 (by rw [q1.1.x 2 _ (by omega)]; exact hkb)
  have c1 := nx_no (v := v + 1) (x := -1) (by omega) hn0 hn1 hat (by rw [w2.1.x 2 _ (by omega)]; exact hkb) (chA_leaf hn0 hn1 (by rw [w2.1.x 2 _ (by omega)]; exact hk))
  have w4 : WLs μm m ct hd (pA (mBa μ1 (v + 1) n (-1)) 29 (nI (v + 1)) (0 + 1)) := w2.A (by omega)
  obtain ⟨μ5, d1, d2⟩ := hcl m ct hd _ w4 (by omega) (by omega) (by omega)
  have hgo := gl_node (f := f) (ji := 0) (by omega) hn0 hn1 hnx (by rw [q1.1.x 19 _ (by omega)]; exact h19) hb (fun _ _ => rfl) c1 (by decide) (by rw [xA_pA, if_neg (fun w => absurd w.1 (by decide))]; exact hat.1) d1
  have wl := d2.wl w4.1
  refine ⟨2, μ5, by omega, hgo, wl, ?_, ?_, ?_, ?_⟩
  · exact (((q2.tr mBa_lb (Nat.le_refl _) (Nat.le_refl _) (Nat.le_refl _)).W (by omega)).tr d2.lb (Nat.le_refl _) (Nat.le_refl _) (Nat.le_refl _))
  · rw [d2.2.2.2.2.2.1]
    rfl
  · have hx := d2.2.2.2.2.2.2.1
    refine LT.fold ⟨⟨by omega, by omega, by omega, c0, c6⟩, ?_, by rw [eP]; omega, fun hV => ?_, Or.inl ?_⟩
    · show xA μ5 37 (nI m) = _
      rw [d2.2.2.2.2.2.2.2.2.1, e18]
      rfl
    · show xB μ5 5 (nI m) = _
      rw [d2.2.2.2.2.2.2.2.2.2, eB hV]
      rfl
    · exact hlt μ5 m hx.1 hx.2.1 hx.2.2.2.1
  · exact ((mBa_kw μ1 (v + 1) n (-1) (by omega)).A (by omega)).tr (d2.kw (v + 1))
/-- a node whose children stand in a row, or are two, is lifted -/
theorem gc_row {τp μm : S5} {F V f : Nat} {n c r0 : Int32} {kind value : Int32} {l S0 : Nat} {g cc st rr : Nat → Int32} {sz : Nat → Nat} (hn0 : 0 ≤ n) (hn1 : n < 3200) (h19 : xA μm 19 n = -1) (hl : l ≤ 9) (hit : ∀ i, i < l → GoC τp μm F V f (g i) (cc i) (sz i)) (hsz : pre sz l + 1 ≤ S0) (hb : ∀ (μ : S5) (v : Nat), v < 3200 → FrWL μm μ → f_X12_beginAt (nI v) n μ = some ((), mBa μ v n r0)) (hst0 : st 0 = 0) (hrr0 : rr 0 = r0) (hN : ∀ (v : Nat) (μ : S5) (i : Nat), v < 3200 → i < l → FrWL μm μ → At μ v n (st i) (rr i) → ∃ μ1, f_X12_nextChild (nI v) μ = some (g i, μ1) ∧ At μ1 v n (st (i + 1)) (rr (i + 1)) ∧ W29 v μ μ1) (hE : ∀ (v : Nat) (μ : S5), v < 3200 → FrWL μm μ → At μ v n (st l) (rr l) → ∃ x μ1, x < 0 ∧ f_X12_nextChild (nI v) μ = some (x, μ1) ∧ W29 v μ μ1) (hcl : ∀ (m ct hd : Nat) (μ : S5), WLs μm m ct (hd + l) μ → m < 7000 → ct + l ≤ 14000 → hd + l ≤ 7000 → hd < 7000 → (∀ k, k < l → ∃ p, p < m ∧ xA μ 48 (nI (hd + k)) = nI p) → ∃ μ5, f_X12_closePart (nI f) n μ = some ((), μ5) ∧ LIf μ μ5 kind value l m ct hd) (hM : MEQ τp c 0 l cc) (hu : u1F (xA τp 13 c) = 1) (h11 : ¬ xA τp 13 c = 11) (h10 : ∀ i, i < l → ¬ xA τp 13 (cc i) = 10) (hkd : ¬ kind = 13) (hlt : ∀ (μ : S5) (T q p : Nat), xA μ 31 (nI p) = kind → xA μ 32 (nI p) = value → LKids μ (LT τp μ F V T) l cc T q p → (LSign τp μ (LT τp μ F V T) T c q p ∨ LApp τp μ (LT τp μ F V T) T c q p ∨ LCons τp μ (LT τp μ F V T) T c q p)) (hP7 : (xA τp 19 c).toNatClampNeg ≤ 7000 → sP τp cc l ≤ 7000) (c0 : 0 ≤ c) (c6 : c < 6200) (hPc : (xA τp 19 c).toNatClampNeg = sP τp cc l + 1) : GoC τp μm F V f n c S0 := by
  have h1 : ∀ i, i < l → 1 ≤ (xA τp 19 (cc i)).toNatClampNeg := fun i hi => (hit i hi).1
  refine ⟨by omega, ?_⟩
  rw [hPc]
  intro v m ct hd μ μ1 q hnx hq hv hm hct hhd
  obtain ⟨q1, q2⟩ := hq
  have w2 := mBa_wl (v := v + 1) (n := n) (r := r0) q1
  have hat := mBa_at μ1 (v + 1) n r0
  rw [← hst0, ← hrr0] at hat
  have hge := sP_ge h1 l (Nat.le_refl _)
  have hszi : ∀ i, i < l → sz i ≤ pre sz l := fun i hi => pre_at l i hi
  obtain ⟨j1, μ3, a1, a2, a3, a4, a5, a6, a7⟩ := gl_row (v := v + 1) (by omega) hl hit (fun μ i hi hf ha => hN (v + 1) μ i (by omega) hi hf ha) (fun i hi => by have := hszi i hi; omega) m ct hd (by omega) (by omega) (by omega) l 0 (mBa μ1 (v + 1) n r0) (by omega) w2 (by rw [hrr0] at hat ⊢; exact hat) (fun k hk => absurd hk (by omega))
  obtain ⟨x, μ4, x0, x1, x2⟩ := hE (v + 1) μ3 (by omega) a3.1 a6
  have w4 := x2.wl a3
  have hp28 : xA μ4 28 (nI (v + 1)) = n := by
    rcases x2 with ⟨a, rfl⟩ | ⟨a, b, rfl⟩
    · rw [xA_pA, if_neg (fun w => absurd w.1 (by decide))]; exact a6.1
    · rw [xA_pA, if_neg (fun w => absurd w.1 (by decide)), xA_pA, if_neg (fun w => absurd w.1 (by decide))]; exact a6.1
  have lb34 : LBf μ3 μ4 (m + sP τp cc l) (ct + sP τp cc l - l) (hd + l) := x2.lb
  have hk4 : ∀ k, k < l → xA μ4 48 (nI (hd + k)) = nI (m + sP τp cc (k + 1) - 1) ∧ LT τp μ4 F V (ct + sP τp cc l - l) (cc k) (m + sP τp cc k) (m + sP τp cc (k + 1) - 1) := by
    intro k hk
    obtain ⟨z1, z2⟩ := a5 k hk
    have y1 := sP_mono (τp := τp) (cc := cc) (i := k + 1) (l := l) (by omega)
    have y2 := h1 k hk
    have y3 := sP_s τp cc k
    exact ⟨(lb34.2.2 (hd + k) (by omega)).trans z1, z2.st (Nat.le_refl _) (by omega) lb34.2.1 (fun x x1 x2 => lb34.1 x (by omega))⟩
  obtain ⟨μ5, d1, d2⟩ := hcl (m + sP τp cc l) (ct + sP τp cc l - l) hd μ4 w4 (by omega) (by omega) (by omega) (by omega) (fun k hk => by
    have y1 := sP_mono (τp := τp) (cc := cc) (i := k + 1) (l := l) (by omega)
    have y2 := h1 k hk
    have y3 := sP_s τp cc k
    exact ⟨_, by omega, (hk4 k hk).1⟩)
  obtain ⟨e1, e2, e3, e4⟩ := lt_node d2 h1 hk4 (by omega) (by omega) hM hu h11 h10 hkd
  have hgo := gl_node (f := f) (ji := j1) (by omega) hn0 hn1 hnx (by rw [q1.1.x 19 _ (by omega)]; exact h19) (hb μ1 (v + 1) (by omega) q1.1) a2 x1 x0 hp28 d1
  have wl := d2.wl w4.1
  have hx := d2.2.2.2.2.2.2.1
  have hpre0 : pre sz 0 = 0 := rfl
  refine ⟨j1 + 2, μ5, by omega, hgo, ?_, ?_, ?_, ?_, ?_⟩
  · rw [show m + (sP τp cc l + 1) = m + sP τp cc l + 1 by omega, show ct + (sP τp cc l + 1) - 1 = ct + sP τp cc l - l + l by omega]
    exact wl
  · have z1 : LBf μ μ3 m ct hd := (q2.tr mBa_lb (Nat.le_refl _) (Nat.le_refl _) (Nat.le_refl _)).tr a4 (Nat.le_refl _) (Nat.le_refl _) (Nat.le_refl _)
    have z2 := z1.tr lb34 (by omega) (by omega) (by omega)
    exact z2.tr d2.lb (by omega) (by omega) (by omega)
  · rw [d2.2.2.2.2.2.1]
    congr 1
  · rw [show ct + (sP τp cc l + 1) - 1 = ct + sP τp cc l by omega, show m + (sP τp cc l + 1) - 1 = m + sP τp cc l by omega]
    refine LT.fold ⟨⟨by omega, by omega, by omega, c0, c6⟩, e2, by rw [hPc]; omega, e3, ?_⟩
    rcases hlt μ5 (ct + sP τp cc l) m (m + sP τp cc l) hx.1 hx.2.1 e4 with w | w | w
    · exact Or.inr (Or.inl w)
    · exact Or.inr (Or.inr (Or.inl w))
    · exact Or.inr (Or.inr (Or.inr (Or.inl w)))
  · exact (((mBa_kw μ1 (v + 1) n r0 (by omega)).tr a7).tr (x2.kw (by omega))).tr (d2.kw (v + 1))
