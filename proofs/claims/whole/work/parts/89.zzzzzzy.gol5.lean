theorem lt_leaf {τp μ μ' : S5} {F V M ct H : Nat} {kind value x : Int32} (h : LIf μ μ' kind value 0 M ct H) (hM : M < 7000) (hct : ct ≤ 14000) (hlt : LLeaf τp μ' F V x M M) (e18 : xA τp 18 x = 1) (e19 : xA τp 19 x = 1) (eB : V ≤ 40 → xB τp 2 x = if kind = 13 then j_lshl 1 value else 0) (x0 : 0 ≤ x) (x6 : x < 6200) : LT τp μ' F V ct x M M := by
  have eP : (xA τp 19 x).toNatClampNeg = 1 := by rw [e19]; rfl
  refine LT.fold ⟨⟨Nat.le_refl _, hM, hct, x0, x6⟩, ?_, by rw [eP], fun hV => ?_, Or.inl hlt⟩
  · rw [h.2.2.2.2.2.2.2.2.1, e18]
    rfl
  · rw [h.2.2.2.2.2.2.2.2.2, eB hV]
    rfl
/-- a function's place: the function -/
def FnP (τp : S5) (F V : Nat) (g n : Nat) (xk : Nat → Nat) (c : Int32) : Prop := g < F ∧ n ≤ 8 ∧ (0 ≤ c ∧ c < 6200) ∧ (n = 0 → xA τp 13 c = 2 ∧ xA τp 14 c = nI g ∧ xA τp 16 c = -1 ∧ xA τp 18 c = 1 ∧ xA τp 19 c = 1 ∧ xB τp 2 c = lbit 2 (nI g)) ∧ (¬ n = 0 → ∃ n0, n0 + n < 6200 ∧ xA τp 13 c = 8 ∧ xA τp 15 c = nI n ∧ xA τp 16 c = nI n0 ∧ (∀ p, p ≤ n → LfR τp (nI (n0 + p)) (if p = 0 then 2 else 3) (if p = 0 then nI g else nI (xk (p - 1))) (if p < n then nI (n0 + p + 1) else -1)) ∧ (∀ p, p < n → xk p < V) ∧ MEQ τp c 0 (n + 1) (fun p => nI (n0 + p)))
theorem lbit_2 (v : Int32) : lbit 2 v = 0 := if_neg (by decide)
theorem lbit_3 {x V : Nat} (hx : x < V) (hV : V ≤ 40) : lbit 3 (nI x) = j_lshl 1 (nI x) := by
  unfold lbit
  rw [if_pos rfl, if_neg (fun w => by have := (nI_le31 (a := 40) (by omega) (by omega)).mp w; omega)]
/-- a function within is lifted in its place -/
theorem gc_fun {τp μm : S5} {F V f g cn : Nat} {n c : Int32} {xk : Nat → Nat} {S0 : Nat} (hn0 : 0 ≤ n) (hn1 : n < 3200) (h19 : xA μm 19 n = nI g) (hP : FnP τp F V g cn xk c) (hF : F ≤ 630) (h20 : xA μm 20 (nI g) = nI cn) (hloc : ∀ (μ : S5) (k : Nat), k < cn → FrWL μm μ → f_X12_local (nI f) (xA μm 21 (nI (9 * g + k))) μ = some (nI (xk k), μ)) (hS : 1 ≤ S0) : GoC τp μm F V f n c S0 := by
  have hbig := FU_big (n := 30000) (by decide)
  obtain ⟨hg, hn8, ⟨c0, c6⟩, hz, hnz⟩ := hP
  have hpos : ∀ w : Nat, w + 1 < 4000 → ¬ nI (w + 1) ≤ 0 := fun w hw z => by have := (nI_le31 (b := 0) (by omega) (by omega)).mp z; omega
  have e1 : ∀ w : Nat, nI (w + 1) - 1 = nI w := fun w => by rw [← nI_add1]; grind
  have hstep : ∀ (v : Nat) (μ μ1 μ5 : S5), v + 1 < 3200 → FrWL μm μ1 → f_X12_nextChild (nI v) μ = some (n, μ1) → f_X12_liftFunction (nI f) (nI g) μ1 = some ((), μ5) → ∀ rec q, f_X12_liftAll_L88 rec (q + 1) (nI f) (nI (v + 1)) μ = f_X12_liftAll_L88 rec q (nI f) (nI (v + 1)) μ5 := by
    intro v μ μ1 μ5 hv hw hnx hlf rec q
    show f_X12_liftAll_B88 _ _ _ _ _ = _
    unfold f_X12_liftAll_B88 f_X12_liftAll_b162
    rw [if_neg (hpos v (by omega)), e1, hnx, bd_of, if_pos hn0, gd3200 hn0 hn1, hw.x 19 _ (by omega), h19, if_neg (nI_nneg (by omega)), gd3200 hn0 hn1, hlf, bd_of]
  by_cases hcn : cn = 0
  · obtain ⟨k1, k2, k3, k4, k5, k6⟩ := hz hcn
    have eP : (xA τp 19 c).toNatClampNeg = 1 := by rw [k5]; rfl
    refine ⟨by omega, ?_⟩
    rw [eP]
    intro v m ct hd μ μ1 q hnx hq hv hm hct hhd
    obtain ⟨q1, q2⟩ := hq
    obtain ⟨μ5, a1, a2⟩ := li_go (n := 0) (hd := hd) 12 (nI g) q1.2.1 q1.2.2.1 q1.2.2.2 (by omega) (by omega) (by omega) (by omega) (fun k hk => absurd hk (by omega))
    have w5 := a2.wl q1.1
    have hlf : f_X12_liftFunction (nI f) (nI g) μ1 = some ((), μ5) := by
      unfold f_X12_liftFunction
      rw [show (0 : Int32) = nI 0 from rfl, a1, bd_of]
      obtain ⟨mm, hmm⟩ : ∃ mm, FU = mm + 1 := ⟨FU - 1, by omega⟩
      rw [hmm]
      show f_X12_liftFunction_B11 _ _ _ _ _ = _
      unfold f_X12_liftFunction_B11
      rw [gdn (by omega) (by omega), w5.1.x 20 _ (by omega), h20, hcn, if_pos (Int32.le_refl _), gdn (by omega) (by omega), if_pos (show nI 0 ≤ 0 from by decide)]
    have hx := a2.2.2.2.2.2.2.1
    refine ⟨1, μ5, by omega, hstep v μ μ1 μ5 (by omega) q1.1 hnx hlf, w5, q2.tr a2.lb (Nat.le_refl _) (Nat.le_refl _) (Nat.le_refl _), ?_, ?_, a2.kw (v + 1)⟩
    · rw [a2.2.2.2.2.2.1]; rfl
    · exact lt_leaf a2 (by omega) (by omega) ⟨rfl, hx.2.2.2.1, k3, Or.inr (Or.inr (Or.inl ⟨k1, hx.1, g, hg, k2, hx.2.1⟩))⟩ k4 k5 (fun _ => by rw [k6, lbit_2, if_neg (by decide)]) c0 c6
  · obtain ⟨n0, b1, b2, b3, b4, b5, b6, b7⟩ := hnz hcn
    have hone : ∀ p, p ≤ cn → (xA τp 19 (nI (n0 + p))).toNatClampNeg = 1 := fun p hp => by rw [(b5 p hp).2.2.2.2.2.1]; rfl
    have hsP : ∀ l, l ≤ cn + 1 → sP τp (fun p => nI (n0 + p)) l = l := by
      intro l
      induction l with
      | zero => intro _; rfl
      | succ l ih =>
        intro hl
        rw [sP_s, ih (by omega), hone l (by omega)]
    have h1 : ∀ i, i < cn + 1 → 1 ≤ (xA τp 19 ((fun p => nI (n0 + p)) i)).toNatClampNeg := fun i hi => by rw [hone i (by omega)]; omega
    have hu : u1F (xA τp 13 c) = 1 := by rw [b2]; rfl
    have eP : (xA τp 19 c).toNatClampNeg = cn + 2 := by
      rw [parts_c h1 (fun i hi => by rw [hone i (by omega)]; omega) (by omega) b7 hu, hsP _ (Nat.le_refl _)]
    refine ⟨by omega, ?_⟩
    rw [eP]
    intro v m ct hd μ μ1 q hnx hq hv hm hct hhd
    obtain ⟨q1, q2⟩ := hq
    have x06 : ∀ p, p ≤ cn → 0 ≤ nI (n0 + p) ∧ nI (n0 + p) < 6200 := fun p hp => ⟨i_le0 (nI_nneg (by omega)), (nI_lt31 (b := 6200) (by omega) (by omega)).mpr (by omega)⟩
    -- the frees, one behind the other
    have loop : ∀ (d k fu : Nat) (μk : S5), k + d = cn → d < fu → WLs μm (m + 1 + k) ct (hd + 1 + k) μk → LBf μ1 μk m ct hd → KW (v + 1) μ1 μk → (∀ p, p < k + 1 → xA μk 48 (nI (hd + p)) = nI (m + p) ∧ LT τp μk F V ct (nI (n0 + p)) (m + p) (m + p)) → ∃ μl, f_X12_liftFunction_L11 fu (nI f) (nI g) (nI k) μk = bd (f_X12_lift 6 0 (nI (cn + 1)) μl) (fun _ τ72 => some ((), τ72)) ∧ WLs μm (m + 1 + cn) ct (hd + 1 + cn) μl ∧ LBf μ1 μl m ct hd ∧ KW (v + 1) μ1 μl ∧ (∀ p, p < cn + 1 → xA μl 48 (nI (hd + p)) = nI (m + p) ∧ LT τp μl F V ct (nI (n0 + p)) (m + p) (m + p)) := by
      intro d
      induction d with
      | zero =>
        intro k fu μk hk hfu w1 w2 w3 w4
        obtain ⟨fu, rfl⟩ : ∃ fu', fu = fu' + 1 := ⟨fu - 1, by omega⟩
        have : k = cn := by omega
        subst this
        refine ⟨μk, ?_, w1, w2, w3, w4⟩
        show f_X12_liftFunction_B11 _ _ _ _ _ = _
        unfold f_X12_liftFunction_B11
        rw [gdn (by omega) (by omega), w1.1.x 20 _ (by omega), h20, if_pos (Int32.le_refl _), gdn (by omega) (by omega), if_neg (fun z => by have := (nI_le31 (b := 0) (by omega) (by omega)).mp z; omega), gdn (by omega) (by omega), show (1 : Int32) = nI 1 from rfl, nI_plus, Nat.add_comm 1 k]
      | succ d ih =>
        intro k fu μk hk hfu w1 w2 w3 w4
        obtain ⟨fu, rfl⟩ : ∃ fu', fu = fu' + 1 := ⟨fu - 1, by omega⟩
        obtain ⟨μ5, a1, a2⟩ := li_go (n := 0) (hd := hd + 1 + k) 13 (nI (xk k)) w1.2.1 w1.2.2.1 w1.2.2.2 (by omega) (by omega) (by omega) (by omega) (fun k hk => absurd hk (by omega))
        have hB : f_X12_liftFunction_L11 (fu + 1) (nI f) (nI g) (nI k) μk = f_X12_liftFunction_L11 fu (nI f) (nI g) (nI (k + 1)) μ5 := by
          show f_X12_liftFunction_B11 _ _ _ _ _ = _
          unfold f_X12_liftFunction_B11
          rw [gdn (by omega) (by omega), w1.1.x 20 _ (by omega), h20, if_neg (fun z => by have := (nI_le31 (by omega) (by omega)).mp z; omega), ix9, gdn (by omega) (by omega), w1.1.x 21 _ (by omega), hloc μk k (by omega) w1.1, bd_of, show (0 : Int32) = nI 0 from rfl, a1, bd_of, nI_add1]
        rw [hB]
        have lb := a2.lb
        have hx := a2.2.2.2.2.2.2.1
        have hleaf := b5 (k + 1) (by omega)
        rw [if_neg (by omega), if_neg (by omega), show k + 1 - 1 = k from rfl] at hleaf
        refine ih (k + 1) fu μ5 (by omega) (by omega) (a2.wl w1.1) (w2.tr lb (by omega) (by omega) (by omega)) (w3.tr (a2.kw (v + 1))) (fun p hp => ?_)
        by_cases hpk : p = k + 1
        · subst hpk
          refine ⟨?_, ?_⟩
          · have := a2.2.2.2.2.2.1
            rw [show hd + (k + 1) = hd + 1 + k by omega, show m + (k + 1) = m + 1 + k by omega]
            exact this
          · rw [show m + (k + 1) = m + 1 + k by omega]
            exact lt_leaf a2 (by omega) (by omega) ⟨rfl, hx.2.2.2.1, hleaf.2.2.1, Or.inr (Or.inr (Or.inr (Or.inl ⟨hleaf.1, hx.1, xk k, b6 k (by omega), hleaf.2.1, hx.2.1⟩)))⟩ hleaf.2.2.2.2.1 hleaf.2.2.2.2.2.1 (fun hV => by rw [hleaf.2.2.2.2.2.2, lbit_3 (b6 k (by omega)) hV, if_pos rfl]) (x06 (k + 1) (by omega)).1 (x06 (k + 1) (by omega)).2
        · obtain ⟨z1, z2⟩ := w4 p (by omega)
          exact ⟨(lb.2.2 (hd + p) (by omega)).trans z1, z2.st (Nat.le_refl _) (by omega) lb.2.1 (fun x x1 x2 => lb.1 x (by omega))⟩
    obtain ⟨μa, a1, a2⟩ := li_go (n := 0) (hd := hd) 12 (nI g) q1.2.1 q1.2.2.1 q1.2.2.2 (by omega) (by omega) (by omega) (by omega) (fun k hk => absurd hk (by omega))
    have hxa := a2.2.2.2.2.2.2.1
    have hl0 := b5 0 (by omega)
    rw [if_pos rfl, if_pos rfl] at hl0
    obtain ⟨μl, d1, d2, d3, d4, d5⟩ := loop cn 0 FU μa (by omega) (by omega) (a2.wl q1.1) a2.lb (a2.kw (v + 1)) (fun p hp => by
      have hp0 : p = 0 := by omega
      subst hp0
      exact ⟨a2.2.2.2.2.2.1, lt_leaf a2 (by omega) (by omega) ⟨rfl, hxa.2.2.2.1, hl0.2.2.1, Or.inr (Or.inr (Or.inl ⟨hl0.1, hxa.1, g, hg, hl0.2.1, hxa.2.1⟩))⟩ hl0.2.2.2.2.1 hl0.2.2.2.2.2.1 (fun _ => by rw [hl0.2.2.2.2.2.2, lbit_2, if_neg (by decide)]) (x06 0 (by omega)).1 (x06 0 (by omega)).2⟩)
    obtain ⟨μ5, f1, f2⟩ := li_go (n := cn + 1) (hd := hd) 6 0 d2.2.1 d2.2.2.1 (by rw [d2.2.2.2]; congr 1; omega) (by omega) (by omega) (by omega) (by omega) (fun k hk => ⟨m + k, by omega, (d5 k hk).1⟩)
    have hlf : f_X12_liftFunction (nI f) (nI g) μ1 = some ((), μ5) := by
      unfold f_X12_liftFunction
      rw [show (0 : Int32) = nI 0 from rfl, a1, bd_of]
      have d1' := d1
      rw [f1, bd_of] at d1'
      exact d1'
    have es := hsP (cn + 1) (Nat.le_refl _)
    have f2' : LIf μl μ5 6 0 (cn + 1) (m + sP τp (fun p => nI (n0 + p)) (cn + 1)) (ct + sP τp (fun p => nI (n0 + p)) (cn + 1) - (cn + 1)) hd := by
      rw [es, show m + (cn + 1) = m + 1 + cn by omega, show ct + (cn + 1) - (cn + 1) = ct by omega]
      exact f2
    obtain ⟨g1, g2, g3, g4⟩ := lt_node (F := F) (V := V) f2' h1 (fun k hk => by
      have y1 := hsP k (by omega)
      have y2 := hsP (k + 1) (by omega)
      rw [y1, y2, es, show ct + (cn + 1) - (cn + 1) = ct by omega, show m + (k + 1) - 1 = m + k by omega]
      exact d5 k hk) (by rw [es]; omega) (by rw [es]; omega) b7 hu (by rw [b2]; decide) (fun i hi => by
        have := (b5 i (by omega)).1
        show ¬ xA τp 13 (nI (n0 + i)) = 10
        rw [this]
        split <;> decide) (by decide)
    rw [es] at g2 g3 g4
    have hx5 := f2.2.2.2.2.2.2.1
    rw [show m + 1 + cn = m + (cn + 1) by omega] at hx5
    refine ⟨1, μ5, by omega, hstep v μ μ1 μ5 (by omega) q1.1 hnx hlf, ?_, q2.tr (d3.tr f2.lb (by omega) (by omega) (by omega)) (Nat.le_refl _) (Nat.le_refl _) (Nat.le_refl _), ?_, ?_, d4.tr (f2.kw (v + 1))⟩
    · have w5 := f2.wl d2.1
      rw [show m + (cn + 2) = m + 1 + cn + 1 by omega, show ct + (cn + 2) - 1 = ct + (cn + 1) by omega]
      exact w5
    · rw [f2.2.2.2.2.2.1]
      congr 1
      omega
    · rw [show ct + (cn + 2) - 1 = ct + (cn + 1) by omega, show m + (cn + 2) - 1 = m + (cn + 1) by omega]
      refine LT.fold ⟨⟨by omega, by omega, by omega, c0, c6⟩, g2, by rw [eP]; omega, g3, Or.inr (Or.inr (Or.inl ⟨b2, hx5.1, cn + 1, fun p => nI (n0 + p), by omega, by omega, by rw [b3]; rfl, ⟨b4, fun i hi => ⟨(x06 i (by omega)).1, ?_⟩⟩, g4⟩))⟩
      rw [(b5 i (by omega)).2.2.2.1]
      by_cases hic : i < cn
      · rw [if_pos hic, if_pos (by omega)]; rfl
      · rw [if_neg hic, if_neg (by omega)]
