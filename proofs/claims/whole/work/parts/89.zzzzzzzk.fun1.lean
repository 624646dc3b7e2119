/-- only the row of functions is written -/
def Fr38 (μ μ' : S5) : Prop := (∀ j, gI μ' j = gI μ j) ∧ (∀ j, gJ μ' j = gJ μ j) ∧ (∀ j, ¬ j = 38 → gA μ' j = gA μ j) ∧ (∀ j, gB μ' j = gB μ j) ∧ μ'.2.2.2.2 = μ.2.2.2.2
theorem Fr38.x {μ μ' : S5} (h : Fr38 μ μ') (j : Nat) (i : Int32) (hj : ¬ j = 38) : xA μ' j i = xA μ j i := by
  show gA μ' j i.toNatClampNeg = gA μ j i.toNatClampNeg
  rw [h.2.2.1 j hj]
theorem Fr38.xB {μ μ' : S5} (h : Fr38 μ μ') (j : Nat) (i : Int32) : xB μ' j i = xB μ j i := by
  show gB μ' j i.toNatClampNeg = gB μ j i.toNatClampNeg
  rw [h.2.2.2.1 j]
/-- a function's end -/
def finF (rec17 : Int32 → S5 → Option (Unit × S5)) (f : Nat) (μ : S5) : Option (Unit × S5) := if 40 < xA μ 37 (xA μ 45 (nI f)) then f_X12_liftAll_b248 (nI f) μ else if xA μ 46 (nI f) ≤ 40 then rec17 (nI (f + 1)) μ else f_X12_liftAll_b248 (nI f) μ
theorem l198 {rec17 : Int32 → S5 → Option (Unit × S5)} {f M p : Nat} (hf : f < 640) (hM : M ≤ 7000) (hp : p < 7000) : ∀ (d x n : Nat) (μ : S5), x + d = M → d < n → gI μ 26 = nI M → xA μ 45 (nI f) = nI p → ∃ μ', f_X12_liftAll_L198 rec17 n (nI f) (nI x) μ = finF rec17 f μ' ∧ Fr38 μ μ' ∧ (∀ y, y < x → xA μ' 38 (nI y) = xA μ 38 (nI y)) ∧ (∀ y, x ≤ y → y < M → xA μ' 38 (nI y) = nI f) := by
  intro d
  induction d with
  | zero =>
    intro x n μ hx hn h26 h45
    obtain ⟨n, rfl⟩ : ∃ n', n = n' + 1 := ⟨n - 1, by omega⟩
    have : x = M := by omega
    subst this
    refine ⟨μ, ?_, ⟨fun _ => rfl, fun _ => rfl, fun _ _ => rfl, fun _ => rfl, rfl⟩, fun _ _ => rfl, fun y h1 h2 => absurd h2 (by omega)⟩
    show f_X12_liftAll_B198 _ _ _ _ _ = _
    unfold f_X12_liftAll_B198 finF
    rw [h26, if_pos (Int32.le_refl _), gdn hf (by omega), h45, gdn hp (by omega), gdn hf (by omega), nI_add1]
  | succ d ih =>
    intro x n μ hx hn h26 h45
    obtain ⟨n, rfl⟩ : ∃ n', n = n' + 1 := ⟨n - 1, by omega⟩
    obtain ⟨μ', a1, a2, a3, a4⟩ := ih (x + 1) n (pA μ 38 (nI x) (nI f)) (by omega) (by omega) h26 (by rw [xA_pA, if_neg (fun w => absurd w.1 (by decide))]; exact h45)
    refine ⟨μ', ?_, ⟨a2.1, a2.2.1, fun j hj => by rw [a2.2.2.1 j hj, gA_ne _ _ _ hj], a2.2.2.2.1, a2.2.2.2.2⟩, fun y hy => ?_, fun y h1 h2 => ?_⟩
    · rw [← a1]
      show f_X12_liftAll_B198 _ _ _ _ _ = _
      unfold f_X12_liftAll_B198
      rw [h26, if_neg (fun w => by have := (nI_le31 (by omega) (by omega)).mp w; omega), gdn (by omega) (by omega), nI_add1]
    · rw [a3 y (by omega), xA_pA, if_neg (fun w => tn_neL (by omega) (by omega) (by omega) w.2)]
    · by_cases hyx : y = x
      · subst hyx
        rw [a3 y (by omega), xA_self]
      · exact a4 y (by omega) h2
/-- what lifting a function writes -/
def FrLA (μ μ' : S5) : Prop := (∀ j, j < 26 ∨ 28 < j → gI μ' j = gI μ j) ∧ (∀ j, gJ μ' j = gJ μ j) ∧ (∀ j, j < 28 ∨ 48 < j → gA μ' j = gA μ j) ∧ (∀ j, ¬ j = 5 → gB μ' j = gB μ j) ∧ μ'.2.2.2.2 = μ.2.2.2.2
theorem FrLA.rf (μ : S5) : FrLA μ μ := ⟨fun _ _ => rfl, fun _ => rfl, fun _ _ => rfl, fun _ _ => rfl, rfl⟩
theorem FrLA.tr {σ τ ρ : S5} (h : FrLA σ τ) (h2 : FrLA τ ρ) : FrLA σ ρ := ⟨fun j a => (h2.1 j a).trans (h.1 j a), fun j => (h2.2.1 j).trans (h.2.1 j), fun j a => (h2.2.2.1 j a).trans (h.2.2.1 j a), fun j a => (h2.2.2.2.1 j a).trans (h.2.2.2.1 j a), h2.2.2.2.2.trans h.2.2.2.2⟩
theorem FrLA.x {σ τ : S5} (h : FrLA σ τ) (j : Nat) (i : Int32) (hj : j < 28 ∨ 48 < j) : xA τ j i = xA σ j i := by
  show gA τ j i.toNatClampNeg = gA σ j i.toNatClampNeg
  rw [h.2.2.1 j hj]
theorem FrWL.y {σ τ : S5} (h : FrWL σ τ) (j : Nat) (i : Int32) (hj : j = 38 ∨ (43 < j ∧ ¬ j = 48)) : xA τ j i = xA σ j i := by
  show gA τ j i.toNatClampNeg = gA σ j i.toNatClampNeg
  rw [h.2.2.1 j (by omega)]
/-- where a function's lifting begins -/
def bgF (μ : S5) (f : Nat) (m p v : Nat) : S5 := pA (pA (pA μ 44 (nI f) (nI m)) 47 (nI f) (nI p)) 46 (nI f) (nI v)
/-- a function is lifted, with m lifted before -/
def LOne (τp μ μ' : S5) (F V P f m ct : Nat) (c : Int32) : Prop := FrLA μ μ' ∧ (gI μ' 26 = nI (m + Nn τp c) ∧ gI μ' 27 = nI (ct + Nn τp c - 1) ∧ gI μ' 28 = nI 0) ∧ ((∀ x, x < m → Lw8 μ μ' (nI x) ∧ xA μ' 38 (nI x) = xA μ 38 (nI x)) ∧ (∀ y, y < ct → Ls5 μ μ' (nI y))) ∧ (∀ x, m ≤ x → x < m + Nn τp c → xA μ' 38 (nI x) = nI f) ∧ (xA μ' 44 (nI f) = nI m ∧ xA μ' 45 (nI f) = nI (m + Nn τp c - 1) ∧ xA μ' 46 (nI f) = nI V ∧ xA μ' 47 (nI f) = nI P) ∧ (∀ g j, ¬ g = f → g < 640 → 44 ≤ j → j ≤ 47 → xA μ' j (nI g) = xA μ j (nI g)) ∧ LT τp μ' F V (ct + Nn τp c - 1) c m (m + Nn τp c - 1)
theorem lf_fn {τp μ : S5} {F V P f m ct sz : Nat} {y c : Int32} (hF : F ≤ 630) (hf : f < F) (h22 : gI μ 22 = nI F) (h26 : gI μ 26 = nI m) (h27 : gI μ 27 = nI ct) (h28 : gI μ 28 = nI 0) (h12 : xA μ 12 (nI f) = y) (y0 : 0 ≤ y) (y1 : y < 3200) (hk : xA μ 2 y = 1 ∨ xA μ 2 y = 2 ∨ xA μ 2 y = 12) (hV : xA μ 20 (nI f) + xA μ 24 (nI f) = nI V) (hP : xA μ 20 (nI f) + xA μ 10 y = nI P) (hG : GoC τp (bgF μ f m P V) F V f (xA μ 3 y) c sz) (hsz : sz + 1 ≤ 3200) (hm : m + Nn τp c ≤ 7000) (hct : ct + Nn τp c ≤ 14000) (hN : Nn τp c ≤ 6200) (rec17 : Int32 → S5 → Option (Unit × S5)) : ∃ μ', f_X12_liftAll_B17 rec17 (nI f) μ = finF rec17 f μ' ∧ LOne τp μ μ' F V P f m ct c := by
  have hN1 : 1 ≤ Nn τp c := hG.1
  have fxA : ∀ j x, ¬ j = 44 → ¬ j = 46 → ¬ j = 47 → xA (bgF μ f m P V) j x = xA μ j x := fun j x a b d => by
    unfold bgF
    rw [xA_pA, if_neg (fun w => b w.1), xA_pA, if_neg (fun w => d w.1), xA_pA, if_neg (fun w => a w.1)]
  have hkb : ∀ μ2, FrWL (bgF μ f m P V) μ2 → (¬ xA μ2 2 y = 0 ∧ ¬ xA μ2 2 y = 3 ∧ ¬ xA μ2 2 y = 6 ∧ ¬ xA μ2 2 y = 7) ∧ (xA μ2 2 y = 1 ∨ xA μ2 2 y = 2 ∨ xA μ2 2 y = 4 ∨ xA μ2 2 y = 12) := fun μ2 h => by
    rw [h.x 2 _ (by omega), fxA 2 _ (by decide) (by decide) (by decide)]
    rcases hk with w | w | w <;> rw [w] <;> decide
  have w0 : WLs (bgF μ f m P V) m ct 0 (bgF μ f m P V) := ⟨FrWL.rf _, h26, h27, h28⟩
  have w2 := mBa_wl (v := 0) (n := y) (r := -1) w0
  have hat := mBa_at (bgF μ f m P V) 0 y (-1)
  have hb := ba_no (μ := bgF μ f m P V) (v := 0) (by omega) y0 y1 (hkb _ (FrWL.rf _)).1
  have c1 := nx_no (v := 0) (x := xA μ 3 y) (by omega) y0 y1 hat (hkb _ w2.1).1 (by rw [chA_one y0 y1 (hkb _ w2.1).2, if_pos rfl, w2.1.x 3 _ (by omega), fxA 3 _ (by decide) (by decide) (by decide)])
  have wx : W29 0 (mBa (bgF μ f m P V) 0 y (-1)) (pA (mBa (bgF μ f m P V) 0 y (-1)) 29 (nI 0) (0 + 1)) := Or.inl ⟨_, rfl⟩
  obtain ⟨j1, μ3, a1, a2, a3, a4, a5, a6, a7⟩ := hG.2 0 m ct 0 _ _ w2 c1 ⟨wx.wl w2, wx.lb⟩ (by omega) hm hct (by unfold Nn at hN; omega)
  have t1 : At μ3 0 y (0 + 1) (-1) := by
    refine At.st ?_ a7 (by omega)
    refine ⟨?_, ?_, ?_⟩
    · rw [xA_pA, if_neg (fun w => absurd w.1 (by decide))]; exact hat.1
    · rw [xA_self]
    · rw [xA_pA, if_neg (fun w => absurd w.1 (by decide))]; exact hat.2.2
  have c3 := nx_no (v := 0) (x := -1) (by omega) y0 y1 t1 (hkb _ a3.1).1 (by rw [chA_one y0 y1 (hkb _ a3.1).2, if_neg (by decide)])
  have wy : W29 0 μ3 (pA μ3 29 (nI 0) (0 + 1 + 1)) := Or.inl ⟨_, rfl⟩
  have w4 := wy.wl a3
  have lb4 : LBf μ3 (pA μ3 29 (nI 0) (0 + 1 + 1)) (m + Nn τp c) (ct + Nn τp c - 1) (0 + 1) := wy.lb
  have lb := ((mBa_lb (μ := bgF μ f m P V) (m := m) (ct := ct) (hd := 0) (v := 0) (n := y) (r := -1)).tr a4 (Nat.le_refl _) (Nat.le_refl _) (Nat.le_refl _)).tr lb4 (by omega) (by omega) (by omega)
  have e48 : xA (pA μ3 29 (nI 0) (0 + 1 + 1)) 48 (nI 0) = nI (m + Nn τp c - 1) := (lb4.2.2 0 (by omega)).trans a5
  have lt4 : LT τp (pA μ3 29 (nI 0) (0 + 1 + 1)) F V (ct + Nn τp c - 1) c m (m + Nn τp c - 1) := a6.st (Nat.le_refl _) (by show ct + Nn τp c - 1 ≤ 14000; omega) lb4.2.1 (fun x x1 x2 => lb4.1 x (by unfold Nn at hN1 ⊢; omega))
  obtain ⟨μ4, e4⟩ : ∃ μ4, μ4 = pA μ3 29 (nI 0) (0 + 1 + 1) := ⟨_, rfl⟩
  rw [← e4] at w4 lb e48 lt4 c3
  obtain ⟨μ5, e5⟩ : ∃ μ5, μ5 = pA (pI μ4 28 0) 45 (nI f) (nI (m + Nn τp c - 1)) := ⟨_, rfl⟩
  have x5 : ∀ j x, ¬ j = 45 → xA μ5 j x = xA μ4 j x := fun j x hj => by
    rw [e5, xA_pA, if_neg (fun w => hj w.1)]
    rfl
  have s28 : gI μ4 28 = nI (0 + 1) := w4.2.2.2
  have s26 : gI μ5 26 = nI (m + Nn τp c) := by rw [e5]; exact w4.2.1
  have s45 : xA μ5 45 (nI f) = nI (m + Nn τp c - 1) := by rw [e5, xA_self]
  obtain ⟨μ', z1, z2, z3, z4⟩ := l198 (rec17 := rec17) (f := f) (M := m + Nn τp c) (p := m + Nn τp c - 1) (by omega) hm (by omega) (Nn τp c) m FU μ5 (by omega) (by show _ < 1099511627776; omega) s26 s45
  have e28 : nI (0 + 1) - 1 = nI 0 := by decide
  have hrun : ∀ q, f_X12_liftAll_L88 rec17 (q + 2) (nI f) (nI 1) μ3 = finF rec17 f μ' := by
    intro q
    show f_X12_liftAll_B88 _ _ _ _ _ = _
    unfold f_X12_liftAll_B88 f_X12_liftAll_b162
    rw [if_neg (by decide), show (nI 1 - 1 : Int32) = nI 0 by decide, c3, bd_of, if_neg (by decide), if_pos (by decide)]
    show f_X12_liftAll_B88 _ _ _ _ _ = _
    unfold f_X12_liftAll_B88
    rw [if_pos (by decide), s28, e28, gdn (by omega) (by omega), gdn (by omega) (by omega), gdn (by omega) (by omega), e48]
    have h44 : xA μ4 44 (nI f) = nI m := by
      rw [w4.1.y 44 _ (by omega)]
      unfold bgF
      rw [xA_pA, if_neg (fun w => absurd w.1 (by decide)), xA_pA, if_neg (fun w => absurd w.1 (by decide)), xA_self]
    rw [h44, ← z1, e5]
    rfl
  refine ⟨μ', ?_, ?_⟩
  · have hfu : ∃ q, FU = q + 2 + j1 := ⟨1099511627776 - 2 - j1, by show 1099511627776 = _; omega⟩
    obtain ⟨q, hq⟩ := hfu
    unfold f_X12_liftAll_B17
    rw [h22, if_neg (fun w => by have := (nI_le31 (by omega) (by omega)).mp w; omega), gdn (by omega) (by omega), gdn (by omega) (by omega), gdn (by omega) (by omega), h12, gd3200 y0 y1, gdn (by omega) (by omega), gdn (by omega) (by omega), gdn (by omega) (by omega), gdn (by omega) (by omega), h26, hP, hV]
    have hb' : f_X12_beginAt 0 y (pA (pA (pA μ 44 (nI f) (nI m)) 47 (nI f) (nI P)) 46 (nI f) (nI V)) = some ((), mBa (bgF μ f m P V) 0 y (-1)) := hb
    rw [hb', bd_of, hq]
    have a2' := a2 rec17 (q + 2)
    have hr := hrun q
    exact a2'.trans hr
  · have fw : FrLA μ μ4 := by
      have q := w4.1
      refine ⟨q.1, q.2.1, fun j hj => ?_, q.2.2.2.1, q.2.2.2.2⟩
      rw [q.2.2.1 j (by omega)]
      unfold bgF
      rw [gA_ne _ _ _ (by omega), gA_ne _ _ _ (by omega), gA_ne _ _ _ (by omega)]
    have f5 : FrLA μ μ5 := by
      rw [e5]
      refine ⟨fun j hj => ?_, fw.2.1, fun j hj => ?_, fw.2.2.2.1, fw.2.2.2.2⟩
      · show gI (pI μ4 28 0) j = _
        rw [gI_pI, if_neg (by omega)]
        exact fw.1 j hj
      · rw [gA_ne _ _ _ (by omega)]
        exact fw.2.2.1 j hj
    have f6 : FrLA μ μ' := f5.tr ⟨fun j _ => z2.1 j, z2.2.1, fun j hj => z2.2.2.1 j (by omega), fun j _ => z2.2.2.2.1 j, z2.2.2.2.2⟩
    have xx : ∀ j x, ¬ j = 45 → ¬ j = 38 → xA μ' j x = xA μ4 j x := fun j x a b => (z2.x j x b).trans (x5 j x a)
    have xb : ∀ x, xB μ' 5 x = xB μ4 5 x := fun x => by
      rw [z2.xB 5 x, e5]
      rfl
    have l8 : ∀ x : Nat, Lw8 μ4 μ' (nI x) := fun x => ⟨xx 31 _ (by decide) (by decide), xx 32 _ (by decide) (by decide), xx 33 _ (by decide) (by decide), xx 34 _ (by decide) (by decide), xx 35 _ (by decide) (by decide), xx 37 _ (by decide) (by decide), xb _⟩
    have l5 : ∀ x : Nat, Ls5 μ4 μ' (nI x) := fun x => ⟨xx 39 _ (by decide) (by decide), xx 40 _ (by decide) (by decide), xx 41 _ (by decide) (by decide), xx 42 _ (by decide) (by decide), xx 43 _ (by decide) (by decide)⟩
    have b8 : ∀ x : Nat, Lw8 μ (bgF μ f m P V) (nI x) := fun x => ⟨fxA 31 _ (by decide) (by decide) (by decide), fxA 32 _ (by decide) (by decide) (by decide), fxA 33 _ (by decide) (by decide) (by decide), fxA 34 _ (by decide) (by decide) (by decide), fxA 35 _ (by decide) (by decide) (by decide), fxA 37 _ (by decide) (by decide) (by decide), rfl⟩
    have b5 : ∀ x : Nat, Ls5 μ (bgF μ f m P V) (nI x) := fun x => ⟨fxA 39 _ (by decide) (by decide) (by decide), fxA 40 _ (by decide) (by decide) (by decide), fxA 41 _ (by decide) (by decide) (by decide), fxA 42 _ (by decide) (by decide) (by decide), fxA 43 _ (by decide) (by decide) (by decide)⟩
    have x47 : ∀ g j, g < 640 → 44 ≤ j → j ≤ 47 → ¬ j = 45 → xA μ' j (nI g) = xA (bgF μ f m P V) j (nI g) := fun g j _ h1 h2 h3 => (xx j _ h3 (by omega)).trans (w4.1.y j _ (by omega))
    refine ⟨f6, ⟨(z2.1 26).trans s26, ?_, ?_⟩, ⟨fun x hx => ⟨((b8 x).tr (lb.1 x hx)).tr (l8 x), ?_⟩, fun w hw => ((b5 w).tr (lb.2.1 w hw)).tr (l5 w)⟩, fun x h1 h2 => z4 x h1 h2, ⟨?_, ?_, ?_, ?_⟩, fun g j hg hg6 h1 h2 => ?_, lt4.st (Nat.le_refl _) (by omega) (fun w _ => l5 w) (fun x _ _ => l8 x)⟩
    · rw [z2.1 27, e5]
      exact w4.2.2.1
    · rw [z2.1 28, e5]
      show gI (pI μ4 28 0) 28 = _
      rw [gI_pI, if_pos rfl]
      rfl
    · rw [z3 x hx, x5 38 _ (by decide), w4.1.y 38 _ (by omega), fxA 38 _ (by decide) (by decide) (by decide)]
    · rw [x47 f 44 (by omega) (by omega) (by omega) (by decide)]
      unfold bgF
      rw [xA_pA, if_neg (fun w => absurd w.1 (by decide)), xA_pA, if_neg (fun w => absurd w.1 (by decide)), xA_self]
    · rw [z2.x 45 _ (by decide)]
      exact s45
    · rw [x47 f 46 (by omega) (by omega) (by omega) (by decide)]
      unfold bgF
      rw [xA_self]
    · rw [x47 f 47 (by omega) (by omega) (by omega) (by decide)]
      unfold bgF
      rw [xA_pA, if_neg (fun w => absurd w.1 (by decide)), xA_self]
    · have hne : ¬ (nI g).toNatClampNeg = (nI f).toNatClampNeg := tn_neL (by omega) (by omega) hg
      by_cases hj : j = 45
      · subst hj
        rw [z2.x 45 _ (by decide), e5, xA_pA, if_neg (fun w => hne w.2)]
        show xA μ4 45 (nI g) = _
        rw [w4.1.y 45 _ (by omega), fxA 45 _ (by decide) (by decide) (by decide)]
      · rw [x47 g j hg6 h1 h2 hj]
        unfold bgF
        rw [xA_pA, if_neg (fun w => hne w.2), xA_pA, if_neg (fun w => hne w.2), xA_pA, if_neg (fun w => hne w.2)]
