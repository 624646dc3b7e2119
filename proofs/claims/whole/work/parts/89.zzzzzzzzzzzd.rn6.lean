/-- only one row of longs was written -/
def Fb (k : Nat) (σ τ : S5) : Prop := (∀ j, gI τ j = gI σ j) ∧ (∀ j, gJ τ j = gJ σ j) ∧ (∀ j, gA τ j = gA σ j) ∧ (∀ j, ¬ j = k → gB τ j = gB σ j) ∧ τ.2.2.2.2 = σ.2.2.2.2
theorem Fb.rf (k : Nat) (σ : S5) : Fb k σ σ := ⟨fun _ => rfl, fun _ => rfl, fun _ => rfl, fun _ _ => rfl, rfl⟩
theorem Fb.tr {k : Nat} {σ τ ρ : S5} (h : Fb k σ τ) (g : Fb k τ ρ) : Fb k σ ρ := ⟨fun j => (g.1 j).trans (h.1 j), fun j => (g.2.1 j).trans (h.2.1 j), fun j => (g.2.2.1 j).trans (h.2.2.1 j), fun j a => (g.2.2.2.1 j a).trans (h.2.2.2.1 j a), g.2.2.2.2.trans h.2.2.2.2⟩
theorem Fb.p (σ : S5) (k : Nat) (i : Int32) (v : Int64) : Fb k σ (pB σ k i v) := ⟨fun _ => rfl, fun _ => rfl, fun _ => rfl, fun _ a => gB_pB_ne a, rfl⟩
theorem gB_s {σ : S5} {k i : Nat} {v : Int64} (hi : i < 2 ^ 31) : gB (pB σ k (nI i) v) k i = v := by rw [gB_pB, nI_clamp hi, if_pos ⟨rfl, rfl⟩]
theorem gB_n {σ : S5} {k i j : Nat} {v : Int64} (hi : i < 2 ^ 31) (h : ¬ j = i) : gB (pB σ k (nI i) v) k j = gB σ k j := by rw [gB_pB, nI_clamp hi, if_neg (fun w => h w.2)]
theorem xB_n {σ : S5} {k i : Nat} (hi : i < 2 ^ 31) : xB σ k (nI i) = gB σ k i := by
  show gB σ k (nI i).toNatClampNeg = _
  rw [nI_clamp hi]
theorem pcn_mo {X : Nat} : ∀ d x, pcn X x ≤ pcn X (x + d)
  | 0, _ => Nat.le_refl _
  | d + 1, x => by
    have := pcn_mo (X := X) d x
    show pcn X x ≤ pcn X (x + d) + (X.testBit (x + d)).toNat
    omega
theorem pcn_mono {X x y : Nat} (h : x ≤ y) : pcn X x ≤ pcn X y := by
  have := pcn_mo (X := X) (y - x) x
  rw [show x + (y - x) = y by omega] at this
  exact this
theorem pcn_t {X x : Nat} (h : X.testBit x = true) : pcn X (x + 1) = pcn X x + 1 := by
  show pcn X x + (X.testBit x).toNat = _
  rw [h]
  rfl
theorem pcn_f {X x : Nat} (h : ¬ X.testBit x = true) : pcn X (x + 1) = pcn X x := by
  show pcn X x + (X.testBit x).toNat = _
  rw [Bool.eq_false_iff.mpr h]
  rfl
theorem lg_ub {a : Int64} {x : Nat} (hx : x < 64) : (lg_cmp ((j_lushr a (nI x)) &&& 1) 0 = 0) ↔ ¬ ub a x = true := by
  rw [ub_c hx, lg_cmp_eq]
  by_cases h : ub a x = true
  · rw [if_pos h]
    exact ⟨fun w => absurd w (by decide), fun w => absurd h w⟩
  · rw [if_neg h]
    exact ⟨fun _ => h, fun _ => rfl⟩
theorem lg_um {a : Int64} {x : Nat} (hx : x < 64) : (lg_cmp ((j_lshr a (nI x)) &&& 1) 1 = 0) ↔ ub a x = true := by
  rw [ub_m hx, lg_cmp_eq]
  by_cases h : ub a x = true
  · rw [if_pos h]
    exact ⟨fun _ => h, fun _ => rfl⟩
  · rw [if_neg h]
    exact ⟨fun w => absurd w (by decide), fun w => absurd w h⟩
/-- variables go into cells -/
theorem st_c {a : Int64} {f nv base p0 : Nat} (hf : f < 630) (hn : nv ≤ 40) : ∀ (m x N : Nat) (σ : S5), x + m = nv → m < N → gI σ 43 = nI f → xA σ 6 (nI f) = nI nv → gI σ 41 = nI base → base + nv ≤ gN σ 3 → base + nv < 2 ^ 31 → gN σ 3 < 2 ^ 31 → p0 + pcn (i64n a) nv ≤ 4000 → ∃ τ, f_X3_storeVariables_L6 N a (nI (p0 + pcn (i64n a) x)) (nI x) σ = some ((), τ) ∧ Fb 14 σ τ ∧ (∀ y, x ≤ y → y < nv → ub a y = true → gB τ 14 (p0 + pcn (i64n a) y) = gB σ 13 (base + y)) ∧ ∀ j, (j < p0 + pcn (i64n a) x ∨ p0 + pcn (i64n a) nv ≤ j) → gB τ 14 j = gB σ 14 j := by
  intro m
  induction m with
  | zero =>
    intro x N σ hx hN h43 h6 h41 hb hb31 hg31 hp
    obtain ⟨N, rfl⟩ : ∃ n, N = n + 1 := ⟨N - 1, by omega⟩
    refine ⟨σ, ?_, Fb.rf 14 σ, fun y a b _ => by omega, fun _ _ => rfl⟩
    show f_X3_storeVariables_B6 _ _ _ _ _ = _
    unfold f_X3_storeVariables_B6
    rw [h43, gdn (by omega) (by omega), h6, if_pos (by rw [show x = nv by omega]; exact Int32.le_refl _)]
  | succ m ih =>
    intro x N σ hx hN h43 h6 h41 hb hb31 hg31 hp
    obtain ⟨N, rfl⟩ : ∃ n, N = n + 1 := ⟨N - 1, by omega⟩
    have hle : ¬ nI nv ≤ nI x := fun w => by have := (nI_le31 (by omega) (by omega)).mp w; omega
    by_cases hu : ub a x = true
    · have hpx := pcn_t hu
      have hpm := pcn_mono (X := i64n a) (show x + 1 ≤ nv by omega)
      obtain ⟨τ, t1, t2, t3, t4⟩ := ih (x + 1) N (pB σ 14 (nI (p0 + pcn (i64n a) x)) (gB σ 13 (base + x))) (by omega) (by omega) h43 h6 h41 hb hb31 hg31 hp
      refine ⟨τ, ?_, (Fb.p _ _ _ _).tr t2, fun y y1 y2 y3 => ?_, fun j hj => ?_⟩
      · show f_X3_storeVariables_B6 _ _ _ _ _ = _
        unfold f_X3_storeVariables_B6 f_X3_storeVariables_b59
        rw [h43, gdn (by omega) (by omega), h6, if_neg hle, if_neg (fun w => ((lg_ub (by omega)).mp w) hu), h41, nI_plus, gdn (by omega) hg31, gdn (by omega) (by omega), xB_n (by omega), nI_add1, nI_add1, show p0 + pcn (i64n a) x + 1 = p0 + pcn (i64n a) (x + 1) by omega]
        exact t1
      · by_cases hyx : y = x
        · subst hyx
          rw [t4 _ (Or.inl (by omega)), gB_s (by omega)]
        · exact t3 y (by omega) y2 y3
      · rcases hj with hj | hj
        · rw [t4 j (Or.inl (by omega)), gB_n (by omega) (by omega)]
        · rw [t4 j (Or.inr hj), gB_n (by omega) (by omega)]
    · have hpx := pcn_f hu
      obtain ⟨τ, t1, t2, t3, t4⟩ := ih (x + 1) N σ (by omega) (by omega) h43 h6 h41 hb hb31 hg31 hp
      refine ⟨τ, ?_, t2, fun y y1 y2 y3 => ?_, fun j hj => ?_⟩
      · show f_X3_storeVariables_B6 _ _ _ _ _ = _
        unfold f_X3_storeVariables_B6 f_X3_storeVariables_b59
        rw [h43, gdn (by omega) (by omega), h6, if_neg hle, if_pos ((lg_ub (by omega)).mpr hu), nI_add1]
        rw [hpx] at t1
        exact t1
      · by_cases hyx : y = x
        · subst hyx
          exact absurd y3 hu
        · exact t3 y (by omega) y2 y3
      · exact t4 j (by omega)
/-- and come out of them -/
theorem ld_c {a : Int64} {f nv base p0 : Nat} (hf : f < 630) (hn : nv ≤ 40) : ∀ (m x N : Nat) (σ : S5), x + m = nv → m < N → gI σ 43 = nI f → xA σ 6 (nI f) = nI nv → gI σ 41 = nI base → base + nv ≤ gN σ 3 → base + nv < 2 ^ 31 → gN σ 3 < 2 ^ 31 → p0 + pcn (i64n a) nv ≤ 4000 → ∃ τ, f_X3_loadVariables_L6 N a (nI (p0 + pcn (i64n a) x)) (nI x) σ = some ((), τ) ∧ Fb 13 σ τ ∧ (∀ y, x ≤ y → y < nv → ub a y = true → gB τ 13 (base + y) = gB σ 14 (p0 + pcn (i64n a) y)) ∧ ∀ j, ((∀ y, x ≤ y → y < nv → ub a y = true → ¬ j = base + y)) → gB τ 13 j = gB σ 13 j := by
  intro m
  induction m with
  | zero =>
    intro x N σ hx hN h43 h6 h41 hb hb31 hg31 hp
    obtain ⟨N, rfl⟩ : ∃ n, N = n + 1 := ⟨N - 1, by omega⟩
    refine ⟨σ, ?_, Fb.rf 13 σ, fun y a b _ => by omega, fun _ _ => rfl⟩
    show f_X3_loadVariables_B6 _ _ _ _ _ = _
    unfold f_X3_loadVariables_B6
    rw [h43, gdn (by omega) (by omega), h6, if_pos (by rw [show x = nv by omega]; exact Int32.le_refl _)]
  | succ m ih =>
    intro x N σ hx hN h43 h6 h41 hb hb31 hg31 hp
    obtain ⟨N, rfl⟩ : ∃ n, N = n + 1 := ⟨N - 1, by omega⟩
    have hle : ¬ nI nv ≤ nI x := fun w => by have := (nI_le31 (by omega) (by omega)).mp w; omega
    by_cases hu : ub a x = true
    · have hpx := pcn_t hu
      have hpm := pcn_mono (X := i64n a) (show x + 1 ≤ nv by omega)
      obtain ⟨τ, t1, t2, t3, t4⟩ := ih (x + 1) N (pB σ 13 (nI (base + x)) (gB σ 14 (p0 + pcn (i64n a) x))) (by omega) (by omega) h43 h6 h41 hb hb31 hg31 hp
      refine ⟨τ, ?_, (Fb.p _ _ _ _).tr t2, fun y y1 y2 y3 => ?_, fun j hj => ?_⟩
      · show f_X3_loadVariables_B6 _ _ _ _ _ = _
        unfold f_X3_loadVariables_B6 f_X3_loadVariables_b59
        rw [h43, gdn (by omega) (by omega), h6, if_neg hle, if_neg (fun w => ((lg_ub (by omega)).mp w) hu), gdn (by omega) (by omega), h41, nI_plus, gdn (by omega) hg31, xB_n (by omega), nI_add1, nI_add1, show p0 + pcn (i64n a) x + 1 = p0 + pcn (i64n a) (x + 1) by omega]
        exact t1
      · by_cases hyx : y = x
        · subst hyx
          rw [t4 _ (fun z z1 z2 z3 => by omega), gB_s (by omega)]
        · rw [t3 y (by omega) y2 y3]
          exact congrFun (gB_pB_ne (by decide)) _
      · rw [t4 j (fun y y1 y2 y3 => hj y (by omega) y2 y3), gB_n (by omega) (hj x (Nat.le_refl _) (by omega) hu)]
    · have hpx := pcn_f hu
      obtain ⟨τ, t1, t2, t3, t4⟩ := ih (x + 1) N σ (by omega) (by omega) h43 h6 h41 hb hb31 hg31 hp
      refine ⟨τ, ?_, t2, fun y y1 y2 y3 => ?_, fun j hj => ?_⟩
      · show f_X3_loadVariables_B6 _ _ _ _ _ = _
        unfold f_X3_loadVariables_B6 f_X3_loadVariables_b59
        rw [h43, gdn (by omega) (by omega), h6, if_neg hle, if_pos ((lg_ub (by omega)).mpr hu), nI_add1]
        rw [hpx] at t1
        exact t1
      · by_cases hyx : y = x
        · subst hyx
          exact absurd y3 hu
        · exact t3 y (by omega) y2 y3
      · exact t4 j (fun y y1 y2 y3 => hj y (by omega) y2 y3)
