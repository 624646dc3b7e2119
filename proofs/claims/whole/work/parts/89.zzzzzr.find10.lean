theorem TNames.eq {σ μ ν : S5} {s n : Int32} (h : TNames σ μ s n) (h9 : xA ν 9 n = xA μ 9 n) (h10 : xA ν 10 n = xA μ 10 n) (g10 : gI ν 10 = gI μ 10) (hb : ∀ x, xB ν 1 x = xB μ 1 x) : TNames σ ν s n := by
  unfold TNames at *
  rw [h9, h10, g10]
  obtain ⟨t1, t2, t3, t4, t5, t6, t7⟩ := h
  exact ⟨t1, t2, t3, t4, t5, t6, fun i a b => by rw [hb]; exact t7 i a b⟩
/-- the rows of both are alike where the program lies -/
def AgP (σ σ2 μ μ2 : S5) (k : Nat) : Prop := (gI σ2 4 = gI σ 4 ∧ gI σ2 8 = gI σ 8 ∧ gI σ2 9 = gI σ 9 ∧ gI σ2 10 = gI σ 10) ∧ (∀ g i, g = 2 ∨ (13 ≤ g ∧ g ≤ 24) ∨ (27 ≤ g ∧ g ≤ 29) → xA σ2 g i = xA σ g i) ∧ (∀ g i, g = 1 ∨ g = 3 ∨ g = 4 → xB σ2 g i = xB σ g i) ∧ (∀ i, i < k → xA σ2 8 (nI i) = xA σ 8 (nI i) ∧ xA σ2 4 (nI i) = xA σ 4 (nI i) ∧ xA σ2 11 (nI i) = xA σ 11 (nI i)) ∧ (gI μ2 9 = gI μ 9 ∧ gI μ2 10 = gI μ 10) ∧ (∀ g i, 2 ≤ g ∧ g ≤ 10 → xA μ2 g i = xA μ g i) ∧ (∀ g i, g = 0 ∨ g = 1 ∨ g = 2 → xB μ2 g i = xB μ g i) ∧ (∀ i, i < k → xA μ2 12 (nI i) = xA μ 12 (nI i) ∧ xA μ2 11 (nI i) = xA μ 11 (nI i))
theorem AgP.agr {σ σ2 μ μ2 : S5} {k : Nat} (h : AgP σ σ2 μ μ2 k) (s s' u u' a b t n c : Int32) : Agr σ σ2 μ μ2 s s' u u' a b t n c := by
  obtain ⟨⟨g4, -, -, -⟩, hA, hB, -, ⟨-, m10⟩, mA, mB, -⟩ := h
  refine ⟨fun i _ _ => ⟨hA 13 i (by omega), hA 14 i (by omega), hA 15 i (by omega), hA 16 i (by omega)⟩, fun i _ _ => hA 17 i (by omega), fun i _ _ => ⟨hA 20 i (by omega), hA 21 i (by omega), hA 23 i (by omega), hA 24 i (by omega)⟩, fun i _ _ => hA 22 i (by omega), fun i _ _ => hB 3 i (by omega), fun i _ _ => ⟨hA 27 i (by omega), hA 28 i (by omega), hA 29 i (by omega), hB 4 i (by omega)⟩, fun i _ _ => ⟨mA 2 i (by omega), mA 3 i (by omega), mA 4 i (by omega), mA 6 i (by omega), mA 7 i (by omega), mA 8 i (by omega), mA 9 i (by omega), mA 10 i (by omega), mB 0 i (by omega)⟩, fun i _ _ _ => mA 5 i (by omega), fun i _ _ => mB 1 i (by omega), by rw [m10]; exact Int32.le_refl _, g4, fun i _ _ => hA 2 i (by omega)⟩
theorem PG.st {σ σ2 μ μ2 : S5} {k : Nat} {cc fs fu fn ft : Nat → Int32} (hp : PG σ μ k cc fs fu fn ft) (h : AgP σ σ2 μ μ2 k) : PG σ2 μ2 k cc fs fu fn ft := by
  have hAg := h.agr
  obtain ⟨⟨g4, g8, g9, g10⟩, hA, hB, h8, ⟨m9, m10⟩, mA, mB, m12⟩ := h
  obtain ⟨p1, p2, p3⟩ := hp
  refine ⟨by rw [g8, g9, g10, m9]; exact p1, fun i hi => ?_, fun i j hij hj => by rw [hB 1 _ (by omega), hB 1 _ (by omega)]; exact p3 i j hij hj⟩
  obtain ⟨⟨q1, ⟨q2, q3, q4⟩, ⟨q5, q6, q7⟩, ⟨q8, q9, q10⟩, q11, q12, q13, q14⟩, r⟩ := p2 i hi
  have hc := h8 i hi
  have hm := m12 i hi
  refine ⟨⟨by rw [hB 1 _ (by omega), mB 2 _ (by omega)]; exact q1, ⟨hc.1.trans q2, hc.2.1.trans q3, hc.2.2.trans q4⟩, ⟨hm.1.trans q5, by rw [hm.2, mA 6 _ (by omega)]; exact q6, (mA 2 _ (by omega)).trans q7⟩, ⟨(hA 21 _ (by omega)).trans q8, (hA 22 _ (by omega)).trans q9, by rw [hA 24 _ (by omega), mA 6 _ (by omega)]; exact q10⟩, ?_, (hA 23 _ (by omega)).trans q12, (hA 17 _ (by omega)).trans q13, ?_⟩, by rw [g8, g9, g10, m9]; exact r⟩
  · have t := q11.eq (ν := μ2) (mA 9 _ (by omega)) (mA 10 _ (by omega)) m10 (fun x => mB 1 x (by omega))
    unfold TNames at *
    obtain ⟨t1, t2, t3, t4, t5, t6, t7⟩ := t
    exact ⟨by rw [hA 20 _ (by omega)]; exact t1, t2, t3, t4, t5, t6, fun x a b => by rw [hB 3 _ (by omega)]; exact t7 x a b⟩
  · rw [mA 3 _ (by omega)]
    exact q14.st (hAg _ _ _ _ _ _ _ _ _)
/-- numbers given, the rows are still alike -/
theorem VU.agp {σ μ ν : S5} {k N : Nat} (h : VU μ ν k N) : AgP σ σ μ ν k := by
  obtain ⟨⟨⟨v1, v2, v3, v4, v5⟩, v6, v7, -⟩, -⟩ := h
  refine ⟨⟨rfl, rfl, rfl, rfl⟩, fun _ _ _ => rfl, fun _ _ _ => rfl, fun _ _ => ⟨rfl, rfl, rfl⟩, ⟨v1 9 (by decide), v1 10 (by decide)⟩, fun g i hg => ?_, fun g i _ => ?_, v7⟩
  · show gA ν g _ = gA μ g _
    rw [v3 g (by omega) (by omega) (by omega) (by omega) (by omega)]
  · show gB ν g _ = gB μ g _
    rw [v4 g]
/-- the loop over the functions at the top -/
theorem fl_loop {σ τr μ0 : S5} {k U F : Nat} {cc fs fu fn ft : Nat → Int32} {S N : Int32} (hE : Env σ τr μ0 k U F fs S) {D : Int32 → Nat} (hw : Wk σ τr μ0 k F S N D) (hD1 : ∀ x, 0 ≤ x → x < S → 1 ≤ D x) (hp : PG σ μ0 k cc fs fu fn ft) (hS : S = gI σ 9) (hNe : N = gI μ0 9) (hN : N ≤ 2200) (h26 : ∀ i, i < k → xA τr 26 (fs i) = nI i) (hkF : k ≤ F) : ∀ (d i fuel B : Nat) (τ μ : S5), i + d = k → d < fuel → WT σ τr μ0 k F S (fs i) (fu i).toNatClampNeg (fn i) B τ μ → ∃ (B' : Nat) (τ' μ' : S5), f_X12_find_L12 fuel (nI i) μ = some ((), μ') ∧ (∀ q, f_X2_findFree_L2 (q + ((fu k).toNatClampNeg - (fu i).toNatClampNeg)) (nI (fu i).toNatClampNeg) τ = f_X2_findFree_L2 q (nI (fu k).toNatClampNeg) τ') ∧ WT σ τr μ0 k F S (fs k) (fu k).toNatClampNeg (fn k) B' τ' μ' := by
  intro d
  have hkk := hE.2.2.2.1
  have h13 := hE.2.2.2.2.2.2.2.2.2.1
  have hU := hE.2.2.2.2.2.2.2.2.1
  induction d with
  | zero =>
    intro i fuel B τ μ hi hf q
    have hik : i = k := by omega
    subst hik
    obtain ⟨fuel, rfl⟩ : ∃ f, fuel = f + 1 := ⟨fuel - 1, by omega⟩
    refine ⟨B, τ, μ, ?_, fun q => by rw [Nat.sub_self, Nat.add_zero], q⟩
    show f_X12_find_B12 _ _ _ = _
    unfold f_X12_find_B12
    rw [(q.1.1 13 (by omega)).trans h13, if_pos (Int32.le_refl _)]
  | succ d ih =>
    intro i fuel B τ μ hi hf q
    obtain ⟨fuel, rfl⟩ : ∃ f, fuel = f + 1 := ⟨fuel - 1, by omega⟩
    obtain ⟨⟨p1, p1s, p1u, p1v, p1n, p1m, _, _⟩, p2, p3⟩ := hp
    obtain ⟨a1, ⟨a2, a3, a4⟩, ⟨a5, a6, a7⟩, ⟨a8, a9, a10⟩, -⟩ := p2 i (by omega)
    have l1 : (fu i).toNatClampNeg ≤ (fu (i + 1)).toNatClampNeg := i_le a6
    have l2 : (fu (i + 1)).toNatClampNeg ≤ (fu k).toNatClampNeg := i_le (by rw [p1v]; exact a7)
    have l3 : (fu k).toNatClampNeg = U := by rw [p1v, hU.2, nI_clamp (by omega)]
    obtain ⟨B1, τ1, μ1, b1, b2, b3⟩ := gt_top hE hw hD1 (i := i) (by omega) (by omega) a1 (h26 i (by omega)) a2 a3 (by rw [hS]; exact a4) a8 a9 (by rw [hNe]; exact a10) hN (by omega) q
    obtain ⟨B2, τ2, μ2, c1, c2, c3⟩ := ih (i + 1) fuel B1 τ1 μ1 (by omega) (by omega) b3
    refine ⟨B2, τ2, μ2, ?_, ff_tr b2 c2 l1 l2, c3⟩
    show f_X12_find_B12 _ _ _ = _
    rw [b1]
    exact c1
theorem tg_eq {σ σ2 : S5} (h20 : ∀ x, xA σ2 20 x = xA σ 20 x) (h21 : ∀ x, xA σ2 21 x = xA σ 21 x) (h27 : ∀ x, xA σ2 27 x = xA σ 27 x) (b1 : ∀ x, xB σ2 1 x = xB σ 1 x) (b3 : ∀ x, xB σ2 3 x = xB σ 3 x) (b4 : ∀ x, xB σ2 4 x = xB σ 4 x) (k u : Nat) : tg σ2 k u = tg σ k u := by
  have e1 : xA σ2 20 = xA σ 20 := funext h20
  have e2 : xA σ2 21 = xA σ 21 := funext h21
  have e3 : xB σ2 1 = xB σ 1 := funext b1
  have e4 : xB σ2 3 = xB σ 3 := funext b3
  unfold tg
  rw [e1, e2, e3, e4, h27, b4]
