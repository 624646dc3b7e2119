theorem VB.s {μ ν : S5} {k m : Nat} (h : VB μ ν k m) {j : Nat} (hj : j = 20 ∨ j = 24) (i v : Int32) : VB μ (pA ν j i v) k m := by
  obtain ⟨h1, h2, h3, h4⟩ := h
  have e : ∀ (q : Nat) (x : Int32), ¬ q = j → xA (pA ν j i v) q x = xA ν q x := fun q x hq => by rw [xA_pA, if_neg (fun w => hq w.1)]
  refine ⟨h1.A (by omega), h2, fun y hy => ?_, fun x hx => ?_⟩
  · rw [e 12 _ (by omega), e 11 _ (by omega)]; exact h3 y hy
  · rw [e 19 _ (by omega), e 12 _ (by omega), e 11 _ (by omega)]; exact h4 x hx
/-- the reference's functions are numbered -/
def VU (μ ν : S5) (k N : Nat) : Prop := VB μ ν k N ∧ ∀ f, f < k + pre (fM μ) N → xA ν 20 (nI f) = 0 ∧ xA ν 24 (nI f) = 0
theorem na_L107 {μ : S5} {k N : Nat} (hF : k + pre (fM μ) N ≤ 630) : ∀ (d i m : Nat) (ν : S5), i + d = k + pre (fM μ) N → d < m → VB μ ν k N → (∀ f, f < i → xA ν 20 (nI f) = 0 ∧ xA ν 24 (nI f) = 0) → ∃ ν', f_X12_numberAll_L107 m (nI i) ν = some ((), ν') ∧ VU μ ν' k N := by
  intro d
  induction d with
  | zero =>
    intro i m ν hi hm hV h7
    obtain ⟨m, rfl⟩ : ∃ m', m = m' + 1 := ⟨m - 1, by omega⟩
    refine ⟨ν, ?_, hV, fun f hf => h7 f (by omega)⟩
    show f_X12_numberAll_B107 _ _ _ = _
    unfold f_X12_numberAll_B107
    rw [hV.2.1, if_pos ((nI_le31 (by omega) (by omega)).mpr (by omega))]
  | succ d ih =>
    intro i m ν hi hm hV h7
    obtain ⟨m, rfl⟩ : ∃ m', m = m' + 1 := ⟨m - 1, by omega⟩
    have hc : ¬ nI (k + pre (fM μ) N) ≤ nI i := fun w => by have := (nI_le31 (by omega) (by omega)).mp w; omega
    have hi0 : 0 ≤ nI i ∧ nI i < 640 := ⟨i_le0 (nI_nneg (by omega)), (nI_lt31 (b := 640) (by omega) (by omega)).mpr (by omega)⟩
    obtain ⟨ν', q1, q2⟩ := ih (i + 1) m (pA (pA ν 20 (nI i) 0) 24 (nI i) 0) (by omega) (by omega) ((hV.s (Or.inl rfl) _ _).s (Or.inr rfl) _ _) (fun f hf => by
      by_cases hfi : f = i
      · subst hfi
        exact ⟨by rw [xA_pA, if_neg (fun w => absurd w.1 (by decide)), xA_pA, if_pos ⟨rfl, rfl⟩], by rw [xA_pA, if_pos ⟨rfl, rfl⟩]⟩
      · have hne := tn_ne (a := f) (b := i) (by omega) (by omega) hfi
        have q := h7 f (by omega)
        exact ⟨by rw [xA_pA, if_neg (fun w => absurd w.1 (by decide)), xA_pA, if_neg (fun w => hne w.2)]; exact q.1, by rw [xA_pA, if_neg (fun w => hne w.2), xA_pA, if_neg (fun w => absurd w.1 (by decide))]; exact q.2⟩)
    refine ⟨ν', ?_, q2⟩
    rw [← q1, ← nI_add1]
    show f_X12_numberAll_B107 _ _ _ = _
    unfold f_X12_numberAll_B107
    rw [hV.2.1, if_neg hc, gd640 hi0.1 hi0.2, gd640 hi0.1 hi0.2]
/-- functions within have the same numbers -/
theorem PG.cf {σ μ : S5} {k : Nat} {cc fs fu fn ft : Nat → Int32} (hp : PG σ μ k cc fs fu fn ft) (h9 : gI σ 9 ≤ 630) (m9 : gI μ 9 ≤ 2200) : ∀ i, i ≤ k → prI (fC σ) (fs i) = prI (fM μ) (fn i) := by
  refine hp.cn h9 m9 (Loc_k σ μ) ?_
  intro i hi
  obtain ⟨hq, hs, hu, hn, ht, hc⟩ := hp.2.1 i hi
  rw [fC_top hs.1 hq.2.2.2.1.1]
  unfold fM
  have h2 := hq.2.2.1.2.2
  rw [xA_tn, xA_tn, if_neg (by rw [h2]; exact fun w => w.elim (fun q => absurd q (by decide)) (fun q => absurd q.1 (by decide)))]
/-- names have the same numbers -/
theorem PG.cv {σ μ : S5} {k : Nat} {cc fs fu fn ft : Nat → Int32} (hp : PG σ μ k cc fs fu fn ft) (h9 : gI σ 9 ≤ 630) (m9 : gI μ 9 ≤ 2200) : ∀ i, i ≤ k → prI (vC σ) (fs i) = prI (vM μ) (fn i) := by
  refine hp.cn h9 m9 (Loc_v σ μ) ?_
  intro i hi
  obtain ⟨hq, hs, hu, hn, ht, hc⟩ := hp.2.1 i hi
  unfold vC vM
  have h2 := hq.2.2.1.2.2
  rw [xA_tn, xA_tn, xA_tn, xA_tn, if_neg (by rw [h2]; decide), hq.2.2.2.2.1.1]
/-- the reference numbers its functions -/
theorem na_go {σ μ : S5} {k : Nat} {cc fs fu fn ft : Nat → Int32} (hp : PG σ μ k cc fs fu fn ft) (hk : k ≤ 30) (h13 : gI μ 13 = nI k) (h9 : gI σ 9 ≤ 630) (m9 : gI μ 9 ≤ 2200) (m90 : 0 ≤ gI μ 9) : ∃ ν, f_X12_numberAll μ = some ((), ν) ∧ VU μ ν k (gI μ 9).toNatClampNeg ∧ pre (fC σ) (gI σ 9).toNatClampNeg = pre (fM μ) (gI μ 9).toNatClampNeg := by
  have hcf := hp.cf h9 m9 k (Nat.le_refl _)
  have hfl := hp.fle h9 k (Nat.le_refl _)
  obtain ⟨⟨p1, p2, p3, p4, p5, p6, p7, p8⟩, hi, hdist⟩ := hp
  rw [p2, p6] at hcf
  rw [p2] at hfl
  unfold prI at hcf hfl
  have hS : (gI σ 9).toNatClampNeg ≤ 630 := i_le (n := 630) h9
  have hN : (gI μ 9).toNatClampNeg ≤ 2200 := i_le (n := 2200) m9
  have hF : k + pre (fM μ) (gI μ 9).toNatClampNeg ≤ 630 := by omega
  have hbig := FU_big (n := 30000) (by decide)
  have h0 : VB μ (pI μ 22 (gI μ 13)) k 0 := ⟨(FrV.rf μ).I, h13, fun j _ => ⟨rfl, rfl⟩, fun x hx => absurd hx (by omega)⟩
  obtain ⟨ν1, a1, a2⟩ := na_L10 (μ := μ) (k := k) (N := (gI μ 9).toNatClampNeg) (by omega) (nI_tn m90) hF (gI μ 9).toNatClampNeg 0 FU _ (by omega) (by omega) h0
  obtain ⟨ν2, b1, b2⟩ := na_L107 (μ := μ) hF (k + pre (fM μ) (gI μ 9).toNatClampNeg) 0 FU ν1 (by omega) (by omega) a2 (fun f hf => absurd hf (by omega))
  exact ⟨ν2, a1.trans b1, b2, hcf⟩
