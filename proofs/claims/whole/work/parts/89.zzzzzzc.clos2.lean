/-- what the uses mean is among the free variables of their functions -/
def MU (σ τr : S5) (k F u : Nat) (τ : S5) : Prop := ∀ x, x < u → 0 ≤ tg σ k x → xA σ 22 (tg σ k x / 5) = xA σ 22 (xA σ 27 (nI x)) ∨ ∃ g, xA τr 26 (xA σ 22 (xA σ 27 (nI x))) = nI g ∧ g < F ∧ OVm τ g (tg σ k x)
theorem tg_pos {σ : S5} {k u : Nat} (hk : k ≤ 30) (h : 0 ≤ tg σ k u) : tg σ k u = fd (xA σ 20) (xA σ 21) (xB σ 3) (xB σ 4 (nI u)) 701 (xA σ 27 (nI u)) ∧ ¬ tg σ k u = -1 := by
  refine ⟨?_, fun w => by rw [w] at h; exact absurd h (by decide)⟩
  unfold tg at *
  by_cases hf : fd (xA σ 20) (xA σ 21) (xB σ 3) (xB σ 4 (nI u)) 701 (xA σ 27 (nI u)) = -1
  · rw [if_pos hf] at h
    rcases tp_rg (b := xB σ 1) (z := xB σ 4 (nI u)) k 0 with w | ⟨x, x1, x2, x3, x4⟩
    · rw [w] at h; exact absurd h (by decide)
    · rw [x3] at h
      have a1 : nI x ≤ nI 30 := (nI_le31 (by omega) (by omega)).mpr (by omega)
      have a2 : nI 30 = 30 := rfl
      have a3 : 0 ≤ nI x := i_le0 (nI_nneg (by omega))
      rw [a2] at a1
      grind
  · rw [if_neg hf]
theorem ff_cl {σ τr ν : S5} {k U F : Nat} {fs : Nat → Int32} {S : Int32} (hE : Env σ τr ν k U F fs S) (hu : ∀ v, 0 ≤ v → v < gI σ 10 → 0 ≤ xA σ 27 v ∧ xA σ 27 v < S) : ∀ (d u m : Nat) (τ : S5), u + d = U → d < m → CKs τr F (700 * u) τ → Cl σ τr F S (fun _ _ => False) τ → MU σ τr k F u τ → ∃ τ', f_X2_findFree_L2 m (nI u) τ = some ((), τ') ∧ CKs τr F (700 * U) τ' ∧ Cl σ τr F S (fun _ _ => False) τ' ∧ MU σ τr k F U τ' := by
  have hE' := hE
  obtain ⟨hD, hG, ⟨hS0, hS6⟩, hk, hF, hN, hA, h30, ⟨hU6, hU⟩, -⟩ := hE'
  have hbig := FU_big (n := 30000) (by decide)
  intro d
  induction d with
  | zero =>
    intro u m τ hi hm q1 q2 q3
    obtain ⟨m, rfl⟩ : ∃ m', m = m' + 1 := ⟨m - 1, by omega⟩
    have : u = U := by omega
    subst this
    refine ⟨τ, ?_, q1, q2, q3⟩
    show f_X2_findFree_B2 _ _ _ = _
    unfold f_X2_findFree_B2
    rw [q1.1.1 10, hA.2.2.2.2, hU, if_pos (Int32.le_refl _)]
  | succ d ih =>
    intro u m τ hi hm q1 q2 q3
    obtain ⟨m, rfl⟩ : ∃ m', m = m' + 1 := ⟨m - 1, by omega⟩
    have hu0 : 0 ≤ nI u := i_le0 (nI_nneg (by omega))
    have huU : nI u < gI σ 10 := by rw [hU]; exact (nI_lt31 (by omega) (by omega)).mpr (by omega)
    have hs := hu (nI u) hu0 huU
    have ho := hG.own _ hs.1 hs.2
    have e30 : xA τ 30 (nI u) = tg σ k u := by rw [q1.1.x 30 _ (by decide) (by decide)]; exact h30 u (by omega)
    have e27 : xA τ 27 (nI u) = xA σ 27 (nI u) := by rw [q1.1.x 27 _ (by decide) (by decide)]; exact hA.2.2.2.1 _
    have e22 : ∀ z, xA τ 22 z = xA σ 22 z := fun z => by rw [q1.1.x 22 _ (by decide) (by decide)]; exact hA.2.2.1 _
    have hB : f_X2_findFree_L2 (m + 1) (nI u) τ = if tg σ k u < 0 then f_X2_findFree_L2 m (nI (u + 1)) τ else bd (f_X2_passThrough (tg σ k u) (xA σ 22 (xA σ 27 (nI u))) τ) (fun _ τ46 => f_X2_findFree_L2 m (nI (u + 1)) τ46) := by
      show f_X2_findFree_B2 _ _ _ = _
      unfold f_X2_findFree_B2 f_X2_findFree_b49
      rw [q1.1.1 10, hA.2.2.2.2, hU, if_neg (fun w => by have := (nI_le31 (by omega) (by omega)).mp w; omega), gdn (by omega) (by omega), gdn (by omega) (by omega), e30, e27, gd700 hs.1 (by grind), e22, nI_add1]
    have mono : ∀ τ', (∀ g z, g < 630 → OVm τ g z → OVm τ' g z) → (0 ≤ tg σ k u → xA σ 22 (tg σ k u / 5) = xA σ 22 (xA σ 27 (nI u)) ∨ ∃ g, xA τr 26 (xA σ 22 (xA σ 27 (nI u))) = nI g ∧ g < F ∧ OVm τ' g (tg σ k u)) → MU σ τr k F (u + 1) τ' := by
      intro τ' hm hn x hx h0
      by_cases hxu : x = u
      · subst hxu; exact hn h0
      · rcases q3 x (by omega) h0 with w | ⟨g, g1, g2, g3⟩
        · exact Or.inl w
        · exact Or.inr ⟨g, g1, g2, hm g _ (by omega) g3⟩
    rw [hB]
    by_cases hneg : tg σ k u < 0
    · rw [if_pos hneg]
      exact ih (u + 1) m τ (by omega) (by omega) ⟨q1.1, fun f hf => by obtain ⟨c, c1, c2⟩ := q1.2 f hf; exact ⟨c, c1, by omega⟩⟩ q2 (mono τ (fun _ _ _ h => h) (fun w => absurd hneg (by grind)))
    · rw [if_neg hneg]
      have hpos : 0 ≤ tg σ k u := i_le0 hneg
      obtain ⟨t1, t2⟩ := tg_pos hk hpos
      have hl : (xA σ 27 (nI u)).toNatClampNeg < 630 := i_lt (n := 630) (not_neg hs.1) (by grind)
      rcases fd_ich hD hS6 (fun x x0 x1 => by
        rcases hG.1 x x0 x1 with ⟨w, _⟩ | w
        · exact Or.inl w
        · exact Or.inr ⟨w.1, w.2.1⟩) (xB σ 4 (nI u)) 701 (xA σ 27 (nI u)) (Or.inr ⟨hs.1, hs.2, by omega⟩) with w | ⟨s, i, j, m', k1, k2, k3, k4, k5, k6, k7⟩
      · rw [← t1] at w; exact absurd w t2
      · rw [← t1] at k5
        have ediv : tg σ k u / 5 = s := by rw [k5]; exact div5 k1.1 (by grind) (by omega)
        have hoch := Ich.och hG m' _ s k7 hs.2 k1.1
        obtain ⟨τ1, a1, a2, a3, a4, a5⟩ := pt_cl hE (y := tg σ k u) (w := xA σ 22 s) (by rw [ediv]) m' (xA σ 22 (xA σ 27 (nI u))) 0 (700 * u) FU τ hoch ho.1 ho.2.1 ho.2.2 q1 (fun x g p c b1 b2 b3 b4 b5 b6 b7 b8 b9 b10 => by
          rcases q2 x g p c b1 b2 b3 b4 b5 b6 b7 b8 b9 b10 with w | w | w
          · exact Or.inl w
          · exact Or.inr (Or.inl w)
          · exact absurd w (fun w => w)) (by omega) (by omega) (by omega)
        have hpt : f_X2_passThrough (tg σ k u) (xA σ 22 (xA σ 27 (nI u))) τ = some ((), τ1) := by
          unfold f_X2_passThrough
          rw [ediv, gd700 k1.1 (by grind), e22]
          exact a1
        rw [hpt, bd_of]
        refine ih (u + 1) m τ1 (by omega) (by omega) ⟨a2.1, fun f hf => by obtain ⟨c, c1, c2⟩ := a2.2 f hf; exact ⟨c, c1, by omega⟩⟩ a3 (mono τ1 a4 (fun _ => ?_))
        rcases a5 with w | w
        · exact Or.inl (by rw [ediv]; exact w.symm)
        · exact Or.inr w
theorem LF.cl {σ μ τn τr ν τf μf : S5} {k U F B : Nat} {cc fs fu fn ft : Nat → Int32} (h : LF σ μ τn τr ν τf μf k U F B cc fs fu fn ft) (hf : f_X2_findFree τr = some ((), τf)) : Cl σ τr F (gI σ 9) (fun _ _ => False) τf ∧ MU σ τr k F U τf := by
  have hbig := FU_big (n := 30000) (by decide)
  obtain ⟨hE, ⟨hN, hF, hF6⟩, ⟨hR, -⟩, ⟨hV, hFm⟩, hp, ⟨hU, hU6, v90, v9, v10⟩, -⟩ := h
  have hcov := hp.cov hE.2.2.1.2 v9
  have r4 : ∀ f, f < F → xA τr 4 (nI f) = nI 0 := fun f hf' => by
    rw [hR.x 4 (by decide)]
    exact (hN.1.2.2.2.2 f (by omega)).1
  obtain ⟨τ', a1, a2, a3, a4⟩ := ff_cl hE (fun v v0 v1 => by
    obtain ⟨h, n, c, q1, q2, q3, q4, q5, q6, q7, q8, q9, q10⟩ := hcov.2.2 v v0 v1
    rw [q8]
    exact q1) U 0 FU τr (by omega) (by omega) ⟨FrF.rf τr, fun f hf' => ⟨0, r4 f hf', by omega⟩⟩ (fun x g p c b1 b2 b3 b4 b5 b6 b7 b8 b9 b10 => by
      have := nI_injL (by omega) (by omega) (b7.symm.trans (r4 g b5))
      omega) (fun x hx => absurd hx (by omega))
  have : τ' = τf := by
    have e : f_X2_findFree τr = some ((), τ') := a1
    rw [hf] at e
    cases e
    rfl
  subst this
  exact ⟨a3, a4⟩
