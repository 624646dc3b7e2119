/-- THE LETS OF A FUNCTION ARE COUNTED ALIKE -/
theorem ct_all {σ ν τr τv τu τp τ2 μ2 : S5} {k U F C V T W qf pf : Nat} {sc fs cc fu fn ft : Nat → Int32} {cf : Nat → Nat} (hX : PX σ ν τr τv τu τp k U F C (gI σ 9) sc cf) (hp : PG σ ν k cc fs fu fn ft) (h2 : TR2 τp τ2) {f : Nat} (hf : f < F) (hlf : LTN τ2 μ2 F V T (xA σ 23 (sc f)) qf pf) (hW : pre (wMn μ2) (pf + 1) = pre (wMn μ2) qf + W) : pre (wCn τp τ2 f) C = W := by
  have hL := hX.1
  have hC : gI σ 8 = nI C := hX.2.2.2.1
  have hC6 : C ≤ 6200 := hX.2.2.2.2
  have hU : gI σ 10 = nI U := hL.1.2.2.2.2.2.2
  have hU6 : U ≤ 600 := hL.1.2.2.2.2.2.1
  have hS6 : gI σ 9 ≤ 630 := hL.1.2.1.2
  obtain ⟨⟨l0, l1, l2, l3⟩, -⟩ := hL.2.2.1 f hf
  obtain ⟨⟨p1, p2, -, -, -, -, p7, p8⟩, p9, -⟩ := hp
  have key := tel_z (Y := fun i => prI (wCn τp τ2 f) (ft i)) (fs := fs) (W := W) (z := sc f) (k := k) (fun i hi => i_le_of_lt (p9 i hi).2.1.2.1) (fun i hi => by
    obtain ⟨⟨-, -, -, ⟨q1, q2, -⟩, -, q4, -, q6⟩, ⟨r1, r2, r3⟩, ⟨r4, r5, r6⟩, -, ⟨r7, r8, r9⟩, r10⟩ := p9 i hi
    have hu : (fu (i + 1)).toNatClampNeg ≤ U := by
      have := i_le r6
      rw [hU, nI_clamp (by omega)] at this
      exact this
    have h7 : fs (i + 1) ≤ 700 := i_trans r3 (i_trans hS6 (by decide))
    have hs1 : fs i ≤ fs i + 1 ∧ fs i + 1 ≤ fs (i + 1) ∧ fs i < fs i + 1 := by
      clear hX hL p9 q6 hlf h2
      grind
    obtain ⟨z1, z2⟩ := q6.ct hX h2 hf hlf hW hu (by rw [← hC]; exact r9) r3
    show prI (wCn τp τ2 f) (ft (i + 1)) = prI (wCn τp τ2 f) (ft i) + _
    rw [r10]
    by_cases e : fs i = sc f
    · have h1 := z1 (by rw [q2]; exact e) (by rw [← e]; exact hs1.2.2) qf pf (by rw [← q4, e]; exact hlf)
      have h3 : inW W (sc f) (fs i) (fs (i + 1)) = W := by
        unfold inW
        rw [if_pos ⟨by rw [e]; exact Int32.le_refl _, by rw [← e]; exact r2⟩]
      rw [h3]
      omega
    · rw [z2 (by rw [q2]; exact e), ind_s e hs1.1 hs1.2.1])
  rw [p7, p8, p1, p2, hC] at key
  have h3 : inW W (sc f) 0 (gI σ 9) = W := by
    unfold inW
    rw [if_pos ⟨l0, l1⟩]
  have h4 : prI (wCn τp τ2 f) 0 = 0 := rfl
  rw [h3, h4, Nat.zero_add] at key
  unfold prI at key
  rw [nI_clamp (by omega)] at key
  exact key
theorem pre_cg {w w' : Nat → Nat} : ∀ n, (∀ i, i < n → w i = w' i) → pre w n = pre w' n
  | 0, _ => rfl
  | n + 1, h => by
    show pre w n + w n = pre w' n + w' n
    rw [pre_cg n (fun i hi => h i (by omega)), h n (by omega)]
theorem pre_z {w : Nat → Nat} {a : Nat} : ∀ d, (∀ i, a ≤ i → i < a + d → w i = 0) → pre w (a + d) = pre w a
  | 0, _ => rfl
  | d + 1, h => by
    show pre w (a + d) + w (a + d) = _
    rw [pre_z d (fun i a b => h i a (by omega)), h (a + d) (by omega) (by omega)]
    rfl
