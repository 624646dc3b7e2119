/-- every node of the program is a function's body or has one above -/
theorem PG.par {σ μ : S5} {k : Nat} {cc fs fu fn ft : Nat → Int32} (hp : PG σ μ k cc fs fu fn ft) (h9 : gI σ 9 ≤ 630) : ∀ j, 0 ≤ j → j < gI σ 8 → RtJ σ (gI σ 9) j ∨ ∃ e, e < gI σ 8 ∧ Abv σ e j := by
  obtain ⟨⟨p1, p2, p3, p4, p5, p6, p7, p8⟩, hi, -⟩ := hp
  intro j j0 j1
  have h8 : ∀ i, i < k → 0 ≤ cc i ∧ cc i < 7000 ∧ ft (i + 1) = cc i + 1 := fun i hik => by
    obtain ⟨hq, hs, hu, hn, ht, htc⟩ := hi i hik
    have := hq.2.2.2.2.2.2.2.c
    exact ⟨this.1, i_lt_le this.2 (by decide), htc⟩
  rw [← p7] at j0
  rw [← p8] at j1
  obtain ⟨i, i1, i2, i3⟩ := seg_of k h8 j0 j1
  obtain ⟨hq, hs, hu, hn, ht, htc⟩ := hi i i1
  rcases i3 with w | w
  · rcases (hq.2.2.2.2.2.2.2.par hs.2.2) j i2 w with z | z
    · exact Or.inl z
    · exact Or.inr ⟨cc i, ht.2.2, z⟩
  · refine Or.inl ⟨fs i, hs.1, i_lt_le hs.2.1 hs.2.2, hq.2.2.2.1.2.1, ?_⟩
    rw [hq.2.2.2.2.2.1, w]
/-- NO NODE IS HIGHER THAN THE BODIES -/
theorem PX.h40 {σ ν τr τv τu τp μ : S5} {k U F C : Nat} {S : Int32} {sc : Nat → Int32} {cf : Nat → Nat} (hX : PX σ ν τr τv τu τp k U F C S sc cf) {cc fs fu fn ft : Nat → Int32} (hp : PG σ μ k cc fs fu fn ft) (hb : ∀ f, f < F → hF τp (rtF σ sc f) ≤ 40) : ∀ j, 0 ≤ j → j < nI C → hF τp j ≤ 40 := by
  have hS : S = gI σ 9 := hX.1.1.2.2.1
  have hC : gI σ 8 = nI C := hX.2.2.2.1
  have hC6 : C ≤ 6200 := hX.2.2.2.2
  have h9 : gI σ 9 ≤ 630 := by rw [← hS]; exact hX.1.1.2.1.2
  have hpar := hp.par h9
  have key : ∀ (m : Nat) (j : Int32), 0 ≤ j → j < nI C → C ≤ j.toNatClampNeg + m → hF τp j ≤ 40 := by
    intro m
    induction m with
    | zero =>
      intro j j0 j1 hm
      have := i_lt (not_neg j0) j1
      rw [nI_clamp (by omega)] at this
      omega
    | succ m ih =>
      intro j j0 j1 hm
      rcases hpar j j0 (by rw [hC]; exact j1) with ⟨s, s0, s1, s2, s3⟩ | ⟨e, e1, p, l, cc, i, a1, a2, a3, a4, a5, a6, a7, a8⟩
      · obtain ⟨f, f1, f2⟩ := hX.1.2.2.2.1 s s0 (by rw [hS]; exact s1)
        have := hb f f1
        unfold rtF at this
        rw [← f2, s2, s3] at this
        exact this
      · have p0 : 0 ≤ p := i_trans j0 (i_le_of_lt a1)
        have pC : p < nI C := by
          rw [hC] at e1
          clear hX hp hpar ih a3
          grind
        have hlt : j.toNatClampNeg < p.toNatClampNeg := i_lt (not_neg j0) a1
        have hpp := ih p p0 pC (by omega)
        obtain ⟨x1, x2⟩ := hX.ht p0 pC a3 a6 a7
        by_cases hu : u1F (xA σ 13 p) = 1
        · have := x1 hu i a4
          rw [a5] at this
          omega
        · have hl : l = 1 := by
            rcases a8 with w | w
            · exact w
            · exact absurd w hu
          have hu0 : u1F (xA σ 13 p) = 0 := by
            unfold u1F at hu ⊢
            by_cases z : 10 ≤ xA σ 13 p ∧ xA σ 13 p ≤ 13
            · rw [if_pos z]
            · rw [if_neg z] at hu; exact absurd rfl hu
          have := x2 hu0 hl
          have hi0 : i = 0 := by omega
          rw [hi0] at a5
          rw [a5] at this
          omega
  exact fun j j0 j1 => key C j j0 j1 (by omega)
theorem pre_find {w : Nat → Nat} : ∀ (n t : Nat), t < pre w n → ∃ i, i < n ∧ pre w i ≤ t ∧ t < pre w (i + 1)
  | 0, t, h => absurd h (Nat.not_lt_zero _)
  | n + 1, t, h => by
    by_cases hn : t < pre w n
    · obtain ⟨i, a, b⟩ := pre_find n t hn
      exact ⟨i, by omega, b⟩
    · exact ⟨n, by omega, by omega, h⟩
/-- what was planted behind the nodes are leaves -/
theorem PX.out {σ ν τr τv τu τp : S5} {k U F C : Nat} {S : Int32} {sc : Nat → Int32} {cf : Nat → Nat} (hX : PX σ ν τr τv τu τp k U F C S sc cf) : ∀ y, C ≤ y → y < C + pre (wlN σ τr cf) C → ¬ xA τp 13 (nI y) = 7 := by
  intro y y0 y1
  obtain ⟨⟨hL0, hS6, hSe, hF6, hkF, hU⟩, hown, hsc, hnum, hrow, hbase, htg, hku, hkf, hcov, ⟨h80, hg4, hw3⟩, hroom⟩ := hX.1
  have hC : gI σ 8 = nI C := hX.2.2.2.1
  have hC6 : C ≤ 6200 := hX.2.2.2.2
  obtain ⟨i, i1, i2, i3⟩ := pre_find (w := wlN σ τr cf) C (y - C) (by omega)
  have i0 : 0 ≤ nI i := i_le0 (nI_nneg (by omega))
  have iC : nI i < nI C := (nI_lt31 (by omega) (by omega)).mpr i1
  obtain ⟨fr, -⟩ := hX.2.2.1.2.2.1 (nI i) i0 iC
  obtain ⟨hK, hNk⟩ := (hcov.1 (nI i) i0 (by rw [hC]; exact iC)).nk
  have e3 : pre (wlN σ τr cf) (i + 1) = pre (wlN σ τr cf) i + wlN σ τr cf i := rfl
  by_cases h14 : xA σ 13 (nI i) = 14
  · obtain ⟨⟨s0, s1⟩, s2, s3, s4⟩ := hNk.2.2.2 h14
    obtain ⟨f, f1, f2⟩ := hnum _ s0 s1
    rw [s2] at f2
    have e4 : wlN σ τr cf i = lwF cf f := by
      unfold wlN
      rw [if_pos h14, f2, (hsc f f1).1.2.2.2, nI_clamp (by omega)]
    have hc : ¬ cf f = 0 := fun w => by
      unfold lwF at e4
      rw [if_pos w] at e4
      omega
    obtain ⟨n0, g, ⟨z1, z1'⟩, z2, z3, z4, z5, z6, z7, z8⟩ := (fr.2.2.2.2.2 h14 f f1 f2).2 hc
    rw [nI_clamp (by omega)] at z1
    unfold lwF at e4
    rw [if_neg hc] at e4
    have := (z8 (y - n0) (by omega)).1
    rw [show n0 + (y - n0) = y by omega] at this
    rw [this]
    unfold kdp
    split <;> decide
  · have e4 : wlN σ τr cf i = 0 := by unfold wlN; rw [if_neg h14]
    omega
