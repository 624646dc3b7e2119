theorem RG.mn {Q : Q9} {σ μ : S5} {s0 u0 a0 t0 nn s1 u1 b1 c1 nx : Int32} {k : Nat} {g cc fs fu fn ft : Nat → Int32} (q : RG Q σ μ s0 u0 a0 t0 nn s1 u1 b1 c1 nx k g cc fs fu fn ft) (i : Nat) : ∀ d, i + d ≤ k → fn i ≤ fn (i + d)
  | 0, _ => by rw [Nat.add_zero]; grind
  | d + 1, hd => by
    have ih := RG.mn q i d (by omega)
    obtain ⟨_, hb, _⟩ := q.2.2.2.2.2.2.2.2 (i + d) (by omega)
    unfold Bi at hb
    rw [← Nat.add_assoc]
    grind
/-- the next item hangs on the reference's node l -/
theorem RG.ap {Q : Q9} (hQ : Qst Q) {σ μ : S5} {s0 u0 a0 t0 l s1 u1 b1 c1 : Int32} {k : Nat} {g cc fs fu fn ft : Nat → Int32} (q : RG Q σ μ s0 u0 a0 t0 l s1 u1 b1 c1 (-1) k g cc fs fu fn ft) (hl0 : 0 ≤ l) (hl1 : l < 3200) (hf : xA μ 3 l = if 0 < k then g 0 else -1) (hs : 0 < k → xA μ 4 l = g (k - 1)) (v : Int32) : ∃ μ' : S5, f_X12_append l v μ = some ((), μ') ∧ RG Q σ μ' s0 u0 a0 t0 l s1 u1 b1 c1 v k g cc fs fu fn ft ∧ xA μ' 3 l = (if 0 < k then g 0 else v) ∧ xA μ' 4 l = v ∧ μ'.1 = μ.1 ∧ μ'.2.1 = μ.2.1 ∧ (∀ j, ¬ j = 3 → ¬ j = 4 → ¬ j = 5 → gA μ' j = gA μ j) ∧ gB μ' = gB μ ∧ EqR μ μ' ∧ (∀ i, 0 ≤ i → ¬ i = l → (i < a0 ∨ b1 ≤ i) → xA μ' 3 i = xA μ 3 i ∧ xA μ' 4 i = xA μ 4 i ∧ xA μ' 5 i = xA μ 5 i) := by
  have hmn := q.mn
  have hi := q.2.2.2.2.2.2.2.2
  have hne : ∀ i, 0 ≤ i → ¬ i = l → ¬ i.toNatClampNeg = l.toNatClampNeg := fun i i0 h w => h ((i_inj i0 hl0).mp w)
  have ib : ∀ i, i < k → 0 ≤ fn i ∧ fn i ≤ g i ∧ g i < fn (i + 1) ∧ fn (i + 1) ≤ 3200 ∧ l < fn i ∧ a0 ≤ g i ∧ g i < b1 := by
    intro i hk
    obtain ⟨d1, hb, d2, d3, d4, d5, d6, d7, d8, d9, d10, d11, d12, d13⟩ := hi i hk
    unfold Bi at hb
    grind
  by_cases c0 : k = 0
  · subst c0
    rw [if_neg (by omega)] at hf
    refine ⟨_, m_app0 v hl0 hl1 (by rw [hf]; decide), q.st hQ (fun i hk => by omega) (fun i hk => by omega) (fun i hk => by omega) (fun hk => by omega), ?_, ?_, rfl, rfl, fun j j3 j4 j5 => ?_, rfl, ((EqR.rf μ).A (by decide)).A (by decide), fun i i0 h _ => ?_⟩
    · rw [if_neg (by omega)]
      simp [xA_pA]
    · simp [xA_pA]
    · rw [gA_ne _ _ _ j4, gA_ne _ _ _ j3]
    · have := hne i i0 h
      simp [xA_pA, this]
  · have hk0 : 0 < k := by omega
    rw [if_pos hk0] at hf
    have hs4 := hs hk0
    have b0 := ib 0 hk0
    have bl := ib (k - 1) (by omega)
    have hdis : ∀ i, i < k → ¬ i = k - 1 → fn (i + 1) ≤ g (k - 1) := by
      intro i hk hne2
      have := hmn (i + 1) (k - 1 - (i + 1)) (by omega)
      rw [show i + 1 + (k - 1 - (i + 1)) = k - 1 by omega] at this
      exact i_trans this bl.2.1
    refine ⟨_, m_app1 v hl0 hl1 (by rw [hf]; grind) (by rw [hs4]; grind) (by rw [hs4]; grind), q.st hQ (fun i hk => ?_) (fun i hk => rfl) (fun i hk => ?_) (fun _ => ?_), ?_, ?_, rfl, rfl, fun j j3 j4 j5 => ?_, rfl, ((EqR.rf μ).A (by decide)).A (by decide), fun i i0 h hr => ?_⟩
    · have bi := ib i hk
      refine ⟨fun i _ _ => ⟨rfl, rfl, rfl, rfl⟩, fun i _ _ => rfl, fun i _ _ => ⟨rfl, rfl, rfl, rfl⟩, fun i _ _ => rfl, fun i _ _ => rfl, fun i _ _ => ⟨rfl, rfl, rfl, rfl⟩, fun x p w => ?_, fun x p w h => ?_, fun i _ _ => rfl, by show gI μ 10 ≤ gI μ 10; grind, rfl, fun i _ _ => rfl⟩
      · have hx := hne x (by grind) (by grind)
        simp [xA_pA, xB_pA, hx]
      · rw [xA_pA, if_neg (fun v => absurd v.1 (by decide)), xA_pA, if_neg]
        intro v
        have v2 := (i_inj (a := x) (b := xA μ 4 l) (by grind) (by rw [hs4]; grind)).mp v.2
        rw [hs4] at v2
        by_cases ci : i = k - 1
        · rw [ci] at h; exact h v2
        · have := hdis i hk ci
          grind
    · have bi := ib i (by omega)
      have hd := hdis i (by omega) (by omega)
      rw [xA_pA, if_neg (fun v => absurd v.1 (by decide)), xA_pA, if_neg]
      intro v
      have v2 := (i_inj (a := g i) (b := xA μ 4 l) (by grind) (by rw [hs4]; grind)).mp v.2
      rw [hs4] at v2
      grind
    · rw [xA_pA, if_neg (fun v => absurd v.1 (by decide)), xA_pA, if_pos ⟨rfl, by rw [hs4]⟩]
    · rw [if_pos hk0]
      simp [xA_pA]
      exact hf
    · simp [xA_pA]
    · rw [gA_ne _ _ _ j4, gA_ne _ _ _ j5]
    · have hx := hne i i0 h
      have hx5 : ¬ i.toNatClampNeg = (xA μ 4 l).toNatClampNeg := by
        rw [hs4]
        intro v
        have v2 := (i_inj i0 (by grind)).mp v
        grind
      simp [xA_pA, hx, hx5]
