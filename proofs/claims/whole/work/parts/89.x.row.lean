def upN (f : Nat → Int32) (k : Nat) (v : Int32) : Nat → Int32 := fun i => if i = k then v else f i
theorem upN_at (f : Nat → Int32) (k : Nat) (v : Int32) : upN f k v k = v := if_pos rfl
theorem upN_ne (f : Nat → Int32) {k i : Nat} (v : Int32) (h : ¬ i = k) : upN f k v i = f i := if_neg h
/-- a row that is being read: items 0 to j are there, ap of them hang on the reference's node nn -/
def RB (σ μ : S5) (h s0 u0 a0 t0 : Int32) (gap : Nat → Int32) (nn s1 u1 b1 c1 : Int32) (j ap : Nat) (g cc fs fu fn ft : Nat → Int32) : Prop := fs 0 = s0 ∧ fs (j + 1) = s1 ∧ fu 0 = u0 ∧ fu (j + 1) = u1 ∧ fn 0 = a0 ∧ fn (j + 1) = b1 ∧ ft 0 = t0 ∧ cc j + 1 = c1 ∧ (∀ i, i ≤ j → TR σ μ h (fs i) (fs (i + 1)) (fu i) (fu (i + 1)) (fn i + gap i) (fn (i + 1)) (ft i) (g i) (cc i) ∧ s0 ≤ fs i ∧ fs (i + 1) ≤ s1 ∧ u0 ≤ fu i ∧ fu (i + 1) ≤ u1 ∧ a0 ≤ fn i + gap i ∧ fn (i + 1) ≤ b1 ∧ t0 ≤ ft i ∧ cc i < c1 ∧ ft (i + 1) = cc i + 1 ∧ xA σ 17 (cc i) = (if i < j then cc (i + 1) else -1) ∧ xA μ 5 (g i) = (if i + 1 < ap then g (i + 1) else -1) ∧ (gap i = 1 → fn i = nn) ∧ (fn (i + 1) ≤ nn ∨ nn < fn i + gap i))
theorem RB.row {σ μ : S5} {h s0 u0 a0 t0 : Int32} {gap : Nat → Int32} {nn s1 u1 b1 c1 : Int32} {j : Nat} {g cc fs fu fn ft : Nat → Int32} (q : RB σ μ h s0 u0 a0 t0 gap nn s1 u1 b1 c1 j (j + 1) g cc fs fu fn ft) : TRow σ μ (fun _ => TR σ μ h) (j + 1) s0 s1 u0 u1 a0 b1 t0 c1 (g 0) (cc 0) nn gap := by
  obtain ⟨e1, e2, e3, e4, e5, e6, e7, e8, hi⟩ := q
  refine ⟨g, cc, fs, fu, fn, ft, e1, e2, e3, e4, e5, e6, ⟨e7, (hi j (Nat.le_refl j)).2.2.2.2.2.2.2.2.2.1.trans e8⟩, rfl, rfl, fun i hk => ?_⟩
  obtain ⟨d1, d2, d3, d4, d5, d6, d7, d8, d9, d10, d11, d12, d13, d14⟩ := hi i (by omega)
  have hb := d1.un.1
  unfold Bd at hb
  refine ⟨d1, ?_, by grind, by grind, d10, by rw [d12], ?_, d13, d14⟩
  · unfold Wi
    grind
  · rw [d11]
    by_cases c : i < j
    · rw [if_pos c, if_pos (by omega)]
    · rw [if_neg c, if_neg (by omega)]
/-- the frames of a state in which the items stay -/
theorem RB.st {σ σ' μ μ' : S5} {h s0 u0 a0 t0 : Int32} {gap : Nat → Int32} {nn s1 u1 b1 c1 : Int32} {j ap : Nat} {g cc fs fu fn ft : Nat → Int32} (q : RB σ μ h s0 u0 a0 t0 gap nn s1 u1 b1 c1 j ap g cc fs fu fn ft) (ha : ∀ i, i ≤ j → Agr σ σ' μ μ' (fs i) (fs (i + 1)) (fu i) (fu (i + 1)) (fn i + gap i) (fn (i + 1)) (ft i) (g i) (cc i)) (h17 : ∀ i, i ≤ j → xA σ' 17 (cc i) = xA σ 17 (cc i)) (h5 : ∀ i, i ≤ j → xA μ' 5 (g i) = xA μ 5 (g i)) : RB σ' μ' h s0 u0 a0 t0 gap nn s1 u1 b1 c1 j ap g cc fs fu fn ft := by
  obtain ⟨e1, e2, e3, e4, e5, e6, e7, e8, hi⟩ := q
  refine ⟨e1, e2, e3, e4, e5, e6, e7, e8, fun i hk => ?_⟩
  obtain ⟨d1, d2, d3, d4, d5, d6, d7, d8, d9, d10, d11, d12, d13⟩ := hi i hk
  exact ⟨d1.st (ha i hk), d2, d3, d4, d5, d6, d7, d8, d9, d10, by rw [h17 i hk]; exact d11, by rw [h5 i hk]; exact d12, d13⟩
theorem RB.fr {σ σ' μ μ' : S5} {h s0 u0 a0 t0 : Int32} {gap : Nat → Int32} {nn s1 u1 b1 c1 : Int32} {j ap : Nat} {g cc fs fu fn ft : Nat → Int32} (q : RB σ μ h s0 u0 a0 t0 gap nn s1 u1 b1 c1 j ap g cc fs fu fn ft) (hE : EqE σ σ') (hC : FrC σ σ') (hM : FrM μ μ') (hg : gI μ 10 ≤ gI μ' 10) (k1 : s1 ≤ gI σ 9) (k2 : gI σ 9 ≤ 700) (k3 : u1 ≤ gI σ 10) (k4 : b1 ≤ gI μ 9) (k5 : c1 ≤ gI σ 8) : RB σ' μ' h s0 u0 a0 t0 gap nn s1 u1 b1 c1 j ap g cc fs fu fn ft := by
  have hi := q.2.2.2.2.2.2.2.2
  refine q.st (fun i hk => ?_) (fun i hk => ?_) (fun i hk => ?_)
  all_goals
    obtain ⟨d1, d2, d3, d4, d5, d6, d7, d8, d9, d10⟩ := hi i hk
    have hb := d1.un.1
    unfold Bd at hb
  · exact Agr.fr hE hC hM hg (by grind) (by grind) (by grind) (by grind)
  · exact (hC.1 (cc i) (by grind) (by grind)).2.2.2.2
  · exact (hM.1 (g i) (by grind) (by grind)).2.2.2.1
/-- the next item is read -/
theorem RB.nx {σ μ : S5} {h s0 u0 a0 t0 : Int32} {gap : Nat → Int32} {nn s1 u1 b1 c1 : Int32} {j ap : Nat} {g cc fs fu fn ft : Nat → Int32} (q : RB σ μ h s0 u0 a0 t0 gap nn s1 u1 b1 c1 j ap g cc fs fu fn ft) (hap : ap ≤ j + 1) {s2 u2 b2 n c : Int32} (ht : TR σ μ h s1 s2 u1 u2 (b1 + gap (j + 1)) b2 c1 n c) (h17 : xA σ 17 c = -1) (h5 : xA μ 5 n = -1) (hg1 : gap (j + 1) = 1 → b1 = nn) (hg2 : b2 ≤ nn ∨ nn < b1 + gap (j + 1)) (hg3 : gap (j + 1) = 0 ∨ gap (j + 1) = 1) : RB (pA σ 17 (cc j) c) μ h s0 u0 a0 t0 gap nn s2 u2 b2 (c + 1) (j + 1) ap (upN g (j + 1) n) (upN cc (j + 1) c) (upN fs (j + 2) s2) (upN fu (j + 2) u2) (upN fn (j + 2) b2) (upN ft (j + 2) (c + 1)) := by
  obtain ⟨e1, e2, e3, e4, e5, e6, e7, e8, hi⟩ := q
  have hbn := ht.un.1
  unfold Bd at hbn
  have hj := hi j (Nat.le_refl j)
  have hbj := hj.1.un.1
  unfold Bd at hbj
  have key : ∀ (s s' u u' a b t n1 c2 : Int32), TR σ μ h s s' u u' a b t n1 c2 → (c2 ≤ cc j ∨ cc j < t) → TR (pA σ 17 (cc j) c) μ h s s' u u' a b t n1 c2 := by
    intro s s' u u' a b t n1 c2 w hcc
    have hb := w.un.1
    unfold Bd at hb
    refine w.st ⟨fun i _ _ => ⟨rfl, rfl, rfl, rfl⟩, fun i p q => ?_, fun i _ _ => ⟨rfl, rfl, rfl, rfl⟩, fun i _ _ => rfl, fun i _ _ => rfl, fun i _ _ => ⟨rfl, rfl, rfl, rfl⟩, fun i _ _ => ⟨rfl, rfl, rfl, rfl, rfl, rfl, rfl, rfl, rfl⟩, fun i _ _ _ => rfl, fun i _ _ => rfl, by grind, rfl, fun i _ _ => rfl⟩
    rw [xA_pA, if_neg]
    intro ⟨_, w2⟩
    rcases hcc with hcc | hcc
    · exact i_ne (a := i) (b := cc j) (by grind) (by grind) w2
    · exact i_ne' (a := cc j) (b := i) (by grind) (by grind) w2
  refine ⟨by rw [upN_ne _ _ (by omega)]; exact e1, upN_at _ _ _, by rw [upN_ne _ _ (by omega)]; exact e3, upN_at _ _ _, by rw [upN_ne _ _ (by omega)]; exact e5, upN_at _ _ _, by rw [upN_ne _ _ (by omega)]; exact e7, by rw [upN_at], fun i hk => ?_⟩
  by_cases c0 : i = j + 1
  · subst c0
    rw [upN_at g, upN_at cc, upN_at fs, upN_at fu, upN_at fn, upN_at ft, upN_ne fs _ (by omega), upN_ne fu _ (by omega), upN_ne fn _ (by omega), upN_ne ft _ (by omega), e2, e4, e6]
    have ef : ft (j + 1) = c1 := by rw [hj.2.2.2.2.2.2.2.2.2.1]; exact e8
    rw [ef]
    refine ⟨key _ _ _ _ _ _ _ _ _ ht (Or.inr (by grind)), by grind, by grind, by grind, by grind, ?_, by grind, by grind, by grind, ?_, ?_, ?_, hg1, hg2⟩
    · rcases hg3 with hg3 | hg3
      · rw [hg3] at hbn ⊢; grind
      · rw [hg3] at hbn ⊢; grind
    · rfl
    · rw [if_neg (by omega), xA_pA, if_neg]
      · exact h17
      · intro ⟨_, w2⟩
        exact i_ne' (a := cc j) (b := c) (by grind) (by grind) w2
    · rw [if_neg (by omega)]
      exact h5
  · obtain ⟨d1, d2, d3, d4, d5, d6, d7, d8, d9, d10, d11, d12, d13, d14⟩ := hi i (by omega)
    have hb := d1.un.1
    unfold Bd at hb
    have hcc : i = j ∨ cc i < cc j := by
      by_cases ci : i = j
      · exact Or.inl ci
      · right
        have hb2 := (hi (i + 1) (by omega)).1.un.1
        unfold Bd at hb2
        have hj17 := hj.2.2.2.2.2.2.2.2.2.2.1
        rw [if_neg (by omega)] at hj17
        rw [if_pos (by omega)] at d11
        have : ¬ cc i = cc j := by
          intro w
          rw [w, hj17] at d11
          rw [← d11] at hb2
          exact absurd hb2.2.2.2.2.2.2.2.2.2.2.2.2.1 (by grind)
        grind
    rw [upN_ne g _ c0, upN_ne cc _ c0, upN_ne fs _ (by omega), upN_ne fs _ (by omega), upN_ne fu _ (by omega), upN_ne fu _ (by omega), upN_ne fn _ (by omega), upN_ne fn _ (by omega), upN_ne ft _ (by omega), upN_ne ft _ (by omega)]
    refine ⟨key _ _ _ _ _ _ _ _ _ d1 (Or.inl (by grind)), d2, by grind, d4, by grind, d6, by grind, d8, by grind, d10, ?_, ?_, d13, d14⟩
    · have hij : i < j + 1 := by omega
      rw [xA_pA, if_pos hij]
      rcases hcc with hcc | hcc
      · subst hcc
        rw [if_pos ⟨rfl, rfl⟩, upN_at]
      · rw [if_neg (fun w => i_ne (a := cc i) (b := cc j) (by grind) hcc w.2), d11, if_pos (by
          apply Classical.byContradiction
          intro w
          have : i = j := by omega
          rw [this] at hcc
          grind), upN_ne _ _ (by
          intro w
          have : i = j := by omega
          rw [this] at hcc
          grind)]
    · rw [d12]
      by_cases w : i + 1 < ap
      · rw [if_pos w, if_pos w, upN_ne _ _ (by omega)]
      · rw [if_neg w, if_neg w]
theorem le_gap {x y p g : Int32} (h : x ≤ y) (h0 : p = 0 ∨ p = 1) (h1 : 0 ≤ y + p) (h2 : y + p ≤ g) : x ≤ g := by
  rcases h0 with rfl | rfl <;> grind
theorem lt_gap {x y p : Int32} (h : x < y) (h0 : p = 0 ∨ p = 1) (h1 : 0 ≤ y + p) : x < y + p := by
  rcases h0 with rfl | rfl <;> grind
theorem RB.mn {σ μ : S5} {h s0 u0 a0 t0 : Int32} {gap : Nat → Int32} {nn s1 u1 b1 c1 : Int32} {j ap : Nat} {g cc fs fu fn ft : Nat → Int32} (q : RB σ μ h s0 u0 a0 t0 gap nn s1 u1 b1 c1 j ap g cc fs fu fn ft) (h01 : ∀ i, gap i = 0 ∨ gap i = 1) (i : Nat) : ∀ d, i + d ≤ j + 1 → fn i ≤ fn (i + d)
  | 0, _ => by rw [Nat.add_zero]; grind
  | d + 1, hd => by
    have ih := RB.mn q h01 i d (by omega)
    obtain ⟨d1, _⟩ := q.2.2.2.2.2.2.2.2 (i + d) (by omega)
    have hb := d1.un.1
    unfold Bd at hb
    have := h01 (i + d)
    rw [← Nat.add_assoc]
    grind
/-- the last item is hung on -/
theorem RB.ap {σ μ : S5} {h s0 u0 a0 t0 : Int32} {gap : Nat → Int32} {nn s1 u1 b1 c1 : Int32} {j : Nat} {g cc fs fu fn ft : Nat → Int32} (q : RB σ μ h s0 u0 a0 t0 gap nn s1 u1 b1 c1 j j g cc fs fu fn ft) (h0 : 0 ≤ nn) (h1 : nn < 3200) (hf : j = 0 → xA μ 3 nn < 0) (hs : 0 < j → xA μ 3 nn = g 0 ∧ xA μ 4 nn = g (j - 1)) (h01 : ∀ i, gap i = 0 ∨ gap i = 1) : ∃ μ' : S5, f_X12_append nn (g j) μ = some ((), μ') ∧ RB σ μ' h s0 u0 a0 t0 gap nn s1 u1 b1 c1 j (j + 1) g cc fs fu fn ft ∧ xA μ' 3 nn = g 0 ∧ xA μ' 4 nn = g j ∧ μ'.1 = μ.1 ∧ μ'.2.1 = μ.2.1 ∧ (∀ k, ¬ k = 3 → ¬ k = 4 → ¬ k = 5 → gA μ' k = gA μ k) ∧ gB μ' = gB μ ∧ EqR μ μ' ∧ (∀ i, 0 ≤ i → i < a0 → ¬ i = nn → xA μ' 3 i = xA μ 3 i ∧ xA μ' 4 i = xA μ 4 i ∧ xA μ' 5 i = xA μ 5 i) ∧ (∀ i, 0 ≤ i → ¬ i = nn → xA μ' 3 i = xA μ 3 i) ∧ xA μ' 5 nn = xA μ 5 nn := by
  have hmn := q.mn h01
  obtain ⟨e1, e2, e3, e4, e5, e6, e7, e8, hi⟩ := q
  have ib : ∀ i, i ≤ j → 0 ≤ fn i + gap i ∧ fn i + gap i ≤ g i ∧ g i < fn (i + 1) ∧ fn (i + 1) ≤ 3200 ∧ a0 ≤ g i ∧ ¬ g i = nn := by
    intro i hk
    obtain ⟨d1, d2, d3, d4, d5, d6, d7, d8, d9, d10, d11, d12, d13, d14⟩ := hi i hk
    have hb := d1.un.1
    unfold Bd at hb
    grind
  by_cases c0 : j = 0
  · subst c0
    refine ⟨_, m_app0 (g 0) h0 h1 (hf rfl), ⟨e1, e2, e3, e4, e5, e6, e7, e8, fun i hk => ?_⟩, ?_, ?_, rfl, rfl, fun k k3 k4 k5 => ?_, rfl, ((EqR.rf μ).A (by decide)).A (by decide), fun i i0 i1 i2 => ?_, fun i i0 i2 => ?_, rfl⟩
    · have hi0 : i = 0 := by omega
      subst hi0
      obtain ⟨d1, d2, d3, d4, d5, d6, d7, d8, d9, d10, d11, d12, d13, d14⟩ := hi 0 (Nat.le_refl 0)
      have hb := ib 0 (Nat.le_refl 0)
      refine ⟨d1.st ⟨fun i _ _ => ⟨rfl, rfl, rfl, rfl⟩, fun i _ _ => rfl, fun i _ _ => ⟨rfl, rfl, rfl, rfl⟩, fun i _ _ => rfl, fun i _ _ => rfl, fun i _ _ => ⟨rfl, rfl, rfl, rfl⟩, fun i p q => ?_, fun i _ _ _ => rfl, fun i _ _ => rfl, by show gI μ 10 ≤ gI μ 10; grind, rfl, fun i _ _ => rfl⟩, d2, d3, d4, d5, d6, d7, d8, d9, d10, d11, ?_, d13, d14⟩
      · have hne : ¬ i.toNatClampNeg = nn.toNatClampNeg := by
          intro w
          have := (i_inj (by grind) h0).mp w
          grind
        simp [xA_pA, xB_pA, hne]
      · rw [if_neg (by omega)]
        rw [if_neg (by omega)] at d12
        exact d12
    · simp [xA_pA]
    · simp [xA_pA]
    · rw [gA_ne _ _ _ k4, gA_ne _ _ _ k3]
    · have hne : ¬ i.toNatClampNeg = nn.toNatClampNeg := fun w => i2 ((i_inj i0 h0).mp w)
      simp [xA_pA, hne]
    · have hne : ¬ i.toNatClampNeg = nn.toNatClampNeg := fun w => i2 ((i_inj i0 h0).mp w)
      simp [xA_pA, hne]
  · obtain ⟨s3, s4⟩ := hs (by omega)
    have hg0 := ib 0 (by omega)
    have hgj := ib (j - 1) (by omega)
    have hgl := ib j (Nat.le_refl j)
    have hne4 : ∀ i, 0 ≤ i → ¬ i = nn → ¬ i.toNatClampNeg = nn.toNatClampNeg := fun i i0 i2 w => i2 ((i_inj i0 h0).mp w)
    have hdis : ∀ i, i ≤ j → ¬ i = j - 1 → fn (i + 1) ≤ g (j - 1) ∨ g (j - 1) < fn i + gap i := by
      intro i hk hne
      have hgi := ib i hk
      by_cases c1 : i < j - 1
      · left
        have := hmn (i + 1) (j - 1 - (i + 1)) (by omega)
        rw [show i + 1 + (j - 1 - (i + 1)) = j - 1 by omega] at this
        exact le_gap this (h01 (j - 1)) hgj.1 hgj.2.1
      · right
        have hij : i = j := by omega
        rw [show j - 1 + 1 = j by omega] at hgj
        rw [hij] at hgi ⊢
        exact lt_gap hgj.2.2.1 (h01 j) hgi.1
    refine ⟨_, m_app1 (g j) h0 h1 (by rw [s3]; grind) (by rw [s4]; grind) (by rw [s4]; grind), ?_, ?_, ?_, rfl, rfl, fun k k3 k4 k5 => ?_, rfl, ((EqR.rf μ).A (by decide)).A (by decide), fun i i0 i1 i2 => ?_, fun i i0 i2 => ?_, ?_⟩
    · refine ⟨e1, e2, e3, e4, e5, e6, e7, e8, fun i hk => ?_⟩
      obtain ⟨d1, d2, d3, d4, d5, d6, d7, d8, d9, d10, d11, d12, d13, d14⟩ := hi i hk
      have hb := ib i hk
      refine ⟨d1.st ⟨fun i _ _ => ⟨rfl, rfl, rfl, rfl⟩, fun i _ _ => rfl, fun i _ _ => ⟨rfl, rfl, rfl, rfl⟩, fun i _ _ => rfl, fun i _ _ => rfl, fun i _ _ => ⟨rfl, rfl, rfl, rfl⟩, fun x p q => ?_, fun x p q w => ?_, fun i _ _ => rfl, by show gI μ 10 ≤ gI μ 10; grind, rfl, fun i _ _ => rfl⟩, d2, d3, d4, d5, d6, d7, d8, d9, d10, d11, ?_, d13, d14⟩
      · have hne := hne4 x (by grind) (by grind)
        simp [xA_pA, xB_pA, hne]
      · rw [xA_pA, if_neg (fun v => absurd v.1 (by decide)), xA_pA, if_neg]
        intro v
        have v2 := (i_inj (a := x) (b := xA μ 4 nn) (by grind) (by rw [s4]; grind)).mp v.2
        rw [s4] at v2
        by_cases ci : i = j - 1
        · rw [ci] at w; exact w v2
        · have := hdis i hk ci
          grind
      · rw [xA_pA, if_neg (fun v => absurd v.1 (by decide)), xA_pA]
        by_cases ci : i = j - 1
        · rw [if_pos ⟨rfl, by rw [s4, ci]⟩, if_pos (by omega), show i + 1 = j by omega]
        · have hne5 : ¬ (g i).toNatClampNeg = (xA μ 4 nn).toNatClampNeg := by
            rw [s4]
            intro v
            have v2 := (i_inj (by grind) (by grind)).mp v
            have := hdis i hk ci
            grind
          rw [if_neg (fun v => hne5 v.2), d12]
          by_cases w : i + 1 < j
          · rw [if_pos w, if_pos (by omega)]
          · rw [if_neg w, if_neg (by omega)]
    · simp [xA_pA]
      exact s3
    · simp [xA_pA]
    · rw [gA_ne _ _ _ k4, gA_ne _ _ _ k5]
    · have hne := hne4 i i0 i2
      have hne5 : ¬ i.toNatClampNeg = (xA μ 4 nn).toNatClampNeg := by
        rw [s4]
        exact i_ne i0 (by grind)
      simp [xA_pA, hne, hne5]
    · have hne := hne4 i i0 i2
      simp [xA_pA]
    · have hne5 : ¬ nn.toNatClampNeg = (xA μ 4 nn).toNatClampNeg := by
        rw [s4]
        intro v
        exact hgj.2.2.2.2.2 ((i_inj h0 (by grind)).mp v).symm
      simp [xA_pA, hne5]
