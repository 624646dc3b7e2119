/-- the names of a node come into sight -/
theorem gn_loop {μ : S5} {n : Int32} {f t v o j d0 : Nat} {z : Nat → Int64} (hn0 : 0 ≤ n) (hn1 : n < 3200) (h10 : xA μ 10 n = nI j) (hj : j ≤ 5) (hz : ∀ i, i < j → 0 ≤ xA μ 9 n + nI i ∧ xA μ 9 n + nI i < 3200 ∧ xB μ 1 (xA μ 9 n + nI i) = z i) (h25 : gI μ 25 = nI (d0 + 1)) (hd : d0 < 64) (h27 : xA μ 27 (nI d0) = nI f) (hf : f < 640) (hv : v + j ≤ 3200) (ht : t + j ≤ 3200) : ∀ (d i m : Nat) (ν : S5), i + d = j → d < m → PV μ ν z f t v o i → ∃ ν', f_X12_giveNames_L12 m n (nI i) ν = some ((), ν') ∧ PV μ ν' z f t v o j := by
  intro d
  induction d with
  | zero =>
    intro i m ν hi hm hP
    obtain ⟨m, rfl⟩ : ∃ m', m = m' + 1 := ⟨m - 1, by omega⟩
    have : i = j := by omega
    subst this
    refine ⟨ν, ?_, hP⟩
    show f_X12_giveNames_B12 _ _ _ _ = _
    unfold f_X12_giveNames_B12
    rw [gd3200 hn0 hn1, hP.1.x 10 _ (by decide) (by decide) (by decide) (by decide), h10, if_pos ((nI_le31 (by omega) (by omega)).mpr (by omega))]
  | succ d ih =>
    intro i m ν hi hm hP
    obtain ⟨m, rfl⟩ : ∃ m', m = m' + 1 := ⟨m - 1, by omega⟩
    obtain ⟨ν1, a1, a2⟩ := hP.step h25 hd h27 hf (by omega) (by omega)
    obtain ⟨ν', b1, b2⟩ := ih (i + 1) m ν1 (by omega) (by omega) a2
    have q := hz i (by omega)
    refine ⟨ν', ?_, b2⟩
    show f_X12_giveNames_B12 _ _ _ _ = _
    unfold f_X12_giveNames_B12
    rw [gd3200 hn0 hn1, hP.1.x 10 _ (by decide) (by decide) (by decide) (by decide), h10, if_neg (fun w => by have := (nI_le31 (by omega) (by omega)).mp w; omega), gd3200 hn0 hn1, hP.1.x 9 _ (by decide) (by decide) (by decide) (by decide), gd3200 q.1 q.2.1, hP.1.y 1 _ (by decide), q.2.2, a1, bd_of, nI_add1]
    exact b1
theorem gn_go {μ : S5} {n : Int32} {f t v o j d0 : Nat} {z : Nat → Int64} (hn0 : 0 ≤ n) (hn1 : n < 3200) (h10 : xA μ 10 n = nI j) (hj : j ≤ 5) (hz : ∀ i, i < j → 0 ≤ xA μ 9 n + nI i ∧ xA μ 9 n + nI i < 3200 ∧ xB μ 1 (xA μ 9 n + nI i) = z i) (h25 : gI μ 25 = nI (d0 + 1)) (hd : d0 < 64) (h27 : xA μ 27 (nI d0) = nI f) (hf : f < 640) (hv : v + j ≤ 3200) (ht : t + j ≤ 3200) (h23 : gI μ 23 = nI v) (h24 : gI μ 24 = nI t) (ho : xA μ 24 (nI f) = nI o) : ∃ ν', f_X12_giveNames n μ = some ((), ν') ∧ PV (pA μ 25 n (nI v)) ν' z f t v o j := by
  have hbig := FU_big (n := 30000) (by decide)
  have e : ∀ (k : Nat) (i : Int32), ¬ k = 25 → xA (pA μ 25 n (nI v)) k i = xA μ k i := fun k i hk => by rw [xA_pA, if_neg (fun w => hk w.1)]
  unfold f_X12_giveNames
  rw [gd3200 hn0 hn1, h23]
  exact gn_loop (μ := pA μ 25 n (nI v)) hn0 hn1 (by rw [e 10 _ (by decide)]; exact h10) hj (fun i hi => by rw [e 9 _ (by decide)]; exact hz i hi) h25 hd (by rw [e 27 _ (by decide)]; exact h27) hf hv ht j 0 FU _ (by omega) (by omega) (PV.zero h23 h24 (by rw [e 24 _ (by decide)]; exact ho))
/-- the names of a let come into sight -/
theorem gl_loop {μ : S5} {g : Nat → Int32} {f t v o j d0 : Nat} {z : Nat → Int64} (hj : j ≤ 5) (hg : ∀ i, i < j → 0 ≤ g i ∧ g i < 3200 ∧ (xA μ 5 (g i) = if i + 1 < j then g (i + 1) else -1) ∧ xB μ 0 (g i) = z i) (h25 : gI μ 25 = nI (d0 + 1)) (hd : d0 < 64) (h27 : xA μ 27 (nI d0) = nI f) (hf : f < 640) (hv : v + j ≤ 3200) (ht : t + j ≤ 3200) : ∀ (d i m : Nat) (ν : S5), i + d + 1 = j → d + 1 < m → PV μ ν z f t v o i → ∃ ν', f_X12_comeInto_L60 m (g i) ν = some ((), ν') ∧ PV μ ν' z f t v o j := by
  have hone : ∀ (i m : Nat) (ν ν1 : S5), i < j → f_X12_newVariable (z i) ν = some (nI (v + i), ν1) → PV μ ν z f t v o i → PV μ ν1 z f t v o (i + 1) → f_X12_comeInto_L60 (m + 1) (g i) ν = f_X12_comeInto_L60 m (if i + 1 < j then g (i + 1) else -1) ν1 := by
    intro i m ν ν1 hi a1 hP hP1
    have q := hg i hi
    show f_X12_comeInto_B60 _ _ _ = _
    unfold f_X12_comeInto_B60
    rw [if_neg (by grind), gd3200 q.1 q.2.1, hP.1.y 0 _ (by decide), q.2.2.2, a1, bd_of, gd3200 q.1 q.2.1, hP1.1.x 5 _ (by decide) (by decide) (by decide) (by decide), q.2.2.1]
  intro d
  induction d with
  | zero =>
    intro i m ν hi hm hP
    obtain ⟨m, rfl⟩ : ∃ m', m = m' + 2 := ⟨m - 2, by omega⟩
    obtain ⟨ν1, a1, a2⟩ := hP.step h25 hd h27 hf (by omega) (by omega)
    refine ⟨ν1, ?_, by rw [show j = i + 1 by omega]; exact a2⟩
    rw [hone i (m + 1) ν ν1 (by omega) a1 hP a2, if_neg (by omega)]
    rfl
  | succ d ih =>
    intro i m ν hi hm hP
    obtain ⟨m, rfl⟩ : ∃ m', m = m' + 1 := ⟨m - 1, by omega⟩
    obtain ⟨ν1, a1, a2⟩ := hP.step h25 hd h27 hf (by omega) (by omega)
    obtain ⟨ν', b1, b2⟩ := ih (i + 1) m ν1 (by omega) (by omega) a2
    refine ⟨ν', ?_, b2⟩
    rw [hone i m ν ν1 (by omega) a1 hP a2, if_pos (by omega)]
    exact b1
/-- a let's names go out of sight -/
theorem go_loop {g : Nat → Int32} {j : Nat} (hj : j ≤ 5) : ∀ (d i m t : Nat) (ν : S5), i + d + 1 = j → d + 1 < m → (∀ i, i < j → 0 ≤ g i ∧ g i < 3200 ∧ (xA ν 5 (g i) = if i + 1 < j then g (i + 1) else -1)) → gI ν 24 = nI (t + d + 1) → t ≤ 3200 → ∃ ν', f_X12_goOutOf_L35 m (g i) ν = some ((), ν') ∧ gI ν' 24 = nI t ∧ (∀ k, ¬ k = 24 → gI ν' k = gI ν k) ∧ ν'.2 = ν.2 := by
  intro d
  induction d with
  | zero =>
    intro i m t ν hi hm hg h24 ht
    obtain ⟨m, rfl⟩ : ∃ m', m = m' + 2 := ⟨m - 2, by omega⟩
    have q := hg i (by omega)
    refine ⟨pI ν 24 (gI ν 24 - 1), ?_, ?_, fun k hk => by rw [gI_pI, if_neg hk], rfl⟩
    · show f_X12_goOutOf_B35 _ _ _ = _
      unfold f_X12_goOutOf_B35
      rw [if_neg (by grind), gd3200 q.1 q.2.1, q.2.2, if_neg (by omega)]
      rfl
    · show gI ν 24 - 1 = _
      rw [h24, ← nI_add1]
      grind
  | succ d ih =>
    intro i m t ν hi hm hg h24 ht
    obtain ⟨m, rfl⟩ : ∃ m', m = m' + 1 := ⟨m - 1, by omega⟩
    have q := hg i (by omega)
    obtain ⟨ν', b1, b2, b3, b4⟩ := ih (i + 1) m t (pI ν 24 (gI ν 24 - 1)) (by omega) (by omega) hg (by show gI ν 24 - 1 = _; rw [h24, show t + (d + 1) + 1 = t + d + 1 + 1 by omega, ← nI_add1]; grind) ht
    refine ⟨ν', ?_, b2, fun k hk => by rw [b3 k hk, gI_pI, if_neg hk], b4⟩
    show f_X12_goOutOf_B35 _ _ _ = _
    unfold f_X12_goOutOf_B35
    rw [if_neg (by grind), gd3200 q.1 q.2.1, q.2.2, if_pos (by omega)]
    exact b1
