/-- the walk comes to a node -/
def mBa (μ : S5) (v : Nat) (n r : Int32) : S5 := pA (pA (pA μ 28 (nI v) n) 29 (nI v) 0) 30 (nI v) r
theorem ba_row {μ : S5} {v : Nat} {n : Int32} (hv : v < 3200) (hn0 : 0 ≤ n) (hn1 : n < 3200) (hk : xA μ 2 n = 0 ∨ xA μ 2 n = 3 ∨ xA μ 2 n = 6 ∨ xA μ 2 n = 7) : f_X12_beginAt (nI v) n μ = some ((), mBa μ v n (xA μ 3 n)) := by
  have hr : ∀ ν, f_X12_hasRow (xA μ 2 n) ν = some (1, ν) := by
    intro ν
    unfold f_X12_hasRow f_X12_hasRow_b21
    rcases hk with h | h | h | h <;> rw [h] <;> rfl
  unfold f_X12_beginAt f_X12_beginAt_b41 mBa
  rw [gdn hv (by omega), gdn hv (by omega), gd3200 hn0 hn1, hr, bd_of, if_neg (by decide), gd3200 hn0 hn1, gdn hv (by omega), xA_pA, if_neg (fun w => absurd w.1 (by decide)), xA_pA, if_neg (fun w => absurd w.1 (by decide))]
theorem ba_no {μ : S5} {v : Nat} {n : Int32} (hv : v < 3200) (hn0 : 0 ≤ n) (hn1 : n < 3200) (hk : ¬ xA μ 2 n = 0 ∧ ¬ xA μ 2 n = 3 ∧ ¬ xA μ 2 n = 6 ∧ ¬ xA μ 2 n = 7) : f_X12_beginAt (nI v) n μ = some ((), mBa μ v n (-1)) := by
  have hr : ∀ ν, f_X12_hasRow (xA μ 2 n) ν = some (0, ν) := by
    intro ν
    unfold f_X12_hasRow f_X12_hasRow_b21
    rw [if_neg hk.1, if_neg hk.2.1, if_neg hk.2.2.1, if_neg hk.2.2.2]
  unfold f_X12_beginAt f_X12_beginAt_b41 mBa
  rw [gdn hv (by omega), gdn hv (by omega), gd3200 hn0 hn1, hr, bd_of, if_pos rfl, gdn hv (by omega)]
/-- where the walk stands at depth v -/
def At (μ : S5) (v : Nat) (n i r : Int32) : Prop := xA μ 28 (nI v) = n ∧ xA μ 29 (nI v) = i ∧ xA μ 30 (nI v) = r
theorem nx_row {μ : S5} {v : Nat} {n i r : Int32} (hv : v < 3200) (hn0 : 0 ≤ n) (hn1 : n < 3200) (h : At μ v n i r) (hk : xA μ 2 n = 6 ∨ xA μ 2 n = 7) (hr : r < 3200) : f_X12_nextChild (nI v) μ = some (r, if r < 0 then pA μ 29 (nI v) (i + 1) else pA (pA μ 29 (nI v) (i + 1)) 30 (nI v) (xA μ 5 r)) := by
  obtain ⟨h1, h2, h3⟩ := h
  have hc : f_X12_childAt n i r μ = some (r, μ) := by
    unfold f_X12_childAt f_X12_childAt_b193
    rcases hk with h | h <;> simp [gd3200 hn0 hn1, h]
  have hh : ∀ ν, f_X12_hasRow (xA μ 2 n) ν = some (1, ν) := by
    intro ν
    unfold f_X12_hasRow f_X12_hasRow_b21
    rcases hk with h | h <;> rw [h] <;> rfl
  unfold f_X12_nextChild f_X12_nextChild_b72 f_X12_nextChild_b73 f_X12_nextChild_b99 f_X12_nextChild_b102
  rw [h1, h2, h3, gdn hv (by omega), gdn hv (by omega), gdn hv (by omega), hc, bd_of, gd3200 hn0 hn1, if_neg (by rcases hk with h | h <;> rw [h] <;> decide), gd3200 hn0 hn1, if_neg (by rcases hk with h | h <;> rw [h] <;> decide), if_pos rfl, gdn hv (by omega), gd3200 hn0 hn1, hh, bd_of, if_neg (by decide), if_pos rfl]
  by_cases c : r < 0
  · rw [if_pos c, if_pos c]
  · rw [if_neg c, if_neg c, gd3200 (by grind) hr, gdn hv (by omega), xA_pA μ 29 5, if_neg (fun w => absurd w.1 (by decide))]
theorem nx_no {μ : S5} {v : Nat} {n i r x : Int32} (hv : v < 3200) (hn0 : 0 ≤ n) (hn1 : n < 3200) (h : At μ v n i r) (hk : ¬ xA μ 2 n = 0 ∧ ¬ xA μ 2 n = 3 ∧ ¬ xA μ 2 n = 6 ∧ ¬ xA μ 2 n = 7) (hc : f_X12_childAt n i r μ = some (x, μ)) : f_X12_nextChild (nI v) μ = some (x, pA μ 29 (nI v) (i + 1)) := by
  obtain ⟨h1, h2, h3⟩ := h
  have hh : ∀ ν, f_X12_hasRow (xA μ 2 n) ν = some (0, ν) := by
    intro ν
    unfold f_X12_hasRow f_X12_hasRow_b21
    rw [if_neg hk.1, if_neg hk.2.1, if_neg hk.2.2.1, if_neg hk.2.2.2]
  unfold f_X12_nextChild f_X12_nextChild_b72 f_X12_nextChild_b73 f_X12_nextChild_b99 f_X12_nextChild_b102
  rw [h1, h2, h3, gdn hv (by omega), gdn hv (by omega), gdn hv (by omega), hc, bd_of, gd3200 hn0 hn1, if_neg hk.2.1, gd3200 hn0 hn1, if_neg hk.1, if_pos rfl, gdn hv (by omega), gd3200 hn0 hn1, hh, bd_of, if_pos rfl]
theorem chA_leaf {μ : S5} {n i r : Int32} (hn0 : 0 ≤ n) (hn1 : n < 3200) (hk : xA μ 2 n = 8 ∨ xA μ 2 n = 9 ∨ xA μ 2 n = 10 ∨ xA μ 2 n = 11) : f_X12_childAt n i r μ = some (-1, μ) := by
  unfold f_X12_childAt
  rcases hk with h | h | h | h <;> simp [gd3200 hn0 hn1, h]
theorem chA_one {μ : S5} {n i r : Int32} (hn0 : 0 ≤ n) (hn1 : n < 3200) (hk : xA μ 2 n = 1 ∨ xA μ 2 n = 2 ∨ xA μ 2 n = 4 ∨ xA μ 2 n = 12) : f_X12_childAt n i r μ = some (if i = 0 then xA μ 3 n else -1, μ) := by
  unfold f_X12_childAt
  by_cases hi : i = 0
  · rw [if_pos hi]
    rcases hk with h | h | h | h <;> simp [gd3200 hn0 hn1, h, hi]
  · rw [if_neg hi]
    rcases hk with h | h | h | h <;> simp [gd3200 hn0 hn1, h, hi]
theorem chA_sign {μ : S5} {n i r : Int32} (hn0 : 0 ≤ n) (hn1 : n < 3200) (hk : xA μ 2 n = 5) : f_X12_childAt n i r μ = some (if i = 0 then xA μ 3 n else if i = 1 then xA μ 4 n else -1, μ) := by
  unfold f_X12_childAt
  rw [gd3200 hn0 hn1, hk, if_neg (by decide), if_neg (by decide), if_neg (by decide), if_neg (by decide), if_neg (by decide), if_pos rfl]
  by_cases hi : i = 0
  · rw [if_pos hi, if_pos hi, gd3200 hn0 hn1]
  · rw [if_neg hi, if_neg hi]
    by_cases h1 : i = 1
    · rw [if_pos h1, if_pos h1, gd3200 hn0 hn1]
    · rw [if_neg h1, if_neg h1]
theorem nx_case0 {μ : S5} {v : Nat} {n r : Int32} (hv : v < 3200) (hn0 : 0 ≤ n) (hn1 : n < 3200) (h : At μ v n 0 r) (hk : xA μ 2 n = 3) : f_X12_nextChild (nI v) μ = some (xA μ 7 n, pA μ 29 (nI v) 1) := by
  obtain ⟨h1, h2, h3⟩ := h
  have hc : f_X12_childAt n 0 r μ = some (xA μ 7 n, μ) := by
    unfold f_X12_childAt f_X12_childAt_b109
    simp [gd3200 hn0 hn1, hk]
  have hh : ∀ ν, f_X12_hasRow (xA μ 2 n) ν = some (1, ν) := by
    intro ν
    unfold f_X12_hasRow f_X12_hasRow_b21
    rw [hk]
    rfl
  unfold f_X12_nextChild f_X12_nextChild_b73 f_X12_nextChild_b99 f_X12_nextChild_b102
  rw [h1, h2, h3, gdn hv (by omega), gdn hv (by omega), gdn hv (by omega), hc, bd_of, gd3200 hn0 hn1, if_pos hk, if_pos rfl, if_neg (by decide), gd3200 hn0 hn1, if_neg (by rw [hk]; decide), gdn hv (by omega), gd3200 hn0 hn1, hh, bd_of, if_neg (by decide), if_neg (by decide)]
  rfl
theorem nx_case {μ : S5} {v : Nat} {n i r : Int32} (hv : v < 3200) (hn0 : 0 ≤ n) (hn1 : n < 3200) (h : At μ v n i r) (hk : xA μ 2 n = 3) (hi : ¬ i = 0) (hr : r < 3200) : f_X12_nextChild (nI v) μ = some (r, if r < 0 then pA μ 29 (nI v) (i + 1) else pA (pA μ 29 (nI v) (i + 1)) 30 (nI v) (xA μ 5 r)) := by
  obtain ⟨h1, h2, h3⟩ := h
  have hc : f_X12_childAt n i r μ = some (r, μ) := by
    unfold f_X12_childAt f_X12_childAt_b109
    rw [gd3200 hn0 hn1, gd3200 hn0 hn1, hk, if_neg (by decide), if_neg (by decide), if_neg (by decide), if_pos rfl, if_pos rfl, if_neg hi, if_pos rfl]
  have hh : ∀ ν, f_X12_hasRow (xA μ 2 n) ν = some (1, ν) := by
    intro ν
    unfold f_X12_hasRow f_X12_hasRow_b21
    rw [hk]
    rfl
  unfold f_X12_nextChild f_X12_nextChild_b73 f_X12_nextChild_b99 f_X12_nextChild_b102
  rw [h1, h2, h3, gdn hv (by omega), gdn hv (by omega), gdn hv (by omega), hc, bd_of, gd3200 hn0 hn1, if_pos hk, if_neg hi, if_pos rfl, gdn hv (by omega), gd3200 hn0 hn1, hh, bd_of, if_neg (by decide), if_pos rfl]
  by_cases c : r < 0
  · rw [if_pos c, if_pos c]
  · rw [if_neg c, if_neg c, gd3200 (by grind) hr, gdn hv (by omega), xA_pA μ 29 5, if_neg (fun w => absurd w.1 (by decide))]
theorem nx_let {μ : S5} {v : Nat} {n i r : Int32} (hv : v < 3200) (hn0 : 0 ≤ n) (hn1 : n < 3200) (h : At μ v n i r) (hk : xA μ 2 n = 0) (hr0 : 0 ≤ r) (hr : r < 3200) : f_X12_nextChild (nI v) μ = some (r, pA (pA μ 29 (nI v) (i + 1)) 30 (nI v) (xA μ 5 r)) := by
  obtain ⟨h1, h2, h3⟩ := h
  have hc : f_X12_childAt n i r μ = some (r, μ) := by
    unfold f_X12_childAt f_X12_childAt_b108 f_X12_childAt_b109
    rw [gd3200 hn0 hn1, gd3200 hn0 hn1, hk, if_pos rfl, if_neg (by decide), if_pos hr0, if_pos rfl]
  have hh : ∀ ν, f_X12_hasRow (xA μ 2 n) ν = some (1, ν) := by
    intro ν
    unfold f_X12_hasRow f_X12_hasRow_b21
    rw [hk]
    rfl
  unfold f_X12_nextChild f_X12_nextChild_b72 f_X12_nextChild_b73 f_X12_nextChild_b99 f_X12_nextChild_b102
  rw [h1, h2, h3, gdn hv (by omega), gdn hv (by omega), gdn hv (by omega), hc, bd_of, gd3200 hn0 hn1, if_neg (by rw [hk]; decide), gd3200 hn0 hn1, if_pos hk, if_pos hr0, if_pos rfl, gdn hv (by omega), gd3200 hn0 hn1, hh, bd_of, if_neg (by decide), if_pos rfl, if_neg (by grind), gd3200 hr0 hr, gdn hv (by omega), xA_pA μ 29 5, if_neg (fun w => absurd w.1 (by decide))]
theorem nx_letB {μ : S5} {v : Nat} {n i r : Int32} (hv : v < 3200) (hn0 : 0 ≤ n) (hn1 : n < 3200) (h : At μ v n i r) (hk : xA μ 2 n = 0) (hr0 : r < 0) : f_X12_nextChild (nI v) μ = some (if 100 ≤ i then r else xA μ 7 n, pA μ 29 (nI v) 100) := by
  obtain ⟨h1, h2, h3⟩ := h
  have hc : f_X12_childAt n i r μ = some (if 100 ≤ i then r else xA μ 7 n, μ) := by
    unfold f_X12_childAt f_X12_childAt_b108 f_X12_childAt_b109
    rw [gd3200 hn0 hn1, gd3200 hn0 hn1, hk, if_pos rfl, if_neg (by decide), if_neg (by grind)]
    by_cases hi : 100 ≤ i
    · rw [if_pos hi, if_pos hi, if_pos rfl]
    · rw [if_neg hi, if_neg hi, if_neg (by decide), gd3200 hn0 hn1]
  have hh : ∀ ν, f_X12_hasRow (xA μ 2 n) ν = some (1, ν) := by
    intro ν
    unfold f_X12_hasRow f_X12_hasRow_b21
    rw [hk]
    rfl
  unfold f_X12_nextChild f_X12_nextChild_b72 f_X12_nextChild_b73 f_X12_nextChild_b102
  rw [h1, h2, h3, gdn hv (by omega), gdn hv (by omega), gdn hv (by omega), hc, bd_of, gd3200 hn0 hn1, if_neg (by rw [hk]; decide), gd3200 hn0 hn1, if_pos hk, if_neg (by grind), if_neg (by decide), gd3200 hn0 hn1, if_pos hk, gdn hv (by omega), gd3200 hn0 hn1, hh, bd_of, if_neg (by decide), if_neg (by decide)]
