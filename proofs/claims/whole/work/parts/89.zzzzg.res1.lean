/-- where a name stands among a scope's -/
def vi (b : Int32 → Int64) (h : Int32) (z : Int64) : Nat → Nat → Int32
  | 0, _ => -1
  | d + 1, k => if b (h * 5 + nI k) = z then h * 5 + nI k else vi b h z d (k + 1)
/-- where a name stands among the names in sight -/
def fd (n p : Int32 → Int32) (b : Int32 → Int64) (z : Int64) : Nat → Int32 → Int32
  | 0, _ => -1
  | m + 1, h => if h = -1 then -1 else if vi b h z (n h).toNatClampNeg 0 = -1 then fd n p b z m (p h) else vi b h z (n h).toNatClampNeg 0
/-- where a name stands at the top -/
def tp (b : Int32 → Int64) (z : Int64) : Nat → Nat → Int32
  | 0, _ => -1
  | d + 1, i => if b (nI i) = z then nI i else tp b z d (i + 1)
theorem vi_go {σ : S5} {s : Int32} {j : Nat} {z : Int64} (h0 : 0 ≤ s) (h1 : s < 700) (hj : xA σ 20 s = nI j) (hj5 : j ≤ 5) : ∀ (d k m : Nat), k + d = j → d < m → f_X6_variableIn_L3 m s z (nI k) σ = some (vi (xB σ 3) s z d k, σ) := by
  intro d
  induction d with
  | zero =>
    intro k m hk hm
    obtain ⟨m, rfl⟩ : ∃ m', m = m' + 1 := ⟨m - 1, by omega⟩
    show f_X6_variableIn_B3 _ _ _ _ _ = _
    unfold f_X6_variableIn_B3 vi
    rw [gd700 h0 h1, hj, if_pos ((nI_le31 (by omega) (by omega)).mpr (by omega))]
  | succ d ih =>
    intro k m hk hm
    obtain ⟨m, rfl⟩ : ∃ m', m = m' + 1 := ⟨m - 1, by omega⟩
    have hc : ¬ nI j ≤ nI k := fun w => by have := (nI_le31 (by omega) (by omega)).mp w; omega
    have hrg := s5_rg (i := k) h0 h1 (by omega)
    show f_X6_variableIn_B3 _ _ _ _ _ = _
    unfold f_X6_variableIn_B3 vi
    rw [gd700 h0 h1, hj, if_neg hc, gd3500 hrg.1 hrg.2, nI_add1, ih (k + 1) m (by omega) (by omega)]
    by_cases he : xB σ 3 (s * 5 + nI k) = z
    · rw [if_pos he, if_pos ((lg_cmp_eq _ _).mpr he)]
    · rw [if_neg he, if_neg (fun w => he ((lg_cmp_eq _ _).mp w))]
theorem fd_go {σ : S5} (hD : DN σ) {S : Int32} (hS : S ≤ 630) (hG : ∀ x, 0 ≤ x → x < S → xA σ 21 x = -1 ∨ (0 ≤ xA σ 21 x ∧ xA σ 21 x < x)) (z : Int64) : ∀ (m : Nat) (h : Int32) (v fuel : Nat), h = -1 ∨ (0 ≤ h ∧ h < S ∧ h.toNatClampNeg + 1 < m) → 1 ≤ m → v + m ≤ 701 → m < fuel → f_X6_find_L6 fuel z h (nI v) σ = some (fd (xA σ 20) (xA σ 21) (xB σ 3) z m h, σ) := by
  intro m
  induction m with
  | zero => intro h v fuel _ h1; exact absurd h1 (by omega)
  | succ m ih =>
    intro h v fuel hh _ hv hf
    obtain ⟨fuel, rfl⟩ : ∃ f', fuel = f' + 1 := ⟨fuel - 1, by omega⟩
    have hB : f_X6_find_L6 (fuel + 1) z h (nI v) σ = if 700 ≤ nI v then some (-1, σ) else if h = -1 then some (-1, σ) else bd (f_X6_variableIn h z σ) (fun r24 τ24 => if r24 = (-1) then (gd h 700 <| f_X6_find_L6 fuel z (xA τ24 21 h) (nI v + 1) τ24) else some (r24, τ24)) := rfl
    rw [hB]
    rcases hh with hh | ⟨h0, h1, h2⟩
    · unfold fd
      rw [if_pos hh, if_pos hh, ite_self]
    · have hv7 : ¬ (700 : Int32) ≤ nI v := fun w => by have := (nI_le31 (a := 700) (by omega) (by omega)).mp w; omega
      have hne : ¬ h = -1 := by grind
      obtain ⟨j, j5, hj, _⟩ := hD h h0 (by grind)
      have hbig := FU_big (n := 30000) (by decide)
      have hvi : f_X6_variableIn h z σ = some (vi (xB σ 3) h z (xA σ 20 h).toNatClampNeg 0, σ) := by
        rw [hj, nI_clamp (by omega)]
        exact vi_go (z := z) h0 (by grind) hj j5 j 0 FU (by omega) (by omega)
      rw [if_neg hv7, if_neg hne, hvi, bd_of]
      unfold fd
      rw [if_neg hne]
      by_cases hr : vi (xB σ 3) h z (xA σ 20 h).toNatClampNeg 0 = -1
      · rw [if_pos hr, if_pos hr, gd700 h0 (by grind), nI_add1]
        refine ih _ _ _ ?_ (by omega) (by omega) (by omega)
        rcases hG h h0 h1 with w | ⟨w1, w2⟩
        · exact Or.inl w
        · exact Or.inr ⟨w1, by grind, by have := i_lt (a := xA σ 21 h) (n := h) (fun w => by grind) w2; omega⟩
      · rw [if_neg hr, if_neg hr]
theorem tp_go {σ : S5} {k : Nat} (hk : k ≤ 30) (h5 : gI σ 5 = nI k) (z : Int64) : ∀ (d i m : Nat), i + d = k → d < m → f_X4_topOf_L2 m z (nI i) σ = some (tp (xB σ 1) z d i, σ) := by
  intro d
  induction d with
  | zero =>
    intro i m hi hm
    obtain ⟨m, rfl⟩ : ∃ m', m = m' + 1 := ⟨m - 1, by omega⟩
    show f_X4_topOf_B2 _ _ _ _ = _
    unfold f_X4_topOf_B2 tp
    rw [h5, if_pos ((nI_le31 (by omega) (by omega)).mpr (by omega))]
  | succ d ih =>
    intro i m hi hm
    obtain ⟨m, rfl⟩ : ∃ m', m = m' + 1 := ⟨m - 1, by omega⟩
    have hc : ¬ nI k ≤ nI i := fun w => by have := (nI_le31 (by omega) (by omega)).mp w; omega
    show f_X4_topOf_B2 _ _ _ _ = _
    unfold f_X4_topOf_B2 tp
    rw [h5, if_neg hc, gdn (by omega) (by omega), nI_add1, ih (i + 1) m (by omega) (by omega)]
    by_cases he : xB σ 1 (nI i) = z
    · rw [if_pos he, if_pos ((lg_cmp_eq _ _).mpr he)]
    · rw [if_neg he, if_neg (fun w => he ((lg_cmp_eq _ _).mp w))]
/-- the reference looks among the functions at the top -/
theorem tp_M {σ μ : S5} {n : Int32} {z : Int64} {k : Nat} (hk : k ≤ 30) (h13 : gI μ 13 = nI k) (hn0 : 0 ≤ n) (hn1 : n < 3200) (hz : xB μ 0 n = z) (hb : ∀ i, i < k → xB σ 1 (nI i) = xB μ 2 (nI i)) : ∀ (d i m : Nat), i + d = k → d < m → ∃ r : Nat, r ≤ k ∧ f_X12_use_L103 m n (nI i) μ = f_X12_use_b133 n (nI r) μ ∧ tp (xB σ 1) z d i = if r = k then -1 else nI r := by
  intro d
  induction d with
  | zero =>
    intro i m hi hm
    obtain ⟨m, rfl⟩ : ∃ m', m = m' + 1 := ⟨m - 1, by omega⟩
    refine ⟨i, by omega, ?_, ?_⟩
    · show f_X12_use_B103 _ _ _ _ = _
      unfold f_X12_use_B103
      rw [h13, if_pos ((nI_le31 (by omega) (by omega)).mpr (by omega))]
    · rw [if_pos (by omega)]
      rfl
  | succ d ih =>
    intro i m hi hm
    obtain ⟨m, rfl⟩ : ∃ m', m = m' + 1 := ⟨m - 1, by omega⟩
    have hc : ¬ nI k ≤ nI i := fun w => by have := (nI_le31 (by omega) (by omega)).mp w; omega
    have hB : f_X12_use_L103 (m + 1) n (nI i) μ = if lg_cmp (xB σ 1 (nI i)) z = 0 then f_X12_use_b133 n (nI i) μ else f_X12_use_L103 m n (nI (i + 1)) μ := by
      show f_X12_use_B103 _ _ _ _ = _
      unfold f_X12_use_B103
      rw [h13, if_neg hc, gdn (by omega) (by omega), gd3200 hn0 hn1, ← hb i (by omega), hz, nI_add1]
    rw [hB]
    unfold tp
    by_cases he : xB σ 1 (nI i) = z
    · exact ⟨i, by omega, by rw [if_pos ((lg_cmp_eq _ _).mpr he)], by rw [if_pos he, if_neg (by omega)]⟩
    · obtain ⟨r, r1, r2, r3⟩ := ih (i + 1) m (by omega) (by omega)
      exact ⟨r, r1, by rw [if_neg (fun w => he ((lg_cmp_eq _ _).mp w))]; exact r2, by rw [if_neg he]; exact r3⟩
