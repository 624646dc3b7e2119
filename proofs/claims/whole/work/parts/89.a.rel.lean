/-- a sign that a text may hold -/
def okS (z : Int32) : Prop := z = 10 ∨ (32 ≤ z ∧ z ≤ 126)
def RT (σ μ : S5) : Prop := gI σ 0 = gI μ 1 ∧ 0 ≤ gI σ 0 ∧ gI σ 0 ≤ 3000 ∧ ∀ i : Nat, i < (gI σ 0).toNatClampNeg → gA σ 0 i = gA μ 0 i ∧ okS (gA μ 0 i)
def RO (σ μ : S5) : Prop := gI σ 66 = gI μ 2 ∧ 0 ≤ gI σ 66 ∧ gI σ 66 ≤ 12000 ∧ ∀ i : Nat, i < (gI σ 66).toNatClampNeg → gA σ 50 i = gA μ 1 i ∧ okS (gA μ 1 i)
def RF (σ μ : S5) : Prop := gI σ 61 = gI μ 30 ∧ gI σ 62 = gI μ 31 ∧ gI σ 63 = gI μ 12 ∧ gI σ 64 = gI μ 36 ∧ gI σ 65 = gI μ 35
/-- the numbers of the program that stands -/
def RP (σ μ : S5) : Prop := gI σ 6 = gI μ 22 ∧ 0 ≤ gI σ 6 ∧ gI σ 6 ≤ 630 ∧ gI σ 4 = gI μ 14 ∧ gI σ 13 = gI μ 11 ∧ ∀ f : Nat, f < (gI σ 6).toNatClampNeg → gA σ 3 f = gA μ 47 f ∧ 0 ≤ gA σ 3 f ∧ gA σ 3 f ≤ 8 ∧ gA σ 4 f = gA μ 20 f ∧ gA σ 6 f = gA μ 46 f
def RS (σ μ : S5) : Prop := (gI σ 60 = 0 ∨ gI σ 60 = 1) ∧ gI σ 60 = gI μ 29 ∧ (gI σ 60 = 1 → RP σ μ)
/-- the numbers of the last run -/
def RR (σ μ : S5) : Prop := gA σ 40 0 = gI μ 44 ∧ gA σ 40 1 = gI μ 45 ∧ gA σ 40 2 = gI μ 38 ∧ gA σ 40 3 = gI μ 34 ∧ gA σ 40 4 = gI μ 39 ∧ gA σ 40 5 = gI μ 40 ∧ gA σ 40 6 = gI μ 41 ∧ gA σ 40 7 = gI μ 42 ∧ gA σ 40 8 = gI μ 43 ∧ gA σ 40 9 = gI μ 46 ∧ 0 ≤ gI μ 46 ∧ gI μ 46 ≤ 1000 ∧ (∀ i : Nat, i < (gI μ 46).toNatClampNeg → gA σ 42 i = gA μ 58 i) ∧ ∀ f : Nat, f < 630 → gA σ 41 f = gA μ 57 f
def RA (σ μ : S5) : Prop := RT σ μ ∧ RO σ μ ∧ RF σ μ ∧ RS σ μ ∧ RR σ μ
/-- the same but for the text and the law's own number -/
def eqC (σ τ : S5) : Prop := (∀ k : Nat, k ≠ 0 → k ≠ 1 → τ.1 k = σ.1 k) ∧ τ.2.1 = σ.2.1 ∧ (∀ k : Nat, k ≠ 0 → τ.2.2.1 k = σ.2.2.1 k) ∧ (∀ k : Nat, k ≠ 30 → τ.2.2.2.1 k = σ.2.2.2.1 k) ∧ τ.2.2.2.2 = σ.2.2.2.2
def eqM (μ ν : S5) : Prop := (∀ k : Nat, k ≠ 0 → k ≠ 1 → ν.1 k = μ.1 k) ∧ ν.2.1 = μ.2.1 ∧ (∀ k : Nat, k ≠ 0 → ν.2.2.1 k = μ.2.2.1 k) ∧ ν.2.2.2.1 = μ.2.2.2.1 ∧ ν.2.2.2.2 = μ.2.2.2.2
theorem eqC.rf (σ : S5) : eqC σ σ := ⟨fun _ _ _ => rfl, rfl, fun _ _ => rfl, fun _ _ => rfl, rfl⟩
theorem eqM.rf (σ : S5) : eqM σ σ := ⟨fun _ _ _ => rfl, rfl, fun _ _ => rfl, rfl, rfl⟩
theorem beq_ne {k n : Nat} (h : k ≠ n) : Nat.beq k n = false := by
  cases hb : Nat.beq k n with
  | false => rfl
  | true => exact absurd (Nat.eq_of_beq_eq_true hb) h
theorem eqC.out (σ : S5) (i : Int32) (v : Int64) : eqC σ (pB σ 30 i v) := ⟨fun _ _ _ => rfl, rfl, fun _ _ => rfl, fun k hk => by show cond (Nat.beq k 30) _ _ = _; rw [beq_ne hk]; rfl, rfl⟩
theorem eqM.thr (μ : S5) (v : Int32) : eqM μ (pI μ 0 v) := ⟨fun k hk _ => by show cond (Nat.beq k 0) _ _ = _; rw [beq_ne hk]; rfl, rfl, fun _ _ => rfl, rfl, rfl⟩
/-- a call that answers alike -/
def E1 (x y : Option (Int32 × S5)) (σ μ : S5) : Prop := ∃ (kx rm : Int32) (τ μ1 : S5), x = some (kx, τ) ∧ y = some (rm, μ1) ∧ gI μ1 0 = kx ∧ (kx = 0 → gB τ 30 (0 : Int32).toNatClampNeg = (rm).toInt64) ∧ RA τ μ1 ∧ eqC σ τ ∧ eqM μ μ1
theorem out_at (σ : S5) (v : Int64) : gB (pB σ 30 0 v) 30 (0 : Int32).toNatClampNeg = v := by
  show vp_updL (σ.2.2.2.1 30) (0 : Int32).toNatClampNeg v (0 : Int32).toNatClampNeg = v
  simp [vp_updL]
theorem E1_ok {x y : Option (Int32 × S5)} {σ μ : S5} (v : Int32) (hx : x = some (0, pB σ 30 0 v.toInt64)) (hy : y = some (v, pI μ 0 0)) (h : RA σ μ) : E1 x y σ μ :=
  ⟨0, v, _, _, hx, hy, rfl, fun _ => out_at σ _, h, eqC.out σ _ _, eqM.thr μ _⟩
theorem E1_no {x y : Option (Int32 × S5)} {σ μ : S5} (k v : Int32) (hk : ¬ k = 0) (hx : x = some (k, σ)) (hy : y = some (v, pI μ 0 k)) (h : RA σ μ) : E1 x y σ μ :=
  ⟨k, v, _, _, hx, hy, rfl, fun q => absurd q hk, h, eqC.rf σ, eqM.thr μ _⟩
theorem i_lt {a n : Int32} (h0 : ¬ a < 0) (h : a < n) : a.toNatClampNeg < n.toNatClampNeg := by
  rw [Int32.lt_iff_toInt_lt] at h0 h
  rw [show (0 : Int32).toInt = 0 from rfl] at h0
  show a.toInt.toNat < n.toInt.toNat
  omega
theorem i_le {a n : Int32} (h : a ≤ n) : a.toNatClampNeg ≤ n.toNatClampNeg := by
  rw [Int32.le_iff_toInt_le] at h
  show a.toInt.toNat ≤ n.toInt.toNat
  omega
theorem gd_in {β : Type} {a : Int32} {n : Nat} {x : Option β} (h0 : ¬ a < 0) (h : a.toNatClampNeg < n) : gd a n x = x := by
  unfold gd
  rw [if_neg (fun q => q.elim h0 (fun q => Nat.not_lt.mpr q h))]
theorem e_fault {σ μ : S5} (a : Int32) (h : RA σ μ) : E1 (h_L_fault a σ) (f_X12_fault a μ) σ μ := by
  have h1 := h.2.2.1.1
  have h2 := h.2.2.1.2.1
  by_cases c1 : a < 0
  · exact E1_no 1 0 (by decide) (by simp [h_L_fault, f_X11_fault, bd, c1]) (by simp [f_X12_fault, f_X12_fault_b10, f_X12_fault_b15, c1]) h
  by_cases c2 : a ≤ 1
  · by_cases c3 : a = 0
    · exact E1_ok (gI μ 30) (by simp [h_L_fault, f_X11_fault, bd, c3, h1]) (by simp [f_X12_fault, f_X12_fault_b15, c3]) h
    · exact E1_ok (gI μ 31) (by simp [h_L_fault, f_X11_fault, bd, c1, c2, c3, h2]) (by simp [f_X12_fault, f_X12_fault_b15, c1, c2, c3]) h
  · exact E1_no 1 0 (by decide) (by simp [h_L_fault, f_X11_fault, bd, c1, c2]) (by simp [f_X12_fault, f_X12_fault_b10, f_X12_fault_b15, c1, c2]) h
theorem nle_lt {a b : Int32} (h : ¬ a ≤ b) : b < a := by
  rw [Int32.le_iff_toInt_le] at h
  rw [Int32.lt_iff_toInt_lt]
  omega
theorem not_neg {a : Int32} (h : 0 ≤ a) : ¬ a < 0 := by
  rw [Int32.le_iff_toInt_le] at h
  rw [Int32.lt_iff_toInt_lt]
  omega
theorem e_letter {σ μ : S5} (a : Int32) (h : RA σ μ) : E1 (h_L_letter a σ) (f_X12_letter a μ) σ μ := by
  obtain ⟨h1, h2, h3, h4⟩ := h.2.1
  by_cases c1 : 0 ≤ a
  · have c2 := not_neg c1
    by_cases c3 : gI σ 66 ≤ a
    · have c4 : gI μ 2 ≤ a := h1 ▸ c3
      exact E1_ok (-1) (by simp [h_L_letter, f_X11_letter, f_X8_signAt_out_F, bd, c1, c2, c3]) (by simp [f_X12_letter, f_X12_letter_b10, c1, c4]) h
    · have c4 : ¬ gI μ 2 ≤ a := h1 ▸ c3
      have c5 := i_lt c2 (nle_lt c3)
      have c6 : a.toNatClampNeg < 12000 := Nat.lt_of_lt_of_le c5 (i_le h3)
      have c7 : xA σ 50 a = xA μ 1 a := (h4 _ c5).1
      exact E1_ok (xA μ 1 a) (by simp [h_L_letter, f_X11_letter, f_X8_signAt_out_F, bd, c1, c2, c3, gd_in c2 c6, c7]) (by simp [f_X12_letter, f_X12_letter_b10, c1, c4, gd_in c2 c6]) h
  · exact E1_no 1 0 (by decide) (by simp [h_L_letter, f_X11_letter, bd, c1]) (by simp [f_X12_letter, f_X12_letter_b10, c1]) h
theorem e_number {σ μ : S5} (a : Int32) (h : RA σ μ) : E1 (h_L_number a σ) (f_X12_number a μ) σ μ := by
  obtain ⟨-, -, -, -, -, -, -, -, -, h1, h2, h3, h4, -⟩ := h.2.2.2.2
  have h9 : xA σ 40 9 = gI μ 46 := h1
  by_cases c1 : a < 0
  · exact E1_no 1 0 (by decide) (by simp [h_L_number, f_X11_number, bd, c1]) (by simp [f_X12_number, f_X12_number_b13, f_X12_number_b18, c1]) h
  by_cases c2 : a < gI μ 46
  · have c5 := i_lt c1 c2
    have c6 : a.toNatClampNeg < 1000 := Nat.lt_of_lt_of_le c5 (i_le h3)
    have c7 : xA σ 42 a = xA μ 58 a := h4 _ c5
    exact E1_ok (xA μ 58 a) (by simp [h_L_number, f_X11_number, bd, c1, c2, h9, gd_in c1 c6, c7]) (by simp [f_X12_number, f_X12_number_b18, c1, c2, gd_in c1 c6]) h
  · exact E1_no 1 0 (by decide) (by simp [h_L_number, f_X11_number, bd, c1, c2, h9]) (by simp [f_X12_number, f_X12_number_b13, f_X12_number_b18, c1, c2]) h
theorem e_about {σ μ : S5} (a : Int32) (h : RA σ μ) : E1 (h_L_about a σ) (f_X12_about a μ) σ μ := by
  obtain ⟨t1, -, -, -⟩ := h.1
  obtain ⟨o1, -, -, -⟩ := h.2.1
  obtain ⟨-, -, -, f4, f5⟩ := h.2.2.1
  obtain ⟨s1, s2, s3⟩ := h.2.2.2.1
  by_cases k0 : a = 0
  · subst k0
    rcases s1 with s1 | s1
    · exact E1_ok 0 (by simp [h_L_about, f_X11_about, bd, s1]) (by simp [f_X12_about, f_X12_about_b16, ← s2, s1]) h
    · exact E1_ok (gI μ 22) (by simp [h_L_about, f_X11_about, bd, s1, (s3 s1).1]) (by simp [f_X12_about, f_X12_about_b16, ← s2, s1]) h
  by_cases k1 : a = 1
  · subst k1
    rcases s1 with s1 | s1
    · exact E1_ok 0 (by simp [h_L_about, f_X11_about, bd, s1]) (by simp [f_X12_about, f_X12_about_b16, ← s2, s1]) h
    · exact E1_ok (gI μ 14) (by simp [h_L_about, f_X11_about, bd, s1, (s3 s1).2.2.2.1]) (by simp [f_X12_about, f_X12_about_b16, ← s2, s1]) h
  by_cases k2 : a = 2
  · subst k2
    rcases s1 with s1 | s1
    · exact E1_ok 0 (by simp [h_L_about, f_X11_about, bd, s1]) (by simp [f_X12_about, f_X12_about_b16, ← s2, s1]) h
    · exact E1_ok (gI μ 11) (by simp [h_L_about, f_X11_about, bd, s1, (s3 s1).2.2.2.2.1]) (by simp [f_X12_about, f_X12_about_b16, ← s2, s1]) h
  by_cases k3 : a = 3
  · subst k3
    exact E1_ok (gI μ 1) (by simp [h_L_about, f_X11_about, bd, t1]) (by simp [f_X12_about, f_X12_about_b16]) h
  by_cases k4 : a = 4
  · subst k4
    exact E1_ok (gI μ 2) (by simp [h_L_about, f_X11_about, bd, o1]) (by simp [f_X12_about, f_X12_about_b16]) h
  by_cases k5 : a = 5
  · subst k5
    exact E1_ok (gI μ 36) (by simp [h_L_about, f_X11_about, bd, f4]) (by simp [f_X12_about, f_X12_about_b16]) h
  by_cases k6 : a = 6
  · subst k6
    exact E1_ok (gI μ 35) (by simp [h_L_about, f_X11_about, bd, f5]) (by simp [f_X12_about, f_X12_about_b16]) h
  refine E1_no 1 0 (by decide) (by simp [h_L_about, f_X11_about, bd, k0, k1, k2, k3, k4, k5, k6]) ?_ h
  by_cases c1 : a < 0
  · simp [f_X12_about, f_X12_about_b11, f_X12_about_b16, c1, k0, k1, k2, k3, k4, k5, k6]
  by_cases c2 : a ≤ 6
  · exfalso
    rw [Int32.lt_iff_toInt_lt] at c1
    rw [Int32.le_iff_toInt_le] at c2
    rw [show (0 : Int32).toInt = 0 from rfl] at c1
    rw [show (6 : Int32).toInt = 6 from rfl] at c2
    rcases (show a.toInt = 0 ∨ a.toInt = 1 ∨ a.toInt = 2 ∨ a.toInt = 3 ∨ a.toInt = 4 ∨ a.toInt = 5 ∨ a.toInt = 6 by omega) with e | e | e | e | e | e | e
    · exact k0 (Int32.toInt_inj.mp e)
    · exact k1 (Int32.toInt_inj.mp e)
    · exact k2 (Int32.toInt_inj.mp e)
    · exact k3 (Int32.toInt_inj.mp e)
    · exact k4 (Int32.toInt_inj.mp e)
    · exact k5 (Int32.toInt_inj.mp e)
    · exact k6 (Int32.toInt_inj.mp e)
  · simp [f_X12_about, f_X12_about_b11, f_X12_about_b16, c1, c2, k0, k1, k2, k3, k4, k5, k6]
