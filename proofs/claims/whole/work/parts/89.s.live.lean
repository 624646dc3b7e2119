theorem Ct_eq {σ σ' μ μ' : S5} (h : Ct σ μ) (h1 : EqE σ σ') (h2 : EqR μ μ') : Ct σ' μ' := by
  have e1 : gI σ' 4 = gI σ 4 := h1.1 4 (by decide)
  have e2 : gI μ' 14 = gI μ 14 := h2.1 14 (by decide)
  have e3 : ∀ i, xB σ' 0 i = xB σ 0 i := fun i => congrFun (h1.2.2.2.1 0 (by decide)) _
  have e4 : ∀ i, xB μ' 3 i = xB μ 3 i := fun i => congrFun (h2.2.2.2.1 3 (by decide)) _
  have e5 : ∀ i, xA σ' 2 i = xA σ 2 i := fun i => congrFun (h1.2.2.1 2 (by decide)) _
  have e6 : ∀ i, xA μ' 13 i = xA μ 13 i := fun i => congrFun (h2.2.2.1 13 (by decide)) _
  obtain ⟨a1, a2, a3, a4⟩ := h
  refine ⟨by rw [e1, e2]; exact a1, by rw [e1]; exact a2, by rw [e1]; exact a3, fun i q1 q2 => ?_⟩
  rw [e3, e4, e5, e6]
  exact a4 i q1 (by rw [← e1]; exact q2)
/-- a number of a state as an integer -/
def iv (σ : S5) (k : Nat) : Int := (gI σ k).toInt
theorem iv_eq {σ τ : S5} {k j : Nat} (h : gI τ k = gI σ j) : iv τ k = iv σ j := congrArg Int32.toInt h
theorem ti_a1 {a : Int32} (h0 : 0 ≤ a) (h1 : a ≤ 10000) : (a + 1).toInt = a.toInt + 1 := by
  rw [Int32.le_iff_toInt_le] at h0 h1
  rw [show (0 : Int32).toInt = 0 from rfl] at h0
  rw [show (10000 : Int32).toInt = 10000 from rfl] at h1
  rw [Int32.toInt_add, show (1 : Int32).toInt = 1 from rfl]
  exact Int.bmod_eq_of_le (by omega) (by omega)
theorem ti_s1 {a : Int32} (h0 : 0 ≤ a) (h1 : a ≤ 10000) : (a - 1).toInt = a.toInt - 1 := by
  rw [Int32.le_iff_toInt_le] at h0 h1
  rw [show (0 : Int32).toInt = 0 from rfl] at h0
  rw [show (10000 : Int32).toInt = 10000 from rfl] at h1
  rw [Int32.toInt_sub, show (1 : Int32).toInt = 1 from rfl]
  exact Int.bmod_eq_of_le (by omega) (by omega)
theorem iv_a1 {σ τ : S5} {k j : Nat} (h : gI τ k = gI σ j + 1) (h0 : 0 ≤ gI σ j) (h1 : gI σ j ≤ 10000) : iv τ k = iv σ j + 1 := by
  unfold iv
  rw [h, ti_a1 h0 h1]
theorem iv_s1 {σ τ : S5} {k j : Nat} (h : gI τ k = gI σ j - 1) (h0 : 0 ≤ gI σ j) (h1 : gI σ j ≤ 10000) : iv τ k = iv σ j - 1 := by
  unfold iv
  rw [h, ti_s1 h0 h1]
theorem iv_le {σ τ : S5} {k j : Nat} (h : gI σ k ≤ gI τ j) : iv σ k ≤ iv τ j := Int32.le_iff_toInt_le.mp h
theorem iv_lt {σ τ : S5} {k j : Nat} (h : gI σ k < gI τ j) : iv σ k < iv τ j := Int32.lt_iff_toInt_lt.mp h
theorem iv_0 {σ : S5} {k : Nat} (h : 0 ≤ gI σ k) : 0 ≤ iv σ k := Int32.le_iff_toInt_le.mp h
theorem iv_to {σ : S5} {k : Nat} {b : Int32} (h : iv σ k ≤ b.toInt) : gI σ k ≤ b := Int32.le_iff_toInt_le.mpr h
theorem iv_tt {σ τ : S5} {k j : Nat} (h : iv σ k ≤ iv τ j) : gI σ k ≤ gI τ j := Int32.le_iff_toInt_le.mpr h
theorem iv_fr {σ : S5} {k : Nat} {b : Int32} (h : gI σ k ≤ b) : iv σ k ≤ b.toInt := Int32.le_iff_toInt_le.mp h
/-- how the numbers are bound by each other -/
def Bm (σ μ : S5) : Prop := iv σ 8 ≤ 2 * iv σ 18 ∧ iv σ 9 ≤ iv σ 5 + iv σ 13 ∧ iv σ 10 ≤ iv σ 13 ∧ 2 * iv μ 9 ≤ 2 * iv σ 13 + iv σ 18 ∧ iv μ 10 ≤ iv σ 18
/-- numbers within their bounds -/
def Bg (σ μ : S5) : Prop := gI σ 11 = 0 ∧ gI μ 7 = 0 ∧ gI σ 13 = gI μ 11 ∧ 0 ≤ gI σ 13 ∧ gI σ 13 ≤ 600 ∧ gI σ 14 = gI μ 15 ∧ 0 ≤ gI σ 14 ∧ gI σ 14 ≤ 30 ∧ 0 ≤ gI σ 8 ∧ gI σ 8 ≤ 6000 ∧ 0 ≤ gI σ 9 ∧ gI σ 9 ≤ 630 ∧ 0 ≤ gI σ 5 ∧ gI σ 5 ≤ 30 ∧ 0 ≤ gI σ 10 ∧ gI σ 10 ≤ gI σ 13 ∧ 0 ≤ gI μ 9 ∧ gI μ 9 ≤ 2100 ∧ 0 ≤ gI μ 10 ∧ gI μ 10 ≤ gI σ 18 ∧ 0 ≤ gI σ 15 ∧ gI σ 15 < gI σ 9 ∧ Bm σ μ
theorem Bg_mk {σ μ : S5} (b1 : gI σ 11 = 0) (b2 : gI μ 7 = 0) (b3 : gI σ 13 = gI μ 11) (b4 : 0 ≤ gI σ 13) (b5 : gI σ 13 ≤ 600) (b6 : gI σ 14 = gI μ 15) (b7 : 0 ≤ gI σ 14) (b8 : gI σ 14 ≤ 30) (b9 : 0 ≤ gI σ 8) (b11 : 0 ≤ gI σ 9) (b13 : 0 ≤ gI σ 5) (b14 : gI σ 5 ≤ 30) (b15 : 0 ≤ gI σ 10) (b17 : 0 ≤ gI μ 9) (b19 : 0 ≤ gI μ 10) (b21 : 0 ≤ gI σ 15) (b22 : gI σ 15 < gI σ 9) (hp : gI σ 18 ≤ 3000) (hm : Bm σ μ) : Bg σ μ := by
  have hp' := iv_fr hp
  have h13 := iv_fr b5
  have h5 := iv_fr b14
  have e1 : (3000 : Int32).toInt = 3000 := rfl
  have e2 : (600 : Int32).toInt = 600 := rfl
  have e3 : (30 : Int32).toInt = 30 := rfl
  have e4 : (6000 : Int32).toInt = 6000 := rfl
  have e5 : (630 : Int32).toInt = 630 := rfl
  have e6 : (2100 : Int32).toInt = 2100 := rfl
  have hm' := hm
  obtain ⟨m1, m2, m3, m4, m5⟩ := hm'
  exact ⟨b1, b2, b3, b4, b5, b6, b7, b8, b9, iv_to (by omega), b11, iv_to (by omega), b13, b14, b15, iv_tt m3, b17, iv_to (by omega), b19, iv_tt m5, b21, b22, hm⟩
/-- the numbers grow, and not too much: e of the nodes and d of the scopes are left -/
def Gm (e d : Int) (σ σ' μ μ' : S5) : Prop := iv σ' 8 + e + 2 * iv σ 18 ≤ iv σ 8 + 2 * iv σ' 18 ∧ iv σ' 9 + d + iv σ 13 ≤ iv σ 9 + iv σ' 13 ∧ iv σ' 10 + iv σ 13 ≤ iv σ 10 + iv σ' 13 ∧ 2 * iv μ' 9 + 2 * iv σ 13 + iv σ 18 ≤ 2 * iv μ 9 + 2 * iv σ' 13 + iv σ' 18 ∧ iv μ' 10 + iv σ 18 ≤ iv μ 10 + iv σ' 18
theorem Gm.tr {e d e' d' : Int} {σ σ1 σ2 μ μ1 μ2 : S5} (h : Gm e d σ σ1 μ μ1) (h2 : Gm e' d' σ1 σ2 μ1 μ2) : Gm (e + e') (d + d') σ σ2 μ μ2 := by
  unfold Gm at *
  omega
theorem Gm.wk {e d e' d' : Int} {σ σ1 μ μ1 : S5} (h : Gm e d σ σ1 μ μ1) (h1 : e' ≤ e) (h2 : d' ≤ d) : Gm e' d' σ σ1 μ μ1 := by
  unfold Gm at *
  omega
theorem Bm.gr {e d : Int} {σ σ' μ μ' : S5} (h : Bm σ μ) (g : Gm e d σ σ' μ μ') (he : 0 ≤ e) (hd : 0 ≤ d) (h5 : gI σ' 5 = gI σ 5) : Bm σ' μ' := by
  have h5' := iv_eq h5
  unfold Bm Gm at *
  omega
def Sim (σ μ : S5) : Prop := Wd σ μ ∧ Ct σ μ ∧ Bg σ μ
theorem Sim.p3 {σ μ : S5} (h : Sim σ μ) : 0 ≤ gI σ 18 ∧ gI σ 18 ≤ 3000 := by
  obtain ⟨⟨h1, h2, h3, h4, h5, h6, h7, h8, h9, h10, h11⟩, _⟩ := h
  have := h1.2.2.1
  exact ⟨h6, by grind⟩
theorem Sim.rg {σ μ : S5} (h : Sim σ μ) : rg σ := by
  have hp := h.p3
  obtain ⟨hw, hc, hb⟩ := h
  unfold Bg at hb
  obtain ⟨c1, c2, c3, c4⟩ := hc
  exact ⟨by grind, by grind, by grind, by grind, by grind, by grind, c3, fun i q1 q2 => (c4 i q1 q2).2.2.2⟩
/-- the class stops at the word at hand -/
theorem c_ref {σ μ : S5} (h : Sim σ μ) {k : Int32} (hk : ¬ k = 0) : ∃ τ, f_X5_refuse k σ = some ((), τ) ∧ St k (gI σ 18) (gI σ 13) τ := by
  have hr := h.rg
  unfold f_X5_refuse f_X10_stop
  rw [if_pos h.2.2.1]
  exact ⟨_, rfl, rfl, hk, rfl, rfl, rfl, hr⟩
/-- may the word begin an atom, and which constructor is it? -/
def stdK (σ : S5) (r : Int32) : Prop := atK (gI σ 17) ∧ (gI σ 17 = 4 → 0 ≤ r ∧ r < gI σ 4 ∧ xA σ 2 r = 0) ∧ (gI σ 17 = 40 → gI σ 14 < 30)
/-- the fault of a word that may not -/
def badK (σ : S5) (r : Int32) : Int32 := if gI σ 17 = 4 ∧ r = -1 then 3 else 1
theorem c_stands {σ μ : S5} (h : Sim σ μ) {r : Int32} (hr : gI σ 17 = 4 → f_X4_constructorOf (gJ σ 0) σ = some (r, σ) ∧ (r = -1 ∨ (0 ≤ r ∧ r < gI σ 4))) : (stdK σ r ∧ f_X5_atomStands σ = some (1, σ)) ∨ (¬ stdK σ r ∧ ∃ τ, f_X5_atomStands σ = some (0, τ) ∧ St (badK σ r) (gI σ 18) (gI σ 13) τ) := by
  have hk := okK_ne h.1.2.2.2.1
  have hc := h.2.1
  unfold f_X5_atomStands f_X5_atomStands_b93 f_X5_atomStands_b56 f_X5_atomStands_b98 stdK badK atK
  by_cases c4 : gI σ 17 = 4
  · obtain ⟨e, hr⟩ := hr c4
    rw [if_pos c4, e, bd_of]
    by_cases c1 : r = -1
    · right
      obtain ⟨τ, e1, e2⟩ := c_ref h (k := 3) (by decide)
      rw [if_pos c1, e1, bd_of, if_pos e2.1]
      exact ⟨fun q => by have := (q.2.1 c4).1; rw [c1] at this; exact absurd this (by decide), τ, rfl, by rw [if_pos ⟨c4, c1⟩]; exact e2⟩
    · have hr2 : 0 ≤ r ∧ r < gI σ 4 := by rcases hr with hr | hr; exact absurd hr c1; exact hr
      have h4 := hc.2.2.2 r hr2.1 hr2.2
      rw [if_neg c1, gd30 hr2.1 (by have := hc.2.2.1; grind)]
      by_cases c2 : xA σ 2 r ≤ 0
      · left
        rw [if_pos c2, if_neg hk]
        exact ⟨⟨by grind, fun _ => ⟨hr2.1, hr2.2, by grind⟩, fun q => by rw [c4] at q; exact absurd q (by decide)⟩, rfl⟩
      · right
        obtain ⟨τ, e1, e2⟩ := c_ref h (k := 1) (by decide)
        rw [if_neg c2, e1, bd_of, if_pos e2.1]
        exact ⟨fun q => by have := (q.2.1 c4).2.2; grind, τ, rfl, by rw [if_neg (fun q => c1 q.2)]; exact e2⟩
  · rw [if_neg c4, c_isAtom, bd_of]
    obtain ⟨τ, e1, e2⟩ := c_ref h (k := 1) (by decide)
    by_cases c5 : gI σ 17 = 3 ∨ gI σ 17 = 4 ∨ gI σ 17 = 5 ∨ gI σ 17 = 11 ∨ gI σ 17 = 40
    · rw [if_pos c5, if_neg (by decide)]
      by_cases c6 : gI σ 17 = 40
      · rw [if_pos c6]
        by_cases c7 : gI σ 14 < 30
        · left
          rw [if_pos c7, if_neg hk]
          exact ⟨⟨c5, fun q => absurd q c4, fun _ => c7⟩, rfl⟩
        · right
          rw [if_neg c7, e1, bd_of, if_pos e2.1]
          exact ⟨fun q => c7 (q.2.2 c6), τ, rfl, by rw [if_neg (fun q => c4 q.1)]; exact e2⟩
      · left
        rw [if_neg c6, if_neg hk]
        exact ⟨⟨c5, fun q => absurd q c4, fun q => absurd q c6⟩, rfl⟩
    · right
      rw [if_neg c5, if_pos rfl, e1, bd_of, if_pos e2.1]
      exact ⟨fun q => c5 q.1, τ, rfl, by rw [if_neg (fun q => c4 q.1)]; exact e2⟩
