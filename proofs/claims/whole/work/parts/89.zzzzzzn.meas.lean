/-- the bits of a stretch of variables -/
def spn (a0 a1 : Int32) : Int64 := if 40 ≤ a0 then 0 else j_lshl (j_lshl 1 a1 - 1) a0
theorem span_eq (a0 a1 : Int32) (σ : S5) : f_X9_span a0 a1 σ = some (spn a0 a1, σ) := by
  unfold f_X9_span spn
  by_cases h : 40 ≤ a0
  · rw [if_pos h, if_pos h]
  · rw [if_neg h, if_neg h]
/-- measures of the first of a row of children: height, parts, what is used, what is bound -/
def mH (τ : S5) (cc : Nat → Int32) : Nat → Int32
  | 0 => 0
  | p + 1 => if mH τ cc p < xA τ 18 (cc p) then xA τ 18 (cc p) else mH τ cc p
def mQ (τ : S5) (cc : Nat → Int32) : Nat → Int32
  | 0 => 0
  | p + 1 => mQ τ cc p + xA τ 19 (cc p)
def mU (τ : S5) (cc : Nat → Int32) : Nat → Int64
  | 0 => 0
  | p + 1 => mU τ cc p ||| xB τ 2 (cc p)
def mS (τ : S5) (cc : Nat → Int32) : Nat → Int64
  | 0 => 0
  | p + 1 => mS τ cc p ||| (if xA τ 13 (cc p) = 10 then spn (xA τ 14 (cc p)) 1 else 0)
def u1F (k : Int32) : Int32 := if 10 ≤ k ∧ k ≤ 13 then 0 else 1
def mB (τ : S5) (i a2 : Int32) (l : Nat) (cc : Nat → Int32) : Int64 := mU τ cc l &&& ((if xA τ 13 i = 11 then spn (xA τ 15 i) a2 else mS τ cc l) ^^^ (-1))
def msr (τ : S5) (i a2 : Int32) (l : Nat) (cc : Nat → Int32) : S5 := pB (pA (pA τ 18 i (mH τ cc l + u1F (xA τ 13 i))) 19 i (mQ τ cc l + u1F (xA τ 13 i))) 2 i (mB τ i a2 l cc)
theorem isP_eq (k : Int32) (σ : S5) : f_X9_isPart k σ = some (u1F k, σ) := by
  unfold f_X9_isPart f_X9_isPart_b12 u1F
  by_cases h : k < 10
  · rw [if_pos h, if_neg (fun w => by grind)]
  · rw [if_neg h]
    by_cases h2 : k ≤ 13
    · rw [if_pos h2, if_pos ⟨by grind, h2⟩]
    · rw [if_neg h2, if_neg (fun w => h2 w.2)]
theorem ms_end {τ : S5} {i a2 : Int32} {l : Nat} {cc : Nat → Int32} (h0 : 0 ≤ i) (h1 : i < 6200) : f_X9_measure_b118 i a2 (mH τ cc l) (mQ τ cc l) (mU τ cc l) (mS τ cc l) τ = some ((), msr τ i a2 l cc) := by
  have h141 : ∀ s, f_X9_measure_b141 i (mH τ cc l) (mQ τ cc l) (mU τ cc l) s τ = some ((), pB (pA (pA τ 18 i (mH τ cc l + u1F (xA τ 13 i))) 19 i (mQ τ cc l + u1F (xA τ 13 i))) 2 i (mU τ cc l &&& (s ^^^ (-1)))) := by
    intro s
    unfold f_X9_measure_b141 f_X9_measure_b158
    rw [gd6200 h0 h1, isP_eq, bd_of]
    have hu : u1F (xA τ 13 i) = 0 ∨ u1F (xA τ 13 i) = 1 := by unfold u1F; split <;> simp
    rcases hu with w | w
    · rw [w, if_pos rfl, gd6200 h0 h1, gd6200 h0 h1, gd6200 h0 h1]
    · rw [w, if_neg (by decide), gd6200 h0 h1, gd6200 h0 h1, gd6200 h0 h1]
  unfold f_X9_measure_b118 msr mB
  rw [gd6200 h0 h1]
  by_cases h : xA τ 13 i = 11
  · rw [if_pos h, if_pos h, gd6200 h0 h1, span_eq, bd_of, h141]
  · rw [if_neg h, if_neg h, h141]
theorem ms_L22 {τ : S5} {i a2 : Int32} {l : Nat} {cc : Nat → Int32} (h0 : 0 ≤ i) (h1 : i < 6200) (hl : l ≤ 9) (hc : ∀ p, p < l → (0 ≤ cc p ∧ cc p < 6200) ∧ xA τ 17 (cc p) = if p + 1 < l then cc (p + 1) else -1) : ∀ (d p m : Nat), p + d = l → d < m → f_X9_measure_L22 m i a2 (mH τ cc p) (mQ τ cc p) (mU τ cc p) (mS τ cc p) (nI p) (if p < l then cc p else -1) τ = some ((), msr τ i a2 l cc) := by
  intro d
  induction d with
  | zero =>
    intro p m hp hm
    obtain ⟨m, rfl⟩ : ∃ m', m = m' + 1 := ⟨m - 1, by omega⟩
    have : p = l := by omega
    subst this
    rw [if_neg (by omega)]
    show f_X9_measure_B22 _ _ _ _ _ _ _ _ _ _ = _
    unfold f_X9_measure_B22
    rw [if_neg (fun w => by have := (nI_le31 (a := 10) (by omega) (by omega)).mp w; omega), if_pos rfl, ms_end h0 h1]
  | succ d ih =>
    intro p m hp hm
    obtain ⟨m, rfl⟩ : ∃ m', m = m' + 1 := ⟨m - 1, by omega⟩
    obtain ⟨⟨c0, c1⟩, c2⟩ := hc p (by omega)
    rw [if_pos (by omega)]
    have hB : f_X9_measure_L22 (m + 1) i a2 (mH τ cc p) (mQ τ cc p) (mU τ cc p) (mS τ cc p) (nI p) (cc p) τ = f_X9_measure_L22 m i a2 (mH τ cc (p + 1)) (mQ τ cc (p + 1)) (mU τ cc (p + 1)) (mS τ cc (p + 1)) (nI (p + 1)) (if p + 1 < l then cc (p + 1) else -1) τ := by
      show f_X9_measure_B22 _ _ _ _ _ _ _ _ _ _ = _
      unfold f_X9_measure_B22 f_X9_measure_b100
      rw [if_neg (fun w => by have := (nI_le31 (a := 10) (by omega) (by omega)).mp w; omega), if_neg (fun w => by rw [w] at c0; exact absurd c0 (by decide)), gd6200 c0 c1, gd6200 c0 c1, gd6200 c0 c1, gd6200 c0 c1]
      by_cases h10 : xA τ 13 (cc p) = 10
      · rw [if_pos h10, gd6200 c0 c1, span_eq, bd_of, gd6200 c0 c1, c2, nI_add1]
        have : mS τ cc (p + 1) = mS τ cc p ||| spn (xA τ 14 (cc p)) 1 := by
          show _ ||| (if _ then _ else _) = _
          rw [if_pos h10]
        rw [this]
        rfl
      · rw [if_neg h10, gd6200 c0 c1, c2, nI_add1]
        have : mS τ cc (p + 1) = mS τ cc p ||| 0 := by
          show _ ||| (if _ then _ else _) = _
          rw [if_neg h10]
        rw [this]
        rfl
    rw [hB]
    exact ih (p + 1) m (by omega) (by omega)
theorem ms_go {τ : S5} {i : Int32} {l : Nat} {cc : Nat → Int32} (a2 : Int32) (h0 : 0 ≤ i) (h1 : i < 6200) (hl1 : 1 ≤ l) (hl : l ≤ 9) (hk : xA τ 16 i = cc 0) (hc : ∀ p, p < l → (0 ≤ cc p ∧ cc p < 6200) ∧ xA τ 17 (cc p) = if p + 1 < l then cc (p + 1) else -1) : f_X9_measure i a2 τ = some ((), msr τ i a2 l cc) := by
  have hbig := FU_big (n := 30000) (by decide)
  unfold f_X9_measure
  rw [gd6200 h0 h1, hk]
  have := ms_L22 (a2 := a2) h0 h1 hl hc l 0 FU (by omega) (by omega)
  rw [if_pos (by omega)] at this
  have key : ∀ (a b : Int32) (c d : Int64) (e f : Int32), a = mH τ cc 0 → b = mQ τ cc 0 → c = mU τ cc 0 → d = mS τ cc 0 → e = nI 0 → f = cc 0 → f_X9_measure_L22 FU i a2 a b c d e f τ = some ((), msr τ i a2 l cc) := by
    intro a b c d e f h1 h2 h3 h4 h5 h6
    rw [h1, h2, h3, h4, h5, h6]
    exact this
  exact key 0 0 0 0 0 (cc 0) rfl rfl rfl rfl rfl rfl
/-- a leaf's measures -/
def lbit (k v : Int32) : Int64 := if k = 3 then (if 40 ≤ v then 0 else j_lshl 1 v) else 0
def mlf (τ : S5) (i : Int32) : S5 := pB (pA (pA τ 18 i 1) 19 i 1) 2 i (lbit (xA τ 13 i) (xA τ 14 i))
theorem ml_go {τ : S5} {i : Int32} (h0 : 0 ≤ i) (h1 : i < 6200) : f_X9_measureLeaf i τ = some ((), mlf τ i) := by
  unfold f_X9_measureLeaf f_X9_measureLeaf_b48 f_X9_measureLeaf_b49 mlf lbit
  rw [gd6200 h0 h1, gd6200 h0 h1, gd6200 h0 h1, gd6200 h0 h1, gd6200 h0 h1]
  by_cases h3 : xA τ 13 i = 3
  · rw [if_pos h3, if_pos h3]
    by_cases h4 : 40 ≤ xA τ 14 i
    · rw [if_pos h4, if_pos h4]
    · rw [if_neg h4, if_neg h4, gd6200 h0 h1]
  · rw [if_neg h3, if_neg h3]
/-- the rows of the tree -/
def Tw (τ τ' : S5) (x : Int32) : Prop := xA τ' 13 x = xA τ 13 x ∧ xA τ' 14 x = xA τ 14 x ∧ xA τ' 15 x = xA τ 15 x ∧ xA τ' 16 x = xA τ 16 x ∧ xA τ' 17 x = xA τ 17 x ∧ xA τ' 18 x = xA τ 18 x ∧ xA τ' 19 x = xA τ 19 x ∧ xB τ' 2 x = xB τ 2 x
theorem Tw.rf (τ : S5) (x : Int32) : Tw τ τ x := ⟨rfl, rfl, rfl, rfl, rfl, rfl, rfl, rfl⟩
theorem Tw.tr {τ τ1 τ2 : S5} {x : Int32} (h : Tw τ τ1 x) (h2 : Tw τ1 τ2 x) : Tw τ τ2 x := ⟨h2.1.trans h.1, h2.2.1.trans h.2.1, h2.2.2.1.trans h.2.2.1, h2.2.2.2.1.trans h.2.2.2.1, h2.2.2.2.2.1.trans h.2.2.2.2.1, h2.2.2.2.2.2.1.trans h.2.2.2.2.2.1, h2.2.2.2.2.2.2.1.trans h.2.2.2.2.2.2.1, h2.2.2.2.2.2.2.2.trans h.2.2.2.2.2.2.2⟩
theorem m_st {τ τ' : S5} {cc : Nat → Int32} : ∀ l, (∀ p, p < l → Tw τ τ' (cc p)) → mH τ' cc l = mH τ cc l ∧ mQ τ' cc l = mQ τ cc l ∧ mU τ' cc l = mU τ cc l ∧ mS τ' cc l = mS τ cc l
  | 0, _ => ⟨rfl, rfl, rfl, rfl⟩
  | l + 1, h => by
    obtain ⟨a1, a2, a3, a4⟩ := m_st l (fun p hp => h p (by omega))
    obtain ⟨t13, t14, t15, t16, t17, t18, t19, t2⟩ := h l (by omega)
    refine ⟨?_, ?_, ?_, ?_⟩
    · show (if mH τ' cc l < xA τ' 18 (cc l) then xA τ' 18 (cc l) else mH τ' cc l) = _
      rw [a1, t18]; rfl
    · show mQ τ' cc l + xA τ' 19 (cc l) = _
      rw [a2, t19]; rfl
    · show mU τ' cc l ||| xB τ' 2 (cc l) = _
      rw [a3, t2]; rfl
    · show mS τ' cc l ||| (if xA τ' 13 (cc l) = 10 then spn (xA τ' 14 (cc l)) 1 else 0) = _
      rw [a4, t13, t14]; rfl
