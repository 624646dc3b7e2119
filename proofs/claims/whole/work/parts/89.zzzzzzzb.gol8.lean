/-- the bits of an alternative's names -/
def bt (j x0 : Nat) : Int64 := if j = 0 then 0 else j_lshl (j_lshl 1 (nI j) - 1) (nI x0)
/-- what a case uses, alternative by alternative -/
def uC (μ : S5) (pp : Nat → Int32) (jj xx : Nat → Nat) : Nat → Int64
  | 0 => xB μ 5 (pp 0)
  | k + 1 => uC μ pp jj xx k ||| (xB μ 5 (pp (k + 1)) &&& (bt (jj k) (xx k) ^^^ (-1)))
/-- k alternatives are written down -/
def CIa (μm μa : S5) (g : Nat → Int32) (jj xx : Nat → Nat) (pp : Nat → Int32) (M ct0 k : Nat) (μk : S5) : Prop := (FrWL μa μk ∧ gI μk 26 = gI μa 26 ∧ gI μk 27 = gI μa 27 ∧ gI μk 28 = gI μa 28) ∧ (∀ gg y, gg < 40 ∨ 43 < gg → xA μk gg y = xA μa gg y) ∧ (∀ y, y < ct0 + 1 → Ls5 μa μk (nI y)) ∧ (∀ i, i < k → xA μk 40 (nI (ct0 + 1 + i)) = xA μm 8 (g i) ∧ xA μk 41 (nI (ct0 + 1 + i)) = xA μm 7 (g i) ∧ xA μk 43 (nI (ct0 + 1 + i)) = nI (jj i) ∧ xA μk 42 (nI (ct0 + 1 + i)) = if jj i = 0 then 0 else nI (xx i)) ∧ (∀ x, x < M → xB μk 5 (nI x) = xB μa 5 (nI x)) ∧ xB μk 5 (nI M) = uC μa pp jj xx k
theorem cs_L178 {μm μa : S5} {f M ct0 l : Nat} {g : Nat → Int32} {jj xx : Nat → Nat} {pp : Nat → Nat} (hM : M < 7000) (hct : ct0 + l + 1 ≤ 14000) (hl : l ≤ 8) (hfa : FrWL μm μa) (h33 : xA μa 33 (nI M) = nI ct0) (hpp : ∀ k, k < l + 1 → pp k < M ∧ xA μa 39 (nI (ct0 + k)) = nI (pp k)) (hg : ∀ i, i < l → (0 ≤ g i ∧ g i < 3200) ∧ xA μm 5 (g i) = if i + 1 < l then g (i + 1) else -1) (hj : ∀ i, i < l → xA μm 10 (g i) = nI (jj i) ∧ jj i ≤ 5 ∧ (0 < jj i → ∀ μ, FrWL μm μ → f_X12_local (nI f) (xA μm 25 (g i)) μ = some (nI (xx i), μ))) : ∀ (d k fu : Nat) (μk : S5), k + d = l → d < fu → CIa μm μa g jj xx (fun k => nI (pp k)) M ct0 k μk → ∃ μl, f_X12_closePart_L178 fu (nI f) (nI M) (nI k) (if k < l then g k else -1) μk = some ((), μl) ∧ CIa μm μa g jj xx (fun k => nI (pp k)) M ct0 l μl := by
  intro d
  induction d with
  | zero =>
    intro k fu μk hk hfu h
    obtain ⟨fu, rfl⟩ : ∃ fu', fu = fu' + 1 := ⟨fu - 1, by omega⟩
    have : k = l := by omega
    subst this
    refine ⟨μk, ?_, h⟩
    rw [if_neg (by omega)]
    show f_X12_closePart_B178 _ _ _ _ _ _ = _
    unfold f_X12_closePart_B178
    rw [if_pos (by decide)]
  | succ d ih =>
    intro k fu μk hk hfu h
    obtain ⟨fu, rfl⟩ : ∃ fu', fu = fu' + 1 := ⟨fu - 1, by omega⟩
    obtain ⟨⟨i1, i1a, i1b, i1c⟩, i2, i3, i4, i5, i6⟩ := h
    obtain ⟨⟨g0, g1⟩, g2⟩ := hg k (by omega)
    obtain ⟨j1, j2, j3⟩ := hj k (by omega)
    obtain ⟨p1, p2⟩ := hpp (k + 1) (by omega)
    have fk : FrWL μm μk := hfa.tr i1
    have e33 : xA μk 33 (nI M) = nI ct0 := by rw [i2 33 _ (by omega)]; exact h33
    have eat : nI ct0 + 1 + nI k = nI (ct0 + 1 + k) := by rw [nI_add1, nI_plus]
    have echild : 1 + nI k = nI (k + 1) := by rw [show (1 : Int32) = nI 1 from rfl, nI_plus, Nat.add_comm 1 k]
    have at0 : nI (ct0 + 1 + k) = nI (ct0 + (k + 1)) := by congr 1; omega
    -- the state with the rows of the alternative
    have h3 : ∀ (u0 : Int32) (ρ : S5), ρ = pA (pA (pA μk 40 (nI (ct0 + 1 + k)) (xA μm 8 (g k))) 41 (nI (ct0 + 1 + k)) (xA μm 7 (g k))) 43 (nI (ct0 + 1 + k)) (nI (jj k)) → (if jj k = 0 then (0 : Int32) else nI (xx k)) = u0 → f_X12_closePart_b271 (f_X12_closePart_L178 fu) (nI f) (nI M) (nI k) (g k) (nI (ct0 + 1 + k)) u0 (nI (ct0 + 1 + k)) ρ = f_X12_closePart_L178 fu (nI f) (nI M) (nI (k + 1)) (if k + 1 < l then g (k + 1) else -1) (pB (pA ρ 42 (nI (ct0 + 1 + k)) u0) 5 (nI M) (uC μa (fun k => nI (pp k)) jj xx (k + 1))) := by
      intro u0 ρ hρ hu0
      have hr : ∀ gg y, gg < 40 ∨ 43 < gg → xA (pA ρ 42 (nI (ct0 + 1 + k)) u0) gg y = xA μa gg y := fun gg y hgg => by
        rw [hρ, xA_pA, if_neg (by omega), xA_pA, if_neg (by omega), xA_pA, if_neg (by omega), xA_pA, if_neg (by omega)]
        exact i2 gg y hgg
      have hrm : ∀ gg y, gg < 28 → xA (pA ρ 42 (nI (ct0 + 1 + k)) u0) gg y = xA μm gg y := fun gg y hgg => by rw [hr gg y (by omega)]; exact hfa.x gg y hgg
      have hb5 : ∀ y, xB (pA ρ 42 (nI (ct0 + 1 + k)) u0) 5 y = xB μk 5 y := fun y => by rw [hρ]; rfl
      have hbt : j_lshl (j_lshl 1 (nI (jj k)) - 1) u0 = bt (jj k) (xx k) := by
        unfold bt
        by_cases hz : jj k = 0
        · rw [if_pos hz] at hu0
          rw [if_pos hz, hz, ← hu0]
          rfl
        · rw [if_neg hz] at hu0
          rw [if_neg hz, hu0]
      have hkp : k < l := by omega
      have hp1 : pp (k + 1) < 7000 := by omega
      unfold f_X12_closePart_b271 f_X12_child f_X12_bits
      rw [gdn (by omega) (by omega), gdn hM (by omega), gdn hM (by omega), hr 33 _ (by omega), h33, echild, nI_plus, gdn (by omega) (by omega), hr 39 _ (by omega), p2, bd_of, gdn hp1 (by omega), gdn (by omega) (by omega), gd3200 g0 g1, bd_of, gdn hM (by omega), gd3200 g0 g1, hrm 5 _ (by omega), g2, hb5, i5 _ p1, xA_self, hrm 10 _ (by omega), j1, hbt, nI_add1]
      have : xB ρ 5 (nI M) = uC μa (fun k => nI (pp k)) jj xx k := by
        rw [hρ]
        exact i6
      rw [this]
      rfl
    have hB : f_X12_closePart_L178 (fu + 1) (nI f) (nI M) (nI k) (if k < l then g k else -1) μk = f_X12_closePart_L178 fu (nI f) (nI M) (nI (k + 1)) (if k + 1 < l then g (k + 1) else -1) (pB (pA (pA (pA (pA μk 40 (nI (ct0 + 1 + k)) (xA μm 8 (g k))) 41 (nI (ct0 + 1 + k)) (xA μm 7 (g k))) 43 (nI (ct0 + 1 + k)) (nI (jj k))) 42 (nI (ct0 + 1 + k)) (if jj k = 0 then (0 : Int32) else nI (xx k))) 5 (nI M) (uC μa (fun k => nI (pp k)) jj xx (k + 1))) := by
      rw [if_pos (by omega)]
      show f_X12_closePart_B178 _ _ _ _ _ _ = _
      unfold f_X12_closePart_B178
      rw [if_neg (fun w => by grind), gdn hM (by omega), gd3200 g0 g1, e33, eat, gdn (by omega) (by omega), gd3200 g0 g1, gdn (by omega) (by omega), gd3200 g0 g1, gdn (by omega) (by omega), gd3200 g0 g1, fk.x 8 _ (by omega), fk.x 7 _ (by omega), fk.x 10 _ (by omega), j1]
      by_cases hz : jj k = 0
      · rw [if_pos (show nI (jj k) ≤ 0 from by rw [hz]; decide)]
        have := h3 0 _ rfl (by rw [if_pos hz])
        rw [this, if_pos hz]
      · have hpos : 0 < jj k := by omega
        rw [if_neg (fun w => by have := (nI_le31 (b := 0) (by omega) (by omega)).mp w; omega), gd3200 g0 g1, fk.x 25 _ (by omega), j3 hpos _ (((fk.A (by omega)).A (by omega)).A (by omega)), bd_of]
        have := h3 (nI (xx k)) _ rfl (by rw [if_neg hz])
        rw [this, if_neg hz]
    rw [hB]
    have ecl : (nI (ct0 + 1 + k)).toNatClampNeg = ct0 + 1 + k := nI_clamp (by omega)
    refine ih (k + 1) fu _ (by omega) (by omega) ⟨⟨((((i1.A (by omega)).A (by omega)).A (by omega)).A (by omega)).B, i1a, i1b, i1c⟩, fun gg y hgg => ?_, fun y hy => ?_, fun i hi => ?_, fun x hx => ?_, ?_⟩
    · show xA (pA (pA (pA (pA μk 40 (nI (ct0 + 1 + k)) (xA μm 8 (g k))) 41 (nI (ct0 + 1 + k)) (xA μm 7 (g k))) 43 (nI (ct0 + 1 + k)) (nI (jj k))) 42 (nI (ct0 + 1 + k)) (if jj k = 0 then (0 : Int32) else nI (xx k))) gg y = _
      rw [xA_pA, if_neg (by omega), xA_pA, if_neg (by omega), xA_pA, if_neg (by omega), xA_pA, if_neg (by omega)]
      exact i2 gg y hgg
    · have hne : ¬ (nI y).toNatClampNeg = (nI (ct0 + 1 + k)).toNatClampNeg := tn_neL (by omega) (by omega) (by omega)
      have e : ∀ gg, xA (pA (pA (pA (pA μk 40 (nI (ct0 + 1 + k)) (xA μm 8 (g k))) 41 (nI (ct0 + 1 + k)) (xA μm 7 (g k))) 43 (nI (ct0 + 1 + k)) (nI (jj k))) 42 (nI (ct0 + 1 + k)) (if jj k = 0 then (0 : Int32) else nI (xx k))) gg (nI y) = xA μk gg (nI y) := fun gg => by rw [xA_pA, if_neg (fun w => hne w.2), xA_pA, if_neg (fun w => hne w.2), xA_pA, if_neg (fun w => hne w.2), xA_pA, if_neg (fun w => hne w.2)]
      have := i3 y hy
      exact ⟨(e 39).trans this.1, (e 40).trans this.2.1, (e 41).trans this.2.2.1, (e 42).trans this.2.2.2.1, (e 43).trans this.2.2.2.2⟩
    · by_cases hik : i = k
      · subst hik
        refine ⟨?_, ?_, ?_, ?_⟩
        · show xA (pA (pA (pA (pA μk 40 (nI (ct0 + 1 + i)) (xA μm 8 (g i))) 41 (nI (ct0 + 1 + i)) (xA μm 7 (g i))) 43 (nI (ct0 + 1 + i)) (nI (jj i))) 42 (nI (ct0 + 1 + i)) (if jj i = 0 then (0 : Int32) else nI (xx i))) 40 (nI (ct0 + 1 + i)) = _
          rw [xA_pA, if_neg (by omega), xA_pA, if_neg (by omega), xA_pA, if_neg (by omega), xA_self]
        · show xA (pA (pA (pA (pA μk 40 (nI (ct0 + 1 + i)) (xA μm 8 (g i))) 41 (nI (ct0 + 1 + i)) (xA μm 7 (g i))) 43 (nI (ct0 + 1 + i)) (nI (jj i))) 42 (nI (ct0 + 1 + i)) (if jj i = 0 then (0 : Int32) else nI (xx i))) 41 (nI (ct0 + 1 + i)) = _
          rw [xA_pA, if_neg (by omega), xA_pA, if_neg (by omega), xA_self]
        · show xA (pA (pA (pA (pA μk 40 (nI (ct0 + 1 + i)) (xA μm 8 (g i))) 41 (nI (ct0 + 1 + i)) (xA μm 7 (g i))) 43 (nI (ct0 + 1 + i)) (nI (jj i))) 42 (nI (ct0 + 1 + i)) (if jj i = 0 then (0 : Int32) else nI (xx i))) 43 (nI (ct0 + 1 + i)) = _
          rw [xA_pA, if_neg (by omega), xA_self]
        · show xA (pA (pA (pA (pA μk 40 (nI (ct0 + 1 + i)) (xA μm 8 (g i))) 41 (nI (ct0 + 1 + i)) (xA μm 7 (g i))) 43 (nI (ct0 + 1 + i)) (nI (jj i))) 42 (nI (ct0 + 1 + i)) (if jj i = 0 then (0 : Int32) else nI (xx i))) 42 (nI (ct0 + 1 + i)) = _
          rw [xA_self]
      · have hne : ¬ (nI (ct0 + 1 + i)).toNatClampNeg = (nI (ct0 + 1 + k)).toNatClampNeg := tn_neL (by omega) (by omega) (by omega)
        have e : ∀ gg, xA (pA (pA (pA (pA μk 40 (nI (ct0 + 1 + k)) (xA μm 8 (g k))) 41 (nI (ct0 + 1 + k)) (xA μm 7 (g k))) 43 (nI (ct0 + 1 + k)) (nI (jj k))) 42 (nI (ct0 + 1 + k)) (if jj k = 0 then (0 : Int32) else nI (xx k))) gg (nI (ct0 + 1 + i)) = xA μk gg (nI (ct0 + 1 + i)) := fun gg => by rw [xA_pA, if_neg (fun w => hne w.2), xA_pA, if_neg (fun w => hne w.2), xA_pA, if_neg (fun w => hne w.2), xA_pA, if_neg (fun w => hne w.2)]
        have := i4 i (by omega)
        exact ⟨(e 40).trans this.1, (e 41).trans this.2.1, (e 43).trans this.2.2.1, (e 42).trans this.2.2.2⟩
    · rw [xB_pB, if_neg (fun w => tn_neL (by omega) (by omega) (by omega) w.2)]
      exact i5 x hx
    · rw [xB_pB, if_pos ⟨rfl, rfl⟩]
theorem zor (x : Int64) : (0 : Int64) ||| x = x := Int64.zero_or
/-- what a case uses, by the two ways of saying it -/
theorem uC_mU {τp μ : S5} {c0 : Int32} {aa cc pp : Nat → Int32} {jj xx : Nat → Nat} {l : Nat} (h0 : xB μ 5 (pp 0) = xB τp 2 c0) (h : ∀ i, i < l → xB μ 5 (pp (i + 1)) = xB τp 2 (cc i) ∧ xB τp 2 (aa i) = xB τp 2 (cc i) &&& (bt (jj i) (xx i) ^^^ (-1))) : ∀ k, k ≤ l → uC μ pp jj xx k = mU τp (fun p => if p = 0 then c0 else aa (p - 1)) (k + 1) := by
  intro k
  induction k with
  | zero =>
    intro _
    show xB μ 5 (pp 0) = (0 : Int64) ||| xB τp 2 c0
    rw [zor, h0]
  | succ k ih =>
    intro hk
    obtain ⟨a, b⟩ := h k (by omega)
    show uC μ pp jj xx k ||| (xB μ 5 (pp (k + 1)) &&& (bt (jj k) (xx k) ^^^ (-1))) = mU τp (fun p => if p = 0 then c0 else aa (p - 1)) (k + 1) ||| xB τp 2 (aa k)
    rw [ih (by omega), a, b]
