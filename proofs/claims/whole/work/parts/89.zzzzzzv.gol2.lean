theorem hL_mH {τp μ : S5} {cc pp : Nat → Int32} : ∀ l, (∀ i, i < l → xA μ 37 (pp i) = xA τp 18 (cc i)) → hL μ pp l = mH τp cc l
  | 0, _ => rfl
  | l + 1, h => by
    show (if xA μ 37 (pp l) ≤ hL μ pp l then hL μ pp l else xA μ 37 (pp l)) = (if mH τp cc l < xA τp 18 (cc l) then xA τp 18 (cc l) else mH τp cc l)
    rw [hL_mH l (fun i hi => h i (by omega)), h l (by omega)]
    by_cases hh : xA τp 18 (cc l) ≤ mH τp cc l
    · rw [if_pos hh, if_neg (by grind)]
    · rw [if_neg hh, if_pos (by grind)]
theorem uL_mU {τp μ : S5} {cc pp : Nat → Int32} : ∀ l, (∀ i, i < l → xB μ 5 (pp i) = xB τp 2 (cc i)) → uL μ pp 0 l = mU τp cc l
  | 0, _ => rfl
  | l + 1, h => by
    show uL μ pp 0 l ||| xB μ 5 (pp l) = mU τp cc l ||| xB τp 2 (cc l)
    rw [uL_mU l (fun i hi => h i (by omega)), h l (by omega)]
theorem mQ_sP {τp : S5} {cc : Nat → Int32} : ∀ l, (∀ i, i < l → 1 ≤ (xA τp 19 (cc i)).toNatClampNeg) → mQ τp cc l = nI (sP τp cc l)
  | 0, _ => rfl
  | l + 1, h => by
    have hp : xA τp 19 (cc l) = nI (xA τp 19 (cc l)).toNatClampNeg := by
      refine nI_tn (i_le0 (fun w => ?_))
      have h1 := h l (by omega)
      have : (xA τp 19 (cc l)).toNatClampNeg = 0 := by
        have hle : (xA τp 19 (cc l)).toInt ≤ 0 := by
          have := Int32.lt_iff_toInt_lt.mp w
          have e : (0 : Int32).toInt = 0 := rfl
          omega
        unfold Int32.toNatClampNeg
        omega
      omega
    show mQ τp cc l + xA τp 19 (cc l) = nI (sP τp cc l + (xA τp 19 (cc l)).toNatClampNeg)
    rw [mQ_sP l (fun i hi => h i (by omega)), ← nI_plus, ← hp]
theorem mS_0 {τp : S5} {cc : Nat → Int32} : ∀ l, (∀ i, i < l → ¬ xA τp 13 (cc i) = 10) → mS τp cc l = 0
  | 0, _ => rfl
  | l + 1, h => by
    show mS τp cc l ||| (if xA τp 13 (cc l) = 10 then spn (xA τp 14 (cc l)) 1 else 0) = 0
    rw [mS_0 l (fun i hi => h i (by omega)), if_neg (h l (by omega))]
    rfl
theorem and_all (x : Int64) : x &&& ((0 : Int64) ^^^ (-1)) = x := by
  rw [show ((0 : Int64) ^^^ (-1)) = -1 from rfl]
  exact Int64.and_neg_one
/-- a node of a plain kind, lifted -/
theorem lt_node {τp μ3 μ5 : S5} {F V m ct hd l : Nat} {kind value c : Int32} {cc : Nat → Int32} (hLI : LIf μ3 μ5 kind value l (m + sP τp cc l) (ct + sP τp cc l - l) hd) (h1 : ∀ i, i < l → 1 ≤ (xA τp 19 (cc i)).toNatClampNeg) (hk : ∀ k, k < l → xA μ3 48 (nI (hd + k)) = nI (m + sP τp cc (k + 1) - 1) ∧ LT τp μ3 F V (ct + sP τp cc l - l) (cc k) (m + sP τp cc k) (m + sP τp cc (k + 1) - 1)) (hct : ct + sP τp cc l ≤ 14000) (hmm : m + sP τp cc l < 7000) (hM : MEQ τp c 0 l cc) (hu : u1F (xA τp 13 c) = 1) (h11 : ¬ xA τp 13 c = 11) (h10 : ∀ i, i < l → ¬ xA τp 13 (cc i) = 10) (hkd : ¬ kind = 13) : (xA τp 19 c).toNatClampNeg = sP τp cc l + 1 ∧ xA μ5 37 (nI (m + sP τp cc l)) = xA τp 18 c ∧ (V ≤ 40 → xB μ5 5 (nI (m + sP τp cc l)) = xB τp 2 c) ∧ LKids μ5 (LT τp μ5 F V (ct + sP τp cc l)) l cc (ct + sP τp cc l) m (m + sP τp cc l) := by
  obtain ⟨c1, ⟨c2, c3, c4⟩, c5, c6, c7, c8, ⟨c9, c10, c11, c12, c13⟩, c14, c15, c16⟩ := hLI
  obtain ⟨e1, e2, e3⟩ := hM
  have hge := sP_ge h1 l (Nat.le_refl _)
  have hch : ∀ k, k < l → xA μ3 37 (xA μ3 48 (nI (hd + k))) = xA τp 18 (cc k) ∧ (V ≤ 40 → xB μ3 5 (xA μ3 48 (nI (hd + k))) = xB τp 2 (cc k)) := by
    intro k hkl
    obtain ⟨z1, z2⟩ := hk k hkl
    rw [z1]
    exact ⟨z2.un.2.1, z2.un.2.2.2.1⟩
  refine ⟨?_, ?_, fun hV => ?_, ?_⟩
  · rw [e2, hu, mQ_sP l h1, nI_add1, nI_clamp (by omega)]
  · rw [c15, e1, hu, hL_mH l (fun i hi => (hch i hi).1)]
  · rw [c16, if_neg hkd, e3, uL_mU l (fun i hi => (hch i hi).2 hV)]
    unfold mB
    rw [if_neg h11, mS_0 l h10, and_all]
  · refine ⟨fun k => m + sP τp cc k, fun k => m + sP τp cc (k + 1) - 1, ct + sP τp cc l - l, c11, by omega, c12, by show m + 0 = m; omega, rfl, fun i hi => ?_⟩
    have y1 := sP_s τp cc i
    have y2 := h1 i hi
    have y3 := sP_mono (τp := τp) (cc := cc) (i := i + 1) (l := l) (by omega)
    refine ⟨?_, by show m + sP τp cc i ≤ m + sP τp cc (i + 1) - 1; omega, by show m + sP τp cc (i + 1) - 1 < m + sP τp cc l; omega, by show m + sP τp cc (i + 1) = m + sP τp cc (i + 1) - 1 + 1; omega, ?_⟩
    · refine (hk i hi).2.st (by omega) hct (fun y hy => ?_) (fun x x1 x2 => c5 x (by omega))
      have t39 := c6 y hy
      refine ⟨t39, ?_, ?_, ?_, ?_⟩
      · exact c1.x 40 _ (by omega)
      · exact c1.x 41 _ (by omega)
      · exact c1.x 42 _ (by omega)
      · exact c1.x 43 _ (by omega)
    · rw [c14 i hi, (hk i hi).1]
