/-- the place of a variable among a function's free ones -/
def fx (e : Int32 → Int32) (f : Nat) (y : Int32) : Nat → Nat → Nat
  | 0, p => p
  | d + 1, p => if e (nI (f * 8 + p)) = y then p else fx e f y d (p + 1)
theorem fx_at {e : Int32 → Int32} {f : Nat} {y : Int32} {q : Nat} (hq : e (nI (f * 8 + q)) = y) : ∀ (d p : Nat), p ≤ q → q < p + d → (∀ a, p ≤ a → a < q → ¬ e (nI (f * 8 + a)) = y) → fx e f y d p = q
  | 0, p, h1, h2, _ => by omega
  | d + 1, p, h1, h2, hn => by
    unfold fx
    by_cases hp : p = q
    · subst hp
      rw [if_pos hq]
    · rw [if_neg (hn p (Nat.le_refl _) (by omega))]
      exact fx_at hq d (p + 1) (by omega) (by omega) (fun a a1 a2 => hn a (by omega) a2)
/-- the first place of a variable -/
theorem fx_ex {e : Int32 → Int32} {f : Nat} {y : Int32} : ∀ (n : Nat), (∃ q, q < n ∧ e (nI (f * 8 + q)) = y) → ∃ q, q < n ∧ e (nI (f * 8 + q)) = y ∧ ∀ a, a < q → ¬ e (nI (f * 8 + a)) = y
  | 0, h => by obtain ⟨q, q1, _⟩ := h; omega
  | n + 1, h => by
    by_cases h' : ∃ q, q < n ∧ e (nI (f * 8 + q)) = y
    · obtain ⟨q, q1, q2, q3⟩ := fx_ex n h'
      exact ⟨q, by omega, q2, q3⟩
    · obtain ⟨q, q1, q2⟩ := h
      have : q = n := by
        rcases Nat.lt_or_ge q n with w | w
        · exact absurd ⟨q, w, q2⟩ h'
        · omega
      subst this
      exact ⟨q, by omega, q2, fun a ha w => h' ⟨a, ha, w⟩⟩
/-- the number of a variable in a function -/
def qn (σ τ : S5) (sc : Nat → Int32) (cf : Nat → Nat) (f : Nat) (y : Int32) : Nat := if xA σ 22 (y / 5) = sc f then cf f + prI (wO σ (sc f)) (y / 5) + (y - y / 5 * 5).toNatClampNeg else fx (xA τ 5) f y (cf f) 0
/-- how many variables a function has -/
def nvF (σ : S5) (S : Int32) (sc : Nat → Int32) (cf : Nat → Nat) (f : Nat) : Nat := cf f + prI (wO σ (sc f)) S
/-- what is known of a variable in a function -/
def Kn (σ τ : S5) (S : Int32) (sc : Nat → Int32) (cf : Nat → Nat) (f : Nat) (y : Int32) : Prop := ∃ (s : Int32) (i j : Nat), (0 ≤ s ∧ s < S) ∧ xA σ 20 s = nI j ∧ j ≤ 5 ∧ i < j ∧ y = s * 5 + nI i ∧ (xA σ 22 s = sc f ∨ (¬ xA σ 22 s = sc f ∧ ∃ q, q < cf f ∧ xA τ 5 (nI (f * 8 + q)) = y))
theorem m5_n {s : Int32} {i : Nat} (h0 : 0 ≤ s) (h1 : s < 700) (hi : i ≤ 4) : (s * 5 + nI i) - (s * 5 + nI i) / 5 * 5 = nI i := by
  rw [div5 h0 h1 hi]
  grind
theorem pre_lt {w : Nat → Nat} {x n i : Nat} (hx : x < n) (hi : i < w x) : pre w x + i < pre w n := by
  have a2 := pre_mono (w := w) (n - (x + 1)) (x + 1)
  rw [show x + 1 + (n - (x + 1)) = n by omega] at a2
  have a3 : pre w (x + 1) = pre w x + w x := rfl
  omega
theorem qn_lt {σ τ : S5} {S : Int32} {sc : Nat → Int32} {cf : Nat → Nat} {f : Nat} {y : Int32} (hS : S ≤ 630) (h : Kn σ τ S sc cf f y) : qn σ τ sc cf f y < nvF σ S sc cf f := by
  obtain ⟨s, i, j, ⟨s0, s1⟩, ej, j5, hij, rfl, hh⟩ := h
  have ed := div5 (i := i) s0 (by grind) (by omega)
  have em := m5_n (i := i) s0 (by grind) (by omega)
  unfold qn nvF
  rw [ed] at *
  rcases hh with w | ⟨w, q, q1, q2⟩
  · rw [if_pos w, em, nI_clamp (by omega)]
    have hl : s.toNatClampNeg < S.toNatClampNeg := i_lt (not_neg s0) s1
    have := pre_lt (w := wO σ (sc f)) (i := i) hl (by
      unfold wO vC
      rw [xA_tn, if_pos w, xA_tn, ej, nI_clamp (by omega)]
      exact hij)
    unfold prI
    omega
  · rw [if_neg w]
    obtain ⟨q', a1, a2, a3⟩ := fx_ex (e := xA τ 5) (f := f) (cf f) ⟨q, q1, q2⟩
    rw [fx_at a2 (cf f) 0 (by omega) (by omega) (fun a _ b => a3 a b)]
    omega
/-- numbers of variables: the one side -/
theorem nin_go {σ τv τ : S5} {S : Int32} {F : Nat} {sc : Nat → Int32} {cf : Nat → Nat} {f : Nat} {y : Int32} (hS : S ≤ 630) (hF : F ≤ 630) (hf : f < F) (h22 : ∀ x, xA τ 22 x = xA σ 22 x) (h8 : xA τ 8 (nI f) = sc f) (h25 : ∀ s, 0 ≤ s → s < S → xA σ 22 s = sc f → xA τ 25 s = nI (cf f + prI (wO σ (sc f)) s)) (h4 : xA τ 4 (nI f) = nI (cf f)) (hc8 : cf f ≤ 8) (h5 : ∀ x, xA τ 5 x = xA τv 5 x) (h : Kn σ τv S sc cf f y) : f_X2_numberIn (nI f) y τ = some (nI (qn σ τv sc cf f y), τ) := by
  have hbig := FU_big (n := 30000) (by decide)
  obtain ⟨s, i, j, ⟨s0, s1⟩, ej, j5, hij, rfl, hh⟩ := h
  have ed := div5 (i := i) s0 (by grind) (by omega)
  have em := m5_n (i := i) s0 (by grind) (by omega)
  rw [ed] at em
  unfold f_X2_numberIn qn
  rw [ed, gd700 s0 (by grind), gdn (by omega) (by omega), h22, h8]
  rcases hh with w | ⟨w, q, q1, q2⟩
  · rw [if_pos w, if_pos w, gd700 s0 (by grind), h25 s s0 s1 w, em, nI_clamp (by omega), nI_plus]
  · rw [if_neg w, if_neg w]
    obtain ⟨q', a1, a2, a3⟩ := fx_ex (e := xA τv 5) (f := f) (cf f) ⟨q, q1, q2⟩
    rw [fx_at a2 (cf f) 0 (by omega) (by omega) (fun a _ b => a3 a b)]
    have hfi : f_X2_freeIndex (nI f) (s * 5 + nI i) τ = some (nI q', τ) := by
      unfold f_X2_freeIndex
      rcases fi_loop (y := s * 5 + nI i) (by omega) h4 (by omega) (min (cf f) 8) 0 FU (by omega) (by omega) with ⟨p, p1, p2, p3, p4, p5⟩ | ⟨p1, p2⟩
      · have : p = q' := by
          rcases Nat.lt_trichotomy p q' with z | z | z
          · rw [h5] at p3; exact absurd p3 (a3 p z)
          · exact z
          · have := p4 q' (by omega) z
            rw [h5] at this
            exact absurd a2 this
        subst this
        exact p5
      · have := p1 q' (by omega) (by omega)
        rw [h5] at this
        exact absurd a2 this
    rw [hfi, bd_of]
    by_cases hq0 : q' = 0
    · subst hq0
      rw [if_neg (show ¬ (0 : Int32) < nI 0 from by decide)]
      rfl
    · rw [if_pos (show (0 : Int32) < nI q' from (nI_lt31 (a := 0) (by omega) (by omega)).mpr (by omega))]
/-- numbers of variables: the reference -/
theorem loc_go {σ τv τr μ : S5} (hD : DN σ) {S : Int32} {F : Nat} {sc : Nat → Int32} {cf : Nat → Nat} {f : Nat} {y v : Int32} (hS : S ≤ 630) (hF : F ≤ 630) (hf : f < F) (hN : Nij σ τr S F) (hsc : 0 ≤ sc f ∧ sc f < S ∧ xA σ 22 (sc f) = sc f ∧ xA τr 26 (sc f) = nI f) (hown : ∀ s, 0 ≤ s → s < S → 0 ≤ xA σ 22 s ∧ xA σ 22 s < S ∧ xA σ 22 (xA σ 22 s) = xA σ 22 s) (hH : HV σ τr μ S S) (h20 : xA μ 20 (nI f) = nI (cf f)) (hc8 : cf f ≤ 8) (hV : ∀ i, i < cf f → VR σ (xA τv 5 (nI (f * 8 + i))) (xA μ 21 (nI (9 * f + i)))) (h : Kn σ τv S sc cf f y) (hv : VR σ y v) (hv0 : 0 ≤ v) (hv1 : v < 3200) : f_X12_local (nI f) v μ = some (nI (qn σ τv sc cf f y), μ) := by
  have hbig := FU_big (n := 30000) (by decide)
  obtain ⟨s, i, j, ⟨s0, s1⟩, ej, j5, hij, rfl, hh⟩ := h
  have ed := div5 (i := i) s0 (by grind) (by omega)
  have em := m5_n (i := i) s0 (by grind) (by omega)
  rw [ed] at em
  have ev : v = nI (prI (vC σ) s + i) := by
    have hv' : VR σ (s * 5 + nI i) (nI (prI (vC σ) s + i)) := ⟨s, i, j, s0, by grind, ej, j5, hij, rfl, rfl⟩
    exact (hv.eq hD hv').mp rfl
  obtain ⟨k1, k2⟩ := hH.1 s i j s0 s1 ej j5 hij
  rw [← ev] at k1 k2
  unfold f_X12_local qn
  rw [ed, gd3200 hv0 hv1, k1]
  rcases hh with w | ⟨w, q, q1, q2⟩
  · rw [w, hsc.2.2.2, if_pos rfl, if_pos rfl, gdn (by omega) (by omega), gd3200 hv0 hv1, h20, k2, w, em, nI_clamp (by omega), nI_plus, Nat.add_assoc]
  · have ho := hown s s0 s1
    have hne : ¬ xA τr 26 (xA σ 22 s) = nI f := fun z => w (hN.2 _ _ ho.1 ho.2.1 ho.2.2 hsc.1 hsc.2.1 hsc.2.2.1 (by rw [z, hsc.2.2.2]))
    rw [if_neg hne, if_neg w]
    obtain ⟨q', a1, a2, a3⟩ := fx_ex (e := xA τv 5) (f := f) (cf f) ⟨q, q1, q2⟩
    rw [fx_at a2 (cf f) 0 (by omega) (by omega) (fun a _ b => a3 a b)]
    have hat : xA μ 21 (nI (9 * f + q')) = v := by
      have := hV q' a1
      rw [a2] at this
      exact (this.eq hD hv).mp rfl
    have hnot : ∀ a, a < q' → ¬ xA μ 21 (nI (9 * f + a)) = v := fun a ha z => by
      have := hV a (by omega)
      rw [z] at this
      exact a3 a ha ((this.eq hD hv).mpr rfl)
    have loop : ∀ (d p m : Nat), p + d = q' → d < m → f_X12_local_L26 m (nI f) v (nI p) μ = some (nI q', μ) := by
      intro d
      induction d with
      | zero =>
        intro p m hp hm
        obtain ⟨m, rfl⟩ : ∃ m', m = m' + 1 := ⟨m - 1, by omega⟩
        have : p = q' := by omega
        subst this
        show f_X12_local_B26 _ _ _ _ _ = _
        unfold f_X12_local_B26
        rw [ix9, gdn (by omega) (by omega), if_pos hat]
      | succ d ih =>
        intro p m hp hm
        obtain ⟨m, rfl⟩ : ∃ m', m = m' + 1 := ⟨m - 1, by omega⟩
        show f_X12_local_B26 _ _ _ _ _ = _
        unfold f_X12_local_B26
        rw [ix9, gdn (by omega) (by omega), if_neg (hnot p (by omega)), nI_add1]
        exact ih (p + 1) m (by omega) (by omega)
    exact loop q' 0 FU (by omega) (by omega)
