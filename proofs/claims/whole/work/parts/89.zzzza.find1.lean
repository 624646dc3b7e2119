/-- the reference's names in sight are those of the scopes around -/
def Stk (σ μ : S5) : Nat → Int32 → Nat → Prop
  | 0, _, _ => False
  | m + 1, h, top => (h = -1 ∧ top = 0) ∨ (0 ≤ h ∧ h < 700 ∧ ∃ j base : Nat, j ≤ 5 ∧ xA σ 20 h = nI j ∧ top = base + j ∧ (∀ i, i < j → xB μ 4 (nI (base + i)) = xB σ 3 (h * 5 + nI i) ∧ xA μ 26 (nI (base + i)) = nI (prI (vC σ) h + i)) ∧ Stk σ μ m (xA σ 21 h) base)
/-- a scope is around another -/
def Ich (σ : S5) : Nat → Int32 → Int32 → Prop
  | 0, _, _ => False
  | m + 1, h, s => h = s ∨ (0 ≤ h ∧ Ich σ m (xA σ 21 h) s)
/-- what is found of a name -/
def Hit (σ μ : S5) (z : Int64) (m : Nat) (h : Int32) (top : Nat) (r : Int32) : Prop := (r = -1 ∧ ∀ p, p < top → ¬ xB μ 4 (nI p) = z) ∨ (∃ (s : Int32) (i j p : Nat), 0 ≤ s ∧ s < 700 ∧ xA σ 20 s = nI j ∧ j ≤ 5 ∧ i < j ∧ r = s * 5 + nI i ∧ p < top ∧ xB μ 4 (nI p) = z ∧ (∀ p', p < p' → p' < top → ¬ xB μ 4 (nI p') = z) ∧ xA μ 26 (nI p) = nI (prI (vC σ) s + i) ∧ Ich σ m h s)
theorem find_stk {σ μ : S5} (hD : DN σ) (z : Int64) : ∀ (m : Nat) (h : Int32) (top v fuel : Nat), Stk σ μ m h top → v + m ≤ 701 → m < fuel → ∃ r, f_X6_find_L6 fuel z h (nI v) σ = some (r, σ) ∧ Hit σ μ z m h top r := by
  intro m
  induction m with
  | zero => intro h top v fuel hs; exact absurd hs (fun w => w)
  | succ m ih =>
    intro h top v fuel hs hv hf
    obtain ⟨fuel, rfl⟩ : ∃ f', fuel = f' + 1 := ⟨fuel - 1, by omega⟩
    have hB : f_X6_find_L6 (fuel + 1) z h (nI v) σ = if 700 ≤ nI v then some (-1, σ) else if h = -1 then some (-1, σ) else bd (f_X6_variableIn h z σ) (fun r24 τ24 => if r24 = (-1) then (gd h 700 <| f_X6_find_L6 fuel z (xA τ24 21 h) (nI v + 1) τ24) else some (r24, τ24)) := rfl
    rw [hB]
    rcases hs with ⟨h1, h2⟩ | ⟨h0, h7, j, base, j5, hj, ht, hrow, hs⟩
    · refine ⟨-1, ?_, Or.inl ⟨rfl, fun p hp => absurd hp (by omega)⟩⟩
      rw [h1, if_pos rfl, ite_self]
    · have hm : 1 ≤ m := by
        rcases Nat.eq_zero_or_pos m with w | w
        · subst w; exact absurd hs (fun w => w)
        · exact w
      have hv7 : ¬ (700 : Int32) ≤ nI v := fun w => by have := (nI_le31 (a := 700) (by omega) (by omega)).mp w; omega
      rw [if_neg hv7, if_neg (by grind)]
      rcases vin_go z h0 h7 hj j5 with ⟨i, i1, i2, i3, i4⟩ | ⟨i1, i2⟩
      · have hr := s5_rg (i := i) h0 h7 (by omega)
        refine ⟨h * 5 + nI i, ?_, Or.inr ⟨h, i, j, base + i, h0, h7, hj, j5, i1, rfl, by omega, by rw [(hrow i i1).1]; exact i2, ?_, (hrow i i1).2, Or.inl rfl⟩⟩
        · rw [i4, bd_of, if_neg (by grind)]
        · intro p' hp1 hp2
          obtain ⟨j', j5', hj', hdn⟩ := hD h h0 h7
          have hjj : j' = j := nI_inj (by omega) (by omega) (hj'.symm.trans hj)
          subst hjj
          have e := (hrow (p' - base) (by omega)).1
          rw [show base + (p' - base) = p' by omega] at e
          rw [e, ← i2]
          exact fun w => hdn i (p' - base) (by omega) (by omega) w.symm
      · obtain ⟨r, r1, r2⟩ := ih (xA σ 21 h) base (v + 1) fuel hs (by omega) (by omega)
        refine ⟨r, ?_, ?_⟩
        · rw [i2, bd_of, if_pos rfl, gd700 h0 h7, nI_add1]
          exact r1
        · rcases r2 with ⟨r2, r3⟩ | ⟨s, i, j', p, a1, a2, a3, a4, a5, a6, a7, a8, a9, a10, a11⟩
          · refine Or.inl ⟨r2, fun p hp => ?_⟩
            by_cases hpb : p < base
            · exact r3 p hpb
            · have e := (hrow (p - base) (by omega)).1
              rw [show base + (p - base) = p by omega] at e
              rw [e]
              exact i1 (p - base) (by omega)
          · refine Or.inr ⟨s, i, j', p, a1, a2, a3, a4, a5, a6, by omega, a8, fun p' hp1 hp2 => ?_, a10, Or.inr ⟨h0, a11⟩⟩
            by_cases hpb : p' < base
            · exact a9 p' hp1 hpb
            · have e := (hrow (p' - base) (by omega)).1
              rw [show base + (p' - base) = p' by omega] at e
              rw [e]
              exact i1 (p' - base) (by omega)
/-- the reference looks among the names in sight -/
theorem use_L7 {μ : S5} {n : Int32} {z : Int64} (hz : xB μ 0 n = z) (hn0 : 0 ≤ n) (hn1 : n < 3200) : ∀ (q fuel : Nat), q < 3200 → q < fuel → ((∀ p, p < q → ¬ xB μ 4 (nI p) = z) → f_X12_use_L7 fuel n (nI q - 1) μ = f_X12_use_b33 n (-1) μ) ∧ (∀ p, p < q → xB μ 4 (nI p) = z → (∀ p', p < p' → p' < q → ¬ xB μ 4 (nI p') = z) → f_X12_use_L7 fuel n (nI q - 1) μ = f_X12_use_b33 n (nI p) μ) := by
  intro q
  induction q with
  | zero =>
    intro fuel hq hf
    obtain ⟨fuel, rfl⟩ : ∃ f', fuel = f' + 1 := ⟨fuel - 1, by omega⟩
    refine ⟨fun _ => ?_, fun p hp => absurd hp (by omega)⟩
    show f_X12_use_B7 _ _ _ _ = _
    unfold f_X12_use_B7
    rw [if_pos (by decide)]
    rfl
  | succ q ih =>
    intro fuel hq hf
    obtain ⟨fuel, rfl⟩ : ∃ f', fuel = f' + 1 := ⟨fuel - 1, by omega⟩
    have e1 : nI (q + 1) - 1 = nI q := by rw [← nI_add1]; grind
    have hq0 : 0 ≤ nI q := i_le0 (nI_nneg (by omega))
    have hq1 : nI q < 3200 := (nI_lt31 (b := 3200) (by omega) (by omega)).mpr (by omega)
    have hB : f_X12_use_L7 (fuel + 1) n (nI (q + 1) - 1) μ = if lg_cmp (xB μ 4 (nI q)) z = 0 then f_X12_use_b33 n (nI q) μ else f_X12_use_L7 fuel n (nI q - 1) μ := by
      show f_X12_use_B7 _ _ _ _ = _
      unfold f_X12_use_B7
      rw [e1, if_neg (by grind), gd3200 hq0 hq1, gd3200 hn0 hn1, hz, show nI q + -1 = nI q - 1 from by grind]
    rw [hB]
    obtain ⟨i1, i2⟩ := ih fuel (by omega) (by omega)
    refine ⟨fun hno => ?_, fun p hp hpz hmax => ?_⟩
    · rw [if_neg (fun w => hno q (by omega) ((lg_cmp_eq _ _).mp w))]
      exact i1 (fun p hp => hno p (by omega))
    · by_cases hpq : p = q
      · subst hpq
        rw [if_pos ((lg_cmp_eq _ _).mpr hpz)]
      · rw [if_neg (fun w => hmax q (by omega) (by omega) ((lg_cmp_eq _ _).mp w))]
        exact i2 p (by omega) hpz (fun p' h1 h2 => hmax p' h1 (by omega))
