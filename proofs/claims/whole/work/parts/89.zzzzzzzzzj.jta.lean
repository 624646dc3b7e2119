theorem sh_8 : ∀ p, p < 9 → (1 : Int32) <<< (nI p &&& 31) = nI (2 ^ p) := by decide
theorem ft_L55 {τ μ : S5} {pa : Nat → Nat} {rt : Nat → Int32} {F : Nat} {ρs : S5} {f : Nat} (hD : MD τ μ pa rt F) (hR : RwE μ ρs) (hf : f < F) (rec29 : Int32 → S5 → Option (Unit × S5)) (rec37 : Int32 → Int32 → S5 → Option (Unit × S5)) : ∀ (m r N : Nat) (mo : Bool) (ρ : S5), r + m = 2 ^ pa f → m < N → RM τ pa rt F ρs ρ mo (fun g y => g < f ∨ (g = f ∧ y < r)) → ∃ mo' ρ', f_X12_findTables_L55 rec29 rec37 N (b2i mo) (nI f) (nI (pa f)) (nI r) ρ = rec37 (b2i mo') (nI (f + 1)) ρ' ∧ RM τ pa rt F ρs ρ' mo' (fun g y => g < f ∨ (g = f ∧ y < 2 ^ pa f)) := by
  have hF6 := hD.1
  obtain ⟨p1, p2⟩ := hD.2.2.1 f hf
  have h28 : (2 : Nat) ^ pa f ≤ 2 ^ 8 := Nat.pow_le_pow_right (by omega) p2
  have h8 : (2 : Nat) ^ 8 = 256 := by decide
  intro m
  induction m with
  | zero =>
    intro r N mo ρ hid hN hI
    obtain ⟨N, rfl⟩ : ∃ m, N = m + 1 := ⟨N - 1, by omega⟩
    have hip : r = 2 ^ pa f := by omega
    refine ⟨mo, ρ, ?_, by rw [← hip]; exact hI⟩
    show f_X12_findTables_B55 _ _ _ _ _ _ _ _ = _
    unfold f_X12_findTables_B55
    rw [sh_8 _ (by omega), hip, if_pos (Int32.le_refl _), nI_add1]
  | succ m ih =>
    intro r N mo ρ hid hN hI
    obtain ⟨N, rfl⟩ : ∃ m, N = m + 1 := ⟨N - 1, by omega⟩
    obtain ⟨mo1, ρ1, t1, t2⟩ := ft_row (r := r) (Dn' := fun g y => g < f ∨ (g = f ∧ y < r + 1)) hD hR hf (by omega) hI (fun g y z => by
      rcases z with z | ⟨z1, z2⟩
      · exact Or.inl (Or.inl z)
      · by_cases hyr : y = r
        · exact Or.inr ⟨z1, hyr⟩
        · exact Or.inl (Or.inr ⟨z1, by omega⟩)) rec29 rec37 (f_X12_findTables_L55 rec29 rec37 N)
    obtain ⟨mo', ρ', q1, q2⟩ := ih (r + 1) N mo1 ρ1 (by omega) (by omega) t2
    refine ⟨mo', ρ', ?_, q2⟩
    rw [← q1, ← t1]
    show f_X12_findTables_B55 _ _ _ _ _ _ _ _ = _
    unfold f_X12_findTables_B55
    rw [sh_8 _ (by omega), if_neg (fun w => by have := (nI_le31 (by omega) (by omega)).mp w; omega)]
theorem ft_L37 {τ μ : S5} {pa : Nat → Nat} {rt : Nat → Int32} {F : Nat} {ρs : S5} (hD : MD τ μ pa rt F) (hR : RwE μ ρs) (h22 : gI ρs 22 = nI F) (rec29 : Int32 → S5 → Option (Unit × S5)) : ∀ (m f N : Nat) (mo : Bool) (ρ : S5), f + m = F → m < N → RM τ pa rt F ρs ρ mo (fun g _ => g < f) → ∃ mo' ρ', f_X12_findTables_L37 rec29 N (b2i mo) (nI f) ρ = rec29 (b2i mo') ρ' ∧ RM τ pa rt F ρs ρ' mo' (fun g _ => g < F) := by
  have hF6 := hD.1
  intro m
  induction m with
  | zero =>
    intro f N mo ρ hid hN hI
    obtain ⟨N, rfl⟩ : ∃ m, N = m + 1 := ⟨N - 1, by omega⟩
    have hip : f = F := by omega
    refine ⟨mo, ρ, ?_, by rw [hip] at hI; exact hI⟩
    show f_X12_findTables_B37 _ _ _ _ _ = _
    unfold f_X12_findTables_B37
    rw [hI.1.1 22, h22, hip, if_pos (Int32.le_refl _)]
  | succ m ih =>
    intro f N mo ρ hid hN hI
    obtain ⟨N, rfl⟩ : ∃ m, N = m + 1 := ⟨N - 1, by omega⟩
    obtain ⟨p1, p2⟩ := hD.2.2.1 f (by omega)
    have h28 : (2 : Nat) ^ pa f ≤ 2 ^ 8 := Nat.pow_le_pow_right (by omega) p2
    have h8 : (2 : Nat) ^ 8 = 256 := by decide
    obtain ⟨s1, s2, s3, s4, s5, s6⟩ := id hI
    obtain ⟨mo1, ρ1, t1, u1, u2, u3, u4, u5, u6⟩ := ft_L55 hD hR (f := f) (by omega) rec29 (f_X12_findTables_L37 rec29 N) (2 ^ pa f) 0 FU mo ρ (by omega) (by show 2 ^ pa f < 1099511627776; omega) ⟨s1, s2, s3, s4, fun w => ⟨(s5 w).1, fun g r hg hd => (s5 w).2 g r hg (by rcases hd with z | z; exact z; exact absurd z.2 (by omega))⟩, s6⟩
    obtain ⟨mo', ρ', q1, q2⟩ := ih (f + 1) N mo1 ρ1 (by omega) (by omega) ⟨u1, u2, u3, u4, fun w => ⟨(u5 w).1, fun g r hg hd => (u5 w).2 g r hg (by
      by_cases hgf : g = f
      · refine Or.inr ⟨hgf, ?_⟩
        rw [← hgf]
        exact rwN_lt r (pa g)
      · exact Or.inl (by omega))⟩, u6⟩
    refine ⟨mo', ρ', ?_, q2⟩
    rw [← q1]
    have t1' : f_X12_findTables_L55 rec29 (f_X12_findTables_L37 rec29 N) FU (b2i mo) (nI f) (nI (pa f)) 0 ρ = _ := t1
    rw [← t1']
    show f_X12_findTables_B37 _ _ _ _ _ = _
    unfold f_X12_findTables_B37
    rw [s1.1 22, h22, if_neg (fun w => by have := (nI_le31 (by omega) (by omega)).mp w; omega), gdn (by omega) (by omega), (s1.rw hR).x 47 _ (by decide) (by decide) (by decide) (by decide) (by decide), p1]
/-- THE REFERENCE'S TABLES ARE THE LEAST ONES -/
theorem ft_L29 {τ μ : S5} {pa : Nat → Nat} {rt : Nat → Int32} {F : Nat} {ρ0 : S5} (hD : MD τ μ pa rt F) (hR : RwE μ ρ0) (h22 : gI ρ0 22 = nI F) : ∀ (m i N : Nat) (mo : Bool) (ρ : S5), i + m = 161300 → m < N → (FrQ9 ρ0 ρ ∧ T01 ρ F ∧ (∃ k, TLe (TBm ρ pa) (Tj τ pa rt 41 k)) ∧ (mo = false → ∀ k, TLe (Tj τ pa rt 41 k) (TBm ρ pa) → TLe (Tj τ pa rt 41 (k + 1)) (TBm ρ pa)) ∧ (mo = true → i ≤ pre (w49 ρ) (256 * F))) → ∃ ρ', f_X12_findTables_L29 N (b2i mo) ρ = some ((), ρ') ∧ FrQ9 ρ0 ρ' ∧ T01 ρ' F ∧ TBm ρ' pa = Tl τ pa rt 41 := by
  obtain ⟨hF6, h22', hpa, hpF, hXf⟩ := id hD
  have fin : ∀ (N : Nat) (ρ : S5), (FrQ9 ρ0 ρ ∧ T01 ρ F ∧ (∃ k, TLe (TBm ρ pa) (Tj τ pa rt 41 k)) ∧ ∀ k, TLe (Tj τ pa rt 41 k) (TBm ρ pa) → TLe (Tj τ pa rt 41 (k + 1)) (TBm ρ pa)) → ∃ ρ', f_X12_findTables_L29 (N + 1) (b2i false) ρ = some ((), ρ') ∧ FrQ9 ρ0 ρ' ∧ T01 ρ' F ∧ TBm ρ' pa = Tl τ pa rt 41 := fun N ρ hI => by
    obtain ⟨s1, s2, ⟨k, s3⟩, s4⟩ := hI
    refine ⟨ρ, ?_, s1, s2, ?_⟩
    · show f_X12_findTables_B29 _ _ _ = _
      unfold f_X12_findTables_B29
      rw [if_pos (show b2i false = 0 from rfl)]
    · have h1 := Tl_min s4
      funext f r
      exact Bool.eq_iff_iff.mpr ⟨fun z => Tj_Tl τ pa rt 41 k f r (s3 f r z), fun z => h1 f r z⟩
  intro m
  induction m with
  | zero =>
    intro i N mo ρ hid hN hI
    obtain ⟨N, rfl⟩ : ∃ m, N = m + 1 := ⟨N - 1, by omega⟩
    obtain ⟨s1, s2, s3, s4, s5⟩ := hI
    cases mo with
    | false => exact fin N ρ ⟨s1, s2, s3, s4 rfl⟩
    | true =>
      have h1 := s5 rfl
      have h2 := pre_one (w49_1 ρ) (256 * F)
      omega
  | succ m ih =>
    intro i N mo ρ hid hN hI
    obtain ⟨N, rfl⟩ : ∃ m, N = m + 1 := ⟨N - 1, by omega⟩
    obtain ⟨s1, s2, s3, s4, s5⟩ := hI
    cases mo with
    | false => exact fin N ρ ⟨s1, s2, s3, s4 rfl⟩
    | true =>
      obtain ⟨mo', ρ', t1, u1, u2, u3, u4, u5, u6⟩ := ft_L37 (ρs := ρ) hD (s1.rw hR) (by rw [s1.1 22]; exact h22) (f_X12_findTables_L29 N) F 0 FU false ρ (by omega) (by show F < 1099511627776; omega) ⟨FrQ9.rf _, s2, s3, fun _ _ w => w, fun _ => ⟨fun _ _ => rfl, fun g r hg hd => absurd hd (by omega)⟩, fun w => absurd w (by decide)⟩
      have st : f_X12_findTables_L29 (N + 1) (b2i true) ρ = f_X12_findTables_L29 N (b2i mo') ρ' := by
        show f_X12_findTables_B29 _ _ _ = _
        unfold f_X12_findTables_B29
        rw [if_neg (by decide)]
        exact t1
      rw [st]
      refine ih (i + 1) N mo' ρ' (by omega) (by omega) ⟨s1.tr u1, u2, u3, fun w k hk g r hj => ?_, fun w => ?_⟩
      · have hg : g < F := by
          by_cases hg : g < F
          · exact hg
          · have h1 := hpF g (by omega)
            have h2 := (bP_t.mp hj).1
            omega
        have e : TBm ρ' pa = TBm ρ pa := TBm_eq hpF (u5 w).1
        rw [e] at hk ⊢
        exact (u5 w).2 g r hg hg k hk hj
      · have h1 := s5 rfl
        have h2 := u6 w
        omega
/-- the tables are emptied -/
theorem ft_L2 {F : Nat} (hF6 : F ≤ 630) {ρ : S5} (h22 : gI ρ 22 = nI F) : ∀ (m i N : Nat) (ρi : S5), i + m = 256 * F → m < N → (FrQ9 ρ ρi ∧ ∀ x, x < i → xA ρi 49 (nI x) = 0) → ∃ ρ', f_X12_findTables_L2 N (nI i) ρi = f_X12_findTables_L29 FU 1 ρ' ∧ FrQ9 ρ ρ' ∧ ∀ x, x < 256 * F → xA ρ' 49 (nI x) = 0 := by
  intro m
  induction m with
  | zero =>
    intro i N ρi hid hN hI
    obtain ⟨N, rfl⟩ : ∃ m, N = m + 1 := ⟨N - 1, by omega⟩
    have hip : i = 256 * F := by omega
    refine ⟨ρi, ?_, hI.1, by rw [← hip]; exact hI.2⟩
    show f_X12_findTables_B2 _ _ _ = _
    unfold f_X12_findTables_B2
    rw [hI.1.1 22, h22, nI_x256, hip, if_pos (Int32.le_refl _)]
  | succ m ih =>
    intro i N ρi hid hN hI
    obtain ⟨N, rfl⟩ : ∃ m, N = m + 1 := ⟨N - 1, by omega⟩
    have st : f_X12_findTables_L2 (N + 1) (nI i) ρi = f_X12_findTables_L2 N (nI (i + 1)) (pA ρi 49 (nI i) 0) := by
      show f_X12_findTables_B2 _ _ _ = _
      unfold f_X12_findTables_B2
      rw [hI.1.1 22, h22, nI_x256, if_neg (fun w => by have := (nI_le31 (by omega) (by omega)).mp w; omega), gdn (by omega) (by omega), nI_add1]
      rfl
    rw [st]
    refine ih (i + 1) N _ (by omega) (by omega) ⟨hI.1.tr ⟨fun _ => rfl, fun _ => rfl, fun j h4 _ _ => gA_ne _ _ _ h4, fun _ => rfl, rfl⟩, fun x hx => ?_⟩
    by_cases hxi : x = i
    · subst hxi
      rw [xA_self]
    · rw [xA_pA, if_neg (fun z => tn_neL (a := x) (b := i) (by omega) (by omega) hxi z.2)]
      exact hI.2 x (by omega)
/-- findTables -/
theorem ft_go {τ μ : S5} {pa : Nat → Nat} {rt : Nat → Int32} {F : Nat} (hD : MD τ μ pa rt F) : ∃ ρ', f_X12_findTables μ = some ((), ρ') ∧ FrQ9 μ ρ' ∧ T01 ρ' F ∧ TBm ρ' pa = Tl τ pa rt 41 := by
  obtain ⟨hF6, h22, hpa, hpF, hXf⟩ := id hD
  have hb := FU_big (n := 170000) (by decide)
  obtain ⟨ρ1, a1, a2, a3⟩ := ft_L2 hF6 h22 (256 * F) 0 FU μ (by omega) (by omega) ⟨FrQ9.rf _, fun x hx => absurd hx (by omega)⟩
  have hR : RwE μ μ := fun _ _ _ _ _ _ => rfl
  obtain ⟨ρ', b1, b2, b3, b4⟩ := ft_L29 (ρ0 := μ) hD hR h22 161300 0 FU true ρ1 (by omega) (by omega) ⟨a2, fun x hx => Or.inl (a3 x hx), ⟨0, fun f r w => by
    unfold TBm at w
    rw [Bool.and_eq_true] at w
    have hp8 : pa f ≤ 8 := of_decide_eq_true w.1
    have hg : f < F := by
      by_cases hg : f < F
      · exact hg
      · have := hpF f (by omega); omega
    have h256 := rw_256 (ρ := r) hp8
    have := of_decide_eq_true w.2
    rw [a3 _ (by omega)] at this
    exact absurd this (by decide)⟩, fun w => absurd w (by decide), fun _ => Nat.zero_le _⟩
  refine ⟨ρ', ?_, b2, b3, b4⟩
  unfold f_X12_findTables
  have a1' : f_X12_findTables_L2 FU 0 μ = _ := a1
  rw [a1']
  exact b1
