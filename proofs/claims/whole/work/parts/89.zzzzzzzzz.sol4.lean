/-- what solving writes -/
def FrY (σ σ' : S5) : Prop := (∀ j, ¬ j = 23 → ¬ j = 24 → gI σ' j = gI σ j) ∧ (∀ j, gJ σ' j = gJ σ j) ∧ (∀ j, ¬ j = 11 → ¬ j = 12 → ¬ j = 14 → gA σ' j = gA σ j) ∧ (∀ j, ¬ j = 5 → ¬ j = 6 → ¬ j = 7 → gB σ' j = gB σ j) ∧ σ'.2.2.2.2 = σ.2.2.2.2
theorem FrY.rf (σ : S5) : FrY σ σ := ⟨fun _ _ _ => rfl, fun _ => rfl, fun _ _ _ _ => rfl, fun _ _ _ _ => rfl, rfl⟩
theorem FrY.tr {σ σ1 σ2 : S5} (h : FrY σ σ1) (k : FrY σ1 σ2) : FrY σ σ2 := by
  obtain ⟨a1, a2, a3, a4, a5⟩ := h
  obtain ⟨b1, b2, b3, b4, b5⟩ := k
  exact ⟨fun j x y => (b1 j x y).trans (a1 j x y), fun j => (b2 j).trans (a2 j), fun j x y z => (b3 j x y z).trans (a3 j x y z), fun j x y z => (b4 j x y z).trans (a4 j x y z), b5.trans a5⟩
theorem FrI.v {σ σ' : S5} (h : FrI σ σ') : FrY σ σ' := ⟨h.1, h.2.1, fun j _ _ _ => h.2.2.1 j, h.2.2.2.1, h.2.2.2.2⟩
theorem FrL.v {σ σ' : S5} (h : FrL σ σ') : FrY σ σ' := ⟨h.1, h.2.1, fun j a _ b => h.2.2.1 j a b, fun j _ a b => h.2.2.2.1 j a b, h.2.2.2.2⟩
/-- the needed lets of a function -/
noncomputable def wL (τ : S5) (pa : Nat → Nat) (T : Nat → (Nat → Bool) → Bool) (g i : Nat) : Nat := if bP (xA τ 13 (nI i) = 7 ∧ xA τ 15 (nI i) = nI g ∧ NdL τ pa T (nI i)) = true then 1 else 0
/-- so many nodes are looked at -/
def MkI (τ : S5) (pa : Nat → Nat) (T : Nat → (Nat → Bool) → Bool) (F : Nat) (σ : S5) (i : Nat) (σi : S5) : Prop := FrL σ σi ∧ (∀ x, 0 ≤ x → xA σi 14 x = if x < nI i ∧ xA τ 13 x = 7 then (if bP (NdL τ pa T x) = true then 1 else 0) else xA σ 14 x) ∧ (∀ g, g < F → xA σi 11 (nI g) = nI (pre (wL τ pa T g) i))
theorem mk_L103 {τ : S5} {pa : Nat → Nat} {nv : Nat → Nat} {F Q : Nat} {σ : S5} {T : Nat → (Nat → Bool) → Bool} (hpa : ∀ g, g < F → xA τ 3 (nI g) = nI (pa g) ∧ pa g ≤ 8) (hF6 : F ≤ 630) (hQ : Q ≤ 6200) (hT : TBc σ pa = T) (hTm : TMo T) (hE : TE τ σ) (h2 : ∀ x, xB σ 2 x = xB τ 2 x) (h6 : ∀ x, xA σ 6 x = xA τ 6 x) (h22 : gI σ 22 = 0) (h8 : gI σ 8 = nI Q) (hK : ∀ c, 0 ≤ c → c < nI Q → xA τ 13 c = 7 → LtK τ nv F c) : ∀ (m i N : Nat) (σi : S5), i + m = Q → m < N → MkI τ pa T F σ i σi → ∃ σ', f_X1_solve_L103 (f_wordE 64) N (nI i) σi = some ((), σ') ∧ MkI τ pa T F σ Q σ' := by
  intro m
  induction m with
  | zero =>
    intro i N σi hid hN hI
    obtain ⟨N, rfl⟩ : ∃ m, N = m + 1 := ⟨N - 1, by omega⟩
    have hip : i = Q := by omega
    refine ⟨σi, ?_, by rw [← hip]; exact hI⟩
    show f_X1_solve_B103 _ _ _ _ = _
    unfold f_X1_solve_B103
    rw [hI.1.1 8 (by decide) (by decide), h8, if_pos (by rw [hip]; exact Int32.le_refl _)]
  | succ m ih =>
    intro i N σi hid hN hI
    obtain ⟨N, rfl⟩ : ∃ m, N = m + 1 := ⟨N - 1, by omega⟩
    obtain ⟨a1, a2, a3⟩ := hI
    have i0 : 0 ≤ nI i := i_le0 (nI_nneg (by omega))
    have i6 : nI i < 6200 := (nI_lt31 (b := 6200) (by omega) (by omega)).mpr (by omega)
    have iQ : nI i < nI Q := (nI_lt31 (by omega) (by omega)).mpr (by omega)
    have hlt : ∀ x : Int32, 0 ≤ x → (x < nI (i + 1) ↔ x < nI i ∨ x = nI i) := fun x x0 => by
      have e := nI_add1 i
      have i7 : nI i < 7000 := i_lt_le i6 (by decide)
      clear a1 a2 a3 ih hK
      grind
    have hEi : TE τ σi := by
      refine ⟨fun x => ?_, fun x => by rw [a1.x 2 _ (by decide) (by decide)]; exact hE.2.1 x, fun x => by rw [a1.x 3 _ (by decide) (by decide)]; exact hE.2.2 x⟩
      rw [a1.x 13 _ (by decide) (by decide), a1.x 15 _ (by decide) (by decide), a1.x 16 _ (by decide) (by decide), a1.x 17 _ (by decide) (by decide)]
      refine ⟨(hE.1 x).1, (hE.1 x).2.1, (hE.1 x).2.2.1, (hE.1 x).2.2.2.1, fun hx => ?_⟩
      have e : ∀ (ρ : S5) (j : Nat), xA ρ j x = xA ρ j (nI x.toNatClampNeg) := fun ρ j => by
        show gA ρ j x.toNatClampNeg = gA ρ j (nI x.toNatClampNeg).toNatClampNeg
        by_cases hx0 : 0 ≤ x
        · rw [← nI_tn hx0]
        · have hz : x.toNatClampNeg = 0 := by
            have : x.toInt ≤ 0 := by
              have h1 : x < 0 := by clear hE a1 a2 a3 hK ih; grind
              have := Int32.lt_iff_toInt_lt.mp h1
              have h0 : (0 : Int32).toInt = 0 := rfl
              omega
            unfold Int32.toNatClampNeg
            omega
          rw [hz]
          rfl
      have hb : x.toNatClampNeg < 2 ^ 31 := by
        have := Int32.toInt_lt x
        unfold Int32.toNatClampNeg
        omega
      rw [e σi, a2 _ (i_le0 (nI_nneg hb)), if_neg (fun z => hx (by rw [e τ]; exact z.2)), ← e σ]
      exact (hE.1 x).2.2.2.2 hx
    by_cases h7 : xA τ 13 (nI i) = 7
    · have eT : TBc σi pa = T := by
        rw [← hT]
        funext f ρ
        unfold TBc
        show (_ && lb (gB σi 5 _) _) = (_ && lb (gB σ 5 _) _)
        rw [a1.2.2.2.1 5 (by decide) (by decide)]
      obtain ⟨f, f1, f15, σ', s1, s2, b, s3, s4, s5⟩ := mk_go hpa hF6 eT hTm hEi (fun x => by
        rw [← h2 x]
        show gB σi 2 _ = gB σ 2 _
        rw [a1.2.2.2.1 2 (by decide) (by decide)]) (fun x => by rw [a1.x 6 _ (by decide) (by decide)]; exact h6 x) (by rw [a1.1 22 (by decide) (by decide)]; exact h22) h7 (hK _ i0 iQ h7)
      have eb : b = bP (NdL τ pa T (nI i)) := Bool.eq_iff_iff.mpr (s3.trans bP_t.symm)
      have hI2 : MkI τ pa T F σ (i + 1) σ' := by
        refine ⟨a1.tr s2, fun x x0 => ?_, fun g hg => ?_⟩
        · rw [s4 x x0]
          by_cases hxi : x = nI i
          · rw [if_pos hxi, if_pos (show x < nI (i + 1) ∧ xA τ 13 x = 7 from ⟨(hlt x x0).mpr (Or.inr hxi), by rw [hxi]; exact h7⟩), eb, hxi]
          · rw [if_neg hxi, a2 x x0]
            by_cases hx : x < nI i ∧ xA τ 13 x = 7
            · rw [if_pos hx, if_pos (show x < nI (i + 1) ∧ xA τ 13 x = 7 from ⟨(hlt x x0).mpr (Or.inl hx.1), hx.2⟩)]
            · rw [if_neg hx, if_neg (show ¬ (x < nI (i + 1) ∧ xA τ 13 x = 7) from fun z => hx ⟨by rcases (hlt x x0).mp z.1 with y | y; exact y; exact absurd y hxi, z.2⟩)]
        · rw [s5 g (by omega), a3 g hg]
          show _ = nI (pre (wL τ pa T g) i + wL τ pa T g i)
          unfold wL
          by_cases hc : g = f ∧ b = true
          · rw [if_pos hc, nI_add1, if_pos (bP_t.mpr ⟨h7, by rw [f15, hc.1], s3.mp hc.2⟩)]
          · rw [if_neg hc, if_neg (fun z => ?_), Nat.add_zero]
            obtain ⟨z1, z2, z3⟩ := bP_t.mp z
            refine hc ⟨?_, s3.mpr z3⟩
            rw [f15] at z2
            exact (nI_injL (by omega) (by omega) z2).symm
      obtain ⟨σ'', q1, q2⟩ := ih (i + 1) N σ' (by omega) (by omega) hI2
      refine ⟨σ'', ?_, q2⟩
      rw [← q1]
      show f_X1_solve_B103 _ _ _ _ = _
      unfold f_X1_solve_B103 f_X1_solve_b133
      rw [a1.1 8 (by decide) (by decide), h8, if_neg (fun w => by have := (nI_le31 (by omega) (by omega)).mp w; omega), gd6200 i0 i6, (hEi.1 _).1, if_pos h7, s1, bd_of, nI_add1]
    · have hI2 : MkI τ pa T F σ (i + 1) σi := by
        refine ⟨a1, fun x x0 => ?_, fun g hg => ?_⟩
        · rw [a2 x x0]
          by_cases hx : x < nI i ∧ xA τ 13 x = 7
          · rw [if_pos hx, if_pos (show x < nI (i + 1) ∧ xA τ 13 x = 7 from ⟨(hlt x x0).mpr (Or.inl hx.1), hx.2⟩)]
          · rw [if_neg hx, if_neg (show ¬ (x < nI (i + 1) ∧ xA τ 13 x = 7) from fun z => ?_)]
            rcases (hlt x x0).mp z.1 with y | y
            · exact hx ⟨y, z.2⟩
            · exact h7 (by rw [← y]; exact z.2)
        · rw [a3 g hg]
          show _ = nI (pre (wL τ pa T g) i + wL τ pa T g i)
          unfold wL
          rw [if_neg (fun z => h7 (bP_t.mp z).1), Nat.add_zero]
      obtain ⟨σ'', q1, q2⟩ := ih (i + 1) N σi (by omega) (by omega) hI2
      refine ⟨σ'', ?_, q2⟩
      rw [← q1]
      show f_X1_solve_B103 _ _ _ _ = _
      unfold f_X1_solve_B103 f_X1_solve_b133
      rw [a1.1 8 (by decide) (by decide), h8, if_neg (fun w => by have := (nI_le31 (by omega) (by omega)).mp w; omega), gd6200 i0 i6, (hEi.1 _).1, if_neg h7, nI_add1]
/-- what every function needs -/
theorem nd_L70 {σ : S5} {pa : Nat → Nat} {F : Nat} (hF6 : F ≤ 630) (h6 : gI σ 6 = nI F) (hpa : ∀ g, g < F → xA σ 3 (nI g) = nI (pa g) ∧ pa g ≤ 8) : ∀ (m i N : Nat) (σi : S5), i + m = F → m < N → ((∀ j, gI σi j = gI σ j) ∧ (∀ j, gJ σi j = gJ σ j) ∧ (∀ j, ¬ j = 12 → gA σi j = gA σ j) ∧ (∀ j, gB σi j = gB σ j) ∧ σi.2.2.2.2 = σ.2.2.2.2 ∧ ∀ f, f < i → xA σi 12 (nI f) = nI (ndN (TBc σ pa) pa f)) → ∃ σ', f_X1_solve_L70 (f_wordE 64) N (nI i) σi = f_X1_solve_L103 (f_wordE 64) FU 0 σ' ∧ ((∀ j, gI σ' j = gI σ j) ∧ (∀ j, gJ σ' j = gJ σ j) ∧ (∀ j, ¬ j = 12 → gA σ' j = gA σ j) ∧ (∀ j, gB σ' j = gB σ j) ∧ σ'.2.2.2.2 = σ.2.2.2.2 ∧ ∀ f, f < F → xA σ' 12 (nI f) = nI (ndN (TBc σ pa) pa f)) := by
  intro m
  induction m with
  | zero =>
    intro i N σi hid hN hI
    obtain ⟨N, rfl⟩ : ∃ m, N = m + 1 := ⟨N - 1, by omega⟩
    have hip : i = F := by omega
    refine ⟨σi, ?_, by rw [← hip]; exact hI⟩
    show f_X1_solve_B70 _ _ _ _ = _
    unfold f_X1_solve_B70
    rw [hI.1 6, h6, if_pos (by rw [hip]; exact Int32.le_refl _)]
  | succ m ih =>
    intro i N σi hid hN hI
    obtain ⟨N, rfl⟩ : ∃ m, N = m + 1 := ⟨N - 1, by omega⟩
    obtain ⟨a1, a2, a3, a4, a5, a6⟩ := hI
    obtain ⟨p1, p2⟩ := hpa i (by omega)
    have h3 : xA σi 3 (nI i) = nI (pa i) := by
      show gA σi 3 _ = _
      rw [a3 3 (by decide)]
      exact p1
    have eT : TBc σi pa = TBc σ pa := by
      funext f ρ
      unfold TBc
      show (_ && lb (gB σi 5 _) _) = (_ && lb (gB σ 5 _) _)
      rw [a4 5]
    have hn := nd_go (σ := σi) (pa := pa) (f := i) (by omega) h3 p2
    rw [eT] at hn
    have st : f_X1_solve_L70 (f_wordE 64) (N + 1) (nI i) σi = f_X1_solve_L70 (f_wordE 64) N (nI (i + 1)) (pA σi 12 (nI i) (nI (ndN (TBc σ pa) pa i))) := by
      show f_X1_solve_B70 _ _ _ _ = _
      unfold f_X1_solve_B70
      rw [a1 6, h6, if_neg (fun w => by have := (nI_le31 (by omega) (by omega)).mp w; omega), hn, bd_of, gdn (by omega) (by omega), nI_add1]
    rw [st]
    refine ih (i + 1) N _ (by omega) (by omega) ⟨a1, a2, fun j hj => by rw [gA_ne _ _ _ hj]; exact a3 j hj, a4, a5, fun f hf => ?_⟩
    by_cases hfi : f = i
    · subst hfi
      rw [xA_self]
    · rw [xA_pA, if_neg (fun z => tn_neL (a := f) (b := i) (by omega) (by omega) hfi z.2)]
      exact a6 f (by omega)
/-- what demand has found -/
def DM (τ : S5) (pa : Nat → Nat) (rt : Nat → Int32) (F Q : Nat) (σ σ' : S5) : Prop := TBc σ' pa = Tl τ pa rt 41 ∧ (∀ f, f < F → xA σ' 12 (nI f) = nI (ndN (Tl τ pa rt 41) pa f)) ∧ (∀ x, 0 ≤ x → xA σ' 14 x = if x < nI Q ∧ xA τ 13 x = 7 then (if bP (NdL τ pa (Tl τ pa rt 41) x) = true then 1 else 0) else xA σ 14 x) ∧ (∀ g, g < F → xA σ' 11 (nI g) = nI (pre (wL τ pa (Tl τ pa rt 41) g) Q))
/-- DEMAND, THE CLASS -/
theorem solve_go {τ : S5} {pa : Nat → Nat} {rt : Nat → Int32} {nv : Nat → Nat} {F Q : Nat} {σ : S5} (hD : DX τ pa rt nv F) (hQ : Q ≤ 6200) (hE : TF2 τ σ) (h2 : ∀ x, xB σ 2 x = xB τ 2 x) (h22 : gI σ 22 = 0) (h6 : gI σ 6 = nI F) (h8 : gI σ 8 = nI Q) (h11 : ∀ g, g < F → xA σ 11 (nI g) = 0) (hK : ∀ c, 0 ≤ c → c < nI Q → xA τ 13 c = 7 → LtK τ nv F c) : ∃ σ', f_X1_solve (f_wordE 64) σ = some ((), σ') ∧ FrY σ σ' ∧ DM τ pa rt F Q σ σ' := by
  obtain ⟨hF6, hpa, hpF, hX⟩ := id hD
  have hb := FU_big (n := 200001) (by decide)
  obtain ⟨σb, b1, b2, b3⟩ := fill_L10 (F := F) hF6 (σ := σ) (4 * F) 0 FU σ (by omega) (by omega) ⟨FrI.rf _, rfl, rfl, fun x hx => absurd hx (by omega)⟩
  have e4 : nI F * 4 = nI (4 * F) := nI_x4 F
  have hfill : f_J7_fill_bad5a_dem_table 0 (gI σ 6 * 4) 0 σ = some ((), σb) := by
    unfold f_J7_fill_bad5a_dem_table f_J7_rangeCheck_23922
    rw [h6, e4, if_pos (i_le0 (nI_nneg (by omega))), if_pos (by decide), if_pos (show nI (4 * F) ≤ 2520 from (nI_le31 (b := 2520) (by omega) (by omega)).mpr (by omega)), bd_of]
    exact b1
  have eTb : ∀ f ρ, TBc σb pa f ρ = false := fun f ρ => by
    unfold TBc
    by_cases hp8 : pa f ≤ 8
    · have hf : f < F := by
        by_cases hf : f < F
        · exact hf
        · have := hpF f (by omega); omega
      have h256 := rw_256 (ρ := ρ) hp8
      rw [b3 _ (by omega), lb_0, Bool.and_false]
    · rw [decide_eq_false hp8, Bool.false_and]
  have hMk : Mk σb pa F := fun f hf w hw l hl hlb => by
    rw [b3 _ (by omega), lb_0] at hlb
    exact absurd hlb (by decide)
  obtain ⟨σ1, c1, c2, c3⟩ := so_L22 hD (hE.of b2.2.2.1) (by rw [b2.1 22 (by decide) (by decide)]; exact h22) (by rw [b2.1 6 (by decide) (by decide)]; exact h6) 200000 0 FU 1 σb (by omega) (by omega) ⟨FrI.rf _, Or.inr rfl, ⟨0, fun f ρ z => by rw [eTb] at z; exact absurd z (by decide)⟩, fun f ρ z => absurd z Bool.false_ne_true, hMk, fun z => absurd z (by decide), fun _ => Or.inl rfl⟩
  have f1 := b2.tr c2
  have hE1 := hE.of f1.2.2.1
  obtain ⟨σ2, d1, d2, d3, d4, d5, d6, d7⟩ := nd_L70 (σ := σ1) (pa := pa) hF6 (by rw [f1.1 6 (by decide) (by decide)]; exact h6) (fun g hg => ⟨by rw [hE1.1.2.2]; exact (hpa g hg).1, (hpa g hg).2⟩) F 0 FU σ1 (by omega) (by omega) ⟨fun _ => rfl, fun _ => rfl, fun _ _ => rfl, fun _ => rfl, rfl, fun f hf => absurd hf (by omega)⟩
  rw [c3] at d7
  have x12 : ∀ j x, ¬ j = 12 → xA σ2 j x = xA σ j x := fun j x hj => by
    show gA σ2 j _ = gA σ j _
    rw [d4 j hj, f1.2.2.1 j]
  have hE2 : TE τ σ2 := by
    refine ⟨fun x => ?_, fun x => by rw [x12 2 _ (by decide)]; exact hE.1.2.1 x, fun x => by rw [x12 3 _ (by decide)]; exact hE.1.2.2 x⟩
    rw [x12 13 _ (by decide), x12 14 _ (by decide), x12 15 _ (by decide), x12 16 _ (by decide), x12 17 _ (by decide)]
    exact hE.1.1 x
  have eT2 : TBc σ2 pa = Tl τ pa rt 41 := by
    rw [← c3]
    funext f ρ
    unfold TBc
    show (_ && lb (gB σ2 5 _) _) = (_ && lb (gB σ1 5 _) _)
    rw [d5 5]
  obtain ⟨σ3, e1, e2, e3, e5⟩ := mk_L103 (nv := nv) hpa hF6 hQ eT2 (Tl_mo τ pa rt 41) hE2 (fun x => by
    rw [← h2 x]
    show gB σ2 2 _ = gB σ 2 _
    rw [d5 2, f1.2.2.2.1 2 (by decide) (by decide) (by decide)]) (fun x => by rw [x12 6 _ (by decide)]; exact hE.2.2 x) (by rw [d2 22, f1.1 22 (by decide) (by decide)]; exact h22) (by rw [d2 8, f1.1 8 (by decide) (by decide)]; exact h8) hK Q 0 FU σ2 (by omega) (by omega) ⟨FrL.rf _, fun x x0 => by rw [if_neg (fun z => by have := z.1; clear e4 hK hX hpa; exact absurd x0 (by have h0 : nI 0 = 0 := rfl; rw [h0] at this; grind))], fun g hg => by rw [x12 11 _ (by decide), h11 g hg]; rfl⟩
  refine ⟨σ3, ?_, (f1.v.tr ⟨fun j _ _ => d2 j, d3, fun j _ h12 _ => d4 j h12, fun j _ _ _ => d5 j, d6⟩).tr e2.v, ?_, fun f hf => ?_, fun x x0 => ?_, e5⟩
  · unfold f_X1_solve
    rw [hfill, bd_of]
    have c1' : f_X1_solve_L22 (f_wordE 64) FU 1 0 σb = _ := c1
    rw [c1']
    unfold f_X1_solve_b68
    have d1' : f_X1_solve_L70 (f_wordE 64) FU 0 σ1 = _ := d1
    rw [d1']
    exact e1
  · rw [← eT2]
    funext f ρ
    unfold TBc
    show (_ && lb (gB σ3 5 _) _) = (_ && lb (gB σ2 5 _) _)
    rw [e2.2.2.2.1 5 (by decide) (by decide)]
  · rw [e2.x 12 _ (by decide) (by decide)]
    exact d7 f hf
  · rw [e3 x x0, x12 14 _ (by decide)]
