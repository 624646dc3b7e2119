/-- the needs of lets, as found -/
def N36 (τ μ : S5) (pa : Nat → Nat) (F : Nat) (T : Nat → (Nat → Bool) → Bool) (i : Nat) (ρ : S5) : Prop := ∀ n, n < i → ∀ c q Sc lo hi, JT τ μ F c q n Sc lo hi → hi ≤ 40 → hF τ c < 41 → xA ρ 36 (nI n) = b2i (bP (xA τ 13 c = 7 ∧ NdL τ pa T c))
theorem fn_L2 {τ μ ρ : S5} {pa : Nat → Nat} {F M : Nat} {T : Nat → (Nat → Bool) → Bool} (hpa : ∀ g, g < F → xA μ 47 (nI g) = nI (pa g) ∧ pa g ≤ 8) (hF6 : F ≤ 630) (hR : RwE μ ρ) (hB5 : ∀ x, xB ρ 5 x = xB μ 5 x) (hT : T01 ρ F) (eT : TBm ρ pa = T) (hTm : TMo T) (h26 : gI ρ 26 = nI M) (hM : M ≤ 7000) (hN : ∀ n, n < M → ∃ c q Sc lo hi, JT τ μ F c q n Sc lo hi ∧ hi ≤ 40 ∧ hF τ c < 41) : ∀ (m i N : Nat) (ρi : S5), i + m = M → m < N → (FrU6 ρ ρi ∧ (∀ x, i ≤ x → x < M → xA ρi 36 (nI x) = 0) ∧ N36 τ μ pa F T i ρi) → ∃ ρ', f_X12_findNeeds_L2 N (nI i) ρi = some ((), ρ') ∧ FrU6 ρ ρ' ∧ N36 τ μ pa F T M ρ' := by
  intro m
  induction m with
  | zero =>
    intro i N ρi hid hNN hI
    obtain ⟨N, rfl⟩ : ∃ m, N = m + 1 := ⟨N - 1, by omega⟩
    have hip : i = M := by omega
    refine ⟨ρi, ?_, hI.1, by rw [← hip]; exact hI.2.2⟩
    show f_X12_findNeeds_B2 _ _ _ = _
    unfold f_X12_findNeeds_B2
    rw [hI.1.1 26, h26, hip, if_pos (Int32.le_refl _)]
  | succ m ih =>
    intro i N ρi hid hNN hI
    obtain ⟨N, rfl⟩ : ∃ m, N = m + 1 := ⟨N - 1, by omega⟩
    obtain ⟨s1, s2, s3⟩ := hI
    have e49 : ∀ y, xA ρi 49 y = xA ρ 49 y := fun y => s1.x 49 _ (by decide) (by decide) (by decide)
    have hTi : T01 ρi F := fun x hx => by rw [e49]; exact hT x hx
    have eTi : TBm ρi pa = T := by
      rw [← eT]
      funext f r
      unfold TBm
      rw [e49]
    have step := fun c q Sc lo hi (h : JT τ μ F c q i Sc lo hi) (h40 : hi ≤ 40) (h41 : hF τ c < 41) => fn_step (M := M) hpa hF6 (s1.rw hR) (fun x => by rw [← hB5 x]; show gB ρi 5 _ = gB ρ 5 _; rw [s1.2.2.2.1 5]) hTi eTi hTm (by rw [s1.1 26]; exact h26) hM (by omega) (s2 i (Nat.le_refl _) (by omega)) h h40 h41
    obtain ⟨c, q, Sc, lo, hi, j1, j2, j3⟩ := hN i (by omega)
    obtain ⟨ρ1, t1, t2, t3, t4⟩ := step c q Sc lo hi j1 j2 j3
    obtain ⟨ρ', q1, q2⟩ := ih (i + 1) N ρ1 (by omega) (by omega) ⟨s1.tr t2, fun x h1 h2 => by rw [t3 x (by omega) (by omega)]; exact s2 x (by omega) h2, fun n hn c' q' Sc' lo' hi' k1 k2 k3 => by
      by_cases hni : n = i
      · subst hni
        obtain ⟨ρ2, u1, u2, u3, u4⟩ := step c' q' Sc' lo' hi' k1 k2 k3
        have e1 := t1 (fun _ σ => some ((), σ))
        rw [u1 (fun _ σ => some ((), σ))] at e1
        injection e1 with e2
        rw [← (Prod.mk.inj e2).2]
        exact u4
      · rw [t3 n (by omega) hni]
        exact s3 n (by omega) c' q' Sc' lo' hi' k1 k2 k3⟩
    refine ⟨ρ', ?_, q2⟩
    rw [← q1]
    show f_X12_findNeeds_B2 _ _ _ = _
    exact t1 _
/-- what a function's parameter needs, the reference -/
theorem in_go {μ ρ : S5} {pa : Nat → Nat} {F f i : Nat} (hR : RwE μ ρ) (hF6 : F ≤ 630) (hT : T01 ρ F) (hf : f < F) (h47 : xA μ 47 (nI f) = nI (pa f)) (hp : pa f ≤ 8) (hi : i < pa f) : f_X12_isNeeded (nI f) (nI i) ρ = some (b2i (!TBm ρ pa f (fun j => decide (¬ j = i))), ρ) := by
  unfold f_X12_isNeeded
  rw [gdn (by omega) (by omega), hR.x 47 _ (by decide) (by decide) (by decide) (by decide) (by decide), h47, ones_n _ (by omega) i hi, tab_go hF6 hT hf hp, bd_of]
  cases TBm ρ pa f (fun j => decide (¬ j = i)) <;> rfl
def FrU7 (ρ ρ' : S5) : Prop := (∀ j, gI ρ' j = gI ρ j) ∧ (∀ j, gJ ρ' j = gJ ρ j) ∧ (∀ j, ¬ j = 52 → gA ρ' j = gA ρ j) ∧ (∀ j, gB ρ' j = gB ρ j) ∧ ρ'.2.2.2.2 = ρ.2.2.2.2
theorem FrU7.rf (ρ : S5) : FrU7 ρ ρ := ⟨fun _ => rfl, fun _ => rfl, fun _ _ => rfl, fun _ => rfl, rfl⟩
theorem FrU7.x {ρ ρ' : S5} (h : FrU7 ρ ρ') (j : Nat) (x : Int32) (h0 : ¬ j = 52) : xA ρ' j x = xA ρ j x := by
  show gA ρ' j _ = gA ρ j _
  rw [h.2.2.1 j h0]
theorem nI_x8 (f : Nat) : 8 * nI f = nI (8 * f) := by
  show Int32.ofNat 8 * Int32.ofNat f = Int32.ofNat (8 * f)
  rw [← Int32.ofNat_mul]
/-- the needed parameters are kept -/
theorem nk_L139 {μ ρ : S5} {pa : Nat → Nat} {F f : Nat} (rec129 : Int32 → S5 → Option (Int32 × S5)) (hR : RwE μ ρ) (hF6 : F ≤ 630) (hT : T01 ρ F) (hf : f < F) (h47 : xA μ 47 (nI f) = nI (pa f)) (hp : pa f ≤ 8) : ∀ (m i N : Nat) (ρi : S5), i + m = pa f → m < N → (FrU7 ρ ρi ∧ (∀ g j, g < f → j < pa g → pa g ≤ 8 → xA ρi 52 (nI (8 * g + j)) = b2i (!TBm ρ pa g (fun k => decide (¬ k = j)))) ∧ ∀ j, j < i → xA ρi 52 (nI (8 * f + j)) = b2i (!TBm ρ pa f (fun k => decide (¬ k = j)))) → ∃ ρ', f_X12_program_L139 rec129 N (nI f) (nI i) ρi = rec129 (nI (f + 1)) ρ' ∧ FrU7 ρ ρ' ∧ ∀ g j, g < f + 1 → j < pa g → pa g ≤ 8 → xA ρ' 52 (nI (8 * g + j)) = b2i (!TBm ρ pa g (fun k => decide (¬ k = j))) := by
  intro m
  induction m with
  | zero =>
    intro i N ρi hid hN hI
    obtain ⟨N, rfl⟩ : ∃ m, N = m + 1 := ⟨N - 1, by omega⟩
    have hip : i = pa f := by omega
    refine ⟨ρi, ?_, hI.1, fun g j hg hj hp8 => ?_⟩
    · show f_X12_program_B139 _ _ _ _ _ = _
      unfold f_X12_program_B139
      rw [gdn (by omega) (by omega), hI.1.x 47 _ (by decide), hR.x 47 _ (by decide) (by decide) (by decide) (by decide) (by decide), h47, hip, if_pos (Int32.le_refl _), nI_add1]
    · by_cases hgf : g = f
      · subst hgf
        exact hI.2.2 j (by omega)
      · exact hI.2.1 g j (by omega) hj hp8
  | succ m ih =>
    intro i N ρi hid hN hI
    obtain ⟨N, rfl⟩ : ∃ m, N = m + 1 := ⟨N - 1, by omega⟩
    obtain ⟨s1, s2, s3⟩ := hI
    have e49 : ∀ y, xA ρi 49 y = xA ρ 49 y := fun y => s1.x 49 _ (by decide)
    have eTi : TBm ρi pa = TBm ρ pa := by
      funext f r
      unfold TBm
      rw [e49]
    have hRi : RwE μ ρi := fun j h0 h1 h2 h3 h4 => by rw [s1.2.2.1 j h4, hR j h0 h1 h2 h3 h4]
    have hn := in_go (ρ := ρi) (i := i) hRi hF6 (fun x hx => by rw [e49]; exact hT x hx) hf h47 hp (by omega)
    rw [eTi] at hn
    have st : f_X12_program_L139 rec129 (N + 1) (nI f) (nI i) ρi = f_X12_program_L139 rec129 N (nI f) (nI (i + 1)) (pA ρi 52 (nI (8 * f + i)) (b2i (!TBm ρ pa f (fun k => decide (¬ k = i))))) := by
      show f_X12_program_B139 _ _ _ _ _ = _
      unfold f_X12_program_B139
      rw [gdn (by omega) (by omega), hRi.x 47 _ (by decide) (by decide) (by decide) (by decide) (by decide), h47, if_neg (fun w => by have := (nI_le31 (by omega) (by omega)).mp w; omega), hn, bd_of, nI_x8, nI_plus, gdn (by omega) (by omega), nI_add1, b2i_nar]
    rw [st]
    refine ih (i + 1) N _ (by omega) (by omega) ⟨⟨s1.1, s1.2.1, fun j h5 => by rw [gA_ne _ _ _ h5]; exact s1.2.2.1 j h5, s1.2.2.2.1, s1.2.2.2.2⟩, fun g j hg hj hp8 => ?_, fun j hj => ?_⟩
    · rw [xA_pA, if_neg (fun z => tn_neL (a := 8 * g + j) (b := 8 * f + i) (by omega) (by omega) (by omega) z.2)]
      exact s2 g j hg hj hp8
    · by_cases hji : j = i
      · subst hji
        rw [xA_self]
      · rw [xA_pA, if_neg (fun z => tn_neL (a := 8 * f + j) (b := 8 * f + i) (by omega) (by omega) (by omega) z.2)]
        exact s3 j (by omega)
theorem nk_L129 {μ ρ : S5} {pa : Nat → Nat} {F : Nat} (hR : RwE μ ρ) (hF6 : F ≤ 630) (hT : T01 ρ F) (h22 : gI ρ 22 = nI F) (hpa : ∀ g, g < F → xA μ 47 (nI g) = nI (pa g) ∧ pa g ≤ 8) : ∀ (m f N : Nat) (ρi : S5), f + m = F → m < N → (FrU7 ρ ρi ∧ ∀ g j, g < f → j < pa g → pa g ≤ 8 → xA ρi 52 (nI (8 * g + j)) = b2i (!TBm ρ pa g (fun k => decide (¬ k = j)))) → ∃ ρ', f_X12_program_L129 N (nI f) ρi = some (nI F, pI ρ' 29 1) ∧ FrU7 ρ ρ' ∧ ∀ g j, g < F → j < pa g → pa g ≤ 8 → xA ρ' 52 (nI (8 * g + j)) = b2i (!TBm ρ pa g (fun k => decide (¬ k = j))) := by
  intro m
  induction m with
  | zero =>
    intro f N ρi hid hN hI
    obtain ⟨N, rfl⟩ : ∃ m, N = m + 1 := ⟨N - 1, by omega⟩
    have hip : f = F := by omega
    refine ⟨ρi, ?_, hI.1, by rw [hip] at hI; exact hI.2⟩
    show f_X12_program_B129 _ _ _ = _
    unfold f_X12_program_B129
    rw [hI.1.1 22, h22, hip, if_pos (Int32.le_refl _)]
  | succ m ih =>
    intro f N ρi hid hN hI
    obtain ⟨N, rfl⟩ : ∃ m, N = m + 1 := ⟨N - 1, by omega⟩
    obtain ⟨p1, p2⟩ := hpa f (by omega)
    obtain ⟨ρ1, t1, t2, t3⟩ := nk_L139 (f_X12_program_L129 N) hR hF6 hT (show f < F by omega) p1 p2 (pa f) 0 FU ρi (by omega) (by show pa f < 1099511627776; omega) ⟨hI.1, hI.2, fun j hj => absurd hj (by omega)⟩
    obtain ⟨ρ', q1, q2⟩ := ih (f + 1) N ρ1 (by omega) (by omega) ⟨t2, t3⟩
    refine ⟨ρ', ?_, q2⟩
    rw [← q1, ← t1]
    show f_X12_program_B129 _ _ _ = _
    unfold f_X12_program_B129
    rw [hI.1.1 22, h22, if_neg (fun w => by have := (nI_le31 (by omega) (by omega)).mp w; omega)]
    rfl
/-- what demand has found, the reference -/
def DMm (τ μ : S5) (pa : Nat → Nat) (rt : Nat → Int32) (F M : Nat) (μ' : S5) : Prop := (T01 μ' F ∧ TBm μ' pa = Tl τ pa rt 41) ∧ N36 τ μ pa F (Tl τ pa rt 41) M μ' ∧ (∀ g j, g < F → j < pa g → xA μ' 52 (nI (8 * g + j)) = b2i (!Tl τ pa rt 41 g (fun k => decide (¬ k = j)))) ∧ ((∀ j, ¬ j = 29 → ¬ j = 30 → ¬ j = 31 → gI μ' j = gI μ j) ∧ (∀ j, gJ μ' j = gJ μ j) ∧ (∀ j, ¬ j = 36 → ¬ j = 49 → ¬ j = 50 → ¬ j = 51 → ¬ j = 52 → gA μ' j = gA μ j) ∧ (∀ j, gB μ' j = gB μ j) ∧ μ'.2.2.2.2 = μ.2.2.2.2) ∧ gI μ' 29 = 1 ∧ gI μ' 30 = 0 ∧ gI μ' 31 = -1
/-- DEMAND, THE REFERENCE -/
theorem mdem_go {τ μ : S5} {pa : Nat → Nat} {rt : Nat → Int32} {F M : Nat} (hD : MD τ μ pa rt F) (h7 : gI μ 7 = 0) (h26 : gI μ 26 = nI M) (hM : M ≤ 7000) (h36 : ∀ x, x < M → xA μ 36 (nI x) = 0) (hN : ∀ n, n < M → ∃ c q Sc lo hi, JT τ μ F c q n Sc lo hi ∧ hi ≤ 40 ∧ hF τ c < 41) : ∃ μ', f_X12_program_b83 μ = some (nI F, μ') ∧ DMm τ μ pa rt F M μ' := by
  obtain ⟨μ1, e1⟩ : ∃ μ1, μ1 = pI (pI μ 30 0) 31 (-1) := ⟨_, rfl⟩
  have hD1 : MD τ μ1 pa rt F := by
    obtain ⟨a1, a2, a3, a4, a5⟩ := hD
    refine ⟨a1, by rw [e1, gI_pI, if_neg (by decide), gI_pI, if_neg (by decide)]; exact a2, fun g hg => by rw [e1]; exact a3 g hg, a4, fun f hf => ?_⟩
    rw [e1]
    exact a5 f hf
  have hb := FU_big (n := 7001) (by decide)
  obtain ⟨ρ1, b1, b2, b3, b4⟩ := ft_go hD1
  have hpa := hD.2.2.1
  have hR1 : RwE μ ρ1 := fun j h0 h1 h2 h3 h4 => by rw [b2.2.2.1 j h1 h2 h3, e1]; rfl
  have h26' : gI ρ1 26 = nI M := by rw [b2.1 26, e1, gI_pI, if_neg (by decide), gI_pI, if_neg (by decide)]; exact h26
  obtain ⟨ρ2, c1, c2, c3⟩ := fn_L2 (μ := μ) hpa hD.1 hR1 (fun x => by show gB ρ1 5 _ = gB μ 5 _; rw [b2.2.2.2.1 5, e1]; rfl) b3 b4 (Tl_mo τ pa rt 41) h26' hM hN M 0 FU ρ1 (by omega) (by omega) ⟨FrU6.rf _, fun x _ hx => by
    show gA ρ1 36 _ = 0
    rw [b2.2.2.1 36 (by decide) (by decide) (by decide), e1]
    exact h36 x hx, fun n hn => absurd hn (by omega)⟩
  have e49 : ∀ y, xA ρ2 49 y = xA ρ1 49 y := fun y => c2.x 49 _ (by decide) (by decide) (by decide)
  have hT2 : T01 ρ2 F := fun x hx => by rw [e49]; exact b3 x hx
  have eT2 : TBm ρ2 pa = Tl τ pa rt 41 := by
    rw [← b4]
    funext f r
    unfold TBm
    rw [e49]
  obtain ⟨ρ3, d1, d2, d3⟩ := nk_L129 (μ := μ) (pa := pa) (c2.rw hR1) hD.1 hT2 (by rw [c2.1 22, b2.1 22, e1, gI_pI, if_neg (by decide), gI_pI, if_neg (by decide)]; exact hD.2.1) hpa F 0 FU ρ2 (by omega) (by have := hD.1; omega) ⟨FrU7.rf _, fun g j hg => absurd hg (by omega)⟩
  have e49' : ∀ y, xA (pI ρ3 29 1) 49 y = xA ρ2 49 y := fun y => d2.x 49 _ (by decide)
  refine ⟨pI ρ3 29 1, ?_, ⟨fun x hx => by rw [e49']; exact hT2 x hx, ?_⟩, fun n hn c q Sc lo hi k1 k2 k3 => ?_, fun g j hg hj => ?_, ⟨fun j h1 h2 h3 => ?_, fun j => ?_, fun j h0 h1 h2 h3 h4 => ?_, fun j => ?_, ?_⟩, by rw [gI_pI, if_pos rfl], ?_, ?_⟩
  · unfold f_X12_program_b83
    rw [h7, if_pos (by decide)]
    unfold f_X12_program_b107
    have h77 : gI (pI μ 30 0) 7 = 0 := by rw [gI_pI, if_neg (by decide)]; exact h7
    rw [h77, if_pos (by decide), ← e1, b1, bd_of]
    have c1' : f_X12_findNeeds ρ1 = some ((), ρ2) := c1
    rw [c1', bd_of]
    exact d1
  · rw [← eT2]
    funext f r
    unfold TBm
    rw [e49']
  · rw [show xA (pI ρ3 29 1) 36 (nI n) = xA ρ2 36 (nI n) from d2.x 36 _ (by decide)]
    exact c3 n hn c q Sc lo hi k1 k2 k3
  · rw [← eT2]
    exact d3 g j hg hj (hpa g hg).2
  · rw [gI_pI, if_neg h1, d2.1 j, c2.1 j, b2.1 j, e1, gI_pI, if_neg h3, gI_pI, if_neg h2]
  · show gJ ρ3 j = gJ μ j
    rw [d2.2.1 j, c2.2.1 j, b2.2.1 j, e1]
    rfl
  · show gA ρ3 j = gA μ j
    rw [d2.2.2.1 j h4, c2.2.2.1 j h0 h2 h3, b2.2.2.1 j h1 h2 h3, e1]
    rfl
  · show gB ρ3 j = gB μ j
    rw [d2.2.2.2.1 j, c2.2.2.2.1 j, b2.2.2.2.1 j, e1]
    rfl
  · show ρ3.2.2.2.2 = μ.2.2.2.2
    rw [d2.2.2.2.2, c2.2.2.2.2, b2.2.2.2.2, e1]
    rfl
  · rw [gI_pI, if_neg (by decide), d2.1 30, c2.1 30, b2.1 30, e1, gI_pI, if_neg (by decide), gI_pI, if_pos rfl]
  · rw [gI_pI, if_neg (by decide), d2.1 31, c2.1 31, b2.1 31, e1, gI_pI, if_pos rfl]
