/-- what is known of the reference's lifted functions -/
def MD (τ μ : S5) (pa : Nat → Nat) (rt : Nat → Int32) (F : Nat) : Prop := F ≤ 630 ∧ gI μ 22 = nI F ∧ (∀ g, g < F → xA μ 47 (nI g) = nI (pa g) ∧ pa g ≤ 8) ∧ (∀ g, F ≤ g → 8 < pa g) ∧ ∀ f, f < F → ∃ q p hi, xA μ 44 (nI f) = nI q ∧ xA μ 45 (nI f) = nI p ∧ JT τ μ F (rt f) q p (fun x => x < pa f) (pa f) hi ∧ hi ≤ 40 ∧ hF τ (rt f) < 41
/-- what finding the tables writes -/
def FrQ9 (ρ ρ' : S5) : Prop := (∀ j, gI ρ' j = gI ρ j) ∧ (∀ j, gJ ρ' j = gJ ρ j) ∧ (∀ j, ¬ j = 49 → ¬ j = 50 → ¬ j = 51 → gA ρ' j = gA ρ j) ∧ (∀ j, gB ρ' j = gB ρ j) ∧ ρ'.2.2.2.2 = ρ.2.2.2.2
theorem FrQ9.rf (ρ : S5) : FrQ9 ρ ρ := ⟨fun _ => rfl, fun _ => rfl, fun _ _ _ _ => rfl, fun _ => rfl, rfl⟩
theorem FrQ9.tr {ρ ρ1 ρ2 : S5} (h : FrQ9 ρ ρ1) (k : FrQ9 ρ1 ρ2) : FrQ9 ρ ρ2 := by
  obtain ⟨a1, a2, a3, a4, a5⟩ := h
  obtain ⟨b1, b2, b3, b4, b5⟩ := k
  exact ⟨fun j => (b1 j).trans (a1 j), fun j => (b2 j).trans (a2 j), fun j x y z => (b3 j x y z).trans (a3 j x y z), fun j => (b4 j).trans (a4 j), b5.trans a5⟩
theorem FrQ9.rw {μ ρ ρ' : S5} (h : FrQ9 ρ ρ') (k : RwE μ ρ) : RwE μ ρ' := fun j h0 h1 h2 h3 h4 => by rw [h.2.2.1 j h1 h2 h3, k j h0 h1 h2 h3 h4]
theorem FrZ.q {ρ ρ' : S5} (h : FrZ ρ ρ') : FrQ9 ρ ρ' := ⟨h.1, h.2.1, fun j _ a b => h.2.2.1 j a b, h.2.2.2.1, h.2.2.2.2⟩
/-- how many entries are set -/
def w49 (ρ : S5) (y : Nat) : Nat := if xA ρ 49 (nI y) = 1 then 1 else 0
theorem w49_1 (ρ : S5) (x : Nat) : w49 ρ x ≤ 1 := by
  unfold w49
  split <;> omega
/-- in a round of the reference -/
def RM (τ : S5) (pa : Nat → Nat) (rt : Nat → Int32) (F : Nat) (ρs ρ : S5) (mo : Bool) (Dn : Nat → Nat → Prop) : Prop := FrQ9 ρs ρ ∧ T01 ρ F ∧ (∃ k, TLe (TBm ρ pa) (Tj τ pa rt 41 k)) ∧ (∀ y, y < 256 * F → xA ρs 49 (nI y) = 1 → xA ρ 49 (nI y) = 1) ∧ (mo = false → (∀ y, y < 256 * F → xA ρ 49 (nI y) = xA ρs 49 (nI y)) ∧ ∀ f r, f < F → Dn f (rwN r (pa f)) → ∀ k, TLe (Tj τ pa rt 41 k) (TBm ρs pa) → Tj τ pa rt 41 (k + 1) f r = true → TBm ρs pa f r = true) ∧ (mo = true → pre (w49 ρs) (256 * F) < pre (w49 ρ) (256 * F))
theorem TBm_eq {ρ ρ' : S5} {pa : Nat → Nat} {F : Nat} (hpF : ∀ g, F ≤ g → 8 < pa g) (h : ∀ y, y < 256 * F → xA ρ' 49 (nI y) = xA ρ 49 (nI y)) : TBm ρ' pa = TBm ρ pa := by
  funext g r
  unfold TBm
  by_cases hp8 : pa g ≤ 8
  · have hg : g < F := by
      by_cases hg : g < F
      · exact hg
      · have := hpF g (by omega); omega
    have h256 := rw_256 (ρ := r) hp8
    rw [h _ (by omega)]
  · rw [decide_eq_false hp8, Bool.false_and, Bool.false_and]
theorem bit_r {r i : Nat} (hr : r < 256) (hi : i < 8) : (((nI r >>> (nI i &&& 31)) &&& 1) = 1) ↔ r.testBit i = true := by
  have key : ∀ a, a < 16 → ∀ b, b < 16 → ∀ i, i < 8 → ((((nI (16 * a + b) >>> (nI i &&& 31)) &&& 1) = 1) ↔ (16 * a + b).testBit i = true) := by decide
  have e := key (r / 16) (by omega) (r % 16) (by omega) i hi
  rw [Nat.div_add_mod] at e
  exact e
/-- a row's bits are given to the parameters -/
theorem ft_L66 {rec29 : Int32 → S5 → Option (Unit × S5)} {rec37 : Int32 → Int32 → S5 → Option (Unit × S5)} {rec55 : Int32 → Int32 → Int32 → Int32 → S5 → Option (Unit × S5)} {v1 : Int32} {f p r : Nat} {ρ : S5} (hp : p ≤ 8) (hr : r < 256) : ∀ (m i N : Nat) (ρi : S5), i + m = p → m < N → (FrZ ρ ρi ∧ ∀ x, x < i → xA ρi 51 (nI x) = b2i (r.testBit x)) → ∃ ρ' M, f_X12_findTables_L66 rec29 rec37 rec55 N v1 (nI f) (nI p) (nI r) (nI i) ρi = f_X12_findTables_B66 rec29 rec37 rec55 (f_X12_findTables_L66 rec29 rec37 rec55 M) v1 (nI f) (nI p) (nI r) (nI p) ρ' ∧ FrZ ρ ρ' ∧ ∀ x, x < p → xA ρ' 51 (nI x) = b2i (r.testBit x) := by
  intro m
  induction m with
  | zero =>
    intro i N ρi hid hN hI
    obtain ⟨N, rfl⟩ : ∃ m, N = m + 1 := ⟨N - 1, by omega⟩
    have hip : i = p := by omega
    subst hip
    exact ⟨ρi, N, rfl, hI⟩
  | succ m ih =>
    intro i N ρi hid hN hI
    obtain ⟨N, rfl⟩ : ∃ m, N = m + 1 := ⟨N - 1, by omega⟩
    have st : f_X12_findTables_L66 rec29 rec37 rec55 (N + 1) v1 (nI f) (nI p) (nI r) (nI i) ρi = f_X12_findTables_L66 rec29 rec37 rec55 N v1 (nI f) (nI p) (nI r) (nI (i + 1)) (pA ρi 51 (nI i) (b2i (r.testBit i))) := by
      show f_X12_findTables_B66 _ _ _ _ _ _ _ _ _ _ = _
      unfold f_X12_findTables_B66 f_X12_findTables_b94
      rw [if_neg (fun w => by have := (nI_le31 (by omega) (by omega)).mp w; omega)]
      by_cases hb : r.testBit i = true
      · rw [if_pos ((bit_r hr (by omega)).mpr hb), gdn (by omega) (by omega), nI_add1, hb]
        rfl
      · rw [if_neg (fun w => hb ((bit_r hr (by omega)).mp w)), gdn (by omega) (by omega), nI_add1]
        have hb' : r.testBit i = false := by simpa using hb
        rw [hb']
        rfl
    rw [st]
    refine ih (i + 1) N _ (by omega) (by omega) ⟨hI.1.tr ⟨fun _ => rfl, fun _ => rfl, fun j _ h5 => gA_ne _ _ _ h5, fun _ => rfl, rfl⟩, fun x hx => ?_⟩
    by_cases hxi : x = i
    · subst hxi
      rw [xA_self]
    · rw [xA_pA, if_neg (fun z => tn_neL (a := x) (b := i) (by omega) (by omega) hxi z.2)]
      exact hI.2 x (by omega)
/-- ONE ROW OF A TABLE -/
theorem ft_row {τ μ : S5} {pa : Nat → Nat} {rt : Nat → Int32} {F : Nat} {ρs ρ : S5} {mo : Bool} {f r : Nat} {Dn Dn' : Nat → Nat → Prop} (hD : MD τ μ pa rt F) (hR : RwE μ ρs) (hf : f < F) (hr : r < 2 ^ pa f) (hI : RM τ pa rt F ρs ρ mo Dn) (hDn : ∀ g y, Dn' g y → Dn g y ∨ (g = f ∧ y = r)) (rec29 : Int32 → S5 → Option (Unit × S5)) (rec37 : Int32 → Int32 → S5 → Option (Unit × S5)) (rec55 : Int32 → Int32 → Int32 → Int32 → S5 → Option (Unit × S5)) : ∃ mo' ρ', f_X12_findTables_L66 rec29 rec37 rec55 FU (b2i mo) (nI f) (nI (pa f)) (nI r) 0 ρ = rec55 (b2i mo') (nI f) (nI (pa f)) (nI (r + 1)) ρ' ∧ RM τ pa rt F ρs ρ' mo' Dn' := by
  obtain ⟨hF6, h22, hpa, hpF, hXf⟩ := id hD
  obtain ⟨p1, p2⟩ := hpa f hf
  obtain ⟨q, p, hi, x1, x2, x3, x4, x5⟩ := hXf f hf
  obtain ⟨s1, s2, ⟨k0, s3⟩, s4, s5, s6⟩ := hI
  have h28 : (2 : Nat) ^ pa f ≤ 2 ^ 8 := Nat.pow_le_pow_right (by omega) p2
  have h8 : (2 : Nat) ^ 8 = 256 := by decide
  obtain ⟨ρ1, M, t1, t2, t3⟩ := ft_L66 (rec29 := rec29) (rec37 := rec37) (rec55 := rec55) (v1 := b2i mo) (f := f) (p := pa f) (r := r) (ρ := ρ) p2 (by omega) (pa f) 0 FU ρ (by omega) (by show pa f < 1099511627776; omega) ⟨FrZ.rf _, fun x hx => absurd hx (by omega)⟩
  have t1' : f_X12_findTables_L66 rec29 rec37 rec55 FU (b2i mo) (nI f) (nI (pa f)) (nI r) 0 ρ = _ := t1
  have e49 : ∀ y, xA ρ1 49 y = xA ρ 49 y := fun y => t2.x 49 _ (by decide) (by decide)
  have hT1 : T01 ρ1 F := t2.t01 s2
  have hR1 : RwE μ ρ1 := t2.rw (s1.rw hR)
  have ei : 256 * nI f + nI r = nI (256 * f + r) := by rw [nI_x256, nI_plus]
  have eT1 : TBm ρ1 pa = TBm ρ pa := t2.T pa
  have hx51 : ∀ x, x < pa f → hX ρ1 x = r.testBit x := fun x hx => by
    unfold hX
    rw [t3 x hx]
    cases r.testBit x <;> decide
  have hent : ∀ rr, rwN rr (pa f) = r → TBm ρ pa f rr = decide (xA ρ 49 (nI (256 * f + r)) = 1) := fun rr h => by
    unfold TBm
    rw [decide_eq_true p2, Bool.true_and, h]
  have hrb : ∀ rr, rwN rr (pa f) = r → ∀ x, x < pa f → hX ρ1 x = rr x := fun rr h x hx => by rw [hx51 x hx, ← h, rwN_bit rr (pa f) x hx]
  -- nothing new
  have keep : ∀ ρ2, FrZ ρ1 ρ2 → ((∀ rr, rwN rr (pa f) = r → ∀ k, TLe (Tj τ pa rt 41 k) (TBm ρ pa) → Tj τ pa rt 41 (k + 1) f rr = true → TBm ρ pa f rr = true)) → RM τ pa rt F ρs ρ2 mo Dn' := fun ρ2 h2 hcl => by
    have e2 : ∀ y, xA ρ2 49 y = xA ρ 49 y := fun y => (h2.x 49 _ (by decide) (by decide)).trans (e49 y)
    have eT2 : TBm ρ2 pa = TBm ρ pa := (h2.T pa).trans eT1
    refine ⟨(s1.tr t2.q).tr h2.q, fun y hy => by rw [e2]; exact s2 y hy, ⟨k0, by rw [eT2]; exact s3⟩, fun y hy w => by rw [e2]; exact s4 y hy w, fun w => ⟨fun y hy => by rw [e2]; exact (s5 w).1 y hy, fun g rr hg hdn k hk hj => ?_⟩, fun w => ?_⟩
    · rcases hDn _ _ hdn with z | ⟨rfl, z⟩
      · exact (s5 w).2 g rr hg z k hk hj
      · have eTs : TBm ρ pa = TBm ρs pa := TBm_eq hpF (s5 w).1
        rw [← eTs] at hk ⊢
        exact hcl rr z k hk hj
    · have h3 := s6 w
      have h4 : pre (w49 ρ2) (256 * F) = pre (w49 ρ) (256 * F) := pre_eq _ (fun y _ => by unfold w49; rw [e2])
      omega
  rw [t1']
  unfold f_X12_findTables_B66 f_X12_findTables_b152
  rw [if_pos (Int32.le_refl _), ei, gdn (by omega) (by omega), e49, nI_add1]
  by_cases h1 : xA ρ 49 (nI (256 * f + r)) = 0
  · obtain ⟨b, ρ2, b1, b2, b3, b4, b5⟩ := bp_go (pa := pa) hpa hF6 hR1 hT1 x3 (by omega) x5 (fun x hx => by rw [t3 x hx]; exact b2i_01 _)
    rw [eT1] at b4 b5
    rw [if_pos h1, gdn (by omega) (by omega), gdn (by omega) (by omega), hR1.x 44 _ (by decide) (by decide) (by decide) (by decide) (by decide), hR1.x 45 _ (by decide) (by decide) (by decide) (by decide) (by decide), x1, x2, b1, bd_of]
    cases b with
    | false =>
      rw [if_pos (show b2i false = 0 from rfl)]
      refine ⟨mo, ρ2, rfl, keep ρ2 b2 (fun rr hrr k hk hj => ?_)⟩
      have : false = true := b5 (fun Y y1 y2 => by
        obtain ⟨-, hv⟩ := bP_t.mp hj
        have hc := hk.l (Tj_mo τ pa rt 41 k)
        exact dv_le hc (fun _ z => z) 41 _ (hv Y (fun x xp xr => by rw [y1 x xp, hrb rr hrr x xp]; exact xr) (Clo_le hc 41 _ y2)))
      exact absurd this (by decide)
    | true =>
      rw [if_neg (show ¬ b2i true = 0 by decide), gdn (by omega) (by omega)]
      obtain ⟨ρ3, e3⟩ : ∃ ρ3, ρ3 = pA ρ2 49 (nI (256 * f + r)) (vp_nar .boolean 1) := ⟨_, rfl⟩
      have en : vp_nar .boolean (1 : Int32) = 1 := by decide
      have e2 : ∀ y, xA ρ2 49 y = xA ρ 49 y := fun y => (b2.x 49 _ (by decide) (by decide)).trans (e49 y)
      have e33 : ∀ y, y < 256 * F → xA ρ3 49 (nI y) = if y = 256 * f + r then 1 else xA ρ 49 (nI y) := fun y hy => by
        rw [e3, xA_pA]
        by_cases hyr : y = 256 * f + r
        · rw [if_pos ⟨rfl, by rw [hyr]⟩, if_pos hyr, en]
        · rw [if_neg (fun z => tn_neL (a := y) (b := 256 * f + r) (by omega) (by omega) hyr z.2), if_neg hyr, e2]
      refine ⟨true, ρ3, by rw [e3]; rfl, ?_⟩
      have hcnt : pre (w49 ρ) (256 * F) < pre (w49 ρ3) (256 * F) := pre_lts _ (fun y hy => by
        unfold w49
        rw [e33 y hy]
        by_cases hyr : y = 256 * f + r
        · rw [if_pos hyr]
          split <;> decide
        · rw [if_neg hyr]
          exact Nat.le_refl _) ⟨256 * f + r, by omega, by
        unfold w49
        rw [e33 _ (by omega), if_pos rfl, h1]
        decide⟩
      refine ⟨((s1.tr t2.q).tr b2.q).tr (by rw [e3]; exact ⟨fun _ => rfl, fun _ => rfl, fun j h5 _ _ => gA_ne _ _ _ h5, fun _ => rfl, rfl⟩), fun y hy => ?_, ⟨k0 + 1, fun g rr hT => ?_⟩, fun y hy w => ?_, fun w => absurd w (by decide), fun _ => ?_⟩
      · rw [e33 y hy]
        by_cases hyr : y = 256 * f + r
        · rw [if_pos hyr]; exact Or.inr rfl
        · rw [if_neg hyr]; exact s2 y hy
      · unfold TBm at hT
        rw [Bool.and_eq_true] at hT
        have hp8 : pa g ≤ 8 := of_decide_eq_true hT.1
        have hg : g < F := by
          by_cases hg : g < F
          · exact hg
          · have := hpF g (by omega); omega
        have h256 := rw_256 (ρ := rr) hp8
        have h49 := of_decide_eq_true hT.2
        rw [e33 _ (by omega)] at h49
        by_cases hyr : 256 * g + rwN rr (pa g) = 256 * f + r
        · have hgf : g = f := by omega
          subst hgf
          have hrr : rwN rr (pa g) = r := by omega
          refine bP_t.mpr ⟨p2, fun Y y1 y2 => ?_⟩
          exact b4 rfl _ Y (s3.r (Tj_mo τ pa rt 41 k0)) y2 (fun x xp xt => y1 x xp (by rw [← hrb rr hrr x xp]; exact xt))
        · rw [if_neg hyr] at h49
          refine Tj_le τ pa rt 41 k0 g rr (s3 g rr ?_)
          unfold TBm
          rw [decide_eq_true hp8, Bool.true_and]
          exact decide_eq_true h49
      · rw [e33 y hy]
        by_cases hyr : y = 256 * f + r
        · rw [if_pos hyr]
        · rw [if_neg hyr]; exact s4 y hy w
      · have h9 : pre (w49 ρs) (256 * F) ≤ pre (w49 ρ) (256 * F) := pre_lq _ (fun y hy => by
          unfold w49
          by_cases e : xA ρs 49 (nI y) = 1
          · rw [if_pos e, if_pos (s4 y hy e)]
            exact Nat.le_refl _
          · rw [if_neg e]; omega)
        omega
  · rw [if_neg h1]
    refine ⟨mo, ρ1, rfl, keep ρ1 (FrZ.rf _) (fun rr hrr k hk hj => ?_)⟩
    rw [hent rr hrr]
    rcases s2 (256 * f + r) (by omega) with z | z
    · exact absurd z h1
    · exact decide_eq_true z
