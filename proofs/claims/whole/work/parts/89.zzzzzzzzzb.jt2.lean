/-- a truth value as the reference keeps it -/
def b2i (b : Bool) : Int32 := if b = true then 1 else 0
theorem b2i_01 (b : Bool) : b2i b = 0 ∨ b2i b = 1 := by cases b <;> decide
theorem b2i_0 {b : Bool} : b2i b = 0 ↔ b = false := by cases b <;> decide
theorem b2i_nar (b : Bool) : vp_nar .boolean (b2i b) = b2i b := by cases b <;> decide
theorem g_t01 {β : Type} {y : Int32} (x : Option β) (h : y = 0 ∨ y = 1) : g_t y x = x := by
  unfold g_t
  rw [if_pos h]
/-- the rows of the lifted tree stay -/
def RwE (μ ρ : S5) : Prop := ∀ j, ¬ j = 36 → ¬ j = 49 → ¬ j = 50 → ¬ j = 51 → ¬ j = 52 → gA ρ j = gA μ j
theorem RwE.x {μ ρ : S5} (h : RwE μ ρ) (j : Nat) (x : Int32) (h0 : ¬ j = 36) (h1 : ¬ j = 49) (h2 : ¬ j = 50) (h3 : ¬ j = 51) (h4 : ¬ j = 52) : xA ρ j x = xA μ j x := by
  show gA ρ j _ = gA μ j _
  rw [h j h0 h1 h2 h3 h4]
theorem chd_go {μ ρ : S5} (h : RwE μ ρ) {p k ct x : Nat} (hp : p < 7000) (h33 : xA μ 33 (nI p) = nI ct) (hk : ct + k < 14000) (h39 : xA μ 39 (nI (ct + k)) = nI x) : f_X12_child (nI p) (nI k) ρ = some (nI x, ρ) := by
  unfold f_X12_child
  rw [gdn hp (by omega), h.x 33 _ (by decide) (by decide) (by decide) (by decide) (by decide), h33, nI_plus, gdn hk (by omega), h.x 39 _ (by decide) (by decide) (by decide) (by decide) (by decide), h39]
/-- the reference's tables -/
def TBm (ρ : S5) (pa : Nat → Nat) (f : Nat) (r : Nat → Bool) : Bool := decide (pa f ≤ 8) && decide (xA ρ 49 (nI (256 * f + rwN r (pa f))) = 1)
theorem TBm_cg {ρ : S5} {pa : Nat → Nat} {f : Nat} {r r' : Nat → Bool} (h : ∀ i, i < pa f → r i = r' i) : TBm ρ pa f r = TBm ρ pa f r' := by
  unfold TBm
  rw [rwN_cg (pa f) h]
/-- the reference's tables hold truth values -/
def T01 (ρ : S5) (F : Nat) : Prop := ∀ x, x < 256 * F → xA ρ 49 (nI x) = 0 ∨ xA ρ 49 (nI x) = 1
theorem nI_x256 (f : Nat) : 256 * nI f = nI (256 * f) := by
  show Int32.ofNat 256 * Int32.ofNat f = Int32.ofNat (256 * f)
  rw [← Int32.ofNat_mul]
theorem tab_go {ρ : S5} {pa : Nat → Nat} {F f : Nat} (hF6 : F ≤ 630) (hT : T01 ρ F) (hf : f < F) (hp : pa f ≤ 8) (r : Nat → Bool) : f_X12_table (nI f) (nI (rwN r (pa f))) ρ = some (b2i (TBm ρ pa f r), ρ) := by
  have h256 := rw_256 (ρ := r) hp
  have e : xA ρ 49 (nI (256 * f + rwN r (pa f))) = b2i (TBm ρ pa f r) := by
    unfold TBm
    rw [decide_eq_true hp, Bool.true_and]
    rcases hT (256 * f + rwN r (pa f)) (by omega) with w | w
    · rw [w]; decide
    · rw [w]; decide
  unfold f_X12_table
  rw [nI_x256, nI_plus, gdn (by omega) (by omega), e, g_t01 _ (b2i_01 _)]
/-- the row of a call is put together -/
theorem ab_L61 {μ ρ : S5} {pa : Nat → Nat} {F f p k ct : Nat} {pp : Nat → Nat} {v : Nat → Bool} (hR : RwE μ ρ) (hF6 : F ≤ 630) (hT : T01 ρ F) (hf : f < F) (hpf : pa f ≤ 8) (hp : p < 7000) (h33 : xA μ 33 (nI p) = nI ct) (hk : pa f < k) (hct : ct + k ≤ 14000) (h39 : ∀ i, i < k → xA μ 39 (nI (ct + i)) = nI (pp i) ∧ pp i < 7000) (hb : ∀ i, i < k → xA ρ 50 (nI (pp i)) = b2i (v i)) : ∀ (m i N : Nat), i + m = pa f → m < N → f_X12_appliedBit_L61 N (nI p) (nI f) (nI (pa f)) (nI (rwN (fun i => v (1 + i)) i)) (nI i) ρ = some (b2i (TBm ρ pa f (fun i => v (1 + i))), ρ) := by
  intro m
  induction m with
  | zero =>
    intro i N hid hN
    obtain ⟨N, rfl⟩ : ∃ m, N = m + 1 := ⟨N - 1, by omega⟩
    have hip : i = pa f := by omega
    show f_X12_appliedBit_B61 _ _ _ _ _ _ _ = _
    unfold f_X12_appliedBit_B61
    rw [hip, if_pos (Int32.le_refl _), tab_go hF6 hT hf hpf, bd_of, g_t01 _ (b2i_01 _)]
  | succ m ih =>
    intro i N hid hN
    obtain ⟨N, rfl⟩ : ∃ m, N = m + 1 := ⟨N - 1, by omega⟩
    obtain ⟨k1, k2⟩ := h39 (1 + i) (by omega)
    rw [← ih (i + 1) N (by omega) (by omega)]
    show f_X12_appliedBit_B61 _ _ _ _ _ _ _ = _
    have e1 : (1 : Int32) + nI i = nI (1 + i) := nI_plus 1 i
    unfold f_X12_appliedBit_B61 f_X12_appliedBit_b95
    rw [if_neg (fun w => by have := (nI_le31 (by omega) (by omega)).mp w; omega), e1, chd_go hR hp h33 (by omega) k1, bd_of, gdn k2 (by omega), hb (1 + i) (by omega), nI_add1]
    have hor := fun b => rw_or (k := i) (by omega) (rwN_lt (fun i => v (1 + i)) i) b
    cases hv : v (1 + i) with
    | false =>
      rw [if_pos (show b2i false = 0 from rfl), Int32.or_zero]
      congr 1
      show nI _ = nI (rwN _ i + if v (1 + i) = true then 2 ^ i else 0)
      rw [hv]
      rfl
    | true =>
      have h1 := hor true
      rw [if_pos rfl, if_pos rfl] at h1
      rw [if_neg (show ¬ b2i true = 0 by decide), h1]
      congr 1
      show nI _ = nI (rwN _ i + if v (1 + i) = true then 2 ^ i else 0)
      rw [hv]
      rfl
/-- one of the branches -/
theorem pbc_L171 {μ ρ : S5} {p k ct : Nat} {pp : Nat → Nat} {v : Nat → Bool} (hR : RwE μ ρ) (hp : p < 7000) (h33 : xA μ 33 (nI p) = nI ct) (hk1 : 1 ≤ k) (hct : ct + k ≤ 14000) (h39 : ∀ i, i < k → xA μ 39 (nI (ct + i)) = nI (pp i) ∧ pp i < 7000) (hb : ∀ i, i < k → xA ρ 50 (nI (pp i)) = b2i (v i)) : ∀ (m i N : Nat) (o : Bool), i + m = k → m < N → 1 ≤ i → (o = true ↔ ∃ j, 1 ≤ j ∧ j < i ∧ v j = true) → ∃ b, f_X12_partBit_L171 N (nI p) (nI k) (b2i o) (nI i) ρ = some (b2i b, ρ) ∧ (b = true ↔ v 0 = true ∧ ∃ j, 1 ≤ j ∧ j < k ∧ v j = true) := by
  intro m
  induction m with
  | zero =>
    intro i N o hid hN hi1 ho
    obtain ⟨N, rfl⟩ : ∃ m, N = m + 1 := ⟨N - 1, by omega⟩
    have hip : i = k := by omega
    obtain ⟨k1, k2⟩ := h39 0 (by omega)
    refine ⟨v 0 && o, ?_, by rw [Bool.and_eq_true, ho, hip]⟩
    show f_X12_partBit_B171 _ _ _ _ _ _ = _
    have e0 : (0 : Int32) = nI 0 := rfl
    unfold f_X12_partBit_B171
    rw [hip, if_pos (Int32.le_refl _)]
    have hc := chd_go (k := 0) hR hp h33 (by omega) k1
    have hc' : f_X12_child (nI p) 0 ρ = some (nI (pp 0), ρ) := hc
    rw [hc', bd_of, gdn k2 (by omega), hb 0 (by omega)]
    cases v 0 <;> cases o <;> rfl
  | succ m ih =>
    intro i N o hid hN hi1 ho
    obtain ⟨N, rfl⟩ : ∃ m, N = m + 1 := ⟨N - 1, by omega⟩
    obtain ⟨k1, k2⟩ := h39 i (by omega)
    have hst : f_X12_partBit_L171 (N + 1) (nI p) (nI k) (b2i o) (nI i) ρ = f_X12_partBit_L171 N (nI p) (nI k) (b2i (o || v i)) (nI (i + 1)) ρ := by
      show f_X12_partBit_B171 _ _ _ _ _ _ = _
      unfold f_X12_partBit_B171 f_X12_partBit_b196 f_X12_partBit_b201
      rw [if_neg (fun w => by have := (nI_le31 (by omega) (by omega)).mp w; omega), chd_go hR hp h33 (by omega) k1, bd_of, gdn k2 (by omega), hb i (by omega), nI_add1]
      cases o <;> cases v i <;> rfl
    rw [hst]
    refine ih (i + 1) N (o || v i) (by omega) (by omega) (by omega) ?_
    rw [Bool.or_eq_true, ho]
    refine ⟨fun w => ?_, fun ⟨j, j1, j2, j3⟩ => ?_⟩
    · rcases w with ⟨j, j1, j2, j3⟩ | w
      · exact ⟨j, j1, by omega, j3⟩
      · exact ⟨i, hi1, by omega, w⟩
    · by_cases hj : j = i
      · subst hj; exact Or.inr j3
      · exact Or.inl ⟨j, j1, by omega, j3⟩
theorem JT.h {τ μ : S5} {F : Nat} {c : Int32} {q p : Nat} {Sc : Nat → Prop} {lo hi : Nat} (h : JT τ μ F c q p Sc lo hi) : q ≤ p ∧ p < 7000 ∧ lo ≤ hi ∧ VS τ c Sc lo hi ∧ ∀ x, Sc x → x < lo := ⟨h.un.1.1.1, h.un.1.2⟩
theorem JT.b5 {τ μ : S5} {F : Nat} {c : Int32} {q p : Nat} {Sc : Nat → Prop} {lo hi : Nat} (h : JT τ μ F c q p Sc lo hi) : xB μ 5 (nI p) = xB τ 2 c := h.un.1.1.2
/-- functions stand for functions -/
def K2 (τ μ : S5) (F : Nat) (c : Int32) (p : Nat) : Prop := (xA τ 13 c = 2 → xA μ 31 (nI p) = 12 ∧ ∃ f, f < F ∧ xA τ 14 c = nI f ∧ xA μ 32 (nI p) = nI f) ∧ (¬ xA τ 13 c = 2 → ¬ xA μ 31 (nI p) = 12)
theorem JT.k2 {τ μ : S5} {F : Nat} {c : Int32} {q p : Nat} {Sc : Nat → Prop} {lo hi : Nat} (h : JT τ μ F c q p Sc lo hi) : K2 τ μ F c p := by
  have no : ∀ {x y : Int32}, xA τ 13 c = x → xA μ 31 (nI p) = y → ¬ x = 2 → ¬ y = 12 → K2 τ μ F c p := fun a b d e => ⟨fun w => absurd (a.symm.trans w) d, fun _ w => e (b.symm.trans w)⟩
  rcases h.un.2 with ⟨-, e1, e2, e3⟩ | ⟨k, ct, cc, ll, a, -⟩ | ⟨a, b, -⟩ | ⟨a, b, -⟩
  · rcases e3 with ⟨d1, d2⟩ | ⟨d1, d2⟩ | ⟨d1, d2, f⟩ | ⟨d1, d2, -⟩ | ⟨d1, d2⟩
    · exact no d1 d2 (by decide) (by decide)
    · exact no d1 d2 (by decide) (by decide)
    · exact ⟨fun _ => ⟨d2, f⟩, fun w => absurd d1 w⟩
    · exact no d1 d2 (by decide) (by decide)
    · exact no d1 d2 (by decide) (by decide)
  · rcases a with ⟨a1, a2, -⟩ | ⟨a1, a2, -⟩ | ⟨a1, a2⟩
    · exact no a1 a2 (by decide) (by decide)
    · exact no a1 a2 (by decide) (by decide)
    · exact no a1 a2 (by decide) (by decide)
  · exact no a b (by decide) (by decide)
  · exact no a b (by decide) (by decide)
/-- A PART'S BIT -/
theorem pb_go {τ μ ρ : S5} {pa : Nat → Nat} {F : Nat} {X : Nat → Bool} {H : Nat} (hpa : ∀ g, g < F → xA μ 47 (nI g) = nI (pa g) ∧ pa g ≤ 8) (hF6 : F ≤ 630) (hR : RwE μ ρ) (hT : T01 ρ F) (hX : ∀ x, x < H → xA ρ 51 (nI x) = b2i (X x)) (hH : H ≤ 64) {c : Int32} {q p : Nat} {Sc : Nat → Prop} {lo hi : Nat} (h : JT τ μ F c q p Sc lo hi) (hhi : hi ≤ H) (h41 : hF τ c < 41) (hk : ∀ c' q' p' Sc' lo' hi', JT τ μ F c' q' p' Sc' lo' hi' → q ≤ q' → p' < p → hi' ≤ H → hF τ c' < 41 → xA ρ 50 (nI p') = b2i (dv τ pa (TBm ρ pa) X 41 c')) : f_X12_partBit (nI p) ρ = some (b2i (dv τ pa (TBm ρ pa) X 41 c), ρ) := by
  obtain ⟨⟨⟨g1, -⟩, g2, g3, g4, g5⟩, g6⟩ := h.un
  have x31 : xA ρ 31 (nI p) = xA μ 31 (nI p) := hR.x 31 _ (by decide) (by decide) (by decide) (by decide) (by decide)
  have x32 : xA ρ 32 (nI p) = xA μ 32 (nI p) := hR.x 32 _ (by decide) (by decide) (by decide) (by decide) (by decide)
  have x34 : xA ρ 34 (nI p) = xA μ 34 (nI p) := hR.x 34 _ (by decide) (by decide) (by decide) (by decide) (by decide)
  have x47 : ∀ y, xA ρ 47 y = xA μ 47 y := fun y => hR.x 47 _ (by decide) (by decide) (by decide) (by decide) (by decide)
  -- the children of a node
  have kids : ∀ (k ct : Nat) (cc : Nat → Int32) (Sa : Nat → Nat → Prop) (la lb : Nat → Nat), JK μ (JT τ μ F) k ct cc Sa la lb q p → (∀ i, i < k → hF τ (cc i) < hF τ c ∧ lb i ≤ hi) → ∃ pp : Nat → Nat, xA μ 33 (nI p) = nI ct ∧ ct + k ≤ 14000 ∧ xA μ 34 (nI p) = nI k ∧ (∀ i, i < k → xA μ 39 (nI (ct + i)) = nI (pp i) ∧ pp i < 7000) ∧ (∀ i, i < k → xA ρ 50 (nI (pp i)) = b2i (dv τ pa (TBm ρ pa) X 40 (cc i))) ∧ ∀ i, i < k → K2 τ μ F (cc i) (pp i) := by
    intro k ct cc Sa la lb hJ hh
    obtain ⟨qq, pp, a1, a2, a3, a4, a5, a6⟩ := hJ
    have hq : ∀ i, i ≤ k → q ≤ qq i := by
      intro i
      induction i with
      | zero => intro _; omega
      | succ i ih =>
        intro hi
        obtain ⟨b1, b2, b3, b4, b5⟩ := a6 i (by omega)
        have := ih (by omega)
        omega
    refine ⟨pp, a1, a2, a3, fun i hi => ⟨(a6 i hi).2.2.2.2, by have := (a6 i hi).2.2.1; omega⟩, fun i hi => ?_, fun i hi => (a6 i hi).1.k2⟩
    obtain ⟨b1, b2, b3, b4, b5⟩ := a6 i hi
    obtain ⟨c1, c2⟩ := hh i hi
    rw [hk _ _ _ _ _ _ b1 (hq i (by omega)) b3 (by omega) (by omega), dv_fu b1.h.2.2.2.1 41 40 (by omega) (by omega)]
  rcases g6 with ⟨-, e1, e2, e3⟩ | ⟨k, ct, cc, ll, a, b, c1, d, e, f, g⟩ | ⟨a, b, l, ct, bb, ll, d, e, f, g, i, j, m, n, o, r⟩ | ⟨a, b, l, ct, aa, jj, ll, Sa, d, e, f, g, i, j, m, n, o, r⟩
  · rcases e3 with ⟨d1, d2⟩ | ⟨d1, d2⟩ | ⟨d1, d2, f, f1, f2, f3⟩ | ⟨d1, d2, x, f1, f2, f3⟩ | ⟨d1, d2⟩
    · have ed : dv τ pa (TBm ρ pa) X 41 c = true := by unfold dv; rw [d1]; rfl
      rw [ed]
      unfold f_X12_partBit
      rw [gdn g2 (by omega), gdn g2 (by omega), x31, d2]
      rfl
    · have ed : dv τ pa (TBm ρ pa) X 41 c = true := by unfold dv; rw [d1]; rfl
      rw [ed]
      unfold f_X12_partBit
      rw [gdn g2 (by omega), gdn g2 (by omega), x31, d2]
      rfl
    · obtain ⟨p1, p2⟩ := hpa f f1
      have ed : dv τ pa (TBm ρ pa) X 41 c = if pa f = 0 then TBm ρ pa f (fun _ => false) else true := by
        unfold dv
        rw [if_pos d1, f2, nI_clamp (by omega)]
      have e3 : xA ρ 32 (nI p) = nI f := x32.trans f3
      rw [ed]
      unfold f_X12_partBit f_X12_partBit_b124
      rw [gdn g2 (by omega), gdn g2 (by omega), x31, d2, if_neg (by decide), if_neg (by decide), if_neg (by decide), if_neg (by decide), if_neg (by decide), if_neg (by decide), if_neg (by decide), if_neg (by decide), if_neg (by decide), if_neg (by decide), if_neg (by decide), if_neg (by decide), if_pos rfl, gdn g2 (by omega), e3, gdn (show f < 640 by omega) (by omega), x47, p1]
      by_cases hz : pa f = 0
      · have ht := tab_go (ρ := ρ) (pa := pa) hF6 hT f1 p2 (fun _ => false)
        rw [hz] at ht
        have ht' : f_X12_table (nI f) 0 ρ = some (b2i (TBm ρ pa f (fun _ => false)), ρ) := ht
        rw [hz, if_neg (by decide), if_pos rfl, gdn g2 (by omega), ht', bd_of]
        cases TBm ρ pa f (fun _ => false) <;> rfl
      · rw [if_neg hz, if_pos (show 0 < nI (pa f) from (nI_lt31 (a := 0) (by omega) (by omega)).mpr (by omega))]
        rfl
    · have hx := g5 x f3
      have ed : dv τ pa (TBm ρ pa) X 41 c = X x := by
        unfold dv
        rw [d1, if_neg (by decide), if_pos rfl, f1, nI_clamp (by omega)]
      have e3 : xA ρ 32 (nI p) = nI x := x32.trans f2
      rw [ed]
      unfold f_X12_partBit
      rw [gdn g2 (by omega), gdn g2 (by omega), x31, d2, if_neg (by decide), if_neg (by decide), if_neg (by decide), if_neg (by decide), if_neg (by decide), if_neg (by decide), if_neg (by decide), if_neg (by decide), if_neg (by decide), if_neg (by decide), if_neg (by decide), if_neg (by decide), if_neg (by decide), if_pos rfl, gdn g2 (by omega), e3, gdn (show x < 640 by omega) (by omega), hX x (by omega), g_t01 _ (b2i_01 _)]
    · have ed : dv τ pa (TBm ρ pa) X 41 c = false := by unfold dv; rw [d1]; rfl
      rw [ed]
      unfold f_X12_partBit
      rw [gdn g2 (by omega), gdn g2 (by omega), x31, d2]
      rfl
  · have hmo := ll_mo (fun i hi => (f i hi).2)
    obtain ⟨pp, k33, kct, k34, k39, k50, kk2⟩ := kids k ct cc _ _ _ g (fun i hi => ⟨(f i hi).1, by have := hmo k (i + 1) (by omega) (by omega); omega⟩)
    rcases a with ⟨a1, a2, a3⟩ | ⟨a1, a2, a3⟩ | ⟨a1, a2⟩
    · subst a3
      have e1 : xA τ 17 (xA τ 16 c) = cc 1 := by rw [c1.1]; exact (c1.2 0 (by omega)).2
      have ed : dv τ pa (TBm ρ pa) X 41 c = (dv τ pa (TBm ρ pa) X 40 (cc 0) && dv τ pa (TBm ρ pa) X 40 (cc 1)) := by
        show (if xA τ 13 c = 2 then _ else if xA τ 13 c = 3 then _ else if xA τ 13 c = 4 then _ else if xA τ 13 c = 5 then _ else _) = _
        rw [a1, if_neg (by decide), if_neg (by decide), if_neg (by decide), if_pos rfl, e1, c1.1]
      have hc0 : f_X12_child (nI p) 0 ρ = some (nI (pp 0), ρ) := chd_go (k := 0) hR g2 k33 (by omega) (k39 0 (by omega)).1
      have hc1 : f_X12_child (nI p) 1 ρ = some (nI (pp 1), ρ) := chd_go (k := 1) hR g2 k33 (by omega) (k39 1 (by omega)).1
      rw [ed]
      unfold f_X12_partBit
      rw [gdn g2 (by omega), gdn g2 (by omega), x31, a2, if_neg (by decide), if_neg (by decide), if_neg (by decide), if_neg (by decide), if_neg (by decide), if_pos rfl, hc0, bd_of, gdn (k39 0 (by omega)).2 (by omega), k50 0 (by omega), hc1, bd_of, gdn (k39 1 (by omega)).2 (by omega), k50 1 (by omega)]
      cases dv τ pa (TBm ρ pa) X 40 (cc 0) <;> cases dv τ pa (TBm ρ pa) X 40 (cc 1) <;> rfl
    · have hc0 : f_X12_child (nI p) 0 ρ = some (nI (pp 0), ρ) := chd_go (k := 0) hR g2 k33 (by omega) (k39 0 (by omega)).1
      have hdv : dv τ pa (TBm ρ pa) X 41 c = (if xA τ 13 (cc 0) = 2 then (if pa (xA τ 14 (cc 0)).toNatClampNeg ≤ k - 1 then TBm ρ pa (xA τ 14 (cc 0)).toNatClampNeg (fun i => decide (i < pa (xA τ 14 (cc 0)).toNatClampNeg) && dv τ pa (TBm ρ pa) X 40 (nx17 τ i (xA τ 17 (cc 0)))) else true) else dv τ pa (TBm ρ pa) X 40 (cc 0)) := by
        show (if xA τ 13 c = 2 then _ else if xA τ 13 c = 3 then _ else if xA τ 13 c = 4 then _ else if xA τ 13 c = 5 then _ else if xA τ 13 c = 6 then _ else if xA τ 13 c = 7 then _ else if xA τ 13 c = 8 then _ else _) = _
        rw [a1, if_neg (by decide), if_neg (by decide), if_neg (by decide), if_neg (by decide), if_neg (by decide), if_neg (by decide), if_pos rfl, c1.1, a3, nI_clamp (by omega)]
      have hap : f_X12_partBit (nI p) ρ = bd (f_X12_appliedBit (nI p) ρ) (fun r248 τ248 => g_t r248 <| some (r248, τ248)) := by
        unfold f_X12_partBit
        rw [gdn g2 (by omega), gdn g2 (by omega), x31, a2, if_neg (by decide), if_neg (by decide), if_neg (by decide), if_neg (by decide), if_neg (by decide), if_neg (by decide), if_pos rfl]
      obtain ⟨y1, y2⟩ := kk2 0 (by omega)
      have z31 : xA ρ 31 (nI (pp 0)) = xA μ 31 (nI (pp 0)) := hR.x 31 _ (by decide) (by decide) (by decide) (by decide) (by decide)
      have z32 : xA ρ 32 (nI (pp 0)) = xA μ 32 (nI (pp 0)) := hR.x 32 _ (by decide) (by decide) (by decide) (by decide) (by decide)
      by_cases hk2 : xA τ 13 (cc 0) = 2
      · obtain ⟨w1, f, f1, f2, f3⟩ := y1 hk2
        obtain ⟨p1, p2⟩ := hpa f f1
        have hd : dv τ pa (TBm ρ pa) X 41 c = if pa f ≤ k - 1 then TBm ρ pa f (fun i => decide (i < pa f) && dv τ pa (TBm ρ pa) X 40 (nx17 τ i (xA τ 17 (cc 0)))) else true := by
          rw [hdv, if_pos hk2, f2, nI_clamp (by omega)]
        have hab : f_X12_appliedBit (nI p) ρ = if nI (pa f) ≤ nI k - 1 then f_X12_appliedBit_L61 FU (nI p) (nI f) (nI (pa f)) 0 0 ρ else some ((1 : Int32), ρ) := by
          unfold f_X12_appliedBit
          rw [hc0, bd_of, gdn (k39 0 (by omega)).2 (by omega), z31, w1, if_pos rfl, gdn (k39 0 (by omega)).2 (by omega), z32, f3, gdn (show f < 640 by omega) (by omega), gdn g2 (by omega), x47, p1, x34, k34]
        have ek : nI k - 1 = nI (k - 1) := nI_sub (a := k) (b := 1) (by omega)
        rw [hap, hab, ek, hd]
        by_cases hle : pa f ≤ k - 1
        · rw [if_pos (show nI (pa f) ≤ nI (k - 1) from (nI_le31 (by omega) (by omega)).mpr hle), if_pos hle]
          have hL := ab_L61 (pa := pa) (v := fun i => dv τ pa (TBm ρ pa) X 40 (cc i)) hR hF6 hT f1 p2 g2 k33 (by omega) kct k39 k50 (pa f) 0 FU (by omega) (by show pa f < 1099511627776; omega)
          have hL' : f_X12_appliedBit_L61 FU (nI p) (nI f) (nI (pa f)) 0 0 ρ = _ := hL
          rw [hL', bd_of, g_t01 _ (b2i_01 _)]
          have e : TBm ρ pa f (fun i => dv τ pa (TBm ρ pa) X 40 (cc (1 + i))) = TBm ρ pa f (fun i => decide (i < pa f) && dv τ pa (TBm ρ pa) X 40 (nx17 τ i (xA τ 17 (cc 0))))   := TBm_cg (fun i hi => by
            have e17 : xA τ 17 (cc 0) = cc 1 := by rw [(c1.2 0 (by omega)).2, if_pos (by omega)]
            rw [decide_eq_true hi, Bool.true_and, e17, nx17_at (fun j hj => (c1.2 j hj).2) i 1 (by omega)])
          rw [← e]
        · rw [if_neg (show ¬ nI (pa f) ≤ nI (k - 1) from fun z => hle ((nI_le31 (by omega) (by omega)).mp z)), if_neg hle, bd_of]
          rfl
      · have hab : f_X12_appliedBit (nI p) ρ = some (b2i (dv τ pa (TBm ρ pa) X 40 (cc 0)), ρ) := by
          unfold f_X12_appliedBit
          rw [hc0, bd_of, gdn (k39 0 (by omega)).2 (by omega), z31, if_neg (y2 hk2), gdn (k39 0 (by omega)).2 (by omega), k50 0 (by omega), g_t01 _ (b2i_01 _)]
        rw [hap, hab, bd_of, g_t01 _ (b2i_01 _), hdv, if_neg hk2]
    · have ed : dv τ pa (TBm ρ pa) X 41 c = true := by unfold dv; rw [a1]; rfl
      rw [ed]
      unfold f_X12_partBit
      rw [gdn g2 (by omega), gdn g2 (by omega), x31, a2]
      rfl
  · have hmo := ll_mo (fun i hi => (o i hi).2)
    obtain ⟨pp, k33, kct, k34, k39, k50, kk2⟩ := kids (l + 1) ct _ _ _ _ r (fun i hi => by
      by_cases hil : i < l
      · rw [if_pos hil, if_pos hil]
        have := hmo l (i + 1) (by omega) (by omega)
        exact ⟨(o i hil).1, by omega⟩
      · rw [if_neg hil, if_neg hil]
        exact ⟨m, Nat.le_refl _⟩)
    have ed : dv τ pa (TBm ρ pa) X 41 c = dv τ pa (TBm ρ pa) X 40 (xA τ 16 c) := by
      show (if xA τ 13 c = 2 then _ else if xA τ 13 c = 3 then _ else if xA τ 13 c = 4 then _ else if xA τ 13 c = 5 then _ else if xA τ 13 c = 6 then _ else if xA τ 13 c = 7 then _ else _) = _
      rw [a, if_neg (by decide), if_neg (by decide), if_neg (by decide), if_neg (by decide), if_neg (by decide), if_pos rfl]
    have k5 := k50 l (by omega)
    rw [if_neg (by omega)] at k5
    have e1 : nI (l + 1) - 1 = nI l := nI_sub (a := l + 1) (b := 1) (by omega)
    rw [ed]
    unfold f_X12_partBit
    rw [gdn g2 (by omega), gdn g2 (by omega), x31, b, if_pos rfl, x34, k34, e1, chd_go (k := l) hR g2 k33 (by omega) (k39 l (by omega)).1, bd_of, gdn (k39 l (by omega)).2 (by omega), k5, g_t01 _ (b2i_01 _)]
  · have hmo := ll_mo (k := l) (ll := ll) (fun i hi => by have := (o i hi).2; omega)
    obtain ⟨pp, k33, kct, k34, k39, k50, kk2⟩ := kids (l + 1) ct _ _ _ _ r (fun i hi => by
      by_cases hi0 : i = 0
      · rw [if_pos hi0, hi0]
        have := hmo l 0 (by omega) (by omega)
        exact ⟨n, by omega⟩
      · rw [if_neg hi0]
        have h1 := hmo l i (by omega) (by omega)
        exact ⟨(o (i - 1) (by omega)).1, by omega⟩)
    have hor := orA_iff (τ := τ) (v := dv τ pa (TBm ρ pa) X 40) (k := l) (aa := aa) f 9 0 (by omega)
    rw [if_pos (by omega)] at hor
    have ed : dv τ pa (TBm ρ pa) X 41 c = (dv τ pa (TBm ρ pa) X 40 (xA τ 16 c) && orA τ (dv τ pa (TBm ρ pa) X 40) 9 (aa 0)) := by
      show (if xA τ 13 c = 2 then _ else if xA τ 13 c = 3 then _ else if xA τ 13 c = 4 then _ else if xA τ 13 c = 5 then _ else if xA τ 13 c = 6 then _ else _) = _
      rw [a, if_neg (by decide), if_neg (by decide), if_neg (by decide), if_neg (by decide), if_pos rfl, e]
    obtain ⟨b', q1, q2⟩ := pbc_L171 (v := fun i => dv τ pa (TBm ρ pa) X 40 (if i = 0 then xA τ 16 c else xA τ 16 (aa (i - 1)))) hR g2 k33 (by omega) kct k39 k50 l 1 FU false (by omega) (by show l < 1099511627776; omega) (by omega) ⟨fun w => absurd w (by decide), fun ⟨j, j1, j2, _⟩ => absurd j2 (by omega)⟩
    have eb : b' = dv τ pa (TBm ρ pa) X 41 c := by
      rw [ed]
      refine Bool.eq_iff_iff.mpr ?_
      rw [q2, Bool.and_eq_true, hor]
      refine ⟨fun ⟨w1, j, j1, j2, j3⟩ => ⟨w1, j - 1, by omega, by omega, ?_⟩, fun ⟨w1, j, j1, j2, j3⟩ => ⟨w1, j + 1, by omega, by omega, ?_⟩⟩
      · rw [if_neg (by omega)] at j3
        exact j3
      · rw [if_neg (by omega)]
        exact j3
    rw [← eb]
    unfold f_X12_partBit
    rw [gdn g2 (by omega), gdn g2 (by omega), x31, b, if_neg (by decide), if_neg (by decide), if_neg (by decide), if_pos rfl, x34, k34]
    exact q1
