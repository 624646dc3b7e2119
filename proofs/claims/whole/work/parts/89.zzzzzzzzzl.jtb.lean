/-- the first lifted node of a part -/
theorem fw_go {τ μ : S5} {F : Nat} {c : Int32} {q p : Nat} {Sc : Nat → Prop} {lo hi : Nat} (h : JT τ μ F c q p Sc lo hi) : ∀ (ρ : S5) (N : Nat), RwE μ ρ → p - q < N → f_X12_firstWithin_L2 N (nI p) ρ = some (nI q, ρ) := by
  refine JT.ind (P := fun c q p Sc lo hi => ∀ (ρ : S5) (N : Nat), RwE μ ρ → p - q < N → f_X12_firstWithin_L2 N (nI p) ρ = some (nI q, ρ)) ?_ h
  clear h
  intro c q p Sc lo hi h ρ N hR hN
  obtain ⟨N, rfl⟩ : ∃ m, N = m + 1 := ⟨N - 1, by omega⟩
  have g2 := h.1.2.1
  have x34 := hR.x 34 (nI p) (by decide) (by decide) (by decide) (by decide) (by decide)
  have main : ∀ (k ct : Nat) (cc : Nat → Int32) (Sa : Nat → Nat → Prop) (la lb : Nat → Nat), 1 ≤ k → JK μ (fun c q p Sc lo hi => JT τ μ F c q p Sc lo hi ∧ ∀ (ρ : S5) (N : Nat), RwE μ ρ → p - q < N → f_X12_firstWithin_L2 N (nI p) ρ = some (nI q, ρ)) k ct cc Sa la lb q p → f_X12_firstWithin_L2 (N + 1) (nI p) ρ = some (nI q, ρ) := by
    intro k ct cc Sa la lb hk hJ
    obtain ⟨qq, pp, a1, a2, a3, a4, a5, a6⟩ := hJ
    obtain ⟨b1, b2, b3, b4, b5⟩ := a6 0 (by omega)
    have hc : f_X12_child (nI p) 0 ρ = some (nI (pp 0), ρ) := chd_go (k := 0) hR g2 a1 (by omega) b5
    show f_X12_firstWithin_B2 _ _ _ = _
    unfold f_X12_firstWithin_B2
    rw [gdn g2 (by omega), x34, a3, if_neg (fun w => by have := (nI_le31 (b := 0) (by omega) (by omega)).mp w; omega), hc, bd_of, b1.2 ρ N hR (by omega), a4]
  rcases h.2 with ⟨-, e1, e2, -⟩ | ⟨k, ct, cc, ll, a, b, c1, d, e, f, g⟩ | ⟨a, b, l, ct, bb, ll, d, e, f, g, i, j, m, n, o, r⟩ | ⟨a, b, l, ct, aa, jj, ll, Sa, d, e, f, g, i, j, m, n, o, r⟩
  · show f_X12_firstWithin_B2 _ _ _ = _
    unfold f_X12_firstWithin_B2
    rw [gdn g2 (by omega), x34, e2, if_pos (by decide), e1]
  · exact main k ct cc _ _ _ b.1 g
  · exact main (l + 1) ct _ _ _ _ (by omega) r
  · exact main (l + 1) ct _ _ _ _ (by omega) r
/-- all but one have a value -/
theorem fn_L66 {v1 v3 : Int32} {x : Nat} {ρ : S5} (hx : x < 64) : ∀ (m i N : Nat) (ρi : S5), i + m = 64 → m < N → (FrZ ρ ρi ∧ ∀ y, y < i → xA ρi 51 (nI y) = b2i (decide (¬ y = x))) → ∃ ρ', (∀ rec2, f_X12_findNeeds_L66 rec2 N v1 (nI x) v3 (nI i) ρi = bd (f_X12_firstWithin v3 ρ') (fun r105 τ105 => bd (f_X12_bitOfPart r105 v3 τ105) (fun r109 τ109 => if r109 = 0 then f_X12_findNeeds_b120 rec2 v1 1 v1 τ109 else f_X12_findNeeds_b120 rec2 v1 0 v1 τ109))) ∧ FrZ ρ ρ' ∧ ∀ y, y < 64 → xA ρ' 51 (nI y) = b2i (decide (¬ y = x)) := by
  intro m
  induction m with
  | zero =>
    intro i N ρi hid hN hI
    obtain ⟨N, rfl⟩ : ∃ m, N = m + 1 := ⟨N - 1, by omega⟩
    have hip : i = 64 := by omega
    subst hip
    refine ⟨ρi, fun rec2 => ?_, hI⟩
    show f_X12_findNeeds_B66 _ _ _ _ _ _ _ = _
    unfold f_X12_findNeeds_B66
    rw [if_pos (by decide)]
  | succ m ih =>
    intro i N ρi hid hN hI
    obtain ⟨N, rfl⟩ : ∃ m, N = m + 1 := ⟨N - 1, by omega⟩
    have st : ∀ rec2, f_X12_findNeeds_L66 rec2 (N + 1) v1 (nI x) v3 (nI i) ρi = f_X12_findNeeds_L66 rec2 N v1 (nI x) v3 (nI (i + 1)) (pA ρi 51 (nI i) (b2i (decide (¬ i = x)))) := fun rec2 => by
      show f_X12_findNeeds_B66 _ _ _ _ _ _ _ = _
      unfold f_X12_findNeeds_B66 f_X12_findNeeds_b90
      rw [if_neg (show ¬ (64 : Int32) ≤ nI i from fun w => by have := (nI_le31 (a := 64) (by omega) (by omega)).mp w; omega)]
      by_cases hix : i = x
      · rw [if_pos (by rw [hix]), gdn (by omega) (by omega), nI_add1, decide_eq_false (fun z => z hix)]
        rfl
      · rw [if_neg (fun z => hix (nI_injL (by omega) (by omega) z)), gdn (by omega) (by omega), nI_add1, decide_eq_true hix]
        rfl
    obtain ⟨ρ', z1, z2⟩ := ih (i + 1) N (pA ρi 51 (nI i) (b2i (decide (¬ i = x)))) (by omega) (by omega) ⟨hI.1.tr ⟨fun _ => rfl, fun _ => rfl, fun j _ h5 => gA_ne _ _ _ h5, fun _ => rfl, rfl⟩, fun y hy => by
      by_cases hyi : y = i
      · subst hyi
        rw [xA_self]
      · rw [xA_pA, if_neg (fun z => tn_neL (a := y) (b := i) (by omega) (by omega) hyi z.2)]
        exact hI.2 y (by omega)⟩
    exact ⟨ρ', fun rec2 => (st rec2).trans (z1 rec2), z2⟩
theorem lb_sshr (w : Int64) {l : Nat} (hl : l < 64) : lb (j_lshr w (nI l)) 0 = lb w l := by
  unfold lb j_lshr
  rw [ls_tv2 l hl, Int64.toBitVec_shiftRight]
  have : (Int64.ofNat l).toBitVec.smod 64 = BitVec.ofNat 64 l := by
    revert hl; revert l; decide
  rw [this]
  show (w.toBitVec.sshiftRight (BitVec.ofNat 64 l).toNat).getLsbD 0 = _
  rw [BitVec.toNat_ofNat, Nat.mod_eq_of_lt (by omega), BitVec.getLsbD_sshiftRight]
  rw [Nat.add_zero, if_pos hl]
  simp
theorem sshr_1 (w : Int64) {l : Nat} (hl : l < 64) : (j_lshr w (nI l)) &&& 1 = (j_lushr w (nI l)) &&& 1 := by
  rw [lw1, lw1, lb_sshr w hl, lb_ushr w hl, Nat.add_zero]
/-- what finding the needs of lets writes -/
def FrU6 (ρ ρ' : S5) : Prop := (∀ j, gI ρ' j = gI ρ j) ∧ (∀ j, gJ ρ' j = gJ ρ j) ∧ (∀ j, ¬ j = 36 → ¬ j = 50 → ¬ j = 51 → gA ρ' j = gA ρ j) ∧ (∀ j, gB ρ' j = gB ρ j) ∧ ρ'.2.2.2.2 = ρ.2.2.2.2
theorem FrU6.rf (ρ : S5) : FrU6 ρ ρ := ⟨fun _ => rfl, fun _ => rfl, fun _ _ _ _ => rfl, fun _ => rfl, rfl⟩
theorem FrU6.tr {ρ ρ1 ρ2 : S5} (h : FrU6 ρ ρ1) (k : FrU6 ρ1 ρ2) : FrU6 ρ ρ2 := by
  obtain ⟨a1, a2, a3, a4, a5⟩ := h
  obtain ⟨b1, b2, b3, b4, b5⟩ := k
  exact ⟨fun j => (b1 j).trans (a1 j), fun j => (b2 j).trans (a2 j), fun j x y z => (b3 j x y z).trans (a3 j x y z), fun j => (b4 j).trans (a4 j), b5.trans a5⟩
theorem FrU6.rw {μ ρ ρ' : S5} (h : FrU6 ρ ρ') (k : RwE μ ρ) : RwE μ ρ' := fun j h0 h1 h2 h3 h4 => by rw [h.2.2.1 j h0 h2 h3, k j h0 h1 h2 h3 h4]
theorem FrZ.u6 {ρ ρ' : S5} (h : FrZ ρ ρ') : FrU6 ρ ρ' := ⟨h.1, h.2.1, fun j _ a b => h.2.2.1 j a b, h.2.2.2.1, h.2.2.2.2⟩
theorem FrU6.x {ρ ρ' : S5} (h : FrU6 ρ ρ') (j : Nat) (x : Int32) (h0 : ¬ j = 36) (h1 : ¬ j = 50) (h2 : ¬ j = 51) : xA ρ' j x = xA ρ j x := by
  show gA ρ' j _ = gA ρ j _
  rw [h.2.2.1 j h0 h1 h2]
/-- ONE NODE IS LOOKED AT FOR ITS NEED -/
theorem fn_step {τ μ ρ : S5} {pa : Nat → Nat} {F M n : Nat} {T : Nat → (Nat → Bool) → Bool} (hpa : ∀ g, g < F → xA μ 47 (nI g) = nI (pa g) ∧ pa g ≤ 8) (hF6 : F ≤ 630) (hR : RwE μ ρ) (hB5 : ∀ x, xB ρ 5 x = xB μ 5 x) (hT : T01 ρ F) (eT : TBm ρ pa = T) (hTm : TMo T) (h26 : gI ρ 26 = nI M) (hM : M ≤ 7000) (hn : n < M) (h36 : xA ρ 36 (nI n) = 0) {c : Int32} {q : Nat} {Sc : Nat → Prop} {lo hi : Nat} (h : JT τ μ F c q n Sc lo hi) (h40 : hi ≤ 40) (h41 : hF τ c < 41) : ∃ ρ', (∀ rec2, f_X12_findNeeds_B2 rec2 (nI n) ρ = rec2 (nI (n + 1)) ρ') ∧ FrU6 ρ ρ' ∧ (∀ x, x < 7000 → ¬ x = n → xA ρ' 36 (nI x) = xA ρ 36 (nI x)) ∧ xA ρ' 36 (nI n) = b2i (bP (xA τ 13 c = 7 ∧ NdL τ pa T c)) := by
  obtain ⟨g1, g2, g3, g4, g5⟩ := h.h
  have x31 := hR.x 31 (nI n) (by decide) (by decide) (by decide) (by decide) (by decide)
  have x32 := hR.x 32 (nI n) (by decide) (by decide) (by decide) (by decide) (by decide)
  have x35 := hR.x 35 (nI n) (by decide) (by decide) (by decide) (by decide) (by decide)
  have hlt : ¬ nI M ≤ nI n := fun w => by have := (nI_le31 (by omega) (by omega)).mp w; omega
  have no : ¬ (xA τ 13 c = 7 ∧ NdL τ pa T c) → (∀ rec2, f_X12_findNeeds_B2 rec2 (nI n) ρ = rec2 (nI (n + 1)) ρ) → ∃ ρ', (∀ rec2, f_X12_findNeeds_B2 rec2 (nI n) ρ = rec2 (nI (n + 1)) ρ') ∧ FrU6 ρ ρ' ∧ (∀ x, x < 7000 → ¬ x = n → xA ρ' 36 (nI x) = xA ρ 36 (nI x)) ∧ xA ρ' 36 (nI n) = b2i (bP (xA τ 13 c = 7 ∧ NdL τ pa T c)) := fun hz hs => by
    refine ⟨ρ, hs, FrU6.rf _, fun _ _ _ => rfl, ?_⟩
    have e : bP (xA τ 13 c = 7 ∧ NdL τ pa T c) = false := by
      cases e : bP (xA τ 13 c = 7 ∧ NdL τ pa T c) with
      | false => rfl
      | true => exact absurd (bP_t.mp e) hz
    rw [h36, e]
    rfl
  have nol : ∀ {y : Int32}, xA τ 13 c = y → ¬ y = 7 → ¬ xA μ 31 (nI n) = 0 → ∃ ρ', (∀ rec2, f_X12_findNeeds_B2 rec2 (nI n) ρ = rec2 (nI (n + 1)) ρ') ∧ FrU6 ρ ρ' ∧ (∀ x, x < 7000 → ¬ x = n → xA ρ' 36 (nI x) = xA ρ 36 (nI x)) ∧ xA ρ' 36 (nI n) = b2i (bP (xA τ 13 c = 7 ∧ NdL τ pa T c)) := fun hy h7 hk => no (fun z => h7 (hy.symm.trans z.1)) (fun rec2 => by
    unfold f_X12_findNeeds_B2 f_X12_findNeeds_b121
    rw [h26, if_neg hlt, gdn g2 (by omega), x31, if_neg hk, nI_add1])
  rcases h.un.2 with ⟨-, e1, e2, e3⟩ | ⟨k, ct, cc, ll, a, -⟩ | ⟨a, b, l, ct, bb, ll, d, e, f, g, i, j, m, o', o, r⟩ | ⟨a, b, -⟩
  · rcases e3 with ⟨z, w⟩ | ⟨z, w⟩ | ⟨z, w, _⟩ | ⟨z, w, _⟩ | ⟨z, w⟩ <;> exact nol z (by decide) (by rw [w]; decide)
  · rcases a with ⟨z, w, _⟩ | ⟨z, w, _⟩ | ⟨z, w⟩ <;> exact nol z (by decide) (by rw [w]; decide)
  · have hmo := ll_mo (fun i hi => (o i hi).2)
    have hm0 := hmo l 0 (by omega) (by omega)
    have e14 : xA τ 14 (bb 0) = nI lo := (f 0 (by omega)).2.1
    by_cases hl1 : l = 1
    · subst hl1
      obtain ⟨qq, pp, k1, k2, k3, k4, k5, k6⟩ := r
      have j0 : JT τ μ F (xA τ 16 (bb 0)) (qq 0) (pp 0) (Sx Sc lo 1) (ll 0) (ll 1) := (k6 0 (by omega)).1
      have j1 : JT τ μ F (xA τ 16 c) (qq 1) (pp 1) (Sx Sc lo 1) (ll 1) hi := (k6 1 (by omega)).1
      have p0 := (k6 0 (by omega)).2.2.1
      have p1 := (k6 1 (by omega)).2.2.1
      have hc0 : f_X12_child (nI n) 0 ρ = some (nI (pp 0), ρ) := chd_go (k := 0) hR g2 k1 (by omega) (k6 0 (by omega)).2.2.2.2
      have hc1 : f_X12_child (nI n) 1 ρ = some (nI (pp 1), ρ) := chd_go (k := 1) hR g2 k1 (by omega) (k6 1 (by omega)).2.2.2.2
      have hch : xA τ 17 (bb 0) = -1 := by
        rw [(f 0 (by omega)).2.2, if_neg (by omega)]
      have hst : ∀ rec2, f_X12_findNeeds_B2 rec2 (nI n) ρ = if (lg_cmp ((j_lushr (xB τ 2 (xA τ 16 (bb 0))) (nI lo)) &&& 1) 0) = 0 then f_X12_findNeeds_L66 rec2 FU (nI n) (nI lo) (nI (pp 1)) 0 ρ else rec2 (nI (n + 1)) ρ := fun rec2 => by
        unfold f_X12_findNeeds_B2 f_X12_findNeeds_b121
        rw [h26, if_neg hlt, gdn g2 (by omega), x31, b, if_pos rfl, gdn g2 (by omega), x32, g, if_pos (show nI 1 = 1 from rfl), gdn g2 (by omega), hc1, bd_of, hc0, bd_of, gdn (by omega) (by omega), x35, i, hB5, j0.b5, sshr_1 _ (by omega), nI_add1]
      by_cases hu : (j_lushr (xB τ 2 (xA τ 16 (bb 0))) (nI lo)) &&& 1 = 0
      · obtain ⟨ρ1, t1, t2, t3⟩ := fn_L66 (v1 := nI n) (v3 := nI (pp 1)) (x := lo) (ρ := ρ) (by omega) 64 0 FU ρ (by omega) (by show 64 < 1099511627776; omega) ⟨FrZ.rf _, fun y hy => absurd hy (by omega)⟩
        have hR1 := t2.rw hR
        have hfw : f_X12_firstWithin (nI (pp 1)) ρ1 = some (nI (qq 1), ρ1) := fw_go j1 ρ1 FU hR1 (by show pp 1 - qq 1 < 1099511627776; omega)
        obtain ⟨w, ρ2, b1, b2, b3, b4, b5⟩ := bp_go (pa := pa) hpa hF6 hR1 (t2.t01 hT) j1 (by omega) (by omega) (fun x hx => by
          have := j1.h.2.2.1
          rw [t3 x (by omega)]
          exact b2i_01 _)
        rw [t2.T pa, eT] at b4 b5
        have hhi := j1.h.2.2.1
        have hT' : Crs T T := fun f r r' h w => hTm f r r' h w
        have hx1 : ∀ x, x < ll 1 → hX ρ1 x = decide (¬ x = lo) := fun x hx => by
          unfold hX
          rw [t3 x (by omega)]
          cases decide (¬ x = lo) <;> decide
        have hS5 : ∀ x, Sx Sc lo 1 x → x < 5000 := fun x hx => by
          rcases hx with z | z
          · have := g5 x z; omega
          · omega
        have hn41 : hF τ (xA τ 16 c) < 41 := by omega
        have hval : w = true ↔ valB τ pa T 41 lo (xA τ 16 c) := by
          refine ⟨fun hw Y y1 y2 => ?_, fun hv => b5 (fun Y y1 y2 => hv Y (fun x hx => ?_) y2)⟩
          · obtain ⟨Y', ey⟩ : ∃ Y' : Nat → Bool, Y' = fun x => Y x || decide (lo < x ∧ x < ll 1) := ⟨_, rfl⟩
            have a1 : ∀ x, Sx Sc lo 1 x → Y x = Y' x := fun x hx => by
              rw [ey]
              show Y x = (Y x || decide (lo < x ∧ x < ll 1))
              rcases hx with z | z
              · have := g5 x z
                rw [decide_eq_false (by omega), Bool.or_false]
              · rw [decide_eq_false (by omega), Bool.or_false]
            have a2 : ∀ x, ll 1 ≤ x → x < hi → Y x = Y' x := fun x hx _ => by
              rw [ey]
              show Y x = (Y x || decide (lo < x ∧ x < ll 1))
              rw [decide_eq_false (by omega), Bool.or_false]
            rw [dv_cg hS5 j1.h.2.2.2.1 hn41 a1 a2]
            refine b4 hw T Y' hT' (Clo_cg j1.h.2.2.2.1 hS5 41 hn41 a1 a2 y2) (fun x hx hxx => ?_)
            rw [hx1 x hx] at hxx
            have hne := of_decide_eq_true hxx
            rw [ey]
            show (Y x || decide (lo < x ∧ x < ll 1)) = true
            by_cases hxl : x < lo
            · rw [y1 x hxl]; rfl
            · rw [decide_eq_true (by omega), Bool.or_true]
          · rw [y1 x (by omega), hx1 x (by omega), decide_eq_true (by omega)]
        have hnd : (xA τ 13 c = 7 ∧ NdL τ pa T c) ↔ ¬ w = true := by
          unfold NdL
          rw [e, e14, nI_clamp (by omega), hval]
          exact ⟨fun z => z.2.2.2, fun z => ⟨a, hch, hu, z⟩⟩
        obtain ⟨ρ3, e3⟩ : ∃ ρ3, ρ3 = pA ρ2 36 (nI n) (b2i (!w)) := ⟨_, rfl⟩
        have eb : bP (xA τ 13 c = 7 ∧ NdL τ pa T c) = !w := by
          refine Bool.eq_iff_iff.mpr ?_
          rw [bP_t, hnd]
          cases w <;> simp
        refine ⟨ρ3, fun rec2 => ?_, (t2.u6.tr b2.u6).tr (by rw [e3]; exact ⟨fun _ => rfl, fun _ => rfl, fun j h3 _ _ => gA_ne _ _ _ h3, fun _ => rfl, rfl⟩), fun x hx hxn => ?_, ?_⟩
        · rw [hst rec2, if_pos (by rw [hu]; exact lg_rf _)]
          have t1' := t1 rec2
          have t1'' : f_X12_findNeeds_L66 rec2 FU (nI n) (nI lo) (nI (pp 1)) 0 ρ = _ := t1'
          rw [t1'', hfw, bd_of, b1, bd_of]
          unfold f_X12_findNeeds_b120 f_X12_findNeeds_b121
          rw [gdn g2 (by omega), gdn g2 (by omega), nI_add1, e3]
          cases w <;> rfl
        · rw [e3, xA_pA, if_neg (fun z => tn_neL (a := x) (b := n) (by omega) (by omega) hxn z.2), b2.x 36 _ (by decide) (by decide), t2.x 36 _ (by decide) (by decide)]
        · rw [e3, xA_self, eb]
      · refine no (fun z => hu ?_) (fun rec2 => by rw [hst rec2, if_neg (fun z => hu (lg_eq z))])
        have := z.2.2.1
        rw [e, e14] at this
        exact this
    · refine no (fun z => ?_) (fun rec2 => ?_)
      · have h1 := z.2.1
        rw [e, (f 0 (by omega)).2.2, if_pos (by omega)] at h1
        have h2 := (f 1 (by omega)).1
        have h3 : bb (0 + 1) = bb 1 := rfl
        rw [← h3, h1] at h2
        exact absurd h2 (by decide)
      · unfold f_X12_findNeeds_B2 f_X12_findNeeds_b121
        rw [h26, if_neg hlt, gdn g2 (by omega), x31, b, if_pos rfl, gdn g2 (by omega), x32, g, if_neg (show ¬ nI l = 1 from fun z => hl1 (nI_injL (b := 1) (by omega) (by omega) z)), nI_add1]
  · exact nol a (by decide) (by rw [b]; decide)
