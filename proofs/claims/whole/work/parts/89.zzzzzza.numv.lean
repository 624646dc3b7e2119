/-- names of the scopes within a function, without its own -/
def wP (σ : S5) (o : Int32) (i : Nat) : Nat := if i = o.toNatClampNeg then 0 else wO σ o i
theorem wP_pre {σ : S5} {o : Int32} (o0 : 0 ≤ o) (ho : xA σ 22 o = o) : ∀ n, pre (wO σ o) n = pre (wP σ o) n + (if o.toNatClampNeg < n then vC σ o.toNatClampNeg else 0)
  | 0 => by rw [if_neg (by omega)]; rfl
  | n + 1 => by
    have ih := wP_pre o0 ho n
    show pre (wO σ o) n + wO σ o n = pre (wP σ o) n + wP σ o n + _
    rw [ih]
    unfold wP
    by_cases h : n = o.toNatClampNeg
    · have e : wO σ o n = vC σ n := by
        unfold wO
        rw [h, xA_tn, if_pos ho]
      rw [if_pos h, if_neg (by omega), if_pos (by omega), e, h]
    · rw [if_neg h]
      by_cases h2 : o.toNatClampNeg < n
      · rw [if_pos h2, if_pos (by omega)]; omega
      · rw [if_neg h2, if_neg (by omega)]; omega
/-- only bases and counts of variables are written -/
def FrB (σ τ : S5) : Prop := (∀ j, gI τ j = gI σ j) ∧ (∀ j, gJ τ j = gJ σ j) ∧ (∀ j, ¬ j = 25 → ¬ j = 6 → gA τ j = gA σ j) ∧ (∀ j, gB τ j = gB σ j) ∧ τ.2.2.2.2 = σ.2.2.2.2
theorem FrB.x {σ τ : S5} (h : FrB σ τ) (j : Nat) (i : Int32) (h1 : ¬ j = 25) (h2 : ¬ j = 6) : xA τ j i = xA σ j i := by
  show gA τ j i.toNatClampNeg = gA σ j i.toNatClampNeg
  rw [h.2.2.1 j h1 h2]
theorem FrB.A {σ τ : S5} {k : Nat} {i v : Int32} (h : FrB σ τ) (hk : k = 25 ∨ k = 6) : FrB σ (pA τ k i v) := ⟨h.1, h.2.1, fun j a b => by rw [gA_ne _ _ _ (by omega)]; exact h.2.2.1 j a b, h.2.2.2⟩
/-- what numbering the variables needs -/
def NVh (σ τm : S5) (F : Nat) (S : Int32) (sc : Nat → Int32) (cf : Nat → Nat) : Prop := DN σ ∧ F ≤ 630 ∧ (0 ≤ S ∧ S ≤ 630) ∧ (gI τm 6 = nI F ∧ gI τm 9 = S) ∧ (∀ f, f < F → xA τm 8 (nI f) = sc f ∧ 0 ≤ sc f ∧ sc f < S ∧ xA σ 22 (sc f) = sc f ∧ xA τm 26 (sc f) = nI f) ∧ (∀ s, 0 ≤ s → s < S → ∃ f, f < F ∧ xA σ 22 s = sc f ∧ sc f ≤ s) ∧ ((∀ i, xA τm 22 i = xA σ 22 i) ∧ (∀ i, xA τm 20 i = xA σ 20 i)) ∧ (∀ f, f < F → cf f ≤ 8 ∧ xA τm 4 (nI f) = nI (cf f) ∧ xA τm 3 (nI f) = nI (cf f + vC σ (sc f).toNatClampNeg))
/-- variables are numbered -/
def BV (σ τm τv : S5) (F : Nat) (S : Int32) (sc : Nat → Int32) (cf : Nat → Nat) : Prop := FrB τm τv ∧ (∀ f s, f < F → 0 ≤ s → s < S → xA σ 22 s = sc f → xA τv 25 s = nI (cf f + prI (wO σ (sc f)) s)) ∧ (∀ f, f < F → xA τv 6 (nI f) = nI (cf f + prI (wO σ (sc f)) S))
theorem nv_L65 {σ τm : S5} {F : Nat} {S : Int32} {sc : Nat → Int32} {cf : Nat → Nat} (h : NVh σ τm F S sc cf) : ∀ (d v m : Nat) (τ : S5), v + d = S.toNatClampNeg → d < m → FrB τm τ → (∀ f, f < F → xA τ 25 (sc f) = nI (cf f)) → (∀ f s, f < F → 0 ≤ s → s < nI v → ¬ s = sc f → xA σ 22 s = sc f → xA τ 25 s = nI (cf f + vC σ (sc f).toNatClampNeg + prI (wP σ (sc f)) s)) → (∀ f, f < F → xA τ 6 (nI f) = nI (cf f + vC σ (sc f).toNatClampNeg + pre (wP σ (sc f)) v)) → ∃ τ', f_X2_numberVariables_L65 m (nI v) τ = some ((), τ') ∧ FrB τm τ' ∧ (∀ f, f < F → xA τ' 25 (sc f) = nI (cf f)) ∧ (∀ f s, f < F → 0 ≤ s → s < S → ¬ s = sc f → xA σ 22 s = sc f → xA τ' 25 s = nI (cf f + vC σ (sc f).toNatClampNeg + prI (wP σ (sc f)) s)) ∧ (∀ f, f < F → xA τ' 6 (nI f) = nI (cf f + vC σ (sc f).toNatClampNeg + pre (wP σ (sc f)) S.toNatClampNeg)) := by
  obtain ⟨hD, hF, ⟨hS0, hS6⟩, ⟨g6, g9⟩, hsc, hown, ⟨x22, x20⟩, hcf⟩ := h
  have hSn := nI_tn hS0
  have hS630 : S.toNatClampNeg ≤ 630 := i_le (n := 630) hS6
  intro d
  induction d with
  | zero =>
    intro v m τ hv hm q1 q2 q3 q4
    obtain ⟨m, rfl⟩ : ∃ m', m = m' + 1 := ⟨m - 1, by omega⟩
    have : v = S.toNatClampNeg := by omega
    subst this
    refine ⟨τ, ?_, q1, q2, fun f s a b c => q3 f s a b (by rw [← hSn]; exact c), q4⟩
    show f_X2_numberVariables_B65 _ _ _ = _
    unfold f_X2_numberVariables_B65
    rw [q1.1 9, g9, ← hSn, if_pos (Int32.le_refl _)]
  | succ d ih =>
    intro v m τ hv hm q1 q2 q3 q4
    obtain ⟨m, rfl⟩ : ∃ m', m = m' + 1 := ⟨m - 1, by omega⟩
    have v0 : 0 ≤ nI v := i_le0 (nI_nneg (by omega))
    have vS : nI v < S := by rw [hSn]; exact (nI_lt31 (by omega) (by omega)).mpr (by omega)
    have v7 : nI v < 700 := by grind
    have ecv : (nI v).toNatClampNeg = v := nI_clamp (by omega)
    obtain ⟨f, f1, f2, f3⟩ := hown (nI v) v0 vS
    obtain ⟨k1, k2, k3, k4, k5⟩ := hsc f f1
    have hlt : ∀ s, s < nI (v + 1) → ¬ s = nI v → s < nI v := by
      intro s a b
      have : nI v + 1 = nI (v + 1) := nI_add1 v
      grind
    have step : ∀ (τ' : S5) (hstep : f_X2_numberVariables_L65 (m + 1) (nI v) τ = f_X2_numberVariables_L65 m (nI (v + 1)) τ'), FrB τm τ' → (∀ f, f < F → xA τ' 25 (sc f) = nI (cf f)) → (∀ f s, f < F → 0 ≤ s → s < nI (v + 1) → ¬ s = sc f → xA σ 22 s = sc f → xA τ' 25 s = nI (cf f + vC σ (sc f).toNatClampNeg + prI (wP σ (sc f)) s)) → (∀ f, f < F → xA τ' 6 (nI f) = nI (cf f + vC σ (sc f).toNatClampNeg + pre (wP σ (sc f)) (v + 1))) → ∃ τ', f_X2_numberVariables_L65 (m + 1) (nI v) τ = some ((), τ') ∧ FrB τm τ' ∧ (∀ f, f < F → xA τ' 25 (sc f) = nI (cf f)) ∧ (∀ f s, f < F → 0 ≤ s → s < S → ¬ s = sc f → xA σ 22 s = sc f → xA τ' 25 s = nI (cf f + vC σ (sc f).toNatClampNeg + prI (wP σ (sc f)) s)) ∧ (∀ f, f < F → xA τ' 6 (nI f) = nI (cf f + vC σ (sc f).toNatClampNeg + pre (wP σ (sc f)) S.toNatClampNeg)) := by
      intro τ' hstep a b c e
      rw [hstep]
      exact ih (v + 1) m τ' (by omega) (by omega) a b c e
    have hB : f_X2_numberVariables_L65 (m + 1) (nI v) τ = if nI v = sc f then f_X2_numberVariables_L65 m (nI (v + 1)) τ else f_X2_numberVariables_L65 m (nI (v + 1)) (pA (pA τ 25 (nI v) (xA τ 6 (nI f))) 6 (nI f) (xA τ 6 (nI f) + xA σ 20 (nI v))) := by
      show f_X2_numberVariables_B65 _ _ _ = _
      unfold f_X2_numberVariables_B65 f_X2_numberVariables_b144 f_X6_owns
      rw [q1.1 9, g9, if_neg (fun w => by grind), gd700 v0 v7, q1.x 22 _ (by decide) (by decide), x22, f2]
      by_cases he : nI v = sc f
      · rw [if_pos he, if_pos he.symm, bd_of, if_neg (by decide), nI_add1]
      · rw [if_neg he, if_neg (fun w => he w.symm), bd_of, if_pos rfl, gd700 v0 v7, q1.x 22 _ (by decide) (by decide), x22, f2, gd700 k2 (by grind), q1.x 26 _ (by decide) (by decide), k5, gdn (by omega) (by omega), gd700 v0 v7, gdn (by omega) (by omega), gd700 v0 v7, gdn (by omega) (by omega), q1.x 20 _ (by decide) (by decide), x20, nI_add1]
    by_cases he : nI v = sc f
    · rw [if_pos he] at hB
      have uniq : ∀ g, g < F → sc g = nI v → g = f := by
        intro g g1 g2
        have := (hsc g g1).2.2.2.2
        rw [g2, he, k5] at this
        exact nI_inj (by omega) (by omega) this.symm
      refine step τ hB q1 q2 (fun g s a b c e e2 => ?_) (fun g g1 => ?_)
      · by_cases hs : s = nI v
        · rw [hs, f2] at e2
          rw [hs, he] at e
          exact absurd e2 e
        · exact q3 g s a b (hlt s c hs) e e2
      · rw [q4 g g1]
        have : wP σ (sc g) v = 0 := by
          unfold wP
          by_cases hg : v = (sc g).toNatClampNeg
          · rw [if_pos hg]
          · rw [if_neg hg]
            unfold wO
            rw [if_neg]
            rw [f2]
            intro w
            rw [← w, ← he, ecv] at hg
            exact hg rfl
        show _ = nI (_ + (pre (wP σ (sc g)) v + wP σ (sc g) v))
        rw [this]
        rfl
    · rw [if_neg he] at hB
      have hl : (sc f).toNatClampNeg < v := by
        have : sc f < nI v := by grind
        have := i_lt (a := sc f) (n := nI v) (not_neg k2) this
        omega
      have ne_sc : ∀ g, g < F → ¬ nI v = sc g := by
        intro g g1 w
        have := (hsc g g1).2.2.2.1
        rw [← w, f2] at this
        exact he this.symm
      refine step _ hB ((q1.A (Or.inl rfl)).A (Or.inr rfl)) (fun g g1 => ?_) (fun g s a b c e e2 => ?_) (fun g g1 => ?_)
      · rw [xA_pA, if_neg (fun w => absurd w.1 (by decide)), xA_pA, if_neg (fun w => ne_sc g g1 ((i_inj v0 (hsc g g1).2.1).mp w.2.symm))]
        exact q2 g g1
      · rw [xA_pA, if_neg (fun w => absurd w.1 (by decide))]
        by_cases hs : s = nI v
        · have hgf : g = f := by
            rw [hs, f2] at e2
            have z1 := (hsc g a).2.2.2.2
            rw [← e2, k5] at z1
            exact nI_inj (by omega) (by omega) z1.symm
          rw [hs, hgf, xA_pA, if_pos ⟨rfl, rfl⟩, q4 f f1]
          unfold prI
          rw [ecv]
        · rw [xA_pA, if_neg (fun w => hs ((i_inj b v0).mp w.2))]
          exact q3 g s a b (hlt s c hs) e e2
      · show _ = nI (_ + (pre (wP σ (sc g)) v + wP σ (sc g) v))
        by_cases hgf : g = f
        · subst hgf
          have hw : wP σ (sc g) v = vC σ v := by
            unfold wP wO
            rw [if_neg (by omega), if_pos f2]
          obtain ⟨j, j5, ej, _⟩ := hD (nI v) v0 v7
          have hv : vC σ v = j := by
            unfold vC
            rw [ej, nI_clamp (by omega)]
          rw [xA_pA, if_pos ⟨rfl, rfl⟩, q4 g g1, ej, hw, hv, nI_plus, ← Nat.add_assoc]
        · have hw : wP σ (sc g) v = 0 := by
            unfold wP
            by_cases hg : v = (sc g).toNatClampNeg
            · rw [if_pos hg]
            · rw [if_neg hg]
              unfold wO
              rw [if_neg]
              rw [f2]
              intro w
              have z1 := (hsc g g1).2.2.2.2
              rw [← w, k5] at z1
              exact hgf (nI_inj (by omega) (by omega) z1.symm)
          rw [xA_pA, if_neg (fun w => tn_ne (by omega) (by omega) hgf w.2), xA_pA, if_neg (fun w => absurd w.1 (by decide)), q4 g g1, hw]
          rfl
theorem nv_L2 {σ τm : S5} {F : Nat} {S : Int32} {sc : Nat → Int32} {cf : Nat → Nat} (h : NVh σ τm F S sc cf) : ∀ (d v m : Nat) (τ : S5), v + d = F → d < m → FrB τm τ → (∀ f, f < v → xA τ 25 (sc f) = nI (cf f) ∧ xA τ 6 (nI f) = nI (cf f + vC σ (sc f).toNatClampNeg)) → ∃ τ', f_X2_numberVariables_L2 m (nI v) τ = f_X2_numberVariables_L65 FU 0 τ' ∧ FrB τm τ' ∧ (∀ f, f < F → xA τ' 25 (sc f) = nI (cf f) ∧ xA τ' 6 (nI f) = nI (cf f + vC σ (sc f).toNatClampNeg)) := by
  obtain ⟨hD, hF, ⟨hS0, hS6⟩, ⟨g6, g9⟩, hsc, hown, ⟨x22, x20⟩, hcf⟩ := h
  intro d
  induction d with
  | zero =>
    intro v m τ hv hm q1 q2
    obtain ⟨m, rfl⟩ : ∃ m', m = m' + 1 := ⟨m - 1, by omega⟩
    have : v = F := by omega
    subst this
    refine ⟨τ, ?_, q1, q2⟩
    show f_X2_numberVariables_B2 _ _ _ = _
    unfold f_X2_numberVariables_B2
    rw [q1.1 6, g6, if_pos (Int32.le_refl _)]
  | succ d ih =>
    intro v m τ hv hm q1 q2
    obtain ⟨m, rfl⟩ : ∃ m', m = m' + 1 := ⟨m - 1, by omega⟩
    obtain ⟨k1, k2, k3, k4, k5⟩ := hsc v (by omega)
    obtain ⟨c1, c2, c3⟩ := hcf v (by omega)
    have hB : f_X2_numberVariables_L2 (m + 1) (nI v) τ = f_X2_numberVariables_L2 m (nI (v + 1)) (pA (pA τ 25 (sc v) (nI (cf v))) 6 (nI v) (nI (cf v + vC σ (sc v).toNatClampNeg))) := by
      show f_X2_numberVariables_B2 _ _ _ = _
      unfold f_X2_numberVariables_B2
      rw [q1.1 6, g6, if_neg (fun w => by have := (nI_le31 (by omega) (by omega)).mp w; omega), gdn (by omega) (by omega), gdn (by omega) (by omega), q1.x 8 _ (by decide) (by decide), k1, gd700 k2 (by grind), gdn (by omega) (by omega), gdn (by omega) (by omega), q1.x 4 _ (by decide) (by decide), c2, q1.x 3 _ (by decide) (by decide), c3, nI_add1]
    rw [hB]
    refine ih (v + 1) m _ (by omega) (by omega) ((q1.A (Or.inl rfl)).A (Or.inr rfl)) (fun f hf => ?_)
    by_cases hfv : f = v
    · subst hfv
      exact ⟨by rw [xA_pA, if_neg (fun w => absurd w.1 (by decide)), xA_self], xA_self _ _ _ _⟩
    · obtain ⟨a1, a2⟩ := q2 f (by omega)
      obtain ⟨l1, l2, l3, l4, l5⟩ := hsc f (by omega)
      refine ⟨?_, ?_⟩
      · rw [xA_pA, if_neg (fun w => absurd w.1 (by decide)), xA_pA, if_neg]
        · exact a1
        · intro w
          have := (i_inj l2 k2).mp w.2
          rw [this, k5] at l5
          exact hfv (nI_inj (by omega) (by omega) l5.symm)
      · rw [xA_pA, if_neg (fun w => tn_ne (by omega) (by omega) hfv w.2), xA_pA, if_neg (fun w => absurd w.1 (by decide))]
        exact a2
theorem nv_go {σ τm : S5} {F : Nat} {S : Int32} {sc : Nat → Int32} {cf : Nat → Nat} (h : NVh σ τm F S sc cf) : ∃ τv, f_X2_numberVariables τm = some ((), τv) ∧ BV σ τm τv F S sc cf := by
  have hbig := FU_big (n := 30000) (by decide)
  have h' := h
  obtain ⟨hD, hF, ⟨hS0, hS6⟩, ⟨g6, g9⟩, hsc, hown, ⟨x22, x20⟩, hcf⟩ := h'
  have hS630 : S.toNatClampNeg ≤ 630 := i_le (n := 630) hS6
  obtain ⟨τ1, a1, a2, a3⟩ := nv_L2 h F 0 FU τm (by omega) (by omega) ⟨fun _ => rfl, fun _ => rfl, fun _ _ _ => rfl, fun _ => rfl, rfl⟩ (fun f hf => absurd hf (by omega))
  obtain ⟨τ2, b1, b2, b3, b4, b5⟩ := nv_L65 h S.toNatClampNeg 0 FU τ1 (by omega) (by omega) a2 (fun f hf => (a3 f hf).1) (fun f s _ s0 s1 => absurd s1 (by have : nI 0 = 0 := rfl; rw [this]; grind)) (fun f hf => (a3 f hf).2)
  refine ⟨τ2, a1.trans b1, b2, fun f s f1 s0 s1 s2 => ?_, fun f f1 => ?_⟩
  · obtain ⟨k1, k2, k3, k4, k5⟩ := hsc f f1
    have hp := wP_pre k2 k4 s.toNatClampNeg
    by_cases hs : s = sc f
    · have hz : ∀ n, n ≤ (sc f).toNatClampNeg → pre (wO σ (sc f)) n = 0 := by
        intro n
        induction n with
        | zero => intro _; rfl
        | succ n ihn =>
          intro hn
          show pre (wO σ (sc f)) n + wO σ (sc f) n = 0
          rw [ihn (by omega)]
          unfold wO
          rw [if_neg]
          intro w
          have sl : (sc f).toNatClampNeg < 630 := i_lt (n := 630) (not_neg k2) (by grind)
          have n0 : 0 ≤ nI n := i_le0 (nI_nneg (by omega))
          have nS : nI n < S := by
            have : nI n < sc f := by rw [nI_tn k2]; exact (nI_lt31 (by omega) (by omega)).mpr (by omega)
            grind
          obtain ⟨g, g1, g2, g3⟩ := hown (nI n) n0 nS
          rw [w] at g2
          rw [← g2] at g3
          have : nI n < sc f := by rw [nI_tn k2]; exact (nI_lt31 (by omega) (by omega)).mpr (by omega)
          grind
      rw [hs, b3 f f1]
      unfold prI
      rw [hz _ (Nat.le_refl _)]
      rfl
    · rw [b4 f s f1 s0 s1 hs s2]
      obtain ⟨g, g1, g2, g3⟩ := hown s s0 s1
      have hgf : sc g = sc f := g2.symm.trans s2
      rw [hgf] at g3
      have hl : (sc f).toNatClampNeg < s.toNatClampNeg := i_lt (not_neg k2) (by grind)
      rw [if_pos hl] at hp
      unfold prI
      rw [hp, Nat.add_assoc, Nat.add_comm (vC σ (sc f).toNatClampNeg)]
  · obtain ⟨k1, k2, k3, k4, k5⟩ := hsc f f1
    have hp := wP_pre k2 k4 S.toNatClampNeg
    rw [if_pos (i_lt (not_neg k2) k3)] at hp
    rw [b5 f f1]
    unfold prI
    rw [hp, Nat.add_assoc, Nat.add_comm (vC σ (sc f).toNatClampNeg)]
