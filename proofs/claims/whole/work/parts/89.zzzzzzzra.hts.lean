/-- a node's height -/
def hF (τ : S5) (c : Int32) : Nat := (xA τ 18 c).toNatClampNeg
theorem mH_mx {τ : S5} {cc : Nat → Int32} : ∀ l, (∀ i, i < l → Hn τ (cc i) ∧ Nn τ (cc i) ≤ 6100) → ∃ h : Nat, mH τ cc l = nI h ∧ h ≤ 6100 ∧ ∀ i, i < l → hF τ (cc i) ≤ h
  | 0, _ => ⟨0, rfl, by omega, fun i hi => absurd hi (by omega)⟩
  | l + 1, h => by
    obtain ⟨a, a1, a2, a3⟩ := mH_mx l (fun i hi => h i (by omega))
    obtain ⟨⟨b0, b, b1, b2⟩, b3⟩ := h l (by omega)
    have eb : hF τ (cc l) = b := by unfold hF; rw [b1, nI_clamp (by omega)]
    show ∃ h : Nat, (if mH τ cc l < xA τ 18 (cc l) then xA τ 18 (cc l) else mH τ cc l) = nI h ∧ h ≤ 6100 ∧ ∀ i, i < l + 1 → hF τ (cc i) ≤ h
    rw [a1, b1]
    by_cases hlt : nI a < nI b
    · rw [if_pos hlt]
      have := (nI_lt31 (by omega) (by omega)).mp hlt
      refine ⟨b, rfl, by omega, fun i hi => ?_⟩
      by_cases hil : i = l
      · subst hil; omega
      · have := a3 i (by omega); omega
    · rw [if_neg hlt]
      have : ¬ a < b := fun w => hlt ((nI_lt31 (by omega) (by omega)).mpr w)
      refine ⟨a, rfl, by omega, fun i hi => ?_⟩
      by_cases hil : i = l
      · subst hil; omega
      · exact a3 i (by omega)
/-- children are lower -/
theorem ht_lt {τ : S5} {c a2 : Int32} {l : Nat} {cc : Nat → Int32} (hM : MEQ τ c a2 l cc) (hu : u1F (xA τ 13 c) = 1) (hk : ∀ i, i < l → Hn τ (cc i) ∧ Nn τ (cc i) ≤ 6100) : ∀ i, i < l → hF τ (cc i) < hF τ c := by
  intro i hi
  obtain ⟨h, h1, h2, h3⟩ := mH_mx l hk
  have e : hF τ c = h + 1 := by
    unfold hF
    rw [hM.1, hu, h1, nI_add1, nI_clamp (by omega)]
  have := h3 i hi
  omega
/-- every planted node has parts and a height -/
theorem hn_all {σ ν τr τv τu τp : S5} {k U F C : Nat} {S : Int32} {sc : Nat → Int32} {cf : Nat → Nat} (hX : PX σ ν τr τv τu τp k U F C S sc cf) : ∀ i, 0 ≤ i → i < nI C → Hn τp i ∧ Nn τp i ≤ 6100 := by
  intro i i0 iC
  have hL := hX.1
  have hcov := hL.2.2.2.2.2.2.2.2.2.1
  have h8 : gI σ 8 = nI C := hX.2.2.2.1
  have hC6 : nI C ≤ 6200 := (nI_le31 (b := 6200) (by have := hX.2.2.2.2; omega) (by omega)).mpr hX.2.2.2.2
  have i6 : i < 6200 := i_lt_le iC hC6
  have one : ∀ {s s' t c1 : Int32}, s ≤ s' → xA σ 16 i = c1 → 0 ≤ c1 → xA σ 17 c1 = -1 → i = c1 + 1 → (xA σ 13 i = 10 ∨ xA σ 13 i = 11 ∨ xA σ 13 i = 12 ∨ xA σ 13 i = 13) → Ms σ τr τp cf s s' t c1 → Hn τp i ∧ Nn τp i ≤ 6100 := by
    intro s s' t c1 hs e1 e2 e3 e4 e5 ms
    obtain ⟨mq, t13⟩ := hX.ch i0 iC (l := 1) (cc := fun _ => c1) ⟨by omega, e1, fun p hp => ⟨e2, by show c1 < i; clear hX hcov hL ms; grind, by rw [if_neg (by omega)]; exact e3⟩⟩ (by rcases e5 with w | w | w | w <;> rw [w] <;> decide) (by rcases e5 with w | w | w | w <;> rw [w] <;> decide)
    have m := Ms.one hX hs rfl i0 i6 e4 mq (by rw [t13]; rcases e5 with w | w | w | w <;> rw [w] <;> rfl) ms
    exact ⟨m.1, m.2.1⟩
  have hRm : ∀ h s s' u u' a b t n c, TR σ ν h s s' u u' a b t n c → c < nI C → s' ≤ S → Ow σ h s → Ms σ τr τp cf s s' t c := fun _ _ _ _ _ _ _ _ _ _ w x y z => w.ms hX x y z
  rcases hcov.1 i i0 (by rw [h8]; exact iC) with ⟨h, s, s', u, u', a, b, t, n, hS, q, cx⟩ | ⟨v, j, s, s', u, u', a, b, t, n, ⟨j5, s7, b3, hS⟩, q, cx⟩ | ⟨h, j, s, s', u, u', a, b, t, n, ⟨s7, hS⟩, q, cx⟩ | ⟨h, s, s', u, u', n, b, t, ⟨s7, hS, hk⟩, q, cx⟩
  · have m := q.ms hX iC hS cx.2.1
    exact ⟨m.1, m.2.1⟩
  · obtain ⟨d1, d2, d3, d4, d5, c1, d6, d7, d8, d9⟩ := q
    have hs0 : 0 ≤ s := by have := cx.1; clear hX hcov hL hRm one d9; grind
    rcases d9 with ⟨f1, f2, f3⟩ | f1
    · have hc1 := f2.c
      unfold Wi at f3
      exact one f3.2.1 d6 hc1.1 d7 d8 (Or.inl d3) (f2.ms hX (by clear hX hcov hL hRm one f2; grind) hS cx.2.1)
    · have g := f1
      obtain ⟨g1, g2, g3, g4, g5, g6, g7, g8, g9, c9, g10, g11, g12, g13, g14⟩ := g
      have hc9 := g12.c
      have k4 : 0 ≤ c1 := by clear hX hcov hL hRm one f1 g12; grind
      have hss : s ≤ s' := by unfold Wi at g13; clear hX hcov hL hRm one f1 g12; grind
      exact one hss d6 k4 d7 d8 (Or.inl d3) (f1.ms hX hRm cx.1.1 hs0 s7 k4 (by clear hX hcov hL hRm one f1 g12; grind) (by clear hX hcov hL hRm one f1 g12; grind) hS)
  · obtain ⟨d1, d2, c1, d3, d4, d5, d6⟩ := q
    have hs0 : 0 ≤ s := by have := cx.1; clear hX hcov hL hRm one d6; grind
    rcases d6 with ⟨f1, f2, f3, f4, f5, f6, f7, f8, f9, f10, f11, f12, f13⟩ | ⟨f1, f2, f3, f4⟩
    · have hc1 := f12.c
      unfold Wi at f13
      exact one f13.2.1 d3 hc1.1 d4 d5 (Or.inr (Or.inl f2)) (f12.ms hX (by clear hX hcov hL hRm one f12; grind) hS (by unfold Ow; rw [f9]; exact ⟨cx.2.1.1, by have := cx.2.1.2; clear hX hcov hL hRm one f12; grind⟩))
    · have hc1 := f3.c
      unfold Wi at f4
      refine one f4.2.1 d3 hc1.1 d4 d5 ?_ (f3.ms hX (by clear hX hcov hL hRm one f3; grind) hS cx.2.1)
      rcases f2 with ⟨_, w, _⟩ | ⟨_, w⟩
      · exact Or.inr (Or.inr (Or.inl w))
      · exact Or.inr (Or.inr (Or.inr w))
  · have hs0 : 0 ≤ s := by have := cx.1; clear hX hcov hL hRm one q; grind
    have m := q.ms hX hRm cx.1.1 hs0 s7 i0 i6 iC hS
    exact ⟨m.1, m.2.1⟩
/-- children are lower, by the chain -/
theorem PX.ht {σ ν τr τv τu τp : S5} {k U F C : Nat} {S : Int32} {sc : Nat → Int32} {cf : Nat → Nat} (hX : PX σ ν τr τv τu τp k U F C S sc cf) {c : Int32} (hc0 : 0 ≤ c) (hcC : c < nI C) {l : Nat} {cc : Nat → Int32} (h : CHn σ c l cc) (h5 : 5 ≤ xA σ 13 c) (h13 : xA σ 13 c ≤ 13) : (u1F (xA σ 13 c) = 1 → ∀ i, i < l → hF τp (cc i) < hF τp c) ∧ (u1F (xA σ 13 c) = 0 → l = 1 → hF τp c = hF τp (cc 0)) := by
  obtain ⟨mq, t13⟩ := hX.ch hc0 hcC h h5 h13
  have hk : ∀ i, i < l → Hn τp (cc i) ∧ Nn τp (cc i) ≤ 6100 := fun i hi => by
    obtain ⟨a, b, -⟩ := h.2.2 i hi
    exact hn_all hX (cc i) a (i_lt_le b (i_le_of_lt hcC))
  refine ⟨fun hu => ht_lt mq (by rw [t13]; exact hu) hk, fun hu hl => ?_⟩
  subst hl
  obtain ⟨a, b⟩ := hk 0 (by omega)
  unfold hF
  rw [(mq.one rfl (by rw [t13]; exact hu) a b).1]
