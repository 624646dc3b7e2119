theorem orA_iff {τ : S5} {v : Int32 → Bool} {k : Nat} {aa : Nat → Int32} (hc : ∀ i, i < k → 0 ≤ aa i ∧ xA τ 17 (aa i) = if i + 1 < k then aa (i + 1) else -1) : ∀ (m i : Nat), k ≤ i + m → (orA τ v m (if i < k then aa i else -1) = true ↔ ∃ j, i ≤ j ∧ j < k ∧ v (xA τ 16 (aa j)) = true)
  | 0, i, h => by
    refine ⟨fun w => absurd w Bool.false_ne_true, fun ⟨j, a, b, _⟩ => absurd b (by omega)⟩
  | m + 1, i, h => by
    by_cases hi : i < k
    · obtain ⟨c1, c2⟩ := hc i hi
      rw [if_pos hi]
      unfold orA
      rw [if_neg (i_nm c1), Bool.or_eq_true, c2, orA_iff hc m (i + 1) (by omega)]
      refine ⟨fun w => ?_, fun ⟨j, a, b, e⟩ => ?_⟩
      · rcases w with w | ⟨j, a, b, e⟩
        · exact ⟨i, Nat.le_refl _, hi, w⟩
        · exact ⟨j, by omega, b, e⟩
      · by_cases hj : j = i
        · subst hj; exact Or.inl e
        · exact Or.inr ⟨j, by omega, b, e⟩
    · rw [if_neg hi]
      unfold orA
      rw [if_pos rfl]
      exact ⟨fun w => absurd w (by decide), fun ⟨j, a, b, _⟩ => absurd b (by omega)⟩
/-- a variable is set to all ones -/
theorem FrD.ones {g lo hi y : Nat} (σ : S5) (hy : lo ≤ y) (hy2 : y < hi) (h40 : hi ≤ 40) : FrD g lo hi σ (pB σ 6 (nI y) (-1)) := by
  have e6 : ∀ x, x < 40 → ¬ x = y → xB (pB σ 6 (nI y) (-1)) 6 (nI x) = xB σ 6 (nI x) := fun x hx hn => by
    rw [xB_pB, if_neg (fun z => tn_neL (a := x) (b := y) (by omega) (by omega) hn z.2)]
  have ey : xB (pB σ 6 (nI y) (-1)) 6 (nI y) = -1 := by rw [xB_pB, if_pos ⟨rfl, rfl⟩]
  have e7 : ∀ x, xB (pB σ 6 (nI y) (-1)) 7 x = xB σ 7 x := fun x => by
    rw [xB_pB, if_neg (fun z => absurd z.1 (by decide))]
  refine ⟨fun j _ _ => rfl, fun _ => rfl, fun _ => rfl, fun j h6 _ => by rw [gB_ne _ _ _ h6], rfl, fun x _ => e7 _, fun x hx hz => e6 x hx (by omega), fun x l hx hl z => ?_, fun z => z, fun z => z, fun z => Or.inl z⟩
  unfold XL at z ⊢
  by_cases hxy : x = y
  · subst hxy
    rw [ey, lb_m1 hl]
  · rw [e6 x hx hxy]; exact z
/-- the variables of an alternative are set -/
theorem al_L39 {τ σ : S5} {E : Int32 → S5 → Option (Int64 × S5)} {rec8 : Int64 → Int32 → Int32 → S5 → Option (Int64 × S5)} {v2 : Int64} {v4 a : Int32} {g lo hi x0 j : Nat} (hE : TE τ σ) (h11 : xA τ 13 a = 11) (ha0 : 0 ≤ a) (ha1 : a < 6200) (h14 : 0 ≤ xA τ 14 a ∧ xA τ 14 a < 30) (h2 : xA τ 2 (xA τ 14 a) = nI j) (h15 : xA τ 15 a = nI x0) (hx0 : lo ≤ x0) (hx1 : x0 + j ≤ hi) (h40 : hi ≤ 40) : ∀ (m i N : Nat) (σi : S5), i + m = j → m < N → (FrD g lo hi σ σi ∧ gI σi 22 = gI σ 22 ∧ gI σi 24 = gI σ 24 ∧ (∀ q, q < i → xB σi 6 (nI (x0 + q)) = -1) ∧ ∀ x, x < 40 → x < x0 ∨ x0 + i ≤ x → xB σi 6 (nI x) = xB σ 6 (nI x)) → ∃ σj, f_X1_wordOfAlternatives_L39 E rec8 N v2 v4 a (nI i) σi = f_X1_wordOfAlternatives_b89 E rec8 v2 v4 a σj ∧ (FrD g lo hi σ σj ∧ gI σj 22 = gI σ 22 ∧ gI σj 24 = gI σ 24 ∧ (∀ q, q < j → xB σj 6 (nI (x0 + q)) = -1) ∧ ∀ x, x < 40 → x < x0 ∨ x0 + j ≤ x → xB σj 6 (nI x) = xB σ 6 (nI x)) := by
  intro m
  induction m with
  | zero =>
    intro i N σi hid hN hI
    obtain ⟨N, rfl⟩ : ∃ m, N = m + 1 := ⟨N - 1, by omega⟩
    have hip : i = j := by omega
    refine ⟨σi, ?_, by rw [← hip]; exact hI⟩
    have hEi := hE.of hI.1.2.2.1
    have e14 : xA σi 14 a = xA τ 14 a := (hEi.1 a).2.2.2.2 (fun w => by rw [h11] at w; exact absurd w (by decide))
    show f_X1_wordOfAlternatives_B39 _ _ _ _ _ _ _ _ = _
    unfold f_X1_wordOfAlternatives_B39
    rw [gd6200 ha0 ha1, e14, gd30 h14.1 h14.2, hEi.2.1, h2, hip, if_pos (Int32.le_refl _)]
  | succ m ih =>
    intro i N σi hid hN hI
    obtain ⟨N, rfl⟩ : ∃ m, N = m + 1 := ⟨N - 1, by omega⟩
    have hEi := hE.of hI.1.2.2.1
    have e14 : xA σi 14 a = xA τ 14 a := (hEi.1 a).2.2.2.2 (fun w => by rw [h11] at w; exact absurd w (by decide))
    obtain ⟨a1, a2, a3, a4, a5⟩ := hI
    have st : f_X1_wordOfAlternatives_L39 E rec8 (N + 1) v2 v4 a (nI i) σi = f_X1_wordOfAlternatives_L39 E rec8 N v2 v4 a (nI (i + 1)) (pB σi 6 (nI (x0 + i)) (-1)) := by
      show f_X1_wordOfAlternatives_B39 _ _ _ _ _ _ _ _ = _
      unfold f_X1_wordOfAlternatives_B39
      rw [gd6200 ha0 ha1, e14, gd30 h14.1 h14.2, hEi.2.1, h2, if_neg (fun w => by have := (nI_le31 (by omega) (by omega)).mp w; omega), gd6200 ha0 ha1, (hEi.1 a).2.1, h15, nI_plus, gdn (by omega) (by omega), nI_add1]
    rw [st]
    refine ih (i + 1) N _ (by omega) (by omega) ⟨a1.tr (FrD.ones σi (by omega) (by omega) h40), a2, a3, fun q hq => ?_, fun x hx hz => ?_⟩
    · rw [xB_pB]
      by_cases hqi : q = i
      · subst hqi
        rw [if_pos ⟨rfl, rfl⟩]
      · rw [if_neg (fun z => tn_neL (a := x0 + q) (b := x0 + i) (by omega) (by omega) (by omega) z.2)]
        exact a4 q (by omega)
    · rw [xB_pB, if_neg (fun z => tn_neL (a := x) (b := x0 + i) (by omega) (by omega) (by omega) z.2)]
      exact a5 x hx (by omega)
/-- so many alternatives are gone through -/
def AlI (τ : S5) (pa : Nat → Nat) (n L g : Nat) (T : Nat → (Nat → Bool) → Bool) (Sc : Nat → Prop) (lo hi l0 : Nat) (c : Int32) (aa : Nat → Int32) (jj ll : Nat → Nat) (σ : S5) (i : Nat) (any : Int64) (σi : S5) : Prop := FrD g l0 hi σ σi ∧ gI σi 22 = nI g ∧ (∀ l, l < L → ∀ T' Y, Crs T T' → Clo τ pa T' Y (n + 1) c → HY (Zn Sc lo hi) σ l Y → HY (Zn Sc lo hi) σi l Y ∧ (lb any l = true → ∃ j, j < i ∧ dv τ pa T' Y n (xA τ 16 (aa j)) = true)) ∧ (gI σi 24 = 0 → ∀ l, l < L → (lb any l = true ↔ ∃ j, j < i ∧ dv τ pa T (XL σi l) n (xA τ 16 (aa j)) = true) ∧ ∀ j, j < i → ClV τ pa T (XL σi l) n (xA τ 16 (aa j)) ∧ ∀ q, q < jj j → XL σi l (ll j + q) = true)
theorem al_L8 {τ : S5} {pa : Nat → Nat} {d n L g k : Nat} {c : Int32} {Sc : Nat → Prop} {Sa : Nat → Nat → Prop} {lo hi : Nat} {aa : Nat → Int32} {jj ll : Nat → Nat} {σ : S5} (h6 : xA τ 13 c = 6) (hk8 : k ≤ 8) (hk1 : 1 ≤ k) (h17 : xA τ 17 (xA τ 16 c) = aa 0) (hb : ∀ i, i < k → (0 ≤ aa i ∧ aa i < 6200) ∧ xA τ 17 (aa i) = if i + 1 < k then aa (i + 1) else -1) (hj : ∀ i, i < k → (xA τ 13 (aa i) = 11 ∧ xA τ 2 (xA τ 14 (aa i)) = nI (jj i) ∧ xA τ 15 (aa i) = nI (ll i) ∧ 0 ≤ xA τ 14 (aa i) ∧ xA τ 14 (aa i) < 30) ∨ (¬ xA τ 13 (aa i) = 11 ∧ jj i = 0)) (hl0 : lo ≤ ll 0) (hlk : ll k = hi) (hh : ∀ i, i < k → hF τ (xA τ 16 (aa i)) < hF τ c) (hnn : hF τ c < n + 1) (hv : ∀ i, i < k → VS τ (xA τ 16 (aa i)) (Sa i) (ll i + jj i) (ll (i + 1))) (hSa : ∀ i, i < k → ∀ x, Sa i x → Sc x ∨ (ll i ≤ x ∧ x < ll i + jj i)) (hW : ∀ i, i < k → WdA τ pa d n (xA τ 16 (aa i)) (Sa i) (ll i + jj i) (ll (i + 1))) (hS : ∀ x, Sc x → x < lo) (h40 : hi ≤ 40) (hE : TE τ σ) (h23 : gI σ 23 = nI L) (hL : L ≤ 64) (h24 : gI σ 24 = 0 ∨ gI σ 24 = 1) (hg : g + 8 * hF τ c ≤ 328) : ∀ (m i N : Nat) (any : Int64) (σi : S5), i + m = k → m < N → AlI τ pa n L g (TBc σ pa) Sc lo hi (ll 0) c aa jj ll σ i any σi → ∃ w σ', f_X1_wordOfAlternatives_L8 (f_wordE d) N any (nI i) (if i < k then aa i else -1) σi = some (w, σ') ∧ AlI τ pa n L g (TBc σ pa) Sc lo hi (ll 0) c aa jj ll σ k w σ' := by
  have hmj : ∀ i, i < k → ll i + jj i ≤ ll (i + 1) := fun i hi => (hv i hi).le
  have hm := ll_mo (k := k) (ll := ll) (fun i hi => by have := hmj i hi; omega)
  have hmk := hm k 0 (by omega) (by omega)
  have hZ : ∀ x, Zn Sc lo hi x → x < 40 := fun x w => by
    rcases w with w | w
    · have := hS x w; omega
    · omega
  intro m
  induction m with
  | zero =>
    intro i N any σi hid hN hI
    obtain ⟨N, rfl⟩ : ∃ m, N = m + 1 := ⟨N - 1, by omega⟩
    have hip : i = k := by omega
    refine ⟨any, σi, ?_, by rw [← hip]; exact hI⟩
    show f_X1_wordOfAlternatives_B8 _ _ _ _ _ _ = _
    unfold f_X1_wordOfAlternatives_B8
    rw [if_neg (show ¬ (10 : Int32) ≤ nI i from fun w => by have := (nI_le31 (a := 10) (by omega) (by omega)).mp w; omega), if_neg (show ¬ i < k by omega), if_pos rfl]
  | succ m ih =>
    intro i N any σi hid hN hI
    obtain ⟨N, rfl⟩ : ∃ m, N = m + 1 := ⟨N - 1, by omega⟩
    obtain ⟨a1, a2, a3, a4⟩ := hI
    have hik : i < k := by omega
    have hh1 := hh i hik
    obtain ⟨⟨b0, b6⟩, b17⟩ := hb i hik
    have hEi := hE.of a1.2.2.1
    have h24i := a1.2.2.2.2.2.2.2.2.2.1 h24
    have hm0 := hm i 0 (by omega) (by omega)
    have hm1 := hm k (i + 1) (by omega) (by omega)
    have hmi := hmj i hik
    obtain ⟨σj, s1, s2, s3, s4, s5, s6⟩ : ∃ σj, f_X1_wordOfAlternatives_L8 (f_wordE d) (N + 1) any (nI i) (aa i) σi = f_X1_wordOfAlternatives_b89 (f_wordE d) (f_X1_wordOfAlternatives_L8 (f_wordE d) N) any (nI i) (aa i) σj ∧ FrD g (ll 0) hi σi σj ∧ gI σj 22 = gI σi 22 ∧ gI σj 24 = gI σi 24 ∧ (∀ q, q < jj i → xB σj 6 (nI (ll i + q)) = -1) ∧ ∀ x, x < 40 → x < ll i ∨ ll i + jj i ≤ x → xB σj 6 (nI x) = xB σi 6 (nI x) := by
      have e13 := (hEi.1 (aa i)).1
      have st : ∀ rec, f_X1_wordOfAlternatives_B8 (f_wordE d) rec any (nI i) (aa i) σi = if xA τ 13 (aa i) = 11 then f_X1_wordOfAlternatives_L39 (f_wordE d) rec FU any (nI i) (aa i) 0 σi else f_X1_wordOfAlternatives_b89 (f_wordE d) rec any (nI i) (aa i) σi := fun rec => by
        unfold f_X1_wordOfAlternatives_B8
        rw [if_neg (show ¬ (10 : Int32) ≤ nI i from fun w => by have := (nI_le31 (a := 10) (by omega) (by omega)).mp w; omega), if_neg (i_nm b0), gd6200 b0 b6, e13]
      rcases hj i hik with ⟨j1, j2, j3, j4⟩ | ⟨j1, j2⟩
      · obtain ⟨σj, t1, t2⟩ := al_L39 (E := f_wordE d) (rec8 := f_X1_wordOfAlternatives_L8 (f_wordE d) N) (v2 := any) (v4 := nI i) (g := g) (lo := ll 0) (hi := hi) hEi j1 b0 b6 j4 j2 j3 (by omega) (by omega) h40 (jj i) 0 FU σi (by omega) (by show jj i < 1099511627776; omega) ⟨FrD.rf _ _ _ _, rfl, rfl, fun q hq => absurd hq (by omega), fun _ _ _ => rfl⟩
        refine ⟨σj, ?_, t2⟩
        show f_X1_wordOfAlternatives_B8 _ _ _ _ _ _ = _
        rw [st, if_pos j1]
        exact t1
      · refine ⟨σi, ?_, FrD.rf _ _ _ _, rfl, rfl, fun q hq => absurd hq (by omega), fun _ _ _ => rfl⟩
        show f_X1_wordOfAlternatives_B8 _ _ _ _ _ _ = _
        rw [st, if_neg j1]
    have hEj := hEi.of s2.2.2.1
    have fj := a1.tr s2
    have h24j := fj.2.2.2.2.2.2.2.2.2.1 h24
    obtain ⟨w1, σ1, c1, c2, c3, c4⟩ := hW i hik g L σj hEj (s3.trans a2) (by rw [fj.1 23 (by decide) (by decide)]; exact h23) hL h24j (by omega)
    rw [fj.T pa] at c4
    have f1 : FrD g (ll 0) hi σj σ1 := c3.wd (Nat.le_refl _) (by omega) (by omega)
    have e16 : xA σj 16 (aa i) = xA τ 16 (aa i) := (hEj.1 (aa i)).2.2.1
    have e17 : xA σ1 17 (aa i) = if i + 1 < k then aa (i + 1) else -1 := ((hEj.of c3.2.2.1).1 (aa i)).2.2.2.1.trans b17
    have eb : f_X1_wordOfAlternatives_b89 (f_wordE d) (f_X1_wordOfAlternatives_L8 (f_wordE d) N) any (nI i) (aa i) σj = f_X1_wordOfAlternatives_L8 (f_wordE d) N (any ||| w1) (nI (i + 1)) (if i + 1 < k then aa (i + 1) else -1) σ1 := by
      unfold f_X1_wordOfAlternatives_b89
      rw [gd6200 b0 b6, e16, c1, bd_of, gd6200 b0 b6, e17, nI_add1]
    rw [if_pos hik, s1, eb]
    refine ih (i + 1) N _ σ1 (by omega) (by omega) ⟨fj.tr f1, c2, fun l hl T' Y k1 k2 k3 => ?_, fun hz l hl => ?_⟩
    · obtain ⟨z1, z2⟩ := a3 l hl T' Y k1 k2 k3
      have u := k2
      unfold Clo at u
      have u := (u.2.1 h6).2
      rw [h17] at u
      obtain ⟨v1, v2⟩ := chA_at (P := fun a => Clo τ pa T' Y n (xA τ 16 a) ∧ (xA τ 13 a = 11 → ∀ q, q < (xA τ 2 (xA τ 14 a)).toNatClampNeg → Y ((xA τ 15 a).toNatClampNeg + q) = true)) (fun i hi => ⟨(hb i hi).1.1, (hb i hi).2⟩) 9 0 i (by omega) hik (by omega) u
      have hYj : ∀ q, q < jj i → Y (ll i + q) = true := fun q hq => by
        rcases hj i hik with ⟨j1, j2, j3, j4⟩ | ⟨j1, j2⟩
        · have := v2 j1 q (by rw [j2, nI_clamp (by omega)]; exact hq)
          rw [j3, nI_clamp (by omega)] at this
          exact this
        · omega
      have zj : HY (Zn Sc lo hi) σj l Y := fun x zx w => by
        by_cases hx : ll i ≤ x ∧ x < ll i + jj i
        · have := hYj (x - ll i) (by omega)
          rw [show ll i + (x - ll i) = x by omega] at this
          exact this
        · refine z1 x zx ?_
          unfold XL at w ⊢
          rw [s6 x (hZ x zx) (by omega)] at w
          exact w
      obtain ⟨y1, y2⟩ := c4.1 l hl T' Y k1 v1 (fun x zx => zj x (by
        rcases zx with w | w
        · rcases hSa i hik x w with w | w
          · exact Or.inl w
          · exact Or.inr (by omega)
        · exact Or.inr (by omega)))
      refine ⟨HY.kid hZ c3 zj y1, fun w => ?_⟩
      rw [lb_or, Bool.or_eq_true] at w
      rcases w with w | w
      · obtain ⟨j, j1, j2⟩ := z2 w
        exact ⟨j, by omega, j2⟩
      · exact ⟨i, by omega, y2 w⟩
    · obtain ⟨t1, t2⟩ := c4.2 hz l hl
      have hzj : gI σi 24 = 0 := by rw [← s4]; exact c3.2.2.2.2.2.2.2.2.1 hz
      obtain ⟨z1, z2⟩ := a4 hzj l hl
      have eY : ∀ x, x < 40 → x < ll i ∨ ll (i + 1) ≤ x → XL σ1 l x = XL σi l x := fun x hx hz => by
        rw [c3.xl hx (by omega) l]
        unfold XL
        rw [s6 x hx (by omega)]
      have hSj : ∀ j, j < i → ∀ x, Zn (Sa j) (ll j + jj j) (ll (j + 1)) x → x < ll i := fun j hji x zx => by
        have h1 := hm i (j + 1) (by omega) (by omega)
        have h2 := hmj j (by omega)
        have h3 := hm j 0 (by omega) (by omega)
        rcases zx with w | w
        · rcases hSa j (by omega) x w with w | w
          · have := hS x w; omega
          · omega
        · omega
      have old : ∀ j, j < i → dv τ pa (TBc σ pa) (XL σi l) n (xA τ 16 (aa j)) = dv τ pa (TBc σ pa) (XL σ1 l) n (xA τ 16 (aa j)) ∧ ClV τ pa (TBc σ pa) (XL σ1 l) n (xA τ 16 (aa j)) := fun j hji => by
        have hhj := hh j (by omega)
        exact kid_st (b := dv τ pa (TBc σ pa) (XL σi l) n (xA τ 16 (aa j))) (hv j (by omega)) (fun x w => by have := hSj j hji x (Or.inl w); omega) (by omega) (fun x zx => eY x (by have := hSj j hji x zx; omega) (Or.inl (hSj j hji x zx))) ⟨rfl, (z2 j hji).1⟩
      refine ⟨?_, fun j hji => ?_⟩
      · rw [lb_or, Bool.or_eq_true, z1, t1]
        refine ⟨fun w => ?_, fun ⟨j, j1, j2⟩ => ?_⟩
        · rcases w with ⟨j, j1, j2⟩ | w
          · exact ⟨j, by omega, by rw [← (old j j1).1]; exact j2⟩
          · exact ⟨i, by omega, w⟩
        · by_cases hji : j = i
          · subst hji; exact Or.inr j2
          · exact Or.inl ⟨j, by omega, by rw [(old j (by omega)).1]; exact j2⟩
      · by_cases hji2 : j = i
        · subst hji2
          refine ⟨t2, fun q hq => ?_⟩
          rw [c3.xl (by omega) (by omega) l]
          unfold XL
          rw [s5 q hq, lb_m1 (by omega)]
        · have h1 := hm i (j + 1) (by omega) (by omega)
          have h2 := hmj j (by omega)
          refine ⟨(old j (by omega)).2, fun q hq => ?_⟩
          rw [eY (ll j + q) (by omega) (by omega)]
          exact (z2 j (by omega)).2 q hq
