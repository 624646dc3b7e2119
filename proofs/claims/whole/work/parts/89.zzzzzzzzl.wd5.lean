theorem lg_rf (a : Int64) : lg_cmp a a = 0 := by
  unfold lg_cmp
  rw [if_neg (Int64.lt_irrefl), if_pos rfl]
theorem lg_eq {a b : Int64} (h : lg_cmp a b = 0) : a = b := by
  unfold lg_cmp at h
  by_cases h1 : a > b
  · rw [if_pos h1] at h; exact absurd h (by decide)
  · rw [if_neg h1] at h
    by_cases h2 : a = b
    · exact h2
    · rw [if_neg h2] at h; exact absurd h (by decide)
theorem lb_ne {a b : Int64} (h : ¬ a = b) : ∃ l, l < 64 ∧ ¬ lb a l = lb b l := by
  refine Classical.byContradiction (fun w => h (lb_ext (fun l hl => ?_)))
  refine Classical.byContradiction (fun z => w ⟨l, hl, z⟩)
/-- a variable's word grows -/
theorem FrD.set {g lo hi y : Nat} {σ : S5} {w : Int64} {u : Int32} (hy : lo ≤ y) (hy2 : y < hi) (h40 : hi ≤ 40) (h24 : gI σ 24 = 0 ∨ gI σ 24 = 1) (hu : (u = 0 ∧ w ||| xB σ 6 (nI y) = xB σ 6 (nI y)) ∨ (u = 1 ∧ ¬ w ||| xB σ 6 (nI y) = xB σ 6 (nI y))) : FrD g lo hi σ (pB (pI σ 24 (gI σ 24 ||| u)) 6 (nI y) (w ||| xB σ 6 (nI y))) := by
  have e6 : ∀ x, x < 40 → ¬ x = y → xB (pB (pI σ 24 (gI σ 24 ||| u)) 6 (nI y) (w ||| xB σ 6 (nI y))) 6 (nI x) = xB σ 6 (nI x) := fun x hx hn => by
    rw [xB_pB, if_neg (fun z => tn_neL (a := x) (b := y) (by omega) (by omega) hn z.2)]; rfl
  have ey : xB (pB (pI σ 24 (gI σ 24 ||| u)) 6 (nI y) (w ||| xB σ 6 (nI y))) 6 (nI y) = (w ||| xB σ 6 (nI y)) := by
    rw [xB_pB, if_pos ⟨rfl, rfl⟩]
  have e7 : ∀ x, xB (pB (pI σ 24 (gI σ 24 ||| u)) 6 (nI y) (w ||| xB σ 6 (nI y))) 7 x = xB σ 7 x := fun x => by
    rw [xB_pB, if_neg (fun z => absurd z.1 (by decide))]; rfl
  have e24 : gI (pB (pI σ 24 (gI σ 24 ||| u)) 6 (nI y) (w ||| xB σ 6 (nI y))) 24 = gI σ 24 ||| u := by
    rw [gI_pB, gI_pI, if_pos rfl]
  refine ⟨fun j h4 _ => by rw [gI_pB, gI_pI, if_neg h4], fun _ => rfl, fun _ => rfl, fun j h6 _ => by rw [gB_ne _ _ _ h6]; rfl, rfl, fun x _ => e7 _, fun x hx hz => e6 x hx (by omega), fun x l hx hl z => ?_, fun z => ?_, fun z => ?_, fun z => ?_⟩
  · unfold XL at z ⊢
    by_cases hxy : x = y
    · subst hxy
      rw [ey, lb_or, z, Bool.or_true]
    · rw [e6 x hx hxy]; exact z
  · rw [e24] at z
    rcases h24 with k | k
    · exact k
    · rw [k] at z
      rcases hu with ⟨k2, -⟩ | ⟨k2, -⟩ <;> rw [k2] at z <;> exact absurd z (by decide)
  · rw [e24]
    rcases h24 with k | k <;> rw [k] <;> rcases hu with ⟨k2, -⟩ | ⟨k2, -⟩ <;> rw [k2] <;> decide
  · rcases hu with ⟨k2, -⟩ | ⟨-, k3⟩
    · exact Or.inl (by rw [e24, z, k2]; rfl)
    · obtain ⟨l, l1, l2⟩ := lb_ne k3
      refine Or.inr ⟨y, l, by omega, l1, ?_, ?_⟩
      · unfold XL
        cases e : lb (xB σ 6 (nI y)) l with
        | false => rfl
        | true => rw [lb_or, e, Bool.or_true] at l2; exact absurd rfl l2
      · unfold XL
        rw [ey]
        cases e : lb (w ||| xB σ 6 (nI y)) l with
        | true => rfl
        | false =>
          rw [lb_or, Bool.or_eq_false_iff] at e
          rw [lb_or, e.1, e.2] at l2
          exact absurd rfl l2
/-- so many bindings are gone through -/
def LtI (τ : S5) (pa : Nat → Nat) (n L g : Nat) (T : Nat → (Nat → Bool) → Bool) (Sc : Nat → Prop) (lo hi : Nat) (c : Int32) (bb : Nat → Int32) (σ : S5) (i : Nat) (σi : S5) : Prop := FrD g lo hi σ σi ∧ gI σi 22 = nI g ∧ (∀ l, l < L → ∀ T' Y, Crs T T' → Clo τ pa T' Y (n + 1) c → HY (Zn Sc lo hi) σ l Y → HY (Zn Sc lo hi) σi l Y) ∧ (gI σi 24 = 0 → ∀ l, l < L → ∀ j, j < i → (dv τ pa T (XL σi l) n (xA τ 16 (bb j)) = true → XL σi l (lo + j) = true) ∧ ClV τ pa T (XL σi l) n (xA τ 16 (bb j)))
theorem lt_L12 {τ : S5} {pa : Nat → Nat} {d n L g k : Nat} {c : Int32} {Sc : Nat → Prop} {lo hi : Nat} {bb : Nat → Int32} {ll : Nat → Nat} {σ : S5} (h7 : xA τ 13 c = 7) (hk5 : k ≤ 5) (h17 : xA τ 17 (xA τ 16 c) = bb 0) (hk1 : 1 ≤ k) (hb : ∀ i, i < k → (0 ≤ bb i ∧ bb i < 6200) ∧ xA τ 14 (bb i) = nI (lo + i) ∧ xA τ 17 (bb i) = if i + 1 < k then bb (i + 1) else -1) (hb7 : ∀ i, i < k → ¬ xA τ 13 (bb i) = 7) (hl0 : ll 0 = lo + k) (hlk : ll k ≤ hi) (hh : ∀ i, i < k → hF τ (xA τ 16 (bb i)) < hF τ c) (hnn : hF τ c < n + 1) (hv : ∀ i, i < k → VS τ (xA τ 16 (bb i)) (Sx Sc lo k) (ll i) (ll (i + 1))) (hW : ∀ i, i < k → WdA τ pa d n (xA τ 16 (bb i)) (Sx Sc lo k) (ll i) (ll (i + 1))) (hS : ∀ x, Sc x → x < lo) (h40 : hi ≤ 40) (hE : TE τ σ) (h23 : gI σ 23 = nI L) (hL : L ≤ 64) (h24 : gI σ 24 = 0 ∨ gI σ 24 = 1) (hg : g + 8 * hF τ c ≤ 328) : ∀ (m i N : Nat) (σi : S5), i + m = k → m < N → LtI τ pa n L g (TBc σ pa) Sc lo hi c bb σ i σi → ∃ σp, f_X1_wordOfLet_L12 (f_wordE d) N (xA τ 16 c) (nI i) (if i < k then bb i else -1) σi = bd (f_wordE d (xA τ 16 c) σp) (fun r111 τ111 => some (r111, τ111)) ∧ LtI τ pa n L g (TBc σ pa) Sc lo hi c bb σ k σp := by
  have hm := ll_mo (fun i hi => (hv i hi).le)
  have hmk := hm k 0 (by omega) (by omega)
  have hZ : ∀ x, Zn Sc lo hi x → x < 40 := fun x w => by
    rcases w with w | w
    · have := hS x w; omega
    · omega
  intro m
  induction m with
  | zero =>
    intro i N σi hid hN hI
    obtain ⟨N, rfl⟩ : ∃ m, N = m + 1 := ⟨N - 1, by omega⟩
    have hip : i = k := by omega
    refine ⟨σi, ?_, by rw [← hip]; exact hI⟩
    show f_X1_wordOfLet_B12 _ _ _ _ _ _ = _
    unfold f_X1_wordOfLet_B12 f_X1_wordOfLet_b109
    rw [if_neg (show ¬ (10 : Int32) ≤ nI i from fun w => by have := (nI_le31 (a := 10) (by omega) (by omega)).mp w; omega), if_neg (show ¬ i < k by omega), if_pos rfl]
  | succ m ih =>
    intro i N σi hid hN hI
    obtain ⟨N, rfl⟩ : ∃ m, N = m + 1 := ⟨N - 1, by omega⟩
    obtain ⟨a1, a2, a3, a4⟩ := hI
    have hik : i < k := by omega
    have hh1 := hh i hik
    obtain ⟨⟨b0, b6⟩, b14, b17⟩ := hb i hik
    have hEi := hE.of a1.2.2.1
    have h24i := a1.2.2.2.2.2.2.2.2.2.1 h24
    obtain ⟨w1, σ1, c1, c2, c3, c4⟩ := hW i hik g L σi hEi a2 (by rw [a1.1 23 (by decide) (by decide)]; exact h23) hL h24i (by omega)
    rw [a1.T pa] at c4
    have hm0 := hm i 0 (by omega) (by omega)
    have hm1 := hm k (i + 1) (by omega) (by omega)
    have hmi := (hv i hik).le
    have f1 : FrD g lo hi σi σ1 := c3.wd (Nat.le_refl _) (by omega) (by omega)
    have h241 := f1.2.2.2.2.2.2.2.2.2.1 h24i
    obtain ⟨u, hu⟩ : ∃ u : Int32, (u = 0 ∧ w1 ||| xB σ1 6 (nI (lo + i)) = xB σ1 6 (nI (lo + i))) ∨ (u = 1 ∧ ¬ w1 ||| xB σ1 6 (nI (lo + i)) = xB σ1 6 (nI (lo + i))) := by
      by_cases hz : w1 ||| xB σ1 6 (nI (lo + i)) = xB σ1 6 (nI (lo + i))
      · exact ⟨0, Or.inl ⟨rfl, hz⟩⟩
      · exact ⟨1, Or.inr ⟨rfl, hz⟩⟩
    obtain ⟨σ2, es2⟩ : ∃ σ2, σ2 = pB (pI σ1 24 (gI σ1 24 ||| u)) 6 (nI (lo + i)) (w1 ||| xB σ1 6 (nI (lo + i))) := ⟨_, rfl⟩
    have f2 : FrD g lo hi σ1 σ2 := by rw [es2]; exact FrD.set (by omega) (by omega) h40 h241 hu
    have e6 : ∀ x, x < 40 → ¬ x = lo + i → xB σ2 6 (nI x) = xB σ1 6 (nI x) := fun x hx hn => by
      rw [es2, xB_pB, if_neg (fun z => tn_neL (a := x) (b := lo + i) (by omega) (by omega) hn z.2)]; rfl
    have e6i : xB σ2 6 (nI (lo + i)) = (w1 ||| xB σ1 6 (nI (lo + i))) := by rw [es2, xB_pB, if_pos ⟨rfl, rfl⟩]
    have e24 : gI σ2 24 = gI σ1 24 ||| u := by rw [es2, gI_pB, gI_pI, if_pos rfl]
    have hgt : gI σ1 24 ||| u = 0 ∨ gI σ1 24 ||| u = 1 := by
      have := f2.2.2.2.2.2.2.2.2.2.1 h241
      rw [e24] at this
      exact this
    have hI2 : LtI τ pa n L g (TBc σ pa) Sc lo hi c bb σ (i + 1) σ2 := by
      refine ⟨(a1.tr f1).tr f2, by rw [es2, gI_pB, gI_pI, if_neg (by decide)]; exact c2, fun l hl T' Y k1 k2 k3 => ?_, fun hz l hl j hj => ?_⟩
      · have z1 := a3 l hl T' Y k1 k2 k3
        have u := k2
        unfold Clo at u
        have u := (u.2.2 h7).2
        rw [h17] at u
        obtain ⟨v1, v2⟩ := chA_at (P := fun b => Clo τ pa T' Y n (xA τ 16 b) ∧ (dv τ pa T' Y n (xA τ 16 b) = true → Y (xA τ 14 b).toNatClampNeg = true)) (fun i hi => ⟨(hb i hi).1.1, (hb i hi).2.2⟩) 9 0 i (by omega) hik (by omega) u
        rw [b14, nI_clamp (by omega)] at v2
        obtain ⟨y1, y2⟩ := c4.1 l hl T' Y k1 v1 (fun x zx => z1 x (by
          rcases zx with w | w
          · rcases w with w | w
            · exact Or.inl w
            · exact Or.inr (by omega)
          · exact Or.inr (by omega)))
        have k4 := HY.kid hZ c3 z1 y1
        intro x zx w
        by_cases hxi : x = lo + i
        · subst hxi
          unfold XL at w
          rw [e6i, lb_or, Bool.or_eq_true] at w
          rcases w with w | w
          · exact v2 (y2 w)
          · exact k4 _ zx w
        · refine k4 x zx ?_
          unfold XL at w ⊢
          rw [e6 x (hZ x zx) hxi] at w
          exact w
      · have hz1 : gI σ1 24 = 0 := f2.2.2.2.2.2.2.2.2.1 hz
        have hu0 : u = 0 ∧ w1 ||| xB σ1 6 (nI (lo + i)) = xB σ1 6 (nI (lo + i)) := by
          rcases hu with w | w
          · exact w
          · rw [e24, hz1, w.1] at hz
            exact absurd hz (by decide)
        have eX : ∀ x, x < 40 → XL σ2 l x = XL σ1 l x := fun x hx => by
          unfold XL
          by_cases hxi : x = lo + i
          · subst hxi
            rw [e6i, hu0.2]
          · rw [e6 x hx hxi]
        have hSx : ∀ x, Sx Sc lo k x → x < lo + k := fun x w => by
          rcases w with w | w
          · have := hS x w; omega
          · omega
        by_cases hji : j = i
        · subst hji
          have z := kid_st (hv j hik) (fun x w => by have := hSx x w; omega) (by omega) (fun x zx => eX x (by
            rcases zx with w | w
            · have := hSx x w; omega
            · omega)) (c4.2 hz1 l hl)
          refine ⟨fun w => ?_, z.2⟩
          rw [← z.1] at w
          unfold XL
          rw [e6i, lb_or, w, Bool.true_or]
        · have hj0 := hm j 0 (by omega) (by omega)
          have hj1 := hm i (j + 1) (by omega) (by omega)
          have hhj := hh j (by omega)
          obtain ⟨z1, z2⟩ := a4 (f1.2.2.2.2.2.2.2.2.1 hz1) l hl j (by omega)
          have eY : ∀ x, Zn (Sx Sc lo k) (ll j) (ll (j + 1)) x → XL σ2 l x = XL σi l x := fun x zx => by
            have hx40 : x < 40 := by
              rcases zx with w | w
              · have := hSx x w; omega
              · omega
            rw [eX x hx40]
            exact c3.xl hx40 (by
              rcases zx with w | w
              · have := hSx x w; omega
              · omega) l
          have z := kid_st (b := dv τ pa (TBc σ pa) (XL σi l) n (xA τ 16 (bb j))) (hv j (by omega)) (fun x w => by have := hSx x w; omega) (by omega) eY ⟨rfl, z2⟩
          refine ⟨fun w => ?_, z.2⟩
          rw [← z.1] at w
          rw [eY (lo + j) (Or.inl (Or.inr (by omega)))]
          exact z1 w
    obtain ⟨σp, p1, p2⟩ := ih (i + 1) N σ2 (by omega) (by omega) hI2
    refine ⟨σp, ?_, p2⟩
    rw [← p1]
    have e14 : xA σi 14 (bb i) = nI (lo + i) := ((hEi.1 (bb i)).2.2.2.2 (hb7 i hik)).trans b14
    have e16 : xA σi 16 (bb i) = xA τ 16 (bb i) := (hEi.1 (bb i)).2.2.1
    have e17 : xA σ1 17 (bb i) = if i + 1 < k then bb (i + 1) else -1 := ((hE.of (a1.tr f1).2.2.1).1 (bb i)).2.2.2.1.trans b17
    have eb : ∀ rec, f_X1_wordOfLet_b80 (f_wordE d) rec (xA τ 16 c) (nI i) (bb i) (nI (lo + i)) (w1 ||| xB σ1 6 (nI (lo + i))) u (gI σ1 24) σ1 = rec (xA τ 16 c) (nI (i + 1)) (if i + 1 < k then bb (i + 1) else -1) σ2 := fun rec => by
      unfold f_X1_wordOfLet_b80 g_t
      rw [if_pos hgt, gdn (by omega) (by omega), gd6200 b0 b6, e17, nI_add1, es2]
    show f_X1_wordOfLet_B12 _ _ _ _ _ _ = _
    unfold f_X1_wordOfLet_B12
    rw [if_neg (show ¬ (10 : Int32) ≤ nI i from fun w => by have := (nI_le31 (a := 10) (by omega) (by omega)).mp w; omega), if_pos hik, if_neg (i_nm b0), gd6200 b0 b6, gd6200 b0 b6, e16, c1, bd_of, e14, gdn (by omega) (by omega), gdn (by omega) (by omega)]
    rcases hu with ⟨hu1, hu2⟩ | ⟨hu1, hu2⟩
    · have e := eb (f_X1_wordOfLet_L12 (f_wordE d) N)
      rw [hu1] at e
      rw [if_pos (by rw [hu2]; exact lg_rf _)]
      exact e
    · have e := eb (f_X1_wordOfLet_L12 (f_wordE d) N)
      rw [hu1] at e
      rw [if_neg (fun w => hu2 (lg_eq w))]
      exact e
/-- the word of a let -/
theorem wd_let {τ : S5} {pa : Nat → Nat} {F d n k : Nat} {c : Int32} {Sc : Nat → Prop} {lo hi : Nat} {bb : Nat → Int32} {ll : Nat → Nat} (h7 : xA τ 13 c = 7) (hk5 : k ≤ 5) (h17 : xA τ 17 (xA τ 16 c) = bb 0) (hk1 : 1 ≤ k) (hb : ∀ i, i < k → (0 ≤ bb i ∧ bb i < 6200) ∧ xA τ 14 (bb i) = nI (lo + i) ∧ xA τ 17 (bb i) = if i + 1 < k then bb (i + 1) else -1) (hb7 : ∀ i, i < k → ¬ xA τ 13 (bb i) = 7) (hl0 : ll 0 = lo + k) (hh0 : hF τ (xA τ 16 c) < hF τ c) (hh : ∀ i, i < k → hF τ (xA τ 16 (bb i)) < hF τ c) (hnn : hF τ c < n + 1) (hv0 : VS τ (xA τ 16 c) (Sx Sc lo k) (ll k) hi) (hW0 : WdA τ pa d n (xA τ 16 c) (Sx Sc lo k) (ll k) hi) (hv : ∀ i, i < k → VS τ (xA τ 16 (bb i)) (Sx Sc lo k) (ll i) (ll (i + 1))) (hW : ∀ i, i < k → WdA τ pa d n (xA τ 16 (bb i)) (Sx Sc lo k) (ll i) (ll (i + 1))) (hS : ∀ x, Sc x → x < lo) (h40 : hi ≤ 40) (hR : Rg τ F (n + 1) c) : WdA τ pa (d + 1) (n + 1) c Sc lo hi := by
  intro g L σ hE h22 h23 hL h24 hg
  obtain ⟨⟨c0, c6⟩, -, -, -, r7⟩ := hR
  obtain ⟨y0, y1⟩ := (r7 h7).1.c (by omega)
  have hm := ll_mo (fun i hi => (hv i hi).le)
  have hmk := hm k 0 (by omega) (by omega)
  have hhi := hv0.le
  have hZ : ∀ x, Zn Sc lo hi x → x < 40 := fun x w => by
    rcases w with w | w
    · have := hS x w; omega
    · omega
  have hSx : ∀ x, Sx Sc lo k x → x < lo + k := fun x w => by
    rcases w with w | w
    · have := hS x w; omega
    · omega
  obtain ⟨σp, p1, a1, a2, a3, a4⟩ := lt_L12 h7 hk5 h17 hk1 hb hb7 hl0 hhi hh hnn hv hW hS h40 hE h23 hL h24 hg k 0 FU σ (by omega) (by show k < 1099511627776; omega) ⟨FrD.rf _ _ _ _, h22, fun l hl T' Y k1 k2 k3 => k3, fun _ l hl j hj => absurd hj (by omega)⟩
  obtain ⟨w, σ', b1, b2, b3, b4⟩ := hW0 g L σp (hE.of a1.2.2.1) a2 (by rw [a1.1 23 (by decide) (by decide)]; exact h23) hL (a1.2.2.2.2.2.2.2.2.2.1 h24) (by omega)
  rw [a1.T pa] at b4
  rw [if_pos (by omega), b1, bd_of] at p1
  have e16 : xA σ 16 c = xA τ 16 c := (hE.1 c).2.2.1
  have e17 : xA σ 17 (xA τ 16 c) = bb 0 := (hE.1 _).2.2.2.1.trans h17
  have ew : f_wordE (d + 1) c σ = some (w, σ') := by
    rw [wordE_s]
    unfold f_X1_wordOf f_X1_wordOfLet
    rw [gd6200 c0 c6, gd6200 c0 c6, (hE.1 c).1, h7, if_neg (by decide), if_neg (by decide), if_neg (by decide), if_neg (by decide), if_neg (by decide), if_pos rfl, e16, gd6200 y0 y1, e17]
    have p1' : f_X1_wordOfLet_L12 (f_wordE d) FU (xA τ 16 c) 0 (bb 0) σ = some (w, σ') := p1
    rw [p1', bd_of]
  have hd : ∀ T X, dv τ pa T X (n + 1) c = dv τ pa T X n (xA τ 16 c) := fun T X => by
    show (if xA τ 13 c = 2 then _ else if xA τ 13 c = 3 then _ else if xA τ 13 c = 4 then _ else if xA τ 13 c = 5 then _ else if xA τ 13 c = 6 then _ else if xA τ 13 c = 7 then _ else _) = _
    rw [h7, if_neg (by decide), if_neg (by decide), if_neg (by decide), if_neg (by decide), if_neg (by decide), if_pos rfl]
  refine ⟨w, σ', ew, b2, a1.tr (b3.wd (Nat.le_refl _) (by omega) (by omega)), fun l hl T' Y k1 k2 k3 => ?_, fun hz l hl => ?_⟩
  · have k4 := a3 l hl T' Y k1 k2 k3
    unfold Clo at k2
    obtain ⟨z1, z2⟩ := b4.1 l hl T' Y k1 (k2.2.2 h7).1 (fun x zx => k4 x (by
      rcases zx with w | w
      · rcases w with w | w
        · exact Or.inl w
        · exact Or.inr (by omega)
      · exact Or.inr (by omega)))
    exact ⟨HY.kid hZ b3 k4 z1, fun w => by rw [hd]; exact z2 w⟩
  · obtain ⟨z1, z2⟩ := b4.2 hz l hl
    refine ⟨by rw [hd]; exact z1, ?_⟩
    unfold ClV
    refine ⟨fun w => absurd (h7.symm.trans w) (by decide), fun w => absurd (h7.symm.trans w) (by decide), fun _ => ⟨z2, ?_⟩, fun w => absurd (h7.symm.trans w) (by decide)⟩
    rw [h17]
    refine chA_mk0 hk1 (fun i hi => (hb i hi).2.2) (fun j hj => ?_) 9
    have hj0 := hm j 0 (by omega) (by omega)
    have hj1 := hm k (j + 1) (by omega) (by omega)
    have hhj := hh j hj
    obtain ⟨y1, y2⟩ := a4 (b3.2.2.2.2.2.2.2.2.1 hz) l hl j hj
    have eY : ∀ x, Zn (Sx Sc lo k) (ll j) (ll (j + 1)) x → XL σ' l x = XL σp l x := fun x zx => b3.xl (by
      rcases zx with w | w
      · have := hSx x w; omega
      · omega) (by
      rcases zx with w | w
      · have := hSx x w; omega
      · omega) l
    have z := kid_st (b := dv τ pa (TBc σ pa) (XL σp l) n (xA τ 16 (bb j))) (hv j hj) (fun x w => by have := hSx x w; omega) (by omega) eY ⟨rfl, y2⟩
    refine ⟨z.2, fun w => ?_⟩
    rw [← z.1] at w
    rw [(hb j hj).2.1, nI_clamp (by omega), eY (lo + j) (Or.inl (Or.inr (by omega)))]
    exact y1 w
