theorem FrD.push {g lo hi : Nat} (σ : S5) {y : Nat} (w : Int64) (v : Int32) (hy : g ≤ y) (h4 : y < 400) : FrD g lo hi σ (pI (pB σ 7 (nI y) w) 22 v) := by
  have e7 : ∀ x, x < g → xB (pI (pB σ 7 (nI y) w) 22 v) 7 (nI x) = xB σ 7 (nI x) := fun x hx => by
    rw [xB_pI, xB_pB, if_neg (fun z => tn_neL (a := x) (b := y) (by omega) (by omega) (by omega) z.2)]
  have e6 : ∀ x, xB (pI (pB σ 7 (nI y) w) 22 v) 6 x = xB σ 6 x := fun x => by
    rw [xB_pI, xB_pB, if_neg (fun z => absurd z.1 (by decide))]
  have eB : ∀ j, ¬ j = 6 → ¬ j = 7 → gB (pI (pB σ 7 (nI y) w) 22 v) j = gB σ j := fun j _ h7 => by
    show gB (pB σ 7 (nI y) w) j = gB σ j
    funext x
    rw [gB_pB, if_neg (fun z => h7 z.1)]
  have e24 : gI (pI (pB σ 7 (nI y) w) 22 v) 24 = gI σ 24 := by rw [gI_pI, if_neg (by decide)]; rfl
  refine ⟨fun j h4 h2 => by rw [gI_pI, if_neg h2]; rfl, fun _ => rfl, fun _ => rfl, eB, rfl, e7, fun x _ _ => e6 _, fun x l _ _ z => ?_, fun z => by rw [e24] at z; exact z, fun z => by rw [e24]; exact z, fun z => Or.inl (by rw [e24]; exact z)⟩
  unfold XL at z ⊢
  rw [e6]
  exact z
/-- so many arguments are found -/
def ApI (τ : S5) (pa : Nat → Nat) (n L g : Nat) (T : Nat → (Nat → Bool) → Bool) (Sc : Nat → Prop) (lo hi : Nat) (c : Int32) (cc : Nat → Int32) (σ : S5) (i : Nat) (σi : S5) : Prop := FrD g lo hi σ σi ∧ gI σi 22 = nI (g + i) ∧ (∀ l, l < L → ∀ T' Y, Crs T T' → Clo τ pa T' Y (n + 1) c → HY (Zn Sc lo hi) σ l Y → HY (Zn Sc lo hi) σi l Y ∧ ∀ j, j < i → lb (xB σi 7 (nI (g + j))) l = true → dv τ pa T' Y n (cc (1 + j)) = true) ∧ (gI σi 24 = 0 → ∀ l, l < L → ∀ j, j < i → lb (xB σi 7 (nI (g + j))) l = dv τ pa T (XL σi l) n (cc (1 + j)) ∧ ClV τ pa T (XL σi l) n (cc (1 + j)))
theorem ap_L95 {τ : S5} {pa : Nat → Nat} {F d n L g k f : Nat} {c : Int32} {Sc : Nat → Prop} {lo hi : Nat} {cc : Nat → Int32} {ll : Nat → Nat} {σ : S5} (h8 : xA τ 13 c = 8) (hch : Chn τ c k cc) (hk9 : k ≤ 9) (hl0 : ll 0 = lo) (hlk : ll k = hi) (hh : ∀ i, i < k → hF τ (cc i) < hF τ c) (hnn : hF τ c < n + 1) (hv : ∀ i, i < k → VS τ (cc i) Sc (ll i) (ll (i + 1))) (hW : ∀ i, i < k → WdA τ pa d n (cc i) Sc (ll i) (ll (i + 1))) (hS : ∀ x, Sc x → x < lo) (h40 : hi ≤ 40) (hRc : ∀ i, i < k → 0 ≤ cc i ∧ cc i < 6200) (hE : TE τ σ) (h23 : gI σ 23 = nI L) (hL : L ≤ 64) (h24 : gI σ 24 = 0 ∨ gI σ 24 = 1) (hg : g + 8 * hF τ c ≤ 328) (hf : f < 630) (hp : pa f < k) : ∀ (m i N : Nat) (σi : S5), i + m = pa f → m < N → ApI τ pa n L g (TBc σ pa) Sc lo hi c cc σ i σi → ∃ w σp, f_X1_wordOfApplication_L95 (f_wordE d) N (nI f) (nI (pa f)) (nI g) (if 1 + i < k then cc (1 + i) else -1) (nI i) σi = some (w, pI σp 22 (nI g)) ∧ ApI τ pa n L g (TBc σ pa) Sc lo hi c cc σ (pa f) σp ∧ ∀ l, l < 64 → lb w l = (decide (l < L) && TBc σ pa f (fun i => lb (xB σp 7 (nI (g + i))) l)) := by
  have hm := ll_mo (fun i hi => (hv i hi).le)
  have hh0 := hh 0 (by omega)
  have hZ : ∀ x, Zn Sc lo hi x → x < 40 := fun x w => by
    have := hm k 0 (by omega) (by omega)
    rcases w with w | w
    · have := hS x w; omega
    · omega
  intro m
  induction m with
  | zero =>
    intro i N σi hid hN hI
    obtain ⟨N, rfl⟩ : ∃ m, N = m + 1 := ⟨N - 1, by omega⟩
    have hip : i = pa f := by omega
    obtain ⟨a1, a2, a3, a4⟩ := id hI
    obtain ⟨w, w1, w2⟩ := cmL_go (σ := σi) (pa := pa) (f := f) (g := g) (L := L) hf (by omega) (by omega) (by rw [a2, hip]) (by rw [a1.1 23 (by decide) (by decide)]; exact h23) hL
    refine ⟨w, σi, ?_, by rw [← hip]; exact hI, fun l hl => by rw [w2 l hl, a1.T pa]⟩
    show f_X1_wordOfApplication_B95 _ _ _ _ _ _ _ _ = _
    unfold f_X1_wordOfApplication_B95 f_X1_wordOfApplication_b167
    rw [if_pos (by rw [hip]; exact Int32.le_refl _), w1, bd_of]
  | succ m ih =>
    intro i N σi hid hN hI
    obtain ⟨N, rfl⟩ : ∃ m, N = m + 1 := ⟨N - 1, by omega⟩
    obtain ⟨a1, a2, a3, a4⟩ := hI
    have hik : 1 + i < k := by omega
    have hh1 := hh (1 + i) hik
    obtain ⟨w1, σ1, b1, b2, b3, b4⟩ := hW (1 + i) hik (g + i) L σi (hE.of a1.2.2.1) a2 (by rw [a1.1 23 (by decide) (by decide)]; exact h23) hL (a1.2.2.2.2.2.2.2.2.2.1 h24) (by omega)
    rw [a1.T pa] at b4
    obtain ⟨r0, r1⟩ := hRc (1 + i) hik
    obtain ⟨σ2, es2⟩ : ∃ σ2, σ2 = pI (pB σ1 7 (nI (g + i)) w1) 22 (nI (g + (i + 1))) := ⟨_, rfl⟩
    have hm0 := hm (1 + i) 0 (by omega) (by omega)
    have hm1 := hm k (1 + i + 1) (by omega) (by omega)
    have hmi := (hv (1 + i) hik).le
    have f1 : FrD g lo hi σi σ1 := b3.wd (by omega) (by omega) (by omega)
    have f2 : FrD g lo hi σ1 σ2 := by rw [es2]; exact FrD.push σ1 w1 _ (by omega) (by omega)
    have e6 : ∀ x, xB σ2 6 x = xB σ1 6 x := fun x => by
      rw [es2, xB_pI, xB_pB, if_neg (fun z => absurd z.1 (by decide))]
    have eX : ∀ l, XL σ2 l = XL σ1 l := fun l => by
      funext x
      unfold XL
      rw [e6]
    have e7 : ∀ j, j < i → xB σ2 7 (nI (g + j)) = xB σi 7 (nI (g + j)) := fun j hj => by
      rw [es2, xB_pI, xB_pB, if_neg (fun z => tn_neL (a := g + j) (b := g + i) (by omega) (by omega) (by omega) z.2)]
      exact b3.2.2.2.2.2.1 _ (by omega)
    have e7i : xB σ2 7 (nI (g + i)) = w1 := by rw [es2, xB_pI, xB_pB, if_pos ⟨rfl, rfl⟩]
    have e24 : gI σ2 24 = gI σ1 24 := by rw [es2, gI_pI, if_neg (by decide)]; rfl
    have hI2 : ApI τ pa n L g (TBc σ pa) Sc lo hi c cc σ (i + 1) σ2 := by
      refine ⟨(a1.tr f1).tr f2, by rw [es2, gI_pI, if_pos rfl], fun l hl T' Y k1 k2 k3 => ?_, fun hz l hl j hj => ?_⟩
      · obtain ⟨z1, z2⟩ := a3 l hl T' Y k1 k2 k3
        have u := k2
        unfold Clo at u
        have u := u.1 (Or.inr (Or.inl h8))
        rw [hch.1] at u
        obtain ⟨y1, y2⟩ := b4.1 l hl T' Y k1 (chA_at (P := fun a => Clo τ pa T' Y n a) hch.2 9 0 (1 + i) (by omega) (by omega) (by omega) u) (fun x zx => z1 x (by rcases zx with w | w; exact Or.inl w; exact Or.inr (by omega)))
        have k4 := HY.kid hZ b3 z1 y1
        refine ⟨fun x zx w => k4 x zx (by rw [← eX]; exact w), fun j hj w => ?_⟩
        by_cases hji : j = i
        · subst hji
          rw [e7i] at w
          exact y2 w
        · rw [e7 j (by omega)] at w
          exact z2 j (by omega) w
      · rw [e24] at hz
        rw [eX]
        by_cases hji : j = i
        · subst hji
          rw [e7i]
          exact b4.2 hz l hl
        · rw [e7 j (by omega)]
          have hj0 := hm (1 + j) 0 (by omega) (by omega)
          have hj1 := hm (1 + i) (1 + j + 1) (by omega) (by omega)
          have hhj := hh (1 + j) (by omega)
          exact kid_st (hv (1 + j) (by omega)) (fun x w => hZ x (Or.inl w)) (by omega) (fun x zx => b3.xl (hZ x (by rcases zx with w | w; exact Or.inl w; exact Or.inr (by omega))) (by
            rcases zx with w | w
            · have := hS x w; omega
            · omega) l) (a4 (b3.2.2.2.2.2.2.2.2.1 hz) l hl j (by omega))
    obtain ⟨w, σp, p1, p2, p3⟩ := ih (i + 1) N σ2 (by omega) (by omega) hI2
    refine ⟨w, σp, ?_, p2, p3⟩
    rw [← p1]
    show f_X1_wordOfApplication_B95 _ _ _ _ _ _ _ _ = _
    have e17 : xA σ1 17 (cc (1 + i)) = if 1 + (i + 1) < k then cc (1 + (i + 1)) else -1 := by
      rw [((hE.of (a1.tr f1).2.2.1).1 (cc (1 + i))).2.2.2.1, (hch.2 (1 + i) hik).2, show 1 + i + 1 = 1 + (i + 1) by omega]
    unfold f_X1_wordOfApplication_B95
    rw [if_neg (fun w => by have := (nI_le31 (by omega) (by omega)).mp w; omega), if_pos hik, if_neg (i_nm r0), a2, if_neg (show ¬ (328 : Int32) ≤ nI (g + i) from fun w => by have := (nI_le31 (a := 328) (by omega) (by omega)).mp w; omega), b1, bd_of, b2, gdn (by omega) (by omega), gd6200 r0 r1, e17, nI_add1, nI_add1, es2]
    rfl
