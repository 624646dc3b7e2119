theorem ll_in {ll : Nat → Nat} {x : Nat} : ∀ (k : Nat), ll 0 ≤ x → x < ll k → ∃ i, i < k ∧ ll i ≤ x ∧ x < ll (i + 1)
  | 0, h1, h2 => absurd h2 (by omega)
  | k + 1, h1, h2 => by
    by_cases h : x < ll k
    · obtain ⟨i, a, b⟩ := ll_in k h1 h
      exact ⟨i, by omega, b⟩
    · exact ⟨k, by omega, by omega, h2⟩
/-- ALL VARIABLES BEGIN -/
theorem bini_go {τ μ : S5} {pa : Nat → Nat} {F : Nat} {a1 : Int32} {e : Nat} (he : e < 7000) {c : Int32} {q p : Nat} {Sc : Nat → Prop} {lo hi : Nat} (h : JT τ μ F c q p Sc lo hi) : ∀ (ρ : S5), p ≤ e → RwE μ ρ → hi ≤ 64 → ∃ ρ', (∀ N, f_X12_bitOfPart_L2 (N + (p + 1 - q)) a1 (nI e) (nI q) ρ = f_X12_bitOfPart_L2 N a1 (nI e) (nI (p + 1)) ρ') ∧ Fr51 lo hi ρ ρ' ∧ BI τ pa c lo hi ρ' := by
  refine JT.ind (P := fun c q p Sc lo hi => ∀ (ρ : S5), p ≤ e → RwE μ ρ → hi ≤ 64 → ∃ ρ', (∀ N, f_X12_bitOfPart_L2 (N + (p + 1 - q)) a1 (nI e) (nI q) ρ = f_X12_bitOfPart_L2 N a1 (nI e) (nI (p + 1)) ρ') ∧ Fr51 lo hi ρ ρ' ∧ BI τ pa c lo hi ρ') ?_ h
  clear h
  intro c q p Sc lo hi h ρ hpe hR h64
  obtain ⟨⟨⟨g1, -⟩, g2, g3, g4, g5⟩, g6⟩ := h
  have B2 : ∀ N ρ, RwE μ ρ → f_X12_bitOfPart_L2 (N + 1) a1 (nI e) (nI p) ρ = if xA μ 31 (nI p) = 0 then f_X12_bitOfPart_L19 (f_X12_bitOfPart_L2 N) FU a1 (nI e) (nI p) 0 ρ else if xA μ 31 (nI p) = 3 then f_X12_bitOfPart_L67 (f_X12_bitOfPart_L2 N) FU a1 (nI e) (nI p) 1 ρ else f_X12_bitOfPart_L2 N a1 (nI e) (nI (p + 1)) ρ := fun N ρ hR => by
    show f_X12_bitOfPart_B2 _ _ _ _ _ = _
    unfold f_X12_bitOfPart_B2 f_X12_bitOfPart_b135
    rw [if_neg (fun w => by have := (nI_lt31 (by omega) (by omega)).mp w; omega), gdn g2 (by omega), gdn g2 (by omega), hR.x 31 _ (by decide) (by decide) (by decide) (by decide) (by decide), nI_add1]
  rcases g6 with ⟨elh, e1, e2, e3⟩ | ⟨k, ct, cc, ll, a, b, c1, d, e5, f, g⟩ | ⟨a, b, l, ct, bb, ll, d, e5, f, g, i, j, m, n, o, r⟩ | ⟨a, b, l, ct, aa, jj, ll, Sa, d, e5, f, g, i, j, m, n, o, r⟩
  · have hk : ¬ xA μ 31 (nI p) = 0 ∧ ¬ xA μ 31 (nI p) = 3 := by
      rcases e3 with ⟨_, w⟩ | ⟨_, w⟩ | ⟨_, w, _⟩ | ⟨_, w, _⟩ | ⟨_, w⟩ <;> rw [w] <;> decide
    have h4 : xA τ 13 c ≤ 4 := by
      rcases e3 with ⟨w, _⟩ | ⟨w, _⟩ | ⟨w, _⟩ | ⟨w, _⟩ | ⟨w, _⟩ <;> rw [w] <;> decide
    have h5 : ¬ xA τ 13 c = 5 := fun w => by rw [w] at h4; exact absurd h4 (by decide)
    have h6 : ¬ xA τ 13 c = 6 := fun w => by rw [w] at h4; exact absurd h4 (by decide)
    have h7 : ¬ xA τ 13 c = 7 := fun w => by rw [w] at h4; exact absurd h4 (by decide)
    have h8 : ¬ xA τ 13 c = 8 := fun w => by rw [w] at h4; exact absurd h4 (by decide)
    have h9 : ¬ xA τ 13 c = 9 := fun w => by rw [w] at h4; exact absurd h4 (by decide)
    refine ⟨ρ, fun N => ?_, Fr51.rf _ _ _, fun x x1 x2 => absurd x2 (by omega), fun n => ?_, fun T' Y n hn hc x x1 x2 => absurd x2 (by omega)⟩
    · rw [e1, show p + 1 - p = 1 by omega, B2 N ρ hR, if_neg hk.1, if_neg hk.2]
    · cases n with
      | zero => exact True.intro
      | succ n =>
        unfold Alv
        exact ⟨fun w => by rcases w with w | w | w; exact absurd w h5; exact absurd w h8; exact absurd w h9, fun w => absurd w h6, fun w => absurd w h7⟩
  · have hmo := ll_mo (fun i hi => (f i hi).2)
    obtain ⟨ρ', r1, r2, r3, r4, r5⟩ := bi_kids (lo := lo) (hi := hi) g (fun i hi => by
      have h1 := hmo i 0 (by omega) (by omega)
      have h2 := hmo k (i + 1) (by omega) (by omega)
      exact ⟨by omega, by omega⟩) (fun i j hij hj => hmo j (i + 1) (by omega) (by omega)) hpe h64 hR
    have hk : ¬ xA μ 31 (nI p) = 0 ∧ ¬ xA μ 31 (nI p) = 3 := by
      rcases a with ⟨_, w, _⟩ | ⟨_, w, _⟩ | ⟨_, w⟩ <;> rw [w] <;> decide
    refine ⟨ρ', fun N => ?_, ⟨r2, r3, fun x hx hz => r4 x hx (fun i hi => ?_)⟩, fun x x1 x2 => ?_, fun n => ?_, fun T' Y n hn hc x x1 x2 hx => ?_⟩
    · have := r1 (N + 1)
      rw [B2 N ρ' (r2.rw hR), if_neg hk.1, if_neg hk.2] at this
      rw [show N + (p + 1 - q) = N + 1 + (p - q) by omega]
      exact this
    · have h1 := hmo i 0 (by omega) (by omega)
      have h2 := hmo k (i + 1) (by omega) (by omega)
      omega
    · obtain ⟨i, i1, i2, i3⟩ := ll_in (ll := ll) (x := x) k (by omega) (by omega)
      exact (r5 i i1).1 x i2 i3
    · cases n with
      | zero => exact True.intro
      | succ n =>
        unfold Alv
        refine ⟨fun _ => ?_, fun w => ?_, fun w => ?_⟩
        · rw [c1.1]
          exact chA_mk0 b.1 (fun i hi => (c1.2 i hi).2) (fun i hi => (r5 i hi).2.1 n) 9
        · rcases a with ⟨z, _⟩ | ⟨z, _⟩ | ⟨z, _⟩ <;> rw [z] at w <;> exact absurd w (by decide)
        · rcases a with ⟨z, _⟩ | ⟨z, _⟩ | ⟨z, _⟩ <;> rw [z] at w <;> exact absurd w (by decide)
    · obtain ⟨n, rfl⟩ : ∃ m, n = m + 1 := ⟨n - 1, by omega⟩
      obtain ⟨i, i1, i2, i3⟩ := ll_in (ll := ll) (x := x) k (by omega) (by omega)
      unfold Clo at hc
      have u := hc.1 (by rcases a with ⟨z, _⟩ | ⟨z, _⟩ | ⟨z, _⟩; exact Or.inl z; exact Or.inr (Or.inl z); exact Or.inr (Or.inr z))
      rw [c1.1] at u
      have hf := (f i i1).1
      exact (r5 i i1).2.2 T' Y n (by omega) (chA_at (P := fun a => Clo τ pa T' Y n a) c1.2 9 0 i (by omega) i1 (by omega) u) x i2 i3 hx
  · have hmo := ll_mo (fun i hi => (o i hi).2)
    have hm0 := hmo l 0 (by omega) (by omega)
    obtain ⟨ρ', r1, r2, r3, r4, r5⟩ := bi_kids (lo := lo) (hi := hi) r (fun i hi => by
      have h1 := hmo i 0 (by omega) (by omega)
      by_cases hil : i < l
      · rw [if_pos hil]
        have h2 := hmo l (i + 1) (by omega) (by omega)
        exact ⟨by omega, by omega⟩
      · rw [if_neg hil]
        exact ⟨by omega, Nat.le_refl _⟩) (fun i j hij hj => by
      rw [if_pos (by omega)]
      exact hmo j (i + 1) (by omega) (by omega)) hpe h64 hR
    have hR' := r2.rw hR
    obtain ⟨ρ2, t1, t2, t3⟩ := bi_L19 (a1 := a1) (a2 := nI e) g2 hR' g i d.2 (show lo + l ≤ 64 by omega) l 0 FU ρ' (by omega) (by show l < 1099511627776; omega) ⟨Fr51.rf _ _ _, fun x hx => absurd hx (by omega)⟩
    have hk5 : ∀ i, i < l → BI τ pa (xA τ 16 (bb i)) (ll i) (ll (i + 1)) ρ2 := fun i hil => by
      have h1 := r5 i (by omega)
      rw [if_pos hil, if_pos hil] at h1
      obtain ⟨qq, pp, k1, k2, k3, k4, k5, k6⟩ := r
      have h2 := (k6 i (by omega)).1.1
      dsimp only at h2
      rw [if_pos hil, if_pos hil] at h2
      have h3 := hmo l (i + 1) (by omega) (by omega)
      have h4 := hmo i 0 (by omega) (by omega)
      exact h1.st h2.h.2.2.2.1 t2 (by omega) (Or.inr (by omega))
    have hk0 : BI τ pa (xA τ 16 c) (ll l) hi ρ2 := by
      have h1 := r5 l (by omega)
      rw [if_neg (by omega), if_neg (by omega)] at h1
      obtain ⟨qq, pp, k1, k2, k3, k4, k5, k6⟩ := r
      have h2 := (k6 l (by omega)).1.1
      dsimp only at h2
      rw [if_neg (by omega), if_neg (by omega)] at h2
      exact h1.st h2.h.2.2.2.1 t2 (by omega) (Or.inr (by omega))
    have cov : ∀ x, lo ≤ x → x < hi → (∃ y, y < l ∧ x = lo + y) ∨ (∃ i, i < l ∧ ll i ≤ x ∧ x < ll (i + 1)) ∨ (ll l ≤ x ∧ x < hi) := fun x x1 x2 => by
      by_cases hx1 : x < lo + l
      · exact Or.inl ⟨x - lo, by omega, by omega⟩
      · by_cases hx2 : x < ll l
        · exact Or.inr (Or.inl (ll_in (ll := ll) (x := x) l (by omega) hx2))
        · exact Or.inr (Or.inr ⟨by omega, x2⟩)
    refine ⟨ρ2, fun N => ?_, ⟨r2.tr t2.1, fun x => (t2.2.1 x).trans (r3 x), fun x hx hz => ?_⟩, fun x x1 x2 => ?_, fun n => ?_, fun T' Y n hn hc x x1 x2 hx => ?_⟩
    · have h1 := r1 (N + 1)
      rw [B2 N ρ' hR', if_pos b] at h1
      rw [show N + (p + 1 - q) = N + 1 + (p - q) by omega, h1]
      exact t1 (f_X12_bitOfPart_L2 N)
    · rw [t2.2.2 x hx (by omega)]
      refine r4 x hx (fun i hi' => ?_)
      have h1 := hmo i 0 (by omega) (by omega)
      by_cases hil : i < l
      · rw [if_pos hil]
        have h2 := hmo l (i + 1) (by omega) (by omega)
        omega
      · rw [if_neg hil]
        omega
    · rcases cov x x1 x2 with ⟨y, y1, y2⟩ | ⟨i, i1, i2, i3⟩ | ⟨i2, i3⟩
      · rw [y2]
        exact Or.inl (t3 y y1)
      · exact (hk5 i i1).1 x i2 i3
      · exact hk0.1 x i2 i3
    · cases n with
      | zero => exact True.intro
      | succ n =>
        unfold Alv
        refine ⟨fun w => ?_, fun w => ?_, fun _ => ⟨hk0.2.1 n, ?_⟩⟩
        · rcases w with w | w | w <;> rw [a] at w <;> exact absurd w (by decide)
        · rw [a] at w; exact absurd w (by decide)
        · rw [e5]
          exact chA_mk0 d.1 (fun i hi => (f i hi).2.2) (fun i hi => (hk5 i hi).2.1 n) 9
    · obtain ⟨n, rfl⟩ : ∃ m, n = m + 1 := ⟨n - 1, by omega⟩
      unfold Clo at hc
      obtain ⟨u1, u2⟩ := hc.2.2 a
      rw [e5] at u2
      rcases cov x x1 x2 with ⟨y, y1, y2⟩ | ⟨i, i1, i2, i3⟩ | ⟨i2, i3⟩
      · unfold hX at hx
        rw [y2, t3 y y1] at hx
        exact absurd hx (by decide)
      · have hf := (o i i1).1
        exact (hk5 i i1).2.2 T' Y n (by omega) (chA_at (P := fun b => Clo τ pa T' Y n (xA τ 16 b) ∧ (dv τ pa T' Y n (xA τ 16 b) = true → Y (xA τ 14 b).toNatClampNeg = true)) (fun i hi => ⟨(f i hi).1, (f i hi).2.2⟩) 9 0 i (by omega) i1 (by omega) u2).1 x i2 i3 hx
      · exact hk0.2.2 T' Y n (by omega) u1 x i2 i3 hx
  · have hmj : ∀ i, i < l → ll i + jj i ≤ ll (i + 1) := fun i hi => (o i hi).2
    have hmo := ll_mo (k := l) (ll := ll) (fun i hi => by have := hmj i hi; omega)
    have hm0 := hmo l 0 (by omega) (by omega)
    obtain ⟨ρ', r1, r2, r3, r4, r5⟩ := bi_kids (lo := lo) (hi := hi) r (fun i hi => by
      have h2 := hmo l i (by omega) (by omega)
      by_cases hi0 : i = 0
      · rw [if_pos hi0]
        exact ⟨Nat.le_refl _, by omega⟩
      · rw [if_neg hi0]
        have h1 := hmo (i - 1) 0 (by omega) (by omega)
        exact ⟨by omega, by omega⟩) (fun i j hij hj => by
      rw [if_neg (by omega)]
      have := hmo (j - 1) i (by omega) (by omega)
      omega) hpe h64 hR
    have hR' := r2.rw hR
    obtain ⟨qq, pp, k1, k2, k3, k4, k5, k6⟩ := r
    obtain ⟨ρ2, t1, t2, t3, t4, t5⟩ := bi_L67 (a1 := a1) (a2 := nI e) (lo := lo) (hi := hi) g2 hR' k1 k3 k2 (fun i hi => ⟨(g i hi).1, (g i hi).2.1⟩) (fun i hi => by
      have h1 := hmo i 0 (by omega) (by omega)
      have h2 := hmo l (i + 1) (by omega) (by omega)
      exact ⟨by omega, hmj i hi, by omega⟩) h64 l 0 FU ρ' (by omega) (by show l < 1099511627776; omega) ⟨FrZ.rf _, fun _ => rfl, fun _ _ _ => rfl, fun j hj => absurd hj (by omega)⟩
    have hst : ∀ (c' : Int32) (Sc' : Nat → Prop) (lo' hi' : Nat), VS τ c' Sc' lo' hi' → BI τ pa c' lo' hi' ρ' → hi' ≤ 64 → (∀ x, lo' ≤ x → x < hi' → ∀ j, j < l → x < ll j ∨ ll j + jj j ≤ x) → BI τ pa c' lo' hi' ρ2 := fun c' Sc' lo' hi' v h hh hd => by
      obtain ⟨h1, h2, h3⟩ := h
      have hx : ∀ x, lo' ≤ x → x < hi' → hX ρ2 x = hX ρ' x := fun x x1 x2 => by unfold hX; rw [t4 x (by omega) (hd x x1 x2)]
      exact ⟨fun x x1 x2 => by rw [t4 x (by omega) (hd x x1 x2)]; exact h1 x x1 x2, fun n => Alv_mo v n (fun x x1 x2 w => by rw [hx x x1 x2]; exact w) (h2 n), fun T' Y n hn hc x x1 x2 w => h3 T' Y n hn hc x x1 x2 (by rw [← hx x x1 x2]; exact w)⟩
    have hk0 : BI τ pa (xA τ 16 c) lo (ll 0) ρ2 := by
      have h2 : JT τ μ F (xA τ 16 c) (qq 0) (pp 0) Sc lo (ll 0) := (k6 0 (by omega)).1.1
      exact hst _ _ _ _ h2.h.2.2.2.1 (r5 0 (by omega)) (by omega) (fun x x1 x2 j hj => by
        have := hmo j 0 (by omega) (by omega)
        omega)
    have hk5 : ∀ i, i < l → BI τ pa (xA τ 16 (aa i)) (ll i + jj i) (ll (i + 1)) ρ2 := fun i hil => by
      have h2 : JT τ μ F (xA τ 16 (aa i)) (qq (i + 1)) (pp (i + 1)) (Sa i) (ll i + jj i) (ll (i + 1)) := (k6 (i + 1) (by omega)).1.1
      have h3 := hmo l (i + 1) (by omega) (by omega)
      refine hst _ _ _ _ h2.h.2.2.2.1 (r5 (i + 1) (by omega)) (by omega) (fun x x1 x2 j hj => ?_)
      by_cases h1 : j < i
      · have := hmo i (j + 1) (by omega) (by omega)
        have := hmj j hj
        omega
      · by_cases h4 : i < j
        · have := hmo j (i + 1) (by omega) (by omega)
          omega
        · have : j = i := by omega
          subst this
          omega
    have cov : ∀ x, lo ≤ x → x < hi → (lo ≤ x ∧ x < ll 0) ∨ (∃ i y, i < l ∧ y < jj i ∧ x = ll i + y) ∨ (∃ i, i < l ∧ ll i + jj i ≤ x ∧ x < ll (i + 1)) := fun x x1 x2 => by
      by_cases hx1 : x < ll 0
      · exact Or.inl ⟨x1, hx1⟩
      · obtain ⟨i, i1, i2, i3⟩ := ll_in (ll := ll) (x := x) l (by omega) (by omega)
        by_cases hx2 : x < ll i + jj i
        · exact Or.inr (Or.inl ⟨i, x - ll i, i1, by omega, by omega⟩)
        · exact Or.inr (Or.inr ⟨i, i1, by omega, i3⟩)
    refine ⟨ρ2, fun N => ?_, ⟨r2.tr t2, fun x => (t3 x).trans (r3 x), fun x hx hz => ?_⟩, fun x x1 x2 => ?_, fun n => ?_, fun T' Y n hn hc x x1 x2 hx => ?_⟩
    · have h1 := r1 (N + 1)
      rw [B2 N ρ' hR', if_neg (by rw [b]; decide), if_pos b] at h1
      rw [show N + (p + 1 - q) = N + 1 + (p - q) by omega, h1]
      exact t1 (f_X12_bitOfPart_L2 N)
    · rw [t4 x hx (fun j' hj' => by
        have h1 := hmo j' 0 (by omega) (by omega)
        have h2 := hmo l (j' + 1) (by omega) (by omega)
        have h3 := hmj j' hj'
        omega)]
      refine r4 x hx (fun i hi' => ?_)
      have h2 := hmo l i (by omega) (by omega)
      by_cases hi0 : i = 0
      · rw [if_pos hi0]
        omega
      · rw [if_neg hi0]
        have h1 := hmo (i - 1) 0 (by omega) (by omega)
        omega
    · rcases cov x x1 x2 with ⟨i2, i3⟩ | ⟨i, y, i1, i2, i3⟩ | ⟨i, i1, i2, i3⟩
      · exact hk0.1 x i2 i3
      · rw [i3]
        exact Or.inr (t5 i i1 y i2)
      · exact (hk5 i i1).1 x i2 i3
    · cases n with
      | zero => exact True.intro
      | succ n =>
        unfold Alv
        refine ⟨fun w => ?_, fun _ => ⟨hk0.2.1 n, ?_⟩, fun w => ?_⟩
        · rcases w with w | w | w <;> rw [a] at w <;> exact absurd w (by decide)
        · rw [e5]
          refine chA_mk0 d.1 (fun i hi => (f i hi).2) (fun i hi => ⟨(hk5 i hi).2.1 n, fun w11 y hy => ?_⟩) 9
          have h2 := hmo l (i + 1) (by omega) (by omega)
          have h3 := hmj i hi
          rcases (g i hi).2.2 with ⟨z1, z2, z3⟩ | ⟨z1, z2⟩
          · rw [z2, nI_clamp (by omega)] at hy
            unfold hX
            rw [z3, nI_clamp (by omega), t5 i hi y hy]
            decide
          · exact absurd w11 z1
        · rw [a] at w; exact absurd w (by decide)
    · obtain ⟨n, rfl⟩ : ∃ m, n = m + 1 := ⟨n - 1, by omega⟩
      unfold Clo at hc
      obtain ⟨u1, u2⟩ := hc.2.1 a
      rw [e5] at u2
      have uu := fun i (hi : i < l) => chA_at (P := fun a => Clo τ pa T' Y n (xA τ 16 a) ∧ (xA τ 13 a = 11 → ∀ q, q < (xA τ 2 (xA τ 14 a)).toNatClampNeg → Y ((xA τ 15 a).toNatClampNeg + q) = true)) f 9 0 i (by omega) hi (by omega) u2
      rcases cov x x1 x2 with ⟨i2, i3⟩ | ⟨i, y, i1, i2, i3⟩ | ⟨i, i1, i2, i3⟩
      · exact hk0.2.2 T' Y n (by omega) u1 x i2 i3 hx
      · have h2 := hmo l (i + 1) (by omega) (by omega)
        have h3 := hmj i i1
        rcases (g i i1).2.2 with ⟨z1, z2, z3⟩ | ⟨z1, z2⟩
        · have := (uu i i1).2 z1 y (by rw [z2, nI_clamp (by omega)]; exact i2)
          rw [z3, nI_clamp (by omega)] at this
          rw [i3]
          exact this
        · omega
      · have hf := (o i i1).1
        exact (hk5 i i1).2.2 T' Y n (by omega) (uu i i1).1 x i2 i3 hx
