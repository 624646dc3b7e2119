/-- the children of a node that is no leaf -/
theorem JF.kids {τ μ : S5} {F : Nat} {R : R6} {c : Int32} {q p : Nat} {Sc : Nat → Prop} {lo hi : Nat} (h : JF τ μ F R c q p Sc lo hi) : q = p ∨ ∃ (k ct : Nat) (cc : Nat → Int32) (Sa : Nat → Nat → Prop) (la lb : Nat → Nat), JK μ R k ct cc Sa la lb q p ∧ ∀ i, i < k → lo ≤ la i ∧ lb i ≤ hi ∧ hF τ (cc i) < hF τ c := by
  rcases h.2 with ⟨-, e1, -⟩ | ⟨k, ct, cc, ll, a, b, c1, d, e, f, g⟩ | ⟨a, b, l, ct, bb, ll, d, e, f, g, i, j, m, n, o, r⟩ | ⟨a, b, l, ct, aa, jj, ll, Sa, d, e, f, g, i, j, m, n, o, r⟩
  · exact Or.inl e1
  · have hmo := ll_mo (fun i hi => (f i hi).2)
    refine Or.inr ⟨_, _, _, _, _, _, g, fun i hi => ?_⟩
    have h1 := hmo i 0 (by omega) (by omega)
    have h2 := hmo k (i + 1) (by omega) (by omega)
    exact ⟨by omega, by omega, (f i hi).1⟩
  · have hmo := ll_mo (fun i hi => (o i hi).2)
    refine Or.inr ⟨_, _, _, _, _, _, r, fun i hi => ?_⟩
    have h1 := hmo i 0 (by omega) (by omega)
    by_cases hil : i < l
    · rw [if_pos hil, if_pos hil]
      have h2 := hmo l (i + 1) (by omega) (by omega)
      exact ⟨by omega, by omega, (o i hil).1⟩
    · rw [if_neg hil, if_neg hil]
      exact ⟨by omega, Nat.le_refl _, m⟩
  · have hmo := ll_mo (k := l) (ll := ll) (fun i hi => by have := (o i hi).2; omega)
    refine Or.inr ⟨_, _, _, _, _, _, r, fun i hi => ?_⟩
    have h2 := hmo l i (by omega) (by omega)
    by_cases hi0 : i = 0
    · rw [if_pos hi0, if_pos hi0]
      exact ⟨Nat.le_refl _, by omega, n⟩
    · rw [if_neg hi0, if_neg hi0]
      have h1 := hmo (i - 1) 0 (by omega) (by omega)
      exact ⟨by omega, by omega, (o (i - 1) (by omega)).1⟩
theorem qq_find {k : Nat} {qq pp : Nat → Nat} (h : ∀ i, i < k → qq i ≤ pp i ∧ qq (i + 1) = pp i + 1) {n : Nat} : ∀ j, j ≤ k → qq 0 ≤ n → n < qq j → ∃ i, i < j ∧ qq i ≤ n ∧ n ≤ pp i
  | 0, _, h1, h2 => absurd h2 (by omega)
  | j + 1, hj, h1, h2 => by
    by_cases hn : n < qq j
    · obtain ⟨i, a, b⟩ := qq_find h j (by omega) h1 hn
      exact ⟨i, by omega, b⟩
    · have := (h j (by omega)).2
      exact ⟨j, by omega, by omega, by omega⟩
theorem qq_mo {k : Nat} {qq pp : Nat → Nat} (h : ∀ i, i < k → qq i ≤ pp i ∧ qq (i + 1) = pp i + 1) : ∀ j i, i ≤ j → j ≤ k → qq i ≤ qq j
  | 0, i, h1, _ => by
    have : i = 0 := by omega
    rw [this]; exact Nat.le_refl _
  | j + 1, i, h1, h2 => by
    by_cases he : i = j + 1
    · rw [he]; exact Nat.le_refl _
    · have := qq_mo h j i (by omega) (by omega)
      have := h j (by omega)
      omega
/-- EVERY LIFTED NODE STANDS FOR A PART -/
theorem jt_nl {τ μ : S5} {F : Nat} {c : Int32} {q p : Nat} {Sc : Nat → Prop} {lo hi : Nat} (h : JT τ μ F c q p Sc lo hi) : ∀ n, q ≤ n → n ≤ p → ∃ c' q' Sc' lo' hi', JT τ μ F c' q' n Sc' lo' hi' ∧ q ≤ q' ∧ lo ≤ lo' ∧ hi' ≤ hi ∧ hF τ c' ≤ hF τ c := by
  refine JT.ind (P := fun c q p Sc lo hi => ∀ n, q ≤ n → n ≤ p → ∃ c' q' Sc' lo' hi', JT τ μ F c' q' n Sc' lo' hi' ∧ q ≤ q' ∧ lo ≤ lo' ∧ hi' ≤ hi ∧ hF τ c' ≤ hF τ c) ?_ h
  clear h
  intro c q p Sc lo hi h n hq hp
  have ht : JT τ μ F c q p Sc lo hi := JT.fold (h.mono (fun _ _ _ _ _ _ v => v.1))
  by_cases hn : n = p
  · subst hn
    exact ⟨c, q, Sc, lo, hi, ht, Nat.le_refl _, Nat.le_refl _, Nat.le_refl _, Nat.le_refl _⟩
  · rcases h.kids with w | ⟨k, ct, cc, Sa, la, lb, ⟨qq, pp, a1, a2, a3, a4, a5, a6⟩, hb⟩
    · omega
    · have hqq : ∀ i, i < k → qq i ≤ pp i ∧ qq (i + 1) = pp i + 1 := fun i hi => ⟨(a6 i hi).2.1, (a6 i hi).2.2.2.1⟩
      obtain ⟨i, i1, i2, i3⟩ := qq_find hqq (n := n) k (Nat.le_refl _) (by omega) (by omega)
      obtain ⟨c', q', Sc', lo', hi', r1, r2, r3, r4, r5⟩ := (a6 i i1).1.2 n i2 i3
      obtain ⟨b1, b2, b3⟩ := hb i i1
      have := qq_mo hqq i 0 (by omega) (by omega)
      exact ⟨c', q', Sc', lo', hi', r1, by omega, by omega, by omega, by omega⟩
/-- what finding a part's bit writes -/
def FrZ (ρ ρ' : S5) : Prop := (∀ j, gI ρ' j = gI ρ j) ∧ (∀ j, gJ ρ' j = gJ ρ j) ∧ (∀ j, ¬ j = 50 → ¬ j = 51 → gA ρ' j = gA ρ j) ∧ (∀ j, gB ρ' j = gB ρ j) ∧ ρ'.2.2.2.2 = ρ.2.2.2.2
theorem FrZ.rf (ρ : S5) : FrZ ρ ρ := ⟨fun _ => rfl, fun _ => rfl, fun _ _ _ => rfl, fun _ => rfl, rfl⟩
theorem FrZ.tr {ρ ρ1 ρ2 : S5} (h : FrZ ρ ρ1) (k : FrZ ρ1 ρ2) : FrZ ρ ρ2 := by
  obtain ⟨a1, a2, a3, a4, a5⟩ := h
  obtain ⟨b1, b2, b3, b4, b5⟩ := k
  exact ⟨fun j => (b1 j).trans (a1 j), fun j => (b2 j).trans (a2 j), fun j x y => (b3 j x y).trans (a3 j x y), fun j => (b4 j).trans (a4 j), b5.trans a5⟩
theorem FrZ.x {ρ ρ' : S5} (h : FrZ ρ ρ') (j : Nat) (x : Int32) (h1 : ¬ j = 50) (h2 : ¬ j = 51) : xA ρ' j x = xA ρ j x := by
  show gA ρ' j _ = gA ρ j _
  rw [h.2.2.1 j h1 h2]
theorem FrZ.rw {μ ρ ρ' : S5} (h : FrZ ρ ρ') (k : RwE μ ρ) : RwE μ ρ' := fun j h0 h1 h2 h3 h4 => by rw [h.2.2.1 j h2 h3, k j h0 h1 h2 h3 h4]
theorem FrZ.T {ρ ρ' : S5} (h : FrZ ρ ρ') (pa : Nat → Nat) : TBm ρ' pa = TBm ρ pa := by
  funext f r
  unfold TBm
  rw [h.x 49 _ (by decide) (by decide)]
theorem FrZ.t01 {ρ ρ' : S5} {F : Nat} (h : FrZ ρ ρ') (k : T01 ρ F) : T01 ρ' F := fun x hx => by
  rw [h.x 49 _ (by decide) (by decide)]
  exact k x hx
/-- the bits of all parts of an interval -/
def Bts (τ μ : S5) (pa : Nat → Nat) (F H : Nat) (T : Nat → (Nat → Bool) → Bool) (X : Nat → Bool) (q n : Nat) (ρ : S5) : Prop := ∀ c' q' p' Sc' lo' hi', JT τ μ F c' q' p' Sc' lo' hi' → q ≤ q' → p' < n → hi' ≤ H → hF τ c' < 41 → xA ρ 50 (nI p') = b2i (dv τ pa T X 41 c')
/-- a pass over all parts -/
theorem bp_L152 {τ μ ρ : S5} {pa : Nat → Nat} {F : Nat} {X : Nat → Bool} {H : Nat} (hpa : ∀ g, g < F → xA μ 47 (nI g) = nI (pa g) ∧ pa g ≤ 8) (hF6 : F ≤ 630) (hR : RwE μ ρ) (hT : T01 ρ F) (hX : ∀ x, x < H → xA ρ 51 (nI x) = b2i (X x)) (hH : H ≤ 64) {c : Int32} {q p : Nat} {Sc : Nat → Prop} {lo hi : Nat} (h : JT τ μ F c q p Sc lo hi) (hhi : hi ≤ H) (h41 : hF τ c < 41) (rec143 : Int32 → Int32 → Int32 → S5 → Option (Int32 × S5)) (v3 : Int32) : ∀ (m n N : Nat) (ρn : S5), n + m = p + 1 → m < N → q ≤ n → (FrZ ρ ρn ∧ (∀ x, xA ρn 51 x = xA ρ 51 x) ∧ Bts τ μ pa F H (TBm ρ pa) X q n ρn) → ∃ ρ', f_X12_bitOfPart_L152 rec143 N (nI q) (nI p) v3 (nI n) ρn = f_X12_bitOfPart_L180 rec143 FU (nI q) (nI p) v3 (nI q) ρ' ∧ (FrZ ρ ρ' ∧ (∀ x, xA ρ' 51 x = xA ρ 51 x) ∧ Bts τ μ pa F H (TBm ρ pa) X q (p + 1) ρ') := by
  have hp7 := h.h.2.1
  intro m
  induction m with
  | zero =>
    intro n N ρn hid hN hqn hI
    obtain ⟨N, rfl⟩ : ∃ m, N = m + 1 := ⟨N - 1, by omega⟩
    have hn : n = p + 1 := by omega
    refine ⟨ρn, ?_, by rw [← hn]; exact hI⟩
    show f_X12_bitOfPart_B152 _ _ _ _ _ _ _ = _
    unfold f_X12_bitOfPart_B152
    rw [hn, if_pos ((nI_lt31 (by omega) (by omega)).mpr (by omega))]
  | succ m ih =>
    intro n N ρn hid hN hqn hI
    obtain ⟨N, rfl⟩ : ∃ m, N = m + 1 := ⟨N - 1, by omega⟩
    obtain ⟨a1, a2, a3⟩ := hI
    have eT := a1.T pa
    have gen : ∀ c' q' Sc' lo' hi', JT τ μ F c' q' n Sc' lo' hi' → q ≤ q' → hi' ≤ H → hF τ c' < 41 → f_X12_partBit (nI n) ρn = some (b2i (dv τ pa (TBm ρ pa) X 41 c'), ρn) := fun c' q' Sc' lo' hi' r1 r2 r4 r5 => by
      rw [← eT]
      exact pb_go (H := H) hpa hF6 (a1.rw hR) (a1.t01 hT) (fun x hx => by rw [a2]; exact hX x hx) hH r1 r4 r5 (fun c'' q'' p'' Sc'' lo'' hi'' s1 s2 s3 s4 s5 => by
        rw [eT]
        exact a3 c'' q'' p'' Sc'' lo'' hi'' s1 (by omega) s3 s4 s5)
    obtain ⟨c', q', Sc', lo', hi', r1, r2, r3, r4, r5⟩ := jt_nl h n hqn (by omega)
    have hpb := gen c' q' Sc' lo' hi' r1 r2 (by omega) (by omega)
    obtain ⟨ρ1, e1⟩ : ∃ ρ1, ρ1 = pA ρn 50 (nI n) (b2i (dv τ pa (TBm ρ pa) X 41 c')) := ⟨_, rfl⟩
    have st : f_X12_bitOfPart_L152 rec143 (N + 1) (nI q) (nI p) v3 (nI n) ρn = f_X12_bitOfPart_L152 rec143 N (nI q) (nI p) v3 (nI (n + 1)) ρ1 := by
      show f_X12_bitOfPart_B152 _ _ _ _ _ _ _ = _
      unfold f_X12_bitOfPart_B152
      rw [if_neg (fun w => by have := (nI_lt31 (by omega) (by omega)).mp w; omega), hpb, bd_of, gdn (by omega) (by omega), b2i_nar, nI_add1, e1]
    rw [st]
    refine ih (n + 1) N ρ1 (by omega) (by omega) (by omega) ⟨a1.tr (by rw [e1]; exact ⟨fun _ => rfl, fun _ => rfl, fun j h5 _ => gA_ne _ _ _ h5, fun _ => rfl, rfl⟩), fun x => by rw [e1, xA_pA, if_neg (fun z => absurd z.1 (by decide))]; exact a2 x, fun c'' q'' p'' Sc'' lo'' hi'' s1 s2 s3 s4 s5 => ?_⟩
    by_cases hpn : p'' = n
    · subst hpn
      rw [e1, xA_self]
      have h2 := gen c'' q'' Sc'' lo'' hi'' s1 s2 s4 s5
      rw [hpb] at h2
      injection h2 with h3
      exact (Prod.mk.inj h3).1
    · have h7 := s1.h.2.1
      rw [e1, xA_pA, if_neg (fun z => tn_neL (a := p'') (b := n) (by omega) (by omega) hpn z.2)]
      exact a3 c'' q'' p'' Sc'' lo'' hi'' s1 s2 (by omega) s4 s5
/-- one child behind the other -/
theorem kid_run {S O : Type} {G : Nat → Nat → S → O} {qq pp : Nat → Nat} {I : Nat → S → Prop} : ∀ (k : Nat), (∀ i, i < k → qq i ≤ pp i ∧ qq (i + 1) = pp i + 1) → (∀ i, i < k → ∀ s, I i s → ∃ s', (∀ N, G (N + (pp i + 1 - qq i)) (qq i) s = G N (pp i + 1) s') ∧ I (i + 1) s') → ∀ s, I 0 s → ∃ s', (∀ N, G (N + (qq k - qq 0)) (qq 0) s = G N (qq k) s') ∧ I k s'
  | 0, _, _, s, h => ⟨s, fun N => by rw [Nat.sub_self, Nat.add_zero], h⟩
  | k + 1, hq, hs, s, h => by
    obtain ⟨s1, a1, a2⟩ := kid_run k (fun i hi => hq i (by omega)) (fun i hi => hs i (by omega)) s h
    obtain ⟨s2, b1, b2⟩ := hs k (by omega) s1 a2
    have hk := hq k (by omega)
    have hm := qq_mo (k := k + 1) hq k 0 (by omega) (by omega)
    refine ⟨s2, fun N => ?_, b2⟩
    have h1 := a1 (N + (pp k + 1 - qq k))
    rw [b1 N] at h1
    rw [show N + (qq (k + 1) - qq 0) = N + (pp k + 1 - qq k) + (qq k - qq 0) by omega, h1, hk.2]
/-- what the alternatives bind has a value -/
def Alv (τ : S5) (X : Nat → Bool) : Nat → Int32 → Prop
  | 0, _ => True
  | n + 1, c => (xA τ 13 c = 5 ∨ xA τ 13 c = 8 ∨ xA τ 13 c = 9 → chA τ (fun a => Alv τ X n a) 9 (xA τ 16 c)) ∧ (xA τ 13 c = 6 → Alv τ X n (xA τ 16 c) ∧ chA τ (fun a => Alv τ X n (xA τ 16 a) ∧ (xA τ 13 a = 11 → ∀ q, q < (xA τ 2 (xA τ 14 a)).toNatClampNeg → X ((xA τ 15 a).toNatClampNeg + q) = true)) 9 (xA τ 17 (xA τ 16 c))) ∧ (xA τ 13 c = 7 → Alv τ X n (xA τ 16 c) ∧ chA τ (fun b => Alv τ X n (xA τ 16 b)) 9 (xA τ 17 (xA τ 16 c)))
theorem Alv_mo {τ : S5} {X X' : Nat → Bool} {c : Int32} {Sc : Nat → Prop} {lo hi : Nat} (q : VS τ c Sc lo hi) : ∀ n, (∀ x, lo ≤ x → x < hi → X x = true → X' x = true) → Alv τ X n c → Alv τ X' n c := by
  refine VS.ind (P := fun c Sc lo hi => ∀ n, (∀ x, lo ≤ x → x < hi → X x = true → X' x = true) → Alv τ X n c → Alv τ X' n c) ?_ q
  clear q
  intro c Sc lo hi q n hD hv
  cases n with
  | zero => exact True.intro
  | succ n =>
  unfold Alv at hv ⊢
  obtain ⟨v5, v6, v7⟩ := hv
  rcases q with ⟨⟨-, q1⟩, -, q2⟩ | ⟨q1, k, cc, ll, q2, q3, ⟨q4, q4'⟩, q5, ⟨q6, q7, q8, q8'⟩, q9⟩ | ⟨q1, l, bb, ll, q2, q3, q4, q5, q6, ⟨q7, q8, q9⟩, q10, q11⟩ | ⟨q1, l, aa, ll, q2, q3, q4, q5, ⟨q6, q7, q8⟩, q9⟩
  · have h5 : ¬ xA τ 13 c = 5 := fun w => by rw [w] at q1; exact absurd q1 (by decide)
    have h6 : ¬ xA τ 13 c = 6 := fun w => by rw [w] at q1; exact absurd q1 (by decide)
    have h7 : ¬ xA τ 13 c = 7 := fun w => by rw [w] at q1; exact absurd q1 (by decide)
    have h8 : ¬ xA τ 13 c = 8 := fun w => by rw [w] at q1; exact absurd q1 (by decide)
    have h9 : ¬ xA τ 13 c = 9 := fun w => by rw [w] at q1; exact absurd q1 (by decide)
    exact ⟨fun w => by rcases w with w | w | w; exact absurd w h5; exact absurd w h8; exact absurd w h9, fun w => absurd w h6, fun w => absurd w h7⟩
  · have hm := ll_mo (fun i hi => (q9 i hi).1.le)
    refine ⟨fun w => ?_, fun w => ?_, fun w => ?_⟩
    · have u := v5 w
      rw [q4] at u ⊢
      refine chA_mk0 q2 (fun i hi => (q4' i hi).2) (fun i hi => ?_) 9
      have z := chA_at q4' 9 0 i (by omega) hi (by omega) u
      have h1 := hm i 0 (by omega) (by omega)
      have h2 := hm k (i + 1) (by omega) (by omega)
      exact (q9 i hi).2 n (fun x x1 x2 => hD x (by omega) (by omega)) z
    · rcases q1 with z | z | z <;> rw [z] at w <;> exact absurd w (by decide)
    · rcases q1 with z | z | z <;> rw [z] at w <;> exact absurd w (by decide)
  · have hm := ll_mo (fun i hi => (q11 i hi).1.le)
    refine ⟨fun w => ?_, fun w => ?_, fun w => ?_⟩
    · rcases w with w | w | w <;> rw [q1] at w <;> exact absurd w (by decide)
    · rw [q1] at w; exact absurd w (by decide)
    · obtain ⟨u1, u2⟩ := v7 w
      have hh := q10.1.le
      have h0 := hm l 0 (by omega) (by omega)
      refine ⟨q10.2 n (fun x x1 x2 => hD x (by omega) x2) u1, ?_⟩
      rw [q5] at u2 ⊢
      refine chA_mk0 q2 (fun i hi => (q6 i hi).2.2) (fun i hi => ?_) 9
      have z1 := chA_at (P := fun b => Alv τ X n (xA τ 16 b)) (fun i hi => ⟨(q6 i hi).1.1, (q6 i hi).2.2⟩) 9 0 i (by omega) hi (by omega) u2
      have h1 := hm i 0 (by omega) (by omega)
      have h2 := hm l (i + 1) (by omega) (by omega)
      exact (q11 i hi).2 n (fun x x1 x2 => hD x (by omega) (by omega)) z1
  · have hm := ll_mo (k := l) (ll := ll) (fun i hi => by
      rcases (q9 i hi).2 with ⟨-, j, -, -, -, -, r⟩ | ⟨-, r⟩
      · have := r.1.le; omega
      · exact r.1.le)
    have h0 := q5.1.le
    refine ⟨fun w => ?_, fun w => ?_, fun w => ?_⟩
    · rcases w with w | w | w <;> rw [q1] at w <;> exact absurd w (by decide)
    · obtain ⟨u1, u2⟩ := v6 w
      have hl := hm l 0 (by omega) (by omega)
      refine ⟨q5.2 n (fun x x1 x2 => hD x x1 (by omega)) u1, ?_⟩
      rw [q4] at u2 ⊢
      refine chA_mk0 q2 (fun i hi => (q9 i hi).1.2) (fun i hi => ?_) 9
      obtain ⟨z1, z2⟩ := chA_at (P := fun a => Alv τ X n (xA τ 16 a) ∧ (xA τ 13 a = 11 → ∀ q, q < (xA τ 2 (xA τ 14 a)).toNatClampNeg → X ((xA τ 15 a).toNatClampNeg + q) = true)) (fun j hj => ⟨(q9 j hj).1.1.1, (q9 j hj).1.2⟩) 9 0 i (by omega) hi (by omega) u2
      have h1 := hm i 0 (by omega) (by omega)
      have h2 := hm l (i + 1) (by omega) (by omega)
      rcases (q9 i hi).2 with ⟨r5, j, r6, r7, r8, r9, r4⟩ | ⟨r5, r4⟩
      · have h3 := r4.1.le
        have h4 := r7.1
        refine ⟨r4.2 n (fun x x1 x2 => hD x (by omega) (by omega)) z1, fun w2 p hp => ?_⟩
        have z3 := z2 w2 p hp
        rw [r8, nI_clamp (by omega)] at hp
        rw [r9, nI_clamp (by omega)] at z3 ⊢
        exact hD _ (by omega) (by omega) z3
      · exact ⟨r4.2 n (fun x x1 x2 => hD x (by omega) (by omega)) z1, fun w2 => absurd w2 r5⟩
    · rw [q1] at w; exact absurd w (by decide)
