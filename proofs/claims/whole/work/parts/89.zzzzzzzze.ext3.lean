/-- ClV depends on what is seen and on what is bound within -/
theorem ClV_cg {τ : S5} {pa : Nat → Nat} {T : Nat → (Nat → Bool) → Bool} {X X' : Nat → Bool} {c : Int32} {Sc : Nat → Prop} {lo hi : Nat} (q : VS τ c Sc lo hi) : (∀ x, Sc x → x < 5000) → ∀ n, hF τ c < n → (∀ x, Sc x → X x = X' x) → (∀ x, lo ≤ x → x < hi → X x = X' x) → ClV τ pa T X n c → ClV τ pa T X' n c := by
  refine VS.ind (P := fun c Sc lo hi => (∀ x, Sc x → x < 5000) → ∀ n, hF τ c < n → (∀ x, Sc x → X x = X' x) → (∀ x, lo ≤ x → x < hi → X x = X' x) → ClV τ pa T X n c → ClV τ pa T X' n c) ?_ q
  clear q
  intro c Sc lo hi q hS n hn hx hD hv
  obtain ⟨n, rfl⟩ : ∃ m, n = m + 1 := ⟨n - 1, by omega⟩
  unfold ClV at hv ⊢
  obtain ⟨v5, v6, v7, v8⟩ := hv
  rcases q with ⟨⟨-, q1⟩, -, q2⟩ | ⟨q1, k, cc, ll, q2, q3, ⟨q4, q4'⟩, q5, ⟨q6, q7, q8, q8'⟩, q9⟩ | ⟨q1, l, bb, ll, q2, q3, q4, q5, q6, ⟨q7, q8, q9⟩, q10, q11⟩ | ⟨q1, l, aa, ll, q2, q3, q4, q5, ⟨q6, q7, q8⟩, q9⟩
  · have h5 : ¬ xA τ 13 c = 5 := fun w => by rw [w] at q1; exact absurd q1 (by decide)
    have h6 : ¬ xA τ 13 c = 6 := fun w => by rw [w] at q1; exact absurd q1 (by decide)
    have h7 : ¬ xA τ 13 c = 7 := fun w => by rw [w] at q1; exact absurd q1 (by decide)
    have h8 : ¬ xA τ 13 c = 8 := fun w => by rw [w] at q1; exact absurd q1 (by decide)
    exact ⟨fun w => absurd w h5, fun w => absurd w h6, fun w => absurd w h7, fun w => absurd w h8⟩
  · have hm := ll_mo (fun i hi => (q9 i hi).1.le)
    have hch : ∀ i, i < k → ClV τ pa T X n (cc i) → ClV τ pa T X' n (cc i) := fun i hi => (q9 i hi).2 hS n (by have := q7 i hi; omega) hx (fun x x1 x2 => hD x (by have := hm i 0 (by omega) (by omega); omega) (by have := hm k (i + 1) (by omega) (by omega); omega))
    refine ⟨fun w => ?_, fun w => ?_, fun w => ?_, fun w => ?_⟩
    · have hk := q8' w
      subst hk
      have e1 : xA τ 17 (xA τ 16 c) = cc 1 := by rw [q4]; exact (q4' 0 (by omega)).2
      obtain ⟨u1, u2⟩ := v5 w
      rw [e1] at u2 ⊢
      rw [q4] at u1 ⊢
      exact ⟨hch 0 (by omega) u1, hch 1 (by omega) u2⟩
    · rcases q1 with z | z | z <;> rw [z] at w <;> exact absurd w (by decide)
    · rcases q1 with z | z | z <;> rw [z] at w <;> exact absurd w (by decide)
    · obtain ⟨u1, u2⟩ := v8 w
      refine ⟨fun h2 hp i hip => ?_, fun h2 => ?_⟩
      · have u3 := u1 h2 hp i hip
        have h15 := q8 w
        rw [h15, nI_clamp (by omega)] at hp
        have e1 : xA τ 17 (xA τ 16 c) = cc 1 := by rw [q4, (q4' 0 (by omega)).2, if_pos (by omega)]
        have e2 : nx17 τ i (xA τ 17 (xA τ 16 c)) = cc (1 + i) := by rw [e1]; exact nx17_at (fun j hj => (q4' j hj).2) i 1 (by omega)
        rw [e2] at u3 ⊢
        exact hch _ (by omega) u3
      · have u3 := u2 h2
        rw [q4] at u3 ⊢
        exact hch 0 (by omega) u3
  · have hm := ll_mo (fun i hi => (q11 i hi).1.le)
    refine ⟨fun w => ?_, fun w => ?_, fun w => ?_, fun w => ?_⟩
    · rw [q1] at w; exact absurd w (by decide)
    · rw [q1] at w; exact absurd w (by decide)
    · obtain ⟨u1, u2⟩ := v7 w
      have hh := q10.1.le
      have h0 := hm l 0 (by omega) (by omega)
      have h4 := q4.1
      have hS' : ∀ x, Sx Sc lo l x → x < 5000 := fun x w => by
        rcases w with w | w
        · exact hS x w
        · omega
      have hx' : ∀ x, Sx Sc lo l x → X x = X' x := fun x w => by
        rcases w with w | w
        · exact hx x w
        · exact hD x (by omega) (by omega)
      refine ⟨q10.2 hS' n (by omega) hx' (fun x x1 x2 => hD x (by omega) x2) u1, ?_⟩
      rw [q5] at u2 ⊢
      refine chA_mk0 q2 (fun i hi => (q6 i hi).2.2) (fun i hi => ?_) 9
      obtain ⟨z1, z2⟩ := chA_at (P := fun b => ClV τ pa T X n (xA τ 16 b) ∧ (dv τ pa T X n (xA τ 16 b) = true → X (xA τ 14 b).toNatClampNeg = true)) (fun i hi => ⟨(q6 i hi).1.1, (q6 i hi).2.2⟩) 9 0 i (by omega) hi (by omega) u2
      have h1 := hm i 0 (by omega) (by omega)
      have h2 := hm l (i + 1) (by omega) (by omega)
      have h3 := q9 i hi
      have hDi : ∀ x, ll i ≤ x → x < ll (i + 1) → X x = X' x := fun x x1 x2 => hD x (by omega) (by omega)
      refine ⟨(q11 i hi).2 hS' n (by omega) hx' hDi z1, fun w2 => ?_⟩
      rw [← dv_cg hS' (q11 i hi).1 (by omega) hx' hDi] at w2
      have z3 := z2 w2
      rw [(q6 i hi).2.1, nI_clamp (by omega)] at z3 ⊢
      rw [← hD _ (by omega) (by omega)]
      exact z3
    · rw [q1] at w; exact absurd w (by decide)
  · have hm := ll_mo (k := l) (ll := ll) (fun i hi => by
      rcases (q9 i hi).2 with ⟨-, j, -, -, -, -, r⟩ | ⟨-, r⟩
      · have := r.1.le; omega
      · exact r.1.le)
    have h0 := q5.1.le
    refine ⟨fun w => ?_, fun w => ?_, fun w => ?_, fun w => ?_⟩
    · rw [q1] at w; exact absurd w (by decide)
    · obtain ⟨u1, u2⟩ := v6 w
      have hl := hm l 0 (by omega) (by omega)
      refine ⟨q5.2 hS n (by omega) hx (fun x x1 x2 => hD x x1 (by omega)) u1, ?_⟩
      rw [q4] at u2 ⊢
      refine chA_mk0 q2 (fun i hi => (q9 i hi).1.2) (fun i hi => ?_) 9
      obtain ⟨z1, z2⟩ := chA_at (P := fun a => ClV τ pa T X n (xA τ 16 a) ∧ (xA τ 13 a = 11 → ∀ q, q < (xA τ 2 (xA τ 14 a)).toNatClampNeg → X ((xA τ 15 a).toNatClampNeg + q) = true)) (fun j hj => ⟨(q9 j hj).1.1.1, (q9 j hj).1.2⟩) 9 0 i (by omega) hi (by omega) u2
      have h1 := hm i 0 (by omega) (by omega)
      have h2 := hm l (i + 1) (by omega) (by omega)
      have h3 := q8 i hi
      rcases (q9 i hi).2 with ⟨r5, j, r6, r7, r8, r9, r4⟩ | ⟨r5, r4⟩
      · have h3 := r4.1.le
        have h4 := r7.1
        refine ⟨r4.2 (fun x w => ?_) n (by omega) (fun x w => ?_) (fun x x1 x2 => hD x (by omega) (by omega)) z1, fun w2 p hp => ?_⟩
        · rcases w with w | w
          · exact hS x w
          · omega
        · rcases w with w | w
          · exact hx x w
          · exact hD x (by omega) (by omega)
        · have z3 := z2 w2 p hp
          rw [r8, nI_clamp (by omega)] at hp
          rw [r9, nI_clamp (by omega)] at z3 ⊢
          rw [← hD _ (by omega) (by omega)]
          exact z3
      · exact ⟨r4.2 hS n (by omega) hx (fun x x1 x2 => hD x (by omega) (by omega)) z1, fun w2 => absurd w2 r5⟩
    · rw [q1] at w; exact absurd w (by decide)
    · rw [q1] at w; exact absurd w (by decide)
/-- put together from pieces -/
theorem xcomb {k : Nat} {a b : Nat → Nat} (hd : ∀ i j, i < j → j < k → b i ≤ a j) {X : Nat → Bool} {X' : Nat → Nat → Bool} (h : ∀ i, i < k → ∀ x, X x = true → X' i x = true) : ∃ Xc : Nat → Bool, (∀ i, i < k → ∀ x, a i ≤ x → x < b i → Xc x = X' i x) ∧ (∀ x, (∀ i, i < k → ¬ (a i ≤ x ∧ x < b i)) → Xc x = X x) ∧ ∀ x, X x = true → Xc x = true := by
  refine ⟨fun x => bP (X x = true ∨ ∃ i, i < k ∧ (a i ≤ x ∧ x < b i) ∧ X' i x = true), fun i hi x x1 x2 => ?_, fun x hx => ?_, fun x hx => bP_t.mpr (Or.inl hx)⟩
  · refine Bool.eq_iff_iff.mpr ⟨fun w => ?_, fun w => bP_t.mpr (Or.inr ⟨i, hi, ⟨x1, x2⟩, w⟩)⟩
    rcases bP_t.mp w with w | ⟨j, j1, ⟨j2, j3⟩, j4⟩
    · exact h i hi x w
    · have : i = j := by
        by_cases h1 : i < j
        · have := hd i j h1 j1; omega
        · by_cases h2 : j < i
          · have := hd j i h2 hi; omega
          · omega
      rw [this]; exact j4
  · refine Bool.eq_iff_iff.mpr ⟨fun w => ?_, fun w => bP_t.mpr (Or.inl w)⟩
    rcases bP_t.mp w with w | ⟨j, j1, j2, j4⟩
    · exact w
    · exact absurd j2 (hx j j1)
/-- an X may be made greater where dv doesn't look, so that it bears all -/
def XEx (τ : S5) (pa : Nat → Nat) (T : Nat → (Nat → Bool) → Bool) (X : Nat → Bool) (n : Nat) (c : Int32) (lo hi : Nat) (X' : Nat → Bool) : Prop := (∀ x, x < lo ∨ hi ≤ x → X' x = X x) ∧ (∀ x, X x = true → X' x = true) ∧ Clo τ pa T X' n c ∧ (ClV τ pa T X n c → Vis τ pa (fun x => X x = X' x) n c)
theorem ext_fam {τ : S5} {pa : Nat → Nat} {T : Nat → (Nat → Bool) → Bool} {X : Nat → Bool} {n k : Nat} {kk : Nat → Int32} {Sc : Nat → Nat → Prop} {a b : Nat → Nat} (hd : ∀ i j, i < j → j < k → b i ≤ a j) (hv : ∀ i, i < k → VS τ (kk i) (Sc i) (a i) (b i) ∧ hF τ (kk i) < n ∧ ∃ X', XEx τ pa T X n (kk i) (a i) (b i) X') (hs : ∀ i, i < k → ∀ x, Sc i x → x < 5000 ∧ ∀ j, j < k → ¬ (a j ≤ x ∧ x < b j)) : ∃ Xc : Nat → Bool, (∀ x, (∀ i, i < k → ¬ (a i ≤ x ∧ x < b i)) → Xc x = X x) ∧ (∀ x, X x = true → Xc x = true) ∧ (∀ i, i < k → Clo τ pa T Xc n (kk i)) ∧ (∀ i, i < k → ClV τ pa T X n (kk i) → Vis τ pa (fun x => X x = Xc x) n (kk i)) := by
  obtain ⟨X', hX'⟩ := ch_fin (fun _ => true) (P := fun i X' => XEx τ pa T X n (kk i) (a i) (b i) X') k (fun i hi => (hv i hi).2.2)
  obtain ⟨Xc, h1, h2, h3⟩ := xcomb hd (X := X) (X' := X') (fun i hi => (hX' i hi).2.1)
  refine ⟨Xc, h2, h3, fun i hi => ?_, fun i hi w => ?_⟩
  · refine Clo_cg (hv i hi).1 (fun x hx => (hs i hi x hx).1) n (hv i hi).2.1 (X := X' i) (fun x hx => ?_) (fun x x1 x2 => (h1 i hi x x1 x2).symm) (hX' i hi).2.2.1
    have h4 := (hs i hi x hx).2
    rw [h2 x h4]
    have h5 := h4 i hi
    exact (hX' i hi).1 x (by omega)
  · refine Vis_in (hv i hi).1 n (D := fun x => X x = X' i x) (fun x x1 x2 e => ?_) ((hX' i hi).2.2.2 w)
    rw [h1 i hi x x1 x2]
    exact e
