/-- X bears all, where dv looks -/
def ClV (τ : S5) (pa : Nat → Nat) (T : Nat → (Nat → Bool) → Bool) (X : Nat → Bool) : Nat → Int32 → Prop
  | 0, _ => True
  | n + 1, c => (xA τ 13 c = 5 → ClV τ pa T X n (xA τ 16 c) ∧ ClV τ pa T X n (xA τ 17 (xA τ 16 c))) ∧ (xA τ 13 c = 6 → ClV τ pa T X n (xA τ 16 c) ∧ chA τ (fun a => ClV τ pa T X n (xA τ 16 a) ∧ (xA τ 13 a = 11 → ∀ q, q < (xA τ 2 (xA τ 14 a)).toNatClampNeg → X ((xA τ 15 a).toNatClampNeg + q) = true)) 9 (xA τ 17 (xA τ 16 c))) ∧ (xA τ 13 c = 7 → ClV τ pa T X n (xA τ 16 c) ∧ chA τ (fun b => ClV τ pa T X n (xA τ 16 b) ∧ (dv τ pa T X n (xA τ 16 b) = true → X (xA τ 14 b).toNatClampNeg = true)) 9 (xA τ 17 (xA τ 16 c))) ∧ (xA τ 13 c = 8 → (xA τ 13 (xA τ 16 c) = 2 → pa (xA τ 14 (xA τ 16 c)).toNatClampNeg ≤ (xA τ 15 c).toNatClampNeg → ∀ i, i < pa (xA τ 14 (xA τ 16 c)).toNatClampNeg → ClV τ pa T X n (nx17 τ i (xA τ 17 (xA τ 16 c)))) ∧ (¬ xA τ 13 (xA τ 16 c) = 2 → ClV τ pa T X n (xA τ 16 c)))
/-- Clo depends on what is seen and on what is bound within -/
theorem Clo_cg {τ : S5} {pa : Nat → Nat} {T : Nat → (Nat → Bool) → Bool} {X X' : Nat → Bool} {c : Int32} {Sc : Nat → Prop} {lo hi : Nat} (q : VS τ c Sc lo hi) : (∀ x, Sc x → x < 5000) → ∀ n, hF τ c < n → (∀ x, Sc x → X x = X' x) → (∀ x, lo ≤ x → x < hi → X x = X' x) → Clo τ pa T X n c → Clo τ pa T X' n c := by
  refine VS.ind (P := fun c Sc lo hi => (∀ x, Sc x → x < 5000) → ∀ n, hF τ c < n → (∀ x, Sc x → X x = X' x) → (∀ x, lo ≤ x → x < hi → X x = X' x) → Clo τ pa T X n c → Clo τ pa T X' n c) ?_ q
  clear q
  intro c Sc lo hi q hS n hn hx hD hv
  obtain ⟨n, rfl⟩ : ∃ m, n = m + 1 := ⟨n - 1, by omega⟩
  unfold Clo at hv ⊢
  obtain ⟨v5, v6, v7⟩ := hv
  rcases q with ⟨⟨-, q1⟩, -, q2⟩ | ⟨q1, k, cc, ll, q2, q3, ⟨q4, q4'⟩, q5, ⟨q6, q7, q8, q8'⟩, q9⟩ | ⟨q1, l, bb, ll, q2, q3, q4, q5, q6, ⟨q7, q8, q9⟩, q10, q11⟩ | ⟨q1, l, aa, ll, q2, q3, q4, q5, ⟨q6, q7, q8⟩, q9⟩
  · have h5 : ¬ xA τ 13 c = 5 := fun w => by rw [w] at q1; exact absurd q1 (by decide)
    have h6 : ¬ xA τ 13 c = 6 := fun w => by rw [w] at q1; exact absurd q1 (by decide)
    have h7 : ¬ xA τ 13 c = 7 := fun w => by rw [w] at q1; exact absurd q1 (by decide)
    have h8 : ¬ xA τ 13 c = 8 := fun w => by rw [w] at q1; exact absurd q1 (by decide)
    have h9 : ¬ xA τ 13 c = 9 := fun w => by rw [w] at q1; exact absurd q1 (by decide)
    exact ⟨fun w => by rcases w with w | w | w; exact absurd w h5; exact absurd w h8; exact absurd w h9, fun w => absurd w h6, fun w => absurd w h7⟩
  · have hm := ll_mo (fun i hi => (q9 i hi).1.le)
    refine ⟨fun w => ?_, fun w => ?_, fun w => ?_⟩
    · have u := v5 w
      rw [q4] at u ⊢
      refine chA_mk0 q2 (fun i hi => (q4' i hi).2) (fun i hi => ?_) 9
      have z := chA_at q4' 9 0 i (by omega) hi (by omega) u
      have h1 := hm i 0 (by omega) (by omega)
      have h2 := hm k (i + 1) (by omega) (by omega)
      have h3 := q7 i hi
      exact (q9 i hi).2 hS n (by omega) hx (fun x x1 x2 => hD x (by omega) (by omega)) z
    · rcases q1 with z | z | z <;> rw [z] at w <;> exact absurd w (by decide)
    · rcases q1 with z | z | z <;> rw [z] at w <;> exact absurd w (by decide)
  · have hm := ll_mo (fun i hi => (q11 i hi).1.le)
    refine ⟨fun w => ?_, fun w => ?_, fun w => ?_⟩
    · rcases w with w | w | w <;> rw [q1] at w <;> exact absurd w (by decide)
    · rw [q1] at w; exact absurd w (by decide)
    · obtain ⟨u1, u2⟩ := v7 w
      have hh := q10.1.le
      have h0 := hm l 0 (by omega) (by omega)
      have h4 := q4.1
      have hS' : ∀ x, Sx Sc lo l x → x < 5000 := fun x w => by
        rcases w with w | w
        · exact hS x w
        · omega
      have hx' : ∀ x, Sx Sc lo l x → X x = X' x := fun x w => by
        rcases w with w | w
        · exact hx x w
        · exact hD x (by omega) (by omega)
      refine ⟨q10.2 hS' n (by omega) hx' (fun x x1 x2 => hD x (by omega) x2) u1, ?_⟩
      rw [q5] at u2 ⊢
      refine chA_mk0 q2 (fun i hi => (q6 i hi).2.2) (fun i hi => ?_) 9
      obtain ⟨z1, z2⟩ := chA_at (P := fun b => Clo τ pa T X n (xA τ 16 b) ∧ (dv τ pa T X n (xA τ 16 b) = true → X (xA τ 14 b).toNatClampNeg = true)) (fun i hi => ⟨(q6 i hi).1.1, (q6 i hi).2.2⟩) 9 0 i (by omega) hi (by omega) u2
      have h1 := hm i 0 (by omega) (by omega)
      have h2 := hm l (i + 1) (by omega) (by omega)
      have h3 := q9 i hi
      have hDi : ∀ x, ll i ≤ x → x < ll (i + 1) → X x = X' x := fun x x1 x2 => hD x (by omega) (by omega)
      refine ⟨(q11 i hi).2 hS' n (by omega) hx' hDi z1, fun w2 => ?_⟩
      rw [← dv_cg hS' (q11 i hi).1 (by omega) hx' hDi] at w2
      have z3 := z2 w2
      rw [(q6 i hi).2.1, nI_clamp (by omega)] at z3 ⊢
      rw [← hD _ (by omega) (by omega)]
      exact z3
  · have hm := ll_mo (k := l) (ll := ll) (fun i hi => by
      rcases (q9 i hi).2 with ⟨-, j, -, -, -, -, r⟩ | ⟨-, r⟩
      · have := r.1.le; omega
      · exact r.1.le)
    have h0 := q5.1.le
    refine ⟨fun w => ?_, fun w => ?_, fun w => ?_⟩
    · rcases w with w | w | w <;> rw [q1] at w <;> exact absurd w (by decide)
    · obtain ⟨u1, u2⟩ := v6 w
      have hl := hm l 0 (by omega) (by omega)
      refine ⟨q5.2 hS n (by omega) hx (fun x x1 x2 => hD x x1 (by omega)) u1, ?_⟩
      rw [q4] at u2 ⊢
      refine chA_mk0 q2 (fun i hi => (q9 i hi).1.2) (fun i hi => ?_) 9
      obtain ⟨z1, z2⟩ := chA_at (P := fun a => Clo τ pa T X n (xA τ 16 a) ∧ (xA τ 13 a = 11 → ∀ q, q < (xA τ 2 (xA τ 14 a)).toNatClampNeg → X ((xA τ 15 a).toNatClampNeg + q) = true)) (fun j hj => ⟨(q9 j hj).1.1.1, (q9 j hj).1.2⟩) 9 0 i (by omega) hi (by omega) u2
      have h1 := hm i 0 (by omega) (by omega)
      have h2 := hm l (i + 1) (by omega) (by omega)
      have h3 := q8 i hi
      rcases (q9 i hi).2 with ⟨r5, j, r6, r7, r8, r9, r4⟩ | ⟨r5, r4⟩
      · have h3 := r4.1.le
        have h4 := r7.1
        refine ⟨r4.2 (fun x w => ?_) n (by omega) (fun x w => ?_) (fun x x1 x2 => hD x (by omega) (by omega)) z1, fun w2 p hp => ?_⟩
        · rcases w with w | w
          · exact hS x w
          · omega
        · rcases w with w | w
          · exact hx x w
          · exact hD x (by omega) (by omega)
        · have z3 := z2 w2 p hp
          rw [r8, nI_clamp (by omega)] at hp
          rw [r9, nI_clamp (by omega)] at z3 ⊢
          rw [← hD _ (by omega) (by omega)]
          exact z3
      · exact ⟨r4.2 hS n (by omega) hx (fun x x1 x2 => hD x (by omega) (by omega)) z1, fun w2 => absurd w2 r5⟩
    · rw [q1] at w; exact absurd w (by decide)
/-- where all is true, all is borne -/
theorem Clo_tr {τ : S5} {pa : Nat → Nat} {T : Nat → (Nat → Bool) → Bool} {X : Nat → Bool} {c : Int32} {Sc : Nat → Prop} {lo hi : Nat} (q : VS τ c Sc lo hi) : ∀ n, (∀ x, lo ≤ x → x < hi → X x = true) → Clo τ pa T X n c := by
  refine VS.ind (P := fun c Sc lo hi => ∀ n, (∀ x, lo ≤ x → x < hi → X x = true) → Clo τ pa T X n c) ?_ q
  clear q
  intro c Sc lo hi q n hD
  cases n with
  | zero => exact True.intro
  | succ n =>
  unfold Clo
  rcases q with ⟨⟨-, q1⟩, -, q2⟩ | ⟨q1, k, cc, ll, q2, q3, ⟨q4, q4'⟩, q5, ⟨q6, q7, q8, q8'⟩, q9⟩ | ⟨q1, l, bb, ll, q2, q3, q4, q5, q6, ⟨q7, q8, q9⟩, q10, q11⟩ | ⟨q1, l, aa, ll, q2, q3, q4, q5, ⟨q6, q7, q8⟩, q9⟩
  · have h5 : ¬ xA τ 13 c = 5 := fun w => by rw [w] at q1; exact absurd q1 (by decide)
    have h6 : ¬ xA τ 13 c = 6 := fun w => by rw [w] at q1; exact absurd q1 (by decide)
    have h7 : ¬ xA τ 13 c = 7 := fun w => by rw [w] at q1; exact absurd q1 (by decide)
    have h8 : ¬ xA τ 13 c = 8 := fun w => by rw [w] at q1; exact absurd q1 (by decide)
    have h9 : ¬ xA τ 13 c = 9 := fun w => by rw [w] at q1; exact absurd q1 (by decide)
    exact ⟨fun w => by rcases w with w | w | w; exact absurd w h5; exact absurd w h8; exact absurd w h9, fun w => absurd w h6, fun w => absurd w h7⟩
  · have hm := ll_mo (fun i hi => (q9 i hi).1.le)
    refine ⟨fun w => ?_, fun w => ?_, fun w => ?_⟩
    · rw [q4]
      refine chA_mk0 q2 (fun i hi => (q4' i hi).2) (fun i hi => ?_) 9
      have h1 := hm i 0 (by omega) (by omega)
      have h2 := hm k (i + 1) (by omega) (by omega)
      exact (q9 i hi).2 n (fun x x1 x2 => hD x (by omega) (by omega))
    · rcases q1 with z | z | z <;> rw [z] at w <;> exact absurd w (by decide)
    · rcases q1 with z | z | z <;> rw [z] at w <;> exact absurd w (by decide)
  · have hm := ll_mo (fun i hi => (q11 i hi).1.le)
    refine ⟨fun w => ?_, fun w => ?_, fun w => ?_⟩
    · rcases w with w | w | w <;> rw [q1] at w <;> exact absurd w (by decide)
    · rw [q1] at w; exact absurd w (by decide)
    · have hh := q10.1.le
      have h0 := hm l 0 (by omega) (by omega)
      have h4 := q4.1
      refine ⟨q10.2 n (fun x x1 x2 => hD x (by omega) x2), ?_⟩
      rw [q5]
      refine chA_mk0 q2 (fun i hi => (q6 i hi).2.2) (fun i hi => ?_) 9
      have h1 := hm i 0 (by omega) (by omega)
      have h2 := hm l (i + 1) (by omega) (by omega)
      refine ⟨(q11 i hi).2 n (fun x x1 x2 => hD x (by omega) (by omega)), fun w2 => ?_⟩
      rw [(q6 i hi).2.1, nI_clamp (by omega)]
      exact hD _ (by omega) (by omega)
  · have hm := ll_mo (k := l) (ll := ll) (fun i hi => by
      rcases (q9 i hi).2 with ⟨-, j, -, -, -, -, r⟩ | ⟨-, r⟩
      · have := r.1.le; omega
      · exact r.1.le)
    have h0 := q5.1.le
    refine ⟨fun w => ?_, fun w => ?_, fun w => ?_⟩
    · rcases w with w | w | w <;> rw [q1] at w <;> exact absurd w (by decide)
    · have hl := hm l 0 (by omega) (by omega)
      refine ⟨q5.2 n (fun x x1 x2 => hD x x1 (by omega)), ?_⟩
      rw [q4]
      refine chA_mk0 q2 (fun i hi => (q9 i hi).1.2) (fun i hi => ?_) 9
      have h1 := hm i 0 (by omega) (by omega)
      have h2 := hm l (i + 1) (by omega) (by omega)
      rcases (q9 i hi).2 with ⟨r5, j, r6, r7, r8, r9, r4⟩ | ⟨r5, r4⟩
      · have h3 := r4.1.le
        have h4 := r7.1
        refine ⟨r4.2 n (fun x x1 x2 => hD x (by omega) (by omega)), fun w2 p hp => ?_⟩
        rw [r8, nI_clamp (by omega)] at hp
        rw [r9, nI_clamp (by omega)]
        exact hD _ (by omega) (by omega)
      · exact ⟨r4.2 n (fun x x1 x2 => hD x (by omega) (by omega)), fun w2 => absurd w2 r5⟩
    · rw [q1] at w; exact absurd w (by decide)
