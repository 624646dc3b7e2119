theorem ll_mo {ll : Nat → Nat} {k : Nat} (h : ∀ i, i < k → ll i ≤ ll (i + 1)) : ∀ j i, i ≤ j → j ≤ k → ll i ≤ ll j
  | 0, i, h1, _ => by
    have : i = 0 := by omega
    rw [this]; exact Nat.le_refl _
  | j + 1, i, h1, h2 => by
    by_cases he : i = j + 1
    · rw [he]; exact Nat.le_refl _
    · exact Nat.le_trans (ll_mo h j i (by omega) (by omega)) (h j (by omega))
/-- the numbers of what is bound go up -/
theorem VS.le {τ : S5} {c : Int32} {Sc : Nat → Prop} {lo hi : Nat} (q : VS τ c Sc lo hi) : lo ≤ hi := by
  refine VS.ind (P := fun _ _ lo hi => lo ≤ hi) ?_ q
  clear q
  intro c Sc lo hi q
  rcases q with ⟨⟨q0, q1⟩, -, -⟩ | ⟨q1, k, cc, ll, q2, q3, ⟨q4, q4'⟩, q5, ⟨q6, q7, q8, q8'⟩, q9⟩ | ⟨q1, l, bb, ll, q2, q3, q4, q5, q6, ⟨q7, q8, q9⟩, q10, q11⟩ | ⟨q1, l, aa, ll, q2, q3, q4, q5, ⟨q6, q7, q8⟩, q9⟩
  · exact Nat.le_of_eq q0
  · have := ll_mo (fun i hi => (q9 i hi).2) k 0 (by omega) (by omega)
    omega
  · have := ll_mo (fun i hi => (q11 i hi).2) l 0 (by omega) (by omega)
    have := q10.2
    omega
  · have := ll_mo (k := l) (ll := ll) (fun i hi => by
      rcases (q9 i hi).2 with ⟨-, j, -, -, -, -, r⟩ | ⟨-, r⟩
      · have := r.2; omega
      · exact r.2) l 0 (by omega) (by omega)
    have := q5.2
    omega
/-- D along a chain -/
theorem chA_mk {τ : S5} {P : Int32 → Prop} {l : Nat} {aa : Nat → Int32} (hc : ∀ i, i < l → xA τ 17 (aa i) = if i + 1 < l then aa (i + 1) else -1) (h : ∀ i, i < l → P (aa i)) : ∀ (m i : Nat), chA τ P m (if i < l then aa i else -1)
  | 0, _ => True.intro
  | m + 1, i => by
    by_cases hi : i < l
    · rw [if_pos hi]
      refine Or.inr ⟨h i hi, ?_⟩
      rw [hc i hi]
      exact chA_mk hc h m (i + 1)
    · rw [if_neg hi]
      exact Or.inl rfl
theorem chA_mk0 {τ : S5} {P : Int32 → Prop} {l : Nat} {aa : Nat → Int32} (hl : 1 ≤ l) (hc : ∀ i, i < l → xA τ 17 (aa i) = if i + 1 < l then aa (i + 1) else -1) (h : ∀ i, i < l → P (aa i)) (m : Nat) : chA τ P m (aa 0) := by
  have := chA_mk hc h m 0
  rw [if_pos (by omega)] at this
  exact this
/-- what holds of the variables where dv looks may be changed within the numbers of the part -/
theorem Vis_in {τ : S5} {pa : Nat → Nat} {D D' : Nat → Prop} {c : Int32} {Sc : Nat → Prop} {lo hi : Nat} (q : VS τ c Sc lo hi) : ∀ n, (∀ x, lo ≤ x → x < hi → D x → D' x) → Vis τ pa D n c → Vis τ pa D' n c := by
  refine VS.ind (P := fun c _ lo hi => ∀ n, (∀ x, lo ≤ x → x < hi → D x → D' x) → Vis τ pa D n c → Vis τ pa D' n c) ?_ q
  clear q
  intro c Sc lo hi q n hD hv
  cases n with
  | zero => exact True.intro
  | succ n =>
  unfold Vis at hv ⊢
  obtain ⟨v5, v6, v7, v8⟩ := hv
  rcases q with ⟨⟨-, q1⟩, -, q2⟩ | ⟨q1, k, cc, ll, q2, q3, ⟨q4, q4'⟩, q5, ⟨q6, q7, q8, q8'⟩, q9⟩ | ⟨q1, l, bb, ll, q2, q3, q4, q5, q6, ⟨q7, q8, q9⟩, q10, q11⟩ | ⟨q1, l, aa, ll, q2, q3, q4, q5, ⟨q6, q7, q8⟩, q9⟩
  · have h5 : ¬ xA τ 13 c = 5 := fun w => by rw [w] at q1; exact absurd q1 (by decide)
    have h6 : ¬ xA τ 13 c = 6 := fun w => by rw [w] at q1; exact absurd q1 (by decide)
    have h7 : ¬ xA τ 13 c = 7 := fun w => by rw [w] at q1; exact absurd q1 (by decide)
    have h8 : ¬ xA τ 13 c = 8 := fun w => by rw [w] at q1; exact absurd q1 (by decide)
    exact ⟨fun w => absurd w h5, fun w => absurd w h6, fun w => absurd w h7, fun w => absurd w h8⟩
  · have hm := ll_mo (fun i hi => (q9 i hi).1.le)
    have hch : ∀ i, i < k → Vis τ pa D n (cc i) → Vis τ pa D' n (cc i) := fun i hi => (q9 i hi).2 n (fun x x1 x2 => hD x (by have := hm i 0 (by omega) (by omega); omega) (by have := hm k (i + 1) (by omega) (by omega); omega))
    refine ⟨fun w => ?_, fun w => ?_, fun w => ?_, fun w => ?_⟩
    · have hk := q8' w
      subst hk
      have e1 : xA τ 17 (xA τ 16 c) = cc 1 := by rw [q4]; exact (q4' 0 (by omega)).2
      obtain ⟨u1, u2⟩ := v5 w
      rw [e1] at u2 ⊢
      rw [q4] at u1 ⊢
      exact ⟨hch 0 (by omega) u1, hch 1 (by omega) u2⟩
    · rcases q1 with z | z | z <;> rw [z] at w <;> exact absurd w (by decide)
    · rcases q1 with z | z | z <;> rw [z] at w <;> exact absurd w (by decide)
    · obtain ⟨u1, u2⟩ := v8 w
      refine ⟨fun h2 hp i hip => ?_, fun h2 => ?_⟩
      · have u3 := u1 h2 hp i hip
        have h15 := q8 w
        rw [h15, nI_clamp (by omega)] at hp
        have e1 : xA τ 17 (xA τ 16 c) = cc 1 := by rw [q4, (q4' 0 (by omega)).2, if_pos (by omega)]
        have e2 : nx17 τ i (xA τ 17 (xA τ 16 c)) = cc (1 + i) := by rw [e1]; exact nx17_at (fun j hj => (q4' j hj).2) i 1 (by omega)
        rw [e2] at u3 ⊢
        exact hch _ (by omega) u3
      · have u3 := u2 h2
        rw [q4] at u3 ⊢
        exact hch 0 (by omega) u3
  · have hm := ll_mo (fun i hi => (q11 i hi).1.le)
    refine ⟨fun w => ?_, fun w => ?_, fun w => ?_, fun w => ?_⟩
    · rw [q1] at w; exact absurd w (by decide)
    · rw [q1] at w; exact absurd w (by decide)
    · obtain ⟨u1, u2⟩ := v7 w
      have hh := q10.1.le
      have h0 := hm l 0 (by omega) (by omega)
      refine ⟨q10.2 n (fun x x1 x2 => hD x (by omega) x2) u1, ?_⟩
      rw [q5] at u2 ⊢
      refine chA_mk0 q2 (fun i hi => (q6 i hi).2.2) (fun i hi => ?_) 9
      obtain ⟨z1, z2⟩ := chA_at (P := fun b => Vis τ pa D n (xA τ 16 b) ∧ D (xA τ 14 b).toNatClampNeg) (fun i hi => ⟨(q6 i hi).1.1, (q6 i hi).2.2⟩) 9 0 i (by omega) hi (by omega) u2
      have h1 := hm i 0 (by omega) (by omega)
      have h2 := hm l (i + 1) (by omega) (by omega)
      refine ⟨(q11 i hi).2 n (fun x x1 x2 => hD x (by omega) (by omega)) z1, ?_⟩
      have h4 := q4.1
      rw [(q6 i hi).2.1, nI_clamp (by omega)] at z2 ⊢
      exact hD _ (by omega) (by omega) z2
    · rw [q1] at w; exact absurd w (by decide)
  · have hm := ll_mo (k := l) (ll := ll) (fun i hi => by
      rcases (q9 i hi).2 with ⟨-, j, -, -, -, -, r⟩ | ⟨-, r⟩
      · have := r.1.le; omega
      · exact r.1.le)
    have h0 := q5.1.le
    refine ⟨fun w => ?_, fun w => ?_, fun w => ?_, fun w => ?_⟩
    · rw [q1] at w; exact absurd w (by decide)
    · obtain ⟨u1, u2⟩ := v6 w
      have hl := hm l 0 (by omega) (by omega)
      refine ⟨q5.2 n (fun x x1 x2 => hD x x1 (by omega)) u1, ?_⟩
      rw [q4] at u2 ⊢
      refine chA_mk0 q2 (fun i hi => (q9 i hi).1.2) (fun i hi => ?_) 9
      obtain ⟨z1, z2⟩ := chA_at (P := fun a => Vis τ pa D n (xA τ 16 a) ∧ (xA τ 13 a = 11 → ∀ q, q < (xA τ 2 (xA τ 14 a)).toNatClampNeg → D ((xA τ 15 a).toNatClampNeg + q))) (fun j hj => ⟨(q9 j hj).1.1.1, (q9 j hj).1.2⟩) 9 0 i (by omega) hi (by omega) u2
      have h1 := hm i 0 (by omega) (by omega)
      have h2 := hm l (i + 1) (by omega) (by omega)
      rcases (q9 i hi).2 with ⟨r5, j, r6, r7, r8, r9, r4⟩ | ⟨r5, r4⟩
      · have h3 := r4.1.le
        have h4 := r7.1
        refine ⟨r4.2 n (fun x x1 x2 => hD x (by omega) (by omega)) z1, fun w2 p hp => ?_⟩
        have z3 := z2 w2 p hp
        rw [r8, nI_clamp (by omega)] at hp
        rw [r9, nI_clamp (by omega)] at z3 ⊢
        exact hD _ (by omega) (by omega) z3
      · exact ⟨r4.2 n (fun x x1 x2 => hD x (by omega) (by omega)) z1, fun w2 => absurd w2 r5⟩
    · rw [q1] at w; exact absurd w (by decide)
    · rw [q1] at w; exact absurd w (by decide)
theorem chA_tr {τ : S5} {P : Int32 → Prop} (h : ∀ a, P a) : ∀ k a, chA τ P k a
  | 0, _ => True.intro
  | k + 1, a => Or.inr ⟨h a, chA_tr h k _⟩
theorem Vis_tr {τ : S5} {pa : Nat → Nat} {D : Nat → Prop} (h : ∀ x, D x) : ∀ n c, Vis τ pa D n c
  | 0, _ => True.intro
  | n + 1, c => by
    have ih := Vis_tr (τ := τ) (pa := pa) h n
    unfold Vis
    exact ⟨fun _ => ⟨ih _, ih _⟩, fun _ => ⟨ih _, chA_tr (fun a => ⟨ih _, fun _ _ _ => h _⟩) _ _⟩, fun _ => ⟨ih _, chA_tr (fun a => ⟨ih _, h _⟩) _ _⟩, fun _ => ⟨fun _ _ _ _ => ih _, fun _ => ih _⟩⟩
/-- dv depends on what is seen and on what is bound within -/
theorem dv_cg {τ : S5} {pa : Nat → Nat} {T : Nat → (Nat → Bool) → Bool} {X X' : Nat → Bool} {c : Int32} {Sc : Nat → Prop} {lo hi : Nat} (hS : ∀ x, Sc x → x < 5000) (q : VS τ c Sc lo hi) {n : Nat} (hn : hF τ c < n) (hx : ∀ x, Sc x → X x = X' x) (hy : ∀ x, lo ≤ x → x < hi → X x = X' x) : dv τ pa T X n c = dv τ pa T X' n c :=
  dv_vis hS q n hn hx (Vis_in q n (D := fun _ => True) (fun x x1 x2 _ => hy x x1 x2) (Vis_tr (fun _ => True.intro) n c))
