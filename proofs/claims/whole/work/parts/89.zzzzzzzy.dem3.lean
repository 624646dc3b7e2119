/-- along a chain -/
def chA (τ : S5) (P : Int32 → Prop) : Nat → Int32 → Prop
  | 0, _ => True
  | k + 1, a => a = -1 ∨ (P a ∧ chA τ P k (xA τ 17 a))
theorem chA_at {τ : S5} {P : Int32 → Prop} {l : Nat} {aa : Nat → Int32} (hc : ∀ i, i < l → 0 ≤ aa i ∧ xA τ 17 (aa i) = if i + 1 < l then aa (i + 1) else -1) : ∀ (m i j : Nat), i ≤ j → j < l → j < i + m → chA τ P m (aa i) → P (aa j)
  | 0, i, j, h1, h2, h3, _ => absurd h3 (by omega)
  | m + 1, i, j, h1, h2, h3, w => by
    obtain ⟨c1, c2⟩ := hc i (by omega)
    rcases w with w | ⟨w1, w2⟩
    · exact absurd w (i_nm c1)
    · by_cases hij : i = j
      · rw [← hij]; exact w1
      · rw [c2, if_pos (by omega)] at w2
        exact chA_at hc m (i + 1) j (by omega) h2 (by omega) w2
/-- D holds of every variable that is bound where dv looks -/
def Vis (τ : S5) (pa : Nat → Nat) (D : Nat → Prop) : Nat → Int32 → Prop
  | 0, _ => True
  | n + 1, c => (xA τ 13 c = 5 → Vis τ pa D n (xA τ 16 c) ∧ Vis τ pa D n (xA τ 17 (xA τ 16 c))) ∧ (xA τ 13 c = 6 → Vis τ pa D n (xA τ 16 c) ∧ chA τ (fun a => Vis τ pa D n (xA τ 16 a) ∧ (xA τ 13 a = 11 → ∀ q, q < (xA τ 2 (xA τ 14 a)).toNatClampNeg → D ((xA τ 15 a).toNatClampNeg + q))) 9 (xA τ 17 (xA τ 16 c))) ∧ (xA τ 13 c = 7 → Vis τ pa D n (xA τ 16 c) ∧ chA τ (fun b => Vis τ pa D n (xA τ 16 b) ∧ D (xA τ 14 b).toNatClampNeg) 9 (xA τ 17 (xA τ 16 c))) ∧ (xA τ 13 c = 8 → (xA τ 13 (xA τ 16 c) = 2 → pa (xA τ 14 (xA τ 16 c)).toNatClampNeg ≤ (xA τ 15 c).toNatClampNeg → ∀ i, i < pa (xA τ 14 (xA τ 16 c)).toNatClampNeg → Vis τ pa D n (nx17 τ i (xA τ 17 (xA τ 16 c)))) ∧ (¬ xA τ 13 (xA τ 16 c) = 2 → Vis τ pa D n (xA τ 16 c)))
/-- dv depends on what is seen, and on what is bound where it looks -/
theorem dv_vis {τ : S5} {pa : Nat → Nat} {T : Nat → (Nat → Bool) → Bool} {X X' : Nat → Bool} {c : Int32} {Sc : Nat → Prop} {lo hi : Nat} (hS : ∀ x, Sc x → x < 5000) (q : VS τ c Sc lo hi) : ∀ n, hF τ c < n → (∀ x, Sc x → X x = X' x) → Vis τ pa (fun x => X x = X' x) n c → dv τ pa T X n c = dv τ pa T X' n c := by
  revert hS
  refine VS.ind (P := fun c Sc _ _ => (∀ x, Sc x → x < 5000) → ∀ n, hF τ c < n → (∀ x, Sc x → X x = X' x) → Vis τ pa (fun x => X x = X' x) n c → dv τ pa T X n c = dv τ pa T X' n c) ?_ q
  clear q
  intro c Sc lo hi q hS n hn hx hv
  obtain ⟨n, rfl⟩ : ∃ m, n = m + 1 := ⟨n - 1, by omega⟩
  unfold Vis at hv
  obtain ⟨v5, v6, v7, v8⟩ := hv
  unfold dv
  rcases q with ⟨⟨-, q1⟩, -, q2⟩ | ⟨q1, k, cc, ll, q2, q3, ⟨q4, q4'⟩, q5, ⟨q6, q7, q8, q8'⟩, q9⟩ | ⟨q1, l, bb, ll, q2, q3, q4, q5, q6, ⟨q7, q8, q9⟩, q10, q11⟩ | ⟨q1, l, aa, ll, q2, q3, q4, q5, ⟨q6, q7, q8⟩, q9⟩
  · have h5 : ¬ xA τ 13 c = 5 := fun w => by rw [w] at q1; exact absurd q1 (by decide)
    have h6 : ¬ xA τ 13 c = 6 := fun w => by rw [w] at q1; exact absurd q1 (by decide)
    have h7 : ¬ xA τ 13 c = 7 := fun w => by rw [w] at q1; exact absurd q1 (by decide)
    have h8 : ¬ xA τ 13 c = 8 := fun w => by rw [w] at q1; exact absurd q1 (by decide)
    rw [if_neg h5, if_neg h6, if_neg h7, if_neg h8, if_neg h5, if_neg h6, if_neg h7, if_neg h8]
    by_cases h3 : xA τ 13 c = 3
    · obtain ⟨x, x1, x2⟩ := q2 h3
      have h4 := hS x x2
      rw [x1, nI_clamp (by omega), hx x x2]
    · rw [if_neg h3, if_neg h3]
  · rcases q1 with w | w | w
    · have hk := q8' w
      subst hk
      obtain ⟨u1, u2⟩ := v5 w
      have e1 : xA τ 17 (xA τ 16 c) = cc 1 := by rw [q4]; exact (q4' 0 (by omega)).2
      have h0 := q7 0 (by omega)
      have h1 := q7 1 (by omega)
      rw [e1] at u2
      rw [q4] at u1
      rw [w]
      show (dv τ pa T X n (xA τ 16 c) && dv τ pa T X n (xA τ 17 (xA τ 16 c))) = (dv τ pa T X' n (xA τ 16 c) && dv τ pa T X' n (xA τ 17 (xA τ 16 c)))
      rw [e1, q4, (q9 0 (by omega)).2 hS n (by omega) hx u1, (q9 1 (by omega)).2 hS n (by omega) hx u2]
    · obtain ⟨u1, u2⟩ := v8 w
      rw [w]
      show (if xA τ 13 (xA τ 16 c) = 2 then (if pa (xA τ 14 (xA τ 16 c)).toNatClampNeg ≤ (xA τ 15 c).toNatClampNeg then T (xA τ 14 (xA τ 16 c)).toNatClampNeg (fun i => decide (i < pa (xA τ 14 (xA τ 16 c)).toNatClampNeg) && dv τ pa T X n (nx17 τ i (xA τ 17 (xA τ 16 c)))) else true) else dv τ pa T X n (xA τ 16 c)) = (if xA τ 13 (xA τ 16 c) = 2 then (if pa (xA τ 14 (xA τ 16 c)).toNatClampNeg ≤ (xA τ 15 c).toNatClampNeg then T (xA τ 14 (xA τ 16 c)).toNatClampNeg (fun i => decide (i < pa (xA τ 14 (xA τ 16 c)).toNatClampNeg) && dv τ pa T X' n (nx17 τ i (xA τ 17 (xA τ 16 c)))) else true) else dv τ pa T X' n (xA τ 16 c))
      by_cases h2 : xA τ 13 (xA τ 16 c) = 2
      · rw [if_pos h2, if_pos h2]
        by_cases hp : pa (xA τ 14 (xA τ 16 c)).toNatClampNeg ≤ (xA τ 15 c).toNatClampNeg
        · rw [if_pos hp, if_pos hp]
          have u3 := u1 h2 hp
          congr 1
          funext i
          by_cases hip : i < pa (xA τ 14 (xA τ 16 c)).toNatClampNeg
          · have u4 := u3 i hip
            have h15 := q8 w
            rw [h15, nI_clamp (by omega)] at hp
            have e1 : xA τ 17 (xA τ 16 c) = cc 1 := by rw [q4, (q4' 0 (by omega)).2, if_pos (by omega)]
            have e2 : nx17 τ i (xA τ 17 (xA τ 16 c)) = cc (1 + i) := by rw [e1]; exact nx17_at (fun j hj => (q4' j hj).2) i 1 (by omega)
            rw [e2] at u4 ⊢
            have h1 := q7 (1 + i) (by omega)
            rw [(q9 (1 + i) (by omega)).2 hS n (by omega) hx u4]
          · rw [decide_eq_false hip]
            rfl
        · rw [if_neg hp, if_neg hp]
      · rw [if_neg h2, if_neg h2]
        have u3 := u2 h2
        have h0 := q7 0 (by omega)
        rw [q4] at u3 ⊢
        exact (q9 0 (by omega)).2 hS n (by omega) hx u3
    · rw [w]; rfl
  · obtain ⟨u1, u2⟩ := v7 q1
    rw [q5] at u2
    rw [q1]
    show dv τ pa T X n (xA τ 16 c) = dv τ pa T X' n (xA τ 16 c)
    refine q10.2 (fun x hxx => ?_) n (by omega) (fun x hxx => ?_) u1
    · rcases hxx with w | w
      · exact hS x w
      · have := q4.1; omega
    · rcases hxx with w | ⟨w1, w2⟩
      · exact hx x w
      · have h1 := (chA_at (P := fun b => Vis τ pa (fun x => X x = X' x) n (xA τ 16 b) ∧ X (xA τ 14 b).toNatClampNeg = X' (xA τ 14 b).toNatClampNeg) (fun i hi => ⟨(q6 i hi).1.1, (q6 i hi).2.2⟩) 9 0 (x - lo) (by omega) (by omega) (by omega) u2).2
        have e := (q6 (x - lo) (by omega)).2.1
        rw [e, nI_clamp (by omega), show lo + (x - lo) = x by omega] at h1
        exact h1
  · obtain ⟨u1, u2⟩ := v6 q1
    rw [q4] at u2
    rw [q1]
    show (dv τ pa T X n (xA τ 16 c) && orA τ (dv τ pa T X n) 9 (xA τ 17 (xA τ 16 c))) = (dv τ pa T X' n (xA τ 16 c) && orA τ (dv τ pa T X' n) 9 (xA τ 17 (xA τ 16 c)))
    have e := orA_cg (τ := τ) (v := dv τ pa T X n) (v' := dv τ pa T X' n) (l := l) (aa := aa) (fun i hi => by
      obtain ⟨⟨r1, r2⟩, r3⟩ := q9 i hi
      have h1 := q8 i hi
      obtain ⟨z1, z2⟩ := chA_at (P := fun a => Vis τ pa (fun x => X x = X' x) n (xA τ 16 a) ∧ (xA τ 13 a = 11 → ∀ q, q < (xA τ 2 (xA τ 14 a)).toNatClampNeg → X ((xA τ 15 a).toNatClampNeg + q) = X' ((xA τ 15 a).toNatClampNeg + q))) (fun j hj => ⟨(q9 j hj).1.1.1, (q9 j hj).1.2⟩) 9 0 i (by omega) hi (by omega) u2
      refine ⟨i_nm r1.1, r2, ?_⟩
      rcases r3 with ⟨r5, j, r6, r7, r8, r9, r4⟩ | ⟨-, r4⟩
      · refine r4.2 (fun x hxx => ?_) n (by omega) (fun x hxx => ?_) z1
        · rcases hxx with w | w
          · exact hS x w
          · have := r7.1; omega
        · rcases hxx with w | ⟨w1, w2⟩
          · exact hx x w
          · have h2 := r7.1
            have h3 := z2 r5 (x - ll i) (by rw [r8, nI_clamp (by omega)]; omega)
            rw [r9, nI_clamp (by omega), show ll i + (x - ll i) = x by omega] at h3
            exact h3
      · exact r4.2 hS n (by omega) hx z1) 9 0 (by omega)
    rw [if_pos (by omega), ← q4] at e
    rw [q5.2 hS n (by omega) hx u1, e]
