/-- depths of scopes while a text is read: they are as D says below c; here is h, o stand open -/
def DP (D : Int32 → Nat) (c h : Int32) (o : Nat) (σ : S5) : Prop := (0 ≤ c ∧ c ≤ gI σ 9 ∧ gI σ 9 ≤ 700) ∧ gI σ 14 = nI o ∧ gI σ 15 = h ∧ ∃ D' : Int32 → Nat, (∀ x, 0 ≤ x → x < c → D' x = D x) ∧ (0 < gI σ 9 → D' 0 = 1) ∧ (∀ x, 0 ≤ x → x < gI σ 9 → 1 ≤ D' x ∧ D' x ≤ 61 ∧ (0 ≤ xA σ 21 x → xA σ 21 x < x ∧ D' x = D' (xA σ 21 x) + 1))
def S1 (D : Int32 → Nat) (c h : Int32) (o j : Nat) : Prop := o + j ≤ 64 ∧ 0 ≤ h ∧ h < c ∧ D h ≤ 2 * o + 1
def S0 (D : Int32 → Nat) (c h : Int32) (o j : Nat) : Prop := o + j ≤ 64 ∧ o ≤ 30 ∧ 0 ≤ h ∧ h < c ∧ D h ≤ 2 * o
theorem S1.dn {D : Int32 → Nat} {c h : Int32} {o j : Nat} (q : S1 D c h o (j + 1)) : S1 D c h o j := ⟨by have := q.1; omega, q.2⟩
theorem S1.up {D : Int32 → Nat} {c h : Int32} {o j : Nat} (q : S1 D c h o (j + 1)) : S1 D c h (o + 1) j := ⟨by have := q.1; omega, q.2.1, q.2.2.1, by have := q.2.2.2; omega⟩
theorem S0.s1 {D : Int32 → Nat} {c h : Int32} {o j : Nat} (q : S0 D c h o j) : S1 D c h o j := ⟨q.1, q.2.2.1, q.2.2.2.1, by have := q.2.2.2.2; omega⟩
/-- what an E must keep -/
def ES (j : Nat) (E : S5 → Option (Int32 × S5)) : Prop := ∀ D c h o, S1 D c h o j → ∀ σ, DP D c h o σ → Kd (DP D c h o) (E σ)
theorem kd_bd2 {α β : Type} {P Q : S5 → Prop} {x : Option (α × S5)} {f : α → S5 → Option (β × S5)} (hx : Kd P x) (hf : ∀ r τ, P τ → Kd Q (f r τ)) : Kd Q (bd x f) := fun r τ e => by
  obtain ⟨a, t, e1, e2⟩ := bd_some e
  exact hf a t (hx a t e1) r τ e2
theorem DP_of {D : Int32 → Nat} {c h : Int32} {o : Nat} {σ τ : S5} (q : DP D c h o σ) (h9 : gI τ 9 = gI σ 9) (h14 : gI τ 14 = gI σ 14) (h15 : gI τ 15 = gI σ 15) (h21 : ∀ i, xA τ 21 i = xA σ 21 i) : DP D c h o τ := by
  obtain ⟨q1, q2, q3, D', q4, q5, q6⟩ := q
  refine ⟨by rw [h9]; exact q1, h14.trans q2, h15.trans q3, D', q4, by rw [h9]; exact q5, fun x x0 x1 => ?_⟩
  rw [h21]
  exact q6 x x0 (by rw [← h9]; exact x1)
theorem DP_pI {D : Int32 → Nat} {c h : Int32} {o : Nat} (σ : S5) (k : Nat) (v : Int32) (hk : ¬ (9 = k ∨ 14 = k ∨ 15 = k)) (q : DP D c h o σ) : DP D c h o (pI σ k v) := DP_of q (by rw [gI_pI, if_neg (by omega)]) (by rw [gI_pI, if_neg (by omega)]) (by rw [gI_pI, if_neg (by omega)]) (fun _ => rfl)
theorem DP_pJ {D : Int32 → Nat} {c h : Int32} {o : Nat} {σ : S5} {k : Nat} {v : Int64} (q : DP D c h o σ) : DP D c h o (pJ σ k v) := DP_of q rfl rfl rfl (fun _ => rfl)
theorem DP_pN {D : Int32 → Nat} {c h : Int32} {o : Nat} {σ : S5} {k v : Nat} (q : DP D c h o σ) : DP D c h o (pN σ k v) := DP_of q rfl rfl rfl (fun _ => rfl)
theorem DP_pB {D : Int32 → Nat} {c h : Int32} {o : Nat} {σ : S5} {k : Nat} {i : Int32} {v : Int64} (q : DP D c h o σ) : DP D c h o (pB σ k i v) := DP_of q rfl rfl rfl (fun _ => rfl)
theorem DP_pA {D : Int32 → Nat} {c h : Int32} {o : Nat} (σ : S5) (k : Nat) (i v : Int32) (hk : ¬ 21 = k) (q : DP D c h o σ) : DP D c h o (pA σ k i v) := DP_of q rfl rfl rfl (fun x => by rw [xA_pA, if_neg (fun w => hk w.1)])
theorem DP_op {D : Int32 → Nat} {c h : Int32} {o o' : Nat} {σ : S5} {v : Int32} (q : DP D c h o σ) (hv : v = nI o') : DP D c h o' (pI σ 14 v) := by
  obtain ⟨q1, q2, q3, D', q4, q5, q6⟩ := q
  exact ⟨q1, by rw [gI_pI, if_pos rfl]; exact hv, q3, D', q4, q5, q6⟩
theorem DP_up {D : Int32 → Nat} {c h : Int32} {o : Nat} {σ : S5} (q : DP D c h o σ) : DP D c h (o + 1) (pI σ 14 (gI σ 14 + 1)) := DP_op q (by rw [q.2.1, nI_add1])
theorem DP_cl {D : Int32 → Nat} {c h : Int32} {o : Nat} {σ : S5} (q : DP D c h (o + 1) σ) : DP D c h o (pI σ 14 (gI σ 14 - 1)) := DP_op q (by rw [q.2.1, ← nI_add1]; grind)
theorem DP_cl2 {D D2 : Int32 → Nat} {c h c2 h2 : Int32} {o : Nat} {σ τ : S5} (q : DP D c h (o + 1) σ) (q2 : DP D2 c2 h2 (o + 1) τ) : DP D c h o (pI σ 14 (gI τ 14 - 1)) := DP_op q (by rw [q2.2.1, ← nI_add1]; grind)
theorem DP_hr {D : Int32 → Nat} {c h h' : Int32} {o : Nat} {σ : S5} (q : DP D c h o σ) : DP D c h' o (pI σ 15 h') := by
  obtain ⟨q1, q2, q3, D', q4, q5, q6⟩ := q
  exact ⟨q1, q2, by rw [gI_pI, if_pos rfl], D', q4, q5, q6⟩
theorem DP_dn {D D1 : Int32 → Nat} {c c1 h : Int32} {o : Nat} {σ τ : S5} (q : DP D c h o σ) (d1 : ∀ x, 0 ≤ x → x < c → D1 x = D x) (d2 : c ≤ c1) (q1 : DP D1 c1 h o τ) : DP D c h o τ := by
  obtain ⟨⟨p1, p2, p3⟩, q2, q3, D', q4, q5, q6⟩ := q1
  refine ⟨⟨q.1.1, Int32.le_trans d2 p2, p3⟩, q2, q3, D', fun x x0 x1 => ?_, q5, q6⟩
  rw [q4 x x0 (by grind)]
  exact d1 x x0 x1
theorem op_go {D : Int32 → Nat} {c h : Int32} {o : Nat} {σ τ : S5} {r : Int32} (q : DP D c h o σ) (ho : o ≤ 64) (e : f_X5_opens σ = some (r, τ)) : (r = 0 ∧ DP D c h o τ) ∨ (¬ r = 0 ∧ o < 30 ∧ DP D c h (o + 1) τ) := by
  unfold f_X5_opens at e
  by_cases h3 : gI σ 14 < 30
  · rw [if_pos h3] at e
    cases e
    rw [q.2.1] at h3
    exact Or.inr ⟨by decide, (nI_lt31 (b := 30) (by omega) (by omega)).mp h3, DP_up q⟩
  · rw [if_neg h3] at e
    obtain ⟨_, t, e1, e2⟩ := bd_some e
    cases e2
    refine Or.inl ⟨rfl, ?_⟩
    unfold f_X5_refuse at e1
    by_cases h1 : gI σ 11 = 0
    · rw [if_pos h1] at e1
      cases e1
      exact DP_pI _ _ _ (by decide) (DP_pI _ _ _ (by decide) (DP_pI _ _ _ (by decide) q))
    · rw [if_neg h1] at e1
      cases e1
      exact q
theorem add_st {D : Int32 → Nat} {c h : Int32} {o : Nat} {σ : S5} (q : DP D c h o σ) {w : Nat} (hw : w ≤ 61) {a1 a2 x : Int32} (hp : (a1 = -1 ∧ 1 ≤ w) ∨ (0 ≤ a1 ∧ a1 < c ∧ D a1 + 1 ≤ w)) (h7 : gI σ 9 < 700) : ∃ D1 : Int32 → Nat, (∀ x, 0 ≤ x → x < c → D1 x = D x) ∧ c ≤ gI σ 9 + 1 ∧ 0 ≤ gI σ 9 + 1 - 1 ∧ gI σ 9 + 1 - 1 < gI σ 9 + 1 ∧ D1 (gI σ 9 + 1 - 1) ≤ w ∧ DP D1 (gI σ 9 + 1) h o (pI (pA (pA (pA (pA σ 20 (gI σ 9) 0) 21 (gI σ 9) a1) 24 (gI σ 9) a2) 22 (gI σ 9) x) 9 (gI σ 9 + 1)) := by
  obtain ⟨⟨p1, p2, p3⟩, q2, q3, D', q4, q5, q6⟩ := q
  have hn0 : 0 ≤ gI σ 9 := Int32.le_trans p1 p2
  have hn1 : gI σ 9 + 1 - 1 = gI σ 9 := by grind
  have hx : ∀ y, 0 ≤ y → xA (pI (pA (pA (pA (pA σ 20 (gI σ 9) 0) 21 (gI σ 9) a1) 24 (gI σ 9) a2) 22 (gI σ 9) x) 9 (gI σ 9 + 1)) 21 y = if y = gI σ 9 then a1 else xA σ 21 y := by
    intro y y0
    rw [xA_pI, xA_pA, if_neg (fun w => absurd w.1 (by decide)), xA_pA, if_neg (fun w => absurd w.1 (by decide)), xA_pA]
    by_cases hy : y = gI σ 9
    · rw [if_pos ⟨rfl, by rw [hy]⟩, if_pos hy]
    · rw [if_neg (fun w => hy ((i_inj y0 hn0).mp w.2)), if_neg hy, xA_pA, if_neg (fun w => absurd w.1 (by decide))]
  have g9 : gI (pI (pA (pA (pA (pA σ 20 (gI σ 9) 0) 21 (gI σ 9) a1) 24 (gI σ 9) a2) 22 (gI σ 9) x) 9 (gI σ 9 + 1)) 9 = gI σ 9 + 1 := by rw [gI_pI, if_pos rfl]
  have hDa : 0 ≤ a1 → a1 < gI σ 9 ∧ D' a1 = D a1 ∧ D a1 + 1 ≤ w := by
    intro ha
    rcases hp with ⟨w1, w2⟩ | ⟨w1, w2, w3⟩
    · rw [w1] at ha; exact absurd ha (by decide)
    · exact ⟨by grind, q4 a1 w1 w2, w3⟩
  generalize hD1 : (fun y : Int32 => if y = gI σ 9 then (if 0 ≤ a1 then D' a1 + 1 else 1) else D' y) = D1
  have f1 : D1 (gI σ 9) = if 0 ≤ a1 then D' a1 + 1 else 1 := by rw [← hD1]; exact if_pos rfl
  have f2 : ∀ y, ¬ y = gI σ 9 → D1 y = D' y := fun y hy => by rw [← hD1]; exact if_neg hy
  have f3 : 1 ≤ D1 (gI σ 9) ∧ D1 (gI σ 9) ≤ w := by
    rw [f1]
    by_cases ha : 0 ≤ a1
    · rw [if_pos ha]
      obtain ⟨k1, k2, k3⟩ := hDa ha
      omega
    · rw [if_neg ha]
      rcases hp with ⟨w1, w2⟩ | ⟨w1, w2, w3⟩
      · omega
      · exact absurd w1 ha
  refine ⟨D1, fun y y0 y1 => ?_, by grind, by rw [hn1]; exact hn0, by grind, by rw [hn1]; exact f3.2, ⟨by grind, by rw [g9]; exact Int32.le_refl _, by rw [g9]; grind⟩, q2, q3, D1, fun _ _ _ => rfl, fun _ => ?_, fun y y0 y1 => ?_⟩
  · rw [f2 y (by grind)]
    exact q4 y y0 y1
  · by_cases h0 : (0 : Int32) = gI σ 9
    · rw [h0, f1, if_neg]
      intro ha
      have := (hDa ha).1
      rw [← h0] at this
      grind
    · rw [f2 0 h0]
      exact q5 (by grind)
  · rw [g9] at y1
    rw [hx y y0]
    by_cases hy : y = gI σ 9
    · rw [if_pos hy, hy]
      refine ⟨f3.1, by omega, fun ha => ⟨(hDa ha).1, ?_⟩⟩
      rw [f1, if_pos ha, f2 a1 (by have := (hDa ha).1; grind)]
    · rw [if_neg hy, f2 y hy]
      obtain ⟨k1, k2, k3⟩ := q6 y y0 (by grind)
      refine ⟨k1, k2, fun ha => ⟨(k3 ha).1, ?_⟩⟩
      rw [f2 _ (by have := (k3 ha).1; grind)]
      exact (k3 ha).2
theorem add_go {D : Int32 → Nat} {c h : Int32} {o : Nat} {σ : S5} (q : DP D c h o σ) {w : Nat} (hw : w ≤ 61) {a1 a2 a3 : Int32} (hp : (a1 = -1 ∧ 1 ≤ w) ∨ (0 ≤ a1 ∧ a1 < c ∧ D a1 + 1 ≤ w)) : ∀ r τ, f_X6_add a1 a2 a3 σ = some (r, τ) → ∃ D1 : Int32 → Nat, (∀ x, 0 ≤ x → x < c → D1 x = D x) ∧ c ≤ gI τ 9 ∧ 0 ≤ r ∧ r < gI τ 9 ∧ D1 r ≤ w ∧ DP D1 (gI τ 9) h o τ := by
  intro r τ e
  unfold f_X6_add at e
  by_cases h7 : gI σ 9 < 700
  · rw [if_pos h7] at e
    have e1 := (gd_some (gd_some (gd_some e).2).2).2
    have key : ∀ x, τ = pI (pA (pA (pA (pA σ 20 (gI σ 9) 0) 21 (gI σ 9) a1) 24 (gI σ 9) a2) 22 (gI σ 9) x) 9 (gI σ 9 + 1) → r = gI σ 9 + 1 - 1 → ∃ D1 : Int32 → Nat, (∀ x, 0 ≤ x → x < c → D1 x = D x) ∧ c ≤ gI τ 9 ∧ 0 ≤ r ∧ r < gI τ 9 ∧ D1 r ≤ w ∧ DP D1 (gI τ 9) h o τ := by
      intro x ht hr
      have g9 : gI τ 9 = gI σ 9 + 1 := by rw [ht, gI_pI, if_pos rfl]
      rw [g9, hr, ht]
      exact add_st q hw hp h7
    by_cases h3 : a3 = 0
    · rw [if_pos h3] at e1
      by_cases ha : a1 = -1
      · rw [if_pos ha] at e1
        unfold f_X6_add_b59 f_X6_add_b72 at e1
        have e2 := (gd_some e1).2
        cases e2
        exact key _ rfl rfl
      · rw [if_neg ha] at e1
        unfold f_X6_add_b72 at e1
        have e2 := (gd_some (gd_some e1).2).2
        cases e2
        exact key _ rfl rfl
    · rw [if_neg h3] at e1
      unfold f_X6_add_b59 f_X6_add_b72 at e1
      have e2 := (gd_some e1).2
      cases e2
      exact key _ rfl rfl
  · rw [if_neg h7] at e
    cases e
    have hq := q
    obtain ⟨⟨p1, p2, p3⟩, q2, q3, D', q4, q5, q6⟩ := q
    have h70 : (0 : Int32) < gI σ 9 := by grind
    refine ⟨D', q4, p2, by decide, h70, ?_, ⟨by grind, Int32.le_refl _, p3⟩, q2, q3, D', fun _ _ _ => rfl, q5, q6⟩
    rw [q5 h70]
    rcases hp with ⟨_, w2⟩ | ⟨w1, w2, w3⟩
    · exact w2
    · omega
