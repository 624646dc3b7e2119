/-- the names of a scope are not the same -/
def DN (σ : S5) : Prop := ∀ s : Int32, 0 ≤ s → s < 700 → ∃ j : Nat, j ≤ 5 ∧ xA σ 20 s = nI j ∧ ∀ a b : Nat, a < b → b < j → ¬ xB σ 3 (s * 5 + nI a) = xB σ 3 (s * 5 + nI b)
/-- it ends with this, if it ends -/
def Kd {α : Type} (P : S5 → Prop) (o : Option (α × S5)) : Prop := ∀ r τ, o = some (r, τ) → P τ
theorem kd_none {α : Type} {P : S5 → Prop} : Kd (α := α) P none := fun _ _ h => by cases h
theorem kd_some {α : Type} {P : S5 → Prop} {r : α} {τ : S5} (h : P τ) : Kd P (some (r, τ)) := fun _ _ e => by cases e; exact h
theorem kd_bd {α β : Type} {P : S5 → Prop} {x : Option (α × S5)} {f : α → S5 → Option (β × S5)} (hx : Kd P x) (hf : ∀ r τ, P τ → Kd P (f r τ)) : Kd P (bd x f) := fun r τ e => by
  obtain ⟨a, t, e1, e2⟩ := bd_some e
  exact hf a t (hx a t e1) r τ e2
theorem kd_ite {α : Type} {P : S5 → Prop} {c : Prop} {_ : Decidable c} {x y : Option (α × S5)} (hx : Kd P x) (hy : Kd P y) : Kd P (if c then x else y) := by
  by_cases h : c
  · rw [if_pos h]; exact hx
  · rw [if_neg h]; exact hy
theorem kd_gd {α : Type} {P : S5 → Prop} {i : Int32} {n : Nat} {x : Option (α × S5)} (hx : Kd P x) : Kd P (gd i n x) := fun r τ e => hx r τ (gd_some e).2
theorem kd_gz {α : Type} {P : S5 → Prop} {i : Int32} {x : Option (α × S5)} (hx : Kd P x) : Kd P (gz i x) := fun r τ e => hx r τ (gz_some e).2
theorem kd_g_t {α : Type} {P : S5 → Prop} {i : Int32} {x : Option (α × S5)} (hx : Kd P x) : Kd P (g_t i x) := fun r τ e => hx r τ (g_t_some e).2
theorem kd_gs {α : Type} {P : S5 → Prop} {i n : Nat} {x : Option (α × S5)} (hx : Kd P x) : Kd P (gs i n x) := fun r τ e => hx r τ (gs_some e).2
theorem kd_gc {α : Type} {P : S5 → Prop} {i : Int32} {x : Option (α × S5)} (hx : Kd P x) : Kd P (gc i x) := fun r τ e => hx r τ (gc_some e).2
theorem kd_gq {α : Type} {P : S5 → Prop} {i n : Nat} {x : Option (α × S5)} (hx : Kd P x) : Kd P (gq i n x) := fun r τ e => hx r τ (gq_some e).2
theorem DN_of {σ τ : S5} (h : DN σ) (h1 : ∀ i, xA τ 20 i = xA σ 20 i) (h2 : ∀ i, xB τ 3 i = xB σ 3 i) : DN τ := by
  intro s h0 h7
  obtain ⟨j, a, b, c⟩ := h s h0 h7
  exact ⟨j, a, by rw [h1]; exact b, fun x y hx hy => by rw [h2, h2]; exact c x y hx hy⟩
theorem DN_pI {σ : S5} {k : Nat} {v : Int32} (h : DN σ) : DN (pI σ k v) := DN_of h (fun _ => rfl) (fun _ => rfl)
theorem DN_pJ {σ : S5} {k : Nat} {v : Int64} (h : DN σ) : DN (pJ σ k v) := DN_of h (fun _ => rfl) (fun _ => rfl)
theorem DN_pN {σ : S5} {k v : Nat} (h : DN σ) : DN (pN σ k v) := DN_of h (fun _ => rfl) (fun _ => rfl)
theorem DN_pA (σ : S5) (k : Nat) (i v : Int32) (hk : ¬ 20 = k) (h : DN σ) : DN (pA σ k i v) := DN_of h (fun x => by rw [xA_pA, if_neg (fun q => hk q.1)]) (fun _ => rfl)
theorem DN_pB (σ : S5) (k : Nat) (i : Int32) (v : Int64) (hk : ¬ 3 = k) (h : DN σ) : DN (pB σ k i v) := DN_of h (fun _ => rfl) (fun x => by rw [xB_pB, if_neg (fun q => hk q.1)])
/-- a row of no names -/
theorem DN_0 {σ : S5} {i : Int32} (h : DN σ) : DN (pA σ 20 i 0) := by
  intro s h0 h7
  by_cases hc : s.toNatClampNeg = i.toNatClampNeg
  · exact ⟨0, by omega, by rw [xA_pA, if_pos ⟨rfl, hc⟩]; rfl, fun a b _ hb => absurd hb (by omega)⟩
  · obtain ⟨j, a, b, c⟩ := h s h0 h7
    exact ⟨j, a, by rw [xA_pA, if_neg (fun q => hc q.2)]; exact b, c⟩
theorem s5_n {s : Int32} {a : Nat} (h0 : 0 ≤ s) (h1 : s < 700) (ha : a ≤ 4) : (s * 5 + nI a).toNatClampNeg = s.toNatClampNeg * 5 + a := by
  have hs := nI_tn h0
  have hl : s.toNatClampNeg < 700 := i_lt (n := 700) (fun w => by grind) h1
  generalize s.toNatClampNeg = n at hs hl ⊢
  subst hs
  rw [show nI n * 5 + nI a = nI (n * 5 + a) from by unfold nI; rw [Int32.ofNat_add, Int32.ofNat_mul]; rfl]
  exact nI_clamp (by omega)
/-- one name more, that wasn't there -/
theorem DN_nm {σ : S5} {s : Int32} {j : Nat} {z : Int64} (h : DN σ) (h0 : 0 ≤ s) (h1 : s < 700) (hj : xA σ 20 s = nI j) (hj4 : j ≤ 4) (hz : ∀ a : Nat, a < j → ¬ xB σ 3 (s * 5 + nI a) = z) : DN (pA (pB σ 3 (s * 5 + nI j) z) 20 s (nI j + 1)) := by
  intro t t0 t7
  by_cases hc : t.toNatClampNeg = s.toNatClampNeg
  · have hts : t = s := (i_inj t0 h0).mp hc
    subst hts
    obtain ⟨j', a, b, c⟩ := h t h0 h1
    have hjj : j' = j := nI_inj (by omega) (by omega) (b.symm.trans hj)
    subst hjj
    refine ⟨j' + 1, by omega, by rw [xA_pA, if_pos ⟨rfl, rfl⟩, nI_add1], ?_⟩
    intro x y hx hy
    have ex : xB (pA (pB σ 3 (t * 5 + nI j') z) 20 t (nI j' + 1)) 3 (t * 5 + nI x) = xB σ 3 (t * 5 + nI x) := by
      rw [xB_pA, xB_pB, if_neg (fun q => by have := q.2; rw [s5_n h0 h1 (by omega), s5_n h0 h1 (by omega)] at this; omega)]
    rw [ex]
    by_cases hyj : y = j'
    · subst hyj
      rw [xB_pA, xB_pB, if_pos ⟨rfl, rfl⟩]
      exact hz x (by omega)
    · rw [xB_pA, xB_pB, if_neg (fun q => by have := q.2; rw [s5_n h0 h1 (by omega), s5_n h0 h1 (by omega)] at this; omega)]
      exact c x y hx (by omega)
  · obtain ⟨j', a, b, c⟩ := h t t0 t7
    have e : ∀ x : Nat, x ≤ 4 → xB (pA (pB σ 3 (s * 5 + nI j) z) 20 s (nI j + 1)) 3 (t * 5 + nI x) = xB σ 3 (t * 5 + nI x) := by
      intro x hx
      rw [xB_pA, xB_pB, if_neg (fun q => by have := q.2; rw [s5_n h0 h1 (by omega), s5_n t0 t7 hx] at this; omega)]
    refine ⟨j', a, by rw [xA_pA, if_neg (fun q => hc q.2)]; exact b, fun x y hx hy => ?_⟩
    rw [e x (by omega), e y (by omega)]
    exact c x y hx hy
/-- where a name stands in a scope -/
theorem vin_loop {σ : S5} {s : Int32} {j : Nat} {z : Int64} (h0 : 0 ≤ s) (h1 : s < 700) (hj : xA σ 20 s = nI j) (hj5 : j ≤ 5) : ∀ (d k m : Nat), k + d = j → d < m → (∃ i : Nat, k ≤ i ∧ i < j ∧ xB σ 3 (s * 5 + nI i) = z ∧ (∀ a, k ≤ a → a < i → ¬ xB σ 3 (s * 5 + nI a) = z) ∧ f_X6_variableIn_L3 m s z (nI k) σ = some (s * 5 + nI i, σ)) ∨ ((∀ a, k ≤ a → a < j → ¬ xB σ 3 (s * 5 + nI a) = z) ∧ f_X6_variableIn_L3 m s z (nI k) σ = some (-1, σ)) := by
  intro d
  induction d with
  | zero =>
    intro k m hk hm
    obtain ⟨m, rfl⟩ : ∃ m', m = m' + 1 := ⟨m - 1, by omega⟩
    refine Or.inr ⟨fun a ha hb => absurd hb (by omega), ?_⟩
    show f_X6_variableIn_B3 _ _ _ _ _ = _
    unfold f_X6_variableIn_B3
    rw [gd700 h0 h1, hj, if_pos ((nI_le31 (by omega) (by omega)).mpr (by omega))]
  | succ d ih =>
    intro k m hk hm
    obtain ⟨m, rfl⟩ : ∃ m', m = m' + 1 := ⟨m - 1, by omega⟩
    have hc : ¬ nI j ≤ nI k := fun w => by have := (nI_le31 (by omega) (by omega)).mp w; omega
    have hrg := s5_rg (i := k) h0 h1 (by omega)
    have hB : f_X6_variableIn_L3 (m + 1) s z (nI k) σ = if lg_cmp (xB σ 3 (s * 5 + nI k)) z = 0 then some (s * 5 + nI k, σ) else f_X6_variableIn_L3 m s z (nI (k + 1)) σ := by
      show f_X6_variableIn_B3 _ _ _ _ _ = _
      unfold f_X6_variableIn_B3
      rw [gd700 h0 h1, hj, if_neg hc, gd3500 hrg.1 hrg.2, nI_add1]
    rw [hB]
    by_cases he : lg_cmp (xB σ 3 (s * 5 + nI k)) z = 0
    · rw [if_pos he]
      exact Or.inl ⟨k, Nat.le_refl _, by omega, (lg_cmp_eq _ _).mp he, fun a ha hb => absurd hb (by omega), rfl⟩
    · rw [if_neg he]
      have hne : ¬ xB σ 3 (s * 5 + nI k) = z := fun w => he ((lg_cmp_eq _ _).mpr w)
      rcases ih (k + 1) m (by omega) (by omega) with ⟨i, q1, q2, q3, q4, q5⟩ | ⟨q1, q2⟩
      · refine Or.inl ⟨i, by omega, q2, q3, fun a ha hb => ?_, q5⟩
        by_cases hak : a = k
        · rw [hak]; exact hne
        · exact q4 a (by omega) hb
      · refine Or.inr ⟨fun a ha hb => ?_, q2⟩
        by_cases hak : a = k
        · rw [hak]; exact hne
        · exact q1 a (by omega) hb
theorem vin_go {σ : S5} {s : Int32} {j : Nat} (z : Int64) (h0 : 0 ≤ s) (h1 : s < 700) (hj : xA σ 20 s = nI j) (hj5 : j ≤ 5) : (∃ i : Nat, i < j ∧ xB σ 3 (s * 5 + nI i) = z ∧ (∀ a, a < i → ¬ xB σ 3 (s * 5 + nI a) = z) ∧ f_X6_variableIn s z σ = some (s * 5 + nI i, σ)) ∨ ((∀ a, a < j → ¬ xB σ 3 (s * 5 + nI a) = z) ∧ f_X6_variableIn s z σ = some (-1, σ)) := by
  have hbig := FU_big (n := 30000) (by decide)
  rcases vin_loop (z := z) h0 h1 hj hj5 j 0 FU (by omega) (by omega) with ⟨i, _, q2, q3, q4, q5⟩ | ⟨q1, q2⟩
  · exact Or.inl ⟨i, q2, q3, fun a ha => q4 a (by omega) ha, q5⟩
  · exact Or.inr ⟨fun a ha => q1 a (by omega) ha, q2⟩
