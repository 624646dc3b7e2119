/-- how many free variables there are in all -/
def ttF (F : Nat) (τ : S5) : Nat := pre (fun f => (xA τ 4 (nI f)).toNatClampNeg) F
theorem pre_at {w : Nat → Nat} : ∀ (n f : Nat), f < n → w f ≤ pre w n
  | n + 1, f, h => by
    show w f ≤ pre w n + w n
    by_cases hf : f = n
    · subst hf; omega
    · have := pre_at (w := w) n f (by omega); omega
theorem pre_up {w w2 : Nat → Nat} {f : Nat} (h1 : ∀ i, ¬ i = f → w2 i = w i) (h2 : w2 f ≤ w f + 1) : ∀ n, pre w2 n ≤ pre w n + 1 ∧ (n ≤ f → pre w2 n = pre w n)
  | 0 => ⟨by show 0 ≤ 0 + 1; omega, fun _ => rfl⟩
  | n + 1 => by
    obtain ⟨a, b⟩ := pre_up h1 h2 n
    show pre w2 n + w2 n ≤ pre w n + w n + 1 ∧ (n + 1 ≤ f → pre w2 n + w2 n = pre w n + w n)
    by_cases hf : n = f
    · subst hf
      have := b (by omega)
      exact ⟨by omega, fun _ => by omega⟩
    · rw [h1 n hf]
      exact ⟨by omega, fun h => by rw [b (by omega)]⟩
def CtF (τr : S5) (F T : Nat) (τ : S5) : Prop := FrF τr τ ∧ (∀ f, f < F → 0 ≤ xA τ 4 (nI f)) ∧ ttF F τ ≤ T
theorem CtF.le {τr τ : S5} {F T T' : Nat} (h : CtF τr F T τ) (ht : T ≤ T') : CtF τr F T' τ := ⟨h.1, h.2.1, by have := h.2.2; omega⟩
theorem af_tt {τr τ : S5} {F T g : Nat} (y : Int32) (hF : F ≤ 630) (h : CtF τr F T τ) (hg : g < F) (hT : T < 900000) : Kd (CtF τr F (T + 1)) (f_X2_addFree (nI g) y τ) := by
  obtain ⟨h1, h2, h3⟩ := h
  have hc := nI_tn (h2 g hg)
  have hcT := pre_at (w := fun f => (xA τ 4 (nI f)).toNatClampNeg) F g hg
  have hcT' : (xA τ 4 (nI g)).toNatClampNeg ≤ ttF F τ := hcT
  generalize hce : (xA τ 4 (nI g)).toNatClampNeg = c at hc hcT'
  intro r τ' e
  rcases c_addF (τ := τ) (f := g) (c := c) (y := y) (by omega) hc (by omega) with ⟨q, q1, q2, q3⟩ | ⟨q1, q2⟩
  · rw [q3] at e
    cases e
    exact ⟨h1, h2, by omega⟩
  · rw [q2] at e
    cases e
    refine ⟨h1.tr (frF_cFr τ g c y), fun f hf => ?_, ?_⟩
    · rw [cFr_4 _ _ _ _ _ (by omega) (by omega)]
      split
      · exact i_le0 (nI_nneg (by omega))
      · exact h2 f hf
    · have e1 : ttF F (cFr τ g c y) = pre (fun f => if f = g then c + 1 else (xA τ 4 (nI f)).toNatClampNeg) F := by
        unfold ttF
        refine pre_eq F (fun i hi => ?_)
        show (xA (cFr τ g c y) 4 (nI i)).toNatClampNeg = _
        rw [cFr_4 _ _ _ _ _ (by omega) (by omega)]
        by_cases hig : i = g
        · rw [if_pos hig, if_pos hig, nI_clamp (by omega)]
        · rw [if_neg hig, if_neg hig]
      have := (pre_up (w := fun f => (xA τ 4 (nI f)).toNatClampNeg) (w2 := fun f => if f = g then c + 1 else (xA τ 4 (nI f)).toNatClampNeg) (f := g) (fun i hi => if_neg hi) (by rw [if_pos rfl, hce]; omega) F).1
      rw [e1]
      unfold ttF at h3
      omega
theorem own_D {σ : S5} {k : Nat} {fs : Nat → Int32} {S : Int32} (hG : GS σ k fs S) {D : Int32 → Nat} (hD : ∀ x, 0 ≤ x → x < S → 0 ≤ xA σ 21 x → D x = D (xA σ 21 x) + 1) : ∀ (n : Nat) (x : Int32), x.toNatClampNeg < n → 0 ≤ x → x < S → D (xA σ 22 x) ≤ D x
  | 0, x, h, _, _ => absurd h (by omega)
  | n + 1, x, h, x0, x1 => by
    rcases hG.1 x x0 x1 with ⟨_, w, _⟩ | ⟨w1, w2, w3 | w3⟩
    · rw [w]; exact Nat.le_refl _
    · rw [w3]; exact Nat.le_refl _
    · have hl : (xA σ 21 x).toNatClampNeg < x.toNatClampNeg := i_lt (not_neg w1) w2
      have := own_D hG hD n (xA σ 21 x) (by omega) w1 (by grind)
      have := hD x x0 x1 w1
      rw [w3]
      omega
theorem pt_tt {σ τr ν : S5} {k U F : Nat} {fs : Nat → Int32} {S : Int32} (hE : Env σ τr ν k U F fs S) {D : Int32 → Nat} (hD : ∀ x, 0 ≤ x → x < S → 0 ≤ xA σ 21 x → D x = D (xA σ 21 x) + 1) (v1 v3 : Int32) : ∀ (n m : Nat) (o e : Int32) (τ : S5) (T : Nat), 0 ≤ o → o < S → xA σ 22 o = o → D o ≤ m → T + m < 900000 → CtF τr F T τ → Kd (CtF τr F (T + m)) (f_X2_passThrough_L18 n v1 v3 o e τ)
  | 0, _, _, _, _, _, _, _, _, _, _, _ => kd_none
  | n + 1, m, o, e, τ, T, o0, o1, o2, hm, hT, h => by
    have hE' := hE
    obtain ⟨hDN, hG, ⟨hS0, hS6⟩, hk, hF, hN, hA, -⟩ := hE'
    refine kd_ite (kd_some (h.le (by omega))) (kd_ite (kd_some (h.le (by omega))) (kd_gd ?_))
    have e21 : xA τ 21 o = xA σ 21 o := (h.1.x 21 o (by decide) (by decide)).trans (hA.2.1 o)
    by_cases hp : xA τ 21 o = -1
    · rw [if_pos hp]; exact kd_some (h.le (by omega))
    · rw [if_neg hp]
      obtain ⟨g, g1, g2⟩ := hN.1 o o0 o1 o2
      have e26 : xA τ 26 o = nI g := (h.1.x 26 o (by decide) (by decide)).trans g2
      have hpar : 0 ≤ xA σ 21 o ∧ xA σ 21 o < S := by
        rcases hG.1 o o0 o1 with ⟨w, _⟩ | w
        · rw [e21] at hp; exact absurd w hp
        · exact ⟨w.1, by have := w.2.1; grind⟩
      have d1 := hD o o0 o1 hpar.1
      have d2 := own_D hG hD ((xA σ 21 o).toNatClampNeg + 1) (xA σ 21 o) (by omega) hpar.1 hpar.2
      obtain ⟨m, rfl⟩ : ∃ m', m = m' + 1 := ⟨m - 1, by omega⟩
      rw [e26]
      refine kd_gd (kd_bd2 (af_tt _ hF h g1 (by omega)) (fun _ t q => kd_gd (kd_gd ?_)))
      have t21 : xA t 21 o = xA σ 21 o := (q.1.x 21 o (by decide) (by decide)).trans (hA.2.1 o)
      have t22 : ∀ z, xA t 22 z = xA σ 22 z := fun z => (q.1.x 22 z (by decide) (by decide)).trans (hA.2.2.1 z)
      have ho := hG.own _ hpar.1 hpar.2
      rw [t21, t22]
      have r := pt_tt hE hD v1 v3 n m _ (e + 1) t (T + 1) ho.1 ho.2.1 ho.2.2 (by omega) (by omega) q
      rw [show T + 1 + m = T + (m + 1) by omega] at r
      exact r
theorem ff_tt {σ τr ν : S5} {k U F : Nat} {fs : Nat → Int32} {S : Int32} (hE : Env σ τr ν k U F fs S) {D : Int32 → Nat} (hD : ∀ x, 0 ≤ x → x < S → D x ≤ 61 ∧ (0 ≤ xA σ 21 x → D x = D (xA σ 21 x) + 1)) (hu : ∀ v, 0 ≤ v → v < gI σ 10 → 0 ≤ xA σ 27 v ∧ xA σ 27 v < S) : ∀ (n u : Nat) (τ : S5), u ≤ U → CtF τr F (61 * u) τ → Kd (CtF τr F (61 * U)) (f_X2_findFree_L2 n (nI u) τ)
  | 0, _, _, _, _ => kd_none
  | n + 1, u, τ, hle, h => by
    have hA := hE.2.2.2.2.2.2.1
    obtain ⟨hU6, hU⟩ := hE.2.2.2.2.2.2.2.2.1
    show Kd _ (f_X2_findFree_B2 _ _ _)
    unfold f_X2_findFree_B2 f_X2_findFree_b49
    by_cases h10 : gI τ 10 ≤ nI u
    · rw [if_pos h10]; exact kd_some (h.le (by omega))
    · rw [if_neg h10]
      have e10 : gI τ 10 = nI U := by rw [h.1.1 10, hA.2.2.2.2, hU]
      have huU : u < U := by
        rcases Nat.lt_or_ge u U with w | w
        · exact w
        · exact absurd (by rw [e10]; exact (nI_le31 (by omega) (by omega)).mpr w) h10
      have v0 : 0 ≤ nI u := i_le0 (nI_nneg (by omega))
      have e27 : xA τ 27 (nI u) = xA σ 27 (nI u) := (h.1.x 27 _ (by decide) (by decide)).trans (hA.2.2.2.1 _)
      have e22 : ∀ z, xA τ 22 z = xA σ 22 z := fun z => (h.1.x 22 z (by decide) (by decide)).trans (hA.2.2.1 z)
      have hs := hu (nI u) v0 (by rw [hU]; exact (nI_lt31 (by omega) (by omega)).mpr huU)
      have ho := hE.2.1.own _ hs.1 hs.2
      rw [nI_add1]
      refine kd_gd (kd_ite (ff_tt hE hD hu n (u + 1) _ (by omega) (h.le (by omega))) (kd_gd (kd_gd (kd_bd2 (P := CtF τr F (61 * u + 61)) ?_ (fun _ t q => ff_tt hE hD hu n (u + 1) _ (by omega) (q.le (by omega)))))))
      rw [e27, e22]
      unfold f_X2_passThrough
      exact kd_gd (pt_tt hE (fun x a b c => (hD x a b).2 c) _ _ _ 61 _ _ _ _ ho.1 ho.2.1 ho.2.2 (hD _ ho.1 ho.2.1).1 (by omega) h)
theorem LF.tt {σ μ τn τr ν τf μf : S5} {k U F B : Nat} {cc fs fu fn ft : Nat → Int32} (h : LF σ μ τn τr ν τf μf k U F B cc fs fu fn ft) (hf : f_X2_findFree τr = some ((), τf)) {D : Int32 → Nat} (hD : ∀ x, 0 ≤ x → x < gI σ 9 → D x ≤ 61 ∧ (0 ≤ xA σ 21 x → D x = D (xA σ 21 x) + 1)) : ttF F τf ≤ 61 * U := by
  obtain ⟨hE, ⟨hN, hF, hF6⟩, ⟨hR, -⟩, ⟨hV, hFm⟩, hp, ⟨hU, hU6, v90, v9, v10⟩, -⟩ := h
  have hcov := hp.cov hE.2.2.1.2 v9
  have r4 : ∀ f, f < F → xA τr 4 (nI f) = 0 := fun f hf' => by
    rw [hR.x 4 (by decide)]
    exact (hN.1.2.2.2.2 f (by omega)).1
  refine (ff_tt hE hD (fun v v0 v1 => by
    obtain ⟨h, n, c, q1, q2, q3, q4, q5, q6, q7, q8, q9, q10⟩ := hcov.2.2 v v0 v1
    rw [q8]
    exact q1) FU 0 τr (by omega) ⟨FrF.rf τr, fun f hf' => by rw [r4 f hf']; exact Int32.le_refl _, ?_⟩ _ _ hf).2.2
  have : ttF F τr = 0 := by
    unfold ttF
    have e := pre_eq (w := fun f => (xA τr 4 (nI f)).toNatClampNeg) (w2 := fun _ => 0) F (fun i hi => by rw [r4 i hi]; rfl)
    rw [e]
    have z : ∀ n, pre (fun _ => 0) n = 0 := fun n => by
      induction n with
      | zero => rfl
      | succ n ih => show pre (fun _ => 0) n + 0 = 0; rw [ih]
    exact z F
  omega
