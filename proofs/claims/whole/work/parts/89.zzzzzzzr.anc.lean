/-- s is the scope h, or one around it -/
def An (σ : S5) (h s : Int32) : Prop := ∃ m, Ich σ m h s
theorem An.rf (σ : S5) (h : Int32) : An σ h h := ⟨1, Or.inl rfl⟩
theorem An.up {σ : S5} {h s : Int32} (h0 : 0 ≤ h) (q : An σ (xA σ 21 h) s) : An σ h s := by
  obtain ⟨m, w⟩ := q
  exact ⟨m + 1, Or.inr ⟨h0, w⟩⟩
theorem An.pr {σ : S5} {h s : Int32} (q : An σ h s) : h = s ∨ (0 ≤ h ∧ An σ (xA σ 21 h) s) := by
  obtain ⟨m, w⟩ := q
  cases m with
  | zero => exact absurd w (fun z => z)
  | succ m =>
    rcases w with w | ⟨w1, w2⟩
    · exact Or.inl w
    · exact Or.inr ⟨w1, m, w2⟩
/-- a scope around, of another function, is around the function -/
theorem An.out {σ : S5} {k : Nat} {fs : Nat → Int32} {S : Int32} (hG : GS σ k fs S) {s : Int32} : ∀ (m : Nat) (h : Int32), Ich σ m h s → 0 ≤ h → h < S → ¬ xA σ 22 h = xA σ 22 s → ¬ s = -1 → An σ (xA σ 21 (xA σ 22 h)) s
  | 0, _, w, _, _, _, _ => absurd w (fun z => z)
  | m + 1, h, w, h0, h1, hne, hs => by
    rcases w with w | ⟨w1, w2⟩
    · rw [w] at hne; exact absurd rfl hne
    · rcases hG.1 h h0 h1 with ⟨e1, e2, -⟩ | ⟨e1, e2, e3⟩
      · rw [e2]
        exact ⟨m, w2⟩
      · rcases e3 with e3 | e3
        · rw [e3]
          exact ⟨m, w2⟩
        · rw [e3] at hne ⊢
          exact An.out hG m (xA σ 21 h) w2 e1 (i_lt_le (i_lt_le e2 (Int32.le_refl _)) (i_le_of_lt h1)) hne hs
/-- all free variables are such as Q says -/
def EQv (Q : Nat → Int32 → Prop) (τr : S5) (F T : Nat) (τ : S5) : Prop := CtF τr F T τ ∧ ∀ g p c, g < F → p < 8 → xA τ 4 (nI g) = nI c → c < 1000000 → p < c → Q g (xA τ 5 (nI (g * 8 + p)))
theorem EQv.le {Q : Nat → Int32 → Prop} {τr τ : S5} {F T T' : Nat} (h : EQv Q τr F T τ) (ht : T ≤ T') : EQv Q τr F T' τ := ⟨h.1.le ht, h.2⟩
theorem af_eqv {Q : Nat → Int32 → Prop} {τr τ : S5} {F T g : Nat} {y : Int32} (hy : Q g y) (hF : F ≤ 630) (h : EQv Q τr F T τ) (hg : g < F) (hT : T < 900000) : Kd (EQv Q τr F (T + 1)) (f_X2_addFree (nI g) y τ) := by
  intro r τ' e
  refine ⟨af_tt y hF h.1 hg hT r τ' e, ?_⟩
  obtain ⟨h1, h2, h3⟩ := h.1
  have hc := nI_tn (h2 g hg)
  have hcT : (xA τ 4 (nI g)).toNatClampNeg ≤ ttF F τ := pre_at (w := fun f => (xA τ 4 (nI f)).toNatClampNeg) F g hg
  obtain ⟨τ1, b1, b2, b3, b4, b5, b6⟩ := mm_add (y := y) (f := g) (by omega) hc (by omega)
  rw [b1] at e
  cases e
  intro g' p c'' a1 a2 a3 a4 a5
  rcases b6 g' p c'' (by omega) a2 a3 a4 a5 with ⟨k1, k2, k3⟩ | ⟨k1, k2⟩
  · rw [k1]
    by_cases hgg : g' = g
    · subst hgg
      exact h.2 g' p _ a1 a2 hc (by omega) (k2 rfl)
    · exact h.2 g' p c'' a1 a2 (k3 hgg) a4 a5
  · rw [k2, k1]; exact hy
/-- a free variable's scope is around the function -/
def Qa (σ τr : S5) (S : Int32) (g : Nat) (y : Int32) : Prop := ∀ o, 0 ≤ o → o < S → xA σ 22 o = o → xA τr 26 o = nI g → An σ (xA σ 21 o) (y / 5)
theorem pt_an {σ τr ν : S5} {k U F : Nat} {fs : Nat → Int32} {S : Int32} (hE : Env σ τr ν k U F fs S) {D : Int32 → Nat} (hD : ∀ x, 0 ≤ x → x < S → 0 ≤ xA σ 21 x → D x = D (xA σ 21 x) + 1) {v1 : Int32} (hs0 : 0 ≤ v1 / 5) : ∀ (n m : Nat) (o e : Int32) (τ : S5) (T : Nat), 0 ≤ o → o < S → xA σ 22 o = o → (∃ h, 0 ≤ h ∧ h < S ∧ xA σ 22 h = o ∧ An σ h (v1 / 5)) → D o ≤ m → T + m < 900000 → EQv (Qa σ τr S) τr F T τ → Kd (EQv (Qa σ τr S) τr F (T + m)) (f_X2_passThrough_L18 n v1 (xA σ 22 (v1 / 5)) o e τ)
  | 0, _, _, _, _, _, _, _, _, _, _, _, _ => kd_none
  | n + 1, m, o, e, τ, T, o0, o1, o2, hh, hm, hT, h => by
    have hE' := hE
    obtain ⟨hDN, hG, ⟨hS0, hS6⟩, hk, hF, hN, hA, -⟩ := hE'
    refine kd_ite (kd_some (h.le (by omega))) (kd_ite2 (fun _ => kd_some (h.le (by omega))) (fun hov => kd_gd ?_))
    have e21 : xA τ 21 o = xA σ 21 o := (h.1.1.x 21 o (by decide) (by decide)).trans (hA.2.1 o)
    by_cases hp : xA τ 21 o = -1
    · rw [if_pos hp]; exact kd_some (h.le (by omega))
    · rw [if_neg hp]
      obtain ⟨g, g1, g2⟩ := hN.1 o o0 o1 o2
      have e26 : xA τ 26 o = nI g := (h.1.1.x 26 o (by decide) (by decide)).trans g2
      have hpar : 0 ≤ xA σ 21 o ∧ xA σ 21 o < S := by
        rcases hG.1 o o0 o1 with ⟨w, _⟩ | w
        · rw [e21] at hp; exact absurd w hp
        · exact ⟨w.1, by have := w.2.1; grind⟩
      have han : An σ (xA σ 21 o) (v1 / 5) := by
        obtain ⟨x, x0, x1, x2, m', x3⟩ := hh
        have := An.out hG m' x x3 x0 x1 (by rw [x2]; exact hov) (fun w => by rw [w] at hs0; exact absurd hs0 (by decide))
        rw [x2] at this
        exact this
      have hq : Qa σ τr S g v1 := fun o' a b c d => by
        have : o' = o := hN.2 _ _ a b c o0 o1 o2 (by rw [d, g2])
        rw [this]
        exact han
      have d1 := hD o o0 o1 hpar.1
      have d2 := own_D hG hD ((xA σ 21 o).toNatClampNeg + 1) (xA σ 21 o) (by omega) hpar.1 hpar.2
      obtain ⟨m, rfl⟩ : ∃ m', m = m' + 1 := ⟨m - 1, by omega⟩
      rw [e26]
      refine kd_gd (kd_bd2 (af_eqv hq hF h g1 (by omega)) (fun _ t q => kd_gd (kd_gd ?_)))
      have t21 : xA t 21 o = xA σ 21 o := (q.1.1.x 21 o (by decide) (by decide)).trans (hA.2.1 o)
      have t22 : ∀ z, xA t 22 z = xA σ 22 z := fun z => (q.1.1.x 22 z (by decide) (by decide)).trans (hA.2.2.1 z)
      have ho := hG.own _ hpar.1 hpar.2
      rw [t21, t22]
      have r := pt_an hE hD hs0 n m _ (e + 1) t (T + 1) ho.1 ho.2.1 ho.2.2 ⟨xA σ 21 o, hpar.1, hpar.2, rfl, han⟩ (by omega) (by omega) q
      rw [show T + 1 + m = T + (m + 1) by omega] at r
      exact r
/-- what a use means lies around it -/
theorem tg_an {σ τr ν : S5} {k U F : Nat} {fs : Nat → Int32} {S : Int32} (hE : Env σ τr ν k U F fs S) {u : Nat} (hs : 0 ≤ xA σ 27 (nI u) ∧ xA σ 27 (nI u) < S) (hpos : 0 ≤ tg σ k u) : An σ (xA σ 27 (nI u)) (tg σ k u / 5) ∧ 0 ≤ tg σ k u / 5 ∧ tg σ k u / 5 < S := by
  obtain ⟨hDN, hG, ⟨hS0, hS6⟩, hk, hF, hN, hA, -⟩ := hE
  obtain ⟨t1, t2⟩ := tg_pos hk hpos
  have hl : (xA σ 27 (nI u)).toNatClampNeg < 630 := i_lt (n := 630) (not_neg hs.1) (by grind)
  rcases fd_ich hDN hS6 (fun x x0 x1 => by
    rcases hG.1 x x0 x1 with ⟨w, _⟩ | w
    · exact Or.inl w
    · exact Or.inr ⟨w.1, w.2.1⟩) (xB σ 4 (nI u)) 701 (xA σ 27 (nI u)) (Or.inr ⟨hs.1, hs.2, by omega⟩) with w | ⟨s, i, j, m', k1, k2, k3, k4, k5, k6, k7⟩
  · rw [← t1] at w; exact absurd w t2
  · rw [← t1] at k5
    have ed := div5 (i := i) k1.1 (by grind) (by omega)
    rw [k5, ed]
    exact ⟨⟨m', k7⟩, k1⟩
theorem ff_an {σ τr ν : S5} {k U F : Nat} {fs : Nat → Int32} {S : Int32} (hE : Env σ τr ν k U F fs S) {D : Int32 → Nat} (hD : ∀ x, 0 ≤ x → x < S → D x ≤ 61 ∧ (0 ≤ xA σ 21 x → D x = D (xA σ 21 x) + 1)) (hu : ∀ v, 0 ≤ v → v < gI σ 10 → 0 ≤ xA σ 27 v ∧ xA σ 27 v < S) : ∀ (n u : Nat) (τ : S5), u ≤ U → EQv (Qa σ τr S) τr F (61 * u) τ → Kd (EQv (Qa σ τr S) τr F (61 * U)) (f_X2_findFree_L2 n (nI u) τ)
  | 0, _, _, _, _ => kd_none
  | n + 1, u, τ, hle, h => by
    have hA := hE.2.2.2.2.2.2.1
    have h30 := hE.2.2.2.2.2.2.2.1
    obtain ⟨hU6, hU⟩ := hE.2.2.2.2.2.2.2.2.1
    show Kd _ (f_X2_findFree_B2 _ _ _)
    unfold f_X2_findFree_B2 f_X2_findFree_b49
    by_cases h10 : gI τ 10 ≤ nI u
    · rw [if_pos h10]; exact kd_some (h.le (by omega))
    · rw [if_neg h10]
      have e10 : gI τ 10 = nI U := by rw [h.1.1.1 10, hA.2.2.2.2, hU]
      have huU : u < U := by
        rcases Nat.lt_or_ge u U with w | w
        · exact w
        · exact absurd (by rw [e10]; exact (nI_le31 (by omega) (by omega)).mpr w) h10
      have v0 : 0 ≤ nI u := i_le0 (nI_nneg (by omega))
      have e27 : xA τ 27 (nI u) = xA σ 27 (nI u) := (h.1.1.x 27 _ (by decide) (by decide)).trans (hA.2.2.2.1 _)
      have e30 : xA τ 30 (nI u) = tg σ k u := (h.1.1.x 30 _ (by decide) (by decide)).trans (h30 u huU)
      have e22 : ∀ z, xA τ 22 z = xA σ 22 z := fun z => (h.1.1.x 22 z (by decide) (by decide)).trans (hA.2.2.1 z)
      have hs := hu (nI u) v0 (by rw [hU]; exact (nI_lt31 (by omega) (by omega)).mpr huU)
      have ho := hE.2.1.own _ hs.1 hs.2
      rw [nI_add1, e30]
      refine kd_gd (kd_ite2 (fun _ => ff_an hE hD hu n (u + 1) _ (by omega) (h.le (by omega))) (fun hneg => kd_gd (kd_gd (kd_bd2 (P := EQv (Qa σ τr S) τr F (61 * u + 61)) ?_ (fun _ t q => ff_an hE hD hu n (u + 1) _ (by omega) (q.le (by omega)))))))
      rw [e27, e22]
      unfold f_X2_passThrough
      obtain ⟨t1, t2, t3⟩ := tg_an hE hs (i_le0 hneg)
      rw [e22]
      exact kd_gd (pt_an hE (fun x a b c => (hD x a b).2 c) t2 _ 61 _ _ _ _ ho.1 ho.2.1 ho.2.2 ⟨_, hs.1, hs.2, rfl, t1⟩ (hD _ ho.1 ho.2.1).1 (by omega) h)
theorem LF.an {σ μ τn τr ν τf μf : S5} {k U F B : Nat} {cc fs fu fn ft : Nat → Int32} (h : LF σ μ τn τr ν τf μf k U F B cc fs fu fn ft) (hf : f_X2_findFree τr = some ((), τf)) {D : Int32 → Nat} (hD : ∀ x, 0 ≤ x → x < gI σ 9 → D x ≤ 61 ∧ (0 ≤ xA σ 21 x → D x = D (xA σ 21 x) + 1)) : EQv (Qa σ τr (gI σ 9)) τr F (61 * U) τf := by
  obtain ⟨hE, ⟨hN, hF, hF6⟩, ⟨hR, -⟩, ⟨hV, hFm⟩, hp, ⟨hU, hU6, v90, v9, v10⟩, -⟩ := h
  have hcov := hp.cov hE.2.2.1.2 v9
  have r4 : ∀ f, f < F → xA τr 4 (nI f) = nI 0 := fun f hf' => by
    rw [hR.x 4 (by decide)]
    exact (hN.1.2.2.2.2 f (by omega)).1
  refine ff_an hE hD (fun v v0 v1 => by
    obtain ⟨h, n, c, q1, q2, q3, q4, q5, q6, q7, q8, q9, q10⟩ := hcov.2.2 v v0 v1
    rw [q8]
    exact q1) FU 0 τr (by omega) ⟨⟨FrF.rf τr, fun f hf' => by rw [r4 f hf']; exact Int32.le_refl _, ?_⟩, fun g p c a b c' d e => ?_⟩ _ _ hf
  · have e := pre_eq (w := fun f => (xA τr 4 (nI f)).toNatClampNeg) (w2 := fun _ => 0) F (fun i hi => by rw [r4 i hi]; rfl)
    unfold ttF
    rw [e]
    have z : ∀ n, pre (fun _ => 0) n = 0 := fun n => by
      induction n with
      | zero => rfl
      | succ n ih => show pre (fun _ => 0) n + 0 = 0; rw [ih]
    rw [z F]
    omega
  · have := nI_injL (by omega) (by omega) (c'.symm.trans (r4 g a))
    omega
