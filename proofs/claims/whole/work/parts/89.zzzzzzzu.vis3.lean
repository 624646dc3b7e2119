/-- a function's own scope is the first of its scopes -/
theorem wO_root {σ ν τr τv : S5} {k U F : Nat} {S : Int32} {sc fs : Nat → Int32} {cf : Nat → Nat} (hL : LXc σ ν τr τv k U F S sc cf) (hG : GS σ k fs S) {f : Nat} (hf : f < F) : prI (wO σ (sc f)) (sc f) = 0 := by
  obtain ⟨s0, s1, s2, s3⟩ := (hL.2.2.1 f hf).1
  have hS : S ≤ 630 := hL.1.2.1.2
  have hno : ∀ z, 0 ≤ z → z < sc f → ¬ xA σ 22 z = sc f := fun z z0 z1 w => by
    have := own_le hG (z.toNatClampNeg + 1) z (by omega) z0 (i_lt_le z1 (i_le_of_lt s1))
    rw [w] at this
    clear hL hG
    grind
  have hz : ∀ n, n ≤ (sc f).toNatClampNeg → pre (wO σ (sc f)) n = 0 := by
    intro n
    induction n with
    | zero => intro _; rfl
    | succ n ih =>
      intro hn
      show pre _ n + wO σ (sc f) n = 0
      have : wO σ (sc f) n = 0 := by
        unfold wO
        have hb : (sc f).toNatClampNeg < 630 := by
          have h1 := i_lt (not_neg s0) s1
          have h2 := tn_mono hS
          have h3 : (630 : Int32).toNatClampNeg = 630 := rfl
          omega
        rw [if_neg (hno (nI n) (i_le0 (nI_nneg (by omega))) (by
          rw [nI_tn s0]
          exact (nI_lt31 (by omega) (by omega)).mpr (by omega)))]
      rw [ih (by omega), this]
  exact hz _ (Nat.le_refl _)
/-- what a function's body sees: its parameters -/
theorem Vs.root {σ ν τr τv : S5} {k U F : Nat} {S : Int32} {sc fs : Nat → Int32} {cf : Nat → Nat} (hL : LXc σ ν τr τv k U F S sc cf) (hG : GS σ k fs S) {f : Nat} (hf : f < F) : ∀ x, Vs σ τv S sc cf f (sc f) x → x < paF σ sc cf f := by
  intro x hv
  obtain ⟨y, a, b, e⟩ := hv
  obtain ⟨s0, s1, s2, s3⟩ := (hL.2.2.1 f hf).1
  have hS : S ≤ 630 := hL.1.2.1.2
  obtain ⟨s', i, j', ⟨k0, k1⟩, k2, k3, k4, rfl, k5⟩ := b
  have k7 : s' < 700 := i_lt_le k1 (i_trans hS (by decide))
  have ed := div5 (i := i) k0 k7 (by omega)
  have em := m5_n (i := i) k0 k7 (by omega)
  rw [ed] at a
  have hno : ∀ z, 0 ≤ z → z < sc f → ¬ xA σ 22 z = sc f := fun z z0 z1 w => by
    have := own_le hG (z.toNatClampNeg + 1) z (by omega) z0 (i_lt_le z1 (i_le_of_lt s1))
    rw [w] at this
    clear hL hG k5 a
    grind
  rcases a.pr with w | ⟨-, w⟩
  · rw [← w] at k2 k5 ed em e
    have hz : ∀ n, n ≤ (sc f).toNatClampNeg → pre (wO σ (sc f)) n = 0 := by
      intro n
      induction n with
      | zero => intro _; rfl
      | succ n ih =>
        intro hn
        show pre _ n + wO σ (sc f) n = 0
        have : wO σ (sc f) n = 0 := by
          unfold wO
          have hb : (sc f).toNatClampNeg < 630 := by
            have h1 := i_lt (not_neg s0) s1
            have h2 := tn_mono hS
            have h3 : (630 : Int32).toNatClampNeg = 630 := rfl
            omega
          rw [if_neg (hno (nI n) (i_le0 (nI_nneg (by omega))) (by
            rw [nI_tn s0]
            exact (nI_lt31 (by omega) (by omega)).mpr (by omega)))]
        rw [ih (by omega), this]
    have hq : qn σ τv sc cf f (sc f * 5 + nI i) = cf f + i := by
      unfold qn
      rw [em, ed, if_pos s2, nI_clamp (by omega)]
      unfold prI
      rw [hz _ (Nat.le_refl _)]
      omega
    rw [e, hq]
    unfold paF
    rw [k2, nI_clamp (by omega)]
    omega
  · have hle : s' < sc f := by
      obtain ⟨m, w⟩ := w
      rcases hG.1 (sc f) s0 s1 with ⟨e1, -⟩ | ⟨e1, e2, -⟩
      · rw [e1] at w
        cases m with
        | zero => exact absurd w (fun z => z)
        | succ m =>
          rcases w with w | ⟨w, -⟩
          · rw [← w] at k0; exact absurd k0 (by decide)
          · exact absurd w (by decide)
      · have := Ich.le hG m _ _ w (i_lt_le e2 (i_le_of_lt s1)) k0
        clear hL hG k5 a w
        grind
    rcases k5 with w5 | ⟨w5, q, q1, q2⟩
    · exact absurd w5 (hno s' k0 hle)
    · obtain ⟨q', a1, a2, a3⟩ := fx_ex (e := xA τv 5) (f := f) (cf f) ⟨q, q1, q2⟩
      have hq : qn σ τv sc cf f (s' * 5 + nI i) = q' := by
        unfold qn
        rw [ed, if_neg w5, fx_at a2 (cf f) 0 (by omega) (by omega) (fun a _ b => a3 a b)]
      rw [e, hq]
      unfold paF
      omega
theorem bs_root {σ ν τr τv : S5} {k U F : Nat} {S : Int32} {sc : Nat → Int32} {cf : Nat → Nat} (hL : LXc σ ν τr τv k U F S sc cf) {f : Nat} (hf : f < F) : Bs σ sc cf f (sc f + 1) (fun x => x < paF σ sc cf f) := fun x hx => by
  obtain ⟨s0, s1, s2, s3⟩ := (hL.2.2.1 f hf).1
  have hw : wO σ (sc f) (sc f).toNatClampNeg = (xA σ 20 (sc f)).toNatClampNeg := by
    unfold wO vC
    rw [xA_tn, if_pos s2, xA_tn]
  rw [prI_s _ s0 (i_lt_le s1 (i_trans hL.1.2.1.2 (by decide))), hw]
  have hx' : x < cf f + (xA σ 20 (sc f)).toNatClampNeg := hx
  omega
/-- every function's body uses what it sees -/
theorem vs_all {σ ν τr τv τu τp μm : S5} {k U F C : Nat} {S : Int32} {sc fs cc fu fn ft : Nat → Int32} {cf : Nat → Nat} (hX : PX σ ν τr τv τu τp k U F C S sc cf) (hM : MX σ ν τr τv μm k U F S cf) (hA : AnX σ τr τv k U F S cf) (hp : PG σ ν k cc fs fu fn ft) (hG : GS σ k fs S) (hN : NX σ ν k sc fs) : ∀ f, f < F → ∃ hi, VS τp (rtF σ sc f) (fun x => x < paF σ sc cf f) (paF σ sc cf f) hi ∧ hi ≤ nvF σ S sc cf f := by
  intro f hf
  obtain ⟨s', u, u', y, b, t, c, -, -, q5, -, q7, -, q9, q10, -, -, -, -, q15⟩ := fn_all hX.1 hM hp hG hN f hf
  have e : rtF σ sc f = c := q5
  rw [e]
  have hU : u'.toNatClampNeg ≤ U := by
    have h1 := tn_mono q10
    rw [hX.1.1.2.2.2.2.2.2, nI_clamp (by have := hX.1.1.2.2.2.2.2.1; omega)] at h1
    exact h1
  have hw : Wf σ sc cf f (sc f + 1) = paF σ sc cf f := by
    obtain ⟨s0, s1, s2, s3⟩ := (hX.1.2.2.1 f hf).1
    have hw0 : wO σ (sc f) (sc f).toNatClampNeg = (xA σ 20 (sc f)).toNatClampNeg := by
      unfold wO vC
      rw [xA_tn, if_pos s2, xA_tn]
    unfold Wf paF
    rw [prI_s _ s0 (i_lt_le s1 (i_trans hX.1.1.2.1.2 (by decide))), hw0, wO_root hX.1 hG hf]
    omega
  rw [← hw]
  refine ⟨_, ?_, Wf.le q9⟩
  rw [hw]
  rw [← hw]
  have hb := bs_root hX.1 hf
  rw [← hw] at hb
  have hr := Vs.root hX.1 hG hf
  rw [← hw] at hr
  exact q7.vs hX hA hf (by rw [← hX.2.2.2.1]; exact q15) q9 hU (hX.1.2.2.1 f hf).1.2.2.1 (by have h1 := (hX.1.2.2.1 f hf).1.2.1; have h2 := hX.1.1.2.1.2; clear hX hM hA hp hG hN q7 hr hb; grind) _ hr hb
/-- what lies around what, from what came before -/
theorem LF.anx {σ μ τn τr ν τf μf τm μm τv : S5} {k U F B : Nat} {cc fs fu fn ft sc : Nat → Int32} {cf : Nat → Nat} (h : LF σ μ τn τr ν τf μf k U F B cc fs fu fn ft) (hff : f_X2_findFree τr = some ((), τf)) {D : Int32 → Nat} (hD : ∀ x, 0 ≤ x → x < gI σ 9 → D x ≤ 61 ∧ (0 ≤ xA σ 21 x → D x = D (xA σ 21 x) + 1)) (hJ : JG σ τf μf τm μm k F) (hL : LXc σ ν τr τv k U F (gI σ 9) sc cf) (hB : FrB τm τv) (hc : ∀ f, f < F → xA τf 4 (nI f) = nI (cf f) ∧ xA τn 8 (nI f) = sc f) : AnX σ τr τv k U F (gI σ 9) cf := by
  have han := h.an hff hD
  have hE := h.1
  have hcov := hL.2.2.2.2.2.2.2.2.2.1
  refine ⟨fun g p hg hp => ?_, fun u hu hz => ?_⟩
  · have hc8 : cf g ≤ 8 := (hL.2.2.1 g hg).2.2.2.2.1
    have e5 : xA τv 5 (nI (g * 8 + p)) = xA τf 5 (nI (g * 8 + p)) := by
      show gA τv 5 _ = gA τf 5 _
      rw [hB.2.2.1 5 (by decide) (by decide), hJ.2.2.1.2.2.1 5 (by decide)]
    rw [e5]
    exact han.2 g p (cf g) hg (by omega) (hc g hg).1 (by omega) hp
  · have hU := hL.1.2.2.2.2.2
    obtain ⟨h0, n, c, q1, q2, q3, q4, q5, q6, q7, q8, -⟩ := hcov.2.2 (nI u) (i_le0 (nI_nneg (by omega))) (by rw [hU.2]; exact (nI_lt31 (by omega) (by omega)).mpr hu)
    exact (tg_an hE (by rw [q8]; exact q1) hz).1
