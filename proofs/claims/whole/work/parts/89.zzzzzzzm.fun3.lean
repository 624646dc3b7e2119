/-- a function of both, with its body -/
def FnX (σ ν : S5) (S x : Int32) (f : Nat) : Prop := ∃ s' u u' y b t c, (xA ν 12 (nI f) = y ∧ xA ν 11 (nI f) = xA ν 6 y ∧ (xA ν 2 y = 1 ∨ xA ν 2 y = 2 ∨ xA ν 2 y = 12)) ∧ xA σ 24 x = xA ν 6 y ∧ xA σ 23 x = c ∧ TNames σ ν x y ∧ TR σ ν x (x + 1) s' u u' (y + 1) b t (xA ν 3 y) c ∧ Cx σ ν x (x + 1) u (y + 1) t ∧ (s' ≤ S ∧ u' ≤ gI σ 10 ∧ 0 ≤ y ∧ y < 3200 ∧ b ≤ gI ν 9 ∧ 0 ≤ c ∧ c < gI σ 8)
/-- what the numbers of functions keep to -/
def NX (σ ν : S5) (k : Nat) (sc fs : Nat → Int32) : Prop := (∀ n, 0 ≤ n → n < gI ν 9 → fM ν n.toNatClampNeg = 1 → xA ν 12 (nI (k + prI (fM ν) n)) = n ∧ xA ν 11 (nI (k + prI (fM ν) n)) = xA ν 6 n) ∧ (∀ i, i < k → sc i = fs i) ∧ gI σ 9 ≤ 630 ∧ gI ν 9 ≤ 2200
theorem PG.fx {σ ν : S5} {k : Nat} {cc fs fu fn ft : Nat → Int32} (hp : PG σ ν k cc fs fu fn ft) (h9 : gI σ 9 ≤ 630) (m9 : gI ν 9 ≤ 2200) : ∀ x, 0 ≤ x → x < gI σ 9 → CF σ ν (gI σ 9) (gI σ 10) (gI ν 9) (gI σ 8) x := by
  have hcx := fun i hi => hp.cx h9 m9 (i := i) hi
  obtain ⟨⟨p1, p2, p3, p4, p5, p6, p7, p8⟩, hi, -⟩ := hp
  have key : ∀ i, i ≤ k → ∀ x, 0 ≤ x → x < fs i → CF σ ν (gI σ 9) (gI σ 10) (gI ν 9) (gI σ 8) x := by
    intro i
    induction i with
    | zero =>
      intro _ x a b
      rw [p1] at b
      exact absurd b (by clear hi hcx; grind)
    | succ i ih =>
      intro hik x a b
      obtain ⟨hq, hs, hu, hn, ht, htc⟩ := hi i (by omega)
      by_cases hx : x < fs i
      · exact ih (by omega) x a hx
      · by_cases hxe : x = fs i
        · subst hxe
          intro w
          have hc : fC σ (fs i).toNatClampNeg = 0 := by unfold fC; rw [xA_tn, xA_tn, ← nI_tn hs.1, if_neg (fun w => w.2 hq.2.2.2.1.1)]
          omega
        · exact hq.2.2.2.2.2.2.2.fx (S := gI σ 9) (U := gI σ 10) (B := gI ν 9) (E := gI σ 8) hs.2.2 hu.2.2 hn.2.2 ht.2.2 (hcx i (by omega)) x (by clear hi hcx ih hq; grind) b
  intro x a b
  rw [← p2] at b
  exact key k (Nat.le_refl _) x a b
/-- every function -/
theorem fn_all {σ ν τr τv μm : S5} {k U F : Nat} {S : Int32} {sc fs cc fu fn ft : Nat → Int32} {cf : Nat → Nat} (hL : LXc σ ν τr τv k U F S sc cf) (hM : MX σ ν τr τv μm k U F S cf) (hp : PG σ ν k cc fs fu fn ft) (hG : GS σ k fs S) (hN : NX σ ν k sc fs) : ∀ f, f < F → FnX σ ν S (sc f) f := by
  intro f hf
  have hS9 : S = gI σ 9 := hL.1.2.2.1
  have hkF : k ≤ F := hL.1.2.2.2.2.1
  have hF : F ≤ 630 := hL.1.2.2.2.1
  obtain ⟨n1, n2, n3, n4⟩ := hN
  obtain ⟨⟨x0, x1, x2, x3⟩, -⟩ := hL.2.2.1 f hf
  by_cases hfk : f < k
  · have hcx := hp.cx n3 n4 (i := f) hfk
    obtain ⟨hq, hs, hu, hn, ht, htc⟩ := hp.2.1 f hfk
    obtain ⟨q1, q2, ⟨q3, q4, q5⟩, ⟨q6, q7, q8⟩, q9, q10, q11, q12⟩ := hq
    rw [n2 f hfk]
    refine ⟨_, _, _, _, _, _, _, ⟨q3, q4, Or.inr (Or.inr q5)⟩, q8, q10, q9, q12, hcx, ?_, hu.2.2, hn.1, ?_, hn.2.2, ?_, ht.2.2⟩
    · rw [hS9]; exact hs.2.2
    · clear hcx q12 hp hM hL; grind
    · clear hcx q12 hp hM hL; grind
  · have hne : ¬ xA σ 21 (sc f) = -1 := fun w => by
      rcases hG.1 (sc f) x0 x1 with ⟨_, _, i, i1, i2⟩ | h
      · have := sc_inj hL hf (show i < F by omega) (by rw [i2, n2 i i1])
        omega
      · have := h.1
        rw [w] at this
        exact absurd this (by decide)
    have hfC : fC σ (sc f).toNatClampNeg = 1 := by
      unfold fC
      rw [xA_tn, xA_tn, ← nI_tn x0, if_pos ⟨x2, hne⟩]
    have h21 : 0 ≤ xA σ 21 (sc f) := by
      rcases hG.1 (sc f) x0 x1 with ⟨w, _⟩ | h
      · exact absurd w hne
      · exact h.1
    have hfx := hp.fx n3 n4 (sc f) x0 (by rw [← hS9]; exact x1) hfC
    obtain ⟨h, s', u, u', y, b, t, c0, q, cx, hk, b1, b2, b3, b4, b5, b6, b7, b8, b9, b10⟩ := hfx
    obtain ⟨e1, e2, e3, e4, e5, e6, e7, e8, e9, c2, e10, e11, e12, e13, e14⟩ := q
    have hfM : fM ν y.toNatClampNeg = 1 := by
      unfold fM
      rw [xA_tn, xA_tn, if_pos (hk.elim (fun w => Or.inr ⟨w, e8⟩) Or.inl)]
    have hv := vCM (σ := σ) (s := sc f) (n := y) (by rcases hk with w | w <;> rw [w] <;> decide) e7.1
    have s7 : sc f < 700 := by clear e12 cx hp hM hL; grind
    have y7 : y < 3200 := i_lt_le b5 b7
    have cx2 := cx.sub s7 b4 y7 (hfC.trans hfM.symm) hv (by rcases hk with w | w <;> rw [w] <;> decide) (Or.inl e5)
    have en : f = k + prI (fM ν) y := by
      have h26 := hM.2.2.2.2.2.2.1 (sc f) x0 x1 x2 h21
      rw [x3, cx.2.2.1] at h26
      have hb : prI (fM ν) y ≤ 3200 := by
        have h1 := pre_le (w := fM ν) (fun i => by unfold fM; split <;> omega) y.toNatClampNeg 0
        have h2 := i_lt (not_neg b4) y7
        have h3 : (3200 : Int32).toNatClampNeg = 3200 := rfl
        have h4 : pre (fM ν) 0 = 0 := rfl
        rw [Nat.zero_add] at h1
        unfold prI
        omega
      exact nI_injL (by omega) (by omega) h26
    have y9 : y < gI ν 9 := i_lt_le b5 b6
    obtain ⟨z1, z2⟩ := n1 y b4 y9 hfM
    rw [← en] at z1 z2
    have hc2 := e12.c
    refine ⟨s', u, u', y, b, t, c2, ⟨z1, z2, by rcases hk with w | w; exact Or.inl w; exact Or.inr (Or.inl w)⟩, e6, e10, e7, e12, cx2, by rw [hS9]; exact b1, b3, b4, y7, b6, hc2.1, ?_⟩
    clear e12 cx cx2 hp hM hL
    grind
/-- a sum over some places, each once -/
theorem pre_inj_le : ∀ (F N : Nat) (w x : Nat → Nat), (∀ f, f < F → x f < N) → (∀ f g, f < F → g < F → x f = x g → f = g) → pre (fun f => w (x f)) F ≤ pre w N
  | 0, N, w, x, _, _ => Nat.zero_le _
  | F + 1, N, w, x, h, hi => by
    have ih := pre_inj_le F N (fun j => if j = x F then 0 else w j) x (fun f hf => h f (by omega)) (fun f g hf hg e => hi f g (by omega) (by omega) e)
    have e1 : pre (fun f => (fun j => if j = x F then 0 else w j) (x f)) F = pre (fun f => w (x f)) F := pre_eq F (fun f hf => by
      show (if x f = x F then 0 else w (x f)) = w (x f)
      rw [if_neg (fun e => by have := hi f F (by omega) (by omega) e; omega)])
    have e2 : ∀ n, pre (fun j => if j = x F then 0 else w j) n + (if x F < n then w (x F) else 0) = pre w n := by
      intro n
      induction n with
      | zero => rfl
      | succ n ihn =>
        show pre _ n + (if n = x F then 0 else w n) + (if x F < n + 1 then w (x F) else 0) = pre w n + w n
        by_cases hn : n = x F
        · rw [if_pos hn, if_pos (by omega)]
          rw [if_neg (by omega)] at ihn
          have hw : w (x F) = w n := by rw [hn]
          omega
        · rw [if_neg hn]
          by_cases hl : x F < n
          · rw [if_pos hl] at ihn
            rw [if_pos (by omega)]
            omega
          · rw [if_neg hl] at ihn
            rw [if_neg (by omega)]
            omega
    have e3 := e2 N
    rw [if_pos (h F (by omega))] at e3
    show pre (fun f => w (x f)) F + w (x F) ≤ _
    rw [e1] at ih
    omega
/-- all parts together -/
theorem PG.tot {σ ν τr τv τu τp : S5} {k U F C : Nat} {S : Int32} {sc cc fs fu fn ft : Nat → Int32} {cf : Nat → Nat} (hX : PX σ ν τr τv τu τp k U F C S sc cf) (hp : PG σ ν k cc fs fu fn ft) (h9 : gI σ 9 ≤ 630) (m9 : gI ν 9 ≤ 2200) : prI (wSs σ τp) S ≤ 6100 := by
  have hcx := fun i hi => hp.cx h9 m9 (i := i) hi
  have hS9 : S = gI σ 9 := hX.1.1.2.2.1
  have h8 : gI σ 8 = nI C := hX.2.2.2.1
  obtain ⟨⟨p1, p2, p3, p4, p5, p6, p7, p8⟩, hi, -⟩ := hp
  have key : ∀ i, i ≤ k → Mb σ τr τp cf 0 0 (fs i) 0 (ft i) := by
    intro i
    induction i with
    | zero =>
      intro _
      rw [p1, p7]
      unfold Mb
      omega
    | succ i ih =>
      intro hik
      obtain ⟨hq, hs, hu, hn, ht, htc⟩ := hi i (by omega)
      obtain ⟨q1, q2, ⟨q3, q4, q5⟩, ⟨q6, q7, q8⟩, q9, q10, q11, q12⟩ := hq
      have m := (q12.ms hX (by rw [← h8]; exact ht.2.2) (by rw [hS9]; exact hs.2.2) (hcx i (by omega)).2.1).2.2
      rw [← htc] at m
      have hw : wSs σ τp (fs i).toNatClampNeg = Nn τp (cc i) := by
        unfold wSs
        rw [xA_tn, ← nI_tn hs.1, if_pos q7, q10]
      have m3 := prI_s (wSs σ τp) hs.1 (show fs i < 7000 by clear hi hcx q12 ih hX; grind)
      have a := ih (by omega)
      unfold Mb at *
      omega
  have a := key k (Nat.le_refl _)
  rw [p2, p8, ← hS9, h8] at a
  have b := hX.le (Int32.le_refl (nI C))
  unfold Mb at a
  have z1 : prI (wSs σ τp) 0 = 0 := rfl
  omega
