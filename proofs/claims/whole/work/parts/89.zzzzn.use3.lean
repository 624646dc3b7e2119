/-- both take a use -/
theorem use_go {σ τr μ0 τ μ : S5} {k U F : Nat} {fs : Nat → Int32} {S : Int32} (hE : Env σ τr μ0 k U F fs S) {u m top d B : Nat} {h n : Int32} (hu : u < U) (hn0 : 0 ≤ n) (hn1 : n < 3200) (h0 : 0 ≤ h) (h1 : h < S) (hm : m ≤ 600) (hz : xB μ 0 n = xB σ 4 (nI u)) (h27 : xA σ 27 (nI u) = h) (h28 : xA σ 28 (nI u) = xA μ 6 n) (h13 : gI μ 13 = gI μ0 13) (hb2 : ∀ i, xB μ 2 i = xB μ0 2 i) (hS : Stk σ μ m h top) (h24 : gI μ 24 = nI top) (ht : top < 3200) (hA : Aro σ τr μ S d (xA σ 22 h) d) (h25 : gI μ 25 = nI d) (hd : d ≤ 64) (hR : FRs σ τ μ B F) (hFr : FrF τr τ) (hB : B < 800000) (hH : ∀ (x : Int32) (i j : Nat), 0 ≤ x → x ≤ h → xA σ 20 x = nI j → j ≤ 5 → i < j → xA μ 22 (nI (prI (vC σ) x + i)) = xA τr 26 (xA σ 22 x)) (hFl : FlU σ k u (gI μ 7) (gI μ 8)) : ∃ τ' μ', (∀ q, f_X2_findFree_L2 (q + 1) (nI u) τ = f_X2_findFree_L2 q (nI (u + 1)) τ') ∧ f_X12_use n μ = some ((), μ') ∧ FRs σ τ' μ' (B + 700) F ∧ FrF τr τ' ∧ FrU n μ μ' ∧ FlU σ k (u + 1) (gI μ' 7) (gI μ' 8) ∧ Sd σ μ' k u n := by
  obtain ⟨hD, hG, ⟨hS0, hS6⟩, hk, hF, hN, ⟨l20, l21, l22, l27, l10⟩, h30, ⟨hU, h10⟩, g13, gb2⟩ := hE
  have hbig := FU_big (n := 30000) (by decide)
  have t10 : gI τ 10 = nI U := by rw [hFr.1 10, l10]; exact h10
  have t30 : xA τ 30 (nI u) = tg σ k u := by rw [hFr.x 30 _ (by decide) (by decide)]; exact h30 u hu
  have t27 : xA τ 27 (nI u) = h := by rw [hFr.x 27 _ (by decide) (by decide), l27]; exact h27
  have t22 : ∀ x, xA τ 22 x = xA σ 22 x := fun x => by rw [hFr.x 22 _ (by decide) (by decide), l22]
  have m13 : gI μ 13 = nI k := by rw [h13]; exact g13
  -- what the name means
  obtain ⟨r, r1, r2⟩ := find_stk (μ := μ) hD (xB σ 4 (nI u)) m h top 0 FU hS (by omega) (by omega)
  have hl : h.toNatClampNeg < 630 := i_lt (n := 630) (fun w => by grind) (by grind)
  have hr : r = fd (xA σ 20) (xA σ 21) (xB σ 3) (xB σ 4 (nI u)) 701 h := by
    have q := fd_go hD hS6 (fun x x0 x1 => by
      rcases hG.1 x x0 x1 with w | w
      · exact Or.inl w.1
      · exact Or.inr ⟨w.1, w.2.1⟩) (xB σ 4 (nI u)) 701 h 0 FU (Or.inr ⟨h0, h1, by omega⟩) (by omega) (by omega) (by omega)
    rw [r1] at q
    exact (Prod.mk.inj (Option.some.inj q)).1
  have htg : tg σ k u = if r = -1 then -2 - tp (xB σ 1) (xB σ 4 (nI u)) k 0 else r := by
    unfold tg
    rw [h27, ← hr]
  obtain ⟨L1, L2⟩ := use_L7 (μ := μ) hz hn0 hn1 top FU (by omega) (by omega)
  have hU0 : f_X12_use n μ = f_X12_use_L7 FU n (nI top - 1) μ := by
    unfold f_X12_use
    rw [h24]
  rcases r2 with ⟨r2, r3⟩ | ⟨s, i, j, p, a1, a2, a3, a4, a5, a6, a7, a8, a9, a10, a11⟩
  · -- a function at the top, or nothing
    rw [if_pos r2] at htg
    obtain ⟨q, q1, q2, q3⟩ := tp_M (σ := σ) (μ := μ) hk m13 hn0 hn1 hz (fun i hi => by rw [hb2]; exact gb2 i hi) k 0 FU (by omega) (by omega)
    have hU1 : f_X12_use n μ = f_X12_use_b133 n (nI q) μ := by
      rw [hU0, L1 r3]
      unfold f_X12_use_b33
      rw [if_pos (by decide), show (0 : Int32) = nI 0 from rfl, q2]
    by_cases hq : q = k
    · subst hq
      rw [if_pos rfl] at q3
      have ht1 : tg σ q u = -1 := by rw [htg, q3]; decide
      refine ⟨τ, _, ff_neg t10 hu hU (by rw [t30, ht1]; decide), by rw [hU1]; exact use_none hn0 hn1 m13, ?_, hFr, ?_, ?_, ?_⟩
      · refine (hR.le (by omega)).st ?_ ?_ <;> intro x <;> by_cases h7 : gI μ 7 = 0
        · rw [if_pos h7, xA_pI, xA_pI]; unfold mUs; rw [xA_pA, if_neg (fun w => absurd w.1 (by decide)), xA_pA, if_neg (fun w => absurd w.1 (by decide))]
        · rw [if_neg h7]; unfold mUs; rw [xA_pA, if_neg (fun w => absurd w.1 (by decide)), xA_pA, if_neg (fun w => absurd w.1 (by decide))]
        · rw [if_pos h7, xA_pI, xA_pI]; unfold mUs; rw [xA_pA, if_neg (fun w => absurd w.1 (by decide)), xA_pA, if_neg (fun w => absurd w.1 (by decide))]
        · rw [if_neg h7]; unfold mUs; rw [xA_pA, if_neg (fun w => absurd w.1 (by decide)), xA_pA, if_neg (fun w => absurd w.1 (by decide))]
      · by_cases h7 : gI μ 7 = 0
        · rw [if_pos h7]; exact (FrU.us μ n 0 (nI q)).fl
        · rw [if_neg h7]; exact FrU.us μ n 0 (nI q)
      · refine hFl.no ht1 (fun w => ?_) (fun w => ?_)
        · rw [if_pos w]; exact ⟨rfl, h28.symm⟩
        · rw [if_neg w]; exact ⟨rfl, rfl⟩
      · refine Or.inr ⟨by rw [ht1]; decide, ?_, fun w => absurd ht1 w⟩
        by_cases h7 : gI μ 7 = 0
        · rw [if_pos h7, xA_pI, xA_pI]; unfold mUs; rw [xA_pA, if_neg (fun w => absurd w.1 (by decide)), xA_pA, if_pos ⟨rfl, rfl⟩]
        · rw [if_neg h7]; unfold mUs; rw [xA_pA, if_neg (fun w => absurd w.1 (by decide)), xA_pA, if_pos ⟨rfl, rfl⟩]
    · rw [if_neg hq] at q3
      have hq0 : 0 ≤ nI q ∧ nI q < 30 := nI_n30 (by omega)
      have ht2 : tg σ k u = -2 - nI q := by rw [htg, q3]
      have ht1 : ¬ tg σ k u = -1 := by rw [ht2]; grind
      have htn : tg σ k u < 0 := by rw [ht2]; grind
      refine ⟨τ, _, ff_neg t10 hu hU (by rw [t30]; exact htn), by rw [hU1]; exact use_top hn0 hn1 m13 (by omega) hk, ?_, hFr, FrU.us μ n 0 (nI q), hFl.ok ht1, ?_⟩
      · refine (hR.le (by omega)).st ?_ ?_ <;> intro x <;> unfold mUs <;> rw [xA_pA, if_neg (fun w => absurd w.1 (by decide)), xA_pA, if_neg (fun w => absurd w.1 (by decide))]
      · have e7 : xA (mUs μ n 0 (nI q)) 7 n = nI q := by unfold mUs; rw [xA_pA, if_pos ⟨rfl, rfl⟩]
        refine Or.inr ⟨htn, ?_, fun _ => ⟨?_, ?_, ?_⟩⟩
        · unfold mUs; rw [xA_pA, if_neg (fun w => absurd w.1 (by decide)), xA_pA, if_pos ⟨rfl, rfl⟩]
        · rw [e7, ht2]; grind
        · rw [e7]; exact hq0.1
        · rw [e7]; exact (nI_lt31 (by omega) (by omega)).mpr (by omega)
  · -- a variable
    have hrg := s5_rg (i := i) a1 a2 (by omega)
    have hrn : ¬ r = -1 := by rw [a6]; grind
    rw [if_neg hrn] at htg
    have hv : VR σ (tg σ k u) (nI (prI (vC σ) s + i)) := ⟨s, i, j, a1, a2, a3, a4, a5, by rw [htg]; exact a6, rfl⟩
    have hsh := a11.le hG m h s h1 a1
    have hsS : s < S := by grind
    have hls : s.toNatClampNeg < 630 := i_lt (n := 630) (fun w => by grind) (by grind)
    have hpv := vC_le hD s.toNatClampNeg (by omega)
    have hv0 : prI (vC σ) s + i < 3200 := by unfold prI; omega
    have how : ∀ x, 0 ≤ x → x < S → 0 ≤ xA σ 22 x ∧ xA σ 22 x < S ∧ xA σ 22 (xA σ 22 x) = xA σ 22 x := by
      have key : ∀ (q : Nat) (x : Int32), x.toNatClampNeg < q → 0 ≤ x → x < S → 0 ≤ xA σ 22 x ∧ xA σ 22 x < S ∧ xA σ 22 (xA σ 22 x) = xA σ 22 x := by
        intro q
        induction q with
        | zero => intro x hx; exact absurd hx (by omega)
        | succ q ih =>
          intro x hx x0 x1
          rcases hG.1 x x0 x1 with ⟨_, w, _⟩ | ⟨w1, w2, w3⟩
          · rw [w]; exact ⟨x0, x1, w⟩
          · rcases w3 with w3 | w3
            · rw [w3]; exact ⟨x0, x1, w3⟩
            · rw [w3]
              have := i_lt (a := xA σ 21 x) (n := x) (fun w => by grind) w2
              exact ih _ (by omega) w1 (by grind)
      intro x x0 x1
      exact key _ x (Nat.lt_succ_self _) x0 x1
    obtain ⟨w1, w2, w3⟩ := how s a1 hsS
    have hus : ∀ (q : Nat) (x : Int32), ¬ q = 7 → ¬ q = 8 → xA (mUs μ n 1 (nI (prI (vC σ) s + i))) q x = xA μ q x := by
      intro q x q7 q8
      unfold mUs
      rw [xA_pA, if_neg (fun w => q7 w.1), xA_pA, if_neg (fun w => q8 w.1)]
    obtain ⟨τ', μ', b1, b2, b3, b4, b5⟩ := pt_go (σ := σ) (τ0 := τr) hD hS6 hF hN l21 l22 hv (i_le0 (nI_nneg (by omega))) ((nI_lt31 (b := 3200) (by omega) (by omega)).mpr (by omega)) w1 w2 w3 (d + m) (xA σ 22 h) d 0 B FU FU τ (mUs μ n 1 (nI (prI (vC σ) s + i))) ((hA.st d _ d (fun p _ => hus 27 _ (by decide) (by decide))).up m d _ d) (by rw [Nat.add_comm]; exact (a11.och hG m h s h1 a1).up (o := 0) (w := 0) d m _ _) (hR.st (fun x => hus 20 _ (by decide) (by decide)) (fun x => hus 21 _ (by decide) (by decide))) hFr (by rw [hus 22 _ (by decide) (by decide)]; exact hH s i j a1 hsh a3 a4 a5) hd (by omega) (by omega) (by omega) (by omega)
    refine ⟨τ', μ', ff_pos t10 hu hU t30 (htg.trans a6) a1 a2 (by omega) t27 h0 (by grind) (by rw [t22, t22, show (0 : Int32) = nI 0 from rfl]; exact b1), ?_, b3.le (by omega), hFr.tr b4, (FrU.us μ n 1 _).g b5, ?_, ?_⟩
    · rw [hU0, L2 p a7 a8 a9, use_var hn0 hn1 (by omega) a10, h25]
      exact b2
    · rw [b5.1 7, b5.1 8]
      exact hFl.ok (by rw [htg]; exact hrn)
    · refine Or.inl ⟨by rw [htg, a6]; exact hrg.1, ?_, ?_⟩
      · rw [b5.x 8 _ (by decide) (by decide)]
        unfold mUs
        rw [xA_pA, if_neg (fun w => absurd w.1 (by decide)), xA_pA, if_pos ⟨rfl, rfl⟩]
      · rw [b5.x 7 _ (by decide) (by decide)]
        have e7 : xA (mUs μ n 1 (nI (prI (vC σ) s + i))) 7 n = nI (prI (vC σ) s + i) := by unfold mUs; rw [xA_pA, if_pos ⟨rfl, rfl⟩]
        rw [e7]
        exact hv
