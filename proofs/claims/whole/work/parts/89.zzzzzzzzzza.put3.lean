theorem eqC.tx {σ σi : S5} (h : eqC σ σi) (i v w : Int32) : eqC σ (pI (pA σi 0 i v) 0 w) := ⟨fun k h0 h1 => by
    show gI (pI (pA σi 0 i v) 0 w) k = gI σ k
    rw [gI_pI, if_neg h0]
    exact h.1 k h0 h1, h.2.1, fun k h0 => (gA_pA_ne h0).trans (h.2.2.1 k h0), h.2.2.2.1, h.2.2.2.2⟩
theorem eqM.tx {μ μi : S5} (h : eqM μ μi) (i v w : Int32) : eqM μ (pI (pA μi 0 i v) 1 w) := ⟨fun k h0 h1 => by
    show gI (pI (pA μi 0 i v) 1 w) k = gI μ k
    rw [gI_pI, if_neg h1]
    exact h.1 k h0 h1, h.2.1, fun k h0 => (gA_pA_ne h0).trans (h.2.2.1 k h0), h.2.2.2.1, h.2.2.2.2⟩
theorem RT.tx {σ μ : S5} {n : Nat} {b : Int32} (h : RT σ μ) (hn : gI σ 0 = nI n) (h3 : n < 3000) (hb : okS b) : RT (pI (pA σ 0 (nI n) b) 0 (nI (n + 1))) (pI (pA μ 0 (nI n) b) 1 (nI (n + 1))) := by
  obtain ⟨t1, t2, t3, t4⟩ := h
  have e : gI (pI (pA σ 0 (nI n) b) 0 (nI (n + 1))) 0 = nI (n + 1) := rfl
  refine ⟨rfl, by rw [e]; exact i_le0 (nI_nneg (by omega)), by rw [e]; exact (nI_le31 (b := 3000) (by omega) (by omega)).mpr (by omega), fun i hi => ?_⟩
  rw [e, nI_clamp (by omega)] at hi
  show gA (pA σ 0 (nI n) b) 0 i = gA (pA μ 0 (nI n) b) 0 i ∧ okS (gA (pA μ 0 (nI n) b) 0 i)
  rw [gA_pA, gA_pA, nI_clamp (by omega)]
  by_cases hin : i = n
  · rw [if_pos ⟨rfl, hin⟩, if_pos ⟨rfl, hin⟩]
    exact ⟨rfl, hb⟩
  · rw [if_neg (fun w => hin w.2), if_neg (fun w => hin w.2)]
    exact t4 i (by rw [hn, nI_clamp (by omega)]; omega)
theorem byte_ok {b : Int32} (h : okS b) : vp_nar .byte (b.toInt8.toInt32) = b := by
  have key : ∀ a, a < 8 → ∀ b, b < 16 → vp_nar .byte ((nI (16 * a + b)).toInt8.toInt32) = nI (16 * a + b) := by decide
  have : ¬ b < 0 ∧ b < nI 127 := by
    rcases h with h | ⟨h1, h2⟩
    · rw [h]; decide
    · constructor
      · clear key; grind
      · have : b < 127 := by clear key; grind
        exact this
  obtain ⟨n, hn, rfl⟩ := i_natF this.1 this.2 (by decide)
  have := key (n / 16) (by omega) (n % 16) (by omega)
  rw [show 16 * (n / 16) + n % 16 = n by omega] at this
  exact this
/-- the signs are put -/
theorem put_wr {v : Int32} {σ μ : S5} : ∀ (m i N N' : Nat) (σi μi : S5) (n : Nat), i + m = 4 → m < N → m < N' → RT σi μi → eqC σ σi → eqM μ μi → gI σi 0 = nI n → n + (pre (wz v) 4 - pre (wz v) i) ≤ 3000 → (∀ x, i ≤ x → x < 4 → okB (by8 v x)) → ∃ τ ν, f_X11_put_L99 N v (nI i) σi = some ((0, gI τ 0), τ) ∧ f_X12_put_L120 N' v (nI (8 * i)) μi = some (gI ν 1, ν) ∧ RT τ ν ∧ eqC σ τ ∧ eqM μ ν ∧ gI ν 0 = gI μi 0 := by
  intro m
  induction m with
  | zero =>
    intro i N N' σi μi n hi hN hN' hR hC hM hn h3 hok
    obtain ⟨N, rfl⟩ : ∃ n, N = n + 1 := ⟨N - 1, by omega⟩
    obtain ⟨N', rfl⟩ : ∃ n, N' = n + 1 := ⟨N' - 1, by omega⟩
    obtain rfl : i = 4 := by omega
    exact ⟨σi, μi, rfl, rfl, hR, hC, hM, rfl⟩
  | succ m ih =>
    intro i N N' σi μi n hi hN hN' hR hC hM hn h3 hok
    obtain ⟨N, rfl⟩ : ∃ n, N = n + 1 := ⟨N - 1, by omega⟩
    obtain ⟨N', rfl⟩ : ∃ n, N' = n + 1 := ⟨N' - 1, by omega⟩
    have h4 : ¬ (4 : Int32) ≤ nI i := fun w => by have := (nI_le31 (a := 4) (b := i) (by omega) (by omega)).mp w; omega
    have h32 : ¬ (32 : Int32) ≤ nI (8 * i) := fun w => by have := (nI_le31 (a := 32) (b := 8 * i) (by omega) (by omega)).mp w; omega
    have hc : f_X11_put_L99 (N + 1) v (nI i) σi = if by8 v i = 0 then f_X11_put_L99 N v (nI (i + 1)) σi else bd (f_X8_add_text_F (by8 v i) σi) (fun _ τ => f_X11_put_L99 N v (nI (i + 1)) τ) := by
      show f_X11_put_B99 (f_X11_put_L99 N) v (nI i) σi = _
      unfold f_X11_put_B99 f_X11_put_b130
      rw [if_neg h4, by8_c, nI_add1]
    have hm : f_X12_put_L120 (N' + 1) v (nI (8 * i)) μi = if by8 v i = 0 then f_X12_put_L120 N' v (nI (8 * (i + 1))) μi else gd (gI μi 1) 3000 (f_X12_put_L120 N' v (nI (8 * (i + 1))) (pI (pA μi 0 (gI μi 1) (by8 v i)) 1 ((gI μi 1) + 1))) := by
      show f_X12_put_B120 (f_X12_put_L120 N') v (nI (8 * i)) μi = _
      unfold f_X12_put_B120 f_X12_put_b163
      rw [if_neg h32, by8_m v (by omega), nI_8s]
    have hps : pre (wz v) (i + 1) = pre (wz v) i + wz v i := rfl
    have hmo : pre (wz v) (i + 1) ≤ pre (wz v) 4 := by
      have := pre_mono (w := wz v) (4 - (i + 1)) (i + 1)
      rw [show i + 1 + (4 - (i + 1)) = 4 by omega] at this
      exact this
    have hp4 := pz_le v 4
    rw [hc, hm]
    by_cases h0 : by8 v i = 0
    · rw [if_pos h0, if_pos h0]
      have e : wz v i = 0 := by unfold wz; rw [if_pos h0]
      exact ih (i + 1) N N' σi μi n (by omega) (by omega) (by omega) hR hC hM hn (by omega) (fun x a b => hok x (by omega) b)
    · rw [if_neg h0, if_neg h0]
      have e : wz v i = 1 := by unfold wz; rw [if_neg h0]
      have hn3 : n < 3000 := by omega
      have hb : okS (by8 v i) := by
        rcases hok i (by omega) (by omega) with w | w | w
        · exact absurd w h0
        · exact Or.inl w
        · exact Or.inr w
      have m1 : gI μi 1 = nI n := by rw [← hR.1]; exact hn
      have ha : f_X8_add_text_F (by8 v i) σi = some ((), pI (pA σi 0 (nI n) (by8 v i)) 0 (nI (n + 1))) := by
        unfold f_X8_add_text_F
        rw [hn, if_pos (show nI n < 3000 from (nI_lt31 (b := 3000) (by omega) (by omega)).mpr hn3), gdn (by omega) (by omega), byte_ok hb, nI_add1]
      rw [ha, bd_of, m1, gdn (by omega) (by omega), nI_add1]
      exact ih (i + 1) N N' _ _ (n + 1) (by omega) (by omega) (by omega) (hR.tx hn hn3 hb) (hC.tx _ _ _) (hM.tx _ _ _) rfl (by omega) (fun x a b => hok x (by omega) b)
theorem RA.mv {σ τ μ ν : S5} (h : RA σ μ) (hC : eqC σ τ) (hM : eqM μ ν) (hT : RT τ ν) : RA τ ν := by
  have cI : ∀ k, ¬ k = 0 → ¬ k = 1 → gI τ k = gI σ k := fun k a b => hC.1 k a b
  have cA : ∀ k, ¬ k = 0 → gA τ k = gA σ k := fun k a => hC.2.2.1 k a
  have mI : ∀ k, ¬ k = 0 → ¬ k = 1 → gI ν k = gI μ k := fun k a b => hM.1 k a b
  have mA : ∀ k, ¬ k = 0 → gA ν k = gA μ k := fun k a => hM.2.2.1 k a
  obtain ⟨-, hO, hF, hS, hR⟩ := h
  refine ⟨hT, ?_, ?_, ?_, ?_⟩
  · unfold RO at *
    rw [cI 66 (by decide) (by decide), mI 2 (by decide) (by decide), cA 50 (by decide), mA 1 (by decide)]
    exact hO
  · unfold RF at *
    rw [cI 61 (by decide) (by decide), cI 62 (by decide) (by decide), cI 63 (by decide) (by decide), cI 64 (by decide) (by decide), cI 65 (by decide) (by decide), mI 30 (by decide) (by decide), mI 31 (by decide) (by decide), mI 12 (by decide) (by decide), mI 36 (by decide) (by decide), mI 35 (by decide) (by decide)]
    exact hF
  · unfold RS RP at *
    rw [cI 60 (by decide) (by decide), mI 29 (by decide) (by decide), cI 6 (by decide) (by decide), cI 4 (by decide) (by decide), cI 13 (by decide) (by decide), mI 22 (by decide) (by decide), mI 14 (by decide) (by decide), mI 11 (by decide) (by decide), cA 3 (by decide), cA 4 (by decide), cA 6 (by decide), mA 47 (by decide), mA 20 (by decide), mA 46 (by decide)]
    exact hS
  · unfold RR at *
    rw [cA 40 (by decide), cA 41 (by decide), cA 42 (by decide), mA 57 (by decide), mA 58 (by decide), mI 44 (by decide) (by decide), mI 45 (by decide) (by decide), mI 38 (by decide) (by decide), mI 34 (by decide) (by decide), mI 39 (by decide) (by decide), mI 40 (by decide) (by decide), mI 41 (by decide) (by decide), mI 42 (by decide) (by decide), mI 43 (by decide) (by decide), mI 46 (by decide) (by decide)]
    exact hR
theorem eqC.o {σ τ : S5} (h : eqC σ τ) (i : Int32) (v : Int64) : eqC σ (pB τ 30 i v) := ⟨h.1, h.2.1, h.2.2.1, fun k hk => (gB_pB_ne hk).trans (h.2.2.2.1 k hk), h.2.2.2.2⟩
/-- the call put -/
theorem e_put {σ μ : S5} (a : Int32) (h : RA σ μ) : E1 (h_L_put a σ) (f_X12_put a μ) σ μ := by
  have hb := FU_big (n := 5000) (by decide)
  have hl := put_look (v := a) (σ := σ) (μ := μ) 4 0 FU FU rfl (by omega) (by omega)
  have z : nI (pre (wz a) 0) = 0 := rfl
  have z0 : nI 0 = 0 := rfl
  have z8 : nI (8 * 0) = 0 := rfl
  rw [z, z0] at hl
  rcases hl with ⟨w1, w2⟩ | ⟨w0, w1, w2⟩
  · refine E1_no 1 0 (by decide) ?_ (by unfold f_X12_put; exact w2) h
    have e : f_X11_put a σ = some ((1, 0), σ) := by unfold f_X11_put; exact w1
    unfold h_L_put
    rw [e, bd_of, if_neg (by decide), if_pos rfl]
  · have hT := h.1
    have hn : gI σ 0 = nI (gI σ 0).toNatClampNeg := nI_tn hT.2.1
    obtain ⟨n, en⟩ : ∃ n, n = (gI σ 0).toNatClampNeg := ⟨_, rfl⟩
    rw [← en] at hn
    have hn3 : n ≤ 3000 := by rw [en]; exact i_le (n := 3000) hT.2.2.1
    have hp4 := pz_le a 4
    have e1 : f_X11_put a σ = (if (gI σ 0) + nI (pre (wz a) 4) ≤ 3000 then f_X11_put_L99 FU a 0 σ else some ((2, 0), σ)) := by unfold f_X11_put; exact w1
    have e2 : f_X12_put a μ = (if (gI μ 1) + nI (pre (wz a) 4) ≤ 3000 then f_X12_put_b105 a 0 μ else f_X12_put_b105 a 2 μ) := by unfold f_X12_put; exact w2
    rw [← hT.1, hn, nI_plus] at e2
    rw [hn, nI_plus] at e1
    by_cases hr : nI (n + pre (wz a) 4) ≤ 3000
    · have hr' : n + pre (wz a) 4 ≤ 3000 := (nI_le31 (b := 3000) (by omega) (by omega)).mp hr
      rw [if_pos hr] at e1 e2
      have hR0 : RT σ (pI μ 0 0) := hT
      obtain ⟨τ, ν, q1, q2, q3, q4, q5, q6⟩ := put_wr (v := a) (σ := σ) (μ := μ) 4 0 FU FU σ (pI μ 0 0) n rfl (by omega) (by omega) hR0 (eqC.rf σ) (eqM.thr μ 0) hn (by show n + (pre (wz a) 4 - 0) ≤ 3000; omega) (fun x a b => w0 x a b)
      refine ⟨0, gI ν 1, pB τ 30 0 (gI ν 1).toInt64, ν, ?_, ?_, q6, fun _ => out_at _ _, ?_, q4.o _ _, q5⟩
      · rw [z0] at q1
        unfold h_L_put
        rw [e1, q1, bd_of, q3.1, if_pos rfl]
      · rw [show nI (8 * 0) = 0 from rfl] at q2
        unfold f_X12_put_b105 at e2
        rw [if_pos (by decide)] at e2
        rw [e2]
        exact q2
      · exact (h.mv q4 q5 q3).mv ((eqC.rf τ).o _ _) (eqM.rf ν) q3
    · rw [if_neg hr] at e1 e2
      refine E1_no 2 0 (by decide) ?_ ?_ h
      · unfold h_L_put
        rw [e1, bd_of, if_neg (by decide), if_neg (by decide), if_pos rfl]
      · unfold f_X12_put_b105 at e2
        rw [if_neg (by decide)] at e2
        exact e2
