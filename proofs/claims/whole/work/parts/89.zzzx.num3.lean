theorem pre_sur {w : Nat → Nat} (hw : ∀ i, w i ≤ 1) : ∀ (n f : Nat), f < pre w n → ∃ x, x < n ∧ w x = 1 ∧ pre w x = f := by
  intro n
  induction n with
  | zero => intro f hf; exact absurd hf (by show ¬ f < 0; omega)
  | succ n ih =>
    intro f hf
    have hf' : f < pre w n + w n := hf
    by_cases hc : f < pre w n
    · obtain ⟨x, a, b, c⟩ := ih f hc
      exact ⟨x, by omega, b, c⟩
    · have := hw n
      exact ⟨n, by omega, by omega, by omega⟩
theorem pre_inj {w : Nat → Nat} {x y : Nat} (hx : w x = 1) (hy : w y = 1) (h : pre w x = pre w y) : x = y := by
  have key : ∀ a b : Nat, a < b → w a = 1 → pre w a < pre w b := by
    intro a b hab ha
    have := pre_mono (w := w) (b - (a + 1)) (a + 1)
    rw [show a + 1 + (b - (a + 1)) = b by omega] at this
    have e : pre w (a + 1) = pre w a + 1 := by show pre w a + w a = _; rw [ha]
    omega
  by_cases h1 : x < y
  · have := key x y h1 hx; omega
  · by_cases h2 : y < x
    · have := key y x h2 hy; omega
    · omega
theorem NB.s7 {σ τ : S5} {k m : Nat} {fs : Nat → Int32} (h : NB σ τ k fs m) (i v : Int32) : NB σ (pA τ 7 i v) k fs m := by
  obtain ⟨h1, h2, h3, h4, h5⟩ := h
  have e : ∀ (j : Nat) (x : Int32), ¬ j = 7 → xA (pA τ 7 i v) j x = xA τ j x := fun j x hj => by rw [xA_pA, if_neg (fun w => hj w.1)]
  refine ⟨h1.A (by omega), h2, fun j hj => ?_, fun x hx hx1 => ?_, fun f hf => ?_⟩
  · rw [e 26 _ (by decide), e 8 _ (by decide)]; exact h3 j hj
  · rw [e 26 _ (by decide), e 8 _ (by decide)]; exact h4 x hx hx1
  · rw [e 4 _ (by decide), e 11 _ (by decide)]; exact h5 f hf
/-- a function's scope -/
theorem NB.sc {σ τ : S5} {k S : Nat} {fs : Nat → Int32} (h : NB σ τ k fs S) (hS : S ≤ 630) (hf : ∀ i, i < k → 0 ≤ fs i ∧ fs i < 630) {f : Nat} (hF : f < k + pre (fC σ) S) : 0 ≤ xA τ 8 (nI f) ∧ xA τ 8 (nI f) < 630 := by
  by_cases hk : f < k
  · rw [(h.2.2.1 f hk).2]
    exact hf f hk
  · obtain ⟨x, x1, x2, x3⟩ := pre_sur (fC_le σ) S (f - k) (by omega)
    have q := (h.2.2.2.1 x x1 x2).2
    rw [x3, show k + (f - k) = f by omega] at q
    rw [q]
    exact ⟨i_le0 (nI_nneg (by omega)), (nI_lt31 (b := 630) (by omega) (by omega)).mpr (by omega)⟩
/-- the functions are numbered -/
def NU (σ τ : S5) (k : Nat) (fs : Nat → Int32) (S : Nat) : Prop := NB σ τ k fs S ∧ ∀ f, f < k + pre (fC σ) S → xA τ 7 (nI f) = xA σ 23 (xA τ 8 (nI f))
theorem nf_L99 {σ : S5} {k S : Nat} {fs : Nat → Int32} (hS : S ≤ 630) (hF : k + pre (fC σ) S ≤ 630) (hf : ∀ i, i < k → 0 ≤ fs i ∧ fs i < 630) : ∀ (d i m : Nat) (τ : S5), i + d = k + pre (fC σ) S → d < m → NB σ τ k fs S → (∀ f, f < i → xA τ 7 (nI f) = xA σ 23 (xA τ 8 (nI f))) → ∃ τ', f_X2_numberFunctions_L99 m (nI i) τ = some ((), τ') ∧ NU σ τ' k fs S := by
  intro d
  induction d with
  | zero =>
    intro i m τ hi hm hN h7
    obtain ⟨m, rfl⟩ : ∃ m', m = m' + 1 := ⟨m - 1, by omega⟩
    refine ⟨τ, ?_, hN, fun f hf => h7 f (by omega)⟩
    show f_X2_numberFunctions_B99 _ _ _ = _
    unfold f_X2_numberFunctions_B99
    rw [hN.2.1, if_pos ((nI_le31 (by omega) (by omega)).mpr (by omega))]
  | succ d ih =>
    intro i m τ hi hm hN h7
    obtain ⟨m, rfl⟩ : ∃ m', m = m' + 1 := ⟨m - 1, by omega⟩
    have hc : ¬ nI (k + pre (fC σ) S) ≤ nI i := fun w => by have := (nI_le31 (by omega) (by omega)).mp w; omega
    have hi0 : 0 ≤ nI i ∧ nI i < 630 := ⟨i_le0 (nI_nneg (by omega)), (nI_lt31 (b := 630) (by omega) (by omega)).mpr (by omega)⟩
    have hs := hN.sc hS hf (f := i) (by omega)
    obtain ⟨τ', q1, q2⟩ := ih (i + 1) m (pA τ 7 (nI i) (xA τ 23 (xA τ 8 (nI i)))) (by omega) (by omega) (hN.s7 _ _) (fun f hf => by
      rw [xA_pA τ 7 8, if_neg (fun w => absurd w.1 (by decide))]
      by_cases hfi : f = i
      · subst hfi
        rw [xA_pA, if_pos ⟨rfl, rfl⟩, hN.1.x 23 _ (by decide) (by decide) (by decide) (by decide) (by decide)]
      · rw [xA_pA, if_neg (fun w => tn_ne (by omega) (by omega) hfi w.2)]
        exact h7 f (by omega))
    refine ⟨τ', ?_, q2⟩
    rw [← q1, ← nI_add1]
    show f_X2_numberFunctions_B99 _ _ _ = _
    unfold f_X2_numberFunctions_B99
    rw [hN.2.1, if_neg hc, gd630 hi0.1 hi0.2, gd700 hs.1 (by grind), gd630 hi0.1 hi0.2]
/-- the class numbers its functions -/
theorem nf_go {σ μ : S5} {k : Nat} {cc fs fu fn ft : Nat → Int32} (hp : PG σ μ k cc fs fu fn ft) (hk : k ≤ 30) (h5 : gI σ 5 = nI k) (h6 : gI σ 6 = nI k) (h9 : gI σ 9 ≤ 630) (h90 : 0 ≤ gI σ 9) : ∃ τ, f_X2_numberFunctions σ = some ((), τ) ∧ NU σ τ k fs (gI σ 9).toNatClampNeg ∧ k + pre (fC σ) (gI σ 9).toNatClampNeg ≤ 630 := by
  have hfl := hp.fle h9 k (Nat.le_refl _)
  obtain ⟨⟨p1, p2, p3, p4, p5, p6, p7, p8⟩, hi, hdist⟩ := hp
  have hS : (gI σ 9).toNatClampNeg ≤ 630 := i_le (n := 630) h9
  rw [p2] at hfl
  unfold prI at hfl
  have hF : k + pre (fC σ) (gI σ 9).toNatClampNeg ≤ 630 := by omega
  have hf : ∀ i, i < k → xA σ 8 (nI i) = fs i ∧ 0 ≤ fs i ∧ fs i < 630 ∧ xA σ 21 (fs i) = -1 ∧ xA σ 4 (nI i) = 0 ∧ xA σ 11 (nI i) = 0 := by
    intro i hik
    obtain ⟨hq, hs, hu, hn, ht, hc⟩ := hi i hik
    exact ⟨hq.2.1.1, hs.1, by grind, hq.2.2.2.1.1, hq.2.1.2.1, hq.2.1.2.2⟩
  have hd : ∀ i j, i < j → j < k → fs i < fs j := by
    intro i j hij hjk
    have key : ∀ d, i + 1 + d < k → fs i < fs (i + 1 + d) := by
      intro d
      induction d with
      | zero =>
        intro _
        exact (hi i (by omega)).2.1.2.1
      | succ d ih =>
        intro hd
        have a1 := ih (by omega)
        have a2 := (hi (i + 1 + d) (by omega)).2.1.2.1
        show fs i < fs (i + 1 + d + 1)
        grind
    have := key (j - (i + 1)) (by omega)
    rw [show i + 1 + (j - (i + 1)) = j by omega] at this
    exact this
  have hbig := FU_big (n := 30000) (by decide)
  obtain ⟨τ1, a1, a2, a3, a4, a5, a6⟩ := nf_L2 (σ := σ) (fs := fs) hk h5 (fun i hik => ⟨(hf i hik).1, (hf i hik).2.1, (hf i hik).2.2.1⟩) hd k 0 FU σ (by omega) (by omega) h5 (fun _ => rfl) (fun j hj => absurd hj (by omega)) (FrN.rf σ) rfl (fun _ => ⟨rfl, rfl⟩)
  have hN : NB σ τ1 k fs 0 := by
    refine ⟨a4, by rw [a5, h6]; rfl, fun j hj => ⟨a3 j hj, by rw [a2]; exact (hf j hj).1⟩, fun x hx => absurd hx (by omega), fun f hff => ?_⟩
    have hfk : f < k := hff
    rw [(a6 _).1, (a6 _).2]
    exact (hf f hfk).2.2.2.2
  obtain ⟨τ2, b1, b2⟩ := nf_L39 (σ := σ) (fs := fs) (S := (gI σ 9).toNatClampNeg) hk hS (nI_tn h90) hF (fun i hik => ⟨(hf i hik).2.1, (hf i hik).2.2.2.1⟩) (gI σ 9).toNatClampNeg 0 FU τ1 (by omega) (by omega) hN
  obtain ⟨τ3, d1, d2⟩ := nf_L99 (σ := σ) (fs := fs) hS hF (fun i hik => ⟨(hf i hik).2.1, (hf i hik).2.2.1⟩) (k + pre (fC σ) (gI σ 9).toNatClampNeg) 0 FU τ2 (by omega) (by omega) b2 (fun f hff => absurd hff (by omega))
  exact ⟨τ3, a1.trans (b1.trans d1), d2, hF⟩
