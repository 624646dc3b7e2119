/-- what the walk over all needs -/
def Wk (σ τr μ0 : S5) (k F : Nat) (S N : Int32) (D : Int32 → Nat) : Prop := (∀ x, 0 ≤ x → x < S → D x ≤ 61 ∧ (0 ≤ xA σ 21 x → D x = D (xA σ 21 x) + 1)) ∧ (∀ n, 0 ≤ n → n < N → xA μ0 19 n = if fM μ0 n.toNatClampNeg = 1 then nI (k + prI (fM μ0) n) else -1) ∧ (∀ s, 0 ≤ s → s < S → xA σ 22 s = s → 0 ≤ xA σ 21 s → xA τr 26 s = nI (k + prI (fC σ) s) ∧ k + prI (fC σ) s < F) ∧ gI μ0 10 ≤ 3000
/-- what must hold where a subtree begins -/
def Pm (σ μ0 : S5) (U : Nat) (S N h s s' u' a b : Int32) : Prop := Ow σ h s ∧ b ≤ N ∧ s' ≤ S ∧ u'.toNatClampNeg ≤ U ∧ prI (fC σ) s = prI (fM μ0) a
theorem Wk.no {σ τr μ0 : S5} {k F : Nat} {S N : Int32} {D : Int32 → Nat} (h : Wk σ τr μ0 k F S N D) {n : Int32} (h0 : 0 ≤ n) (h1 : n < N) (h10 : xA μ0 10 n = 0) (h2 : ¬ xA μ0 2 n = 2) : xA μ0 19 n = -1 := by
  rw [h.2.1 n h0 h1, if_neg]
  unfold fM
  rw [xA_tn, xA_tn, if_neg (by grind)]
  decide
theorem gt_funT {σ τr μ0 : S5} {k U F : Nat} {fs : Nat → Int32} {S N : Int32} (hE : Env σ τr μ0 k U F fs S) {D : Int32 → Nat} (hw : Wk σ τr μ0 k F S N D) {R : R10} (hR : ∀ h s s' u u' a b t n c, R h s s' u u' a b t n c → (Bd h s s' u u' a b t n c) ∧ (Pm σ μ0 U S N h s s' u' a b → GoT σ τr μ0 k F S D h s s' u u' a b n)) {h s s' u u' n b t c : Int32} (q : TFun σ μ0 R h s s' u u' n b t c) (hk : xA μ0 2 n = 1 ∨ xA μ0 2 n = 2) (h0 : 0 ≤ h) (hh : h < s) (hs0 : 0 ≤ s) (hn0 : 0 ≤ n) (hn1 : n < 3200) (hb : b ≤ 3200) (hp : Pm σ μ0 U S N h s s' u' n b) : GoT σ τr μ0 k F S D h s s' u u' n b n := by
  obtain ⟨e1, e2, e3, e4, e5, e6, e7, e8, e9, c2, e10, e11, e12, e13, e14⟩ := q
  obtain ⟨p1, p2, p3, p4, p5⟩ := hp
  obtain ⟨hb12, g12⟩ := hR _ _ _ _ _ _ _ _ _ _ e12
  unfold Bd at hb12
  unfold Wi at e13
  have sS : s < S := by grind
  have hj0 := e7.2.1
  have hj5 := e7.2.2.1
  have hjn := nI_tn hj0
  have hj : (xA μ0 10 n).toNatClampNeg ≤ 5 := i_le (n := 5) hj5
  have hj1 : 1 ≤ (xA μ0 10 n).toNatClampNeg := i_lt (a := 0) (n := xA μ0 10 n) (by decide) e8
  have hnum := hw.2.2.1 s hs0 sS e5 (by rw [e4]; exact h0)
  have f1 : fM μ0 n.toNatClampNeg = 1 := by
    unfold fM
    rw [xA_tn, xA_tn, if_pos (hk.elim (fun w => Or.inr ⟨w, e8⟩) Or.inl)]
  have c1 : fC σ s.toNatClampNeg = 1 := by
    unfold fC
    rw [xA_tn, xA_tn, ← nI_tn hs0, if_pos ⟨e5, by rw [e4]; grind⟩]
  have hD := hw.1 s hs0 sS
  have hDh := hw.1 h h0 (by grind)
  refine gt_fun hE (f := k + prI (fC σ) s) (j := (xA μ0 10 n).toNatClampNeg) hn0 hn1 hk h0 (by grind) hs0 sS e4 e5 hDh.1 (by rw [hD.2 (by rw [e4]; exact h0), e4]) e7 hjn hj hj1 hw.2.2.2 hnum.1 hnum.2 (by rw [hw.2.1 n hn0 (by grind), if_pos f1, p5]) hE.2.2.2.2.1 (g12 ?_) (by grind) (by grind) hb
  refine ⟨by unfold Ow; rw [e5]; exact ⟨hs0, by grind⟩, p2, p3, p4, ?_⟩
  rw [prI_s _ hs0 (by grind), prI_s _ hn0 (by grind), f1, c1, p5]
