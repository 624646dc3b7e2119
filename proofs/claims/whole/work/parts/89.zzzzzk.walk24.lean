theorem Wk.no2 {σ τr μ0 : S5} {k F : Nat} {S N : Int32} {D : Int32 → Nat} (h : Wk σ τr μ0 k F S N D) {n : Int32} (h0 : 0 ≤ n) (h1 : n < N) (h2 : fM μ0 n.toNatClampNeg = 0) : xA μ0 19 n = -1 := by
  rw [h.2.1 n h0 h1, if_neg]
  rw [h2]
  decide
theorem TBind.cn {σ μ : S5} {wc wm : Nat → Nat} (hL : Loc σ μ wc wm) {R : R10} (hR : ∀ h s s' u u' a b t n c, R h s s' u u' a b t n c → Ow σ h s → Cn wc wm s s' a b) {v : Int32} {i : Nat} {s s' u u' a b t n c : Int32} (q : TBind σ μ R v i s s' u u' a b t n c) (ho : Ow σ v s) (h0 : 0 ≤ v) (hs0 : 0 ≤ s) (hss : s ≤ s') (hs1 : s' ≤ 700) (hn0 : 0 ≤ a) (hn1 : a < 3200) : Cn wc wm s s' a b := by
  obtain ⟨d1, d2, d3, d4, d5, c1, d6, d7, d8, d9⟩ := q
  subst d2
  rcases d9 with ⟨d9, d10, d11⟩ | d9
  · exact (Cn.z hn0 hn1 (hL.2.2.2 a d9 (by rw [d1]; decide) (by rw [d1]; decide))).tr (hR _ _ _ _ _ _ _ _ _ _ d10 ho)
  · have hs9 := d9.2.2.2.2.2.2.2.2.1
    exact d9.cn hL hR (Or.inl d1) h0 hs0 (by clear hR d9; grind) hn0 hn1
theorem TAlt.cn {σ μ : S5} {wc wm : Nat → Nat} (hL : Loc σ μ wc wm) {R : R10} (hR : ∀ h s s' u u' a b t n c, R h s s' u u' a b t n c → Ow σ h s → Cn wc wm s s' a b) {h : Int32} {i : Nat} {s s' u u' a b t n c : Int32} (q : TAlt σ μ R h i s s' u u' a b t n c) (ho : Ow σ h s) (hs0 : 0 ≤ s) (hss : s ≤ s') (hs1 : s' ≤ 700) (hn0 : 0 ≤ a) (hn1 : a < 3200) : Cn wc wm s s' a b := by
  obtain ⟨d1, d2, c1, d3, d4, d5, d6⟩ := q
  subst d2
  unfold Ow at ho
  rcases d6 with ⟨f1, f2, f3, f4, f5, f6, f7, f8, f9, f10, f11, f12, f13⟩ | ⟨f1, f2, f3, f4⟩
  · have hs2 : ¬ xA σ 22 s = s := by rw [f9]; clear hR; grind
    have o2 : Ow σ s (s + 1) := by unfold Ow; rw [f9]; exact ⟨ho.1, by clear hR; grind⟩
    have hs7 : s < 700 := by clear hR; grind
    exact (Cn.o hn0 hn1 hs0 hs7 (hL.2.2.1 s a hs0 hs7 d1 f1 f10.1 hs2)).tr (hR _ _ _ _ _ _ _ _ _ _ f12 o2)
  · exact (Cn.z hn0 hn1 (hL.2.2.2 a f1 (by rw [d1]; decide) (by rw [d1]; decide))).tr (hR _ _ _ _ _ _ _ _ _ _ f3 ho)
/-- what is known of the subtrees of a subtree -/
def HR (σ τr μ0 : S5) (k U F : Nat) (S N : Int32) (D : Int32 → Nat) (R : R10) : Prop := ∀ h s s' u u' a b t n c, R h s s' u u' a b t n c → (Bd h s s' u u' a b t n c) ∧ (Ow σ h s → Cn (fC σ) (fM μ0) s s' a b) ∧ (Pm σ μ0 U S N h s s' u' a b → GoT σ τr μ0 k F S D h s s' u u' a b n)
theorem gt_bind {σ τr μ0 : S5} {k U F : Nat} {fs : Nat → Int32} {S N : Int32} (hE : Env σ τr μ0 k U F fs S) {D : Int32 → Nat} (hw : Wk σ τr μ0 k F S N D) {R : R10} (hR : HR σ τr μ0 k U F S N D R) {v : Int32} {i : Nat} {s s' u u' a b t n c : Int32} (q : TBind σ μ0 R v i s s' u u' a b t n c) (hv0 : 0 ≤ v) (hv : v < s) (ha0 : 0 ≤ a) (hab : a < b) (hb : b ≤ 3200) (hp : Pm σ μ0 U S N v s s' u' a b) : GoT σ τr μ0 k F S D v s s' u u' a b n ∧ xB μ0 0 n = xB σ 3 (v * 5 + nI i) := by
  obtain ⟨d1, d2, d3, d4, d5, c1, d6, d7, d8, d9⟩ := q
  subst d2
  refine ⟨?_, d5.symm⟩
  have hn1 : a < 3200 := by grind
  have hs0 : 0 ≤ s := by grind
  rcases d9 with ⟨f1, f2, f3⟩ | f
  · obtain ⟨p1, p2, p3, p4, p5⟩ := hp
    obtain ⟨x1, x2, x3⟩ := hR _ _ _ _ _ _ _ _ _ _ f2
    have hz : fM μ0 a.toNatClampNeg = 0 := by unfold fM; rw [xA_tn, xA_tn, d1, f1, if_neg (by decide)]
    unfold Wi at f3
    unfold Bd at x1
    exact gt_one ha0 hn1 (hw.no2 ha0 (by grind) hz) f1 (Or.inl d1) (x3 ⟨p1, p2, p3, p4, by rw [prI_s _ ha0 (lt_7 hn1), hz]; exact p5⟩) (by grind) (by grind) hb
  · exact gt_funT hE hw (R := R) (fun _ _ _ _ _ _ _ _ _ _ r => ⟨(hR _ _ _ _ _ _ _ _ _ _ r).1, (hR _ _ _ _ _ _ _ _ _ _ r).2.2⟩) f (Or.inl d1) hv0 hv hs0 ha0 hn1 hb hp
theorem gt_altT {σ τr μ0 : S5} {k U F : Nat} {fs : Nat → Int32} {S N : Int32} (hE : Env σ τr μ0 k U F fs S) {D : Int32 → Nat} (hw : Wk σ τr μ0 k F S N D) {R : R10} (hR : HR σ τr μ0 k U F S N D R) {h : Int32} {i : Nat} {s s' u u' a b t n c : Int32} (q : TAlt σ μ0 R h i s s' u u' a b t n c) (h0 : 0 ≤ h) (hh : h < s) (ha0 : 0 ≤ a) (hab : a < b) (hb : b ≤ 3200) (hp : Pm σ μ0 U S N h s s' u' a b) : GoT σ τr μ0 k F S D h s s' u u' a b n := by
  obtain ⟨d1, d2, c1, d3, d4, d5, d6⟩ := q
  subst d2
  obtain ⟨p1, p2, p3, p4, p5⟩ := hp
  unfold Ow at p1
  have hn1 : a < 3200 := by grind
  have hs0 : 0 ≤ s := by grind
  have hz : fM μ0 a.toNatClampNeg = 0 := by unfold fM; rw [xA_tn, d1, if_neg (fun w => w.elim (fun e => absurd e (by decide)) (fun e => absurd e.1 (by decide)))]
  have h19 := hw.no2 ha0 (by grind) hz
  rcases d6 with ⟨f1, f2, f3, f4, f5, f6, f7, f8, f9, f10, f11, f12, f13⟩ | ⟨f1, f2, f3, f4⟩
  · obtain ⟨x1, x2, x3⟩ := hR _ _ _ _ _ _ _ _ _ _ f12
    unfold Wi at f13
    unfold Bd at x1
    have sS : s < S := by grind
    have hs2 : ¬ xA σ 22 s = s := by rw [f9]; grind
    have o2 : Ow σ s (s + 1) := by unfold Ow; rw [f9]; exact ⟨p1.1, by grind⟩
    have hj0 := f10.2.1
    have hj5 := f10.2.2.1
    have hj : (xA μ0 10 a).toNatClampNeg ≤ 5 := i_le (n := 5) hj5
    have hD := hw.1 s hs0 sS
    have hDh := hw.1 h h0 (by grind)
    have hc : fC σ s.toNatClampNeg = 0 := by unfold fC; rw [xA_tn, ← nI_tn hs0, if_neg (fun w => hs2 w.1)]
    exact gt_alt hE (j := (xA μ0 10 a).toNatClampNeg) ha0 hn1 h19 d1 h0 hs0 sS f8 f9 hs2 hDh.1 (by rw [hD.2 (by rw [f8]; exact h0), f8]) f10 (nI_tn hj0) hj hw.2.2.2 (x3 ⟨o2, p2, p3, p4, by rw [prI_s _ ha0 (lt_7 hn1), hz, prI_s _ hs0 (by grind), hc]; exact p5⟩) (by grind) (by grind) hb
  · obtain ⟨x1, x2, x3⟩ := hR _ _ _ _ _ _ _ _ _ _ f3
    unfold Wi at f4
    unfold Bd at x1
    exact gt_one ha0 hn1 h19 f1 (Or.inr d1) (x3 ⟨p1, p2, p3, p4, by rw [prI_s _ ha0 (lt_7 hn1), hz]; exact p5⟩) (by grind) (by grind) hb
