theorem PG.cu {σ μ : S5} {k : Nat} {cc fs fu fn ft : Nat → Int32} (hp : PG σ μ k cc fs fu fn ft) (m9 : gI μ 9 ≤ 2200) : ∀ i, i ≤ k → (fu i).toNatClampNeg = prI (w8 μ) (fn i) ∧ (fu i).toNatClampNeg = prI (w3 σ) (ft i) := by
  obtain ⟨⟨p1, p2, p3, p4, p5, p6, p7, p8⟩, hi, -⟩ := hp
  intro i
  induction i with
  | zero => intro _; rw [p3, p5, p7]; exact ⟨rfl, rfl⟩
  | succ i ih =>
    intro hik
    obtain ⟨q1, q2⟩ := ih (by omega)
    obtain ⟨hq, hs, hu, hn, ht, htc⟩ := hi i (by omega)
    have x := (Cu.m (σ := σ) (μ := μ) (u := fu i) (t := ft i) hn.1 (by grind) (by rw [hq.2.2.1.2.2]; decide)).tr hq.2.2.2.2.2.2.2.cu
    rw [← htc] at x
    unfold Cu at x
    omega
theorem PG.cx {σ μ : S5} {k : Nat} {cc fs fu fn ft : Nat → Int32} (hp : PG σ μ k cc fs fu fn ft) (h9 : gI σ 9 ≤ 630) (m9 : gI μ 9 ≤ 2200) {i : Nat} (hik : i < k) : Cx σ μ (fs i) (fs i + 1) (fu i) (fn i + 1) (ft i) := by
  have c1 := hp.cf h9 m9 i (by omega)
  have c2 := hp.cv h9 m9 i (by omega)
  obtain ⟨c3, c4⟩ := hp.cu m9 i (by omega)
  obtain ⟨hq, hs, hu, hn, ht, htc⟩ := hp.2.1 i hik
  obtain ⟨e1, -, ⟨e5, e6, e7⟩, ⟨e8, e9, e10⟩, e11, -⟩ := hq
  have hf : fM μ (fn i).toNatClampNeg = 0 := fM_z (by rw [e7]; decide) (Or.inl (by rw [e7]; decide))
  have hc : fC σ (fs i).toNatClampNeg = 0 := by unfold fC; rw [xA_tn, xA_tn, ← nI_tn hs.1, if_neg (fun w => w.2 e8)]
  have hv := vCM (σ := σ) (s := fs i) (n := fn i) (by rw [e7]; decide) e11.1
  have h8 : w8 μ (fn i).toNatClampNeg = 0 := by unfold w8; rw [xA_tn, if_neg (by rw [e7]; decide)]
  refine ⟨⟨hs.1, by grind⟩, ⟨by rw [e9]; exact hs.1, by rw [e9]; grind⟩, ?_, ?_, ?_, c4⟩
  · rw [prI_s _ hs.1 (by grind), prI_s _ hn.1 (by grind), hf, hc, c1]
  · rw [prI_s _ hs.1 (by grind), prI_s _ hn.1 (by grind), hv, c2]
  · rw [prI_s _ hn.1 (by grind), h8]; exact c3
/-- every node, scope and use of the program -/
theorem PG.cov {σ μ : S5} {k : Nat} {cc fs fu fn ft : Nat → Int32} (hp : PG σ μ k cc fs fu fn ft) (h9 : gI σ 9 ≤ 630) (m9 : gI μ 9 ≤ 2200) : CV σ μ (gI σ 9) 0 (gI σ 9) 0 (gI σ 10) 0 (gI σ 8) := by
  have hcx := fun i hi => hp.cx h9 m9 (i := i) hi
  obtain ⟨⟨p1, p2, p3, p4, p5, p6, p7, p8⟩, hi, -⟩ := hp
  have key : ∀ i, i ≤ k → CV σ μ (gI σ 9) 0 (fs i) 0 (fu i) 0 (ft i) := by
    intro i
    induction i with
    | zero =>
      intro _
      rw [p1, p3, p7]
      exact ⟨fun x a b => absurd b (by grind), fun x a b => absurd b (by grind), fun x a b => absurd b (by grind)⟩
    | succ i ih =>
      intro hik
      obtain ⟨hq, hs, hu, hn, ht, htc⟩ := hi i (by omega)
      have hc : fC σ (fs i).toNatClampNeg = 0 := by unfold fC; rw [xA_tn, xA_tn, ← nI_tn hs.1, if_neg (fun w => w.2 hq.2.2.2.1.1)]
      have x := hq.2.2.2.2.2.2.2.cov (S := gI σ 9) hs.2.2 (hcx i (by omega))
      rw [← htc] at x
      exact (ih (by omega)).tr ((CV.s (fun w => absurd w (by rw [hc]; decide)) hs.1 (by grind)).tr x)
  have := key k (Nat.le_refl _)
  rw [p2, p4, p8] at this
  exact this
/-- the functions of both: a scope, a node, the two bodies -/
def FBo (σ μ : S5) (k : Nat) (x y c : Int32) : Prop := ∃ s' u u' b t, TNames σ μ x y ∧ xA σ 24 x = xA μ 6 y ∧ (xA σ 22 x = x ∧ 0 ≤ x ∧ x < 700) ∧ (0 ≤ y ∧ y < 3200) ∧ xA σ 23 x = c ∧ xA σ 17 c = -1 ∧ TR σ μ x (x + 1) s' u u' (y + 1) b t (xA μ 3 y) c ∧ Cx σ μ x (x + 1) u (y + 1) t
theorem IS.fb {σ μ : S5} {x : Int32} (h : IS σ μ x) (hf : fC σ x.toNatClampNeg = 1) (k : Nat) : ∃ y c, FBo σ μ k x y c ∧ fM μ y.toNatClampNeg = 1 ∧ prI (fC σ) x = prI (fM μ) y := by
  obtain ⟨h0, s', u, u', y, b, t, c0, ⟨⟨y0, y1, y2⟩, s7, hk⟩, q, cx⟩ := h hf
  obtain ⟨e1, e2, e3, e4, e5, e6, e7, e8, e9, c2, e10, e11, e12, e13, e14⟩ := q
  unfold Wi at e13
  have hs0 : 0 ≤ x := by have := cx.1; grind
  have f1 : fM μ y.toNatClampNeg = 1 := by
    unfold fM
    rw [xA_tn, xA_tn, if_pos (hk.elim (fun w => Or.inr ⟨w, e8⟩) Or.inl)]
  have hv := vCM (σ := σ) (s := x) (n := y) (by rcases hk with w | w <;> rw [w] <;> decide) e7.1
  exact ⟨y, c2, ⟨s', u, u', b, t, e7, e6, ⟨e5, hs0, by grind⟩, ⟨y0, by grind⟩, e10, e11, e12, cx.sub (by grind) y0 (by grind) (hf.trans f1.symm) hv (by rcases hk with w | w <;> rw [w] <;> decide) (Or.inl e5)⟩, f1, cx.2.2.1⟩
