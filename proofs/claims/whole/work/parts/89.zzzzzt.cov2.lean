theorem TBind.mono {σ μ : S5} {R R' : R10} (hR : ∀ h s s' u u' a b t n c, R h s s' u u' a b t n c → R' h s s' u u' a b t n c) {v : Int32} {i : Nat} {s s' u u' a b t n c : Int32} (w : TBind σ μ R v i s s' u u' a b t n c) : TBind σ μ R' v i s s' u u' a b t n c := by
  obtain ⟨d1, d2, d3, d4, d5, c1, d6, d7, d8, d9⟩ := w
  refine ⟨d1, d2, d3, d4, d5, c1, d6, d7, d8, ?_⟩
  rcases d9 with ⟨d9, d10, d11⟩ | d9
  · exact Or.inl ⟨d9, hR _ _ _ _ _ _ _ _ _ _ d10, d11⟩
  · exact Or.inr (TFun_mono hR d9)
theorem TAlt.mono {σ μ : S5} {R R' : R10} (hR : ∀ h s s' u u' a b t n c, R h s s' u u' a b t n c → R' h s s' u u' a b t n c) {h : Int32} {i : Nat} {s s' u u' a b t n c : Int32} (w : TAlt σ μ R h i s s' u u' a b t n c) : TAlt σ μ R' h i s s' u u' a b t n c := by
  obtain ⟨d1, d2, c1, d3, d4, d5, d6⟩ := w
  refine ⟨d1, d2, c1, d3, d4, d5, ?_⟩
  rcases d6 with ⟨f1, f2, f3, f4, f5, f6, f7, f8, f9, f10, f11, f12, f13⟩ | ⟨f1, f2, f3, f4⟩
  · exact Or.inl ⟨f1, f2, f3, f4, f5, f6, f7, f8, f9, f10, f11, hR _ _ _ _ _ _ _ _ _ _ f12, f13⟩
  · exact Or.inr ⟨f1, f2, hR _ _ _ _ _ _ _ _ _ _ f3, f4⟩
/-- what is known where a subtree begins -/
def Cx (σ μ : S5) (h s u a t : Int32) : Prop := (0 ≤ h ∧ h < s) ∧ Ow σ h s ∧ prI (fC σ) s = prI (fM μ) a ∧ prI (vC σ) s = prI (vM μ) a ∧ u.toNatClampNeg = prI (w8 μ) a ∧ u.toNatClampNeg = prI (w3 σ) t
theorem Cx.node {σ μ : S5} {h s u a t : Int32} (q : Cx σ μ h s u a t) (h0 : 0 ≤ a) (h1 : a < 3200) (hf : fM μ a.toNatClampNeg = 0) (hv : vM μ a.toNatClampNeg = 0) (h8 : ¬ xA μ 2 a = 8) : Cx σ μ h s u (a + 1) t := by
  have e : w8 μ a.toNatClampNeg = 0 := by unfold w8; rw [xA_tn, if_neg h8]
  obtain ⟨q1, q2, q3, q4, q5, q6⟩ := q
  refine ⟨q1, q2, ?_, ?_, ?_, q6⟩
  · rw [prI_s _ h0 (lt_7 h1), hf]; exact q3
  · rw [prI_s _ h0 (lt_7 h1), hv]; exact q4
  · rw [prI_s _ h0 (lt_7 h1), e]; exact q5
theorem Cx.over {σ μ : S5} {h s s1 u u1 a a1 t t1 : Int32} (q : Cx σ μ h s u a t) (hf : Cn (fC σ) (fM μ) s s1 a a1) (hv : Cn (vC σ) (vM μ) s s1 a a1) (hu : Cu σ μ u u1 a a1 t t1) (hs : s ≤ s1) : Cx σ μ h s1 u1 a1 t1 := by
  obtain ⟨⟨q1, q1'⟩, ⟨q2, q2'⟩, q3, q4, q5, q6⟩ := q
  unfold Cn at hf hv
  unfold Cu at hu
  refine ⟨⟨q1, by grind⟩, ⟨q2, by grind⟩, ?_, ?_, ?_, ?_⟩ <;> omega
theorem Cx.sub {σ μ : S5} {h s u a t : Int32} (q : Cx σ μ h s u a t) (s1 : s < 700) (h0 : 0 ≤ a) (h1 : a < 3200) (hf : fC σ s.toNatClampNeg = fM μ a.toNatClampNeg) (hv : vC σ s.toNatClampNeg = vM μ a.toNatClampNeg) (h8 : ¬ xA μ 2 a = 8) (ho : xA σ 22 s = s ∨ xA σ 22 s = xA σ 22 h) : Cx σ μ s (s + 1) u (a + 1) t := by
  have e : w8 μ a.toNatClampNeg = 0 := by unfold w8; rw [xA_tn, if_neg h8]
  obtain ⟨⟨q1, q1'⟩, ⟨q2, q2'⟩, q3, q4, q5, q6⟩ := q
  have s0 : 0 ≤ s := by grind
  refine ⟨⟨s0, by grind⟩, ?_, ?_, ?_, ?_, q6⟩
  · unfold Ow
    rcases ho with w | w
    · rw [w]; exact ⟨s0, by grind⟩
    · rw [w]; exact ⟨q2, by grind⟩
  · rw [prI_s _ h0 (lt_7 h1), prI_s _ s0 (by grind), hf, q3]
  · rw [prI_s _ h0 (lt_7 h1), prI_s _ s0 (by grind), hv, q4]
  · rw [prI_s _ h0 (lt_7 h1), e]; exact q5
theorem TRow.cx {σ μ σ1 μ1 : S5} {P : Nat → Int32 → Int32 → Int32 → Int32 → Int32 → Int32 → Int32 → Int32 → Int32 → Prop} {k : Nat} {hh s s' u u' a b t c n1 c1 nn : Int32} {gap : Nat → Int32} (h : TRow σ μ P k s s' u u' a b t c n1 c1 nn gap) (hP : ∀ i s1 s1' u1 u1' a1 b1 t1 n1 c1, i < k → P i s1 s1' u1 u1' a1 b1 t1 n1 c1 → Wi s s' u u' a b t c s1 s1' u1 u1' a1 b1 t1 c1 → Cn (fC σ1) (fM μ1) s1 s1' a1 b1 ∧ Cn (vC σ1) (vM μ1) s1 s1' a1 b1 ∧ Cu σ1 μ1 u1 u1' a1 b1 t1 (c1 + 1)) (hg : ∀ i, i < k → gap i = 0 ∨ (gap i = 1 ∧ fM μ1 nn.toNatClampNeg = 0 ∧ vM μ1 nn.toNatClampNeg = 0 ∧ ¬ xA μ1 2 nn = 8)) (h0 : 0 ≤ nn) (h1 : nn < 3200) (hc : Cx σ1 μ1 hh s u a t) : TRow σ μ (fun i s1 s1' u1 u1' a1 b1 t1 n1 c1 => P i s1 s1' u1 u1' a1 b1 t1 n1 c1 ∧ Cx σ1 μ1 hh s1 u1 a1 t1) k s s' u u' a b t c n1 c1 nn gap ∧ Cx σ1 μ1 hh s' u' b c := by
  obtain ⟨g, cc, fs, fu, fn, ft, e1, e2, e3, e4, e5, e6, ⟨e7, e7'⟩, e8, e9, hi⟩ := h
  have hgap : ∀ j, j < k → Cx σ1 μ1 hh (fs j) (fu j) (fn j) (ft j) → Cx σ1 μ1 hh (fs j) (fu j) (fn j + gap j) (ft j) := by
    intro j hj q
    obtain ⟨d1, d2, d3, d4, d5, d6, d7, d8, d9⟩ := hi j hj
    rcases hg j hj with w | ⟨w, w0, w1, w2⟩
    · rw [w, Int32.add_zero]; exact q
    · have hn := d8 w
      rw [hn] at q
      rw [w, hn]
      exact q.node h0 h1 w0 w1 w2
  have key : ∀ j, j ≤ k → Cx σ1 μ1 hh (fs j) (fu j) (fn j) (ft j) := by
    intro j
    induction j with
    | zero => intro _; rw [e1, e3, e5, e7]; exact hc
    | succ j ih =>
      intro hj
      have q := hgap j (by omega) (ih (by omega))
      obtain ⟨d1, d2, d3, d4, d5, d6, d7, d8, d9⟩ := hi j (by omega)
      obtain ⟨q2, q3, q4⟩ := hP _ _ _ _ _ _ _ _ _ _ (by omega) d1 d2
      rw [← d5] at q4
      exact q.over q2 q3 q4 d2.2.1
  refine ⟨⟨g, cc, fs, fu, fn, ft, e1, e2, e3, e4, e5, e6, ⟨e7, e7'⟩, e8, e9, fun i hk => ?_⟩, ?_⟩
  · obtain ⟨d1, d2⟩ := hi i hk
    exact ⟨⟨d1, hgap i hk (key i (by omega))⟩, d2⟩
  · have := key k (Nat.le_refl _)
    rw [e2, e4, e6, e7'] at this
    exact this
/-- a node of the tree: what it is a root of -/
def IT (σ μ : S5) (S j : Int32) : Prop := (∃ h s s' u u' a b t n, s' ≤ S ∧ TR σ μ h s s' u u' a b t n j ∧ Cx σ μ h s u a t) ∨ (∃ v i s s' u u' a b t n, (i < 5 ∧ s' ≤ 700 ∧ b ≤ 3200 ∧ s' ≤ S) ∧ TBind σ μ (TR σ μ) v i s s' u u' a b t n j ∧ Cx σ μ v s u a t) ∨ (∃ h i s s' u u' a b t n, (s' ≤ 700 ∧ s' ≤ S) ∧ TAlt σ μ (TR σ μ) h i s s' u u' a b t n j ∧ Cx σ μ h s u a t) ∨ (∃ h s s' u u' n b t, (s' ≤ 700 ∧ s' ≤ S ∧ (xA μ 2 n = 1 ∨ xA μ 2 n = 2)) ∧ TFun σ μ (TR σ μ) h s s' u u' n b t j ∧ Cx σ μ h s u n t)
/-- a function within -/
def IS (σ μ : S5) (x : Int32) : Prop := fC σ x.toNatClampNeg = 1 → ∃ h s' u u' y b t c, ((0 ≤ y ∧ y < b ∧ b ≤ 3200) ∧ s' ≤ 700 ∧ (xA μ 2 y = 1 ∨ xA μ 2 y = 2)) ∧ TFun σ μ (TR σ μ) h x s' u u' y b t c ∧ Cx σ μ h x u y t
/-- a use -/
def IU (σ μ : S5) (S v : Int32) : Prop := ∃ h n c, (0 ≤ h ∧ h < S) ∧ (0 ≤ n ∧ n < 3200) ∧ (0 ≤ c ∧ c < 6200) ∧ xA μ 2 n = 8 ∧ xA σ 13 c = 3 ∧ xA σ 16 c = -1 ∧ xB σ 4 v = xB μ 0 n ∧ xA σ 27 v = h ∧ xA σ 28 v = xA μ 6 n ∧ xA σ 29 v = c ∧ v.toNatClampNeg = prI (w8 μ) n ∧ v.toNatClampNeg = prI (w3 σ) c
/-- all of a stretch -/
def CV (σ μ : S5) (S s s' u u' t e : Int32) : Prop := (∀ j, t ≤ j → j < e → IT σ μ S j) ∧ (∀ x, s ≤ x → x < s' → IS σ μ x) ∧ (∀ v, u ≤ v → v < u' → IU σ μ S v)
theorem CV.tr {σ μ : S5} {S s s1 s' u u1 u' t t1 e : Int32} (h : CV σ μ S s s1 u u1 t t1) (h2 : CV σ μ S s1 s' u1 u' t1 e) : CV σ μ S s s' u u' t e := by
  refine ⟨fun j a b => ?_, fun x a b => ?_, fun v a b => ?_⟩
  · by_cases q : j < t1
    · exact h.1 j a q
    · exact h2.1 j (by grind) b
  · by_cases q : x < s1
    · exact h.2.1 x a q
    · exact h2.2.1 x (by grind) b
  · by_cases q : v < u1
    · exact h.2.2 v a q
    · exact h2.2.2 v (by grind) b
theorem CV.n {σ μ : S5} {S s u j : Int32} (h : IT σ μ S j) (h0 : 0 ≤ j) (h1 : j < 7000) : CV σ μ S s s u u j (j + 1) := by
  refine ⟨fun x a b => ?_, fun x a b => absurd b (by grind), fun x a b => absurd b (by grind)⟩
  have : x = j := by grind
  rw [this]
  exact h
theorem CV.s {σ μ : S5} {S s u t : Int32} (h : IS σ μ s) (h0 : 0 ≤ s) (h1 : s < 7000) : CV σ μ S s (s + 1) u u t t := by
  refine ⟨fun x a b => absurd b (by grind), fun x a b => ?_, fun x a b => absurd b (by grind)⟩
  have : x = s := by grind
  rw [this]
  exact h
theorem TRow.cv {σ μ σ1 μ1 : S5} {S : Int32} {P : Nat → Int32 → Int32 → Int32 → Int32 → Int32 → Int32 → Int32 → Int32 → Int32 → Prop} {k : Nat} {s s' u u' a b t c n1 c1 nn : Int32} {gap : Nat → Int32} (h : TRow σ μ P k s s' u u' a b t c n1 c1 nn gap) (hP : ∀ i s1 s1' u1 u1' a1 b1 t1 n1 c1, i < k → P i s1 s1' u1 u1' a1 b1 t1 n1 c1 → Wi s s' u u' a b t c s1 s1' u1 u1' a1 b1 t1 c1 → CV σ1 μ1 S s1 s1' u1 u1' t1 (c1 + 1)) : CV σ1 μ1 S s s' u u' t c := by
  obtain ⟨g, cc, fs, fu, fn, ft, e1, e2, e3, e4, e5, e6, ⟨e7, e7'⟩, e8, e9, hi⟩ := h
  have key : ∀ j, j ≤ k → CV σ1 μ1 S s (fs j) u (fu j) t (ft j) := by
    intro j
    induction j with
    | zero =>
      intro _
      rw [e1, e3, e7]
      exact ⟨fun x a b => absurd b (by grind), fun x a b => absurd b (by grind), fun x a b => absurd b (by grind)⟩
    | succ j ih =>
      intro hj
      obtain ⟨d1, d2, d3, d4, d5, d6, d7, d8, d9⟩ := hi j (by omega)
      have q2 := hP _ _ _ _ _ _ _ _ _ _ (by omega) d1 d2
      rw [← d5] at q2
      exact (ih (by omega)).tr q2
  have := key k (Nat.le_refl _)
  rw [e2, e4, e7'] at this
  exact this
