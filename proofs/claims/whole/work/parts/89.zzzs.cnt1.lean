/-- the sum of a row's numbers before a place -/
def pre (w : Nat → Nat) : Nat → Nat
  | 0 => 0
  | n + 1 => pre w n + w n
def prI (w : Nat → Nat) (x : Int32) : Nat := pre w x.toNatClampNeg
theorem tn_s {x : Int32} (h0 : 0 ≤ x) (h1 : x < 7000) : (x + 1).toNatClampNeg = x.toNatClampNeg + 1 := by
  have hs := nI_tn h0
  have hl : x.toNatClampNeg < 7000 := i_lt (n := 7000) (fun w => by grind) h1
  generalize x.toNatClampNeg = n at hs hl ⊢
  subst hs
  rw [nI_add1]
  exact nI_clamp (by omega)
theorem prI_s (w : Nat → Nat) {x : Int32} (h0 : 0 ≤ x) (h1 : x < 7000) : prI w (x + 1) = prI w x + w x.toNatClampNeg := by
  unfold prI
  rw [tn_s h0 h1]
  rfl
/-- the length of a chain of nodes -/
def ln (μ : S5) : Nat → Int32 → Nat
  | 0, _ => 0
  | m + 1, x => if x < 0 then 0 else ln μ m (xA μ 5 x) + 1
/-- weights of scopes and nodes, alike where they belong together -/
def Loc (σ μ : S5) (wc wm : Nat → Nat) : Prop := (∀ s n : Int32, 0 ≤ s → s < 700 → xA σ 22 s = s → 0 ≤ xA σ 21 s → xA σ 20 s = xA μ 10 n → 0 < xA μ 10 n → xA μ 2 n = 1 ∨ xA μ 2 n = 2 → wc s.toNatClampNeg = wm n.toNatClampNeg) ∧ (∀ (s n : Int32) (k : Nat) (g : Nat → Int32), 0 ≤ s → s < 700 → xA μ 2 n = 0 → xA σ 20 s = nI k → 1 ≤ k → k ≤ 5 → ¬ xA σ 22 s = s → g 0 = xA μ 3 n → (∀ i, i < k → 0 ≤ g i ∧ xA μ 5 (g i) = if i + 1 < k then g (i + 1) else -1) → wc s.toNatClampNeg = wm n.toNatClampNeg) ∧ (∀ s n : Int32, 0 ≤ s → s < 700 → xA μ 2 n = 4 → xA μ 8 n = 0 → xA σ 20 s = xA μ 10 n → ¬ xA σ 22 s = s → wc s.toNatClampNeg = wm n.toNatClampNeg) ∧ (∀ n : Int32, xA μ 10 n = 0 → ¬ xA μ 2 n = 0 → ¬ xA μ 2 n = 2 → wm n.toNatClampNeg = 0)
/-- sums over a stretch of scopes and a stretch of nodes are alike -/
def Cn (wc wm : Nat → Nat) (s s' a b : Int32) : Prop := prI wc s' + prI wm a = prI wm b + prI wc s
theorem TRow.cn {σ μ : S5} {wc wm : Nat → Nat} {P : Nat → Int32 → Int32 → Int32 → Int32 → Int32 → Int32 → Int32 → Int32 → Int32 → Prop} {k : Nat} {s s' u u' a b t c n1 c1 nn : Int32} {gap : Nat → Int32} (h : TRow σ μ P k s s' u u' a b t c n1 c1 nn gap) (hP : ∀ i s1 s1' u1 u1' a1 b1 t1 n1 c1, i < k → P i s1 s1' u1 u1' a1 b1 t1 n1 c1 → Wi s s' u u' a b t c s1 s1' u1 u1' a1 b1 t1 c1 → Cn wc wm s1 s1' a1 b1) (hg : ∀ i, i < k → gap i = 0 ∨ (gap i = 1 ∧ wm nn.toNatClampNeg = 0)) (h0 : 0 ≤ nn) (h1 : nn < 3200) : Cn wc wm s s' a b := by
  obtain ⟨g, cc, fs, fu, fn, ft, e1, e2, e3, e4, e5, e6, e7, e8, e9, hi⟩ := h
  have key : ∀ j, j ≤ k → Cn wc wm s (fs j) a (fn j) := by
    intro j
    induction j with
    | zero => intro _; unfold Cn; rw [e1, e5]; omega
    | succ j ih =>
      intro hj
      have q := ih (by omega)
      obtain ⟨d1, d2, d3, d4, d5, d6, d7, d8, d9⟩ := hi j (by omega)
      have q2 := hP _ _ _ _ _ _ _ _ _ _ (by omega) d1 d2
      unfold Cn at *
      have hgap : prI wm (fn j + gap j) = prI wm (fn j) := by
        rcases hg j (by omega) with w | ⟨w, w0⟩
        · rw [w, Int32.add_zero]
        · have hn := d8 w
          rw [w, hn, prI_s wm h0 (by grind), w0]
          omega
      rw [hgap] at q2
      omega
  have := key k (Nat.le_refl _)
  rw [e2, e6] at this
  exact this
theorem Cn.tr {wc wm : Nat → Nat} {s s1 s' a a1 b : Int32} (h : Cn wc wm s s1 a a1) (h2 : Cn wc wm s1 s' a1 b) : Cn wc wm s s' a b := by
  unfold Cn at *
  omega
/-- a node of weight 0 -/
theorem Cn.z {wc wm : Nat → Nat} {s a : Int32} (h0 : 0 ≤ a) (h1 : a < 3200) (hw : wm a.toNatClampNeg = 0) : Cn wc wm s s a (a + 1) := by
  unfold Cn
  rw [prI_s wm h0 (by grind)]
  omega
/-- a scope and its node -/
theorem Cn.o {wc wm : Nat → Nat} {s a : Int32} (h0 : 0 ≤ a) (h1 : a < 3200) (k0 : 0 ≤ s) (k1 : s < 700) (hw : wc s.toNatClampNeg = wm a.toNatClampNeg) : Cn wc wm s (s + 1) a (a + 1) := by
  unfold Cn
  rw [prI_s wm h0 (by grind), prI_s wc k0 (by grind)]
  omega
/-- the owner of a scope lies not behind it -/
def Ow (σ : S5) (h s : Int32) : Prop := 0 ≤ xA σ 22 h ∧ xA σ 22 h < s
theorem TFun.cn {σ μ : S5} {wc wm : Nat → Nat} (hL : Loc σ μ wc wm) {R : R10} (hR : ∀ h s s' u u' a b t n c, R h s s' u u' a b t n c → Ow σ h s → Cn wc wm s s' a b) {h s s' u u' n b t c : Int32} (q : TFun σ μ R h s s' u u' n b t c) (hk : xA μ 2 n = 1 ∨ xA μ 2 n = 2) (h0 : 0 ≤ h) (hs0 : 0 ≤ s) (hs1 : s < 700) (hn0 : 0 ≤ n) (hn1 : n < 3200) : Cn wc wm s s' n b := by
  obtain ⟨e1, e2, e3, e4, e5, e6, e7, e8, e9, c2, e10, e11, e12, e13⟩ := q
  exact (Cn.o hn0 hn1 hs0 hs1 (hL.1 s n hs0 hs1 e5 (by rw [e4]; exact h0) e7.1 e8 hk)).tr (hR _ _ _ _ _ _ _ _ _ _ e12 (by unfold Ow; rw [e5]; exact ⟨hs0, by grind⟩))
