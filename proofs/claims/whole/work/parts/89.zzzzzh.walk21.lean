/-- sums before each of a row -/
theorem TRow.pe {σ μ : S5} {wc wm : Nat → Nat} {P : Nat → Int32 → Int32 → Int32 → Int32 → Int32 → Int32 → Int32 → Int32 → Int32 → Prop} {k : Nat} {s s' u u' a b t c n1 c1 nn : Int32} {gap : Nat → Int32} (h : TRow σ μ P k s s' u u' a b t c n1 c1 nn gap) (hP : ∀ i s1 s1' u1 u1' a1 b1 t1 n1 c1, i < k → P i s1 s1' u1 u1' a1 b1 t1 n1 c1 → Wi s s' u u' a b t c s1 s1' u1 u1' a1 b1 t1 c1 → Cn wc wm s1 s1' a1 b1) (hg : ∀ i, i < k → gap i = 0 ∨ (gap i = 1 ∧ wm nn.toNatClampNeg = 0)) (h0 : 0 ≤ nn) (h1 : nn < 3200) (he : prI wc s = prI wm a) : TRow σ μ (fun i s1 s1' u1 u1' a1 b1 t1 n1 c1 => P i s1 s1' u1 u1' a1 b1 t1 n1 c1 ∧ prI wc s1 = prI wm a1) k s s' u u' a b t c n1 c1 nn gap := by
  obtain ⟨g, cc, fs, fu, fn, ft, e1, e2, e3, e4, e5, e6, e7, e8, e9, hi⟩ := h
  have hgap : ∀ j, j < k → prI wm (fn j + gap j) = prI wm (fn j) := by
    intro j hj
    obtain ⟨d1, d2, d3, d4, d5, d6, d7, d8, d9⟩ := hi j hj
    rcases hg j hj with w | ⟨w, w0⟩
    · rw [w, Int32.add_zero]
    · have hn := d8 w
      rw [w, hn, prI_s wm h0 (lt_7 h1), w0]
      rfl
  have key : ∀ j, j ≤ k → prI wc (fs j) = prI wm (fn j) := by
    intro j
    induction j with
    | zero => intro _; rw [e1, e5]; exact he
    | succ j ih =>
      intro hj
      have q := ih (by omega)
      obtain ⟨d1, d2, d3, d4, d5, d6, d7, d8, d9⟩ := hi j (by omega)
      have q2 := hP _ _ _ _ _ _ _ _ _ _ (by omega) d1 d2
      unfold Cn at q2
      rw [hgap j (by omega)] at q2
      omega
  refine ⟨g, cc, fs, fu, fn, ft, e1, e2, e3, e4, e5, e6, e7, e8, e9, fun i hk => ?_⟩
  obtain ⟨d1, d2⟩ := hi i hk
  exact ⟨⟨d1, by rw [hgap i hk]; exact key i (by omega)⟩, d2⟩
