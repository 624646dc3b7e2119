theorem RG.rowP {Q : Q9} {P : Nat → Int32 → Int32 → Int32 → Int32 → Int32 → Int32 → Int32 → Int32 → Int32 → Prop} {σ μ : S5} {s0 u0 a0 t0 nn s1 u1 b1 c1 : Int32} {k : Nat} {g cc fs fu fn ft : Nat → Int32} (q : RG Q σ μ s0 u0 a0 t0 nn s1 u1 b1 c1 (-1) k g cc fs fu fn ft) (hP : ∀ i, i < k → Q σ μ i (fs i) (fs (i + 1)) (fu i) (fu (i + 1)) (fn i) (fn (i + 1)) (ft i) (g i) (cc i) → P i (fs i) (fs (i + 1)) (fu i) (fu (i + 1)) (fn i) (fn (i + 1)) (ft i) (g i) (cc i)) : TRow σ μ P k s0 s1 u0 u1 a0 b1 t0 c1 (g 0) (cc 0) nn noGap := by
  obtain ⟨e1, e2, e3, e4, e5, e6, e7, e8, hi⟩ := q
  refine ⟨g, cc, fs, fu, fn, ft, e1, e2, e3, e4, e5, e6, ⟨e7, e8⟩, rfl, rfl, fun i hk => ?_⟩
  obtain ⟨d1, hb, d2, d3, d4, d5, d6, d7, d8, d9, d10, d11, d12, d13⟩ := hi i hk
  unfold Bi at hb
  show P i (fs i) (fs (i + 1)) (fu i) (fu (i + 1)) (fn i + 0) (fn (i + 1)) (ft i) (g i) (cc i) ∧ Wi s0 s1 u0 u1 a0 b1 t0 c1 (fs i) (fs (i + 1)) (fu i) (fu (i + 1)) (fn i + 0) (fn (i + 1)) (ft i) (cc i) ∧ fn i + 0 ≤ g i ∧ g i < fn (i + 1) ∧ ft (i + 1) = cc i + 1 ∧ xA μ 5 (g i) = (if i + 1 < k then g (i + 1) else -1) ∧ xA σ 17 (cc i) = (if i + 1 < k then cc (i + 1) else -1) ∧ ((0 : Int32) = 1 → fn i = nn) ∧ (fn (i + 1) ≤ nn ∨ nn < fn i + 0)
  rw [Int32.add_zero]
  refine ⟨hP i hk d1, ?_, by grind, by grind, d10, d12, d11, fun w => absurd w (by decide), Or.inr d13⟩
  unfold Wi
  grind
/-- an alternative as an item -/
def QA (h : Int32) : Q9 := fun σ μ i s s' u u' a b t n c => 0 ≤ h ∧ h < s ∧ TAlt σ μ (TR σ μ) h i s s' u u' a b t n c
theorem QA_st (h : Int32) : Qst (QA h) := by
  intro σ σ' μ μ' i s s' u u' a b t n c hb q hA
  obtain ⟨hh0, hh1, q⟩ := q
  refine ⟨hh0, hh1, ?_⟩
  have hA' := hA
  obtain ⟨A1, A2, A3, A4, A5, A6, A7, A8, A9, A10, A11, A12⟩ := hA
  unfold Bi at hb
  obtain ⟨d1, d2, c3, d3, d4, d5, d6⟩ := q
  have kc := A1 c (by grind) (by grind)
  have kn := A7 n (by grind) (by grind)
  have t3 : t ≤ c3 := by
    rcases d6 with ⟨f1, f2, f3, f4, f5, f6, f7, f8, f9, f10, f11, f12, f13⟩ | ⟨f1, f2, f3, f4⟩
    · unfold Wi at f13
      grind
    · unfold Wi at f4
      grind
  unfold TAlt
  rw [kc.1, kc.2.1, kc.2.2.1, kc.2.2.2, kn.1, kn.2.1, kn.2.2.2.2.1, kn.2.2.2.2.2.1, kn.2.2.2.2.2.2.2.1, A11]
  refine ⟨d1, d2, c3, d3, by rw [A2 c3 (by grind) (by grind)]; exact d4, d5, ?_⟩
  rcases d6 with ⟨f1, f2, f3, f4, f5, f6, f7, f8, f9, f10, f11, f12, f13⟩ | ⟨f1, f2, f3, f4⟩
  · have w3 := f13
    unfold Wi at w3
    have ks := A3 s (by grind) (by grind)
    rw [ks.2.1, A4 s (by grind) (by grind), A4 h (by grind) (by grind), A12 _ f4 f5]
    refine Or.inl ⟨f1, f2, f3, f4, f5, f6, f7, f8, f9, TNames_st hA' (by grind) (by grind) (by grind) (by grind) (by grind) (by grind) f10, f11, f12.st (hA'.sub (by grind) (by grind) f13 (Or.inr (by grind))), f13⟩
  · have w3 := f4
    unfold Wi at w3
    exact Or.inr ⟨f1, f2, f3.st (hA'.sub (by grind) (by grind) f4 (Or.inr (by grind))), f4⟩
/-- a binding as an item, but for its name -/
def QBd (v : Int32) : Q9 := fun σ μ i s s' u u' a b t n c => xA μ 2 n = 1 ∧ a = n ∧ xA σ 13 c = 10 ∧ xA σ 14 c = v * 5 + nI i ∧ ∃ c1 : Int32, xA σ 16 c = c1 ∧ xA σ 17 c1 = -1 ∧ c = c1 + 1 ∧ ((xA μ 10 n = 0 ∧ TR σ μ v s s' u u' (n + 1) b t (xA μ 3 n) c1 ∧ Wi s s' u u' a b t c s s' u u' (n + 1) b t c1) ∨ (TFun σ μ (TR σ μ) v s s' u u' n b t c1))
theorem QBd_st (v : Int32) : Qst (QBd v) := by
  intro σ σ' μ μ' i s s' u u' a b t n c hb q hA
  have hA' := hA
  obtain ⟨A1, A2, A3, A4, A5, A6, A7, A8, A9, A10, A11, A12⟩ := hA
  unfold Bi at hb
  obtain ⟨d1, d2, d3, d4, c3, d6, d7, d8, d9⟩ := q
  have kc := A1 c (by grind) (by grind)
  have kn := A7 n (by grind) (by grind)
  have t3 : t ≤ c3 := by
    rcases d9 with d9 | d9
    · have := d9.2.2
      unfold Wi at this
      grind
    · obtain ⟨g1, g2, g3, g4, g5, g6, g7, g8, g9, c9, g10, g11, g12, g13, g14⟩ := d9
      unfold Wi at g13
      grind
  unfold QBd
  rw [kc.1, kc.2.1, kc.2.2.2, kn.1, kn.2.1, kn.2.2.2.2.2.2.2.1]
  refine ⟨d1, d2, d3, d4, c3, d6, by rw [A2 c3 (by grind) (by grind)]; exact d7, d8, ?_⟩
  rcases d9 with ⟨d9, d10, d11⟩ | d9
  · have w3 := d11
    unfold Wi at w3
    exact Or.inl ⟨d9, d10.st (hA'.sub (by grind) (by grind) d11 (Or.inr (by grind))), d11⟩
  · exact Or.inr (TFun_st hA' (fun h1 s1 s1' u1 u1' a1 b1 t1 n1 c1 p wi x => p.st (hA'.sub (by grind) (by grind) wi x)) (by grind) (by grind) (by grind) (Or.inl (by grind)) d9)
/-- with its name -/
theorem QBd.name {v : Int32} {σ μ : S5} {i : Nat} {s s' u u' a b t n c : Int32} (q : QBd v σ μ i s s' u u' a b t n c) (hn : xB σ 3 (v * 5 + nI i) = xB μ 0 n) : TBind σ μ (TR σ μ) v i s s' u u' a b t n c := by
  obtain ⟨d1, d2, d3, d4, c3, d6, d7, d8, d9⟩ := q
  exact ⟨d1, d2, d3, d4, hn, c3, d6, d7, d8, d9⟩
