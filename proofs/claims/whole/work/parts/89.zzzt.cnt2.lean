/-- sums over a subtree's scopes and nodes are alike -/
theorem TR.cn {σ μ : S5} {wc wm : Nat → Nat} (hL : Loc σ μ wc wm) {h s s' u u' a b t n c : Int32} (q : TR σ μ h s s' u u' a b t n c) : Ow σ h s → Cn wc wm s s' a b := by
  refine TR.ind (P := fun h s s' u u' a b t n c => Ow σ h s → Cn wc wm s s' a b) ?_ q
  clear q
  intro h s s' u u' a b t n c q ho
  obtain ⟨hb, q⟩ := q
  unfold Bd at hb
  obtain ⟨b1, b2, b3, b4, b5, b6, b7, b8, b9, b10, b11, b12, b13, b14⟩ := hb
  have hz := hL.2.2.2
  have hn0 : 0 ≤ n := by grind
  have hn1 : n < 3200 := by grind
  rcases q with q | q | q | q | q | q | q
  · obtain ⟨e1, e2, e3, e4, e5, e6, e7⟩ := q
    rw [e1, e2, e3]
    refine Cn.z hn0 hn1 (hz n e6 ?_ ?_) <;> grind
  · obtain ⟨e1, e2, e3, e4, e5, c1, c2, s1, u1, e6, e7, e8, e9, e10⟩ := q
    have w1 := e7
    have w2 := e9
    unfold Wi at w1 w2
    unfold Ow at ho
    have o2 : Ow σ h s1 := ⟨ho.1, by grind⟩
    exact ((e6.2 ho).tr (Cn.z hn0 hn1 (hz n e2 (by grind) (by grind)))).tr (e8.2 o2)
  · obtain ⟨e1, e2, e3, k, e4, e5, e6, e7⟩ := q
    unfold Ow at ho
    have hw := hz n e2 (by grind) (by grind)
    refine e7.cn (wc := wc) (wm := wm) ?_ ?_ hn0 hn1
    · intro i s1 s1' u1 u1' a1 b1 t1 n1 c1 _ w wi
      unfold Wi at wi
      exact w.2 ⟨ho.1, by grind⟩
    · intro i _
      unfold appGap
      by_cases h1 : i = 1
      · rw [if_pos h1]; exact Or.inr ⟨rfl, hw⟩
      · rw [if_neg h1]; exact Or.inl rfl
  · obtain ⟨e1, e2, e3, e4, e5, e6, e7, k, e8, e9, e10, e11⟩ := q
    unfold Ow at ho
    have hw := hz n e2 (by grind) (by grind)
    rw [e4]
    refine (Cn.z hn0 hn1 hw).tr (e11.cn (wc := wc) (wm := wm) ?_ (fun _ _ => Or.inl rfl) hn0 hn1)
    intro i s1 s1' u1 u1' a1 b1 t1 n1 c1 _ w wi
    unfold Wi at wi
    exact w.2 ⟨ho.1, by grind⟩
  · obtain ⟨e1, e2, e3⟩ := q
    have hs9 := e3.2.2.2.2.2.2.2.2.1
    rw [e2]
    exact e3.cn hL (fun _ _ _ _ _ _ _ _ _ _ w => w.2) (Or.inr e1) b1 (by grind) (by grind) hn0 hn1
  · obtain ⟨e1, e2, e3, e4, e5, e6, e7, e8, k, s1, u1, a1, t1, c0, e9, e10, e11, e12, e13, e14, e15, e16, e17, e18, e19, e20⟩ := q
    unfold Ow at ho
    have hs : ¬ xA σ 22 s = s := by rw [e7]; grind
    have os : ∀ x, s + 1 ≤ x → x ≤ 700 → Ow σ s x := fun x hx _ => by unfold Ow; rw [e7]; exact ⟨ho.1, by grind⟩
    have hchain := e14
    obtain ⟨g, cc, fs, fu, fn, ft, r1, r2, r3, r4, r5, r6, r7, r8, r9, hi⟩ := hchain
    have hw := hL.2.1 s n k g (by grind) (by grind) e1 e11 e9 e10 hs r8 (fun i hk => by
      obtain ⟨d1, d2, d3, d4, d5, d6, d7, d8, d9⟩ := hi i hk
      refine ⟨?_, d6⟩
      unfold Wi at d2
      grind)
    have w20 := e20
    unfold Wi at w20
    rw [e3]
    refine ((Cn.o hn0 hn1 (by grind) (by grind) hw).tr (e14.cn (wc := wc) (wm := wm) ?_ (fun _ _ => Or.inl rfl) hn0 hn1)).tr (e19.2 (os s1 e15 (by grind)))
    intro i s2 s2' u2 u2' a2 b2 t2 n2 c2 _ w wi
    unfold Wi at wi
    obtain ⟨d1, d2, d3, d4, d5, c1, d6, d7, d8, d9⟩ := w
    have hn20 : 0 ≤ n2 := by grind
    have hn21 : n2 < 3200 := by grind
    rw [d2]
    rcases d9 with ⟨d9, d10, d11⟩ | d9
    · exact (Cn.z hn20 hn21 (hz n2 d9 (by grind) (by grind))).tr (d10.2 (os s2 (by grind) (by grind)))
    · have hs9 := d9.2.2.2.2.2.2.2.2.1
      exact d9.cn hL (fun _ _ _ _ _ _ _ _ _ _ w => w.2) (Or.inl d1) (by grind) (by grind) (by grind) hn20 hn21
  · obtain ⟨e1, e2, e3, e4, k, s1, u1, a1, c0, e9, e10, e11, e12, e13, e14, e15, e16, e17⟩ := q
    unfold Ow at ho
    have w13 := e13
    unfold Wi at w13
    have hw := hz n e2 (by grind) (by grind)
    rw [e3]
    refine ((Cn.z hn0 hn1 hw).tr (e12.2 ⟨ho.1, by grind⟩)).tr (e14.cn (wc := wc) (wm := wm) ?_ (fun _ _ => Or.inl rfl) hn0 hn1)
    intro i s2 s2' u2 u2' a2 b2 t2 n2 c2 _ w wi
    unfold Wi at wi
    obtain ⟨d1, d2, c1, d3, d4, d5, d6⟩ := w
    have hn20 : 0 ≤ n2 := by grind
    have hn21 : n2 < 3200 := by grind
    rw [d2]
    rcases d6 with ⟨f1, f2, f3, f4, f5, f6, f7, f8, f9, f10, f11, f12, f13⟩ | ⟨f1, f2, f3, f4⟩
    · have hs2 : ¬ xA σ 22 s2 = s2 := by rw [f9]; grind
      have o2 : Ow σ s2 (s2 + 1) := by unfold Ow; rw [f9]; exact ⟨ho.1, by grind⟩
      exact (Cn.o hn20 hn21 (by grind) (by grind) (hL.2.2.1 s2 n2 (by grind) (by grind) d1 f1 f10.1 hs2)).tr (f12.2 o2)
    · exact (Cn.z hn20 hn21 (hz n2 f1 (by grind) (by grind))).tr (f3.2 ⟨ho.1, by grind⟩)
