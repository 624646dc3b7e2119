abbrev Q9 : Type := S5 → S5 → Nat → Int32 → Int32 → Int32 → Int32 → Int32 → Int32 → Int32 → Int32 → Int32 → Prop
/-- an item keeps its bounds -/
def Bi (s s' u u' a b t n c : Int32) : Prop := 0 ≤ s ∧ s ≤ s' ∧ s' ≤ 700 ∧ 0 ≤ u ∧ u ≤ u' ∧ u' ≤ 600 ∧ 0 ≤ a ∧ a ≤ n ∧ n < b ∧ b ≤ 3200 ∧ 0 ≤ t ∧ t ≤ c ∧ c < 6200
/-- k items of a kind Q in a row; the reference's chain goes on at nx -/
def RG (Q : Q9) (σ μ : S5) (s0 u0 a0 t0 nn s1 u1 b1 c1 nx : Int32) (k : Nat) (g cc fs fu fn ft : Nat → Int32) : Prop := fs 0 = s0 ∧ fs k = s1 ∧ fu 0 = u0 ∧ fu k = u1 ∧ fn 0 = a0 ∧ fn k = b1 ∧ ft 0 = t0 ∧ ft k = c1 ∧ (∀ i, i < k → Q σ μ i (fs i) (fs (i + 1)) (fu i) (fu (i + 1)) (fn i) (fn (i + 1)) (ft i) (g i) (cc i) ∧ Bi (fs i) (fs (i + 1)) (fu i) (fu (i + 1)) (fn i) (fn (i + 1)) (ft i) (g i) (cc i) ∧ s0 ≤ fs i ∧ fs (i + 1) ≤ s1 ∧ u0 ≤ fu i ∧ fu (i + 1) ≤ u1 ∧ a0 ≤ fn i ∧ fn (i + 1) ≤ b1 ∧ t0 ≤ ft i ∧ cc i < c1 ∧ ft (i + 1) = cc i + 1 ∧ xA σ 17 (cc i) = (if i + 1 < k then cc (i + 1) else -1) ∧ xA μ 5 (g i) = (if i + 1 < k then g (i + 1) else nx) ∧ nn < fn i)
theorem RG.row {Q : Q9} {σ μ : S5} {s0 u0 a0 t0 nn s1 u1 b1 c1 : Int32} {k : Nat} {g cc fs fu fn ft : Nat → Int32} (q : RG Q σ μ s0 u0 a0 t0 nn s1 u1 b1 c1 (-1) k g cc fs fu fn ft) : TRow σ μ (Q σ μ) k s0 s1 u0 u1 a0 b1 t0 c1 (g 0) (cc 0) nn noGap := by
  obtain ⟨e1, e2, e3, e4, e5, e6, e7, e8, hi⟩ := q
  refine ⟨g, cc, fs, fu, fn, ft, e1, e2, e3, e4, e5, e6, ⟨e7, e8⟩, rfl, rfl, fun i hk => ?_⟩
  obtain ⟨d1, hb, d2, d3, d4, d5, d6, d7, d8, d9, d10, d11, d12, d13⟩ := hi i hk
  unfold Bi at hb
  show Q σ μ i (fs i) (fs (i + 1)) (fu i) (fu (i + 1)) (fn i + 0) (fn (i + 1)) (ft i) (g i) (cc i) ∧ Wi s0 s1 u0 u1 a0 b1 t0 c1 (fs i) (fs (i + 1)) (fu i) (fu (i + 1)) (fn i + 0) (fn (i + 1)) (ft i) (cc i) ∧ fn i + 0 ≤ g i ∧ g i < fn (i + 1) ∧ ft (i + 1) = cc i + 1 ∧ xA μ 5 (g i) = (if i + 1 < k then g (i + 1) else -1) ∧ xA σ 17 (cc i) = (if i + 1 < k then cc (i + 1) else -1) ∧ ((0 : Int32) = 1 → fn i = nn) ∧ (fn (i + 1) ≤ nn ∨ nn < fn i + 0)
  rw [Int32.add_zero]
  refine ⟨d1, ?_, by grind, by grind, d10, d12, d11, fun w => absurd w (by decide), Or.inr d13⟩
  unfold Wi
  grind
/-- items of this kind stay where states are alike -/
def Qst (Q : Q9) : Prop := ∀ (σ σ' μ μ' : S5) (i : Nat) (s s' u u' a b t n c : Int32), Bi s s' u u' a b t n c → Q σ μ i s s' u u' a b t n c → Agr σ σ' μ μ' s s' u u' a b t n c → Q σ' μ' i s s' u u' a b t n c
theorem RG.st {Q : Q9} (hQ : Qst Q) {σ σ' μ μ' : S5} {s0 u0 a0 t0 nn s1 u1 b1 c1 nx nx' : Int32} {k : Nat} {g cc fs fu fn ft : Nat → Int32} (q : RG Q σ μ s0 u0 a0 t0 nn s1 u1 b1 c1 nx k g cc fs fu fn ft) (ha : ∀ i, i < k → Agr σ σ' μ μ' (fs i) (fs (i + 1)) (fu i) (fu (i + 1)) (fn i) (fn (i + 1)) (ft i) (g i) (cc i)) (h17 : ∀ i, i < k → xA σ' 17 (cc i) = xA σ 17 (cc i)) (h5 : ∀ i, i + 1 < k → xA μ' 5 (g i) = xA μ 5 (g i)) (h5l : 0 < k → xA μ' 5 (g (k - 1)) = nx') : RG Q σ' μ' s0 u0 a0 t0 nn s1 u1 b1 c1 nx' k g cc fs fu fn ft := by
  obtain ⟨e1, e2, e3, e4, e5, e6, e7, e8, hi⟩ := q
  refine ⟨e1, e2, e3, e4, e5, e6, e7, e8, fun i hk => ?_⟩
  obtain ⟨d1, hb, d2, d3, d4, d5, d6, d7, d8, d9, d10, d11, d12, d13⟩ := hi i hk
  refine ⟨hQ _ _ _ _ _ _ _ _ _ _ _ _ _ _ hb d1 (ha i hk), hb, d2, d3, d4, d5, d6, d7, d8, d9, d10, by rw [h17 i hk]; exact d11, ?_, d13⟩
  by_cases c : i + 1 < k
  · rw [if_pos c, h5 i c, d12, if_pos c]
  · have hik : i = k - 1 := by omega
    rw [if_neg c, hik]
    exact h5l (by omega)
theorem RG.fr {Q : Q9} (hQ : Qst Q) {σ σ' μ μ' : S5} {s0 u0 a0 t0 nn s1 u1 b1 c1 nx : Int32} {k : Nat} {g cc fs fu fn ft : Nat → Int32} (q : RG Q σ μ s0 u0 a0 t0 nn s1 u1 b1 c1 nx k g cc fs fu fn ft) (hE : EqE σ σ') (hC : FrC σ σ') (hM : FrM μ μ') (hg : gI μ 10 ≤ gI μ' 10) (k1 : s1 ≤ gI σ 9) (k2 : gI σ 9 ≤ 700) (k3 : u1 ≤ gI σ 10) (k4 : b1 ≤ gI μ 9) (k5 : c1 ≤ gI σ 8) : RG Q σ' μ' s0 u0 a0 t0 nn s1 u1 b1 c1 nx k g cc fs fu fn ft := by
  have hi := q.2.2.2.2.2.2.2.2
  refine q.st hQ (fun i hk => ?_) (fun i hk => ?_) (fun i hk => ?_) (fun hk => ?_)
  · obtain ⟨d1, hb, d2, d3, d4, d5, d6, d7, d8, d9, d10⟩ := hi i hk
    unfold Bi at hb
    exact Agr.fr hE hC hM hg (by grind) (by grind) (by grind) (by grind)
  · obtain ⟨d1, hb, d2, d3, d4, d5, d6, d7, d8, d9, d10⟩ := hi i hk
    unfold Bi at hb
    exact (hC.1 (cc i) (by grind) (by grind)).2.2.2.2
  · obtain ⟨d1, hb, d2, d3, d4, d5, d6, d7, d8, d9, d10⟩ := hi i (by omega)
    unfold Bi at hb
    exact (hM.1 (g i) (by grind) (by grind)).2.2.2.1
  · obtain ⟨d1, hb, d2, d3, d4, d5, d6, d7, d8, d9, d10, d11, d12, d13⟩ := hi (k - 1) (by omega)
    unfold Bi at hb
    rw [(hM.1 (g (k - 1)) (by grind) (by grind)).2.2.2.1, d12, if_neg (by omega)]
