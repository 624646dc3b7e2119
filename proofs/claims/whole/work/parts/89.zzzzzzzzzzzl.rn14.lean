theorem bd_id {α : Type} (x : Option (α × S5)) : bd x (fun r τ => some (r, τ)) = x := by
  cases x with
  | none => rfl
  | some v => rfl
theorem used_lt {τ : S5} {c : Int32} {m : Nat} (h : ∀ x, UB τ c x → x < m) : i64n (xB τ 2 c) < 2 ^ m := Nat.lt_pow_two_of_testBit _ (fun i hi => by
  by_cases hu : (i64n (xB τ 2 c)).testBit i = true
  · have := h i hu
    omega
  · exact Bool.eq_false_iff.mpr hu)
/-- so many children of both -/
def KdB (τ μ0 : S5) (F T : Nat) (nv : Nat → Nat) (f : Nat) (c : Int32) (p j m : Nat) (Sc : Nat → Prop) (cc : Nat → Int32) (pp : Nat → Nat) : Prop := ∃ ct, xA μ0 33 (nI p) = nI ct ∧ ct + j + m ≤ 14000 ∧ ∀ i, i < m → ND τ μ0 F T nv f (cc i) (pp i) Sc ∧ hF τ (cc i) < hF τ c ∧ (0 ≤ cc i ∧ cc i < 6200) ∧ pp i < 7000 ∧ xA μ0 39 (nI (ct + j + i)) = nI (pp i) ∧ xA τ 17 (cc i) = if i + 1 < m then cc (i + 1) else -1
/-- a function applied to less than it wants -/
def PLs (τ : S5) (pa : Nat → Nat) (c : Int32) : Prop := ∃ g m : Nat, g < 630 ∧ m ≤ 8 ∧ xA τ 13 (xA τ 16 c) = 2 ∧ xA τ 14 (xA τ 16 c) = nI g ∧ xA τ 15 c = nI m ∧ m < pa g
/-- what is made for a part, and what then goes in -/
def SH (τ μ0 : S5) (F T : Nat) (pa nv : Nat → Nat) (f : Nat) (c : Int32) (p : Nat) (Sc : Nat → Prop) (t m : Nat) : Prop := (t = 6 ∧ m = pcn (i64n (xB τ 2 c)) 40 ∧ ¬ xA τ 13 c = 9 ∧ (xA τ 13 c = 8 → ¬ PLs τ pa c)) ∨ (t = 4 ∧ 1 ≤ m ∧ m ≤ 4 ∧ xA τ 13 c = 9 ∧ ∃ cc pp, xA τ 16 c = cc 0 ∧ KdB τ μ0 F T nv f c p 0 m Sc cc pp) ∨ (t = 5 ∧ 1 ≤ m ∧ m ≤ 8 ∧ xA τ 13 c = 8 ∧ PLs τ pa c ∧ ∃ h cc pp, xA τ 16 c = h ∧ (0 ≤ h ∧ h < 6200) ∧ xA τ 17 h = cc 0 ∧ KdB τ μ0 F T nv f c p 1 m Sc cc pp)
theorem XK.nd {τ μ : S5} {F T : Nat} {nv : Nat → Nat} {f : Nat} {h k ct : Nat} {cc : Nat → Int32} {Sa : Nat → Nat → Prop} {la lb : Nat → Nat} {q p : Nat} (hf : f < F) (hx : XK τ μ (XM τ μ F (nv f) T) h k ct cc Sa la lb q p) (h38 : ∀ x, q ≤ x → x ≤ p → NFx μ f x) (hlb : ∀ i, i < k → lb i ≤ nv f) (hp : p < 7000) : xA μ 33 (nI p) = nI ct ∧ ct + k ≤ 14000 ∧ xA μ 34 (nI p) = nI k ∧ ∃ pp : Nat → Nat, ∀ i, i < k → ND τ μ F T nv f (cc i) (pp i) (Sa i) ∧ hF τ (cc i) < h ∧ (0 ≤ cc i ∧ cc i < 6200) ∧ pp i < 7000 ∧ xA μ 39 (nI (ct + i)) = nI (pp i) := by
  obtain ⟨qq, pp, a1, a2, a3, a4, a5, a6⟩ := hx
  have hq : ∀ i, i ≤ k → q ≤ qq i := by
    intro i
    induction i with
    | zero => intro _; omega
    | succ i ih =>
      intro hi
      have := ih (by omega)
      have := a6 i (by omega)
      omega
  refine ⟨a1, a2, a3, pp, fun i hi => ?_⟩
  obtain ⟨b1, b2, b3, b4, b5, b6, b7⟩ := a6 i hi
  have hqi := hq i (by omega)
  exact ⟨⟨hf, qq i, la i, lb i, b1, hlb i hi, fun x x1 x2 => h38 x (by omega) (by omega)⟩, b2, b3, by omega, b7⟩
/-- is it less than a call? -/
theorem less_go {τ μ0 : S5} {F k T : Nat} {pa nv : Nat → Nat} (hS : PSt τ μ0 F k T pa nv) {σ μ : S5} (hP : eqP τ σ) (hQ : eqQ μ0 μ) {f : Nat} {c : Int32} {p : Nat} {Sc : Nat → Prop} (hN : ND τ μ0 F T nv f c p Sc) : (¬ xA τ 13 c = 8 → f_X12_isLess (nI p) μ = some (0, μ)) ∧ (xA τ 13 c = 8 → ∃ (m : Nat) (h : Int32) (h' : Nat) (cc : Nat → Int32) (pp : Nat → Nat), 1 ≤ m ∧ m ≤ 8 ∧ xA τ 15 c = nI m ∧ xA μ0 34 (nI p) = nI (m + 1) ∧ xA τ 16 c = h ∧ (0 ≤ h ∧ h < 6200) ∧ h' < 7000 ∧ ND τ μ0 F T nv f h h' Sc ∧ hF τ h < hF τ c ∧ f_X12_child (nI p) 0 μ = some (nI h', μ) ∧ xA τ 17 h = cc 0 ∧ KdB τ μ0 F T nv f c p 1 m Sc cc pp ∧ ((∃ g, g < F ∧ m < pa g ∧ xA τ 13 h = 2 ∧ xA τ 14 h = nI g ∧ xA μ0 31 (nI h') = 12 ∧ xA μ0 32 (nI h') = nI g ∧ f_X3_isPartOfCall c σ = some (1, σ) ∧ f_X12_isLess (nI p) μ = some (1, μ)) ∨ (f_X3_isPartOfCall c σ = some (0, σ) ∧ f_X12_isLess (nI p) μ = some (0, μ) ∧ ((∃ g, g < F ∧ pa g ≤ m ∧ xA τ 13 h = 2 ∧ xA τ 14 h = nI g ∧ xA μ0 31 (nI h') = 12 ∧ xA μ0 32 (nI h') = nI g) ∨ (¬ xA τ 13 h = 2 ∧ ¬ xA μ0 31 (nI h') = 12))))) := by
  obtain ⟨hfF, q, lo, hi, hx, hhi, h38⟩ := hN
  obtain ⟨⟨s1, s2, s3⟩, hct, s4, s5, hf⟩ := hS
  have hnv := (hf f hfF).2.1.2.2.2
  obtain ⟨⟨u1, u2, ⟨c0, c1⟩, u3, -⟩, -, h3⟩ := hx.un hnv
  have g1 : ∀ {β : Type} (x : Option β), gd c 6200 x = x := fun x => gd6200 c0 c1
  have g2 : ∀ {β : Type} (x : Option β), gd (nI p) 7000 x = x := fun x => gdn u2 (by omega)
  have no : ∀ z, xA μ0 31 (nI p) = z → ¬ z = 6 → f_X12_isLess (nI p) μ = some (0, μ) := fun z a b => by
    unfold f_X12_isLess
    rw [g2, hQ.x 31 _ (by decide), a, if_neg b]
  rcases h3 with ⟨-, -, -, -, w⟩ | ⟨kk, ct, cc, ll, w, ⟨k1, k9⟩, hch, hl0, hlk, hk⟩ | ⟨a, b, -⟩ | ⟨a, b, -⟩
  · have : ∃ z, xA μ0 31 (nI p) = z ∧ ¬ z = 6 ∧ ¬ xA τ 13 c = 8 := by
      rcases w with ⟨a, b, -⟩ | ⟨a, b, -⟩ | ⟨a, b, -⟩ | ⟨a, b, -⟩ | ⟨a, b⟩ <;> exact ⟨_, b, by decide, by rw [a]; decide⟩
    obtain ⟨z, z1, z2, z3⟩ := this
    exact ⟨fun _ => no z z1 z2, fun w => absurd w z3⟩
  · rcases w with ⟨a, b, -⟩ | ⟨a, b, b2, b3⟩ | ⟨a, b, -⟩
    · exact ⟨fun _ => no _ b (by decide), fun w => absurd w (by rw [a]; decide)⟩
    · refine ⟨fun w => absurd a w, fun _ => ?_⟩
      have hmo := ll_mo (k := kk) (ll := ll) (fun i hi' => by
        obtain ⟨qq, pp, -, -, -, -, -, z⟩ := hk
        exact (z i hi').1.2.1.le)
      obtain ⟨x33, x14, x34, pp, xk⟩ := XK.nd hfF hk h38 (fun i hi' => by have := hmo kk (i + 1) (by omega) (by omega); omega) u2
      obtain ⟨n0, n1, n2, n3, n4⟩ := xk 0 (by omega)
      obtain ⟨m, rfl⟩ : ∃ m, kk = m + 1 := ⟨kk - 1, by omega⟩
      have hchild : f_X12_child (nI p) 0 μ = some (nI (pp 0), μ) := by
        unfold f_X12_child
        rw [g2, hQ.x 33 _ (by decide), x33, show (0 : Int32) = nI 0 from rfl, nI_plus, gdn (by omega) (by omega), hQ.x 39 _ (by decide), n4]
      have hn0 := n0
      obtain ⟨-, q', lo', hi', hx0, -, -⟩ := n0
      have e16 : xA τ 16 c = cc 0 := hch.1
      have e17 : xA τ 17 (cc 0) = cc 1 := by have := (hch.2 0 (by omega)).2; rw [if_pos (by omega)] at this; exact this
      refine ⟨m, cc 0, pp 0, fun i => cc (i + 1), fun i => pp (i + 1), by omega, by omega, b3, x34, e16, n2, n3, hn0, n1, hchild, e17, ⟨ct, x33, by omega, fun i hi2 => ?_⟩, ?_⟩
      · obtain ⟨o0, o1, o2, o3, o4⟩ := xk (i + 1) (by omega)
        refine ⟨o0, o1, o2, o3, by rw [show ct + 1 + i = ct + (i + 1) by omega]; exact o4, ?_⟩
        have := (hch.2 (i + 1) (by omega)).2
        by_cases hlt : i + 1 < m
        · rw [if_pos (by omega)] at this
          rw [if_pos hlt]
          exact this
        · rw [if_neg (by omega)] at this
          rw [if_neg hlt]
          exact this
      · have g3 : ∀ {β : Type} (x : Option β), gd (cc 0) 6200 x = x := fun x => gd6200 n2.1 n2.2
        have g4 : ∀ {β : Type} (x : Option β), gd (nI (pp 0)) 7000 x = x := fun x => gdn n3 (by omega)
        have em : nI (m + 1) - 1 = nI m := by
          rw [show (1 : Int32) = nI 1 from rfl, nI_sub (by omega)]
          rfl
        rcases kd_f hnv hx0 with ⟨r1, r2, g, r3, r4, r5⟩ | ⟨r1, r2⟩
        · obtain ⟨⟨l1, l2, l3, l4⟩, -⟩ := hf g r3
          have cI : f_X3_isPartOfCall c σ = if nI (pa g) ≤ nI m then some (0, σ) else some (1, σ) := by
            unfold f_X3_isPartOfCall
            rw [g1, hP.x 16 _ (by decide), e16, g3, hP.x 13 _ (by decide), r1, if_pos rfl, g1, g3, hP.x 14 _ (by decide), r4, gdn (by omega) (by omega), hP.x 3 _ (by decide), l1, hP.x 15 _ (by decide), b3]
            rfl
          have mI : f_X12_isLess (nI p) μ = if nI (pa g) ≤ nI m then some (0, μ) else some (1, μ) := by
            unfold f_X12_isLess
            rw [g2, hQ.x 31 _ (by decide), b, if_pos rfl, hchild, bd_of, g4, hQ.x 31 _ (by decide), r2, if_pos rfl, g2, hchild, bd_of, g4, hQ.x 32 _ (by decide), r5, gdn (by omega) (by omega), hQ.x 47 _ (by decide), l2, hQ.x 34 _ (by decide), x34, em]
          by_cases hle : pa g ≤ m
          · rw [if_pos ((nI_le31 (by omega) (by omega)).mpr hle)] at cI mI
            exact Or.inr ⟨cI, mI, Or.inl ⟨g, r3, hle, r1, r4, r2, r5⟩⟩
          · rw [if_neg (fun w => hle ((nI_le31 (by omega) (by omega)).mp w))] at cI mI
            exact Or.inl ⟨g, r3, by omega, r1, r4, r2, r5, cI, mI⟩
        · have cI : f_X3_isPartOfCall c σ = some (0, σ) := by
            unfold f_X3_isPartOfCall
            rw [g1, hP.x 16 _ (by decide), e16, g3, hP.x 13 _ (by decide), if_neg r1]
          have mI : f_X12_isLess (nI p) μ = some (0, μ) := by
            unfold f_X12_isLess
            rw [g2, hQ.x 31 _ (by decide), b, if_pos rfl, hchild, bd_of, g4, hQ.x 31 _ (by decide), if_neg r2]
          exact Or.inr ⟨cI, mI, Or.inr ⟨r1, r2⟩⟩
    · exact ⟨fun _ => no _ b (by decide), fun w => absurd w (by rw [a]; decide)⟩
  · exact ⟨fun _ => no _ b (by decide), fun w => absurd w (by rw [a]; decide)⟩
  · exact ⟨fun _ => no _ b (by decide), fun w => absurd w (by rw [a]; decide)⟩
