/-- a relation of a class's subtree and a reference's: scope around it; scopes, uses, the reference's nodes, the class's nodes from .. to ..; the two roots -/
abbrev R10 : Type := Int32 → Int32 → Int32 → Int32 → Int32 → Int32 → Int32 → Int32 → Int32 → Int32 → Prop
/-- a subtree lies within another -/
def Wi (s s' u u' a b t c s1 s1' u1 u1' a1 b1 t1 c1 : Int32) : Prop := s ≤ s1 ∧ s1 ≤ s1' ∧ s1' ≤ s' ∧ u ≤ u1 ∧ u1 ≤ u1' ∧ u1' ≤ u' ∧ a ≤ a1 ∧ a1 < b1 ∧ b1 ≤ b ∧ t ≤ t1 ∧ t1 ≤ c1 ∧ c1 < c
def TLeaf (σ μ : S5) (h s s' u u' a b t n c : Int32) : Prop := s' = s ∧ a = n ∧ b = n + 1 ∧ t = c ∧ xA σ 16 c = -1 ∧ xA μ 10 n = 0 ∧ ((xA μ 2 n = 8 ∧ xA σ 13 c = 3 ∧ u' = u + 1 ∧ xB σ 4 u = xB μ 0 n ∧ xA σ 27 u = h ∧ xA σ 28 u = xA μ 6 n ∧ xA σ 29 u = c) ∨ (u' = u ∧ ((xA μ 2 n = 10 ∧ xA σ 13 c = 0 ∧ xA σ 14 c = xA μ 7 n ∧ 0 ≤ xA σ 14 c) ∨ (xA μ 2 n = 9 ∧ xA σ 13 c = 1 ∧ xA σ 14 c = xA μ 7 n ∧ 0 ≤ xA σ 14 c ∧ xA σ 14 c < gI σ 4 ∧ xA σ 2 (xA σ 14 c) = 0) ∨ (xA μ 2 n = 11 ∧ xA σ 13 c = 4))))
def TSign (σ μ : S5) (R : R10) (h s s' u u' a b t n c : Int32) : Prop := xA μ 2 n = 5 ∧ xA μ 10 n = 0 ∧ xA σ 13 c = 5 ∧ xA μ 7 n = kMd (xA σ 14 c) ∧ 0 < rkK (xA σ 14 c) ∧ ∃ c1 c2 s1 u1 : Int32, R h s s1 u u1 a n t (xA μ 3 n) c1 ∧ Wi s s' u u' a b t c s s1 u u1 a n t c1 ∧ R h s1 s' u1 u' (n + 1) b (c1 + 1) (xA μ 4 n) c2 ∧ Wi s s' u u' a b t c s1 s' u1 u' (n + 1) b (c1 + 1) c2 ∧ c = c2 + 1 ∧ xA σ 16 c = c1 ∧ xA σ 17 c1 = c2 ∧ xA σ 17 c2 = -1
/-- k subtrees in a row, one behind the other -/
def TRow (σ μ : S5) (P : Nat → Int32 → Int32 → Int32 → Int32 → Int32 → Int32 → Int32 → Int32 → Int32 → Prop) (k : Nat) (s s' u u' a b t c : Int32) (n1 c1 nn : Int32) (gap : Nat → Int32) : Prop := ∃ g cc fs fu fn ft : Nat → Int32, fs 0 = s ∧ fs k = s' ∧ fu 0 = u ∧ fu k = u' ∧ fn 0 = a ∧ fn k = b ∧ (ft 0 = t ∧ ft k = c) ∧ g 0 = n1 ∧ cc 0 = c1 ∧ ∀ i, i < k → P i (fs i) (fs (i + 1)) (fu i) (fu (i + 1)) (fn i + gap i) (fn (i + 1)) (ft i) (g i) (cc i) ∧ Wi s s' u u' a b t c (fs i) (fs (i + 1)) (fu i) (fu (i + 1)) (fn i + gap i) (fn (i + 1)) (ft i) (cc i) ∧ fn i + gap i ≤ g i ∧ g i < fn (i + 1) ∧ ft (i + 1) = cc i + 1 ∧ xA μ 5 (g i) = (if i + 1 < k then g (i + 1) else -1) ∧ xA σ 17 (cc i) = (if i + 1 < k then cc (i + 1) else -1) ∧ (gap i = 1 → fn i = nn) ∧ (fn (i + 1) ≤ nn ∨ nn < fn i + gap i)
def noGap : Nat → Int32 := fun _ => 0
def appGap : Nat → Int32 := fun i => if i = 1 then 1 else 0
def TApp (σ μ : S5) (R : R10) (h s s' u u' a b t n c : Int32) : Prop := xA μ 2 n = 6 ∧ xA μ 10 n = 0 ∧ xA σ 13 c = 8 ∧ ∃ k : Nat, 2 ≤ k ∧ k ≤ 6 ∧ xA σ 15 c = nI (k - 1) ∧ TRow σ μ (fun _ => R h) k s s' u u' a b t c (xA μ 3 n) (xA σ 16 c) n appGap
def TCons (σ μ : S5) (R : R10) (h s s' u u' a b t n c : Int32) : Prop := xA μ 2 n = 7 ∧ xA μ 10 n = 0 ∧ xA σ 13 c = 9 ∧ a = n ∧ xA σ 14 c = xA μ 7 n ∧ 0 ≤ xA σ 14 c ∧ xA σ 14 c < gI σ 4 ∧ ∃ k : Nat, 1 ≤ k ∧ k ≤ 4 ∧ xA σ 2 (xA σ 14 c) = nI k ∧ TRow σ μ (fun _ => R h) k s s' u u' (n + 1) b t c (xA μ 3 n) (xA σ 16 c) n noGap
/-- names of a scope -/
def TNames (σ μ : S5) (s n : Int32) : Prop := xA σ 20 s = xA μ 10 n ∧ 0 ≤ xA μ 10 n ∧ xA μ 10 n ≤ 5 ∧ 0 ≤ xA μ 9 n ∧ xA μ 9 n + xA μ 10 n ≤ gI μ 10 ∧ xA μ 9 n ≤ 3200 ∧ ∀ i : Int32, 0 ≤ i → i < xA μ 10 n → xB σ 3 (s * 5 + i) = xB μ 1 (xA μ 9 n + i)
/-- a function within, and the leaf in its place -/
def TFun (σ μ : S5) (R : R10) (h s s' u u' n b t c : Int32) : Prop := xA σ 13 c = 14 ∧ xA σ 14 c = s ∧ xA σ 16 c = -1 ∧ xA σ 21 s = h ∧ xA σ 22 s = s ∧ xA σ 24 s = xA μ 6 n ∧ TNames σ μ s n ∧ 0 < xA μ 10 n ∧ s + 1 ≤ s' ∧ ∃ c2 : Int32, xA σ 23 s = c2 ∧ xA σ 17 c2 = -1 ∧ R s (s + 1) s' u u' (n + 1) b t (xA μ 3 n) c2 ∧ Wi s s' u u' n b t c (s + 1) s' u u' (n + 1) b t c2 ∧ c = c2 + 1
def TLam (σ μ : S5) (R : R10) (h s s' u u' a b t n c : Int32) : Prop := xA μ 2 n = 2 ∧ a = n ∧ TFun σ μ R h s s' u u' n b t c
def TBind (σ μ : S5) (R : R10) (v : Int32) (i : Nat) (s s' u u' a b t n c : Int32) : Prop := xA μ 2 n = 1 ∧ a = n ∧ xA σ 13 c = 10 ∧ xA σ 14 c = v * 5 + nI i ∧ xB σ 3 (v * 5 + nI i) = xB μ 0 n ∧ ∃ c1 : Int32, xA σ 16 c = c1 ∧ xA σ 17 c1 = -1 ∧ c = c1 + 1 ∧ ((xA μ 10 n = 0 ∧ R v s s' u u' (n + 1) b t (xA μ 3 n) c1 ∧ Wi s s' u u' a b t c s s' u u' (n + 1) b t c1) ∨ (TFun σ μ R v s s' u u' n b t c1))
def TLet (σ μ : S5) (R : R10) (h s s' u u' a b t n c : Int32) : Prop := xA μ 2 n = 0 ∧ xA μ 10 n = 0 ∧ a = n ∧ xA σ 13 c = 7 ∧ xA σ 15 c = s ∧ xA σ 21 s = h ∧ xA σ 22 s = xA σ 22 h ∧ s + 1 ≤ s' ∧ ∃ (k : Nat) (s1 u1 a1 t1 c0 : Int32), 1 ≤ k ∧ k ≤ 5 ∧ xA σ 20 s = nI k ∧ xA σ 16 c = c0 ∧ c = c0 + 1 ∧ TRow σ μ (TBind σ μ R s) k (s + 1) s1 u u1 (n + 1) a1 t t1 (xA μ 3 n) (xA σ 17 c0) n noGap ∧ s + 1 ≤ s1 ∧ u ≤ u1 ∧ n + 1 ≤ a1 ∧ t ≤ t1 ∧ R s s1 s' u1 u' a1 b t1 (xA μ 7 n) c0 ∧ Wi s s' u u' a b t c s1 s' u1 u' a1 b t1 c0
def TAlt (σ μ : S5) (R : R10) (h : Int32) (_ : Nat) (s s' u u' a b t n c : Int32) : Prop := xA μ 2 n = 4 ∧ a = n ∧ ∃ c1 : Int32, xA σ 16 c = c1 ∧ xA σ 17 c1 = -1 ∧ c = c1 + 1 ∧ ((xA μ 8 n = 0 ∧ xA σ 13 c = 11 ∧ xA σ 14 c = xA μ 7 n ∧ 0 ≤ xA σ 14 c ∧ xA σ 14 c < gI σ 4 ∧ xA σ 2 (xA σ 14 c) = xA μ 10 n ∧ xA σ 15 c = s ∧ xA σ 21 s = h ∧ xA σ 22 s = xA σ 22 h ∧ TNames σ μ s n ∧ s + 1 ≤ s' ∧ R s (s + 1) s' u u' (n + 1) b t (xA μ 3 n) c1 ∧ Wi s s' u u' a b t c (s + 1) s' u u' (n + 1) b t c1) ∨ (xA μ 10 n = 0 ∧ ((xA μ 8 n = 1 ∧ xA σ 13 c = 12 ∧ xA σ 14 c = xA μ 7 n ∧ 0 ≤ xA σ 14 c) ∨ (xA μ 8 n = 2 ∧ xA σ 13 c = 13)) ∧ R h s s' u u' (n + 1) b t (xA μ 3 n) c1 ∧ Wi s s' u u' a b t c s s' u u' (n + 1) b t c1))
def TCase (σ μ : S5) (R : R10) (h s s' u u' a b t n c : Int32) : Prop := xA μ 2 n = 3 ∧ xA μ 10 n = 0 ∧ a = n ∧ xA σ 13 c = 6 ∧ ∃ (k : Nat) (s1 u1 a1 c0 : Int32), 1 ≤ k ∧ k ≤ 8 ∧ xA σ 16 c = c0 ∧ R h s s1 u u1 (n + 1) a1 t (xA μ 7 n) c0 ∧ Wi s s' u u' a b t c s s1 u u1 (n + 1) a1 t c0 ∧ TRow σ μ (TAlt σ μ R h) k s1 s' u1 u' a1 b (c0 + 1) c (xA μ 3 n) (xA σ 17 c0) n noGap ∧ s1 ≤ s' ∧ u1 ≤ u' ∧ a1 ≤ b
def Bd (h s s' u u' a b t n c : Int32) : Prop := 0 ≤ h ∧ h < s ∧ s ≤ s' ∧ s' ≤ 700 ∧ 0 ≤ u ∧ u ≤ u' ∧ u' ≤ 600 ∧ 0 ≤ a ∧ a ≤ n ∧ n < b ∧ b ≤ 3200 ∧ 0 ≤ t ∧ t ≤ c ∧ c < 6200
def TF (σ μ : S5) (R : R10) (h s s' u u' a b t n c : Int32) : Prop := Bd h s s' u u' a b t n c ∧ (TLeaf σ μ h s s' u u' a b t n c ∨ TSign σ μ R h s s' u u' a b t n c ∨ TApp σ μ R h s s' u u' a b t n c ∨ TCons σ μ R h s s' u u' a b t n c ∨ TLam σ μ R h s s' u u' a b t n c ∨ TLet σ μ R h s s' u u' a b t n c ∨ TCase σ μ R h s s' u u' a b t n c)
/-- the two subtrees say the same -/
def TR (σ μ : S5) (h s s' u u' a b t n c : Int32) : Prop := ∀ R : R10, (∀ h s s' u u' a b t n c, TF σ μ R h s s' u u' a b t n c → R h s s' u u' a b t n c) → R h s s' u u' a b t n c
theorem TRow_mono {σ μ : S5} {P P' : Nat → Int32 → Int32 → Int32 → Int32 → Int32 → Int32 → Int32 → Int32 → Int32 → Prop} {k : Nat} {s s' u u' a b t c n1 c1 nn : Int32} {gap : Nat → Int32} (h : TRow σ μ P k s s' u u' a b t c n1 c1 nn gap) (hP : ∀ i s s' u u' a b t n c, P i s s' u u' a b t n c → P' i s s' u u' a b t n c) : TRow σ μ P' k s s' u u' a b t c n1 c1 nn gap := by
  obtain ⟨g, cc, fs, fu, fn, ft, e1, e2, e3, e4, e5, e6, e7, e8, e9, hi⟩ := h
  exact ⟨g, cc, fs, fu, fn, ft, e1, e2, e3, e4, e5, e6, e7, e8, e9, fun i hk => ⟨hP _ _ _ _ _ _ _ _ _ _ (hi i hk).1, (hi i hk).2⟩⟩
theorem TFun_mono {σ μ : S5} {R R' : R10} (hR : ∀ h s s' u u' a b t n c, R h s s' u u' a b t n c → R' h s s' u u' a b t n c) {h s s' u u' n b t c : Int32} (q : TFun σ μ R h s s' u u' n b t c) : TFun σ μ R' h s s' u u' n b t c := by
  obtain ⟨e1, e2, e3, e4, e5, e6, e7, e8, e9, c2, e10, e11, e12, e13⟩ := q
  exact ⟨e1, e2, e3, e4, e5, e6, e7, e8, e9, c2, e10, e11, hR _ _ _ _ _ _ _ _ _ _ e12, e13⟩
theorem TF_mono {σ μ : S5} {R R' : R10} (hR : ∀ h s s' u u' a b t n c, R h s s' u u' a b t n c → R' h s s' u u' a b t n c) {h s s' u u' a b t n c : Int32} (q : TF σ μ R h s s' u u' a b t n c) : TF σ μ R' h s s' u u' a b t n c := by
  obtain ⟨hb, q⟩ := q
  refine ⟨hb, ?_⟩
  rcases q with q | q | q | q | q | q | q
  · exact Or.inl q
  · obtain ⟨e1, e2, e3, e4, e5, c1, c2, s1, u1, e6, e7, e8, e9⟩ := q
    exact Or.inr (Or.inl ⟨e1, e2, e3, e4, e5, c1, c2, s1, u1, hR _ _ _ _ _ _ _ _ _ _ e6, e7, hR _ _ _ _ _ _ _ _ _ _ e8, e9⟩)
  · obtain ⟨e1, e2, e3, k, e4, e5, e6, e7⟩ := q
    exact Or.inr (Or.inr (Or.inl ⟨e1, e2, e3, k, e4, e5, e6, TRow_mono e7 (fun _ => hR h)⟩))
  · obtain ⟨e1, e2, e3, e4, e5, e6, e7, k, e8, e9, e10, e11⟩ := q
    exact Or.inr (Or.inr (Or.inr (Or.inl ⟨e1, e2, e3, e4, e5, e6, e7, k, e8, e9, e10, TRow_mono e11 (fun _ => hR h)⟩)))
  · obtain ⟨e1, e2, e3⟩ := q
    exact Or.inr (Or.inr (Or.inr (Or.inr (Or.inl ⟨e1, e2, TFun_mono hR e3⟩))))
  · obtain ⟨e1, e2, e3, e4, e5, e6, e7, e8, k, s1, u1, a1, t1, c0, e9, e10, e11, e12, e13, e14, e15, e16, e17, e18, e19, e20⟩ := q
    refine Or.inr (Or.inr (Or.inr (Or.inr (Or.inr (Or.inl ⟨e1, e2, e3, e4, e5, e6, e7, e8, k, s1, u1, a1, t1, c0, e9, e10, e11, e12, e13, TRow_mono e14 ?_, e15, e16, e17, e18, hR _ _ _ _ _ _ _ _ _ _ e19, e20⟩)))))
    intro i s s' u u' a b t n c w
    obtain ⟨d1, d2, d3, d4, d5, c1, d6, d7, d8, d9⟩ := w
    refine ⟨d1, d2, d3, d4, d5, c1, d6, d7, d8, ?_⟩
    rcases d9 with ⟨d9, d10, d11⟩ | d9
    · exact Or.inl ⟨d9, hR _ _ _ _ _ _ _ _ _ _ d10, d11⟩
    · exact Or.inr (TFun_mono hR d9)
  · obtain ⟨e1, e2, e3, e4, k, s1, u1, a1, c0, e9, e10, e11, e12, e13, e14, e15⟩ := q
    refine Or.inr (Or.inr (Or.inr (Or.inr (Or.inr (Or.inr ⟨e1, e2, e3, e4, k, s1, u1, a1, c0, e9, e10, e11, hR _ _ _ _ _ _ _ _ _ _ e12, e13, TRow_mono e14 ?_, e15⟩)))))
    intro i s s' u u' a b t n c w
    obtain ⟨d1, d2, c1, d3, d4, d5, d6⟩ := w
    refine ⟨d1, d2, c1, d3, d4, d5, ?_⟩
    rcases d6 with ⟨f1, f2, f3, f4, f5, f6, f7, f8, f9, f10, f11, f12, f13⟩ | ⟨f1, f2, f3, f4⟩
    · exact Or.inl ⟨f1, f2, f3, f4, f5, f6, f7, f8, f9, f10, f11, hR _ _ _ _ _ _ _ _ _ _ f12, f13⟩
    · exact Or.inr ⟨f1, f2, hR _ _ _ _ _ _ _ _ _ _ f3, f4⟩
theorem TR.fold {σ μ : S5} {h s s' u u' a b t n c : Int32} (q : TF σ μ (TR σ μ) h s s' u u' a b t n c) : TR σ μ h s s' u u' a b t n c := fun R hR => hR _ _ _ _ _ _ _ _ _ _ (TF_mono (fun _ _ _ _ _ _ _ _ _ _ w => w R hR) q)
theorem TR.ind {σ μ : S5} {P : R10} (hP : ∀ h s s' u u' a b t n c, TF σ μ (fun h s s' u u' a b t n c => TR σ μ h s s' u u' a b t n c ∧ P h s s' u u' a b t n c) h s s' u u' a b t n c → P h s s' u u' a b t n c) {h s s' u u' a b t n c : Int32} (q : TR σ μ h s s' u u' a b t n c) : P h s s' u u' a b t n c :=
  (q (fun h s s' u u' a b t n c => TR σ μ h s s' u u' a b t n c ∧ P h s s' u u' a b t n c) (fun _ _ _ _ _ _ _ _ _ _ w => ⟨TR.fold (TF_mono (fun _ _ _ _ _ _ _ _ _ _ v => v.1) w), hP _ _ _ _ _ _ _ _ _ _ w⟩)).2
theorem TR.un {σ μ : S5} {h s s' u u' a b t n c : Int32} (q : TR σ μ h s s' u u' a b t n c) : TF σ μ (TR σ μ) h s s' u u' a b t n c :=
  TR.ind (P := fun h s s' u u' a b t n c => TF σ μ (TR σ μ) h s s' u u' a b t n c) (fun _ _ _ _ _ _ _ _ _ _ w => TF_mono (fun _ _ _ _ _ _ _ _ _ _ v => v.1) w) q
/-- two states are alike where a subtree lies -/
def Agr (σ σ' μ μ' : S5) (s s' u u' a b t n c : Int32) : Prop := (∀ i, t ≤ i → i ≤ c → xA σ' 13 i = xA σ 13 i ∧ xA σ' 14 i = xA σ 14 i ∧ xA σ' 15 i = xA σ 15 i ∧ xA σ' 16 i = xA σ 16 i) ∧ (∀ i, t ≤ i → i < c → xA σ' 17 i = xA σ 17 i) ∧ (∀ i, s ≤ i → i < s' → xA σ' 20 i = xA σ 20 i ∧ xA σ' 21 i = xA σ 21 i ∧ xA σ' 23 i = xA σ 23 i ∧ xA σ' 24 i = xA σ 24 i) ∧ (∀ i, 0 ≤ i → i < s' → xA σ' 22 i = xA σ 22 i) ∧ (∀ i, s * 5 ≤ i → i < s' * 5 → xB σ' 3 i = xB σ 3 i) ∧ (∀ i, u ≤ i → i < u' → xA σ' 27 i = xA σ 27 i ∧ xA σ' 28 i = xA σ 28 i ∧ xA σ' 29 i = xA σ 29 i ∧ xB σ' 4 i = xB σ 4 i) ∧ (∀ i, a ≤ i → i < b → xA μ' 2 i = xA μ 2 i ∧ xA μ' 3 i = xA μ 3 i ∧ xA μ' 4 i = xA μ 4 i ∧ xA μ' 6 i = xA μ 6 i ∧ xA μ' 7 i = xA μ 7 i ∧ xA μ' 8 i = xA μ 8 i ∧ xA μ' 9 i = xA μ 9 i ∧ xA μ' 10 i = xA μ 10 i ∧ xB μ' 0 i = xB μ 0 i) ∧ (∀ i, a ≤ i → i < b → ¬ i = n → xA μ' 5 i = xA μ 5 i) ∧ (∀ i, 0 ≤ i → i < gI μ 10 → xB μ' 1 i = xB μ 1 i) ∧ gI μ 10 ≤ gI μ' 10 ∧ gI σ' 4 = gI σ 4 ∧ (∀ i, 0 ≤ i → i < gI σ 4 → xA σ' 2 i = xA σ 2 i)
theorem Wi.tr {s s' u u' a b t c s1 s1' u1 u1' a1 b1 t1 c1 s2 s2' u2 u2' a2 b2 t2 c2 : Int32} (h : Wi s s' u u' a b t c s1 s1' u1 u1' a1 b1 t1 c1) (h2 : Wi s1 s1' u1 u1' a1 b1 t1 c1 s2 s2' u2 u2' a2 b2 t2 c2) : Wi s s' u u' a b t c s2 s2' u2 u2' a2 b2 t2 c2 := by
  unfold Wi at *
  grind
theorem TRow_st {σ σ' μ μ' : S5} {P P' : Nat → Int32 → Int32 → Int32 → Int32 → Int32 → Int32 → Int32 → Int32 → Int32 → Prop} {k : Nat} {s s' u u' a b t c n1 c1 nn : Int32} {gap : Nat → Int32} (h : TRow σ μ P k s s' u u' a b t c n1 c1 nn gap) (hP : ∀ i s1 s1' u1 u1' a1 b1 t1 n1 c1, i < k → P i s1 s1' u1 u1' a1 b1 t1 n1 c1 → Wi s s' u u' a b t c s1 s1' u1 u1' a1 b1 t1 c1 → (b1 ≤ nn ∨ nn < a1) → a1 ≤ n1 → n1 < b1 → P' i s1 s1' u1 u1' a1 b1 t1 n1 c1) (h5 : ∀ i, a ≤ i → i < b → ¬ i = nn → xA μ' 5 i = xA μ 5 i) (h17 : ∀ i, t ≤ i → i < c → xA σ' 17 i = xA σ 17 i) : TRow σ' μ' P' k s s' u u' a b t c n1 c1 nn gap := by
  obtain ⟨g, cc, fs, fu, fn, ft, e1, e2, e3, e4, e5, e6, e7, e8, e9, hi⟩ := h
  refine ⟨g, cc, fs, fu, fn, ft, e1, e2, e3, e4, e5, e6, e7, e8, e9, fun i hk => ?_⟩
  obtain ⟨d1, d2, d3, d4, d5, d6, d7, d8, d9⟩ := hi i hk
  have w := d2
  unfold Wi at w
  have k1 : xA μ' 5 (g i) = xA μ 5 (g i) := h5 _ (by grind) (by grind) (by grind)
  have k2 : xA σ' 17 (cc i) = xA σ 17 (cc i) := h17 _ (by grind) (by grind)
  exact ⟨hP _ _ _ _ _ _ _ _ _ _ hk d1 d2 d9 d3 d4, d2, d3, d4, d5, by rw [k1]; exact d6, by rw [k2]; exact d7, d8, d9⟩
theorem five_lt {s s' : Int32} (h0 : 0 ≤ s) (h1 : s < s') (h2 : s' ≤ 700) {i : Int32} (h3 : 0 ≤ i) (h4 : i < 5) : s * 5 ≤ s * 5 + i ∧ s * 5 + i < s' * 5 := by grind
theorem TNames_st {σ σ' μ μ' : S5} {s s' u u' a b t n c v m : Int32} (hA : Agr σ σ' μ μ' s s' u u' a b t n c) (h0 : 0 ≤ s) (h1 : s ≤ v) (h2 : v < s') (h3 : s' ≤ 700) (h4 : a ≤ m) (h5 : m < b) (q : TNames σ μ v m) : TNames σ' μ' v m := by
  obtain ⟨e1, e2, e3, e4, e5, e6, e7⟩ := q
  obtain ⟨A1, A2, A3, A4, A5, A6, A7, A8, A9, A10, A11, A12⟩ := hA
  have k1 := A3 v h1 h2
  have k2 := A7 m h4 h5
  unfold TNames
  rw [k1.1, k2.2.2.2.2.2.2.1, k2.2.2.2.2.2.2.2.1]
  refine ⟨e1, e2, e3, e4, by grind, e6, fun i i0 i1 => ?_⟩
  have f1 := five_lt (i := i) (by grind) h2 h3 i0 (by grind)
  rw [A5 _ (by grind) f1.2, A9 _ (by grind) (by grind)]
  exact e7 i i0 i1
theorem TFun_st {σ σ' μ μ' : S5} {R R' : R10} {s s' u u' a b t n c : Int32} (hA : Agr σ σ' μ μ' s s' u u' a b t n c) (hR : ∀ h1 s1 s1' u1 u1' a1 b1 t1 n1 c1, R h1 s1 s1' u1 u1' a1 b1 t1 n1 c1 → Wi s s' u u' a b t c s1 s1' u1 u1' a1 b1 t1 c1 → (b1 ≤ n ∨ n < a1) → R' h1 s1 s1' u1 u1' a1 b1 t1 n1 c1) (h0 : 0 ≤ s) (h3 : s' ≤ 700) {h1 s1 s1' u1 u1' a1 b1 t1 c1 : Int32} (hw : s ≤ s1 ∧ s1' ≤ s' ∧ u ≤ u1 ∧ u1' ≤ u' ∧ a ≤ a1 ∧ a1 < b1 ∧ b1 ≤ b ∧ t ≤ t1 ∧ t1 ≤ c1 ∧ c1 ≤ c) (hn : n ≤ a1 ∨ b1 ≤ n) (q : TFun σ μ R h1 s1 s1' u1 u1' a1 b1 t1 c1) : TFun σ' μ' R' h1 s1 s1' u1 u1' a1 b1 t1 c1 := by
  obtain ⟨e1, e2, e3, e4, e5, e6, e7, e8, e9, c2, e10, e11, e12, e13, e14⟩ := q
  have hA' := hA
  obtain ⟨A1, A2, A3, A4, A5, A6, A7, A8, A9, A10, A11, A12⟩ := hA
  have w := e13
  unfold Wi at w
  have k1 := A1 c1 (by grind) (by grind)
  have k2 := A3 s1 (by grind) (by grind)
  have k3 := A7 a1 (by grind) (by grind)
  have k4 := A4 s1 (by grind) (by grind)
  have k5 := A2 c2 (by grind) (by grind)
  unfold TFun
  rw [k1.1, k1.2.1, k1.2.2.2, k2.2.1, k4, k2.2.2.2, k3.2.2.2.1, k2.2.2.1, k3.2.1, k3.2.2.2.2.2.2.2.1]
  refine ⟨e1, e2, e3, e4, e5, e6, TNames_st hA' h0 (by grind) (by grind) h3 (by grind) (by grind) e7, e8, e9, c2, e10, by rw [k5]; exact e11, ?_, e13, e14⟩
  refine hR _ _ _ _ _ _ _ _ _ _ e12 ?_ ?_
  · unfold Wi
    grind
  · grind
theorem TF_st {σ σ' μ μ' : S5} {R R' : R10} {h s s' u u' a b t n c : Int32} (hA : Agr σ σ' μ μ' s s' u u' a b t n c) (hR : ∀ h1 s1 s1' u1 u1' a1 b1 t1 n1 c1, R h1 s1 s1' u1 u1' a1 b1 t1 n1 c1 → Wi s s' u u' a b t c s1 s1' u1 u1' a1 b1 t1 c1 → (b1 ≤ n ∨ n < a1) → R' h1 s1 s1' u1 u1' a1 b1 t1 n1 c1) (q : TF σ μ R h s s' u u' a b t n c) : TF σ' μ' R' h s s' u u' a b t n c := by
  obtain ⟨hb, q⟩ := q
  refine ⟨hb, ?_⟩
  have hA' := hA
  obtain ⟨A1, A2, A3, A4, A5, A6, A7, A8, A9, A10, A11, A12⟩ := hA
  unfold Bd at hb
  obtain ⟨b1, b2, b3, b4, b5, b6, b7, b8, b9, b10, b11, b12, b13, b14⟩ := hb
  have kc := A1 c b13 (by grind)
  have kn := A7 n b9 b10
  obtain ⟨kc1, kc2, kc3, kc4⟩ := kc
  obtain ⟨kn2, kn3, kn4, kn6, kn7, kn8, kn9, kn10, kn0⟩ := kn
  rcases q with q | q | q | q | q | q | q
  · refine Or.inl ?_
    unfold TLeaf at *
    rw [kc1, kc2, kc4, kn2, kn6, kn7, kn10, kn0, A11]
    obtain ⟨e1, e2, e3, e4, e5, e6, e7⟩ := q
    refine ⟨e1, e2, e3, e4, e5, e6, ?_⟩
    rcases e7 with ⟨f1, f2, f3, f4, f5, f6, f7⟩ | ⟨f1, f2⟩
    · have ku := A6 u (by grind) (by grind)
      rw [ku.1, ku.2.1, ku.2.2.1, ku.2.2.2]
      exact Or.inl ⟨f1, f2, f3, f4, f5, f6, f7⟩
    · refine Or.inr ⟨f1, ?_⟩
      rcases f2 with f2 | ⟨g1, g2, g3, g4, g5, g6⟩ | f2
      · exact Or.inl f2
      · exact Or.inr (Or.inl ⟨g1, g2, g3, g4, g5, by rw [A12 _ g4 g5]; exact g6⟩)
      · exact Or.inr (Or.inr f2)
  · refine Or.inr (Or.inl ?_)
    unfold TSign at *
    rw [kc1, kc2, kc4, kn2, kn3, kn4, kn7, kn10]
    obtain ⟨e1, e2, e3, e4, e5, c1, c2, s1, u1, e6, e7, e8, e9, e10, e11, e12, e13⟩ := q
    have w1 := e7
    have w2 := e9
    unfold Wi at w1 w2
    refine ⟨e1, e2, e3, e4, e5, c1, c2, s1, u1, hR _ _ _ _ _ _ _ _ _ _ e6 e7 (Or.inl (by grind)), e7, hR _ _ _ _ _ _ _ _ _ _ e8 e9 (Or.inr (by grind)), e9, e10, e11, ?_, ?_⟩
    · rw [A2 c1 (by grind) (by grind)]; exact e12
    · rw [A2 c2 (by grind) (by grind)]; exact e13
  · refine Or.inr (Or.inr (Or.inl ?_))
    unfold TApp at *
    rw [kc1, kc3, kc4, kn2, kn3, kn10]
    obtain ⟨e1, e2, e3, k, e4, e5, e6, e7⟩ := q
    exact ⟨e1, e2, e3, k, e4, e5, e6, TRow_st e7 (fun i _ _ _ _ _ _ _ _ _ _ p w x _ _ => hR _ _ _ _ _ _ _ _ _ _ p w x) A8 A2⟩
  · refine Or.inr (Or.inr (Or.inr (Or.inl ?_)))
    unfold TCons at *
    rw [kc1, kc2, kc4, kn2, kn3, kn7, kn10, A11]
    obtain ⟨e1, e2, e3, e4, e5, e6, e7, k, e8, e9, e10, e11⟩ := q
    refine ⟨e1, e2, e3, e4, e5, e6, e7, k, e8, e9, by rw [A12 _ e6 e7]; exact e10, TRow_st e11 (fun i _ _ _ _ _ _ _ _ _ _ p w x _ _ => hR _ _ _ _ _ _ _ _ _ _ p ?_ x) (fun i q1 q2 q3 => A8 i (by grind) q2 q3) A2⟩
    unfold Wi at *
    grind
  · refine Or.inr (Or.inr (Or.inr (Or.inr (Or.inl ?_))))
    unfold TLam at *
    rw [kn2]
    obtain ⟨e1, e2, e3⟩ := q
    subst e2
    exact ⟨e1, rfl, TFun_st hA' hR (by grind) b4 (by grind) (Or.inl (by grind)) e3⟩
  · refine Or.inr (Or.inr (Or.inr (Or.inr (Or.inr (Or.inl ?_)))))
    unfold TLet at *
    obtain ⟨e1, e2, e3, e4, e5, e6, e7, e8, k, s1, u1, a1, t1, c0, e9, e10, e11, e12, e13, e14, e15, e16, e17, e18, e19, e20⟩ := q
    have w := e20
    unfold Wi at w
    have ks := A3 s (by grind) (by grind)
    rw [kc1, kc3, kc4, kn2, kn3, kn7, kn10, ks.2.1, ks.1, A4 s (by grind) (by grind), A4 h (by grind) (by grind)]
    refine ⟨e1, e2, e3, e4, e5, e6, e7, e8, k, s1, u1, a1, t1, c0, e9, e10, e11, e12, e13, ?_, e15, e16, e17, e18, hR _ _ _ _ _ _ _ _ _ _ e19 e20 (Or.inr (by grind)), e20⟩
    rw [A2 c0 (by grind) (by grind)]
    refine TRow_st e14 ?_ (fun i q1 q2 q3 => A8 i (by grind) (by grind) q3) (fun i q1 q2 => A2 i q1 (by grind))
    intro i s2 s2' u2 u2' a2 b2 t2 n2 c2 hik p w2 x y1 y2
    obtain ⟨d1, d2, d3, d4, d5, c3, d6, d7, d8, d9⟩ := p
    unfold Wi at w2
    have kc2' := A1 c2 (by grind) (by grind)
    have kn2' := A7 n2 (by grind) (by grind)
    have hi5 : 0 ≤ nI i ∧ nI i < 5 := ⟨i_le0 (nI_nneg (by omega)), (nI_lt31 (b := 5) (by omega) (by omega)).mpr (by omega)⟩
    have f1 := five_lt (s' := s') (by grind : 0 ≤ s) (by grind) b4 hi5.1 hi5.2
    unfold TBind
    have t3 : t2 ≤ c3 := by
      rcases d9 with d9 | d9
      · have := d9.2.2
        unfold Wi at this
        grind
      · obtain ⟨g1, g2, g3, g4, g5, g6, g7, g8, g9, c9, g10, g11, g12, g13, g14⟩ := d9
        unfold Wi at g13
        grind
    rw [kc2'.1, kc2'.2.1, kc2'.2.2.2, kn2'.1, kn2'.2.1, kn2'.2.2.2.2.2.2.2.1, kn2'.2.2.2.2.2.2.2.2, A5 _ f1.1 f1.2]
    refine ⟨d1, d2, d3, d4, d5, c3, d6, by rw [A2 c3 (by grind) (by grind)]; exact d7, d8, ?_⟩
    rcases d9 with ⟨d9, d10, d11⟩ | d9
    · refine Or.inl ⟨d9, hR _ _ _ _ _ _ _ _ _ _ d10 ?_ ?_, d11⟩
      · unfold Wi at *
        grind
      · grind
    · exact Or.inr (TFun_st hA' hR (by grind) b4 (by grind) (by grind) d9)
  · refine Or.inr (Or.inr (Or.inr (Or.inr (Or.inr (Or.inr ?_)))))
    unfold TCase at *
    obtain ⟨e1, e2, e3, e4, k, s1, u1, a1, c0, e9, e10, e11, e12, e13, e14, e15⟩ := q
    have w := e13
    unfold Wi at w
    rw [kc1, kc4, kn2, kn3, kn7, kn10]
    refine ⟨e1, e2, e3, e4, k, s1, u1, a1, c0, e9, e10, e11, hR _ _ _ _ _ _ _ _ _ _ e12 e13 (Or.inr (by grind)), e13, ?_, e15⟩
    rw [A2 c0 (by grind) (by grind)]
    refine TRow_st e14 ?_ (fun i q1 q2 q3 => A8 i (by grind) q2 q3) (fun i q1 q2 => A2 i (by grind) q2)
    intro i s2 s2' u2 u2' a2 b2 t2 n2 c2 hik p w2 x y1 y2
    obtain ⟨d1, d2, c3, d3, d4, d5, d6⟩ := p
    unfold Wi at w2
    have kc2' := A1 c2 (by grind) (by grind)
    have kn2' := A7 n2 (by grind) (by grind)
    have t3 : t2 ≤ c3 := by
      rcases d6 with ⟨f1, f2, f3, f4, f5, f6, f7, f8, f9, f10, f11, f12, f13⟩ | ⟨f1, f2, f3, f4⟩
      · unfold Wi at f13
        grind
      · unfold Wi at f4
        grind
    unfold TAlt
    rw [kc2'.1, kc2'.2.1, kc2'.2.2.1, kc2'.2.2.2, kn2'.1, kn2'.2.1, kn2'.2.2.2.2.1, kn2'.2.2.2.2.2.1, kn2'.2.2.2.2.2.2.2.1, A11]
    refine ⟨d1, d2, c3, d3, by rw [A2 c3 (by grind) (by grind)]; exact d4, d5, ?_⟩
    rcases d6 with ⟨f1, f2, f3, f4, f5, f6, f7, f8, f9, f10, f11, f12, f13⟩ | ⟨f1, f2, f3, f4⟩
    · have w3 := f13
      unfold Wi at w3
      have ks := A3 s2 (by grind) (by grind)
      rw [ks.2.1, A4 s2 (by grind) (by grind), A4 h (by grind) (by grind), A12 _ f4 f5]
      refine Or.inl ⟨f1, f2, f3, f4, f5, f6, f7, f8, f9, TNames_st hA' (by grind) (by grind) (by grind) b4 (by grind) (by grind) f10, f11, hR _ _ _ _ _ _ _ _ _ _ f12 ?_ ?_, f13⟩
      · unfold Wi at *
        grind
      · grind
    · have w3 := f4
      unfold Wi at w3
      refine Or.inr ⟨f1, f2, hR _ _ _ _ _ _ _ _ _ _ f3 ?_ ?_, f4⟩
      · unfold Wi at *
        grind
      · grind
theorem Agr.sub {σ σ' μ μ' : S5} {s s' u u' a b t n c s1 s1' u1 u1' a1 b1 t1 n1 c1 : Int32} (hA : Agr σ σ' μ μ' s s' u u' a b t n c) (hs : 0 ≤ s) (hs' : s' ≤ 700) (w : Wi s s' u u' a b t c s1 s1' u1 u1' a1 b1 t1 c1) (x : b1 ≤ n ∨ n < a1) : Agr σ σ' μ μ' s1 s1' u1 u1' a1 b1 t1 n1 c1 := by
  obtain ⟨A1, A2, A3, A4, A5, A6, A7, A8, A9, A10, A11, A12⟩ := hA
  unfold Wi at w
  refine ⟨fun i p q => A1 i (by grind) (by grind), fun i p q => A2 i (by grind) (by grind), fun i p q => A3 i (by grind) (by grind), fun i p q => A4 i p (by grind), fun i p q => A5 i (by grind) (by grind), fun i p q => A6 i (by grind) (by grind), fun i p q => A7 i (by grind) (by grind), fun i p q r => A8 i (by grind) (by grind) (by grind), A9, A10, A11, A12⟩
theorem TR.st {σ σ' μ μ' : S5} {h s s' u u' a b t n c : Int32} (q : TR σ μ h s s' u u' a b t n c) (hA : Agr σ σ' μ μ' s s' u u' a b t n c) : TR σ' μ' h s s' u u' a b t n c := by
  refine TR.ind (P := fun h s s' u u' a b t n c => Agr σ σ' μ μ' s s' u u' a b t n c → TR σ' μ' h s s' u u' a b t n c) (fun h s s' u u' a b t n c w hA => ?_) q hA
  have hb := w.1
  unfold Bd at hb
  exact TR.fold (TF_st hA (fun h1 s1 s1' u1 u1' a1 b1 t1 n1 c1 p wi x => p.2 (hA.sub (by grind) (by grind) wi x)) w)
