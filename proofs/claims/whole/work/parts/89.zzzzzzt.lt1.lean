abbrev R3 : Type := Int32 → Nat → Nat → Prop
/-- k children, one behind the other -/
def LKids (μ : S5) (R : R3) (k : Nat) (cc : Nat → Int32) (T q p : Nat) : Prop := ∃ (qq pp : Nat → Nat) (ct : Nat), xA μ 33 (nI p) = nI ct ∧ ct + k ≤ T ∧ xA μ 34 (nI p) = nI k ∧ qq 0 = q ∧ qq k = p ∧ ∀ i, i < k → R (cc i) (qq i) (pp i) ∧ qq i ≤ pp i ∧ pp i < p ∧ qq (i + 1) = pp i + 1 ∧ xA μ 39 (nI (ct + i)) = nI (pp i)
def Chn (τ : S5) (c : Int32) (l : Nat) (cc : Nat → Int32) : Prop := xA τ 16 c = cc 0 ∧ ∀ i, i < l → 0 ≤ cc i ∧ xA τ 17 (cc i) = if i + 1 < l then cc (i + 1) else -1
def LLeaf (τ μ : S5) (F V : Nat) (c : Int32) (q p : Nat) : Prop := q = p ∧ xA μ 34 (nI p) = nI 0 ∧ xA τ 16 c = -1 ∧ ((xA τ 13 c = 0 ∧ xA μ 31 (nI p) = 10 ∧ xA μ 32 (nI p) = xA τ 14 c ∧ 0 ≤ xA τ 14 c) ∨ (xA τ 13 c = 1 ∧ xA μ 31 (nI p) = 9 ∧ xA μ 32 (nI p) = xA τ 14 c ∧ 0 ≤ xA τ 14 c ∧ xA τ 14 c < gI τ 4 ∧ xA τ 2 (xA τ 14 c) = 0) ∨ (xA τ 13 c = 2 ∧ xA μ 31 (nI p) = 12 ∧ ∃ f, f < F ∧ xA τ 14 c = nI f ∧ xA μ 32 (nI p) = nI f) ∨ (xA τ 13 c = 3 ∧ xA μ 31 (nI p) = 13 ∧ ∃ x, x < V ∧ xA τ 14 c = nI x ∧ xA μ 32 (nI p) = nI x) ∨ (xA τ 13 c = 4 ∧ xA μ 31 (nI p) = 11))
def LSign (τ μ : S5) (R : R3) (T : Nat) (c : Int32) (q p : Nat) : Prop := xA τ 13 c = 5 ∧ xA μ 31 (nI p) = 5 ∧ xA μ 32 (nI p) = kMd (xA τ 14 c) ∧ 0 < rkK (xA τ 14 c) ∧ ∃ cc, Chn τ c 2 cc ∧ LKids μ R 2 cc T q p
def LApp (τ μ : S5) (R : R3) (T : Nat) (c : Int32) (q p : Nat) : Prop := xA τ 13 c = 8 ∧ xA μ 31 (nI p) = 6 ∧ ∃ k cc, 2 ≤ k ∧ k ≤ 9 ∧ xA τ 15 c = nI (k - 1) ∧ Chn τ c k cc ∧ LKids μ R k cc T q p
def LCons (τ μ : S5) (R : R3) (T : Nat) (c : Int32) (q p : Nat) : Prop := xA τ 13 c = 9 ∧ xA μ 31 (nI p) = 7 ∧ xA μ 32 (nI p) = xA τ 14 c ∧ 0 ≤ xA τ 14 c ∧ xA τ 14 c < gI τ 4 ∧ ∃ k cc, 1 ≤ k ∧ k ≤ 4 ∧ xA τ 2 (xA τ 14 c) = nI k ∧ Chn τ c k cc ∧ LKids μ R k cc T q p
def LLet (τ μ : S5) (R : R3) (V T : Nat) (c : Int32) (q p : Nat) : Prop := xA τ 13 c = 7 ∧ xA μ 31 (nI p) = 0 ∧ ∃ (l x0 : Nat) (bb cc : Nat → Int32) (c0 : Int32), 1 ≤ l ∧ l ≤ 5 ∧ xA μ 32 (nI p) = nI l ∧ xA μ 35 (nI p) = nI x0 ∧ x0 + l ≤ V ∧ xA τ 16 c = c0 ∧ 0 ≤ c0 ∧ xA τ 17 c0 = bb 0 ∧ (∀ i, i < l → 0 ≤ bb i ∧ xA τ 13 (bb i) = 10 ∧ xA τ 14 (bb i) = nI (x0 + i) ∧ xA τ 16 (bb i) = cc i ∧ 0 ≤ cc i ∧ xA τ 17 (cc i) = -1 ∧ xA τ 17 (bb i) = if i + 1 < l then bb (i + 1) else -1) ∧ LKids μ R (l + 1) (fun i => if i < l then cc i else c0) T q p
def LAlt (τ μ : S5) (V : Nat) (a at0 : Int32) : Prop := (xA τ 13 a = 11 ∧ xA μ 40 at0 = 0 ∧ xA μ 41 at0 = xA τ 14 a ∧ 0 ≤ xA τ 14 a ∧ xA τ 14 a < gI τ 4 ∧ ∃ j x0 : Nat, j ≤ 5 ∧ xA τ 2 (xA τ 14 a) = nI j ∧ xA μ 43 at0 = nI j ∧ (0 < j → xA τ 15 a = nI x0 ∧ xA μ 42 at0 = nI x0 ∧ x0 + j ≤ V) ∧ (j = 0 → xA μ 42 at0 = 0)) ∨ (xA τ 13 a = 12 ∧ xA μ 40 at0 = 1 ∧ xA μ 41 at0 = xA τ 14 a ∧ 0 ≤ xA τ 14 a ∧ xA μ 43 at0 = 0 ∧ xA μ 42 at0 = 0) ∨ (xA τ 13 a = 13 ∧ xA μ 40 at0 = 2 ∧ xA μ 43 at0 = 0 ∧ xA μ 42 at0 = 0)
def LCase (τ μ : S5) (R : R3) (V T : Nat) (c : Int32) (q p : Nat) : Prop := xA τ 13 c = 6 ∧ xA μ 31 (nI p) = 3 ∧ ∃ (l ct : Nat) (aa cc : Nat → Int32) (c0 : Int32), 1 ≤ l ∧ l ≤ 8 ∧ xA μ 32 (nI p) = nI l ∧ xA μ 33 (nI p) = nI ct ∧ ct + l + 1 ≤ T ∧ xA τ 16 c = c0 ∧ 0 ≤ c0 ∧ xA τ 17 c0 = aa 0 ∧ (∀ i, i < l → 0 ≤ aa i ∧ LAlt τ μ V (aa i) (nI (ct + 1 + i)) ∧ xA τ 16 (aa i) = cc i ∧ 0 ≤ cc i ∧ xA τ 17 (cc i) = -1 ∧ xA τ 17 (aa i) = if i + 1 < l then aa (i + 1) else -1) ∧ LKids μ R (l + 1) (fun i => if i = 0 then c0 else cc (i - 1)) T q p
def LTF (τ μ : S5) (F V T : Nat) (R : R3) (c : Int32) (q p : Nat) : Prop := (q ≤ p ∧ p < 7000 ∧ T ≤ 14000 ∧ 0 ≤ c ∧ c < 6200) ∧ xA μ 37 (nI p) = xA τ 18 c ∧ p + 1 = q + (xA τ 19 c).toNatClampNeg ∧ (V ≤ 40 → xB μ 5 (nI p) = xB τ 2 c) ∧ (LLeaf τ μ F V c q p ∨ LSign τ μ R T c q p ∨ LApp τ μ R T c q p ∨ LCons τ μ R T c q p ∨ LLet τ μ R V T c q p ∨ LCase τ μ R V T c q p)
/-- the tree and the lifted tree say the same -/
def LT (τ μ : S5) (F V T : Nat) (c : Int32) (q p : Nat) : Prop := ∀ R : R3, (∀ c q p, LTF τ μ F V T R c q p → R c q p) → R c q p
theorem LKids.mono {μ : S5} {R R' : R3} (hR : ∀ c q p, R c q p → R' c q p) {k : Nat} {cc : Nat → Int32} {T q p : Nat} (h : LKids μ R k cc T q p) : LKids μ R' k cc T q p := by
  obtain ⟨qq, pp, ct, a1, a2, a3, a4, a5, a6⟩ := h
  exact ⟨qq, pp, ct, a1, a2, a3, a4, a5, fun i hi => ⟨hR _ _ _ (a6 i hi).1, (a6 i hi).2⟩⟩
theorem LTF.mono {τ μ : S5} {F V T : Nat} {R R' : R3} (hR : ∀ c q p, R c q p → R' c q p) {c : Int32} {q p : Nat} (h : LTF τ μ F V T R c q p) : LTF τ μ F V T R' c q p := by
  obtain ⟨h1, h2, h3, h4, h5⟩ := h
  refine ⟨h1, h2, h3, h4, ?_⟩
  rcases h5 with h | ⟨a, b, c, d, cc, e, f⟩ | ⟨a, b, k, cc, d, e, f, g, i⟩ | ⟨a, b, c, d, e, k, cc, f, g, i, j, m⟩ | ⟨a, b, l, x0, bb, cc, c0, d, e, f, g, i, j, m, n, o, q⟩ | ⟨a, b, l, ct, aa, cc, c0, d, e, f, g, i, j, m, n, o, q⟩
  · exact Or.inl h
  · exact Or.inr (Or.inl ⟨a, b, c, d, cc, e, f.mono hR⟩)
  · exact Or.inr (Or.inr (Or.inl ⟨a, b, k, cc, d, e, f, g, i.mono hR⟩))
  · exact Or.inr (Or.inr (Or.inr (Or.inl ⟨a, b, c, d, e, k, cc, f, g, i, j, m.mono hR⟩)))
  · exact Or.inr (Or.inr (Or.inr (Or.inr (Or.inl ⟨a, b, l, x0, bb, cc, c0, d, e, f, g, i, j, m, n, o, q.mono hR⟩))))
  · exact Or.inr (Or.inr (Or.inr (Or.inr (Or.inr ⟨a, b, l, ct, aa, cc, c0, d, e, f, g, i, j, m, n, o, q.mono hR⟩))))
theorem LT.fold {τ μ : S5} {F V T : Nat} {c : Int32} {q p : Nat} (h : LTF τ μ F V T (LT τ μ F V T) c q p) : LT τ μ F V T c q p := fun R hR => hR _ _ _ (h.mono (fun _ _ _ w => w R hR))
theorem LT.ind {τ μ : S5} {F V T : Nat} {P : R3} (hP : ∀ c q p, LTF τ μ F V T (fun c q p => LT τ μ F V T c q p ∧ P c q p) c q p → P c q p) {c : Int32} {q p : Nat} (h : LT τ μ F V T c q p) : P c q p :=
  (h (fun c q p => LT τ μ F V T c q p ∧ P c q p) (fun _ _ _ w => ⟨LT.fold (w.mono (fun _ _ _ v => v.1)), hP _ _ _ w⟩)).2
theorem LT.un {τ μ : S5} {F V T : Nat} {c : Int32} {q p : Nat} (h : LT τ μ F V T c q p) : LTF τ μ F V T (LT τ μ F V T) c q p :=
  LT.ind (P := fun c q p => LTF τ μ F V T (LT τ μ F V T) c q p) (fun _ _ _ w => w.mono (fun _ _ _ v => v.1)) h
/-- the rows of children and branches stay -/
def Ls5 (μ μ' : S5) (y : Int32) : Prop := xA μ' 39 y = xA μ 39 y ∧ xA μ' 40 y = xA μ 40 y ∧ xA μ' 41 y = xA μ 41 y ∧ xA μ' 42 y = xA μ 42 y ∧ xA μ' 43 y = xA μ 43 y
theorem Ls5.rf (μ : S5) (y : Int32) : Ls5 μ μ y := ⟨rfl, rfl, rfl, rfl, rfl⟩
theorem Ls5.tr {μ ν ρ : S5} {x : Int32} (h : Ls5 μ ν x) (h2 : Ls5 ν ρ x) : Ls5 μ ρ x := ⟨h2.1.trans h.1, h2.2.1.trans h.2.1, h2.2.2.1.trans h.2.2.1, h2.2.2.2.1.trans h.2.2.2.1, h2.2.2.2.2.trans h.2.2.2.2⟩
theorem LKids.st {μ μ' : S5} {R R' : R3} {k : Nat} {cc : Nat → Int32} {T T' q p : Nat} (h : LKids μ R k cc T q p) (hp : Lw8 μ μ' (nI p)) (hT : ∀ y, y < T → Ls5 μ μ' (nI y)) (hTT : T ≤ T') (hR : ∀ c q' p', q ≤ q' → p' < p → R c q' p' → R' c q' p') : LKids μ' R' k cc T' q p := by
  obtain ⟨qq, pp, ct, a1, a2, a3, a4, a5, a6⟩ := h
  have hq : ∀ i, i ≤ k → q ≤ qq i := by
    intro i
    induction i with
    | zero => intro _; omega
    | succ i ih =>
      intro hi
      obtain ⟨b1, b2, b3, b4, b5⟩ := a6 i (by omega)
      have := ih (by omega)
      omega
  refine ⟨qq, pp, ct, by rw [hp.2.2.1]; exact a1, by omega, by rw [hp.2.2.2.1]; exact a3, a4, a5, fun i hi => ?_⟩
  obtain ⟨b1, b2, b3, b4, b5⟩ := a6 i hi
  exact ⟨hR _ _ _ (hq i (by omega)) b3 b1, b2, b3, b4, by rw [(hT (ct + i) (by omega)).1]; exact b5⟩
theorem LAlt.st {τ μ μ' : S5} {V : Nat} {a at0 : Int32} (h : LAlt τ μ V a at0) (hT : Ls5 μ μ' at0) : LAlt τ μ' V a at0 := by
  obtain ⟨t39, t40, t41, t42, t43⟩ := hT
  unfold LAlt
  rw [t40, t41, t42, t43]
  exact h
theorem LT.st {τ μ μ' : S5} {F V T T' : Nat} (hTT : T ≤ T') (hT' : T' ≤ 14000) (hT : ∀ y, y < T → Ls5 μ μ' (nI y)) {c : Int32} {q p : Nat} (h : LT τ μ F V T c q p) : (∀ x, q ≤ x → x ≤ p → Lw8 μ μ' (nI x)) → LT τ μ' F V T' c q p := by
  refine LT.ind (P := fun c q p => (∀ x, q ≤ x → x ≤ p → Lw8 μ μ' (nI x)) → LT τ μ' F V T' c q p) ?_ h
  clear h
  intro c q p h hx
  obtain ⟨⟨h1, h1b, h1c, h1d⟩, h2, h3, h4, h5⟩ := h
  have hp := hx p h1 (Nat.le_refl _)
  have hR : ∀ c' q' p', q ≤ q' → p' < p → (LT τ μ F V T c' q' p' ∧ ((∀ x, q' ≤ x → x ≤ p' → Lw8 μ μ' (nI x)) → LT τ μ' F V T' c' q' p')) → LT τ μ' F V T' c' q' p' := fun c' q' p' a b w => w.2 (fun x x1 x2 => hx x (by omega) (by omega))
  refine LT.fold ⟨⟨h1, h1b, hT', h1d⟩, by rw [hp.2.2.2.2.2.1]; exact h2, h3, fun w => by rw [hp.2.2.2.2.2.2]; exact h4 w, ?_⟩
  rcases h5 with ⟨a, b, c1, d⟩ | ⟨a, b, c1, d, cc, e, f⟩ | ⟨a, b, k, cc, d, e, f, g, i⟩ | ⟨a, b, c1, d, e, k, cc, f, g, i, j, m⟩ | ⟨a, b, l, x0, bb, cc, c0, d, e, f, g, i, j, m, n, o, r⟩ | ⟨a, b, l, ct, aa, cc, c0, d, e, f, g, i, j, m, n, o, r⟩
  · refine Or.inl ⟨a, by rw [hp.2.2.2.1]; exact b, c1, ?_⟩
    rw [hp.1, hp.2.1]
    exact d
  · exact Or.inr (Or.inl ⟨a, by rw [hp.1]; exact b, by rw [hp.2.1]; exact c1, d, cc, e, f.st hp hT hTT hR⟩)
  · exact Or.inr (Or.inr (Or.inl ⟨a, by rw [hp.1]; exact b, k, cc, d, e, f, g, i.st hp hT hTT hR⟩))
  · exact Or.inr (Or.inr (Or.inr (Or.inl ⟨a, by rw [hp.1]; exact b, by rw [hp.2.1]; exact c1, d, e, k, cc, f, g, i, j, m.st hp hT hTT hR⟩)))
  · exact Or.inr (Or.inr (Or.inr (Or.inr (Or.inl ⟨a, by rw [hp.1]; exact b, l, x0, bb, cc, c0, d, e, by rw [hp.2.1]; exact f, by rw [hp.2.2.2.2.1]; exact g, i, j, m, n, o, r.st hp hT hTT hR⟩))))
  · refine Or.inr (Or.inr (Or.inr (Or.inr (Or.inr ⟨a, by rw [hp.1]; exact b, l, ct, aa, cc, c0, d, e, by rw [hp.2.1]; exact f, by rw [hp.2.2.1]; exact g, by omega, j, m, n, fun z hz => ?_, r.st hp hT hTT hR⟩))))
    obtain ⟨z1, z2, z3⟩ := o z hz
    exact ⟨z1, z2.st (hT _ (by omega)), z3⟩
