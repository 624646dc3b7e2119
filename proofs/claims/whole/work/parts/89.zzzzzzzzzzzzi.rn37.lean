/-- a node of some function -/
def GdN (τ μ0 : S5) (F T : Nat) (nv : Nat → Nat) (p : Nat) : Prop := p < 7000 ∧ ∃ f c Sc, ND τ μ0 F T nv f c p Sc
/-- a row of children that are all such nodes -/
def GKs (τ μ0 : S5) (F T : Nat) (nv : Nat → Nat) (p kk : Nat) : Prop := cnN μ0 p = kk ∧ xA μ0 34 (nI p) = nI kk ∧ kk ≤ 9 ∧ ∃ ct0, xA μ0 33 (nI p) = nI ct0 ∧ ct0 + kk ≤ 14000 ∧ ∀ i, i < kk → GdN τ μ0 F T nv (chN μ0 p i) ∧ xA μ0 39 (nI (ct0 + i)) = nI (chN μ0 p i)
theorem eqP.rf (τ : S5) : eqP τ τ := ⟨fun _ _ => rfl, fun _ _ => rfl, fun _ _ => rfl⟩
theorem chN_of {μ : S5} {p ct i q : Nat} (h33 : xA μ 33 (nI p) = nI ct) (h39 : xA μ 39 (nI (ct + i)) = nI q) (hq : q < 7000) : chN μ p i = q := by
  unfold chN
  rw [h33, nI_plus, h39, nI_clamp (by omega)]
/-- what the other makes for a node -/
theorem mkM {τ μ0 : S5} {F k T : Nat} {pa nv : Nat → Nat} (hS : PSt τ μ0 F k T pa nv) {μ : S5} (hQ : eqQ μ0 μ) {f : Nat} {c : Int32} {p : Nat} {Sc : Nat → Prop} (hN : ND τ μ0 F T nv f c p Sc) : (∃ kk v, 1 ≤ kk ∧ GKs τ μ0 F T nv p kk ∧ f_X12_make (nI p) μ = f_X12_newCell 0 v (nI kk) (1 + nI kk) μ) ∨ (∃ m v, 1 ≤ m ∧ GKs τ μ0 F T nv p (m + 1) ∧ f_X12_make (nI p) μ = f_X12_newCell 1 v (nI m) (nI (m + 2)) μ) ∨ (∃ m, m ≤ 40 ∧ f_X12_make (nI p) μ = f_X12_newCell 2 (nI p) (nI m) (1 + nI m) μ) := by
  obtain ⟨l1, l2⟩ := less_go hS (eqP.rf τ) hQ hN
  have hN' := hN
  obtain ⟨hfF, q, lo, hi, hx, hhi, h38⟩ := hN
  obtain ⟨⟨s1, s2, s3⟩, hct, s4, s5, hf⟩ := id hS
  have hnv := (hf f hfF).2.1.2.2.2
  obtain ⟨⟨u1, u2, ⟨c0, c1⟩, u3, u5, -⟩, -, h3⟩ := hx.un hnv
  have g2 : ∀ {β : Type} (x : Option β), gd (nI p) 7000 x = x := fun x => gdn u2 (by omega)
  have hu40 : i64n (xB τ 2 c) < 2 ^ 40 := used_lt (fun x w => by
    have := hx.2.2.2.1 x (hx.2.2.1 x w)
    omega)
  have mks : ∀ z, xA μ0 31 (nI p) = z → ¬ z = 7 → f_X12_isLess (nI p) μ = some (0, μ) → ∃ m, m ≤ 40 ∧ f_X12_make (nI p) μ = f_X12_newCell 2 (nI p) (nI m) (1 + nI m) μ := by
    intro z z1 z2 z3
    refine ⟨_, pcn_le (X := i64n (xB τ 2 c)) 40, ?_⟩
    unfold f_X12_make
    rw [g2, hQ.x 31 _ (by decide), z1, if_neg z2, z3, bd_of, if_pos rfl, g2, hQ.y 5 _ (by decide), u5, on_go hu40, bd_of, bd_id]
  rcases h3 with ⟨-, -, -, -, w⟩ | ⟨kk, ct', cc, ll, w, ⟨k1, k9⟩, hch, hl0, hlk, hkk⟩ | ⟨a, b, -⟩ | ⟨a, b, -⟩
  · rcases w with ⟨a, b, -⟩ | ⟨a, b, -⟩ | ⟨a, b, -⟩ | ⟨a, b, -⟩ | ⟨a, b⟩ <;> exact Or.inr (Or.inr (mks _ b (by decide) (l1 (by rw [a]; decide))))
  · have hmo := ll_mo (k := kk) (ll := ll) (fun i hi' => by
      obtain ⟨qq, pp, -, -, -, -, -, z⟩ := hkk
      exact (z i hi').1.2.1.le)
    obtain ⟨x33, x14, x34, pp, xk⟩ := XK.nd hfF hkk h38 (fun i hi' => by have := hmo kk (i + 1) (by omega) (by omega); omega) u2
    have hcn : cnN μ0 p = kk := by
      unfold cnN
      rw [x34, nI_clamp (by omega)]
    have hks : GKs τ μ0 F T nv p kk := ⟨hcn, x34, k9, ct', x33, x14, fun i hi' => by
      obtain ⟨o0, o1, o2, o3, o4⟩ := xk i hi'
      rw [chN_of x33 o4 o3]
      exact ⟨⟨o3, f, _, _, o0⟩, o4⟩⟩
    rcases w with ⟨a, b, -⟩ | ⟨a, b, hk2, b2⟩ | ⟨a, b, b2, b3, b4, b5, b6⟩
    · exact Or.inr (Or.inr (mks _ b (by decide) (l1 (by rw [a]; decide))))
    · obtain ⟨m, hd, h', cc', pp', y1, y2, y3, y4, y5, y6, y7, y8, y9, y10, y11, y12, y13⟩ := l2 a
      have hmk : kk = m + 1 := nI_injL (by omega) (by omega) (x34.symm.trans y4)
      rcases y13 with ⟨g, g1, g2', g3, g4, g5, g6, g7, g8⟩ | ⟨g7, g8, g9⟩
      · refine Or.inr (Or.inl ⟨m, nI g, y1, by rw [← hmk]; exact hks, ?_⟩)
        unfold f_X12_make
        rw [g2, hQ.x 31 _ (by decide), b, if_neg (by decide), g8, bd_of, if_neg (by decide), y10, bd_of, gdn y7 (by omega), g2, g2, hQ.x 32 _ (by decide), g6, hQ.x 34 _ (by decide), y4, bd_id]
        congr 1
        · rw [show (1 : Int32) = nI 1 from rfl, nI_sub (by omega)]; rfl
        · rw [show (1 : Int32) = nI 1 from rfl, nI_plus, show 1 + (m + 1) = m + 2 by omega]
      · exact Or.inr (Or.inr (mks _ b (by decide) g8))
    · refine Or.inl ⟨kk, xA τ 14 c, k1, hks, ?_⟩
      unfold f_X12_make
      rw [g2, hQ.x 31 _ (by decide), b, if_pos rfl, g2, g2, g2, hQ.x 32 _ (by decide), b2, hQ.x 34 _ (by decide), x34, bd_id]
  · exact Or.inr (Or.inr (mks _ b (by decide) (l1 (by rw [a]; decide))))
  · exact Or.inr (Or.inr (mks _ b (by decide) (l1 (by rw [a]; decide))))
/-- what the other has in hand while it keeps -/
def PTk (τ μ0 : S5) (F T : Nat) (nv D : Nat → Nat) (μ : S5) (n ft t B : Nat) : Prop := eqQ μ0 μ ∧ (∃ N, gI μ 32 = nI n ∧ gI μ 33 = nI ft ∧ gI μ 34 = nI N ∧ ft + n ≤ N ∧ N ≤ 4000 ∧ t ≤ ft) ∧ (∀ j, j < t → ∃ p, gA μ 62 j = nI p ∧ GdN τ μ0 F T nv p) ∧ pre (spC D μ) n + pre (fun j => D (gA μ 62 j).toNatClampNeg) t ≤ B
/-- cells that were there stay -/
def OCs (n : Nat) (μ ν : S5) : Prop := (∀ c, c < n → gA ν 53 c = gA μ 53 c ∧ gA ν 56 c = gA μ 56 c ∧ gA ν 55 c = gA μ 55 c) ∧ gB ν 9 = gB μ 9 ∧ gI ν 50 = gI μ 50
theorem OCs.rf (n : Nat) (μ : S5) : OCs n μ μ := ⟨fun _ _ => ⟨rfl, rfl, rfl⟩, rfl, rfl⟩
theorem OCs.tr {n n' : Nat} {μ ν ρ : S5} (h : OCs n μ ν) (g : OCs n' ν ρ) (hn : n ≤ n') : OCs n μ ρ := ⟨fun c hc => ⟨(g.1 c (by omega)).1.trans (h.1 c hc).1, (g.1 c (by omega)).2.1.trans (h.1 c hc).2.1, (g.1 c (by omega)).2.2.trans (h.1 c hc).2.2⟩, g.2.1.trans h.2.1, g.2.2.trans h.2.2⟩
theorem PTk.le {τ μ0 : S5} {F T : Nat} {nv D : Nat → Nat} {μ : S5} {n ft t B B' : Nat} (h : PTk τ μ0 F T nv D μ n ft t B) (hB : B ≤ B') : PTk τ μ0 F T nv D μ n ft t B' := ⟨h.1, h.2.1, h.2.2.1, Nat.le_trans h.2.2.2 hB⟩
/-- these alone matter -/
theorem PTk.st {τ μ0 : S5} {F T : Nat} {nv D : Nat → Nat} {μ ν : S5} {n ft t B : Nat} (h : PTk τ μ0 F T nv D μ n ft t B) (hQ : eqQ μ0 ν) (hI : ∀ j, 32 ≤ j → j ≤ 34 → gI ν j = gI μ j) (h53 : gA ν 53 = gA μ 53) (h54' : gA ν 54 = gA μ 54) (h62 : gA ν 62 = gA μ 62) : PTk τ μ0 F T nv D ν n ft t B := by
  obtain ⟨a1, ⟨N, b1, b2, b3, b4⟩, a4, a5⟩ := h
  refine ⟨hQ, ⟨N, by rw [hI 32 (by omega) (by omega)]; exact b1, by rw [hI 33 (by omega) (by omega)]; exact b2, by rw [hI 34 (by omega) (by omega)]; exact b3, b4⟩, by rw [h62]; exact a4, ?_⟩
  rw [show spC D ν = spC D μ from funext (fun c => by unfold spC; rw [h53, h54']), h62]
  exact a5
/-- the fields of a suspension: only they are written -/
theorem fl23 : ∀ (N : Nat) (v1 v3 v4 v5 : Int32) (μ ν : S5), f_X12_fill_L23 N v1 v3 v4 v5 μ = some ((), ν) → Fb 7 μ ν
  | 0, _, _, _, _, _, _, h => by cases h
  | N + 1, v1, v3, v4, v5, μ, ν, h => by
    have h' : f_X12_fill_B23 (f_X12_fill_L23 N) v1 v3 v4 v5 μ = some ((), ν) := h
    unfold f_X12_fill_B23 f_X12_fill_b70 at h'
    by_cases e1 : 40 ≤ v5
    · rw [if_pos e1] at h'
      cases h'
      exact Fb.rf 7 μ
    · rw [if_neg e1] at h'
      have h2 := (gd_some h').2
      by_cases e2 : (lg_cmp ((j_lshr (xB μ 5 v1) v5) &&& 1) 1) = 0
      · rw [if_pos e2] at h2
        have h3 := (gd_some (gd_some h2).2).2
        exact (Fb.p _ 7 _ _).tr (fl23 N _ _ _ _ _ _ h3)
      · rw [if_neg e2] at h2
        exact fl23 N _ _ _ _ _ _ h2
