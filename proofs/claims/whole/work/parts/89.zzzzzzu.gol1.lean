/-- what lifting a function's body never writes -/
def FrWL (σ τ : S5) : Prop := (∀ j, j < 26 ∨ 28 < j → gI τ j = gI σ j) ∧ (∀ j, gJ τ j = gJ σ j) ∧ (∀ j, j < 28 ∨ j = 38 ∨ (43 < j ∧ ¬ j = 48) → gA τ j = gA σ j) ∧ (∀ j, ¬ j = 5 → gB τ j = gB σ j) ∧ τ.2.2.2.2 = σ.2.2.2.2
theorem FrWL.rf (σ : S5) : FrWL σ σ := ⟨fun _ _ => rfl, fun _ => rfl, fun _ _ => rfl, fun _ _ => rfl, rfl⟩
theorem FrWL.tr {σ τ ρ : S5} (h : FrWL σ τ) (h2 : FrWL τ ρ) : FrWL σ ρ := ⟨fun j a => (h2.1 j a).trans (h.1 j a), fun j => (h2.2.1 j).trans (h.2.1 j), fun j a => (h2.2.2.1 j a).trans (h.2.2.1 j a), fun j a => (h2.2.2.2.1 j a).trans (h.2.2.2.1 j a), h2.2.2.2.2.trans h.2.2.2.2⟩
theorem FrWL.A {σ τ : S5} {k : Nat} {i v : Int32} (h : FrWL σ τ) (hk : (28 ≤ k ∧ k ≤ 37) ∨ (39 ≤ k ∧ k ≤ 43) ∨ k = 48) : FrWL σ (pA τ k i v) := ⟨h.1, h.2.1, fun j a => by rw [gA_ne _ _ _ (by omega)]; exact h.2.2.1 j a, h.2.2.2⟩
theorem FrWL.B {σ τ : S5} {i : Int32} {v : Int64} (h : FrWL σ τ) : FrWL σ (pB τ 5 i v) := ⟨h.1, h.2.1, h.2.2.1, fun j a => by rw [gB_ne _ _ _ a]; exact h.2.2.2.1 j a, h.2.2.2.2⟩
theorem FrWL.x {σ τ : S5} (h : FrWL σ τ) (j : Nat) (i : Int32) (hj : j < 28) : xA τ j i = xA σ j i := by
  show gA τ j i.toNatClampNeg = gA σ j i.toNatClampNeg
  rw [h.2.2.1 j (by omega)]
theorem FrLI.wl {σ τ : S5} (h : FrLI σ τ) : FrWL σ τ := ⟨fun j a => h.1 j (by omega) (by omega) (by omega), h.2.1, fun j a => h.2.2.1 j (by omega), h.2.2.2.1, h.2.2.2.2⟩
/-- m nodes are lifted, ct children, hd held -/
def WLs (μm : S5) (m ct hd : Nat) (μ : S5) : Prop := FrWL μm μ ∧ gI μ 26 = nI m ∧ gI μ 27 = nI ct ∧ gI μ 28 = nI hd
theorem WLs.A {μm μ : S5} {m ct hd k : Nat} {i v : Int32} (h : WLs μm m ct hd μ) (hk : (28 ≤ k ∧ k ≤ 37) ∨ (39 ≤ k ∧ k ≤ 43) ∨ k = 48) : WLs μm m ct hd (pA μ k i v) := ⟨h.1.A hk, h.2⟩
/-- what was there before stays -/
def LBf (μ μ' : S5) (m ct hd : Nat) : Prop := (∀ x, x < m → Lw8 μ μ' (nI x)) ∧ (∀ y, y < ct → Ls5 μ μ' (nI y)) ∧ (∀ x, x < hd → xA μ' 48 (nI x) = xA μ 48 (nI x))
theorem LBf.rf (μ : S5) (m ct hd : Nat) : LBf μ μ m ct hd := ⟨fun _ _ => Lw8.rf _ _, fun _ _ => Ls5.rf _ _, fun _ _ => rfl⟩
theorem LBf.tr {μ ν ρ : S5} {m ct hd m' ct' hd' : Nat} (h : LBf μ ν m ct hd) (h2 : LBf ν ρ m' ct' hd') (e1 : m ≤ m') (e2 : ct ≤ ct') (e3 : hd ≤ hd') : LBf μ ρ m ct hd := ⟨fun x hx => (h.1 x hx).tr (h2.1 x (by omega)), fun y hy => (h.2.1 y hy).tr (h2.2.1 y (by omega)), fun x hx => (h2.2.2 x (by omega)).trans (h.2.2 x hx)⟩
theorem LBf.W {μ ν : S5} {m ct hd k : Nat} {i v : Int32} (h : LBf μ ν m ct hd) (hk : k = 28 ∨ k = 29 ∨ k = 30) : LBf μ (pA ν k i v) m ct hd := by
  have e : ∀ g x, 31 ≤ g → xA (pA ν k i v) g x = xA ν g x := fun g x hg => by rw [xA_pA, if_neg (by omega)]
  refine ⟨fun x hx => ?_, fun y hy => ?_, fun x hx => by rw [e 48 _ (by omega)]; exact h.2.2 x hx⟩
  · obtain ⟨a1, a2, a3, a4, a5, a6, a7⟩ := h.1 x hx
    exact ⟨(e 31 _ (by omega)).trans a1, (e 32 _ (by omega)).trans a2, (e 33 _ (by omega)).trans a3, (e 34 _ (by omega)).trans a4, (e 35 _ (by omega)).trans a5, (e 37 _ (by omega)).trans a6, a7⟩
  · obtain ⟨a1, a2, a3, a4, a5⟩ := h.2.1 y hy
    exact ⟨(e 39 _ (by omega)).trans a1, (e 40 _ (by omega)).trans a2, (e 41 _ (by omega)).trans a3, (e 42 _ (by omega)).trans a4, (e 43 _ (by omega)).trans a5⟩
/-- a child is lifted: node n of the reference, node c of the tree -/
def GoC (τp μm : S5) (F V f : Nat) (n c : Int32) (sz : Nat) : Prop := 1 ≤ (xA τp 19 c).toNatClampNeg ∧ ∀ (v m ct hd : Nat) (μ μ1 : S5), WLs μm m ct hd μ → f_X12_nextChild (nI v) μ = some (n, μ1) → (WLs μm m ct hd μ1 ∧ LBf μ μ1 m ct hd) → v + 1 + sz ≤ 3200 → m + (xA τp 19 c).toNatClampNeg ≤ 7000 → ct + (xA τp 19 c).toNatClampNeg ≤ 14000 → hd + (xA τp 19 c).toNatClampNeg < 7000 → ∃ (j : Nat) (μ' : S5), j ≤ 2 * sz ∧ (∀ rec q, f_X12_liftAll_L88 rec (q + j) (nI f) (nI (v + 1)) μ = f_X12_liftAll_L88 rec q (nI f) (nI (v + 1)) μ') ∧ WLs μm (m + (xA τp 19 c).toNatClampNeg) (ct + (xA τp 19 c).toNatClampNeg - 1) (hd + 1) μ' ∧ LBf μ μ' m ct hd ∧ xA μ' 48 (nI hd) = nI (m + (xA τp 19 c).toNatClampNeg - 1) ∧ LT τp μ' F V (ct + (xA τp 19 c).toNatClampNeg - 1) c m (m + (xA τp 19 c).toNatClampNeg - 1) ∧ KW (v + 1) μ1 μ'
/-- a node is begun, its children come, and it is closed -/
theorem gl_node {f v ji : Nat} {n x : Int32} {μ μ1 μ2 μ3 μ4 μ5 : S5} (hv : v + 1 < 3200) (hn0 : 0 ≤ n) (hn1 : n < 3200) (hnx : f_X12_nextChild (nI v) μ = some (n, μ1)) (h19 : xA μ1 19 n = -1) (hb : f_X12_beginAt (nI (v + 1)) n μ1 = some ((), μ2)) (hin : ∀ rec q, f_X12_liftAll_L88 rec (q + ji) (nI f) (nI (v + 1 + 1)) μ2 = f_X12_liftAll_L88 rec q (nI f) (nI (v + 1 + 1)) μ3) (hx : f_X12_nextChild (nI (v + 1)) μ3 = some (x, μ4)) (hx0 : x < 0) (h28 : xA μ4 28 (nI (v + 1)) = n) (hc : f_X12_closePart (nI f) n μ4 = some ((), μ5)) : ∀ rec q, f_X12_liftAll_L88 rec (q + (ji + 2)) (nI f) (nI (v + 1)) μ = f_X12_liftAll_L88 rec q (nI f) (nI (v + 1)) μ5 := by
  intro rec q
  have e1 : ∀ w : Nat, nI (w + 1) - 1 = nI w := fun w => by rw [← nI_add1]; grind
  have e2 : ∀ w : Nat, nI (w + 1) + -1 = nI w := fun w => by rw [← nI_add1]; grind
  have hpos : ∀ w : Nat, w + 1 < 4000 → ¬ nI (w + 1) ≤ 0 := fun w hw z => by have := (nI_le31 (b := 0) (by omega) (by omega)).mp z; omega
  have s1 : f_X12_liftAll_L88 rec (q + (ji + 2)) (nI f) (nI (v + 1)) μ = f_X12_liftAll_L88 rec (q + 1 + ji) (nI f) (nI (v + 1 + 1)) μ2 := by
    rw [show q + (ji + 2) = q + 1 + ji + 1 by omega]
    show f_X12_liftAll_B88 _ _ _ _ _ = _
    unfold f_X12_liftAll_B88 f_X12_liftAll_b162
    rw [if_neg (hpos v (by omega)), e1, hnx, bd_of, if_pos hn0, gd3200 hn0 hn1, h19, if_pos (by decide), hb, bd_of, nI_add1]
  rw [s1, hin]
  show f_X12_liftAll_B88 _ _ _ _ _ = _
  unfold f_X12_liftAll_B88 f_X12_liftAll_b162
  rw [if_neg (hpos (v + 1) (by omega)), e1, hx, bd_of, if_neg (by grind), e2, if_neg (hpos v (by omega)), gdn (by omega) (by omega), h28, hc, bd_of]
/-- how many children stand in a row -/
theorem rc_go {μ : S5} {n : Int32} {l : Nat} {g : Nat → Int32} (hn0 : 0 ≤ n) (hn1 : n < 3200) (hl : l ≤ 9) (h3 : xA μ 3 n = if 0 < l then g 0 else -1) (hg : ∀ i, i < l → (0 ≤ g i ∧ g i < 3200) ∧ xA μ 5 (g i) = if i + 1 < l then g (i + 1) else -1) : f_X12_rowCount n μ = some (nI l, μ) := by
  have hbig := FU_big (n := 30000) (by decide)
  have loop : ∀ (d i m : Nat), i + d = l → d < m → f_X12_rowCount_L9 m (nI i) (if i < l then g i else -1) μ = some (nI l, μ) := by
    intro d
    induction d with
    | zero =>
      intro i m hi hm
      obtain ⟨m, rfl⟩ : ∃ m', m = m' + 1 := ⟨m - 1, by omega⟩
      have : i = l := by omega
      subst this
      rw [if_neg (by omega)]
      show f_X12_rowCount_B9 _ _ _ _ = _
      unfold f_X12_rowCount_B9
      rw [if_pos (by decide)]
    | succ d ih =>
      intro i m hi hm
      obtain ⟨m, rfl⟩ : ∃ m', m = m' + 1 := ⟨m - 1, by omega⟩
      obtain ⟨⟨g0, g1⟩, g2⟩ := hg i (by omega)
      rw [if_pos (by omega)]
      show f_X12_rowCount_B9 _ _ _ _ = _
      unfold f_X12_rowCount_B9
      rw [if_neg (fun w => by grind), gd3200 g0 g1, g2, nI_add1]
      exact ih (i + 1) m (by omega) (by omega)
  unfold f_X12_rowCount
  rw [gd3200 hn0 hn1, h3]
  exact loop l 0 FU (by omega) (by omega)
/-- sums of the parts of the first children -/
def sP (τp : S5) (cc : Nat → Int32) : Nat → Nat := pre (fun i => (xA τp 19 (cc i)).toNatClampNeg)
theorem sP_s (τp : S5) (cc : Nat → Int32) (i : Nat) : sP τp cc (i + 1) = sP τp cc i + (xA τp 19 (cc i)).toNatClampNeg := rfl
theorem sP_ge {τp : S5} {cc : Nat → Int32} {l : Nat} (h : ∀ i, i < l → 1 ≤ (xA τp 19 (cc i)).toNatClampNeg) : ∀ i, i ≤ l → i ≤ sP τp cc i := by
  intro i
  induction i with
  | zero => intro _; omega
  | succ i ih =>
    intro hi
    have := ih (by omega)
    have := h i (by omega)
    rw [sP_s]
    omega
theorem sP_mono {τp : S5} {cc : Nat → Int32} {i l : Nat} (h : i ≤ l) : sP τp cc i ≤ sP τp cc l := by
  have := pre_mono (w := fun i => (xA τp 19 (cc i)).toNatClampNeg) (l - i) i
  rw [show i + (l - i) = l by omega] at this
  exact this
/-- the walk's own rows at a level -/
def W29 (v : Nat) (μ μ1 : S5) : Prop := (∃ a, μ1 = pA μ 29 (nI v) a) ∨ (∃ a b, μ1 = pA (pA μ 29 (nI v) a) 30 (nI v) b)
theorem W29.wl {μm μ μ1 : S5} {v m ct hd : Nat} (h : W29 v μ μ1) (q : WLs μm m ct hd μ) : WLs μm m ct hd μ1 := by
  rcases h with ⟨a, rfl⟩ | ⟨a, b, rfl⟩
  · exact q.A (by omega)
  · exact (q.A (by omega)).A (by omega)
theorem W29.lb {μ μ1 : S5} {v m ct hd : Nat} (h : W29 v μ μ1) : LBf μ μ1 m ct hd := by
  rcases h with ⟨a, rfl⟩ | ⟨a, b, rfl⟩
  · exact (LBf.rf μ m ct hd).W (by omega)
  · exact ((LBf.rf μ m ct hd).W (by omega)).W (by omega)
theorem W29.kw {μ μ1 : S5} {v : Nat} (h : W29 v μ μ1) (hv : v < 3200) : KW v μ μ1 := by
  rcases h with ⟨a, rfl⟩ | ⟨a, b, rfl⟩
  · exact (KW.rf v μ).A hv
  · exact ((KW.rf v μ).A hv).A hv
/-- a row of children is lifted -/
theorem gl_row {τp μm : S5} {F V f : Nat} {n : Int32} {v : Nat} {st rr : Nat → Int32} (hv : v < 3200) {l : Nat} (hl : l ≤ 9) {g cc : Nat → Int32} {sz : Nat → Nat} (hit : ∀ i, i < l → GoC τp μm F V f (g i) (cc i) (sz i)) (hN : ∀ (μ : S5) (i : Nat), i < l → FrWL μm μ → At μ v n (st i) (rr i) → ∃ μ1, f_X12_nextChild (nI v) μ = some (g i, μ1) ∧ At μ1 v n (st (i + 1)) (rr (i + 1)) ∧ W29 v μ μ1) (hv2 : ∀ i, i < l → v + 1 + sz i ≤ 3200) (m ct hd : Nat) (hm : m + sP τp cc l ≤ 7000) (hct : ct + sP τp cc l ≤ 14000) (hhd : hd + sP τp cc l < 7000) : ∀ (r i : Nat) (μ : S5), i + r = l → WLs μm (m + sP τp cc i) (ct + sP τp cc i - i) (hd + i) μ → At μ v n (st i) (rr i) → (∀ k, k < i → xA μ 48 (nI (hd + k)) = nI (m + sP τp cc (k + 1) - 1) ∧ LT τp μ F V (ct + sP τp cc i - i) (cc k) (m + sP τp cc k) (m + sP τp cc (k + 1) - 1)) → ∃ (j : Nat) (μ' : S5), j + 2 * pre sz i ≤ 2 * pre sz l ∧ (∀ rec q, f_X12_liftAll_L88 rec (q + j) (nI f) (nI (v + 1)) μ = f_X12_liftAll_L88 rec q (nI f) (nI (v + 1)) μ') ∧ WLs μm (m + sP τp cc l) (ct + sP τp cc l - l) (hd + l) μ' ∧ LBf μ μ' m ct hd ∧ (∀ k, k < l → xA μ' 48 (nI (hd + k)) = nI (m + sP τp cc (k + 1) - 1) ∧ LT τp μ' F V (ct + sP τp cc l - l) (cc k) (m + sP τp cc k) (m + sP τp cc (k + 1) - 1)) ∧ At μ' v n (st l) (rr l) ∧ KW v μ μ' := by
  have h1 : ∀ i, i < l → 1 ≤ (xA τp 19 (cc i)).toNatClampNeg := fun i hi => (hit i hi).1
  intro r
  induction r with
  | zero =>
    intro i μ hi q hat hk
    have : i = l := by omega
    subst this
    exact ⟨0, μ, by omega, fun _ _ => rfl, q, LBf.rf _ _ _ _, hk, hat, KW.rf v μ⟩
  | succ r ih =>
    intro i μ hi q hat hk
    obtain ⟨μx, hnx, hatx, hwx⟩ := hN μ i (by omega) q.1 hat
    have g1 := sP_ge h1 i (by omega)
    have g2 := h1 i (by omega)
    have g3 := sP_s τp cc i
    have g4 := sP_mono (τp := τp) (cc := cc) (i := i + 1) (l := l) (by omega)
    obtain ⟨-, hgo⟩ := hit i (by omega)
    obtain ⟨j1, μ1, a1, a2, a3, a4, a5, a6, a7⟩ := hgo v _ _ _ μ _ q hnx ⟨hwx.wl q, hwx.lb⟩ (hv2 i (by omega)) (by omega) (by omega) (by omega)
    rw [Nat.add_assoc m, ← g3] at a3 a5 a6
    have ect : ct + sP τp cc i - i + (xA τp 19 (cc i)).toNatClampNeg - 1 = ct + sP τp cc (i + 1) - (i + 1) := by omega
    rw [ect] at a3 a6
    have t1 : At μ1 v n (st (i + 1)) (rr (i + 1)) := At.st hatx a7 (by omega)
    have hk' : ∀ k, k < i + 1 → xA μ1 48 (nI (hd + k)) = nI (m + sP τp cc (k + 1) - 1) ∧ LT τp μ1 F V (ct + sP τp cc (i + 1) - (i + 1)) (cc k) (m + sP τp cc k) (m + sP τp cc (k + 1) - 1) := by
      intro k hki
      by_cases he : k = i
      · subst he
        exact ⟨a5, a6⟩
      · obtain ⟨z1, z2⟩ := hk k (by omega)
        have y1 := sP_mono (τp := τp) (cc := cc) (i := k + 1) (l := i) (by omega)
        have y2 := h1 k (by omega)
        have y3 := sP_s τp cc k
        exact ⟨(a4.2.2 (hd + k) (by omega)).trans z1, z2.st (by omega) (by omega) a4.2.1 (fun x x1 x2 => a4.1 x (by omega))⟩
    obtain ⟨j2, μ2, b1, b2, b3, b4, b5, b6, b7⟩ := ih (i + 1) μ1 (by omega) a3 t1 hk'
    have e : pre sz (i + 1) = pre sz i + sz i := rfl
    refine ⟨j1 + j2, μ2, by omega, fun rec w => ?_, b3, ?_, b5, b6, ?_⟩
    · rw [show w + (j1 + j2) = (w + j2) + j1 by omega, a2, b2]
    · exact LBf.tr ⟨fun x hx => a4.1 x (by omega), fun y hy => a4.2.1 y (by omega), fun x hx => a4.2.2 x (by omega)⟩ b4 (by omega) (by omega) (by omega)
    · exact ((hwx.kw hv).tr (a7.le (by omega))).tr b7
