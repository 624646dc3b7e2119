/-- children of a lifted node -/
def chN (μ : S5) (p i : Nat) : Nat := (xA μ 39 (xA μ 33 (nI p) + nI i)).toNatClampNeg
def cnN (μ : S5) (p : Nat) : Nat := (xA μ 34 (nI p)).toNatClampNeg
/-- what working on the children from number i on may push -/
def sdN (D : Nat → Nat) (μ : S5) (p i : Nat) : Nat := pre (fun j => D (chN μ p (i + j))) (cnN μ p - i)
theorem pre_l (w : Nat → Nat) : ∀ m, pre w (m + 1) = w 0 + pre (fun j => w (1 + j)) m
  | 0 => Nat.add_comm _ _
  | m + 1 => by
    show pre w (m + 1) + w (m + 1) = w 0 + (pre (fun j => w (1 + j)) m + w (1 + m))
    rw [pre_l w m, Nat.add_comm 1 m]
    omega
theorem sdN_s (D : Nat → Nat) (μ : S5) {p i : Nat} (h : i < cnN μ p) : sdN D μ p i = D (chN μ p i) + sdN D μ p (i + 1) := by
  unfold sdN
  rw [show cnN μ p - i = (cnN μ p - (i + 1)) + 1 by omega, pre_l]
  show D (chN μ p (i + 0)) + pre (fun j => D (chN μ p (i + (1 + j)))) _ = _
  congr 2
  funext j
  rw [Nat.add_assoc]
/-- frames: kind, node or cell, node there or base, number or function, edge -/
def fpF (D : Nat → Nat) (μ : S5) (x : Nat × Nat × Nat × Nat × Nat) : Nat := if x.1 = 1 then 1 + sdN D μ x.2.2.1 1 else if x.1 = 3 ∨ x.1 = 4 then sdN D μ x.2.2.1 1 else if x.1 = 5 then (cnN μ x.2.2.1 - 1 - x.2.2.2.1) + sdN D μ x.2.2.1 (x.2.2.2.1 + 2) else 0
def fpK (D : Nat → Nat) (μ : S5) : List (Nat × Nat × Nat × Nat × Nat) → Nat
  | [] => 0
  | x :: K => fpF D μ x + fpK D μ K
/-- the steps that a frame may still cost -/
def fqF (E : Nat → Nat) (μ : S5) (x : Nat × Nat × Nat × Nat × Nat) : Nat := 2 + (if x.1 = 1 then 3 + sdN E μ x.2.2.1 1 else if x.1 = 3 ∨ x.1 = 4 then 1 + sdN E μ x.2.2.1 1 else if x.1 = 5 then 1 + 2 * (cnN μ x.2.2.1 - 1 - x.2.2.2.1) + sdN E μ x.2.2.1 (x.2.2.2.1 + 2) else 0)
def fqK (E : Nat → Nat) (μ : S5) : List (Nat × Nat × Nat × Nat × Nat) → Nat
  | [] => 0
  | x :: K => fqF E μ x + fqK E μ K
def nLU : List (Nat × Nat × Nat × Nat × Nat) → Nat
  | [] => 0
  | x :: K => (if x.1 = 7 then 1 else 0) + nLU K
def nLC : List (Nat × Nat × Nat × Nat × Nat) → Nat
  | [] => 0
  | x :: K => (if x.1 = 8 then 1 else 0) + nLC K
def spC (D : Nat → Nat) (μ : S5) (c : Nat) : Nat := if gA μ 53 c = 2 then D (gA μ 54 c).toNatClampNeg else 0
def blC (μ : S5) (c : Nat) : Nat := if gA μ 53 c = 3 then 1 else 0
/-- the potentials fit -/
def DSt (τ μ0 : S5) (F T : Nat) (pa nv : Nat → Nat) (D : Nat → Nat) : Prop := (∀ f c p Sc, ND τ μ0 F T nv f c p Sc → (xA τ 13 c = 5 → 1 + sdN D μ0 p 0 ≤ D p) ∧ (xA τ 13 c = 8 → ¬ PLs τ pa c → (cnN μ0 p - 1) + sdN D μ0 p 0 ≤ D p) ∧ sdN D μ0 p 0 ≤ D p) ∧ ∀ f, f < F → D (xA μ0 45 (nI f)).toNatClampNeg ≤ 600
def DS0 (τ μ0 : S5) (F T : Nat) (nv : Nat → Nat) (D : Nat → Nat) : Prop := ∀ f c p Sc, ND τ μ0 F T nv f c p Sc → sdN D μ0 p 0 ≤ D p
theorem DSt.z {τ μ0 : S5} {F T : Nat} {pa nv D : Nat → Nat} (h : DSt τ μ0 F T pa nv D) : DS0 τ μ0 F T nv D := fun f c p Sc hN => (h.1 f c p Sc hN).2.2
/-- what working on a part may cost in steps -/
def ESt (τ μ0 : S5) (F T : Nat) (nv : Nat → Nat) (E : Nat → Nat) : Prop := (∀ f c p Sc, ND τ μ0 F T nv f c p Sc → 5 + 2 * cnN μ0 p + sdN E μ0 p 0 ≤ E p) ∧ ∀ f, f < F → E (xA μ0 45 (nI f)).toNatClampNeg ≤ 49000
theorem ESt.z {τ μ0 : S5} {F T : Nat} {nv E : Nat → Nat} (h : ESt τ μ0 F T nv E) : DS0 τ μ0 F T nv E := fun f c p Sc hN => by
  have := h.1 f c p Sc hN
  omega
/-- values that a frame has below it -/
def nvl (kd i : Nat) : Nat := if kd = 2 then 1 else if kd = 5 ∨ kd = 6 then i else 0
/-- an application of a function to at least its parameters -/
def ApF (τ : S5) (F : Nat) (pa : Nat → Nat) (c : Int32) (m g : Nat) : Prop := m ≤ 8 ∧ xA τ 15 c = nI m ∧ g < F ∧ 1 ≤ pa g ∧ pa g ≤ m ∧ xA τ 13 (xA τ 16 c) = 2 ∧ xA τ 14 (xA τ 16 c) = nI g
def KCn (τ : S5) (F : Nat) (pa : Nat → Nat) (kd a i : Nat) : Prop := (kd = 1 ∨ kd = 2 → xA τ 13 (nI a) = 5) ∧ (kd = 3 → xA τ 13 (nI a) = 6) ∧ (kd = 4 → xA τ 13 (nI a) = 7 ∧ ¬ xA τ 14 (nI a) = 0) ∧ (kd = 5 → xA τ 13 (nI a) = 8 ∧ ∃ m g, ApF τ F pa (nI a) m g ∧ i < m)
/-- a frame of a part -/
def NFr (τ μ0 : S5) (F T : Nat) (pa nv : Nat → Nat) (σ μ : S5) (n : Nat) (tg ct : Nat → Nat) (kd a p i t' W' V' b f e r : Nat) : Prop :=
  (e = b + nv f ∧ f < F) ∧ (∀ j, j < nvl kd i → VL τ F pa n tg ct (gB σ 12 (t' + j)) (gB μ 8 (V' + j))) ∧ (kd ≤ 5 → 1 ≤ kd ∧ a < 6200 ∧ p < 7000 ∧ i < 100 ∧ gB σ 12 (t' + nvl kd i) = fr kd a (if kd = 5 then i else 0) ∧ gA μ 59 W' = ((nI (kd + 1)) <<< ((16 : Int32) &&& 31)) ||| nI p ∧ (kd = 5 → gA μ 61 W' = nI i) ∧ (∃ Sc, ND τ μ0 F T nv f (nI a) p Sc ∧ ∀ x, Sc x → VL τ F pa n tg ct (gB σ 13 (b + x)) (gB μ 9 (b + x))) ∧ hF τ (nI a) ≤ r + 1 ∧ KCn τ F pa kd a i) ∧ (kd = 6 → 1 ≤ i ∧ i ≤ 8 ∧ gB σ 12 (t' + i) = fr 6 i 0 ∧ gA μ 59 W' = ((7 : Int32) <<< ((16 : Int32) &&& 31)) ||| 0 ∧ gA μ 61 W' = nI i)
/-- a frame of a function or a suspension -/
def NBr (F : Nat) (nv : Nat → Nat) (σ μ : S5) (n : Nat) (tg ct : Nat → Nat) (kd x b' f' e' t' W' b f e r : Nat) : Prop :=
  (b = e' ∧ e = b + nv f ∧ f < F ∧ nv f ≤ 40 ∧ r = 40 ∧ f' < 630 ∧ b' ≤ e') ∧ (gB σ 12 (t' + (if kd = 7 then 1 else 0)) = fr 8 b' f' ∧ gA μ 59 (W' + (if kd = 7 then 1 else 0)) = ((1 : Int32) <<< ((16 : Int32) &&& 31)) ||| 0 ∧ gA μ 60 (W' + (if kd = 7 then 1 else 0)) = nI b' ∧ gA μ 61 (W' + (if kd = 7 then 1 else 0)) = nI e') ∧ (kd = 7 → x < n ∧ tg x = 6 ∧ gB σ 12 t' = fr 7 (adr tg ct x) 0 ∧ gA μ 59 W' = ((0 : Int32) <<< ((16 : Int32) &&& 31)) ||| 0 ∧ gA μ 61 W' = nI x)
/-- the stacks alike -/
def SK (τ μ0 : S5) (F T : Nat) (pa nv : Nat → Nat) (σ μ : S5) (n : Nat) (tg ct : Nat → Nat) (t0 : Nat) (bt : Nat → Int64) : List (Nat × Nat × Nat × Nat × Nat) → Nat → Nat → Nat → Nat → Nat → Nat → Nat → Prop
  | [], t, W, V, b, f, e, r => t = t0 ∧ W = 0 ∧ V = 0 ∧ b = 0 ∧ f = 0 ∧ e = 0 ∧ r = 0 ∧ ∀ j, j < t0 → gB σ 12 j = bt j
  | x :: K, t, W, V, b, f, e, r => (x.1 ≤ 6 ∧ ∃ t' W' V', t = t' + nvl x.1 x.2.2.2.1 + 1 ∧ W = W' + 1 ∧ V = V' + nvl x.1 x.2.2.2.1 ∧ NFr τ μ0 F T pa nv σ μ n tg ct x.1 x.2.1 x.2.2.1 x.2.2.2.1 t' W' V' b f e r ∧ SK τ μ0 F T pa nv σ μ n tg ct t0 bt K t' W' V' b f e (r + 1)) ∨ ((x.1 = 7 ∨ x.1 = 8) ∧ ∃ t' W' r', t = t' + (if x.1 = 7 then 1 else 0) + 1 ∧ W = W' + (if x.1 = 7 then 1 else 0) + 1 ∧ NBr F nv σ μ n tg ct x.1 x.2.1 x.2.2.1 x.2.2.2.1 x.2.2.2.2 t' W' b f e r ∧ SK τ μ0 F T pa nv σ μ n tg ct t0 bt K t' W' V x.2.2.1 x.2.2.2.1 x.2.2.2.2 r')
theorem ND.lt {τ μ : S5} {F T : Nat} {nv : Nat → Nat} {f : Nat} {c : Int32} {p : Nat} {Sc : Nat → Prop} (hv : nv f ≤ 40) (h : ND τ μ F T nv f c p Sc) {x : Nat} (hx : Sc x) : x < nv f := by
  obtain ⟨-, q, lo, hi, h1, h2, -⟩ := h
  have a := (h1.un hv).1.2.2.2.1
  have b := h1.2.2.2.1 x hx
  omega
/-- a part's height -/
theorem ND.h {τ μ : S5} {F T : Nat} {nv : Nat → Nat} {f : Nat} {c : Int32} {p : Nat} {Sc : Nat → Prop} (h : ND τ μ F T nv f c p Sc) : hF τ c ≤ 40 := by
  obtain ⟨-, q, lo, hi, h1, -, h3⟩ := h
  have u := h1.1.un.1
  have := (h3 p u.1.1 (Nat.le_refl _)).2
  rw [u.2.1] at this
  exact this
/-- the stacks stay alike where what lies below stays -/
theorem SK.mv {τ μ0 : S5} {F T : Nat} {pa nv : Nat → Nat} (hnv : ∀ f, f < F → nv f ≤ 40) {σ μ σ' μ' : S5} {n : Nat} {tg ct : Nat → Nat} {n' : Nat} {tg' ct' : Nat → Nat} (hg : Gro n tg ct n' tg' ct') {t0 : Nat} {bt : Nat → Int64} : ∀ (K : List (Nat × Nat × Nat × Nat × Nat)) {t W V b f e r : Nat}, SK τ μ0 F T pa nv σ μ n tg ct t0 bt K t W V b f e r → (∀ j, j < t → gB σ' 12 j = gB σ 12 j) → (∀ j, j < W → gA μ' 59 j = gA μ 59 j ∧ gA μ' 60 j = gA μ 60 j ∧ gA μ' 61 j = gA μ 61 j) → (∀ j, j < V → gB μ' 8 j = gB μ 8 j) → (∀ j, j < e → VL τ F pa n tg ct (gB σ 13 j) (gB μ 9 j) → VL τ F pa n' tg' ct' (gB σ' 13 j) (gB μ' 9 j)) → SK τ μ0 F T pa nv σ' μ' n' tg' ct' t0 bt K t W V b f e r
  | [], t, W, V, b, f, e, r, h, h1, _, _, _ => ⟨h.1, h.2.1, h.2.2.1, h.2.2.2.1, h.2.2.2.2.1, h.2.2.2.2.2.1, h.2.2.2.2.2.2.1, fun j hj => (h1 j (by rw [h.1]; exact hj)).trans (h.2.2.2.2.2.2.2 j hj)⟩
  | x :: K, t, W, V, b, f, e, r, h, h1, h2, h3, h4 => by
    rcases h with ⟨a0, t', W', V', a1, a2, a3, ⟨⟨b1, b1'⟩, b2, b3, b4⟩, a5⟩ | ⟨a0, t', W', r', a1, a2, ⟨⟨b1, b2, b3, b4, b5, b6, b6'⟩, ⟨b7, b8, b9, b10⟩, b11⟩, a5⟩
    · refine Or.inl ⟨a0, t', W', V', a1, a2, a3, ⟨⟨b1, b1'⟩, fun j hj => ?_, fun hk => ?_, fun hk => ?_⟩, SK.mv hnv hg K a5 (fun j hj => h1 j (by omega)) (fun j hj => h2 j (by omega)) (fun j hj => h3 j (by omega)) h4⟩
      · rw [h1 _ (by omega), h3 _ (by omega)]
        exact (b2 j hj).gr hg
      · obtain ⟨c1, c2, c3, c4, c5, c6, c7, ⟨Sc, c8, c9⟩, c10, c11⟩ := b3 hk
        refine ⟨c1, c2, c3, c4, by rw [h1 _ (by omega)]; exact c5, by rw [(h2 _ (by omega)).1]; exact c6, fun w => by rw [(h2 _ (by omega)).2.2]; exact c7 w, ⟨Sc, c8, fun y hy => h4 _ ?_ (c9 y hy)⟩, c10, c11⟩
        have := c8.lt (hnv f b1') hy
        omega
      · obtain ⟨c1, c2, c3, c4, c5⟩ := b4 hk
        have hv : nvl x.1 x.2.2.2.1 = x.2.2.2.1 := by unfold nvl; rw [if_neg (by omega), if_pos (Or.inr hk)]
        exact ⟨c1, c2, by rw [h1 _ (by omega)]; exact c3, by rw [(h2 _ (by omega)).1]; exact c4, by rw [(h2 _ (by omega)).2.2]; exact c5⟩
    · refine Or.inr ⟨a0, t', W', r', a1, a2, ⟨⟨b1, b2, b3, b4, b5, b6, b6'⟩, ⟨by rw [h1 _ (by omega)]; exact b7, by rw [(h2 _ (by omega)).1]; exact b8, by rw [(h2 _ (by omega)).2.1]; exact b9, by rw [(h2 _ (by omega)).2.2]; exact b10⟩, fun hk => ?_⟩, SK.mv hnv hg K a5 (fun j hj => h1 j (by omega)) (fun j hj => h2 j (by omega)) h3 (fun j hj => h4 j (by omega))⟩
      obtain ⟨c1, c2, c3, c4, c5⟩ := b11 hk
      rw [if_pos hk] at a1 a2
      refine ⟨by have := hg.1; omega, by rw [(hg.2 _ c1).1]; exact c2, by rw [h1 _ (by omega), (hg.ad (Nat.le_of_lt c1)).1]; exact c3, by rw [(h2 _ (by omega)).1]; exact c4, by rw [(h2 _ (by omega)).2.2]; exact c5⟩
/-- how long the stacks are -/
theorem SK.bd {τ μ0 : S5} {F T : Nat} {pa nv : Nat → Nat} {σ μ : S5} {n : Nat} {tg ct : Nat → Nat} {t0 : Nat} {bt : Nat → Int64} : ∀ (K : List (Nat × Nat × Nat × Nat × Nat)) {t W V b f e r : Nat}, SK τ μ0 F T pa nv σ μ n tg ct t0 bt K t W V b f e r → t = t0 + W + V ∧ W + r ≤ 42 * nLU K + 41 * nLC K ∧ e ≤ 40 * (nLU K + nLC K) ∧ b ≤ e ∧ (f = 0 ∨ f < F)
  | [], t, W, V, b, f, e, r, h => by
    obtain ⟨h1, h2, h3, h4, h5, h6, h7, -⟩ := h
    refine ⟨by omega, by omega, by omega, by omega, Or.inl h5⟩
  | x :: K, t, W, V, b, f, e, r, h => by
    rcases h with ⟨a0, t', W', V', a1, a2, a3, ⟨⟨b1, b1'⟩, b2, b3, b4⟩, a5⟩ | ⟨a0, t', W', r', a1, a2, ⟨⟨b1, b2, b3, b4, b5, b6, b6'⟩, -, -⟩, a5⟩
    · obtain ⟨c1, c2, c3, c4, c5⟩ := SK.bd K a5
      have e7 : nLU (x :: K) = nLU K := by
        show (if x.1 = 7 then 1 else 0) + nLU K = _
        rw [if_neg (by omega), Nat.zero_add]
      have e8 : nLC (x :: K) = nLC K := by
        show (if x.1 = 8 then 1 else 0) + nLC K = _
        rw [if_neg (by omega), Nat.zero_add]
      rw [e7, e8]
      exact ⟨by omega, by omega, c3, c4, c5⟩
    · obtain ⟨c1, c2, c3, c4, c5⟩ := SK.bd K a5
      have e7 : nLU (x :: K) = (if x.1 = 7 then 1 else 0) + nLU K := rfl
      have e8 : nLC (x :: K) = (if x.1 = 8 then 1 else 0) + nLC K := rfl
      rw [e7, e8]
      rcases a0 with w | w
      · rw [if_pos w] at a1 a2
        rw [if_pos w, if_neg (by omega)]
        exact ⟨by omega, by omega, by omega, by omega, Or.inr b3⟩
      · rw [if_neg (by omega)] at a1 a2
        rw [if_pos w, if_neg (by omega)]
        exact ⟨by omega, by omega, by omega, by omega, Or.inr b3⟩
/-- cells that were there at the start, and their fields -/
def nSs (μ : S5) : Nat := (gI μ 32).toNatClampNeg
def cSs (μ : S5) (c : Nat) : Nat := (gA μ 56 c).toNatClampNeg
def tSs (μ : S5) (c : Nat) : Nat := if gA μ 53 c = 0 then 4 else if gA μ 53 c = 1 then 5 else 6
def OLD (μs μ : S5) (n : Nat) (tg ct : Nat → Nat) : Prop := Gro (nSs μs) (tSs μs) (cSs μs) n tg ct ∧ ∀ j, j < pre (cSs μs) (nSs μs) → gB μ 7 j = gB μs 7 j
theorem OLD.mv {μs μ μ' : S5} {n : Nat} {tg ct : Nat → Nat} {n' : Nat} {tg' ct' : Nat → Nat} (h : OLD μs μ n tg ct) (hg : Gro n tg ct n' tg' ct') (h7 : ∀ j, j < pre ct n → gB μ' 7 j = gB μ 7 j) : OLD μs μ' n' tg' ct' := ⟨h.1.tr hg, fun j hj => (h7 j (by
  have e := (h.1.ad (Nat.le_refl _)).2
  have m := pre_mono (w := ct) (n - nSs μs) (nSs μs)
  rw [show nSs μs + (n - nSs μs) = n by have := h.1.1; omega] at m
  omega)).trans (h.2 j hj)⟩
theorem OLD.eq {μs μ μ' : S5} {n : Nat} {tg ct : Nat → Nat} (h : OLD μs μ n tg ct) (h7 : gB μ' 7 = gB μ 7) : OLD μs μ' n tg ct := ⟨h.1, fun j hj => by rw [h7]; exact h.2 j hj⟩
/-- functions without parameters -/
def GLB (k : Nat) (pa : Nat → Nat) (σ μ : S5) (n : Nat) (tg ct : Nat → Nat) : Prop := ∀ g, g < k → pa g = 0 → ∃ c, c < n ∧ tg c = 6 ∧ gA σ 43 g = nI (adr tg ct c) ∧ gA μ 64 g = nI c
/-- numbers within bounds -/
def BNs (μ0 : S5) (D E : Nat → Nat) (μ : S5) (n t0 : Nat) (K : List (Nat × Nat × Nat × Nat × Nat)) (V P R : Nat) : Prop := nLU K ≤ pre (blC μ) n ∧ t0 ≤ 100000 ∧ ∃ cl lf, gI μ 38 = nI cl ∧ gI μ 37 = nI lf ∧ cl + lf ≤ 800 ∧ nLC K ≤ cl ∧ V + pre (spC D μ) n + fpK D μ0 K + P ≤ 600 * (cl + 30) ∧ pre (spC E μ) n + fqK E μ0 K + 49020 * lf ≤ R
/-- both machines alike -/
def MSb (τ μ0 : S5) (F k T : Nat) (pa nv D E : Nat → Nat) (σs μs : S5) (t0 : Nat) (σ μ : S5) (n : Nat) (tg ct : Nat → Nat) (K : List (Nat × Nat × Nat × Nat × Nat)) (t W V b f e r P R : Nat) : Prop :=
  (FmC σs σ ∧ FmM μs μ ∧ OLD μs μ n tg ct) ∧ HS τ μ0 F T pa nv σ μ n tg ct (fun _ => True) ∧ (NR σ μ ∧ gI μ 44 = 0) ∧ MC σ t b f e ∧ MM μ W V b e ∧ SK τ μ0 F T pa nv σ μ n tg ct t0 (gB σs 12) K t W V b f e r ∧ GLB k pa σ μ n tg ct ∧ BNs μ0 D E μ n t0 K V P R
/-- what they do: they work on a part, or have a value -/
def WkM (τ μ0 : S5) (F T : Nat) (pa nv D E : Nat → Nat) (σ μ : S5) (n : Nat) (tg ct : Nat → Nat) (b f e r P R Z : Nat) : Prop := ∃ (c : Int32) (p : Nat) (Sc : Nat → Prop), (gI σ 45 = 1 ∧ gI σ 44 = c ∧ gI μ 53 = 0 ∧ gI μ 52 = nI p) ∧ ND τ μ0 F T nv f c p Sc ∧ (∀ x, Sc x → VL τ F pa n tg ct (gB σ 13 (b + x)) (gB μ 9 (b + x))) ∧ hF τ c ≤ r ∧ (D p ≤ P ∧ R + E p + 1 ≤ Z) ∧ e = b + nv f
def GvM (τ : S5) (F : Nat) (pa : Nat → Nat) (σ μ : S5) (n : Nat) (tg ct : Nat → Nat) : Prop := gI σ 45 = 0 ∧ gI μ 53 = 1 ∧ VL τ F pa n tg ct (gJ σ 5) (gJ μ 1)
def MSt (τ μ0 : S5) (F k T : Nat) (pa nv D E : Nat → Nat) (σs μs : S5) (t0 : Nat) (σ μ : S5) (Z : Nat) : Prop := ∃ n tg ct K t W V b f e r P R, MSb τ μ0 F k T pa nv D E σs μs t0 σ μ n tg ct K t W V b f e r P R ∧ (WkM τ μ0 F T pa nv D E σ μ n tg ct b f e r P R Z ∨ (GvM τ F pa σ μ n tg ct ∧ R ≤ Z))
/-- both have ended -/
def OVt (σs μs σ μ : S5) : Prop := OV σ μ ∧ FmC σs σ ∧ FmM μs μ ∧ Ln 11 (gN σ 1) ∧ Ln 9 (gN σ 3)
/-- both go on alike -/
def GOt (τ μ0 : S5) (F k T : Nat) (pa nv D E : Nat → Nat) (σs μs : S5) (t0 Z : Nat) (σ : S5) (Fc Fm : Option (Unit × S5)) : Prop := ∃ σ' μ', Fc = some ((), σ') ∧ Fm = some ((), μ') ∧ (gN σ 1 ≤ gN σ' 1 ∧ gN σ 3 ≤ gN σ' 3) ∧ (MSt τ μ0 F k T pa nv D E σs μs t0 σ' μ' Z ∨ OVt σs μs σ' μ')
theorem pre_b1 {w : Nat → Nat} : ∀ n, (∀ i, w i ≤ 1) → pre w n ≤ n
  | 0, _ => Nat.le_refl _
  | n + 1, h => by
    have h1 := pre_b1 n h
    have h2 := h n
    show pre w n + w n ≤ n + 1
    omega
/-- the bounds -/
theorem MSb.bd {τ μ0 : S5} {F k T : Nat} {pa nv D E : Nat → Nat} {σs μs : S5} {t0 : Nat} {σ μ : S5} {n : Nat} {tg ct : Nat → Nat} {K : List (Nat × Nat × Nat × Nat × Nat)} {t W V b f e r P R : Nat} (h : MSb τ μ0 F k T pa nv D E σs μs t0 σ μ n tg ct K t W V b f e r P R) : t = t0 + W + V ∧ W + r ≤ 200800 ∧ V + P ≤ 498000 ∧ e ≤ 192000 ∧ b ≤ e ∧ t0 ≤ 100000 ∧ n ≤ 4000 := by
  obtain ⟨-, hH, -, -, -, hK, -, h1, h2, cl, lf, h3, h4, h5, h6, h7, h8⟩ := h
  obtain ⟨k1, k2, k3, k4, k5⟩ := hK.bd
  have hn : n ≤ 4000 := Nat.le_trans (adr_ge tg ct n).1 hH.1.2.2.1
  have hb := pre_b1 (w := blC μ) n (fun i => by unfold blC; split <;> omega)
  exact ⟨k1, by omega, by omega, by omega, k4, h2, hn⟩
/-- the environment -/
theorem MSb.ev {τ μ0 : S5} {F k T : Nat} {pa nv D E : Nat → Nat} {σs μs : S5} {t0 : Nat} {σ μ : S5} {n : Nat} {tg ct : Nat → Nat} {K : List (Nat × Nat × Nat × Nat × Nat)} {t W V b f e r P R : Nat} (h : MSb τ μ0 F k T pa nv D E σs μs t0 σ μ n tg ct K t W V b f e r P R) (hf : f < F) (he : e = b + nv f) {Sc : Nat → Prop} (hg : ∀ x, Sc x → VL τ F pa n tg ct (gB σ 13 (b + x)) (gB μ 9 (b + x))) : EV τ F k pa nv σ μ n tg ct f b Sc := by
  obtain ⟨-, -, -, b4, b5, b6, b7⟩ := h.bd
  obtain ⟨-, -, -, ⟨⟨m1, m2, m3, m4⟩, m5, m6, m7, m8⟩, ⟨q1, q2, q3, q4⟩, -, hG, -⟩ := h
  have := m7.b
  exact ⟨⟨m2, q3, m4, hf, by omega, by omega, by omega⟩, hg, hG⟩
