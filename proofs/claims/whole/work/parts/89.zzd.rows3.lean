theorem RG.mc {Q : Q9} {σ μ : S5} {s0 u0 a0 t0 nn s1 u1 b1 c1 nx : Int32} {k : Nat} {g cc fs fu fn ft : Nat → Int32} (q : RG Q σ μ s0 u0 a0 t0 nn s1 u1 b1 c1 nx k g cc fs fu fn ft) (i : Nat) : ∀ d, i + d < k → cc i ≤ cc (i + d) ∧ (0 < d → cc i < cc (i + d))
  | 0, _ => ⟨by rw [Nat.add_zero]; grind, fun w => absurd w (by omega)⟩
  | d + 1, hd => by
    have ih := (RG.mc q i d (by omega)).1
    obtain ⟨_, hb, _, _, _, _, _, _, _, _, e, _⟩ := q.2.2.2.2.2.2.2.2 (i + d) (by omega)
    obtain ⟨_, hb2, _⟩ := q.2.2.2.2.2.2.2.2 (i + d + 1) (by omega)
    unfold Bi at hb hb2
    rw [← Nat.add_assoc]
    have : cc (i + d) < cc (i + d + 1) := by grind
    exact ⟨by grind, fun _ => by grind⟩
/-- the class links an item to the one before it -/
def lnk (σ : S5) (k : Nat) (cc : Nat → Int32) (c : Int32) : S5 := if k = 0 then σ else pA σ 17 (cc (k - 1)) c
theorem lnk_17 (σ : S5) (k : Nat) (cc : Nat → Int32) (c i : Int32) : xA (lnk σ k cc c) 17 i = if ¬ k = 0 ∧ i.toNatClampNeg = (cc (k - 1)).toNatClampNeg then c else xA σ 17 i := by
  unfold lnk
  by_cases h : k = 0
  · rw [if_pos h, if_neg (fun w => w.1 h)]
  · rw [if_neg h, xA_pA]
    by_cases w : i.toNatClampNeg = (cc (k - 1)).toNatClampNeg
    · rw [if_pos ⟨rfl, w⟩, if_pos ⟨h, w⟩]
    · rw [if_neg (fun v => w v.2), if_neg (fun v => w v.2)]
theorem lnk_A (σ : S5) (k : Nat) (cc : Nat → Int32) (c : Int32) {j : Nat} (h : ¬ j = 17) (i : Int32) : xA (lnk σ k cc c) j i = xA σ j i := by
  unfold lnk
  split
  · rfl
  · rw [xA_pA, if_neg (fun w => h w.1)]
theorem lnk_B (σ : S5) (k : Nat) (cc : Nat → Int32) (c : Int32) (j : Nat) (i : Int32) : xB (lnk σ k cc c) j i = xB σ j i := by
  unfold lnk
  split <;> rfl
theorem lnk_I (σ : S5) (k : Nat) (cc : Nat → Int32) (c : Int32) (j : Nat) : gI (lnk σ k cc c) j = gI σ j := by
  unfold lnk
  split <;> rfl
theorem lnk_E (σ : S5) (k : Nat) (cc : Nat → Int32) (c : Int32) : EqE σ (lnk σ k cc c) := by
  unfold lnk
  split
  · exact EqE.rf σ
  · exact (EqE.rf σ).A (by decide)
theorem lnk_S {σ μ : S5} (k : Nat) (cc : Nat → Int32) (c : Int32) (h : Sim σ μ) : Sim (lnk σ k cc c) μ := by
  unfold lnk
  split
  · exact h
  · exact ⟨h.1, Ct_eq h.2.1 ((EqE.rf σ).A (by decide)) (EqR.rf μ), h.2.2⟩
/-- the next item is there -/
theorem RG.nx {Q : Q9} (hQ : Qst Q) {σ μ : S5} {s0 u0 a0 t0 nn s1 u1 b1 c1 n : Int32} {k : Nat} {g cc fs fu fn ft : Nat → Int32} (q : RG Q σ μ s0 u0 a0 t0 nn s1 u1 b1 c1 n k g cc fs fu fn ft) {s2 u2 b2 c : Int32} (ht : Q σ μ k s1 s2 u1 u2 b1 b2 c1 n c) (hb : Bi s1 s2 u1 u2 b1 b2 c1 n c) (h17 : xA σ 17 c = -1) (h5 : xA μ 5 n = -1) (hn : nn < b1) (k0 : s0 ≤ s1 ∧ u0 ≤ u1 ∧ a0 ≤ b1 ∧ t0 ≤ c1) : RG Q (lnk σ k cc c) μ s0 u0 a0 t0 nn s2 u2 b2 (c + 1) (-1) (k + 1) (upN g k n) (upN cc k c) (upN fs (k + 1) s2) (upN fu (k + 1) u2) (upN fn (k + 1) b2) (upN ft (k + 1) (c + 1)) := by
  have hmc := q.mc
  obtain ⟨e1, e2, e3, e4, e5, e6, e7, e8, hi⟩ := q
  have hbn := hb
  unfold Bi at hbn
  have hl : 0 < k → cc (k - 1) + 1 = c1 ∧ 0 ≤ cc (k - 1) ∧ cc (k - 1) < c1 := by
    intro w
    obtain ⟨d1, hb, d2, d3, d4, d5, d6, d7, d8, d9, d10, d11, d12, d13⟩ := hi (k - 1) (by omega)
    unfold Bi at hb
    rw [show k - 1 + 1 = k by omega] at d10
    rw [e8] at d10
    exact ⟨d10.symm, by grind, d9⟩
  have key : ∀ (i : Nat) (s s' u u' a b t n1 c2 : Int32), 0 ≤ t → (¬ k = 0 → c2 ≤ cc (k - 1) ∨ cc (k - 1) < t) → Agr σ (lnk σ k cc c) μ μ s s' u u' a b t n1 c2 := by
    intro i s s' u u' a b t n1 c2 ht0 hcc
    refine ⟨fun i _ _ => ⟨lnk_A _ _ _ _ (by decide) _, lnk_A _ _ _ _ (by decide) _, lnk_A _ _ _ _ (by decide) _, lnk_A _ _ _ _ (by decide) _⟩, fun i p w => ?_, fun i _ _ => ⟨lnk_A _ _ _ _ (by decide) _, lnk_A _ _ _ _ (by decide) _, lnk_A _ _ _ _ (by decide) _, lnk_A _ _ _ _ (by decide) _⟩, fun i _ _ => lnk_A _ _ _ _ (by decide) _, fun i _ _ => lnk_B _ _ _ _ _ _, fun i _ _ => ⟨lnk_A _ _ _ _ (by decide) _, lnk_A _ _ _ _ (by decide) _, lnk_A _ _ _ _ (by decide) _, lnk_B _ _ _ _ _ _⟩, fun i _ _ => ⟨rfl, rfl, rfl, rfl, rfl, rfl, rfl, rfl, rfl⟩, fun i _ _ _ => rfl, fun i _ _ => rfl, by grind, lnk_I _ _ _ _ _, fun i _ _ => lnk_A _ _ _ _ (by decide) _⟩
    rw [lnk_17, if_neg]
    intro ⟨hk, w2⟩
    have hk0 := (hl (by omega)).2.1
    rcases hcc hk with hcc | hcc
    · exact i_ne (a := i) (b := cc (k - 1)) (by grind) (by grind) w2
    · exact i_ne' (a := cc (k - 1)) (b := i) hk0 (by grind) w2
  refine ⟨by rw [upN_ne _ _ (by omega)]; exact e1, upN_at _ _ _, by rw [upN_ne _ _ (by omega)]; exact e3, upN_at _ _ _, by rw [upN_ne _ _ (by omega)]; exact e5, upN_at _ _ _, by rw [upN_ne _ _ (by omega)]; exact e7, upN_at _ _ _, fun i hk => ?_⟩
  by_cases c0 : i = k
  · subst c0
    rw [upN_at g, upN_at cc, upN_at fs, upN_at fu, upN_at fn, upN_at ft, upN_ne fs _ (by omega), upN_ne fu _ (by omega), upN_ne fn _ (by omega), upN_ne ft _ (by omega), e2, e4, e6, e8]
    refine ⟨hQ _ _ _ _ _ _ _ _ _ _ _ _ _ _ hb ht (key i _ _ _ _ _ _ _ _ _ (by grind) (fun w => Or.inr (hl (by omega)).2.2)), hb, by grind, by grind, by grind, by grind, by grind, by grind, by grind, by grind, rfl, ?_, ?_, hn⟩
    · rw [if_neg (by omega), lnk_17, if_neg]
      · exact h17
      · intro ⟨w1, w2⟩
        exact i_ne' (a := cc (i - 1)) (b := c) (hl (by omega)).2.1 (by have := (hl (by omega)).2.2; grind) w2
    · rw [if_neg (by omega)]
      exact h5
  · obtain ⟨d1, hbi, d2, d3, d4, d5, d6, d7, d8, d9, d10, d11, d12, d13⟩ := hi i (by omega)
    have hbi' := hbi
    unfold Bi at hbi'
    have hle := hmc i (k - 1 - i) (by omega)
    rw [show i + (k - 1 - i) = k - 1 by omega] at hle
    rw [upN_ne g _ c0, upN_ne cc _ c0, upN_ne fs _ (by omega), upN_ne fs _ (by omega), upN_ne fu _ (by omega), upN_ne fu _ (by omega), upN_ne fn _ (by omega), upN_ne fn _ (by omega), upN_ne ft _ (by omega), upN_ne ft _ (by omega)]
    refine ⟨hQ _ _ _ _ _ _ _ _ _ _ _ _ _ _ hbi d1 (key i _ _ _ _ _ _ _ _ _ (by grind) (fun _ => Or.inl hle.1)), hbi, d2, by grind, d4, by grind, d6, by grind, d8, by grind, d10, ?_, ?_, d13⟩
    · rw [lnk_17, if_pos (show i + 1 < k + 1 by omega)]
      by_cases w : i + 1 = k
      · rw [if_pos ⟨by omega, by rw [show k - 1 = i by omega]⟩, w, upN_at]
      · rw [if_neg (fun v => i_ne (a := cc i) (b := cc (k - 1)) (by grind) (hle.2 (by omega)) v.2), d11, if_pos (by omega), upN_ne _ _ (by omega)]
    · rw [d12, if_pos (show i + 1 < k + 1 by omega)]
      by_cases w : i + 1 = k
      · rw [if_neg (by omega), w, upN_at]
      · rw [if_pos (by omega), upN_ne _ _ (by omega)]
/-- what stays, and what grows, from one state to a later one -/
def Fx (σ0 μ0 σ μ : S5) : Prop := EqE σ0 σ ∧ EqR μ0 μ ∧ FrC σ0 σ ∧ FrM μ0 μ ∧ PF μ0 μ ∧ gI μ 12 - gI μ 11 = gI μ0 12 - gI μ0 11 ∧ gI σ0 8 ≤ gI σ 8 ∧ gI σ0 9 ≤ gI σ 9 ∧ gI σ0 10 ≤ gI σ 10 ∧ gI μ0 9 ≤ gI μ 9 ∧ gI μ0 10 ≤ gI μ 10 ∧ gI σ0 18 ≤ gI σ 18
theorem Fx.tr {σ0 μ0 σ1 μ1 σ2 μ2 : S5} (h : Fx σ0 μ0 σ1 μ1) (h2 : Fx σ1 μ1 σ2 μ2) (hb : 0 ≤ gI σ0 9) (hb2 : gI σ1 9 ≤ 700) (k : gI μ0 16 ≤ gI μ1 16) (k2 : gI μ0 17 ≤ gI μ1 17) : Fx σ0 μ0 σ2 μ2 := by
  obtain ⟨a1, a2, a3, a4, a5, a6, a7, a8, a9, a10, a11, a12⟩ := h
  obtain ⟨b1, b2, b3, b4, b5, b6, b7, b8, b9, b10, b11, b12⟩ := h2
  exact ⟨a1.tr b1, a2.tr b2, a3.tr b3 a7 a8 a9 hb hb2, a4.tr b4 a10 a11, a5.tr b5 k k2, b6.trans a6, i_trans a7 b7, i_trans a8 b8, i_trans a9 b9, i_trans a10 b10, i_trans a11 b11, i_trans a12 b12⟩
theorem Cor.fx {σ μ σ' μ' : S5} {c n : Int32} (h : Cor σ μ c σ' μ' n) : Fx σ μ σ' μ' := by
  obtain ⟨r1, r2, ⟨t1, t2, t3, t4, t5⟩, r4, r5, r6, r7, r8, r9, r10, r11, r12, r13, r14, r15⟩ := h
  exact ⟨r4, r5, r9, r10, ⟨t4, t5⟩, r6, r11.1, r11.2.1, r11.2.2.1, r11.2.2.2.1, r11.2.2.2.2.1, r11.2.2.2.2.2.1⟩
