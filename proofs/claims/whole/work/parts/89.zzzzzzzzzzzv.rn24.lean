/-- which cells are filled while bindings are -/
def Rdi (τ : S5) (kc : Nat → Int32) (n0 n1 i : Nat) (c : Nat) : Prop := c < n0 ∨ n1 ≤ c ∨ ∃ j, j < i ∧ ¬ xA τ 13 (kc j) ≤ 2 ∧ c = n0 + pre (wBn τ kc) j
theorem wBn_s {τ : S5} {kc : Nat → Int32} {j : Nat} (h : ¬ xA τ 13 (kc j) ≤ 2) : pre (wBn τ kc) (j + 1) = pre (wBn τ kc) j + 1 := by
  show pre (wBn τ kc) j + wBn τ kc j = _
  unfold wBn
  rw [if_neg h]
theorem wBn_lt {τ : S5} {kc : Nat → Int32} {i j : Nat} (hij : j < i) (h : ¬ xA τ 13 (kc j) ≤ 2) : pre (wBn τ kc) j < pre (wBn τ kc) i := by
  have h1 := wBn_s h
  have := pre_mono (w := wBn τ kc) (i - (j + 1)) (j + 1)
  rw [show j + 1 + (i - (j + 1)) = i by omega] at this
  omega
theorem wBn_sur {τ : S5} {kc : Nat → Int32} : ∀ (l c : Nat), c < pre (wBn τ kc) l → ∃ j, j < l ∧ ¬ xA τ 13 (kc j) ≤ 2 ∧ c = pre (wBn τ kc) j
  | 0, c, h => absurd h (Nat.not_lt_zero c)
  | l + 1, c, h => by
    by_cases hk : xA τ 13 (kc l) ≤ 2
    · have e : pre (wBn τ kc) (l + 1) = pre (wBn τ kc) l := by
        show pre (wBn τ kc) l + wBn τ kc l = _
        unfold wBn
        rw [if_pos hk]
        rfl
      rw [e] at h
      obtain ⟨j, j1, j2, j3⟩ := wBn_sur l c h
      exact ⟨j, by omega, j2, j3⟩
    · rw [wBn_s hk] at h
      by_cases hc : c < pre (wBn τ kc) l
      · obtain ⟨j, j1, j2, j3⟩ := wBn_sur l c hc
        exact ⟨j, by omega, j2, j3⟩
      · exact ⟨l, by omega, hk, by omega⟩
theorem w159_ov {σ : S5} (h0 : ¬ xA σ 40 0 = 0) {i : Nat} (hi : i < 10) (v2 c : Int32) (N : Nat) (hN : 0 < N) : f_X3_workLet_L159 N v2 (nI i) c σ = f_X3_workLet_b232 v2 σ := by
  obtain ⟨N, rfl⟩ : ∃ n, N = n + 1 := ⟨N - 1, by omega⟩
  show f_X3_workLet_B159 _ _ _ _ _ = _
  unfold f_X3_workLet_B159
  rw [if_neg (n10 hi)]
  by_cases hc : c = -1
  · rw [if_pos hc]
  · rw [if_neg hc, over_1 h0, bd_of]
    unfold gq
    rw [if_pos rfl, if_pos rfl, if_neg (by decide)]
theorem w125_ov {μ : S5} (h0 : ¬ gI μ 44 = 0) (v1 v2 v3 v4 : Int32) (N : Nat) (hN : 0 < N) : f_X12_keepBindings_L125 N v1 v2 v3 v4 μ = some ((), μ) := by
  obtain ⟨N, rfl⟩ : ∃ n, N = n + 1 := ⟨N - 1, by omega⟩
  show f_X12_keepBindings_B125 _ _ _ _ _ _ = _
  unfold f_X12_keepBindings_B125
  by_cases hc : v2 ≤ v4
  · rw [if_pos hc]
  · rw [if_neg hc, if_neg h0]
/-- and what is in them is kept, one behind the other -/
theorem bnd2 {τ μ0 : S5} {F k T : Nat} {pa nv : Nat → Nat} (hS : PSt τ μ0 F k T pa nv) {f base p lo l ct0 n0 n1 : Nat} {Sc' : Nat → Prop} {bb kc : Nat → Int32} {kp : Nat → Nat} (hL : LTb τ μ0 F T nv f p lo l ct0 Sc' bb kc kp) (hn1 : n1 = n0 + pre (wBn τ kc) l) (v2 : Int32) : ∀ (r i N : Nat) (σ μ : S5) (n : Nat) (tg ct : Nat → Nat), i + r = l → r < N → eqP τ σ → eqQ μ0 μ → n1 ≤ n → HS τ μ0 F T pa nv σ μ n tg ct (Rdi τ kc n0 n1 i) → NR σ μ → gI μ 44 = 0 → EV τ F k pa nv σ μ n tg ct f base Sc' → (∀ j, i ≤ j → j < l → BDn τ μ0 F T pa nv f base lo n0 Sc' kc kp σ μ n tg ct j) →
    (∃ (τ' ν : S5) (n' : Nat) (tg' ct' : Nat → Nat), f_X3_workLet_L159 N v2 (nI i) (if i < l then bb i else -1) σ = f_X3_workLet_b232 v2 τ' ∧ f_X12_keepBindings_L125 N (nI p) (nI l) (nI lo) (nI i) μ = some ((), ν) ∧ HS τ μ0 F T pa nv τ' ν n' tg' ct' (fun _ => True) ∧ Gro n tg ct n' tg' ct' ∧ NR τ' ν ∧ gI ν 44 = 0 ∧ FkC σ τ' ∧ FkM μ ν ∧ EV τ F k pa nv τ' ν n' tg' ct' f base Sc' ∧ (∀ c, c < n → gA ν 53 c = gA μ 53 c) ∧ (n0 ≤ n → ∀ j, j < pre ct n0 → gB ν 7 j = gB μ 7 j)) ∨ (∃ (τ' ν : S5), f_X3_workLet_L159 N v2 (nI i) (if i < l then bb i else -1) σ = f_X3_workLet_b232 v2 τ' ∧ f_X12_keepBindings_L125 N (nI p) (nI l) (nI lo) (nI i) μ = some ((), ν) ∧ OV τ' ν ∧ FkC σ τ' ∧ FkM μ ν) := by
  obtain ⟨hp7, hl5, hlo, h33, hct, hkid⟩ := hL
  intro r
  induction r with
  | zero =>
    intro i N σ μ n tg ct hi hN hP hQ hnn hH hn h0 hE hB
    obtain ⟨N, rfl⟩ : ∃ n, N = n + 1 := ⟨N - 1, by omega⟩
    obtain rfl : i = l := by omega
    refine Or.inl ⟨σ, μ, n, tg, ct, ?_, ?_, hH.rd (fun c hc _ => ?_), Gro.rf n tg ct, hn, h0, FkC.rf σ, FkM.rf μ, hE, fun _ _ => rfl, fun _ _ _ => rfl⟩
    · show f_X3_workLet_B159 _ _ _ _ _ = _
      unfold f_X3_workLet_B159
      rw [if_neg (n10 (by omega)), if_neg (Nat.lt_irrefl i), if_pos rfl]
    · show f_X12_keepBindings_B125 _ _ _ _ _ _ = _
      unfold f_X12_keepBindings_B125
      rw [if_pos (Int32.le_refl _)]
    · by_cases h1 : c < n0
      · exact Or.inl h1
      · by_cases h2 : n1 ≤ c
        · exact Or.inr (Or.inl h2)
        · obtain ⟨j, j1, j2, j3⟩ := wBn_sur (τ := τ) (kc := kc) i (c - n0) (by omega)
          exact Or.inr (Or.inr ⟨j, j1, j2, by omega⟩)
  | succ r ih =>
    intro i N σ μ n tg ct hi hN hP hQ hnn hH hn h0 hE hB
    obtain ⟨N, rfl⟩ : ∃ n, N = n + 1 := ⟨N - 1, by omega⟩
    obtain ⟨b1, b2, b3, b4, b5, b6, b7, b8, b9⟩ := hkid i (by omega)
    have h00 : xA σ 40 0 = 0 := hn.1.1.trans h0
    obtain ⟨⟨e1, e2, e3, e4, e5, e6, e7⟩, ev, eg⟩ := id hE
    have hnv := (hS.2.2.2.2 f e4).2.1.2.2.2
    obtain ⟨⟨a1, a2, a3, a4, a5⟩, -⟩ := id hH
    have hge := adr_ge tg ct n
    have hb5 := b5
    obtain ⟨-, q', lo', hi', hx, -, -⟩ := hb5
    have hidx : base + (lo + i) < 2 ^ 31 := by omega
    have hin : base + (lo + i) < gN σ 3 := by omega
    obtain ⟨v0, vm⟩ := hB i (Nat.le_refl _) (by omega)
    have stepC : ∀ {τ1 : S5}, f_X3_fill (f_keepE 64) (kc i) (gB σ 13 (base + (lo + i))) 1 σ = some ((), τ1) → FkC σ τ1 → f_X3_workLet_L159 (N + 1) v2 (nI i) (if i < l then bb i else -1) σ = f_X3_workLet_L159 N v2 (nI (i + 1)) (if i + 1 < l then bb (i + 1) else -1) τ1 := by
      intro τ1 hb hF
      have eN : ∀ z, gN τ1 z = gN σ z := fun z => congrFun hF.2.2.2.2 z
      show f_X3_workLet_B159 _ _ _ _ _ = _
      unfold f_X3_workLet_B159
      rw [if_neg (n10 (by omega)), if_pos (show i < l by omega), if_neg (nneg1 b1.1), over_0 h00, bd_of]
      unfold gq
      rw [if_pos rfl, if_pos rfl, if_pos rfl, gd6200 b1.1 b1.2, gd6200 b1.1 b1.2, e1, hP.x 14 _ (by decide), b2, nI_plus, gdn hin e7, hP.x 16 _ (by decide), b3, xB_n hidx, hb, bd_of, eN 1, eN 3, if_pos rfl, if_pos rfl, gd6200 b1.1 b1.2, nI_add1, (hP.fk hF).x 17 _ (by decide), b4]
    have hch : f_X12_child (nI p) (nI i) μ = some (nI (kp i), μ) := by
      unfold f_X12_child
      rw [gdn hp7 (by omega), hQ.x 33 _ (by decide), h33, nI_plus, gdn (by omega) (by omega), hQ.x 39 _ (by decide), b9]
    have hle : ¬ nI l ≤ nI i := fun w => by have := (nI_le31 (by omega) (by omega)).mp w; omega
    by_cases hk2 : xA τ 13 (kc i) ≤ 2
    · have hk3 : xA τ 13 (kc i) = 0 ∨ xA τ 13 (kc i) = 1 ∨ xA τ 13 (kc i) = 2 := by
        rcases kd_all hnv hx with w | w | w | w | w | w | w | w | w | w
        · exact Or.inl w
        · exact Or.inr (Or.inl w)
        · exact Or.inr (Or.inr w)
        all_goals
          rw [w] at hk2
          exact absurd hk2 (by decide)
      have hn3 : ¬ xA τ 13 (kc i) = 3 := by
        rcases hk3 with w | w | w <;> rw [w] <;> decide
      obtain ⟨x, y, p1, p2, p3⟩ := (plain_go hS hP hQ hE b5).1 (by rcases hk3 with w | w | w <;> rw [w] <;> decide)
      have sC := stepC (τ1 := σ) (fCx_0 hP h00 b7 _ (by rcases hk3 with w | w | w; exact Or.inl w; exact Or.inr (Or.inl w); exact Or.inr (Or.inr (Or.inl w)))) (FkC.rf σ)
      have sM : f_X12_keepBindings_L125 (N + 1) (nI p) (nI l) (nI lo) (nI i) μ = f_X12_keepBindings_L125 N (nI p) (nI l) (nI lo) (nI (i + 1)) μ := by
        show f_X12_keepBindings_B125 _ _ _ _ _ _ = _
        unfold f_X12_keepBindings_B125 f_X12_keepBindings_b175 f_X12_keepBindings_b214
        rw [if_neg hle, if_pos h0, hch, bd_of, gdn b8 (by omega), hQ.x 31 _ (by decide)]
        rcases kd_v hnv hx with ⟨w1, w2⟩ | ⟨w1, w2⟩
        · exact absurd w1 hn3
        · rw [if_neg w2, p2, bd_of, if_pos p3.nn.1, if_pos rfl, nI_add1]
      rw [sC, sM]
      exact ih (i + 1) N σ μ n tg ct (by omega) (by omega) hP hQ hnn (hH.rd (fun c hc w => by
        rcases w with w | w | ⟨j, j1, j2, j3⟩
        · exact Or.inl w
        · exact Or.inr (Or.inl w)
        · refine Or.inr (Or.inr ⟨j, ?_, j2, j3⟩)
          by_cases hji : j = i
          · subst hji
            exact absurd hk2 j2
          · omega)) hn h0 hE (fun j j1 j2 => hB j (by omega) j2)
    · have hmk3 : ¬ xA τ 13 (kc i) ≤ 3 ∨ (xA τ 13 (kc i) = 3 ∧ ¬ (1 : Int32) = 0) := by
        by_cases h3 : xA τ 13 (kc i) = 3
        · exact Or.inr ⟨h3, by decide⟩
        · refine Or.inl (fun w => ?_)
          clear stepC ih hB hkid
          grind
      obtain ⟨z1, z2, z3, z4, z5⟩ := vm hk2
      obtain ⟨c0, ec0⟩ : ∃ c0, c0 = n0 + pre (wBn τ kc) i := ⟨_, rfl⟩
      rw [← ec0] at z1 z2 z3 z4 z5
      have hc1 : c0 < n1 := by
        have := wBn_lt (τ := τ) (kc := kc) (show i < l by omega) hk2
        omega
      have hnr : ¬ Rdi τ kc n0 n1 i c0 := by
        intro w
        rcases w with w | w | ⟨j, j1, j2, j3⟩
        · omega
        · omega
        · have := wBn_lt (τ := τ) (kc := kc) j1 j2
          omega
      have hF0 : FkM μ (pI μ 54 0) := FkM.t _
      have key := fill_go hS hP (hQ.fk hF0) (hH.ft (Ft.t _)) (hn.ft (Ft.t _)) h0 (hE.st (Gro.rf _ _ _) (FkC.rf _) hF0) b5 (d := 64) (by omega) (c0 := c0) z2 (a4 := 1) hmk3 z1 hnr rfl rfl z3 rfl
      have sMx : ∀ {ν1 : S5}, bd (f_X12_fill (nI (kp i)) (nI c0) (pI μ 54 0)) (fun _ τ => f_X12_doTasks τ) = some ((), ν1) → f_X12_keepBindings_L125 (N + 1) (nI p) (nI l) (nI lo) (nI i) μ = f_X12_keepBindings_L125 N (nI p) (nI l) (nI lo) (nI (i + 1)) ν1 := by
        intro ν1 hf
        obtain ⟨u1, ρ, f1, f2⟩ := bd_some hf
        have f1' : f_X12_fill (nI (kp i)) (nI c0) (pI μ 54 0) = some (u1, ρ) := f1
        have body : f_X12_keepBindings_b170 (f_X12_keepBindings_L125 N) (nI p) (nI l) (nI lo) (nI i) (nI (kp i)) μ = f_X12_keepBindings_L125 N (nI p) (nI l) (nI lo) (nI (i + 1)) ν1 := by
          unfold f_X12_keepBindings_b170 f_X12_keepBindings_b175 f_X12_keepBindings_b214
          have eof : f_X12_of (gB μ 9 (base + (lo + i))) (pI μ 54 0) = some (nI c0, pI μ 54 0) := by
            rw [z5]
            show some ((vv 3 (nI c0)).toInt32, pI μ 54 0) = _
            rw [vv_of]
          rw [if_neg (by decide), e2, nI_plus, nI_plus, Nat.add_assoc, gdn (by omega) (by omega), xB_n (by omega), eof, bd_of, f1', bd_of, f2, bd_of, nI_add1]
        show f_X12_keepBindings_B125 _ _ _ _ _ _ = _
        unfold f_X12_keepBindings_B125
        rw [if_neg hle, if_pos h0, hch, bd_of, gdn b8 (by omega), hQ.x 31 _ (by decide)]
        rcases kd_v hnv hx with ⟨w1, w2⟩ | ⟨w1, w2⟩
        · rw [if_pos w2]
          exact body
        · have hpm := (plain_go hS hP hQ hE b5).2 (by
            rcases hmk3 with w | w
            · exact w
            · exact absurd w.1 w1)
          rw [if_neg w2, hpm, bd_of, if_neg lg_m1.1]
          exact body
      rw [← z4] at key
      rcases key with ⟨τ1, ν1, n2, tg2, ct2, k1, k2, k3, k4, k5, k6, k7, k8, k9, k10⟩ | ⟨τ1, ν1, k1, k2, k3, k4, k5⟩
      · rw [stepC k1 k6, sMx k2]
        have hFM := hF0.tr k7
        have hih := ih (i + 1) N τ1 ν1 n2 tg2 ct2 (by omega) (by omega) (hP.fk k6) (hQ.fk hFM) (by have := k3.1; omega) (k4.rd (fun c hc w => by
          rcases w with w | w | ⟨j, j1, j2, j3⟩
          · exact Or.inr (Or.inr (Or.inl w))
          · by_cases hcn : n ≤ c
            · exact Or.inl hcn
            · exact Or.inr (Or.inr (Or.inr (Or.inl w)))
          · by_cases hji : j = i
            · subst hji
              exact Or.inr (Or.inl (by rw [j3, ec0]))
            · exact Or.inr (Or.inr (Or.inr (Or.inr ⟨j, by omega, j2, j3⟩))))) k5 k8 (hE.st k3 k6 hFM) (fun j j1 j2 => (hB j (by omega) j2).st k3 (by rw [k6.2.2.2.1 13 (by decide)]) (by rw [hFM.2.2.2.1 9 (by decide)]) (fun c hc => by rw [k9 c hc]; rfl))
        rcases hih with ⟨τ', ν, n', tg', ct', c1, c2, c3, c4, c5, c6, c7, c8, c9, c10, c11⟩ | ⟨τ', ν, c1, c2, c3, c4, c5⟩
        · exact Or.inl ⟨τ', ν, n', tg', ct', c1, c2, c3, k3.tr c4, c5, c6, k6.tr c7, hFM.tr c8, c9, fun c hc => (c10 c (by have := k3.1; omega)).trans (k9 c hc), fun hnn0 j hj => by
          have e0 : pre ct2 n0 = pre ct n0 := (k3.ad hnn0).2
          have e1 : pre ct n0 ≤ pre ct c0 := by
            have := pre_mono (w := ct) (c0 - n0) n0
            rw [show n0 + (c0 - n0) = c0 by omega] at this
            exact this
          have e2 := pre_mo' ct z1
          rw [c11 (by have := k3.1; omega) j (by rw [e0]; exact hj), k10 j (by omega) (Or.inl (by omega))]
          rfl⟩
        · exact Or.inr ⟨τ', ν, c1, c2, c3, k6.tr c4, hFM.tr c5⟩
      · have hov : ¬ xA τ1 40 0 = 0 := fun w => k3.2 (k3.1.1.1.symm.trans w)
        rw [stepC k1 k4, sMx k2]
        exact Or.inr ⟨τ1, ν1, w159_ov hov (by omega) _ _ N (by omega), w125_ov k3.2 _ _ _ _ N (by omega), k3, k4, hF0.tr k5⟩
