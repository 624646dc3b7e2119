/-- a let's bindings, on both sides -/
def LTb (τ μ0 : S5) (F T : Nat) (nv : Nat → Nat) (f p lo l ct0 : Nat) (Sc' : Nat → Prop) (bb kc : Nat → Int32) (kp : Nat → Nat) : Prop := p < 7000 ∧ l ≤ 5 ∧ lo + l ≤ nv f ∧ xA μ0 33 (nI p) = nI ct0 ∧ ct0 + l ≤ 14000 ∧ ∀ j, j < l → (0 ≤ bb j ∧ bb j < 6200) ∧ xA τ 14 (bb j) = nI (lo + j) ∧ xA τ 16 (bb j) = kc j ∧ xA τ 17 (bb j) = (if j + 1 < l then bb (j + 1) else -1) ∧ ND τ μ0 F T nv f (kc j) (kp j) Sc' ∧ hF τ (kc j) < 64 ∧ (0 ≤ kc j ∧ kc j < 6200) ∧ kp j < 7000 ∧ xA μ0 39 (nI (ct0 + j)) = nI (kp j)
theorem kd_v {τ μ : S5} {F V T : Nat} (hV : V ≤ 40) {c : Int32} {q p : Nat} {Sc : Nat → Prop} {lo hi : Nat} (h : XM τ μ F V T c q p Sc lo hi) : (xA τ 13 c = 3 ∧ xA μ 31 (nI p) = 13) ∨ (¬ xA τ 13 c = 3 ∧ ¬ xA μ 31 (nI p) = 13) := by
  obtain ⟨-, -, h3⟩ := h.un hV
  rcases h3 with ⟨-, -, -, -, w⟩ | ⟨k, ct, cc, ll, w, -⟩ | ⟨w1, w2, -⟩ | ⟨w1, w2, -⟩
  · rcases w with ⟨a, b, -⟩ | ⟨a, b, -⟩ | ⟨a, b, -⟩ | ⟨a, b, -⟩ | ⟨a, b⟩
    · exact Or.inr ⟨by rw [a]; decide, by rw [b]; decide⟩
    · exact Or.inr ⟨by rw [a]; decide, by rw [b]; decide⟩
    · exact Or.inr ⟨by rw [a]; decide, by rw [b]; decide⟩
    · exact Or.inl ⟨a, b⟩
    · exact Or.inr ⟨by rw [a]; decide, by rw [b]; decide⟩
  · rcases w with ⟨a, b, -⟩ | ⟨a, b, -⟩ | ⟨a, b, -⟩
    · exact Or.inr ⟨by rw [a]; decide, by rw [b]; decide⟩
    · exact Or.inr ⟨by rw [a]; decide, by rw [b]; decide⟩
    · exact Or.inr ⟨by rw [a]; decide, by rw [b]; decide⟩
  · exact Or.inr ⟨by rw [w1]; decide, by rw [w2]; decide⟩
  · exact Or.inr ⟨by rw [w1]; decide, by rw [w2]; decide⟩
theorem begin_a {τ σ : S5} (hP : eqP τ σ) {c : Int32} (hc : 0 ≤ c ∧ c < 6200) (hk : xA τ 13 c = 0 ∨ xA τ 13 c = 1 ∨ xA τ 13 c = 2) (a : Int32) : f_X3_begin c a σ = f_X3_begin c 0 σ := by
  have g1 : ∀ {β : Type} (x : Option β), gd c 6200 x = x := fun x => gd6200 hc.1 hc.2
  unfold f_X3_begin
  rw [g1, g1, g1, g1, hP.x 13 _ (by decide)]
  rcases hk with w | w | w <;> rw [w] <;> rfl
theorem BDn.st {τ μ0 : S5} {F T : Nat} {pa nv : Nat → Nat} {f base lo n0 : Nat} {Sc' : Nat → Prop} {kc : Nat → Int32} {kp : Nat → Nat} {σ μ σ' μ' : S5} {n : Nat} {tg ct : Nat → Nat} {n' : Nat} {tg' ct' : Nat → Nat} {j : Nat} (h : BDn τ μ0 F T pa nv f base lo n0 Sc' kc kp σ μ n tg ct j) (hg : Gro n tg ct n' tg' ct') (h1 : gB σ' 13 (base + (lo + j)) = gB σ 13 (base + (lo + j))) (h2 : gB μ' 9 (base + (lo + j)) = gB μ 9 (base + (lo + j))) (h3 : ∀ c, c < n → gA μ' 53 c = gA μ 53 c) : BDn τ μ0 F T pa nv f base lo n0 Sc' kc kp σ' μ' n' tg' ct' j := by
  refine ⟨by rw [h1, h2]; exact h.1.gr hg, fun w => ?_⟩
  obtain ⟨a1, a2, a3, a4, a5⟩ := h.2 w
  obtain ⟨e1, e2⟩ := hg.2 _ a1
  rw [e1, e2, h1, h2, h3 _ a1, (hg.ad (Nat.le_of_lt a1)).1]
  exact ⟨by have := hg.1; omega, a2, a3, a4, a5⟩
theorem ov_wv {σ μ : S5} (h : OV σ μ) (i j : Int32) (x y : Int64) : OV (pB σ 13 i x) (pB μ 9 j y) := h
theorem w80_ov {σ : S5} (h0 : ¬ xA σ 40 0 = 0) {i : Nat} (hi : i < 10) (v2 v3 c : Int32) (N : Nat) (hN : 0 < N) : f_X3_workLet_L80 N v2 v3 (nI i) c σ = f_X3_workLet_b153 v2 v3 σ := by
  obtain ⟨N, rfl⟩ : ∃ n, N = n + 1 := ⟨N - 1, by omega⟩
  show f_X3_workLet_B80 _ _ _ _ _ _ = _
  unfold f_X3_workLet_B80
  rw [if_neg (n10 hi)]
  by_cases hc : c = -1
  · rw [if_pos hc]
  · rw [if_neg hc, over_1 h0, bd_of]
    unfold gq
    rw [if_pos rfl, if_pos rfl, if_neg (by decide)]
theorem w17_ov {μ : S5} (h0 : ¬ gI μ 44 = 0) (v1 v2 v3 v4 : Int32) (N : Nat) (hN : 0 < N) : f_X12_keepBindings_L17 N v1 v2 v3 v4 μ = f_X12_keepBindings_b122 v1 v2 v3 μ := by
  obtain ⟨N, rfl⟩ : ∃ n, N = n + 1 := ⟨N - 1, by omega⟩
  show f_X12_keepBindings_B17 _ _ _ _ _ _ = _
  unfold f_X12_keepBindings_B17
  by_cases hc : v2 ≤ v4
  · rw [if_pos hc]
  · rw [if_neg hc, if_neg h0]
/-- the bindings are begun, one behind the other -/
theorem bnd1 {τ μ0 : S5} {F k T : Nat} {pa nv : Nat → Nat} (hS : PSt τ μ0 F k T pa nv) {f base p lo l ct0 n0 : Nat} {Sc Sc' : Nat → Prop} {bb kc : Nat → Int32} {kp : Nat → Nat} (hL : LTb τ μ0 F T nv f p lo l ct0 Sc' bb kc kp) (v2 v3 : Int32) : ∀ (r i N : Nat) (σ μ : S5) (n : Nat) (tg ct : Nat → Nat), i + r = l → r < N → eqP τ σ → eqQ μ0 μ → n = n0 + pre (wBn τ kc) i → HS τ μ0 F T pa nv σ μ n tg ct (fun c => c < n0) → NR σ μ → gI μ 44 = 0 → EV τ F k pa nv σ μ n tg ct f base Sc → (∀ x, Sc x → x < lo) → (∀ j, j < i → BDn τ μ0 F T pa nv f base lo n0 Sc' kc kp σ μ n tg ct j) →
    (∃ (τ' ν : S5) (n' : Nat) (tg' ct' : Nat → Nat), f_X3_workLet_L80 N v2 v3 (nI i) (if i < l then bb i else -1) σ = f_X3_workLet_b153 v2 v3 τ' ∧ f_X12_keepBindings_L17 N (nI p) (nI l) (nI lo) (nI i) μ = f_X12_keepBindings_b122 (nI p) (nI l) (nI lo) ν ∧ n' = n0 + pre (wBn τ kc) l ∧ HS τ μ0 F T pa nv τ' ν n' tg' ct' (fun c => c < n0) ∧ Gro n tg ct n' tg' ct' ∧ NR τ' ν ∧ gI ν 44 = 0 ∧ FlC σ τ' ∧ FlM μ ν ∧ EV τ F k pa nv τ' ν n' tg' ct' f base Sc ∧ (∀ j, j < l → BDn τ μ0 F T pa nv f base lo n0 Sc' kc kp τ' ν n' tg' ct' j) ∧ (∀ c, c < n → gA ν 53 c = gA μ 53 c) ∧ (∀ j, VL τ F pa n tg ct (gB σ 13 j) (gB μ 9 j) → VL τ F pa n' tg' ct' (gB τ' 13 j) (gB ν 9 j)) ∧ gB ν 7 = gB μ 7) ∨ (∃ (τ' ν : S5), f_X3_workLet_L80 N v2 v3 (nI i) (if i < l then bb i else -1) σ = f_X3_workLet_b153 v2 v3 τ' ∧ f_X12_keepBindings_L17 N (nI p) (nI l) (nI lo) (nI i) μ = f_X12_keepBindings_b122 (nI p) (nI l) (nI lo) ν ∧ OV τ' ν ∧ FlC σ τ' ∧ FlM μ ν) := by
  obtain ⟨hp7, hl5, hlo, h33, hct, hkid⟩ := hL
  intro r
  induction r with
  | zero =>
    intro i N σ μ n tg ct hi hN hP hQ hnn hH hn h0 hE hSc hB
    obtain ⟨N, rfl⟩ : ∃ n, N = n + 1 := ⟨N - 1, by omega⟩
    obtain rfl : i = l := by omega
    refine Or.inl ⟨σ, μ, n, tg, ct, ?_, ?_, hnn, hH, Gro.rf n tg ct, hn, h0, (FkC.rf σ).l, (FkM.rf μ).l, hE, hB, fun _ _ => rfl, fun _ w => w, rfl⟩
    · show f_X3_workLet_B80 _ _ _ _ _ _ = _
      unfold f_X3_workLet_B80
      rw [if_neg (n10 (by omega)), if_neg (Nat.lt_irrefl i), if_pos rfl]
    · show f_X12_keepBindings_B17 _ _ _ _ _ _ = _
      unfold f_X12_keepBindings_B17
      rw [if_pos (Int32.le_refl _)]
  | succ r ih =>
    intro i N σ μ n tg ct hi hN hP hQ hnn hH hn h0 hE hSc hB
    obtain ⟨N, rfl⟩ : ∃ n, N = n + 1 := ⟨N - 1, by omega⟩
    obtain ⟨b1, b2, b3, b4, b5, b6, b7, b8, b9⟩ := hkid i (by omega)
    have h00 : xA σ 40 0 = 0 := hn.1.1.trans h0
    obtain ⟨⟨e1, e2, e3, e4, e5, e6, e7⟩, ev, eg⟩ := id hE
    obtain ⟨⟨a1, a2, a3, a4, a5⟩, -⟩ := id hH
    have hge := adr_ge tg ct n
    have hfF : f < F := e4
    have hnv := (hS.2.2.2.2 f hfF).2.1.2.2.2
    have hb5 := b5
    obtain ⟨-, q', lo', hi', hx, -, -⟩ := hb5
    have hidx : base + (lo + i) < 2 ^ 31 := by omega
    have hin : base + (lo + i) < gN σ 3 := by omega
    -- one turn of the first
    have stepC : ∀ {x : Int64} {τ1 : S5}, f_X3_begin (kc i) 1 σ = some (x, τ1) → FkC σ τ1 → f_X3_workLet_L80 (N + 1) v2 v3 (nI i) (if i < l then bb i else -1) σ = f_X3_workLet_L80 N v2 v3 (nI (i + 1)) (if i + 1 < l then bb (i + 1) else -1) (pB τ1 13 (nI (base + (lo + i))) x) := by
      intro x τ1 hb hF
      have eN : ∀ z, gN τ1 z = gN σ z := fun z => congrFun hF.2.2.2.2 z
      show f_X3_workLet_B80 _ _ _ _ _ _ = _
      unfold f_X3_workLet_B80
      rw [if_neg (n10 (by omega)), if_pos (show i < l by omega), if_neg (nneg1 b1.1), over_0 h00, bd_of]
      unfold gq
      rw [if_pos rfl, if_pos rfl, if_pos rfl, gd6200 b1.1 b1.2, gd6200 b1.1 b1.2, hP.x 16 _ (by decide), b3, hb, bd_of, eN 1, eN 3, if_pos rfl, if_pos rfl, e1, hP.x 14 _ (by decide), b2, nI_plus, gdn hin e7, gd6200 b1.1 b1.2, nI_add1, (hP.fk hF).x 17 _ (by decide), b4]
    have hch : f_X12_child (nI p) (nI i) μ = some (nI (kp i), μ) := by
      unfold f_X12_child
      rw [gdn hp7 (by omega), hQ.x 33 _ (by decide), h33, nI_plus, gdn (by omega) (by omega), hQ.x 39 _ (by decide), b9]
    have hle : ¬ nI l ≤ nI i := fun w => by have := (nI_le31 (by omega) (by omega)).mp w; omega
    have stepM : ∀ u : Int64, ((xA τ 13 (kc i) = 3 ∧ u = -1) ∨ (¬ xA τ 13 (kc i) = 3 ∧ f_X12_plain (nI (kp i)) μ = some (u, μ))) → f_X12_keepBindings_L17 (N + 1) (nI p) (nI l) (nI lo) (nI i) μ = f_X12_keepBindings_b63 (f_X12_keepBindings_L17 N) (nI p) (nI l) (nI lo) (nI i) (nI (kp i)) u μ := by
      intro u hu
      show f_X12_keepBindings_B17 _ _ _ _ _ _ = _
      unfold f_X12_keepBindings_B17
      rw [if_neg hle, if_pos h0, hch, bd_of, gdn b8 (by omega), hQ.x 31 _ (by decide)]
      rcases kd_v hnv hx with ⟨w1, w2⟩ | ⟨w1, w2⟩
      · rcases hu with ⟨-, rfl⟩ | ⟨z, -⟩
        · rw [if_pos w2]
        · exact absurd w1 z
      · rcases hu with ⟨z, -⟩ | ⟨-, z⟩
        · exact absurd z w1
        · rw [if_neg w2, z, bd_of]
    by_cases hk2 : xA τ 13 (kc i) ≤ 2
    · -- it is kept as it is
      have hk3 : xA τ 13 (kc i) = 0 ∨ xA τ 13 (kc i) = 1 ∨ xA τ 13 (kc i) = 2 := by
        rcases kd_all hnv hx with w | w | w | w | w | w | w | w | w | w
        · exact Or.inl w
        · exact Or.inr (Or.inl w)
        · exact Or.inr (Or.inr w)
        all_goals
          rw [w] at hk2
          exact absurd hk2 (by decide)
      have hn3 : ¬ xA τ 13 (kc i) = 3 := by
        rcases hk3 with w | w | w <;> rw [w] <;> decide
      obtain ⟨x, y, p1, p2, p3⟩ := (plain_gx hS hP hQ hE b5 (fun w => absurd w hn3)).1 (by rcases hk3 with w | w | w <;> rw [w] <;> decide)
      have hpre : pre (wBn τ kc) (i + 1) = pre (wBn τ kc) i := by
        show pre (wBn τ kc) i + wBn τ kc i = _
        unfold wBn
        rw [if_pos hk2]
        rfl
      have sM : f_X12_keepBindings_L17 (N + 1) (nI p) (nI l) (nI lo) (nI i) μ = f_X12_keepBindings_L17 N (nI p) (nI l) (nI lo) (nI (i + 1)) (pB μ 9 (nI (base + (lo + i))) y) := by
        rw [stepM y (Or.inr ⟨hn3, p2⟩)]
        unfold f_X12_keepBindings_b63 f_X12_keepBindings_b82 f_X12_keepBindings_b115
        rw [if_pos p3.nn.1, if_pos p3.nn.1, e2, nI_plus, nI_plus, Nat.add_assoc, gdn (by omega) (by omega), nI_add1]
      have hih := ih (i + 1) N (pB σ 13 (nI (base + (lo + i))) x) (pB μ 9 (nI (base + (lo + i))) y) n tg ct (by omega) (by omega) (hP.fl (Fb.p _ _ _ _).lc) (hQ.fl (Fb.p _ _ _ _).lm) (by rw [hpre]; exact hnn) (hH.wv _ _ _ _) (hn.wv _ _ _ _) h0 (hE.w hidx p3 (fun z hz => Or.inl hz)) hSc (fun j hj => by
        by_cases hji : j = i
        · subst hji
          refine ⟨by rw [gB_s hidx, gB_s hidx]; exact p3, fun w => absurd hk2 w⟩
        · exact (hB j (by omega)).st (Gro.rf n tg ct) (gB_n hidx (by omega)) (gB_n hidx (by omega)) (fun _ _ => rfl))
      have sC := stepC (x := x) (τ1 := σ) (by rw [begin_a hP b7 hk3]; exact p1) (FkC.rf σ)
      rw [sC, sM]
      rcases hih with ⟨τ', ν, n', tg', ct', c1, c2, c3, c4, c5, c6, c7, c8, c9, c10, c11, c12, c13, c14⟩ | ⟨τ', ν, c1, c2, c3, c4, c5⟩
      · exact Or.inl ⟨τ', ν, n', tg', ct', c1, c2, c3, c4, c5, c6, c7, (Fb.p _ _ _ _).lc.tr c8, (Fb.p _ _ _ _).lm.tr c9, c10, c11, c12, fun j w => c13 j (by
          by_cases hj : j = base + (lo + i)
          · subst hj
            rw [gB_s hidx, gB_s hidx]
            exact p3
          · rw [gB_n hidx hj, gB_n hidx hj]
            exact w), c14⟩
      · exact Or.inr ⟨τ', ν, c1, c2, c3, (Fb.p _ _ _ _).lc.tr c4, (Fb.p _ _ _ _).lm.tr c5⟩
    · -- something is made
      have hmk3 : ¬ xA τ 13 (kc i) ≤ 3 ∨ (xA τ 13 (kc i) = 3 ∧ ¬ (1 : Int32) = 0) := by
        by_cases h3 : xA τ 13 (kc i) = 3
        · exact Or.inr ⟨h3, by decide⟩
        · refine Or.inl (fun w => ?_)
          clear stepC stepM ih hB hkid
          grind
      have hu : (xA τ 13 (kc i) = 3 ∧ (-1 : Int64) = -1) ∨ (¬ xA τ 13 (kc i) = 3 ∧ f_X12_plain (nI (kp i)) μ = some (-1, μ)) := by
        by_cases h3 : xA τ 13 (kc i) = 3
        · exact Or.inl ⟨h3, rfl⟩
        · refine Or.inr ⟨h3, (plain_gx hS hP hQ hE b5 (fun w => absurd w h3)).2 ?_⟩
          rcases hmk3 with w | w
          · exact w
          · exact absurd w.1 h3
      have hpre : pre (wBn τ kc) (i + 1) = pre (wBn τ kc) i + 1 := by
        show pre (wBn τ kc) i + wBn τ kc i = _
        unfold wBn
        rw [if_neg hk2]
      obtain ⟨t', m, hsh, hmk⟩ := make_go hS hP hQ hH hn h0 e3 b5 (a2 := 1) hmk3
      rcases hmk with ⟨τ1, ν1, m1, m2, m3, m4, m5, m6, m7, m8, m9, m10, m11, m12, m13, m14⟩ | ⟨τ1, ν1, m1, m2, m3, m4, m5⟩
      · have hg1 := Gro.nw n tg ct t' m
        obtain ⟨gad, gpr⟩ := hg1.ad (Nat.le_refl n)
        have ht' : t' = 4 ∨ t' = 5 ∨ t' = 6 := by
          rcases hsh with ⟨w, -⟩ | ⟨w, -⟩ | ⟨w, -⟩
          · exact Or.inr (Or.inr w)
          · exact Or.inl w
          · exact Or.inr (Or.inl w)
        have hv : VL τ F pa (n + 1) (updN tg n t') (updN ct n m) (vv (nI t') (nI (adr tg ct n))) (vv 3 (nI n)) := Or.inr (Or.inr (Or.inr ⟨n, Nat.lt_succ_self n, by rw [updN_s]; exact ht', by rw [updN_s, gad], rfl⟩))
        have e50 : gI ν1 50 = nI base := by rw [m6.1 50 (by omega) (by omega) (by omega) (by omega) (by omega)]; exact e2
        have sM : f_X12_keepBindings_L17 (N + 1) (nI p) (nI l) (nI lo) (nI i) μ = f_X12_keepBindings_L17 N (nI p) (nI l) (nI lo) (nI (i + 1)) (pB ν1 9 (nI (base + (lo + i))) (vv 3 (nI n))) := by
          rw [stepM (-1) hu]
          unfold f_X12_keepBindings_b63 f_X12_keepBindings_b82 f_X12_keepBindings_b115
          rw [if_neg lg_m1.1, m2, bd_of, if_neg lg_m1.1, show f_X12_value 3 (nI n) ν1 = some (vv 3 (nI n), ν1) from rfl, bd_of, e50, nI_plus, nI_plus, Nat.add_assoc, gdn (by omega) (by omega), nI_add1]
        have hih := ih (i + 1) N (pB τ1 13 (nI (base + (lo + i))) (vv (nI t') (nI (adr tg ct n)))) (pB ν1 9 (nI (base + (lo + i))) (vv 3 (nI n))) (n + 1) (updN tg n t') (updN ct n m) (by omega) (by omega) ((hP.fk m5).fl (Fb.p _ _ _ _).lc) ((hQ.fk m6).fl (Fb.p _ _ _ _).lm) (by rw [hpre, hnn]; omega) ((m3.rd (fun c hc w => ⟨by omega, w⟩)).wv _ _ _ _) (m4.wv _ _ _ _) m9 ((hE.st hg1 m5 m6).w hidx hv (fun z hz => Or.inl hz)) hSc (fun j hj => by
          by_cases hji : j = i
          · subst hji
            refine ⟨by rw [gB_s hidx, gB_s hidx]; exact hv, fun _ => ?_⟩
            rw [← hnn, updN_s, updN_s, gB_s hidx, gB_s hidx, gad]
            exact ⟨Nat.lt_succ_self n, hsh, m13, rfl, rfl⟩
          · refine (hB j (by omega)).st hg1 ?_ ?_ m14
            · rw [gB_n hidx (by omega), m5.2.2.2.1 13 (by decide)]
            · rw [gB_n hidx (by omega), m6.2.2.2.1 9 (by decide)])
        rw [stepC m1 m5, sM]
        rcases hih with ⟨τ', ν, n', tg', ct', c1, c2, c3, c4, c5, c6, c7, c8, c9, c10, c11, c12, c13, c14⟩ | ⟨τ', ν, c1, c2, c3, c4, c5⟩
        · exact Or.inl ⟨τ', ν, n', tg', ct', c1, c2, c3, c4, hg1.tr c5, c6, c7, m5.l.tr ((Fb.p _ _ _ _).lc.tr c8), m6.l.tr ((Fb.p _ _ _ _).lm.tr c9), c10, c11, fun c hc => (c12 c (by omega)).trans (m14 c hc), fun j w => c13 j (by
            by_cases hj : j = base + (lo + i)
            · subst hj
              rw [gB_s hidx, gB_s hidx]
              exact hv
            · rw [gB_n hidx hj, gB_n hidx hj, m5.2.2.2.1 13 (by decide), m6.2.2.2.1 9 (by decide)]
              exact w.gr hg1), c14.trans m8⟩
        · exact Or.inr ⟨τ', ν, c1, c2, c3, m5.l.tr ((Fb.p _ _ _ _).lc.tr c4), m6.l.tr ((Fb.p _ _ _ _).lm.tr c5)⟩
      · have hov : ¬ xA τ1 40 0 = 0 := fun w => m3.2 (m3.1.1.1.symm.trans w)
        have e50 : gI ν1 50 = nI base := by rw [m5.1 50 (by omega) (by omega) (by omega) (by omega) (by omega)]; exact e2
        have sM : f_X12_keepBindings_L17 (N + 1) (nI p) (nI l) (nI lo) (nI i) μ = f_X12_keepBindings_L17 N (nI p) (nI l) (nI lo) (nI (i + 1)) (pB ν1 9 (nI (base + (lo + i))) (vv 3 (-1))) := by
          rw [stepM (-1) hu]
          unfold f_X12_keepBindings_b63 f_X12_keepBindings_b82 f_X12_keepBindings_b115
          rw [if_neg lg_m1.1, m2, bd_of, if_neg lg_m1.1, show f_X12_value 3 (-1) ν1 = some (vv 3 (-1), ν1) from rfl, bd_of, e50, nI_plus, nI_plus, Nat.add_assoc, gdn (by omega) (by omega), nI_add1]
        rw [stepC m1 m4, sM]
        refine Or.inr ⟨pB τ1 13 (nI (base + (lo + i))) 0, pB ν1 9 (nI (base + (lo + i))) (vv 3 (-1)), ?_, ?_, ov_wv m3 _ _ _ _, m4.l.tr (Fb.p _ _ _ _).lc, m5.l.tr (Fb.p _ _ _ _).lm⟩
        · exact w80_ov (σ := pB τ1 13 (nI (base + (lo + i))) 0) hov (by omega) _ _ _ N (by omega)
        · exact w17_ov (μ := pB ν1 9 (nI (base + (lo + i))) (vv 3 (-1))) m3.2 _ _ _ _ N (by omega)
