theorem PTk.w9 {τ μ0 : S5} {F T : Nat} {nv D : Nat → Nat} {μ : S5} {n ft t B : Nat} (h : PTk τ μ0 F T nv D μ n ft t B) (i : Int32) (v : Int64) : PTk τ μ0 F T nv D (pB μ 9 i v) n ft t B := h.st ⟨h.1.1, h.1.2.1, fun j hj => (gB_pB_ne (by omega)).trans (h.1.2.2 j hj)⟩ (fun _ _ _ => rfl) rfl rfl rfl
theorem KBm.w {τ μ0 : S5} {F T : Nat} {nv D z z' : Nat → Nat} {μ : S5} {n ft b lo p i j : Nat} {v : Int64} (h : KBm τ μ0 F T nv D z μ n ft b lo p i) (hij : ¬ i = j) (hb : b + lo + j < 2 ^ 31) (hz : z' i = z i) : KBm τ μ0 F T nv D z' (pB μ 9 (nI (b + lo + j)) v) n ft b lo p i := fun w => by
  obtain ⟨c, c1, c2, c3, c4⟩ := h w
  exact ⟨c, c1, by rw [gB_n hb (by omega)]; exact c2, c3, by rw [hz]; exact c4⟩
/-- the first time round -/
theorem kb1 {τ μ0 : S5} {F k T : Nat} {pa nv D : Nat → Nat} (hS : PSt τ μ0 F k T pa nv) (hD : DS0 τ μ0 F T nv D) {p l ct0 lo b : Nat} (hb : KBi τ μ0 F T nv D p l ct0) (hl : l ≤ 5) (hbl : b + lo + 5 < 2 ^ 30) {B0 : Nat} : ∀ (N j : Nat) (μ ν : S5) (n ft B : Nat) (z : Nat → Nat), f_X12_keepBindings_L17 N (nI p) (nI l) (nI lo) (nI j) μ = some ((), ν) → j ≤ l → gI μ 50 = nI b → PTk τ μ0 F T nv D μ n ft 0 B → (gI μ 44 = 0 → ∀ i, i < j → KBm τ μ0 F T nv D z μ n ft b lo p i) → B + pre z j ≤ B0 + pre (fun i => D (chN μ0 p i)) j → ∃ n' ft', n ≤ n' ∧ ft ≤ ft' ∧ PTk τ μ0 F T nv D ν n' ft' 0 (B0 + pre (fun i => D (chN μ0 p i)) l)
  | 0, _, _, _, _, _, _, _, h, _, _, _, _, _ => by cases h
  | N + 1, j, μ, ν, n, ft, B, z, h, hj, h50, hk, hm, hB => by
    have h' : f_X12_keepBindings_B17 (f_X12_keepBindings_L17 N) (nI p) (nI l) (nI lo) (nI j) μ = some ((), ν) := h
    unfold f_X12_keepBindings_B17 at h'
    have hmo : pre (fun i => D (chN μ0 p i)) j ≤ pre (fun i => D (chN μ0 p i)) l := by
      have := pre_mono (w := fun i => D (chN μ0 p i)) (l - j) j
      rw [show j + (l - j) = l by omega] at this
      exact this
    by_cases e1 : nI l ≤ nI j
    · rw [if_pos e1] at h'
      have hjl : j = l := by
        have := (nI_le31 (a := l) (b := j) (by omega) (by omega)).mp e1
        omega
      subst hjl
      unfold f_X12_keepBindings_b122 at h'
      obtain ⟨n', ft', c1, c2, c3⟩ := kb2 hS hD hb hl hbl FU 0 μ ν n ft B h' (Nat.zero_le _) h50 hk (fun w i _ i2 => hm w i i2)
      refine ⟨n', ft', c1, c2, c3.le ?_⟩
      rw [show (fun i => z (0 + i)) = z from funext (fun i => by rw [Nat.zero_add]), Nat.sub_zero]
      exact hB
    · rw [if_neg e1] at h'
      have hjl : j < l := by
        by_cases w : j < l
        · exact w
        · exact absurd ((nI_le31 (a := l) (b := j) (by omega) (by omega)).mpr (by omega)) e1
      by_cases e2 : gI μ 44 = 0
      · rw [if_pos e2] at h'
        obtain ⟨hg, -⟩ := hb.2.2.2 j hjl
        have hq7 := hg.1
        rw [ch_k hb hk.1 hjl, bd_of] at h'
        have h2 := (gd_some h').2
        clear h' h
        have hpz : ∀ y, pre (updN z j y) (j + 1) = pre z j + y := fun y => by
          show pre (updN z j y) j + updN z j y j = _
          rw [updN_s]
          congr 1
          exact pre_cg j (fun i hi => updN_n (by omega))
        have hpd : pre (fun i => D (chN μ0 p i)) (j + 1) = pre (fun i => D (chN μ0 p i)) j + D (chN μ0 p j) := rfl
        have mad : ∀ v, ¬ 0 ≤ lg_cmp v 0 → ∀ r, r = μ → f_X12_keepBindings_b63 (f_X12_keepBindings_L17 N) (nI p) (nI l) (nI lo) (nI j) (nI (chN μ0 p j)) v r = some ((), ν) → ∃ n' ft', n ≤ n' ∧ ft ≤ ft' ∧ PTk τ μ0 F T nv D ν n' ft' 0 (B0 + pre (fun i => D (chN μ0 p i)) l) := by
          intro v hv r hrr hr
          subst hrr
          unfold f_X12_keepBindings_b63 f_X12_keepBindings_b82 f_X12_keepBindings_b115 at hr
          rw [if_neg hv] at hr
          obtain ⟨rr, τ2, x1, x2⟩ := bd_some hr
          rw [if_neg hv] at x2
          obtain ⟨v2, τ3, x3, x4⟩ := bd_some x2
          unfold f_X12_value at x3
          cases x3
          have x5 := (gd_some x4).2
          rcases mk_pt hS hk hg x1 with ⟨y1, y2, y3, y8, y9⟩ | ⟨y1, y2, y0, m, y3, y4, y5, y6, y7⟩
          · rw [nI_add1, y3.2.2, h50, nI_plus, nI_plus] at x5
            obtain ⟨n', ft', c1, c2, c3⟩ := kb1 (B0 := B0) hS hD hb hl hbl N (j + 1) _ ν n ft B (updN z j 0) x5 (by omega) (y3.2.2.trans h50) (y2.w9 _ _) (fun w => absurd w y9) (by rw [hpz, hpd]; omega)
            exact ⟨n', ft', c1, c2, c3⟩
          · rw [nI_add1, y6.2.2, h50, nI_plus, nI_plus, y1] at x5
            have hab := dAB D τ2 (chN μ0 p j) n
            obtain ⟨n', ft', c1, c2, c3⟩ := kb1 (B0 := B0) hS hD hb hl hbl N (j + 1) _ ν (n + 1) (ft + m) (B + dA D τ2 (chN μ0 p j) n) (updN z j (dB D τ2 (chN μ0 p j) n)) x5 (by omega) (y6.2.2.trans h50) (y5.w9 _ _) (fun w i hi => by
              by_cases hij : i = j
              · subst hij
                intro _
                exact ⟨n, Nat.lt_succ_self n, gB_s (by omega), y7, by rw [updN_s]; exact Nat.le_refl _⟩
              · exact ((hm e2 i (by omega)).st y6 (Nat.le_succ n) (Nat.le_add_right _ _) rfl).w hij (by omega) (updN_n hij)) (by rw [hpz, hpd]; omega)
            exact ⟨n', ft', by omega, by omega, c3⟩
        by_cases e3 : xA μ 31 (nI (chN μ0 p j)) = 13
        · rw [if_pos e3] at h2
          exact mad (-1) lg_m1.1 μ rfl h2
        · rw [if_neg e3] at h2
          obtain ⟨v1, τ1, x1, x2⟩ := bd_some h2
          have := plain_s x1
          subst this
          by_cases e4 : 0 ≤ lg_cmp v1 0
          · unfold f_X12_keepBindings_b63 f_X12_keepBindings_b82 f_X12_keepBindings_b115 at x2
            rw [if_pos e4, if_pos e4] at x2
            have x5 := (gd_some x2).2
            rw [nI_add1, h50, nI_plus, nI_plus] at x5
            obtain ⟨n', ft', c1, c2, c3⟩ := kb1 (B0 := B0) hS hD hb hl hbl N (j + 1) _ ν n ft B (updN z j 0) x5 (by omega) h50 (hk.w9 _ _) (fun w i hi => by
              by_cases hij : i = j
              · subst hij
                intro hmd
                exfalso
                refine absurd e4 ?_
                have hv := (plain_at hq7 x1).1 (fun w => hmd (Or.inl (by rw [← hk.1.x 31 _ (by decide)]; exact w))) (fun w => hmd (Or.inr (Or.inl (by rw [← hk.1.x 31 _ (by decide)]; exact w)))) (fun w => hmd (Or.inr (Or.inr (by rw [← hk.1.x 31 _ (by decide)]; exact w)))) e3
                rw [hv]
                exact lg_m1.1
              · exact (hm e2 i (by omega)).w hij (by omega) (updN_n hij)) (by rw [hpz, hpd]; omega)
            exact ⟨n', ft', c1, c2, c3⟩
          · exact mad v1 e4 _ rfl x2
      · rw [if_neg e2] at h'
        unfold f_X12_keepBindings_b122 at h'
        obtain ⟨n', ft', c1, c2, c3⟩ := kb2 (z := fun _ => 0) hS hD hb hl hbl FU 0 μ ν n ft B h' (Nat.zero_le _) h50 hk (fun w => absurd w e2)
        refine ⟨n', ft', c1, c2, c3.le ?_⟩
        have : pre (fun _ : Nat => 0) (l - 0) = 0 := by
          have := pre_z (w := fun _ : Nat => 0) (a := 0) (l - 0) (fun _ _ _ => rfl)
          rw [Nat.zero_add] at this
          exact this
        rw [this]
        omega
/-- what keeping a let's bindings costs -/
theorem kb_pt {τ μ0 : S5} {F k T : Nat} {pa nv D : Nat → Nat} (hS : PSt τ μ0 F k T pa nv) (hD : DS0 τ μ0 F T nv D) {p l ct0 lo b : Nat} (hb : KBi τ μ0 F T nv D p l ct0) (hl : l ≤ 5) (hbl : b + lo + 5 < 2 ^ 30) (h32 : xA μ0 32 (nI p) = nI l) (h35 : xA μ0 35 (nI p) = nI lo) {μ ν : S5} {n ft B : Nat} (h : f_X12_keepBindings (nI p) μ = some ((), ν)) (h50 : gI μ 50 = nI b) (hk : PTk τ μ0 F T nv D μ n ft 0 B) : ∃ n' ft', n ≤ n' ∧ ft ≤ ft' ∧ PTk τ μ0 F T nv D ν n' ft' 0 (B + pre (fun i => D (chN μ0 p i)) l) := by
  unfold f_X12_keepBindings at h
  have h2 := (gd_some (gd_some h).2).2
  rw [hk.1.x 32 _ (by decide), h32, hk.1.x 35 _ (by decide), h35] at h2
  exact kb1 hS hD hb hl hbl FU 0 μ ν n ft B (fun _ => 0) h2 (Nat.zero_le _) h50 hk (fun _ i hi => absurd hi (Nat.not_lt_zero i)) (Nat.le_refl _)
