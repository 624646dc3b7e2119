theorem plain_s {p : Int32} {μ ν : S5} {v : Int64} (h : f_X12_plain p μ = some (v, ν)) : ν = μ := by
  unfold f_X12_plain f_X12_value bd gd at h
  repeat' split at h
  all_goals first | (cases h; rfl) | (cases h; rename_i w; cases w; rfl) | (cases h; done)
theorem PTk.w {τ μ0 : S5} {F T : Nat} {nv D : Nat → Nat} {μ : S5} {n ft t B : Nat} (h : PTk τ μ0 F T nv D μ n ft t B) (i : Int32) (v : Int64) : PTk τ μ0 F T nv D (pB μ 7 i v) n ft t B := h.st (h.1.fk (Fb.p _ _ _ _).km) (fun _ _ _ => rfl) rfl rfl rfl
theorem PTk.z {τ μ0 : S5} {F T : Nat} {nv D : Nat → Nat} {μ : S5} {n ft t B : Nat} (h : PTk τ μ0 F T nv D μ n ft t B) : PTk τ μ0 F T nv D μ n ft 0 B := by
  obtain ⟨a1, ⟨N, b1, b2, b3, b4, b5, b6⟩, a4, a5⟩ := h
  exact ⟨a1, ⟨N, b1, b2, b3, b4, b5, Nat.zero_le _⟩, fun j hj => absurd hj (Nat.not_lt_zero j), by show _ + 0 ≤ B; omega⟩
theorem PTk.i {τ μ0 : S5} {F T : Nat} {nv D : Nat → Nat} {μ : S5} {n ft t B : Nat} (h : PTk τ μ0 F T nv D μ n ft t B) (v : Int32) : PTk τ μ0 F T nv D (pI μ 54 v) n ft t B := h.st (h.1.fk (FkM.t _)) (fun j a b => by rw [gI_pI, if_neg (by omega)]) rfl rfl rfl
/-- all tasks are done: what that costs -/
theorem dt_pt {τ μ0 : S5} {F k T : Nat} {pa nv D : Nat → Nat} (hS : PSt τ μ0 F k T pa nv) (hD : DS0 τ μ0 F T nv D) : ∀ (N : Nat) (μ ν : S5) (n ft t B : Nat), f_X12_doTasks_L0 N μ = some ((), ν) → PTk τ μ0 F T nv D μ n ft t B → gI μ 54 = nI t → ∃ n' ft', n ≤ n' ∧ ft ≤ ft' ∧ PTk τ μ0 F T nv D ν n' ft' 0 B ∧ OCs n μ ν
  | 0, _, _, _, _, _, _, h, _, _ => by cases h
  | N + 1, μ, ν, n, ft, t, B, h, hk, h54 => by
    have h' : f_X12_doTasks_B0 (f_X12_doTasks_L0 N) μ = some ((), ν) := h
    unfold f_X12_doTasks_B0 at h'
    by_cases e1 : gI μ 54 ≤ 0
    · rw [if_pos e1] at h'
      cases h'
      exact ⟨n, ft, Nat.le_refl _, Nat.le_refl _, hk.z, OCs.rf n μ⟩
    · rw [if_neg e1] at h'
      by_cases e2 : gI μ 44 = 0
      · rw [if_pos e2] at h'
        have h2 := (gd_some (gd_some h').2).2
        clear h' h
        obtain ⟨hQ, ⟨N', b1, b2, b3, b4, b5, b6⟩, a4, a5⟩ := id hk
        obtain ⟨t', rfl⟩ : ∃ t', t = t' + 1 := ⟨t - 1, by
          rcases Nat.eq_zero_or_pos t with w | w
          · rw [h54, w] at e1
            exact absurd (by decide) e1
          · omega⟩
        have e3 : gI μ 54 - 1 = nI t' := by
          rw [h54, show (1 : Int32) = nI 1 from rfl, nI_sub (by omega)]
          rfl
        obtain ⟨p, p1, p2⟩ := a4 t' (by omega)
        have hp7 := p2.1
        rw [e3, xA_n (by omega), p1] at h2
        have hB : D p ≤ B ∧ pre (spC D μ) n + pre (fun j => D (gA μ 62 j).toNatClampNeg) t' ≤ B - D p := by
          have : pre (fun j => D (gA μ 62 j).toNatClampNeg) (t' + 1) = pre (fun j => D (gA μ 62 j).toNatClampNeg) t' + D p := by
            show _ + D (gA μ 62 t').toNatClampNeg = _
            rw [p1, nI_clamp (by omega)]
          rw [this] at a5
          omega
        have hk1 : PTk τ μ0 F T nv D (pI μ 54 (nI t')) n ft t' (B - D p) := PTk.i ⟨hQ, ⟨N', b1, b2, b3, b4, b5, by omega⟩, fun j hj => a4 j (by omega), hB.2⟩ (nI t')
        obtain ⟨v, τ1, w1, w2⟩ := bd_some h2
        have := plain_s w1
        subst this
        by_cases e4 : 0 ≤ lg_cmp v 0
        · rw [if_pos e4] at w2
          unfold f_X12_doTasks_b82 at w2
          obtain ⟨n', ft', c1, c2, c3, c4⟩ := dt_pt hS hD N _ ν n ft t' (B - D p) (gd_some w2).2 (hk1.w _ _) rfl
          exact ⟨n', ft', c1, c2, c3.le (Nat.sub_le _ _), c4⟩
        · rw [if_neg e4] at w2
          obtain ⟨r, τ2, x1, x2⟩ := bd_some w2
          rcases mk_pt hS hk1 p2 x1 with ⟨y1, y2, y3, y8, -⟩ | ⟨y1, y2, y0, m, y3, y4, y5, y6, y7⟩
          · rw [y1, if_pos (by decide)] at x2
            unfold f_X12_doTasks_b82 at x2
            obtain ⟨n', ft', c1, c2, c3, c4⟩ := dt_pt hS hD N _ ν n ft t' (B - D p) (gd_some x2).2 (y2.w _ _) y8
            exact ⟨n', ft', c1, c2, c3.le (Nat.sub_le _ _), OCs.tr y3 c4 (Nat.le_refl _)⟩
          · rw [y1, if_neg (nI_nneg (by omega))] at x2
            obtain ⟨v2, τ3, z1, z2⟩ := bd_some x2
            cases z1
            obtain ⟨⟨⟩, τ4, z3, z4⟩ := bd_some z2
            obtain ⟨t2, q1, q2, q3⟩ := fl_pt hD y5 y0 p2 (Nat.lt_succ_self n) y7 (fun m' hm' hm40 => by
              have : m' = m := nI_injL (by omega) (by omega) (hm'.symm.trans y4)
              omega) z3
            unfold f_X12_doTasks_b82 at z4
            have hab := dAB D τ2 p n
            obtain ⟨n', ft', c1, c2, c3, c4⟩ := dt_pt hS hD N _ ν (n + 1) (ft + m) t2 _ (gd_some z4).2 (q1.w _ _) q3
            refine ⟨n', ft', by omega, by omega, c3.le (by omega), OCs.tr (OCs.tr y6 q2 (Nat.le_succ n)) c4 (Nat.le_succ n)⟩
      · rw [if_neg e2] at h'
        cases h'
        exact ⟨n, ft, Nat.le_refl _, Nat.le_refl _, hk.z, OCs.rf n μ⟩
