/-- A CASE GOES ON with the first alternative that fits, or both end -/
theorem ch_go {τ μ0 : S5} {F k T : Nat} {pa nv : Nat → Nat} (hS : PSt τ μ0 F k T pa nv) {σ μ : S5} (hP : eqP τ σ) (hQ : eqQ μ0 μ) {n : Nat} {tg ct : Nat → Nat} (hH : HS τ μ0 F T pa nv σ μ n tg ct (fun _ => True)) (hn : NR σ μ) (h0 : gI μ 44 = 0) {f base : Nat} {Sc : Nat → Prop} (hE : EV τ F k pa nv σ μ n tg ct f base Sc) {c : Int32} {p l ct0 : Nat} {aa : Nat → Int32} {jj ll kp : Nat → Nat} (hC : CSb τ μ0 F T nv f c p l ct0 Sc aa jj ll kp) {x y : Int64} (hx : gJ σ 5 = x) (v : VL τ F pa n tg ct x y) : (∃ (i : Nat) (τ' ν : S5), i < l ∧ f_X3_choose (aa 0) σ = some ((), pI (pI τ' 44 (xA τ 16 (aa i))) 45 1) ∧ f_X12_choose (nI p) y μ = some ((), pI (pI ν 52 (nI (kp i))) 53 0) ∧ Fb 13 σ τ' ∧ Fb 9 μ ν ∧ EV τ F k pa nv τ' ν n tg ct f base (Sx Sc (ll i) (jj i)) ∧ ∀ q, VL τ F pa n tg ct (gB σ 13 q) (gB μ 9 q) → VL τ F pa n tg ct (gB τ' 13 q) (gB ν 9 q)) ∨ (∃ τ' ν, f_X3_choose (aa 0) σ = some ((), τ') ∧ f_X12_choose (nI p) y μ = some ((), ν) ∧ OV τ' ν ∧ FkC σ τ' ∧ FkM μ ν) := by
  have hbF := FU_big (n := 5000) (by decide)
  have hC' := hC
  obtain ⟨⟨hp7, l1, l8, h33, hct, h34⟩, hal⟩ := hC'
  have key : ∀ (r i N : Nat), i + r = l → r < N → (∃ (i' : Nat) (τ' ν : S5), i' < l ∧ f_X3_choose_L4 N (nI i) (if i < l then aa i else -1) σ = some ((), pI (pI τ' 44 (xA τ 16 (aa i'))) 45 1) ∧ f_X12_choose_L3 N (nI p) y (nI (i + 1)) μ = some ((), pI (pI ν 52 (nI (kp i'))) 53 0) ∧ Fb 13 σ τ' ∧ Fb 9 μ ν ∧ EV τ F k pa nv τ' ν n tg ct f base (Sx Sc (ll i') (jj i')) ∧ ∀ q, VL τ F pa n tg ct (gB σ 13 q) (gB μ 9 q) → VL τ F pa n tg ct (gB τ' 13 q) (gB ν 9 q)) ∨ (∃ τ' ν, f_X3_choose_L4 N (nI i) (if i < l then aa i else -1) σ = some ((), τ') ∧ f_X12_choose_L3 N (nI p) y (nI (i + 1)) μ = some ((), ν) ∧ OV τ' ν ∧ FkC σ τ' ∧ FkM μ ν) := by
    intro r
    induction r with
    | zero =>
      intro i N hi hN
      obtain ⟨N, rfl⟩ : ∃ n, N = n + 1 := ⟨N - 1, by omega⟩
      obtain rfl : i = l := by omega
      obtain ⟨τ', ν, c1, c2, c3, c4, c5, -, -⟩ := end_go hn h0 2 1 (by decide)
      refine Or.inr ⟨τ', ν, ?_, ?_, c3, c4, c5⟩
      · show f_X3_choose_B4 _ _ _ _ = _
        unfold f_X3_choose_B4 f_X3_choose_b53
        rw [if_neg (n10 (by omega)), if_neg (Nat.lt_irrefl i), if_pos rfl, c1, bd_of]
      · show f_X12_choose_B3 _ _ _ _ _ = _
        unfold f_X12_choose_B3
        rw [gdn hp7 (by omega), hQ.x 34 _ (by decide), h34, if_pos (Int32.le_refl _), c2, bd_of]
    | succ r ih =>
      intro i N hi hN
      obtain ⟨N, rfl⟩ : ∃ n, N = n + 1 := ⟨N - 1, by omega⟩
      obtain ⟨b1, b2, -⟩ := hal i (by omega)
      rcases fit_go hS hP hQ hH hE hC hx v (show i < l by omega) with ⟨f1, f2⟩ | ⟨τ', ν, f1, f2, f3, f4, f5, f6⟩
      · have sC : f_X3_choose_L4 (N + 1) (nI i) (if i < l then aa i else -1) σ = f_X3_choose_L4 N (nI (i + 1)) (if i + 1 < l then aa (i + 1) else -1) σ := by
          show f_X3_choose_B4 _ _ _ _ = _
          unfold f_X3_choose_B4
          rw [if_neg (n10 (by omega)), if_pos (show i < l by omega), if_neg (nneg1 b1.1), f1, bd_of, if_pos rfl, gd6200 b1.1 b1.2, nI_add1, hP.x 17 _ (by decide), b2]
        rw [sC, f2 N]
        exact ih (i + 1) N (by omega) (by omega)
      · refine Or.inl ⟨i, τ', ν, by omega, ?_, f2 N, f3, f4, f5, f6⟩
        show f_X3_choose_B4 _ _ _ _ = _
        unfold f_X3_choose_B4
        rw [if_neg (n10 (by omega)), if_pos (show i < l by omega), if_neg (nneg1 b1.1), f1, bd_of, if_neg (by decide), gd6200 b1.1 b1.2, (hP.fl f3.lc).x 16 _ (by decide)]
        rfl
  have h := key l 0 FU (by omega) (by omega)
  rw [if_pos (show 0 < l by omega)] at h
  exact h
