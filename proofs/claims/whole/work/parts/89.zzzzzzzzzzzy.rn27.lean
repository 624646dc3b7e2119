/-- a case's alternatives, on both sides -/
def CSb (τ μ0 : S5) (F T : Nat) (nv : Nat → Nat) (f : Nat) (c : Int32) (p l ct0 : Nat) (Sc : Nat → Prop) (aa : Nat → Int32) (jj ll kp : Nat → Nat) : Prop := (p < 7000 ∧ 1 ≤ l ∧ l ≤ 8 ∧ xA μ0 33 (nI p) = nI ct0 ∧ ct0 + l + 1 ≤ 14000 ∧ xA μ0 34 (nI p) = nI (l + 1)) ∧ ∀ i, i < l → (0 ≤ aa i ∧ aa i < 6200) ∧ xA τ 17 (aa i) = (if i + 1 < l then aa (i + 1) else -1) ∧ XAlt τ μ0 (aa i) (nI (ct0 + 1 + i)) (jj i) (ll i) ∧ ll i + jj i ≤ nv f ∧ ND τ μ0 F T nv f (xA τ 16 (aa i)) (kp i) (Sx Sc (ll i) (jj i)) ∧ hF τ (xA τ 16 (aa i)) < hF τ c ∧ kp i < 7000 ∧ xA μ0 39 (nI (ct0 + 1 + i)) = nI (kp i)
theorem case_un {τ μ0 : S5} {F k T : Nat} {pa nv : Nat → Nat} (hS : PSt τ μ0 F k T pa nv) {f : Nat} {c : Int32} {p : Nat} {Sc : Nat → Prop} (hN : ND τ μ0 F T nv f c p Sc) (hk : xA τ 13 c = 6) : ∃ (l ct0 bp : Nat) (aa : Nat → Int32) (jj ll kp : Nat → Nat) (b : Int32), CSb τ μ0 F T nv f c p l ct0 Sc aa jj ll kp ∧ (xA τ 16 c = b ∧ 0 ≤ b ∧ b < 6200 ∧ xA τ 17 b = aa 0) ∧ (ND τ μ0 F T nv f b bp Sc ∧ hF τ b < hF τ c ∧ bp < 7000) ∧ (xA μ0 31 (nI p) = 3 ∧ xA μ0 39 (nI ct0) = nI bp) ∧ (0 ≤ c ∧ c < 6200) := by
  obtain ⟨hfF, q, lo, hi, hx, hhi, h38⟩ := hN
  have hnv := (hS.2.2.2.2 f hfF).2.1.2.2.2
  obtain ⟨⟨u1, u2, uc, u3, u5, -⟩, um, h3⟩ := hx.un hnv
  rcases h3 with ⟨-, -, -, -, w⟩ | ⟨_, _, _, _, w, -⟩ | ⟨w1, -⟩ | ⟨w1, w2, l, ct0, aa, jj, ll, ⟨l1, l8⟩, x32, x17, xa, xalt, xl0, xlh, hxk⟩
  · exfalso
    rcases w with ⟨a, -⟩ | ⟨a, -⟩ | ⟨a, -⟩ | ⟨a, -⟩ | ⟨a, -⟩ <;> rw [a] at hk <;> exact absurd hk (by decide)
  · exfalso
    rcases w with ⟨a, -⟩ | ⟨a, -⟩ | ⟨a, -⟩ <;> rw [a] at hk <;> exact absurd hk (by decide)
  · rw [w1] at hk
    exact absurd hk (by decide)
  · have hmo := ll_mo (k := l) (ll := ll) (fun i hi' => by have := (xalt i hi').2; omega)
    obtain ⟨x33, x14, x34, pp, xk⟩ := XK.nd hfF hxk h38 (fun i hi' => by
      have := hmo l i (by omega) (by omega)
      omega) u2
    have kb := xk 0 (by omega)
    simp only [if_pos (show (0 : Nat) = 0 from rfl)] at kb
    refine ⟨l, ct0, pp 0, aa, jj, ll, fun i => pp (i + 1), xA τ 16 c, ⟨⟨u2, l1, l8, x33, by omega, x34⟩, fun i hi' => ?_⟩, ⟨rfl, kb.2.2.1.1, kb.2.2.1.2, x17⟩, ⟨kb.1, kb.2.1, kb.2.2.2.1⟩, ⟨w2, kb.2.2.2.2⟩, uc⟩
    have kj := xk (i + 1) (by omega)
    simp only [if_neg (show ¬ i + 1 = 0 by omega), Nat.add_sub_cancel] at kj
    obtain ⟨d1, d2, d3⟩ := xa i hi'
    have hm := hmo l (i + 1) (by omega) (by omega)
    have ha := (xalt i hi').2
    refine ⟨d1, d3, (xalt i hi').1, by omega, kj.1, kj.2.1, kj.2.2.2.1, ?_⟩
    rw [show ct0 + 1 + i = ct0 + (i + 1) by omega]
    exact kj.2.2.2.2
/-- an object's fields become variables, on both sides -/
theorem ff_go {τ μ0 : S5} {F T : Nat} {pa nv : Nat → Nat} {n : Nat} {tg ct : Nat → Nat} {a w : Int32} {p ct0 c x0 j k base kpi : Nat} (ha : 0 ≤ a ∧ a < 6200) (hw0 : 0 ≤ w) (hw : w < 30) (hw2 : xA τ 2 w = nI j) (h15 : xA τ 15 a = nI x0) (hp7 : p < 7000) (h33 : xA μ0 33 (nI p) = nI ct0) (hck : ct0 + k < 14000) (h43 : xA μ0 43 (nI (ct0 + k)) = nI j) (h42 : 0 < j → xA μ0 42 (nI (ct0 + k)) = nI x0) (h39 : xA μ0 39 (nI (ct0 + k)) = nI kpi) (hc : c < n) (htg : tg c = 4) (hcj : ct c = j) (hj : j ≤ 5) (hb : base + (x0 + j) ≤ 193000) : ∀ (r i N : Nat) (σ μ : S5), i + r = j → r < N → eqP τ σ → eqQ μ0 μ → HS τ μ0 F T pa nv σ μ n tg ct (fun _ => True) → gI σ 41 = nI base → gI μ 50 = nI base → base + (x0 + j) ≤ gN σ 3 → gN σ 3 < 2 ^ 31 → ∃ τ' ν, f_X3_fits_L115 N a w (nI (adr tg ct c)) (nI i) σ = some (1, τ') ∧ f_X12_choose_L182 N (nI p) (vv 3 (nI c)) (nI k) (nI (ct0 + k)) (nI i) μ = some ((), pI (pI ν 52 (nI kpi)) 53 0) ∧ Fb 13 σ τ' ∧ Fb 9 μ ν ∧ (∀ z, i ≤ z → z < j → VL τ F pa n tg ct (gB τ' 13 (base + (x0 + z))) (gB ν 9 (base + (x0 + z)))) ∧ ∀ q, VL τ F pa n tg ct (gB σ 13 q) (gB μ 9 q) → VL τ F pa n tg ct (gB τ' 13 q) (gB ν 9 q) := by
  intro r
  induction r with
  | zero =>
    intro i N σ μ hi hN hP hQ hH e1 e2 hg hg31
    obtain ⟨N, rfl⟩ : ∃ n, N = n + 1 := ⟨N - 1, by omega⟩
    obtain rfl : i = j := by omega
    refine ⟨σ, μ, ?_, ?_, Fb.rf 13 σ, Fb.rf 9 μ, fun z z1 z2 => by omega, fun _ v => v⟩
    · show f_X3_fits_B115 _ _ _ _ _ _ = _
      unfold f_X3_fits_B115
      rw [gd30 hw0 hw, hP.x 2 _ (by decide), hw2, if_pos (Int32.le_refl _)]
    · show f_X12_choose_B182 _ _ _ _ _ _ _ = _
      unfold f_X12_choose_B182 f_X12_child
      rw [gdn hck (by omega), hQ.x 43 _ (by decide), h43, if_pos (Int32.le_refl _), gdn hp7 (by omega), hQ.x 33 _ (by decide), h33, nI_plus, gdn hck (by omega), hQ.x 39 _ (by decide), h39, bd_of]
      rfl
  | succ r ih =>
    intro i N σ μ hi hN hP hQ hH e1 e2 hg hg31
    obtain ⟨N, rfl⟩ : ∃ n, N = n + 1 := ⟨N - 1, by omega⟩
    obtain ⟨⟨a1, a2, a3, a4, a5⟩, hcell⟩ := id hH
    have hge := adr_ge tg ct n
    have hsz := adr_mo tg ct hc
    have hszc : szc tg ct c = j + 1 := by
      have := ofs_sz tg ct c
      have ho : ofs tg c = 1 := by unfold ofs; rw [htg]; rfl
      omega
    have hpr := pre_mo' ct hc
    obtain ⟨⟨hbe, -⟩, -, hfl⟩ := hcell c hc
    have hv := hfl trivial (fun w => by omega) i (by omega)
    rw [show ofs tg c = 1 by unfold ofs; rw [htg]; rfl] at hv
    have hidx : base + (x0 + i) < 2 ^ 31 := by omega
    have hle : ¬ nI j ≤ nI i := fun w => by have := (nI_le31 (by omega) (by omega)).mp w; omega
    have e55 : xA μ 55 (nI c) = nI (pre ct c) := by rw [xA_n (by omega)]; exact hbe
    obtain ⟨τ', ν, b1, b2, b3, b4, b5, b6⟩ := ih (i + 1) N (pB σ 13 (nI (base + (x0 + i))) (gB σ 14 (adr tg ct c + 1 + i))) (pB μ 9 (nI (base + (x0 + i))) (gB μ 7 (pre ct c + i))) (by omega) (by omega) (hP.fl (Fb.p _ _ _ _).lc) (hQ.fl (Fb.p _ _ _ _).lm) (hH.wv _ _ _ _) e1 e2 hg hg31
    have hmono : ∀ q, VL τ F pa n tg ct (gB σ 13 q) (gB μ 9 q) → VL τ F pa n tg ct (gB (pB σ 13 (nI (base + (x0 + i))) (gB σ 14 (adr tg ct c + 1 + i))) 13 q) (gB (pB μ 9 (nI (base + (x0 + i))) (gB μ 7 (pre ct c + i))) 9 q) := by
      intro q hq
      by_cases e : q = base + (x0 + i)
      · subst e
        rw [gB_s hidx, gB_s hidx]
        exact hv
      · rw [gB_n hidx e, gB_n hidx e]
        exact hq
    refine ⟨τ', ν, ?_, ?_, (Fb.p _ _ _ _).tr b3, (Fb.p _ _ _ _).tr b4, fun z z1 z2 => ?_, fun q hq => b6 q (hmono q hq)⟩
    · show f_X3_fits_B115 _ _ _ _ _ _ = _
      unfold f_X3_fits_B115
      rw [gd30 hw0 hw, hP.x 2 _ (by decide), hw2, if_neg hle, gd6200 ha.1 ha.2, nI_add1, nI_plus, gdn (by omega) (by omega), e1, hP.x 15 _ (by decide), h15, nI_plus, nI_plus, Nat.add_assoc base, gdn (by omega) hg31, nI_add1, xB_n (by omega)]
      exact b1
    · show f_X12_choose_B182 _ _ _ _ _ _ _ = _
      unfold f_X12_choose_B182
      rw [gdn hck (by omega), hQ.x 43 _ (by decide), h43, if_neg hle, gdn hck (by omega), show f_X12_of (vv 3 (nI c)) μ = some ((vv 3 (nI c)).toInt32, μ) from rfl, vv_of, bd_of, gdn (by omega) (by omega), e55, nI_plus, gdn (by omega) (by omega), e2, hQ.x 42 _ (by decide), h42 (by omega), nI_plus, nI_plus, Nat.add_assoc base, gdn (by omega) (by omega), nI_add1, xB_n (by omega)]
      exact b2
    · by_cases hz : z = i
      · subst hz
        exact b6 _ (by rw [gB_s hidx, gB_s hidx]; exact hv)
      · exact b5 z (by omega) z2
