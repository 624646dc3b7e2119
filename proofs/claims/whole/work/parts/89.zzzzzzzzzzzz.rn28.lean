/-- is the value an object of this constructor? (the other's first question) -/
theorem b3_go {τ μ0 : S5} {F T : Nat} {pa nv : Nat → Nat} {σ μ : S5} {n : Nat} {tg ct : Nat → Nat} {Rd : Nat → Prop} (hQ : eqQ μ0 μ) (hH : HS τ μ0 F T pa nv σ μ n tg ct Rd) {x y : Int64} (v : VL τ F pa n tg ct x y) {p ct0 k l : Nat} (hp7 : p < 7000) (h33 : xA μ0 33 (nI p) = nI ct0) (h34 : xA μ0 34 (nI p) = nI (l + 1)) (hk : k < l + 1) (hl : l ≤ 8) (hck : ct0 + k < 14000) {w : Nat} (h41 : xA μ0 41 (nI (ct0 + k)) = nI w ∨ ∀ c, c < n → tg c = 4 → ¬ gA μ 54 c = xA μ0 41 (nI (ct0 + k)) ∨ True) : ∃ u : Nat, (u = 0 ∨ u = 1) ∧ (∀ N, f_X12_choose_L3 (N + 1) (nI p) y (nI k) μ = f_X12_choose_b69 (f_X12_choose_L3 N) (nI p) y (nI k) (nI (ct0 + k)) (nI u) μ) ∧ (u = 1 ↔ ∃ c, c < n ∧ tg c = 4 ∧ y = vv 3 (nI c) ∧ gA μ 54 c = xA μ0 41 (nI (ct0 + k))) := by
  obtain ⟨⟨a1, a2, a3, a4, a5⟩, hcell⟩ := id hH
  have hge := (adr_ge tg ct n).1
  have hle : ¬ nI (l + 1) ≤ nI k := fun w => by have := (nI_le31 (by omega) (by omega)).mp w; omega
  have base : ∀ N, f_X12_choose_L3 (N + 1) (nI p) y (nI k) μ = (if (j_lshr y 32).toInt32 = 3 then (gd y.toInt32 4100 <| if (xA μ 53 y.toInt32) = 0 then (gd y.toInt32 4100 <| gd (nI (ct0 + k)) 14000 <| if (xA μ 54 y.toInt32) = (xA μ0 41 (nI (ct0 + k))) then f_X12_choose_b69 (f_X12_choose_L3 N) (nI p) y (nI k) (nI (ct0 + k)) 1 μ else f_X12_choose_b69 (f_X12_choose_L3 N) (nI p) y (nI k) (nI (ct0 + k)) 0 μ) else f_X12_choose_b69 (f_X12_choose_L3 N) (nI p) y (nI k) (nI (ct0 + k)) 0 μ) else f_X12_choose_b69 (f_X12_choose_L3 N) (nI p) y (nI k) (nI (ct0 + k)) 0 μ) := by
    intro N
    show f_X12_choose_B3 _ _ _ _ _ = _
    unfold f_X12_choose_B3 f_X12_choose_b68
    rw [gdn hp7 (by omega), hQ.x 34 _ (by decide), h34, if_neg hle, gdn hp7 (by omega), show f_X12_kindOf y μ = some ((j_lshr y 32).toInt32, μ) from rfl, bd_of, show f_X12_of y μ = some (y.toInt32, μ) from rfl, bd_of, show f_X12_of y μ = some (y.toInt32, μ) from rfl, bd_of, hQ.x 33 _ (by decide), h33, nI_plus, hQ.x 41 _ (by decide)]
  have no : (j_lshr y 32).toInt32 = 3 → ∃ c, c < n ∧ y = vv 3 (nI c) ∧ (tg c = 4 ∨ tg c = 5 ∨ tg c = 6) := by
    intro h3
    rcases v with ⟨i, -, rfl⟩ | ⟨g, -, -, -, rfl⟩ | ⟨k', -, -, -, -, rfl⟩ | ⟨c, c1, c2, -, rfl⟩
    · rw [vv_kd] at h3; exact absurd h3 (by decide)
    · rw [vv_kd] at h3; exact absurd h3 (by decide)
    · rw [vv_kd] at h3; exact absurd h3 (by decide)
    · exact ⟨c, c1, rfl, c2⟩
  by_cases h3 : (j_lshr y 32).toInt32 = 3
  · obtain ⟨c, c1, c2, c3⟩ := no h3
    have hof : y.toInt32 = nI c := by rw [c2, vv_of]
    have uq : ∀ c', c' < n → y = vv 3 (nI c') → c' = c := fun c' hc' he => by
      have := (vv_inj (c2.symm.trans he)).2
      exact (nI_injL (by omega) (by omega) this).symm
    obtain ⟨-, hb3, -⟩ := hcell c c1
    by_cases h4 : tg c = 4
    · have e53 : xA μ 53 (nI c) = 0 := by
        rw [xA_n (by omega)]
        rcases hb3 with ⟨-, z, -⟩ | ⟨z, -⟩ | ⟨z, -⟩
        · exact z
        · omega
        · omega
      by_cases h54 : gA μ 54 c = xA μ0 41 (nI (ct0 + k))
      · refine ⟨1, Or.inr rfl, fun N => ?_, ⟨fun _ => ⟨c, c1, h4, c2, h54⟩, fun _ => rfl⟩⟩
        rw [base N, if_pos h3, hof, gdn (by omega) (by omega), e53, if_pos rfl, gdn (by omega) (by omega), gdn hck (by omega), xA_n (by omega), if_pos h54]
        rfl
      · refine ⟨0, Or.inl rfl, fun N => ?_, ⟨fun w => by omega, fun ⟨c', d1, d2, d3, d4⟩ => ?_⟩⟩
        · rw [base N, if_pos h3, hof, gdn (by omega) (by omega), e53, if_pos rfl, gdn (by omega) (by omega), gdn hck (by omega), xA_n (by omega), if_neg h54]
          rfl
        · rw [uq c' d1 d3] at d4
          exact absurd d4 h54
    · have e53 : ¬ xA μ 53 (nI c) = 0 := by
        rw [xA_n (by omega)]
        rcases hb3 with ⟨z, -⟩ | ⟨-, z, -⟩ | ⟨-, z⟩
        · exact absurd z h4
        · rw [z]; decide
        · rcases z with ⟨z, -⟩ | ⟨z, -⟩ | ⟨z, -⟩ <;> rw [z] <;> decide
      refine ⟨0, Or.inl rfl, fun N => ?_, ⟨fun w => by omega, fun ⟨c', d1, d2, d3, d4⟩ => ?_⟩⟩
      · rw [base N, if_pos h3, hof, gdn (by omega) (by omega), if_neg e53]
        rfl
      · rw [uq c' d1 d3] at d2
        exact absurd d2 h4
  · refine ⟨0, Or.inl rfl, fun N => ?_, ⟨fun w => by omega, fun ⟨c', d1, d2, d3, d4⟩ => ?_⟩⟩
    · rw [base N, if_neg h3]
      rfl
    · rw [d3, vv_kd] at h3
      exact absurd rfl h3
/-- does an alternative fit? both say the same, and what it binds is bound -/
theorem fit_go {τ μ0 : S5} {F k T : Nat} {pa nv : Nat → Nat} (hS : PSt τ μ0 F k T pa nv) {σ μ : S5} (hP : eqP τ σ) (hQ : eqQ μ0 μ) {n : Nat} {tg ct : Nat → Nat} (hH : HS τ μ0 F T pa nv σ μ n tg ct (fun _ => True)) {f base : Nat} {Sc : Nat → Prop} (hE : EV τ F k pa nv σ μ n tg ct f base Sc) {c : Int32} {p l ct0 : Nat} {aa : Nat → Int32} {jj ll kp : Nat → Nat} (hC : CSb τ μ0 F T nv f c p l ct0 Sc aa jj ll kp) {x y : Int64} (hx : gJ σ 5 = x) (v : VL τ F pa n tg ct x y) {i : Nat} (hi : i < l) : (f_X3_fits (aa i) σ = some (0, σ) ∧ ∀ N, f_X12_choose_L3 (N + 1) (nI p) y (nI (i + 1)) μ = f_X12_choose_L3 N (nI p) y (nI (i + 1 + 1)) μ) ∨ (∃ τ' ν, f_X3_fits (aa i) σ = some (1, τ') ∧ (∀ N, f_X12_choose_L3 (N + 1) (nI p) y (nI (i + 1)) μ = some ((), pI (pI ν 52 (nI (kp i))) 53 0)) ∧ Fb 13 σ τ' ∧ Fb 9 μ ν ∧ EV τ F k pa nv τ' ν n tg ct f base (Sx Sc (ll i) (jj i)) ∧ ∀ q, VL τ F pa n tg ct (gB σ 13 q) (gB μ 9 q) → VL τ F pa n tg ct (gB τ' 13 q) (gB ν 9 q)) := by
  have hbF := FU_big (n := 5000) (by decide)
  obtain ⟨⟨hp7, l1, l8, h33, hct, h34⟩, hal⟩ := hC
  obtain ⟨b1, b2, b3, b4, b5, b6, b7, b8⟩ := hal i hi
  obtain ⟨⟨e1, e2, e3, e4, e5, e6, e7⟩, ev, eg⟩ := id hE
  have hnv := (hS.2.2.2.2 f e4).2.1.2.2.2
  obtain ⟨⟨a1, a2, a3, a4, a5⟩, hcell⟩ := id hH
  have hge := (adr_ge tg ct n).1
  have eat : ct0 + 1 + i = ct0 + (i + 1) := by omega
  rw [eat] at b3 b8
  have g1 : ∀ {β : Type} (x : Option β), gd (aa i) 6200 x = x := fun x => gd6200 b1.1 b1.2
  have g4 : ∀ {β : Type} (x : Option β), gd (nI (ct0 + (i + 1))) 14000 x = x := fun x => gdn (by omega) (by omega)
  obtain ⟨u, hu01, hu, hu1⟩ := b3_go (k := i + 1) (w := 0) hQ hH v hp7 h33 h34 (by omega) l8 (by omega) (Or.inr (fun _ _ _ => Or.inr trivial))
  -- what comes of fitting without fields
  have yes0 : xA μ0 43 (nI (ct0 + (i + 1))) = 0 → jj i = 0 → f_X3_fits (aa i) σ = some (1, σ) → (∀ N, f_X12_choose_L3 (N + 1) (nI p) y (nI (i + 1)) μ = f_X12_choose_L182 FU (nI p) y (nI (i + 1)) (nI (ct0 + (i + 1))) 0 μ) → (f_X3_fits (aa i) σ = some (0, σ) ∧ ∀ N, f_X12_choose_L3 (N + 1) (nI p) y (nI (i + 1)) μ = f_X12_choose_L3 N (nI p) y (nI (i + 1 + 1)) μ) ∨ (∃ τ' ν, f_X3_fits (aa i) σ = some (1, τ') ∧ (∀ N, f_X12_choose_L3 (N + 1) (nI p) y (nI (i + 1)) μ = some ((), pI (pI ν 52 (nI (kp i))) 53 0)) ∧ Fb 13 σ τ' ∧ Fb 9 μ ν ∧ EV τ F k pa nv τ' ν n tg ct f base (Sx Sc (ll i) (jj i)) ∧ ∀ q, VL τ F pa n tg ct (gB σ 13 q) (gB μ 9 q) → VL τ F pa n tg ct (gB τ' 13 q) (gB ν 9 q)) := by
    intro h43 hj hc hm
    refine Or.inr ⟨σ, μ, hc, fun N => ?_, Fb.rf 13 σ, Fb.rf 9 μ, by rw [hj, Sx0]; exact hE, fun _ z => z⟩
    rw [hm N]
    obtain ⟨M, hM⟩ : ∃ M, FU = M + 1 := ⟨FU - 1, by omega⟩
    rw [hM]
    show f_X12_choose_B182 _ _ _ _ _ _ _ = _
    unfold f_X12_choose_B182 f_X12_child
    rw [g4, hQ.x 43 _ (by decide), h43, if_pos (Int32.le_refl _), gdn hp7 (by omega), hQ.x 33 _ (by decide), h33, nI_plus, g4, hQ.x 39 _ (by decide), b8, bd_of]
    rfl
  have fitsU : f_X3_fits (aa i) σ = (if (xA τ 13 (aa i)) = 13 then some (1, σ) else if (xA τ 13 (aa i)) = 12 then (if (j_lushr x 32).toInt32 = 1 then (if x.toInt32 = xA τ 14 (aa i) then some (1, σ) else some (0, σ)) else some (0, σ)) else (if (j_lushr x 32).toInt32 = 3 then (if x.toInt32 = xA τ 14 (aa i) then some (1, σ) else some (0, σ)) else (if (j_lushr x 32).toInt32 = 4 then (gd x.toInt32 4000 <| if (lg_cmp (xB σ 14 x.toInt32) ((xA τ 14 (aa i)).toInt64)) = 0 then (f_X3_fits_L115 FU (aa i) (xA τ 14 (aa i)) x.toInt32 0 σ) else some (0, σ)) else some (0, σ)))) := by
    unfold f_X3_fits
    rw [g1, show f_X0_tag (gJ σ 5) σ = some ((j_lushr (gJ σ 5) 32).toInt32, σ) from rfl, bd_of, g1, hP.x 13 _ (by decide), g1, hP.x 14 _ (by decide), hx]
  rcases b3 with ⟨w1, w2, w3, w4, w5, w6, w7, w8, w9, w10, w11⟩ | ⟨w1, w2, w3, w4, w5, w6⟩ | ⟨w1, w2, w3, w4⟩
  · -- a constructor
    have hz1 : xA τ 14 (aa i) < 30 := by
      have := hS.2.1.2.2.1
      clear hal hcell ev eg fitsU yes0 hS
      grind
    rw [w1, if_neg (by decide), if_neg (by decide)] at fitsU
    have mU : ∀ N, f_X12_choose_L3 (N + 1) (nI p) y (nI (i + 1)) μ = (if nI (jj i) ≤ 0 then (if lg_cmp y (vv 2 (xA τ 14 (aa i))) = 0 then f_X12_choose_L182 FU (nI p) y (nI (i + 1)) (nI (ct0 + (i + 1))) 0 μ else f_X12_choose_L3 N (nI p) y (nI (i + 1 + 1)) μ) else f_X12_choose_b174 (f_X12_choose_L3 N) (nI p) y (nI (i + 1)) (nI (ct0 + (i + 1))) (nI u) μ) := by
      intro N
      rw [hu N]
      unfold f_X12_choose_b69 f_X12_choose_b87 f_X12_choose_b135
      rw [g4, hQ.x 40 _ (by decide), w2, if_neg (by decide), g4, if_pos rfl, g4, hQ.x 43 _ (by decide), w8, g4, hQ.x 41 _ (by decide), w3, show f_X12_value 2 (xA τ 14 (aa i)) μ = some (vv 2 (xA τ 14 (aa i)), μ) from rfl, bd_of]
      unfold f_X12_choose_b174
      rw [if_neg (show ¬ (1 : Int32) = 0 by decide), if_pos (show (0 : Int32) = 0 from rfl), nI_add1]
    have noR : (∀ N, f_X12_choose_L3 (N + 1) (nI p) y (nI (i + 1)) μ = f_X12_choose_b174 (f_X12_choose_L3 N) (nI p) y (nI (i + 1)) (nI (ct0 + (i + 1))) (nI u) μ) → u = 0 → ∀ N, f_X12_choose_L3 (N + 1) (nI p) y (nI (i + 1)) μ = f_X12_choose_L3 N (nI p) y (nI (i + 1 + 1)) μ := by
      intro h hu0 N
      rw [h N, hu0]
      unfold f_X12_choose_b174
      rw [if_pos (show nI 0 = 0 from rfl), nI_add1]
    by_cases hj0 : jj i = 0
    · have mV : ∀ N, f_X12_choose_L3 (N + 1) (nI p) y (nI (i + 1)) μ = (if lg_cmp y (vv 2 (xA τ 14 (aa i))) = 0 then f_X12_choose_L182 FU (nI p) y (nI (i + 1)) (nI (ct0 + (i + 1))) 0 μ else f_X12_choose_L3 N (nI p) y (nI (i + 1 + 1)) μ) := fun N => by rw [mU N, hj0, if_pos (show nI 0 ≤ 0 by decide)]
      by_cases hy : y = vv 2 (xA τ 14 (aa i))
      · refine yes0 (by rw [w8, hj0]; rfl) hj0 ?_ (fun N => by rw [mV N, if_pos ((lg_cmp_eq _ _).mpr hy)])
        rcases v with ⟨z, -, rfl⟩ | ⟨g, -, -, -, rfl⟩ | ⟨k', -, -, -, rfl, rfl⟩ | ⟨c', -, -, -, rfl⟩
        · exact absurd (vv_inj hy).1 (by decide)
        · exact absurd (vv_inj hy).1 (by decide)
        · rw [fitsU, vv_tag, if_pos rfl, vv_of, if_pos (vv_inj hy).2]
        · exact absurd (vv_inj hy).1 (by decide)
      · refine Or.inl ⟨?_, fun N => by rw [mV N, if_neg (fun z => hy ((lg_cmp_eq _ _).mp z))]⟩
        rw [fitsU]
        rcases v with ⟨z, rfl, -⟩ | ⟨g, -, -, rfl, -⟩ | ⟨k', -, -, -, rfl, rfl⟩ | ⟨c', c1, c2, rfl, -⟩
        · rw [vv_tag, if_neg (by decide), if_neg (by decide)]
        · rw [vv_tag, if_neg (by decide), if_neg (by decide)]
        · rw [vv_tag, if_pos rfl, vv_of, if_neg (fun z => hy (by rw [z]))]
        · rw [vv_tag, vv_of]
          rcases c2 with h4 | h4 | h4
          · obtain ⟨-, hb3, -⟩ := hcell c' c1
            have hsz := adr_mo tg ct c1
            have hs1 : 1 ≤ szc tg ct c' := by unfold szc; omega
            have hoz := ofs_sz tg ct c'
            rw [h4, if_neg (by decide), if_pos (show nI 4 = 4 from rfl), gdn (by omega) (by omega), xB_n (by omega)]
            rcases hb3 with ⟨-, -, k', y1, y2, y3, y4, y5, y6⟩ | ⟨z, -⟩ | ⟨z, -⟩
            · rw [y4, if_neg (fun z => by
                have z2 := i2l_inj.mp ((lg_cmp_eq _ _).mp z)
                rw [z2, w7, hj0] at y5
                have := nI_injL (a := 0) (b := ct c') (by omega) (by omega) y5
                omega)]
            · omega
            · omega
          · rw [h4, if_neg (by decide), if_neg (by decide)]
          · rw [h4, if_neg (by decide), if_neg (by decide)]
    · have mV : ∀ N, f_X12_choose_L3 (N + 1) (nI p) y (nI (i + 1)) μ = f_X12_choose_b174 (f_X12_choose_L3 N) (nI p) y (nI (i + 1)) (nI (ct0 + (i + 1))) (nI u) μ := fun N => by rw [mU N, if_neg (nle0 (by omega) hj0)]
      by_cases hu' : u = 1
      · obtain ⟨c', d1, d2, d3, d4⟩ := hu1.mp hu'
        rw [w3] at d4
        obtain ⟨-, hb3, -⟩ := hcell c' d1
        have hsz := adr_mo tg ct d1
        have hs1 : 1 ≤ szc tg ct c' := by unfold szc; omega
        have hoz := ofs_sz tg ct c'
        rcases hb3 with ⟨-, -, k', y1, y2, y3, y4, y5, y6⟩ | ⟨z, -⟩ | ⟨z, -⟩
        · have ek : nI k' = xA τ 14 (aa i) := y3.symm.trans d4
          have ej : ct c' = jj i := by
            rw [ek, w7] at y5
            exact (nI_injL (by omega) (by omega) y5).symm
          have hxv : x = vv 4 (nI (adr tg ct c')) := by
            rcases v with ⟨z, -, rfl⟩ | ⟨g, -, -, -, rfl⟩ | ⟨z, -, -, -, -, rfl⟩ | ⟨c2, f1, f2, rfl, rfl⟩
            · exact absurd (vv_inj d3).1 (by decide)
            · exact absurd (vv_inj d3).1 (by decide)
            · exact absurd (vv_inj d3).1 (by decide)
            · have := nI_injL (a := c2) (b := c') (by omega) (by omega) (vv_inj d3).2
              rw [this, d2]
              rfl
          obtain ⟨τ', ν, q1, q2, q3, q4, q5, q6⟩ := ff_go (τ := τ) (μ0 := μ0) (F := F) (T := T) (pa := pa) (nv := nv) (n := n) (tg := tg) (ct := ct) (a := aa i) (w := xA τ 14 (aa i)) (p := p) (ct0 := ct0) (c := c') (x0 := ll i) (j := jj i) (k := i + 1) (base := base) (kpi := kp i) b1 w4 hz1 w7 w9 hp7 h33 (by omega) w8 w10 b8 d1 d2 ej w6 (by omega) (jj i) 0 FU σ μ (by omega) (by omega) hP hQ hH e1 e2 (by omega) e7
          refine Or.inr ⟨τ', ν, ?_, fun N => ?_, q3, q4, ⟨⟨by rw [q3.1 41]; exact e1, by rw [q4.1 50]; exact e2, by rw [q3.1 43]; exact e3, e4, by rw [show gN τ' 3 = gN σ 3 from congrFun q3.2.2.2.2 3]; exact e5, e6, by rw [show gN τ' 3 = gN σ 3 from congrFun q3.2.2.2.2 3]; exact e7⟩, fun z hz => ?_, fun g g1' g2' => ?_⟩, q6⟩
          · rw [fitsU, hxv, vv_tag, if_neg (by decide), if_pos rfl, vv_of, gdn (by omega) (by omega), xB_n (by omega), y4, ek, if_pos ((lg_cmp_eq _ _).mpr rfl)]
            exact q1
          · rw [mV N, hu']
            unfold f_X12_choose_b174
            rw [if_neg (by decide), d3]
            exact q2
          · rcases hz with hz | hz
            · exact q6 _ (ev z hz)
            · have := q5 (z - ll i) (by omega) (by omega)
              rw [show ll i + (z - ll i) = z by omega] at this
              exact this
          · rw [q3.2.2.1 43, q4.2.2.1 64]
            exact eg g g1' g2'
        · omega
        · omega
      · have hu0 : u = 0 := by omega
        refine Or.inl ⟨?_, noR mV hu0⟩
        rw [fitsU]
        rcases v with ⟨z, rfl, -⟩ | ⟨g, -, -, rfl, -⟩ | ⟨k', v1, v2, v3, rfl, -⟩ | ⟨c', c1, c2, rfl, hyc⟩
        · rw [vv_tag, if_neg (by decide), if_neg (by decide)]
        · rw [vv_tag, if_neg (by decide), if_neg (by decide)]
        · rw [vv_tag, if_pos rfl, vv_of, if_neg (fun z => by
            rw [z, w7] at v3
            have := nI_injL (a := jj i) (b := 0) (by omega) (by omega) v3
            omega)]
        · rw [vv_tag, vv_of]
          rcases c2 with h4 | h4 | h4
          · obtain ⟨-, hb3, -⟩ := hcell c' c1
            have hsz := adr_mo tg ct c1
            have hs1 : 1 ≤ szc tg ct c' := by unfold szc; omega
            rw [h4, if_neg (by decide), if_pos (show nI 4 = 4 from rfl), gdn (by omega) (by omega), xB_n (by omega)]
            rcases hb3 with ⟨-, -, k', y1, y2, y3, y4, y5, y6⟩ | ⟨z, -⟩ | ⟨z, -⟩
            · rw [y4, if_neg (fun z => by
                have z2 := i2l_inj.mp ((lg_cmp_eq _ _).mp z)
                exact hu' (hu1.mpr ⟨c', c1, h4, hyc, by rw [w3, y3]; exact z2⟩))]
            · omega
            · omega
          · rw [h4, if_neg (by decide), if_neg (by decide)]
          · rw [h4, if_neg (by decide), if_neg (by decide)]
  · -- a number
    rw [w1, if_neg (by decide), if_pos rfl] at fitsU
    have mU : ∀ N, f_X12_choose_L3 (N + 1) (nI p) y (nI (i + 1)) μ = (if lg_cmp y (vv 0 (xA τ 14 (aa i))) = 0 then f_X12_choose_L182 FU (nI p) y (nI (i + 1)) (nI (ct0 + (i + 1))) 0 μ else f_X12_choose_L3 N (nI p) y (nI (i + 1 + 1)) μ) := by
      intro N
      rw [hu N]
      unfold f_X12_choose_b69 f_X12_choose_b87 f_X12_choose_b172
      rw [g4, hQ.x 40 _ (by decide), w2, if_neg (by decide), g4, if_neg (by decide), g4, if_pos rfl, g4, hQ.x 41 _ (by decide), w3, show f_X12_value 0 (xA τ 14 (aa i)) μ = some (vv 0 (xA τ 14 (aa i)), μ) from rfl, bd_of]
      unfold f_X12_choose_b174
      rw [if_neg (show ¬ (1 : Int32) = 0 by decide), if_pos (show (0 : Int32) = 0 from rfl), nI_add1]
    rcases v.int with ⟨z, rfl, rfl⟩ | ⟨t1, t2⟩
    · by_cases hz : z = xA τ 14 (aa i)
      · exact yes0 w5 w6 (by rw [fitsU, vv_tag, if_pos rfl, vv_of, if_pos hz]) (fun N => by rw [mU N, if_pos ((lg_cmp_eq _ _).mpr (by rw [hz]))])
      · exact Or.inl ⟨by rw [fitsU, vv_tag, if_pos rfl, vv_of, if_neg hz], fun N => by rw [mU N, if_neg (fun w => hz (vv_inj ((lg_cmp_eq _ _).mp w)).2)]⟩
    · exact Or.inl ⟨by rw [fitsU, if_neg t1], fun N => by
        have hne : ¬ lg_cmp y (vv 0 (xA τ 14 (aa i))) = 0 := fun w => t2 (by rw [(lg_cmp_eq _ _).mp w, vv_kd])
        rw [mU N, if_neg hne]⟩
  · -- anything
    rw [w1, if_pos rfl] at fitsU
    refine yes0 w3 w4 fitsU (fun N => ?_)
    rw [hu N]
    unfold f_X12_choose_b69 f_X12_choose_b87 f_X12_choose_b174
    rw [g4, hQ.x 40 _ (by decide), w2, if_pos rfl, g4, if_neg (by decide), g4, if_neg (by decide), if_neg (by decide)]
