theorem ok_nl : okL [59, 10] := okL.cs (Or.inr (by decide)) (okL.cs (Or.inl rfl) okL.nil)
theorem ok_da : okL [100, 97, 116, 97, 32] := okL.cs (Or.inr (by decide)) (okL.cs (Or.inr (by decide)) (okL.cs (Or.inr (by decide)) (okL.cs (Or.inr (by decide)) (okb (by decide)))))
theorem ok_or : okL [32, 124, 32] := okL.cs (Or.inr (by decide)) (okL.cs (Or.inr (by decide)) (okb (by decide)))
/-- the constructors -/
theorem wk_l {τ0 μ0 : S5} {k C : Nat} (H : WH τ0 μ0 k) (hC4 : gI τ0 4 = nI C) (hC30 : C ≤ 30) (hC2 : 2 ≤ C) : ∀ (m i : Nat), i + m = C → 2 ≤ i → ∃ L, okL L ∧ (∀ N, m < N → Wc τ0 (f_X7_writeConstructors_L2 N (nI i)) L) ∧ ∀ N, m < N → ∀ μ ν, eqQ μ0 μ → LWm L μ ν → f_X12_write_L32 N (nI i) μ = f_X12_write_b128 ν := by
  obtain ⟨-, -, -, -, hct, hN⟩ := H
  have h14 : gI μ0 14 = nI C := by rw [← hct.1]; exact hC4
  intro m
  induction m with
  | zero =>
    intro i hi h2
    obtain rfl : i = C := by omega
    by_cases hc : i = 2
    · subst hc
      refine ⟨[], okL.nil, fun N hN' σ τ hC h => ?_, fun N hN' μ ν hq h => ?_⟩
      · obtain ⟨N, rfl⟩ : ∃ n, N = n + 1 := ⟨N - 1, by omega⟩
        cases h
        show f_X7_writeConstructors_B2 _ _ _ = _
        unfold f_X7_writeConstructors_B2
        rw [hC.1.1 4 (by decide), hC4, if_pos (Int32.le_refl _), if_pos (by decide)]
      · obtain ⟨N, rfl⟩ : ∃ n, N = n + 1 := ⟨N - 1, by omega⟩
        cases h
        show f_X12_write_B32 _ _ _ = _
        unfold f_X12_write_B32
        rw [hq.1 14 (by decide), h14, if_pos (Int32.le_refl _), if_pos (by decide)]
    · have hn : ¬ nI i ≤ 2 := fun w => by have := (nI_le31 (a := i) (b := 2) (by omega) (by omega)).mp w; omega
      refine ⟨[59, 10], ok_nl, fun N hN' σ τ hC h => ?_, fun N hN' μ ν hq h => ?_⟩
      · obtain ⟨N, rfl⟩ : ∃ n, N = n + 1 := ⟨N - 1, by omega⟩
        show f_X7_writeConstructors_B2 _ _ _ = _
        unfold f_X7_writeConstructors_B2
        rw [hC.1.1 4 (by decide), hC4, if_pos (Int32.le_refl _), if_neg hn, gq1 hC, txC (by decide) tl_3 h, bd_of]
      · obtain ⟨N, rfl⟩ : ∃ n, N = n + 1 := ⟨N - 1, by omega⟩
        obtain ⟨ρ, h1, h2'⟩ := h
        show f_X12_write_B32 _ _ _ = _
        unfold f_X12_write_B32
        rw [hq.1 14 (by decide), h14, if_pos (Int32.le_refl _), if_neg hn, h1, bd_of, h2'.one, bd_of]
  | succ m ih =>
    intro i hi h2
    obtain ⟨L, a1, a2, a3⟩ := ih (i + 1) (by omega) (by omega)
    have hi4 : nI i < gI τ0 4 := by rw [hC4]; exact (nI_lt31 (by omega) (by omega)).mpr (by omega)
    have hi0 : 0 ≤ nI i := i_le0 (nI_nneg (by omega))
    obtain ⟨Ln, n1, n2, n3⟩ := wn hct hN hi0 hi4
    obtain ⟨d1, d2, d3, d4⟩ := hct.2.2.2 (nI i) hi0 hi4
    obtain ⟨Ld, e1, e2, e3⟩ := tx_nm (tn31 (xA τ0 2 (nI i)))
    rw [← nI_tn d3] at e2 e3
    have hle : ¬ nI C ≤ nI i := fun w => by have := (nI_le31 (by omega) (by omega)).mp w; omega
    refine ⟨(if i = 2 then [100, 97, 116, 97, 32] else [32, 124, 32]) ++ (Ln ++ ([32] ++ (Ld ++ L))), okL.ap ?_ (n1.ap ((okb (by decide)).ap (okL.ap e1 a1))), fun N hN' σ τ hC h => ?_, fun N hN' μ ν hq h => ?_⟩
    · by_cases hc : i = 2
      · rw [if_pos hc]; exact ok_da
      · rw [if_neg hc]; exact ok_or
    · obtain ⟨N, rfl⟩ : ∃ n, N = n + 1 := ⟨N - 1, by omega⟩
      obtain ⟨ρ1, l1, l2⟩ := LWc.ap h
      obtain ⟨ρ2, l3, l4⟩ := LWc.ap l2
      obtain ⟨ρ3, l5, l6⟩ := LWc.ap l4
      obtain ⟨ρ4, l7, l8⟩ := LWc.ap l6
      have c1 := hC.fr l1.fr
      have c2 := c1.fr l3.fr
      have c3 := c2.fr l5.fr
      have c4 := c3.fr l7.fr
      have fin := a2 N (by omega) _ _ c4 l8
      have body : ∀ u, f_X8_addText_draft u σ = some ((), ρ1) → f_X7_writeConstructors_b29 (f_X7_writeConstructors_L2 N) (nI i) u σ = some ((), τ) := by
        intro u hu
        unfold f_X7_writeConstructors_b29
        rw [hu, bd_of, gq1 c1, gdn (by omega) (by omega), c1.y 0 _ (by decide), n2 _ _ l3, bd_of, gq1 c2, l5.one, bd_of, gq1 c3, gdn (by omega) (by omega), c3.x 2 _ (by decide), e2 _ _ l7, bd_of, nI_add1]
        exact fin
      show f_X7_writeConstructors_B2 _ _ _ = _
      unfold f_X7_writeConstructors_B2
      rw [hC.1.1 4 (by decide), hC4, if_neg hle, gq1 hC]
      by_cases hc : i = 2
      · rw [if_pos hc] at l1
        rw [if_pos (by rw [hc]; rfl)]
        exact body 1 (txC (by decide) tl_1 l1)
      · rw [if_neg hc] at l1
        rw [if_neg (show ¬ nI i = 2 from fun w => hc (nI_injL (a := i) (b := 2) (by omega) (by omega) w))]
        exact body 2 (txC (by decide) tl_2 l1)
    · obtain ⟨N, rfl⟩ : ∃ n, N = n + 1 := ⟨N - 1, by omega⟩
      obtain ⟨ρ1, l1, l2⟩ := LWm.ap h
      obtain ⟨ρ2, l3, l4⟩ := LWm.ap l2
      obtain ⟨ρ3, l5, l6⟩ := LWm.ap l4
      obtain ⟨ρ4, l7, l8⟩ := LWm.ap l6
      have c1 := hq.fr l1.fr.1
      have c2 := c1.fr l3.fr.1
      have c3 := c2.fr l5.fr.1
      have c4 := c3.fr l7.fr.1
      have fin := a3 N (by omega) _ _ c4 l8
      have body : ∀ u, f_X12_signs u μ = some ((), ρ1) → f_X12_write_b73 (f_X12_write_L32 N) (nI i) u μ = f_X12_write_b128 ν := by
        intro u hu
        unfold f_X12_write_b73
        rw [hu, bd_of, gdn (by omega) (by omega), c1.y 3 _ (by decide), n3 _ _ l3, bd_of, l5.one, bd_of, gdn (by omega) (by omega), c3.x 13 _ (by decide), ← d2, e3 _ _ l7, bd_of, nI_add1]
        exact fin
      show f_X12_write_B32 _ _ _ = _
      unfold f_X12_write_B32
      rw [hq.1 14 (by decide), h14, if_neg hle]
      by_cases hc : i = 2
      · rw [if_pos hc] at l1
        rw [if_pos (by rw [hc]; rfl), pk_go, bd_of]
        exact body _ (sgk pl_dt l1)
      · rw [if_neg hc] at l1
        rw [if_neg (show ¬ nI i = 2 from fun w => hc (nI_injL (a := i) (b := 2) (by omega) (by omega) w)), pk_go, bd_of]
        exact body _ (sgk pl_or l1)
def endC (E : Int32 → S5 → Option (Unit × S5)) (rec11 : Int32 → S5 → Option (Unit × S5)) (v2 : Int32) (σ : S5) : Option (Unit × S5) := gq (gN σ 9) 1 <| bd (f_X8_addText_draft 5 σ) (fun _ τ68 => gd v2 630 <| bd (E ((xA τ68 7 v2)) τ68) (fun _ τ81 => gq (gN τ81 9) 1 <| bd (f_X8_addText_draft 3 τ81) (fun _ τ90 => rec11 ((v2 + 1)) τ90)))
def endM (rec130 : Int32 → S5 → Option (Int32 × S5)) (v1 : Int32) (σ : S5) : Option (Int32 × S5) := bd (f_X12_pack (32) (61) (32) (0) (0) σ) (fun r181 τ181 => bd (f_X12_signs (r181) τ181) (fun _ τ184 => gd v1 640 <| bd (f_X12_writeE ((xA τ184 45 v1)) τ184) (fun _ τ194 => bd (f_X12_letters (59) τ194) (fun _ τ200 => bd (f_X12_letters (10) τ200) (fun _ τ206 => rec130 ((v1 + 1)) τ206)))))
/-- a function's parameters -/
theorem wq_l {τ0 μ0 : S5} {f pa : Nat} (hf : f < 630) (h3 : xA τ0 3 (nI f) = nI pa) (h47 : xA μ0 47 (nI f) = nI pa) (hpa : pa ≤ 8) : ∀ (m i : Nat), i + m = pa → ∃ L, okL L ∧ (∀ E rec N, m < N → ∀ σ ρ, CW τ0 σ → LWc L σ ρ → f_X7_writeProgram_L29 E rec N (nI f) (nI i) σ = endC E rec (nI f) ρ) ∧ ∀ rec N, m < N → ∀ μ ν, eqQ μ0 μ → LWm L μ ν → f_X12_write_L145 rec N (nI f) (nI i) μ = endM rec (nI f) ν := by
  intro m
  induction m with
  | zero =>
    intro i hi
    obtain rfl : i = pa := by omega
    refine ⟨[], okL.nil, fun E rec N hN σ ρ hC h => ?_, fun rec N hN μ ν hq h => ?_⟩
    · obtain ⟨N, rfl⟩ : ∃ n, N = n + 1 := ⟨N - 1, by omega⟩
      cases h
      show f_X7_writeProgram_B29 _ _ _ _ _ _ = _
      unfold f_X7_writeProgram_B29 endC
      rw [gdn (by omega) (by omega), hC.x 3 _ (by decide), h3, if_pos (Int32.le_refl _)]
    · obtain ⟨N, rfl⟩ : ∃ n, N = n + 1 := ⟨N - 1, by omega⟩
      cases h
      show f_X12_write_B145 _ _ _ _ _ = _
      unfold f_X12_write_B145 endM
      rw [gdn (by omega) (by omega), hq.x 47 _ (by decide), h47, if_pos (Int32.le_refl _)]
  | succ m ih =>
    intro i hi
    obtain ⟨L, a1, a2, a3⟩ := ih (i + 1) (by omega)
    obtain ⟨Lv, v1, v2, v3⟩ := wv (x := i) (by omega)
    have hle : ¬ nI pa ≤ nI i := fun w => by have := (nI_le31 (by omega) (by omega)).mp w; omega
    refine ⟨[32] ++ (Lv ++ L), (okb (by decide)).ap (v1.ap a1), fun E rec N hN σ ρ hC h => ?_, fun rec N hN μ ν hq h => ?_⟩
    · obtain ⟨N, rfl⟩ : ∃ n, N = n + 1 := ⟨N - 1, by omega⟩
      obtain ⟨ρ1, l1, l2⟩ := LWc.ap h
      obtain ⟨ρ2, l3, l4⟩ := LWc.ap l2
      have c1 := hC.fr l1.fr
      have c2 := c1.fr l3.fr
      show f_X7_writeProgram_B29 _ _ _ _ _ _ = _
      unfold f_X7_writeProgram_B29
      rw [gdn (by omega) (by omega), hC.x 3 _ (by decide), h3, if_neg hle, gq1 hC, l1.one, bd_of, v2 τ0 _ _ c1 l3, bd_of, nI_add1]
      exact a2 E rec N (by omega) _ _ c2 l4
    · obtain ⟨N, rfl⟩ : ∃ n, N = n + 1 := ⟨N - 1, by omega⟩
      obtain ⟨ρ1, l1, l2⟩ := LWm.ap h
      obtain ⟨ρ2, l3, l4⟩ := LWm.ap l2
      have c1 := hq.fr l1.fr.1
      have c2 := c1.fr l3.fr.1
      show f_X12_write_B145 _ _ _ _ _ = _
      unfold f_X12_write_B145
      rw [gdn (by omega) (by omega), hq.x 47 _ (by decide), h47, if_neg hle, l1.one, bd_of, v3 μ0 _ _ c1 l3, bd_of, nI_add1]
      exact a3 rec N (by omega) _ _ c2 l4
def finW (μ : S5) : Option (Int32 × S5) := if (gI μ 56) ≤ 12000 then f_X12_write_L229 FU 0 μ else some (((-1) : Int32), μ)
/-- the functions -/
theorem wz_l {τ0 μ0 : S5} {k F T : Nat} {pa nv : Nat → Nat} {Tt : Nat → (Nat → Bool) → Bool} (H : WH τ0 μ0 k) (hF6 : F ≤ 630) (h6 : gI τ0 6 = nI F) (h22 : gI μ0 22 = nI F) (hf : ∀ f, f < F → PRf τ0 μ0 F k T pa nv Tt f) : ∀ (m f : Nat), f + m = F → ∃ L, okL L ∧ (∀ N, m < N → Wc τ0 (f_X7_writeProgram_L11 (f_writeE 64) N (nI f)) L) ∧ ∀ N, m < N → ∀ μ ν x y, eqQ μ0 μ → LWm L μ ν → ∃ x' y', f_X12_write_L130 N (nI f) (wQp μ x y) = finW (wQp ν x' y') := by
  have hb := FU_big (n := 20000) (by decide)
  intro m
  induction m with
  | zero =>
    intro f hfF
    obtain rfl : f = F := by omega
    refine ⟨[], okL.nil, fun N hN σ τ hC h => ?_, fun N hN μ ν x y hq h => ⟨x, y, ?_⟩⟩
    · obtain ⟨N, rfl⟩ : ∃ n, N = n + 1 := ⟨N - 1, by omega⟩
      cases h
      show f_X7_writeProgram_B11 _ _ _ _ = _
      unfold f_X7_writeProgram_B11
      rw [hC.1.1 6 (by decide), h6, if_pos (Int32.le_refl _)]
    · obtain ⟨N, rfl⟩ : ∃ n, N = n + 1 := ⟨N - 1, by omega⟩
      cases h
      show f_X12_write_B130 _ _ _ = _
      unfold f_X12_write_B130 finW
      rw [(wQp_q hq x y).1 22 (by decide), h22, if_pos (Int32.le_refl _)]
  | succ m ih =>
    intro f hfF
    obtain ⟨L, a1, a2, a3⟩ := ih (f + 1) (by omega)
    obtain ⟨q, p, hi, ⟨d1, d2, d3, d3'⟩, d4, ⟨d5, d6, d7⟩, ⟨d8, d9, d10⟩, d11, d12, ⟨d13, d14, d15⟩, -⟩ := hf f (by omega)
    obtain ⟨⟨k30, k13⟩, knm, kdf, k7, hct, hN⟩ := H
    obtain ⟨Ln, n1, n2, n3⟩ := wf k30 k13 knm kdf k7 (f := f) (by omega)
    obtain ⟨Lq, q1, q2, q3⟩ := wq_l (τ0 := τ0) (μ0 := μ0) (f := f) (by omega) d1 d2 d3 (pa f) 0 (by omega)
    obtain ⟨Lt, t1, t2, t3⟩ := wt_go (T := T) ⟨⟨k30, k13⟩, knm, kdf, k7, hct, hN⟩ hF6 d7 _ _ q p (fun x => x < pa f) (pa f) hi (Nat.lt_succ_self _) ⟨d12, d13, fun x w => w, by omega⟩
    have hqp : q ≤ p ∧ p < 7000 := ⟨d12.un.1.1.1, d12.un.1.1.2.1⟩
    have hle : ¬ nI F ≤ nI f := fun w => by have := (nI_le31 (by omega) (by omega)).mp w; omega
    refine ⟨Ln ++ (Lq ++ ([32, 61, 32] ++ (Lt ++ ([59, 10] ++ L)))), n1.ap (q1.ap (ok_e.ap (t1.ap (ok_nl.ap a1)))), fun N hN' σ τ hC h => ?_, fun N hN' μ ν x y hq h => ?_⟩
    · obtain ⟨N, rfl⟩ : ∃ n, N = n + 1 := ⟨N - 1, by omega⟩
      obtain ⟨ρ1, l1, l2⟩ := LWc.ap h
      obtain ⟨ρ2, l3, l4⟩ := LWc.ap l2
      obtain ⟨ρ3, l5, l6⟩ := LWc.ap l4
      obtain ⟨ρ4, l7, l8⟩ := LWc.ap l6
      obtain ⟨ρ5, l9, l10⟩ := LWc.ap l8
      have c1 := hC.fr l1.fr
      have c2 := c1.fr l3.fr
      have c3 := c2.fr l5.fr
      have c4 := c3.fr l7.fr
      have c5 := c4.fr l9.fr
      have fin := a2 N (by omega) _ _ c5 l10
      show f_X7_writeProgram_B11 _ _ _ _ = _
      unfold f_X7_writeProgram_B11
      rw [hC.1.1 6 (by decide), h6, if_neg hle, n2 _ _ hC l1, bd_of, show (0 : Int32) = nI 0 from rfl, q2 _ _ FU (by omega) _ _ c1 l3]
      unfold endC
      rw [gq1 c2, txC (by decide) tl_5 l5, bd_of, gdn (by omega) (by omega), c3.x 7 _ (by decide), t2 64 (by omega) _ _ c3 l7, bd_of, gq1 c4, txC (by decide) tl_3 l9, bd_of, nI_add1]
      exact fin
    · obtain ⟨N, rfl⟩ : ∃ n, N = n + 1 := ⟨N - 1, by omega⟩
      obtain ⟨ρ1, l1, l2⟩ := LWm.ap h
      obtain ⟨ρ2, l3, l4⟩ := LWm.ap l2
      obtain ⟨ρ3, l5, l6⟩ := LWm.ap l4
      obtain ⟨ρ4, l7, l8⟩ := LWm.ap l6
      obtain ⟨ρ5, l9, l10⟩ := LWm.ap l8
      have c1 := hq.fr l1.fr.1
      have c2 := c1.fr l3.fr.1
      have c3 := c2.fr l5.fr.1
      have c4 := c3.fr l7.fr.1
      have c5 := c4.fr l9.fr.1
      obtain ⟨n, x', y', r1, r2, r3⟩ := t3 ρ3 ρ4 c3 l7 0 (upd x 0 (nI p)) (upd y 0 0) (by omega) up_s up_s
      obtain ⟨x2, y2, fin⟩ := a3 N (by omega) ρ5 ν x' y' c5 l10
      refine ⟨x2, y2, ?_⟩
      have hw := wQp_q hq x y
      have hwe : f_X12_writeE (nI p) (wQp ρ3 x y) = some ((), wQp ρ4 x' y') := by
        have e := r3 (FU - n)
        rw [show n + (FU - n) = FU by omega] at e
        unfold f_X12_writeE
        rw [show (0 : Int32) = nI 0 from rfl, wQp_p28 _ _ _ _ _ (by omega), wQp_p29 _ _ _ _ _ (by omega)]
        rw [show (1 : Int32) = nI (0 + 1) from rfl]
        refine Eq.trans e ?_
        obtain ⟨N', hN''⟩ : ∃ N', FU - n = N' + 1 := ⟨FU - n - 1, by omega⟩
        rw [hN'']
        show f_X12_writeE_B16 _ _ _ = _
        unfold f_X12_writeE_B16
        rw [if_pos (by decide)]
      obtain ⟨ρ6, l11, l12⟩ := (l9.p x' y')
      show f_X12_write_B130 _ _ _ = _
      unfold f_X12_write_B130
      rw [hw.1 22 (by decide), h22, if_neg hle, n3 _ _ hw (l1.p x y), bd_of, show (0 : Int32) = nI 0 from rfl, q3 _ FU (by omega) _ _ (wQp_q c1 x y) (l3.p x y)]
      unfold endM
      rw [pk_go, bd_of, sgk pl_is (l5.p x y), bd_of, gdn (by omega) (by omega), (wQp_q c3 x y).x 45 _ (by decide), d9, hwe, bd_of, l11, bd_of, l12.one, bd_of, nI_add1]
      exact fin
