theorem FlU.eq {σ : S5} {k U : Nat} {f p f' p' : Int32} (h : FlU σ k U f p) (h' : FlU σ k U f' p') : f = f' ∧ (¬ f = 0 → p = p') := by
  rcases h with ⟨a1, a2⟩ | ⟨a1, x, a2, a3, a4, a5⟩
  · rcases h' with ⟨b1, b2⟩ | ⟨b1, y, b2, b3, b4, b5⟩
    · exact ⟨a1.trans b1.symm, fun w => absurd a1 w⟩
    · exact absurd b3 (a2 y b2)
  · rcases h' with ⟨b1, b2⟩ | ⟨b1, y, b2, b3, b4, b5⟩
    · exact absurd a3 (b2 x a2)
    · refine ⟨a1.trans b1.symm, fun _ => ?_⟩
      have : x = y := by
        by_cases h1 : x < y
        · exact absurd a3 (b5 x h1)
        · by_cases h2 : y < x
          · exact absurd b3 (a5 y h2)
          · omega
      rw [a4, b4, this]
/-- both have lifted without a fault -/
def LUp (σ τ' μ' : S5) : Prop := ∃ (ν τr τv τu τp μ0 τm : S5) (k U F C : Nat) (sc fs cc fu fn ft : Nat → Int32) (cf : Nat → Nat), PX σ ν τr τv τu τp k U F C (gI σ 9) sc cf ∧ MX σ ν τr τv μ0 k U F (gI σ 9) cf ∧ PG σ ν k cc fs fu fn ft ∧ NX σ ν k sc fs ∧ KMs σ τp (gI σ 9) sc cf F τ' ∧ LAs σ τp μ0 F (gI σ 9) sc cf F μ' ∧ (∀ g, g < F → ¬ badF σ τp (gI σ 9) sc cf g) ∧ FrB τm τv ∧ (∀ f, f < F → xA τm 3 (nI f) = nI (cf f + vC σ (sc f).toNatClampNeg) ∧ xA τm 3 (nI f) ≤ 8 ∧ xA τm 11 (nI f) = 0) ∧ (gI τm 7 = tp (xB σ 1) 1835100526 k 0 ∧ ¬ gI τm 7 = -1 ∧ gI τm 22 = gI σ 22) ∧ gI σ 5 = nI k ∧ (gI μ0 22 = nI F ∧ N6 μ') ∧ AnX σ τr τv k U F (gI σ 9) cf ∧ GS σ k fs (gI σ 9) ∧ (∀ f, f < F → ∃ hi, VS τp (rtF σ sc f) (fun x => x < paF σ sc cf f) (paF σ sc cf f) hi ∧ hi ≤ nvF σ (gI σ 9) sc cf f)
/-- LIFTING, both -/
theorem lift_go {σ0 σ μ : S5} {k : Nat} {cc fs fu fn ft : Nat → Int32} (hσ : σ = pI (pI σ0 20 0) 21 (-1)) (hp : PG σ μ k cc fs fu fn ft) (hk : k ≤ 30) (h5 : gI σ 5 = nI k) (h6 : gI σ 6 = nI k) (h13 : gI μ 13 = nI k) (h90 : 0 ≤ gI σ 9) (h9 : gI σ 9 ≤ 630) (h100 : 0 ≤ gI σ 10) (h10 : gI σ 10 ≤ 600) (m90 : 0 ≤ gI μ 9) (m9 : gI μ 9 ≤ 2200) (m10 : gI μ 10 ≤ 3000) (m7 : gI μ 7 = 0) (hDN : DN σ) {D : Int32 → Nat} (hDp : ∀ x, 0 ≤ x → x < gI σ 9 → 1 ≤ D x ∧ D x ≤ 61 ∧ (0 ≤ xA σ 21 x → xA σ 21 x < x ∧ D x = D (xA σ 21 x) + 1)) (hnp : prI (wp σ) (gI σ 8) ≤ 600) (h80 : 0 ≤ gI σ 8) (hg4 : gI σ 4 ≤ 30) : ∃ τ' μ', f_X2_lift σ0 = some ((), τ') ∧ bd (f_X12_numberAll μ) (fun _ ν => bd (f_X12_find ν) (fun _ μf => f_X12_program_b61 μf)) = f_X12_program_b83 μ' ∧ (gI τ' 20 = gI μ' 7 ∧ (¬ gI τ' 20 = 0 → gI τ' 21 = gI μ' 8)) ∧ (gI τ' 20 = 0 → LUp σ τ' μ') ∧ KM μ μ' := by
  have h20 : gI σ 20 = 0 := by rw [hσ]; rfl
  obtain ⟨U, F, B, τn, τr, ν, τf, μf, r1, r2, r3, r4, r5, hLF⟩ := lf_in hp hk h5 h6 h13 h90 h9 h100 h10 m90 m9 m10 h20 m7 hDN hDp
  have hfl := hLF.2.2.1.2
  have hflm := hLF.2.2.2.2.2.2.2.2.2.2.2.1
  obtain ⟨ef, ep⟩ := hfl.eq hflm
  have hcl : f_X2_lift σ0 = if gI τr 20 = 0 then (bd (f_X2_findFree τr) (fun _ τ26 => bd (f_X2_refuseManyParameters τ26) (fun _ τ30 => f_X2_lift_b33 τ30))) else f_X2_lift_b33 τr := by
    unfold f_X2_lift
    rw [← hσ, r1, bd_of, r2, bd_of]
  have kf := km_f_X12_find _ (km_f_X12_numberAll _ (KM.rf μ) _ _ r4) _ _ r5
  have hre : bd (f_X12_numberAll μ) (fun _ ν => bd (f_X12_find ν) (fun _ μf => f_X12_program_b61 μf)) = f_X12_program_b61 μf := by rw [r4, bd_of, r5, bd_of]
  rw [hcl, hre]
  by_cases hz : gI τr 20 = 0
  · rw [if_pos hz, r3, bd_of]
    obtain ⟨τj, τm, μm, q1, q2, q3, hJ⟩ := jg_go hLF r3 hz h5
    rw [q1, bd_of, q3]
    have e61 : f_X12_program_b61 μf = f_X12_program_b72 μm := by
      unfold f_X12_program_b61
      rw [if_pos (by rw [← ef]; exact hz), q2, bd_of]
    rw [e61]
    obtain ⟨j1, j2⟩ := hJ.1
    have kj := km_f_X12_judge _ kf _ _ q2
    by_cases hz2 : gI τm 20 = 0
    · obtain ⟨τv, sc, cf, v1, hL, hB, hv3, hc⟩ := lx_go hLF r3 hJ hz2 (fun x x0 x1 => ⟨(hDp x x0 x1).2.1, fun w => ((hDp x x0 x1).2.2 w).2⟩) hnp h80 hg4
      obtain ⟨hM, hN, h22, h7⟩ := hLF.mx hJ hz2 hz hL hB hc
      obtain ⟨τu, u1, hPU⟩ := pu_go hL
      have hC : gI σ 8 = nI (gI σ 8).toNatClampNeg := nI_tn h80
      have hC6 : (gI σ 8).toNatClampNeg ≤ 6200 := by have := hL.2.2.2.2.2.2.2.2.2.2.2; omega
      obtain ⟨τp, p1, hPN⟩ := pn_go hL hPU hC hC6
      have hX : PX σ ν τr τv τu τp k U F (gI σ 8).toNatClampNeg (gI σ 9) sc cf := ⟨hL, hPU, hPN, hC, hC6⟩
      have hpν := hLF.2.2.2.2.1
      have hG := hLF.1.2.1
      have hfn := fn_all hL hM hpν hG hN
      have hAn := hLF.anx r3 (fun x x0 x1 => ⟨(hDp x x0 x1).2.1, fun w => ((hDp x x0 x1).2.2 w).2⟩) hJ hL hB hc
      have hvs := vs_all hX hM hAn hpν hG hN
      have hr : ∀ f, f < F → 0 ≤ rtF σ sc f ∧ rtF σ sc f < 6200 := fun f hf => by
        obtain ⟨s', u, u', y, b, t, c, -, -, q5, -, q7, -⟩ := hfn f hf
        have e : rtF σ sc f = c := q5
        rw [e]
        exact q7.c
      obtain ⟨τ', k1, hK⟩ := km_go hX hr
      obtain ⟨μ', l1, hA⟩ := lall_go hX hM hpν hG hN h22 h7
      have e44 : f_X2_lift_b44 τm = some ((), τ') := by
        unfold f_X2_lift_b44
        rw [if_pos hz2, v1, bd_of, u1, bd_of, p1, bd_of, k1, bd_of]
      have e72 : f_X12_program_b72 μm = f_X12_program_b83 μ' := by
        unfold f_X12_program_b72
        rw [if_pos h7, l1, bd_of]
      refine ⟨τ', μ', e44, e72, ?_, fun ht => ?_, km_f_X12_liftAll _ kj _ _ l1⟩
      · rcases hK.2.2 with ⟨a1, a2⟩ | ⟨a1, x, a2, a3, a4, a5⟩
        · rcases hA with ⟨b1, b2⟩ | ⟨y, b1, b2, b3, μ2, b4, b5⟩
          · refine ⟨?_, fun w => absurd a1 w⟩
            rw [a1, b1.1.1 7 (by omega)]
            exact h7.symm
          · exact absurd b2 (a2 y b1)
        · rcases hA with ⟨b1, b2⟩ | ⟨y, b1, b2, b3, μ2, b4, b5⟩
          · exact absurd a3 (b2 x a2)
          · have exy : x = y := by
              by_cases h1 : x < y
              · exact absurd a3 (b3 x h1)
              · by_cases h2 : y < x
                · exact absurd b2 (a4 y h2)
                · omega
            rw [b5, a1, a5, exy]
            refine ⟨rfl, fun _ => ?_⟩
            obtain ⟨s', u, u', n, b, t, c, ⟨w1, w2, w3⟩, w4, -⟩ := hfn y b1
            show xA σ 24 (sc y) = xA μm 11 (nI y)
            rw [w4, hM.1 11 _ (by omega), w2]
      · rcases hK.2.2 with ⟨a1, a2⟩ | ⟨a1, -⟩
        · rcases hA with ⟨b1, b2⟩ | ⟨y, b1, b2, b3, μ2, b4, b5⟩
          · obtain ⟨-, m7', m7''⟩ := hJ.2.2.2.2 hz2
            have hFF := hLF.2.2.2.2.2.2.2.2.2.2.1.2.1
            have h11 : ∀ f, f < F → xA τm 11 (nI f) = 0 := fun f hf => by
              have e := (hLF.2.1.1.1.2.2.2.2 f (by rw [← hLF.2.1.2.1]; exact hf)).2
              show gA τm 11 _ = 0
              rw [hJ.2.2.1.2.2.1 11 (by decide), hFF.2.2.1 11 (by decide) (by decide), hLF.2.2.1.1.2.2.1 11 (by decide)]
              exact e
            have h22e : gI τm 22 = gI σ 22 := by
              rw [hJ.2.2.1.1 22 (by decide) (by decide) (by decide), hFF.1 22, hLF.2.2.1.1.1 22 (by decide) (by decide), hLF.2.1.1.1.1.1 22 (by decide)]
            exact ⟨ν, τr, τv, τu, τp, _, τm, k, U, F, _, sc, fs, cc, fu, fn, ft, cf, hX, hM.st (μ' := pI (pI (pI μm 26 0) 27 0) 28 0) (fun _ _ _ => rfl), hpν, hN, hK, b1, b2, hB, (fun f hf => ⟨hv3 f hf, by rw [hJ.2.2.2.1 f hf]; exact Classical.byContradiction (fun z => (hJ.2.2.2.2 hz2).1 f hf z), h11 f hf⟩), ⟨m7', m7'', h22e⟩, h5, ⟨h22, k6_f_X12_liftAll _ _ _ l1⟩, hAn, hG, hvs⟩
          · exact absurd b2 (a2 y b1)
        · rw [ht] at a1
          exact absurd a1 (by decide)
    · have e44 : f_X2_lift_b44 τm = some ((), τm) := by
        unfold f_X2_lift_b44
        rw [if_neg hz2]
      have e72 : f_X12_program_b72 μm = f_X12_program_b83 μm := by
        unfold f_X12_program_b72
        rw [if_neg (by rw [← j1]; exact hz2)]
      exact ⟨τm, μm, e44, e72, ⟨j1, j2⟩, fun w => absurd w hz2, kj⟩
  · rw [if_neg hz]
    have e33 : f_X2_lift_b33 τr = some ((), τr) := by
      unfold f_X2_lift_b33 f_X2_lift_b44
      rw [if_neg hz, if_neg hz]
    have hz' : ¬ gI μf 7 = 0 := by rw [← ef]; exact hz
    have e61 : f_X12_program_b61 μf = f_X12_program_b83 μf := by
      unfold f_X12_program_b61 f_X12_program_b72
      rw [if_neg hz', if_neg hz']
    exact ⟨τr, μf, e33, e61, ⟨ef, ep⟩, fun w => absurd w hz, kf⟩
