/-- all functions without parameters get their cells -/
theorem sl_all {τ μ0 : S5} {F k T : Nat} {pa nv D E : Nat → Nat} (hS : PSt τ μ0 F k T pa nv) (hD : DSt τ μ0 F T pa nv D) (hE : ESt τ μ0 F T nv E) {σb μb : S5} (hPb : eqP τ σb) (hQb : eqQ μ0 μb) (hF : gI μ0 22 = nI F) : ∀ (q i : Nat) (σ μ : S5) (n : Nat) (tg ct : Nat → Nat), i + q = k → SLi τ μ0 F T pa nv D E σb μb σ μ n tg ct i → ∃ σ' μ' n' tg' ct', SLi τ μ0 F T pa nv D E σb μb σ' μ' n' tg' ct' k ∧ (∀ N, f_X3_start_L36 (N + q) (nI i) σ = f_X3_start_L36 N (nI k) σ') ∧ ∀ N, f_X12_run_L101 (N + q) (nI i) μ = f_X12_run_L101 N (nI k) μ' := by
  obtain ⟨⟨k1, k2, k3⟩, -, ⟨h5, h13⟩, -, hfs⟩ := id hS
  intro q
  induction q with
  | zero =>
    intro i σ μ n tg ct hi h
    obtain rfl : i = k := by omega
    exact ⟨σ, μ, n, tg, ct, h, fun _ => rfl, fun _ => rfl⟩
  | succ q ih =>
    intro i σ μ n tg ct hi h
    obtain ⟨-, -, -, -, ⟨c1, c2, c3, c4, c5⟩, ⟨m1, m2, m3, m4, m5⟩⟩ := id h
    have hP : eqP τ σ := ⟨fun j hj => (c1 j).trans (hPb.1 j hj), fun j hj => (c3 j (by omega) (by omega)).trans (hPb.2.1 j hj), fun j hj => (c4 j (by omega)).trans (hPb.2.2 j hj)⟩
    have hQ : eqQ μ0 μ := ⟨fun j hj => (m1 j (by omega) (by omega) (by omega) (by omega) (by omega)).trans (hQb.1 j hj), fun j hj => (m3 j (by omega) (by omega) (by omega) (by omega)).trans (hQb.2.1 j hj), fun j hj => (m4 j (by omega)).trans (hQb.2.2 j hj)⟩
    have hik : i < k := by omega
    have hiF : i < F := by omega
    obtain ⟨⟨p1, p2, p3, p4⟩, -, -⟩ := hfs i hiF
    have e5 : gI σ 5 = nI k := (hP.1 5 (by omega)).trans h5
    have e22 : gI μ 22 = nI F := (hQ.1 22 (by omega)).trans hF
    have n5 : ¬ nI k ≤ nI i := fun w => absurd ((lp_le (by omega) (by omega)).mp w) (by omega)
    have n22 : ¬ nI F ≤ nI i := fun w => absurd ((lp_le (by omega) (by omega)).mp w) (by omega)
    by_cases hz : pa i = 0
    · obtain ⟨σ1, μ1, r, w1, w2, w3, w4, w5⟩ := sl_one hS hD hE hPb hQb hik h hz
      obtain ⟨σ', μ', n', tg', ct', a1, a2, a3⟩ := ih (i + 1) _ _ _ _ _ (by omega) w5
      refine ⟨σ', μ', n', tg', ct', a1, fun N => ?_, fun N => ?_⟩
      · rw [← a2 N]
        show f_X3_start_B36 _ _ _ = _
        unfold f_X3_start_B36 f_X3_start_b83
        rw [e5, if_neg n5, gdn (by omega) (by omega), hP.x 3 _ (by decide), p1, if_pos (by rw [hz]; rfl), gdn (by omega) (by omega), w1, bd_of, gq_e w2, gq_e w3, gdn (by omega) (by omega), nI_add1]
        rfl
      · rw [← a3 N]
        show f_X12_run_B101 _ _ _ = _
        unfold f_X12_run_B101 f_X12_run_b141
        rw [e22, if_neg n22, gdn (by omega) (by omega), hQ.x 47 _ (by decide), p2, if_pos (by rw [hz]; rfl), gdn (by omega) (by omega), w4, bd_of, gdn (by omega) (by omega), nI_add1]
        rfl
    · have h' : SLi τ μ0 F T pa nv D E σb μb σ μ n tg ct (i + 1) := by
        obtain ⟨b1, b2, b3, ⟨b4, b5, b6, b7⟩, b8, b9⟩ := h
        refine ⟨b1, b2, fun g hg hpg => ?_, ⟨by omega, by omega, by omega, by omega⟩, b8, b9⟩
        by_cases e : g = i
        · subst e
          exact absurd hpg hz
        · exact b3 g (by omega) hpg
      obtain ⟨σ', μ', n', tg', ct', a1, a2, a3⟩ := ih (i + 1) _ _ _ _ _ (by omega) h'
      have hnz : ¬ nI (pa i) = 0 := fun w => hz (nI_injL (a := pa i) (b := 0) (by omega) (by omega) w)
      refine ⟨σ', μ', n', tg', ct', a1, fun N => ?_, fun N => ?_⟩
      · rw [← a2 N]
        show f_X3_start_B36 _ _ _ = _
        unfold f_X3_start_B36 f_X3_start_b83
        rw [e5, if_neg n5, gdn (by omega) (by omega), hP.x 3 _ (by decide), p1, if_neg hnz, nI_add1]
        rfl
      · rw [← a3 N]
        show f_X12_run_B101 _ _ _ = _
        unfold f_X12_run_B101 f_X12_run_b141
        rw [e22, if_neg n22, gdn (by omega) (by omega), hQ.x 47 _ (by decide), p2, if_neg hnz, nI_add1]
        rfl
/-- the others are passed by -/
theorem sk101 {τ μ0 : S5} {F k T : Nat} {pa nv : Nat → Nat} (hS : PSt τ μ0 F k T pa nv) {μ : S5} (hQ : eqQ μ0 μ) (hF : gI μ0 22 = nI F) : ∀ (q i N : Nat), i + q = F → k ≤ i → f_X12_run_L101 (N + q) (nI i) μ = f_X12_run_L101 N (nI F) μ
  | 0, i, N, h, _ => by
    obtain rfl : i = F := by omega
    rfl
  | q + 1, i, N, h, hk => by
    obtain ⟨⟨k1, k2, k3⟩, -, -, -, hfs⟩ := id hS
    obtain ⟨⟨p1, p2, p3, p4⟩, -, -⟩ := hfs i (by omega)
    have := p4 hk
    rw [← sk101 hS hQ hF q (i + 1) N (by omega) (by omega)]
    show f_X12_run_B101 _ _ _ = _
    unfold f_X12_run_B101 f_X12_run_b141
    rw [show gI μ 22 = nI F from (hQ.1 22 (by omega)).trans hF, if_neg (fun w => absurd ((lp_le (by omega) (by omega)).mp w) (by omega)), gdn (by omega) (by omega), hQ.x 47 _ (by decide), p2, if_neg (show ¬ nI (pa i) = 0 from fun w => by have := nI_injL (a := pa i) (b := 0) (by omega) (by omega) w; omega), nI_add1]
    rfl
/-- main, on both sides -/
def MNs (τ μ0 : S5) (k : Nat) (pa : Nat → Nat) : Prop := ∃ mf, mf < k ∧ gI τ 7 = nI mf ∧ pa mf = 0 ∧ ∀ μ, eqQ μ0 μ → f_X12_mainFunction μ = some (nI mf, μ)
theorem cr_o {σ : S5} (h : ¬ xA σ 40 0 = 0) {i N : Nat} (hi : i ≤ 100000000) : f_X3_start_L123 (N + 1) (nI i) σ = some ((), σ) := by
  show f_X3_start_B123 _ _ _ = _
  unfold f_X3_start_B123
  rw [if_neg h]
  by_cases e : 100000000 ≤ nI i
  · rw [if_pos e]
  · rw [if_neg e]
/-- A RUN, on both sides -/
theorem run_go {τ μ0 : S5} {F k T : Nat} {pa nv D E : Nat → Nat} (hS : PSt τ μ0 F k T pa nv) (hD : DSt τ μ0 F T pa nv D) (hE : ESt τ μ0 F T nv E) (hB : NDb τ μ0 F pa) (hMk : MKb τ μ0 F T nv) (hF : gI μ0 22 = nI F) (hMn : MNs τ μ0 k pa) {σ μ : S5} (hP : eqP τ σ) (hQ : eqQ μ0 μ) (h35 : gI σ 65 = gI μ 35) (h36 : gI σ 64 = gI μ 36) (hL1 : Ln 11 (gN σ 1)) (hL3 : Ln 9 (gN σ 3)) {a1 : Int32} (ha1 : a1 = 0 ∨ a1 = 1) {c : Nat} (hc : c ≤ 800) : ∃ σ' μ', f_X3_start a1 (nI c) σ = some ((), σ') ∧ f_X12_run_b62 a1 (nI c) 0 μ = some (gI μ' 44, μ') ∧ OV σ' μ' ∧ ((∀ j, ¬ (40 ≤ j ∧ j ≤ 47) → gI σ' j = gI σ j) ∧ (∀ j, ¬ j = 5 → gJ σ' j = gJ σ j) ∧ (∀ j, ¬ (40 ≤ j ∧ j ≤ 43) → gA σ' j = gA σ j) ∧ (∀ j, ¬ (12 ≤ j ∧ j ≤ 14) → gB σ' j = gB σ j) ∧ ∀ j, ¬ j = 1 → ¬ j = 3 → gN σ' j = gN σ j) ∧ ((∀ j, ¬ j = 0 → ¬ (32 ≤ j ∧ j ≤ 55) → gI μ' j = gI μ j) ∧ (∀ j, ¬ j = 1 → gJ μ' j = gJ μ j) ∧ (∀ j, ¬ (53 ≤ j ∧ j ≤ 64) → gA μ' j = gA μ j) ∧ (∀ j, ¬ (6 ≤ j ∧ j ≤ 10) → gB μ' j = gB μ j)) ∧ gI μ' 0 = 0 ∧ (Ln 11 (gN σ' 1) ∧ Ln 9 (gN σ' 3) ∧ gN σ 1 ≤ gN σ' 1 ∧ gN σ 3 ≤ gN σ' 3) := by
  have hbig := FU_big2
  obtain ⟨⟨k1, k2, k3⟩, -, ⟨h5, h13⟩, -, hfs⟩ := id hS
  obtain ⟨mf, f1, f2, f3, f4⟩ := hMn
  have l1 := hL1.b
  have l3 := hL3.b
  -- the start
  obtain ⟨σ1, fo1, fo2, fo3, fo4, fo5, fo6, fo7, fo8⟩ := fo_go σ
  obtain ⟨μ1, cr1, cr2, cr3, cr4, cr5, cr6, cr7⟩ := cr_go (pI μ 0 0)
  obtain ⟨σb, eb⟩ : ∃ z, z = pI (pI (pI (pI (pI (pI σ1 46 a1) 47 (nI c)) 40 0) 41 0) 42 0) 43 0 := ⟨_, rfl⟩
  obtain ⟨μb, em⟩ : ∃ z, z = pI (pI (pI (pI μ1 47 a1) 37 (nI c)) 32 0) 33 0 := ⟨_, rfl⟩
  have bI : ∀ j, ¬ (40 ≤ j ∧ j ≤ 43) → ¬ j = 46 → ¬ j = 47 → gI σb j = gI σ j := fun j x y z => by rw [eb, gI_pI, if_neg (by omega), gI_pI, if_neg (by omega), gI_pI, if_neg (by omega), gI_pI, if_neg (by omega), gI_pI, if_neg z, gI_pI, if_neg y, fo2]
  have bJ : ∀ j, gJ σb j = gJ σ j := fun j => by rw [eb]; exact fo3 j
  have bA : ∀ j, ¬ j = 40 → ¬ j = 41 → gA σb j = gA σ j := fun j x y => by rw [eb]; exact fo4 j x y
  have bB : ∀ j, gB σb j = gB σ j := fun j => by rw [eb]; exact fo5 j
  have bN : ∀ j, gN σb j = gN σ j := fun j => by rw [eb]; exact congrFun fo6 j
  have b40 : ∀ x, x < 10 → gA σb 40 x = 0 := fun x hx => by rw [eb]; exact fo7 x hx
  have b41 : ∀ x, x < 630 → gA σb 41 x = 0 := fun x hx => by rw [eb]; exact fo8 x hx
  have mI : ∀ j, ¬ j = 47 → ¬ j = 37 → ¬ j = 32 → ¬ j = 33 → gI μb j = if j = 44 ∨ j = 45 ∨ j = 38 ∨ j = 34 ∨ j = 39 ∨ j = 40 ∨ j = 41 ∨ j = 42 ∨ j = 43 ∨ j = 46 then 0 else gI (pI μ 0 0) j := fun j x y z w => by rw [em, gI_pI, if_neg w, gI_pI, if_neg z, gI_pI, if_neg y, gI_pI, if_neg x, cr2]
  have mJ : ∀ j, gJ μb j = gJ μ j := fun j => by rw [em]; exact cr3 j
  have mA : ∀ j, ¬ j = 57 → gA μb j = gA μ j := fun j x => by rw [em]; exact cr4 j x
  have mB : ∀ j, gB μb j = gB μ j := fun j => by rw [em]; exact cr5 j
  have m57 : ∀ x, x < 640 → gA μb 57 x = 0 := fun x hx => by rw [em]; exact cr7 x hx
  have mz : ∀ j, (j = 44 ∨ j = 45 ∨ j = 38 ∨ j = 34 ∨ j = 39 ∨ j = 40 ∨ j = 41 ∨ j = 42 ∨ j = 43 ∨ j = 46) → gI μb j = 0 := fun j w => by rw [mI j (by omega) (by omega) (by omega) (by omega), if_pos w]
  have mo : ∀ j, ¬ j = 0 → ¬ (32 ≤ j ∧ j ≤ 47 ∧ ¬ j = 35 ∧ ¬ j = 36) → gI μb j = gI μ j := fun j w w' => by rw [mI j (by omega) (by omega) (by omega) (by omega), if_neg (by omega), gI_pI, if_neg w]
  have m0 : gI μb 0 = 0 := by rw [mI 0 (by omega) (by omega) (by omega) (by omega), if_neg (by omega)]; rfl
  have m47 : gI μb 47 = a1 := by rw [em]; rfl
  have m37 : gI μb 37 = nI c := by rw [em]; rfl
  have m32 : gI μb 32 = nI 0 := by rw [em]; rfl
  have m33 : gI μb 33 = nI 0 := by rw [em]; rfl
  have bb46 : gI σb 46 = a1 := by rw [eb]; rfl
  have bb47 : gI σb 47 = nI c := by rw [eb]; rfl
  have hPb : eqP τ σb := ⟨fun j hj => (bI j (by omega) (by omega) (by omega)).trans (hP.1 j hj), fun j hj => (bA j (by omega) (by omega)).trans (hP.2.1 j hj), fun j hj => (bB j).trans (hP.2.2 j hj)⟩
  have hQb : eqQ μ0 μb := ⟨fun j hj => (mo j (by omega) (by omega)).trans (hQ.1 j hj), fun j hj => (mA j (by omega)).trans (hQ.2.1 j hj), fun j hj => (mB j).trans (hQ.2.2 j hj)⟩
  have z0 : nI 0 = 0 := rfl
  have hS0 : SLi τ μ0 F T pa nv D E σb μb σb μb 0 (fun _ => 0) (fun _ => 0) 0 := by
    refine ⟨⟨⟨m32, m33, Nat.zero_le _, by rw [mz 34 (by omega)]; rfl, by rw [b40 3 (by omega)]; rfl⟩, fun c hc => absurd hc (Nat.not_lt_zero c)⟩, ⟨⟨⟨?_, ?_, ?_, ?_, ?_, ?_, ?_, ?_, ?_, ?_, ?_, ?_, ?_, ?_⟩, ?_, ?_, ?_, ?_⟩, mz 44 (by omega)⟩, fun g hg => absurd hg (Nat.not_lt_zero g), ⟨Nat.le_refl _, Nat.le_refl _, Nat.zero_le _, Nat.zero_le _⟩, ⟨fun _ => rfl, fun _ => rfl, fun _ _ _ => rfl, fun _ _ => rfl, rfl⟩, ⟨fun _ _ _ _ _ _ => rfl, fun _ => rfl, fun _ _ _ _ _ => rfl, fun _ _ => rfl, rfl⟩⟩
    · rw [b40 0 (by omega), mz 44 (by omega)]
    · rw [b40 1 (by omega), mz 45 (by omega)]
    · rw [b40 2 (by omega), mz 38 (by omega)]
    · rw [b40 3 (by omega), mz 34 (by omega)]
    · rw [b40 4 (by omega), mz 39 (by omega)]
    · rw [b40 5 (by omega), mz 40 (by omega)]
    · rw [b40 6 (by omega), mz 41 (by omega)]
    · rw [b40 7 (by omega), mz 42 (by omega)]
    · rw [b40 8 (by omega), mz 43 (by omega)]
    · rw [b40 9 (by omega), mz 46 (by omega)]
    · rw [mz 46 (by omega)]; decide
    · rw [mz 46 (by omega)]; decide
    · intro i hi
      rw [mz 46 (by omega)] at hi
      exact absurd hi (Nat.not_lt_zero i)
    · intro f hf
      rw [b41 f hf, m57 f (by omega)]
    · rw [mo 35 (by omega) (by omega), bI 65 (by omega) (by omega) (by omega), b40 3 (by omega), ← h35, Int32.add_zero]
    · rw [mo 36 (by omega) (by omega), bI 64 (by omega) (by omega) (by omega), b40 2 (by omega), ← h36, Int32.add_zero]
    · rw [m37, b40 2 (by omega), bb47, Int32.add_zero]
    · rw [bb46, m47]
  obtain ⟨σ2, μ2, n, tg, ct, s1, s2, s3⟩ := sl_all hS hD hE hPb hQb hF k 0 σb μb 0 _ _ (by omega) hS0
  obtain ⟨hH, ⟨hn, h0⟩, hG, ⟨t1, t1', t2, t3⟩, ⟨c1, c2, c3, c4, c5⟩, ⟨d1, d2, d3, d4, d5⟩⟩ := id s1
  have hP2 : eqP τ σ2 := ⟨fun j hj => (c1 j).trans (hPb.1 j hj), fun j hj => (c3 j (by omega) (by omega)).trans (hPb.2.1 j hj), fun j hj => (c4 j (by omega)).trans (hPb.2.2 j hj)⟩
  have hQ2 : eqQ μ0 μ2 := ⟨fun j hj => (d1 j (by omega) (by omega) (by omega) (by omega) (by omega)).trans (hQb.1 j hj), fun j hj => (d3 j (by omega) (by omega) (by omega) (by omega)).trans (hQb.2.1 j hj), fun j hj => (d4 j (by omega)).trans (hQb.2.2 j hj)⟩
  obtain ⟨cm, g1, g2, g3, g4⟩ := hG mf f1 f3
  have N2 : ∀ j, gN σ2 j = gN σ j := fun j => (congrFun c5 j).trans (bN j)
  have hC2 : MC σ2 0 0 0 0 := ⟨⟨by rw [c1, eb]; rfl, by rw [c1, eb]; rfl, by rw [c1, eb]; rfl, by rw [c1, eb]; rfl⟩, by rw [N2]; exact hL1, Nat.zero_le _, by rw [N2]; exact hL3, Nat.zero_le _⟩
  obtain ⟨σ3, p1, p2, p3, p4, p5, p6, p7⟩ := push_c hC2 (by omega) (fr 9 0 0)
  -- the other's start
  obtain ⟨μ3, e3⟩ : ∃ z, z = pI (pI (pI (pI (pI (pB (pI μ2 55 1) 10 0 (vv 3 (nI cm))) 55 0) 48 0) 49 0) 50 0) 51 0 := ⟨_, rfl⟩
  have uI : ∀ j, ¬ (48 ≤ j ∧ j ≤ 51) → ¬ j = 55 → gI μ3 j = gI μ2 j := fun j w w' => by
    rw [e3, gI_pI, if_neg (by omega), gI_pI, if_neg (by omega), gI_pI, if_neg (by omega), gI_pI, if_neg (by omega), gI_pI, if_neg w']
    show gI (pI μ2 55 1) j = _
    rw [gI_pI, if_neg w']
  have uJ : ∀ j, gJ μ3 j = gJ μ2 j := fun j => by rw [e3]; rfl
  have uA : ∀ j, gA μ3 j = gA μ2 j := fun j => by rw [e3]; rfl
  have uB : ∀ j, ¬ j = 10 → gB μ3 j = gB μ2 j := fun j w => by
    rw [e3]
    show gB (pB (pI μ2 55 1) 10 0 (vv 3 (nI cm))) j = _
    rw [gB_pB_ne w]
    rfl
  have uN : μ3.2.2.2.2 = μ2.2.2.2.2 := by rw [e3]; rfl
  have F3 : FmC σ2 σ3 := p3.fm
  have Q3 : FqM μ2 μ3 := ⟨fun j w w' => uI j (by omega) (by omega), fun j _ => uJ j, fun j _ => uA j, fun j w => uB j (by omega), uN⟩
  have hP3 := hP2.fm F3
  have hQ3 := hQ2.fq Q3
  have hH3 : HS τ μ0 F T pa nv σ3 μ3 n tg ct (fun _ => True) := hH.of (by rw [p3.2.2.1]) (p3.2.2.2.1 14 (by decide)) (fun j _ _ => uI j (by omega) (by omega)) (fun j _ _ => uA j) (uB 6 (by decide)) (uB 7 (by decide))
  have hN3 : NR σ3 μ3 := hn.st (fun x _ => by rw [p3.2.2.1]) (p3.2.2.1 41) (p3.2.2.1 42) (fun j w => p3.1 j (by omega)) (fun j w => uI j (by omega) (by omega)) (uA 57) (uA 58)
  have esp : ∀ G : Nat → Nat, spC G μ3 = spC G μ2 := fun G => funext (fun x => by unfold spC; rw [uA, uA])
  have hMb : MSb τ μ0 F k T pa nv D E σ3 μ3 1 σ3 μ3 n tg ct [] 1 0 0 0 0 0 0 0 (1470000 + 49020 * c) := by
    refine ⟨⟨FmC.rf _, FmM.rf _, OLD.rf hH3⟩, hH3, ⟨hN3, by rw [uI 44 (by omega) (by omega)]; exact h0⟩, p2, ⟨by rw [e3]; rfl, by rw [e3]; rfl, by rw [e3]; rfl, by rw [e3]; rfl⟩, ⟨rfl, rfl, rfl, rfl, rfl, rfl, rfl, fun _ _ => rfl⟩, ?_, ⟨Nat.zero_le _, by omega, 0, c, ?_, ?_, by omega, Nat.zero_le _, ?_, ?_⟩⟩
    · unfold GLB
      rw [p3.2.2.1 43, uA 64]
      exact hG
    · rw [uI 38 (by omega) (by omega), d1 38 (by omega) (by omega) (by omega) (by omega) (by omega)]; exact mz 38 (by omega)
    · rw [uI 37 (by omega) (by omega), d1 37 (by omega) (by omega) (by omega) (by omega) (by omega)]; exact m37
    · rw [esp]
      show 0 + _ + 0 + 0 ≤ _
      omega
    · rw [esp]
      show _ + 0 + _ ≤ _
      omega
  have hvl : VL τ F pa n tg ct (vv 6 (nI (adr tg ct cm))) (vv 3 (nI cm)) := Or.inr (Or.inr (Or.inr ⟨cm, g1, Or.inr (Or.inr g2), by rw [g2]; rfl, rfl⟩))
  obtain ⟨σ4, μ4, j, σ7, μ7, k1', k2', ⟨k3', k4'⟩, k5', ⟨k6, k7⟩, k8, k9⟩ := ws_go (L := []) (s := 0) (rc := 0) (Y := 100000) hS hD hE hB hMk hP3 hQ3 F3 Q3 hMb ⟨rfl, rfl⟩ (by rw [e3]; rfl) (by rw [uI 46 (by omega) (by omega), d1 46 (by omega) (by omega) (by omega) (by omega) (by omega)]; exact mz 46 (by omega)) (by omega) (Nat.zero_le _) (by show 100 * (1000 - 0) + 0 ≤ _; omega) p4 (by omega) hvl
  obtain ⟨j2, σ', μ', q1, q2, q3, ⟨q4, q5⟩, q6⟩ : ∃ j2 σ' μ', j + j2 ≤ 90000000 ∧ CRn (j + j2) σ4 σ' ∧ (∀ N, 90000000 ≤ N → f_X12_run_L171 N μ7 = some (gI μ' 44, μ')) ∧ (gN σ4 1 ≤ gN σ' 1 ∧ gN σ4 3 ≤ gN σ' 3) ∧ OVq σ2 μ2 σ' μ' := by
    rcases k9 with ⟨n', tg', ct', L', R', Y', hT, hle⟩ | ⟨hov, hle⟩
    · obtain ⟨j2, σ', μ', b1, b2, b3, ⟨b4, b5⟩, b6⟩ := top_go hS hD hE hB hMk hP2 hQ2 (R' + Y') σ7 μ7 n' tg' ct' L' R' Y' (Nat.le_refl _) (by omega) hT
      exact ⟨j2, σ', μ', by omega, k5'.tr b2, fun N hN => b3 N (by omega), ⟨by omega, by omega⟩, b6⟩
    · refine ⟨0, σ7, μ7, by omega, k5', fun N hN => ?_, ⟨k6, k7⟩, hov⟩
      obtain ⟨N, rfl⟩ : ∃ n, N = n + 1 := ⟨N - 1, by omega⟩
      exact b226_o hov.1.2 N
  obtain ⟨o1, o2, o3, o4, o5⟩ := q6
  refine ⟨σ', μ', ?_, ?_, o1, ⟨fun j w => ?_, fun j w => ?_, fun j w => ?_, fun j w => ?_, fun j w w' => ?_⟩, ⟨fun j w w' => ?_, fun j w => ?_, fun j w => ?_, fun j w => ?_⟩, ?_, o4, o5, ?_, ?_⟩
  · unfold f_X3_start
    rw [fo1, bd_of, gq_e (show gN σ1 1 = gN σ 1 from congrFun fo6 1), gq_e (show gN σ1 3 = gN σ 3 from congrFun fo6 3), ← eb]
    unfold g_t
    rw [if_pos ha1]
    have s2' := s2 (FU - k)
    rw [show FU - k + k = FU by omega] at s2'
    rw [show f_X3_start_L36 FU 0 σb = f_X3_start_L36 (FU - k) (nI k) σ2 from s2']
    obtain ⟨N, hN⟩ : ∃ N, FU - k = N + 1 := ⟨FU - k - 1, by omega⟩
    rw [hN]
    show f_X3_start_B36 _ _ _ = _
    unfold f_X3_start_B36 f_X3_frame
    rw [show gI σ2 5 = nI k from (hP2.1 5 (by omega)).trans h5, if_pos (Int32.le_refl _), bd_of, gq_r, gq_r, show (((j_lshl ((9 : Int32).toInt64) 56) ||| (j_lshl ((0 : Int32).toInt64) 28)) ||| ((0 : Int32).toInt64)) = fr 9 0 0 from rfl, p1, bd_of, gl_e p6, gl_e (Nat.le_of_eq p7.symm)]
    unfold f_X3_start_b100 f_X3_start_b121
    rw [show gI σ3 7 = nI mf from (hP3.1 7 (by omega)).trans f2, gdn (by omega) (by omega), show xA σ3 43 (nI mf) = nI (adr tg ct cm) by rw [xA_n (by omega), p3.2.2.1 43]; exact g3, vv_go, bd_of, gq_r, gq_r, k1', bd_of, gl_e k3', gl_e k4']
    have q2' := q2 0 (FU - (j + j2)) (by omega)
    rw [show FU - (j + j2) + (j + j2) = FU by omega] at q2'
    rw [show f_X3_start_L123 FU 0 σ4 = f_X3_start_L123 (FU - (j + j2)) (nI (0 + (j + j2))) σ' from q2']
    obtain ⟨M, hM⟩ : ∃ M, FU - (j + j2) = M + 1 := ⟨FU - (j + j2) - 1, by omega⟩
    rw [hM]
    exact cr_o o1.c (by omega)
  · unfold f_X12_run_b62
    rw [if_pos (by decide), cr1, bd_of, ← em]
    unfold g_t
    rw [if_pos ha1]
    have s3' := s3 (FU - k)
    rw [show FU - k + k = FU by omega] at s3'
    rw [show f_X12_run_L101 FU 0 μb = f_X12_run_L101 (FU - k) (nI k) μ2 from s3']
    have hsk := sk101 hS hQ2 hF (F - k) k (FU - k - (F - k)) (by omega) (Nat.le_refl _)
    rw [show FU - k - (F - k) + (F - k) = FU - k by omega] at hsk
    rw [hsk]
    obtain ⟨N, hN⟩ : ∃ N, FU - k - (F - k) = N + 1 := ⟨FU - k - (F - k) - 1, by omega⟩
    rw [hN]
    show f_X12_run_B101 _ _ _ = _
    unfold f_X12_run_B101 f_X12_value
    have hq55 : eqQ μ0 (pI μ2 55 1) := ⟨fun j hj => by rw [gI_pI, if_neg (by omega)]; exact hQ2.1 j hj, hQ2.2.1, hQ2.2.2⟩
    rw [show gI μ2 22 = nI F from (hQ2.1 22 (by omega)).trans hF, if_pos (Int32.le_refl _), f4 _ hq55, bd_of, gdn (by omega) (by omega), bd_of, show xA (pI μ2 55 1) 64 (nI mf) = nI cm from (by
      show gA μ2 64 (nI mf).toNatClampNeg = _
      rw [nI_clamp (by omega)]
      exact g4)]
    obtain ⟨M, hM⟩ : ∃ M, FU = M + 1 := ⟨FU - 1, by omega⟩
    have hL : f_X12_run_L171 FU (pB (pI μ2 55 1) 10 0 (vv 3 (nI cm))) = some (gI μ' 44, μ') := by
      rw [hM]
      show f_X12_run_B171 _ _ = _
      unfold f_X12_run_B171 f_X12_workOut
      rw [if_pos (show gI (pB (pI μ2 55 1) 10 0 (vv 3 (nI cm))) 44 = 0 from h0), show gI (pB (pI μ2 55 1) 10 0 (vv 3 (nI cm))) 55 = nI 1 from rfl, if_neg (by decide), show nI 1 - 1 = nI 0 by decide, gdn (by omega) (by omega), show xB (pB (pI μ2 55 1) 10 0 (vv 3 (nI cm))) 10 (nI 0) = vv 3 (nI cm) from (by
        rw [xB_at (by omega)]
        exact gB_s (i := 0) (by omega)), show (pI (pI (pI (pI (pI (pB (pI μ2 55 1) 10 0 (vv 3 (nI cm))) 55 (nI 0)) 48 0) 49 0) 50 0) 51 0) = μ3 from e3.symm, k2', bd_of, k8]
      exact q3 M (by omega)
    exact hL
  · rw [o2.1 j (by omega), c1, bI j (by omega) (by omega) (by omega)]
  · rw [o2.2.1 j w, c2, bJ]
  · rw [o2.2.2.1 j (by omega), c3 j (by omega) (by omega), bA j (by omega) (by omega)]
  · rw [o2.2.2.2.1 j w, c4 j (by omega), bB]
  · rw [o2.2.2.2.2 j w w', N2]
  · rw [o3.1 j (by omega) (by omega), d1 j (by omega) (by omega) (by omega) (by omega) (by omega), mo j w (by omega)]
  · rw [o3.2.1 j w, d2, mJ]
  · rw [o3.2.2.1 j (by omega), d3 j (by omega) (by omega) (by omega) (by omega), mA j (by omega)]
  · rw [o3.2.2.2.1 j w, d4 j (by omega), mB]
  · rw [o3.1 0 (by omega) (by omega), d1 0 (by omega) (by omega) (by omega) (by omega) (by omega)]; exact m0
  · have := N2 1
    omega
  · have := N2 3
    omega
