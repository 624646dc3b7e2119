theorem m_giv0 {μ : S5} {n : Int32} (z : Int64) (hn0 : 0 ≤ n) (hn1 : n < 3200) (h : xA μ 10 n = 0) : f_X12_isGiven n z μ = some (0, μ) := by
  unfold f_X12_isGiven
  obtain ⟨m, hm⟩ := FU_s
  rw [hm]
  show f_X12_isGiven_B6 _ _ _ _ _ _ = _
  unfold f_X12_isGiven_B6
  rw [gd3200 hn0 hn1, h, if_pos (by decide)]
  rfl
theorem m_pmB {μ μ1 μ' : S5} {n v : Int32} (m : Nat) (h7 : gI μ 7 = 0) (h3 : gI μ 4 = 3) (hn0 : 0 ≤ n) (hn1 : n < 3200) (h2 : xA μ 2 n = 1) (h10 : xA μ 10 n = 0) (hp : ¬ gI μ 11 = 600) (e1 : f_X12_next (mP μ) = some ((), μ1)) (e2 : gI μ1 7 = 0) (e3 : f_X12_giveName n (gJ μ 0) μ1 = some ((), μ')) : f_X12_parameters_L10 (m + 1) n v μ = f_X12_parameters_L10 m n v μ' := by
  show f_X12_parameters_B10 (f_X12_parameters_L10 m) _ _ _ = _
  unfold f_X12_parameters_B10 f_X12_parameters_b35 f_X12_parameters_b67 f_X12_parameters_b94
  rw [if_pos h7, if_pos h3, if_pos h3, m_giv0 _ hn0 hn1 h10, bd_of, if_pos rfl, if_pos h3, gd3200 hn0 hn1, if_neg (by rw [h10]; decide), gd3200 hn0 hn1, if_pos h2, gd3200 hn0 hn1, if_pos h10, if_pos h3, if_pos h7, m_part0 h7 hp, bd_of]
  unfold f_X12_parameters_b138 f_X12_parameters_b152 f_X12_parameters_b168
  rw [if_pos (show gI (pI (pI μ 11 (gI μ 11 + 1)) 12 (gI μ 12 + 1)) 4 = 3 from h3), m_acc1 (μ := pI (pI μ 11 (gI μ 11 + 1)) 12 (gI μ 12 + 1)) h7, show pI (pI μ 11 (gI μ 11 + 1)) 12 (gI μ 12 + 1) = mP μ from rfl, e1, bd_of, if_pos e2, e3, bd_of]
theorem m_pm6 {μ : S5} {n v : Int32} (m : Nat) (h7 : gI μ 7 = 0) (h3 : gI μ 4 = 3) (hn0 : 0 ≤ n) (hn1 : n < 3200) (h2 : xA μ 2 n = 1) (h10 : xA μ 10 n = 0) (hp : gI μ 11 = 600) : f_X12_parameters_L10 (m + 2) n v μ = some ((), pI (pI μ 7 4) 8 (gI μ 5)) := by
  show f_X12_parameters_B10 (f_X12_parameters_L10 (m + 1)) _ _ _ = _
  unfold f_X12_parameters_B10 f_X12_parameters_b35 f_X12_parameters_b67 f_X12_parameters_b94
  have hF : ¬ gI (pI (pI μ 7 4) 8 (gI μ 5)) 7 = 0 := (by decide : ¬ (4 : Int32) = 0)
  rw [if_pos h7, if_pos h3, if_pos h3, m_giv0 _ hn0 hn1 h10, bd_of, if_pos rfl, if_pos h3, gd3200 hn0 hn1, if_neg (by rw [h10]; decide), gd3200 hn0 hn1, if_pos h2, gd3200 hn0 hn1, if_pos h10, if_pos h3, if_pos h7, m_part1 h7 hp, bd_of]
  unfold f_X12_parameters_b138 f_X12_parameters_b152 f_X12_parameters_b168
  rw [if_pos (show gI (pI (pI μ 7 4) 8 (gI μ 5)) 4 = 3 from h3), m_accF (μ := pI (pI μ 7 4) 8 (gI μ 5)) 1 hF, bd_of, if_neg hF]
  exact m_pmF m hF
/-- a binding with parameters, behind its name -/
def bL (E : S5 → Option (Int32 × S5)) (w pl : Int32) (σ : S5) : Option (Int32 × S5) := bd (f_X5_countPart σ) (fun _ τ29 => bd (f_X5_readLifted E pl τ29) (fun r34 τ34 => f_X5_readBinding_b52 E w r34 τ34))
def bT (E : S5 → Option (Int32 × S5)) (w s : Int32) (σ : S5) : Option (Int32 × S5) := bd (f_X5_readWithin E s σ) (fun r79 τ79 => gd s 700 <| bd (f_X9_addLeaf 14 s (pA τ79 23 s r79)) (fun r90 τ90 => f_X5_readBinding_b52 E w r90 τ90))
theorem c_bL {σ1 : S5} {E : S5 → Option (Int32 × S5)} {w pl : Int32} (h3 : gI σ1 17 = 3) (hp : gI σ1 13 < 600) (h9 : 0 ≤ gI σ1 9) (h9' : gI σ1 9 < 700) : bL E w pl σ1 = bd (f_X5_readParameters (gI σ1 9) (cSc (cP σ1) (gI σ1 15) pl (gI σ1 9))) (fun _ τ => bd (f_X5_expect 61 τ) (fun _ ρ => bT E w (gI σ1 9) ρ)) := by
  have hadd := c_add61 (σ := cP σ1) (gI (cP σ1) 15) pl h9 h9'
  unfold bL
  rw [c_cnt0 hp (by rw [h3]; decide), bd_of]
  unfold f_X5_readLifted f_X5_readLifted_b17
  rw [if_neg (show ¬ gI (cP σ1) 17 = 92 by show ¬ gI σ1 17 = 92; rw [h3]; decide), hadd, bd_of, if_pos rfl]
  unfold f_X5_readLifted_b49 f_X5_readLifted_b66 bT
  rw [bd_as]
  have hgI : gI (cP σ1) 9 = gI σ1 9 := rfl
  have hgJ : gI (cP σ1) 15 = gI σ1 15 := rfl
  rw [hgI, hgJ]
  congr 1
  funext a τ
  rw [if_pos rfl, bd_as]
  congr 1
  funext b ρ
  rw [bd_as]
  congr 1
  funext d ω
  unfold gd
  split
  · rfl
  · rw [bd_as]
    congr 1
theorem st_bT {f p n : Int32} {σ : S5} {E : S5 → Option (Int32 × S5)} (hE : ∀ (f p n : Int32) (σ : S5), St f p n σ → E σ = some (0, σ)) (B : Int32 → Prop) {s w : Int32} (h : St f p n σ) (h0 : 0 ≤ s) (h1 : s < 700) : Qt (bT E w s σ) (fun r τ => Dm B f p n τ ∧ 0 ≤ r ∧ r < 6200) := by
  unfold bT
  rw [st_within hE h (by grind) h1, bd_of, gd700 h0 h1]
  refine Qt.bd (dm_leaf (B := B) _ _ (Dm23 _ _ (Or.inl h))) (fun r τ q => ?_)
  unfold f_X5_readBinding_b52
  rw [bd_eta']
  exact dm_add9 _ _ _ _ q.1
theorem dm_bR {f p n : Int32} {σ : S5} {E : S5 → Option (Int32 × S5)} (B : Int32 → Prop) {s r h w : Int32} (hD : Dm B f p n σ) (h0 : 0 ≤ s) (h1 : s < 700) (hh0 : -1 ≤ h) (hh1 : h < 700) : Qt (gd s 700 <| bd (f_X9_addLeaf 14 s (pA (pI σ 15 h) 23 s r)) (fun r90 τ90 => f_X5_readBinding_b52 E w r90 τ90)) (fun r τ => Dm B f p n τ ∧ 0 ≤ r ∧ r < 6200) := by
  rw [gd700 h0 h1]
  refine Qt.bd (dm_leaf _ _ (Dm23 _ _ (Dm15 hD hh0 hh1))) (fun r τ q => ?_)
  unfold f_X5_readBinding_b52
  rw [bd_eta']
  exact dm_add9 _ _ _ _ q.1
/-- both read the names of a binding that is a function -/
theorem b2_names {σ1 μ1 : S5} {v pl : Int32} (l1 : Sim σ1 μ1) (h3 : gI σ1 17 = 3) (hp : gI σ1 13 < 600) (h9 : gI μ1 9 = v + 1) (hv : 0 ≤ v) (w2 : xA μ1 2 v = 1) (w5 : xA μ1 5 v = -1) (w6 : xA μ1 6 v = pl) (w10 : xA μ1 10 v = 0) : (∃ (σ5 μ5 : S5) (j : Nat), f_X5_readParameters (gI σ1 9) (cSc (cP σ1) (gI σ1 15) pl (gI σ1 9)) = some ((), σ5) ∧ f_X12_parameters v 0 μ1 = some ((), μ5) ∧ Sim σ5 μ5 ∧ FHd 1 0 σ1 μ1 σ5 μ5 v pl pl (gI σ1 15) 1 (gI σ1 9) ∧ NM σ5 μ5 (gI σ1 9) v j ∧ 1 ≤ j ∧ xA μ5 9 v + nI j = gI μ5 10) ∨ (∃ (f q m : Int32) (σ5 μ5 : S5), f_X5_readParameters (gI σ1 9) (cSc (cP σ1) (gI σ1 15) pl (gI σ1 9)) = some ((), σ5) ∧ f_X12_parameters v 0 μ1 = some ((), μ5) ∧ St f q m σ5 ∧ gI μ5 7 = f ∧ gI μ5 8 = q ∧ gI μ5 11 = m ∧ gI μ5 12 - gI μ5 11 = gI μ1 12 - gI μ1 11 ∧ EqR μ1 μ5 ∧ gI μ5 16 = gI μ1 16) := by
  have hb1 := l1.2.2
  unfold Bg at hb1
  have hv2 : v < 3200 := by grind
  have hs00 : 0 ≤ gI σ1 9 ∧ gI σ1 9 < 700 := by grind
  have hm3 : gI μ1 4 = 3 := by rw [l1.1.2.2.1, h3]; decide
  obtain ⟨hS2, hF2, hN2, hg2, SI2, S13⟩ := fh_one l1 hp h9 hv w2 w5 w6 w10
  have hk2 : gI (cSc (cP σ1) (gI σ1 15) pl (gI σ1 9)) 17 = 3 := (SI2 17 (by decide) (by decide)).trans h3
  have hx10 : xA (mP (pA μ1 9 v (gI μ1 10))) 10 v = 0 := hN2.2.2.1
  obtain ⟨m, hm⟩ : ∃ m, FU = m + 9 := ⟨FU - 9, by have := FU_big (n := 5000) (by decide); omega⟩
  have hpar : f_X12_parameters v 0 μ1 = f_X12_parameters_L10 (m + 9) v 0 (pA μ1 9 v (gI μ1 10)) := by
    unfold f_X12_parameters
    rw [gd3200 hv hv2, hm]
  have hpc : f_X5_readParameters (gI σ1 9) (cSc (cP σ1) (gI σ1 15) pl (gI σ1 9)) = f_X5_readParameters_L2 (m + 9) (gI σ1 9) (nI 0) (cSc (cP σ1) (gI σ1 15) pl (gI σ1 9)) := by
    unfold f_X5_readParameters
    rw [hm]
    rfl
  have ha2 : xA (pA μ1 9 v (gI μ1 10)) 2 v = 1 := by rw [a9_A _ _ _ _ (by decide)]; exact w2
  have ha10 : xA (pA μ1 9 v (gI μ1 10)) 10 v = 0 := by rw [a9_A _ _ _ _ (by decide)]; exact w10
  have hd12 : gI (mP (pA μ1 9 v (gI μ1 10))) 12 - gI (mP (pA μ1 9 v (gI μ1 10))) 11 = gI μ1 12 - gI μ1 11 := hF2.2.2.2.2.2.1
  have hE2 : EqR μ1 (mP (pA μ1 9 v (gI μ1 10))) := hF2.2.1
  have h216 : gI (mP (pA μ1 9 v (gI μ1 10))) 16 = gI μ1 16 := hF2.2.2.2.2.2.2.2.1.2.2.1
  rw [hpar, hpc]
  rcases c_decl hS2 hN2 hs00.1 hs00.2 hv hv2 hk2 with ⟨e1, _⟩ | ⟨e1, ⟨e2, _⟩ | ⟨e2, e3⟩⟩
  · rw [m_giv0 _ hv hv2 hx10] at e1
    exact absurd (congrArg Prod.fst (Option.some.inj e1)) (by decide : ¬ (0 : Int32) = 1)
  · exact absurd e2 (by omega)
  · obtain ⟨σ3, μa, μ3, k1, k2, k3, k4, k5, k6, k7, k8, k9, k10, k11, k12, k13, k14, k15⟩ := nm_step hS2 hN2 e2 hs00.1 hs00.2 hv hv2 hk2 hg2 e3
    have hb2 := hS2.2.2
    have hp2 := hS2.p3
    unfold Bg at hb2
    have hPF : PmF (cSc (cP σ1) (gI σ1 15) pl (gI σ1 9)) σ3 (mP (pA μ1 9 v (gI μ1 10))) μ3 (gI σ1 9) v := by
      have i18 := iv_lt k14
      have m10 := iv_a1 k13 (by grind) (by grind)
      exact ⟨k8, k9, k10, k11, k12, by rw [k13]; grind, by grind, by omega⟩
    have hF3 := hF2.pm (d := 1) hPF (by have := iv_lt k14; omega)
    have hr := m_pmB (v := 0) (m + 8) (μ := pA μ1 9 v (gI μ1 10)) hb1.2.1 hm3 hv hv2 ha2 ha10 (by show ¬ gI μ1 11 = 600; rw [← hb1.2.2.1]; grind) k2 k4 k3
    have hc := c_pmN (v := nI 0) (m + 8) hk2 (by decide) k1
    rw [hr, hc, show nI 0 + 1 = nI 1 from rfl]
    rcases pm_loop (s := gI σ1 9) (n := v) (v := 0) hs00.1 hs00.2 hv hv2 4 1 1 (m + 8) (m + 8) σ3 μ3 (by omega) (by omega) (by omega) (by omega) k5 k6 k7 (Or.inr (by omega)) (by decide) with ⟨σ5, μ5, j, s1, s2, s3, s4, s5, s6, s7, s8⟩ | ⟨f, σ5, μ5, s1, s2, q, d1, d2, d3, d4, d5, d6, d7⟩
    · left
      have := hF3.pm (d := 0) s8 (by have := iv_le s8.2.2.2.2.2.2.1; omega)
      exact ⟨σ5, μ5, j, s1, s2, s3, this, s4, s5, s6⟩
    · right
      have hb3 := k5.2.2
      unfold Bg at hb3
      refine ⟨f, q, gI σ3 13, σ5, μ5, s1, s2, d1, d2, d3, by rw [d4]; exact hb3.2.2.1.symm, ?_, (hE2.tr k10).tr d6, ?_⟩
      · rw [d5, d4, k12 12 (by decide) (by decide), k12 11 (by decide) (by decide)]; exact hd12
      · rw [d7, k12 16 (by decide) (by decide)]; exact h216
