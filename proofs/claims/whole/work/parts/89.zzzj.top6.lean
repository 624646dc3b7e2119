theorem BH2.I20 {d : Int} {nk pk : Int32} {σ1 μ1 σ6 N : S5} {v pl pm h o : Int32} {j : Nat} (hH : BH2 d nk pk σ1 μ1 σ6 N v pl pm h o j) : BH2 d nk pk σ1 μ1 σ6 (pI N 20 1) v pl pm h o j := by
  obtain ⟨NS, SE6, NE, SC, NM', NP, N12, gs, gN, gy, gn, gz, gt, S18, hG6⟩ := hH
  exact ⟨NS.of ((EqR.rf N).I (by decide)) rfl rfl rfl rfl rfl rfl rfl rfl rfl rfl, SE6, NE.I (by decide), SC, NM', NP, N12, gs, gN, gy, gn, gz, gt, S18, hG6⟩
/-- a function's E and what follows it -/
def fT (E : S5 → Option (Int32 × S5)) (s : Int32) (σ : S5) : Option (Unit × S5) := bd (f_X5_readWithin E s σ) (fun r133 τ133 => gd s 700 <| bd (f_X5_expect 59 (pA τ133 23 s r133)) (fun _ τ140 => some ((), τ140)))
theorem st_fT {f p n : Int32} {σ : S5} {E : S5 → Option (Int32 × S5)} (hE : ∀ (f p n : Int32) (σ : S5), St f p n σ → E σ = some (0, σ)) {s : Int32} (h : St f p n σ) (h0 : 0 ≤ s) (h1 : s < 700) : Qt (fT E s σ) (fun _ τ => St f p n τ) := by
  unfold fT
  rw [st_within hE h (by grind) h1, bd_of, gd700 h0 h1, st_expect 59 (by decide) (St23 _ _ h), bd_of]
  exact Qt.so (St23 _ _ h)
theorem c_fn {σ σ2 : S5} {E : S5 → Option (Int32 × S5)} (h3 : gI σ 17 = 3) (ht : f_X4_topOf (gJ σ 0) σ = some (-1, σ)) (h50 : 0 ≤ gI σ 5) (h5 : gI σ 5 < 30) (h60 : 0 ≤ gI σ 6) (h6 : gI σ 6 < 630) (h9 : 0 ≤ gI σ 9) (h9' : gI σ 9 < 700) (e1 : f_X10_advance (cTp (cSc σ (-1) (gI σ 18) (gI σ 9)) (gJ σ 0) (gI σ 9)) = some ((), σ2)) : f_X5_readFunction E σ = bd (f_X5_readParameters (gI σ 9) σ2) (fun _ τ => bd (f_X5_expect 61 τ) (fun _ ρ => fT E (gI σ 9) ρ)) := by
  unfold f_X5_readFunction f_X5_readFunction_b62
  rw [if_pos h3, ht, bd_of, if_pos rfl, if_pos h5, if_neg (by rw [h3]; decide), c_add61 (-1) (gI σ 18) h9 h9', bd_of, show gJ (cSc σ (-1) (gI σ 18) (gI σ 9)) 0 = gJ σ 0 from rfl, c_addTop (σ := cSc σ (-1) (gI σ 18) (gI σ 9)) (gJ σ 0) (gI σ 9) h50 h5 h60 h6, bd_of, e1, bd_of]
  rfl
theorem m_eF {μ9 : S5} {n n9 : Int32} (h7 : gI μ9 7 = 0) (e16 : gI μ9 16 = 1) (e17 : gI μ9 17 = 1) (t14 : xA μ9 14 0 = 0) (t15 : xA μ9 15 0 = n) (t18 : xA μ9 18 0 = n9) (hn0 : 0 ≤ n) (hn1 : n < 3200) : f_X12_endE μ9 = bd (if gI μ9 4 = 159 then f_X12_next (pA (pI μ9 17 0) 3 n n9) else some ((), pI (pI (pA (pI μ9 17 0) 3 n n9) 7 1) 8 (gI μ9 5))) (fun _ τ => some ((), pI τ 16 (gI τ 16 - 1))) := by
  have hp : gI μ9 16 - 1 = 0 := by rw [e16]; decide
  have ho : gI μ9 17 - 1 = 0 := by rw [e17]; decide
  unfold f_X12_endE
  rw [red_no 1 (by rw [e16]; decide) (by rw [e16]; decide) (by rw [hp, t14]; decide), bd_of, hp, gd3200 (by decide) (by decide), gd3200 (by decide) (by decide), t14, t15, if_neg (by decide), if_neg (by decide), if_neg (by decide), if_neg (by decide), if_neg (by decide), if_neg (by decide), m_taken (by rw [ho]; decide) (by rw [ho]; decide), bd_of, gd3200 hn0 hn1, ho, t18, m_isS, bd_of, show gI (pA (pI μ9 17 0) 3 n n9) 4 = gI μ9 4 from rfl, show (100 : Int32) + 59 = 159 from rfl]
  have h7' : gI (pA (pI μ9 17 0) 3 n n9) 7 = 0 := h7
  by_cases c : gI μ9 4 = 159
  · rw [if_pos c, if_pos c, m_acc1 h7']
  · rw [if_neg c, if_neg c, m_acc0 h7']
    rfl
theorem rE_out {μ : S5} (m : Nat) (h : ¬ gI μ 7 = 0 ∨ gI μ 16 ≤ 0) : f_X12_readE_L22 (m + 1) μ = some ((), μ) := by
  show f_X12_readE_B22 _ _ = _
  unfold f_X12_readE_B22
  by_cases c : gI μ 7 = 0
  · rw [if_pos c, if_pos (by rcases h with h | h; exact absurd c h; exact h)]
  · rw [if_neg c]
theorem rE_run {k : Nat} {N τ : S5} (hk : k ≤ 20000) (h : Rch k N τ) (h2 : ¬ gI τ 7 = 0 ∨ gI τ 16 ≤ 0) : f_X12_readE_L22 FU N = some ((), τ) := by
  have := FU_big (n := 30000) (by decide)
  obtain ⟨m, hm⟩ : ∃ m, FU = m + k + 1 := ⟨FU - k - 1, by omega⟩
  rw [hm, h m, rE_out m h2]
theorem die_run {k : Nat} {N μ : S5} {f p n : Int32} (hk : k ≤ 20000) (h : Die k N μ f p n) : ∃ τ, f_X12_readE_L22 FU N = some ((), τ) ∧ gI τ 7 = f ∧ gI τ 8 = p ∧ gI τ 11 = n ∧ gI τ 12 - gI τ 11 = gI μ 12 - gI μ 11 ∧ EqR μ τ := by
  obtain ⟨τ, e, h1⟩ := h
  have := FU_big (n := 30000) (by decide)
  obtain ⟨m, hm⟩ : ∃ m, FU = m + k + 1 := ⟨FU - k - 1, by omega⟩
  exact ⟨τ, by rw [hm, e m], h1⟩
theorem rf_b180 {μ : S5} {v : Int32} (h7 : gI μ 7 = 0) : f_X12_readFunction_b180 v μ = if gI μ 4 = 161 then bd (f_X12_next μ) (fun _ τ => if gI τ 7 = 0 then f_X12_readE v τ else some ((), τ)) else some ((), pI (pI μ 7 1) 8 (gI μ 5)) := by
  unfold f_X12_readFunction_b180
  rw [m_isS, bd_of, show (100 : Int32) + 61 = 161 from rfl]
  by_cases c : gI μ 4 = 161
  · rw [if_pos c, if_pos c, m_acc1 h7]
    simp only [bd_eta]
  · rw [if_neg c, if_neg c, m_acc0 h7, bd_of, if_neg (by exact (by decide : ¬ (1 : Int32) = 0))]
theorem Wd.fnS {σ μ : S5} {s c h : Int32} (w : Wd σ μ) : Wd (pA (pI σ 15 h) 23 s c) μ := w
theorem Wd.fnM {σ μ : S5} {n m : Int32} (w : Wd σ μ) : Wd σ (pA (pI μ 17 0) 3 n m) := w
theorem Wd.I16 {σ μ : S5} {v : Int32} (w : Wd σ μ) : Wd σ (pI μ 16 v) := w
