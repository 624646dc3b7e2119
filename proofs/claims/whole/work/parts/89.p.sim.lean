/-- the same constructors -/
def Ct (σ μ : S5) : Prop := gI σ 4 = gI μ 14 ∧ 2 ≤ gI σ 4 ∧ gI σ 4 ≤ 30 ∧ ∀ i : Int32, 0 ≤ i → i < gI σ 4 → xB σ 0 i = xB μ 3 i ∧ xA σ 2 i = xA μ 13 i ∧ 0 ≤ xA σ 2 i ∧ xA σ 2 i ≤ 4
theorem con_loop {σ μ : S5} (h : Ct σ μ) (z : Int64) : ∀ (d k m : Nat), k + d = (gI σ 4).toNatClampNeg → d < m → ∃ r : Int32, f_X4_constructorOf_L2 m z (nI k) σ = some (r, σ) ∧ f_X12_findConstructor_L2 m z (nI k) μ = some (r, μ) ∧ (r = -1 ∨ (0 ≤ r ∧ r < gI σ 4)) := by
  obtain ⟨h1, h2, h3, h4⟩ := h
  have h0 : 0 ≤ gI σ 4 := by grind
  have hn := nI_tn h0
  have hn3 : (gI σ 4).toNatClampNeg ≤ 30 := i_le h3
  intro d
  induction d with
  | zero =>
    intro k m hk hm
    obtain ⟨m, rfl⟩ : ∃ m', m = m' + 1 := ⟨m - 1, by omega⟩
    refine ⟨-1, ?_, ?_, Or.inl rfl⟩
    · show f_X4_constructorOf_B2 _ _ _ _ = _
      unfold f_X4_constructorOf_B2
      rw [if_pos (by rw [hn, nI_le31 (by omega) (by omega)]; omega)]
    · show f_X12_findConstructor_B2 _ _ _ _ = _
      unfold f_X12_findConstructor_B2 f_X12_findConstructor_b27
      rw [← h1, if_pos (by rw [hn, nI_le31 (by omega) (by omega)]; omega), if_pos (by rw [hn, nI_le31 (by omega) (by omega)]; omega)]
  | succ d ih =>
    intro k m hk hm
    obtain ⟨m, rfl⟩ : ∃ m', m = m' + 1 := ⟨m - 1, by omega⟩
    have hc : ¬ gI σ 4 ≤ nI k := by rw [hn, nI_le31 (by omega) (by omega)]; omega
    have hc0 : 0 ≤ nI k := i_le0 (nI_nneg (by omega))
    have hc3 : nI k < 30 := (nI_lt31 (b := 30) (by omega) (by omega)).mpr (by omega)
    have hq := h4 (nI k) hc0 (nle_lt hc)
    by_cases he : lg_cmp (xB σ 0 (nI k)) z = 0
    · refine ⟨nI k, ?_, ?_, Or.inr ⟨hc0, nle_lt hc⟩⟩
      · show f_X4_constructorOf_B2 _ _ _ _ = _
        unfold f_X4_constructorOf_B2
        rw [if_neg hc, gd30 hc0 hc3, if_pos he]
      · show f_X12_findConstructor_B2 _ _ _ _ = _
        unfold f_X12_findConstructor_B2 f_X12_findConstructor_b27
        rw [← h1, if_neg hc, gd30 hc0 hc3, ← hq.1, if_pos he, if_neg hc]
    · obtain ⟨r, e1, e2, e3⟩ := ih (k + 1) m (by omega) (by omega)
      refine ⟨r, ?_, ?_, e3⟩
      · show f_X4_constructorOf_B2 _ _ _ _ = _
        unfold f_X4_constructorOf_B2
        rw [if_neg hc, gd30 hc0 hc3, if_neg he, nI_add1, e1]
      · show f_X12_findConstructor_B2 _ _ _ _ = _
        unfold f_X12_findConstructor_B2 f_X12_findConstructor_b27
        rw [← h1, if_neg hc, gd30 hc0 hc3, ← hq.1, if_neg he, nI_add1, e2]
theorem con_of {σ μ : S5} (h : Ct σ μ) (z : Int64) : ∃ r : Int32, f_X4_constructorOf z σ = some (r, σ) ∧ f_X12_findConstructor z μ = some (r, μ) ∧ (r = -1 ∨ (0 ≤ r ∧ r < gI σ 4)) := by
  have h3 : (gI σ 4).toNatClampNeg ≤ 30 := i_le h.2.2.1
  exact con_loop h z (gI σ 4).toNatClampNeg 0 FU (by omega) (FU_big (by omega))
/-- the word at hand -/
def Wd (σ μ : S5) : Prop := RT σ μ ∧ gI σ 16 = gI μ 3 ∧ gI μ 4 = kMd (gI σ 17) ∧ okK (gI σ 17) = true ∧ gI σ 18 = gI μ 5 ∧ 0 ≤ gI σ 18 ∧ gI σ 18 ≤ gI σ 16 ∧ gI σ 16 ≤ gI σ 0 ∧ (¬ gI σ 17 = 1 → gI σ 18 < gI σ 16) ∧ (gI σ 17 = 3 ∨ gI σ 17 = 4 → gJ σ 0 = gJ μ 0) ∧ (gI σ 17 = 5 → gI σ 19 = gI μ 6 ∧ 0 ≤ gI σ 19)
theorem okK_ne {k : Int32} (h : okK k = true) : ¬ k = 0 := by
  intro q
  rw [q] at h
  exact absurd h (by decide)
theorem wC_rows (σ : S5) (e k p v : Int32) (z : Int64) : (wdC σ e k p v z).2.2 = σ.2.2 := rfl
theorem xA_wdC (σ : S5) (e k p v : Int32) (z : Int64) (j : Nat) (x : Int32) : xA (wdC σ e k p v z) j x = xA σ j x := rfl
theorem xB_wdC (σ : S5) (e k p v : Int32) (z : Int64) (j : Nat) (x : Int32) : xB (wdC σ e k p v z) j x = xB σ j x := rfl
theorem xA_wdM (σ : S5) (e k p v : Int32) (z : Int64) (j : Nat) (x : Int32) : xA (wdM σ e k p v z) j x = xA σ j x := rfl
theorem xB_wdM (σ : S5) (e k p v : Int32) (z : Int64) (j : Nat) (x : Int32) : xB (wdM σ e k p v z) j x = xB σ j x := rfl
theorem RT_w {σ μ : S5} (h : RT σ μ) (e k p v : Int32) (z : Int64) (e' k' p' v' : Int32) (z' : Int64) : RT (wdC σ e k p v z) (wdM μ e' k' p' v' z') := h
/-- both go on to the next word -/
theorem adv {σ μ : S5} (h : Wd σ μ) (hk : ¬ gI σ 17 = 1) : ∃ (e kc p v : Int32) (z : Int64) (vm : Int32) (zm : Int64), f_X10_advance σ = some ((), wdC σ e kc p v z) ∧ f_X12_next μ = some ((), wdM μ e (kMd kc) p vm zm) ∧ Wd (wdC σ e kc p v z) (wdM μ e (kMd kc) p vm zm) ∧ gI σ 18 < p ∧ okK kc = true ∧ p ≤ 3000 := by
  obtain ⟨h1, h2, h3, h4, h5, h6, h7, h8, h9, h10, h11⟩ := h
  obtain ⟨e, kc, p, v, z, vm, zm, l1, l2, l3, l4, l5, l6, l7, l8, l9, l10⟩ := lex h1 h2 (i_trans h6 h7) h8 (okK_ne h4)
  have h12 := h9 hk
  have h13 := h1.2.2.1
  refine ⟨e, kc, p, v, z, vm, zm, l1, l2, ⟨RT_w h1 .., rfl, rfl, l3, rfl, ?_, l5, l6, l8, l9, l10⟩, by grind, l3, by grind⟩
  show 0 ≤ p
  grind
/-- what reading an E never writes: the class -/
def EqE (σ τ : S5) : Prop := (∀ k : Nat, k ≤ 7 ∨ 20 ≤ k → gI τ k = gI σ k) ∧ (∀ k : Nat, 1 ≤ k → gJ τ k = gJ σ k) ∧ (∀ k : Nat, k ≤ 12 ∨ k = 18 ∨ k = 19 ∨ k = 25 ∨ k = 26 ∨ 30 ≤ k → gA τ k = gA σ k) ∧ (∀ k : Nat, k ≤ 2 ∨ 5 ≤ k → gB τ k = gB σ k) ∧ τ.2.2.2.2 = σ.2.2.2.2
/-- the reference -/
def EqR (μ ν : S5) : Prop := (∀ k : Nat, k ≤ 2 ∨ k = 13 ∨ k = 14 ∨ 22 ≤ k → gI ν k = gI μ k) ∧ (∀ k : Nat, 1 ≤ k → gJ ν k = gJ μ k) ∧ (∀ k : Nat, k ≤ 1 ∨ k = 11 ∨ k = 12 ∨ k = 13 ∨ 19 ≤ k → gA ν k = gA μ k) ∧ (∀ k : Nat, 2 ≤ k → gB ν k = gB μ k) ∧ ν.2.2.2.2 = μ.2.2.2.2
theorem EqE.rf (σ : S5) : EqE σ σ := ⟨fun _ _ => rfl, fun _ _ => rfl, fun _ _ => rfl, fun _ _ => rfl, rfl⟩
theorem EqR.rf (σ : S5) : EqR σ σ := ⟨fun _ _ => rfl, fun _ _ => rfl, fun _ _ => rfl, fun _ _ => rfl, rfl⟩
theorem EqE.tr {σ τ ρ : S5} (h : EqE σ τ) (h2 : EqE τ ρ) : EqE σ ρ := ⟨fun k q => (h2.1 k q).trans (h.1 k q), fun k q => (h2.2.1 k q).trans (h.2.1 k q), fun k q => (h2.2.2.1 k q).trans (h.2.2.1 k q), fun k q => (h2.2.2.2.1 k q).trans (h.2.2.2.1 k q), h2.2.2.2.2.trans h.2.2.2.2⟩
theorem EqR.tr {σ τ ρ : S5} (h : EqR σ τ) (h2 : EqR τ ρ) : EqR σ ρ := ⟨fun k q => (h2.1 k q).trans (h.1 k q), fun k q => (h2.2.1 k q).trans (h.2.1 k q), fun k q => (h2.2.2.1 k q).trans (h.2.2.1 k q), fun k q => (h2.2.2.2.1 k q).trans (h.2.2.2.1 k q), h2.2.2.2.2.trans h.2.2.2.2⟩
theorem gA_ne (σ : S5) {k j : Nat} (i v : Int32) (h : ¬ j = k) : gA (pA σ k i v) j = gA σ j := by
  funext x
  rw [gA_pA, if_neg (fun q => h q.1)]
theorem gB_ne (σ : S5) {k j : Nat} (i : Int32) (v : Int64) (h : ¬ j = k) : gB (pB σ k i v) j = gB σ j := by
  funext x
  rw [gB_pB, if_neg (fun q => h q.1)]
theorem EqE.I {σ τ : S5} {k : Nat} {v : Int32} (h : EqE σ τ) (hk : 8 ≤ k ∧ k ≤ 19) : EqE σ (pI τ k v) := ⟨fun j q => by rw [gI_pI, if_neg (by omega)]; exact h.1 j q, h.2⟩
theorem EqE.J {σ τ : S5} {v : Int64} (h : EqE σ τ) : EqE σ (pJ τ 0 v) := ⟨h.1, fun j q => by rw [gJ_pJ, if_neg (by omega)]; exact h.2.1 j q, h.2.2⟩
theorem EqE.A {σ τ : S5} {k : Nat} {i v : Int32} (h : EqE σ τ) (hk : (13 ≤ k ∧ k ≤ 17) ∨ (20 ≤ k ∧ k ≤ 24) ∨ (27 ≤ k ∧ k ≤ 29)) : EqE σ (pA τ k i v) := ⟨h.1, h.2.1, fun j q => by rw [gA_ne _ _ _ (by omega)]; exact h.2.2.1 j q, h.2.2.2⟩
theorem EqE.B {σ τ : S5} {k : Nat} {i : Int32} {v : Int64} (h : EqE σ τ) (hk : k = 3 ∨ k = 4) : EqE σ (pB τ k i v) := ⟨h.1, h.2.1, h.2.2.1, fun j q => by rw [gB_ne _ _ _ (by omega)]; exact h.2.2.2.1 j q, h.2.2.2.2⟩
theorem EqR.I {σ τ : S5} {k : Nat} {v : Int32} (h : EqR σ τ) (hk : (3 ≤ k ∧ k ≤ 12) ∨ (15 ≤ k ∧ k ≤ 21)) : EqR σ (pI τ k v) := ⟨fun j q => by rw [gI_pI, if_neg (by omega)]; exact h.1 j q, h.2⟩
theorem EqR.J {σ τ : S5} {v : Int64} (h : EqR σ τ) : EqR σ (pJ τ 0 v) := ⟨h.1, fun j q => by rw [gJ_pJ, if_neg (by omega)]; exact h.2.1 j q, h.2.2⟩
theorem EqR.A {σ τ : S5} {k : Nat} {i v : Int32} (h : EqR σ τ) (hk : (2 ≤ k ∧ k ≤ 10) ∨ (14 ≤ k ∧ k ≤ 18)) : EqR σ (pA τ k i v) := ⟨h.1, h.2.1, fun j q => by rw [gA_ne _ _ _ (by omega)]; exact h.2.2.1 j q, h.2.2.2⟩
theorem EqR.B {σ τ : S5} {k : Nat} {i : Int32} {v : Int64} (h : EqR σ τ) (hk : k ≤ 1) : EqR σ (pB τ k i v) := ⟨h.1, h.2.1, h.2.2.1, fun j q => by rw [gB_ne _ _ _ (by omega)]; exact h.2.2.2.1 j q, h.2.2.2.2⟩
theorem EqE.w {σ τ : S5} {e k p v : Int32} {z : Int64} (h : EqE σ τ) : EqE σ (wdC τ e k p v z) := ((((h.J).I (by decide)).I (by decide)).I (by decide)).I (by decide)
theorem EqR.w {σ τ : S5} {e k p v : Int32} {z : Int64} (h : EqR σ τ) : EqR σ (wdM τ e k p v z) := ((((h.J).I (by decide)).I (by decide)).I (by decide)).I (by decide)
theorem EqR.nd {σ τ : S5} {k : Int32} (h : EqR σ τ) : EqR σ (ndM τ k) := ((((((((((h.I (by decide)).A (by decide)).A (by decide)).A (by decide)).A (by decide)).A (by decide)).A (by decide)).A (by decide)).B (by decide)).A (by decide)).A (by decide)
theorem EqR.pl {σ τ : S5} {k n r : Int32} (h : EqR σ τ) : EqR σ ((pI (pA (pA (pA (pA τ 14 (gI τ 16) k) 15 (gI τ 16) n) 16 (gI τ 16) r) 17 (gI τ 16) 0) 16 ((gI τ 16) + 1))) := ((((h.A (by decide)).A (by decide)).A (by decide)).A (by decide)).I (by decide)
theorem EqE.ad {σ τ : S5} {a b c d : Int32} (h : EqE σ τ) : EqE σ ((pI (pA (pA (pA (pA (pA τ 13 (gI τ 8) a) 14 (gI τ 8) b) 15 (gI τ 8) c) 16 (gI τ 8) d) 17 (gI τ 8) (-1)) 8 ((gI τ 8) + 1))) := (((((h.A (by decide)).A (by decide)).A (by decide)).A (by decide)).A (by decide)).I (by decide)
/-- the reference's loop goes from μ to μ' in k turns -/
def Rch (k : Nat) (μ μ' : S5) : Prop := ∀ m, f_X12_readE_L22 (m + k + 1) μ = f_X12_readE_L22 (m + 1) μ'
theorem Rch.rf (μ : S5) : Rch 0 μ μ := fun _ => rfl
theorem Rch.tr {k j : Nat} {μ μ1 μ2 : S5} (h : Rch k μ μ1) (h2 : Rch j μ1 μ2) : Rch (k + j) μ μ2 := fun m => by
  have e1 := h (m + j)
  have e2 := h2 m
  rw [show m + (k + j) + 1 = m + j + k + 1 by omega, e1, e2]
/-- from ν it ends with a fault in k turns, and keeps what μ has -/
def Die (k : Nat) (ν μ : S5) (f p n : Int32) : Prop := ∃ μ' : S5, (∀ m, f_X12_readE_L22 (m + k + 1) ν = some ((), μ')) ∧ gI μ' 7 = f ∧ gI μ' 8 = p ∧ gI μ' 11 = n ∧ gI μ' 12 - gI μ' 11 = gI μ 12 - gI μ 11 ∧ EqR μ μ'
theorem Rch.die {k j : Nat} {ν ν1 μ μ1 : S5} {f p n : Int32} (h : Rch k ν ν1) (h2 : Die j ν1 μ1 f p n) (h3 : gI μ1 12 - gI μ1 11 = gI μ 12 - gI μ 11) (hq : EqR μ μ1) : Die (k + j) ν μ f p n := by
  obtain ⟨μ', e, h4, h5, h6, h7, h8⟩ := h2
  refine ⟨μ', fun m => ?_, h4, h5, h6, by rw [h7, h3], hq.tr h8⟩
  have e1 := h (m + j)
  rw [show m + (k + j) + 1 = m + j + k + 1 by omega, e1, e]
theorem die_of {k : Nat} {ν τ μ : S5} {f p n : Int32} (h : Rch k ν τ) (h0 : ¬ f = 0) (h1 : gI τ 7 = f) (h2 : gI τ 8 = p) (h3 : gI τ 11 = n) (h4 : gI τ 12 - gI τ 11 = gI μ 12 - gI μ 11) (h5 : EqR μ τ) : Die k ν μ f p n := by
  refine ⟨τ, fun m => ?_, h1, h2, h3, h4, h5⟩
  rw [h m]
  show f_X12_readE_B22 _ _ = _
  unfold f_X12_readE_B22
  rw [if_neg (by rw [h1]; exact h0)]
theorem Die.base {k : Nat} {ν μ μ1 : S5} {f p n : Int32} (h : Die k ν μ1 f p n) (h3 : gI μ1 12 - gI μ1 11 = gI μ 12 - gI μ 11) (hq : EqR μ μ1) : Die k ν μ f p n := by
  have := (Rch.rf ν).die h h3 hq
  rw [Nat.zero_add] at this
  exact this
theorem tn_want {μ τ : S5} (h7 : gI μ 7 = 0) (h16 : 0 < gI μ 16) (h19 : ¬ gI μ 19 = 0) (h : f_X12_wantE μ = some ((), τ)) : Rch 1 μ τ := fun m => by
  show f_X12_readE_B22 (f_X12_readE_L22 (m + 1)) μ = _
  unfold f_X12_readE_B22
  rw [if_pos h7, if_neg (by grind), if_neg h19, h]
  rfl
theorem tn_atom {μ τ : S5} (h7 : gI μ 7 = 0) (h16 : 0 < gI μ 16) (h19 : gI μ 19 = 0) (h20 : gI μ 20 = 0) (h : f_X12_atomEnds μ = some ((), τ)) : Rch 1 μ τ := fun m => by
  show f_X12_readE_B22 (f_X12_readE_L22 (m + 1)) μ = _
  unfold f_X12_readE_B22
  rw [if_pos h7, if_neg (by grind), if_pos h19, if_pos h20, h]
  rfl
theorem tn_sign {μ τ : S5} (h7 : gI μ 7 = 0) (h16 : 0 < gI μ 16) (h19 : gI μ 19 = 0) (h20 : ¬ gI μ 20 = 0) (h21 : gI μ 21 = 0) (hr : 0 < rkM (gI μ 4)) (h : f_X12_signE μ = some ((), τ)) : Rch 1 μ τ := fun m => by
  show f_X12_readE_B22 (f_X12_readE_L22 (m + 1)) μ = _
  unfold f_X12_readE_B22 f_X12_readE_b88
  rw [if_pos h7, if_neg (by grind), if_pos h19, if_neg h20, m_rank, bd_of, if_neg (by grind), if_pos h21, m_rank, bd_of, if_neg (by grind), h]
  rfl
theorem tn_end {μ τ : S5} (h7 : gI μ 7 = 0) (h16 : 0 < gI μ 16) (h19 : gI μ 19 = 0) (h20 : ¬ gI μ 20 = 0) (hr : rkM (gI μ 4) ≤ 0) (h : f_X12_endE (pI μ 20 1) = some ((), τ)) : Rch 1 μ τ := fun m => by
  show f_X12_readE_B22 (f_X12_readE_L22 (m + 1)) μ = _
  unfold f_X12_readE_B22 f_X12_readE_b88
  rw [if_pos h7, if_neg (by grind), if_pos h19, if_neg h20, m_rank, bd_of, if_pos hr, m_rank, bd_of, if_pos hr, h]
  rfl
theorem tn_ended {μ : S5} (h7 : gI μ 7 = 0) (h16 : 0 < gI μ 16) (h19 : gI μ 19 = 0) (h20 : ¬ gI μ 20 = 0) (h21 : ¬ gI μ 21 = 0) (hr : 0 < rkM (gI μ 4)) : Rch 1 μ (pI (pI μ 7 1) 8 (gI μ 5)) := fun m => by
  show f_X12_readE_B22 (f_X12_readE_L22 (m + 1)) μ = _
  unfold f_X12_readE_B22
  rw [if_pos h7, if_neg (by grind), if_pos h19, if_neg h20, m_rank, bd_of, if_neg (by grind), if_neg h21, m_wrong0 h7]
  rfl
