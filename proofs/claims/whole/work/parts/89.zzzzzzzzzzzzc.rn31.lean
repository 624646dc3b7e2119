/-- the numbers of both machines -/
def MC (σ : S5) (t b f e : Nat) : Prop := (gI σ 40 = nI t ∧ gI σ 41 = nI b ∧ gI σ 42 = nI e ∧ gI σ 43 = nI f) ∧ Ln 11 (gN σ 1) ∧ t ≤ gN σ 1 ∧ Ln 9 (gN σ 3) ∧ e ≤ gN σ 3
def MM (μ : S5) (W V b e : Nat) : Prop := gI μ 48 = nI W ∧ gI μ 49 = nI V ∧ gI μ 50 = nI b ∧ gI μ 51 = nI e
/-- what a run leaves, on both sides -/
def FmC (σ τ : S5) : Prop := (∀ j, ¬ (40 ≤ j ∧ j ≤ 45) → gI τ j = gI σ j) ∧ (∀ j, ¬ j = 5 → gJ τ j = gJ σ j) ∧ (∀ j, ¬ (40 ≤ j ∧ j ≤ 42) → gA τ j = gA σ j) ∧ (∀ j, ¬ (12 ≤ j ∧ j ≤ 14) → gB τ j = gB σ j) ∧ ∀ k, ¬ k = 1 → ¬ k = 3 → gN τ k = gN σ k
def FmM (μ ν : S5) : Prop := (∀ j, ¬ (32 ≤ j ∧ j ≤ 45) → ¬ (48 ≤ j ∧ j ≤ 54) → gI ν j = gI μ j) ∧ (∀ j, ¬ j = 1 → gJ ν j = gJ μ j) ∧ (∀ j, ¬ (53 ≤ j ∧ j ≤ 63) → gA ν j = gA μ j) ∧ (∀ j, ¬ (6 ≤ j ∧ j ≤ 9) → gB ν j = gB μ j) ∧ ν.2.2.2.2 = μ.2.2.2.2
theorem FmC.rf (σ : S5) : FmC σ σ := ⟨fun _ _ => rfl, fun _ _ => rfl, fun _ _ => rfl, fun _ _ => rfl, fun _ _ _ => rfl⟩
theorem FmM.rf (μ : S5) : FmM μ μ := ⟨fun _ _ _ => rfl, fun _ _ => rfl, fun _ _ => rfl, fun _ _ => rfl, rfl⟩
theorem FmC.tr {σ τ ρ : S5} (h : FmC σ τ) (g : FmC τ ρ) : FmC σ ρ := ⟨fun j a => (g.1 j a).trans (h.1 j a), fun j a => (g.2.1 j a).trans (h.2.1 j a), fun j a => (g.2.2.1 j a).trans (h.2.2.1 j a), fun j a => (g.2.2.2.1 j a).trans (h.2.2.2.1 j a), fun k a b => (g.2.2.2.2 k a b).trans (h.2.2.2.2 k a b)⟩
theorem FmM.tr {σ τ ρ : S5} (h : FmM σ τ) (g : FmM τ ρ) : FmM σ ρ := ⟨fun j a b => (g.1 j a b).trans (h.1 j a b), fun j a => (g.2.1 j a).trans (h.2.1 j a), fun j a => (g.2.2.1 j a).trans (h.2.2.1 j a), fun j a => (g.2.2.2.1 j a).trans (h.2.2.2.1 j a), g.2.2.2.2.trans h.2.2.2.2⟩
theorem FkC.fm {σ τ : S5} (h : FkC σ τ) : FmC σ τ := ⟨fun j _ => h.1 j, fun j _ => h.2.1 j, fun j a => h.2.2.1 j (by omega), fun j a => h.2.2.2.1 j (by omega), fun k _ _ => congrFun h.2.2.2.2 k⟩
theorem FkM.fm {μ ν : S5} (h : FkM μ ν) : FmM μ ν := ⟨fun j a b => h.1 j (by omega) (by omega) (by omega) (by omega) (by omega), fun j _ => h.2.1 j, fun j a => h.2.2.1 j (by omega) (by omega) (by omega), fun j a => h.2.2.2.1 j (by omega), h.2.2.2.2⟩
theorem FpC.fm {σ τ : S5} (h : FpC σ τ) : FmC σ τ := ⟨fun j a => h.1 j (by omega), fun j _ => h.2.1 j, fun j _ => h.2.2.1 j, fun j a => h.2.2.2.1 j (by omega), fun k a _ => h.2.2.2.2 k a⟩
theorem FoC.fm {σ τ : S5} (h : FoC σ τ) : FmC σ τ := ⟨fun j _ => h.1 j, fun j _ => h.2.1 j, fun j _ => h.2.2.1 j, fun j a => h.2.2.2.1 j (by omega), fun k _ a => h.2.2.2.2 k a⟩
theorem Fb.fm {b : Nat} {σ τ : S5} (hb : 12 ≤ b ∧ b ≤ 14) (h : Fb b σ τ) : FmC σ τ := ⟨fun j _ => h.1 j, fun j _ => h.2.1 j, fun j _ => h.2.2.1 j, fun j a => h.2.2.2.1 j (by omega), fun k _ _ => congrFun h.2.2.2.2 k⟩
theorem Fb.fmm {b : Nat} {σ τ : S5} (hb : 6 ≤ b ∧ b ≤ 9) (h : Fb b σ τ) : FmM σ τ := ⟨fun j _ _ => h.1 j, fun j _ => h.2.1 j, fun j _ => h.2.2.1 j, fun j a => h.2.2.2.1 j (by omega), h.2.2.2.2⟩
/-- a push: numbers -/
theorem push_c {σ : S5} {t b f e : Nat} (h : MC σ t b f e) (ht : t < 1048576) (v : Int64) : ∃ τ, f_X3_push v σ = some ((), τ) ∧ MC τ (t + 1) b f e ∧ FpC σ τ ∧ gB τ 12 t = v ∧ (∀ j, j < t → gB τ 12 j = gB σ 12 j) ∧ gN σ 1 ≤ gN τ 1 ∧ gN τ 3 = gN σ 3 := by
  obtain ⟨⟨h1, h2, h3, h4⟩, h5, h6, h7, h8⟩ := h
  obtain ⟨τ, a1, a2, a3, a4, a5, a6, a7, a8⟩ := push_go v h1 h5 h6 ht
  exact ⟨τ, a1, ⟨⟨a3, by rw [a2.1 41 (by decide)]; exact h2, by rw [a2.1 42 (by decide)]; exact h3, by rw [a2.1 43 (by decide)]; exact h4⟩, a6, a7, by rw [a2.2.2.2.2 3 (by decide)]; exact h7, by rw [a2.2.2.2.2 3 (by decide)]; exact h8⟩, a2, a4, a5, a8, a2.2.2.2.2 3 (by decide)⟩
/-- what opening leaves -/
def FvC (σ τ : S5) : Prop := (∀ j, ¬ (40 ≤ j ∧ j ≤ 43) → gI τ j = gI σ j) ∧ (∀ j, gJ τ j = gJ σ j) ∧ (∀ j, gA τ j = gA σ j) ∧ (∀ j, ¬ j = 12 → ¬ j = 13 → gB τ j = gB σ j) ∧ ∀ k, ¬ k = 1 → ¬ k = 3 → gN τ k = gN σ k
theorem FvC.fm {σ τ : S5} (h : FvC σ τ) : FmC σ τ := ⟨fun j a => h.1 j (by omega), fun j _ => h.2.1 j, fun j _ => h.2.2.1 j, fun j a => h.2.2.2.1 j (by omega) (by omega), h.2.2.2.2⟩
/-- variables are opened -/
theorem open_c {σ : S5} {t b f0 e f nvf : Nat} (h : MC σ t b f0 e) (hf : f < 630) (h6 : xA σ 6 (nI f) = nI nvf) (hnv : nvf ≤ 40) (ht : t < 1048576) (he : e + 40 < 262144) : ∃ τ, f_X3_openVariables (nI f) σ = some ((), τ) ∧ MC τ (t + 1) e f (e + nvf) ∧ FvC σ τ ∧ gB τ 12 t = fr 8 b f0 ∧ (∀ j, j < t → gB τ 12 j = gB σ 12 j) ∧ (∀ j, j < gN σ 3 → gB τ 13 j = gB σ 13 j) ∧ gN σ 1 ≤ gN τ 1 ∧ gN σ 3 ≤ gN τ 3 := by
  obtain ⟨τ, a1, a2, a3, a4, a5, a6, a7⟩ := push_c h ht (fr 8 b f0)
  obtain ⟨⟨b1, b2, b3, b4⟩, b5, b6, b7, b8⟩ := a2
  have e6 : xA τ 6 (nI f) = nI nvf := by
    rw [show xA τ 6 (nI f) = xA σ 6 (nI f) from congrFun (a3.2.2.1 6) _]
    exact h6
  obtain ⟨ρ, c1, c2, c3, c4, c5, c6⟩ := room_go (τ := τ) hf e6 hnv b3 b7 b8 he
  have r1 : gN ρ 1 = gN τ 1 := c2.2.2.2.2 1 (by decide)
  refine ⟨pI (pI (pI ρ 41 (nI e)) 42 (nI (e + nvf))) 43 (nI f), ?_, ⟨⟨?_, rfl, rfl, rfl⟩, ?_, ?_, c4, c5⟩, ⟨fun j a => ?_, fun j => ?_, fun j => ?_, fun j x y => ?_, fun k x y => ?_⟩, ?_, fun j hj => ?_, fun j hj => ?_, ?_, ?_⟩
  · unfold f_X3_openVariables f_X3_frame
    show gq (gN σ 1) (gN σ 1) (gq (gN σ 3) (gN σ 3) (bd (f_X3_push _ σ) _)) = _
    rw [show (((j_lshl ((8 : Int32).toInt64) 56) ||| (j_lshl ((gI σ 41).toInt64) 28)) ||| ((gI σ 43).toInt64)) = fr 8 b f0 by rw [h.1.2.1, h.1.2.2.2]; rfl, a1]
    unfold gq bd
    rw [if_pos rfl, if_pos rfl]
    show gle (gN σ 1) (gN τ 1) (gle (gN σ 3) (gN τ 3) (f_X3_openVariables_b17 (nI f) τ)) = _
    unfold gle
    rw [if_pos a6, if_pos (by rw [a7]; exact Nat.le_refl _)]
    unfold f_X3_openVariables_b17 f_X3_openVariables_b22 bd gle
    rw [c1]
    show (if gN τ 1 ≤ gN ρ 1 then _ else _) = _
    rw [if_pos (by rw [r1]; exact Nat.le_refl _), if_pos c6, gdn hf (by omega)]
    rw [show xA ρ 6 (nI f) = xA τ 6 (nI f) from congrFun (c2.2.2.1 6) _, e6, c2.1 42, b3, nI_plus]
  · exact (c2.1 40).trans b1
  · show Ln 11 (gN ρ 1)
    rw [r1]; exact b5
  · show t + 1 ≤ gN ρ 1
    rw [r1]; exact b6
  · rw [gI_pI, if_neg (by omega), gI_pI, if_neg (by omega), gI_pI, if_neg (by omega), c2.1 j, a3.1 j (by omega)]
  · exact (c2.2.1 j).trans (a3.2.1 j)
  · exact (c2.2.2.1 j).trans (a3.2.2.1 j)
  · exact (c2.2.2.2.1 j y).trans (a3.2.2.2.1 j x)
  · exact (c2.2.2.2.2 k y).trans (a3.2.2.2.2 k x)
  · exact (congrFun (c2.2.2.2.1 12 (by decide)) t).trans a4
  · exact (congrFun (c2.2.2.2.1 12 (by decide)) j).trans (a5 j hj)
  · exact (c3 j (by rw [a7]; exact hj)).trans (congrFun (a3.2.2.2.1 13 (by decide)) j)
  · show gN σ 1 ≤ gN ρ 1
    rw [r1]; exact a6
  · show gN σ 3 ≤ gN ρ 3
    rw [← a7]; exact c6
/-- the other puts down that it waits -/
def FwM (μ ν : S5) : Prop := (∀ j, ¬ (48 ≤ j ∧ j ≤ 51) → gI ν j = gI μ j) ∧ (∀ j, gJ ν j = gJ μ j) ∧ (∀ j, ¬ (59 ≤ j ∧ j ≤ 61) → gA ν j = gA μ j) ∧ (∀ j, ¬ j = 8 → gB ν j = gB μ j) ∧ ν.2.2.2.2 = μ.2.2.2.2
theorem FwM.fm {μ ν : S5} (h : FwM μ ν) : FmM μ ν := ⟨fun j a b => h.1 j (by omega), fun j _ => h.2.1 j, fun j a => h.2.2.1 j (by omega), fun j a => h.2.2.2.1 j (by omega), h.2.2.2.2⟩
theorem FwM.tr {μ ν ρ : S5} (h : FwM μ ν) (g : FwM ν ρ) : FwM μ ρ := ⟨fun j a => (g.1 j a).trans (h.1 j a), fun j => (g.2.1 j).trans (h.2.1 j), fun j a => (g.2.2.1 j a).trans (h.2.2.1 j a), fun j a => (g.2.2.2.1 j a).trans (h.2.2.2.1 j a), g.2.2.2.2.trans h.2.2.2.2⟩
theorem wait_m {μ : S5} {W V b e : Nat} (h : MM μ W V b e) (hW : W < 202000) (k p m : Int32) : ∃ ν, f_X12_waits k p m μ = some ((), ν) ∧ MM ν (W + 1) V b e ∧ FwM μ ν ∧ gB ν 8 = gB μ 8 ∧ (gA ν 59 W = (k <<< ((16 : Int32) &&& 31)) ||| p ∧ gA ν 60 W = nI b ∧ gA ν 61 W = m) ∧ ∀ j, j < W → gA ν 59 j = gA μ 59 j ∧ gA ν 60 j = gA μ 60 j ∧ gA ν 61 j = gA μ 61 j := by
  obtain ⟨h1, h2, h3, h4⟩ := h
  have hc : (nI W).toNatClampNeg = W := nI_clamp (by omega)
  refine ⟨pI (pA (pA (pA μ 59 (nI W) ((k <<< ((16 : Int32) &&& 31)) ||| p)) 60 (nI W) (nI b)) 61 (nI W) m) 48 (nI (W + 1)), ?_, ⟨rfl, h2, h3, h4⟩, ⟨fun j a => ?_, fun _ => rfl, fun j a => ?_, fun _ _ => rfl, rfl⟩, rfl, ⟨?_, ?_, ?_⟩, fun j hj => ⟨?_, ?_, ?_⟩⟩
  · unfold f_X12_waits
    rw [h1, h3, gdn hW (by omega), gdn hW (by omega), gdn hW (by omega), nI_add1]
  · rw [gI_pI, if_neg (by omega)]
    rfl
  · show gA (pA (pA (pA _ 59 _ _) 60 _ _) 61 _ _) j = _
    rw [gA_pA_ne (by omega), gA_pA_ne (by omega), gA_pA_ne (by omega)]
  · show upd _ (nI W).toNatClampNeg _ W = _
    rw [hc]; exact up_s
  · show upd _ (nI W).toNatClampNeg _ W = _
    rw [hc]; exact up_s
  · show upd _ (nI W).toNatClampNeg _ W = _
    rw [hc]; exact up_s
  · show upd _ (nI W).toNatClampNeg _ j = _
    rw [hc]; exact up_n (by omega)
  · show upd _ (nI W).toNatClampNeg _ j = _
    rw [hc]; exact up_n (by omega)
  · show upd _ (nI W).toNatClampNeg _ j = _
    rw [hc]; exact up_n (by omega)
theorem frame_m {μ : S5} {W V b e f nvf : Nat} (h : MM μ W V b e) (hW : W < 202000) (hf : f < 640) (h46 : xA μ 46 (nI f) = nI nvf) : ∃ ν, f_X12_frame (nI f) μ = some ((), ν) ∧ MM ν (W + 1) V e (e + nvf) ∧ FwM μ ν ∧ gB ν 8 = gB μ 8 ∧ (gA ν 59 W = (1 <<< ((16 : Int32) &&& 31)) ||| 0 ∧ gA ν 60 W = nI b ∧ gA ν 61 W = nI e) ∧ ∀ j, j < W → gA ν 59 j = gA μ 59 j ∧ gA ν 60 j = gA μ 60 j ∧ gA ν 61 j = gA μ 61 j := by
  obtain ⟨ν, a1, a2, a3, a4, a5, a6⟩ := wait_m h hW 1 0 (gI μ 51)
  refine ⟨pI (pI ν 50 (nI e)) 51 (nI (e + nvf)), ?_, ⟨a2.1, a2.2.1, rfl, rfl⟩, ⟨fun j a => ?_, a3.2.1, a3.2.2.1, a3.2.2.2.1, a3.2.2.2.2⟩, a4, ⟨a5.1, a5.2.1, a5.2.2.trans h.2.2.2⟩, a6⟩
  · unfold f_X12_frame bd
    rw [a1]
    show gd (nI f) 640 _ = _
    rw [gdn hf (by omega), show xA ν 46 (nI f) = xA μ 46 (nI f) from congrFun (a3.2.2.1 46 (by decide)) _, h46, a2.2.2.2, nI_plus]
  · rw [gI_pI, if_neg (by omega), gI_pI, if_neg (by omega)]
    exact a3.1 j a
theorem push_m {μ : S5} {W V b e : Nat} (h : MM μ W V b e) (hV : V < 580000) (v : Int64) : ∃ ν, f_X12_push v μ = some ((), ν) ∧ MM ν W (V + 1) b e ∧ FwM μ ν ∧ (∀ j, gA ν j = gA μ j) ∧ gB ν 8 V = v ∧ ∀ j, j < V → gB ν 8 j = gB μ 8 j := by
  obtain ⟨h1, h2, h3, h4⟩ := h
  refine ⟨pI (pB μ 8 (nI V) v) 49 (nI (V + 1)), ?_, ⟨h1, rfl, h3, h4⟩, ⟨fun j a => ?_, fun _ => rfl, fun _ _ => rfl, fun j a => gB_pB_ne a, rfl⟩, fun _ => rfl, gB_s (σ := μ) (by omega), fun j hj => gB_n (σ := μ) (by omega) (by omega)⟩
  · unfold f_X12_push
    rw [h2, gdn hV (by omega), nI_add1]
  · rw [gI_pI, if_neg (by omega)]
    rfl
