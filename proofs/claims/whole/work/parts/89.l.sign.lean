theorem gI_pI (σ : S5) (k j : Nat) (v : Int32) : gI (pI σ k v) j = if j = k then v else gI σ j := by
  show cond (Nat.beq j k) v (σ.1 j) = _
  by_cases h : j = k
  · subst h; rw [if_pos rfl, Nat.beq_refl]; rfl
  · rw [if_neg h, beq_ne h]; rfl
theorem gI_pJ (σ : S5) (k j : Nat) (v : Int64) : gI (pJ σ k v) j = gI σ j := rfl
theorem gI_pA (σ : S5) (k j : Nat) (i v : Int32) : gI (pA σ k i v) j = gI σ j := rfl
theorem gI_pB (σ : S5) (k j : Nat) (i : Int32) (v : Int64) : gI (pB σ k i v) j = gI σ j := rfl
theorem gJ_pJ (σ : S5) (k j : Nat) (v : Int64) : gJ (pJ σ k v) j = if j = k then v else gJ σ j := by
  show cond (Nat.beq j k) v (σ.2.1 j) = _
  by_cases h : j = k
  · subst h; rw [if_pos rfl, Nat.beq_refl]; rfl
  · rw [if_neg h, beq_ne h]; rfl
theorem gJ_pI (σ : S5) (k j : Nat) (v : Int32) : gJ (pI σ k v) j = gJ σ j := rfl
theorem gJ_pA (σ : S5) (k j : Nat) (i v : Int32) : gJ (pA σ k i v) j = gJ σ j := rfl
theorem gJ_pB (σ : S5) (k j : Nat) (i : Int32) (v : Int64) : gJ (pB σ k i v) j = gJ σ j := rfl
theorem gA_pI (σ : S5) (k j : Nat) (v : Int32) : gA (pI σ k v) j = gA σ j := rfl
theorem gA_pJ (σ : S5) (k j : Nat) (v : Int64) : gA (pJ σ k v) j = gA σ j := rfl
theorem gA_pB (σ : S5) (k j : Nat) (i : Int32) (v : Int64) : gA (pB σ k i v) j = gA σ j := rfl
theorem gA_pA (σ : S5) (k j : Nat) (i v : Int32) (x : Nat) : gA (pA σ k i v) j x = if j = k ∧ x = i.toNatClampNeg then v else gA σ j x := by
  show (cond (Nat.beq j k) (upd (σ.2.2.1 j) i.toNatClampNeg v) (σ.2.2.1 j)) x = _
  by_cases h : j = k
  · subst h
    rw [Nat.beq_refl]
    show (if x = i.toNatClampNeg then v else σ.2.2.1 j x) = _
    by_cases h2 : x = i.toNatClampNeg
    · rw [if_pos h2, if_pos ⟨rfl, h2⟩]
    · rw [if_neg h2, if_neg (fun q => h2 q.2)]; rfl
  · rw [if_neg (fun q => h q.1), beq_ne h]; rfl
theorem gB_pI (σ : S5) (k j : Nat) (v : Int32) : gB (pI σ k v) j = gB σ j := rfl
theorem gB_pJ (σ : S5) (k j : Nat) (v : Int64) : gB (pJ σ k v) j = gB σ j := rfl
theorem gB_pA (σ : S5) (k j : Nat) (i v : Int32) : gB (pA σ k i v) j = gB σ j := rfl
theorem gB_pB (σ : S5) (k j : Nat) (i : Int32) (v : Int64) (x : Nat) : gB (pB σ k i v) j x = if j = k ∧ x = i.toNatClampNeg then v else gB σ j x := by
  show (cond (Nat.beq j k) (vp_updL (σ.2.2.2.1 j) i.toNatClampNeg v) (σ.2.2.2.1 j)) x = _
  by_cases h : j = k
  · subst h
    rw [Nat.beq_refl]
    show (if x = i.toNatClampNeg then v else σ.2.2.2.1 j x) = _
    by_cases h2 : x = i.toNatClampNeg
    · rw [if_pos h2, if_pos ⟨rfl, h2⟩]
    · rw [if_neg h2, if_neg (fun q => h2 q.2)]; rfl
  · rw [if_neg (fun q => h q.1), beq_ne h]; rfl
theorem xA_gA (σ : S5) (k : Nat) (i : Int32) : xA σ k i = gA σ k i.toNatClampNeg := rfl
theorem xB_gB (σ : S5) (k : Nat) (i : Int32) : xB σ k i = gB σ k i.toNatClampNeg := rfl
theorem S5_ext {x y : S5} (h1 : ∀ k, gI x k = gI y k) (h2 : ∀ k, gJ x k = gJ y k) (h3 : x.2.2 = y.2.2) : x = y :=
  Prod.ext (funext h1) (Prod.ext (funext h2) h3)
theorem i_nat {a : Int32} (h : 0 ≤ a) : (a.toNatClampNeg : Int) = a.toInt := by
  rw [Int32.le_iff_toInt_le] at h
  show (a.toInt.toNat : Int) = a.toInt
  exact Int.toNat_of_nonneg h
theorem okS_all (P : Int32 → Bool) (h : (List.range 127).all (fun k => P (nI k)) = true) {z : Int32} (hz : okS z) : P z = true := by
  have h1 : 0 ≤ z ∧ z ≤ 126 := by rcases hz with rfl | ⟨h1, h2⟩ <;> grind
  have h2 := i_nat h1.1
  have h3 : z = nI z.toNatClampNeg := by
    apply Int32.toInt_inj.mp
    rw [← h2]
    show _ = (Int32.ofNat z.toNatClampNeg).toInt
    rw [Int32.toInt_ofNat_of_lt (by have := h1.2; rw [Int32.le_iff_toInt_le, ← h2] at this; rw [show (126 : Int32).toInt = 126 from rfl] at this; omega)]
  have h4 : z.toNatClampNeg < 127 := by have := h1.2; rw [Int32.le_iff_toInt_le, ← h2] at this; rw [show (126 : Int32).toInt = 126 from rfl] at this; omega
  rw [List.all_eq_true] at h
  rw [h3]
  exact h _ (List.mem_range.mpr h4)
/-- a sign that is a word by itself -/
def knS (z : Int32) : Bool := z == 40 || z == 41 || z == 123 || z == 125 || z == 61 || z == 59 || z == 44 || z == 92 || z == 46 || z == 95 || z == 43 || z == 45 || z == 42 || z == 47 || z == 37 || z == 60 || z == 124
def ixF (v : Int32) : Nat → Nat → Int32
  | 0, _ => -1
  | d + 1, k => if (sByt.getD 0 []).getD k 0 = v then nI k else ixF v d (k + 1)
theorem c_ix (v : Int32) (σ : S5) : ∀ (d k m : Nat), k + d = 17 → d < m → f_J1_indexOfChar_4cfef_L7 m 0 17 v (nI k) σ = some (ixF v d k, σ) := by
  intro d
  induction d with
  | zero =>
    intro k m hk hm
    obtain ⟨m, rfl⟩ : ∃ m', m = m' + 1 := ⟨m - 1, by omega⟩
    show f_J1_indexOfChar_4cfef_B7 _ _ _ _ _ _ = _
    unfold f_J1_indexOfChar_4cfef_B7
    rw [if_pos (show (17 : Int32) ≤ nI k from (nI_le31 (a := 17) (by omega) (by omega)).mpr (by omega))]
    rfl
  | succ d ih =>
    intro k m hk hm
    obtain ⟨m, rfl⟩ : ∃ m', m = m' + 1 := ⟨m - 1, by omega⟩
    show f_J1_indexOfChar_4cfef_B7 _ _ _ _ _ _ = _
    unfold f_J1_indexOfChar_4cfef_B7
    rw [if_neg (show ¬ (17 : Int32) ≤ nI k from fun q => by have := (nI_le31 (a := 17) (by omega) (by omega)).mp q; omega), gd_in (nI_nneg (by omega)) (by rw [nI_clamp (by omega)]; show k < 17; omega), nI_clamp (by omega), nI_add1]
    show gs 0 sN _ = _
    unfold gs
    rw [if_pos (by decide), ih (k + 1) m (by omega) (by omega)]
    show _ = some ((if (sByt.getD 0 []).getD k 0 = v then nI k else ixF v d (k + 1)), σ)
    split <;> rfl
theorem kn_ix : ∀ {z : Int32}, okS z → (decide ((z.toUInt32 % 65536).toInt32 = z) && decide (z.toInt8.toInt32 = z) && decide (¬ z < 0) && decide (¬ 255 < z) && decide (ixF z 17 0 < 0 ↔ knS z = false)) = true := fun hz => okS_all (fun z => decide ((z.toUInt32 % 65536).toInt32 = z) && decide (z.toInt8.toInt32 = z) && decide (¬ z < 0) && decide (¬ 255 < z) && decide (ixF z 17 0 < 0 ↔ knS z = false)) (by decide +kernel) hz
theorem c_b80 {z : Int32} (hz : okS z) (σ : S5) : f_X10_readSign_b80 z σ = f_X10_readSign_b96 (if knS z then z else 2) σ := by
  have h := kn_ix hz
  simp only [Bool.and_eq_true, decide_eq_true_eq] at h
  obtain ⟨⟨⟨⟨h1, h2⟩, h3⟩, h4⟩, h5⟩ := h
  have hl := c_ix z σ 17 0 FU rfl (FU_big (by omega))
  unfold f_X10_readSign_b80 f_J0_indexOf_0f7a4 f_J0_indexOf_7cf53 f_J0_isLatin1_aae02 f_J0_length_8abf5 f_J0_coder_7d493 f_J1_indexOf_4cfef f_J1_canEncode_9a6ad f_J1_indexOfChar_4cfef
  simp only [gs, bd, h1, h2, if_neg h3, if_neg h4, show (0 < sN) = True from eq_true (by decide), if_true]
  have e17 : (Int32.ofNat (sLen.getD 0 0) >>> ((0 : Int32) &&& 31)) = 17 := by decide
  have e18 : Int32.ofNat (sLen.getD 0 0) = 17 := by decide
  rw [e17, e18]
  rw [show (0 : Int32) = nI 0 from rfl] at *
  simp [show ¬ (nI 0 < nI 0) by decide, show (nI 0 < 17) = True from eq_true (by decide), show ¬ (1 : Int32) = nI 0 by decide, show ¬ (17 : Int32) < 17 by decide, hl]
  by_cases hk : knS z = true
  · have : ¬ ixF z 17 0 < nI 0 := fun q => by have := h5.mp q; rw [hk] at this; cases this
    rw [if_neg this, if_pos hk]
  · have : ixF z 17 0 < nI 0 := h5.mpr (by simpa using hk)
    rw [if_pos this, if_neg hk]
