/-- functions within: weights -/
def fC (σ : S5) (i : Nat) : Nat := if xA σ 22 (nI i) = nI i ∧ ¬ xA σ 21 (nI i) = -1 then 1 else 0
def fM (μ : S5) (i : Nat) : Nat := if xA μ 2 (nI i) = 2 ∨ (xA μ 2 (nI i) = 1 ∧ 0 < xA μ 10 (nI i)) then 1 else 0
/-- names: weights -/
def vC (σ : S5) (i : Nat) : Nat := (xA σ 20 (nI i)).toNatClampNeg
def vM (μ : S5) (i : Nat) : Nat := if xA μ 2 (nI i) = 0 then ln μ 8 (xA μ 3 (nI i)) else (xA μ 10 (nI i)).toNatClampNeg
theorem xA_tn (σ : S5) (k : Nat) (x : Int32) : xA σ k (nI x.toNatClampNeg) = xA σ k x := by
  show gA σ k (nI x.toNatClampNeg).toNatClampNeg = gA σ k x.toNatClampNeg
  rw [nI_clamp (Int32.toNatClampNeg_lt x)]
theorem ln_row {μ : S5} {k : Nat} {g : Nat → Int32} (hg : ∀ i, i < k → 0 ≤ g i ∧ xA μ 5 (g i) = if i + 1 < k then g (i + 1) else -1) : ∀ (d i m : Nat), i + d + 1 = k → d + 1 < m → ln μ m (g i) = d + 1 := by
  intro d
  induction d with
  | zero =>
    intro i m hi hm
    obtain ⟨m, rfl⟩ : ∃ m', m = m' + 2 := ⟨m - 2, by omega⟩
    have q := hg i (by omega)
    unfold ln
    rw [if_neg (by grind), q.2, if_neg (by omega)]
    unfold ln
    rw [if_pos (by decide)]
  | succ d ih =>
    intro i m hi hm
    obtain ⟨m, rfl⟩ : ∃ m', m = m' + 1 := ⟨m - 1, by omega⟩
    have q := hg i (by omega)
    unfold ln
    rw [if_neg (by grind), q.2, if_pos (by omega), ih (i + 1) m (by omega) (by omega)]
theorem Loc_k (σ μ : S5) : Loc σ μ (fC σ) (fM μ) := by
  refine ⟨?_, ?_, ?_, ?_⟩
  · intro s n h0 h1 e1 e2 e3 e4 e5
    unfold fC fM
    rw [xA_tn, xA_tn, xA_tn, xA_tn, ← nI_tn h0, if_pos ⟨e1, by grind⟩, if_pos (by grind)]
  · intro s n k g h0 h1 e1 e2 e3 e4 e5 e6 e7
    unfold fC fM
    rw [xA_tn, xA_tn, xA_tn, xA_tn, ← nI_tn h0, if_neg (fun q => e5 q.1), if_neg (by grind)]
  · intro s n h0 h1 e1 e2 e3 e4
    unfold fC fM
    rw [xA_tn, xA_tn, xA_tn, xA_tn, ← nI_tn h0, if_neg (fun q => e4 q.1), if_neg (by grind)]
  · intro n e1 e2 e3
    unfold fM
    rw [xA_tn, xA_tn, if_neg (by grind)]
theorem Loc_v (σ μ : S5) : Loc σ μ (vC σ) (vM μ) := by
  refine ⟨?_, ?_, ?_, ?_⟩
  · intro s n h0 h1 e1 e2 e3 e4 e5
    unfold vC vM
    rw [xA_tn, xA_tn, xA_tn, xA_tn, if_neg (by grind), e3]
  · intro s n k g h0 h1 e1 e2 e3 e4 e5 e6 e7
    unfold vC vM
    rw [xA_tn, xA_tn, xA_tn, xA_tn, if_pos e1, e2, nI_clamp (by omega), ← e6]
    have := ln_row e7 (k - 1) 0 8 (by omega) (by omega)
    omega
  · intro s n h0 h1 e1 e2 e3 e4
    unfold vC vM
    rw [xA_tn, xA_tn, xA_tn, xA_tn, if_neg (by grind), e3]
  · intro n e1 e2 e3
    unfold vM
    rw [xA_tn, xA_tn, xA_tn, if_neg e2, e1]
    rfl
