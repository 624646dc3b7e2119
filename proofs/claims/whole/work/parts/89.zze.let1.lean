theorem Sim.mk2 {σ0 μ0 σ μ : S5} {e d : Int} (h : Sim σ0 μ0) (hW : Wd σ μ) (hE : EqE σ0 σ) (hR : EqR μ0 μ) (hg : Gm e d σ0 σ μ0 μ) (he : 0 ≤ e) (hd : 0 ≤ d) (s11 : gI σ 11 = 0) (m7 : gI μ 7 = 0) (h13 : gI σ 13 = gI μ 11) (h130 : 0 ≤ gI σ 13 ∧ gI σ 13 ≤ 600) (h14 : gI σ 14 = gI μ 15) (h140 : 0 ≤ gI σ 14 ∧ gI σ 14 ≤ 30) (g8 : 0 ≤ gI σ 8) (g9 : 0 ≤ gI σ 9) (g10 : 0 ≤ gI σ 10) (r9 : 0 ≤ gI μ 9) (r10 : 0 ≤ gI μ 10) (h15 : 0 ≤ gI σ 15 ∧ gI σ 15 < gI σ 9) (hp : gI σ 18 ≤ 3000) : Sim σ μ := by
  have hbm := h.bm
  have hb := h.2.2
  unfold Bg at hb
  have h5 : gI σ 5 = gI σ0 5 := hE.1 5 (by decide)
  exact ⟨hW, Ct_eq h.2.1 hE hR, Bg_mk s11 m7 h13 h130.1 h130.2 h14 h140.1 h140.2 g8 g9 (by rw [h5]; grind) (by rw [h5]; grind) g10 r9 r10 h15.1 h15.2 hp (hbm.gr hg he hd h5)⟩
/-- both have read k bindings of a let that began at σ0, μ0 -/
def LI (σ0 μ0 σ μ : S5) (k : Nat) (g cc fs fu fn ft : Nat → Int32) : Prop :=
  Sim σ μ ∧ Fx σ0 μ0 σ μ ∧ (gI σ 14 = gI σ0 14 + 1 ∧ gI σ 15 = gI σ0 9 ∧ gI μ 16 = gI μ0 16 + 1 ∧ gI μ 17 = gI μ0 17 ∧ gI σ0 9 < gI σ 9 ∧ gI μ0 9 < gI μ 9) ∧ (xA μ 14 (gI μ0 16) = 3 ∧ xA μ 15 (gI μ0 16) = gI μ0 9) ∧ (xA σ 21 (gI σ0 9) = gI σ0 15 ∧ xA σ 22 (gI σ0 9) = xA σ0 22 (gI σ0 15)) ∧ (xA μ 2 (gI μ0 9) = 0 ∧ xA μ 5 (gI μ0 9) = -1 ∧ xA μ 10 (gI μ0 9) = 0 ∧ (0 < k → xA μ 4 (gI μ0 9) = g (k - 1))) ∧ BN σ μ (gI σ0 9) (gI μ0 9) k g ∧ RG (QBd (gI σ0 9)) σ μ (gI σ0 9 + 1) (gI σ0 10) (gI μ0 9 + 1) (gI σ0 8) (gI μ0 9) (gI σ 9) (gI σ 10) (gI μ 9) (gI σ 8) (-1) k g cc fs fu fn ft ∧ Gm 2 0 σ0 σ μ0 μ ∧ 2 * iv μ 9 + 2 * iv σ0 13 + iv σ0 18 + 1 ≤ 2 * iv μ0 9 + 2 * iv σ 13 + iv σ 18
/-- and the name of the next, at pl, whose node is v -/
def LB (σ0 μ0 σ μ : S5) (k : Nat) (v pl : Int32) (g cc fs fu fn ft : Nat → Int32) : Prop :=
  Sim σ μ ∧ Fx σ0 μ0 σ μ ∧ (gI σ 14 = gI σ0 14 + 1 ∧ gI σ 15 = gI σ0 9 ∧ gI μ 16 = gI μ0 16 + 1 ∧ gI μ 17 = gI μ0 17 ∧ gI σ0 9 < gI σ 9 ∧ gI μ0 9 < v ∧ gI μ 9 = v + 1) ∧ (xA μ 14 (gI μ0 16) = 3 ∧ xA μ 15 (gI μ0 16) = gI μ0 9) ∧ (xA σ 21 (gI σ0 9) = gI σ0 15 ∧ xA σ 22 (gI σ0 9) = xA σ0 22 (gI σ0 15)) ∧ (xA μ 2 (gI μ0 9) = 0 ∧ xA μ 5 (gI μ0 9) = -1 ∧ xA μ 10 (gI μ0 9) = 0 ∧ xA μ 4 (gI μ0 9) = v ∧ xA μ 3 (gI μ0 9) = (if 0 < k then g 0 else v)) ∧ (k ≤ 4 ∧ xA σ 20 (gI σ0 9) = nI (k + 1) ∧ (∀ i, i < k → 0 ≤ g i ∧ g i < v ∧ xB σ 3 (gI σ0 9 * 5 + nI i) = xB μ 0 (g i)) ∧ xB σ 3 (gI σ0 9 * 5 + nI k) = xB μ 0 v) ∧ (xA μ 2 v = 1 ∧ xA μ 5 v = -1 ∧ xA μ 6 v = pl ∧ xA μ 10 v = 0) ∧ RG (QBd (gI σ0 9)) σ μ (gI σ0 9 + 1) (gI σ0 10) (gI μ0 9 + 1) (gI σ0 8) (gI μ0 9) (gI σ 9) (gI σ 10) v (gI σ 8) v k g cc fs fu fn ft ∧ Gm 2 0 σ0 σ μ0 μ
/-- the reference behind a binding's names -/
def mB2 (v : Int32) (τ : S5) : Option (Unit × S5) := bd (f_X12_isSign 61 τ) (fun r τ1 => bd (f_X12_accept r τ1) (fun _ τ2 => bd (f_X12_pile 2 v 0 τ2) (fun _ τ3 => some ((), pI (pI τ3 19 1) 18 1))))
theorem ne5 {s : Int32} {i j : Nat} (h0 : 0 ≤ s) (h1 : s < 700) (hi : i ≤ 4) (hj : j ≤ 4) (h : ¬ i = j) : ¬ (s * 5 + nI i).toNatClampNeg = (s * 5 + nI j).toNatClampNeg := by
  have h50 := s5_rg (s := s) (i := 0) h0 h1 (by omega)
  rw [show nI 0 = 0 from rfl, Int32.add_zero] at h50
  exact add_ne h50.1 (by grind) (by omega) (by omega) h
theorem ne5s {s x f : Int32} {j : Nat} (h0 : 0 ≤ s) (h1 : s < f) (hf : f ≤ 700) (hx : f * 5 ≤ x) (hj : j ≤ 4) : ¬ x.toNatClampNeg = (s * 5 + nI j).toNatClampNeg := by
  have hj5 : 0 ≤ nI j ∧ nI j < 5 := ⟨i_le0 (nI_nneg (by omega)), (nI_lt31 (b := 5) (by omega) (by omega)).mpr (by omega)⟩
  have f1 := five_lt (s' := f) h0 h1 hf hj5.1 hj5.2
  have h50 := s5_rg (s := s) (i := j) h0 (by grind) (by omega)
  exact i_ne' h50.1 (by grind)
theorem m_b87 {μ μc : S5} {l : Int32} (h7 : gI μ 7 = 0) (h3 : gI μ 4 = 3) (h0 : 0 ≤ gI μ 9) (h1 : gI μ 9 < 3200) (ha : f_X12_append l (gI μ 9) (pB (ndM μ 1) 0 (gI μ 9) (gJ μ 0)) = some ((), μc)) : f_X12_binding_b87 l μ = bd (f_X12_next μc) (fun _ τ => bd (f_X12_parameters (gI μ 9) 0 τ) (fun _ ρ => mB2 (gI μ 9) ρ)) := by
  unfold f_X12_binding_b87
  rw [if_neg (by rw [h7]; decide), if_pos h3, m_node 1 h0 h1, bd_of, gd3200 h0 h1, show gJ (ndM μ 1) 0 = gJ μ 0 from rfl, ha, bd_of]
  rfl
theorem EqR.ndB {μ : S5} {k v : Int32} {z : Int64} : EqR μ (pB (ndM μ k) 0 v z) := ((EqR.rf μ).nd).B (by decide)
