theorem Pz.wk {e f : Int} {σ μ : S5} (h : Pz e σ μ) (he : e ≤ f) : Pz f σ μ := by
  unfold Pz at *
  omega
theorem SG.pz {e : Int} {σ0 μ0 σ μ σ1 μ1 : S5} {c n s r : Int32} (hz : Pz e σ0 μ0) (hC : Cor σ0 μ0 c σ μ n) (hG : SG σ μ σ1 μ1 s r) (h160 : 0 ≤ gI μ0 16) (h161 : gI μ0 16 < 3000) (h170 : 0 ≤ gI μ0 17) (h171 : gI μ0 17 < 3000) : Pz (e + 1) σ1 μ1 := by
  obtain ⟨r1, r2, ⟨t1, t2, t3, t4, t5⟩, r4, r5, r6, r7, r8, r9⟩ := hC
  obtain ⟨g1, gE, gR, gFC, gFM, gPF, ⟨x8, x9, x10, x13, x14, x15, x18⟩, ⟨q9, q10, q11, q12, q16, q17, q18, q19⟩, gn, gp, gG⟩ := hG
  have i16 : iv μ1 16 = iv μ0 16 + 1 := iv_a1 (by rw [q16, t1]) h160 (by grind)
  have i17 : iv μ1 17 = iv μ0 17 + 1 := iv_a1 (by rw [q17, t2]) h170 (by grind)
  have i14 : iv σ1 14 = iv σ0 14 := iv_eq (by rw [x14, r7])
  unfold Pz at *
  omega
theorem SG.pb {d : Nat} {σ0 μ0 σ μ σ1 μ1 : S5} {c n s r : Int32} (hd : d ≤ 3) (h : PB d μ0) (hC : Cor σ0 μ0 c σ μ n) (hG : SG σ μ σ1 μ1 s r) (h160 : 0 < gI μ0 16) (h161 : gI μ0 16 < 3000) (h171 : gI μ0 17 < 3000) : PB (d + 1) μ1 ∧ xA μ1 14 (gI μ1 16 - 1) = 7 ∧ xA μ1 16 (gI μ1 16 - 1) = r := by
  obtain ⟨r1, r2, ⟨t1, t2, t3, t4, t5⟩, r4⟩ := hC
  obtain ⟨g1, gE, gR, gFC, gFM, gPF, gx, ⟨q9, q10, q11, q12, q16, q17, q18, q19⟩, gn, ⟨p14, p15, p16⟩, gG⟩ := hG
  rw [t1] at p14 p15 p16
  have y16 : gI μ1 16 = gI μ0 16 + 1 := by rw [q16, t1]
  have y17 : gI μ1 17 = gI μ0 17 + 1 := by rw [q17, t2]
  have hb := r1.2.2
  unfold Bg at hb
  have htp : gI μ1 16 - 1 = gI μ0 16 := by rw [y16]; grind
  rw [htp]
  refine ⟨?_, p14, p16⟩
  obtain ⟨a1, a2, a3, a4, a5, a6⟩ := h
  have hnd : nI (d + 1) = nI d + 1 := (nI_add1 d).symm
  have hbd : 0 ≤ nI d ∧ nI d ≤ 3 := ⟨i_le0 (nI_nneg (by omega)), (nI_le31 (b := 3) (by omega) (by omega)).mpr hd⟩
  have hf : ∀ i, 0 ≤ i → i < gI μ0 16 → xA μ1 14 i = xA μ0 14 i ∧ xA μ1 15 i = xA μ0 15 i := fun i p q => by
    have z2 := gPF.1 i p (by rw [t1]; exact q)
    have z3 := t4 i p q
    exact ⟨z2.1.trans z3.1, z2.2.1.trans z3.2.1⟩
  have e1 : gI μ1 16 - 1 - nI (d + 1) = gI μ0 16 - 1 - nI d := by rw [y16, hnd]; grind
  have f1 := hf (gI μ0 16 - 1 - nI d) (by grind) (by grind)
  unfold PB
  rw [e1, f1.1, hnd, y16, y17]
  refine ⟨by grind, by grind, by grind, by grind, a5, fun i hi => ?_⟩
  by_cases c : i = 0
  · subst c
    rw [show gI μ0 16 + 1 - 1 - nI 0 = gI μ0 16 by rw [show nI 0 = 0 from rfl]; grind, p14, p15]
    exact ⟨rfl, by grind, by grind⟩
  · obtain ⟨j, rfl⟩ : ∃ j, i = j + 1 := ⟨i - 1, by omega⟩
    have hj : 0 ≤ nI j ∧ nI j < nI d := ⟨i_le0 (nI_nneg (by omega)), (nI_lt31 (by omega) (by omega)).mpr (by omega)⟩
    have e2 : gI μ0 16 + 1 - 1 - nI (j + 1) = gI μ0 16 - 1 - nI j := by rw [← nI_add1]; grind
    have f2 := hf (gI μ0 16 - 1 - nI j) (by grind) (by grind)
    rw [e2, f2.1, f2.2]
    exact a6 j (by omega)
theorem at_rk {k : Int32} (h : atK k) : rkK k = 0 := by
  rcases h with rfl | rfl | rfl | rfl | rfl <;> decide
theorem rk_3 {k : Int32} (h : rkK k = 3) : k = 42 ∨ k = 47 ∨ k = 37 := by
  unfold rkK at h
  grind
theorem rk_2 {k : Int32} (h : rkK k = 2) : k = 43 ∨ k = 45 := by
  unfold rkK at h
  grind
theorem rk_1 {k : Int32} (h : rkK k = 1) : k = 129 ∨ k = 130 ∨ k = 60 := by
  unfold rkK at h
  grind
theorem dm_rk {f p n : Int32} {σ : S5} (h : Dm atK f p n σ) : rkK (gI σ 17) = 0 := by
  rcases h with h | h
  · rw [h.1]; decide
  · exact at_rk h.2.2.2.1
theorem pr_step {σ : S5} (E : S5 → Option (Int32 × S5)) (m : Nat) (c v : Int32) (hv : ¬ 3001 ≤ v) (h : rkK (gI σ 17) = 3) : f_X5_readProduct_L7 E (m + 1) c v σ = bd (bd (f_X5_readSign σ) (fun s τ => bd (f_X5_readApplication E τ) (fun c2 τ2 => f_X5_join s c c2 τ2))) (fun r τ => f_X5_readProduct_L7 E m r (v + 1) τ) := by
  show f_X5_readProduct_B7 E (f_X5_readProduct_L7 E m) c v σ = _
  have hb : f_X5_readProduct_b50 E (f_X5_readProduct_L7 E m) c v σ = bd (bd (f_X5_readSign σ) (fun s τ => bd (f_X5_readApplication E τ) (fun c2 τ2 => f_X5_join s c c2 τ2))) (fun r τ => f_X5_readProduct_L7 E m r (v + 1) τ) := by
    unfold f_X5_readProduct_b50
    rw [bd_as]
    congr 1
    funext a τ
    rw [bd_as]
  unfold f_X5_readProduct_B7
  rw [if_neg hv, hb]
  rcases rk_3 h with q | q | q
  · rw [if_pos q]
  · rw [if_neg (by rw [q]; decide), if_pos q]
  · rw [if_neg (by rw [q]; decide), if_neg (by rw [q]; decide), if_pos q]
theorem su_step {σ : S5} (E : S5 → Option (Int32 × S5)) (m : Nat) (c v : Int32) (hv : ¬ 3001 ≤ v) (h : rkK (gI σ 17) = 2) : f_X5_readSum_L7 E (m + 1) c v σ = bd (bd (f_X5_readSign σ) (fun s τ => bd (f_X5_readProduct E τ) (fun c2 τ2 => f_X5_join s c c2 τ2))) (fun r τ => f_X5_readSum_L7 E m r (v + 1) τ) := by
  show f_X5_readSum_B7 E (f_X5_readSum_L7 E m) c v σ = _
  have hb : f_X5_readSum_b38 E (f_X5_readSum_L7 E m) c v σ = bd (bd (f_X5_readSign σ) (fun s τ => bd (f_X5_readProduct E τ) (fun c2 τ2 => f_X5_join s c c2 τ2))) (fun r τ => f_X5_readSum_L7 E m r (v + 1) τ) := by
    unfold f_X5_readSum_b38
    rw [bd_as]
    congr 1
    funext a τ
    rw [bd_as]
  unfold f_X5_readSum_B7
  rw [if_neg hv, hb]
  rcases rk_2 h with q | q
  · rw [if_pos q]
  · rw [if_neg (by rw [q]; decide), if_pos q]
theorem nI_3001 {j : Nat} (h : j ≤ 3000) : ¬ (3001 : Int32) ≤ nI j := fun w => by
  have := (nI_le31 (a := 3001) (b := j) (by omega) (by omega)).mp w
  omega
theorem pr_loop {σ0 μ0 : S5} {E : S5 → Option (Int32 × S5)} {d : Nat} (hE : ESp E (gI σ0 14 + 1)) (hs0 : Sim σ0 μ0) (hz : Pz 2 σ0 μ0) (hd : d ≤ 2) (hPB : PB d μ0) (hT : Tk 3 μ0) : ∀ (w : Nat) (σ μ : S5) (c n : Int32) (j m : Nat), 3001 ≤ w + pn σ → w < m → j ≤ pn σ → Cor σ0 μ0 c σ μ n → gI μ 20 = 1 → gI μ 21 = 0 → ¬ atK (gI σ 17) → Qt (f_X5_readProduct_L7 E m c (nI j) σ) (Out (4 * pn σ) (fun μ' => gI μ' 20 = 1 ∧ gI μ' 21 = 0) (fun k => ¬ atK k ∧ ¬ rkK k = 3) atK σ0 μ0 μ) := by
  have hb := hs0.2.2
  unfold Bg at hb
  obtain ⟨h160, h161, h170, h171⟩ := hz.rg hb.2.2.2.2.2.2.2.1 (by decide)
  have h172 : gI μ0 17 < 2990 := by
    have i14 := iv_fr hb.2.2.2.2.2.2.2.1
    have e1 : (30 : Int32).toInt = 30 := rfl
    have e2 : (2990 : Int32).toInt = 2990 := rfl
    refine Int32.lt_iff_toInt_lt.mpr ?_
    show iv μ0 17 < _
    unfold Pz at hz
    omega
  intro w
  induction w with
  | zero =>
    intro σ μ c n j m h1 h2 h3 hC f20 f21 hat
    have := pn_3 hC.1
    omega
  | succ w ih =>
    intro σ μ c n j m h1 h2 h3 hC f20 f21 hat
    have hp3 := pn_3 hC.1
    obtain ⟨m, rfl⟩ : ∃ m', m = m' + 1 := ⟨m - 1, by omega⟩
    by_cases hr : rkK (gI σ 17) = 3
    · rw [pr_step E m c (nI j) (nI_3001 (by omega)) hr]
      refine Qt.bd (bin_step (d := d) (K := fun k => ¬ atK k) (B := atK) hs0 hC f20 f21 hr (by decide) hT hd hPB h160 h161 h170 h172 (fun σ1 μ1 hG => ?_) (fun f p n σ h => st_app E h) (fun k hk _ hl => ?_)) (fun c2 σ2 ho => ?_)
      · exact ap_go (by have := hG.2.2.2.2.2.2.1.2.2.2.2.1; rw [this, hC.2.2.2.2.2.2.1]; exact hE) hG.1 (SG.pz hz hC hG (by grind) h161 h170 h171) hG.2.2.2.2.2.2.2.1.2.2.2.2.2.2.2 (Or.inl hG.2.2.2.2.2.2.2.1.2.2.2.2.2.2.1)
      · exfalso
        apply hl
        have := rk_0 hk
        right
        split
        · decide
        · exact this.2
      · rcases ho with ⟨μ2, n2, k, o1, o2, o3, o4, o5⟩ | ⟨f, pp, mm, k, o1, o2, o3, o4, o5⟩
        · have hx := ih σ2 μ2 c2 n2 (j + 1) m (by omega) (by omega) (by omega) o3 o4.1 o4.2 o5.1
          rw [← nI_add1] at hx
          refine hx.mono (fun c3 σ3 ww => ?_)
          rcases ww with ⟨μ3, n3, k3, w1, w2, w3, w4, w5⟩ | ⟨f, pp, mm, k3, w1, w2, w3, w4, w5⟩
          · exact Or.inl ⟨μ3, n3, k + k3, by omega, o2.tr w2, w3, w4, w5⟩
          · exact Or.inr ⟨f, pp, mm, k + k3, by omega, o2.die w2 rfl (EqR.rf μ0), w3, w4, w5⟩
        · obtain ⟨m, rfl⟩ : ∃ m', m = m' + 1 := ⟨m - 1, by omega⟩
          rw [pr_exit E m c2 (nI j + 1) (by rw [dm_rk o3]; decide)]
          exact Qt.so (Or.inr ⟨f, pp, mm, k, by omega, o2, o3, o4, o5⟩)
    · rw [pr_exit E m c (nI j) hr]
      exact Qt.so (Or.inl ⟨μ, n, 0, by omega, Rch.rf μ, hC, ⟨f20, f21⟩, ⟨hat, hr⟩⟩)
/-- a product -/
theorem pr_go {σ0 μ0 : S5} {E : S5 → Option (Int32 × S5)} {d : Nat} (hE : ESp E (gI σ0 14 + 1)) (hs0 : Sim σ0 μ0) (hz : Pz 2 σ0 μ0) (hd : d ≤ 2) (hPB : PB d μ0) (hT : Tk 3 μ0) (h19 : ¬ gI μ0 19 = 0) (h18 : gI μ0 18 = 0 ∨ (¬ gI σ0 17 = 7 ∧ ¬ gI σ0 17 = 9 ∧ ¬ gI σ0 17 = 92)) : Qt (f_X5_readProduct E σ0) (Out (4 * pn σ0) (fun μ' => gI μ' 20 = 1 ∧ gI μ' 21 = 0) (fun k => ¬ atK k ∧ ¬ rkK k = 3) atK σ0 μ0 μ0) := by
  unfold f_X5_readProduct
  refine Qt.bd (ap_go hE hs0 (hz.wk (by decide)) h19 h18) (fun c σ1 ho => ?_)
  obtain ⟨m, hm⟩ : ∃ m, FU = m + 1 := FU_s
  rcases ho with ⟨μ1, n, k, o1, o2, o3, o4, o5⟩ | ⟨f, pp, mm, k, o1, o2, o3, o4, o5⟩
  · refine Qt.mono (x := f_X5_readProduct_L7 E FU c (nI 0) σ1) (pr_loop hE hs0 hz hd hPB hT 3001 σ1 μ1 c n 0 FU (by omega) (FU_big (by omega)) (by omega) o3 o4.1 o4.2 o5) (fun c3 σ3 ww => ?_)
    rcases ww with ⟨μ3, n3, k3, w1, w2, w3, w4, w5⟩ | ⟨f, pp, mm, k3, w1, w2, w3, w4, w5⟩
    · exact Or.inl ⟨μ3, n3, k + k3, by omega, o2.tr w2, w3, w4, w5⟩
    · exact Or.inr ⟨f, pp, mm, k + k3, by omega, o2.die w2 rfl (EqR.rf μ0), w3, w4, w5⟩
  · rw [hm, pr_exit E m c 0 (by rw [dm_rk o3]; decide)]
    exact Qt.so (Or.inr ⟨f, pp, mm, k, by omega, o2, o3, o4, o5⟩)
