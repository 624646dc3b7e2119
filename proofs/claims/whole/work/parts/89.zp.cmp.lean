theorem Pz.o17 {e : Int} {σ μ : S5} (hz : Pz e σ μ) (h : gI σ 14 ≤ 30) (he : e ≤ 5) : gI μ 17 < 2990 := by
  have i14 := iv_fr h
  have e1 : (30 : Int32).toInt = 30 := rfl
  have e2 : (2990 : Int32).toInt = 2990 := rfl
  refine Int32.lt_iff_toInt_lt.mpr ?_
  show iv μ 17 < _
  unfold Pz at hz
  omega
theorem su_loop {σ0 μ0 : S5} {E : S5 → Option (Int32 × S5)} {d : Nat} (hE : ESp E (gI σ0 14 + 1)) (hs0 : Sim σ0 μ0) (hz : Pz 1 σ0 μ0) (hd : d ≤ 1) (hPB : PB d μ0) (hT : Tk 2 μ0) : ∀ (w : Nat) (σ μ : S5) (c n : Int32) (j m : Nat), 3001 ≤ w + pn σ → w < m → j ≤ pn σ → Cor σ0 μ0 c σ μ n → gI μ 20 = 1 → gI μ 21 = 0 → ¬ atK (gI σ 17) ∧ ¬ rkK (gI σ 17) = 3 → Qt (f_X5_readSum_L7 E m c (nI j) σ) (Out (4 * pn σ) (fun μ' => gI μ' 20 = 1 ∧ gI μ' 21 = 0) (fun k => ¬ atK k ∧ ¬ rkK k = 3 ∧ ¬ rkK k = 2) atK σ0 μ0 μ) := by
  have hb := hs0.2.2
  unfold Bg at hb
  obtain ⟨h160, h161, h170, h171⟩ := hz.rg hb.2.2.2.2.2.2.2.1 (by decide)
  have h172 := hz.o17 hb.2.2.2.2.2.2.2.1 (by decide)
  intro w
  induction w with
  | zero =>
    intro σ μ c n j m h1 h2 h3 hC f20 f21 hat
    have := pn_3 hC.1
    omega
  | succ w ih =>
    intro σ μ c n j m h1 h2 h3 hC f20 f21 hat
    have hp3 := pn_3 hC.1
    obtain ⟨m, rfl⟩ : ∃ m', m = m' + 1 := ⟨m - 1, by omega⟩
    by_cases hr : rkK (gI σ 17) = 2
    · rw [su_step E m c (nI j) (nI_3001 (by omega)) hr]
      refine Qt.bd (bin_step (d := d) (K := fun k => ¬ atK k ∧ ¬ rkK k = 3) (B := atK) hs0 hC f20 f21 hr (by decide) hT (by omega) hPB h160 h161 h170 h172 (fun σ1 μ1 hG => ?_) (fun f p n σ h => st_prod E h) (fun k hk hK hl => ?_)) (fun c2 σ2 ho => ?_)
      · have hpb := SG.pb (by omega) hPB hC hG h160 h161 h171
        refine pr_go (d := d + 1) (by have := hG.2.2.2.2.2.2.1.2.2.2.2.1; rw [this, hC.2.2.2.2.2.2.1]; exact hE) hG.1 (SG.pz hz hC hG (by grind) h161 h170 h171) (by omega) hpb.1 ⟨fun w => absurd w (by decide), Or.inr (by rw [hpb.2.2]; decide)⟩ hG.2.2.2.2.2.2.2.1.2.2.2.2.2.2.2 (Or.inl hG.2.2.2.2.2.2.2.1.2.2.2.2.2.2.1)
      · exfalso
        apply hl
        have := rk_0 hk
        right
        split
        · decide
        · have := hK.2
          grind
      · rcases ho with ⟨μ2, n2, k, o1, o2, o3, o4, o5⟩ | ⟨f, pp, mm, k, o1, o2, o3, o4, o5⟩
        · have hx := ih σ2 μ2 c2 n2 (j + 1) m (by omega) (by omega) (by omega) o3 o4.1 o4.2 o5.1
          rw [← nI_add1] at hx
          refine hx.mono (fun c3 σ3 ww => ?_)
          rcases ww with ⟨μ3, n3, k3, w1, w2, w3, w4, w5⟩ | ⟨f, pp, mm, k3, w1, w2, w3, w4, w5⟩
          · exact Or.inl ⟨μ3, n3, k + k3, by omega, o2.tr w2, w3, w4, w5⟩
          · exact Or.inr ⟨f, pp, mm, k + k3, by omega, o2.die w2 rfl (EqR.rf μ0), w3, w4, w5⟩
        · obtain ⟨m, rfl⟩ : ∃ m', m = m' + 1 := ⟨m - 1, by omega⟩
          rw [su_exit E m c2 (nI j + 1) (by rw [dm_rk o3]; decide)]
          exact Qt.so (Or.inr ⟨f, pp, mm, k, by omega, o2, o3, o4, o5⟩)
    · rw [su_exit E m c (nI j) hr]
      exact Qt.so (Or.inl ⟨μ, n, 0, by omega, Rch.rf μ, hC, ⟨f20, f21⟩, ⟨hat.1, hat.2, hr⟩⟩)
/-- a sum -/
theorem su_go {σ0 μ0 : S5} {E : S5 → Option (Int32 × S5)} {d : Nat} (hE : ESp E (gI σ0 14 + 1)) (hs0 : Sim σ0 μ0) (hz : Pz 1 σ0 μ0) (hd : d ≤ 1) (hPB : PB d μ0) (hT : Tk 2 μ0) (h19 : ¬ gI μ0 19 = 0) (h18 : gI μ0 18 = 0 ∨ (¬ gI σ0 17 = 7 ∧ ¬ gI σ0 17 = 9 ∧ ¬ gI σ0 17 = 92)) : Qt (f_X5_readSum E σ0) (Out (4 * pn σ0) (fun μ' => gI μ' 20 = 1 ∧ gI μ' 21 = 0) (fun k => ¬ atK k ∧ ¬ rkK k = 3 ∧ ¬ rkK k = 2) atK σ0 μ0 μ0) := by
  have hT3 : Tk 3 μ0 := by
    refine ⟨fun w => absurd w (by decide), ?_⟩
    rcases hT.2 with h | h
    · exact Or.inl h
    · rw [if_neg (by decide)] at h
      right
      rw [if_neg (by decide)]
      grind
  unfold f_X5_readSum
  refine Qt.bd (pr_go (d := d) hE hs0 (hz.wk (by decide)) (by omega) hPB hT3 h19 h18) (fun c σ1 ho => ?_)
  obtain ⟨m, hm⟩ : ∃ m, FU = m + 1 := FU_s
  rcases ho with ⟨μ1, n, k, o1, o2, o3, o4, o5⟩ | ⟨f, pp, mm, k, o1, o2, o3, o4, o5⟩
  · refine Qt.mono (x := f_X5_readSum_L7 E FU c (nI 0) σ1) (su_loop hE hs0 hz hd hPB hT 3001 σ1 μ1 c n 0 FU (by omega) (FU_big (by omega)) (by omega) o3 o4.1 o4.2 o5) (fun c3 σ3 ww => ?_)
    rcases ww with ⟨μ3, n3, k3, w1, w2, w3, w4, w5⟩ | ⟨f, pp, mm, k3, w1, w2, w3, w4, w5⟩
    · exact Or.inl ⟨μ3, n3, k + k3, by omega, o2.tr w2, w3, w4, w5⟩
    · exact Or.inr ⟨f, pp, mm, k + k3, by omega, o2.die w2 rfl (EqR.rf μ0), w3, w4, w5⟩
  · rw [hm, su_exit E m c 0 (by rw [dm_rk o3]; decide)]
    exact Qt.so (Or.inr ⟨f, pp, mm, k, by omega, o2, o3, o4, o5⟩)
theorem at_ab {k : Int32} (h : atK k) : abE k := by
  unfold abE
  rcases h with rfl | rfl | rfl | rfl | rfl <;> decide
theorem rk_ab {k : Int32} (h : ¬ rkK k = 0) : abE k := by
  unfold abE
  refine ⟨fun q => h (by rw [q]; decide), fun q => h (by rw [q]; decide), fun q => h (by rw [q]; decide), fun q => h (by rw [q]; decide), fun q => h (by rw [q]; decide), fun q => h (by rw [q]; decide)⟩
theorem cm_if {σ : S5} {c : Int32} (E : S5 → Option (Int32 × S5)) (h : rkK (gI σ 17) = 1) : (if (gI σ 17) = 129 then
    (f_X5_readComparison_b43 E (c) σ)
  else
    (if (gI σ 17) = 60 then
      (f_X5_readComparison_b43 E (c) σ)
    else
      (if (gI σ 17) = 130 then
        (f_X5_readComparison_b43 E (c) σ)
      else
        (some (c, σ))))) = bd (f_X5_readSign σ) (fun s τ => bd (f_X5_readSum E τ) (fun c2 τ2 => f_X5_join s c c2 τ2)) := by
  have hb : f_X5_readComparison_b43 E c σ = bd (f_X5_readSign σ) (fun s τ => bd (f_X5_readSum E τ) (fun c2 τ2 => f_X5_join s c c2 τ2)) := by
    unfold f_X5_readComparison_b43
    congr 1
    funext a τ
    congr 1
    funext a2 τ2
    rw [bd_eta']
  rw [hb]
  rcases rk_1 h with q | q | q
  · rw [if_pos q]
  · rw [if_neg (by rw [q]; decide), if_neg (by rw [q]; decide), if_pos q]
  · rw [if_neg (by rw [q]; decide), if_pos q]
/-- a comparison -/
theorem cm_go {σ0 μ0 : S5} {E : S5 → Option (Int32 × S5)} (hE : ESp E (gI σ0 14 + 1)) (hs0 : Sim σ0 μ0) (hz : Pz 0 σ0 μ0) (htop : ¬ xA μ0 14 (gI μ0 16 - 1) = 7) (h19 : ¬ gI μ0 19 = 0) (h18 : gI μ0 18 = 0 ∨ (¬ gI σ0 17 = 7 ∧ ¬ gI σ0 17 = 9 ∧ ¬ gI σ0 17 = 92)) : Qt (f_X5_readComparison E σ0) (Out (4 * pn σ0) (fun μ' => gI μ' 20 = 1) (fun k => rkK k = 0) abE σ0 μ0 μ0) := by
  have hb := hs0.2.2
  unfold Bg at hb
  obtain ⟨h160, h161, h170, h171⟩ := hz.rg hb.2.2.2.2.2.2.2.1 (by decide)
  have h172 := hz.o17 hb.2.2.2.2.2.2.2.1 (by decide)
  have hPB : PB 0 μ0 := by
    refine ⟨by rw [show nI 0 = 0 from rfl]; grind, by grind, by rw [show nI 0 = 0 from rfl]; exact h170, by grind, ?_, fun i hi => absurd hi (by omega)⟩
    rw [show gI μ0 16 - 1 - nI 0 = gI μ0 16 - 1 by rw [show nI 0 = 0 from rfl]; grind]
    exact htop
  unfold f_X5_readComparison
  refine Qt.bd (su_go (d := 0) hE hs0 (hz.wk (by decide)) (by omega) hPB ⟨fun w => absurd w (by decide), Or.inl htop⟩ h19 h18) (fun c σ1 ho => ?_)
  rcases ho with ⟨μ1, n, k, o1, o2, o3, o4, o5⟩ | ⟨f, pp, mm, k, o1, o2, o3, o4, o5⟩
  · by_cases hr : rkK (gI σ1 17) = 1
    · rw [cm_if E hr]
      refine (bin_step (d := 0) (K := fun k => ¬ atK k ∧ ¬ rkK k = 3 ∧ ¬ rkK k = 2) (B := abE) hs0 o3 o4.1 o4.2 hr (by decide) ⟨fun _ => htop, Or.inl htop⟩ (by omega) hPB h160 h161 h170 h172 (fun σ1 μ1 hG => ?_) (fun f p n σ h => st_sum E h) (fun k hk hK hl => ?_)).mono (fun c3 σ3 ww => ?_)
      · have hpb := SG.pb (by omega) hPB o3 hG h160 h161 h171
        refine (su_go (d := 1) (by have := hG.2.2.2.2.2.2.1.2.2.2.2.1; rw [this, o3.2.2.2.2.2.2.1]; exact hE) hG.1 (SG.pz hz o3 hG (by grind) h161 h170 h171) (by omega) hpb.1 ⟨fun w => absurd w (by decide), Or.inr (by rw [hpb.2.2]; decide)⟩ hG.2.2.2.2.2.2.2.1.2.2.2.2.2.2.2 (Or.inl hG.2.2.2.2.2.2.2.1.2.2.2.2.2.2.1)).mono (fun c4 σ4 w4 => ?_)
        rcases w4 with w4 | ⟨f, pp, mm, k4, w1, w2, w3, w5⟩
        · exact Or.inl w4
        · exact Or.inr ⟨f, pp, mm, k4, w1, w2, w3.weak (fun _ x => at_ab x), w5⟩
      · have h03 := rk_0 hk
        have hk1 : rkK k = 1 := by
          apply Classical.byContradiction
          intro hc
          apply hl
          left
          have := hK.2
          grind
        exact ⟨rfl, hk1, rk_ab (by rw [hk1]; decide)⟩
      · rcases ww with ⟨μ3, n3, k3, w1, w2, w3, w4, w5⟩ | ⟨f, pp, mm, k3, w1, w2, w3, w4, w5⟩
        · refine Or.inl ⟨μ3, n3, k + k3, by omega, o2.tr w2, w3, w4.1, ?_⟩
          have h03 := rk_0 w3.1.1.2.2.2.1
          rcases w5.2 with h | h
          · exact h
          · have := w5.1.2
            by_cases c1 : rkK (gI σ3 17) = 1
            · rw [if_pos c1] at h
              exact absurd h (by decide)
            · rw [if_neg c1] at h
              grind
        · exact Or.inr ⟨f, pp, mm, k + k3, by omega, o2.die w2 rfl (EqR.rf μ0), w3, w4, w5⟩
    · have h03 := rk_0 o3.1.1.2.2.2.1
      have hr0 : rkK (gI σ1 17) = 0 := by
        have := o5.2
        grind
      have c1 : ¬ gI σ1 17 = 129 := fun q => by rw [q] at hr; exact hr (by decide)
      have c2 : ¬ gI σ1 17 = 60 := fun q => by rw [q] at hr; exact hr (by decide)
      have c3 : ¬ gI σ1 17 = 130 := fun q => by rw [q] at hr; exact hr (by decide)
      rw [if_neg c1, if_neg c2, if_neg c3]
      exact Qt.so (Or.inl ⟨μ1, n, k, o1, o2, o3, o4.1, hr0⟩)
  · have hr := dm_rk o3
    have c1 : ¬ gI σ1 17 = 129 := fun q => by rw [q] at hr; exact absurd hr (by decide)
    have c2 : ¬ gI σ1 17 = 60 := fun q => by rw [q] at hr; exact absurd hr (by decide)
    have c3 : ¬ gI σ1 17 = 130 := fun q => by rw [q] at hr; exact absurd hr (by decide)
    rw [if_neg c1, if_neg c2, if_neg c3]
    exact Qt.so (Or.inr ⟨f, pp, mm, k, by omega, o2, o3.weak (fun _ x => at_ab x), o4, o5⟩)
