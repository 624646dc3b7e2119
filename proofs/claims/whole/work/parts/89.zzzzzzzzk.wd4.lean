theorem TBc_cg {σ : S5} {pa : Nat → Nat} {f : Nat} {ρ ρ' : Nat → Bool} (h : ∀ i, i < pa f → ρ i = ρ' i) : TBc σ pa f ρ = TBc σ pa f ρ' := by
  unfold TBc
  rw [rwN_cg (pa f) h]
/-- the word of an application -/
theorem wd_app {τ : S5} {pa : Nat → Nat} {F d n k : Nat} {c : Int32} {Sc : Nat → Prop} {lo hi : Nat} {cc : Nat → Int32} {ll : Nat → Nat} (hpa : ∀ g, g < F → xA τ 3 (nI g) = nI (pa g) ∧ pa g ≤ 8) (hF6 : F ≤ 630) (h8 : xA τ 13 c = 8) (h15 : xA τ 15 c = nI (k - 1)) (hch : Chn τ c k cc) (hk1 : 1 ≤ k) (hk9 : k ≤ 9) (hl0 : ll 0 = lo) (hlk : ll k = hi) (hh : ∀ i, i < k → hF τ (cc i) < hF τ c) (hnn : hF τ c < n + 1) (hv : ∀ i, i < k → VS τ (cc i) Sc (ll i) (ll (i + 1))) (hW : ∀ i, i < k → WdA τ pa d n (cc i) Sc (ll i) (ll (i + 1))) (hS : ∀ x, Sc x → x < lo) (h40 : hi ≤ 40) (hR : Rg τ F (n + 1) c) : WdA τ pa (d + 1) (n + 1) c Sc lo hi := by
  intro g L σ hE h22 h23 hL h24 hg
  obtain ⟨⟨c0, c6⟩, -, r3, -⟩ := hR
  have u := r3 (Or.inr (Or.inl h8))
  have q4 := hch.1
  rw [q4] at u
  have hh0 := hh 0 (by omega)
  have hRc : ∀ i, i < k → 0 ≤ cc i ∧ cc i < 6200 := fun i hi => (chA_at (P := fun a => Rg τ F n a) hch.2 9 0 i (by omega) (by omega) (by omega) u).c (by omega)
  have hR0 := chA_at (P := fun a => Rg τ F n a) hch.2 9 0 0 (by omega) (by omega) (by omega) u
  have hm := ll_mo (fun i hi => (hv i hi).le)
  have hm1 := hm k 1 (by omega) (by omega)
  have hm2 := hm 1 0 (by omega) (by omega)
  have e01 : ll (0 + 1) = ll 1 := rfl
  have hZ : ∀ x, Zn Sc lo hi x → x < 40 := fun x w => by
    rcases w with w | w
    · have := hS x w; omega
    · omega
  have e16 : xA σ 16 c = cc 0 := (hE.1 c).2.2.1.trans q4
  have e15 : xA σ 15 c = nI (k - 1) := (hE.1 c).2.1.trans h15
  have e130 := (hE.1 (cc 0)).1
  have ew : f_wordE (d + 1) c σ = bd (f_X1_wordOfApplication (f_wordE d) c σ) (fun r139 τ139 => some (r139, τ139)) := by
    rw [wordE_s]
    unfold f_X1_wordOf
    rw [gd6200 c0 c6, gd6200 c0 c6, (hE.1 c).1, h8, if_neg (by decide), if_neg (by decide), if_neg (by decide), if_neg (by decide), if_neg (by decide), if_neg (by decide), if_pos rfl]
  obtain ⟨y0, y1⟩ := hRc 0 (by omega)
  have hdv : ∀ T X, dv τ pa T X (n + 1) c = (if xA τ 13 (cc 0) = 2 then (if pa (xA τ 14 (cc 0)).toNatClampNeg ≤ k - 1 then T (xA τ 14 (cc 0)).toNatClampNeg (fun i => decide (i < pa (xA τ 14 (cc 0)).toNatClampNeg) && dv τ pa T X n (nx17 τ i (xA τ 17 (cc 0)))) else true) else dv τ pa T X n (cc 0)) := fun T X => by
    show (if xA τ 13 c = 2 then _ else if xA τ 13 c = 3 then _ else if xA τ 13 c = 4 then _ else if xA τ 13 c = 5 then _ else if xA τ 13 c = 6 then _ else if xA τ 13 c = 7 then _ else if xA τ 13 c = 8 then _ else _) = _
    rw [h8, if_neg (by decide), if_neg (by decide), if_neg (by decide), if_neg (by decide), if_neg (by decide), if_neg (by decide), if_pos rfl, q4, h15, nI_clamp (by omega)]
  have hclv : ∀ T X, ((xA τ 13 (cc 0) = 2 → pa (xA τ 14 (cc 0)).toNatClampNeg ≤ k - 1 → ∀ i, i < pa (xA τ 14 (cc 0)).toNatClampNeg → ClV τ pa T X n (nx17 τ i (xA τ 17 (cc 0)))) ∧ (¬ xA τ 13 (cc 0) = 2 → ClV τ pa T X n (cc 0))) → ClV τ pa T X (n + 1) c := fun T X z => by
    unfold ClV
    refine ⟨fun w => absurd (h8.symm.trans w) (by decide), fun w => absurd (h8.symm.trans w) (by decide), fun w => absurd (h8.symm.trans w) (by decide), fun _ => ?_⟩
    rw [q4, h15, nI_clamp (by omega)]
    exact z
  by_cases hk2 : xA τ 13 (cc 0) = 2
  · obtain ⟨f, f1, f2⟩ : ∃ f, f < F ∧ xA τ 14 (cc 0) = nI f := by
      obtain ⟨m, rfl⟩ : ∃ m, n = m + 1 := ⟨n - 1, by omega⟩
      exact hR0.2.1 hk2
    obtain ⟨p1, p2⟩ := hpa f f1
    have e14 : xA σ 14 (cc 0) = nI f := ((hE.1 (cc 0)).2.2.2.2 (fun w => by rw [hk2] at w; exact absurd w (by decide))).trans f2
    have e3 : xA σ 3 (nI f) = nI (pa f) := by rw [hE.2.2]; exact p1
    have ea : f_X1_wordOfApplication (f_wordE d) c σ = if nI (pa f) = 0 then f_X1_wordOfApplication_b69 (f_wordE d) (nI f) σ else if nI (pa f) ≤ nI (k - 1) then f_X1_wordOfApplication_L95 (f_wordE d) FU (nI f) (nI (pa f)) (nI g) (xA σ 17 (cc 0)) 0 σ else f_X1_wordOfApplication_b69 (f_wordE d) (nI f) σ := by
      unfold f_X1_wordOfApplication
      rw [gd6200 c0 c6, e16, gd6200 y0 y1, e130, if_pos hk2, gd6200 y0 y1, e14, gdn (show f < 630 by omega) (by omega), e3, gd6200 c0 c6, e15, gd6200 y0 y1, h22]
    have eb : f_X1_wordOfApplication_b69 (f_wordE d) (nI f) σ = some (if pa f = 0 then (if TBc σ pa f (fun _ => false) = true then -1 else 0) else -1, σ) := by
      unfold f_X1_wordOfApplication_b69
      rw [alone_go (by omega) e3 p2, bd_of]
    rw [ea, eb] at ew
    have e17 : xA τ 17 (cc 0) = if 1 < k then cc 1 else -1 := (hch.2 0 (by omega)).2
    by_cases hz : pa f = 0
    · rw [if_pos (by rw [hz]; rfl), bd_of, if_pos hz] at ew
      have hd : ∀ T X, dv τ pa T X (n + 1) c = T f (fun i => decide (i < pa f) && dv τ pa T X n (nx17 τ i (xA τ 17 (cc 0)))) := fun T X => by
        rw [hdv, if_pos hk2, f2, nI_clamp (by omega), if_pos (by omega)]
      refine ⟨_, σ, ew, h22, FrD.rf _ _ _ _, fun l hl T' Y k1 k2 k3 => ⟨k3, fun w => ?_⟩, fun hzz l hl => ⟨?_, hclv _ _ ⟨fun _ _ i hi => ?_, fun w => absurd hk2 w⟩⟩⟩
      · rw [hd]
        cases ht : TBc σ pa f (fun _ => false) with
        | false => rw [ht, if_neg (by decide), lb_0] at w; exact absurd w (by decide)
        | true => exact k1 f _ _ (fun _ z => absurd z (by decide)) ht
      · have e : TBc σ pa f (fun i => decide (i < pa f) && dv τ pa (TBc σ pa) (XL σ l) n (nx17 τ i (xA τ 17 (cc 0)))) = TBc σ pa f (fun _ => false) := TBc_cg (fun i hi => absurd hi (by omega))
        rw [hd, e]
        cases TBc σ pa f (fun _ => false) with
        | false => rw [if_neg (by decide), lb_0]
        | true => rw [if_pos rfl, lb_m1 (by omega)]
      · rw [f2, nI_clamp (by omega)] at hi
        omega
    · rw [if_neg (show ¬ nI (pa f) = 0 from fun w => hz (nI_injL (b := 0) (by omega) (by omega) w))] at ew
      by_cases hle : pa f ≤ k - 1
      · rw [if_pos (show nI (pa f) ≤ nI (k - 1) from (nI_le31 (by omega) (by omega)).mpr hle)] at ew
        obtain ⟨w, σp, w1, ⟨a1, a2, a3, a4⟩, w3⟩ := ap_L95 (F := F) h8 hch hk9 hl0 hlk hh hnn hv hW hS h40 hRc hE h23 hL h24 hg (f := f) (by omega) (by omega) (pa f) 0 FU σ (by omega) (by show pa f < 1099511627776; omega) ⟨FrD.rf _ _ _ _, h22, fun l hl T' Y k1 k2 k3 => ⟨k3, fun j hj => absurd hj (by omega)⟩, fun _ l hl j hj => absurd hj (by omega)⟩
        rw [if_pos (show 1 + 0 < k by omega)] at w1
        have e17s : xA σ 17 (cc 0) = cc (1 + 0) := by
          rw [(hE.1 (cc 0)).2.2.2.1, e17, if_pos (by omega)]
        rw [e17s] at ew
        have w1' : f_X1_wordOfApplication_L95 (f_wordE d) FU (nI f) (nI (pa f)) (nI g) (cc (1 + 0)) 0 σ = some (w, pI σp 22 (nI g)) := w1
        rw [w1', bd_of] at ew
        have hnx : ∀ i, i < pa f → nx17 τ i (xA τ 17 (cc 0)) = cc (1 + i) := fun i hi => by
          rw [e17, if_pos (by omega)]
          exact nx17_at (fun j hj => (hch.2 j hj).2) i 1 (by omega)
        have hd : ∀ T X, dv τ pa T X (n + 1) c = T f (fun i => decide (i < pa f) && dv τ pa T X n (nx17 τ i (xA τ 17 (cc 0)))) := fun T X => by
          rw [hdv, if_pos hk2, f2, nI_clamp (by omega), if_pos hle]
        have e24 : gI (pI σp 22 (nI g)) 24 = gI σp 24 := by rw [gI_pI, if_neg (by decide)]
        have hfr : FrD g lo hi σp (pI σp 22 (nI g)) := ⟨fun j _ h2 => by rw [gI_pI, if_neg h2], fun _ => rfl, fun _ => rfl, fun _ _ _ => rfl, rfl, fun _ _ => rfl, fun _ _ _ => rfl, fun _ _ _ _ z => z, fun z => by rw [e24] at z; exact z, fun z => by rw [e24]; exact z, fun z => Or.inl (by rw [e24]; exact z)⟩
        refine ⟨w, _, ew, by rw [gI_pI, if_pos rfl], a1.tr hfr, fun l hl T' Y k1 k2 k3 => ?_, fun hzz l hl => ?_⟩
        · obtain ⟨z1, z2⟩ := a3 l hl T' Y k1 k2 k3
          refine ⟨z1, fun hw => ?_⟩
          rw [w3 l (by omega), Bool.and_eq_true] at hw
          rw [hd]
          have e : TBc σ pa f (fun i => decide (i < pa f) && lb (xB σp 7 (nI (g + i))) l) = true := by
            rw [TBc_cg (ρ' := fun i => lb (xB σp 7 (nI (g + i))) l) (fun i hi => by rw [decide_eq_true hi, Bool.true_and])]
            exact hw.2
          refine k1 f _ _ (fun i hi => ?_) e
          rw [Bool.and_eq_true] at hi ⊢
          have hip : i < pa f := of_decide_eq_true hi.1
          exact ⟨hi.1, by rw [hnx i hip]; exact z2 i hip hi.2⟩
        · rw [e24] at hzz
          have z := a4 hzz l hl
          refine ⟨?_, hclv _ _ ⟨fun _ _ i hi => ?_, fun w => absurd hk2 w⟩⟩
          · rw [w3 l (by omega), decide_eq_true hl, Bool.true_and, hd]
            refine TBc_cg (fun i hi => ?_)
            rw [decide_eq_true hi, Bool.true_and, hnx i hi]
            exact (z i hi).1
          · rw [f2, nI_clamp (by omega)] at hi
            rw [hnx i hi]
            exact (z i hi).2
      · rw [if_neg (show ¬ nI (pa f) ≤ nI (k - 1) from fun w => hle ((nI_le31 (by omega) (by omega)).mp w)), bd_of, if_neg hz] at ew
        have hd : ∀ T X, dv τ pa T X (n + 1) c = true := fun T X => by
          rw [hdv, if_pos hk2, f2, nI_clamp (by omega), if_neg hle]
        refine ⟨_, σ, ew, h22, FrD.rf _ _ _ _, fun l hl T' Y k1 k2 k3 => ⟨k3, fun w => hd _ _⟩, fun hzz l hl => ⟨by rw [hd, lb_m1 (by omega)], hclv _ _ ⟨fun _ w => ?_, fun w => absurd hk2 w⟩⟩⟩
        rw [f2, nI_clamp (by omega)] at w
        exact absurd w hle
  · obtain ⟨w0, σ1, a1, a2, a3, a4⟩ := hW 0 (by omega) g L σ hE h22 h23 hL h24 (by omega)
    have ea : f_X1_wordOfApplication (f_wordE d) c σ = some (w0, σ1) := by
      unfold f_X1_wordOfApplication
      rw [gd6200 c0 c6, e16, gd6200 y0 y1, e130, if_neg hk2, a1, bd_of]
    rw [ea, bd_of] at ew
    have hd : ∀ T X, dv τ pa T X (n + 1) c = dv τ pa T X n (cc 0) := fun T X => by rw [hdv, if_neg hk2]
    refine ⟨w0, σ1, ew, a2, a3.wd (Nat.le_refl _) (by omega) (by omega), fun l hl T' Y k1 k2 k3 => ?_, fun hz l hl => ?_⟩
    · unfold Clo at k2
      have u := k2.1 (Or.inr (Or.inl h8))
      rw [q4] at u
      obtain ⟨z1, z2⟩ := a4.1 l hl T' Y k1 (chA_at (P := fun a => Clo τ pa T' Y n a) hch.2 9 0 0 (by omega) (by omega) (by omega) u) (fun x zx => k3 x (by rcases zx with w | w; exact Or.inl w; exact Or.inr (by omega)))
      exact ⟨HY.kid hZ a3 k3 z1, fun w => by rw [hd]; exact z2 w⟩
    · obtain ⟨z1, z2⟩ := a4.2 hz l hl
      exact ⟨by rw [hd]; exact z1, hclv _ _ ⟨fun w => absurd w hk2, fun _ => z2⟩⟩
