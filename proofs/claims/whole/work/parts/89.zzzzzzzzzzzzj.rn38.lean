theorem pre_ap (w : Nat → Nat) (t : Nat) : ∀ m, pre w (t + m) = pre w t + pre (fun j => w (t + j)) m
  | 0 => rfl
  | m + 1 => by
    show pre w (t + m) + w (t + m) = pre w t + (pre (fun j => w (t + j)) m + w (t + m))
    rw [pre_ap w t m]
    omega
theorem pre_rv (g : Nat → Nat) : ∀ m, pre (fun j => g (m - 1 - j)) m = pre g m
  | 0 => rfl
  | m + 1 => by
    rw [pre_l]
    show g (m + 1 - 1 - 0) + pre (fun j => g (m + 1 - 1 - (1 + j))) m = pre g m + g m
    have e : (fun j => g (m + 1 - 1 - (1 + j))) = fun j => g (m - 1 - j) := funext (fun j => by rw [show m + 1 - 1 - (1 + j) = m - 1 - j by omega])
    rw [e, pre_rv g m]
    show g (m + 1 - 1 - 0) + _ = _
    rw [show m + 1 - 1 - 0 = m by omega]
    omega
/-- a cell is made -/
theorem nc_pt {τ μ0 : S5} {F T : Nat} {nv D : Nat → Nat} {μ ν : S5} {n ft t B so m s : Nat} {v r : Int32} (h : PTk τ μ0 F T nv D μ n ft t B) (hso : so < 3) (hs : m + 1 ≤ s) (hs2 : s < 1000) (hc : f_X12_newCell (nI so) v (nI m) (nI s) μ = some (r, ν)) : (r = -1 ∧ PTk τ μ0 F T nv D ν n ft t B ∧ OCs n μ ν ∧ gI ν 54 = gI μ 54 ∧ ¬ gI ν 44 = 0) ∨ (r = nI n ∧ n < 4000 ∧ gI ν 54 = gI μ 54 ∧ PTk τ μ0 F T nv D ν (n + 1) (ft + m) t (B + if so = 2 then D v.toNatClampNeg else 0) ∧ OCs n μ ν ∧ gA ν 53 n = nI so ∧ gA ν 56 n = nI m ∧ gA ν 55 n = nI ft) := by
  obtain ⟨hQ, ⟨N, b1, b2, b3, b4, b5, b6⟩, a4, a5⟩ := id h
  obtain ⟨n1, n2⟩ := nc_m (so := so) (v := v) (m := m) (s := s) b1 b2 b3 (by omega) (by omega) hso
  by_cases hfit : N + s ≤ 4000
  · obtain ⟨ν', c1, ⟨c2, c3, c4, -⟩, c5, c6, c7, ⟨c8, c9, c10, c11⟩, c12, c13⟩ := n1 hfit
    rw [hc] at c1
    cases c1
    have e1 := (pre_upd (w := spC D μ) (w' := spC D ν) (c := n) (fun i hi => by unfold spC; rw [c8, c9, up_n hi, up_n hi]) n).2 (Nat.le_refl n)
    have e2 : spC D ν n = if so = 2 then D v.toNatClampNeg else 0 := by
      unfold spC
      rw [c8, c9, up_s, up_s]
      by_cases hso2 : so = 2
      · rw [if_pos (by rw [hso2]; rfl), if_pos hso2]
      · rw [if_neg (show ¬ nI so = 2 from fun w => hso2 (nI_injL (a := so) (b := 2) (by omega) (by omega) w)), if_neg hso2]
    refine Or.inr ⟨rfl, by omega, c5 54 (by decide) (by decide), ⟨?_, ⟨N + s, c2, c3, c4, by omega, hfit, by omega⟩, by rw [c7 62 (by decide)]; exact a4, ?_⟩, ⟨fun c hc => ⟨by rw [c8]; exact up_n (by omega), by rw [c11]; exact up_n (by omega), by rw [c10]; exact up_n (by omega)⟩, c12 9, c5 50 (by decide) (by decide)⟩, by rw [c8]; exact up_s, by rw [c11]; exact up_s, by rw [c10]; exact up_s⟩
    · exact ⟨fun j hj => (c5 j (by omega) (by omega)).trans (hQ.1 j hj), fun j hj => (c7 j (by omega)).trans (hQ.2.1 j hj), fun j hj => (c12 j).trans (hQ.2.2 j hj)⟩
    · show pre (spC D ν) n + spC D ν n + _ ≤ _
      rw [e1, e2, c7 62 (by decide)]
      omega
  · have c1 := n2 hfit
    rw [hc] at c1
    obtain ⟨a, τ', w1, w2⟩ := bd_some c1.symm
    cases w2
    have hEn : (∀ j, ¬ j = 44 → ¬ j = 45 → gI ν j = gI μ j) ∧ (∀ j, gA ν j = gA μ j) ∧ (∀ j, gB ν j = gB μ j) ∧ ¬ gI ν 44 = 0 := by
      unfold f_X12_ends at w1
      by_cases e : gI μ 44 = 0
      · rw [if_pos e] at w1
        cases w1
        exact ⟨fun j x y => by rw [gI_pI, if_neg y, gI_pI, if_neg x], fun _ => rfl, fun _ => rfl, (by decide : ¬ (3 : Int32) = 0)⟩
      · rw [if_neg e] at w1
        cases w1
        exact ⟨fun _ _ _ => rfl, fun _ => rfl, fun _ => rfl, e⟩
    obtain ⟨x1, x2, x3, x4⟩ := hEn
    refine Or.inl ⟨rfl, h.st ⟨fun j hj => (x1 j (by omega) (by omega)).trans (hQ.1 j hj), fun j hj => (x2 j).trans (hQ.2.1 j hj), fun j hj => (x3 j).trans (hQ.2.2 j hj)⟩ (fun j _ _ => x1 j (by omega) (by omega)) (x2 53) (x2 54) (x2 62), ⟨fun c _ => by rw [x2 53, x2 56, x2 55]; exact ⟨rfl, rfl, rfl⟩, x3 9, x1 50 (by decide) (by decide)⟩, x1 54 (by decide) (by decide), x4⟩
/-- what was made: a suspension, or a cell whose children are wanted -/
def MdC (τ μ0 : S5) (F T : Nat) (nv : Nat → Nat) (ν : S5) (ft p n : Nat) : Prop := ∃ m bg, gA ν 56 n = nI m ∧ gA ν 55 n = nI bg ∧ m ≤ 40 ∧ bg + m ≤ ft ∧ (gA ν 53 n = 2 ∨ (gA ν 53 n = 0 ∧ GKs τ μ0 F T nv p m) ∨ (gA ν 53 n = 1 ∧ GKs τ μ0 F T nv p (m + 1)))
/-- what making costs, and what filling will cost -/
def dA (D : Nat → Nat) (ν : S5) (p n : Nat) : Nat := if gA ν 53 n = 2 then D p else 0
def dB (D : Nat → Nat) (ν : S5) (p n : Nat) : Nat := if gA ν 53 n = 2 then 0 else D p
theorem dAB (D : Nat → Nat) (ν : S5) (p n : Nat) : dA D ν p n + dB D ν p n = D p := by
  unfold dA dB
  by_cases h : gA ν 53 n = 2
  · rw [if_pos h, if_pos h]; rfl
  · rw [if_neg h, if_neg h, Nat.zero_add]
/-- the other makes something for a node -/
theorem mk_pt {τ μ0 : S5} {F k T : Nat} {pa nv D : Nat → Nat} (hS : PSt τ μ0 F k T pa nv) {μ ν : S5} {n ft t B p : Nat} {r : Int32} (h : PTk τ μ0 F T nv D μ n ft t B) (hG : GdN τ μ0 F T nv p) (hc : f_X12_make (nI p) μ = some (r, ν)) : (r = -1 ∧ PTk τ μ0 F T nv D ν n ft t B ∧ OCs n μ ν ∧ gI ν 54 = gI μ 54 ∧ ¬ gI ν 44 = 0) ∨ (r = nI n ∧ n < 4000 ∧ gI ν 54 = gI μ 54 ∧ ∃ m, m ≤ 40 ∧ gA ν 56 n = nI m ∧ PTk τ μ0 F T nv D ν (n + 1) (ft + m) t (B + dA D ν p n) ∧ OCs n μ ν ∧ MdC τ μ0 F T nv ν (ft + m) p n) := by
  obtain ⟨hp7, f, c, Sc, hN⟩ := hG
  rcases mkM hS h.1 hN with ⟨kk, v, k1, hks, e⟩ | ⟨m, v, k1, hks, e⟩ | ⟨m, m40, e⟩
  · rw [e, show (1 : Int32) + nI kk = nI (1 + kk) by rw [show (1 : Int32) = nI 1 from rfl, nI_plus]] at hc
    have hk9 := hks.2.2.1
    rcases nc_pt (so := 0) h (by omega) (by omega) (by omega) hc with w | ⟨w1, w2, w0, w3, w4, w5, w6, w7⟩
    · exact Or.inl w
    · have e0 : dA D ν p n = 0 := by
        unfold dA
        rw [w5, if_neg (by decide)]
      refine Or.inr ⟨w1, w2, w0, kk, by omega, w6, ?_, w4, kk, ft, w6, w7, by omega, Nat.le_refl _, Or.inr (Or.inl ⟨w5, hks⟩)⟩
      rw [e0]
      exact w3
  · rw [e] at hc
    have hk9 := hks.2.2.1
    rcases nc_pt (so := 1) h (by omega) (by omega) (by omega) hc with w | ⟨w1, w2, w0, w3, w4, w5, w6, w7⟩
    · exact Or.inl w
    · have e0 : dA D ν p n = 0 := by
        unfold dA
        rw [w5, if_neg (by decide)]
      refine Or.inr ⟨w1, w2, w0, m, by omega, w6, ?_, w4, m, ft, w6, w7, by omega, Nat.le_refl _, Or.inr (Or.inr ⟨w5, hks⟩)⟩
      rw [e0]
      exact w3
  · rw [e, show (1 : Int32) + nI m = nI (1 + m) by rw [show (1 : Int32) = nI 1 from rfl, nI_plus]] at hc
    rcases nc_pt (so := 2) h (by omega) (by omega) (by omega) hc with w | ⟨w1, w2, w0, w3, w4, w5, w6, w7⟩
    · exact Or.inl w
    · have e0 : dA D ν p n = D p := by
        unfold dA
        rw [w5]
        exact if_pos rfl
      refine Or.inr ⟨w1, w2, w0, m, m40, w6, ?_, w4, m, ft, w6, w7, m40, Nat.le_refl _, Or.inl w5⟩
      rw [e0]
      rw [if_pos rfl, nI_clamp (by omega)] at w3
      exact w3
/-- what was made is filled, or its tasks are put down -/
theorem fl_pt {τ μ0 : S5} {F T : Nat} {nv D : Nat → Nat} (hD : DS0 τ μ0 F T nv D) {μ ν : S5} {n ft t B p c0 : Nat} (h : PTk τ μ0 F T nv D μ n ft t B) (a3 : gI μ 54 = nI t) (hG : GdN τ μ0 F T nv p) (hc0 : c0 < n) (hM : MdC τ μ0 F T nv μ ft p c0) (htt : ∀ m, gA μ 56 c0 = nI m → m ≤ 40 → t + m ≤ ft) (hc : f_X12_fill (nI p) (nI c0) μ = some ((), ν)) : ∃ t', PTk τ μ0 F T nv D ν n ft t' (B + dB D μ p c0) ∧ OCs n μ ν ∧ gI ν 54 = nI t' := by
  have hb := FU_big (n := 5000) (by decide)
  obtain ⟨hQ, ⟨N, b1, b2, b3, b4, b5, b6⟩, a4, a5⟩ := id h
  obtain ⟨hp7, f, c, Sc, hN⟩ := hG
  obtain ⟨m, bg, f1, f2, f3, f4, f5⟩ := hM
  have hx : ∀ j, xA μ j (nI c0) = gA μ j c0 := fun j => xA_n (by omega)
  unfold f_X12_fill at hc
  rw [gdn (by omega) (by omega), gdn (by omega) (by omega), hx 53, hx 55, f2] at hc
  have hmt := htt m f1 f3
  have row : ∀ ah, GKs τ μ0 F T nv p (ah + m) → f_X12_fill_b92 (nI p) (nI c0) (nI bg) (nI ah) μ = some ((), ν) → ∃ t', PTk τ μ0 F T nv D ν n ft t' (B + D p) ∧ OCs n μ ν ∧ gI ν 54 = nI t' := by
    intro ah hks hr
    obtain ⟨k1, k2, k3, ct0, k4, k5, k6⟩ := hks
    unfold f_X12_fill_b92 at hr
    rw [gdn (by omega) (by omega), hx 56, f1] at hr
    obtain ⟨ν', d1, d2, d3, d4, d5⟩ := ftk_go (μ0 := μ0) (p := p) (bg := bg) (ct0 := ct0) (ah := ah) (m := m) (t := t) (pp := fun i => chN μ0 p (ah + i)) hp7 k4 (by omega) (fun i hi => by
      have := (k6 (ah + i) (by omega)).2
      rw [← Nat.add_assoc] at this
      exact this) (by omega) (by omega) m FU μ (Nat.le_refl _) (by omega) hQ (by rw [Nat.sub_self, Nat.add_zero]; exact a3) (fun j j1 j2 => by omega)
    rw [hr] at d1
    cases d1
    have e53 : gA ν 53 = gA μ 53 := d2.2.2.1 53 (by decide) (by decide)
    have e54 : gA ν 54 = gA μ 54 := d2.2.2.1 54 (by decide) (by decide)
    have e55 : gA ν 55 = gA μ 55 := d2.2.2.1 55 (by decide) (by decide)
    have e56 : gA ν 56 = gA μ 56 := d2.2.2.1 56 (by decide) (by decide)
    have hbb : pre (fun j => D (gA ν 62 j).toNatClampNeg) (t + m) = pre (fun j => D (gA μ 62 j).toNatClampNeg) t + pre (fun j => D (chN μ0 p (ah + j))) m := by
      rw [pre_ap]
      congr 1
      · exact pre_cg t (fun j hj => by rw [(d5 j hj).1])
      · rw [← pre_rv (fun j => D (chN μ0 p (ah + j))) m]
        refine pre_cg m (fun j hj => ?_)
        have := (d4 (m - 1 - j) (by omega)).1
        rw [show m - 1 - (m - 1 - j) = j by omega] at this
        have h7 := (k6 (ah + (m - 1 - j)) (by omega)).1.1
        rw [this, nI_clamp (by omega)]
    have hsd : pre (fun j => D (chN μ0 p (ah + j))) m ≤ D p := by
      have h1 := (hD f c p Sc hN)
      have h2 : sdN D μ0 p 0 = pre (fun j => D (chN μ0 p j)) (ah + m) := by
        unfold sdN
        rw [k1, Nat.sub_zero]
        exact pre_cg _ (fun j _ => by rw [Nat.zero_add])
      rw [h2, pre_ap] at h1
      omega
    refine ⟨t + m, ⟨hQ.fk d2.km, ⟨N, by rw [d2.1 32 (by decide)]; exact b1, by rw [d2.1 33 (by decide)]; exact b2, by rw [d2.1 34 (by decide)]; exact b3, b4, b5, hmt⟩, fun j hj => ?_, ?_⟩, ⟨fun x _ => by rw [e53, e56, e55]; exact ⟨rfl, rfl, rfl⟩, d2.2.2.2.1 9, d2.1 50 (by decide)⟩, d3⟩
    · by_cases hjt : j < t
      · rw [(d5 j hjt).1]
        exact a4 j hjt
      · have := (d4 (m - 1 - (j - t)) (by omega)).1
        rw [show t + (m - 1 - (m - 1 - (j - t))) = j by omega] at this
        exact ⟨_, this, (k6 _ (by omega)).1⟩
    · rw [show spC D ν = spC D μ from funext (fun c => by unfold spC; rw [e53, e54]), hbb]
      omega
  rcases f5 with w | ⟨w, hks⟩ | ⟨w, hks⟩
  · rw [w, if_pos rfl] at hc
    have g := fl23 _ _ _ _ _ _ _ hc
    refine ⟨t, (h.st (hQ.fk g.km) (fun j _ _ => g.1 j) (g.2.2.1 53) (g.2.2.1 54) (g.2.2.1 62)).le (Nat.le_add_right _ _), ⟨fun x _ => by rw [g.2.2.1 53, g.2.2.1 56, g.2.2.1 55]; exact ⟨rfl, rfl, rfl⟩, g.2.2.2.1 9 (by decide), g.1 50⟩, (g.1 54).trans a3⟩
  · have e : dB D μ p c0 = D p := by
      unfold dB
      rw [w, if_neg (by decide)]
    rw [w, if_neg (by decide), gdn (by omega) (by omega), if_neg (by decide)] at hc
    rw [e]
    exact row 0 (by rw [Nat.zero_add]; exact hks) hc
  · have e : dB D μ p c0 = D p := by
      unfold dB
      rw [w, if_neg (by decide)]
    rw [w, if_neg (by decide), gdn (by omega) (by omega), if_pos rfl] at hc
    rw [e]
    exact row 1 (by rw [Nat.add_comm]; exact hks) hc
