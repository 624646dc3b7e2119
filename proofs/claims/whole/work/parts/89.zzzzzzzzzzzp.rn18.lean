/-- a task is done by both, or both end -/
def KO (τ μ0 : S5) (F T : Nat) (pa nv : Nat → Nat) (σ μ : S5) (n : Nat) (tg ct : Nat → Nat) (Rd : Nat → Prop) (t place : Nat) (Fc : Option (Int64 × S5)) : Prop :=
  (∃ (x y : Int64) (τ' ν : S5) (n' : Nat) (tg' ct' : Nat → Nat) (it : Nat), Fc = some (x, τ') ∧ DT it μ ν ∧ it ≤ 1 + (pre ct' n' - pre ct n) ∧ VL τ F pa n' tg' ct' x y ∧ gB ν 7 place = y ∧ Gro n tg ct n' tg' ct' ∧ HS τ μ0 F T pa nv τ' ν n' tg' ct' (fun c => n ≤ c ∨ Rd c) ∧ NR τ' ν ∧ FkC σ τ' ∧ FkM μ ν ∧ gI ν 44 = 0 ∧ gI ν 54 = nI t ∧ (∀ j, j < t → gA ν 62 j = gA μ 62 j ∧ gA ν 63 j = gA μ 63 j) ∧ (∀ j, j < adr tg ct n → gB τ' 14 j = gB σ 14 j) ∧ (∀ j, j < pre ct n → ¬ j = place → gB ν 7 j = gB μ 7 j) ∧ ∀ c, c < n → gA ν 53 c = gA μ 53 c) ∨ (∃ (x : Int64) (τ' ν : S5) (it : Nat), Fc = some (x, τ') ∧ it ≤ 1 + (4000 - pre ct n) ∧ (∀ N, f_X12_doTasks_L0 (it + N + 1) μ = some ((), ν)) ∧ OV τ' ν ∧ FkC σ τ' ∧ FkM μ ν)
/-- what keeping must do -/
def KPp (τ μ0 : S5) (F k T : Nat) (pa nv : Nat → Nat) (f base : Nat) (Sc : Nat → Prop) (E : Int32 → S5 → Option (Int64 × S5)) (H : Nat) : Prop := ∀ (c : Int32) (p : Nat) (σ μ : S5) (n : Nat) (tg ct : Nat → Nat) (Rd : Nat → Prop) (t place : Nat), ND τ μ0 F T nv f c p Sc → hF τ c < H → eqP τ σ → eqQ μ0 μ → HS τ μ0 F T pa nv σ μ n tg ct Rd → NR σ μ → gI μ 44 = 0 → EV τ F k pa nv σ μ n tg ct f base Sc → gI μ 54 = nI (t + 1) → gA μ 62 t = nI p → gA μ 63 t = nI place → t + 1 ≤ pre ct n → (∃ c0, c0 < n ∧ ¬ Rd c0 ∧ pre ct c0 ≤ place ∧ place < pre ct c0 + ct c0) → KO τ μ0 F T pa nv σ μ n tg ct Rd t place (E c σ)
theorem OV.w {σ μ : S5} (h : OV σ μ) (i : Int32) (v : Int64) : OV (pB σ 14 i v) μ := ⟨h.1.st (fun _ _ => rfl) rfl rfl (fun _ _ => rfl) (fun _ _ => rfl) rfl rfl, h.2⟩
theorem kr_ov {E : Int32 → S5 → Option (Int64 × S5)} {σ : S5} (h0 : ¬ xA σ 40 0 = 0) {i : Nat} (hi : i < 10) (v : Int32) (c : Int32) (N : Nat) (hN : 0 < N) : f_X3_keepRow_L5 E N v (nI i) c σ = some ((), σ) := by
  obtain ⟨N, rfl⟩ : ∃ n, N = n + 1 := ⟨N - 1, by omega⟩
  show f_X3_keepRow_B5 _ _ _ _ _ _ = _
  unfold f_X3_keepRow_B5
  rw [if_neg (n10 hi)]
  by_cases hc : c = -1
  · rw [if_pos hc]
  · rw [if_neg hc, over_1 h0, bd_of, if_neg (by decide)]
/-- the fields of a cell, one behind the other -/
theorem krow {τ μ0 : S5} {F k T : Nat} {pa nv : Nat → Nat} {f base : Nat} {Sc : Nat → Prop} {E : Int32 → S5 → Option (Int64 × S5)} {H : Nat} (hK : KPp τ μ0 F k T pa nv f base Sc E H) {c0 m t : Nat} {cc : Nat → Int32} {pp : Nat → Nat} (hm : m ≤ 8) (hkid : ∀ i, i < m → ND τ μ0 F T nv f (cc i) (pp i) Sc ∧ hF τ (cc i) < H ∧ (0 ≤ cc i ∧ cc i < 6200) ∧ xA τ 17 (cc i) = if i + 1 < m then cc (i + 1) else -1) : ∀ (r i N : Nat) (σ μ : S5) (n : Nat) (tg ct : Nat → Nat) (Rd : Nat → Prop), i + r = m → r < N → eqP τ σ → eqQ μ0 μ → HS τ μ0 F T pa nv σ μ n tg ct Rd → NR σ μ → gI μ 44 = 0 → EV τ F k pa nv σ μ n tg ct f base Sc → c0 < n → ¬ Rd c0 → ct c0 = m → gI μ 54 = nI (t + r) → (∀ j, i ≤ j → j < m → gA μ 62 (t + (m - 1 - j)) = nI (pp j) ∧ gA μ 63 (t + (m - 1 - j)) = nI (pre ct c0 + j)) → t + r ≤ pre ct n → (∀ j, j < i → VL τ F pa n tg ct (gB σ 14 (adr tg ct c0 + ofs tg c0 + j)) (gB μ 7 (pre ct c0 + j))) →
    (∃ (τ' ν : S5) (n' : Nat) (tg' ct' : Nat → Nat) (it : Nat), f_X3_keepRow_L5 E N (nI (adr tg ct c0 + ofs tg c0)) (nI i) (if i < m then cc i else -1) σ = some ((), τ') ∧ DT it μ ν ∧ it ≤ r + (pre ct' n' - pre ct n) ∧ Gro n tg ct n' tg' ct' ∧ HS τ μ0 F T pa nv τ' ν n' tg' ct' (fun c => n ≤ c ∨ Rd c) ∧ NR τ' ν ∧ FkC σ τ' ∧ FkM μ ν ∧ gI ν 44 = 0 ∧ gI ν 54 = nI t ∧ (∀ j, j < t → gA ν 62 j = gA μ 62 j ∧ gA ν 63 j = gA μ 63 j) ∧ (∀ j, j < m → VL τ F pa n' tg' ct' (gB τ' 14 (adr tg ct c0 + ofs tg c0 + j)) (gB ν 7 (pre ct c0 + j))) ∧ (∀ j, j < adr tg ct n → (j < adr tg ct c0 + ofs tg c0 ∨ adr tg ct c0 + szc tg ct c0 ≤ j) → gB τ' 14 j = gB σ 14 j) ∧ (∀ j, j < pre ct n → (j < pre ct c0 ∨ pre ct c0 + m ≤ j) → gB ν 7 j = gB μ 7 j) ∧ ∀ c, c < n → gA ν 53 c = gA μ 53 c) ∨ (∃ (τ' ν : S5) (it : Nat), f_X3_keepRow_L5 E N (nI (adr tg ct c0 + ofs tg c0)) (nI i) (if i < m then cc i else -1) σ = some ((), τ') ∧ it ≤ r + (4000 - pre ct n) ∧ (∀ N, f_X12_doTasks_L0 (it + N + 1) μ = some ((), ν)) ∧ OV τ' ν ∧ FkC σ τ' ∧ FkM μ ν) := by
  intro r
  induction r with
  | zero =>
    intro i N σ μ n tg ct Rd hi hN hP hQ hH hn h0 hE hc0 hr hcm h54 hts htn hgood
    obtain ⟨N, rfl⟩ : ∃ n, N = n + 1 := ⟨N - 1, by omega⟩
    refine Or.inl ⟨σ, μ, n, tg, ct, 0, ?_, DT.rf μ, by omega, Gro.rf n tg ct, hH.rd (fun c hc w => w.elim (fun z => by omega) id), hn, FkC.rf σ, FkM.rf μ, h0, h54, fun _ _ => ⟨rfl, rfl⟩, fun j hj => hgood j (by omega), fun _ _ _ => rfl, fun _ _ _ => rfl, fun _ _ => rfl⟩
    show f_X3_keepRow_B5 _ _ _ _ _ _ = _
    unfold f_X3_keepRow_B5
    rw [if_neg (n10 (by omega)), if_neg (show ¬ i < m by omega), if_pos rfl]
  | succ r ih =>
    intro i N σ μ n tg ct Rd hi hN hP hQ hH hn h0 hE hc0 hr hcm h54 hts htn hgood
    obtain ⟨N, rfl⟩ : ∃ n, N = n + 1 := ⟨N - 1, by omega⟩
    obtain ⟨k1, k2, k3, k4⟩ := hkid i (by omega)
    have h00 : xA σ 40 0 = 0 := hn.1.1.trans h0
    obtain ⟨⟨a1, a2, a3, a4, a5⟩, -⟩ := id hH
    have hge := (adr_ge tg ct n).2
    have hsz := adr_mo tg ct hc0
    have hoz := ofs_sz tg ct c0
    have hpr := pre_mo' ct hc0
    obtain ⟨x62, x63⟩ := hts i (Nat.le_refl _) (by omega)
    have hti : t + (m - 1 - i) = t + r := by omega
    rw [hti] at x62 x63
    have step : ∀ {x : Int64} {τ' : S5}, E (cc i) σ = some (x, τ') → eqP τ τ' → f_X3_keepRow_L5 E (N + 1) (nI (adr tg ct c0 + ofs tg c0)) (nI i) (if i < m then cc i else -1) σ = f_X3_keepRow_L5 E N (nI (adr tg ct c0 + ofs tg c0)) (nI (i + 1)) (if i + 1 < m then cc (i + 1) else -1) (pB τ' 14 (nI (adr tg ct c0 + ofs tg c0 + i)) x) := by
      intro x τ' hEx hP'
      show f_X3_keepRow_B5 _ _ _ _ _ _ = _
      unfold f_X3_keepRow_B5
      rw [if_neg (n10 (by omega)), if_pos (show i < m by omega), if_neg (nneg1 k3.1), over_0 h00, bd_of, if_pos rfl, hEx, bd_of, nI_plus, gdn (by omega) (by omega), gd6200 k3.1 k3.2, nI_add1, hP'.x 17 _ (by decide), k4]
    rcases hK (cc i) (pp i) σ μ n tg ct Rd (t + r) (pre ct c0 + i) k1 k2 hP hQ hH hn h0 hE h54 x62 x63 htn ⟨c0, hc0, hr, by omega, by omega⟩ with ⟨x, y, τ', ν, n', tg', ct', it, b1, b2, b3, b4, b5, b6, b7, b8, b9, b10, b11, b12, b13, b14, b15, b16⟩ | ⟨x, τ', ν, it, b1, b2, b3, b4, b5, b6⟩
    · have hP' := hP.fk b9
      have hgad := b6.ad (Nat.le_of_lt hc0)
      have hg0 := b6.2 c0 hc0
      have hofs : ofs tg' c0 = ofs tg c0 := by unfold ofs; rw [hg0.1]
      have hszc : szc tg' ct' c0 = szc tg ct c0 := by unfold szc; rw [hg0.1, hg0.2]
      have hnn := b6.1
      have hpp : pre ct n ≤ pre ct' n' := by
        rw [← (b6.ad (Nat.le_refl n)).2]
        have := pre_mono (w := ct') (n' - n) n
        rw [show n + (n' - n) = n' by omega] at this
        exact this
      have hadn : adr tg ct n ≤ adr tg' ct' n' := by
        rw [← (b6.ad (Nat.le_refl n)).1]
        have := pre_mono (w := szc tg' ct') (n' - n) n
        rw [show n + (n' - n) = n' by omega] at this
        exact this
      have hge' := (adr_ge tg' ct' n').2
      have h4' : adr tg' ct' n' ≤ 4000 := b7.1.2.2.1
      have hrd' : ¬ (n ≤ c0 ∨ Rd c0) := fun w => w.elim (fun z => by omega) hr
      have w1 : HS τ μ0 F T pa nv (pB τ' 14 (nI (adr tg ct c0 + ofs tg c0 + i)) x) ν n' tg' ct' (fun c => n ≤ c ∨ Rd c) := hs_wc b7 (c0 := c0) (by omega) hrd' rfl (fun j hj => by
        rw [hgad.1, hofs, hszc] at hj
        exact gB_n (by omega) (by omega))
      have w2 : FkC σ (pB τ' 14 (nI (adr tg ct c0 + ofs tg c0 + i)) x) := b9.tr (Fb.p _ _ _ _).kc
      have w3 : NR (pB τ' 14 (nI (adr tg ct c0 + ofs tg c0 + i)) x) ν := b8.st (fun _ _ => rfl) rfl rfl (fun _ _ => rfl) (fun _ _ => rfl) rfl rfl
      have e1 : adr tg' ct' c0 + ofs tg' c0 = adr tg ct c0 + ofs tg c0 := by rw [hgad.1, hofs]
      have hih := ih (i + 1) N (pB τ' 14 (nI (adr tg ct c0 + ofs tg c0 + i)) x) ν n' tg' ct' (fun c => n ≤ c ∨ Rd c) (by omega) (by omega) (hP.fk w2) (hQ.fk b10) w1 w3 b11 (hE.st b6 w2 b10) (by omega) hrd' (by rw [hg0.2]; exact hcm) b12 (fun j j1 j2 => by
          rw [(b13 (t + (m - 1 - j)) (by omega)).1, (b13 (t + (m - 1 - j)) (by omega)).2, hgad.2]
          exact hts j (by omega) j2) (by omega) (fun j hj => by
          rw [e1, hgad.2]
          by_cases hji : j = i
          · subst hji
            rw [gB_s (by omega), b5]
            exact b4
          · rw [gB_n (by omega) (by omega), b14 _ (by omega), b15 _ (by omega) (by omega)]
            exact (hgood j (by omega)).gr b6)
      rw [e1, hgad.2] at hih
      rcases hih with ⟨τ2, ν2, n2, tg2, ct2, it2, c1, c2, c3, c4, c5, c6, c7, c8, c9, c10, c11, c12, c13, c14, c15⟩ | ⟨τ2, ν2, it2, c1, c2, c3, c4, c5, c6⟩
      · have hpp2 : pre ct' n' ≤ pre ct2 n2 := by
          rw [← (c4.ad (Nat.le_refl n')).2]
          have h2 := c4.1
          have := pre_mono (w := ct2) (n2 - n') n'
          rw [show n' + (n2 - n') = n2 by omega] at this
          exact this
        refine Or.inl ⟨τ2, ν2, n2, tg2, ct2, it + it2, by rw [step b1 hP']; exact c1, b2.tr c2, by omega, b6.tr c4, c5.rd (fun c hc w => by
          rcases w with w | w
          · exact Or.inr (Or.inl w)
          · exact Or.inr (Or.inr w)), c6, w2.tr c7, b10.tr c8, c9, c10, fun j hj => ?_, c12, fun j j1 j2 => ?_, fun j j1 j2 => ?_, fun c hc => (c15 c (by omega)).trans (b16 c hc)⟩
        · rw [(c11 j hj).1, (c11 j hj).2]
          exact b13 j (by omega)
        · rw [c13 j (by omega) (by rw [hszc, hgad.1]; exact j2), gB_n (by omega) (by omega), b14 j j1]
        · rw [c14 j (by omega) j2, b15 j j1 (by omega)]
      · refine Or.inr ⟨τ2, ν2, it + it2, by rw [step b1 hP']; exact c1, by omega, fun N => ?_, c4, w2.tr c5, b10.tr c6⟩
        rw [show it + it2 + N + 1 = it + (it2 + N + 1) by omega, b2, c3]
    · have hP' := hP.fk b5
      have hov : ¬ xA τ' 40 0 = 0 := fun w => b4.2 (b4.1.1.1.symm.trans w)
      refine Or.inr ⟨pB τ' 14 (nI (adr tg ct c0 + ofs tg c0 + i)) x, ν, it, ?_, by omega, b3, b4.w _ _, b5.tr (Fb.p _ _ _ _).kc, b6⟩
      rw [step b1 hP']
      exact kr_ov (σ := pB τ' 14 (nI (adr tg ct c0 + ofs tg c0 + i)) x) hov (by omega) _ _ N (by omega)
