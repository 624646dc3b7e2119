/-- both machines alike, with values on top that no frame has yet -/
def MSv (τ μ0 : S5) (F k T : Nat) (pa nv D E : Nat → Nat) (σs μs : S5) (t0 : Nat) (σ μ : S5) (n : Nat) (tg ct : Nat → Nat) (K : List (Nat × Nat × Nat × Nat × Nat)) (t W V b f e r P R i : Nat) : Prop :=
  (FmC σs σ ∧ FmM μs μ ∧ OLD μs μ n tg ct) ∧ HS τ μ0 F T pa nv σ μ n tg ct (fun _ => True) ∧ (NR σ μ ∧ gI μ 44 = 0) ∧ MC σ (t + i) b f e ∧ MM μ W (V + i) b e ∧ SK τ μ0 F T pa nv σ μ n tg ct t0 (gB σs 12) K t W V b f e r ∧ GLB k pa σ μ n tg ct ∧ BNs μ0 D E μ n t0 K (V + i) P R ∧ ∀ j, j < i → VL τ F pa n tg ct (gB σ 12 (t + j)) (gB μ 8 (V + j))
theorem MSb.v {τ μ0 : S5} {F k T : Nat} {pa nv D E : Nat → Nat} {σs μs : S5} {t0 : Nat} {σ μ : S5} {n : Nat} {tg ct : Nat → Nat} {K : List (Nat × Nat × Nat × Nat × Nat)} {t W V b f e r P R : Nat} (h : MSb τ μ0 F k T pa nv D E σs μs t0 σ μ n tg ct K t W V b f e r P R) : MSv τ μ0 F k T pa nv D E σs μs t0 σ μ n tg ct K t W V b f e r P R 0 := ⟨h.1, h.2.1, h.2.2.1, h.2.2.2.1, h.2.2.2.2.1, h.2.2.2.2.2.1, h.2.2.2.2.2.2.1, h.2.2.2.2.2.2.2, fun j hj => absurd hj (Nat.not_lt_zero j)⟩
theorem MSv.b {τ μ0 : S5} {F k T : Nat} {pa nv D E : Nat → Nat} {σs μs : S5} {t0 : Nat} {σ μ : S5} {n : Nat} {tg ct : Nat → Nat} {K : List (Nat × Nat × Nat × Nat × Nat)} {t W V b f e r P R : Nat} (h : MSv τ μ0 F k T pa nv D E σs μs t0 σ μ n tg ct K t W V b f e r P R 0) : MSb τ μ0 F k T pa nv D E σs μs t0 σ μ n tg ct K t W V b f e r P R := ⟨h.1, h.2.1, h.2.2.1, h.2.2.2.1, h.2.2.2.2.1, h.2.2.2.2.2.1, h.2.2.2.2.2.2.1, h.2.2.2.2.2.2.2.1⟩
theorem BNs.le {μ0 : S5} {D E : Nat → Nat} {μ : S5} {n t0 : Nat} {K : List (Nat × Nat × Nat × Nat × Nat)} {V V' P P' R R' : Nat} (h : BNs μ0 D E μ n t0 K V P R) (hV : V' + P' ≤ V + P) (hR : R ≤ R') : BNs μ0 D E μ n t0 K V' P' R' := by
  obtain ⟨a1, a2, cl, lf, a3, a4, a5, a6, a7, a8⟩ := h
  exact ⟨a1, a2, cl, lf, a3, a4, a5, a6, by omega, by omega⟩
theorem MSb.le {τ μ0 : S5} {F k T : Nat} {pa nv D E : Nat → Nat} {σs μs : S5} {t0 : Nat} {σ μ : S5} {n : Nat} {tg ct : Nat → Nat} {K : List (Nat × Nat × Nat × Nat × Nat)} {t W V b f e r P P' R R' : Nat} (h : MSb τ μ0 F k T pa nv D E σs μs t0 σ μ n tg ct K t W V b f e r P R) (hP : P' ≤ P) (hR : R ≤ R') : MSb τ μ0 F k T pa nv D E σs μs t0 σ μ n tg ct K t W V b f e r P' R' := ⟨h.1, h.2.1, h.2.2.1, h.2.2.2.1, h.2.2.2.2.1, h.2.2.2.2.2.1, h.2.2.2.2.2.2.1, h.2.2.2.2.2.2.2.le (by omega) hR⟩
theorem MSv.le {τ μ0 : S5} {F k T : Nat} {pa nv D E : Nat → Nat} {σs μs : S5} {t0 : Nat} {σ μ : S5} {n : Nat} {tg ct : Nat → Nat} {K : List (Nat × Nat × Nat × Nat × Nat)} {t W V b f e r P P' R R' i : Nat} (h : MSv τ μ0 F k T pa nv D E σs μs t0 σ μ n tg ct K t W V b f e r P R i) (hP : P' ≤ P) (hR : R ≤ R') : MSv τ μ0 F k T pa nv D E σs μs t0 σ μ n tg ct K t W V b f e r P' R' i := ⟨h.1, h.2.1, h.2.2.1, h.2.2.2.1, h.2.2.2.2.1, h.2.2.2.2.2.1, h.2.2.2.2.2.2.1, h.2.2.2.2.2.2.2.1.le (by omega) hR, h.2.2.2.2.2.2.2.2⟩
/-- the bounds -/
theorem MSv.bd {τ μ0 : S5} {F k T : Nat} {pa nv D E : Nat → Nat} {σs μs : S5} {t0 : Nat} {σ μ : S5} {n : Nat} {tg ct : Nat → Nat} {K : List (Nat × Nat × Nat × Nat × Nat)} {t W V b f e r P R i : Nat} (h : MSv τ μ0 F k T pa nv D E σs μs t0 σ μ n tg ct K t W V b f e r P R i) : t = t0 + W + V ∧ W + r ≤ 200800 ∧ V + i + P ≤ 498000 ∧ e ≤ 192000 ∧ b ≤ e ∧ t0 ≤ 100000 ∧ n ≤ 4000 ∧ (f = 0 ∨ f < F) := by
  obtain ⟨-, hH, -, -, -, hK, -, ⟨h1, h2, cl, lf, h3, h4, h5, h6, h7, h8⟩, -⟩ := h
  obtain ⟨k1, k2, k3, k4, k5⟩ := hK.bd
  have hn : n ≤ 4000 := Nat.le_trans (adr_ge tg ct n).1 hH.1.2.2.1
  have hb := pre_b1 (w := blC μ) n (fun i => by unfold blC; split <;> omega)
  exact ⟨k1, by omega, by omega, by omega, k4, h2, hn, k5⟩
theorem MSv.ev {τ μ0 : S5} {F k T : Nat} {pa nv D E : Nat → Nat} {σs μs : S5} {t0 : Nat} {σ μ : S5} {n : Nat} {tg ct : Nat → Nat} {K : List (Nat × Nat × Nat × Nat × Nat)} {t W V b f e r P R i : Nat} (h : MSv τ μ0 F k T pa nv D E σs μs t0 σ μ n tg ct K t W V b f e r P R i) (hf : f < F) (he : e = b + nv f) {Sc : Nat → Prop} (hg : ∀ x, Sc x → VL τ F pa n tg ct (gB σ 13 (b + x)) (gB μ 9 (b + x))) : EV τ F k pa nv σ μ n tg ct f b Sc := by
  obtain ⟨-, -, -, b4, b5, b6, b7, -⟩ := h.bd
  obtain ⟨-, -, -, ⟨⟨m1, m2, m3, m4⟩, m5, m6, m7, m8⟩, ⟨q1, q2, q3, q4⟩, -, hG, -, -⟩ := h
  have := m7.b
  exact ⟨⟨m2, q3, m4, hf, by omega, by omega, by omega⟩, hg, hG⟩
theorem bl_gr {μ ν : S5} {n n' : Nat} (hn : n ≤ n') (h : ∀ c, c < n → gA ν 53 c = gA μ 53 c) : pre (blC μ) n ≤ pre (blC ν) n' := by
  have h1 : pre (blC ν) n = pre (blC μ) n := pre_cg n (fun i hi => by unfold blC; rw [h i hi])
  have h2 := pre_mono (w := blC ν) (n' - n) n
  rw [show n + (n' - n) = n' by omega] at h2
  omega
/-- more cells, other variables: they stay alike -/
theorem MSv.gr {τ μ0 : S5} {F k T : Nat} {pa nv D E : Nat → Nat} (hnv : ∀ f, f < F → nv f ≤ 40) {σs μs : S5} {t0 : Nat} {σ μ σ' μ' : S5} {n : Nat} {tg ct : Nat → Nat} {n' : Nat} {tg' ct' : Nat → Nat} {K : List (Nat × Nat × Nat × Nat × Nat)} {t W V b f e r P P' R R' i : Nat} (h : MSv τ μ0 F k T pa nv D E σs μs t0 σ μ n tg ct K t W V b f e r P R i) (hg : Gro n tg ct n' tg' ct') (hC : FlC σ σ') (hM : FlM μ μ') (hH : HS τ μ0 F T pa nv σ' μ' n' tg' ct' (fun _ => True)) (hN : NR σ' μ') (h44 : gI μ' 44 = 0) (h53 : ∀ c, c < n → gA μ' 53 c = gA μ 53 c) (hv : ∀ j, VL τ F pa n tg ct (gB σ 13 j) (gB μ 9 j) → VL τ F pa n' tg' ct' (gB σ' 13 j) (gB μ' 9 j)) (h7 : ∀ j, j < pre ct n → gB μ' 7 j = gB μ 7 j) {B B2 : Nat} (hB : pre (spC D μ') n' ≤ pre (spC D μ) n + B) (hP : B + P' ≤ P) (hB2 : pre (spC E μ') n' ≤ pre (spC E μ) n + B2) (hR : R + B2 ≤ R') : MSv τ μ0 F k T pa nv D E σs μs t0 σ' μ' n' tg' ct' K t W V b f e r P' R' i := by
  obtain ⟨⟨f1, f2, f3⟩, -, -, ⟨⟨m1, m2, m3, m4⟩, m5, m6, m7, m8⟩, ⟨q1, q2, q3, q4⟩, hK, hG, ⟨n1, n2, cl, lf, n3, n4, n5, n6, n7, n8⟩, hvs⟩ := h
  have eN : ∀ j, gN σ' j = gN σ j := fun j => congrFun hC.2.2.2.2 j
  have hbl := bl_gr hg.1 h53
  refine ⟨⟨f1.tr ⟨fun j _ => hC.1 j, fun j _ => hC.2.1 j, fun j a => hC.2.2.1 j (by omega), fun j a => hC.2.2.2.1 j (by omega) (by omega), fun k _ _ => eN k⟩, f2.tr ⟨fun j a a' => hM.1 j (by omega) (by omega) (by omega) (by omega) (by omega), fun j _ => hM.2.1 j, fun j a => hM.2.2.1 j (by omega) (by omega) (by omega), fun j a => hM.2.2.2.1 j (by omega) (by omega), hM.2.2.2.2⟩, f3.mv hg h7⟩, hH, ⟨hN, h44⟩, ⟨⟨by rw [hC.1]; exact m1, by rw [hC.1]; exact m2, by rw [hC.1]; exact m3, by rw [hC.1]; exact m4⟩, by rw [eN]; exact m5, by rw [eN]; exact m6, by rw [eN]; exact m7, by rw [eN]; exact m8⟩, ⟨?_, ?_, ?_, ?_⟩, ?_, ?_, ⟨by omega, n2, cl, lf, ?_, ?_, n5, n6, by omega, by omega⟩, fun j hj => ?_⟩
  · rw [hM.1 48 (by omega) (by omega) (by omega) (by omega) (by omega)]; exact q1
  · rw [hM.1 49 (by omega) (by omega) (by omega) (by omega) (by omega)]; exact q2
  · rw [hM.1 50 (by omega) (by omega) (by omega) (by omega) (by omega)]; exact q3
  · rw [hM.1 51 (by omega) (by omega) (by omega) (by omega) (by omega)]; exact q4
  · exact SK.mv hnv hg K hK (fun j _ => by rw [hC.2.2.2.1 12 (by decide) (by decide)]) (fun j _ => by rw [hM.2.2.1 59 (by omega) (by omega) (by omega), hM.2.2.1 60 (by omega) (by omega) (by omega), hM.2.2.1 61 (by omega) (by omega) (by omega)]; exact ⟨rfl, rfl, rfl⟩) (fun j _ => by rw [hM.2.2.2.1 8 (by decide) (by decide)]) (fun j _ w => hv j w)
  · intro g g1 g2
    obtain ⟨d, d1, d2, d3, d4⟩ := hG g g1 g2
    exact ⟨d, by have := hg.1; omega, by rw [(hg.2 d d1).1]; exact d2, by rw [hC.2.2.1 43 (by decide), (hg.ad (Nat.le_of_lt d1)).1]; exact d3, by rw [hM.2.2.1 64 (by omega) (by omega) (by omega)]; exact d4⟩
  · rw [hM.1 38 (by omega) (by omega) (by omega) (by omega) (by omega)]; exact n3
  · rw [hM.1 37 (by omega) (by omega) (by omega) (by omega) (by omega)]; exact n4
  · rw [hC.2.2.2.1 12 (by decide) (by decide), hM.2.2.2.1 8 (by decide) (by decide)]
    exact (hvs j hj).gr hg
/-- what the other has in hand at the start of keeping -/
theorem MSv.pt {τ μ0 : S5} {F k T : Nat} {pa nv D E : Nat → Nat} {σs μs : S5} (hQs : eqQ μ0 μs) {t0 : Nat} {σ μ : S5} {n : Nat} {tg ct : Nat → Nat} {K : List (Nat × Nat × Nat × Nat × Nat)} {t W V b f e r P R i : Nat} (h : MSv τ μ0 F k T pa nv D E σs μs t0 σ μ n tg ct K t W V b f e r P R i) (G : Nat → Nat) : PTk τ μ0 F T nv G μ n (pre ct n) 0 (pre (spC G μ) n) := by
  obtain ⟨⟨f1, f2, -⟩, ⟨⟨a1, a2, a3, a4, a5⟩, -⟩, -⟩ := h
  exact ⟨hQs.fm f2, ⟨adr tg ct n, a1, a2, a4, (adr_ge tg ct n).2, a3, Nat.zero_le _⟩, fun j hj => absurd hj (Nat.not_lt_zero j), Nat.le_refl _⟩
/-- BOTH KEEP A PART -/
theorem kpm_go {τ μ0 : S5} {F k T : Nat} {pa nv D E : Nat → Nat} (hS : PSt τ μ0 F k T pa nv) (hD : DS0 τ μ0 F T nv D) (hE0 : DS0 τ μ0 F T nv E) {σs μs : S5} (hPs : eqP τ σs) (hQs : eqQ μ0 μs) {t0 : Nat} {σ μ : S5} {n : Nat} {tg ct : Nat → Nat} {K : List (Nat × Nat × Nat × Nat × Nat)} {t W V b f e r P P' R R' i : Nat} (h : MSv τ μ0 F k T pa nv D E σs μs t0 σ μ n tg ct K t W V b f e r P R i) (he : e = b + nv f) {c : Int32} {p : Nat} {Sc : Nat → Prop} (hN : ND τ μ0 F T nv f c p Sc) (hg : ∀ x, Sc x → VL τ F pa n tg ct (gB σ 13 (b + x)) (gB μ 9 (b + x))) (hP : D p + P' ≤ P) (hR : R + E p ≤ R') : (∃ (x y : Int64) (σ' μ' : S5) (n' : Nat) (tg' ct' : Nat → Nat), f_keepE 64 c σ = some (x, σ') ∧ f_X12_keep (nI p) μ = some (y, μ') ∧ VL τ F pa n' tg' ct' x y ∧ MSv τ μ0 F k T pa nv D E σs μs t0 σ' μ' n' tg' ct' K t W V b f e r P' R' i ∧ Gro n tg ct n' tg' ct' ∧ FkC σ σ' ∧ FkM μ μ') ∨ (∃ (x y : Int64) (σ' μ' : S5), f_keepE 64 c σ = some (x, σ') ∧ f_X12_keep (nI p) μ = some (y, μ') ∧ OV σ' μ' ∧ FkC σ σ' ∧ FkM μ μ') := by
  have hE := h.ev hN.1 he hg
  have hnv := hS.nv
  have hp7 : p < 7000 := by
    obtain ⟨a, q, lo, hi, hx, -, -⟩ := hN
    exact (hx.un (hnv f a)).1.2.1
  have hpt := h.pt hQs D
  have hptE := h.pt hQs E
  obtain ⟨⟨f1, f2, -⟩, hH, ⟨hn, h0⟩, -⟩ := id h
  rcases keep_go hS (hPs.fm f1) (hQs.fm f2) hH hn h0 hE hN (by have := hN.h; omega) with ⟨x, y, σ', μ', n', tg', ct', k1, k2, k3, k4, k5, k6, k7, k8, k9, k10, k11⟩ | ⟨x, y, σ', μ', k1, k2, k3, k4, k5⟩
  · obtain ⟨n2, ft2, c1, c2, c3, c4⟩ := keep_pt hS hD k2 hpt ⟨hp7, f, c, Sc, hN⟩
    obtain ⟨n3, ft3, c1E, c2E, c3E, c4E⟩ := keep_pt hS hE0 k2 hptE ⟨hp7, f, c, Sc, hN⟩
    have hn' : n' ≤ 4000 := Nat.le_trans (adr_ge tg' ct' n').1 k5.1.2.2.1
    obtain ⟨-, ⟨N2, d1, -, -, d4, d5, -⟩, -, d7⟩ := c3
    have en : n2 = n' := nI_injL (by omega) (by omega) (d1.symm.trans k5.1.1)
    subst en
    obtain ⟨-, ⟨N3, d1E, -, -, d4E, d5E, -⟩, -, d7E⟩ := c3E
    have en3 : n2 = n3 := (nI_injL (by omega) (by omega) (d1E.symm.trans k5.1.1)).symm
    subst en3
    refine Or.inl ⟨x, y, σ', μ', n2, tg', ct', k1, k2, k3, ?_, k4, k7, k8⟩
    exact h.gr hnv k4 k7.l k8.l (k5.rd (fun c hc _ => Or.inr trivial)) k6 k9 k10 (fun j w => by
      rw [k7.2.2.2.1 13 (by decide), k8.2.2.2.1 9 (by decide)]
      exact w.gr k4) k11 (B := D p) (B2 := E p) (by
      have : pre (fun j => D (gA μ' 62 j).toNatClampNeg) 0 = 0 := rfl
      omega) hP (by
      have : pre (fun j => E (gA μ' 62 j).toNatClampNeg) 0 = 0 := rfl
      omega) hR
  · exact Or.inr ⟨x, y, σ', μ', k1, k2, k3, k4, k5⟩
