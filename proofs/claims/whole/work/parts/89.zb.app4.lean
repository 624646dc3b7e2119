theorem Dm.no {f p n : Int32} {σ : S5} (h : Dm (fun _ => False) f p n σ) : St f p n σ := by
  rcases h with h | h
  · exact h
  · exact absurd h.2.2.2.1 (fun w => w)
theorem g_t1 {β : Type} (x : Option β) : g_t 1 x = x := rfl
theorem g_t0 {β : Type} (x : Option β) : g_t 0 x = x := rfl
/-- the reference reads on behind an atom -/
theorem m_303 {μ τ : S5} {q : Int32} (h7 : gI μ 7 = 0) (h : f_X12_atom μ = some (q, τ)) (hq : q = 0 ∨ q = 1) (h20 : gI τ 20 = 0) : f_X12_atomEnds_b303 μ = some ((), aft (1 - q) τ) := by
  unfold f_X12_atomEnds_b303 f_X12_atomEnds_b322 f_X12_atomEnds_b323 aft
  rw [if_pos h7, h, bd_of, pI_self τ 20 h20]
  rcases hq with rfl | rfl
  · rfl
  · rfl
theorem GL.next {pk nk aa vv : Int32} {gap : Nat → Int32} {σ0 μ0 σ μ : S5} {j : Nat} {c0 cl an : Int32} {g cc fs fu fn ft : Nat → Int32} (hs0 : Sim σ0 μ0) (q : GL pk nk aa vv gap σ0 μ0 σ μ j c0 cl an g cc fs fu fn ft) (hgap : gap (j + 1) = 0) {μy σ' μ' : S5} {n c : Int32} (y2 : ∀ k, ¬ k = 17 → gI μy k = gI μ k) (y4 : gI μy 17 = gI μ0 17) (y5 : EqR μ μy) (y6 : FrM μ0 μy) (y7 : PF μ0 μy) (y8 : xA μy 14 (gI μ0 16) = pk) (y9 : xA μy 15 (gI μ0 16) = an) (y10 : xA μy 17 (gI μ0 16) = nI j + 1) (y11 : RB σ μy (gI σ0 15) (gI σ0 9) (gI σ0 10) aa (gI σ0 8) gap an (gI σ 9) (gI σ 10) (gI μ 9) (gI σ 8) j (j + 1) g cc fs fu fn ft) (y12 : xA μy 2 an = nk) (y13 : xA μy 10 an = 0) (y14 : xA μy 5 an = -1) (y15 : xA μy 3 an = g 0) (y16 : xA μy 4 an = g j) (y17 : xA μy 7 an = vv) (h160 : 0 ≤ gI μ0 16) (h161 : gI μ0 16 < 3100) (h170 : 0 ≤ gI μ0 17) (hC : Cor σ μy c σ' μ' n) (f20 : gI μ' 20 = 0) (f21 : gI μ' 21 = 0) : GL pk nk aa vv gap σ0 μ0 (pA σ' 17 cl c) μ' (j + 1) c0 c an (upN g (j + 1) n) (upN cc (j + 1) c) (upN fs (j + 2) (gI σ' 9)) (upN fu (j + 2) (gI σ' 10)) (upN fn (j + 2) (gI μ' 9)) (upN ft (j + 2) (c + 1)) := by
  obtain ⟨hBa, a19, a20, a21, a16, a17, a18, p14, p15, p17, hgr, hRB, hc0, hcl, k2, k10, k5, k7, k34, k30, hn0, hn1, haa, hM0, h01⟩ := q
  obtain ⟨r1, r4, r5, r6, r7, r8, r9, r10, r11, t4, t5⟩ := hBa
  have hp0 := hs0.p3
  have hp3 := r1.p3
  have hb0 := hs0.2.2
  have hb := r1.2.2
  unfold Bg at hb hb0
  have hBa' := hC.ba
  obtain ⟨s1, s2, ⟨u1, u2, u3, u4, u5⟩, s4, s5, s6, s7, s8, s9, s10, s11, s12, s13, s14, s15⟩ := hC
  have hb' := s1.2.2
  unfold Bg at hb'
  have hp3' := s1.p3
  have hGy : Gm 0 0 σ σ μ μy := by
    have m9 := iv_eq (y2 9 (by decide))
    have m10 := iv_eq (y2 10 (by decide))
    unfold Gm
    omega
  obtain ⟨gr1, gr2, gr3, gr4, gr5, gr6, gr7⟩ := id r11
  obtain ⟨gs1, gs2, gs3, gs4, gs5, gs6, gs7⟩ := id s11
  rw [y2 9 (by decide)] at gs4
  rw [y2 10 (by decide)] at gs5
  have hGf : Gm 2 1 σ0 σ' μ0 μ' := ((hgr.tr hGy).tr gs7).wk (by decide) (by decide)
  have hcl8 : gI σ0 8 ≤ cl ∧ cl < gI σ 8 := by
    have x := hRB.2.2.2.2.2.2.2.2 j (Nat.le_refl j)
    have w := x.1.un.1
    unfold Bd at w
    grind
  have hRB2 := y11.fr s4 s9 s10 (by rw [y2 10 (by decide)]; grind) (by grind) (by grind) (by grind) (by rw [y2 9 (by decide)]; grind) (by grind)
  have hnx := hRB2.nx (by omega) (s2 := gI σ' 9) (u2 := gI σ' 10) (b2 := gI μ' 9) (n := n) (c := c) (by rw [hgap, Int32.add_zero]; rw [r8, y2 9 (by decide)] at s12; exact s12) s14 s15 (by rw [hgap]; intro w; exact absurd w (by decide)) (Or.inr (by rw [hgap, Int32.add_zero]; exact hn1)) (Or.inl hgap)
  have hP : ∀ i, 0 ≤ i → i < gI μ0 16 + 1 → i < gI μy 16 := by
    intro i _ w
    rw [y2 16 (by decide), a16]; exact w
  have hM := s10.1 an (by grind) (by rw [y2 9 (by decide)]; exact hn1)
  refine ⟨⟨s1, ?_, (r5.tr y5).tr s5, ?_, s7.trans r7, s8.trans r8, ?_, ?_, ?_, ?_⟩, s2, f20, f21, ?_, ?_, ?_, ?_, ?_, ?_, ?_, ?_, ?_, ?_, ?_, ?_, ?_, ?_, ?_, fun w => by omega, hn0, ?_, haa, hM0, h01⟩
  · exact (r4.tr s4).A (by decide)
  · rw [s6, y2 12 (by decide), y2 11 (by decide)]; exact r6
  · have z := r9.tr s9 (by grind) (by grind) (by grind) (by grind) (by grind)
    obtain ⟨z1, z2, z3, z4⟩ := z
    refine ⟨fun i p q => ?_, z2, z3, z4⟩
    obtain ⟨x1, x2, x3, x4, x5⟩ := z1 i p q
    refine ⟨x1, x2, x3, x4, ?_⟩
    rw [xA_pA, if_neg (fun w => i_ne p (by grind) w.2)]
    exact x5
  · exact y6.tr s10 (by rw [y2 9 (by decide)]; grind) (by rw [y2 10 (by decide)]; grind)
  · exact ⟨i_trans gr1 gs1, i_trans gr2 gs2, i_trans gr3 gs3, i_trans gr4 gs4, i_trans gr5 gs5, i_trans gr6 gs6, hGf.wk (by decide) (by decide)⟩
  · exact y7.tr ⟨u4, u5⟩ (by rw [y2 16 (by decide), a16]; grind) (by rw [y4]; grind)
  · rw [u1, y2 16 (by decide)]; exact a16
  · rw [u2, y4]
  · rw [upN_at, ← y4]; exact u3
  · rw [(u4 (gI μ0 16) h160 (hP _ h160 (by grind))).1]; exact y8
  · rw [(u4 (gI μ0 16) h160 (hP _ h160 (by grind))).2.1]; exact y9
  · rw [(u4 (gI μ0 16) h160 (hP _ h160 (by grind))).2.2.2, y10, nI_add1]
  · exact hGf
  · rw [hcl] at hnx
    have e8 : gI (pA σ' 17 cl c) 8 = c + 1 := s13.symm
    rw [e8]
    exact hnx
  · rw [upN_ne _ _ (by omega)]; exact hc0
  · exact upN_at _ _ _
  · exact hM.1.trans y12
  · exact hM.2.2.2.2.2.2.2.2.1.trans y13
  · exact hM.2.2.2.1.trans y14
  · exact hM.2.2.2.2.2.1.trans y17
  · intro _
    rw [upN_ne _ _ (by omega), upN_ne _ _ (by omega), show j + 1 - 1 = j by omega]
    exact ⟨hM.2.1.trans y15, hM.2.2.1.trans y16⟩
  · grind
