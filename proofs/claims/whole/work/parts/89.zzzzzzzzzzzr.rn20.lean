theorem Gro.mo {n : Nat} {tg ct : Nat → Nat} {n' : Nat} {tg' ct' : Nat → Nat} (h : Gro n tg ct n' tg' ct') : pre ct n ≤ pre ct' n' ∧ adr tg ct n ≤ adr tg' ct' n' := by
  have h1 := h.1
  obtain ⟨a, b⟩ := h.ad (Nat.le_refl n)
  refine ⟨?_, ?_⟩
  · rw [← b]
    have := pre_mono (w := ct') (n' - n) n
    rw [show n + (n' - n) = n' by omega] at this
    exact this
  · rw [← a]
    have := pre_mono (w := szc tg' ct') (n' - n) n
    rw [show n + (n' - n) = n' by omega] at this
    exact this
theorem FkM.t {μ : S5} (v : Int32) : FkM μ (pI μ 54 v) := ⟨fun j _ _ _ _ a => by rw [gI_pI, if_neg a], fun _ => rfl, fun _ _ _ _ => rfl, fun _ _ => rfl, rfl⟩
theorem Ft.t {μ : S5} (v : Int32) : Ft μ (pI μ 54 v) := ⟨fun j a => by rw [gI_pI, if_neg a], fun _ => rfl, fun _ _ _ => rfl, fun _ => rfl, rfl⟩
/-- the other gives a cell its tasks -/
theorem fillM_t {τ μ0 : S5} {F T : Nat} {pa nv : Nat → Nat} {σ μ : S5} {n : Nat} {tg ct : Nat → Nat} {Rd : Nat → Prop} (hH : HS τ μ0 F T pa nv σ μ n tg ct Rd) (hQ : eqQ μ0 μ) {f : Nat} {c : Int32} {p j m : Nat} {Sc : Nat → Prop} {cc : Nat → Int32} {pp : Nat → Nat} (hp : p < 7000) (hk : KdB τ μ0 F T nv f c p j m Sc cc pp) {c0 t : Nat} (hc0 : c0 < n) (hm : ct c0 = m) (hm8 : m ≤ 8) (hj : (j = 0 ∧ tg c0 = 4) ∨ (j = 1 ∧ tg c0 = 5)) (h54 : gI μ 54 = nI t) (ht : t ≤ 4000) : ∃ ν, f_X12_fill (nI p) (nI c0) μ = some ((), ν) ∧ Ft μ ν ∧ gI ν 54 = nI (t + m) ∧ (∀ j, j < m → gA ν 62 (t + (m - 1 - j)) = nI (pp j) ∧ gA ν 63 (t + (m - 1 - j)) = nI (pre ct c0 + j)) ∧ ∀ j, j < t → gA ν 62 j = gA μ 62 j ∧ gA ν 63 j = gA μ 63 j := by
  have hb := FU_big (n := 5000) (by decide)
  obtain ⟨ct0, k1, k2, k3⟩ := hk
  obtain ⟨⟨a1, a2, a3, a4, a5⟩, hcell⟩ := hH
  have hge := adr_ge tg ct n
  have hpr := pre_mo' ct hc0
  obtain ⟨⟨b1, b2⟩, b3, -⟩ := hcell c0 hc0
  obtain ⟨ν, c1, c2, c3, c4, c5⟩ := ftk_go (μ0 := μ0) (p := p) (bg := pre ct c0) (ct0 := ct0) (ah := j) (m := m) (t := t) (pp := pp) hp k1 k2 (fun i hi => (k3 i hi).2.2.2.2.1) (by omega) (by omega) m FU μ (Nat.le_refl _) (by omega) hQ (by rw [Nat.sub_self, Nat.add_zero]; exact h54) (fun j j1 j2 => by omega)
  have e55 : xA μ 55 (nI c0) = nI (pre ct c0) := by rw [xA_n (by omega)]; exact b1
  have e56 : xA μ 56 (nI c0) = nI m := by rw [xA_n (by omega), b2, hm]
  refine ⟨ν, ?_, c2, c3, c4, c5⟩
  unfold f_X12_fill f_X12_fill_b92
  rw [gdn (by omega) (by omega), gdn (by omega) (by omega)]
  rcases hj with ⟨rfl, h4⟩ | ⟨rfl, h5⟩
  · have e53 : xA μ 53 (nI c0) = 0 := by
      rw [xA_n (by omega)]
      rcases b3 with ⟨-, w, -⟩ | ⟨w, -⟩ | ⟨w, -⟩
      · exact w
      · omega
      · omega
    rw [e53, if_neg (by decide), gdn (by omega) (by omega), if_neg (by decide), gdn (by omega) (by omega), e55, e56]
    exact c1
  · have e53 : xA μ 53 (nI c0) = 1 := by
      rw [xA_n (by omega)]
      rcases b3 with ⟨w, -⟩ | ⟨-, w, -⟩ | ⟨w, -⟩
      · omega
      · exact w
      · omega
    rw [e53, if_neg (by decide), gdn (by omega) (by omega), if_pos rfl, gdn (by omega) (by omega), e55, e56]
    exact c1
/-- WHATEVER IS KEPT IS KEPT ALIKE -/
theorem kp_go {τ μ0 : S5} {F k T : Nat} {pa nv : Nat → Nat} (hS : PSt τ μ0 F k T pa nv) {f base : Nat} {Sc : Nat → Prop} : ∀ d, KPp τ μ0 F k T pa nv f base Sc (f_keepE d) d := by
  intro d
  have hb := FU_big (n := 5000) (by decide)
  induction d with
  | zero => intro c p σ μ n tg ct Rd t place hN hH; exact absurd hH (Nat.not_lt_zero _)
  | succ d ih =>
    intro c p σ μ n tg ct Rd t place hN hH hP hQ hHS hn h0 hE h54 h62 h63 htn hpl
    obtain ⟨co, o1, o2, o3, o4⟩ := hpl
    have hN' := hN
    obtain ⟨hfF, q, lo, hi, hx, hhi, h38⟩ := hN
    have hnv := (hS.2.2.2.2 f hfF).2.1.2.2.2
    obtain ⟨⟨u1, u2, uc, u3, u5, -⟩, -, -⟩ := hx.un hnv
    have h00 : xA σ 40 0 = 0 := hn.1.1.trans h0
    obtain ⟨⟨a1, a2, a3, a4, a5⟩, -⟩ := id hHS
    have hge := adr_ge tg ct n
    have hpo := pre_mo' ct o1
    have hpl4 : place < 4100 := by omega
    have hQ1 : eqQ μ0 (pI μ 54 (nI t)) := hQ.fk (FkM.t _)
    have hH1 : HS τ μ0 F T pa nv σ (pI μ 54 (nI t)) n tg ct Rd := hHS.ft (Ft.t _)
    have hn1 : NR σ (pI μ 54 (nI t)) := hn.ft (Ft.t _)
    have h01 : gI (pI μ 54 (nI t)) 44 = 0 := h0
    have hE1 : EV τ F k pa nv σ (pI μ 54 (nI t)) n tg ct f base Sc := hE.st (Gro.rf n tg ct) (FkC.rf σ) (FkM.t _)
    obtain ⟨dt1, dt2⟩ := dt_mk h54 (by omega) h0 h62 h63 hpl4
    obtain ⟨pl1, pl2⟩ := plain_go hS hP hQ1 hE1 hN'
    have hkE : f_keepE (d + 1) c σ = bd (f_X3_begin c 0 σ) (fun r3 τ3 => bd (f_X3_fill (f_keepE d) c r3 0 τ3) (fun _ τ11 => some (r3, τ11))) := rfl
    by_cases hat : xA τ 13 c ≤ 3
    · obtain ⟨x, y, p1, p2, p3⟩ := pl1 hat
      have hk4 : xA τ 13 c = 0 ∨ xA τ 13 c = 1 ∨ xA τ 13 c = 2 ∨ (xA τ 13 c = 3 ∧ (0 : Int32) = 0) := by
        rcases kd_all hnv hx with w | w | w | w | w | w | w | w | w | w
        · exact Or.inl w
        · exact Or.inr (Or.inl w)
        · exact Or.inr (Or.inr (Or.inl w))
        · exact Or.inr (Or.inr (Or.inr ⟨w, rfl⟩))
        all_goals
          rw [w] at hat
          exact absurd hat (by decide)
      refine Or.inl ⟨x, y, σ, pB (pI μ 54 (nI t)) 7 (nI place) y, n, tg, ct, 1, ?_, dt1 p2 p3.nn.1, by omega, p3, gB_s (by omega), Gro.rf n tg ct, (hs_wm (μ' := pB (pI μ 54 (nI t)) 7 (nI place) y) hH1 o1 o2 (fun _ _ _ => rfl) (fun _ _ _ => rfl) rfl (fun j hj => gB_n (by omega) (by omega))).rd (Rd' := fun c => n ≤ c ∨ Rd c) (fun c hc w => w.elim (fun z => by omega) id), hn1.w7 _ _, FkC.rf σ, (FkM.t _).tr (Fb.p _ _ _ _).km, h0, rfl, fun _ _ => ⟨rfl, rfl⟩, fun _ _ => rfl, fun j j1 j2 => gB_n (by omega) j2, fun _ _ => rfl⟩
      rw [hkE, p1, bd_of, fCx_0 hP h00 uc x hk4, bd_of]
    · have hpm := pl2 hat
      obtain ⟨dm1, dm2⟩ := dt2 hpm
      obtain ⟨t', m, hsh, hmk⟩ := make_go hS hP hQ1 hH1 hn1 h01 hE.1.2.2.1 hN' (a2 := 0) (Or.inl hat)
      rcases hmk with ⟨τ1, ν1, m1, m2, m3, m4, m5, m6, m7, m8, m9, m10, m11, m12, m13, m14⟩ | ⟨τ1, ν1, m1, m2, m3, m4, m5⟩
      · have hP1 := hP.fk m5
        have hQ2 := hQ1.fk m6
        have hg1 := Gro.nw n tg ct t' m
        have hE2 := hE1.st hg1 m5 m6
        have h001 : xA τ1 40 0 = 0 := m4.1.1.trans m9
        obtain ⟨⟨z1, z2, z3, z4, z5⟩, zc⟩ := id m3
        obtain ⟨gad, gpr⟩ := hg1.ad (Nat.le_refl n)
        obtain ⟨gao, gpo⟩ := hg1.ad (Nat.le_of_lt o1)
        have hpr1 : pre (updN ct n m) (n + 1) = pre ct n + m := by
          show pre (updN ct n m) n + updN ct n m n = _
          rw [gpr, updN_s]
        have hge1 := adr_ge (updN tg n t') (updN ct n m) (n + 1)
        have hszn := adr_mo (updN tg n t') (updN ct n m) (show n < n + 1 by omega)
        have vof : (vv (nI t') (nI (adr tg ct n))).toInt32 = nI (adr tg ct n) := vv_of _ _
        have hown : ¬ (co < n ∧ Rd co) := fun w => o2 w.2
        have h54a : gI ν1 54 = nI t := m10.trans rfl
        have fin : ∀ {τ2 ν2 : S5} {n2 : Nat} {tg2 ct2 : Nat → Nat}, Gro (n + 1) (updN tg n t') (updN ct n m) n2 tg2 ct2 → (t' = 4 ∨ t' = 5 ∨ t' = 6) → VL τ F pa n2 tg2 ct2 (vv (nI t') (nI (adr tg ct n))) (vv 3 (nI n)) := by
          intro τ2 ν2 n2 tg2 ct2 hg ht'
          have hle := hg.1
          have e1 := (hg.2 n (Nat.lt_succ_self n)).1
          rw [updN_s] at e1
          refine Or.inr (Or.inr (Or.inr ⟨n, by omega, by rw [e1]; exact ht', ?_, rfl⟩))
          rw [e1, (hg.ad (Nat.le_succ n)).1, gad]
        rcases hsh with ⟨rfl, hm, hk9, hk8⟩ | ⟨rfl, hm1, hm4, hk, cc, pp, e16, hkd⟩ | ⟨rfl, hm1, hm8, hk, hpls, hd, cc, pp, e16, hdr, e17, hkd⟩
        · -- a suspension
          obtain ⟨τ2, ν2, s1, s2, s3, s4, s5, s6, s7, s8⟩ := fill_s hS hP1 hQ2 m3 m4 m9 hE2 hN' (c0 := n) (Nat.lt_succ_self n) (fun w => absurd w.1 (Nat.lt_irrefl n)) updN_s (m13 rfl) (by rw [updN_s]; exact hm)
          rw [gad] at s1 s7
          rw [gpr] at s8
          have hfC : f_X3_fill (f_keepE d) c (vv (nI 6) (nI (adr tg ct n))) 0 τ1 = some ((), τ2) := by
            rw [fCx_6 hP1 h001 uc _ ?_, vof, s1, bd_of]
            rcases kd_all hnv hx with w | w | w | w | w | w | w | w | w | w
            · exact absurd (by rw [w]; decide) hat
            · exact absurd (by rw [w]; decide) hat
            · exact absurd (by rw [w]; decide) hat
            · exact absurd (by rw [w]; decide) hat
            · exact Or.inr (Or.inl w)
            · exact Or.inr (Or.inr (Or.inl w))
            · exact Or.inr (Or.inr (Or.inr (Or.inl w)))
            · exact Or.inr (Or.inr (Or.inr (Or.inr (Or.inl w))))
            · refine Or.inr (Or.inr (Or.inr (Or.inr (Or.inr ⟨w, ?_⟩))))
              obtain ⟨mm, hd, h', cc', pp', y1, y2, y3, y4, y5, y6, y7, y8, y9, y10, y11, y12, y13⟩ := (less_go hS hP1 hQ2 hN').2 w
              rcases y13 with ⟨g, g1, g2, g3, g4, -⟩ | ⟨g1, -⟩
              · exact absurd ⟨g, mm, by have := hS.1.1; omega, y2, by rw [y5]; exact g3, by rw [y5]; exact g4, y3, g2⟩ (hk8 w)
              · exact g1
            · exact absurd w hk9
          have hle : pre ct n ≤ pre (updN ct n m) (n + 1) := by omega
          refine Or.inl ⟨vv (nI 6) (nI (adr tg ct n)), vv 3 (nI n), τ2, pB ν2 7 (nI place) (vv 3 (nI n)), n + 1, updN tg n 6, updN ct n m, 1, ?_, dm2 (by omega) m2 s2, by omega, fin (τ2 := τ2) (ν2 := ν2) (Gro.rf _ _ _) (Or.inr (Or.inr rfl)), gB_s (by omega), hg1, ?_, s4.w7 _ _, m5.tr s5.kc, ((((FkM.t _).tr m6).tr s6.km).tr (Fb.p _ _ _ _).km), ?_, ?_, fun j hj => ?_, fun j hj => ?_, fun j j1 j2 => ?_, fun x hx => ?_⟩
          · rw [hkE, m1, bd_of, hfC, bd_of]
          · refine (hs_wm (μ' := pB ν2 7 (nI place) (vv 3 (nI n))) s3 (c0 := co) (by omega) (fun w => w.elim (fun z => by omega) hown) (fun _ _ _ => rfl) (fun _ _ _ => rfl) rfl (fun j hj => ?_)).rd (fun c hc w => ?_)
            · rw [gpo, (hg1.2 co o1).2] at hj
              exact gB_n (by omega) (by omega)
            · by_cases hcn : c = n
              · exact Or.inl hcn
              · rcases w with w | w
                · omega
                · exact Or.inr ⟨by omega, w⟩
          · show gI ν2 44 = 0
            rw [s6.1 44]; exact m9
          · show gI ν2 54 = nI t
            rw [s6.1 54]; exact h54a
          · show gA ν2 62 j = _ ∧ gA ν2 63 j = _
            rw [s6.2.2.1 62, s6.2.2.1 63, m11, m12]
            exact ⟨rfl, rfl⟩
          · rw [s7 j (Or.inl (by omega)), m7 j hj]
          · rw [gB_n (by omega) j2, s8 j (Or.inl (by omega)), m8]
            rfl
          · show gA ν2 53 x = _
            rw [s6.2.2.1 53, m14 x hx]
            rfl
        · -- an object
          have hofs : ofs (updN tg n 4) n = 1 := by unfold ofs; rw [updN_s]; rfl
          obtain ⟨ν2, s1, s2, s3, s4, s5⟩ := fillM_t m3 hQ2 u2 hkd (c0 := n) (t := t) (Nat.lt_succ_self n) updN_s (by omega) (Or.inl ⟨rfl, updN_s⟩) h54a (by omega)
          rw [gpr] at s4
          obtain ⟨ct0, -, -, kk⟩ := hkd
          have hH3 : HS τ μ0 F T pa nv τ1 (pB ν2 7 (nI place) (vv 3 (nI n))) (n + 1) (updN tg n 4) (updN ct n m) (fun c => c < n ∧ Rd c) := hs_wm (m3.ft s2) (c0 := co) (by omega) hown (fun _ _ _ => rfl) (fun _ _ _ => rfl) rfl (fun j hj => by
            rw [gpo, (hg1.2 co o1).2] at hj
            exact gB_n (by omega) (by omega))
          have hF3 : FkM ν1 (pB ν2 7 (nI place) (vv 3 (nI n))) := s2.km.tr (Fb.p _ _ _ _).km
          have hrow := krow ih (c0 := n) (m := m) (t := t) (cc := cc) (pp := pp) (by omega) (fun i hi => ⟨(kk i hi).1, by have := (kk i hi).2.1; omega, (kk i hi).2.2.1, (kk i hi).2.2.2.2.2⟩) m 0 FU τ1 (pB ν2 7 (nI place) (vv 3 (nI n))) (n + 1) (updN tg n 4) (updN ct n m) (fun c => c < n ∧ Rd c) (by omega) (by omega) hP1 (hQ2.fk hF3) hH3 ((m4.ft s2).w7 _ _) (by show gI ν2 44 = 0; rw [s2.1 44 (by decide)]; exact m9) (hE2.st (Gro.rf _ _ _) (FkC.rf _) hF3) (Nat.lt_succ_self n) (fun w => absurd w.1 (Nat.lt_irrefl n)) updN_s s3 (fun j _ j2 => by rw [gpr]; exact s4 j j2) (by omega) (fun j hj => absurd hj (Nat.not_lt_zero j))
          rw [gad, gpr, hofs, if_pos (show 0 < m by omega)] at hrow
          have hfC : f_X3_fill (f_keepE d) c (vv (nI 4) (nI (adr tg ct n))) 0 τ1 = bd (f_X3_keepRow_L5 (f_keepE d) FU (nI (adr tg ct n + 1)) (nI 0) (cc 0) τ1) (fun _ τ => some ((), τ)) := by
            rw [fCx_4 hP1 h001 uc _ _ hk, vof, nI_add1, e16]
            rfl
          rcases hrow with ⟨τ3, ν3, n3, tg3, ct3, it, r1, r2, r3, r4, r5, r6, r7, r8, r9, r10, r11, r12, r13, r14, r15⟩ | ⟨τ3, ν3, it, r1, r2, r3, r4, r5, r6⟩
          · obtain ⟨ga3, gp3⟩ := r4.ad (Nat.le_succ n)
            have hmo3 := r4.mo
            have hg3 := r4.2 n (Nat.lt_succ_self n)
            rw [updN_s, updN_s] at hg3
            refine Or.inl ⟨vv (nI 4) (nI (adr tg ct n)), vv 3 (nI n), τ3, ν3, n3, tg3, ct3, 1 + it, ?_, (dm2 (by omega) m2 s1).tr r2, by omega, fin (τ2 := τ3) (ν2 := ν3) r4 (Or.inl rfl), ?_, hg1.tr r4, ?_, r6, m5.tr r7, ((FkM.t _).tr m6).tr (hF3.tr r8), r9, r10, fun j hj => ?_, fun j hj => ?_, fun j j1 j2 => ?_, fun x hx => ?_⟩
            · rw [hkE, m1, bd_of, hfC, r1, bd_of, bd_of]
            · rw [r14 place (by omega) (by omega), gB_s (by omega)]
            · refine hs_rd r5 (c0 := n) (fun i hi => ?_) (fun c hc w => ?_)
              · rw [ga3, gp3, gad, gpr, show ofs tg3 n = 1 by unfold ofs; rw [hg3.1]; rfl]
                rw [hg3.2] at hi
                exact r12 i hi
              · by_cases hcn : c = n
                · exact Or.inr hcn
                · rcases w with w | w
                  · exact Or.inl (Or.inl (by omega))
                  · by_cases hlt : c < n
                    · exact Or.inl (Or.inr ⟨hlt, w⟩)
                    · exact Or.inl (Or.inl (by omega))
            · rw [(r11 j hj).1, (r11 j hj).2]
              show gA ν2 62 j = _ ∧ gA ν2 63 j = _
              rw [(s5 j hj).1, (s5 j hj).2, m11, m12]
              exact ⟨rfl, rfl⟩
            · rw [r13 j (by omega) (Or.inl (by omega)), m7 j hj]
            · rw [r14 j (by omega) (Or.inl (by omega)), gB_n (by omega) j2, s2.2.2.2.1 7, m8]
              rfl
            · rw [r15 x (by omega)]
              show gA ν2 53 x = _
              rw [s2.2.2.1 53 (by decide) (by decide), m14 x hx]
              rfl
          · refine Or.inr ⟨vv (nI 4) (nI (adr tg ct n)), τ3, ν3, 1 + it, ?_, by omega, fun N => ?_, r4, m5.tr r5, ((FkM.t _).tr m6).tr (hF3.tr r6)⟩
            · rw [hkE, m1, bd_of, hfC, r1, bd_of, bd_of]
            · rw [show 1 + it + N + 1 = 1 + (it + N + 1) by omega, dm2 (by omega) m2 s1, r3]
        · -- a part of a call
          have hofs : ofs (updN tg n 5) n = 2 := by unfold ofs; rw [updN_s]; rfl
          obtain ⟨ν2, s1, s2, s3, s4, s5⟩ := fillM_t m3 hQ2 u2 hkd (c0 := n) (t := t) (Nat.lt_succ_self n) updN_s hm8 (Or.inr ⟨rfl, updN_s⟩) h54a (by omega)
          rw [gpr] at s4
          obtain ⟨ct0, -, -, kk⟩ := hkd
          have hH3 : HS τ μ0 F T pa nv τ1 (pB ν2 7 (nI place) (vv 3 (nI n))) (n + 1) (updN tg n 5) (updN ct n m) (fun c => c < n ∧ Rd c) := hs_wm (m3.ft s2) (c0 := co) (by omega) hown (fun _ _ _ => rfl) (fun _ _ _ => rfl) rfl (fun j hj => by
            rw [gpo, (hg1.2 co o1).2] at hj
            exact gB_n (by omega) (by omega))
          have hF3 : FkM ν1 (pB ν2 7 (nI place) (vv 3 (nI n))) := s2.km.tr (Fb.p _ _ _ _).km
          have hrow := krow ih (c0 := n) (m := m) (t := t) (cc := cc) (pp := pp) hm8 (fun i hi => ⟨(kk i hi).1, by have := (kk i hi).2.1; omega, (kk i hi).2.2.1, (kk i hi).2.2.2.2.2⟩) m 0 FU τ1 (pB ν2 7 (nI place) (vv 3 (nI n))) (n + 1) (updN tg n 5) (updN ct n m) (fun c => c < n ∧ Rd c) (by omega) (by omega) hP1 (hQ2.fk hF3) hH3 ((m4.ft s2).w7 _ _) (by show gI ν2 44 = 0; rw [s2.1 44 (by decide)]; exact m9) (hE2.st (Gro.rf _ _ _) (FkC.rf _) hF3) (Nat.lt_succ_self n) (fun w => absurd w.1 (Nat.lt_irrefl n)) updN_s s3 (fun j _ j2 => by rw [gpr]; exact s4 j j2) (by omega) (fun j hj => absurd hj (Nat.not_lt_zero j))
          rw [gad, gpr, hofs, if_pos (show 0 < m by omega)] at hrow
          have hlp : f_X3_isPartOfCall c τ1 = some (1, τ1) := by
            obtain ⟨mm, hd', h', cc', pp', y1, y2, y3, y4, y5, y6, y7, y8, y9, y10, y11, y12, y13⟩ := (less_go hS hP1 hQ2 hN').2 hk
            rcases y13 with ⟨g, g1, g2, g3, g4, g5, g6, g7, g8⟩ | ⟨-, -, g3⟩
            · exact g7
            · exfalso
              obtain ⟨g', m', w1, w2, w3, w4, w5, w6⟩ := hpls
              rw [y5] at w3 w4
              have em : mm = m' := nI_injL (by omega) (by omega) (y3.symm.trans w5)
              rcases g3 with ⟨g, v1, v2, v3, v4, -⟩ | ⟨v1, -⟩
              · have eg : g = g' := nI_injL (by have := hS.1.1; omega) (by omega) (v4.symm.trans w4)
                subst eg em
                omega
              · exact v1 w3
          have hfC : f_X3_fill (f_keepE d) c (vv (nI 5) (nI (adr tg ct n))) 0 τ1 = bd (f_X3_keepRow_L5 (f_keepE d) FU (nI (adr tg ct n + 2)) (nI 0) (cc 0) τ1) (fun _ τ => some ((), τ)) := by
            rw [fCx_5 hP1 h001 uc hdr e16 _ _ hk hlp, vof, show (2 : Int32) = nI 2 from rfl, nI_plus, e17]
            rfl
          rcases hrow with ⟨τ3, ν3, n3, tg3, ct3, it, r1, r2, r3, r4, r5, r6, r7, r8, r9, r10, r11, r12, r13, r14, r15⟩ | ⟨τ3, ν3, it, r1, r2, r3, r4, r5, r6⟩
          · obtain ⟨ga3, gp3⟩ := r4.ad (Nat.le_succ n)
            have hmo3 := r4.mo
            have hg3 := r4.2 n (Nat.lt_succ_self n)
            rw [updN_s, updN_s] at hg3
            refine Or.inl ⟨vv (nI 5) (nI (adr tg ct n)), vv 3 (nI n), τ3, ν3, n3, tg3, ct3, 1 + it, ?_, (dm2 (by omega) m2 s1).tr r2, by omega, fin (τ2 := τ3) (ν2 := ν3) r4 (Or.inr (Or.inl rfl)), ?_, hg1.tr r4, ?_, r6, m5.tr r7, ((FkM.t _).tr m6).tr (hF3.tr r8), r9, r10, fun j hj => ?_, fun j hj => ?_, fun j j1 j2 => ?_, fun x hx => ?_⟩
            · rw [hkE, m1, bd_of, hfC, r1, bd_of, bd_of]
            · rw [r14 place (by omega) (by omega), gB_s (by omega)]
            · refine hs_rd r5 (c0 := n) (fun i hi => ?_) (fun c hc w => ?_)
              · rw [ga3, gp3, gad, gpr, show ofs tg3 n = 2 by unfold ofs; rw [hg3.1]; rfl]
                rw [hg3.2] at hi
                exact r12 i hi
              · by_cases hcn : c = n
                · exact Or.inr hcn
                · rcases w with w | w
                  · exact Or.inl (Or.inl (by omega))
                  · by_cases hlt : c < n
                    · exact Or.inl (Or.inr ⟨hlt, w⟩)
                    · exact Or.inl (Or.inl (by omega))
            · rw [(r11 j hj).1, (r11 j hj).2]
              show gA ν2 62 j = _ ∧ gA ν2 63 j = _
              rw [(s5 j hj).1, (s5 j hj).2, m11, m12]
              exact ⟨rfl, rfl⟩
            · rw [r13 j (by omega) (Or.inl (by omega)), m7 j hj]
            · rw [r14 j (by omega) (Or.inl (by omega)), gB_n (by omega) j2, s2.2.2.2.1 7, m8]
              rfl
            · rw [r15 x (by omega)]
              show gA ν2 53 x = _
              rw [s2.2.2.1 53 (by decide) (by decide), m14 x hx]
              rfl
          · refine Or.inr ⟨vv (nI 5) (nI (adr tg ct n)), τ3, ν3, 1 + it, ?_, by omega, fun N => ?_, r4, m5.tr r5, ((FkM.t _).tr m6).tr (hF3.tr r6)⟩
            · rw [hkE, m1, bd_of, hfC, r1, bd_of, bd_of]
            · rw [show 1 + it + N + 1 = 1 + (it + N + 1) by omega, dm2 (by omega) m2 s1, r3]
      · have hov : ¬ xA τ1 40 0 = 0 := fun w => m3.2 (m3.1.1.1.symm.trans w)
        refine Or.inr ⟨0, τ1, pB ν1 7 (nI place) (-1), 1, ?_, by omega, fun N => ?_, ⟨m3.1.w7 _ _, m3.2⟩, m4, ((FkM.t _).tr m5).tr (Fb.p _ _ _ _).km⟩
        · rw [hkE, m1, bd_of, fCx_ov hov, bd_of]
        · rw [Nat.add_assoc, dm1 m2]
          exact L0_ov (μ := pB ν1 7 (nI place) (-1)) m3.2 N
