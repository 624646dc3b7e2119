/-- both keep, or both end -/
def KG (τ μ0 : S5) (F T : Nat) (pa nv : Nat → Nat) (σ μ : S5) (n : Nat) (tg ct : Nat → Nat) (Rd : Nat → Prop) (Fc Fm : Option (Int64 × S5)) : Prop :=
  (∃ (x y : Int64) (τ' ν : S5) (n' : Nat) (tg' ct' : Nat → Nat), Fc = some (x, τ') ∧ Fm = some (y, ν) ∧ VL τ F pa n' tg' ct' x y ∧ Gro n tg ct n' tg' ct' ∧ HS τ μ0 F T pa nv τ' ν n' tg' ct' (fun c => n ≤ c ∨ Rd c) ∧ NR τ' ν ∧ FkC σ τ' ∧ FkM μ ν ∧ gI ν 44 = 0 ∧ (∀ c, c < n → gA ν 53 c = gA μ 53 c) ∧ ∀ j, j < pre ct n → gB ν 7 j = gB μ 7 j) ∨ (∃ (x y : Int64) (τ' ν : S5), Fc = some (x, τ') ∧ Fm = some (y, ν) ∧ OV τ' ν ∧ FkC σ τ' ∧ FkM μ ν)
theorem L0_0 {μ : S5} (h : gI μ 54 = nI 0) (N : Nat) : f_X12_doTasks_L0 (N + 1) μ = some ((), μ) := by
  show f_X12_doTasks_B0 _ _ = _
  unfold f_X12_doTasks_B0
  rw [h, if_pos (by decide)]
/-- what goes into a cell that was made goes in alike -/
theorem fill_go {τ μ0 : S5} {F k T : Nat} {pa nv : Nat → Nat} (hS : PSt τ μ0 F k T pa nv) {σ μ : S5} (hP : eqP τ σ) (hQ : eqQ μ0 μ) {n : Nat} {tg ct : Nat → Nat} {Rd : Nat → Prop} (hH : HS τ μ0 F T pa nv σ μ n tg ct Rd) (hn : NR σ μ) (h0 : gI μ 44 = 0) {f base : Nat} {Sc : Nat → Prop} (hE : EV τ F k pa nv σ μ n tg ct f base Sc) {c : Int32} {p : Nat} (hN : ND τ μ0 F T nv f c p Sc) {d : Nat} (hd : hF τ c < d + 1) {t' m c0 : Nat} (hsh : SH τ μ0 F T pa nv f c p Sc t' m) {a4 : Int32} (ha4 : ¬ xA τ 13 c ≤ 3 ∨ (xA τ 13 c = 3 ∧ ¬ a4 = 0)) (hc0 : c0 < n) (hr : ¬ Rd c0) (htg : tg c0 = t') (hcm : ct c0 = m) (hso : t' = 6 → gA μ 53 c0 = 2) (h54 : gI μ 54 = nI 0) : (∃ (τ' ν : S5) (n' : Nat) (tg' ct' : Nat → Nat), f_X3_fill (f_keepE d) c (vv (nI t') (nI (adr tg ct c0))) a4 σ = some ((), τ') ∧ bd (f_X12_fill (nI p) (nI c0) μ) (fun _ τ => f_X12_doTasks τ) = some ((), ν) ∧ Gro n tg ct n' tg' ct' ∧ HS τ μ0 F T pa nv τ' ν n' tg' ct' (fun c => n ≤ c ∨ c = c0 ∨ Rd c) ∧ NR τ' ν ∧ FkC σ τ' ∧ FkM μ ν ∧ gI ν 44 = 0 ∧ (∀ c, c < n → gA ν 53 c = gA μ 53 c) ∧ ∀ j, j < pre ct n → (j < pre ct c0 ∨ pre ct c0 + ct c0 ≤ j) → gB ν 7 j = gB μ 7 j) ∨ (∃ (τ' ν : S5), f_X3_fill (f_keepE d) c (vv (nI t') (nI (adr tg ct c0))) a4 σ = some ((), τ') ∧ bd (f_X12_fill (nI p) (nI c0) μ) (fun _ τ => f_X12_doTasks τ) = some ((), ν) ∧ OV τ' ν ∧ FkC σ τ' ∧ FkM μ ν) := by
  have hb := FU_big (n := 5000) (by decide)
  have hN' := hN
  obtain ⟨hfF, q, lo, hi, hx, hhi, h38⟩ := hN
  have hnv := (hS.2.2.2.2 f hfF).2.1.2.2.2
  obtain ⟨⟨u1, u2, uc, u3, u5, -⟩, -, -⟩ := hx.un hnv
  have h00 : xA σ 40 0 = 0 := hn.1.1.trans h0
  obtain ⟨⟨a1, a2, a3, a4', a5⟩, -⟩ := id hH
  have hge := adr_ge tg ct n
  have hpo := pre_mo' ct hc0
  have hszn := adr_mo tg ct hc0
  have vof : (vv (nI t') (nI (adr tg ct c0))).toInt32 = nI (adr tg ct c0) := vv_of _ _
  have row : ∀ (j : Nat) (cc : Nat → Int32) (pp : Nat → Nat), 1 ≤ m → m ≤ 8 → KdB τ μ0 F T nv f c p j m Sc cc pp → ((j = 0 ∧ t' = 4) ∨ (j = 1 ∧ t' = 5)) → f_X3_fill (f_keepE d) c (vv (nI t') (nI (adr tg ct c0))) a4 σ = bd (f_X3_keepRow_L5 (f_keepE d) FU (nI (adr tg ct c0 + ofs tg c0)) (nI 0) (cc 0) σ) (fun _ τ => some ((), τ)) → (∃ (τ' ν : S5) (n' : Nat) (tg' ct' : Nat → Nat), f_X3_fill (f_keepE d) c (vv (nI t') (nI (adr tg ct c0))) a4 σ = some ((), τ') ∧ bd (f_X12_fill (nI p) (nI c0) μ) (fun _ τ => f_X12_doTasks τ) = some ((), ν) ∧ Gro n tg ct n' tg' ct' ∧ HS τ μ0 F T pa nv τ' ν n' tg' ct' (fun c => n ≤ c ∨ c = c0 ∨ Rd c) ∧ NR τ' ν ∧ FkC σ τ' ∧ FkM μ ν ∧ gI ν 44 = 0 ∧ (∀ c, c < n → gA ν 53 c = gA μ 53 c) ∧ ∀ j, j < pre ct n → (j < pre ct c0 ∨ pre ct c0 + ct c0 ≤ j) → gB ν 7 j = gB μ 7 j) ∨ (∃ (τ' ν : S5), f_X3_fill (f_keepE d) c (vv (nI t') (nI (adr tg ct c0))) a4 σ = some ((), τ') ∧ bd (f_X12_fill (nI p) (nI c0) μ) (fun _ τ => f_X12_doTasks τ) = some ((), ν) ∧ OV τ' ν ∧ FkC σ τ' ∧ FkM μ ν) := by
    intro j cc pp hm1 hm8 hkd hj hfC
    obtain ⟨ν2, s1, s2, s3, s4, s5⟩ := fillM_t hH hQ u2 hkd (c0 := c0) (t := 0) hc0 hcm hm8 (by rw [htg]; exact hj) h54 (by omega)
    obtain ⟨ct0, -, -, kk⟩ := hkd
    have hrow := krow (kp_go hS (f := f) (base := base) (Sc := Sc) d) (c0 := c0) (m := m) (t := 0) (cc := cc) (pp := pp) hm8 (fun i hi => ⟨(kk i hi).1, by have := (kk i hi).2.1; omega, (kk i hi).2.2.1, (kk i hi).2.2.2.2.2⟩) m 0 FU σ ν2 n tg ct Rd (by omega) (by omega) hP (hQ.fk s2.km) (hH.ft s2) (hn.ft s2) (by rw [s2.1 44 (by decide)]; exact h0) (hE.st (Gro.rf _ _ _) (FkC.rf _) s2.km) hc0 hr hcm s3 (fun j _ j2 => s4 j j2) (by omega) (fun j hj => absurd hj (Nat.not_lt_zero j))
    rw [if_pos (show 0 < m by omega)] at hrow
    rcases hrow with ⟨τ3, ν3, n3, tg3, ct3, it, r1, r2, r3, r4, r5, r6, r7, r8, r9, r10, r11, r12, r13, r14, r15⟩ | ⟨τ3, ν3, it, r1, r2, r3, r4, r5, r6⟩
    · obtain ⟨ga3, gp3⟩ := r4.ad (Nat.le_of_lt hc0)
      have hg3 := r4.2 c0 hc0
      have hmo3 := r4.mo
      have h43 : adr tg3 ct3 n3 ≤ 4000 := r5.1.2.2.1
      have hge3 := (adr_ge tg3 ct3 n3).2
      refine Or.inl ⟨τ3, ν3, n3, tg3, ct3, by rw [hfC, r1, bd_of], ?_, r4, ?_, r6, r7, s2.km.tr r8, r9, fun x hx => by rw [r15 x hx, s2.2.2.1 53 (by decide) (by decide)], fun j hj hj' => by rw [r14 j hj (by rw [← hcm]; exact hj'), s2.2.2.2.1 7]⟩
      · rw [s1, bd_of]
        unfold f_X12_doTasks
        obtain ⟨N, hN⟩ : ∃ N, FU = it + (N + 1) := ⟨FU - it - 1, by omega⟩
        rw [hN, r2, L0_0 r10]
      · refine hs_rd r5 (c0 := c0) (fun i hi => ?_) (fun x hx w => ?_)
        · rw [ga3, gp3, show ofs tg3 c0 = ofs tg c0 by unfold ofs; rw [hg3.1]]
          rw [hg3.2, hcm] at hi
          exact r12 i hi
        · rcases w with w | w | w
          · exact Or.inl (Or.inl w)
          · exact Or.inr w
          · exact Or.inl (Or.inr w)
    · refine Or.inr ⟨τ3, ν3, by rw [hfC, r1, bd_of], ?_, r4, r5, s2.km.tr r6⟩
      rw [s1, bd_of]
      unfold f_X12_doTasks
      obtain ⟨N, hN⟩ : ∃ N, FU = it + N + 1 := ⟨FU - it - 1, by omega⟩
      rw [hN, r3]
  rcases hsh with ⟨rfl, hm, hk9, hk8⟩ | ⟨rfl, hm1, hm4, hk, cc, pp, e16, hkd⟩ | ⟨rfl, hm1, hm8, hk, hpls, hd', cc, pp, e16, hdr, e17, hkd⟩
  · obtain ⟨τ2, ν2, s1, s2, s3, s4, s5, s6, s7, s8⟩ := fill_s hS hP hQ hH hn h0 hE hN' (c0 := c0) hc0 hr htg (hso rfl) (by rw [hcm]; exact hm)
    have hfC : f_X3_fill (f_keepE d) c (vv (nI 6) (nI (adr tg ct c0))) a4 σ = some ((), τ2) := by
      rw [fCx_6 hP h00 uc _ ?_, vof, s1, bd_of]
      rcases kd_all hnv hx with w | w | w | w | w | w | w | w | w | w
      · rw [w] at ha4
        rcases ha4 with z | z
        · exact absurd (by decide) z
        · exact absurd z.1 (by decide)
      · rw [w] at ha4
        rcases ha4 with z | z
        · exact absurd (by decide) z
        · exact absurd z.1 (by decide)
      · rw [w] at ha4
        rcases ha4 with z | z
        · exact absurd (by decide) z
        · exact absurd z.1 (by decide)
      · refine Or.inl ⟨w, ?_⟩
        rcases ha4 with z | z
        · rw [w] at z
          exact absurd (by decide) z
        · exact z.2
      · exact Or.inr (Or.inl w)
      · exact Or.inr (Or.inr (Or.inl w))
      · exact Or.inr (Or.inr (Or.inr (Or.inl w)))
      · exact Or.inr (Or.inr (Or.inr (Or.inr (Or.inl w))))
      · refine Or.inr (Or.inr (Or.inr (Or.inr (Or.inr ⟨w, ?_⟩))))
        obtain ⟨mm, hd2, h', cc', pp', y1, y2, y3, y4, y5, y6, y7, y8, y9, y10, y11, y12, y13⟩ := (less_go hS hP hQ hN').2 w
        rcases y13 with ⟨g, g1, g2, g3, g4, -⟩ | ⟨g1, -⟩
        · exact absurd ⟨g, mm, by have := hS.1.1; omega, y2, by rw [y5]; exact g3, by rw [y5]; exact g4, y3, g2⟩ (hk8 w)
        · exact g1
      · exact absurd w hk9
    refine Or.inl ⟨τ2, ν2, n, tg, ct, hfC, ?_, Gro.rf n tg ct, s3.rd (fun x hx w => w.elim (fun z => by omega) id), s4, s5.kc, s6.km, by rw [s6.1 44]; exact h0, fun x hx => by rw [s6.2.2.1 53], fun j _ hj' => s8 j hj'⟩
    rw [s2, bd_of]
    unfold f_X12_doTasks
    obtain ⟨N, hN⟩ : ∃ N, FU = N + 1 := ⟨FU - 1, by omega⟩
    rw [hN]
    exact L0_0 (by rw [s6.1 54]; exact h54) N
  · have hofs : ofs tg c0 = 1 := by unfold ofs; rw [htg]; rfl
    refine row 0 cc pp hm1 (by omega) hkd (Or.inl ⟨rfl, rfl⟩) ?_
    rw [fCx_4 hP h00 uc _ _ hk, vof, nI_add1, e16, hofs]
    rfl
  · have hofs : ofs tg c0 = 2 := by unfold ofs; rw [htg]; rfl
    have hlp : f_X3_isPartOfCall c σ = some (1, σ) := by
      obtain ⟨mm, hd2, h', cc', pp', y1, y2, y3, y4, y5, y6, y7, y8, y9, y10, y11, y12, y13⟩ := (less_go hS hP hQ hN').2 hk
      rcases y13 with ⟨g, g1, g2, g3, g4, g5, g6, g7, g8⟩ | ⟨-, -, g3⟩
      · exact g7
      · exfalso
        obtain ⟨g', m', w1, w2, w3, w4, w5, w6⟩ := hpls
        rw [y5] at w3 w4
        have em : mm = m' := nI_injL (by omega) (by omega) (y3.symm.trans w5)
        rcases g3 with ⟨g, v1, v2, v3, v4, -⟩ | ⟨v1, -⟩
        · have eg : g = g' := nI_injL (by have := hS.1.1; omega) (by omega) (v4.symm.trans w4)
          subst eg em
          omega
        · exact v1 w3
    refine row 1 cc pp hm1 hm8 hkd (Or.inr ⟨rfl, rfl⟩) ?_
    rw [fCx_5 hP h00 uc hdr e16 _ _ hk hlp, vof, show (2 : Int32) = nI 2 from rfl, nI_plus, e17, hofs]
    rfl
/-- A PART IS KEPT -/
theorem keep_go {τ μ0 : S5} {F k T : Nat} {pa nv : Nat → Nat} (hS : PSt τ μ0 F k T pa nv) {σ μ : S5} (hP : eqP τ σ) (hQ : eqQ μ0 μ) {n : Nat} {tg ct : Nat → Nat} {Rd : Nat → Prop} (hH : HS τ μ0 F T pa nv σ μ n tg ct Rd) (hn : NR σ μ) (h0 : gI μ 44 = 0) {f base : Nat} {Sc : Nat → Prop} (hE : EV τ F k pa nv σ μ n tg ct f base Sc) {c : Int32} {p : Nat} (hN : ND τ μ0 F T nv f c p Sc) (hd : hF τ c < 64) : KG τ μ0 F T pa nv σ μ n tg ct Rd (f_keepE 64 c σ) (f_X12_keep (nI p) μ) := by
  have hN' := hN
  obtain ⟨hfF, q, lo, hi, hx, hhi, h38⟩ := hN
  have hnv := (hS.2.2.2.2 f hfF).2.1.2.2.2
  obtain ⟨⟨u1, u2, uc, u3, u5, -⟩, -, -⟩ := hx.un hnv
  have h00 : xA σ 40 0 = 0 := hn.1.1.trans h0
  obtain ⟨⟨a1, a2, a3, a4', a5⟩, -⟩ := id hH
  have hge := adr_ge tg ct n
  obtain ⟨pl1, pl2⟩ := plain_go hS hP hQ hE hN'
  have hkE : f_keepE 64 c σ = bd (f_X3_begin c 0 σ) (fun r3 τ3 => bd (f_X3_fill (f_keepE 63) c r3 0 τ3) (fun _ τ11 => some (r3, τ11))) := rfl
  by_cases hat : xA τ 13 c ≤ 3
  · obtain ⟨x, y, p1, p2, p3⟩ := pl1 hat
    have hk4 : xA τ 13 c = 0 ∨ xA τ 13 c = 1 ∨ xA τ 13 c = 2 ∨ (xA τ 13 c = 3 ∧ (0 : Int32) = 0) := by
      rcases kd_all hnv hx with w | w | w | w | w | w | w | w | w | w
      · exact Or.inl w
      · exact Or.inr (Or.inl w)
      · exact Or.inr (Or.inr (Or.inl w))
      · exact Or.inr (Or.inr (Or.inr ⟨w, rfl⟩))
      all_goals
        rw [w] at hat
        exact absurd hat (by decide)
    refine Or.inl ⟨x, y, σ, μ, n, tg, ct, ?_, ?_, p3, Gro.rf n tg ct, hH.rd (fun c hc w => w.elim (fun z => by omega) id), hn, FkC.rf σ, FkM.rf μ, h0, fun _ _ => rfl, fun _ _ => rfl⟩
    · rw [hkE, p1, bd_of, fCx_0 hP h00 uc x hk4, bd_of]
    · unfold f_X12_keep
      rw [p2, bd_of, if_neg p3.nn.2]
  · have hpm := pl2 hat
    obtain ⟨t', m, hsh, hmk⟩ := make_go hS hP hQ hH hn h0 hE.1.2.2.1 hN' (a2 := 0) (Or.inl hat)
    rcases hmk with ⟨τ1, ν1, m1, m2, m3, m4, m5, m6, m7, m8, m9, m10, m11, m12, m13, m14⟩ | ⟨τ1, ν1, m1, m2, m3, m4, m5⟩
    · have hg1 := Gro.nw n tg ct t' m
      obtain ⟨gad, gpr⟩ := hg1.ad (Nat.le_refl n)
      have hF1 : FkM μ (pI ν1 54 0) := m6.tr (FkM.t _)
      have ht' : t' = 4 ∨ t' = 5 ∨ t' = 6 := by
        rcases hsh with ⟨w, -⟩ | ⟨w, -⟩ | ⟨w, -⟩
        · exact Or.inr (Or.inr w)
        · exact Or.inl w
        · exact Or.inr (Or.inl w)
      have hm0 : f_X12_keep (nI p) μ = bd (bd (f_X12_fill (nI p) (nI n) (pI ν1 54 0)) (fun _ τ => f_X12_doTasks τ)) (fun _ τ => some (vv 3 (nI n), τ)) := by
        unfold f_X12_keep
        rw [hpm, bd_of, if_pos lg_m1.2, m2, bd_of, if_pos (i_le0 (nI_nneg (by omega)))]
        cases f_X12_fill (nI p) (nI n) (pI ν1 54 0) with
        | none => rfl
        | some v => rfl
      have key := fill_go hS (hP.fk m5) (hQ.fk hF1) (m3.ft (Ft.t _)) (m4.ft (Ft.t _)) m9 (hE.st hg1 m5 hF1) hN' (d := 63) (by omega) (t' := t') (m := m) (c0 := n) hsh (a4 := 0) (Or.inl hat) (Nat.lt_succ_self n) (fun w => absurd w.1 (Nat.lt_irrefl n)) updN_s updN_s m13 rfl
      rw [gad] at key
      rcases key with ⟨τ2, ν2, n2, tg2, ct2, k1, k2, k3, k4, k5, k6, k7, k8, k9, k10⟩ | ⟨τ2, ν2, k1, k2, k3, k4, k5⟩
      · have hle := k3.1
        have e1 := (k3.2 n (Nat.lt_succ_self n)).1
        rw [updN_s] at e1
        refine Or.inl ⟨vv (nI t') (nI (adr tg ct n)), vv 3 (nI n), τ2, ν2, n2, tg2, ct2, ?_, ?_, Or.inr (Or.inr (Or.inr ⟨n, by omega, by rw [e1]; exact ht', ?_, rfl⟩)), hg1.tr k3, k4.rd (fun c hc w => ?_), k5, m5.tr k6, hF1.tr k7, k8, fun x hx => by rw [k9 x (by omega)]; exact m14 x hx, fun j hj => by
          have hp1 : pre (updN ct n m) (n + 1) = pre ct n + m := by
            show pre (updN ct n m) n + updN ct n m n = _
            rw [gpr, updN_s]
          rw [k10 j (by omega) (Or.inl (by rw [gpr]; exact hj))]
          show gB ν1 7 j = _
          rw [m8]⟩
        · rw [hkE, m1, bd_of, k1, bd_of]
        · rw [hm0, k2, bd_of]
        · rw [e1, (k3.ad (Nat.le_succ n)).1, gad]
        · by_cases hcn : c = n
          · exact Or.inr (Or.inl hcn)
          · rcases w with w | w
            · exact Or.inl (by omega)
            · by_cases hlt : c < n
              · exact Or.inr (Or.inr ⟨hlt, w⟩)
              · exact Or.inl (by omega)
      · refine Or.inr ⟨vv (nI t') (nI (adr tg ct n)), vv 3 (nI n), τ2, ν2, ?_, ?_, k3, m5.tr k4, hF1.tr k5⟩
        · rw [hkE, m1, bd_of, k1, bd_of]
        · rw [hm0, k2, bd_of]
    · have hov : ¬ xA τ1 40 0 = 0 := fun w => m3.2 (m3.1.1.1.symm.trans w)
      refine Or.inr ⟨0, 0, τ1, ν1, ?_, ?_, m3, m4, m5⟩
      · rw [hkE, m1, bd_of, fCx_ov hov, bd_of]
      · unfold f_X12_keep
        rw [hpm, bd_of, if_pos lg_m1.2, m2, bd_of, if_neg (by decide)]
