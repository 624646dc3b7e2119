/-- SOMETHING IS WORKED OUT AND SHOWN, on both sides -/
theorem ws_go {τ μ0 : S5} {F k T : Nat} {pa nv D E : Nat → Nat} (hS : PSt τ μ0 F k T pa nv) (hD : DSt τ μ0 F T pa nv D) (hE : ESt τ μ0 F T nv E) (hB : NDb τ μ0 F pa) (hMk : MKb τ μ0 F T nv) {σa μa σ3 μ2 : S5} (hPs : eqP τ σ3) (hQs : eqQ μ0 μ2) (F3 : FmC σa σ3) (Q2 : FqM μa μ2) {n : Nat} {tg ct : Nat → Nat} {L : List (Nat × Nat)} {R Y s rc : Nat} (hMb : MSb τ μ0 F k T pa nv D E σ3 μ2 (L.length + 1) σ3 μ2 n tg ct [] (L.length + 1) 0 0 0 0 0 0 0 R) (hLL : LLs σ3 μ2 n tg ct L L.length s) (u55 : gI μ2 55 = nI s) (hr1 : gI μ2 46 = nI rc) (hr2 : rc ≤ 1000) (hr3 : 2 * L.length ≤ rc) (hr4 : 100 * (1000 - rc) + yL ct L ≤ Y) (hsh : gB σ3 12 L.length = fr 9 0 0) (hRm : R < 90000000) {x y : Int64} (hvl : VL τ F pa n tg ct x y) : ∃ σ4 μ4 j σ7 μ7, f_X3_enter x σ3 = some ((), σ4) ∧ f_X12_enter y μ2 = some ((), μ4) ∧ (gN σ3 1 ≤ gN σ4 1 ∧ gN σ3 3 ≤ gN σ4 3) ∧ CRn j σ4 σ7 ∧ (gN σ4 1 ≤ gN σ7 1 ∧ gN σ4 3 ≤ gN σ7 3) ∧ (∀ rec : S5 → Option (Int32 × S5), bd (f_X12_workOut_L25 FU μ4) (fun _ τ205 => if (gI τ205 44) = 0 then (bd (f_X12_force ((gJ τ205 1)) τ205) (fun _ τ220 => rec τ220)) else (rec τ205)) = rec μ7) ∧ ((∃ n' tg' ct' L' R' Y', TLb τ μ0 F k T pa nv D E σa μa σ7 μ7 n' tg' ct' L' 0 R' Y' ∧ R' + Y' + j ≤ R + Y + 4) ∨ (OVq σa μa σ7 μ7 ∧ j ≤ R + 4)) := by
  have hbig := FU_big2
  have hgo := en_go hS hPs hQs hMb (Z := R + 3) (Nat.le_refl _) hvl
  obtain ⟨σ4, μ4, k1, k2, ⟨k3, k4⟩, k5⟩ := hgo
  obtain ⟨j, σ5, μ5, j1, j2, j3, ⟨j4, j5⟩, j6⟩ : ∃ j σ5 μ5, j ≤ R + 3 ∧ CRn j σ4 σ5 ∧ MRn j μ4 μ5 ∧ (gN σ4 1 ≤ gN σ5 1 ∧ gN σ4 3 ≤ gN σ5 3) ∧ (FIN τ μ0 F k T pa nv D E σ3 μ2 (L.length + 1) σ5 μ5 (R + 3 - j) ∨ OVt σ3 μ2 σ5 μ5) := by
    rcases k5 with w | w
    · exact loop_go hS hD hE hB hMk hPs hQs (R + 3) (R + 3) σ4 μ4 (Nat.le_refl _) w
    · exact ⟨0, σ4, μ4, Nat.zero_le _, CRn.rf _, MRn.rf _, ⟨Nat.le_refl _, Nat.le_refl _⟩, Or.inr w⟩
  have hwo : ∀ (hx : ∀ N, f_X12_workOut_L25 (N + 1) μ5 = some ((), μ5)), f_X12_workOut_L25 FU μ4 = some ((), μ5) := by
    intro hx
    rw [show FU = (FU - j - 1 + 1) + j by omega, j3, hx]
  rcases j6 with ⟨n5, tg5, ct5, P5, R5, hM5, hv5, hR5⟩ | ⟨ov, ov2, ov3, ov4, ov5⟩
  · have hH2 := hMb.2.1
    obtain ⟨⟨F5, Q5, O5⟩, hH5, ⟨hn5, h05⟩, hC5, hM5', ⟨-, -, -, -, -, -, -, hbot⟩, hG5, hB5⟩ := hM5
    have hx : ∀ N, f_X12_workOut_L25 (N + 1) μ5 = some ((), μ5) := fun N => mr_f h05 (by rw [hv5.2.1]; decide) (by rw [hM5'.1]; decide) N
    have hnn : nSs μ2 = n := by
      unfold nSs
      rw [hH2.1.1, nI_clamp (by have := (adr_ge tg ct n).1; have := hH2.1.2.2.1; omega)]
    have hg5 : Gro n tg ct n5 tg5 ct5 := by
      have hO := O5.1
      have hO2 := (OLD.rf hH2).1
      rw [hnn] at hO hO2
      exact ⟨hO.1, fun i hi => ⟨(hO.2 i hi).1.trans (hO2.2 i hi).1.symm, (hO.2 i hi).2.trans (hO2.2 i hi).2.symm⟩⟩
    have h75 : ∀ j, j < pre ct n → gB μ5 7 j = gB μ2 7 j := fun j hj => O5.2 j (by
      have hO2 := (OLD.rf hH2).1
      have := (hO2.ad (Nat.le_refl _)).2
      rw [hnn] at this ⊢
      omega)
    obtain ⟨hLL5, hy5⟩ := hLL.mv hg5 h75 L (σ' := pI σ5 40 (nI L.length)) (fun j hj => hbot j (by omega)) (fun j _ => by rw [Q5.2.2.2.1 10 (by decide)])
    obtain ⟨⟨x1, x2, x3, x4⟩, x5, x6, x7, x8⟩ := hC5
    have e405 : gI σ5 40 - 1 = nI L.length := by
      rw [x1, show (1 : Int32) = nI 1 from rfl, nI_sub (by omega)]
      rfl
    have h405 : 0 < gI σ5 40 := by
      rw [x1, show (0 : Int32) = nI 0 from rfl]
      exact (nI_lt31 (by omega) (by omega)).mpr (by omega)
    have x5b := x5.b
    have hpop5 : f_X3_pop σ5 = some (fr 9 0 0, pI σ5 40 (nI L.length)) := by
      unfold f_X3_pop
      rw [if_pos h405, e405, gdn (by omega) (by omega), xB_at (by omega), hbot _ (by omega), hsh]
    have hrs5 := (rs_hd h405 hpop5 (by omega) (by omega) (by omega)).2.2.2.2.2.2.2.2.1 rfl
    have hT5 : TLb τ μ0 F k T pa nv D E σa μa (pI σ5 40 (nI L.length)) μ5 n5 tg5 ct5 L 0 R5 Y := by
      refine ⟨⟨(F3.tr F5).tr (FmC.t _ _), Q2.tr Q5.q⟩, hH5, ⟨hn5, h05⟩, ⟨⟨rfl, x2, x3, x4⟩, x5, ?_, x7, x8⟩, hG5, ?_, ⟨s, ?_, hLL5⟩, ⟨rc, ?_, hr2, hr3, ?_⟩, hv5.1⟩
      · show L.length + 0 ≤ gN σ5 1
        omega
      · obtain ⟨n1, n2, cl, lf, n3, n4, n5', n6, n7, n8⟩ := hB5
        exact ⟨n1, by omega, cl, lf, n3, n4, n5', n6, by omega, n8⟩
      · rw [Q5.1 55 (by omega) (by omega)]; exact u55
      · rw [Q5.1 46 (by omega) (by omega)]; exact hr1
      · rw [hy5]
        exact hr4
    obtain ⟨σ7, μ7, t1, t2, ⟨t3, t4⟩, t5⟩ := sh_go hS hT5 hv5.2.2
    have t3' : gN σ5 1 ≤ gN σ7 1 := t3
    have t4' : gN σ5 3 ≤ gN σ7 3 := t4
    have hres5 : f_X3_resume σ5 = some ((), σ7) := by
      rw [hrs5, t1, bd_of, gl_e t3', gl_e t4']
    have h005 : xA σ5 40 0 = 0 := hn5.1.1.trans h05
    have hcr5 := cr_r h005 hv5.1 hres5 t3' t4'
    refine ⟨σ4, μ4, j + 1, σ7, μ7, k1, k2, ⟨k3, k4⟩, j2.tr hcr5, ⟨by omega, by omega⟩, fun rec => ?_, ?_⟩
    · rw [hwo hx, bd_of, if_pos h05, t2, bd_of]
    · rcases t5 with ⟨L', hT7, h50⟩ | hov
      · exact Or.inl ⟨n5, tg5, ct5, L', R5, Y - 50, hT7, by omega⟩
      · exact Or.inr ⟨hov, by omega⟩
  · have hx : ∀ N, f_X12_workOut_L25 (N + 1) μ5 = some ((), μ5) := fun N => mr_o ov.2 N
    refine ⟨σ4, μ4, j, σ5, μ5, k1, k2, ⟨k3, k4⟩, j2, ⟨j4, j5⟩, fun rec => ?_, Or.inr ⟨⟨ov, F3.tr ov2, Q2.tr ov3.q, ov4, ov5⟩, by omega⟩⟩
    rw [hwo hx, bd_of, if_neg ov.2]
/-- functions without parameters get their cells: so far -/
def SLi (τ μ0 : S5) (F T : Nat) (pa nv D E : Nat → Nat) (σb μb σ μ : S5) (n : Nat) (tg ct : Nat → Nat) (i : Nat) : Prop := HS τ μ0 F T pa nv σ μ n tg ct (fun _ => True) ∧ (NR σ μ ∧ gI μ 44 = 0) ∧ (∀ g, g < i → pa g = 0 → ∃ c, c < n ∧ tg c = 6 ∧ gA σ 43 g = nI (adr tg ct c) ∧ gA μ 64 g = nI c) ∧ (n ≤ i ∧ adr tg ct n ≤ i ∧ pre (spC D μ) n ≤ 600 * i ∧ pre (spC E μ) n ≤ 49000 * i) ∧ ((∀ j, gI σ j = gI σb j) ∧ (∀ j, gJ σ j = gJ σb j) ∧ (∀ j, ¬ j = 40 → ¬ j = 43 → gA σ j = gA σb j) ∧ (∀ j, ¬ j = 14 → gB σ j = gB σb j) ∧ σ.2.2.2.2 = σb.2.2.2.2) ∧ ((∀ j, ¬ (32 ≤ j ∧ j ≤ 35) → ¬ (39 ≤ j ∧ j ≤ 41) → ¬ j = 44 → ¬ j = 45 → ¬ j = 54 → gI μ j = gI μb j) ∧ (∀ j, gJ μ j = gJ μb j) ∧ (∀ j, ¬ (53 ≤ j ∧ j ≤ 56) → ¬ j = 62 → ¬ j = 63 → ¬ j = 64 → gA μ j = gA μb j) ∧ (∀ j, ¬ j = 7 → gB μ j = gB μb j) ∧ μ.2.2.2.2 = μb.2.2.2.2)
theorem pcn_0 {τ μ : S5} {F T : Nat} {nv : Nat → Nat} {f : Nat} {c : Int32} {p m : Nat} (h : ND τ μ F T nv f c p (fun x => x < m)) (hm : m = 0) : pcn (i64n (xB τ 2 c)) 40 = 0 := by
  subst hm
  obtain ⟨-, q, lo, hi, h1, -, -⟩ := h
  have hu := used_lt (m := 0) (fun x w => h1.2.2.1 x w)
  have := pcn_hi hu 40
  rw [Nat.zero_add] at this
  rw [this]
  rfl
/-- a function without parameters gets its cell -/
theorem sl_one {τ μ0 : S5} {F k T : Nat} {pa nv D E : Nat → Nat} (hS : PSt τ μ0 F k T pa nv) (hD : DSt τ μ0 F T pa nv D) (hE : ESt τ μ0 F T nv E) {σb μb σ μ : S5} (hPb : eqP τ σb) (hQb : eqQ μ0 μb) {n : Nat} {tg ct : Nat → Nat} {i : Nat} (hi : i < k) (h : SLi τ μ0 F T pa nv D E σb μb σ μ n tg ct i) (hp : pa i = 0) : ∃ σ1 μ1 r, f_X0_makeSuspension (nI i) (xA σ 7 (nI i)) 0 σ = some (r, σ1) ∧ gN σ1 1 = gN σ 1 ∧ gN σ1 3 = gN σ 3 ∧ f_X12_newCell 2 (xA μ 45 (nI i)) 0 1 μ = some (nI n, μ1) ∧ SLi τ μ0 F T pa nv D E σb μb (pA σ1 43 (nI i) r) (pA μ1 64 (nI i) (nI n)) (n + 1) (updN tg n 6) (updN ct n 0) (i + 1) := by
  obtain ⟨hH, ⟨hn, h0⟩, hG, ⟨s1, s1', s2, s3⟩, ⟨c1, c2, c3, c4, c5⟩, ⟨m1, m2, m3, m4, m5⟩⟩ := h
  obtain ⟨⟨k1, k2, k3⟩, -, -, -, hfs⟩ := id hS
  have hiF : i < F := by omega
  obtain ⟨⟨p1, p2, p3, p4⟩, -, c0, p0, z1, z2, z3, z4⟩ := hfs i hiF
  have hvi := hS.nv i hiF
  obtain ⟨hp7, hc0⟩ := z3.p7 hvi
  obtain ⟨a0, a06, a0e⟩ := c_nI hc0
  subst a0e
  have hpc := pcn_0 z3 hp
  have hnd : ND τ μ0 F T nv i (nI a0) p0 (UB τ (nI a0)) := z3.us.1
  have mk := mk_susp hH hn h0 (f := i) (a := a0) (p := p0) (m := 0) a06 hnd hpc.symm
  have hP : eqP τ σ := ⟨fun j hj => (c1 j).trans (hPb.1 j hj), fun j hj => (c3 j (by omega) (by omega)).trans (hPb.2.1 j hj), fun j hj => (c4 j (by omega)).trans (hPb.2.2 j hj)⟩
  have hQ : eqQ μ0 μ := ⟨fun j hj => (m1 j (by omega) (by omega) (by omega) (by omega) (by omega)).trans (hQb.1 j hj), fun j hj => (m3 j (by omega) (by omega) (by omega) (by omega)).trans (hQb.2.1 j hj), fun j hj => (m4 j (by omega)).trans (hQb.2.2 j hj)⟩
  have e7 : xA σ 7 (nI i) = nI a0 := by rw [hP.x 7 _ (by decide)]; exact z1
  have e45 : xA μ 45 (nI i) = nI p0 := by rw [hQ.x 45 _ (by decide)]; exact z2
  have h4 := hH.1.2.2.1
  have hge := adr_ge tg ct n
  have hpt : ∀ G : Nat → Nat, PTk τ μ0 F T nv G μ n (pre ct n) 0 (pre (spC G μ) n) := fun G => ⟨hQ, ⟨adr tg ct n, hH.1.1, hH.1.2.1, hH.1.2.2.2.1, hge.2, h4, Nat.zero_le _⟩, fun j hj => absurd hj (Nat.not_lt_zero j), Nat.le_refl _⟩
  have e01 : (1 : Int32) + nI 0 = nI 1 := by decide
  rcases mk with ⟨σ1, μ1, w1, w2, w3, w4, w5, w6, w7, w8, w9, -, -, -, w13, w14⟩ | ⟨σ1, μ1, w1, w2, w3, w4, w5⟩
  · obtain ⟨r9, τ9, x1, x2⟩ := bd_some w1
    obtain ⟨r18, τ18, x3, x4⟩ := bd_some x2
    cases x4
    have er9 : r9 = nI (adr tg ct n) ∧ τ9 = σ1 := by
      by_cases hr : r9 = -1
      · exfalso
        rw [hr, made_n] at x3
        obtain ⟨⟨⟩, τ'', -, x6⟩ := bd_some x3
        have : (0 : Int64) = vv (nI 6) (nI (adr tg ct n)) := congrArg Prod.fst (Option.some.inj x6)
        have h2 : (j_lushr (vv (nI 6) (nI (adr tg ct n))) 32).toInt32 = nI 6 := vv_tag 6 _
        rw [← this] at h2
        exact absurd h2 (by decide)
      · unfold f_X3_made at x3
        rw [if_neg hr] at x3
        unfold f_X0_value at x3
        rw [bd_of] at x3
        have : vv 6 r9 = vv (nI 6) (nI (adr tg ct n)) := congrArg Prod.fst (Option.some.inj x3)
        have h2 := congrArg Int64.toInt32 this
        rw [vv_of, vv_of] at h2
        exact ⟨h2, congrArg Prod.snd (Option.some.inj x3)⟩
    obtain ⟨er, eτ⟩ := er9
    rw [eτ] at x1
    rw [e01] at w2
    have w2' : f_X12_newCell (nI 2) (nI p0) (nI 0) (nI 1) μ = some (nI n, μ1) := w2
    have hg' := Gro.nw n tg ct 6 0
    obtain ⟨ga, gp⟩ := hg'.ad (Nat.le_refl n)
    have hadn : adr (updN tg n 6) (updN ct n 0) (n + 1) = adr tg ct n + 1 := by
      rw [adr_s, ga]
      unfold szc
      rw [updN_s, updN_s, if_neg (by decide)]
    have hD0 := hD.2 i hiF
    have hE0 := hE.2 i hiF
    rw [z2, nI_clamp (by omega)] at hD0 hE0
    have hne : ¬ nI n = -1 := fun w => absurd w (nneg1 (i_le0 (nI_nneg (by omega))))
    have cst : ∀ G : Nat → Nat, pre (spC G μ1) (n + 1) ≤ pre (spC G μ) n + G p0 := fun G => by
      rcases nc_pt (D := G) (so := 2) (hpt G) (by omega) (show 0 + 1 ≤ 1 by omega) (by omega) w2' with ⟨z, -⟩ | ⟨-, -, -, pD, -⟩
      · exact absurd z hne
      · have c := pD.2.2.2
        rw [if_pos rfl, nI_clamp (by omega)] at c
        have z0 : pre (fun j => G (gA μ1 62 j).toNatClampNeg) 0 = 0 := rfl
        omega
    have cD := cst D
    have cE := cst E
    have esp : ∀ G : Nat → Nat, spC G (pA μ1 64 (nI i) (nI n)) = spC G μ1 := fun G => funext (fun x => by
      unfold spC
      rw [gA_pA_ne (show ¬ 53 = 64 by decide), gA_pA_ne (show ¬ 54 = 64 by decide)])
    refine ⟨σ1, μ1, r9, by rw [e7]; exact x1, congrFun w5.2.2.2.2 1, congrFun w5.2.2.2.2 3, by rw [e45]; exact w2', ?_, ⟨?_, ?_⟩, fun g hg hpg => ?_, ⟨by omega, by rw [hadn]; omega, by rw [esp]; omega, by rw [esp]; omega⟩, ⟨fun j => (w5.1 j).trans (c1 j), fun j => (w5.2.1 j).trans (c2 j), fun j x y => ?_, fun j x => (w5.2.2.2.1 j x).trans (c4 j x), w5.2.2.2.2.trans c5⟩, ⟨fun j a b c d f => (w6.1 j a b c d f).trans (m1 j a b c d f), fun j => (w6.2.1 j).trans (m2 j), fun j a b c d => ?_, fun j a => (w6.2.2.2.1 j a).trans (m4 j a), w6.2.2.2.2.trans m5⟩⟩
    · have hH3 : HS τ μ0 F T pa nv σ1 μ1 (n + 1) (updN tg n 6) (updN ct n 0) (fun _ => True) := hs_rd w3 (c0 := n) (fun y hy => by rw [updN_s] at hy; exact absurd hy (Nat.not_lt_zero y)) (fun c hc _ => by
        by_cases e : c = n
        · exact Or.inr e
        · exact Or.inl ⟨by omega, trivial⟩)
      exact hH3.of (by rw [gA_pA_ne (by decide)]) rfl (fun _ _ _ => rfl) (fun j _ _ => by rw [gA_pA_ne (by omega)]) rfl rfl
    · exact w4.st (fun x _ => by rw [gA_pA_ne (by decide)]) (by rw [gA_pA_ne (by decide)]) (by rw [gA_pA_ne (by decide)]) (fun _ _ => rfl) (fun _ _ => rfl) (by rw [gA_pA_ne (by decide)]) (by rw [gA_pA_ne (by decide)])
    · exact w9
    · by_cases e : g = i
      · subst e
        refine ⟨n, Nat.lt_succ_self n, updN_s, ?_, ?_⟩
        · rw [gA_s (by omega), ga]
          exact er
        · rw [gA_s (by omega)]
      · obtain ⟨d, d1, d2, d3, d4⟩ := hG g (by omega) hpg
        refine ⟨d, by omega, by rw [(hg'.2 d d1).1]; exact d2, ?_, ?_⟩
        · rw [gA_n (by omega) e, w5.2.2.1 43 (by decide), (hg'.ad (Nat.le_of_lt d1)).1]
          exact d3
        · rw [gA_n (by omega) e, w6.2.2.1 64 (by omega) (by omega) (by omega)]
          exact d4
    · rw [gA_pA_ne y]
      exact (w5.2.2.1 j x).trans (c3 j x y)
    · rw [gA_pA_ne d]
      exact (w6.2.2.1 j a b c).trans (m3 j a b c d)
  · -- there is room
    exfalso
    rw [e01] at w2
    have w2' : f_X12_newCell (nI 2) (nI p0) (nI 0) (nI 1) μ = some (-1, μ1) := w2
    have n1 := (nc_m (so := 2) (v := nI p0) (m := 0) (s := 1) hH.1.1 hH.1.2.1 hH.1.2.2.2.1 (by omega) (by omega) (by omega)).1 (by omega)
    obtain ⟨ν, y1, -⟩ := n1
    rw [w2'] at y1
    have : (-1 : Int32) = nI n := congrArg Prod.fst (Option.some.inj y1)
    exact absurd this.symm (nneg1 (i_le0 (nI_nneg (by omega))))
