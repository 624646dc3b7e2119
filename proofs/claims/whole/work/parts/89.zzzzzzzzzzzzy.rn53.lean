/-- a sign, taken apart -/
theorem sign_un {τ μ0 : S5} {F k T : Nat} {pa nv : Nat → Nat} (hS : PSt τ μ0 F k T pa nv) {f : Nat} {c : Int32} {p : Nat} {Sc : Nat → Prop} (hN : ND τ μ0 F T nv f c p Sc) (hk : xA τ 13 c = 5) : ∃ (cc : Nat → Int32) (pp : Nat → Nat) (ct0 : Nat), (xA μ0 31 (nI p) = 5 ∧ xA μ0 32 (nI p) = kMd (xA τ 14 c) ∧ 0 < rkK (xA τ 14 c)) ∧ xA τ 16 c = cc 0 ∧ xA τ 17 (cc 0) = cc 1 ∧ (xA μ0 33 (nI p) = nI ct0 ∧ ct0 + 2 ≤ 14000 ∧ cnN μ0 p = 2) ∧ ∀ i, i < 2 → ND τ μ0 F T nv f (cc i) (pp i) Sc ∧ hF τ (cc i) < hF τ c ∧ (0 ≤ cc i ∧ cc i < 6200) ∧ pp i < 7000 ∧ xA μ0 39 (nI (ct0 + i)) = nI (pp i) ∧ chN μ0 p i = pp i := by
  obtain ⟨hfF, q, lo, hi, hx, hhi, h38⟩ := hN
  have hnv := (hS.2.2.2.2 f hfF).2.1.2.2.2
  obtain ⟨⟨u1, u2, uc, u3, u5, -⟩, um, h3⟩ := hx.un hnv
  rcases h3 with ⟨-, -, -, -, w⟩ | ⟨kk, ct0, cc, ll, w, ⟨k1, k9⟩, hch, hl0, hlk, hkk⟩ | ⟨w1, -⟩ | ⟨w1, -⟩
  · exfalso
    rcases w with ⟨a, -⟩ | ⟨a, -⟩ | ⟨a, -⟩ | ⟨a, -⟩ | ⟨a, -⟩ <;> rw [a] at hk <;> exact absurd hk (by decide)
  · have hmo := ll_mo (k := kk) (ll := ll) (fun i hi' => by
      obtain ⟨qq, pp, -, -, -, -, -, z⟩ := hkk
      exact (z i hi').1.2.1.le)
    obtain ⟨x33, x14, x34, pp, xk⟩ := XK.nd hfF hkk h38 (fun i hi' => by have := hmo kk (i + 1) (by omega) (by omega); omega) u2
    rcases w with ⟨a, b, b3, b4, rfl⟩ | ⟨a, -⟩ | ⟨a, -⟩
    · refine ⟨cc, pp, ct0, ⟨b, b3, b4⟩, hch.1, ?_, ⟨x33, x14, ?_⟩, fun i hi' => ?_⟩
      · have := (hch.2 0 (by omega)).2
        rw [if_pos (by omega)] at this
        exact this
      · unfold cnN
        rw [x34, nI_clamp (by omega)]
      · obtain ⟨o0, o1, o2, o3, o4⟩ := xk i hi'
        exact ⟨o0, o1, o2, o3, o4, chN_of x33 o4 o3⟩
    · rw [a] at hk; exact absurd hk (by decide)
    · rw [a] at hk; exact absurd hk (by decide)
  · rw [w1] at hk; exact absurd hk (by decide)
  · rw [w1] at hk; exact absurd hk (by decide)
theorem child_at {μ0 μ : S5} (hQ : eqQ μ0 μ) {p ct0 i q : Nat} (hp : p < 7000) (h33 : xA μ0 33 (nI p) = nI ct0) (hi : ct0 + i < 14000) (h39 : xA μ0 39 (nI (ct0 + i)) = nI q) : f_X12_child (nI p) (nI i) μ = some (nI q, μ) := by
  unfold f_X12_child
  rw [gdn hp (by omega), hQ.x 33 _ (by decide), h33, nI_plus, gdn hi (by omega), hQ.x 39 _ (by decide), h39]
/-- A SIGN IS WORKED OUT -/
theorem sgn_go {τ μ0 : S5} {F k T : Nat} {pa nv D E : Nat → Nat} (hS : PSt τ μ0 F k T pa nv) (hD : DSt τ μ0 F T pa nv D) (hE : ESt τ μ0 F T nv E) {σs μs : S5} (hPs : eqP τ σs) (hQs : eqQ μ0 μs) {t0 : Nat} {σ μ : S5} {n : Nat} {tg ct : Nat → Nat} {K : List (Nat × Nat × Nat × Nat × Nat)} {t W V b f e r P R : Nat} (hm : MSb τ μ0 F k T pa nv D E σs μs t0 σ μ n tg ct K t W V b f e r P R) (he : e = b + nv f) {c : Int32} {p : Nat} {Sc : Nat → Prop} (hN : ND τ μ0 F T nv f c p Sc) (hk : xA τ 13 c = 5) (hg : ∀ x, Sc x → VL τ F pa n tg ct (gB σ 13 (b + x)) (gB μ 9 (b + x))) (hr : hF τ c ≤ r) (hP : D p ≤ P) {Z : Nat} (hZ : R + E p ≤ Z) (h44 : gI σ 44 = c) (h52 : gI μ 52 = nI p) : GOt τ μ0 F k T pa nv D E σs μs t0 Z σ (f_X3_work σ) (f_X12_workPart μ) := by
  have hnv := hS.nv
  have hP' : eqP τ σ := hPs.fm hm.1.1
  have hQ' : eqQ μ0 μ := hQs.fm hm.1.2.1
  obtain ⟨hp7, hc⟩ := hN.p7 (hnv f hN.1)
  have gc : ∀ {β : Type} (x : Option β), gd c 6200 x = x := fun x => gd6200 hc.1 hc.2
  obtain ⟨cc, pp, ct0, ⟨s31, s32, s14⟩, e16, e17, ⟨x33, x14, hcn⟩, kids⟩ := sign_un hS hN hk
  obtain ⟨d1, d2, d3, d4, d5, d6⟩ := kids 0 (by omega)
  have hDp := (hD.1 f c p Sc hN).1 hk
  have hEp := hE.1 f c p Sc hN
  rw [sdN_s D μ0 (by omega), d6, Nat.zero_add] at hDp
  rw [sdN_s E μ0 (by omega), d6, Nat.zero_add] at hEp
  obtain ⟨ac, σ1, μ1, ace, ac6, y1, y2, y4, y5, y6, y7, y8, hgo⟩ := first_go hS hQs hm.v he hN hg hr (kd := 1) (Or.inl rfl) ⟨fun _ => hk, fun w => by omega, fun w => by omega⟩ d1 hg d2 (by
    unfold fpF
    dsimp only
    rw [if_pos rfl]
    omega) (Z := Z) (by
    unfold fqF
    dsimp only
    rw [if_pos rfl]
    omega)
  have hP1 : eqP τ σ1 := hP'.fm y4.fm
  have e1 : f_X3_work σ = some ((), pI (pI σ1 44 (cc 0)) 45 1) := by
    unfold f_X3_work f_X3_work_b142 f_X3_work_b197 f_X3_frame f_X3_workOn
    rw [h44, gc, gc, hP'.x 13 _ (by decide), hk, if_neg (by decide), if_neg (by decide), if_neg (by decide), if_neg (by decide), if_neg (by decide), if_pos rfl, bd_of, gq_r, gq_r, show (((j_lshl ((1 : Int32).toInt64) 56) ||| (j_lshl (c.toInt64) 28)) ||| ((0 : Int32).toInt64)) = fr 1 ac 0 by rw [ace]; rfl, y1, bd_of]
    unfold gle
    rw [if_pos y6, if_pos (Nat.le_of_eq y7.symm), gc, hP1.x 16 _ (by decide), e16, bd_of]
    unfold gq
    rw [if_pos (show gN (pI (pI σ1 44 (cc 0)) 45 1) 1 = gN σ1 1 from rfl), if_pos (show gN (pI (pI σ1 44 (cc 0)) 45 1) 3 = gN σ1 3 from rfl)]
  have y2' : f_X12_waits 2 (nI p) 0 μ = some ((), μ1) := y2
  have ch : f_X12_child (nI p) 0 μ1 = some (nI (pp 0), μ1) := child_at y8 (i := 0) hp7 x33 (by omega) d5
  have e2 : f_X12_workPart μ = some ((), pI (pI μ1 52 (nI (pp 0))) 53 0) := by
    unfold f_X12_workPart f_X12_evaluate
    rw [h52, gdn hp7 (by omega), hQ'.x 31 _ (by decide), s31, if_neg (by decide), if_neg (by decide), if_neg (by decide), if_neg (by decide), if_neg (by decide), if_pos rfl, y2', bd_of, ch, bd_of, bd_of]
  rw [e1, e2]
  exact hgo
/-- A CASE IS WORKED OUT -/
theorem cs_go {τ μ0 : S5} {F k T : Nat} {pa nv D E : Nat → Nat} (hS : PSt τ μ0 F k T pa nv) (hD : DSt τ μ0 F T pa nv D) (hE : ESt τ μ0 F T nv E) {σs μs : S5} (hPs : eqP τ σs) (hQs : eqQ μ0 μs) {t0 : Nat} {σ μ : S5} {n : Nat} {tg ct : Nat → Nat} {K : List (Nat × Nat × Nat × Nat × Nat)} {t W V b f e r P R : Nat} (hm : MSb τ μ0 F k T pa nv D E σs μs t0 σ μ n tg ct K t W V b f e r P R) (he : e = b + nv f) {c : Int32} {p : Nat} {Sc : Nat → Prop} (hN : ND τ μ0 F T nv f c p Sc) (hk : xA τ 13 c = 6) (hg : ∀ x, Sc x → VL τ F pa n tg ct (gB σ 13 (b + x)) (gB μ 9 (b + x))) (hr : hF τ c ≤ r) (hP : D p ≤ P) {Z : Nat} (hZ : R + E p ≤ Z) (h44 : gI σ 44 = c) (h52 : gI μ 52 = nI p) : GOt τ μ0 F k T pa nv D E σs μs t0 Z σ (f_X3_work σ) (f_X12_workPart μ) := by
  have hnv := hS.nv
  have hP' : eqP τ σ := hPs.fm hm.1.1
  have hQ' : eqQ μ0 μ := hQs.fm hm.1.2.1
  obtain ⟨l, ct0, bp, aa, jj, ll, kp, b0, hCS, ⟨e16, eb0, eb1, e17⟩, ⟨nb1, nb2, nb3⟩, ⟨s31, s39⟩, hc⟩ := case_un hS hN hk
  obtain ⟨⟨hp7, l1, l8, x33, x14, x34⟩, -⟩ := id hCS
  have gc : ∀ {β : Type} (x : Option β), gd c 6200 x = x := fun x => gd6200 hc.1 hc.2
  have hcn : cnN μ0 p = l + 1 := by
    unfold cnN
    rw [x34, nI_clamp (by omega)]
  have d6 : chN μ0 p 0 = bp := chN_of (i := 0) x33 s39 nb3
  have hDp := (hD.1 f c p Sc hN).2.2
  have hEp := hE.1 f c p Sc hN
  rw [sdN_s D μ0 (by omega), d6, Nat.zero_add] at hDp
  rw [sdN_s E μ0 (by omega), d6, Nat.zero_add] at hEp
  obtain ⟨ac, σ1, μ1, ace, ac6, y1, y2, y4, y5, y6, y7, y8, hgo⟩ := first_go hS hQs hm.v he hN hg hr (kd := 3) (Or.inr (Or.inl rfl)) ⟨fun w => by omega, fun _ => hk, fun w => by omega⟩ nb1 hg nb2 (by
    unfold fpF
    dsimp only
    rw [if_neg (by decide), if_pos (Or.inl rfl)]
    omega) (Z := Z) (by
    unfold fqF
    dsimp only
    rw [if_neg (by decide), if_pos (Or.inl rfl)]
    omega)
  have hP1 : eqP τ σ1 := hP'.fm y4.fm
  have e1 : f_X3_work σ = some ((), pI (pI σ1 44 b0) 45 1) := by
    unfold f_X3_work f_X3_work_b168 f_X3_work_b197 f_X3_frame f_X3_workOn
    rw [h44, gc, gc, hP'.x 13 _ (by decide), hk, if_neg (by decide), if_neg (by decide), if_neg (by decide), if_neg (by decide), if_neg (by decide), if_neg (by decide), if_pos rfl, bd_of, gq_r, gq_r, show (((j_lshl ((3 : Int32).toInt64) 56) ||| (j_lshl (c.toInt64) 28)) ||| ((0 : Int32).toInt64)) = fr 3 ac 0 by rw [ace]; rfl, y1, bd_of]
    unfold gle
    rw [if_pos y6, if_pos (Nat.le_of_eq y7.symm), gc, hP1.x 16 _ (by decide), e16, bd_of]
    unfold gq
    rw [if_pos (show gN (pI (pI σ1 44 b0) 45 1) 1 = gN σ1 1 from rfl), if_pos (show gN (pI (pI σ1 44 b0) 45 1) 3 = gN σ1 3 from rfl)]
  have y2' : f_X12_waits 4 (nI p) 0 μ = some ((), μ1) := y2
  have ch : f_X12_child (nI p) 0 μ1 = some (nI bp, μ1) := child_at y8 (i := 0) hp7 x33 (by omega) s39
  have e2 : f_X12_workPart μ = some ((), pI (pI μ1 52 (nI bp)) 53 0) := by
    unfold f_X12_workPart f_X12_evaluate
    rw [h52, gdn hp7 (by omega), hQ'.x 31 _ (by decide), s31, if_neg (by decide), if_neg (by decide), if_neg (by decide), if_pos rfl, y2', bd_of, ch, bd_of, bd_of]
  rw [e1, e2]
  exact hgo
/-- a let that needs its name has one binding, whose E doesn't use it -/
def MKb (τ μ0 : S5) (F T : Nat) (nv : Nat → Nat) : Prop := ∀ f c p Sc, ND τ μ0 F T nv f c p Sc → xA τ 13 c = 7 → ¬ xA τ 14 c = 0 → xA μ0 32 (nI p) = 1 ∧ ∀ x, x < 40 → xA τ 14 (xA τ 17 (xA τ 16 c)) = nI x → ¬ UB τ (xA τ 16 (xA τ 17 (xA τ 16 c))) x
theorem ND.us {τ μ : S5} {F T : Nat} {nv : Nat → Nat} {f : Nat} {c : Int32} {p : Nat} {Sc : Nat → Prop} (h : ND τ μ F T nv f c p Sc) : ND τ μ F T nv f c p (UB τ c) ∧ ∀ x, UB τ c x → Sc x := by
  obtain ⟨hf, q, lo, hi, hx, h1, h2⟩ := h
  exact ⟨⟨hf, q, lo, hi, hx.sus, h1, h2⟩, hx.2.2.1⟩
/-- A LET IS WORKED OUT -/
theorem lt_go {τ μ0 : S5} {F k T : Nat} {pa nv D E : Nat → Nat} (hS : PSt τ μ0 F k T pa nv) (hD : DSt τ μ0 F T pa nv D) (hE : ESt τ μ0 F T nv E) (hMk : MKb τ μ0 F T nv) {σs μs : S5} (hPs : eqP τ σs) (hQs : eqQ μ0 μs) {t0 : Nat} {σ μ : S5} {n : Nat} {tg ct : Nat → Nat} {K : List (Nat × Nat × Nat × Nat × Nat)} {t W V b f e r P R : Nat} (hm : MSb τ μ0 F k T pa nv D E σs μs t0 σ μ n tg ct K t W V b f e r P R) (he : e = b + nv f) {c : Int32} {p : Nat} {Sc : Nat → Prop} (hN : ND τ μ0 F T nv f c p Sc) (hk : xA τ 13 c = 7) (hg : ∀ x, Sc x → VL τ F pa n tg ct (gB σ 13 (b + x)) (gB μ 9 (b + x))) (hr : hF τ c ≤ r) (hP : D p ≤ P) {Z : Nat} (hZ : R + E p ≤ Z) (h44 : gI σ 44 = c) (h52 : gI μ 52 = nI p) : GOt τ μ0 F k T pa nv D E σs μs t0 Z σ (f_X3_work σ) (f_X12_workPart μ) := by
  have hnv := hS.nv
  have hP' : eqP τ σ := hPs.fm hm.1.1
  have hQ' : eqQ μ0 μ := hQs.fm hm.1.2.1
  have hf := hN.1
  have hvf := hnv f hf
  obtain ⟨l, lo, ct0, bp, bb, kc, kp, b0, hLT, ⟨hl1, hlo⟩, ⟨e16, eb0, eb1, e17⟩, ⟨nb1, nb2, nb3⟩, ⟨s31, s32, s35, s39, sct⟩, ⟨m36, m01⟩, hc, hkh⟩ := let_un hS hN hk hN.h
  obtain ⟨hp7, l5, hlv, x33, x14, hbs⟩ := id hLT
  have gc : ∀ {β : Type} (x : Option β), gd c 6200 x = x := fun x => gd6200 hc.1 hc.2
  have gb : ∀ {β : Type} (x : Option β), gd b0 6200 x = x := fun x => gd6200 eb0 eb1
  have gp : ∀ {β : Type} (x : Option β), gd (nI p) 7000 x = x := fun x => gdn hp7 (by omega)
  have hcn : cnN μ0 p = l + 1 := by
    obtain ⟨-, q, lo', hi', hx, -, -⟩ := hN
    obtain ⟨-, -, h3⟩ := hx.un hvf
    rcases h3 with ⟨-, -, -, -, w⟩ | ⟨_, _, _, _, w, -⟩ | ⟨w1, w2, l', ct', bb', ll', -, y32, -, -, -, -, -, hxk⟩ | ⟨w1, -⟩
    · exfalso
      rcases w with ⟨a, -⟩ | ⟨a, -⟩ | ⟨a, -⟩ | ⟨a, -⟩ | ⟨a, -⟩ <;> rw [a] at hk <;> exact absurd hk (by decide)
    · exfalso
      rcases w with ⟨a, -⟩ | ⟨a, -⟩ | ⟨a, -⟩ <;> rw [a] at hk <;> exact absurd hk (by decide)
    · obtain ⟨qq, pp, y33, ylt, y34, -⟩ := hxk
      have el : nI l = nI l' := s32.symm.trans y32
      unfold cnN
      rw [y34, nI_clamp (by omega)]
      have : l = l' := nI_injL (by omega) (by omega) el
      omega
    · rw [w1] at hk; exact absurd hk (by decide)
  have hch : ∀ i, i < l → chN μ0 p i = kp i := fun i hi => chN_of x33 (hbs i hi).2.2.2.2.2.2.2.2 (hbs i hi).2.2.2.2.2.2.2.1
  have hchb : chN μ0 p l = bp := chN_of x33 s39 nb3
  have hsd : ∀ G : Nat → Nat, sdN G μ0 p 0 = pre (fun i => G (chN μ0 p i)) l + G bp := fun G => by
    unfold sdN
    rw [hcn, Nat.sub_zero]
    show pre (fun j => G (chN μ0 p (0 + j))) l + G (chN μ0 p (0 + l)) = _
    rw [Nat.zero_add, hchb]
    congr 1
    exact pre_cg l (fun j _ => by rw [Nat.zero_add])
  have hDp := (hD.1 f c p Sc hN).2.2
  have hEp := hE.1 f c p Sc hN
  have hsD := hsd D
  have hsE := hsd E
  have hea : gI σ 46 = gI μ 47 := hm.2.2.1.1.2.2.2.2
  have hev := hm.ev hf he hg
  -- lazily
  have lazy : GOt τ μ0 F k T pa nv D E σs μs t0 Z σ (bd (f_X3_workLet_b74 b0 (bb 0) σ) (fun _ τ' => gle (gN σ 1) (gN τ' 1) <| gle (gN σ 3) (gN τ' 3) <| some ((), τ'))) (f_X12_workPart_b222 (nI p) μ) := by
    have hKB : ∀ G : Nat → Nat, KBi τ μ0 F T nv G p l ct0 := fun G => ⟨hp7, x33, x14, fun i hi => by
      obtain ⟨o1, o2, o3, o4, o5, o6, o7, o8, o9⟩ := hbs i hi
      rw [hch i hi]
      exact ⟨⟨o8, f, _, _, o5⟩, o9⟩⟩
    rcases letk_go hS hP' hQ' hm.2.1 hm.2.2.1.1 hm.2.2.1.2 hev hLT hl1 hlo s32 s35 b0 with ⟨σ1, μ1, n1, tg1, ct1, w1, w2, w3, w4, w5, w6, w7, w8, w9, w10, w11, w12⟩ | ⟨σ1, μ1, w1, w2, w3, w4, w5⟩
    · have hQ1 : eqQ μ0 μ1 := hQ'.fl w8
      have hn1 : n1 ≤ 4000 := Nat.le_trans (adr_ge tg1 ct1 n1).1 w3.1.2.2.1
      have cost : ∀ G : Nat → Nat, DS0 τ μ0 F T nv G → pre (spC G μ1) n1 ≤ pre (spC G μ) n + pre (fun i => G (chN μ0 p i)) l := fun G hG => by
        obtain ⟨n2, ft2, c1, c2, c3⟩ := kb_pt hS hG (hKB G) l5 (b := b) (by have := hm.bd; omega) s32 s35 w2 hev.1.2.1 (hm.v.pt hQs G)
        obtain ⟨-, ⟨N2, d1, -, -, d4, d5, -⟩, -, d7⟩ := c3
        have en : n2 = n1 := nI_injL (by omega) (by omega) (d1.symm.trans w3.1.1)
        subst en
        have : pre (fun j => G (gA μ1 62 j).toNatClampNeg) 0 = 0 := rfl
        omega
      have cD := cost D hD.z
      have cE := cost E hE.z
      have hm1 := hm.v.gr hnv w4 w7 w8 w3 w5 w6 w10 w11 w12 (P' := D bp) (B := pre (fun i => D (chN μ0 p i)) l) cD (by omega) (B2 := pre (fun i => E (chN μ0 p i)) l) cE (R' := R + pre (fun i => E (chN μ0 p i)) l) (Nat.le_refl _)
      have q1 : gN σ1 1 = gN σ 1 := congrFun w7.2.2.2.2 1
      have q3 : gN σ1 3 = gN σ 3 := congrFun w7.2.2.2.2 3
      refine wk_mk hnv hm1.b nb1 w9.2.1 (by omega) (Nat.le_refl _) (by omega) he (Nat.le_of_eq q1.symm) (Nat.le_of_eq q3.symm) ?_ ?_
      · rw [w1, bd_of]
        show gle (gN σ 1) (gN σ1 1) (gle (gN σ 3) (gN σ1 3) _) = _
        unfold gle
        rw [if_pos (Nat.le_of_eq q1.symm), if_pos (Nat.le_of_eq q3.symm)]
      · unfold f_X12_workPart_b222 f_X12_evaluate
        rw [w2, bd_of, gp, hQ1.x 32 _ (by decide), s32, child_at hQ1 hp7 x33 (by omega) s39, bd_of, bd_of]
    · have hQ1 : eqQ μ0 μ1 := hQ'.fl w5
      have q1 : gN σ1 1 = gN σ 1 := congrFun w4.2.2.2.2 1
      have q3 : gN σ1 3 = gN σ 3 := congrFun w4.2.2.2.2 3
      have hC : MC (pI (pI σ1 44 b0) 45 1) t b f e := by
        obtain ⟨⟨h1, h2, h3, h4⟩, h5, h6, h7, h8⟩ := hm.2.2.2.1
        have eN : ∀ j, gN σ1 j = gN σ j := fun j => congrFun w4.2.2.2.2 j
        exact ⟨⟨(w4.1 40).trans h1, (w4.1 41).trans h2, (w4.1 42).trans h3, (w4.1 43).trans h4⟩, (by show Ln 11 (gN σ1 1); rw [eN]; exact h5), (by show t ≤ gN σ1 1; rw [eN]; exact h6), (by show Ln 9 (gN σ1 3); rw [eN]; exact h7), (by show e ≤ gN σ1 3; rw [eN]; exact h8)⟩
      have fC : FmC σ σ1 := ⟨fun j _ => w4.1 j, fun j _ => w4.2.1 j, fun j a => w4.2.2.1 j (by omega), fun j a => w4.2.2.2.1 j (by omega) (by omega), fun k _ _ => congrFun w4.2.2.2.2 k⟩
      have fM : FmM μ μ1 := ⟨fun j a a' => w5.1 j (by omega) (by omega) (by omega) (by omega) (by omega), fun j _ => w5.2.1 j, fun j a => w5.2.2.1 j (by omega) (by omega) (by omega), fun j a => w5.2.2.2.1 j (by omega) (by omega), w5.2.2.2.2⟩
      refine ov_mk hm.1.1 hm.1.2.1 (w3.wk b0 (nI bp)) hC (fC.tr (FmC.wk _ _ _)) (fM.tr (FmM.wk _ _ _)) ⟨Nat.le_of_eq q1.symm, Nat.le_of_eq q3.symm⟩ ?_ ?_
      · rw [w1, bd_of]
        show gle (gN σ 1) (gN σ1 1) (gle (gN σ 3) (gN σ1 3) _) = _
        unfold gle
        rw [if_pos (Nat.le_of_eq q1.symm), if_pos (Nat.le_of_eq q3.symm)]
      · unfold f_X12_workPart_b222 f_X12_evaluate
        rw [w2, bd_of, gp, hQ1.x 32 _ (by decide), s32, child_at hQ1 hp7 x33 (by omega) s39, bd_of, bd_of]
  have hw7 : f_X3_work σ = bd (f_X3_workLet c σ) (fun _ τ' => gle (gN σ 1) (gN τ' 1) <| gle (gN σ 3) (gN τ' 3) <| some ((), τ')) := by
    unfold f_X3_work f_X3_work_b189 f_X3_work_b197
    rw [h44, gc, gc, hP'.x 13 _ (by decide), hk, if_neg (by decide), if_neg (by decide), if_neg (by decide), if_neg (by decide), if_neg (by decide), if_neg (by decide), if_neg (by decide), if_pos rfl]
  rw [hw7]
  by_cases hz : gI σ 46 = 0 ∨ xA τ 14 c = 0
  · have e1 : f_X3_workLet c σ = f_X3_workLet_b74 b0 (bb 0) σ := by
      unfold f_X3_workLet
      rw [gc, hP'.x 16 _ (by decide), e16, gb, hP'.x 17 _ (by decide), e17]
      by_cases hz1 : gI σ 46 = 0
      · rw [if_pos hz1]
      · rw [if_neg hz1, gc, hP'.x 14 _ (by decide), if_pos (hz.resolve_left hz1)]
    have e2 : f_X12_workPart μ = f_X12_workPart_b222 (nI p) μ := by
      unfold f_X12_workPart
      rw [h52, gp, hQ'.x 31 _ (by decide), s31, if_pos rfl]
      by_cases hz1 : gI μ 47 = 0
      · rw [if_pos hz1]
      · rw [if_neg hz1, gp, hQ'.x 36 _ (by decide), ← m36, if_pos (hz.resolve_left (fun w => hz1 (hea.symm.trans w)))]
    rw [e1, e2]
    exact lazy
  · -- at once
    have hz1 : ¬ gI σ 46 = 0 := fun w => hz (Or.inl w)
    have hz2 : ¬ xA τ 14 c = 0 := fun w => hz (Or.inr w)
    obtain ⟨k1, k2⟩ := hMk f c p Sc hN hk hz2
    obtain rfl : l = 1 := nI_injL (a := l) (b := 1) (by omega) (by omega) (s32.symm.trans k1)
    obtain ⟨o1, o2, o3, o4, o5, o6, o7, o8, o9⟩ := hbs 0 (by omega)
    have gbb : ∀ {β : Type} (x : Option β), gd (bb 0) 6200 x = x := fun x => gd6200 o1.1 o1.2
    have k3 : ¬ UB τ (kc 0) lo := by
      have := k2 lo (by omega) (by rw [e16, e17]; exact o2)
      rw [e16, e17, o3] at this
      exact this
    obtain ⟨u1, u2⟩ := o5.us
    have hg1 : ∀ x, UB τ (kc 0) x → VL τ F pa n tg ct (gB σ 13 (b + x)) (gB μ 9 (b + x)) := fun x hx => by
      rcases u2 x hx with w | w
      · exact hg x w
      · have : x = lo := by omega
        subst this
        exact absurd hx k3
    have hc0 := hch 0 (by omega)
    have hpr : ∀ G : Nat → Nat, pre (fun i => G (chN μ0 p i)) 1 = G (kp 0) := fun G => by
      show 0 + G (chN μ0 p 0) = _
      rw [Nat.zero_add, hc0]
    have hs1 : ∀ G : Nat → Nat, sdN G μ0 p 1 = G bp := fun G => by
      have := sdN_s G μ0 (p := p) (i := 0) (by omega)
      rw [hsd G, hpr G, hc0] at this
      have e : sdN G μ0 p (0 + 1) = sdN G μ0 p 1 := rfl
      omega
    have hs1D := hs1 D
    have hs1E := hs1 E
    have hpD := hpr D
    have hpE := hpr E
    obtain ⟨ac, σ1, μ1, ace, ac6, y1, y2, y4, y5, y6, y7, y8, hgo⟩ := first_go hS hQs (hm.v.ao hnv) he hN hg hr (kd := 4) (Or.inr (Or.inr rfl)) ⟨fun w => by omega, fun w => by omega, fun _ => ⟨hk, hz2⟩⟩ u1 hg1 (hkh 0 (by omega)) (by
      unfold fpF
      dsimp only
      rw [if_neg (by decide), if_pos (Or.inr rfl)]
      omega) (Z := Z) (by
      unfold fqF
      dsimp only
      rw [if_neg (by decide), if_pos (Or.inr rfl)]
      omega)
    have y6' : gN σ 1 ≤ gN σ1 1 := y6
    have y7' : gN σ1 3 = gN σ 3 := y7
    have hP1 : eqP τ σ1 := hPs.fm ((hm.v.ao hnv).1.1.tr y4.fm)
    have e1 : f_X3_workLet c σ = some ((), pI (pI σ1 44 (kc 0)) 45 1) := by
      unfold f_X3_workLet f_X3_workLet_b60 f_X3_frame f_X3_workOn
      rw [gc, hP'.x 16 _ (by decide), e16, gb, hP'.x 17 _ (by decide), e17, if_neg hz1, gc, hP'.x 14 _ (by decide), if_neg hz2, bd_of]
      unfold gq
      rw [if_pos (show gN (pA σ 40 8 ((xA σ 40 8) + 1)) 1 = gN σ 1 from rfl), if_pos (show gN (pA σ 40 8 ((xA σ 40 8) + 1)) 3 = gN σ 3 from rfl), show (((j_lshl ((4 : Int32).toInt64) 56) ||| (j_lshl (c.toInt64) 28)) ||| ((0 : Int32).toInt64)) = fr 4 ac 0 by rw [ace]; rfl, y1, bd_of]
      unfold gle
      rw [if_pos y6, if_pos (Nat.le_of_eq y7.symm), gbb, hP1.x 16 _ (by decide), o3, bd_of, if_pos (show gN (pI (pI σ1 44 (kc 0)) 45 1) 1 = gN σ1 1 from rfl), if_pos (show gN (pI (pI σ1 44 (kc 0)) 45 1) 3 = gN σ1 3 from rfl)]
    have y2' : f_X12_waits 5 (nI p) 0 (pI μ 43 ((gI μ 43) + 1)) = some ((), μ1) := y2
    have ch : f_X12_child (nI p) 0 μ1 = some (nI (kp 0), μ1) := child_at y8 (i := 0) hp7 x33 (by omega) o9
    have e2 : f_X12_workPart μ = some ((), pI (pI μ1 52 (nI (kp 0))) 53 0) := by
      unfold f_X12_workPart f_X12_evaluate
      rw [h52, gp, hQ'.x 31 _ (by decide), s31, if_pos rfl, if_neg (fun w => hz1 (hea.trans w)), gp, hQ'.x 36 _ (by decide), ← m36, if_neg hz2, y2', bd_of, ch, bd_of, bd_of]
    rw [e1, e2, bd_of]
    have hgo' : GOt τ μ0 F k T pa nv D E σs μs t0 Z σ (some ((), pI (pI σ1 44 (kc 0)) 45 1)) (some ((), pI (pI μ1 52 (nI (kp 0))) 53 0)) := hgo
    have : gle (gN σ 1) (gN (pI (pI σ1 44 (kc 0)) 45 1) 1) (gle (gN σ 3) (gN (pI (pI σ1 44 (kc 0)) 45 1) 3) (some ((), pI (pI σ1 44 (kc 0)) 45 1))) = some ((), pI (pI σ1 44 (kc 0)) 45 1) := by
      show gle (gN σ 1) (gN σ1 1) (gle (gN σ 3) (gN σ1 3) _) = _
      unfold gle
      rw [if_pos y6', if_pos (Nat.le_of_eq y7'.symm)]
    rw [this]
    exact hgo'
/-- A PART IS WORKED ON: one step -/
theorem wk_go {τ μ0 : S5} {F k T : Nat} {pa nv D E : Nat → Nat} (hS : PSt τ μ0 F k T pa nv) (hD : DSt τ μ0 F T pa nv D) (hE : ESt τ μ0 F T nv E) (hB : NDb τ μ0 F pa) (hMk : MKb τ μ0 F T nv) {σs μs : S5} (hPs : eqP τ σs) (hQs : eqQ μ0 μs) {t0 : Nat} {σ μ : S5} {n : Nat} {tg ct : Nat → Nat} {K : List (Nat × Nat × Nat × Nat × Nat)} {t W V b f e r P R Z : Nat} (hm : MSb τ μ0 F k T pa nv D E σs μs t0 σ μ n tg ct K t W V b f e r P R) (hw : WkM τ μ0 F T pa nv D E σ μ n tg ct b f e r P R (Z + 1)) : GOt τ μ0 F k T pa nv D E σs μs t0 Z σ (f_X3_work σ) (f_X12_workPart μ) := by
  obtain ⟨c, p, Sc, ⟨w45, w44, w53, w52⟩, hN, hg, hr, ⟨hP, hZ⟩, he⟩ := hw
  have hnv := hS.nv
  have hP' : eqP τ σ := hPs.fm hm.1.1
  have hQ' : eqQ μ0 μ := hQs.fm hm.1.2.1
  have hf := hN.1
  obtain ⟨hp7, hc⟩ := hN.p7 (hnv f hf)
  have gc : ∀ {β : Type} (x : Option β), gd c 6200 x = x := fun x => gd6200 hc.1 hc.2
  obtain ⟨-, q, lo, hi, hx, hhi, h38⟩ := id hN
  obtain ⟨-, -, h3⟩ := hx.un (hnv f hf)
  rcases h3 with w | ⟨_, _, _, _, w, -⟩ | ⟨w, -⟩ | ⟨w, -⟩
  · exact lf_go hS hD hE hPs hQs hm he hN hg hP (by omega) w44 w52 w
  · rcases w with ⟨a, -⟩ | ⟨a, a', -⟩ | ⟨a, a', -⟩
    · exact sgn_go hS hD hE hPs hQs hm he hN a hg hr hP (by omega) w44 w52
    · have hgo := app_go hS hD hE hB hPs hQs hm hf he hN a hg hr hP (Z := Z) (by omega)
      have e1 : f_X3_work σ = bd (f_X3_workApplication c σ) (fun _ τ' => gle (gN σ 1) (gN τ' 1) <| gle (gN σ 3) (gN τ' 3) <| some ((), τ')) := by
        unfold f_X3_work f_X3_work_b197
        rw [w44, gc, gc, hP'.x 13 _ (by decide), a, if_neg (by decide), if_neg (by decide), if_neg (by decide), if_neg (by decide), if_neg (by decide), if_neg (by decide), if_neg (by decide), if_neg (by decide), if_pos rfl]
      have e2 : f_X12_workPart μ = bd (f_X12_workApplication (nI p) μ) (fun _ τ' => some ((), τ')) := by
        unfold f_X12_workPart
        rw [w52, gdn hp7 (by omega), hQ'.x 31 _ (by decide), a']
        rfl
      rw [e1, e2]
      exact hgo.g
    · have hgo := kg_go hS hD hE hPs hQs hm he hN hg hP (Z := Z) (by omega)
      have e1 : f_X3_work σ = bd (f_keepE 64 c σ) (fun r83 τ83 => gq (gN τ83 1) (gN σ 1) <| gq (gN τ83 3) (gN σ 3) <| bd (f_X3_give (r83) τ83) (fun _ τ86 => gq (gN τ86 1) (gN τ83 1) <| gq (gN τ86 3) (gN τ83 3) <| some ((), τ86))) := by
        unfold f_X3_work f_X3_work_b197
        rw [w44, gc, gc, hP'.x 13 _ (by decide), a, if_neg (by decide), if_neg (by decide), if_neg (by decide), if_neg (by decide), if_neg (by decide), if_neg (by decide), if_neg (by decide), if_neg (by decide), if_neg (by decide), if_pos rfl]
      have e2 : f_X12_workPart μ = bd (f_X12_keep (nI p) μ) (fun r127 τ127 => bd (f_X12_gives (r127) τ127) (fun _ τ130 => some ((), τ130))) := by
        unfold f_X12_workPart
        rw [w52, gdn hp7 (by omega), hQ'.x 31 _ (by decide), a']
        rfl
      rw [e1, e2]
      exact hgo
  · exact lt_go hS hD hE hMk hPs hQs hm he hN w hg hr hP (by omega) w44 w52
  · exact cs_go hS hD hE hPs hQs hm he hN w hg hr hP (by omega) w44 w52
