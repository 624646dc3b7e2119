/-- what the reference's state says when lifting begins -/
def MX (σ ν τr τv μm : S5) (k U F : Nat) (S : Int32) (cf : Nat → Nat) : Prop := (∀ j x, j ≤ 6 ∨ (9 ≤ j ∧ j ≤ 19) → xA μm j x = xA ν j x) ∧ (∀ x, ¬ xA ν 2 x = 8 → xA μm 7 x = xA ν 7 x ∧ xA μm 8 x = xA ν 8 x) ∧ NW σ ν μm k (gI ν 9) ∧ HV σ τr μm S S ∧ (∀ g, g < F → xA μm 20 (nI g) = nI (cf g) ∧ ∀ i, i < cf g → VR σ (xA τv 5 (nI (g * 8 + i))) (xA μm 21 (nI (9 * g + i)))) ∧ (∀ n, 0 ≤ n → n < gI ν 9 → xA ν 19 n = if fM ν n.toNatClampNeg = 1 then nI (k + prI (fM ν) n) else -1) ∧ (∀ s, 0 ≤ s → s < S → xA σ 22 s = s → 0 ≤ xA σ 21 s → xA τr 26 s = nI (k + prI (fC σ) s)) ∧ Nij σ τr S F ∧ (∀ u, u < U → ¬ tg σ k u = -1) ∧ gI τv 4 = gI σ 4
theorem i_lt_le {a b c : Int32} (h : a < b) (h2 : b ≤ c) : a < c := by grind
theorem GoC.le {τp μm : S5} {F V f : Nat} {n c : Int32} {sz sz' : Nat} (h : GoC τp μm F V f n c sz) (hs : sz ≤ sz') : GoC τp μm F V f n c sz' := by
  refine ⟨h.1, fun v m ct hd μ μ1 q1 q2 q3 q4 q5 q6 q7 => ?_⟩
  obtain ⟨j, μ', a, b⟩ := h.2 v m ct hd μ μ1 q1 q2 q3 (by omega) q5 q6 q7
  exact ⟨j, μ', by omega, b⟩
theorem HV.wl {σ τr μm μ : S5} {S s : Int32} (h : HV σ τr μm S s) (hf : FrWL μm μ) : HV σ τr μ S s := ⟨fun x i j a b c d e => by rw [hf.x 22 _ (by omega), hf.x 23 _ (by omega)]; exact h.1 x i j a b c d e, fun o f a b c d => by rw [hf.x 24 _ (by omega)]; exact h.2 o f a b c d⟩
/-- a variable's number in its function -/
theorem MX.loc {σ ν τr τv μm : S5} {k U F : Nat} {S : Int32} {sc : Nat → Int32} {cf : Nat → Nat} (hL : LXc σ ν τr τv k U F S sc cf) (hM : MX σ ν τr τv μm k U F S cf) {f : Nat} (hf : f < F) {y v : Int32} (h : Kn σ τv S sc cf f y) (hv : VR σ y v) : ∀ μ, FrWL μm μ → f_X12_local (nI f) v μ = some (nI (qn σ τv sc cf f y), μ) := by
  intro μ hw
  obtain ⟨⟨hDN, ⟨hS0, hS⟩, hS9, hF, hkF, hU⟩, hown, hfs, -⟩ := hL
  obtain ⟨m1, m2, m3, m4, m5, m6, m7, m8, m9, m10⟩ := hM
  have hv01 : 0 ≤ v ∧ v < 3200 := by
    obtain ⟨s, i, j, ⟨s0, s1⟩, ej, j5, hij, rfl, hh⟩ := id h
    have ev : v = nI (prI (vC σ) s + i) := by
      have hv' : VR σ (s * 5 + nI i) (nI (prI (vC σ) s + i)) := ⟨s, i, j, s0, by grind, ej, j5, hij, rfl, rfl⟩
      exact (hv.eq hDN hv').mp rfl
    have hs : s.toNatClampNeg < 630 := by
      have := i_lt (a := s) (n := 630) (not_neg s0) (i_lt_le s1 hS)
      exact this
    have := vC_le hDN s.toNatClampNeg (by omega)
    unfold prI at ev
    rw [ev]
    exact ⟨i_le0 (nI_nneg (by omega)), (nI_lt31 (b := 3200) (by omega) (by omega)).mpr (by omega)⟩
  obtain ⟨g1, g2⟩ := hfs f hf
  exact loc_go hDN hS hF hf m8 g1 hown (m4.wl hw) (by rw [hw.x 20 _ (by omega)]; exact (m5 f hf).1) g2.2.2.2.1 (fun i hi => by rw [hw.x 21 _ (by omega)]; exact (m5 f hf).2 i hi) h hv hv01.1 hv01.2
theorem sc_inj {σ ν τr τv : S5} {k U F : Nat} {S : Int32} {sc : Nat → Int32} {cf : Nat → Nat} (hL : LXc σ ν τr τv k U F S sc cf) {f g : Nat} (hf : f < F) (hg : g < F) (h : sc f = sc g) : f = g := by
  have h1 := (hL.2.2.1 f hf).1.2.2.2
  have h2 := (hL.2.2.1 g hg).1.2.2.2
  rw [h, h2] at h1
  have := hL.1.2.2.2.1
  exact (nI_inj (by omega) (by omega) h1).symm
/-- a scope's first variable in its function -/
theorem MX.scope {σ ν τr τv μm : S5} {k U F : Nat} {S : Int32} {sc : Nat → Int32} {cf : Nat → Nat} (hL : LXc σ ν τr τv k U F S sc cf) (hM : MX σ ν τr τv μm k U F S cf) {f j : Nat} (hf : f < F) {s : Int32} (hs0 : 0 ≤ s) (hs : s < S) (h22 : xA σ 22 s = sc f) (hj : xA σ 20 s = nI j) (hj5 : j ≤ 5) : ∃ x, xA τv 25 s = nI x ∧ x + j ≤ nvF σ S sc cf f ∧ x ≤ 3700 ∧ (0 < j → ∀ μ, FrWL μm μ → f_X12_local (nI f) (nI (prI (vC σ) s)) μ = some (nI x, μ)) := by
  have hS : S ≤ 630 := hL.1.2.1.2
  have hc8 : cf f ≤ 8 := (hL.2.2.1 f hf).2.2.2.2.1
  have hw : wO σ (sc f) s.toNatClampNeg = j := by
    unfold wO vC
    rw [xA_tn, if_pos h22, xA_tn, hj, nI_clamp (by omega)]
  have hle : prI (wO σ (sc f)) s + j ≤ prI (wO σ (sc f)) S := by
    have := prM (w := wO σ (sc f)) (x := s + 1) (y := S) (by grind)
    rw [prI_s _ hs0 (by grind), hw] at this
    exact this
  have hb : prI (wO σ (sc f)) s ≤ 3500 := by
    have h1 : ∀ n, pre (wO σ (sc f)) n ≤ pre (vC σ) n := by
      intro n
      induction n with
      | zero => exact Nat.le_refl _
      | succ n ih =>
        show pre _ n + wO σ (sc f) n ≤ pre _ n + vC σ n
        have : wO σ (sc f) n ≤ vC σ n := by unfold wO; split <;> omega
        omega
    have h2 : s.toNatClampNeg < 630 := i_lt (a := s) (n := 630) (not_neg hs0) (i_lt_le hs hS)
    have h3 := vC_le hL.1.1 s.toNatClampNeg (by omega)
    have h4 := h1 s.toNatClampNeg
    unfold prI
    omega
  refine ⟨cf f + prI (wO σ (sc f)) s, hL.2.2.2.2.2.1 f s hf hs0 hs h22, by unfold nvF; omega, by omega, fun hpos => ?_⟩
  have hK : Kn σ τv S sc cf f (s * 5 + nI 0) := ⟨s, 0, j, ⟨hs0, hs⟩, hj, hj5, hpos, rfl, Or.inl h22⟩
  have hq : qn σ τv sc cf f (s * 5 + nI 0) = cf f + prI (wO σ (sc f)) s := by
    have ed := div5 (i := 0) hs0 (by grind) (by omega)
    have em := m5_n (i := 0) hs0 (by grind) (by omega)
    unfold qn
    rw [em, ed, if_pos h22]
    rfl
  rw [← hq]
  exact hM.loc hL hf hK ⟨s, 0, j, hs0, by grind, hj, hj5, hpos, rfl, rfl⟩
/-- what the planted tree keeps at a node of no function -/
theorem PX.fr {σ ν τr τv τu τp : S5} {k U F C : Nat} {S : Int32} {sc : Nat → Int32} {cf : Nat → Nat} (hX : PX σ ν τr τv τu τp k U F C S sc cf) {c : Int32} (hc0 : 0 ≤ c) (hcC : c < nI C) (h14 : ¬ xA σ 13 c = 14) (h3 : ¬ xA σ 13 c = 3) : xA τp 13 c = xA σ 13 c ∧ (¬ xA σ 13 c = 10 → xA τp 14 c = xA σ 14 c) ∧ (¬ xA σ 13 c = 7 → ¬ xA σ 13 c = 11 → xA τp 15 c = xA σ 15 c) ∧ xA τp 16 c = xA σ 16 c ∧ xA τp 17 c = xA σ 17 c := by
  obtain ⟨hL, hPU, hPN, h8, hC⟩ := hX
  obtain ⟨fr, fm⟩ := hPN.2.2.1 c hc0 hcC
  obtain ⟨a, b, d, e⟩ := fr.2.1 h14
  obtain ⟨x, y⟩ := hPU.2.1 c hc0 h3
  exact ⟨a.trans x, fun w => (d w).trans y, e, b, fr.1⟩
theorem PX.g4 {σ ν τr τv τu τp μm : S5} {k U F C : Nat} {S : Int32} {sc : Nat → Int32} {cf : Nat → Nat} (hX : PX σ ν τr τv τu τp k U F C S sc cf) (hM : MX σ ν τr τv μm k U F S cf) : gI τp 4 = gI σ 4 ∧ ∀ x, xA τp 2 x = xA σ 2 x := by
  obtain ⟨hL, hPU, hPN, h8, hC⟩ := hX
  refine ⟨?_, fun x => ?_⟩
  · rw [hPN.1.1 4 (by decide), hPU.1.1 4]
    exact hM.2.2.2.2.2.2.2.2.2
  · rw [hPN.1.x 2 _ (by omega), hPU.1.x 2 _ (by decide) (by decide)]
    exact hL.2.2.2.2.1.1 2 x (Or.inl rfl)
theorem gc_leafT {σ ν τr τv τu τp μm : S5} {k U F C : Nat} {S : Int32} {sc : Nat → Int32} {cf : Nat → Nat} (hX : PX σ ν τr τv τu τp k U F C S sc cf) (hM : MX σ ν τr τv μm k U F S cf) {f : Nat} (hf : f < F) {h s s' u u' a b t n c : Int32} (q : TLeaf σ ν h s s' u u' a b t n c) (hn0 : 0 ≤ n) (hn1 : n < 3200) (hn9 : n < gI ν 9) (hc0 : 0 ≤ c) (hc6 : c < 6200) (hcC : c < nI C) (hu0 : 0 ≤ u) (huU : u'.toNatClampNeg ≤ U) (hu7 : u < 7000) (cx : Cx σ ν h s u a t) (hh : xA σ 22 h = sc f) : GoC τp μm F (nvF σ S sc cf f) f n c 1 := by
  obtain ⟨hL, hPU, hPN, h8, hC⟩ := id hX
  obtain ⟨m1, m2, m3, m4, m5, m6, m7, m8, m9, m10⟩ := id hM
  obtain ⟨fr, fm⟩ := hPN.2.2.1 c hc0 hcC
  obtain ⟨e1, e2, e3, e4, e5, e6, e7⟩ := q
  subst e2
  have hkz : ∀ hk2 : ¬ xA ν 2 a = 2, ¬ xA ν 2 a = 1 → xA μm 19 a = -1 := fun hk2 hk1 => by
    rw [m1 19 _ (by omega), m6 a hn0 hn9, if_neg]
    have := fM_z (μ := ν) (n := a) hk2 (Or.inl hk1)
    omega
  have hk14 : ¬ xA σ 13 c = 14 := by rcases e7 with ⟨_, w, _⟩ | ⟨_, ⟨_, w, _⟩ | ⟨_, w, _⟩ | ⟨_, w⟩⟩ <;> rw [w] <;> decide
  have e16 : xA τp 16 c = -1 := (fr.2.1 hk14).2.1.trans e5
  obtain ⟨l18, l19, lB⟩ := fm.1 e16
  have lift0 : ∀ (kd v : Int32) (m ct hd : Nat) (μ : S5), WLs μm m ct hd μ → m < 7000 → ct ≤ 14000 → hd < 7000 → ∃ μ5, f_X12_lift kd v 0 μ = some (nI m, μ5) ∧ LIf μ μ5 kd v 0 m ct hd := fun kd v m ct hd μ hw hm hct hhd => li_go (n := 0) (hd := hd) kd v hw.2.1 hw.2.2.1 hw.2.2.2 hm (by omega) (by omega) hhd (fun p hp => absurd hp (by omega))
  rcases e7 with ⟨f1, f2, f3, f4, f5, f6, f7⟩ | ⟨f1, f2⟩
  · have eu : u = nI u.toNatClampNeg := nI_tn hu0
    have hu1 : u.toNatClampNeg < U := by
      have := tn_s hu0 hu7
      rw [f3, this] at huU
      omega
    have hsd := m3.1 a hn0 hn9 f1
    rw [← cx.2.2.2.2.1] at hsd
    have hpu := hPU.2.2 u.toNatClampNeg hu1
    rw [← eu, f5, f7] at hpu
    have t13 := (fr.2.1 hk14).1
    have t14 := (fr.2.1 hk14).2.2.1 (by rw [f2]; decide)
    have h2 : xA μm 2 a = 8 := (m1 2 _ (by omega)).trans f1
    rcases hsd with ⟨d1, d2, d3⟩ | ⟨d1, d2, d3⟩
    · obtain ⟨g, g1, g2, g3, g4⟩ := hpu.1 d1
      obtain ⟨g', k1, k2, hK⟩ := hL.2.2.2.2.2.2.2.1 u.toNatClampNeg hu1 d1
      rw [← eu, f5] at k2
      have eg : g = f := sc_inj hL g1 hf (by rw [← g2, hh])
      have eg' : g' = f := sc_inj hL k1 hf (by rw [← k2, hh])
      subst eg
      rw [eg'] at hK
      have hq := qn_lt hL.1.2.1.2 hK
      have hlo := hM.loc hL g1 hK d3
      refine gc_lf (kind := 13) (value := nI (qn σ τv sc cf g (tg σ k u.toNatClampNeg))) hn0 hn1 (Or.inl h2) (hkz (by rw [f1]; decide) (by rw [f1]; decide)) (fun m ct hd μ hw hm hct hhd => ?_) (fun μ p k31 k32 k34 => ⟨rfl, k34, e16, Or.inr (Or.inr (Or.inr (Or.inl ⟨t13.trans g3, k31, _, hq, t14.trans g4, k32⟩)))⟩) l18 l19 (fun hV => ?_) hc0 hc6
      · obtain ⟨μ5, a1, a2⟩ := lift0 13 (nI (qn σ τv sc cf g (tg σ k u.toNatClampNeg))) m ct hd μ hw hm hct hhd
        refine ⟨μ5, ?_, a2⟩
        unfold f_X12_closePart
        rw [gd3200 hn0 hn1, hw.1.x 2 _ (by omega), h2, if_neg (by decide), if_neg (by decide), if_neg (by decide), if_neg (by decide), if_neg (by decide), if_neg (by decide), if_neg (by decide), if_neg (by decide), if_pos rfl, gd3200 hn0 hn1, hw.1.x 8 _ (by omega), d2, if_pos rfl, gd3200 hn0 hn1, hw.1.x 7 _ (by omega), hlo μ hw.1, bd_of, a1, bd_of]
      · rw [if_pos rfl, lB, t13, g3, t14, g4]
        exact lbit_3 hq hV
    · obtain ⟨g3, g4⟩ := hpu.2 d1
      obtain ⟨v1, v2, v3⟩ := d3 (m9 _ hu1)
      have ev : xA μm 7 a = nI (xA μm 7 a).toNatClampNeg := nI_tn v2
      have hkF : k ≤ F := hL.1.2.2.2.2.1
      have hF : F ≤ 630 := hL.1.2.2.2.1
      have hvk : (xA μm 7 a).toNatClampNeg < k := by
        have := i_lt (a := xA μm 7 a) (n := nI k) (not_neg v2) v3
        rw [nI_clamp (by omega)] at this
        exact this
      refine gc_lf (kind := 12) (value := xA μm 7 a) hn0 hn1 (Or.inl h2) (hkz (by rw [f1]; decide) (by rw [f1]; decide)) (fun m ct hd μ hw hm hct hhd => ?_) (fun μ p k31 k32 k34 => ⟨rfl, k34, e16, Or.inr (Or.inr (Or.inl ⟨t13.trans g3, k31, (xA μm 7 a).toNatClampNeg, by omega, by rw [← ev]; exact (t14.trans g4).trans v1.symm, k32.trans ev⟩))⟩) l18 l19 (fun hV => ?_) hc0 hc6
      · obtain ⟨μ5, a1, a2⟩ := lift0 12 (xA μm 7 a) m ct hd μ hw hm hct hhd
        refine ⟨μ5, ?_, a2⟩
        unfold f_X12_closePart
        rw [gd3200 hn0 hn1, hw.1.x 2 _ (by omega), h2, if_neg (by decide), if_neg (by decide), if_neg (by decide), if_neg (by decide), if_neg (by decide), if_neg (by decide), if_neg (by decide), if_neg (by decide), if_pos rfl, gd3200 hn0 hn1, hw.1.x 8 _ (by omega), d2, if_neg (by decide), gd3200 hn0 hn1, hw.1.x 7 _ (by omega), a1, bd_of]
      · rw [if_neg (by decide), lB, t13, g3]
        exact lbit_2 _
  · have h3 : ¬ xA σ 13 c = 3 := by rcases f2 with ⟨_, w, _⟩ | ⟨_, w, _⟩ | ⟨_, w⟩ <;> rw [w] <;> decide
    obtain ⟨t13, t14, t15, t16, t17⟩ := hX.fr hc0 hcC hk14 h3
    obtain ⟨g4, g2⟩ := hX.g4 hM
    have hz : xB τp 2 c = 0 := by
      rw [lB, t13]
      unfold lbit
      rw [if_neg h3]
    rcases f2 with ⟨k2, k13, k14, k15⟩ | ⟨k2, k13, k14, k15, k16, k17⟩ | ⟨k2, k13⟩
    · have h2 : xA μm 2 a = 10 := (m1 2 _ (by omega)).trans k2
      have h7 : xA μm 7 a = xA τp 14 c := by rw [(m2 a (by rw [k2]; decide)).1, t14 (by rw [k13]; decide), k14]
      have e14 : xA τp 14 c = xA σ 14 c := t14 (by rw [k13]; decide)
      refine gc_lf (kind := 10) (value := xA μm 7 a) hn0 hn1 (Or.inr (Or.inr (Or.inl h2))) (hkz (by rw [k2]; decide) (by rw [k2]; decide)) (fun m ct hd μ hw hm hct hhd => ?_) (fun μ p k31 k32 k34 => ⟨rfl, k34, e16, Or.inl ⟨t13.trans k13, k31, k32.trans h7, by rw [e14]; exact k15⟩⟩) l18 l19 (fun hV => by rw [if_neg (by decide)]; exact hz) hc0 hc6
      obtain ⟨μ5, a1, a2⟩ := lift0 10 (xA μm 7 a) m ct hd μ hw hm hct hhd
      refine ⟨μ5, ?_, a2⟩
      unfold f_X12_closePart
      rw [gd3200 hn0 hn1, hw.1.x 2 _ (by omega), h2, if_neg (by decide), if_neg (by decide), if_neg (by decide), if_neg (by decide), if_neg (by decide), if_neg (by decide), if_neg (by decide), if_neg (by decide), if_neg (by decide), if_neg (by decide), if_pos rfl, gd3200 hn0 hn1, gd3200 hn0 hn1, hw.1.x 7 _ (by omega), a1, bd_of]
    · have h2 : xA μm 2 a = 9 := (m1 2 _ (by omega)).trans k2
      have h7 : xA μm 7 a = xA τp 14 c := by rw [(m2 a (by rw [k2]; decide)).1, t14 (by rw [k13]; decide), k14]
      have e14 : xA τp 14 c = xA σ 14 c := t14 (by rw [k13]; decide)
      refine gc_lf (kind := 9) (value := xA μm 7 a) hn0 hn1 (Or.inr (Or.inl h2)) (hkz (by rw [k2]; decide) (by rw [k2]; decide)) (fun m ct hd μ hw hm hct hhd => ?_) (fun μ p k31 k32 k34 => ⟨rfl, k34, e16, Or.inr (Or.inl ⟨t13.trans k13, k31, k32.trans h7, by rw [e14]; exact k15, by rw [e14, g4]; exact k16, by rw [e14, g2]; exact k17⟩)⟩) l18 l19 (fun hV => by rw [if_neg (by decide)]; exact hz) hc0 hc6
      obtain ⟨μ5, a1, a2⟩ := lift0 9 (xA μm 7 a) m ct hd μ hw hm hct hhd
      refine ⟨μ5, ?_, a2⟩
      unfold f_X12_closePart
      rw [gd3200 hn0 hn1, hw.1.x 2 _ (by omega), h2, if_neg (by decide), if_neg (by decide), if_neg (by decide), if_neg (by decide), if_neg (by decide), if_neg (by decide), if_neg (by decide), if_neg (by decide), if_neg (by decide), if_pos rfl, gd3200 hn0 hn1, gd3200 hn0 hn1, hw.1.x 7 _ (by omega), a1, bd_of]
    · have h2 : xA μm 2 a = 11 := (m1 2 _ (by omega)).trans k2
      refine gc_lf (kind := 11) (value := xA μm 7 a) hn0 hn1 (Or.inr (Or.inr (Or.inr h2))) (hkz (by rw [k2]; decide) (by rw [k2]; decide)) (fun m ct hd μ hw hm hct hhd => ?_) (fun μ p k31 k32 k34 => ⟨rfl, k34, e16, Or.inr (Or.inr (Or.inr (Or.inr ⟨t13.trans k13, k31⟩)))⟩) l18 l19 (fun hV => by rw [if_neg (by decide)]; exact hz) hc0 hc6
      obtain ⟨μ5, a1, a2⟩ := lift0 11 (xA μm 7 a) m ct hd μ hw hm hct hhd
      refine ⟨μ5, ?_, a2⟩
      unfold f_X12_closePart
      rw [gd3200 hn0 hn1, hw.1.x 2 _ (by omega), h2, if_neg (by decide), if_neg (by decide), if_neg (by decide), if_neg (by decide), if_neg (by decide), if_neg (by decide), if_neg (by decide), if_neg (by decide), if_neg (by decide), if_neg (by decide), if_neg (by decide), if_pos rfl, gd3200 hn0 hn1, gd3200 hn0 hn1, hw.1.x 7 _ (by omega), a1, bd_of]
