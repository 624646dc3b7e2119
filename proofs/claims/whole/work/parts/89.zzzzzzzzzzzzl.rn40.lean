/-- what keeping a part costs -/
theorem keep_pt {τ μ0 : S5} {F k T : Nat} {pa nv D : Nat → Nat} (hS : PSt τ μ0 F k T pa nv) (hD : DS0 τ μ0 F T nv D) {μ ν : S5} {n ft B p : Nat} {y : Int64} (h : f_X12_keep (nI p) μ = some (y, ν)) (hk : PTk τ μ0 F T nv D μ n ft 0 B) (hG : GdN τ μ0 F T nv p) : ∃ n' ft', n ≤ n' ∧ ft ≤ ft' ∧ PTk τ μ0 F T nv D ν n' ft' 0 (B + D p) ∧ OCs n μ ν := by
  unfold f_X12_keep at h
  obtain ⟨v, τ1, w1, w2⟩ := bd_some h
  have := plain_s w1
  subst this
  by_cases e1 : lg_cmp v 0 < 0
  · rw [if_pos e1] at w2
    obtain ⟨r, τ2, x1, x2⟩ := bd_some w2
    rcases mk_pt hS hk hG x1 with ⟨y1, y2, y3, y8, -⟩ | ⟨y1, y2, y0, m, y3, y4, y5, y6, y7⟩
    · rw [y1, if_neg (by decide)] at x2
      cases x2
      exact ⟨n, ft, Nat.le_refl _, Nat.le_refl _, y2.le (Nat.le_add_right _ _), y3⟩
    · rw [y1, if_pos (i_le0 (nI_nneg (by omega)))] at x2
      obtain ⟨⟨⟩, τ4, z3, z4⟩ := bd_some x2
      obtain ⟨⟨⟩, τ5, z5, z6⟩ := bd_some z4
      obtain ⟨v2, τ6, z7, z8⟩ := bd_some z6
      cases z7
      cases z8
      obtain ⟨t2, q1, q2, q3⟩ := fl_pt hD (y5.i 0) rfl hG (Nat.lt_succ_self n) y7 (fun m' hm' hm40 => by
        have : m' = m := nI_injL (by omega) (by omega) (hm'.symm.trans y4)
        omega) z3
      have hab := dAB D τ2 p n
      have hab' : dB D (pI τ2 54 0) p n = dB D τ2 p n := rfl
      obtain ⟨n', ft', c1, c2, c3, c4⟩ := dt_pt hS hD FU _ _ (n + 1) (ft + m) t2 _ z5 q1 q3
      exact ⟨n', ft', by omega, by omega, c3.le (by omega), OCs.tr (OCs.tr y6 q2 (Nat.le_succ n)) c4 (Nat.le_succ n)⟩
  · rw [if_neg e1] at w2
    cases w2
    exact ⟨n, ft, Nat.le_refl _, Nat.le_refl _, hk.le (Nat.le_add_right _ _), OCs.rf n _⟩
theorem MdC.st {τ μ0 : S5} {F T : Nat} {nv : Nat → Nat} {μ ν : S5} {ft ft' p c n : Nat} (h : MdC τ μ0 F T nv μ ft p c) (hc : c < n) (hO : OCs n μ ν) (hf : ft ≤ ft') : MdC τ μ0 F T nv ν ft' p c := by
  obtain ⟨m, bg, a1, a2, a3, a4, a5⟩ := h
  obtain ⟨o1, o2, o3⟩ := hO.1 c hc
  exact ⟨m, bg, by rw [o2]; exact a1, by rw [o3]; exact a2, a3, by omega, by rw [o1]; exact a5⟩
theorem plain_at {p : Nat} {μ ν : S5} {v : Int64} (hp : p < 7000) (h : f_X12_plain (nI p) μ = some (v, ν)) : (¬ xA μ 31 (nI p) = 9 → ¬ xA μ 31 (nI p) = 10 → ¬ xA μ 31 (nI p) = 12 → ¬ xA μ 31 (nI p) = 13 → v = -1) ∧ ((xA μ 31 (nI p) = 9 ∨ xA μ 31 (nI p) = 10 ∨ xA μ 31 (nI p) = 12) → 0 ≤ lg_cmp v 0) := by
  unfold f_X12_plain at h
  rw [gdn hp (by omega)] at h
  have hvv : ∀ (t : Nat) (i : Int32), t < 8 → 0 ≤ lg_cmp (vv (nI t) i) 0 := fun t i ht => (lg_nn (vv_nn ht i)).1
  refine ⟨fun a b c d => ?_, fun a => ?_⟩
  · rw [if_neg a, if_neg b] at h
    by_cases e : xA μ 31 (nI p) = 11
    · rw [if_pos e] at h
      cases h
      rfl
    · rw [if_neg e, if_neg c, if_neg d] at h
      cases h
      rfl
  · rcases a with a | a | a
    · rw [if_pos a] at h
      obtain ⟨x, τ1, w1, w2⟩ := bd_some (gd_some h).2
      cases w1
      cases w2
      exact hvv 2 _ (by omega)
    · rw [if_neg (by rw [a]; decide), if_pos a] at h
      obtain ⟨x, τ1, w1, w2⟩ := bd_some (gd_some h).2
      cases w1
      cases w2
      exact hvv 0 _ (by omega)
    · rw [if_neg (by rw [a]; decide), if_neg (by rw [a]; decide), if_neg (by rw [a]; decide), if_pos a] at h
      have h2 := (gd_some (gd_some h).2).2
      by_cases e : xA μ 47 (xA μ 32 (nI p)) ≤ 0
      · rw [if_pos e] at h2
        obtain ⟨x, τ1, w1, w2⟩ := bd_some (gd_some (gd_some h2).2).2
        cases w1
        cases w2
        exact hvv 3 _ (by omega)
      · rw [if_neg e] at h2
        obtain ⟨x, τ1, w1, w2⟩ := bd_some (gd_some h2).2
        cases w1
        cases w2
        exact hvv 1 _ (by omega)
/-- the bindings of a let: which child, and what was made for it -/
def KBi (τ μ0 : S5) (F T : Nat) (nv D : Nat → Nat) (p l ct0 : Nat) : Prop := p < 7000 ∧ xA μ0 33 (nI p) = nI ct0 ∧ ct0 + l ≤ 14000 ∧ ∀ i, i < l → GdN τ μ0 F T nv (chN μ0 p i) ∧ xA μ0 39 (nI (ct0 + i)) = nI (chN μ0 p i)
def mdb (μ0 : S5) (q : Nat) : Prop := ¬ (xA μ0 31 (nI q) = 9 ∨ xA μ0 31 (nI q) = 10 ∨ xA μ0 31 (nI q) = 12)
def KBm (τ μ0 : S5) (F T : Nat) (nv D : Nat → Nat) (z : Nat → Nat) (μ : S5) (n ft b lo p i : Nat) : Prop := mdb μ0 (chN μ0 p i) → ∃ c, c < n ∧ gB μ 9 (b + lo + i) = vv 3 (nI c) ∧ MdC τ μ0 F T nv μ ft (chN μ0 p i) c ∧ dB D μ (chN μ0 p i) c ≤ z i
theorem KBm.st {τ μ0 : S5} {F T : Nat} {nv D z z' : Nat → Nat} {μ ν : S5} {n n' ft ft' b lo p i : Nat} (h : KBm τ μ0 F T nv D z μ n ft b lo p i) (hO : OCs n μ ν) (hn : n ≤ n') (hf : ft ≤ ft') (hz : z' i = z i) : KBm τ μ0 F T nv D z' ν n' ft' b lo p i := fun w => by
  obtain ⟨c, c1, c2, c3, c4⟩ := h w
  refine ⟨c, by omega, by rw [hO.2.1]; exact c2, c3.st c1 hO hf, ?_⟩
  have : dB D ν (chN μ0 p i) c = dB D μ (chN μ0 p i) c := by
    unfold dB
    rw [(hO.1 c c1).1]
  rw [this, hz]
  exact c4
theorem ch_k {τ μ0 : S5} {F T : Nat} {nv D : Nat → Nat} {p l ct0 : Nat} (hb : KBi τ μ0 F T nv D p l ct0) {μ : S5} (hQ : eqQ μ0 μ) {i : Nat} (hi : i < l) : f_X12_child (nI p) (nI i) μ = some (nI (chN μ0 p i), μ) := by
  obtain ⟨h1, h2, h3, h4⟩ := hb
  unfold f_X12_child
  rw [gdn h1 (by omega), hQ.x 33 _ (by decide), h2, nI_plus, gdn (by omega) (by omega), hQ.x 39 _ (by decide), (h4 i hi).2]
/-- the second time round -/
theorem kb2 {τ μ0 : S5} {F k T : Nat} {pa nv D : Nat → Nat} (hS : PSt τ μ0 F k T pa nv) (hD : DS0 τ μ0 F T nv D) {p l ct0 lo b : Nat} {z : Nat → Nat} (hb : KBi τ μ0 F T nv D p l ct0) (hl : l ≤ 5) (hbl : b + lo + 5 < 2 ^ 30) : ∀ (N j : Nat) (μ ν : S5) (n ft B : Nat), f_X12_keepBindings_L125 N (nI p) (nI l) (nI lo) (nI j) μ = some ((), ν) → j ≤ l → gI μ 50 = nI b → PTk τ μ0 F T nv D μ n ft 0 B → (gI μ 44 = 0 → ∀ i, j ≤ i → i < l → KBm τ μ0 F T nv D z μ n ft b lo p i) → ∃ n' ft', n ≤ n' ∧ ft ≤ ft' ∧ PTk τ μ0 F T nv D ν n' ft' 0 (B + pre (fun i => z (j + i)) (l - j))
  | 0, _, _, _, _, _, _, h, _, _, _, _ => by cases h
  | N + 1, j, μ, ν, n, ft, B, h, hj, h50, hk, hm => by
    have h' : f_X12_keepBindings_B125 (f_X12_keepBindings_L125 N) (nI p) (nI l) (nI lo) (nI j) μ = some ((), ν) := h
    unfold f_X12_keepBindings_B125 at h'
    by_cases e1 : nI l ≤ nI j
    · rw [if_pos e1] at h'
      cases h'
      exact ⟨n, ft, Nat.le_refl _, Nat.le_refl _, hk.le (Nat.le_add_right _ _)⟩
    · rw [if_neg e1] at h'
      have hjl : j < l := by
        by_cases w : j < l
        · exact w
        · exact absurd ((nI_le31 (a := l) (b := j) (by omega) (by omega)).mpr (by omega)) e1
      have hsp : pre (fun i => z (j + i)) (l - j) = z j + pre (fun i => z (j + 1 + i)) (l - (j + 1)) := by
        rw [show l - j = (l - (j + 1)) + 1 by omega, pre_l]
        show z (j + 0) + _ = _
        rw [Nat.add_zero]
        congr 1
        exact pre_cg _ (fun i _ => by rw [Nat.add_assoc])
      by_cases e2 : gI μ 44 = 0
      · rw [if_pos e2] at h'
        obtain ⟨hg, -⟩ := hb.2.2.2 j hjl
        have hq7 := hg.1
        have hmj := hm e2 j (Nat.le_refl _) hjl
        rw [ch_k hb hk.1 hjl, bd_of] at h'
        have h2 := (gd_some h').2
        clear h' h
        -- the next one
        have nxt : ∀ (μ2 : S5) (n2 ft2 : Nat), f_X12_keepBindings_b214 (f_X12_keepBindings_L125 N) (nI p) (nI l) (nI lo) (nI j) μ2 = some ((), ν) → n ≤ n2 → ft ≤ ft2 → OCs n μ μ2 → PTk τ μ0 F T nv D μ2 n2 ft2 0 (B + z j) → ∃ n' ft', n ≤ n' ∧ ft ≤ ft' ∧ PTk τ μ0 F T nv D ν n' ft' 0 (B + pre (fun i => z (j + i)) (l - j)) := by
          intro μ2 n2 ft2 hr hn2 hf2 hO hk2
          unfold f_X12_keepBindings_b214 at hr
          rw [nI_add1] at hr
          obtain ⟨n', ft', c1, c2, c3⟩ := kb2 hS hD hb hl hbl N (j + 1) μ2 ν n2 ft2 (B + z j) hr (by omega) (by rw [hO.2.2]; exact h50) hk2 (fun _ i i1 i2 => (hm e2 i (by omega) i2).st hO hn2 hf2 rfl)
          exact ⟨n', ft', by omega, by omega, c3.le (by rw [hsp]; omega)⟩
        have fil : mdb μ0 (chN μ0 p j) → ∀ r, f_X12_keepBindings_b170 (f_X12_keepBindings_L125 N) (nI p) (nI l) (nI lo) (nI j) (nI (chN μ0 p j)) r = some ((), ν) → r = μ → ∃ n' ft', n ≤ n' ∧ ft ≤ ft' ∧ PTk τ μ0 F T nv D ν n' ft' 0 (B + pre (fun i => z (j + i)) (l - j)) := by
          intro hmd r hr hrr
          subst hrr
          obtain ⟨c, c1, c2, c3, c4⟩ := hmj hmd
          unfold f_X12_keepBindings_b170 f_X12_keepBindings_b175 at hr
          rw [if_neg (by decide)] at hr
          have hr2 := (gd_some hr).2
          rw [h50, nI_plus, nI_plus] at hr2
          obtain ⟨v1, τ1, x1, x2⟩ := bd_some hr2
          unfold f_X12_of at x1
          cases x1
          have exb : xB r 9 (nI (b + lo + j)) = vv 3 (nI c) := by
            show gB r 9 (nI (b + lo + j)).toNatClampNeg = _
            rw [nI_clamp (by omega)]
            exact c2
          rw [exb, vv_of] at x2
          obtain ⟨⟨⟩, τ2, x3, x4⟩ := bd_some x2
          obtain ⟨⟨⟩, τ3, x5, x6⟩ := bd_some x4
          obtain ⟨t2, q1, q2, q3⟩ := fl_pt hD (hk.i 0) rfl hg c1 c3 (fun m' hm' hm40 => by
            obtain ⟨m, bg, m1, m2, m3, m4, -⟩ := c3
            have : m' = m := nI_injL (by omega) (by omega) (hm'.symm.trans m1)
            omega) x3
          obtain ⟨n2, ft2, d1, d2, d3, d4⟩ := dt_pt hS hD FU _ _ n ft t2 _ x5 q1 q3
          have hdd : dB D (pI r 54 0) (chN μ0 p j) c = dB D r (chN μ0 p j) c := rfl
          exact nxt τ3 n2 ft2 x6 d1 d2 (OCs.tr q2 d4 (Nat.le_refl _)) (d3.le (by rw [hdd]; omega))
        by_cases e3 : xA μ 31 (nI (chN μ0 p j)) = 13
        · rw [if_pos e3] at h2
          refine fil (fun w => ?_) μ h2 rfl
          rw [hk.1.x 31 _ (by decide)] at e3
          rcases w with w | w | w <;> rw [w] at e3 <;> exact absurd e3 (by decide)
        · rw [if_neg e3] at h2
          obtain ⟨v1, τ1, x1, x2⟩ := bd_some h2
          have := plain_s x1
          subst this
          by_cases e4 : 0 ≤ lg_cmp v1 0
          · rw [if_pos e4] at x2
            unfold f_X12_keepBindings_b175 at x2
            rw [if_pos rfl] at x2
            exact nxt _ n ft x2 (Nat.le_refl _) (Nat.le_refl _) (OCs.rf n _) (hk.le (Nat.le_add_right _ _))
          · rw [if_neg e4] at x2
            refine fil (fun w => e4 ((plain_at hq7 x1).2 ?_)) _ x2 rfl
            rw [hk.1.x 31 _ (by decide)]
            exact w
      · rw [if_neg e2] at h'
        cases h'
        exact ⟨n, ft, Nat.le_refl _, Nat.le_refl _, hk.le (Nat.le_add_right _ _)⟩
