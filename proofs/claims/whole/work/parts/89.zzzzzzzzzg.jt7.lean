/-- ALL LETS TAKE WHAT THEIR PARTS HAVE -/
theorem bl_go {τ μ : S5} {pa : Nat → Nat} {F H : Nat} {T : Nat → (Nat → Bool) → Bool} {X0 : Nat → Bool} {a1 : Int32} {e : Nat} {rec143 : Int32 → Int32 → Int32 → S5 → Option (Int32 × S5)} (he : e < 7000) (hH : H ≤ 64) (hX0 : ∀ x, X0 x = true → x < H) {c : Int32} {q p : Nat} {Sc : Nat → Prop} {lo hi : Nat} (h : JT τ μ F c q p Sc lo hi) : BLg τ μ pa F H T X0 a1 e rec143 c q p lo hi := by
  refine JT.ind (P := fun c q p Sc lo hi => BLg τ μ pa F H T X0 a1 e rec143 c q p lo hi) ?_ h
  clear h
  intro c q p Sc lo hi h s hpe hR hhi h41 h01 hB
  have hJF := h
  obtain ⟨⟨⟨g1, -⟩, g2, g3, g4, g5⟩, g6⟩ := h
  have B1 : ∀ N (v3 : Int32) ρ, RwE μ ρ → f_X12_bitOfPart_L180 rec143 (N + 1) a1 (nI e) v3 (nI p) ρ = f_X12_bitOfPart_L189 rec143 (f_X12_bitOfPart_L180 rec143 N) FU a1 (nI e) v3 (nI p) 0 ρ := fun N v3 ρ hR => by
    show f_X12_bitOfPart_B180 _ _ _ _ _ _ _ = _
    unfold f_X12_bitOfPart_B180
    rw [if_neg (fun w => by have := (nI_lt31 (by omega) (by omega)).mp w; omega)]
  have B2 : ¬ xA μ 31 (nI p) = 0 → ∀ N (v3 : Int32) ρ, RwE μ ρ → f_X12_bitOfPart_L180 rec143 (N + 1) a1 (nI e) v3 (nI p) ρ = f_X12_bitOfPart_L180 rec143 N a1 (nI e) v3 (nI (p + 1)) ρ := fun hk N v3 ρ hR => by
    rw [B1 N v3 ρ hR]
    obtain ⟨M, hM⟩ : ∃ M, FU = M + 1 := ⟨1099511627775, rfl⟩
    rw [hM]
    show f_X12_bitOfPart_B189 _ _ _ _ _ _ _ _ _ = _
    unfold f_X12_bitOfPart_B189 f_X12_bitOfPart_b308
    rw [gdn g2 (by omega), hR.x 31 _ (by decide) (by decide) (by decide) (by decide) (by decide), if_neg hk, nI_add1]
  rcases g6 with ⟨elh, e1, e2, e3⟩ | ⟨k, ct, cc, ll, a, b, c1, d, e5, f, g⟩ | ⟨a, b, l, ct, bb, ll, d, e5, f, g, i, j, m, n, o, r⟩ | ⟨a, b, l, ct, aa, jj, ll, Sa, d, e5, f, g, i, j, m, n, o, r⟩
  · have hk : ¬ xA μ 31 (nI p) = 0 := by
      rcases e3 with ⟨_, w⟩ | ⟨_, w⟩ | ⟨_, w, _⟩ | ⟨_, w, _⟩ | ⟨_, w⟩ <;> rw [w] <;> decide
    have h4 : xA τ 13 c ≤ 4 := by
      rcases e3 with ⟨w, _⟩ | ⟨w, _⟩ | ⟨w, _⟩ | ⟨w, _⟩ | ⟨w, _⟩ <;> rw [w] <;> decide
    have h5 : ¬ xA τ 13 c = 5 := fun w => by rw [w] at h4; exact absurd h4 (by decide)
    have h6 : ¬ xA τ 13 c = 6 := fun w => by rw [w] at h4; exact absurd h4 (by decide)
    have h7 : ¬ xA τ 13 c = 7 := fun w => by rw [w] at h4; exact absurd h4 (by decide)
    have h8 : ¬ xA τ 13 c = 8 := fun w => by rw [w] at h4; exact absurd h4 (by decide)
    have h9 : ¬ xA τ 13 c = 9 := fun w => by rw [w] at h4; exact absurd h4 (by decide)
    refine ⟨s, fun N => ?_, BLb.rf _ _ h01, fun T' Y n _ _ _ _ y4 => y4, fun _ _ n hn ha => ?_⟩
    · rw [e1, show p + 1 - p = 1 by omega, B2 hk N _ _ hR]
    · cases n with
      | zero => exact True.intro
      | succ n =>
        unfold Clo
        exact ⟨fun w => by rcases w with w | w | w; exact absurd w h5; exact absurd w h8; exact absurd w h9, fun w => absurd w h6, fun w => absurd w h7⟩
  · have hmo := ll_mo (fun i hi => (f i hi).2)
    obtain ⟨s', r1, r2, r3, r4⟩ := bl_kids (lo := lo) (hi := hi) g (fun i hi => by
      have h1 := hmo i 0 (by omega) (by omega)
      have h2 := hmo k (i + 1) (by omega) (by omega)
      have h3 := (f i hi).1
      exact ⟨by omega, by omega, by omega⟩) hpe hhi hR h01 hB
    have hk : ¬ xA μ 31 (nI p) = 0 := by
      rcases a with ⟨_, w, _⟩ | ⟨_, w, _⟩ | ⟨_, w⟩ <;> rw [w] <;> decide
    have ak : xA τ 13 c = 5 ∨ xA τ 13 c = 8 ∨ xA τ 13 c = 9 := by
      rcases a with ⟨z, _⟩ | ⟨z, _⟩ | ⟨z, _⟩
      · exact Or.inl z
      · exact Or.inr (Or.inl z)
      · exact Or.inr (Or.inr z)
    refine ⟨s', fun N => ?_, r2, fun T' Y n y1 hn hc y2 y3 => ?_, fun y1 y2 n hn ha => ?_⟩
    · have := r1 (N + 1)
      rw [B2 hk N _ _ (r2.1.1.rw hR)] at this
      rw [show N + (p + 1 - q) = N + 1 + (p - q) by omega]
      exact this
    · obtain ⟨n, rfl⟩ : ∃ m, n = m + 1 := ⟨n - 1, by omega⟩
      unfold Clo at hc
      have u := hc.1 ak
      rw [c1.1] at u
      exact r3 T' Y y1 (fun i hi => ⟨n, by have := (f i hi).1; omega, chA_at (P := fun a => Clo τ pa T' Y n a) c1.2 9 0 i (by omega) hi (by omega) u⟩) y2 y3
    · obtain ⟨n, rfl⟩ : ∃ m, n = m + 1 := ⟨n - 1, by omega⟩
      unfold Alv at ha
      have u := ha.1 ak
      rw [c1.1] at u
      unfold Clo
      refine ⟨fun _ => ?_, fun w => ?_, fun w => ?_⟩
      · rw [c1.1]
        exact chA_mk0 b.1 (fun i hi => (c1.2 i hi).2) (fun i hi => r4 y1 y2 i hi n (by have := (f i hi).1; omega) (chA_at (P := fun a => Alv τ X0 n a) c1.2 9 0 i (by omega) hi (by omega) u)) 9
      · rcases ak with z | z | z <;> rw [z] at w <;> exact absurd w (by decide)
      · rcases ak with z | z | z <;> rw [z] at w <;> exact absurd w (by decide)
  · have hmo := ll_mo (fun i hi => (o i hi).2)
    have hm0 := hmo l 0 (by omega) (by omega)
    obtain ⟨s', r1, r2, r3, r4⟩ := bl_kids (lo := lo) (hi := hi) r (fun i hi => by
      have h1 := hmo i 0 (by omega) (by omega)
      by_cases hil : i < l
      · rw [if_pos hil, if_pos hil]
        have h2 := hmo l (i + 1) (by omega) (by omega)
        have h3 := (o i hil).1
        exact ⟨by omega, by omega, by omega⟩
      · rw [if_neg hil, if_neg hil]
        exact ⟨by omega, Nat.le_refl _, by omega⟩) hpe hhi hR h01 hB
    have hR' := r2.1.1.rw hR
    obtain ⟨qq, pp, k1, k2, k3, k4, k5, k6⟩ := r
    have hqq : ∀ i, i < l + 1 → qq i ≤ pp i ∧ qq (i + 1) = pp i + 1 := fun i hi => ⟨(k6 i hi).2.1, (k6 i hi).2.2.2.1⟩
    have hkid : ∀ i, i < l → JT τ μ F (xA τ 16 (bb i)) (qq i) (pp i) (Sx Sc lo l) (ll i) (ll (i + 1)) := fun i hil => by
      have h2 := (k6 i (by omega)).1.1
      dsimp only at h2
      rw [if_pos hil, if_pos hil] at h2
      exact h2
    have hbit : ∀ i, i < l → xA s'.2 50 (nI (pp i)) = b2i (dv τ pa T X0 41 (xA τ 16 (bb i))) := fun i hil => by
      rw [r2.1.2.1]
      have h1 := hmo l (i + 1) (by omega) (by omega)
      have h3 := (o i hil).1
      have h4 := qq_mo hqq i 0 (by omega) (by omega)
      have h5 := (k6 i (by omega)).2.2.1
      exact hB _ _ _ _ _ _ (hkid i hil) (by omega) (by omega) (by omega) (by omega)
    obtain ⟨mo', ρ2, t1, t2, t3, t4⟩ := bl_L189 (a1 := a1) (a2 := nI e) (mo0 := s'.1) (bv := fun i => dv τ pa T X0 41 (xA τ 16 (bb i))) g2 hR' b g i k1 (by omega) d.2 (by omega) (fun i hi => ⟨(k6 i (by omega)).2.2.2.2, by have := (k6 i (by omega)).2.2.1; omega⟩) hbit (fun x hx => r2.2.1 (lo + x) (by omega)) rec143 l 0 FU s'.1 s'.2 (by omega) (by show l < 1099511627776; omega) ⟨Fr51.rf _ _ _, fun x hx => absurd hx (by omega), fun _ _ _ => rfl, ⟨fun w => Or.inl w, fun w => by rcases w with w | ⟨x, x1, _⟩; exact w; exact absurd x1 (by omega)⟩⟩
    have hx2 : ∀ x, x < H → ¬ (lo ≤ x ∧ x < lo + l) → hX ρ2 x = hX s'.2 x := fun x hx hz => t2.hx (by omega) (by omega)
    have hxl : ∀ y, y < l → hX ρ2 (lo + y) = (hX s'.2 (lo + y) || dv τ pa T X0 41 (xA τ 16 (bb y))) := fun y hy => by
      have h1 : hX ρ2 (lo + y) = decide (b2i (hX s'.2 (lo + y) || dv τ pa T X0 41 (xA τ 16 (bb y))) = 1) := by
        show decide (xA ρ2 51 (nI (lo + y)) = 1) = _
        rw [t3 y hy]
      rw [h1]
      cases (hX s'.2 (lo + y) || dv τ pa T X0 41 (xA τ 16 (bb y))) <;> decide
    have hstep : BLb H lo hi s' (mo', ρ2) := by
      refine ⟨t2.wd (Nat.le_refl _) (by omega), fun x hx => ?_, fun x hx w => ?_, fun w => ?_, fun w => ?_⟩
      · by_cases hz : lo ≤ x ∧ x < lo + l
        · have := t3 (x - lo) (by omega)
          rw [show lo + (x - lo) = x by omega] at this
          show xA ρ2 51 (nI x) = 0 ∨ xA ρ2 51 (nI x) = 1
          rw [this]
          exact b2i_01 _
        · show xA ρ2 51 (nI x) = 0 ∨ xA ρ2 51 (nI x) = 1
          rw [t2.2.2 x (by omega) (by omega)]
          exact r2.2.1 x hx
      · show hX ρ2 x = true
        by_cases hz : lo ≤ x ∧ x < lo + l
        · have := hxl (x - lo) (by omega)
          rw [show lo + (x - lo) = x by omega] at this
          rw [this, w]
          rfl
        · rw [hx2 x hx hz]
          exact w
      · have w : mo' = false := w
        have hs : s'.1 = false := by
          cases e : s'.1 with
          | false => rfl
          | true => rw [t4.mpr (Or.inl e)] at w; exact absurd w (by decide)
        refine ⟨hs, fun x hx => ?_⟩
        show hX ρ2 x = hX s'.2 x
        by_cases hz : lo ≤ x ∧ x < lo + l
        · have h1 := hxl (x - lo) (by omega)
          rw [show lo + (x - lo) = x by omega] at h1
          rw [h1]
          cases e1 : hX s'.2 x with
          | true => rfl
          | false =>
            cases e2 : dv τ pa T X0 41 (xA τ 16 (bb (x - lo))) with
            | false => rfl
            | true =>
              rw [t4.mpr (Or.inr ⟨x - lo, by omega, e2, by rw [show lo + (x - lo) = x by omega]; exact e1⟩)] at w
              exact absurd w (by decide)
        · exact hx2 x hx hz
      · cases e : mo' with
        | false => exact Or.inl rfl
        | true =>
          rcases t4.mp e with z | ⟨y, y1, y2, y3⟩
          · rw [w] at z; exact absurd z (by decide)
          · refine Or.inr ⟨lo + y, by omega, y3, ?_⟩
            show hX ρ2 (lo + y) = true
            rw [hxl y y1, y2, Bool.or_true]
    refine ⟨(mo', ρ2), fun N => ?_, r2.tr hstep, fun T' Y n y1 hn hc y2 y3 x hx hxx => ?_, fun y1 y2 n hn ha => ?_⟩
    · have h1 := r1 (N + 1)
      rw [B1 N _ _ hR'] at h1
      rw [show N + (p + 1 - q) = N + 1 + (p - q) by omega, h1]
      exact t1 (f_X12_bitOfPart_L180 rec143 N)
    · obtain ⟨n, rfl⟩ : ∃ m, n = m + 1 := ⟨n - 1, by omega⟩
      unfold Clo at hc
      obtain ⟨u1, u2⟩ := hc.2.2 a
      rw [e5] at u2
      have uu := fun i (hi : i < l) => chA_at (P := fun b => Clo τ pa T' Y n (xA τ 16 b) ∧ (dv τ pa T' Y n (xA τ 16 b) = true → Y (xA τ 14 b).toNatClampNeg = true)) (fun i hi => ⟨(f i hi).1, (f i hi).2.2⟩) 9 0 i (by omega) hi (by omega) u2
      have h3 := r3 T' Y y1 (fun i hi => by
        by_cases hil : i < l
        · rw [if_pos hil]
          exact ⟨n, by have := (o i hil).1; omega, (uu i hil).1⟩
        · rw [if_neg hil]
          exact ⟨n, by omega, u1⟩) y2 y3
      have hxx : hX ρ2 x = true := hxx
      by_cases hz : lo ≤ x ∧ x < lo + l
      · have h4 := hxl (x - lo) (by omega)
        rw [show lo + (x - lo) = x by omega] at h4
        rw [h4, Bool.or_eq_true] at hxx
        rcases hxx with w | w
        · exact h3 x hx w
        · have h5 := (o (x - lo) (by omega)).1
          have hv := (hkid (x - lo) (by omega)).h.2.2.2.1
          have h6 : dv τ pa T' Y n (xA τ 16 (bb (x - lo))) = true := by
            rw [dv_fu hv n 41 (by omega) (by omega)]
            exact dv_le y1 (fun x w => y2 x w) 41 _ w
          have h7 := (uu (x - lo) (by omega)).2 h6
          rw [(f (x - lo) (by omega)).2.1, nI_clamp (by omega), show lo + (x - lo) = x by omega] at h7
          exact h7
      · rw [hx2 x hx hz] at hxx
        exact h3 x hx hxx
    · have y1 : mo' = false := y1
      obtain ⟨h1, h2⟩ := hstep.2.2.2.1 y1
      have h3 := r2.2.2.2.1 h1
      obtain ⟨n, rfl⟩ : ∃ m, n = m + 1 := ⟨n - 1, by omega⟩
      unfold Alv at ha
      obtain ⟨u1, u2⟩ := ha.2.2 a
      rw [e5] at u2
      have uu := fun i (hi : i < l) => chA_at (P := fun b => Alv τ X0 n (xA τ 16 b)) (fun i hi => ⟨(f i hi).1, (f i hi).2.2⟩) 9 0 i (by omega) hi (by omega) u2
      unfold Clo
      refine ⟨fun w => ?_, fun w => ?_, fun _ => ⟨?_, ?_⟩⟩
      · rcases w with w | w | w <;> rw [a] at w <;> exact absurd w (by decide)
      · rw [a] at w; exact absurd w (by decide)
      · have := r4 h1 y2 l (by omega) n
        rw [if_neg (by omega)] at this
        exact this (by omega) u1
      · rw [e5]
        refine chA_mk0 d.1 (fun i hi => (f i hi).2.2) (fun i hi => ⟨?_, fun w => ?_⟩) 9
        · have := r4 h1 y2 i (by omega) n
          rw [if_pos hi] at this
          exact this (by have := (o i hi).1; omega) (uu i hi)
        · have h5 := (o i hi).1
          have h6 := hmo i 0 (by omega) (by omega)
          have hv := (hkid i hi).h.2.2.2.1
          rw [dv_fu hv n 41 (by omega) (by omega)] at w
          rw [(f i hi).2.1, nI_clamp (by omega), ← y2 (lo + i) (by omega), ← h3.2 (lo + i) (by omega)]
          cases e1 : hX s'.2 (lo + i) with
          | true => rfl
          | false =>
            rw [t4.mpr (Or.inr ⟨i, hi, w, e1⟩)] at y1
            exact absurd y1 (by decide)
  · have hmj : ∀ i, i < l → ll i + jj i ≤ ll (i + 1) := fun i hi => (o i hi).2
    have hmo := ll_mo (k := l) (ll := ll) (fun i hi => by have := hmj i hi; omega)
    have hm0 := hmo l 0 (by omega) (by omega)
    obtain ⟨s', r1, r2, r3, r4⟩ := bl_kids (lo := lo) (hi := hi) r (fun i hi => by
      have h2 := hmo l i (by omega) (by omega)
      by_cases hi0 : i = 0
      · rw [if_pos hi0, if_pos hi0]
        exact ⟨Nat.le_refl _, by omega, by omega⟩
      · rw [if_neg hi0, if_neg hi0]
        have h1 := hmo (i - 1) 0 (by omega) (by omega)
        have h3 := (o (i - 1) (by omega)).1
        exact ⟨by omega, by omega, by omega⟩) hpe hhi hR h01 hB
    refine ⟨s', fun N => ?_, r2, fun T' Y n y1 hn hc y2 y3 => ?_, fun y1 y2 n hn ha => ?_⟩
    · have := r1 (N + 1)
      rw [B2 (by rw [b]; decide) N _ _ (r2.1.1.rw hR)] at this
      rw [show N + (p + 1 - q) = N + 1 + (p - q) by omega]
      exact this
    · obtain ⟨n, rfl⟩ : ∃ m, n = m + 1 := ⟨n - 1, by omega⟩
      unfold Clo at hc
      obtain ⟨u1, u2⟩ := hc.2.1 a
      rw [e5] at u2
      have uu := fun i (hi : i < l) => chA_at (P := fun a => Clo τ pa T' Y n (xA τ 16 a) ∧ (xA τ 13 a = 11 → ∀ q, q < (xA τ 2 (xA τ 14 a)).toNatClampNeg → Y ((xA τ 15 a).toNatClampNeg + q) = true)) f 9 0 i (by omega) hi (by omega) u2
      refine r3 T' Y y1 (fun i hi => ?_) y2 y3
      by_cases hi0 : i = 0
      · rw [if_pos hi0]
        exact ⟨n, by omega, u1⟩
      · rw [if_neg hi0]
        exact ⟨n, by have := (o (i - 1) (by omega)).1; omega, (uu (i - 1) (by omega)).1⟩
    · obtain ⟨n, rfl⟩ : ∃ m, n = m + 1 := ⟨n - 1, by omega⟩
      unfold Alv at ha
      obtain ⟨u1, u2⟩ := ha.2.1 a
      rw [e5] at u2
      have uu := fun i (hi : i < l) => chA_at (P := fun a => Alv τ X0 n (xA τ 16 a) ∧ (xA τ 13 a = 11 → ∀ q, q < (xA τ 2 (xA τ 14 a)).toNatClampNeg → X0 ((xA τ 15 a).toNatClampNeg + q) = true)) f 9 0 i (by omega) hi (by omega) u2
      unfold Clo
      refine ⟨fun w => ?_, fun _ => ⟨?_, ?_⟩, fun w => ?_⟩
      · rcases w with w | w | w <;> rw [a] at w <;> exact absurd w (by decide)
      · exact r4 y1 y2 0 (by omega) n (by show hF τ (xA τ 16 c) < n; omega) u1
      · rw [e5]
        exact chA_mk0 d.1 (fun i hi => (f i hi).2) (fun i hi => ⟨r4 y1 y2 (i + 1) (by omega) n (by show hF τ (xA τ 16 (aa i)) < n; have := (o i hi).1; omega) (uu i hi).1, (uu i hi).2⟩) 9
      · rw [a] at w; exact absurd w (by decide)
