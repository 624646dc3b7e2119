theorem LTN.h40 {τ μ : S5} {F V T : Nat} {c : Int32} {q p : Nat} (h : LTN τ μ F V T c q p) : hF τ c ≤ 40 → ∀ x, q ≤ x → x ≤ p → (xA μ 37 (nI x)).toNatClampNeg ≤ 40 := by
  refine LTN.ind (P := fun c q p => hF τ c ≤ 40 → ∀ x, q ≤ x → x ≤ p → (xA μ 37 (nI x)).toNatClampNeg ≤ 40) ?_ h
  clear h
  intro c q p h hc x x0 x1
  have e37 : xA μ 37 (nI p) = xA τ 18 c := h.1.2.1
  have own : (xA μ 37 (nI p)).toNatClampNeg ≤ 40 := by
    rw [e37]
    exact hc
  by_cases e : x = p
  · rw [e]
    exact own
  rcases h.1.cn with ⟨-, e2, -⟩ | ⟨k, cc, qq, pp, -, -, e2, e3, f⟩
  · omega
  · have key : ∀ j, j ≤ k → x < qq j → (xA μ 37 (nI x)).toNatClampNeg ≤ 40 := by
      intro j
      induction j with
      | zero => intro _ w; omega
      | succ j ih =>
        intro hj w
        by_cases hx : x < qq j
        · exact ih (by omega) hx
        · obtain ⟨⟨⟨-, f1⟩, f1'⟩, f2, f3, f4, f5⟩ := f j (by omega)
          exact f1 (by omega) x (by omega) (by omega)
    exact key k (Nat.le_refl _) (by omega)
/-- WHAT MUST BE KNOWN OF A PROGRAM TO RUN IT -/
theorem prh_of {τ μ τp : S5} {F k T : Nat} {pa nv : Nat → Nat} {Tt : Nat → (Nat → Bool) → Bool} {Dom : Int32 → Prop} (hW : PRgW τ μ F k T pa nv Tt) (hD : DmB τ Dom) (hr : ∀ f, f < F → Dom (xA τ 7 (nI f))) (hDd : ∀ f, f < F → wtN (wD μ pa) μ (xA μ 45 (nI f)).toNatClampNeg ≤ 600) (h2 : TR2 τp τ) (h3 : X3s τp τ) (hz : xA τ 2 0 = 0 ∧ xA τ 2 1 = 0) (hm : xA τ 3 (gI τ 7) ≤ 0) : PRh τ μ := by
  obtain ⟨⟨w1, w2, w3, w4⟩, ⟨w5, w6⟩, ⟨w7, w8, w9, w10⟩, ⟨w11, w12⟩, w13, w14, w15, ⟨w16, w17, w18⟩, wf⟩ := hW
  have st : ∀ f, f < F → ∃ c q p hi, xA τ 7 (nI f) = c ∧ xA μ 45 (nI f) = nI p ∧ LTN τ μ F (nv f) T c q p ∧ VT τ c (pa f) hi ∧ hi ≤ nv f ∧ nv f ≤ 40 ∧ (∀ x, UB τ c x → x < pa f) ∧ (∀ x, q ≤ x → x ≤ p → NFx μ f x) ∧ hF τ c ≤ 40 := fun f hf => by
    obtain ⟨q, p, hi, ⟨a1, a2, a3, a4⟩, -, ⟨b1, b2, b3⟩, ⟨c1, c2, c3⟩, -, d, ⟨e1, e2, e3⟩, -⟩ := wf f hf
    obtain ⟨v1, v2⟩ := vt_of hD d _ _ _ e1 (hr f hf) (fun x w => w) (by omega)
    have h40 := d.h40 e3
    exact ⟨_, q, p, hi, rfl, c2, d, v1, e2, b3, v2, fun x x0 x1 => ⟨c3 x x0 x1, h40 x x0 x1⟩, e3⟩
  refine ⟨F, k, T, pa, nv, wtN (wD μ pa) μ, wtN (wE μ) μ, ⟨⟨w1, w2, w3⟩, w13, ⟨w7, w8⟩, hz, fun f hf => ?_⟩, dst_of w1 hDd, est_of (fun f hf => ?_), fun g j hg hj => ?_, fun f c p Sc hN h7 hn => ?_, w6, ?_⟩
  · obtain ⟨q, p, hi, ⟨a1, a2, a3, a4⟩, -, ⟨b1, b2, b3⟩, -⟩ := wf f hf
    obtain ⟨c, q', p', hi', s1, s2, s3, s4, s5, s6, s7, s8, s9⟩ := st f hf
    have := s4.le
    exact ⟨⟨a1, a2, a3, a4⟩, ⟨b1, b2, by omega, b3⟩, c, p', s1, s2, ⟨hf, q', pa f, hi', ⟨s3, s4, s7, fun x w => w, by omega⟩, s5, s8⟩, s9⟩
  · obtain ⟨c, q, p, hi, s1, s2, s3, -⟩ := st f hf
    exact ⟨c, q, p, s2, s3⟩
  · obtain ⟨q, p, hi, ⟨d1, d2, d3, -⟩, -, -, -, -, -, -, d8, d9, -⟩ := wf g hg
    have hw : ndN Tt pa g < 256 := by
      have h1 := rwN_lt (fun i => !Tt g (fun j => decide (¬ j = i))) (pa g)
      have h2 : 2 ^ pa g ≤ 256 := Nat.pow_le_pow_right (n := 2) (by decide) d3
      unfold ndN
      omega
    have hb : (ndN Tt pa g).testBit j = !Tt g (fun k => decide (¬ k = j)) := rwN_bit _ _ _ hj
    have hc := bt_ (ndN Tt pa g) j hw (by omega)
    rw [hb] at hc
    rw [d8, d9 j hj, hc]
    cases (!Tt g (fun k => decide (¬ k = j)))
    · exact ⟨fun _ => rfl, fun _ => rfl⟩
    · exact ⟨fun w => absurd w (by decide), fun w => absurd w (by decide)⟩
  · obtain ⟨-, q, lo, hi, ⟨hl, hv, -, -, h40⟩, -⟩ := hN
    obtain ⟨⟨⟨-, h1b, h1c, c0, c6⟩, -, -, -, h5⟩, -⟩ := hl.un
    have c8 : c < gI τ 8 := by
      rcases hv.un with ⟨⟨-, q1⟩, -⟩ | ⟨q1, -⟩ | ⟨-, l, bb, ll, -, -, ⟨-, -, q4⟩, -⟩ | ⟨q1, -⟩
      · rw [h7] at q1; exact absurd q1 (by decide)
      · rw [h7] at q1; exact absurd q1 (by decide)
      · exact q4
      · rw [h7] at q1; exact absurd q1 (by decide)
    obtain ⟨y1, y2⟩ := h3 c c0 c8 h7 hn
    rcases h5 with ⟨-, -, -, b4⟩ | ⟨b1, -⟩ | ⟨b1, -⟩ | ⟨b1, -⟩ | ⟨b1, b2, l, x0, bb, cc, cq, b3, b4, b5, b6, b7, b8, b9, b10, b11, b12⟩ | ⟨b1, -⟩
    · rcases b4 with ⟨w, _⟩ | ⟨w, _⟩ | ⟨w, _⟩ | ⟨w, _⟩ | ⟨w, _⟩ <;> rw [w] at h7 <;> exact absurd h7 (by decide)
    · rw [b1] at h7; exact absurd h7 (by decide)
    · rw [b1] at h7; exact absurd h7 (by decide)
    · rw [b1] at h7; exact absurd h7 (by decide)
    · obtain ⟨d1, d2, d3, d4, d5, d6, d7⟩ := b11 0 (by omega)
      have e16 : ∀ x, xA τp 16 x = xA τ 16 x := fun x => (h2.1 16 x (by decide)).symm
      have e17 : ∀ x, xA τp 17 x = xA τ 17 x := fun x => (h2.1 17 x (by decide)).symm
      have e13 : ∀ x, xA τp 13 x = xA τ 13 x := fun x => (h2.1 13 x (by decide)).symm
      rw [e16, e17, e17, b8, b10, d7] at y1
      rw [e16, e17, e16, b8, b10, ← h2.2.1 (bb 0) (by rw [e13, d2]; decide), ← h2.2.2.2] at y2
      have l1 : l = 1 := by
        by_cases hl2 : 0 + 1 < l
        · rw [if_pos hl2] at y1
          have := (b11 (0 + 1) hl2).1
          rw [y1] at this
          exact absurd this (by decide)
        · omega
      refine ⟨by rw [b5, l1]; rfl, fun x hx ex ub' => ?_⟩
      rw [b8, b10] at ex ub'
      rw [ex, ub_c (by omega)] at y2
      unfold UB at ub'
      rw [if_pos ub'] at y2
      exact absurd y2 (by decide)
    · rw [b1] at h7; exact absurd h7 (by decide)
  · rcases tp_rg (b := xB τ 1) (z := 1835100526) k 0 with h1 | ⟨mf, -, m2, m3, -⟩
    · exact absurd (w11.trans h1) w12
    · have hmk : mf < k := by omega
      refine ⟨mf, hmk, w11.trans m3, ?_, fun ν hq => ?_⟩
      · obtain ⟨q, p, hi, ⟨a1, -, a3, -⟩, -⟩ := wf mf (by omega)
        rw [w11.trans m3, a1] at hm
        have := (nI_le31 (a := pa mf) (b := 0) (by omega) (by omega)).mp hm
        omega
      · have n13 : gI ν 13 = nI k := (hq.1 13 (by omega)).trans w8
        have nb : ∀ i, i < k → xB ν 2 (nI i) = xB τ 1 (nI i) := fun i hi => by
          show gB ν 2 _ = _
          rw [hq.2.2 2 (by omega)]
          exact (w9 i hi).symm
        have := mf_L4 (μ := ν) w3 n13 (fun i j hij hj => by rw [nb i (by omega), nb j hj]; exact w10 i j hij hj) k 0 FU (-1) (by omega) (by unfold FU; omega)
        have et : tp (xB ν 2) 1835100526 k 0 = nI mf := by
          rw [tp_congr (b2 := xB τ 1) k 0 (fun x _ hx => nb x (by omega)), m3]
        rw [et, if_neg (fun w => by
          have : nI mf = -1 := w
          exact w12 (w11.trans (m3.trans this)))] at this
        exact this
