theorem i_su {a b : Int32} (h : a < b) : a + 1 ≤ b := by grind
theorem gc_funT {σ ν τr τv τu τp μm : S5} {k U F C : Nat} {S : Int32} {sc : Nat → Int32} {cf : Nat → Nat} (hX : PX σ ν τr τv τu τp k U F C S sc cf) (hM : MX σ ν τr τv μm k U F S cf) {f S0 : Nat} (hf : f < F) (hS0 : 1 ≤ S0) {R : R10} {h s s' u u' n b t c : Int32} (q : TFun σ ν R h s s' u u' n b t c) (hk : xA ν 2 n = 1 ∨ xA ν 2 n = 2) (hn0 : 0 ≤ n) (hn1 : n < 3200) (hn9 : n < gI ν 9) (hc0 : 0 ≤ c) (hc6 : c < 6200) (hcC : c < nI C) (hs0 : 0 ≤ s) (hs : s < S) (cx : Cx σ ν h s u n t) (hh : xA σ 22 h = sc f) : GoC τp μm F (nvF σ S sc cf f) f n c S0 := by
  obtain ⟨hL, hPU, hPN, h8, hC⟩ := id hX
  obtain ⟨m1, m2, m3, m4, m5, m6, m7, m8, m9, m10⟩ := id hM
  obtain ⟨fr, fm⟩ := hPN.2.2.1 c hc0 hcC
  obtain ⟨e1, e2, e3, e4, e5, e6, e7, e8, -⟩ := q
  obtain ⟨g, g1, g2, g3⟩ := hX.of hs0 hs e5
  have hF : F ≤ 630 := hL.1.2.2.2.1
  have h21 : 0 ≤ xA σ 21 s := by rw [e4]; exact cx.1.1
  have hc8 : cf g ≤ 8 := (hL.2.2.1 g g1).2.2.2.2.1
  have hfm : fM ν n.toNatClampNeg = 1 := by
    unfold fM
    rw [xA_tn, xA_tn, if_pos]
    rcases hk with w | w
    · exact Or.inr ⟨w, e8⟩
    · exact Or.inl w
  have h19 : xA μm 19 n = nI g := by
    rw [m1 19 _ (by omega), m6 n hn0 hn9, if_pos hfm, ← cx.2.2.1, ← m7 s hs0 hs e5 h21, g3]
  have hkn : ∀ p, p < cf g → Kn σ τv S sc cf f (xA τv 5 (nI (g * 8 + p))) := fun p hp => by
    obtain ⟨g', k1, k2, k3⟩ := hL.2.2.2.2.2.2.2.2.1 g p g1 (by rw [g2]; exact h21) hp
    rw [g2, e4, hh] at k2
    have := sc_inj hL k1 hf k2.symm
    rw [this] at k3
    exact k3
  have hP : FnP τp F (nvF σ S sc cf f) g (cf g) (fun p => qn σ τv sc cf f (xA τv 5 (nI (g * 8 + p)))) c := by
    have q := fr.2.2.2.2.2 e1 g g1 (by rw [e2, g2])
    refine ⟨g1, hc8, ⟨hc0, hc6⟩, fun hz => ?_, fun hz => ?_⟩
    · obtain ⟨q1, q2, q3⟩ := q.1 hz
      obtain ⟨r1, r2, r3⟩ := fm.1 q3
      exact ⟨q1, q2, q3, r1, r2, by rw [r3, q1, q2]⟩
    · obtain ⟨n0, g', ⟨q1, q2⟩, q3, q4, q5, q6, q7, q8, q9⟩ := q.2 hz
      rw [g2, e4, hh] at q4
      have eg := sc_inj hL q3 hf q4.symm
      subst eg
      have hn0' : n0 + cf g + 1 ≤ 6100 := by
        have w1 := hL.2.2.2.2.2.2.2.2.2.2.2
        rw [h8, nI_clamp (by omega)] at w1
        have w2 : pre (wlN σ τr cf) (c.toNatClampNeg + 1) ≤ prI (wlN σ τr cf) (nI C) := by
          have := prM (w := wlN σ τr cf) (x := c + 1) (y := nI C) (i_su hcC)
          unfold prI at this
          rw [tn_s hc0 (i_lt_le hc6 (by decide))] at this
          exact this
        omega
      exact ⟨n0, by omega, q5, q7, q8, q9, fun p hp => qn_lt hL.1.2.1.2 (hkn p hp), fm.2.2 e1 g g1 (by rw [e2, g2]) hz n0 q8 (by omega)⟩
  exact gc_fun hn0 hn1 h19 hP hF (m5 g g1).1 (fun μ p hp hw => hM.loc hL hf (hkn p hp) ((m5 g g1).2 p hp) μ hw) hS0
