/-- a let, taken apart -/
theorem let_un {τ μ0 : S5} {F k T : Nat} {pa nv : Nat → Nat} (hS : PSt τ μ0 F k T pa nv) {f : Nat} {c : Int32} {p : Nat} {Sc : Nat → Prop} (hN : ND τ μ0 F T nv f c p Sc) (hk : xA τ 13 c = 7) (h40 : hF τ c ≤ 40) : ∃ (l lo ct0 bp : Nat) (bb kc : Nat → Int32) (kp : Nat → Nat) (b : Int32), LTb τ μ0 F T nv f p lo l ct0 (Sx Sc lo l) bb kc kp ∧ (1 ≤ l ∧ (∀ x, Sc x → x < lo)) ∧ (xA τ 16 c = b ∧ 0 ≤ b ∧ b < 6200 ∧ xA τ 17 b = bb 0) ∧ (ND τ μ0 F T nv f b bp (Sx Sc lo l) ∧ hF τ b < hF τ c ∧ bp < 7000) ∧ (xA μ0 31 (nI p) = 0 ∧ xA μ0 32 (nI p) = nI l ∧ xA μ0 35 (nI p) = nI lo ∧ xA μ0 39 (nI (ct0 + l)) = nI bp ∧ ct0 + l + 1 ≤ 14000) ∧ (xA τ 14 c = xA μ0 36 (nI p) ∧ (xA τ 14 c = 0 ∨ xA τ 14 c = 1)) ∧ (0 ≤ c ∧ c < 6200) ∧ (∀ j, j < l → hF τ (kc j) < hF τ c) := by
  obtain ⟨hfF, q, lo, hi, hx, hhi, h38⟩ := hN
  have hnv := (hS.2.2.2.2 f hfF).2.1.2.2.2
  obtain ⟨⟨u1, u2, uc, u3, u5, -⟩, um, h3⟩ := hx.un hnv
  rcases h3 with ⟨-, -, -, -, w⟩ | ⟨_, _, _, _, w, -⟩ | ⟨w1, w2, l, ct0, bb, ll, ⟨l1, l5⟩, x32, x35, x17, xb, xl0, xlh, hxk⟩ | ⟨w1, -⟩
  · exfalso
    rcases w with ⟨a, -⟩ | ⟨a, -⟩ | ⟨a, -⟩ | ⟨a, -⟩ | ⟨a, -⟩ <;> rw [a] at hk <;> exact absurd hk (by decide)
  · exfalso
    rcases w with ⟨a, -⟩ | ⟨a, -⟩ | ⟨a, -⟩ <;> rw [a] at hk <;> exact absurd hk (by decide)
  · have hll : ∀ i, i < l → ll i ≤ ll (i + 1) := fun i hi' => by
      obtain ⟨qq, pp, -, -, -, -, -, z⟩ := hxk
      have := (z i (by omega)).1.2.1.le
      simp only [if_pos hi'] at this
      exact this
    have hlh : ll l ≤ hi := by
      obtain ⟨qq, pp, -, -, -, -, -, z⟩ := hxk
      have := (z l (by omega)).1.2.1.le
      simp only [if_neg (Nat.lt_irrefl l)] at this
      exact this
    have hmo := ll_mo (k := l) (ll := ll) hll
    obtain ⟨x33, x14, x34, pp, xk⟩ := XK.nd hfF hxk h38 (fun i hi' => by
      by_cases hil : i < l
      · simp only [if_pos hil]
        have := hmo l (i + 1) (by omega) (by omega)
        omega
      · simp only [if_neg hil]
        exact hhi) u2
    have kb := xk l (by omega)
    simp only [if_neg (Nat.lt_irrefl l)] at kb
    refine ⟨l, lo, ct0, pp l, bb, fun i => xA τ 16 (bb i), pp, xA τ 16 c, ⟨u2, l5, by omega, x33, by omega, fun j hj => ?_⟩, ⟨l1, hx.2.2.2.1⟩, ⟨rfl, kb.2.2.1.1, kb.2.2.1.2, x17⟩, ⟨kb.1, kb.2.1, kb.2.2.2.1⟩, ⟨w2, x32, x35, kb.2.2.2.2, by omega⟩, um.1 hk, uc, fun j hj => ?_⟩
    · have kj := xk j (by omega)
      simp only [if_pos hj] at kj
      obtain ⟨d1, d2, d3, d4, d5⟩ := xb j hj
      exact ⟨d1, d3, rfl, d5, kj.1, (show hF τ (xA τ 16 (bb j)) < 64 from by have := kj.2.1; omega), kj.2.2.1, kj.2.2.2.1, kj.2.2.2.2⟩
    · have kj := xk j (by omega)
      simp only [if_pos hj] at kj
      exact kj.2.1
  · rw [w1] at hk
    exact absurd hk (by decide)
/-- A LET'S BINDINGS ARE KEPT, and its body is begun -/
theorem letk_go {τ μ0 : S5} {F k T : Nat} {pa nv : Nat → Nat} (hS : PSt τ μ0 F k T pa nv) {σ μ : S5} (hP : eqP τ σ) (hQ : eqQ μ0 μ) {n : Nat} {tg ct : Nat → Nat} (hH : HS τ μ0 F T pa nv σ μ n tg ct (fun _ => True)) (hn : NR σ μ) (h0 : gI μ 44 = 0) {f base : Nat} {Sc : Nat → Prop} (hE : EV τ F k pa nv σ μ n tg ct f base Sc) {p lo l ct0 : Nat} {bb kc : Nat → Int32} {kp : Nat → Nat} (hL : LTb τ μ0 F T nv f p lo l ct0 (Sx Sc lo l) bb kc kp) (hl1 : 1 ≤ l) (hlo : ∀ x, Sc x → x < lo) (h32 : xA μ0 32 (nI p) = nI l) (h35 : xA μ0 35 (nI p) = nI lo) (b : Int32) : (∃ (τ' ν : S5) (n' : Nat) (tg' ct' : Nat → Nat), f_X3_workLet_b74 b (bb 0) σ = some ((), pI (pI τ' 44 b) 45 1) ∧ f_X12_keepBindings (nI p) μ = some ((), ν) ∧ HS τ μ0 F T pa nv τ' ν n' tg' ct' (fun _ => True) ∧ Gro n tg ct n' tg' ct' ∧ NR τ' ν ∧ gI ν 44 = 0 ∧ FlC σ τ' ∧ FlM μ ν ∧ EV τ F k pa nv τ' ν n' tg' ct' f base (Sx Sc lo l) ∧ (∀ c, c < n → gA ν 53 c = gA μ 53 c) ∧ (∀ j, VL τ F pa n tg ct (gB σ 13 j) (gB μ 9 j) → VL τ F pa n' tg' ct' (gB τ' 13 j) (gB ν 9 j)) ∧ ∀ j, j < pre ct n → gB ν 7 j = gB μ 7 j) ∨ (∃ (τ' ν : S5), f_X3_workLet_b74 b (bb 0) σ = some ((), pI (pI τ' 44 b) 45 1) ∧ f_X12_keepBindings (nI p) μ = some ((), ν) ∧ OV τ' ν ∧ FlC σ τ' ∧ FlM μ ν) := by
  have hb := FU_big (n := 5000) (by decide)
  have hp7 := hL.1
  have hl5 := hL.2.1
  have e232 : ∀ s : S5, f_X3_workLet_b232 b s = some ((), pI (pI s 44 b) 45 1) := fun s => by
    show gq (gN (pI (pI s 44 b) 45 1) 1) (gN s 1) _ = _
    unfold gq
    exact (if_pos rfl).trans (if_pos rfl)
  have hC : f_X3_workLet_b74 b (bb 0) σ = f_X3_workLet_L80 FU b (bb 0) (nI 0) (if 0 < l then bb 0 else -1) σ := by
    rw [if_pos (by omega)]
    rfl
  have hM : f_X12_keepBindings (nI p) μ = f_X12_keepBindings_L17 FU (nI p) (nI l) (nI lo) (nI 0) μ := by
    unfold f_X12_keepBindings
    rw [gdn hp7 (by omega), gdn hp7 (by omega), hQ.x 32 _ (by decide), h32, hQ.x 35 _ (by decide), h35]
    rfl
  rw [hC, hM]
  rcases bnd1 hS hL b (bb 0) (n0 := n) l 0 FU σ μ n tg ct (by omega) (by omega) hP hQ rfl (hH.rd (fun _ _ _ => trivial)) hn h0 hE hlo (fun j hj => absurd hj (Nat.not_lt_zero j)) with ⟨τ1, ν1, n1, tg1, ct1, a1, a2, a3, a4, a5, a6, a7, a8, a9, a10, a11, a12, a13, a14⟩ | ⟨τ1, ν1, a1, a2, a3, a4, a5⟩
  · have hE' : EV τ F k pa nv τ1 ν1 n1 tg1 ct1 f base (Sx Sc lo l) := by
      refine ⟨a10.1, fun x hx => ?_, a10.2.2⟩
      rcases hx with hx | hx
      · exact a10.2.1 x hx
      · have := (a11 (x - lo) (by omega)).1
        rw [show lo + (x - lo) = x by omega] at this
        exact this
    have hR : HS τ μ0 F T pa nv τ1 ν1 n1 tg1 ct1 (Rdi τ kc n n1 0) := by
      refine ⟨a4.1, fun c hc => ?_⟩
      obtain ⟨z1, z2, z3⟩ := a4.2 c hc
      refine ⟨z1, z2, fun w => z3 ?_⟩
      rcases w with w | w | ⟨j, j1, -⟩
      · exact w
      · omega
      · omega
    rw [a1, a2]
    rcases bnd2 hS hL (n0 := n) (n1 := n1) a3 b l 0 FU τ1 ν1 n1 tg1 ct1 (by omega) (by omega) (hP.fl a8) (hQ.fl a9) (Nat.le_refl _) hR a6 a7 hE' (fun j _ j2 => a11 j j2) with ⟨τ2, ν2, n2, tg2, ct2, b1, b2, b3, b4, b5, b6, b7, b8, b9, b10, b11⟩ | ⟨τ2, ν2, b1, b2, b3, b4, b5⟩
    · rw [if_pos (show 0 < l by omega)] at b1
      refine Or.inl ⟨τ2, ν2, n2, tg2, ct2, ?_, b2, b3, a5.tr b4, b5, b6, a8.tr b7.l, a9.tr b8.l, b9, fun c hc => (b10 c (by have := a5.1; omega)).trans (a12 c hc), fun j hj => ?_, fun j hj => ?_⟩
      · unfold f_X3_workLet_b153
        rw [show (0 : Int32) = nI 0 from rfl, b1, e232]
      · rw [b7.2.2.2.1 13 (by decide), b8.2.2.2.1 9 (by decide)]
        exact (a13 j hj).gr b4
      · rw [b11 a5.1 j (by rw [(a5.ad (Nat.le_refl n)).2]; exact hj), a14]
    · rw [if_pos (show 0 < l by omega)] at b1
      refine Or.inr ⟨τ2, ν2, ?_, b2, b3, a8.tr b4.l, a9.tr b5.l⟩
      unfold f_X3_workLet_b153
      rw [show (0 : Int32) = nI 0 from rfl, b1, e232]
  · rw [a1, a2]
    refine Or.inr ⟨τ1, ν1, ?_, ?_, a3, a4, a5⟩
    · have hov : ¬ xA τ1 40 0 = 0 := fun w => a3.2 (a3.1.1.1.symm.trans w)
      unfold f_X3_workLet_b153
      rw [show (0 : Int32) = nI 0 from rfl, w159_ov hov (by omega) _ _ FU (by omega), e232]
    · unfold f_X12_keepBindings_b122
      exact w125_ov a3.2 _ _ _ _ FU (by omega)
