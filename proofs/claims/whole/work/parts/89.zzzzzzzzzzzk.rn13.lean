/-- what is known of the program that runs -/
def PSt (τ μ : S5) (F k T : Nat) (pa nv : Nat → Nat) : Prop := (F ≤ 630 ∧ k ≤ F ∧ k ≤ 30) ∧ Ct τ μ ∧ (gI τ 5 = nI k ∧ gI μ 13 = nI k) ∧ (xA τ 2 0 = 0 ∧ xA τ 2 1 = 0) ∧ ∀ f, f < F → (xA τ 3 (nI f) = nI (pa f) ∧ xA μ 47 (nI f) = nI (pa f) ∧ pa f ≤ 8 ∧ (k ≤ f → 1 ≤ pa f)) ∧ (xA τ 6 (nI f) = nI (nv f) ∧ xA μ 46 (nI f) = nI (nv f) ∧ pa f ≤ nv f ∧ nv f ≤ 40) ∧ ∃ c p, xA τ 7 (nI f) = c ∧ xA μ 45 (nI f) = nI p ∧ ND τ μ F T nv f c p (fun x => x < pa f) ∧ hF τ c ≤ 40
/-- where a part is worked out: its function's variables, and the functions without parameters -/
def EV (τ : S5) (F k : Nat) (pa nv : Nat → Nat) (σ μ : S5) (n : Nat) (tg ct : Nat → Nat) (f base : Nat) (Sc : Nat → Prop) : Prop := (gI σ 41 = nI base ∧ gI μ 50 = nI base ∧ gI σ 43 = nI f ∧ f < F ∧ base + nv f ≤ gN σ 3 ∧ base + 40 ≤ 193000 ∧ gN σ 3 < 2 ^ 31) ∧ (∀ x, Sc x → VL τ F pa n tg ct (gB σ 13 (base + x)) (gB μ 9 (base + x))) ∧ ∀ g, g < k → pa g = 0 → ∃ c, c < n ∧ tg c = 6 ∧ gA σ 43 g = nI (adr tg ct c) ∧ gA μ 64 g = nI c
theorem eqP.fk {τ σ σ' : S5} (h : eqP τ σ) (g : FkC σ σ') : eqP τ σ' := ⟨fun j hj => (g.1 j).trans (h.1 j hj), fun j hj => (g.2.2.1 j (by omega)).trans (h.2.1 j hj), fun j hj => (g.2.2.2.1 j (by omega)).trans (h.2.2 j hj)⟩
theorem eqQ.fk {τ σ σ' : S5} (h : eqQ τ σ) (g : FkM σ σ') : eqQ τ σ' := ⟨fun j hj => (g.1 j (by omega) (by omega) (by omega) (by omega) (by omega)).trans (h.1 j hj), fun j hj => (g.2.2.1 j (by omega) (by omega) (by omega)).trans (h.2.1 j hj), fun j hj => (g.2.2.2.1 j (by omega)).trans (h.2.2 j hj)⟩
theorem eqP.x {τ σ : S5} (h : eqP τ σ) (j : Nat) (x : Int32) (hj : 2 ≤ j ∧ j ≤ 19) : xA σ j x = xA τ j x := congrFun (h.2.1 j hj) _
theorem eqP.y {τ σ : S5} (h : eqP τ σ) (j : Nat) (x : Int32) (hj : j = 0 ∨ j = 1 ∨ j = 2 ∨ j = 5) : xB σ j x = xB τ j x := congrFun (h.2.2 j hj) _
theorem EV.st {τ : S5} {F k : Nat} {pa nv : Nat → Nat} {σ μ σ' μ' : S5} {n : Nat} {tg ct : Nat → Nat} {n' : Nat} {tg' ct' : Nat → Nat} {f base : Nat} {Sc : Nat → Prop} (h : EV τ F k pa nv σ μ n tg ct f base Sc) (hg : Gro n tg ct n' tg' ct') (hC : FkC σ σ') (hM : FkM μ μ') : EV τ F k pa nv σ' μ' n' tg' ct' f base Sc := by
  obtain ⟨⟨a1, a2, a3, a4, a5, a6, a7⟩, b, c⟩ := h
  have eN : gN σ' 3 = gN σ 3 := congrFun hC.2.2.2.2 3
  refine ⟨⟨by rw [hC.1 41]; exact a1, by rw [hM.1 50 (by omega) (by omega) (by omega) (by omega) (by omega)]; exact a2, by rw [hC.1 43]; exact a3, a4, by rw [eN]; exact a5, a6, by rw [eN]; exact a7⟩, fun x hx => ?_, fun g g1 g2 => ?_⟩
  · rw [hC.2.2.2.1 13 (by decide), hM.2.2.2.1 9 (by decide)]
    exact (b x hx).gr hg
  · obtain ⟨d, d1, d2, d3, d4⟩ := c g g1 g2
    exact ⟨d, by have := hg.1; omega, by rw [(hg.2 d d1).1]; exact d2, by rw [hC.2.2.1 43 (by decide), (hg.ad (Nat.le_of_lt d1)).1]; exact d3, by rw [hM.2.2.1 64 (by omega) (by omega) (by omega)]; exact d4⟩
/-- a function, here and there -/
theorem kd_f {τ μ : S5} {F V T : Nat} (hV : V ≤ 40) {c : Int32} {q p : Nat} {Sc : Nat → Prop} {lo hi : Nat} (h : XM τ μ F V T c q p Sc lo hi) : (xA τ 13 c = 2 ∧ xA μ 31 (nI p) = 12 ∧ ∃ g, g < F ∧ xA τ 14 c = nI g ∧ xA μ 32 (nI p) = nI g) ∨ (¬ xA τ 13 c = 2 ∧ ¬ xA μ 31 (nI p) = 12) := by
  obtain ⟨-, -, h3⟩ := h.un hV
  rcases h3 with ⟨-, -, -, -, w⟩ | ⟨k, ct, cc, ll, w, -⟩ | ⟨w1, w2, -⟩ | ⟨w1, w2, -⟩
  · rcases w with ⟨a, b, -⟩ | ⟨a, b, -⟩ | ⟨a, b, g, c, d, e⟩ | ⟨a, b, -⟩ | ⟨a, b⟩
    · exact Or.inr ⟨by rw [a]; decide, by rw [b]; decide⟩
    · exact Or.inr ⟨by rw [a]; decide, by rw [b]; decide⟩
    · exact Or.inl ⟨a, b, g, c, d, e⟩
    · exact Or.inr ⟨by rw [a]; decide, by rw [b]; decide⟩
    · exact Or.inr ⟨by rw [a]; decide, by rw [b]; decide⟩
  · rcases w with ⟨a, b, -⟩ | ⟨a, b, -⟩ | ⟨a, b, -⟩
    · exact Or.inr ⟨by rw [a]; decide, by rw [b]; decide⟩
    · exact Or.inr ⟨by rw [a]; decide, by rw [b]; decide⟩
    · exact Or.inr ⟨by rw [a]; decide, by rw [b]; decide⟩
  · exact Or.inr ⟨by rw [w1]; decide, by rw [w2]; decide⟩
  · exact Or.inr ⟨by rw [w1]; decide, by rw [w2]; decide⟩
/-- an atom is kept as it is -/
theorem plain_gx {τ μ0 : S5} {F k T : Nat} {pa nv : Nat → Nat} (hS : PSt τ μ0 F k T pa nv) {σ μ : S5} (hP : eqP τ σ) (hQ : eqQ μ0 μ) {n : Nat} {tg ct : Nat → Nat} {f base : Nat} {Sc Sc1 : Nat → Prop} (hE : EV τ F k pa nv σ μ n tg ct f base Sc1) {c : Int32} {p : Nat} (hN : ND τ μ0 F T nv f c p Sc) (hev : xA τ 13 c = 3 → ∀ x, Sc x → VL τ F pa n tg ct (gB σ 13 (base + x)) (gB μ 9 (base + x))) : (xA τ 13 c ≤ 3 → ∃ x y, f_X3_begin c 0 σ = some (x, σ) ∧ f_X12_plain (nI p) μ = some (y, μ) ∧ VL τ F pa n tg ct x y) ∧ (¬ xA τ 13 c ≤ 3 → f_X12_plain (nI p) μ = some (-1, μ)) := by
  obtain ⟨hfF, q, lo, hi, hx, hhi, h38⟩ := hN
  obtain ⟨⟨s1, s2, s3⟩, hct, s4, s5, hf⟩ := hS
  have hnv := (hf f hfF).2.1.2.2.2
  obtain ⟨⟨u1, u2, ⟨c0, c1⟩, u3, -⟩, -, h3⟩ := hx.un hnv
  obtain ⟨⟨e1, e2, e3, e4, e5, e6, e7⟩, ev, eg⟩ := hE
  have g1 : ∀ {β : Type} (x : Option β), gd c 6200 x = x := fun x => gd6200 c0 c1
  have g2 : ∀ {β : Type} (x : Option β), gd (nI p) 7000 x = x := fun x => gdn u2 (by omega)
  rcases h3 with ⟨-, -, -, -, w⟩ | w | w | w
  · rcases w with ⟨a, b, b2, b3⟩ | ⟨a, b, b2, b3, b4, b5⟩ | ⟨a, b, g, b2, b3, b4⟩ | ⟨a, b, x, b2, b3, b4, b5⟩ | ⟨a, b⟩
    · refine ⟨fun _ => ⟨vv 1 (xA τ 14 c), vv 0 (xA τ 14 c), ?_, ?_, Or.inl ⟨_, rfl, rfl⟩⟩, fun w => absurd (by rw [a]; decide) w⟩
      · unfold f_X3_begin
        rw [g1, g1, hP.x 13 _ (by decide), a, if_pos rfl, hP.x 14 _ (by decide)]
        rfl
      · unfold f_X12_plain
        rw [g2, hQ.x 31 _ (by decide), b, if_neg (by decide), if_pos rfl, g2, hQ.x 32 _ (by decide), b2]
        rfl
    · have hz1 : xA τ 14 c < 30 := by
        have := hct.2.2.1
        clear hct hf
        grind
      have hk : xA τ 14 c = nI (xA τ 14 c).toNatClampNeg := nI_tn b3
      have hk30 : (xA τ 14 c).toNatClampNeg < 30 := i_lt (n := 30) (not_neg b3) hz1
      refine ⟨fun _ => ⟨vv 3 (xA τ 14 c), vv 2 (xA τ 14 c), ?_, ?_, Or.inr (Or.inr (Or.inl ⟨(xA τ 14 c).toNatClampNeg, hk30, by rw [← hk]; exact b4, by rw [← hk]; exact b5, by rw [← hk], by rw [← hk]⟩))⟩, fun w => absurd (by rw [a]; decide) w⟩
      · unfold f_X3_begin
        rw [g1, g1, hP.x 13 _ (by decide), a, if_neg (by decide), if_pos rfl, hP.x 14 _ (by decide)]
        rfl
      · unfold f_X12_plain
        rw [g2, hQ.x 31 _ (by decide), b, if_pos rfl, g2, hQ.x 32 _ (by decide), b2]
        rfl
    · obtain ⟨⟨k1, k2, k3, k4⟩, -⟩ := hf g b2
      by_cases hp0 : pa g = 0
      · have hgk : g < k := by
          by_cases h : g < k
          · exact h
          · have := k4 (by omega)
            omega
        obtain ⟨d, d1, d2, d3, d4⟩ := eg g hgk hp0
        refine ⟨fun _ => ⟨vv 6 (nI (adr tg ct d)), vv 3 (nI d), ?_, ?_, Or.inr (Or.inr (Or.inr ⟨d, d1, Or.inr (Or.inr d2), by rw [d2]; rfl, rfl⟩))⟩, fun w => absurd (by rw [a]; decide) w⟩
        · unfold f_X3_begin
          rw [g1, g1, hP.x 13 _ (by decide), a, if_neg (by decide), if_neg (by decide), if_pos rfl, hP.x 14 _ (by decide), b3, gdn (by omega) (by omega), hP.x 3 _ (by decide), k1, hp0, if_pos (by decide), gdn (by omega) (by omega)]
          have e43 : xA σ 43 (nI g) = nI (adr tg ct d) := by
            show gA σ 43 (nI g).toNatClampNeg = _
            rw [nI_clamp (by omega)]
            exact d3
          rw [e43]
          rfl
        · unfold f_X12_plain
          rw [g2, hQ.x 31 _ (by decide), b, if_neg (by decide), if_neg (by decide), if_neg (by decide), if_pos rfl, g2, hQ.x 32 _ (by decide), b4, gdn (by omega) (by omega), hQ.x 47 _ (by decide), k2, hp0, if_pos (by decide), g2, gdn (by omega) (by omega)]
          have e64 : xA μ 64 (nI g) = nI d := by
            show gA μ 64 (nI g).toNatClampNeg = _
            rw [nI_clamp (by omega)]
            exact d4
          rw [e64]
          rfl
      · have hn : ¬ nI (pa g) ≤ 0 := nle0 (by omega) hp0
        refine ⟨fun _ => ⟨vv 2 (nI g), vv 1 (nI g), ?_, ?_, Or.inr (Or.inl ⟨g, b2, by omega, rfl, rfl⟩)⟩, fun w => absurd (by rw [a]; decide) w⟩
        · unfold f_X3_begin
          rw [g1, g1, hP.x 13 _ (by decide), a, if_neg (by decide), if_neg (by decide), if_pos rfl, hP.x 14 _ (by decide), b3, gdn (by omega) (by omega), hP.x 3 _ (by decide), k1, if_neg hn]
          rfl
        · unfold f_X12_plain
          rw [g2, hQ.x 31 _ (by decide), b, if_neg (by decide), if_neg (by decide), if_neg (by decide), if_pos rfl, g2, hQ.x 32 _ (by decide), b4, gdn (by omega) (by omega), hQ.x 47 _ (by decide), k2, if_neg hn, g2]
          rfl
    · have hxl := hx.2.2.2.1 x b5
      have hle : lo ≤ hi := u3
      refine ⟨fun _ => ⟨gB σ 13 (base + x), gB μ 9 (base + x), ?_, ?_, hev a x b5⟩, fun w => absurd (by rw [a]; decide) w⟩
      · unfold f_X3_begin
        rw [g1, g1, hP.x 13 _ (by decide), a, if_neg (by decide), if_neg (by decide), if_neg (by decide), if_pos rfl, if_pos rfl, hP.x 14 _ (by decide), b3, e1, nI_plus, gdn (by omega) e7, xB_n (by omega)]
      · unfold f_X12_plain
        rw [g2, hQ.x 31 _ (by decide), b, if_neg (by decide), if_neg (by decide), if_neg (by decide), if_neg (by decide), if_pos rfl, g2, hQ.x 32 _ (by decide), b4, e2, nI_plus, gdn (by omega) (by omega), xB_n (by omega)]
    · refine ⟨fun w => absurd w (by rw [a]; decide), fun _ => ?_⟩
      unfold f_X12_plain
      rw [g2, hQ.x 31 _ (by decide), b, if_neg (by decide), if_neg (by decide), if_pos rfl]
  · have key : ¬ xA τ 13 c ≤ 3 ∧ (xA μ0 31 (nI p) = 5 ∨ xA μ0 31 (nI p) = 6 ∨ xA μ0 31 (nI p) = 7) := by
      obtain ⟨_, _, _, _, w, -⟩ := w
      rcases w with ⟨a, b, -⟩ | ⟨a, b, -⟩ | ⟨a, b, -⟩
      · exact ⟨by rw [a]; decide, Or.inl b⟩
      · exact ⟨by rw [a]; decide, Or.inr (Or.inl b)⟩
      · exact ⟨by rw [a]; decide, Or.inr (Or.inr b)⟩
    refine ⟨fun w => absurd w key.1, fun _ => ?_⟩
    unfold f_X12_plain
    rw [g2, hQ.x 31 _ (by decide)]
    rcases key.2 with b | b | b <;> rw [b, if_neg (by decide), if_neg (by decide), if_neg (by decide), if_neg (by decide), if_neg (by decide)]
  · obtain ⟨a, b, -⟩ := w
    refine ⟨fun w => absurd w (by rw [a]; decide), fun _ => ?_⟩
    unfold f_X12_plain
    rw [g2, hQ.x 31 _ (by decide), b, if_neg (by decide), if_neg (by decide), if_neg (by decide), if_neg (by decide), if_neg (by decide)]
  · obtain ⟨a, b, -⟩ := w
    refine ⟨fun w => absurd w (by rw [a]; decide), fun _ => ?_⟩
    unfold f_X12_plain
    rw [g2, hQ.x 31 _ (by decide), b, if_neg (by decide), if_neg (by decide), if_neg (by decide), if_neg (by decide), if_neg (by decide)]
theorem plain_go {τ μ0 : S5} {F k T : Nat} {pa nv : Nat → Nat} (hS : PSt τ μ0 F k T pa nv) {σ μ : S5} (hP : eqP τ σ) (hQ : eqQ μ0 μ) {n : Nat} {tg ct : Nat → Nat} {f base : Nat} {Sc : Nat → Prop} (hE : EV τ F k pa nv σ μ n tg ct f base Sc) {c : Int32} {p : Nat} (hN : ND τ μ0 F T nv f c p Sc) : (xA τ 13 c ≤ 3 → ∃ x y, f_X3_begin c 0 σ = some (x, σ) ∧ f_X12_plain (nI p) μ = some (y, μ) ∧ VL τ F pa n tg ct x y) ∧ (¬ xA τ 13 c ≤ 3 → f_X12_plain (nI p) μ = some (-1, μ)) := plain_gx hS hP hQ hE hN (fun _ => hE.2.1)
