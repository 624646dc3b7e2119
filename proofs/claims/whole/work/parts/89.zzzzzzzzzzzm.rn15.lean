/-- what is made for a part is made alike -/
theorem make_go {τ μ0 : S5} {F k T : Nat} {pa nv : Nat → Nat} (hS : PSt τ μ0 F k T pa nv) {σ μ : S5} (hP : eqP τ σ) (hQ : eqQ μ0 μ) {n : Nat} {tg ct : Nat → Nat} {Rd : Nat → Prop} (h : HS τ μ0 F T pa nv σ μ n tg ct Rd) (hn : NR σ μ) (h0 : gI μ 44 = 0) {f : Nat} (h43 : gI σ 43 = nI f) {c : Int32} {p : Nat} {Sc : Nat → Prop} (hN : ND τ μ0 F T nv f c p Sc) {a2 : Int32} (hk : ¬ xA τ 13 c ≤ 3 ∨ (xA τ 13 c = 3 ∧ ¬ a2 = 0)) : ∃ t m, SH τ μ0 F T pa nv f c p Sc t m ∧ MK τ μ0 F T pa nv σ μ n tg ct Rd t m (f_X3_begin c a2 σ) (f_X12_make (nI p) μ) := by
  obtain ⟨l1, l2⟩ := less_go hS hP hQ hN
  have hN' := hN
  obtain ⟨hfF, q, lo, hi, hx, hhi, h38⟩ := hN
  obtain ⟨⟨s1, s2, s3⟩, hct, s4, s5, hf⟩ := id hS
  have hnv := (hf f hfF).2.1.2.2.2
  obtain ⟨⟨u1, u2, ⟨c0, c1⟩, u3, u5, -⟩, -, h3⟩ := hx.un hnv
  have g1 : ∀ {β : Type} (x : Option β), gd c 6200 x = x := fun x => gd6200 c0 c1
  have g2 : ∀ {β : Type} (x : Option β), gd (nI p) 7000 x = x := fun x => gdn u2 (by omega)
  have ea : c = nI c.toNatClampNeg := nI_tn c0
  have ha6 : c.toNatClampNeg < 6200 := i_lt (n := 6200) (not_neg c0) c1
  have hu40 : i64n (xB τ 2 c) < 2 ^ 40 := used_lt (fun x w => by
    have := hx.2.2.2.1 x (hx.2.2.1 x w)
    omega)
  have susp : MK τ μ0 F T pa nv σ μ n tg ct Rd 6 (pcn (i64n (xB τ 2 c)) 40) (f_X3_begin_b200 c σ) (bd (f_X12_ones ((xB μ 5 (nI p))) μ) (fun r84 τ84 => bd (f_X12_newCell (2) (nI p) (r84) ((1 + r84)) τ84) (fun r95 τ95 => some (r95, τ95)))) := by
    have hnd : ND τ μ0 F T nv f (nI c.toNatClampNeg) p (UB τ (nI c.toNatClampNeg)) := by
      rw [← ea]
      exact ⟨hfF, q, lo, hi, hx.sus, hhi, h38⟩
    have key := mk_susp (a := c.toNatClampNeg) (f := f) h hn h0 ha6 hnd (m := pcn (i64n (xB τ 2 c)) 40) (by rw [← ea])
    rw [← ea] at key
    unfold f_X3_begin_b200
    rw [g1, hP.y 2 _ (by decide), bc_go hu40, bd_of, h43, hQ.y 5 _ (by decide), u5, on_go hu40, bd_of, bd_id]
    exact key
  have mks : ∀ z, xA μ0 31 (nI p) = z → ¬ z = 7 → f_X12_isLess (nI p) μ = some (0, μ) → f_X12_make (nI p) μ = bd (f_X12_ones ((xB μ 5 (nI p))) μ) (fun r84 τ84 => bd (f_X12_newCell (2) (nI p) (r84) ((1 + r84)) τ84) (fun r95 τ95 => some (r95, τ95))) := by
    intro z z1 z2 z3
    unfold f_X12_make
    rw [g2, hQ.x 31 _ (by decide), z1, if_neg z2, z3, bd_of, if_pos rfl, g2]
  have sh6 : ¬ xA τ 13 c = 9 → (xA τ 13 c = 8 → ¬ PLs τ pa c) → SH τ μ0 F T pa nv f c p Sc 6 (pcn (i64n (xB τ 2 c)) 40) := fun w w2 => Or.inl ⟨rfl, rfl, w, w2⟩
  rcases h3 with ⟨-, -, -, -, w⟩ | ⟨kk, ct', cc, ll, w, ⟨k1, k9⟩, hch, hl0, hlk, hkk⟩ | ⟨a, b, -⟩ | ⟨a, b, -⟩
  · rcases w with ⟨a, b, -⟩ | ⟨a, b, -⟩ | ⟨a, b, -⟩ | ⟨a, b, -⟩ | ⟨a, b⟩
    · rw [a] at hk
      rcases hk with w | w
      · exact absurd (by decide) w
      · exact absurd w.1 (by decide)
    · rw [a] at hk
      rcases hk with w | w
      · exact absurd (by decide) w
      · exact absurd w.1 (by decide)
    · rw [a] at hk
      rcases hk with w | w
      · exact absurd (by decide) w
      · exact absurd w.1 (by decide)
    · have ha2 : ¬ a2 = 0 := by
        rcases hk with w | w
        · rw [a] at w
          exact absurd (by decide) w
        · exact w.2
      refine ⟨6, _, sh6 (by rw [a]; decide) (fun w => absurd w (by rw [a]; decide)), ?_⟩
      have e1 : f_X3_begin c a2 σ = f_X3_begin_b200 c σ := by
        unfold f_X3_begin
        rw [g1, g1, hP.x 13 _ (by decide), a, if_neg (by decide), if_neg (by decide), if_neg (by decide), if_pos rfl, if_neg ha2]
      rw [e1, mks _ b (by decide) (l1 (by rw [a]; decide))]
      exact susp
    · refine ⟨6, _, sh6 (by rw [a]; decide) (fun w => absurd w (by rw [a]; decide)), ?_⟩
      have e1 : f_X3_begin c a2 σ = f_X3_begin_b200 c σ := by
        unfold f_X3_begin
        rw [g1, g1, hP.x 13 _ (by decide), a, if_neg (by decide), if_neg (by decide), if_neg (by decide), if_neg (by decide), if_pos rfl]
      rw [e1, mks _ b (by decide) (l1 (by rw [a]; decide))]
      exact susp
  · rcases w with ⟨a, b, -⟩ | ⟨a, b, b2, b3⟩ | ⟨a, b, b2, b3, b4, b5, b6⟩
    · refine ⟨6, _, sh6 (by rw [a]; decide) (fun w => absurd w (by rw [a]; decide)), ?_⟩
      have e1 : f_X3_begin c a2 σ = f_X3_begin_b200 c σ := by
        unfold f_X3_begin
        rw [g1, g1, hP.x 13 _ (by decide), a, if_neg (by decide), if_neg (by decide), if_neg (by decide), if_neg (by decide), if_neg (by decide), if_pos rfl]
      rw [e1, mks _ b (by decide) (l1 (by rw [a]; decide))]
      exact susp
    · obtain ⟨m, hd, h', cc', pp, m1, m8, e15, e34, e16, hd6, hh7, hdN, -, hchild, e17, hkd, hor⟩ := l2 a
      have e1 : f_X3_begin c a2 σ = bd (f_X3_isPartOfCall c σ) (fun r155 τ155 => if r155 = 0 then (f_X3_begin_b200 c τ155) else (gd c 6200 <| gd (xA τ155 16 c) 6200 <| gd c 6200 <| bd (f_X0_makePart ((xA τ155 14 (xA τ155 16 c))) ((xA τ155 15 c)) τ155) (fun r193 τ193 => bd (f_X3_made (5) (r193) τ193) (fun r196 τ196 => some (r196, τ196))))) := by
        unfold f_X3_begin
        rw [g1, g1, hP.x 13 _ (by decide), a, if_neg (by decide), if_neg (by decide), if_neg (by decide), if_neg (by decide), if_neg (by decide), if_neg (by decide), if_neg (by decide), if_neg (by decide), if_pos rfl]
      rcases hor with ⟨g, g3, g4, g5, g6, g7, g8, g9, g10⟩ | ⟨g9, g10, g11⟩
      · have hp8 := (hf g g3).1.2.2.1
        refine ⟨5, m, Or.inr (Or.inr ⟨rfl, m1, m8, a, ⟨g, m, by omega, m8, by rw [e16]; exact g5, by rw [e16]; exact g6, e15, g4⟩, hd, cc', pp, e16, hd6, e17, hkd⟩), ?_⟩
        have key := mk_part (g := g) (m := m) h hn h0 g3 m1 g4 hp8
        have em : nI (m + 1) - 1 = nI m := by
          rw [show (1 : Int32) = nI 1 from rfl, nI_sub (by omega)]
          rfl
        have em2 : (1 : Int32) + nI (m + 1) = nI (m + 2) := by
          rw [show (1 : Int32) = nI 1 from rfl, nI_plus, show 1 + (m + 1) = m + 2 by omega]
        have e2 : f_X12_make (nI p) μ = f_X12_newCell 1 (nI g) (nI m) (nI (m + 2)) μ := by
          unfold f_X12_make
          rw [g2, hQ.x 31 _ (by decide), b, if_neg (by decide), g10, bd_of, if_neg (by decide), hchild, bd_of, gdn hh7 (by omega), g2, g2, hQ.x 32 _ (by decide), g8, hQ.x 34 _ (by decide), e34, em, em2, bd_id]
        rw [e1, g9, bd_of, if_neg (by decide), g1, hP.x 16 _ (by decide), e16, gd6200 hd6.1 hd6.2, g1, hP.x 14 _ (by decide), g6, hP.x 15 _ (by decide), e15, e2]
        exact key
      · refine ⟨6, _, sh6 (by rw [a]; decide) (fun _ => ?_), ?_⟩
        · rintro ⟨g', m', z1, z2, z3, z4, z5, z6⟩
          rw [e16] at z3 z4
          have em : m = m' := nI_injL (by omega) (by omega) (e15.symm.trans z5)
          rcases g11 with ⟨g, y1, y2, y3, y4, -⟩ | ⟨y1, -⟩
          · have eg : g = g' := nI_injL (by omega) (by omega) (y4.symm.trans z4)
            subst eg em
            omega
          · exact y1 z3
        rw [e1, g9, bd_of, if_pos rfl, mks _ b (by decide) g10]
        exact susp
    · have hz1 : xA τ 14 c < 30 := by
        have := hct.2.2.1
        clear hct hf
        grind
      have hkk' : xA τ 14 c = nI (xA τ 14 c).toNatClampNeg := nI_tn b3
      have hk30 : (xA τ 14 c).toNatClampNeg < 30 := i_lt (n := 30) (not_neg b3) hz1
      have hmo := ll_mo (k := kk) (ll := ll) (fun i hi' => by
        obtain ⟨qq, pp, -, -, -, -, -, z⟩ := hkk
        exact (z i hi').1.2.1.le)
      obtain ⟨x33, x14, x34, pp, xk⟩ := XK.nd hfF hkk h38 (fun i hi' => by have := hmo kk (i + 1) (by omega) (by omega); omega) u2
      refine ⟨4, kk, Or.inr (Or.inl ⟨rfl, k1, b5, a, cc, pp, hch.1, ct', x33, by omega, fun i hi2 => ?_⟩), ?_⟩
      · obtain ⟨o0, o1, o2, o3, o4⟩ := xk i hi2
        exact ⟨o0, o1, o2, o3, o4, (hch.2 i hi2).2⟩
      · have key := mk_obj (k := (xA τ 14 c).toNatClampNeg) (m := kk) h hn h0 hk30 (by rw [← hkk']; exact b4) (by rw [← hkk']; exact b6) k1 b5
        rw [← hkk'] at key
        have e1 : f_X3_begin c a2 σ = bd (f_X0_makeObject (xA τ 14 c) (nI kk) σ) (fun r τ => bd (f_X3_made 4 r τ) (fun r' τ' => some (r', τ'))) := by
          unfold f_X3_begin
          rw [g1, g1, hP.x 13 _ (by decide), a, if_neg (by decide), if_neg (by decide), if_neg (by decide), if_neg (by decide), if_neg (by decide), if_neg (by decide), if_neg (by decide), if_neg (by decide), if_neg (by decide), if_pos rfl, hP.x 14 _ (by decide), gd30 b3 hz1, hP.x 2 _ (by decide), b6]
        have e2 : f_X12_make (nI p) μ = f_X12_newCell 0 (xA τ 14 c) (nI kk) (1 + nI kk) μ := by
          unfold f_X12_make
          rw [g2, hQ.x 31 _ (by decide), b, if_pos rfl, g2, g2, g2, hQ.x 32 _ (by decide), b2, hQ.x 34 _ (by decide), x34, bd_id]
        rw [e1, e2]
        exact key
  · refine ⟨6, _, sh6 (by rw [a]; decide) (fun w => absurd w (by rw [a]; decide)), ?_⟩
    have e1 : f_X3_begin c a2 σ = f_X3_begin_b200 c σ := by
      unfold f_X3_begin
      rw [g1, g1, hP.x 13 _ (by decide), a, if_neg (by decide), if_neg (by decide), if_neg (by decide), if_neg (by decide), if_neg (by decide), if_neg (by decide), if_neg (by decide), if_pos rfl]
    rw [e1, mks _ b (by decide) (l1 (by rw [a]; decide))]
    exact susp
  · refine ⟨6, _, sh6 (by rw [a]; decide) (fun w => absurd w (by rw [a]; decide)), ?_⟩
    have e1 : f_X3_begin c a2 σ = f_X3_begin_b200 c σ := by
      unfold f_X3_begin
      rw [g1, g1, hP.x 13 _ (by decide), a, if_neg (by decide), if_neg (by decide), if_neg (by decide), if_neg (by decide), if_neg (by decide), if_neg (by decide), if_pos rfl]
    rw [e1, mks _ b (by decide) (l1 (by rw [a]; decide))]
    exact susp
