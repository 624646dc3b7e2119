/-- the value of a part, if all that is numbered before has one -/
def valB (τ : S5) (pa : Nat → Nat) (T : Nat → (Nat → Bool) → Bool) (n lo : Nat) (c : Int32) : Prop := ∀ Y : Nat → Bool, (∀ x, x < lo → Y x = true) → Clo τ pa T Y n c → dv τ pa T Y n c = true
/-- a let's name is needed -/
def NdL (τ : S5) (pa : Nat → Nat) (T : Nat → (Nat → Bool) → Bool) (c : Int32) : Prop := xA τ 17 (xA τ 17 (xA τ 16 c)) = -1 ∧ (j_lushr (xB τ 2 (xA τ 16 (xA τ 17 (xA τ 16 c)))) (xA τ 14 (xA τ 17 (xA τ 16 c)))) &&& 1 = 0 ∧ ¬ valB τ pa T 41 (xA τ 14 (xA τ 17 (xA τ 16 c))).toNatClampNeg (xA τ 16 c)
/-- what is known of a let -/
def LtK (τ : S5) (nv : Nat → Nat) (F : Nat) (c : Int32) : Prop := ∃ f, f < F ∧ xA τ 15 c = nI f ∧ ∃ Sc lo hi, VS τ c Sc lo hi ∧ (∀ x, Sc x → x < lo) ∧ hi ≤ nv f ∧ nv f ≤ 40 ∧ xA τ 6 (nI f) = nI (nv f) ∧ Rg τ F 42 c ∧ hF τ c ≤ 40
/-- what marking lets writes -/
def FrL (σ σ' : S5) : Prop := (∀ j, ¬ j = 23 → ¬ j = 24 → gI σ' j = gI σ j) ∧ (∀ j, gJ σ' j = gJ σ j) ∧ (∀ j, ¬ j = 11 → ¬ j = 14 → gA σ' j = gA σ j) ∧ (∀ j, ¬ j = 6 → ¬ j = 7 → gB σ' j = gB σ j) ∧ σ'.2.2.2.2 = σ.2.2.2.2
theorem FrL.rf (σ : S5) : FrL σ σ := ⟨fun _ _ _ => rfl, fun _ => rfl, fun _ _ _ => rfl, fun _ _ _ => rfl, rfl⟩
theorem FrL.tr {σ σ1 σ2 : S5} (h : FrL σ σ1) (k : FrL σ1 σ2) : FrL σ σ2 := by
  obtain ⟨a1, a2, a3, a4, a5⟩ := h
  obtain ⟨b1, b2, b3, b4, b5⟩ := k
  exact ⟨fun j x y => (b1 j x y).trans (a1 j x y), fun j => (b2 j).trans (a2 j), fun j x y => (b3 j x y).trans (a3 j x y), fun j x y => (b4 j x y).trans (a4 j x y), b5.trans a5⟩
theorem FrL.x {σ σ' : S5} (h : FrL σ σ') (j : Nat) (x : Int32) (h1 : ¬ j = 11) (h2 : ¬ j = 14) : xA σ' j x = xA σ j x := by
  show gA σ' j _ = gA σ j _
  rw [h.2.2.1 j h1 h2]
/-- ONE LET IS MARKED -/
theorem mk_go {τ : S5} {pa : Nat → Nat} {nv : Nat → Nat} {F : Nat} {σ : S5} {T : Nat → (Nat → Bool) → Bool} {c : Int32} (hpa : ∀ g, g < F → xA τ 3 (nI g) = nI (pa g) ∧ pa g ≤ 8) (hF6 : F ≤ 630) (hT : TBc σ pa = T) (hTm : TMo T) (hE : TE τ σ) (h2 : ∀ x, xB σ 2 x = xB τ 2 x) (h6 : ∀ x, xA σ 6 x = xA τ 6 x) (h22 : gI σ 22 = 0) (h7 : xA τ 13 c = 7) (hK : LtK τ nv F c) : ∃ f, f < F ∧ xA τ 15 c = nI f ∧ ∃ σ', f_X1_markLet (f_wordE 64) c σ = some ((), σ') ∧ FrL σ σ' ∧ ∃ b : Bool, (b = true ↔ NdL τ pa T c) ∧ (∀ x, 0 ≤ x → xA σ' 14 x = if x = c then (if b = true then 1 else 0) else xA σ 14 x) ∧ (∀ g, g < 630 → xA σ' 11 (nI g) = if g = f ∧ b = true then xA σ 11 (nI g) + 1 else xA σ 11 (nI g)) := by
  obtain ⟨f, f1, f15, Sc, lo, hi, q, hS, k1, k2, k3, hR, k4⟩ := hK
  refine ⟨f, f1, f15, ?_⟩
  have qq := q.un
  rcases qq with ⟨⟨-, q1⟩, -, -⟩ | ⟨q1, -⟩ | ⟨q1, l, bb, ll, q2, q3, q4, q5, q6, ⟨q7, q8, q9⟩, q10, q11⟩ | ⟨q1, -⟩
  · rw [h7] at q1; exact absurd q1 (by decide)
  · rcases q1 with w | w | w <;> rw [h7] at w <;> exact absurd w (by decide)
  · obtain ⟨⟨c0, c6⟩, -, -, -, r7⟩ := hR
    obtain ⟨r0, r1⟩ := r7 h7
    obtain ⟨y0, y1⟩ := Rg.c (n := 41) r0 (by omega)
    obtain ⟨⟨b0, b6⟩, b14, b17⟩ := q6 0 (by omega)
    rw [q5] at r1
    obtain ⟨rb, rb7⟩ := chA_at (P := fun b => Rg τ F 41 (xA τ 16 b) ∧ ¬ xA τ 13 b = 7) (fun i hi => ⟨(q6 i hi).1.1, (q6 i hi).2.2⟩) 9 0 0 (by omega) (by omega) (by omega) r1
    obtain ⟨z0, z1⟩ := Rg.c (n := 41) rb (by omega)
    have hm := ll_mo (k := l) (ll := ll) (fun i hi => (q11 i hi).le)
    have hl0 := hm l 0 (by omega) (by omega)
    have hhi := q10.le
    have e16 : xA σ 16 c = xA τ 16 c := (hE.1 c).2.2.1
    have e17 : xA σ 17 (xA τ 16 c) = bb 0 := (hE.1 _).2.2.2.1.trans q5
    have e17b : xA σ 17 (bb 0) = xA τ 17 (bb 0) := (hE.1 _).2.2.2.1
    have e16b : xA σ 16 (bb 0) = xA τ 16 (bb 0) := (hE.1 _).2.2.1
    have e14b : xA σ 14 (bb 0) = nI lo := by
      rw [(hE.1 _).2.2.2.2 rb7, b14]
      rfl
    have e14t : xA τ 14 (bb 0) = nI lo := b14
    have e15 : xA σ 15 c = nI f := (hE.1 c).2.1.trans f15
    have hst : f_X1_markLet (f_wordE 64) c σ = if xA τ 17 (bb 0) = -1 then (if (lg_cmp ((j_lushr (xB τ 2 (xA τ 16 (bb 0))) (nI lo)) &&& 1) 0) = 0 then bd (f_J7_fill_bad5a_dem_bits 0 (nI lo) (-1) (pI (pA σ 14 c 0) 23 1)) (fun _ τ108 => gd (nI f) 630 <| bd (f_X1_settle (f_wordE 64) (xA τ 16 c) (nI lo) (xA τ108 6 (nI f)) τ108) (fun r125 τ125 => if (lg_cmp r125 0) = 0 then (gd c 6200 <| gd (nI f) 630 <| gd (nI f) 630 <| some ((), (pA (pA τ125 14 c 1) 11 (nI f) ((xA τ125 11 (nI f)) + 1)))) else some ((), τ125))) else some ((), pA σ 14 c 0)) else some ((), pA σ 14 c 0) := by
      unfold f_X1_markLet
      rw [gd6200 c0 c6, e16, gd6200 y0 y1, e17, gd6200 b0 b6, gd6200 c0 c6, gd6200 c0 c6, gd6200 b0 b6, e17b, gd6200 b0 b6, e16b, gd6200 z0 z1, h2, e14b, e15]
    have hx14 : ∀ v x, 0 ≤ x → xA (pA σ 14 c v) 14 x = if x = c then v else xA σ 14 x := fun v x x0 => by
      rw [xA_pA]
      by_cases hxc : x = c
      · rw [if_pos hxc, if_pos ⟨rfl, by rw [hxc]⟩]
      · rw [if_neg hxc, if_neg (fun z => hxc ((i_inj x0 c0).mp z.2))]
    have fr0 : FrL σ (pA σ 14 c 0) := ⟨fun _ _ _ => rfl, fun _ => rfl, fun j _ h14 => gA_ne _ _ _ h14, fun _ _ _ => rfl, rfl⟩
    have hno : ¬ NdL τ pa T c → f_X1_markLet (f_wordE 64) c σ = some ((), pA σ 14 c 0) → ∃ σ', f_X1_markLet (f_wordE 64) c σ = some ((), σ') ∧ FrL σ σ' ∧ ∃ b : Bool, (b = true ↔ NdL τ pa T c) ∧ (∀ x, 0 ≤ x → xA σ' 14 x = if x = c then (if b = true then 1 else 0) else xA σ 14 x) ∧ (∀ g, g < 630 → xA σ' 11 (nI g) = if g = f ∧ b = true then xA σ 11 (nI g) + 1 else xA σ 11 (nI g)) := fun hn he => ⟨_, he, fr0, false, ⟨fun z => absurd z (by decide), fun z => absurd z hn⟩, fun x x0 => hx14 0 x x0, fun g _ => by rw [if_neg (fun z => absurd z.2 (by decide)), xA_pA, if_neg (fun z => absurd z.1 (by decide))]⟩
    by_cases h1 : xA τ 17 (bb 0) = -1
    · have hl1 : l = 1 := by
        by_cases hl : 0 + 1 < l
        · rw [if_pos hl] at b17
          have := (q6 1 (by omega)).1.1
          rw [h1] at b17
          rw [← show bb (0 + 1) = bb 1 from rfl, ← b17] at this
          exact absurd this (by decide)
        · omega
      subst hl1
      by_cases hu : (j_lushr (xB τ 2 (xA τ 16 (bb 0))) (nI lo)) &&& 1 = 0
      · rw [if_pos h1, if_pos (by rw [hu]; exact lg_rf _)] at hst
        obtain ⟨σa, esa⟩ : ∃ σa, σa = pI (pA σ 14 c 0) 23 1 := ⟨_, rfl⟩
        obtain ⟨σf, g1, g2, g3, g4⟩ := fillb_L10 (v := lo) (σ := σa) (by omega) lo 0 FU σa (by omega) (by show lo < 1099511627776; omega) ⟨FrE.rf _ _, rfl, fun x hx => absurd hx (by omega)⟩
        have hfill : f_J7_fill_bad5a_dem_bits 0 (nI lo) (-1) σa = some ((), σf) := by
          unfold f_J7_fill_bad5a_dem_bits f_J7_rangeCheck_23922
          rw [if_pos (i_le0 (nI_nneg (by omega))), if_pos (by decide), if_pos (show nI lo ≤ 40 from (nI_le31 (b := 40) (by omega) (by omega)).mpr (by omega)), bd_of]
          exact g1
        have frA : FrL σ σa := by
          rw [esa]
          exact fr0.tr ⟨fun j h3 _ => by rw [gI_pI, if_neg h3], fun _ => rfl, fun _ _ _ => rfl, fun _ _ _ => rfl, rfl⟩
        have frF : FrL σa σf := ⟨fun j _ h4 => g2.1 j h4, g2.2.1, fun j _ _ => g2.2.2.1 j, g2.2.2.2.1, g2.2.2.2.2.1⟩
        have hEa : TE τ σa := by
          have ex : ∀ j x, ¬ j = 14 → xA σa j x = xA σ j x := fun j x hj => by
            rw [esa]
            show xA (pA σ 14 c 0) j x = _
            rw [xA_pA, if_neg (fun z => hj z.1)]
          refine ⟨fun x => ?_, fun x => by rw [ex 2 _ (by decide)]; exact hE.2.1 x, fun x => by rw [ex 3 _ (by decide)]; exact hE.2.2 x⟩
          rw [ex 13 _ (by decide), ex 15 _ (by decide), ex 16 _ (by decide), ex 17 _ (by decide)]
          refine ⟨(hE.1 x).1, (hE.1 x).2.1, (hE.1 x).2.2.1, (hE.1 x).2.2.2.1, fun hx => ?_⟩
          rw [esa]
          show xA (pA σ 14 c 0) 14 x = _
          rw [xA_pA, if_neg (fun z => ?_)]
          · exact (hE.1 x).2.2.2.2 hx
          · refine hx ?_
            show gA τ 13 x.toNatClampNeg = 7
            rw [z.2]
            exact h7
        have hEf : TE τ σf := hEa.of g2.2.2.1
        have eTf : TBc σf pa = T := by
          rw [g2.T pa, ← hT, esa]
          rfl
        obtain ⟨w, σ', σ1, s1, s2, s3, s4, s5⟩ := st_goz (d := 64) (n := 41) (g := 0) (L := 1) (z := lo) (V := nv f) (σ := σf) hpa hF6 q10 (fun x hx => by
          rcases hx with z | z
          · have := hS x z; omega
          · omega) (by omega) (by omega) k2 (by omega) (by omega) r0 hEf (by rw [g2.1 22 (by decide), esa, gI_pI, if_neg (by decide)]; exact h22) (by omega) (by rw [g2.1 23 (by decide), esa, gI_pI, if_pos rfl]; rfl) (by omega)
        rw [eTf] at s5
        have hT' : Crs T T := fun f ρ ρ' h w => hTm f ρ ρ' h w
        have e1l : ll 1 = ll (0 + 1) := rfl
        have hX1 : ∀ x, x < lo → XL σ1 0 x = true := fun x hx => by
          unfold XL
          rw [s3 x (by omega) hx, g4 x hx, lb_m1 (by omega)]
        have hX0 : XL σ1 0 lo = false := by
          unfold XL
          rw [s4 lo (by omega) (by omega), lb_0]
        have hval : lb w 0 = true ↔ valB τ pa T 41 lo (xA τ 16 c) := by
          obtain ⟨t1, t2⟩ := s5 0 (by omega)
          obtain ⟨t3, t4⟩ := t2 (by omega)
          refine ⟨fun hw Y y1 y2 => t3 hw T Y hT' y2 (fun x hx hxx => ?_), fun hv => t4 (fun Y y1 y2 => ?_)⟩
          · rcases hx with z | z
            · exact y1 x (hS x z)
            · have : x = lo := by omega
              rw [this, hX0] at hxx
              exact absurd hxx (by decide)
          · obtain ⟨Y', ey⟩ : ∃ Y' : Nat → Bool, Y' = fun x => Y x || decide (x < lo) := ⟨_, rfl⟩
            have a1 : ∀ x, Sx Sc lo 1 x → Y x = Y' x := fun x hx => by
              rw [ey]
              show Y x = (Y x || decide (x < lo))
              rcases hx with z | z
              · rw [y1 x (Or.inl z), hX1 x (hS x z)]; rfl
              · rw [decide_eq_false (by omega), Bool.or_false]
            have a2 : ∀ x, ll 1 ≤ x → x < hi → Y x = Y' x := fun x hx _ => by
              rw [ey]
              show Y x = (Y x || decide (x < lo))
              rw [decide_eq_false (by omega), Bool.or_false]
            have hS5 : ∀ x, Sx Sc lo 1 x → x < 5000 := fun x hx => by
              rcases hx with z | z
              · have := hS x z; omega
              · omega
            have hn41 : hF τ (xA τ 16 c) < 41 := by omega
            rw [dv_cg hS5 q10 hn41 a1 a2]
            refine hv Y' (fun x hx => ?_) (Clo_cg q10 hS5 41 hn41 a1 a2 y2)
            rw [ey]
            show (Y x || decide (x < lo)) = true
            rw [decide_eq_true hx, Bool.or_true]
        have hnd : NdL τ pa T c ↔ ¬ lb w 0 = true := by
          unfold NdL
          rw [q5, e14t, nI_clamp (by omega), hval]
          exact ⟨fun z => z.2.2, fun z => ⟨h1, hu, z⟩⟩
        have hw0 : w = 0 ↔ ¬ lb w 0 = true := by
          refine ⟨fun z => by rw [z, lb_0]; decide, fun z => lb_ext (fun l hl => ?_)⟩
          rw [lb_0]
          cases e : lb w l with
          | false => rfl
          | true =>
            have := (s5 l hl).1 e
            have hl0 : l = 0 := by omega
            rw [hl0] at e
            exact absurd e z
        have e6 : xA σf 6 (nI f) = nI (nv f) := by
          show gA σf 6 _ = _
          rw [g2.2.2.1 6, esa]
          exact (h6 (nI f)).trans k3
        rw [← esa, hfill, bd_of, gdn (by omega) (by omega), e6, s1, bd_of] at hst
        have frS : FrL σ σ' := (frA.tr frF).tr ⟨fun j _ h4 => s2.1 j h4, s2.2.1, fun j _ _ => s2.2.2.1 j, s2.2.2.2.1, s2.2.2.2.2.1⟩
        have eA : ∀ j x, xA σ' j x = xA (pA σ 14 c 0) j x := fun j x => by
          show gA σ' j _ = _
          rw [s2.2.2.1 j, g2.2.2.1 j, esa]
          rfl
        by_cases hw : w = 0
        · rw [if_pos (by rw [hw]; exact lg_rf _), gd6200 c0 c6, gdn (by omega) (by omega), gdn (by omega) (by omega)] at hst
          have hyes : NdL τ pa T c := hnd.mpr (hw0.mp hw)
          refine ⟨_, hst, frS.tr ⟨fun _ _ _ => rfl, fun _ => rfl, fun j h11 h14 => by rw [gA_ne _ _ _ h11, gA_ne _ _ _ h14], fun _ _ _ => rfl, rfl⟩, true, ⟨fun _ => hyes, fun _ => rfl⟩, fun x x0 => ?_, fun g hg => ?_⟩
          · rw [xA_pA, if_neg (fun z => absurd z.1 (by decide)), xA_pA, if_pos rfl]
            by_cases hxc : x = c
            · rw [if_pos hxc, if_pos ⟨rfl, by rw [hxc]⟩]
            · rw [if_neg hxc, if_neg (fun z => hxc ((i_inj x0 c0).mp z.2)), eA, hx14 0 x x0, if_neg hxc]
          · rw [xA_pA]
            by_cases hgf : g = f
            · rw [if_pos ⟨rfl, by rw [hgf]⟩, if_pos ⟨hgf, rfl⟩, eA, xA_pA, if_neg (fun z => absurd z.1 (by decide)), hgf]
            · rw [if_neg (fun z => tn_neL (a := g) (b := f) (by omega) (by omega) hgf z.2), if_neg (fun z => hgf z.1), xA_pA, if_neg (fun z => absurd z.1 (by decide)), eA, xA_pA, if_neg (fun z => absurd z.1 (by decide))]
        · rw [if_neg (fun z => hw (lg_eq z))] at hst
          have hnot : ¬ NdL τ pa T c := fun z => hw (hw0.mpr (hnd.mp z))
          refine ⟨_, hst, frS, false, ⟨fun z => absurd z (by decide), fun z => absurd z hnot⟩, fun x x0 => ?_, fun g hg => ?_⟩
          · rw [eA, hx14 0 x x0]
            rfl
          · rw [if_neg (fun z => absurd z.2 (by decide)), eA, xA_pA, if_neg (fun z => absurd z.1 (by decide))]
      · refine hno (fun z => hu ?_) (by rw [hst, if_pos h1, if_neg (fun z => hu (lg_eq z))])
        have := z.2.1
        rw [q5, e14t] at this
        exact this
    · refine hno (fun z => h1 ?_) (by rw [hst, if_neg h1])
      have := z.1
      rw [q5] at this
      exact this
  · rw [h7] at q1; exact absurd q1 (by decide)
