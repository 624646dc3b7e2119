theorem pcn40 {τ μ : S5} {F T : Nat} {nv : Nat → Nat} {f : Nat} {c : Int32} {p : Nat} {Sc : Nat → Prop} (hv : nv f ≤ 40) (h : ND τ μ F T nv f c p Sc) : pcn (i64n (xB τ 2 c)) 40 = pcn (i64n (xB τ 2 c)) (nv f) := by
  have hb : ∀ x, UB τ c x → x < nv f := fun x w => by
    obtain ⟨-, q, lo, hi, h1, h2, -⟩ := id h
    exact h.lt hv (h1.2.2.1 x w)
  have hu := used_lt hb
  have := pcn_hi hu (40 - nv f)
  rw [show nv f + (40 - nv f) = 40 by omega] at this
  exact this
/-- the one enters a suspension that waits -/
theorem ent_c {τ μ0 : S5} {F k T : Nat} {pa nv : Nat → Nat} (hS : PSt τ μ0 F k T pa nv) {σ : S5} (hP : eqP τ σ) {t b f e : Nat} (hM : MC σ t b f e) (ht : t + 2 < 1048576) (he : e + 40 < 262144) {A g a p : Nat} (hA : A + 1 + pcn (i64n (xB τ 2 (nI a))) (nv g) ≤ 4000) (ha : a < 6200) (hN : ND τ μ0 F T nv g (nI a) p (UB τ (nI a))) (hrow : gB σ 14 A = sw g a) : ∃ σ', f_X3_enter (vv 6 (nI A)) σ = some ((), pI (pI σ' 44 (nI a)) 45 1) ∧ MC σ' (t + 2) e g (e + nv g) ∧ FmC σ σ' ∧ (gN σ 1 ≤ gN σ' 1 ∧ gN σ 3 ≤ gN σ' 3) ∧ (∀ j, ¬ (40 ≤ j ∧ j ≤ 43) → gI σ' j = gI σ j) ∧ (∀ j, gA σ' j = gA σ j) ∧ gB σ' 12 t = fr 7 A 0 ∧ gB σ' 12 (t + 1) = fr 8 b f ∧ (∀ j, j < t → gB σ' 12 j = gB σ 12 j) ∧ (∀ j, j < e → gB σ' 13 j = gB σ 13 j) ∧ (∀ y, y < nv g → ub (xB τ 2 (nI a)) y = true → gB σ' 13 (e + y) = gB σ 14 (A + 1 + pcn (i64n (xB τ 2 (nI a))) y)) ∧ gB σ' 14 A = 4611686018427387904 ∧ ∀ j, ¬ j = A → gB σ' 14 j = gB σ 14 j := by
  have hb := FU_big (n := 5000) (by decide)
  have hg : g < F := hN.1
  obtain ⟨⟨s1, s2, s3⟩, -, -, -, hf⟩ := hS
  obtain ⟨-, ⟨v1, v2, v3, hnv⟩, -⟩ := hf g hg
  have hg6 : g < 630 := by omega
  -- the frame
  obtain ⟨σ1, p1, p2, p3, p4, p5, p6, p7⟩ := push_c hM (by omega) (fr 7 A 0)
  have e14 : ∀ j, gB σ1 14 j = gB σ 14 j := fun j => congrFun (p3.2.2.2.1 14 (by decide)) j
  have x14 : xB σ1 14 (nI A) = sw g a := by
    show gB σ1 14 (nI A).toNatClampNeg = _
    rw [nI_clamp (by omega), e14, hrow]
  have x140 : xB σ 14 (nI A) = sw g a := by
    show gB σ 14 (nI A).toNatClampNeg = _
    rw [nI_clamp (by omega), hrow]
  have hP1 : eqP τ σ1 := hP.fm p3.fm
  obtain ⟨σ2, o1, o2, o3, o4, o5, o6, o7, o8⟩ := open_c (nvf := nv g) p2 hg6 (by rw [hP1.x 6 _ (by decide)]; exact v1) hnv (by omega) he
  have hP2 : eqP τ σ2 := hP1.fm o3.fm
  obtain ⟨⟨n1, n2, n3, n4⟩, n5, n6, n7, n8⟩ := id o2
  have l3 := n7.b
  have h40 := pcn40 hnv hN
  obtain ⟨σ3, d1, d2, d3, d4⟩ := ld_c (a := xB τ 2 (nI a)) (f := g) (nv := nv g) (base := e) (p0 := A + 1) hg6 hnv (nv g) 0 FU σ2 (by omega) (by omega) n4 (by rw [hP2.x 6 _ (by decide)]; exact v1) n2 n8 (by omega) (by omega) hA
  have z0 : pcn (i64n (xB τ 2 (nI a))) 0 = 0 := rfl
  rw [z0, Nat.add_zero] at d1
  have d1' : f_X3_loadVariables_L6 FU (xB τ 2 (nI a)) (nI (A + 1)) 0 σ2 = some ((), σ3) := d1
  have f3 : FmC σ σ3 := (p3.fm.tr o3.fm).tr (d2.fm (by omega))
  have eN3 : σ3.2.2.2.2 = σ2.2.2.2.2 := d2.2.2.2.2
  have k1 : gN σ3 1 = gN σ2 1 := congrFun eN3 1
  have k3 : gN σ3 3 = gN σ2 3 := congrFun eN3 3
  have hh : ∀ j, ¬ (40 ≤ j ∧ j ≤ 43) → gI σ3 j = gI σ j := fun j w => by rw [d2.1 j, o3.1 j w, p3.1 j (by omega)]
  have ss : f_X3_enter (vv 6 (nI A)) σ = some ((), pI (pI (pB σ3 14 (nI A) 4611686018427387904) 44 (nI a)) 45 1) := by
    have w1 : (vv 6 (nI A)).toInt32 = nI A := vv_of 6 (nI A)
    have w2 : (j_lushr (vv 6 (nI A)) 32).toInt32 = 6 := vv_tag 6 (nI A)
    have hswf : g < 2 ^ 24 := by omega
    have hswc : a < 2 ^ 24 := by omega
    have w3 : ¬ lg_cmp (sw g a) 4611686018427387904 = 0 := fun w => sw_bl hswf hswc (lg_eq w)
    have w4 : ¬ lg_cmp (sw g a &&& 2305843009213693952) 0 = 0 := fun w => sw_fr hswf hswc (lg_eq w)
    unfold f_X3_enter f_X0_tag
    rw [w1, w2]
    show gq (gN σ 1) (gN σ 1) (gq (gN σ 3) (gN σ 3) (if (6 : Int32) = 6 then _ else _)) = _
    unfold gq
    rw [if_pos rfl, if_pos rfl, if_pos rfl]
    unfold f_X0_isBlack
    rw [gdn (by omega) (by omega), x140, if_neg w3]
    show (if gN σ 1 = gN σ 1 then (if gN σ 3 = gN σ 3 then (if (0 : Int32) = 0 then _ else _) else _) else _) = _
    rw [if_pos rfl, if_pos rfl, if_pos rfl]
    unfold f_X0_isFresh
    rw [gdn (by omega) (by omega), x140, if_neg w4]
    show (if gN σ 1 = gN σ 1 then (if gN σ 3 = gN σ 3 then (if (1 : Int32) = 0 then _ else _) else _) else _) = _
    rw [if_pos rfl, if_pos rfl, if_neg (by decide)]
    show (if gN σ 1 = gN σ 1 then (if gN σ 3 = gN σ 3 then bd (f_X3_push (fr 7 A 0) σ) _ else _) else _) = _
    rw [if_pos rfl, if_pos rfl, p1]
    show gle (gN σ 1) (gN σ1 1) (gle (gN σ 3) (gN σ1 3) (f_X3_enter_b78 (nI A) σ1)) = _
    unfold gle
    rw [if_pos p6, if_pos (by rw [p7]; exact Nat.le_refl _)]
    unfold f_X3_enter_b78 f_X0_nodeOf f_X0_functionOf
    rw [gdn (by omega) (by omega), x14, sw_c hswf hswc]
    show gq (gN σ1 1) (gN σ1 1) (gq (gN σ1 3) (gN σ1 3) (bd (gd (nI A) 4000 _) _)) = _
    unfold gq
    rw [if_pos rfl, if_pos rfl, gdn (by omega) (by omega), x14, sw_f hswf hswc]
    show (if gN σ1 1 = gN σ1 1 then (if gN σ1 3 = gN σ1 3 then bd (f_X3_openVariables (nI g) σ1) _ else _) else _) = _
    rw [if_pos rfl, if_pos rfl, o1]
    show gle (gN σ1 1) (gN σ2 1) (gle (gN σ1 3) (gN σ2 3) (f_X3_enter_b100 (nI A) (nI a) σ2)) = _
    unfold gle
    rw [if_pos o7, if_pos o8]
    unfold f_X3_enter_b100 f_X3_loadVariables
    rw [gdn ha (by omega), hP2.y 2 _ (by decide), nI_add1, d1']
    show gq (gN σ3 1) (gN σ2 1) (gq (gN σ3 3) (gN σ2 3) (bd (f_X0_blacken (nI A) σ3) _)) = _
    unfold gq f_X0_blacken
    rw [if_pos k1, if_pos k3, gdn (by omega) (by omega)]
    show (if gN σ3 1 = gN σ3 1 then (if gN σ3 3 = gN σ3 3 then (bd (f_X3_workOn (nI a) (pB σ3 14 (nI A) 4611686018427387904)) _) else _) else _) = _
    rw [if_pos rfl, if_pos rfl]
    show (if gN σ3 1 = gN σ3 1 then (if gN σ3 3 = gN σ3 3 then _ else _) else _) = _
    rw [if_pos rfl, if_pos rfl]
  refine ⟨pB σ3 14 (nI A) 4611686018427387904, ss, ⟨⟨?_, ?_, ?_, ?_⟩, ?_, ?_, ?_, ?_⟩, f3.tr ⟨fun _ _ => rfl, fun _ _ => rfl, fun _ _ => rfl, fun j w => gB_pB_ne (by omega), fun _ _ _ => rfl⟩, ⟨?_, ?_⟩, hh, fun j => ?_, ?_, ?_, fun j hj => ?_, fun j hj => ?_, fun y y1 y2 => ?_, gB_s (σ := σ3) (by omega), fun j hj => ?_⟩
  · exact (d2.1 40).trans n1
  · exact (d2.1 41).trans n2
  · exact (d2.1 42).trans n3
  · exact (d2.1 43).trans n4
  · show Ln 11 (gN σ3 1)
    rw [k1]; exact n5
  · show t + 2 ≤ gN σ3 1
    rw [k1]; exact n6
  · show Ln 9 (gN σ3 3)
    rw [k3]; exact n7
  · show e + nv g ≤ gN σ3 3
    rw [k3]; exact n8
  · show gN σ 1 ≤ gN σ3 1
    omega
  · show gN σ 3 ≤ gN σ3 3
    omega
  · exact (d2.2.2.1 j).trans ((o3.2.2.1 j).trans (p3.2.2.1 j))
  · rw [gB_pB_ne (by decide), d2.2.2.2.1 12 (by decide), o5 t (by omega)]
    exact p4
  · rw [gB_pB_ne (by decide), d2.2.2.2.1 12 (by decide)]
    exact o4
  · rw [gB_pB_ne (by decide), d2.2.2.2.1 12 (by decide), o5 j (by omega)]
    exact p5 j hj
  · rw [gB_pB_ne (by decide), d4 j (fun y _ _ _ => by omega), o6 j (by have := p2.2.2.2.2; omega)]
    exact congrFun (p3.2.2.2.1 13 (by decide)) j
  · rw [gB_pB_ne (by decide), d3 y (by omega) y1 y2, o3.2.2.2.1 14 (by decide) (by decide)]
    exact e14 _
  · rw [gB_n (σ := σ3) (by omega) hj, d2.2.2.2.1 14 (by decide), o3.2.2.2.1 14 (by decide) (by decide)]
    exact e14 j
