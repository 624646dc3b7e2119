theorem c_nI {c : Int32} (h : 0 ≤ c ∧ c < 6200) : ∃ a, a < 6200 ∧ c = nI a := ⟨c.toNatClampNeg, i_lt (n := 6200) (Int32.not_lt.mpr h.1) h.2, nI_tn h.1⟩
theorem GOt.up {τ μ0 : S5} {F k T : Nat} {pa nv D E : Nat → Nat} {σs μs : S5} {t0 Z : Nat} {σ σ2 : S5} {Fc Fm : Option (Unit × S5)} (h : GOt τ μ0 F k T pa nv D E σs μs t0 Z σ2 Fc Fm) (h1 : gN σ 1 ≤ gN σ2 1) (h3 : gN σ 3 ≤ gN σ2 3) : GOt τ μ0 F k T pa nv D E σs μs t0 Z σ Fc Fm := by
  obtain ⟨σ', μ', a1, a2, ⟨a3, a4⟩, a5⟩ := h
  exact ⟨σ', μ', a1, a2, ⟨Nat.le_trans h1 a3, Nat.le_trans h3 a4⟩, a5⟩
/-- behind a guard -/
theorem GOt.g {τ μ0 : S5} {F k T : Nat} {pa nv D E : Nat → Nat} {σs μs : S5} {t0 Z : Nat} {σ : S5} {Fc Fm : Option (Unit × S5)} (h : GOt τ μ0 F k T pa nv D E σs μs t0 Z σ Fc Fm) : GOt τ μ0 F k T pa nv D E σs μs t0 Z σ (bd Fc (fun _ τ' => gle (gN σ 1) (gN τ' 1) <| gle (gN σ 3) (gN τ' 3) <| some ((), τ'))) (bd Fm (fun _ τ' => some ((), τ'))) := by
  obtain ⟨σ', μ', a1, a2, ⟨a3, a4⟩, a5⟩ := h
  refine ⟨σ', μ', ?_, ?_, ⟨a3, a4⟩, a5⟩
  · rw [a1, bd_of]
    unfold gle
    rw [if_pos a3, if_pos a4]
  · rw [a2, bd_of]
/-- a part is taken up -/
theorem wk_mk {τ μ0 : S5} {F k T : Nat} {pa nv D E : Nat → Nat} (hnv : ∀ f, f < F → nv f ≤ 40) {σs μs : S5} {t0 : Nat} {σ σ' μ' : S5} {n : Nat} {tg ct : Nat → Nat} {K : List (Nat × Nat × Nat × Nat × Nat)} {t W V b f e r P R : Nat} (h : MSb τ μ0 F k T pa nv D E σs μs t0 σ' μ' n tg ct K t W V b f e r P R) {c : Int32} {p : Nat} {Sc : Nat → Prop} (hN : ND τ μ0 F T nv f c p Sc) (hg : ∀ x, Sc x → VL τ F pa n tg ct (gB σ' 13 (b + x)) (gB μ' 9 (b + x))) (hF : hF τ c ≤ r) (hP : D p ≤ P) {Z : Nat} (hZ : R + E p + 1 ≤ Z) (he : e = b + nv f) (h1 : gN σ 1 ≤ gN σ' 1) (h3 : gN σ 3 ≤ gN σ' 3) {Fc Fm : Option (Unit × S5)} (hc : Fc = some ((), pI (pI σ' 44 c) 45 1)) (hm : Fm = some ((), pI (pI μ' 52 (nI p)) 53 0)) : GOt τ μ0 F k T pa nv D E σs μs t0 Z σ Fc Fm := by
  refine ⟨_, _, hc, hm, ⟨h1, h3⟩, Or.inl ⟨n, tg, ct, _, _, _, _, _, _, _, _, _, _, h.st hnv (fun j w => ?_) (fun _ _ => rfl) (fun _ => rfl) (fun _ => rfl) rfl (fun j w => ?_) (fun _ _ => rfl) (fun _ => rfl) (fun _ => rfl) rfl, Or.inl ⟨c, p, Sc, ⟨rfl, rfl, rfl, rfl⟩, hN, hg, hF, ⟨hP, hZ⟩, he⟩⟩⟩
  · rw [gI_pI, if_neg (by omega), gI_pI, if_neg (by omega)]
  · rw [gI_pI, if_neg (by omega), gI_pI, if_neg (by omega)]
/-- a value is given, from another state on -/
theorem gv_mk {τ μ0 : S5} {F k T : Nat} {pa nv D E : Nat → Nat} (hnv : ∀ f, f < F → nv f ≤ 40) {σs μs : S5} {t0 : Nat} {σ σ' μ' : S5} {n : Nat} {tg ct : Nat → Nat} {K : List (Nat × Nat × Nat × Nat × Nat)} {t W V b f e r P R : Nat} (h : MSb τ μ0 F k T pa nv D E σs μs t0 σ' μ' n tg ct K t W V b f e r P R) {x y : Int64} (v : VL τ F pa n tg ct x y) {Z : Nat} (hZ : R ≤ Z) (h1 : gN σ 1 ≤ gN σ' 1) (h3 : gN σ 3 ≤ gN σ' 3) {Fc Fm : Option (Unit × S5)} (hc : Fc = some ((), pI (pJ σ' 5 x) 45 0)) (hm : Fm = some ((), pI (pJ μ' 1 y) 53 1)) : GOt τ μ0 F k T pa nv D E σs μs t0 Z σ Fc Fm := (gv_go hnv h hZ v hc hm).up h1 h3
/-- only numbers of the run change -/
theorem MSv.nr {τ μ0 : S5} {F k T : Nat} {pa nv D E : Nat → Nat} (hnv : ∀ f, f < F → nv f ≤ 40) {σs μs : S5} {t0 : Nat} {σ μ σ' μ' : S5} {n : Nat} {tg ct : Nat → Nat} {K : List (Nat × Nat × Nat × Nat × Nat)} {t W V b f e r P R i : Nat} (h : MSv τ μ0 F k T pa nv D E σs μs t0 σ μ n tg ct K t W V b f e r P R i) (hI : ∀ j, gI σ' j = gI σ j) (hJ : ∀ j, gJ σ' j = gJ σ j) (hA : ∀ j, ¬ j = 40 → gA σ' j = gA σ j) (hA3 : gA σ' 40 3 = gA σ 40 3) (hB : ∀ j, gB σ' j = gB σ j) (hN : σ'.2.2.2.2 = σ.2.2.2.2) (mI : ∀ j, ¬ j = 42 → ¬ j = 43 → gI μ' j = gI μ j) (mJ : ∀ j, gJ μ' j = gJ μ j) (mA : ∀ j, gA μ' j = gA μ j) (mB : ∀ j, gB μ' j = gB μ j) (mN : μ'.2.2.2.2 = μ.2.2.2.2) (hn' : NR σ' μ') : MSv τ μ0 F k T pa nv D E σs μs t0 σ' μ' n tg ct K t W V b f e r P R i := by
  obtain ⟨⟨f1, f2, f3⟩, hH, ⟨hn, h0⟩, ⟨⟨m1, m2, m3, m4⟩, m5, m6, m7, m8⟩, ⟨q1, q2, q3, q4⟩, hK, hG, ⟨n1, n2, cl, lf, n3, n4, n5, n6, n7, n8⟩, hvs⟩ := h
  have eN : ∀ j, gN σ' j = gN σ j := fun j => congrFun hN j
  have e1 : blC μ' = blC μ := funext (fun c => by unfold blC; rw [mA 53])
  have e2 : spC D μ' = spC D μ := funext (fun c => by unfold spC; rw [mA 53, mA 54])
  have e3 : spC E μ' = spC E μ := funext (fun c => by unfold spC; rw [mA 53, mA 54])
  refine ⟨⟨f1.tr ⟨fun j _ => hI j, fun j _ => hJ j, fun j a => hA j (by omega), fun j _ => hB j, fun k _ _ => eN k⟩, f2.tr ⟨fun j a b => mI j (by omega) (by omega), fun j _ => mJ j, fun j _ => mA j, fun j _ => mB j, mN⟩, f3.eq (mB 7)⟩, hH.of hA3 (hB 14) (fun j _ _ => mI j (by omega) (by omega)) (fun j _ _ => mA j) (mB 6) (mB 7), ⟨hn', ?_⟩, ⟨⟨?_, ?_, ?_, ?_⟩, ?_, ?_, ?_, ?_⟩, ⟨?_, ?_, ?_, ?_⟩, ?_, ?_, ?_, fun j hj => ?_⟩
  · rw [mI 44 (by omega) (by omega)]; exact h0
  · rw [hI 40]; exact m1
  · rw [hI 41]; exact m2
  · rw [hI 42]; exact m3
  · rw [hI 43]; exact m4
  · rw [eN]; exact m5
  · rw [eN]; exact m6
  · rw [eN]; exact m7
  · rw [eN]; exact m8
  · rw [mI 48 (by omega) (by omega)]; exact q1
  · rw [mI 49 (by omega) (by omega)]; exact q2
  · rw [mI 50 (by omega) (by omega)]; exact q3
  · rw [mI 51 (by omega) (by omega)]; exact q4
  · exact SK.mv hnv (Gro.rf n tg ct) K hK (fun j _ => by rw [hB 12]) (fun j _ => by rw [mA 59, mA 60, mA 61]; exact ⟨rfl, rfl, rfl⟩) (fun j _ => by rw [mB 8]) (fun j _ w => by rw [hB 13, mB 9]; exact w)
  · unfold GLB at *
    rw [hA 43 (by decide), mA 64]
    exact hG
  · exact ⟨by rw [e1]; exact n1, n2, cl, lf, by rw [mI 38 (by omega) (by omega)]; exact n3, by rw [mI 37 (by omega) (by omega)]; exact n4, n5, n6, by rw [e2]; exact n7, by rw [e3]; exact n8⟩
  · rw [hB 12, mB 8]
    exact hvs j hj
/-- something is worked out at once: the numbers -/
theorem nr_ao {σ μ : S5} (h : NR σ μ) : NR (pA σ 40 8 ((xA σ 40 8) + 1)) (pI μ 43 ((gI μ 43) + 1)) := by
  obtain ⟨⟨r0, r1, r2, r3, r4, r5, r6, r7, r8, r9, q1, q2, q3, q4⟩, a1, a2, a3, a4⟩ := h
  refine ⟨⟨r0, r1, r2, r3, r4, r5, r6, r7, ?_, r9, q1, q2, q3, q4⟩, a1, a2, a3, a4⟩
  show gA σ 40 8 + 1 = gI μ 43 + 1
  rw [r8]
theorem MSv.ao {τ μ0 : S5} {F k T : Nat} {pa nv D E : Nat → Nat} (hnv : ∀ f, f < F → nv f ≤ 40) {σs μs : S5} {t0 : Nat} {σ μ : S5} {n : Nat} {tg ct : Nat → Nat} {K : List (Nat × Nat × Nat × Nat × Nat)} {t W V b f e r P R i : Nat} (h : MSv τ μ0 F k T pa nv D E σs μs t0 σ μ n tg ct K t W V b f e r P R i) : MSv τ μ0 F k T pa nv D E σs μs t0 (pA σ 40 8 ((xA σ 40 8) + 1)) (pI μ 43 ((gI μ 43) + 1)) n tg ct K t W V b f e r P R i :=
  h.nr hnv (fun _ => rfl) (fun _ => rfl) (fun j a => gA_pA_ne a) rfl (fun _ => rfl) rfl (fun j _ a => by rw [gI_pI, if_neg a]) (fun _ => rfl) (fun _ => rfl) (fun _ => rfl) rfl (nr_ao h.2.2.1.1)
/-- both have ended, and push all the same -/
theorem ov_push {σ μ : S5} {t b f e W V : Nat} (hO : OV σ μ) (hC : MC σ t b f e) (hM : MM μ W V b e) (ht : t < 1048576) (hV : V < 580000) (x y : Int64) : ∃ σ' μ', f_X3_push x σ = some ((), σ') ∧ f_X12_push y μ = some ((), μ') ∧ OV σ' μ' ∧ MC σ' (t + 1) b f e ∧ MM μ' W (V + 1) b e ∧ FmC σ σ' ∧ FmM μ μ' ∧ (gN σ 1 ≤ gN σ' 1 ∧ gN σ 3 ≤ gN σ' 3) := by
  obtain ⟨σ', p1, p2, p3, p4, p5, p6, p7⟩ := push_c hC ht x
  obtain ⟨μ', q1, q2, q3, q4, q5, q6⟩ := push_m hM hV y
  refine ⟨σ', μ', p1, q1, ⟨?_, ?_⟩, p2, q2, p3.fm, q3.fm, p6, Nat.le_of_eq p7.symm⟩
  · exact hO.1.st (fun x _ => congrFun (p3.2.2.1 40) x) (p3.2.2.1 41) (p3.2.2.1 42) (fun j w => p3.1 j (by omega)) (fun j w => q3.1 j (by omega)) (q4 57) (q4 58)
  · rw [q3.1 44 (by omega)]; exact hO.2
theorem OV.c {σ μ : S5} (h : OV σ μ) : ¬ xA σ 40 0 = 0 := fun w => h.2 (h.1.1.1.symm.trans w)
theorem MC.fk {σ σ' : S5} {t b f e : Nat} (h : MC σ t b f e) (g : FkC σ σ') : MC σ' t b f e := by
  obtain ⟨⟨h1, h2, h3, h4⟩, h5, h6, h7, h8⟩ := h
  have eN : ∀ j, gN σ' j = gN σ j := fun j => congrFun g.2.2.2.2 j
  exact ⟨⟨by rw [g.1]; exact h1, by rw [g.1]; exact h2, by rw [g.1]; exact h3, by rw [g.1]; exact h4⟩, by rw [eN]; exact h5, by rw [eN]; exact h6, by rw [eN]; exact h7, by rw [eN]; exact h8⟩
theorem MM.fk {μ μ' : S5} {W V b e : Nat} (h : MM μ W V b e) (g : FkM μ μ') : MM μ' W V b e := by
  obtain ⟨h1, h2, h3, h4⟩ := h
  exact ⟨by rw [g.1 48 (by omega) (by omega) (by omega) (by omega) (by omega)]; exact h1, by rw [g.1 49 (by omega) (by omega) (by omega) (by omega) (by omega)]; exact h2, by rw [g.1 50 (by omega) (by omega) (by omega) (by omega) (by omega)]; exact h3, by rw [g.1 51 (by omega) (by omega) (by omega) (by omega) (by omega)]; exact h4⟩
/-- both have ended: so they go on -/
theorem ov_mk {τ μ0 : S5} {F k T : Nat} {pa nv D E : Nat → Nat} {σs μs : S5} {t0 Z : Nat} {σ μ σ' μ' : S5} {t b f e : Nat} (h1 : FmC σs σ) (h2 : FmM μs μ) (hO : OV σ' μ') (hC : MC σ' t b f e) (g1 : FmC σ σ') (g2 : FmM μ μ') (hL : gN σ 1 ≤ gN σ' 1 ∧ gN σ 3 ≤ gN σ' 3) {Fc Fm : Option (Unit × S5)} (hc : Fc = some ((), σ')) (hm : Fm = some ((), μ')) : GOt τ μ0 F k T pa nv D E σs μs t0 Z σ Fc Fm := ⟨σ', μ', hc, hm, hL, Or.inr ⟨hO, h1.tr g1, h2.tr g2, hC.2.1, hC.2.2.2.1⟩⟩
