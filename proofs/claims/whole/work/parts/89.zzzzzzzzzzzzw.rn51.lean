theorem OV.gv {σ μ : S5} (h : OV σ μ) (x y : Int64) : OV (pI (pJ σ 5 x) 45 0) (pI (pJ μ 1 y) 53 1) := ⟨h.1.st (fun _ _ => rfl) rfl rfl (fun j w => by rw [gI_pI, if_neg (by omega)]; rfl) (fun j w => by rw [gI_pI, if_neg (by omega)]; rfl) rfl rfl, h.2⟩
theorem FmC.gv (σ : S5) (x : Int64) (v : Int32) : FmC σ (pI (pJ σ 5 x) 45 v) := ⟨fun j w => by rw [gI_pI, if_neg (by omega)]; rfl, fun j a => by rw [gJ_pI, gJ_pJ, if_neg a], fun _ _ => rfl, fun _ _ => rfl, fun _ _ _ => rfl⟩
theorem FmM.gv (μ : S5) (x : Int64) (v : Int32) : FmM μ (pI (pJ μ 1 x) 53 v) := ⟨fun j w w' => by rw [gI_pI, if_neg (by omega)]; rfl, fun j a => by rw [gJ_pI, gJ_pJ, if_neg a], fun _ _ => rfl, fun _ _ => rfl, rfl⟩
/-- a part is kept, and that is given -/
theorem kg_go {τ μ0 : S5} {F k T : Nat} {pa nv D E : Nat → Nat} (hS : PSt τ μ0 F k T pa nv) (hD : DSt τ μ0 F T pa nv D) (hE : ESt τ μ0 F T nv E) {σs μs : S5} (hPs : eqP τ σs) (hQs : eqQ μ0 μs) {t0 : Nat} {σ μ : S5} {n : Nat} {tg ct : Nat → Nat} {K : List (Nat × Nat × Nat × Nat × Nat)} {t W V b f e r P R : Nat} (hm : MSb τ μ0 F k T pa nv D E σs μs t0 σ μ n tg ct K t W V b f e r P R) (he : e = b + nv f) {c : Int32} {p : Nat} {Sc : Nat → Prop} (hN : ND τ μ0 F T nv f c p Sc) (hg : ∀ x, Sc x → VL τ F pa n tg ct (gB σ 13 (b + x)) (gB μ 9 (b + x))) (hP : D p ≤ P) {Z : Nat} (hZ : R + E p ≤ Z) : GOt τ μ0 F k T pa nv D E σs μs t0 Z σ (bd (f_keepE 64 c σ) (fun r83 τ83 => gq (gN τ83 1) (gN σ 1) <| gq (gN τ83 3) (gN σ 3) <| bd (f_X3_give (r83) τ83) (fun _ τ86 => gq (gN τ86 1) (gN τ83 1) <| gq (gN τ86 3) (gN τ83 3) <| some ((), τ86)))) (bd (f_X12_keep (nI p) μ) (fun r127 τ127 => bd (f_X12_gives (r127) τ127) (fun _ τ130 => some ((), τ130)))) := by
  have hnv := hS.nv
  have fin : ∀ (x : Int64) (σ1 : S5), f_keepE 64 c σ = some (x, σ1) → gN σ1 1 = gN σ 1 → gN σ1 3 = gN σ 3 → (bd (f_keepE 64 c σ) (fun r83 τ83 => gq (gN τ83 1) (gN σ 1) <| gq (gN τ83 3) (gN σ 3) <| bd (f_X3_give (r83) τ83) (fun _ τ86 => gq (gN τ86 1) (gN τ83 1) <| gq (gN τ86 3) (gN τ83 3) <| some ((), τ86)))) = some ((), pI (pJ σ1 5 x) 45 0) := by
    intro x σ1 w1 q1 q3
    unfold f_X3_give
    rw [w1, bd_of]
    unfold gq
    rw [if_pos q1, if_pos q3, bd_of, if_pos (show gN (pI (pJ σ1 5 x) 45 0) 1 = gN σ1 1 from rfl), if_pos (show gN (pI (pJ σ1 5 x) 45 0) 3 = gN σ1 3 from rfl)]
  have fim : ∀ (y : Int64) (μ1 : S5), f_X12_keep (nI p) μ = some (y, μ1) → (bd (f_X12_keep (nI p) μ) (fun r127 τ127 => bd (f_X12_gives (r127) τ127) (fun _ τ130 => some ((), τ130)))) = some ((), pI (pJ μ1 1 y) 53 1) := by
    intro y μ1 w1
    unfold f_X12_gives
    rw [w1, bd_of, bd_of]
  rcases kpm_go hS hD.z hE.z hPs hQs hm.v he hN hg (P' := P - D p) (R' := R + E p) (by omega) (Nat.le_refl _) with ⟨x, y, σ1, μ1, n1, tg1, ct1, w1, w2, w3, w4, w5, w6, w7⟩ | ⟨x, y, σ1, μ1, w1, w2, w3, w4, w5⟩
  · have q1 : gN σ1 1 = gN σ 1 := congrFun w6.2.2.2.2 1
    have q3 : gN σ1 3 = gN σ 3 := congrFun w6.2.2.2.2 3
    exact gv_mk hnv w4.b w3 hZ (Nat.le_of_eq q1.symm) (Nat.le_of_eq q3.symm) (fin x σ1 w1 q1 q3) (fim y μ1 w2)
  · have q1 : gN σ1 1 = gN σ 1 := congrFun w4.2.2.2.2 1
    have q3 : gN σ1 3 = gN σ 3 := congrFun w4.2.2.2.2 3
    have hC0 : MC σ1 t b f e := hm.2.2.2.1.fk w4
    have hC : MC (pI (pJ σ1 5 x) 45 0) t b f e := hC0
    exact ov_mk hm.1.1 hm.1.2.1 (w3.gv x y) hC (w4.fm.tr (FmC.gv _ _ _)) (w5.fm.tr (FmM.gv _ _ _)) ⟨Nat.le_of_eq q1.symm, Nat.le_of_eq q3.symm⟩ (fin x σ1 w1 q1 q3) (fim y μ1 w2)
theorem child_ch {μ0 μ : S5} (hQ : eqQ μ0 μ) {p h' : Nat} {k : Nat} (h : f_X12_child (nI p) (nI k) μ = some (nI h', μ)) (h7 : h' < 7000) : chN μ0 p k = h' := by
  unfold f_X12_child at h
  have h2 := (gd_some (gd_some h).2).2
  have h3 : xA μ 39 (xA μ 33 (nI p) + nI k) = nI h' := by
    exact congrArg Prod.fst (Option.some.inj h2)
  unfold chN
  rw [← hQ.x 33 _ (by decide), ← hQ.x 39 _ (by decide), h3, nI_clamp (by omega)]
/-- AN APPLICATION IS WORKED OUT -/
theorem app_go {τ μ0 : S5} {F k T : Nat} {pa nv D E : Nat → Nat} (hS : PSt τ μ0 F k T pa nv) (hD : DSt τ μ0 F T pa nv D) (hE : ESt τ μ0 F T nv E) (hB : NDb τ μ0 F pa) {σs μs : S5} (hPs : eqP τ σs) (hQs : eqQ μ0 μs) {t0 : Nat} {σ μ : S5} {n : Nat} {tg ct : Nat → Nat} {K : List (Nat × Nat × Nat × Nat × Nat)} {t W V b f e r P R : Nat} (hm : MSb τ μ0 F k T pa nv D E σs μs t0 σ μ n tg ct K t W V b f e r P R) (hf : f < F) (he : e = b + nv f) {c : Int32} {p : Nat} {Sc : Nat → Prop} (hN : ND τ μ0 F T nv f c p Sc) (hk8 : xA τ 13 c = 8) (hg : ∀ x, Sc x → VL τ F pa n tg ct (gB σ 13 (b + x)) (gB μ 9 (b + x))) (hr : hF τ c ≤ r) (hP : D p ≤ P) {Z : Nat} (hZ : R + E p ≤ Z) : GOt τ μ0 F k T pa nv D E σs μs t0 Z σ (f_X3_workApplication c σ) (f_X12_workApplication (nI p) μ) := by
  have hbig := FU_big (n := 5000) (by decide)
  have hnv := hS.nv
  have hP' : eqP τ σ := hPs.fm hm.1.1
  have hQ' : eqQ μ0 μ := hQs.fm hm.1.2.1
  have hF6 := hS.1.1
  obtain ⟨hp7, hc⟩ := hN.p7 (hnv f hf)
  obtain ⟨m, h, h', cc, pp, m1, m8, a15, a34, a16, a16', h7, hNh, hFh, hch0, a17, hKd, hcase⟩ := (less_go hS hP' hQ' hN).2 hk8
  have hA : ApN τ μ0 F T nv f c p m h cc pp Sc := ⟨⟨m1, m8⟩, ⟨a15, a34⟩, ⟨a16, a16', a17⟩, hKd⟩
  have hcn := hA.cn
  have hc0 : chN μ0 p 0 = h' := child_ch hQ' hch0 h7
  have sD0 : sdN D μ0 p 0 = D h' + sdN D μ0 p 1 := by rw [sdN_s D μ0 (by omega), hc0]
  have sE0 : sdN E μ0 p 0 = E h' + sdN E μ0 p 1 := by rw [sdN_s E μ0 (by omega), hc0]
  have hEp := hE.1 f c p Sc hN
  obtain ⟨ac, ac6, ace⟩ := c_nI hc
  obtain ⟨ah, ah6, ahe⟩ := c_nI a16'
  have gc : ∀ {β : Type} (x : Option β), gd c 6200 x = x := fun x => by rw [ace]; exact gdn ac6 (by omega)
  have gh : ∀ {β : Type} (x : Option β), gd h 6200 x = x := fun x => by rw [ahe]; exact gdn ah6 (by omega)
  have sub1 : nI (m + 1) - 1 = nI m := by
    rw [show (1 : Int32) = nI 1 from rfl, nI_sub (by omega)]
    rfl
  -- all arguments are kept
  have alls : ¬ PLs τ pa c → GOt τ μ0 F k T pa nv D E σs μs t0 Z σ (f_X3_workApplication_b43 c h σ) (f_X12_workApplication_L81 FU (nI p) (nI h') (nI m) 0 μ) := by
    intro hnp
    have hDp := (hD.1 f c p Sc hN).2.1 hk8 hnp
    have hgo := all_go hS hD hE hPs hQs (t0 := t0) hf he hN hA hr hNh hFh m 0 FU FU σ μ n tg ct P R Z (by omega) (by omega) (by omega) hm.v hg (by
      show m + sdN D μ0 p 1 + D h' ≤ P
      omega) (by
      show R + 3 + sdN E μ0 p 1 + E h' ≤ Z
      omega)
    rw [if_pos (show 0 < m by omega)] at hgo
    unfold f_X3_workApplication_b43
    rw [gh, hP'.x 17 _ (by decide), a17]
    exact hgo
  rcases hcase with ⟨g, g1, g2, g3, g4, g5, g6, g7, g8⟩ | ⟨g7, g8, ⟨g, g1, g2, g3, g4, g5, g6⟩ | ⟨g3, g5⟩⟩
  · -- less than a call
    obtain ⟨x3g, x47g, hg8, -⟩ := (hS.2.2.2.2 g g1).1
    have hgo := kg_go hS hD hE hPs hQs hm he hN hg hP hZ
    have e1 : f_X3_workApplication c σ = bd (f_keepE 64 c σ) (fun r83 τ83 => gq (gN τ83 1) (gN σ 1) <| gq (gN τ83 3) (gN σ 3) <| bd (f_X3_give (r83) τ83) (fun _ τ86 => gq (gN τ86 1) (gN τ83 1) <| gq (gN τ86 3) (gN τ83 3) <| some ((), τ86))) := by
      unfold f_X3_workApplication f_X3_workApplication_b156
      rw [gc, hP'.x 16 _ (by decide), a16, gh, hP'.x 13 _ (by decide), g3, if_pos rfl, gh, hP'.x 14 _ (by decide), g4, gdn (by omega) (by omega), hP'.x 3 _ (by decide), x3g, if_neg (show ¬ nI (pa g) = 0 from fun w => by have := nI_injL (a := pa g) (b := 0) (by omega) (by omega) w; omega), g7, bd_of]
      rw [show ∀ z : Option (Unit × S5), gq (gN σ 1) (gN σ 1) z = z from fun z => if_pos rfl, show ∀ z : Option (Unit × S5), gq (gN σ 3) (gN σ 3) z = z from fun z => if_pos rfl, if_neg (by decide)]
    have e2 : f_X12_workApplication (nI p) μ = bd (f_X12_keep (nI p) μ) (fun r127 τ127 => bd (f_X12_gives (r127) τ127) (fun _ τ130 => some ((), τ130))) := by
      unfold f_X12_workApplication f_X12_workApplication_b42
      rw [hch0, bd_of, gdn hp7 (by omega), gdn h7 (by omega), hQ'.x 31 _ (by decide), g5, if_pos rfl, gdn h7 (by omega), hQ'.x 32 _ (by decide), g6, gdn (by omega) (by omega), g8, bd_of, if_neg (by decide)]
    rw [e1, e2]
    exact hgo
  · -- a function, and enough
    obtain ⟨x3g, x47g, hg8, -⟩ := (hS.2.2.2.2 g g1).1
    have hnp : ¬ PLs τ pa c := fun ⟨g', m', q1, q2, q3, q4, q5, q6⟩ => by
      have e1 : g' = g := nI_injL (by omega) (by omega) (q4.symm.trans (by rw [a16]; exact g4))
      have e2 : m' = m := nI_injL (by omega) (by omega) (q5.symm.trans a15)
      subst e1 e2
      omega
    by_cases hz : pa g = 0
    · have e1 : f_X3_workApplication c σ = f_X3_workApplication_b43 c h σ := by
        unfold f_X3_workApplication
        rw [gc, hP'.x 16 _ (by decide), a16, gh, hP'.x 13 _ (by decide), g3, if_pos rfl, gh, hP'.x 14 _ (by decide), g4, gdn (by omega) (by omega), hP'.x 3 _ (by decide), x3g, if_pos (by rw [hz]; rfl)]
      have e2 : f_X12_workApplication (nI p) μ = f_X12_workApplication_L81 FU (nI p) (nI h') (nI m) 0 μ := by
        unfold f_X12_workApplication f_X12_workApplication_b42
        rw [hch0, bd_of, gdn hp7 (by omega), gdn h7 (by omega), hQ'.x 31 _ (by decide), g5, if_pos rfl, gdn h7 (by omega), hQ'.x 32 _ (by decide), g6, gdn (by omega) (by omega), g8, bd_of, if_pos rfl, hQ'.x 47 _ (by decide), x47g, if_pos (by rw [hz]; decide), hQ'.x 34 _ (by decide), a34, sub1]
      rw [e1, e2]
      exact alls hnp
    · have hDp := (hD.1 f c p Sc hN).2.1 hk8 hnp
      have hgo := ar_go (done := 0) hS hD hE hB hPs hQs (t0 := t0) hf he hN hk8 hA hr (g := g) ⟨g1, by omega, g2, g3, g4⟩ m 0 FU FU σ μ n tg ct P R Z (by omega) (by omega) (by omega) (Nat.le_refl _) hm.v hg (by
        show m + sdN D μ0 p 1 ≤ P
        omega) (by
        show R + 4 + 2 * m + sdN E μ0 p 1 ≤ Z
        omega)
      rw [if_pos (show 0 < m by omega)] at hgo
      have e1 : f_X3_workApplication c σ = bd (f_X3_workArguments_L35 FU c (nI 0) (nI g) (cc 0) (nI 0) σ) (fun _ τ' => gle (gN σ 1) (gN τ' 1) <| gle (gN σ 3) (gN τ' 3) <| some ((), τ')) := by
        unfold f_X3_workApplication f_X3_workApplication_b156 f_X3_workArguments
        rw [gc, hP'.x 16 _ (by decide), a16, gh, hP'.x 13 _ (by decide), g3, if_pos rfl, gh, hP'.x 14 _ (by decide), g4, gdn (by omega) (by omega), hP'.x 3 _ (by decide), x3g, if_neg (show ¬ nI (pa g) = 0 from fun w => hz (nI_injL (a := pa g) (b := 0) (by omega) (by omega) w)), g7, bd_of]
        rw [show ∀ z : Option (Unit × S5), gq (gN σ 1) (gN σ 1) z = z from fun z => if_pos rfl, show ∀ z : Option (Unit × S5), gq (gN σ 3) (gN σ 3) z = z from fun z => if_pos rfl, if_pos rfl, gc, hP'.x 16 _ (by decide), a16, gh, gh, hP'.x 14 _ (by decide), g4, hP'.x 17 _ (by decide), a17]
        rfl
      have e2 : f_X12_workApplication (nI p) μ = bd (f_X12_arguments_L33 FU (nI p) (nI g) (nI (pa g)) (nI m) (nI 0) μ) (fun _ τ' => some ((), τ')) := by
        unfold f_X12_workApplication f_X12_workApplication_b42 f_X12_arguments
        rw [hch0, bd_of, gdn hp7 (by omega), gdn h7 (by omega), hQ'.x 31 _ (by decide), g5, if_pos rfl, gdn h7 (by omega), hQ'.x 32 _ (by decide), g6, gdn (by omega) (by omega), g8, bd_of, if_pos rfl, hQ'.x 47 _ (by decide), x47g, if_neg (nle0 (by omega) hz), hch0, bd_of, gdn h7 (by omega), hQ'.x 32 _ (by decide), g6, gdn (by omega) (by omega), gdn hp7 (by omega), hQ'.x 47 _ (by decide), x47g, hQ'.x 34 _ (by decide), a34, sub1]
        rfl
      rw [e1, e2]
      exact hgo.g
  · -- another head
    have hnp : ¬ PLs τ pa c := fun ⟨g', m', q1, q2, q3, q4, q5, q6⟩ => by
      rw [a16] at q3
      exact g3 q3
    have e1 : f_X3_workApplication c σ = f_X3_workApplication_b43 c h σ := by
      unfold f_X3_workApplication
      rw [gc, hP'.x 16 _ (by decide), a16, gh, hP'.x 13 _ (by decide), if_neg g3]
    have e2 : f_X12_workApplication (nI p) μ = f_X12_workApplication_L81 FU (nI p) (nI h') (nI m) 0 μ := by
      unfold f_X12_workApplication f_X12_workApplication_b42
      rw [hch0, bd_of, gdn hp7 (by omega), gdn h7 (by omega), hQ'.x 31 _ (by decide), if_neg g5, g8, bd_of, if_pos rfl, if_pos (by decide), hQ'.x 34 _ (by decide), a34, sub1]
    rw [e1, e2]
    exact alls hnp
