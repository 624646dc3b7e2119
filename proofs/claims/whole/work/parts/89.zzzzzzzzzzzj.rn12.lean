/-- both make a cell, or both end as there is no room -/
def MK (τ μ0 : S5) (F T : Nat) (pa nv : Nat → Nat) (σ μ : S5) (n : Nat) (tg ct : Nat → Nat) (Rd : Nat → Prop) (t m : Nat) (Fc : Option (Int64 × S5)) (Fm : Option (Int32 × S5)) : Prop :=
  (∃ τ' ν, Fc = some (vv (nI t) (nI (adr tg ct n)), τ') ∧ Fm = some (nI n, ν) ∧ HS τ μ0 F T pa nv τ' ν (n + 1) (updN tg n t) (updN ct n m) (fun c => c < n ∧ Rd c) ∧ NR τ' ν ∧ FkC σ τ' ∧ FkM μ ν ∧ (∀ j, j < adr tg ct n → gB τ' 14 j = gB σ 14 j) ∧ gB ν 7 = gB μ 7 ∧ gI ν 44 = 0 ∧ gI ν 54 = gI μ 54 ∧ gA ν 62 = gA μ 62 ∧ gA ν 63 = gA μ 63 ∧ (t = 6 → gA ν 53 n = 2) ∧ ∀ c, c < n → gA ν 53 c = gA μ 53 c) ∨ (∃ τ' ν, Fc = some (0, τ') ∧ Fm = some (-1, ν) ∧ OV τ' ν ∧ FkC σ τ' ∧ FkM μ ν)
theorem vv_go (t i : Int32) (σ : S5) : f_X0_value t i σ = some (vv t i, σ) := rfl
theorem made_y {t N : Nat} (hN : N < 2 ^ 31) (σ : S5) : f_X3_made (nI t) (nI N) σ = some (vv (nI t) (nI N), σ) := by
  unfold f_X3_made
  rw [if_neg (nI_ne1 hN)]
  rfl
/-- the general step: the states behind both are given -/
theorem mk_ok {τ μ0 : S5} {F T : Nat} {pa nv : Nat → Nat} {σ μ : S5} {n : Nat} {tg ct : Nat → Nat} {Rd : Nat → Prop} (h : HS τ μ0 F T pa nv σ μ n tg ct Rd) (hn : NR σ μ) (h0 : gI μ 44 = 0) {t m so : Nat} {v : Int32} {Fc : Option (Int64 × S5)} (ht6 : t = 6 → so = 2) (hso : so < 3) (hm : m < 1000) (hfit : adr tg ct n + (m + 1 + if t = 5 then 1 else 0) ≤ 4000) {σ' : S5} (hFc : Fc = some (vv (nI t) (nI (adr tg ct n)), σ')) (hσA : gA σ' 40 = upd (upd (gA σ 40) 3 (nI (adr tg ct n + (m + 1 + if t = 5 then 1 else 0)))) (6 - so) (gA σ 40 (6 - so) + 1)) (hσF : FkC σ σ') (hσB : ∀ j, j < adr tg ct n → gB σ' 14 j = gB σ 14 j) (hnew : ∀ (so' va be co : Nat → Int32) (dn fi : Nat → Int64), so' n = nI so → va n = v → be n = nI (pre (updN ct n m) n) → co n = nI (updN ct n m n) → CO τ μ0 F T pa nv (gB σ' 14) so' va be co dn fi (n + 1) (updN tg n t) (updN ct n m) False n) : MK τ μ0 F T pa nv σ μ n tg ct Rd t m Fc (f_X12_newCell (nI so) v (nI m) (nI (m + 1 + if t = 5 then 1 else 0)) μ) := by
  obtain ⟨⟨a1, a2, a3, a4, a5⟩, -⟩ := id h
  have hna := (adr_ge tg ct n).1
  have hs1 : (if t = 5 then 1 else 0) ≤ 1 := by by_cases h5 : t = 5 <;> simp [h5]
  obtain ⟨ν, b1, ⟨b2, b3, b4, b5, b6, b7, b8⟩, b9, b10, b11, ⟨b12, b13, b14, b15⟩, b16, b17⟩ := (nc_m (v := v) (m := m) (so := so) (s := m + 1 + if t = 5 then 1 else 0) a1 a2 a4 (by omega) (by omega) hso).1 hfit
  have hg := (Gro.nw n tg ct t m).ad (Nat.le_refl n)
  refine Or.inl ⟨σ', ν, hFc, b1, hs_new h b2 b3 hfit b4 ?_ b12 b13 b14 b15 (b16 6) (b16 7) hσB (hnew _ _ _ _ _ _ ?_ ?_ ?_ ?_), nr_mk hn a5 hso hσA (hσF.2.2.1 41 (by decide)) (hσF.2.2.1 42 (by decide)) hσF.1 b4 b5 b6 b7 b8 b9 (b11 57 (by omega)) (b11 58 (by omega)), hσF, ⟨fun j c d _ _ _ => b9 j c d, b10, fun j c _ _ => b11 j c, fun j _ => b16 j, b17⟩, hσB, b16 7, ?_, b9 54 (by omega) (by omega), b11 62 (by omega), b11 63 (by omega), fun w => by rw [b12, up_s, ht6 w]; rfl, fun c hc => by rw [b12, up_n (by omega)]⟩
  · rw [hσA, up_n (by omega), up_s]
  · rw [b12]; exact up_s
  · rw [b13]; exact up_s
  · rw [b14, up_s, hg.2]
  · rw [b15, up_s, updN_s]
  · rw [b9 44 (by omega) (by omega)]; exact h0
theorem mk_no {τ μ0 : S5} {F T : Nat} {pa nv : Nat → Nat} {σ μ : S5} {n : Nat} {tg ct : Nat → Nat} {Rd : Nat → Prop} (h : HS τ μ0 F T pa nv σ μ n tg ct Rd) (hn : NR σ μ) (h0 : gI μ 44 = 0) {t m so : Nat} {v : Int32} {Fc : Option (Int64 × S5)} (hso : so < 3) (hm : m < 1000) (hfit : ¬ adr tg ct n + (m + 1 + if t = 5 then 1 else 0) ≤ 4000) (hFc : Fc = bd (f_X3_endWith 3 2 σ) (fun _ τ8 => some (0, τ8))) : MK τ μ0 F T pa nv σ μ n tg ct Rd t m Fc (f_X12_newCell (nI so) v (nI m) (nI (m + 1 + if t = 5 then 1 else 0)) μ) := by
  obtain ⟨⟨a1, a2, a3, a4, a5⟩, -⟩ := id h
  have hna := (adr_ge tg ct n).1
  have hs1 : (if t = 5 then 1 else 0) ≤ 1 := by by_cases h5 : t = 5 <;> simp [h5]
  have b1 := (nc_m (v := v) (m := m) (so := so) (s := m + 1 + if t = 5 then 1 else 0) a1 a2 a4 (by omega) (by omega) hso).2 hfit
  obtain ⟨τ', ν, c1, c2, c3, c4, c5, -, -⟩ := end_go hn h0 3 2 (by decide)
  exact Or.inr ⟨τ', ν, by rw [hFc, c1]; rfl, by rw [b1, c2]; rfl, c3, c4, c5⟩
theorem made_n (t : Int32) (σ : S5) : f_X3_made t (-1) σ = bd (f_X3_endWith 3 2 σ) (fun _ τ8 => some (0, τ8)) := by
  unfold f_X3_made
  rw [if_pos rfl]
theorem gA40u {σ : S5} {N s j : Nat} (hj : j < 10) (h3 : ¬ j = 3) : gA (pA (pA σ 40 3 (nI (N + s))) 40 (nI j) (xA (pA σ 40 3 (nI (N + s))) 40 (nI j) + 1)) 40 = upd (upd (gA σ 40) 3 (nI (N + s))) j (gA σ 40 j + 1) := by
  have e : xA (pA σ 40 3 (nI (N + s))) 40 (nI j) = gA σ 40 j := by
    show gA (pA σ 40 3 (nI (N + s))) 40 (nI j).toNatClampNeg = _
    rw [nI_clamp (by omega), gA_pA, if_neg (fun w => h3 w.2)]
  rw [e]
  show upd (upd (gA σ 40) (3 : Int32).toNatClampNeg _) (nI j).toNatClampNeg _ = _
  rw [nI_clamp (by omega)]
  rfl
theorem fk40 (σ : S5) (i j v w : Int32) : FkC σ (pA (pA σ 40 i v) 40 j w) := ⟨fun _ => rfl, fun _ => rfl, fun k a => by rw [gA_pA_ne a, gA_pA_ne a], fun _ _ => rfl, rfl⟩
/-- a suspension -/
theorem mk_susp {τ μ0 : S5} {F T : Nat} {pa nv : Nat → Nat} {σ μ : S5} {n : Nat} {tg ct : Nat → Nat} {Rd : Nat → Prop} (h : HS τ μ0 F T pa nv σ μ n tg ct Rd) (hn : NR σ μ) (h0 : gI μ 44 = 0) {f a p m : Nat} (ha : a < 6200) (hnd : ND τ μ0 F T nv f (nI a) p (UB τ (nI a))) (hm : m = pcn (i64n (xB τ 2 (nI a))) 40) : MK τ μ0 F T pa nv σ μ n tg ct Rd 6 m (bd (f_X0_makeSuspension (nI f) (nI a) (nI m) σ) (fun r τ => bd (f_X3_made 6 r τ) (fun r' τ' => some (r', τ')))) (f_X12_newCell 2 (nI p) (nI m) (1 + nI m) μ) := by
  have hm40 : m ≤ 40 := by rw [hm]; exact pcn_le 40
  obtain ⟨⟨a1, a2, a3, a4, a5⟩, -⟩ := id h
  have es : (1 : Int32) + nI m = nI (m + 1) := by rw [show (1 : Int32) = nI 1 from rfl, nI_plus, Nat.add_comm]
  have e6 : m + 1 + (if (6 : Nat) = 5 then 1 else 0) = m + 1 := rfl
  by_cases hfit : adr tg ct n + (m + 1) ≤ 4000
  · have c1 := (mk_c (s := m + 1) (j := 4) a5 a3 (by omega) (by decide)).1 hfit
    have key := mk_ok (t := 6) (so := 2) (m := m) (v := nI p) (Fc := bd (f_X0_makeSuspension (nI f) (nI a) (nI m) σ) (fun r τ => bd (f_X3_made 6 r τ) (fun r' τ' => some (r', τ')))) h hn h0 (by decide) (by decide) (by omega) hfit (σ' := pB (pA (pA σ 40 3 (nI (adr tg ct n + (m + 1)))) 40 (nI 4) (xA (pA σ 40 3 (nI (adr tg ct n + (m + 1)))) 40 (nI 4) + 1)) 14 (nI (adr tg ct n)) (sw f a)) ?_ ?_ ?_ ?_ ?_
    · rw [es]; exact key
    · unfold f_X0_makeSuspension
      rw [es, show (4 : Int32) = nI 4 from rfl, c1, bd_of, if_neg (nI_ne1 (by omega)), gdn (by omega) (by omega), bd_of, show (6 : Int32) = nI 6 from rfl, made_y (by omega), bd_of]
      rfl
    · exact gA40u (by decide) (by decide)
    · exact (fk40 σ _ _ _ _).tr (Fb.p _ _ _ _).kc
    · intro j hj
      rw [gB_n (by omega) (by omega)]
      rfl
    · intro so' va be co dn fi x1 x2 x3 x4
      have hg := (Gro.nw n tg ct 6 m).ad (Nat.le_refl n)
      refine ⟨⟨x3, x4⟩, Or.inr (Or.inr ⟨updN_s, Or.inl ⟨x1, f, a, p, ha, x2, ?_, hnd, by rw [updN_s]; exact hm⟩⟩), fun w => absurd w id⟩
      rw [hg.1, gB_s (by omega)]
  · have c1 := (mk_c (s := m + 1) (j := 4) a5 a3 (by omega) (by decide)).2 hfit
    have key := mk_no (t := 6) (so := 2) (m := m) (v := nI p) (Fc := bd (f_X0_makeSuspension (nI f) (nI a) (nI m) σ) (fun r τ => bd (f_X3_made 6 r τ) (fun r' τ' => some (r', τ')))) h hn h0 (by decide) (by omega) hfit ?_
    · rw [es]; exact key
    · unfold f_X0_makeSuspension
      rw [es, show (4 : Int32) = nI 4 from rfl, c1, bd_of, if_pos rfl, bd_of, made_n]
      obtain ⟨τ', ν, z1, -⟩ := end_go hn h0 3 2 (by decide)
      rw [z1]
      rfl
/-- an object -/
theorem mk_obj {τ μ0 : S5} {F T : Nat} {pa nv : Nat → Nat} {σ μ : S5} {n : Nat} {tg ct : Nat → Nat} {Rd : Nat → Prop} (h : HS τ μ0 F T pa nv σ μ n tg ct Rd) (hn : NR σ μ) (h0 : gI μ 44 = 0) {k m : Nat} (hk : k < 30) (hk4 : nI k < gI τ 4) (hf : xA τ 2 (nI k) = nI m) (hm1 : 1 ≤ m) (hm : m ≤ 4) : MK τ μ0 F T pa nv σ μ n tg ct Rd 4 m (bd (f_X0_makeObject (nI k) (nI m) σ) (fun r τ => bd (f_X3_made 4 r τ) (fun r' τ' => some (r', τ')))) (f_X12_newCell 0 (nI k) (nI m) (1 + nI m) μ) := by
  obtain ⟨⟨a1, a2, a3, a4, a5⟩, -⟩ := id h
  have es : (1 : Int32) + nI m = nI (m + 1) := by rw [show (1 : Int32) = nI 1 from rfl, nI_plus, Nat.add_comm]
  by_cases hfit : adr tg ct n + (m + 1) ≤ 4000
  · have c1 := (mk_c (s := m + 1) (j := 6) a5 a3 (by omega) (by decide)).1 hfit
    have key := mk_ok (t := 4) (so := 0) (m := m) (v := nI k) (Fc := bd (f_X0_makeObject (nI k) (nI m) σ) (fun r τ => bd (f_X3_made 4 r τ) (fun r' τ' => some (r', τ')))) h hn h0 (by decide) (by decide) (by omega) hfit (σ' := pB (pA (pA σ 40 3 (nI (adr tg ct n + (m + 1)))) 40 (nI 6) (xA (pA σ 40 3 (nI (adr tg ct n + (m + 1)))) 40 (nI 6) + 1)) 14 (nI (adr tg ct n)) ((nI k).toInt64)) ?_ ?_ ?_ ?_ ?_
    · rw [es]; exact key
    · unfold f_X0_makeObject
      rw [es, show (6 : Int32) = nI 6 from rfl, c1, bd_of, if_neg (nI_ne1 (by omega)), gdn (by omega) (by omega), bd_of, show (4 : Int32) = nI 4 from rfl, made_y (by omega), bd_of]
    · exact gA40u (by decide) (by decide)
    · exact (fk40 σ _ _ _ _).tr (Fb.p _ _ _ _).kc
    · intro j hj
      rw [gB_n (by omega) (by omega)]
      rfl
    · intro so' va be co dn fi x1 x2 x3 x4
      have hg := (Gro.nw n tg ct 4 m).ad (Nat.le_refl n)
      refine ⟨⟨x3, x4⟩, Or.inl ⟨updN_s, x1, k, hk, hk4, x2, ?_, by rw [updN_s]; exact hf, by rw [updN_s]; exact hm1⟩, fun w => absurd w id⟩
      rw [hg.1, gB_s (by omega)]
  · have c1 := (mk_c (s := m + 1) (j := 6) a5 a3 (by omega) (by decide)).2 hfit
    have key := mk_no (t := 4) (so := 0) (m := m) (v := nI k) (Fc := bd (f_X0_makeObject (nI k) (nI m) σ) (fun r τ => bd (f_X3_made 4 r τ) (fun r' τ' => some (r', τ')))) h hn h0 (by decide) (by omega) hfit ?_
    · rw [es]; exact key
    · unfold f_X0_makeObject
      rw [es, show (6 : Int32) = nI 6 from rfl, c1, bd_of, if_pos rfl, bd_of, made_n]
      obtain ⟨τ', ν, z1, -⟩ := end_go hn h0 3 2 (by decide)
      rw [z1]
      rfl
/-- a part of a call -/
theorem mk_part {τ μ0 : S5} {F T : Nat} {pa nv : Nat → Nat} {σ μ : S5} {n : Nat} {tg ct : Nat → Nat} {Rd : Nat → Prop} (h : HS τ μ0 F T pa nv σ μ n tg ct Rd) (hn : NR σ μ) (h0 : gI μ 44 = 0) {g m : Nat} (hg0 : g < F) (hm1 : 1 ≤ m) (hm : m < pa g) (hp8 : pa g ≤ 8) : MK τ μ0 F T pa nv σ μ n tg ct Rd 5 m (bd (f_X0_makePart (nI g) (nI m) σ) (fun r τ => bd (f_X3_made 5 r τ) (fun r' τ' => some (r', τ')))) (f_X12_newCell 1 (nI g) (nI m) (nI (m + 2)) μ) := by
  obtain ⟨⟨a1, a2, a3, a4, a5⟩, -⟩ := id h
  have es : (2 : Int32) + nI m = nI (m + 2) := by rw [show (2 : Int32) = nI 2 from rfl, nI_plus, Nat.add_comm]
  by_cases hfit : adr tg ct n + (m + 2) ≤ 4000
  · have c1 := (mk_c (s := m + 2) (j := 5) a5 a3 (by omega) (by decide)).1 hfit
    refine mk_ok (t := 5) (so := 1) (m := m) (v := nI g) h hn h0 (by decide) (by decide) (by omega) hfit (σ' := pB (pB (pA (pA σ 40 3 (nI (adr tg ct n + (m + 2)))) 40 (nI 5) (xA (pA σ 40 3 (nI (adr tg ct n + (m + 2)))) 40 (nI 5) + 1)) 14 (nI (adr tg ct n)) ((nI g).toInt64)) 14 (nI (adr tg ct n + 1)) ((nI m).toInt64)) ?_ ?_ ?_ ?_ ?_
    · unfold f_X0_makePart
      rw [es, show (5 : Int32) = nI 5 from rfl, c1, bd_of, if_neg (nI_ne1 (by omega)), gdn (by omega) (by omega), nI_add1, gdn (by omega) (by omega), bd_of, made_y (by omega), bd_of]
    · exact gA40u (by decide) (by decide)
    · exact ((fk40 σ _ _ _ _).tr (Fb.p _ _ _ _).kc).tr (Fb.p _ _ _ _).kc
    · intro j hj
      rw [gB_n (by omega) (by omega), gB_n (by omega) (by omega)]
      rfl
    · intro so' va be co dn fi x1 x2 x3 x4
      have hgg := (Gro.nw n tg ct 5 m).ad (Nat.le_refl n)
      refine ⟨⟨x3, x4⟩, Or.inr (Or.inl ⟨updN_s, x1, g, hg0, x2, ?_, ?_, by rw [updN_s]; exact hm1, by rw [updN_s]; exact hm⟩), fun w => absurd w id⟩
      · rw [hgg.1, gB_n (by omega) (by omega), gB_s (by omega)]
      · rw [hgg.1, gB_s (by omega), updN_s]
  · have c1 := (mk_c (s := m + 2) (j := 5) a5 a3 (by omega) (by decide)).2 hfit
    refine mk_no (t := 5) (so := 1) (m := m) (v := nI g) h hn h0 (by decide) (by omega) hfit ?_
    unfold f_X0_makePart
    rw [es, show (5 : Int32) = nI 5 from rfl, c1, bd_of, if_pos rfl, bd_of, made_n]
    obtain ⟨τ', ν, z1, -⟩ := end_go hn h0 3 2 (by decide)
    rw [z1]
    rfl
