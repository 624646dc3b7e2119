/-- a cell that isn't filled yet stays as it is where its head stays -/
theorem CO.sh {τ μ : S5} {F T : Nat} {pa nv : Nat → Nat} {row row' : Nat → Int64} {so va be co : Nat → Int32} {dn fi fi' : Nat → Int64} {n : Nat} {tg ct : Nat → Nat} {rd rd' : Prop} {c : Nat} (h : CO τ μ F T pa nv row so va be co dn fi n tg ct rd c) (h2 : ∀ j, j < ofs tg c → row' (adr tg ct c + j) = row (adr tg ct c + j)) (hrd : ¬ rd') : CO τ μ F T pa nv row' so va be co dn fi' n tg ct rd' c := by
  have ho : ofs tg c = if tg c = 5 then 2 else 1 := rfl
  have r0 : row' (adr tg ct c) = row (adr tg ct c) := h2 0 (by rw [ho]; by_cases h5 : tg c = 5 <;> simp [h5])
  obtain ⟨b1, b3, b4⟩ := h
  unfold CO
  rw [r0]
  refine ⟨b1, ?_, fun w => absurd w hrd⟩
  rcases b3 with b | ⟨c1, c2, g, c3, c4, c5, c6, c7, c8⟩ | ⟨c1, c2⟩
  · exact Or.inl b
  · exact Or.inr (Or.inl ⟨c1, c2, g, c3, c4, c5, by rw [h2 1 (by rw [ho, if_pos c1]; omega)]; exact c6, c7, c8⟩)
  · exact Or.inr (Or.inr ⟨c1, c2⟩)
theorem ofs_sz (tg ct : Nat → Nat) (c : Nat) : ofs tg c + ct c = szc tg ct c := by
  unfold ofs szc
  by_cases h5 : tg c = 5
  · rw [if_pos h5, if_pos h5]; omega
  · rw [if_neg h5, if_neg h5]; omega
theorem ofs_pos (tg : Nat → Nat) (c : Nat) : 1 ≤ ofs tg c := by
  unfold ofs
  by_cases h5 : tg c = 5
  · rw [if_pos h5]; omega
  · rw [if_neg h5]; omega
/-- what goes into a cell that is being filled -/
theorem hs_wc {τ μ0 : S5} {F T : Nat} {pa nv : Nat → Nat} {σ σ' μ : S5} {n : Nat} {tg ct : Nat → Nat} {Rd : Nat → Prop} (h : HS τ μ0 F T pa nv σ μ n tg ct Rd) {c0 : Nat} (h0 : c0 < n) (hr : ¬ Rd c0) (h40 : gA σ' 40 3 = gA σ 40 3) (hw : ∀ j, j < adr tg ct c0 + ofs tg c0 ∨ adr tg ct c0 + szc tg ct c0 ≤ j → gB σ' 14 j = gB σ 14 j) : HS τ μ0 F T pa nv σ' μ n tg ct Rd := by
  obtain ⟨⟨a1, a2, a3, a4, a5⟩, b⟩ := h
  refine ⟨⟨a1, a2, a3, a4, by rw [h40]; exact a5⟩, fun c hc => ?_⟩
  by_cases hcc : c = c0
  · subst hcc
    exact (b c hc).sh (fun j hj => hw _ (Or.inl (by omega))) hr
  · refine (b c hc).st (Gro.rf n tg ct) hc ⟨rfl, rfl, rfl, rfl, rfl⟩ (fun j j1 j2 => hw j ?_) (fun _ _ _ => rfl) id
    by_cases hlt : c < c0
    · have := adr_mo tg ct hlt
      omega
    · have := adr_mo tg ct (show c0 < c by omega)
      omega
theorem hs_wm {τ μ0 : S5} {F T : Nat} {pa nv : Nat → Nat} {σ μ μ' : S5} {n : Nat} {tg ct : Nat → Nat} {Rd : Nat → Prop} (h : HS τ μ0 F T pa nv σ μ n tg ct Rd) {c0 : Nat} (h0 : c0 < n) (hr : ¬ Rd c0) (hI : ∀ j, 32 ≤ j → j ≤ 34 → gI μ' j = gI μ j) (hA : ∀ j, 53 ≤ j → j ≤ 56 → gA μ' j = gA μ j) (h6 : gB μ' 6 = gB μ 6) (hw : ∀ j, j < pre ct c0 ∨ pre ct c0 + ct c0 ≤ j → gB μ' 7 j = gB μ 7 j) : HS τ μ0 F T pa nv σ μ' n tg ct Rd := by
  obtain ⟨⟨a1, a2, a3, a4, a5⟩, b⟩ := h
  refine ⟨⟨by rw [hI 32 (by decide) (by decide)]; exact a1, by rw [hI 33 (by decide) (by decide)]; exact a2, a3, by rw [hI 34 (by decide) (by decide)]; exact a4, a5⟩, fun c hc => ?_⟩
  rw [hA 53 (by decide) (by decide), hA 54 (by decide) (by decide), hA 55 (by decide) (by decide), hA 56 (by decide) (by decide), h6]
  by_cases hcc : c = c0
  · subst hcc
    exact (b c hc).sh (fun _ _ => rfl) hr
  · refine (b c hc).st (Gro.rf n tg ct) hc ⟨rfl, rfl, rfl, rfl, rfl⟩ (fun _ _ _ => rfl) (fun j j1 j2 => hw j ?_) id
    by_cases hlt : c < c0
    · have := pre_mo' ct hlt
      omega
    · have := pre_mo' ct (show c0 < c by omega)
      omega
/-- a cell is filled -/
theorem hs_rd {τ μ0 : S5} {F T : Nat} {pa nv : Nat → Nat} {σ μ : S5} {n : Nat} {tg ct : Nat → Nat} {Rd Rd' : Nat → Prop} (h : HS τ μ0 F T pa nv σ μ n tg ct Rd) {c0 : Nat} (hf : ∀ i, i < ct c0 → VL τ F pa n tg ct (gB σ 14 (adr tg ct c0 + ofs tg c0 + i)) (gB μ 7 (pre ct c0 + i))) (hR : ∀ c, c < n → Rd' c → Rd c ∨ c = c0) : HS τ μ0 F T pa nv σ μ n tg ct Rd' := by
  refine ⟨h.1, fun c hc => ?_⟩
  obtain ⟨b1, b3, b4⟩ := h.2 c hc
  refine ⟨b1, b3, fun w w2 i hi => ?_⟩
  rcases hR c hc w with z | z
  · exact b4 z w2 i hi
  · subst z
    exact hf i hi
theorem HS.rd {τ μ0 : S5} {F T : Nat} {pa nv : Nat → Nat} {σ μ : S5} {n : Nat} {tg ct : Nat → Nat} {Rd Rd' : Nat → Prop} (h : HS τ μ0 F T pa nv σ μ n tg ct Rd) (hR : ∀ c, c < n → Rd' c → Rd c) : HS τ μ0 F T pa nv σ μ n tg ct Rd' := ⟨h.1, fun c hc => by
  obtain ⟨b1, b3, b4⟩ := h.2 c hc
  exact ⟨b1, b3, fun w => b4 (hR c hc w)⟩⟩
/-- each field of a suspension is some variable -/
theorem pcn_sur {X : Nat} : ∀ (m i : Nat), i < pcn X m → ∃ y, y < m ∧ X.testBit y = true ∧ pcn X y = i
  | 0, i, h => absurd h (Nat.not_lt_zero i)
  | m + 1, i, h => by
    by_cases hb : X.testBit m = true
    · rw [pcn_t hb] at h
      by_cases hi : i < pcn X m
      · obtain ⟨y, y1, y2, y3⟩ := pcn_sur m i hi
        exact ⟨y, by omega, y2, y3⟩
      · exact ⟨m, by omega, hb, by omega⟩
    · rw [pcn_f hb] at h
      obtain ⟨y, y1, y2, y3⟩ := pcn_sur m i h
      exact ⟨y, by omega, y2, y3⟩
/-- a suspension is filled, on both sides -/
theorem fill_s {τ μ0 : S5} {F k T : Nat} {pa nv : Nat → Nat} (hS : PSt τ μ0 F k T pa nv) {σ μ : S5} (hP : eqP τ σ) (hQ : eqQ μ0 μ) {n : Nat} {tg ct : Nat → Nat} {Rd : Nat → Prop} (h : HS τ μ0 F T pa nv σ μ n tg ct Rd) (hn : NR σ μ) (h0 : gI μ 44 = 0) {f base : Nat} {Sc : Nat → Prop} (hE : EV τ F k pa nv σ μ n tg ct f base Sc) {c : Int32} {p : Nat} (hN : ND τ μ0 F T nv f c p Sc) {c0 : Nat} (hc0 : c0 < n) (hr : ¬ Rd c0) (ht : tg c0 = 6) (hso : gA μ 53 c0 = 2) (hm : ct c0 = pcn (i64n (xB τ 2 c)) 40) : ∃ τ' ν, f_X3_storeVariables (nI (adr tg ct c0) + 1) (xB σ 2 c) σ = some ((), τ') ∧ f_X12_fill (nI p) (nI c0) μ = some ((), ν) ∧ HS τ μ0 F T pa nv τ' ν n tg ct (fun x => x = c0 ∨ Rd x) ∧ NR τ' ν ∧ Fb 14 σ τ' ∧ Fb 7 μ ν ∧ (∀ j, (j < adr tg ct c0 + 1 ∨ adr tg ct c0 + szc tg ct c0 ≤ j) → gB τ' 14 j = gB σ 14 j) ∧ ∀ j, (j < pre ct c0 ∨ pre ct c0 + ct c0 ≤ j) → gB ν 7 j = gB μ 7 j := by
  have hb := FU_big (n := 5000) (by decide)
  obtain ⟨hfF, q, lo, hi, hx, hhi, h38⟩ := hN
  obtain ⟨⟨s1, s2, s3⟩, hct, s4, s5, hf⟩ := hS
  obtain ⟨-, ⟨v1, v2, v3, hnv⟩, -⟩ := hf f hfF
  obtain ⟨⟨u1, u2, ⟨c1, c2⟩, u3, u5, -⟩, -, -⟩ := hx.un hnv
  obtain ⟨⟨e1, e2, e3, e4, e5, e6, e7⟩, ev, eg⟩ := hE
  obtain ⟨⟨a1, a2, a3, a4, a5⟩, hcell⟩ := id h
  have hsz := adr_mo tg ct hc0
  have hpr := pre_mo' ct hc0
  have hge := (adr_ge tg ct n).2
  have eofs : ofs tg c0 = 1 := by unfold ofs; rw [if_neg (by omega)]
  have eszc : szc tg ct c0 = ct c0 + 1 := by have := ofs_sz tg ct c0; omega
  have hbit : ∀ x, UB τ c x → x < nv f := fun x w => by
    have := hx.2.2.2.1 x (hx.2.2.1 x w)
    omega
  have hu := used_lt hbit
  have hpn : pcn (i64n (xB τ 2 c)) 40 = pcn (i64n (xB τ 2 c)) (nv f) := by
    have := pcn_hi hu (40 - nv f)
    rw [show nv f + (40 - nv f) = 40 by omega] at this
    exact this
  obtain ⟨hbe, hco⟩ := (hcell c0 hc0).1
  obtain ⟨τ', t1, t2, t3, t4⟩ := st_c (a := xB τ 2 c) (f := f) (nv := nv f) (base := base) (p0 := adr tg ct c0 + 1) (by omega) hnv (nv f) 0 FU σ (by omega) (by omega) e3 (by rw [hP.x 6 _ (by decide)]; exact v1) e1 e5 (by omega) e7 (by omega)
  obtain ⟨ν, r1, r2, r3, r4⟩ := st_m (a := xB τ 2 c) (p := p) (base := base) (p0 := pre ct c0) u2 e6 (by omega) 40 0 FU μ (by omega) (by omega) (by rw [hQ.y 5 _ (by decide)]; exact u5) e2
  have z0 : pcn (i64n (xB τ 2 c)) 0 = 0 := rfl
  rw [z0, Nat.add_zero] at t1 t4
  rw [z0, Nat.add_zero] at r4
  rw [z0] at r1
  refine ⟨τ', ν, ?_, ?_, ?_, ?_, t2, r2, fun j hj => t4 j (by omega), fun j hj => r4 j (by omega)⟩
  · unfold f_X3_storeVariables
    rw [hP.y 2 _ (by decide), nI_add1]
    exact t1
  · unfold f_X12_fill
    have e53 : xA μ 53 (nI c0) = 2 := by
      show gA μ 53 (nI c0).toNatClampNeg = _
      rw [nI_clamp (by omega)]
      exact hso
    have e55 : xA μ 55 (nI c0) = nI (pre ct c0) := by
      show gA μ 55 (nI c0).toNatClampNeg = _
      rw [nI_clamp (by omega)]
      exact hbe
    rw [gdn (by omega) (by omega), gdn (by omega) (by omega), e53, if_pos rfl, e55]
    exact r1
  · have k1 : HS τ μ0 F T pa nv τ' μ n tg ct Rd := hs_wc h hc0 hr (congrFun (t2.2.2.1 40) 3) (fun j hj => t4 j (by omega))
    have k2 : HS τ μ0 F T pa nv τ' ν n tg ct Rd := hs_wm k1 hc0 hr (fun j _ _ => r2.1 j) (fun j _ _ => r2.2.2.1 j) (r2.2.2.2.1 6 (by decide)) (fun j hj => r4 j (by omega))
    refine hs_rd k2 (c0 := c0) (fun i hi => ?_) (fun c hc w => w.elim Or.inr Or.inl)
    obtain ⟨y, y1, y2, y3⟩ := pcn_sur (X := i64n (xB τ 2 c)) 40 i (by omega)
    have hyn := hbit y y2
    have w1 := t3 y (by omega) hyn y2
    have w2 := r3 y (by omega) y1 y2
    rw [y3] at w1 w2
    rw [eofs, w1, w2]
    exact ev y (hx.2.2.1 y y2)
  · exact hn.st (fun x _ => congrFun (t2.2.2.1 40) x) (t2.2.2.1 41) (t2.2.2.1 42) (fun j _ => t2.1 j) (fun j _ => r2.1 j) (r2.2.2.1 57) (r2.2.2.1 58)
