/-- cells: how large, where they begin -/
def szc (tg ct : Nat → Nat) (i : Nat) : Nat := ct i + 1 + if tg i = 5 then 1 else 0
def adr (tg ct : Nat → Nat) (c : Nat) : Nat := pre (szc tg ct) c
def ofs (tg : Nat → Nat) (c : Nat) : Nat := if tg c = 5 then 2 else 1
/-- values alike -/
def VL (τ : S5) (F : Nat) (pa : Nat → Nat) (n : Nat) (tg ct : Nat → Nat) (x y : Int64) : Prop := (∃ i, x = vv 1 i ∧ y = vv 0 i) ∨ (∃ f, f < F ∧ 1 ≤ pa f ∧ x = vv 2 (nI f) ∧ y = vv 1 (nI f)) ∨ (∃ k, k < 30 ∧ nI k < gI τ 4 ∧ xA τ 2 (nI k) = 0 ∧ x = vv 3 (nI k) ∧ y = vv 2 (nI k)) ∨ ∃ c, c < n ∧ (tg c = 4 ∨ tg c = 5 ∨ tg c = 6) ∧ x = vv (nI (tg c)) (nI (adr tg ct c)) ∧ y = vv 3 (nI c)
/-- a node of function f, not too high -/
def NFx (μ : S5) (f x : Nat) : Prop := xA μ 38 (nI x) = nI f ∧ (xA μ 37 (nI x)).toNatClampNeg ≤ 40
/-- a part of function f that sees Sc -/
def ND (τ μ : S5) (F T : Nat) (nv : Nat → Nat) (f : Nat) (c : Int32) (p : Nat) (Sc : Nat → Prop) : Prop := f < F ∧ ∃ q lo hi, XM τ μ F (nv f) T c q p Sc lo hi ∧ hi ≤ nv f ∧ ∀ x, q ≤ x → x ≤ p → NFx μ f x
/-- a cell, on both sides -/
def CO (τ μ : S5) (F T : Nat) (pa nv : Nat → Nat) (row : Nat → Int64) (so va be co : Nat → Int32) (dn fi : Nat → Int64) (n : Nat) (tg ct : Nat → Nat) (rd : Prop) (c : Nat) : Prop :=
  (be c = nI (pre ct c) ∧ co c = nI (ct c)) ∧ ((tg c = 4 ∧ so c = 0 ∧ ∃ k, k < 30 ∧ nI k < gI τ 4 ∧ va c = nI k ∧ row (adr tg ct c) = (nI k).toInt64 ∧ xA τ 2 (nI k) = nI (ct c) ∧ 1 ≤ ct c) ∨ (tg c = 5 ∧ so c = 1 ∧ ∃ g, g < F ∧ va c = nI g ∧ row (adr tg ct c) = (nI g).toInt64 ∧ row (adr tg ct c + 1) = (nI (ct c)).toInt64 ∧ 1 ≤ ct c ∧ ct c < pa g) ∨ (tg c = 6 ∧ ((so c = 2 ∧ ∃ f a p, a < 6200 ∧ va c = nI p ∧ row (adr tg ct c) = sw f a ∧ ND τ μ F T nv f (nI a) p (UB τ (nI a)) ∧ ct c = pcn (i64n (xB τ 2 (nI a))) 40) ∨ (so c = 3 ∧ row (adr tg ct c) = 4611686018427387904) ∨ (so c = 4 ∧ VL τ F pa n tg ct (row (adr tg ct c)) (dn c))))) ∧ (rd → (tg c = 6 → so c = 2) → ∀ i, i < ct c → VL τ F pa n tg ct (row (adr tg ct c + ofs tg c + i)) (fi (pre ct c + i)))
theorem adr_s (tg ct : Nat → Nat) (c : Nat) : adr tg ct (c + 1) = adr tg ct c + szc tg ct c := rfl
theorem adr_mo (tg ct : Nat → Nat) {c d : Nat} (h : c < d) : adr tg ct c + szc tg ct c ≤ adr tg ct d := by
  rw [← adr_s]
  have := pre_mono (w := szc tg ct) (d - (c + 1)) (c + 1)
  rw [show c + 1 + (d - (c + 1)) = d by omega] at this
  exact this
theorem pre_mo' (ct : Nat → Nat) {c d : Nat} (h : c < d) : pre ct c + ct c ≤ pre ct d := by
  have := pre_mono (w := ct) (d - (c + 1)) (c + 1)
  rw [show c + 1 + (d - (c + 1)) = d by omega] at this
  exact this
theorem adr_ge (tg ct : Nat → Nat) : ∀ n, n ≤ adr tg ct n ∧ pre ct n + n ≤ adr tg ct n
  | 0 => ⟨Nat.le_refl _, Nat.le_refl _⟩
  | n + 1 => by
    obtain ⟨h1, h2⟩ := adr_ge tg ct n
    rw [adr_s]
    show n + 1 ≤ adr tg ct n + szc tg ct n ∧ pre ct n + ct n + (n + 1) ≤ adr tg ct n + szc tg ct n
    unfold szc
    omega
theorem adr_cg {tg ct tg' ct' : Nat → Nat} {n : Nat} (h : ∀ i, i < n → tg' i = tg i ∧ ct' i = ct i) {c : Nat} (hc : c ≤ n) : adr tg' ct' c = adr tg ct c := pre_cg c (fun i hi => by unfold szc; rw [(h i (by omega)).1, (h i (by omega)).2])
theorem pre_cg' {ct ct' : Nat → Nat} {n : Nat} (h : ∀ i, i < n → ct' i = ct i) {c : Nat} (hc : c ≤ n) : pre ct' c = pre ct c := pre_cg c (fun i hi => h i (by omega))
/-- more cells: what was, stays -/
def Gro (n : Nat) (tg ct : Nat → Nat) (n' : Nat) (tg' ct' : Nat → Nat) : Prop := n ≤ n' ∧ ∀ i, i < n → tg' i = tg i ∧ ct' i = ct i
theorem Gro.rf (n : Nat) (tg ct : Nat → Nat) : Gro n tg ct n tg ct := ⟨Nat.le_refl _, fun _ _ => ⟨rfl, rfl⟩⟩
theorem Gro.tr {n : Nat} {tg ct : Nat → Nat} {n' : Nat} {tg' ct' : Nat → Nat} {n2 : Nat} {tg2 ct2 : Nat → Nat} (h : Gro n tg ct n' tg' ct') (g : Gro n' tg' ct' n2 tg2 ct2) : Gro n tg ct n2 tg2 ct2 := ⟨Nat.le_trans h.1 g.1, fun i hi => ⟨((g.2 i (by have := h.1; omega)).1).trans (h.2 i hi).1, ((g.2 i (by have := h.1; omega)).2).trans (h.2 i hi).2⟩⟩
theorem Gro.ad {n : Nat} {tg ct : Nat → Nat} {n' : Nat} {tg' ct' : Nat → Nat} (h : Gro n tg ct n' tg' ct') {c : Nat} (hc : c ≤ n) : adr tg' ct' c = adr tg ct c ∧ pre ct' c = pre ct c := ⟨adr_cg h.2 hc, pre_cg' (fun i hi => (h.2 i hi).2) hc⟩
theorem VL.gr {τ : S5} {F : Nat} {pa : Nat → Nat} {n : Nat} {tg ct : Nat → Nat} {n' : Nat} {tg' ct' : Nat → Nat} (h : Gro n tg ct n' tg' ct') {x y : Int64} (v : VL τ F pa n tg ct x y) : VL τ F pa n' tg' ct' x y := by
  rcases v with v | v | v | ⟨c, c1, c2, c3, c4⟩
  · exact Or.inl v
  · exact Or.inr (Or.inl v)
  · exact Or.inr (Or.inr (Or.inl v))
  · exact Or.inr (Or.inr (Or.inr ⟨c, by have := h.1; omega, by rw [(h.2 c c1).1]; exact c2, by rw [(h.2 c c1).1, (h.ad (Nat.le_of_lt c1)).1]; exact c3, c4⟩))
/-- a cell stays as it is where its rows stay -/
theorem CO.st {τ μ : S5} {F T : Nat} {pa nv : Nat → Nat} {row row' : Nat → Int64} {so va be co so' va' be' co' : Nat → Int32} {dn fi dn' fi' : Nat → Int64} {n : Nat} {tg ct : Nat → Nat} {n' : Nat} {tg' ct' : Nat → Nat} (hg : Gro n tg ct n' tg' ct') {rd rd' : Prop} {c : Nat} (hc : c < n) (h : CO τ μ F T pa nv row so va be co dn fi n tg ct rd c) (h1 : so' c = so c ∧ va' c = va c ∧ be' c = be c ∧ co' c = co c ∧ dn' c = dn c) (h2 : ∀ j, adr tg ct c ≤ j → j < adr tg ct c + szc tg ct c → row' j = row j) (h3 : ∀ j, pre ct c ≤ j → j < pre ct c + ct c → fi' j = fi j) (hrd : rd' → rd) : CO τ μ F T pa nv row' so' va' be' co' dn' fi' n' tg' ct' rd' c := by
  obtain ⟨e1, e2, e3, e4, e5⟩ := h1
  obtain ⟨g1, g2⟩ := hg.2 c hc
  obtain ⟨g3, g4⟩ := hg.ad (Nat.le_of_lt hc)
  have hsz : szc tg ct c = ct c + 1 + if tg c = 5 then 1 else 0 := rfl
  have r0 : row' (adr tg ct c) = row (adr tg ct c) := h2 _ (Nat.le_refl _) (by omega)
  unfold CO
  rw [g1, g2, g3, g4, e1, e2, e3, e4, e5, r0]
  obtain ⟨⟨b1, b2⟩, b3, b4⟩ := h
  refine ⟨⟨b1, b2⟩, ?_, fun w w2 i hi => ?_⟩
  · rcases b3 with b | ⟨c1, c2, g, c3, c4, c5, c6, c7, c8⟩ | ⟨c1, c2⟩
    · exact Or.inl b
    · exact Or.inr (Or.inl ⟨c1, c2, g, c3, c4, c5, by rw [h2 _ (by omega) (by rw [hsz, if_pos c1]; omega)]; exact c6, c7, c8⟩)
    · refine Or.inr (Or.inr ⟨c1, ?_⟩)
      rcases c2 with d | d | ⟨d1, d2⟩
      · exact Or.inl d
      · exact Or.inr (Or.inl d)
      · exact Or.inr (Or.inr ⟨d1, d2.gr hg⟩)
  · have ho : ofs tg' c = ofs tg c := by unfold ofs; rw [g1]
    have hoz : ofs tg c + ct c = szc tg ct c := by
      unfold ofs szc
      by_cases h5 : tg c = 5
      · rw [if_pos h5, if_pos h5]; omega
      · rw [if_neg h5, if_neg h5]; omega
    rw [ho, h2 _ (by omega) (by omega), h3 _ (by omega) (by omega)]
    exact (b4 (hrd w) w2 i hi).gr hg
