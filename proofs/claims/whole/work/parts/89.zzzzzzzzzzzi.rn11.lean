/-- what keeping leaves, on both sides -/
def FkC (σ τ : S5) : Prop := (∀ j, gI τ j = gI σ j) ∧ (∀ j, gJ τ j = gJ σ j) ∧ (∀ j, ¬ j = 40 → gA τ j = gA σ j) ∧ (∀ j, ¬ j = 14 → gB τ j = gB σ j) ∧ τ.2.2.2.2 = σ.2.2.2.2
def FkM (μ ν : S5) : Prop := (∀ j, ¬ (32 ≤ j ∧ j ≤ 35) → ¬ (39 ≤ j ∧ j ≤ 41) → ¬ j = 44 → ¬ j = 45 → ¬ j = 54 → gI ν j = gI μ j) ∧ (∀ j, gJ ν j = gJ μ j) ∧ (∀ j, ¬ (53 ≤ j ∧ j ≤ 56) → ¬ j = 62 → ¬ j = 63 → gA ν j = gA μ j) ∧ (∀ j, ¬ j = 7 → gB ν j = gB μ j) ∧ ν.2.2.2.2 = μ.2.2.2.2
theorem FkC.rf (σ : S5) : FkC σ σ := ⟨fun _ => rfl, fun _ => rfl, fun _ _ => rfl, fun _ _ => rfl, rfl⟩
theorem FkM.rf (μ : S5) : FkM μ μ := ⟨fun _ _ _ _ _ _ => rfl, fun _ => rfl, fun _ _ _ _ => rfl, fun _ _ => rfl, rfl⟩
theorem FkC.tr {σ τ ρ : S5} (h : FkC σ τ) (g : FkC τ ρ) : FkC σ ρ := ⟨fun j => (g.1 j).trans (h.1 j), fun j => (g.2.1 j).trans (h.2.1 j), fun j a => (g.2.2.1 j a).trans (h.2.2.1 j a), fun j a => (g.2.2.2.1 j a).trans (h.2.2.2.1 j a), g.2.2.2.2.trans h.2.2.2.2⟩
theorem FkM.tr {σ τ ρ : S5} (h : FkM σ τ) (g : FkM τ ρ) : FkM σ ρ := ⟨fun j a b c d e => (g.1 j a b c d e).trans (h.1 j a b c d e), fun j => (g.2.1 j).trans (h.2.1 j), fun j a b c => (g.2.2.1 j a b c).trans (h.2.2.1 j a b c), fun j a => (g.2.2.2.1 j a).trans (h.2.2.2.1 j a), g.2.2.2.2.trans h.2.2.2.2⟩
theorem Fb.kc {σ τ : S5} (h : Fb 14 σ τ) : FkC σ τ := ⟨h.1, h.2.1, fun j _ => h.2.2.1 j, h.2.2.2.1, h.2.2.2.2⟩
theorem Fb.km {μ ν : S5} (h : Fb 7 μ ν) : FkM μ ν := ⟨fun j _ _ _ _ _ => h.1 j, h.2.1, fun j _ _ _ => h.2.2.1 j, h.2.2.2.1, h.2.2.2.2⟩
/-- both have ended, with the same numbers -/
def OV (σ μ : S5) : Prop := NR σ μ ∧ ¬ gI μ 44 = 0
/-- the numbers hang on these alone -/
theorem NR.st {σ μ σ' μ' : S5} (h : NR σ μ) (h40 : ∀ x, x < 10 → gA σ' 40 x = gA σ 40 x) (h41 : gA σ' 41 = gA σ 41) (h42 : gA σ' 42 = gA σ 42) (hI : ∀ j, j = 46 ∨ j = 47 ∨ j = 64 ∨ j = 65 → gI σ' j = gI σ j) (mI : ∀ j, 34 ≤ j ∧ j ≤ 47 → gI μ' j = gI μ j) (m57 : gA μ' 57 = gA μ 57) (m58 : gA μ' 58 = gA μ 58) : NR σ' μ' := by
  obtain ⟨⟨r0, r1, r2, r3, r4, r5, r6, r7, r8, r9, q1, q2, q3, q4⟩, a1, a2, a3, a4⟩ := h
  refine ⟨⟨?_, ?_, ?_, ?_, ?_, ?_, ?_, ?_, ?_, ?_, ?_, ?_, ?_, ?_⟩, ?_, ?_, ?_, ?_⟩
  · rw [h40 0 (by decide), mI 44 (by decide)]; exact r0
  · rw [h40 1 (by decide), mI 45 (by decide)]; exact r1
  · rw [h40 2 (by decide), mI 38 (by decide)]; exact r2
  · rw [h40 3 (by decide), mI 34 (by decide)]; exact r3
  · rw [h40 4 (by decide), mI 39 (by decide)]; exact r4
  · rw [h40 5 (by decide), mI 40 (by decide)]; exact r5
  · rw [h40 6 (by decide), mI 41 (by decide)]; exact r6
  · rw [h40 7 (by decide), mI 42 (by decide)]; exact r7
  · rw [h40 8 (by decide), mI 43 (by decide)]; exact r8
  · rw [h40 9 (by decide), mI 46 (by decide)]; exact r9
  · rw [mI 46 (by decide)]; exact q1
  · rw [mI 46 (by decide)]; exact q2
  · rw [mI 46 (by decide), h42, m58]; exact q3
  · rw [h41, m57]; exact q4
  · rw [mI 35 (by decide), hI 65 (by decide), h40 3 (by decide)]; exact a1
  · rw [mI 36 (by decide), hI 64 (by decide), h40 2 (by decide)]; exact a2
  · rw [mI 37 (by decide), hI 47 (by decide), h40 2 (by decide)]; exact a3
  · rw [hI 46 (by decide), mI 47 (by decide)]; exact a4
/-- both end -/
theorem end_go {σ μ : S5} (h : NR σ μ) (h0 : gI μ 44 = 0) (a b : Int32) (ha : ¬ a = 0) : ∃ τ ν, f_X3_endWith a b σ = some ((), τ) ∧ f_X12_ends a b μ = some ((), ν) ∧ OV τ ν ∧ FkC σ τ ∧ FkM μ ν ∧ gB τ 14 = gB σ 14 ∧ gB ν 7 = gB μ 7 := by
  have h00 : xA σ 40 0 = 0 := h.1.1.trans h0
  refine ⟨pA (pA σ 40 0 a) 40 1 b, pI (pI μ 44 a) 45 b, ?_, ?_, ⟨?_, ?_⟩, ?_, ?_, rfl, rfl⟩
  · unfold f_X3_endWith
    rw [if_pos h00]
  · unfold f_X12_ends
    rw [if_pos h0]
  · obtain ⟨⟨r0, r1, r2, r3, r4, r5, r6, r7, r8, r9, q1, q2, q3, q4⟩, a1, a2, a3, a4⟩ := h
    exact ⟨⟨rfl, rfl, r2, r3, r4, r5, r6, r7, r8, r9, q1, q2, q3, q4⟩, a1, a2, a3, a4⟩
  · exact ha
  · exact ⟨fun _ => rfl, fun _ => rfl, fun j a => by rw [gA_pA_ne a, gA_pA_ne a], fun _ _ => rfl, rfl⟩
  · exact ⟨fun j _ _ a b _ => by rw [gI_pI, if_neg b, gI_pI, if_neg a], fun _ => rfl, fun _ _ _ _ => rfl, fun _ _ => rfl, rfl⟩
/-- both make a cell: the numbers -/
theorem nr_mk {σ μ σ' ν : S5} {N s so : Nat} (h : NR σ μ) (hN : gA σ 40 3 = nI N) (hso : so < 3) (h40 : gA σ' 40 = upd (upd (gA σ 40) 3 (nI (N + s))) (6 - so) (gA σ 40 (6 - so) + 1)) (h41 : gA σ' 41 = gA σ 41) (h42 : gA σ' 42 = gA σ 42) (hI : ∀ j, gI σ' j = gI σ j) (m34 : gI ν 34 = nI (N + s)) (m35 : gI ν 35 = gI μ 35 + nI s) (m39 : gI ν 39 = gI μ 39 + (if so = 2 then 1 else 0)) (m40 : gI ν 40 = gI μ 40 + (if so = 1 then 1 else 0)) (m41 : gI ν 41 = gI μ 41 + (if so = 0 then 1 else 0)) (mI : ∀ j, ¬ (32 ≤ j ∧ j ≤ 35) → ¬ (39 ≤ j ∧ j ≤ 41) → gI ν j = gI μ j) (m57 : gA ν 57 = gA μ 57) (m58 : gA ν 58 = gA μ 58) : NR σ' ν := by
  obtain ⟨⟨r0, r1, r2, r3, r4, r5, r6, r7, r8, r9, q1, q2, q3, q4⟩, a1, a2, a3, a4⟩ := h
  have hk : so = 0 ∨ so = 1 ∨ so = 2 := by omega
  have g : ∀ x, ¬ x = 3 → ¬ x = 6 - so → gA σ' 40 x = gA σ 40 x := fun x a b => by rw [h40, up_n b, up_n a]
  have g3 : gA σ' 40 3 = nI (N + s) := by rw [h40, up_n (by omega), up_s]
  have gs : gA σ' 40 (6 - so) = gA σ 40 (6 - so) + 1 := by rw [h40, up_s]
  have z0 : ∀ x : Int32, x + 0 = x := fun x => Int32.add_zero x
  refine ⟨⟨?_, ?_, ?_, ?_, ?_, ?_, ?_, ?_, ?_, ?_, ?_, ?_, ?_, ?_⟩, ?_, ?_, ?_, ?_⟩
  · rw [g 0 (by omega) (by omega), mI 44 (by omega) (by omega)]; exact r0
  · rw [g 1 (by omega) (by omega), mI 45 (by omega) (by omega)]; exact r1
  · rw [g 2 (by omega) (by omega), mI 38 (by omega) (by omega)]; exact r2
  · rw [g3, m34]
  · rcases hk with rfl | rfl | rfl
    · rw [g 4 (by omega) (by omega), m39, if_neg (by decide), z0]; exact r4
    · rw [g 4 (by omega) (by omega), m39, if_neg (by decide), z0]; exact r4
    · rw [m39, if_pos rfl, ← r4]; exact gs
  · rcases hk with rfl | rfl | rfl
    · rw [g 5 (by omega) (by omega), m40, if_neg (by decide), z0]; exact r5
    · rw [m40, if_pos rfl, ← r5]; exact gs
    · rw [g 5 (by omega) (by omega), m40, if_neg (by decide), z0]; exact r5
  · rcases hk with rfl | rfl | rfl
    · rw [m41, if_pos rfl, ← r6]; exact gs
    · rw [g 6 (by omega) (by omega), m41, if_neg (by decide), z0]; exact r6
    · rw [g 6 (by omega) (by omega), m41, if_neg (by decide), z0]; exact r6
  · rw [g 7 (by omega) (by omega), mI 42 (by omega) (by omega)]; exact r7
  · rw [g 8 (by omega) (by omega), mI 43 (by omega) (by omega)]; exact r8
  · rw [g 9 (by omega) (by omega), mI 46 (by omega) (by omega)]; exact r9
  · rw [mI 46 (by omega) (by omega)]; exact q1
  · rw [mI 46 (by omega) (by omega)]; exact q2
  · rw [mI 46 (by omega) (by omega), h42, m58]; exact q3
  · rw [h41, m57]; exact q4
  · rw [m35, hI 65, g3, a1, hN, Int32.add_assoc, nI_plus]
  · rw [mI 36 (by omega) (by omega), hI 64, g 2 (by omega) (by omega)]; exact a2
  · rw [mI 37 (by omega) (by omega), hI 47, g 2 (by omega) (by omega)]; exact a3
  · rw [hI 46, mI 47 (by omega) (by omega)]; exact a4
