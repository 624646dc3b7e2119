theorem or_01 {a b : Int32} (ha : a = 0 ∨ a = 1) (hb : b = 0 ∨ b = 1) : a ||| b = 0 ∨ a ||| b = 1 := by
  rcases ha with k | k <;> rw [k] <;> rcases hb with k2 | k2 <;> rw [k2] <;> decide
theorem ip_L51 {τ : S5} {pa : Nat → Nat} {rt : Nat → Int32} {nv : Nat → Nat} {F r : Nat} {σ0 : S5} {v1 : Int32} {f : Nat} (hD : DX τ pa rt nv F) (hE : TF2 τ σ0) (h22 : gI σ0 22 = 0) (hf : f < F) : ∀ (m w N : Nat) (v : Int32) (σi : S5), w + m = Wp (pa f) → m < N → (v = 0 ∨ v = 1) → gI σi 23 = nI (Lp (pa f)) → RI τ pa rt F r σ0 σi (v1 ||| v) (fun g y => f < g ∨ (g = f ∧ y < w)) → ∃ v' σ', f_X1_improve_L51 (f_wordE 64) N (nI f) (nI (pa f)) (nI (Wp (pa f))) v (nI w) σi = some (v', σ') ∧ RI τ pa rt F r σ0 σ' (v1 ||| v') (fun g y => f < g ∨ (g = f ∧ y < Wp (pa f))) := by
  obtain ⟨hF6, hpa, hpF, hX⟩ := id hD
  obtain ⟨p1, p2⟩ := hpa f hf
  obtain ⟨c1, c2, c3⟩ := lw_col (pa f) p2
  obtain ⟨x1, x2, x3, x4, ⟨hi, x5, x6⟩, x7⟩ := hX f hf
  intro m
  induction m with
  | zero =>
    intro w N v σi hid hN hv h23 hI
    obtain ⟨N, rfl⟩ : ∃ m, N = m + 1 := ⟨N - 1, by omega⟩
    have hip : w = Wp (pa f) := by omega
    refine ⟨v, σi, ?_, by rw [← hip]; exact hI⟩
    show f_X1_improve_B51 _ _ _ _ _ _ _ _ = _
    unfold f_X1_improve_B51 g_t
    rw [hip, if_pos (Int32.le_refl _), if_pos hv]
  | succ m ih =>
    intro w N v σi hid hN hv h23 hI
    obtain ⟨N, rfl⟩ : ∃ m, N = m + 1 := ⟨N - 1, by omega⟩
    have a1 := hI.1
    obtain ⟨σs, s1, s2, s3, s4, s5⟩ := ip_L60 (E := f_wordE 64) (rec51 := f_X1_improve_L51 (f_wordE 64) N) (f := f) (p := pa f) (w := w) (v3 := nI (Wp (pa f))) (v4 := v) (σ := σi) p2 (by omega) (pa f) 0 FU σi (by omega) (by show pa f < 1099511627776; omega) ⟨FrI.rf _, rfl, fun _ => rfl, fun x hx => absurd hx (by omega)⟩
    have hEs := hE.of (a1.tr s2).2.2.1
    obtain ⟨x, σt, t1, t2, t3⟩ := st_go (d := 64) (g := 0) (L := Lp (pa f)) (σ := σs) hpa hF6 x5 (fun x w => w) x6 x3 (show hF τ (rt f) < 41 by omega) (by omega) x7 hEs.1 (by rw [(a1.tr s2).1 22 (by decide) (by decide)]; exact h22) (by omega) (by rw [s3]; exact h23) c1
    have et5 : ∀ y, xB σt 5 y = xB σi 5 y := fun y => by
      rw [← s4 y]
      show gB σt 5 _ = gB σs 5 _
      rw [t2.2.2.2.1 5 (by decide) (by decide)]
    have ei : nI f * 4 + nI w = nI (4 * f + w) := by rw [nI_x4, nI_plus]
    obtain ⟨u, hu⟩ : ∃ u : Int32, (u = 0 ∧ x = xB σi 5 (nI (4 * f + w))) ∨ (u = 1 ∧ ¬ x = xB σi 5 (nI (4 * f + w))) := by
      by_cases hz : x = xB σi 5 (nI (4 * f + w))
      · exact ⟨0, Or.inl ⟨rfl, hz⟩⟩
      · exact ⟨1, Or.inr ⟨rfl, hz⟩⟩
    obtain ⟨σ2, es2⟩ : ∃ σ2, σ2 = pB σt 5 (nI (4 * f + w)) x := ⟨_, rfl⟩
    have hI2 := RI.step (u := u) (Dn' := fun g y => f < g ∨ (g = f ∧ y < w + 1)) hD hf (by omega) hI s4 s5 t3 et5 (s2.tr t2.i) hu es2 (fun g y z => by
      rcases z with z | ⟨z1, z2⟩
      · exact Or.inl (Or.inl z)
      · by_cases hyw : y = w
        · exact Or.inr ⟨z1, hyw⟩
        · exact Or.inl (Or.inr ⟨z1, by omega⟩))
    rw [Int32.or_assoc] at hI2
    have hu01 : u = 0 ∨ u = 1 := by
      rcases hu with ⟨k, -⟩ | ⟨k, -⟩
      · exact Or.inl k
      · exact Or.inr k
    have h232 : gI σ2 23 = nI (Lp (pa f)) := by
      rw [es2]
      show gI σt 23 = _
      rw [t2.1 23 (by decide), s3]
      exact h23
    obtain ⟨v', σ', q1, q2⟩ := ih (w + 1) N (v ||| u) σ2 (by omega) (by omega) (or_01 hv hu01) h232 hI2
    refine ⟨v', σ', ?_, q2⟩
    rw [← q1]
    show f_X1_improve_B51 _ _ _ _ _ _ _ _ = _
    unfold f_X1_improve_B51
    rw [if_neg (fun z => by have := (nI_le31 (by omega) (by omega)).mp z; omega)]
    have s1' : f_X1_improve_L60 (f_wordE 64) (f_X1_improve_L51 (f_wordE 64) N) FU (nI f) (nI (pa f)) (nI (Wp (pa f))) v (nI w) 0 σi = _ := s1
    have eb : ∀ u', u' = u → f_X1_improve_b156 (f_wordE 64) (f_X1_improve_L51 (f_wordE 64) N) (nI f) (nI (pa f)) (nI (Wp (pa f))) (nI w) x u' v σt = f_X1_improve_L51 (f_wordE 64) N (nI f) (nI (pa f)) (nI (Wp (pa f))) (v ||| u) (nI (w + 1)) σ2 := fun u' e => by
      unfold f_X1_improve_b156
      rw [ei, gdn (by omega) (by omega), nI_add1, es2, e]
    rw [s1', gdn (by omega) (by omega), gdn (by omega) (by omega), hEs.2.1, hEs.2.2, x1, x2, t1, bd_of, ei, gdn (by omega) (by omega), et5]
    rcases hu with ⟨hu1, hu2⟩ | ⟨hu1, hu2⟩
    · rw [if_pos (by rw [hu2]; exact lg_rf _)]
      exact eb 0 hu1.symm
    · rw [if_neg (fun z => hu2 (lg_eq z))]
      exact eb 1 hu1.symm
theorem sh_p : ∀ p, p < 6 → (1 : Int32) <<< (nI p &&& 31) = nI (2 ^ p) := by decide
theorem sh_q : ∀ p, p < 9 → 6 < p → (1 : Int32) <<< ((nI p - 6) &&& 31) = nI (2 ^ (p - 6)) := by decide
/-- A FUNCTION'S TABLE IS FOUND ANEW -/
theorem ip_go {τ : S5} {pa : Nat → Nat} {rt : Nat → Int32} {nv : Nat → Nat} {F r : Nat} {σ0 σ : S5} {v1 : Int32} {f : Nat} (hD : DX τ pa rt nv F) (hE : TF2 τ σ0) (h22 : gI σ0 22 = 0) (hf : f < F) (hI : RI τ pa rt F r σ0 σ v1 (fun g _ => f < g)) : ∃ v' σ', f_X1_improve (f_wordE 64) (nI f) σ = some (v', σ') ∧ RI τ pa rt F r σ0 σ' (v1 ||| v') (fun g _ => f ≤ g) := by
  obtain ⟨hF6, hpa, hpF, hX⟩ := id hD
  obtain ⟨p1, p2⟩ := hpa f hf
  obtain ⟨c1, c2, c3⟩ := lw_col (pa f) p2
  have h3 : xA σ 3 (nI f) = nI (pa f) := by
    rw [(hE.of hI.1.2.2.1).1.2.2]
    exact p1
  have e : f_X1_improve (f_wordE 64) (nI f) σ = f_X1_improve_L51 (f_wordE 64) FU (nI f) (nI (pa f)) (nI (Wp (pa f))) 0 (nI 0) (pI σ 23 (nI (Lp (pa f)))) := by
    unfold f_X1_improve f_X1_improve_b25 f_X1_improve_b44 Lp Wp
    rw [gdn (by omega) (by omega), h3]
    by_cases h6 : pa f < 6
    · rw [if_pos (show nI (pa f) < 6 from (nI_lt31 (b := 6) (by omega) (by omega)).mpr h6), if_neg (show ¬ (6 : Int32) < nI (pa f) from fun z => by have := (nI_lt31 (a := 6) (by omega) (by omega)).mp z; omega), if_pos h6, if_neg (show ¬ 6 < pa f by omega), sh_p _ h6]
      rfl
    · rw [if_neg (show ¬ nI (pa f) < 6 from fun z => by have := (nI_lt31 (b := 6) (by omega) (by omega)).mp z; omega), if_neg h6]
      by_cases h7 : 6 < pa f
      · rw [if_pos (show (6 : Int32) < nI (pa f) from (nI_lt31 (a := 6) (by omega) (by omega)).mpr h7), if_pos h7, sh_q _ (by omega) h7]
        rfl
      · rw [if_neg (show ¬ (6 : Int32) < nI (pa f) from fun z => h7 ((nI_lt31 (a := 6) (by omega) (by omega)).mp z)), if_neg h7]
        rfl
  have hI0 : RI τ pa rt F r σ0 (pI σ 23 (nI (Lp (pa f)))) (v1 ||| 0) (fun g y => f < g ∨ (g = f ∧ y < 0)) := by
    obtain ⟨a1, a2, a3, a4, a5, a6, a7, a8⟩ := hI
    rw [Int32.or_zero]
    refine ⟨a1.tr ⟨fun j h3 _ => by rw [gI_pI, if_neg h3], fun _ => rfl, fun _ => rfl, fun _ _ _ _ => rfl, rfl⟩, a2, a3, a4, fun g ρ hg hd => a5 g ρ hg (by rcases hd with z | z; exact z; exact absurd z.2 (by omega)), fun hv => ⟨(a6 hv).1, fun g ρ hg hd => (a6 hv).2 g ρ hg (by rcases hd with z | z; exact z; exact absurd z.2 (by omega))⟩, a7, a8⟩
  obtain ⟨v', σ', q1, a1, a2, a3, a4, a5, a6, a7, a8⟩ := ip_L51 hD hE h22 hf (Wp (pa f)) 0 FU 0 _ (by omega) (by show Wp (pa f) < 1099511627776; omega) (Or.inl rfl) (by rw [gI_pI, if_pos rfl]) hI0
  have hdn : ∀ g ρ, f ≤ g → (f < g ∨ (g = f ∧ rwN ρ (pa g) / 64 < Wp (pa f))) := fun g ρ hg => by
    by_cases hgf : g = f
    · refine Or.inr ⟨hgf, ?_⟩
      rw [hgf]
      have := rwN_lt ρ (pa f)
      omega
    · exact Or.inl (by omega)
  exact ⟨v', σ', by rw [e]; exact q1, a1, a2, a3, a4, fun g ρ hg hd => a5 g ρ hg (hdn g ρ hd), fun hv => ⟨(a6 hv).1, fun g ρ hg hd => (a6 hv).2 g ρ hg (hdn g ρ hd)⟩, a7, a8⟩
