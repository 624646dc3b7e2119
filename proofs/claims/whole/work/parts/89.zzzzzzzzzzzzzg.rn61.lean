/-- numbers come into the row, on both sides -/
theorem row_go {σ μ : S5} (h : NR σ μ) (h0 : gI μ 44 = 0) (a b : Int32) {m : Nat} (hm : m = 1 ∨ m = 2) : (∃ σ' μ' rc, f_X3_addNumbers (nI m) a b σ = some ((), σ') ∧ f_X12_putRow a b (nI m) μ = some (1, μ') ∧ NR σ' μ' ∧ (gI μ 46 = nI rc ∧ gI μ' 46 = nI (rc + m) ∧ rc + m ≤ 1000) ∧ ((∀ j, gI σ' j = gI σ j) ∧ (∀ j, gJ σ' j = gJ σ j) ∧ (∀ j, ¬ j = 40 → ¬ j = 42 → gA σ' j = gA σ j) ∧ gA σ' 40 3 = gA σ 40 3 ∧ (∀ j, gB σ' j = gB σ j) ∧ σ'.2.2.2.2 = σ.2.2.2.2) ∧ ((∀ j, ¬ j = 46 → gI μ' j = gI μ j) ∧ (∀ j, gJ μ' j = gJ μ j) ∧ (∀ j, ¬ j = 58 → gA μ' j = gA μ j) ∧ (∀ j, gB μ' j = gB μ j) ∧ μ'.2.2.2.2 = μ.2.2.2.2)) ∨ (∃ σ' μ', f_X3_addNumbers (nI m) a b σ = some ((), σ') ∧ f_X12_putRow a b (nI m) μ = some (0, μ') ∧ OV σ' μ' ∧ FkC σ σ' ∧ FkM μ μ') := by
  have hr := h
  obtain ⟨⟨r0, r1, r2, r3, r4, r5, r6, r7, r8, r9, q1, q2, q3, q4⟩, a1, a2, a3, a4⟩ := h
  obtain ⟨rc, erc⟩ : ∃ rc, rc = (gI μ 46).toNatClampNeg := ⟨_, rfl⟩
  have e46 : gI μ 46 = nI rc := by rw [erc]; exact nI_tn q1
  have hrc31 : rc < 2 ^ 31 := by rw [erc]; exact tn31 _
  have hrc : rc ≤ 1000 := by
    rw [e46] at q2
    exact (nI_le31 (a := rc) (b := 1000) hrc31 (by omega)).mp q2
  have x9 : xA σ 40 9 = nI rc := r9.trans e46
  rw [← erc] at q3
  by_cases hle : rc + m ≤ 1000
  · have hl1 : nI rc + nI m ≤ 1000 := by
      rw [nI_plus]
      exact (nI_le31 (a := rc + m) (b := 1000) (by omega) (by omega)).mpr hle
    refine Or.inl ?_
    -- the states behind, whatever they are
    have key : ∀ σ' μ' : S5, (∀ j, gI σ' j = gI σ j) → (∀ j, gJ σ' j = gJ σ j) → (∀ j, ¬ j = 40 → ¬ j = 42 → gA σ' j = gA σ j) → gA σ' 40 = upd (gA σ 40) 9 (nI (rc + m)) → (∀ j, gB σ' j = gB σ j) → σ'.2.2.2.2 = σ.2.2.2.2 → (∀ j, ¬ j = 46 → gI μ' j = gI μ j) → gI μ' 46 = nI (rc + m) → (∀ j, gJ μ' j = gJ μ j) → (∀ j, ¬ j = 58 → gA μ' j = gA μ j) → (∀ j, gB μ' j = gB μ j) → μ'.2.2.2.2 = μ.2.2.2.2 → (∀ i, i < rc + m → gA σ' 42 i = gA μ' 58 i) → f_X3_addNumbers (nI m) a b σ = some ((), σ') → f_X12_putRow a b (nI m) μ = some (1, μ') → ∃ σ' μ' rc, f_X3_addNumbers (nI m) a b σ = some ((), σ') ∧ f_X12_putRow a b (nI m) μ = some (1, μ') ∧ NR σ' μ' ∧ (gI μ 46 = nI rc ∧ gI μ' 46 = nI (rc + m) ∧ rc + m ≤ 1000) ∧ ((∀ j, gI σ' j = gI σ j) ∧ (∀ j, gJ σ' j = gJ σ j) ∧ (∀ j, ¬ j = 40 → ¬ j = 42 → gA σ' j = gA σ j) ∧ gA σ' 40 3 = gA σ 40 3 ∧ (∀ j, gB σ' j = gB σ j) ∧ σ'.2.2.2.2 = σ.2.2.2.2) ∧ ((∀ j, ¬ j = 46 → gI μ' j = gI μ j) ∧ (∀ j, gJ μ' j = gJ μ j) ∧ (∀ j, ¬ j = 58 → gA μ' j = gA μ j) ∧ (∀ j, gB μ' j = gB μ j) ∧ μ'.2.2.2.2 = μ.2.2.2.2) := by
      intro σ' μ' sI sJ sA s40 sB sN uI u46 uJ uA uB uN hrow e1 e2
      have gx : ∀ x, ¬ x = 9 → gA σ' 40 x = gA σ 40 x := fun x w => by rw [s40, up_n w]
      refine ⟨σ', μ', rc, e1, e2, ⟨⟨?_, ?_, ?_, ?_, ?_, ?_, ?_, ?_, ?_, ?_, ?_, ?_, ?_, ?_⟩, ?_, ?_, ?_, ?_⟩, ⟨e46, u46, hle⟩, ⟨sI, sJ, sA, gx 3 (by omega), sB, sN⟩, uI, uJ, uA, uB, uN⟩
      · rw [gx 0 (by omega), uI 44 (by omega)]; exact r0
      · rw [gx 1 (by omega), uI 45 (by omega)]; exact r1
      · rw [gx 2 (by omega), uI 38 (by omega)]; exact r2
      · rw [gx 3 (by omega), uI 34 (by omega)]; exact r3
      · rw [gx 4 (by omega), uI 39 (by omega)]; exact r4
      · rw [gx 5 (by omega), uI 40 (by omega)]; exact r5
      · rw [gx 6 (by omega), uI 41 (by omega)]; exact r6
      · rw [gx 7 (by omega), uI 42 (by omega)]; exact r7
      · rw [gx 8 (by omega), uI 43 (by omega)]; exact r8
      · rw [s40, up_s, u46]
      · rw [u46]; exact i_le0 (nI_nneg (by omega))
      · rw [u46]; exact (nI_le31 (a := rc + m) (b := 1000) (by omega) (by omega)).mpr hle
      · intro i hi
        rw [u46, nI_clamp (by omega)] at hi
        exact hrow i hi
      · rw [sA 41 (by decide) (by decide), uA 57 (by decide)]; exact q4
      · rw [uI 35 (by omega), sI 65, gx 3 (by omega)]; exact a1
      · rw [uI 36 (by omega), sI 64, gx 2 (by omega)]; exact a2
      · rw [uI 37 (by omega), gx 2 (by omega), sI 47]; exact a3
      · rw [sI 46, uI 47 (by omega)]; exact a4
    rcases hm with rfl | rfl
    · refine key (pA (pA σ 42 (nI rc) a) 40 9 (nI (rc + 1))) (pI (pA μ 58 (nI rc) a) 46 (nI (rc + 1))) (fun _ => rfl) (fun _ => rfl) (fun j x y => by rw [gA_pA_ne x, gA_pA_ne y]) rfl (fun _ => rfl) rfl (fun j w => by rw [gI_pI, if_neg w]; rfl) rfl (fun _ => rfl) (fun j w => ?_) (fun _ => rfl) rfl (fun i hi => ?_) ?_ ?_
      · show gA (pA μ 58 (nI rc) a) j = _
        rw [gA_pA_ne w]
      · rw [gA_pA_ne (by decide)]
        show gA (pA σ 42 (nI rc) a) 42 i = gA (pA μ 58 (nI rc) a) 58 i
        by_cases e : i = rc
        · subst e
          rw [gA_s (by omega), gA_s (by omega)]
        · rw [gA_n (by omega) e, gA_n (by omega) e]
          exact q3 i (by omega)
      · unfold f_X3_addNumbers f_X3_addNumbers_b49
        rw [x9, if_pos hl1, gdn (by omega) (by omega), if_pos (by decide), nI_plus]
      · unfold f_X12_putRow
        rw [e46, if_pos hl1, gdn (by omega) (by omega), if_pos (by decide), nI_add1]
    · refine key (pA (pA (pA σ 42 (nI rc) a) 42 (nI (rc + 1)) b) 40 9 (nI (rc + 2))) (pI (pA (pI (pA μ 58 (nI rc) a) 46 (nI (rc + 1))) 58 (nI (rc + 1)) b) 46 (nI (rc + 2))) (fun _ => rfl) (fun _ => rfl) (fun j x y => by rw [gA_pA_ne x, gA_pA_ne y, gA_pA_ne y]) rfl (fun _ => rfl) rfl (fun j w => ?_) rfl (fun _ => rfl) (fun j w => ?_) (fun _ => rfl) rfl (fun i hi => ?_) ?_ ?_
      · rw [gI_pI, if_neg w]
        show gI (pI (pA μ 58 (nI rc) a) 46 _) j = _
        rw [gI_pI, if_neg w]
        rfl
      · show gA (pA (pA μ 58 (nI rc) a) 58 (nI (rc + 1)) b) j = _
        rw [gA_pA_ne w, gA_pA_ne w]
      · rw [gA_pA_ne (by decide)]
        show gA (pA (pA σ 42 (nI rc) a) 42 (nI (rc + 1)) b) 42 i = gA (pA (pA μ 58 (nI rc) a) 58 (nI (rc + 1)) b) 58 i
        by_cases e1 : i = rc + 1
        · subst e1
          rw [gA_s (by omega), gA_s (by omega)]
        · rw [gA_n (by omega) e1, gA_n (by omega) e1]
          by_cases e : i = rc
          · subst e
            rw [gA_s (by omega), gA_s (by omega)]
          · rw [gA_n (by omega) e, gA_n (by omega) e]
            exact q3 i (by omega)
      · unfold f_X3_addNumbers f_X3_addNumbers_b49
        rw [x9, if_pos hl1, gdn (by omega) (by omega), if_neg (by decide), nI_add1, gdn (by omega) (by omega), nI_plus]
      · unfold f_X12_putRow
        rw [e46, if_pos hl1, gdn (by omega) (by omega), if_neg (by decide), nI_add1, gdn (by omega) (by omega), nI_add1]
  · have hl1 : ¬ nI rc + nI m ≤ 1000 := by
      rw [nI_plus]
      exact fun w => hle ((nI_le31 (a := rc + m) (b := 1000) (by omega) (by omega)).mp w)
    obtain ⟨σ', μ', w1, w2, w3, w4, w5, -⟩ := end_go hr h0 3 3 (by decide)
    refine Or.inr ⟨σ', μ', ?_, ?_, w3, w4, w5⟩
    · unfold f_X3_addNumbers
      rw [x9, if_neg hl1, w1, bd_of]
    · unfold f_X12_putRow
      rw [e46, if_neg hl1, w2, bd_of]
/-- what is still to be shown: fields of objects, on both sides -/
def LLs (σ μ : S5) (n : Nat) (tg ct : Nat → Nat) : List (Nat × Nat) → Nat → Nat → Prop
  | [], t, s => t = 0 ∧ s = 0
  | x :: L, t, s => ∃ t' s', t = t' + 1 ∧ s = s' + (ct x.1 - x.2) ∧ (x.1 < n ∧ tg x.1 = 4 ∧ x.2 ≤ ct x.1 ∧ ct x.1 ≤ 4) ∧ gB σ 12 t' = fr 10 (adr tg ct x.1) x.2 ∧ (∀ i, i < ct x.1 - x.2 → gB μ 10 (s' + i) = gB μ 7 (pre ct x.1 + (ct x.1 - 1 - i))) ∧ LLs σ μ n tg ct L t' s'
def yL (ct : Nat → Nat) : List (Nat × Nat) → Nat
  | [] => 0
  | x :: L => 10 * (ct x.1 - x.2) + 1 + yL ct L
theorem LLs.mv {σ μ σ' μ' : S5} {n : Nat} {tg ct : Nat → Nat} {n' : Nat} {tg' ct' : Nat → Nat} (hg : Gro n tg ct n' tg' ct') (h7 : ∀ j, j < pre ct n → gB μ' 7 j = gB μ 7 j) : ∀ (L : List (Nat × Nat)) {t s : Nat}, LLs σ μ n tg ct L t s → (∀ j, j < t → gB σ' 12 j = gB σ 12 j) → (∀ j, j < s → gB μ' 10 j = gB μ 10 j) → LLs σ' μ' n' tg' ct' L t s ∧ yL ct' L = yL ct L
  | [], t, s, h, _, _ => ⟨h, rfl⟩
  | x :: L, t, s, h, h1, h2 => by
    obtain ⟨t', s', a1, a2, ⟨a3, a4, a5, a6⟩, a7, a8, a9⟩ := h
    obtain ⟨g1, g2⟩ := hg.2 x.1 a3
    obtain ⟨g3, g4⟩ := hg.ad (Nat.le_of_lt a3)
    obtain ⟨i1, i2⟩ := LLs.mv hg h7 L a9 (fun j hj => h1 j (by omega)) (fun j hj => h2 j (by omega))
    refine ⟨⟨t', s', a1, by rw [g2]; exact a2, ⟨by have := hg.1; omega, by rw [g1]; exact a4, by rw [g2]; exact a5, by rw [g2]; exact a6⟩, by rw [h1 _ (by omega), g3]; exact a7, fun i hi => ?_, i1⟩, ?_⟩
    · rw [g2] at hi
      have hp := pre_mo' ct a3
      rw [g2, g4, h2 _ (by omega), h7 _ (by omega)]
      exact a8 i hi
    · show 10 * (ct' x.1 - x.2) + 1 + yL ct' L = 10 * (ct x.1 - x.2) + 1 + yL ct L
      rw [g2, i2]
theorem LLs.bd {σ μ : S5} {n : Nat} {tg ct : Nat → Nat} : ∀ (L : List (Nat × Nat)) {t s : Nat}, LLs σ μ n tg ct L t s → t = L.length ∧ s ≤ 4 * L.length
  | [], t, s, h => ⟨h.1, by rw [h.2]; exact Nat.zero_le _⟩
  | x :: L, t, s, h => by
    obtain ⟨t', s', a1, a2, ⟨a3, a4, a5, a6⟩, a7, a8, a9⟩ := h
    obtain ⟨i1, i2⟩ := LLs.bd L a9
    show t = L.length + 1 ∧ s ≤ 4 * (L.length + 1)
    omega
/-- what a run leaves of the other -/
def FqM (μ ν : S5) : Prop := (∀ j, ¬ (32 ≤ j ∧ j ≤ 46) → ¬ (48 ≤ j ∧ j ≤ 55) → gI ν j = gI μ j) ∧ (∀ j, ¬ j = 1 → gJ ν j = gJ μ j) ∧ (∀ j, ¬ (53 ≤ j ∧ j ≤ 63) → gA ν j = gA μ j) ∧ (∀ j, ¬ (6 ≤ j ∧ j ≤ 10) → gB ν j = gB μ j) ∧ ν.2.2.2.2 = μ.2.2.2.2
theorem FqM.tr {σ τ ρ : S5} (h : FqM σ τ) (g : FqM τ ρ) : FqM σ ρ := ⟨fun j a b => (g.1 j a b).trans (h.1 j a b), fun j a => (g.2.1 j a).trans (h.2.1 j a), fun j a => (g.2.2.1 j a).trans (h.2.2.1 j a), fun j a => (g.2.2.2.1 j a).trans (h.2.2.2.1 j a), g.2.2.2.2.trans h.2.2.2.2⟩
theorem FqM.rf (μ : S5) : FqM μ μ := ⟨fun _ _ _ => rfl, fun _ _ => rfl, fun _ _ => rfl, fun _ _ => rfl, rfl⟩
theorem FmM.q {μ ν : S5} (h : FmM μ ν) : FqM μ ν := ⟨fun j a b => h.1 j (by omega) (by omega), h.2.1, h.2.2.1, fun j a => h.2.2.2.1 j (by omega), h.2.2.2.2⟩
theorem eqQ.fq {τ σ σ' : S5} (h : eqQ τ σ) (g : FqM σ σ') : eqQ τ σ' := ⟨fun j hj => (g.1 j (by omega) (by omega)).trans (h.1 j hj), fun j hj => (g.2.2.1 j (by omega)).trans (h.2.1 j hj), fun j hj => (g.2.2.2.1 j (by omega)).trans (h.2.2 j hj)⟩
/-- both at the top: so many frames below, nothing is worked out -/
def TLb (τ μ0 : S5) (F k T : Nat) (pa nv D E : Nat → Nat) (σa μa σ μ : S5) (n : Nat) (tg ct : Nat → Nat) (L : List (Nat × Nat)) (u R Y : Nat) : Prop :=
  (FmC σa σ ∧ FqM μa μ) ∧ HS τ μ0 F T pa nv σ μ n tg ct (fun _ => True) ∧ (NR σ μ ∧ gI μ 44 = 0) ∧ MC σ (L.length + u) 0 0 0 ∧ GLB k pa σ μ n tg ct ∧ BNs μ0 D E μ n 0 [] 0 0 R ∧ (∃ s, gI μ 55 = nI s ∧ LLs σ μ n tg ct L L.length s) ∧ (∃ rc, gI μ 46 = nI rc ∧ rc ≤ 1000 ∧ 2 * L.length ≤ rc ∧ 100 * (1000 - rc) + yL ct L ≤ Y) ∧ gI σ 45 = 0
/-- both have ended: what is left to know -/
def OVq (σa μa σ μ : S5) : Prop := OV σ μ ∧ FmC σa σ ∧ FqM μa μ ∧ Ln 11 (gN σ 1) ∧ Ln 9 (gN σ 3)
/-- the other puts down an object's fields -/
theorem fl115 {y : Int64} {c p0 m s : Nat} (hy : y.toInt32 = nI c) (hc : c < 4100) (hp : p0 + m ≤ 4100) (hs : s + m ≤ 4200) : ∀ (r N : Nat) (μ : S5), r ≤ m → r < N → gI μ 55 = nI (s + (m - r)) → gA μ 55 c = nI p0 → ∃ ν, f_X12_force_L115 N y (nI r - 1) μ = some ((), ν) ∧ gI ν 55 = nI (s + m) ∧ (∀ j, ¬ j = 55 → gI ν j = gI μ j) ∧ (∀ j, gJ ν j = gJ μ j) ∧ (∀ j, gA ν j = gA μ j) ∧ (∀ j, ¬ j = 10 → gB ν j = gB μ j) ∧ ν.2.2.2.2 = μ.2.2.2.2 ∧ (∀ i, m - r ≤ i → i < m → gB ν 10 (s + i) = gB μ 7 (p0 + (m - 1 - i))) ∧ ∀ j, j < s + (m - r) → gB ν 10 j = gB μ 10 j := by
  intro r
  induction r with
  | zero =>
    intro N μ hr hN h55 hA
    obtain ⟨N, rfl⟩ : ∃ n, N = n + 1 := ⟨N - 1, by omega⟩
    refine ⟨μ, ?_, by rw [h55, Nat.sub_zero], fun _ _ => rfl, fun _ => rfl, fun _ => rfl, fun _ _ => rfl, rfl, fun i a b => by omega, fun _ _ => rfl⟩
    show f_X12_force_B115 _ _ _ _ = _
    unfold f_X12_force_B115
    rw [if_pos (by decide)]
  | succ r ih =>
    intro N μ hr hN h55 hA
    obtain ⟨N, rfl⟩ : ∃ n, N = n + 1 := ⟨N - 1, by omega⟩
    have e1 : nI (r + 1) - 1 = nI r := by
      rw [show (1 : Int32) = nI 1 from rfl, nI_sub (by omega)]
      rfl
    obtain ⟨μ1, em⟩ : ∃ z, z = pI (pB μ 10 (nI (s + (m - (r + 1)))) (gB μ 7 (p0 + r))) 55 (nI (s + (m - r))) := ⟨_, rfl⟩
    have i55 : gI μ1 55 = nI (s + (m - r)) := by rw [em]; rfl
    have iI : ∀ j, ¬ j = 55 → gI μ1 j = gI μ j := fun j w => by rw [em, gI_pI, if_neg w]; rfl
    have iA : ∀ j, gA μ1 j = gA μ j := fun j => by rw [em]; rfl
    have iB : ∀ j, ¬ j = 10 → gB μ1 j = gB μ j := fun j w => by
      rw [em]
      show gB (pB μ 10 _ _) j = _
      rw [gB_pB_ne w]
    obtain ⟨ν, n1, n2, n3, n4, n5, n6, n7, n8, n9⟩ := ih N μ1 (by omega) (by omega) i55 (by rw [iA]; exact hA)
    refine ⟨ν, ?_, n2, fun j w => by rw [n3 j w, iI j w], fun j => by rw [n4, em]; rfl, fun j => by rw [n5, iA], fun j w => by rw [n6 j w, iB j w], by rw [n7, em]; rfl, fun i a b => ?_, fun j hj => ?_⟩
    · show f_X12_force_B115 _ _ _ _ = _
      unfold f_X12_force_B115 f_X12_of
      rw [e1, if_neg (nI_nneg (by omega)), bd_of, hy, gdn hc (by omega), xA_n (by omega), hA, nI_plus, gdn (by omega) (by omega), h55, gdn (by omega) (by omega), xB_at (by omega), nI_add1, show s + (m - (r + 1)) + 1 = s + (m - r) by omega, ← em, ← Int32.sub_eq_add_neg]
      exact n1
    · by_cases e : i = m - (r + 1)
      · subst e
        rw [n9 _ (by omega), em]
        show gB (pB μ 10 (nI (s + (m - (r + 1)))) (gB μ 7 (p0 + r))) 10 _ = _
        rw [gB_s (by omega), show m - 1 - (m - (r + 1)) = r by omega]
      · rw [n8 i (by omega) b, iB 7 (by decide)]
    · rw [n9 j (by omega), em]
      show gB (pB μ 10 (nI (s + (m - (r + 1)))) (gB μ 7 (p0 + r))) 10 j = _
      rw [gB_n (by omega) (by omega)]
theorem BNs.st {μ0 : S5} {D E : Nat → Nat} {μ μ' : S5} {n R : Nat} (h : BNs μ0 D E μ n 0 [] 0 0 R) (h53 : gA μ' 53 = gA μ 53) (h54 : gA μ' 54 = gA μ 54) (h37 : gI μ' 37 = gI μ 37) (h38 : gI μ' 38 = gI μ 38) : BNs μ0 D E μ' n 0 [] 0 0 R := by
  obtain ⟨n1, n2, cl, lf, n3, n4, n5, n6, n7, n8⟩ := h
  have e1 : blC μ' = blC μ := funext (fun c => by unfold blC; rw [h53])
  have e2 : ∀ G : Nat → Nat, spC G μ' = spC G μ := fun G => funext (fun c => by unfold spC; rw [h53, h54])
  exact ⟨by rw [e1]; exact n1, n2, cl, lf, by rw [h38]; exact n3, by rw [h37]; exact n4, n5, n6, by rw [e2]; exact n7, by rw [e2]; exact n8⟩
/-- both show a value: SHOW against force -/
theorem sh_go {τ μ0 : S5} {F k T : Nat} {pa nv D E : Nat → Nat} (hS : PSt τ μ0 F k T pa nv) {σa μa σ μ : S5} {n : Nat} {tg ct : Nat → Nat} {L : List (Nat × Nat)} {R Y : Nat} (h : TLb τ μ0 F k T pa nv D E σa μa σ μ n tg ct L 0 R Y) (hv : VL τ F pa n tg ct (gJ σ 5) (gJ μ 1)) : ∃ σ' μ', f_X3_show σ = some ((), σ') ∧ f_X12_force (gJ μ 1) μ = some ((), μ') ∧ (gN σ 1 ≤ gN σ' 1 ∧ gN σ 3 ≤ gN σ' 3) ∧ ((∃ L', TLb τ μ0 F k T pa nv D E σa μa σ' μ' n tg ct L' 0 R (Y - 50) ∧ 50 ≤ Y) ∨ OVq σa μa σ' μ') := by
  have hbig := FU_big (n := 5000) (by decide)
  obtain ⟨⟨f1, f2⟩, hH, ⟨hn, h0⟩, hC, hG, hB, ⟨s, hs1, hs2⟩, ⟨rc, hr1, hr2, hr3, hr4⟩, h45⟩ := h
  obtain ⟨lb1, lb2⟩ := hs2.bd
  rw [Nat.add_zero] at hC
  -- one or two numbers and nothing else
  have plain : ∀ (m : Nat) (a b : Int32), (m = 1 ∨ m = 2) → f_X3_show σ = bd (f_X3_addNumbers (nI m) a b σ) (fun _ τ48 => gq (gN τ48 1) (gN σ 1) <| gq (gN τ48 3) (gN σ 3) <| some ((), τ48)) → f_X12_force (gJ μ 1) μ = bd (f_X12_putRow a b (nI m) μ) (fun _ τ40 => some ((), τ40)) → ∃ σ' μ', f_X3_show σ = some ((), σ') ∧ f_X12_force (gJ μ 1) μ = some ((), μ') ∧ (gN σ 1 ≤ gN σ' 1 ∧ gN σ 3 ≤ gN σ' 3) ∧ ((∃ L', TLb τ μ0 F k T pa nv D E σa μa σ' μ' n tg ct L' 0 R (Y - 50) ∧ 50 ≤ Y) ∨ OVq σa μa σ' μ') := by
    intro m a b hm e1 e2
    rcases row_go hn h0 a b hm with ⟨σ', μ', rc', w1, w2, w3, ⟨w4, w5, w6⟩, ⟨u1, u2, u3, u4, u5, u6⟩, v1, v2, v3, v4, v5⟩ | ⟨σ', μ', w1, w2, w3, w4, w5⟩
    · have q1 : gN σ' 1 = gN σ 1 := congrFun u6 1
      have q3 : gN σ' 3 = gN σ 3 := congrFun u6 3
      have erc : rc' = rc := nI_injL (by omega) (by omega) (w4.symm.trans hr1)
      subst erc
      refine ⟨σ', μ', by rw [e1, w1, bd_of, gq_e q1, gq_e q3], by rw [e2, w2, bd_of], ⟨Nat.le_of_eq q1.symm, Nat.le_of_eq q3.symm⟩, Or.inl ⟨L, ⟨⟨f1.tr ⟨fun j _ => u1 j, fun j _ => u2 j, fun j w => u3 j (by omega) (by omega), fun j _ => u5 j, fun k _ _ => congrFun u6 k⟩, f2.tr ⟨fun j w w' => v1 j (by omega), fun j _ => v2 j, fun j w => v3 j (by omega), fun j _ => v4 j, v5⟩⟩, hH.of u4 (u5 14) (fun j _ _ => v1 j (by omega)) (fun j _ _ => v3 j (by omega)) (v4 6) (v4 7), ⟨w3, by rw [v1 44 (by omega)]; exact h0⟩, ?_, ?_, hB.st (v3 53 (by decide)) (v3 54 (by decide)) (v1 37 (by decide)) (v1 38 (by decide)), ⟨s, by rw [v1 55 (by omega)]; exact hs1, (hs2.mv (Gro.rf n tg ct) (fun j _ => by rw [v4]) L (fun j _ => by rw [u5]) (fun j _ => by rw [v4])).1⟩, ⟨rc' + m, w5, w6, by omega, by omega⟩, by rw [u1]; exact h45⟩, by omega⟩⟩
      · obtain ⟨⟨m1, m2, m3, m4⟩, m5, m6, m7, m8⟩ := hC
        exact ⟨⟨by rw [u1]; exact m1, by rw [u1]; exact m2, by rw [u1]; exact m3, by rw [u1]; exact m4⟩, by rw [q1]; exact m5, by rw [q1]; exact m6, by rw [q3]; exact m7, by rw [q3]; exact m8⟩
      · unfold GLB at *
        rw [u3 43 (by decide) (by decide), v3 64 (by decide)]
        exact hG
    · have q1 : gN σ' 1 = gN σ 1 := congrFun w4.2.2.2.2 1
      have q3 : gN σ' 3 = gN σ 3 := congrFun w4.2.2.2.2 3
      exact ⟨σ', μ', by rw [e1, w1, bd_of, gq_e q1, gq_e q3], by rw [e2, w2, bd_of], ⟨Nat.le_of_eq q1.symm, Nat.le_of_eq q3.symm⟩, Or.inr ⟨w3, f1.tr w4.fm, f2.tr w5.fm.q, by rw [q1]; exact hC.2.1, by rw [q3]; exact hC.2.2.2.1⟩⟩
  have hs12 : ∀ t : Nat, (t = 2 ∨ t = 5 ∨ t = 6) → (j_lushr (gJ σ 5) 32).toInt32 = nI t → f_X3_show σ = bd (f_X3_addNumbers (nI 1) 3 0 σ) (fun _ τ48 => gq (gN τ48 1) (gN σ 1) <| gq (gN τ48 3) (gN σ 3) <| some ((), τ48)) := by
    intro t ht htg
    unfold f_X3_show f_X0_tag
    rw [htg, bd_of, gq_r, gq_r]
    rcases ht with rfl | rfl | rfl <;> rfl
  rcases id hv with ⟨x, a1, a2⟩ | ⟨g, g1, g2, a1, a2⟩ | ⟨k', -, -, -, a1, a2⟩ | ⟨c, c1, c2, c3, c4⟩
  · refine plain 2 1 x (Or.inr rfl) ?_ ?_
    · unfold f_X3_show f_X0_tag
      rw [show (j_lushr (gJ σ 5) 32).toInt32 = 1 by rw [a1]; exact vv_tag 1 _, bd_of, gq_r, gq_r, if_pos rfl, show (gJ σ 5).toInt32 = x by rw [a1]; exact vv_of 1 _]
      rfl
    · unfold f_X12_force f_X12_force_b24 f_X12_force_b25 f_X12_kindOf f_X12_of
      rw [show (j_lshr (gJ μ 1) 32).toInt32 = 0 by rw [a2]; exact vv_kd 0 _, bd_of, if_neg (by decide), bd_of, if_pos rfl, bd_of, show (gJ μ 1).toInt32 = x by rw [a2]; exact vv_of 0 _]
      rfl
  · refine plain 1 3 0 (Or.inl rfl) (hs12 2 (Or.inl rfl) (by rw [a1]; exact vv_tag 2 _)) ?_
    unfold f_X12_force f_X12_force_b24 f_X12_force_b25 f_X12_kindOf f_X12_of
    rw [show (j_lshr (gJ μ 1) 32).toInt32 = 1 by rw [a2]; exact vv_kd 1 _, bd_of, if_neg (by decide), bd_of, if_neg (by decide), bd_of, if_neg (by decide), if_pos rfl]
    rfl
  · refine plain 2 2 (nI k') (Or.inr rfl) ?_ ?_
    · unfold f_X3_show f_X0_tag
      rw [show (j_lushr (gJ σ 5) 32).toInt32 = 3 by rw [a1]; exact vv_tag 3 _, bd_of, gq_r, gq_r, if_neg (by decide), if_neg (by decide), if_pos rfl, show (gJ σ 5).toInt32 = nI k' by rw [a1]; exact vv_of 3 _]
      rfl
    · unfold f_X12_force f_X12_force_b24 f_X12_force_b25 f_X12_kindOf f_X12_of
      rw [show (j_lshr (gJ μ 1) 32).toInt32 = 2 by rw [a2]; exact vv_kd 2 _, bd_of, if_neg (by decide), bd_of, if_neg (by decide), bd_of, if_pos rfl, bd_of, show (gJ μ 1).toInt32 = nI k' by rw [a2]; exact vv_of 2 _]
      rfl
  · obtain ⟨⟨hbe, hco⟩, hcell, hfld⟩ := hH.2 c c1
    have hA4 := adr_mo tg ct c1
    have hz : szc tg ct c = ct c + 1 + if tg c = 5 then 1 else 0 := rfl
    have h4 := hH.1.2.2.1
    have hge := adr_ge tg ct n
    have hpr := pre_mo' ct c1
    have hck : (j_lshr (gJ μ 1) 32).toInt32 = 3 := by rw [c4]; exact vv_kd 3 _
    have hco' : (gJ μ 1).toInt32 = nI c := by rw [c4]; exact vv_of 3 _
    have noobj : ¬ gA μ 53 c = 0 → f_X12_force (gJ μ 1) μ = bd (f_X12_putRow 3 0 (nI 1) μ) (fun _ τ40 => some ((), τ40)) := by
      intro h53
      unfold f_X12_force f_X12_force_b24 f_X12_force_b25 f_X12_kindOf f_X12_of
      rw [hck, bd_of, if_pos rfl, bd_of, hco', gdn (by omega) (by omega), xA_n (by omega), if_neg h53, bd_of, if_neg (by decide), bd_of, if_neg (by decide), if_pos rfl]
      rfl
    rcases hcell with ⟨d1, d2, kk, d3, d4, d5, d6, d7, d8⟩ | ⟨d1, d2, -⟩ | ⟨d1, d2⟩
    · -- an object
      have htag : (j_lushr (gJ σ 5) 32).toInt32 = 4 := by rw [c3, d1]; exact vv_tag 4 _
      have hof : (gJ σ 5).toInt32 = nI (adr tg ct c) := by rw [c3, d1]; exact vv_of 4 _
      have hct4 : ct c ≤ 4 := by
        have h5 := (hS.2.1.2.2.2 (nI kk) (i_le0 (nI_nneg (by omega))) d4).2.2.2
        rw [d7] at h5
        exact (nI_le31 (a := ct c) (b := 4) (by omega) (by omega)).mp h5
      have hsh : ∀ σ1 : S5, f_X3_addNumbers (nI 2) 2 (nI kk) σ = some ((), σ1) → gN σ1 1 = gN σ 1 → gN σ1 3 = gN σ 3 → f_X3_show σ = bd (f_X3_push (fr 10 (adr tg ct c) 0) σ1) (fun _ τ88 => gle (gN σ1 1) (gN τ88 1) <| gle (gN σ1 3) (gN τ88 3) <| some ((), τ88)) := by
        intro σ1 w q1 q3
        unfold f_X3_show f_X0_tag f_X3_frame f_X3_show_b91
        rw [htag, bd_of, gq_r, gq_r, if_neg (by decide), if_neg (by decide), if_neg (by decide), if_pos rfl, hof, gdn (by omega) (by omega), xB_at (by omega), d6, i2l2i, show f_X3_addNumbers 2 2 (nI kk) σ = some ((), σ1) from w, bd_of, gq_e q1, gq_e q3, bd_of, gq_r, gq_r]
        rfl
      have hfo : ∀ (r : Int32) (μ1 : S5), f_X12_putRow 2 (nI kk) (nI 2) μ = some (r, μ1) → gA μ1 56 = gA μ 56 → f_X12_force (gJ μ 1) μ = if r = 0 then some ((), μ1) else f_X12_force_L115 FU (gJ μ 1) (nI (ct c) - 1) μ1 := by
        intro r μ1 w q
        unfold f_X12_force f_X12_force_b25 f_X12_kindOf f_X12_of
        rw [hck, bd_of, if_pos rfl, bd_of, hco', gdn (by omega) (by omega), xA_n (by omega), d2, if_pos rfl, bd_of, if_neg (by decide), bd_of, if_neg (by decide), if_neg (by decide), bd_of, gdn (by omega) (by omega), xA_n (by omega), d5, show f_X12_putRow 2 (nI kk) 2 μ = some (r, μ1) from w, bd_of, bd_of, gdn (by omega) (by omega), xA_n (by omega), q, hco]
      rcases row_go hn h0 2 (nI kk) (m := 2) (Or.inr rfl) with ⟨σ1, μ1, rc', w1, w2, w3, ⟨w4, w5, w6⟩, ⟨u1, u2, u3, u4, u5, u6⟩, v1, v2, v3, v4, v5⟩ | ⟨σ1, μ1, w1, w2, w3, w4, w5⟩
      · have q1 : gN σ1 1 = gN σ 1 := congrFun u6 1
        have q3 : gN σ1 3 = gN σ 3 := congrFun u6 3
        have erc : rc' = rc := nI_injL (by omega) (by omega) (w4.symm.trans hr1)
        subst erc
        have hC1 : MC σ1 L.length 0 0 0 := by
          obtain ⟨⟨m1, m2, m3, m4⟩, m5, m6, m7, m8⟩ := hC
          exact ⟨⟨by rw [u1]; exact m1, by rw [u1]; exact m2, by rw [u1]; exact m3, by rw [u1]; exact m4⟩, by rw [q1]; exact m5, by rw [q1]; exact m6, by rw [q3]; exact m7, by rw [q3]; exact m8⟩
        obtain ⟨σ2, p1, p2, p3, p4, p5, p6, p7⟩ := push_c hC1 (by omega) (fr 10 (adr tg ct c) 0)
        obtain ⟨μ2, n1, n2, n3, n4, n5, n6, n7, n8, n9⟩ := fl115 (y := gJ μ 1) (c := c) (p0 := pre ct c) (m := ct c) (s := s) hco' (by omega) (by omega) (by omega) (ct c) FU μ1 (Nat.le_refl _) (by omega) (by rw [v1 55 (by omega), hs1, Nat.sub_self, Nat.add_zero]) (by rw [v3 55 (by decide)]; exact hbe)
        rw [Nat.sub_self] at n8 n9
        have hLL := (hs2.mv (σ' := σ2) (μ' := μ2) (Gro.rf n tg ct) (fun j _ => by rw [n6 7 (by decide), v4]) L (fun j hj => by rw [p5 j hj, u5]) (fun j hj => by rw [n9 j (by omega), v4])).1
        refine ⟨σ2, μ2, ?_, ?_, ⟨by omega, by omega⟩, Or.inl ⟨(c, 0) :: L, ⟨⟨(f1.tr ⟨fun j _ => u1 j, fun j _ => u2 j, fun j w => u3 j (by omega) (by omega), fun j _ => u5 j, fun k _ _ => congrFun u6 k⟩).tr p3.fm, (f2.tr ⟨fun j w w' => v1 j (by omega), fun j _ => v2 j, fun j w => v3 j (by omega), fun j _ => v4 j, v5⟩).tr ⟨fun j w w' => n3 j (by omega), fun j _ => n4 j, fun j _ => n5 j, fun j w => n6 j (by omega), n7⟩⟩, ?_, ⟨?_, ?_⟩, p2, ?_, ?_, ⟨s + ct c, n2, ⟨L.length, s, rfl, by show s + ct c = s + (ct c - 0); rw [Nat.sub_zero], ⟨c1, d1, Nat.zero_le _, hct4⟩, p4, fun i hi => ?_, hLL⟩⟩, ⟨rc' + 2, ?_, w6, ?_, ?_⟩, ?_⟩, by omega⟩⟩
        · rw [hsh σ1 w1 q1 q3, p1, bd_of, gl_e p6, gl_e (Nat.le_of_eq p7.symm)]
        · rw [hfo 1 μ1 w2 (v3 56 (by decide)), if_neg (by decide)]
          exact n1
        · exact hH.of (by rw [p3.2.2.1 40]; exact u4) (by rw [p3.2.2.2.1 14 (by decide), u5]) (fun j _ _ => by rw [n3 j (by omega), v1 j (by omega)]) (fun j _ _ => by rw [n5, v3 j (by omega)]) (by rw [n6 6 (by decide), v4]) (by rw [n6 7 (by decide), v4])
        · exact w3.st (fun x _ => by rw [p3.2.2.1 40]) (p3.2.2.1 41) (p3.2.2.1 42) (fun j w => p3.1 j (by omega)) (fun j w => n3 j (by omega)) (n5 57) (n5 58)
        · rw [n3 44 (by omega), v1 44 (by omega)]; exact h0
        · unfold GLB at *
          rw [p3.2.2.1 43, u3 43 (by decide) (by decide), n5 64, v3 64 (by decide)]
          exact hG
        · exact hB.st (by rw [n5, v3 53 (by decide)]) (by rw [n5, v3 54 (by decide)]) (by rw [n3 37 (by decide), v1 37 (by decide)]) (by rw [n3 38 (by decide), v1 38 (by decide)])
        · have hi' : i < ct c := hi
          show gB μ2 10 (s + i) = gB μ2 7 (pre ct c + (ct c - 1 - i))
          rw [n8 i (Nat.zero_le _) hi', n6 7 (by decide)]
        · rw [n3 46 (by omega)]; exact w5
        · show 2 * (L.length + 1) ≤ rc' + 2
          omega
        · show 100 * (1000 - (rc' + 2)) + (10 * (ct c - 0) + 1 + yL ct L) ≤ Y - 50
          omega
        · rw [p3.1 45 (by decide), u1]; exact h45
      · have q1 : gN σ1 1 = gN σ 1 := congrFun w4.2.2.2.2 1
        have q3 : gN σ1 3 = gN σ 3 := congrFun w4.2.2.2.2 3
        obtain ⟨σ2, p1, p2, p3, p4, p5, p6, p7⟩ := push_c (hC.fk w4) (by omega) (fr 10 (adr tg ct c) 0)
        refine ⟨σ2, μ1, ?_, ?_, ⟨by omega, by omega⟩, Or.inr ⟨⟨?_, w3.2⟩, (f1.tr w4.fm).tr p3.fm, f2.tr w5.fm.q, p2.2.1, p2.2.2.2.1⟩⟩
        · rw [hsh σ1 w1 q1 q3, p1, bd_of, gl_e p6, gl_e (Nat.le_of_eq p7.symm)]
        · have e56 : f_X12_force (gJ μ 1) μ = some ((), μ1) := by
            unfold f_X12_force f_X12_force_b25 f_X12_kindOf f_X12_of
            rw [hck, bd_of, if_pos rfl, bd_of, hco', gdn (by omega) (by omega), xA_n (by omega), d2, if_pos rfl, bd_of, if_neg (by decide), bd_of, if_neg (by decide), if_neg (by decide), bd_of, gdn (by omega) (by omega), xA_n (by omega), d5, show f_X12_putRow 2 (nI kk) 2 μ = some (0, μ1) from w2, bd_of, if_pos rfl]
          exact e56
        · exact w3.1.st (fun x _ => by rw [p3.2.2.1 40]) (p3.2.2.1 41) (p3.2.2.1 42) (fun j w => p3.1 j (by omega)) (fun j w => rfl) rfl rfl
    · exact plain 1 3 0 (Or.inl rfl) (hs12 5 (Or.inr (Or.inl rfl)) (by rw [c3, d1]; exact vv_tag 5 _)) (noobj (by rw [d2]; decide))
    · exact plain 1 3 0 (Or.inl rfl) (hs12 6 (Or.inr (Or.inr rfl)) (by rw [c3, d1]; exact vv_tag 6 _)) (noobj (by
        rcases d2 with ⟨w, -⟩ | ⟨w, -⟩ | ⟨w, -⟩ <;> rw [w] <;> decide))
