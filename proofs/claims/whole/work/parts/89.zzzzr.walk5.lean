/-- the walk goes through a subtree -/
def GoT (σ τr μ0 : S5) (k F : Nat) (S : Int32) (D : Int32 → Nat) (h s s' u u' a b n : Int32) : Prop := ∀ (v m top d B : Nat) (τ μ : S5), WS σ τr μ0 k F S D h s u.toNatClampNeg a m top d B τ μ → v + (b.toNatClampNeg - a.toNatClampNeg) ≤ 3200 → m ≤ D h + 1 → ∃ (j B' : Nat) (τ' μ' : S5), j + 1 ≤ 2 * (b.toNatClampNeg - a.toNatClampNeg) ∧ (∀ rec q v1, WB rec (q + j) v1 v n μ = f_X12_find_L55 rec q v1 (nI v) μ') ∧ (∀ q, f_X2_findFree_L2 (q + (u'.toNatClampNeg - u.toNatClampNeg)) (nI u.toNatClampNeg) τ = f_X2_findFree_L2 q (nI u'.toNatClampNeg) τ') ∧ WS σ τr μ0 k F S D h s' u'.toNatClampNeg b m top d B' τ' μ' ∧ KW v μ μ'
/-- both have taken a use -/
theorem ws_use {σ τr μ0 : S5} {k F : Nat} {S : Int32} {D : Int32 → Nat} {h s : Int32} {u : Nat} {a : Int32} {m top d B : Nat} {τ μ τ' μ' : S5} (q : WS σ τr μ0 k F S D h s u a m top d B τ μ) (h0 : 0 ≤ a) (h1 : a < 3200) (h8 : xA μ0 2 a = 8) (h10 : xA μ0 10 a = 0) (r1 : FRs σ τ' μ' (B + 700) F) (r2 : FrF τr τ') (r3 : FrU a μ μ') (r4 : FlU σ k (u + 1) (gI μ' 7) (gI μ' 8)) (r5 : Sd σ μ' k u a) : WS σ τr μ0 k F S D h s (u + 1) (a + 1) m top d (B + 700) τ' μ' := by
  obtain ⟨q1, q2, ⟨q3, q4, q5⟩, ⟨q6, q7, q8⟩, ⟨q9, q10⟩, ⟨q11, q12, q13⟩, q14, ⟨q15, q16, q17⟩, ⟨q18, q19⟩⟩ := q
  have xa : ∀ (g : Nat) (i : Int32), ¬ g = 7 → ¬ g = 8 → ¬ g = 20 → ¬ g = 21 → xA μ' g i = xA μ g i := fun g i a b c d => by show gA μ' g _ = gA μ g _; rw [r3.2.2.1 g a b c d]
  have xb : ∀ (g : Nat) (i : Int32), xB μ' g i = xB μ g i := fun g i => by show gB μ' g _ = gB μ g _; rw [r3.2.2.2.1 g]
  have ef : fM μ0 a.toNatClampNeg = 0 := by unfold fM; rw [xA_tn, xA_tn, h8, h10, if_neg (by decide)]
  have ev : vM μ0 a.toNatClampNeg = 0 := by unfold vM; rw [xA_tn, xA_tn, xA_tn, h8, h10, if_neg (by decide)]; rfl
  have e8 : w8 μ0 a.toNatClampNeg = 1 := by unfold w8; rw [xA_tn, if_pos h8]
  obtain ⟨a1, a2, a3, a4, a5, a6⟩ := q1
  refine ⟨⟨fun g hg => (r3.1 g (by omega) (by omega)).trans (a1 g hg), fun g => (r3.2.1 g).trans (a2 g), fun g hg => (r3.2.2.1 g (by omega) (by omega) (by omega) (by omega)).trans (a3 g hg), fun g hg => (r3.2.2.2.1 g).trans (a4 g hg), r3.2.2.2.2.1.trans a5, fun i hi => ?_⟩, (r3.1 23 (by decide) (by decide)).trans q2, ⟨(r3.1 24 (by decide) (by decide)).trans q3, q4.st m h top (fun p _ => ⟨xb _ _, xa 26 _ (by decide) (by decide) (by decide) (by decide)⟩), q5⟩, ⟨(r3.1 25 (by decide) (by decide)).trans q6, q7.st d _ d (fun p _ => xa 27 _ (by decide) (by decide) (by decide) (by decide)), q8⟩, ⟨fun x i j' x0 x1 xj x5 ij => by rw [xa 22 _ (by decide) (by decide) (by decide) (by decide), xa 23 _ (by decide) (by decide) (by decide) (by decide)]; exact q9 x i j' x0 x1 xj x5 ij, fun o f o0 o1 o2 o3 => by rw [xa 24 _ (by decide) (by decide) (by decide) (by decide)]; exact q10 o f o0 o1 o2 o3⟩, ⟨r1, r2, by omega⟩, r4, ⟨?_, ?_, ?_⟩, ⟨fun n n0 n1 n2 => ?_, fun n n0 n1 n2 => ?_⟩⟩
  · have hne : ¬ i.toNatClampNeg = a.toNatClampNeg := fun w => hi (by
      have : xA μ0 2 i = xA μ0 2 a := by show gA μ0 2 i.toNatClampNeg = gA μ0 2 a.toNatClampNeg; rw [w]
      rw [this]; exact h8)
    rw [(r3.2.2.2.2.2 i hne).1, (r3.2.2.2.2.2 i hne).2]
    exact a6 i hi
  · rw [prI_s _ h0 (by grind), ef]; exact q15
  · rw [prI_s _ h0 (by grind), ev]; exact q16
  · rw [prI_s _ h0 (by grind), e8]; omega
  · by_cases hn : n = a
    · subst hn
      rw [← q17]
      exact r5
    · have hne : ¬ n.toNatClampNeg = a.toNatClampNeg := fun w => hn ((i_inj n0 h0).mp w)
      exact (q18 n n0 (by grind) n2).st (r3.2.2.2.2.2 n hne).1 (r3.2.2.2.2.2 n hne).2
  · rw [xa 25 _ (by decide) (by decide) (by decide) (by decide)]
    by_cases hn : n = a
    · subst hn
      rw [h8] at n2
      exact absurd n2 (by decide)
    · exact q19 n n0 (by grind) n2
/-- a leaf that is no name -/
theorem gt_leaf {σ τr μ0 : S5} {k F : Nat} {S : Int32} {D : Int32 → Nat} {h s u n : Int32} (hn0 : 0 ≤ n) (hn1 : n < 3200) (h19 : xA μ0 19 n = -1) (h10 : xA μ0 10 n = 0) (hk : xA μ0 2 n = 9 ∨ xA μ0 2 n = 10 ∨ xA μ0 2 n = 11) : GoT σ τr μ0 k F S D h s s u u n (n + 1) n := by
  intro v m top d B τ μ q hv hm
  have en : (n + 1).toNatClampNeg = n.toNatClampNeg + 1 := tn_s hn0 (by grind)
  have hv2 : v < 3200 := by omega
  have f0 := mBa_fr n μ v n (-1)
  have f1 : FrW n μ (pA (mBa μ v n (-1)) 25 n (gI (mBa μ v n (-1)) 23)) := f0.F (by grind)
  have f2 : FrW n μ (pA (pA (mBa μ v n (-1)) 25 n (gI (mBa μ v n (-1)) 23)) 29 (nI v) (0 + 1)) := f1.A (by omega)
  have q0 := q.w f0
  have q2 := q.w f1
  have q3 := q.w f2
  have hk2 : ¬ xA μ0 2 n = 0 ∧ ¬ xA μ0 2 n = 3 ∧ ¬ xA μ0 2 n = 6 ∧ ¬ xA μ0 2 n = 7 ∧ ¬ xA μ0 2 n = 8 ∧ ¬ xA μ0 2 n = 1 ∧ ¬ xA μ0 2 n = 2 ∧ ¬ xA μ0 2 n = 4 ∧ ¬ xA μ0 2 n = 12 := by
    rcases hk with w | w | w <;> rw [w] <;> decide
  have hat : At (pA (mBa μ v n (-1)) 25 n (gI (mBa μ v n (-1)) 23)) v n 0 (-1) := by
    have := mBa_at μ v n (-1)
    refine ⟨?_, ?_, ?_⟩
    · rw [xA_pA, if_neg (fun w => absurd w.1 (by decide))]; exact this.1
    · rw [xA_pA, if_neg (fun w => absurd w.1 (by decide))]; exact this.2.1
    · rw [xA_pA, if_neg (fun w => absurd w.1 (by decide))]; exact this.2.2
  have hnx := nx_no (x := -1) hv2 hn0 hn1 hat (by rw [q2.1.x 2 _ (by omega)]; exact ⟨hk2.1, hk2.2.1, hk2.2.2.1, hk2.2.2.2.1⟩) (chA_leaf hn0 hn1 (by rw [q2.1.x 2 _ (by omega)]; exact Or.inr hk))
  refine ⟨1, B, τ, _, by omega, fun rec w v1 => ?_, fun w => by rw [Nat.sub_self]; rfl, q3.z hn0 hn1 (by unfold fM; rw [xA_tn, xA_tn, if_neg (by grind)]) (by unfold vM; rw [xA_tn, xA_tn, xA_tn, if_neg hk2.1, h10]; rfl) hk2.2.2.2.2.1 (fun w => by grind), ?_⟩
  · unfold WB
    rw [ba_no hv2 hn0 hn1 (by rw [q.1.x 2 _ (by omega)]; exact ⟨hk2.1, hk2.2.1, hk2.2.2.1, hk2.2.2.2.1⟩), bd_of, ci_plain hn0 hn1 (by rw [q0.1.x 19 _ (by omega), h19]; decide) (by rw [q0.1.x 2 _ (by omega)]; exact hk2.1) (by rw [q0.1.x 2 _ (by omega)]; exact hk2.2.2.2.2.1) (by rw [q0.1.x 10 _ (by omega)]; exact h10), bd_of]
    exact st_out hv2 hnx (by decide) (n := n) (by rw [xA_pA, if_neg (fun w => absurd w.1 (by decide))]; exact hat.1) (go_plain hn0 hn1 (by rw [q3.1.x 19 _ (by omega), h19]; decide) (by rw [q3.1.x 2 _ (by omega)]; exact hk2.1) (by rw [q3.1.x 10 _ (by omega)]; exact h10)) rec w v1
  · refine KW.A ?_ hv2
    refine (mBa_kw μ v n (-1) hv2).tr (KW.of (fun g i hg => ?_))
    rw [xA_pA, if_neg (by omega)]
