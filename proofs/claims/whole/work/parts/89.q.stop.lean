/-- the class's numbers lie in their rows -/
def rg (σ : S5) : Prop := 0 ≤ gI σ 8 ∧ gI σ 8 ≤ 6200 ∧ 0 ≤ gI σ 9 ∧ gI σ 9 ≤ 700 ∧ -1 ≤ gI σ 15 ∧ gI σ 15 < 700 ∧ gI σ 4 ≤ 30 ∧ ∀ i : Int32, 0 ≤ i → i < gI σ 4 → xA σ 2 i ≤ 4
/-- the class has stopped at a fault -/
def St (f p n : Int32) (σ : S5) : Prop := gI σ 17 = 0 ∧ ¬ f = 0 ∧ gI σ 11 = f ∧ gI σ 12 = p ∧ gI σ 13 = n ∧ rg σ
/-- it stands at a word at which it will stop -/
def Dm (B : Int32 → Prop) (f p n : Int32) (σ : S5) : Prop := St f p n σ ∨ (f = 1 ∧ gI σ 11 = 0 ∧ ¬ gI σ 17 = 0 ∧ B (gI σ 17) ∧ gI σ 18 = p ∧ gI σ 13 = n ∧ rg σ)
theorem rg_eq {σ τ : S5} (h : rg σ) (h8 : 0 ≤ gI τ 8 ∧ gI τ 8 ≤ 6200) (h9 : 0 ≤ gI τ 9 ∧ gI τ 9 ≤ 700) (h15 : -1 ≤ gI τ 15 ∧ gI τ 15 < 700) (h4 : gI τ 4 = gI σ 4) (h2 : ∀ i, xA τ 2 i = xA σ 2 i) : rg τ := by
  obtain ⟨a1, a2, a3, a4, a5, a6, a7, a8⟩ := h
  refine ⟨h8.1, h8.2, h9.1, h9.2, h15.1, h15.2, by rw [h4]; exact a7, fun i q1 q2 => by rw [h2]; exact a8 i q1 (by rw [← h4]; exact q2)⟩
theorem St_eq {f p n : Int32} {σ τ : S5} (h : St f p n σ) (h17 : gI τ 17 = gI σ 17) (h11 : gI τ 11 = gI σ 11) (h12 : gI τ 12 = gI σ 12) (h13 : gI τ 13 = gI σ 13) (hr : rg σ → rg τ) : St f p n τ := by
  obtain ⟨a1, a2, a3, a4, a5, a6⟩ := h
  exact ⟨by rw [h17]; exact a1, a2, by rw [h11]; exact a3, by rw [h12]; exact a4, by rw [h13]; exact a5, hr a6⟩
theorem Dm_eq {B : Int32 → Prop} {f p n : Int32} {σ τ : S5} (h : Dm B f p n σ) (h17 : gI τ 17 = gI σ 17) (h11 : gI τ 11 = gI σ 11) (h12 : gI τ 12 = gI σ 12) (h13 : gI τ 13 = gI σ 13) (h18 : gI τ 18 = gI σ 18) (hr : rg σ → rg τ) : Dm B f p n τ := by
  rcases h with h | ⟨a1, a2, a3, a4, a5, a6, a7⟩
  · exact Or.inl (St_eq h h17 h11 h12 h13 hr)
  · exact Or.inr ⟨a1, by rw [h11]; exact a2, by rw [h17]; exact a3, by rw [h17]; exact a4, by rw [h18]; exact a5, by rw [h13]; exact a6, hr a7⟩
theorem Dm.rg {B : Int32 → Prop} {f p n : Int32} {σ : S5} (h : Dm B f p n σ) : rg σ := by
  rcases h with h | h
  · exact h.2.2.2.2.2
  · exact h.2.2.2.2.2.2
theorem Dm.weak {B C : Int32 → Prop} {f p n : Int32} {σ : S5} (h : Dm B f p n σ) (hb : ∀ k, B k → C k) : Dm C f p n σ := by
  rcases h with h | ⟨a1, a2, a3, a4, a5⟩
  · exact Or.inl h
  · exact Or.inr ⟨a1, a2, a3, hb _ a4, a5⟩
theorem st_refuse {f p n : Int32} {σ : S5} (k : Int32) (h : St f p n σ) : f_X5_refuse k σ = some ((), σ) := by
  unfold f_X5_refuse
  rw [if_neg (by rw [h.2.2.1]; exact h.2.1)]
theorem st_adv {f p n : Int32} {σ : S5} (h : St f p n σ) : f_X10_advance σ = some ((), σ) := by
  unfold f_X10_advance
  rw [if_pos h.1]
theorem st_expect {f p n : Int32} {σ : S5} (k : Int32) (hk : ¬ k = 0) (h : St f p n σ) : f_X5_expect k σ = some ((), σ) := by
  unfold f_X5_expect
  rw [if_neg (by rw [h.1]; exact fun q => hk q.symm), bd_eta, st_refuse _ h]
theorem st_count {f p n : Int32} {σ : S5} (h : St f p n σ) : f_X5_countPart σ = some ((), σ) := by
  unfold f_X5_countPart
  rw [bd_eta, st_refuse _ h, if_pos h.1, ite_self]
theorem st_stands {f p n : Int32} {σ : S5} (h : St f p n σ) : f_X5_atomStands σ = some (0, σ) := by
  unfold f_X5_atomStands f_X5_atomStands_b93 f_X5_atomStands_b98
  rw [if_neg (by rw [h.1]; decide), c_isAtom, bd_of, h.1]
  simp [st_refuse _ h, bd_of, h.1]
theorem st_atom {f p n : Int32} {σ : S5} (E : S5 → Option (Int32 × S5)) (h : St f p n σ) : f_X5_readAtom E σ = some (0, σ) := by
  unfold f_X5_readAtom
  rw [if_pos h.1]
theorem st_app {f p n : Int32} {σ : S5} (E : S5 → Option (Int32 × S5)) (h : St f p n σ) : f_X5_readApplication E σ = some (0, σ) := by
  unfold f_X5_readApplication f_X5_readApplication_b49
  rw [if_neg (by rw [h.1]; decide), st_stands h, bd_of, if_pos rfl]
theorem pr_exit {σ : S5} (E : S5 → Option (Int32 × S5)) (m : Nat) (v w : Int32) (h : ¬ rkK (gI σ 17) = 3) : f_X5_readProduct_L7 E (m + 1) v w σ = some (v, σ) := by
  show f_X5_readProduct_B7 E _ v w σ = _
  unfold f_X5_readProduct_B7
  have c1 : ¬ gI σ 17 = 42 := fun q => h (by rw [q]; decide)
  have c2 : ¬ gI σ 17 = 47 := fun q => h (by rw [q]; decide)
  have c3 : ¬ gI σ 17 = 37 := fun q => h (by rw [q]; decide)
  rw [if_neg c1, if_neg c2, if_neg c3, ite_self]
theorem su_exit {σ : S5} (E : S5 → Option (Int32 × S5)) (m : Nat) (v w : Int32) (h : ¬ rkK (gI σ 17) = 2) : f_X5_readSum_L7 E (m + 1) v w σ = some (v, σ) := by
  show f_X5_readSum_B7 E _ v w σ = _
  unfold f_X5_readSum_B7
  have c1 : ¬ gI σ 17 = 43 := fun q => h (by rw [q]; decide)
  have c2 : ¬ gI σ 17 = 45 := fun q => h (by rw [q]; decide)
  rw [if_neg c1, if_neg c2, ite_self]
theorem FU_s : ∃ m, FU = m + 1 := ⟨FU - 1, by have := FU_big (n := 5000) (by decide); omega⟩
theorem st_prod {f p n : Int32} {σ : S5} (E : S5 → Option (Int32 × S5)) (h : St f p n σ) : f_X5_readProduct E σ = some (0, σ) := by
  unfold f_X5_readProduct
  obtain ⟨m, hm⟩ := FU_s
  rw [st_app E h, bd_of, hm, pr_exit E m 0 0 (by rw [h.1]; decide)]
theorem st_sum {f p n : Int32} {σ : S5} (E : S5 → Option (Int32 × S5)) (h : St f p n σ) : f_X5_readSum E σ = some (0, σ) := by
  unfold f_X5_readSum
  obtain ⟨m, hm⟩ := FU_s
  rw [st_prod E h, bd_of, hm, su_exit E m 0 0 (by rw [h.1]; decide)]
theorem st_comp {f p n : Int32} {σ : S5} (E : S5 → Option (Int32 × S5)) (h : St f p n σ) : f_X5_readComparison E σ = some (0, σ) := by
  unfold f_X5_readComparison
  rw [st_sum E h, bd_of, h.1]
  simp
theorem st_expr {f p n : Int32} {σ : S5} (E : S5 → Option (Int32 × S5)) (h : St f p n σ) : f_X5_readExpression E σ = some (0, σ) := by
  unfold f_X5_readExpression
  rw [h.1, st_comp E h]
  simp [bd_of]
theorem st_E {f p n : Int32} {σ : S5} (d : Nat) (h : St f p n σ) : f_readE (d + 1) σ = some (0, σ) := st_expr _ h
theorem st_decl {f p n : Int32} {σ : S5} (a : Int32) (h : St f p n σ) : f_X5_declare a σ = some (0, σ) := by
  unfold f_X5_declare
  rw [if_neg (by rw [h.1]; decide), st_refuse _ h, bd_of]
theorem st_parm {f p n : Int32} {σ : S5} (a : Int32) (h : St f p n σ) : f_X5_readParameters a σ = some ((), σ) := by
  unfold f_X5_readParameters
  obtain ⟨m, hm⟩ := FU_s
  rw [hm]
  show f_X5_readParameters_B2 _ _ _ _ = _
  unfold f_X5_readParameters_B2
  rw [if_neg (by decide), if_neg (by rw [h.1]; decide)]
theorem St15 {f p n : Int32} {σ : S5} {a : Int32} (h : St f p n σ) (h0 : -1 ≤ a) (h1 : a < 700) : St f p n (pI σ 15 a) := by
  refine St_eq h rfl rfl rfl rfl (fun r => ?_)
  obtain ⟨a1, a2, a3, a4, a5, a6, a7, a8⟩ := r
  exact ⟨a1, a2, a3, a4, h0, h1, a7, a8⟩
theorem st_within {f p n : Int32} {σ : S5} {E : S5 → Option (Int32 × S5)} (hE : ∀ (f p n : Int32) (σ : S5), St f p n σ → E σ = some (0, σ)) {a : Int32} (h : St f p n σ) (h0 : -1 ≤ a) (h1 : a < 700) : f_X5_readWithin E a σ = some (0, σ) := by
  unfold f_X5_readWithin
  rw [hE f p n _ (St15 h h0 h1), bd_of, pI_same, pI_self σ 15 rfl]
theorem Dm17 {B : Int32 → Prop} {f p n : Int32} {σ : S5} (i v : Int32) (h : Dm B f p n σ) : Dm B f p n (pA σ 17 i v) := Dm_eq h rfl rfl rfl rfl rfl (fun r => r)
theorem Dm23 {B : Int32 → Prop} {f p n : Int32} {σ : S5} (i v : Int32) (h : Dm B f p n σ) : Dm B f p n (pA σ 23 i v) := Dm_eq h rfl rfl rfl rfl rfl (fun r => r)
theorem Dm14 {B : Int32 → Prop} {f p n : Int32} {σ : S5} (v : Int32) (h : Dm B f p n σ) : Dm B f p n (pI σ 14 v) := Dm_eq h rfl rfl rfl rfl rfl (fun r => r)
theorem Dm15 {B : Int32 → Prop} {f p n : Int32} {σ : S5} {v : Int32} (h : Dm B f p n σ) (h0 : -1 ≤ v) (h1 : v < 700) : Dm B f p n (pI σ 15 v) := by
  refine Dm_eq h rfl rfl rfl rfl rfl (fun r => ?_)
  obtain ⟨a1, a2, a3, a4, a5, a6, a7, a8⟩ := r
  exact ⟨a1, a2, a3, a4, h0, h1, a7, a8⟩
theorem St17 {f p n : Int32} {σ : S5} (i v : Int32) (h : St f p n σ) : St f p n (pA σ 17 i v) := St_eq h rfl rfl rfl rfl (fun r => r)
theorem St23 {f p n : Int32} {σ : S5} (i v : Int32) (h : St f p n σ) : St f p n (pA σ 23 i v) := St_eq h rfl rfl rfl rfl (fun r => r)
theorem St14 {f p n : Int32} {σ : S5} (v : Int32) (h : St f p n σ) : St f p n (pI σ 14 v) := St_eq h rfl rfl rfl rfl (fun r => r)
theorem c_add9 {σ : S5} (a b c d : Int32) (h0 : 0 ≤ gI σ 8) (h1 : gI σ 8 < 6200) : f_X9_add a b c d σ = some (gI σ 8, (pI (pA (pA (pA (pA (pA σ 13 (gI σ 8) a) 14 (gI σ 8) b) 15 (gI σ 8) c) 16 (gI σ 8) d) 17 (gI σ 8) (-1)) 8 ((gI σ 8) + 1))) := by
  unfold f_X9_add
  rw [if_pos h1]
  simp only [gd6200 h0 h1]
  rw [show gI σ 8 + 1 - 1 = gI σ 8 by grind]
theorem dm_add9 {B : Int32 → Prop} {f p n : Int32} {σ : S5} (a b c d : Int32) (h : Dm B f p n σ) : Qt (f_X9_add a b c d σ) (fun r τ => Dm B f p n τ ∧ 0 ≤ r ∧ r < 6200) := by
  have hr := h.rg
  by_cases h1 : gI σ 8 < 6200
  · rw [c_add9 a b c d hr.1 h1]
    refine Qt.so ⟨Dm_eq h rfl rfl rfl rfl rfl (fun r => ?_), hr.1, h1⟩
    obtain ⟨a1, a2, a3, a4, a5, a6, a7, a8⟩ := r
    refine ⟨?_, ?_, a3, a4, a5, a6, a7, a8⟩
    · show 0 ≤ gI σ 8 + 1
      grind
    · show gI σ 8 + 1 ≤ 6200
      grind
  · unfold f_X9_add
    rw [if_neg h1]
    exact Qt.so ⟨h, by decide, by decide⟩
theorem dm_leaf {B : Int32 → Prop} {f p n : Int32} {σ : S5} (a b : Int32) (h : Dm B f p n σ) : Qt (f_X9_addLeaf a b σ) (fun r τ => Dm B f p n τ ∧ 0 ≤ r ∧ r < 6200) := by
  unfold f_X9_addLeaf
  rw [bd_eta']
  exact dm_add9 _ _ _ _ h
theorem dm_join {B : Int32 → Prop} {f p n : Int32} {σ : S5} (s l r : Int32) (h : Dm B f p n σ) (h0 : 0 ≤ l) (h1 : l < 6200) : Qt (f_X5_join s l r σ) (fun r τ => Dm B f p n τ ∧ 0 ≤ r ∧ r < 6200) := by
  unfold f_X5_join
  rw [gd6200 h0 h1, bd_eta']
  exact dm_add9 _ _ _ _ (Dm17 _ _ h)
theorem dm_expect {B : Int32 → Prop} {f p n : Int32} {σ : S5} (k : Int32) (hB : ∀ x, B x → ¬ x = k) (hk : ¬ k = 0) (h : Dm B f p n σ) : Qt (f_X5_expect k σ) (fun _ τ => St f p n τ) := by
  rcases h with h | ⟨a1, a2, a3, a4, a5, a6, a7⟩
  · exact Qt.eq (st_expect k hk h) h
  · unfold f_X5_expect f_X5_refuse f_X10_stop
    rw [if_neg (hB _ a4), if_pos a2]
    refine Qt.eq rfl ⟨rfl, by rw [a1]; decide, a1.symm, a5, a6, ?_⟩
    exact a7
theorem st_add6 {f p n : Int32} {σ : S5} {a b c : Int32} (h : St f p n σ) (h0 : -1 ≤ a) (h1 : a < 700) : Qt (f_X6_add a b c σ) (fun r τ => St f p n τ ∧ 0 ≤ r ∧ r < 700) := by
  obtain ⟨b1, b2, b3, b4, b5, a1, a2, a3, a4, a5, a6, a7, a8⟩ := h
  by_cases h9 : gI σ 9 < 700
  · have h9' : 0 ≤ gI σ 9 + 1 ∧ gI σ 9 + 1 ≤ 700 := by grind
    have hm : gI σ 9 + 1 - 1 = gI σ 9 := by grind
    unfold f_X6_add f_X6_add_b59 f_X6_add_b72
    rw [if_pos h9]
    simp only [gd700 a3 h9, gI_pA]
    rw [hm]
    have hq : ∀ v : Int32, Qt (some (gI σ 9, pI (pA (pA (pA (pA σ 20 (gI σ 9) 0) 21 (gI σ 9) a) 24 (gI σ 9) b) 22 (gI σ 9) v) 9 (gI σ 9 + 1))) (fun r τ => St f p n τ ∧ 0 ≤ r ∧ r < 700) := fun v => Qt.so ⟨⟨b1, b2, b3, b4, b5, a1, a2, h9'.1, h9'.2, a5, a6, a7, a8⟩, a3, h9⟩
    by_cases c1 : c = 0
    · rw [if_pos c1]
      by_cases c2 : a = -1
      · rw [if_pos c2]
        exact hq _
      · rw [if_neg c2, gd700 (by grind) h1]
        exact hq _
    · rw [if_neg c1]
      exact hq _
  · unfold f_X6_add
    rw [if_neg h9]
    exact Qt.so ⟨⟨b1, b2, b3, b4, b5, a1, a2, a3, a4, a5, a6, a7, a8⟩, by decide, by decide⟩
/-- what is left of a function that is lifted, behind its parameters -/
theorem st_lift66 {f p n : Int32} {σ : S5} {E : S5 → Option (Int32 × S5)} (hE : ∀ (f p n : Int32) (σ : S5), St f p n σ → E σ = some (0, σ)) (B : Int32 → Prop) {v u : Int32} (h : St f p n σ) (h0 : 0 ≤ v) (h1 : v < 700) (hu : ¬ u = 0) : Qt (f_X5_readLifted_b66 E v u σ) (fun r τ => Dm B f p n τ ∧ 0 ≤ r ∧ r < 6200) := by
  unfold f_X5_readLifted_b66
  rw [st_expect u hu h, bd_of, st_within hE h (by grind) h1, bd_of, gd700 h0 h1, bd_eta']
  exact dm_leaf _ _ (Or.inl (St23 _ _ h))
theorem st_lift49 {f p n : Int32} {σ : S5} {E : S5 → Option (Int32 × S5)} (hE : ∀ (f p n : Int32) (σ : S5), St f p n σ → E σ = some (0, σ)) (B : Int32 → Prop) {v w : Int32} (h : St f p n σ) (h0 : 0 ≤ v) (h1 : v < 700) : Qt (f_X5_readLifted_b49 E w v σ) (fun r τ => Dm B f p n τ ∧ 0 ≤ r ∧ r < 6200) := by
  unfold f_X5_readLifted_b49
  rw [st_parm v h, bd_of]
  split
  · exact st_lift66 hE B h h0 h1 (by decide)
  · exact st_lift66 hE B h h0 h1 (by decide)
theorem st_lift {f p n : Int32} {σ : S5} {E : S5 → Option (Int32 × S5)} (hE : ∀ (f p n : Int32) (σ : S5), St f p n σ → E σ = some (0, σ)) (B : Int32 → Prop) (w : Int32) (h : St f p n σ) : Qt (f_X5_readLifted E w σ) (fun r τ => Dm B f p n τ ∧ 0 ≤ r ∧ r < 6200) := by
  unfold f_X5_readLifted f_X5_readLifted_b17
  have hr := h.2.2.2.2.2
  rw [if_neg (by rw [h.1]; decide)]
  refine Qt.bd (st_add6 h hr.2.2.2.2.1 hr.2.2.2.2.2.1) (fun r τ hp => ?_)
  rw [if_pos rfl]
  exact st_lift49 hE B hp.1 hp.2.1 hp.2.2
/-- what is left of a let, behind its bindings -/
theorem dm_let114 {f p n : Int32} {σ : S5} {E : S5 → Option (Int32 × S5)} (B C : Int32 → Prop) (hB : ∀ x, B x → ¬ x = 8) (hE : ∀ (f p n : Int32) (σ : S5), St f p n σ → E σ = some (0, σ)) {v1 v2 v3 : Int32} (h : Dm B f p n σ) (h0 : -1 ≤ v1) (h1 : v1 < 700) : Qt (f_X5_readLet_b114 E v1 v2 v3 σ) (fun r τ => Dm C f p n τ ∧ 0 ≤ r ∧ r < 6200) := by
  unfold f_X5_readLet_b114
  refine Qt.bd (dm_expect 8 hB (by decide) h) (fun r τ hp => ?_)
  rw [hE f p n τ hp, bd_of, gd6200 (by decide) (by decide), bd_eta']
  exact dm_add9 _ _ _ _ (Dm14 _ (Dm15 (Dm17 _ _ (Or.inl hp)) h0 h1))
theorem dm_letL {f p n : Int32} {σ : S5} {E : S5 → Option (Int32 × S5)} (B C : Int32 → Prop) (hB : ∀ x, B x → ¬ x = 8 ∧ ¬ x = 44) (hE : ∀ (f p n : Int32) (σ : S5), St f p n σ → E σ = some (0, σ)) {m : Nat} {v1 v2 v3 v4 v5 : Int32} (h : Dm B f p n σ) (h0 : -1 ≤ v1) (h1 : v1 < 700) : Qt (f_X5_readLet_L61 E (m + 1) v1 v2 v3 v4 v5 σ) (fun r τ => Dm C f p n τ ∧ 0 ≤ r ∧ r < 6200) := by
  show Qt (f_X5_readLet_B61 E _ v1 v2 v3 v4 v5 σ) _
  unfold f_X5_readLet_B61
  have hk : ¬ gI σ 17 = 44 := by
    rcases h with h | h
    · rw [h.1]; decide
    · exact (hB _ h.2.2.2.1).2
  rw [if_neg hk, ite_self]
  exact dm_let114 B C (fun x hx => (hB x hx).1) hE h h0 h1
/-- what is left of a case, behind its alternatives -/
theorem dm_case107 {f p n : Int32} {σ : S5} {E : S5 → Option (Int32 × S5)} (B C : Int32 → Prop) (hB : ∀ x, B x → ¬ x = 125) {v1 : Int32} (h : Dm B f p n σ) : Qt (f_X5_readCase_b107 E v1 σ) (fun r τ => Dm C f p n τ ∧ 0 ≤ r ∧ r < 6200) := by
  unfold f_X5_readCase_b107
  refine Qt.bd (dm_expect 125 hB (by decide) h) (fun r τ hp => ?_)
  rw [bd_eta']
  exact dm_add9 _ _ _ _ (Dm14 _ (Or.inl hp))
theorem dm_caseL {f p n : Int32} {σ : S5} {E : S5 → Option (Int32 × S5)} (B C : Int32 → Prop) (hB : ∀ x, B x → ¬ x = 125 ∧ ¬ x = 59) {m : Nat} {v1 v2 v3 : Int32} (h : Dm B f p n σ) : Qt (f_X5_readCase_L55 E (m + 1) v1 v2 v3 σ) (fun r τ => Dm C f p n τ ∧ 0 ≤ r ∧ r < 6200) := by
  show Qt (f_X5_readCase_B55 E _ v1 v2 v3 σ) _
  unfold f_X5_readCase_B55
  have hk : ¬ gI σ 17 = 59 := by
    rcases h with h | h
    · rw [h.1]; decide
    · exact (hB _ h.2.2.2.1).2
  rw [if_neg hk, ite_self]
  exact dm_case107 B C (fun x hx => (hB x hx).1) h
/-- what is left of an alternative -/
theorem dm_altAdd {B : Int32 → Prop} {f p n : Int32} {σ : S5} {v2 v3 v4 v5 r : Int32} (E : S5 → Option (Int32 × S5)) (h : Dm B f p n σ) : Qt (if v2 = 4 then
    (bd (f_X9_add (11) (v3) (v5) (r) σ) (fun r194 τ194 =>
    some (r194, τ194)))
  else
    (if v2 = 5 then
      (f_X5_readAlternative_b214 E (v4) (r) (12) σ)
    else
      (f_X5_readAlternative_b214 E (v4) (r) (13) σ))) (fun r τ => Dm B f p n τ ∧ 0 ≤ r ∧ r < 6200) := by
  unfold f_X5_readAlternative_b214
  simp only [bd_eta']
  split
  · exact dm_add9 _ _ _ _ h
  split
  · exact dm_add9 _ _ _ _ h
  · exact dm_add9 _ _ _ _ h
theorem st_alt163 {f p n : Int32} {σ : S5} {E : S5 → Option (Int32 × S5)} (hE : ∀ (f p n : Int32) (σ : S5), St f p n σ → E σ = some (0, σ)) (B : Int32 → Prop) {v2 v3 v4 v5 : Int32} (h : St f p n σ) (h0 : -1 ≤ v5) (h1 : v5 < 700) : Qt (f_X5_readAlternative_b163 E v2 v3 v4 v5 σ) (fun r τ => Dm B f p n τ ∧ 0 ≤ r ∧ r < 6200) := by
  unfold f_X5_readAlternative_b163
  rw [st_expect 128 (by decide) h, bd_of, st_within hE h h0 h1, bd_of]
  exact dm_altAdd E (Or.inl h)
theorem st_alt136 {f p n : Int32} {σ : S5} {E : S5 → Option (Int32 × S5)} (hE : ∀ (f p n : Int32) (σ : S5), St f p n σ → E σ = some (0, σ)) (B : Int32 → Prop) {v2 v3 v4 v5 : Int32} (h : St f p n σ) (h0 : -1 ≤ v5) (h1 : v5 < 700) (h3 : 0 ≤ v3) (h4 : v3 < gI σ 4) : ∀ (d : Nat) (v6 : Int32) (m : Nat), 0 ≤ v6 → (xA σ 2 v3).toNatClampNeg ≤ v6.toNatClampNeg + d → d < m → Qt (f_X5_readAlternative_L136 E m v2 v3 v4 v5 v6 σ) (fun r τ => Dm B f p n τ ∧ 0 ≤ r ∧ r < 6200) := by
  have hr := h.2.2.2.2.2
  have h30 : v3 < 30 := by have := hr.2.2.2.2.2.2.1; grind
  have hx := hr.2.2.2.2.2.2.2 v3 h3 h4
  intro d
  induction d with
  | zero =>
    intro v6 m h6 hd hm
    obtain ⟨m, rfl⟩ : ∃ m', m = m' + 1 := ⟨m - 1, by omega⟩
    show Qt (f_X5_readAlternative_B136 E _ v2 v3 v4 v5 v6 σ) _
    unfold f_X5_readAlternative_B136
    have hle : xA σ 2 v3 ≤ v6 := by
      apply Classical.byContradiction
      intro hc
      have := i_lt (not_neg h6) (nle_lt hc)
      omega
    rw [gd30 h3 h30, if_pos hle]
    exact st_alt163 hE B h h0 h1
  | succ d ih =>
    intro v6 m h6 hd hm
    obtain ⟨m, rfl⟩ : ∃ m', m = m' + 1 := ⟨m - 1, by omega⟩
    show Qt (f_X5_readAlternative_B136 E _ v2 v3 v4 v5 v6 σ) _
    unfold f_X5_readAlternative_B136
    rw [gd30 h3 h30]
    by_cases hle : xA σ 2 v3 ≤ v6
    · rw [if_pos hle]
      exact st_alt163 hE B h h0 h1
    · rw [if_neg hle, st_decl v5 h, bd_of]
      have h7 : 0 ≤ v6 + 1 := by grind
      have h8 : v6 < v6 + 1 := by grind
      have := i_lt (not_neg h6) h8
      exact ih (v6 + 1) m h7 (by omega) (by omega)
theorem st_alt85 {f p n : Int32} {σ : S5} {E : S5 → Option (Int32 × S5)} (hE : ∀ (f p n : Int32) (σ : S5), St f p n σ → E σ = some (0, σ)) (B : Int32 → Prop) {v2 v3 : Int32} (h : St f p n σ) (h3 : v3 = -1 ∨ (0 ≤ v3 ∧ v3 < gI σ 4)) : Qt (f_X5_readAlternative_b85 E v2 v3 σ) (fun r τ => Dm B f p n τ ∧ 0 ≤ r ∧ r < 6200) := by
  unfold f_X5_readAlternative_b85
  have hr := h.2.2.2.2.2
  rw [st_adv h, bd_of]
  by_cases c : v3 = -1
  · rw [if_pos c]
    exact st_alt163 hE B h hr.2.2.2.2.1 hr.2.2.2.2.2.1
  · rw [if_neg c]
    have h4 : 0 ≤ v3 ∧ v3 < gI σ 4 := by rcases h3 with h3 | h3; exact absurd h3 c; exact h3
    have he : Qt (f_X6_add (gI σ 15) (gI σ 18) 0 σ) (fun r τ => (St f p n τ ∧ 0 ≤ r ∧ r < 700) ∧ gI τ 4 = gI σ 4) := by
      have hk := st_add6 (a := gI σ 15) (b := gI σ 18) (c := 0) h hr.2.2.2.2.1 hr.2.2.2.2.2.1
      obtain ⟨r, τ, e, hp⟩ := hk
      refine ⟨r, τ, e, hp, ?_⟩
      unfold f_X6_add f_X6_add_b59 f_X6_add_b72 gd at e
      repeat' split at e
      all_goals first | (cases e; done) | (simp only [Option.some.injEq, Prod.mk.injEq] at e; obtain ⟨_, e⟩ := e; subst e; rfl)
    refine Qt.bd he (fun r τ hp => ?_)
    have hx := hp.1.1.2.2.2.2.2.2.2.2.2.2.2.2 v3 h4.1 (by rw [hp.2]; exact h4.2)
    have h5 : (xA τ 2 v3).toNatClampNeg ≤ 4 := i_le hx
    exact st_alt136 hE B hp.1.1 (by have := hp.1.2.1; grind) hp.1.2.2 h4.1 (by rw [hp.2]; exact h4.2) 5 0 FU (by decide) (by omega) (FU_big (by omega))
theorem st_alt {f p n : Int32} {σ : S5} {E : S5 → Option (Int32 × S5)} (hE : ∀ (f p n : Int32) (σ : S5), St f p n σ → E σ = some (0, σ)) (B : Int32 → Prop) (w : Int32) (h : St f p n σ) : Qt (f_X5_readAlternative E w σ) (fun r τ => Dm B f p n τ ∧ 0 ≤ r ∧ r < 6200) := by
  unfold f_X5_readAlternative f_X5_readAlternative_b31
  rw [h.1]
  simp only [show ¬ (0 : Int32) = 4 by decide, show ¬ (0 : Int32) = 5 by decide, show ¬ (0 : Int32) = 95 by decide, if_false]
  rw [st_refuse _ h, bd_of]
  exact st_alt85 hE B h (Or.inl rfl)
