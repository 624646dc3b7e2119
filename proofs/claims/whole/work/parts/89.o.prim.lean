theorem i_ne {a b : Int32} (h0 : 0 ≤ a) (h1 : a < b) : ¬ a.toNatClampNeg = b.toNatClampNeg := by
  have := i_lt (not_neg h0) h1
  omega
theorem i_ne' {a b : Int32} (h0 : 0 ≤ a) (h1 : a < b) : ¬ b.toNatClampNeg = a.toNatClampNeg := by
  have := i_lt (not_neg h0) h1
  omega
theorem i_inj {a b : Int32} (h0 : 0 ≤ a) (h1 : 0 ≤ b) : a.toNatClampNeg = b.toNatClampNeg ↔ a = b := by
  constructor
  · intro h
    rw [nI_tn h0, nI_tn h1, h]
  · intro h; rw [h]
theorem xA_pA (σ : S5) (k j : Nat) (i v x : Int32) : xA (pA σ k i v) j x = if j = k ∧ x.toNatClampNeg = i.toNatClampNeg then v else xA σ j x := gA_pA σ k j i v x.toNatClampNeg
theorem xA_pI (σ : S5) (k j : Nat) (v x : Int32) : xA (pI σ k v) j x = xA σ j x := rfl
theorem xA_pJ (σ : S5) (k j : Nat) (v : Int64) (x : Int32) : xA (pJ σ k v) j x = xA σ j x := rfl
theorem xA_pB (σ : S5) (k j : Nat) (i : Int32) (v : Int64) (x : Int32) : xA (pB σ k i v) j x = xA σ j x := rfl
theorem xB_pB (σ : S5) (k j : Nat) (i : Int32) (v : Int64) (x : Int32) : xB (pB σ k i v) j x = if j = k ∧ x.toNatClampNeg = i.toNatClampNeg then v else xB σ j x := gB_pB σ k j i v x.toNatClampNeg
theorem xB_pI (σ : S5) (k j : Nat) (v x : Int32) : xB (pI σ k v) j x = xB σ j x := rfl
theorem xB_pJ (σ : S5) (k j : Nat) (v : Int64) (x : Int32) : xB (pJ σ k v) j x = xB σ j x := rfl
theorem xB_pA (σ : S5) (k j : Nat) (i v x : Int32) : xB (pA σ k i v) j x = xB σ j x := rfl
theorem gd_of {β : Type} {a N : Int32} {n : Nat} {x : Option β} (h0 : 0 ≤ a) (h1 : a < N) (hN : N.toNatClampNeg = n) : gd a n x = x := gd_in (not_neg h0) (by rw [← hN]; exact i_lt (not_neg h0) h1)
theorem gd30 {β : Type} {a : Int32} {x : Option β} (h0 : 0 ≤ a) (h1 : a < 30) : gd a 30 x = x := gd_of h0 h1 rfl
theorem gd600 {β : Type} {a : Int32} {x : Option β} (h0 : 0 ≤ a) (h1 : a < 600) : gd a 600 x = x := gd_of h0 h1 rfl
theorem gd630 {β : Type} {a : Int32} {x : Option β} (h0 : 0 ≤ a) (h1 : a < 630) : gd a 630 x = x := gd_of h0 h1 rfl
theorem gd640 {β : Type} {a : Int32} {x : Option β} (h0 : 0 ≤ a) (h1 : a < 640) : gd a 640 x = x := gd_of h0 h1 rfl
theorem gd700 {β : Type} {a : Int32} {x : Option β} (h0 : 0 ≤ a) (h1 : a < 700) : gd a 700 x = x := gd_of h0 h1 rfl
theorem gd3200 {β : Type} {a : Int32} {x : Option β} (h0 : 0 ≤ a) (h1 : a < 3200) : gd a 3200 x = x := gd_of h0 h1 rfl
theorem gd3500 {β : Type} {a : Int32} {x : Option β} (h0 : 0 ≤ a) (h1 : a < 3500) : gd a 3500 x = x := gd_of h0 h1 rfl
theorem gd6200 {β : Type} {a : Int32} {x : Option β} (h0 : 0 ≤ a) (h1 : a < 6200) : gd a 6200 x = x := gd_of h0 h1 rfl
/-- it ends, and so -/
def Qt {α : Type} (x : Option (α × S5)) (P : α → S5 → Prop) : Prop := ∃ (r : α) (τ : S5), x = some (r, τ) ∧ P r τ
theorem Qt.bd {α β : Type} {x : Option (α × S5)} {f : α → S5 → Option (β × S5)} {P : α → S5 → Prop} {P' : β → S5 → Prop} (h : Qt x P) (hf : ∀ r τ, P r τ → Qt (f r τ) P') : Qt (bd x f) P' := by
  obtain ⟨r, τ, rfl, hp⟩ := h
  exact hf r τ hp
theorem Qt.mono {α : Type} {x : Option (α × S5)} {P P' : α → S5 → Prop} (h : Qt x P) (hf : ∀ r τ, P r τ → P' r τ) : Qt x P' := by
  obtain ⟨r, τ, e, hp⟩ := h
  exact ⟨r, τ, e, hf r τ hp⟩
theorem Qt.so {α : Type} {r : α} {τ : S5} {P : α → S5 → Prop} (h : P r τ) : Qt (some (r, τ)) P := ⟨r, τ, rfl, h⟩
theorem Qt.eq {α : Type} {x : Option (α × S5)} {r : α} {τ : S5} {P : α → S5 → Prop} (e : x = some (r, τ)) (h : P r τ) : Qt x P := ⟨r, τ, e, h⟩
theorem bd_eta (x : Option (Unit × S5)) : bd x (fun _ τ => some ((), τ)) = x := by
  cases x with
  | none => rfl
  | some q => rfl
theorem bd_eta' (x : Option (Int32 × S5)) : bd x (fun r τ => some (r, τ)) = x := by
  cases x with
  | none => rfl
  | some q => rfl
/-- a new node of the reference -/
def ndM (μ : S5) (k : Int32) : S5 := (pA (pA (pB (pA (pA (pA (pA (pA (pA (pA (pI μ 9 ((gI μ 9) + 1)) 2 (gI μ 9) k) 3 (gI μ 9) (-1)) 4 (gI μ 9) (-1)) 5 (gI μ 9) (-1)) 6 (gI μ 9) (gI μ 5)) 7 (gI μ 9) 0) 8 (gI μ 9) 0) 0 (gI μ 9) 0) 9 (gI μ 9) (gI μ 10)) 10 (gI μ 9) 0)
theorem m_node {μ : S5} (k : Int32) (h0 : 0 ≤ gI μ 9) (h1 : gI μ 9 < 3200) : f_X12_node k μ = some (gI μ 9, ndM μ k) := by
  unfold f_X12_node
  simp only [gd3200 h0 h1]
  rfl
theorem m_fail0 {μ : S5} (k p : Int32) (h : gI μ 7 = 0) : f_X12_fail k p μ = some ((), pI (pI μ 7 k) 8 p) := by
  unfold f_X12_fail
  rw [if_pos h]
theorem m_failF {μ : S5} (k p : Int32) (h : ¬ gI μ 7 = 0) : f_X12_fail k p μ = some ((), μ) := by
  unfold f_X12_fail
  rw [if_neg h]
theorem m_wrong0 {μ : S5} (h : gI μ 7 = 0) : f_X12_wrong μ = some ((), pI (pI μ 7 1) 8 (gI μ 5)) := by
  unfold f_X12_wrong
  rw [bd_eta, m_fail0 _ _ h]
theorem m_wrongF {μ : S5} (h : ¬ gI μ 7 = 0) : f_X12_wrong μ = some ((), μ) := by
  unfold f_X12_wrong
  rw [bd_eta, m_failF _ _ h]
theorem m_part0 {μ : S5} (h : gI μ 7 = 0) (hp : ¬ gI μ 11 = 600) : f_X12_part μ = some (1, pI (pI μ 11 (gI μ 11 + 1)) 12 (gI μ 12 + 1)) := by
  unfold f_X12_part f_X12_part_b19 f_X12_part_b46
  rw [if_neg hp, if_pos h, if_pos (show gI (pI (pI μ 11 (gI μ 11 + 1)) 12 (gI μ 12 + 1)) 7 = 0 from h)]
theorem m_part1 {μ : S5} (h : gI μ 7 = 0) (hp : gI μ 11 = 600) : f_X12_part μ = some (0, pI (pI μ 7 4) 8 (gI μ 5)) := by
  unfold f_X12_part f_X12_part_b19 f_X12_part_b46
  rw [if_pos hp, m_fail0 _ _ h, bd_of, if_neg (show ¬ gI (pI (pI μ 7 4) 8 (gI μ 5)) 7 = 0 from (by decide : ¬ (4 : Int32) = 0)), if_neg (show ¬ gI (pI (pI μ 7 4) 8 (gI μ 5)) 7 = 0 from (by decide : ¬ (4 : Int32) = 0))]
theorem m_acc1 {μ : S5} (h : gI μ 7 = 0) : f_X12_accept 1 μ = f_X12_next μ := by
  unfold f_X12_accept
  rw [if_neg (by decide), if_pos h, bd_eta]
theorem m_acc0 {μ : S5} (h : gI μ 7 = 0) : f_X12_accept 0 μ = some ((), pI (pI μ 7 1) 8 (gI μ 5)) := by
  unfold f_X12_accept f_X12_accept_b18
  rw [if_pos rfl, bd_eta, m_wrong0 h]
theorem m_accF {μ : S5} (a : Int32) (h : ¬ gI μ 7 = 0) : f_X12_accept a μ = some ((), μ) := by
  unfold f_X12_accept f_X12_accept_b18
  rw [if_neg h, bd_eta, m_wrongF h, ite_self]
theorem m_isS (a : Int32) (μ : S5) : f_X12_isSign a μ = some (if gI μ 4 = 100 + a then 1 else 0, μ) := by
  unfold f_X12_isSign
  rw [ite_some]
theorem m_pile {μ : S5} (k n r : Int32) (h0 : 0 ≤ gI μ 16) (h1 : gI μ 16 < 3200) : f_X12_pile k n r μ = some ((), (pI (pA (pA (pA (pA μ 14 (gI μ 16) k) 15 (gI μ 16) n) 16 (gI μ 16) r) 17 (gI μ 16) 0) 16 ((gI μ 16) + 1))) := by
  unfold f_X12_pile
  simp only [gd3200 h0 h1]
theorem m_oper {μ : S5} (n : Int32) (h0 : 0 ≤ gI μ 17) (h1 : gI μ 17 < 3200) : f_X12_operand n μ = some ((), pI (pA μ 18 (gI μ 17) n) 17 (gI μ 17 + 1)) := by
  unfold f_X12_operand
  simp only [gd3200 h0 h1]
theorem m_taken {μ : S5} (h0 : 0 ≤ gI μ 17 - 1) (h1 : gI μ 17 - 1 < 3200) : f_X12_taken μ = some (xA μ 18 (gI μ 17 - 1), pI μ 17 (gI μ 17 - 1)) := by
  unfold f_X12_taken
  simp only [gd3200 h0 h1]
theorem m_app0 {μ : S5} {n : Int32} (v : Int32) (h0 : 0 ≤ n) (h1 : n < 3200) (h : xA μ 3 n < 0) : f_X12_append n v μ = some ((), pA (pA μ 3 n v) 4 n v) := by
  unfold f_X12_append f_X12_append_b31
  simp only [gd3200 h0 h1]
  rw [if_neg (by grind)]
theorem m_app1 {μ : S5} {n : Int32} (v : Int32) (h0 : 0 ≤ n) (h1 : n < 3200) (h : ¬ xA μ 3 n < 0) (h2 : 0 ≤ xA μ 4 n) (h3 : xA μ 4 n < 3200) : f_X12_append n v μ = some ((), pA (pA μ 5 (xA μ 4 n) v) 4 n v) := by
  unfold f_X12_append f_X12_append_b31
  simp only [gd3200 h0 h1, gd3200 h2 h3]
  rw [if_pos (by grind)]
/-- the rank of the reference's word -/
def rkM (a : Int32) : Int32 := if a = 21 then 1 else if a = 22 then 1 else if a = 137 then 3 else if a = 142 then 3 else if a = 143 then 2 else if a = 145 then 2 else if a = 147 then 3 else if a = 160 then 1 else 0
theorem m_rank (a : Int32) (μ : S5) : f_X12_rank a μ = some (rkM a, μ) := by
  unfold f_X12_rank rkM
  simp only [ite_some]
/-- the rank of the class's word -/
def rkK (k : Int32) : Int32 := if k = 129 then 1 else if k = 130 then 1 else if k = 60 then 1 else if k = 43 then 2 else if k = 45 then 2 else if k = 42 then 3 else if k = 47 then 3 else if k = 37 then 3 else 0
theorem okK_all (P : Int32 → Bool) (h : (List.range 131).all (fun k => (! okK (nI k)) || P (nI k)) = true) {z : Int32} (hz : okK z = true) : P z = true := by
  have h1 : 0 ≤ z ∧ z ≤ 130 := by
    clear h
    unfold okK knS at hz
    simp only [Bool.or_eq_true, Bool.and_eq_true, decide_eq_true_eq, beq_iff_eq] at hz
    grind (splits := 40)
  have h3 := nI_tn h1.1
  have h4 : z.toNatClampNeg < 131 := by
    have := i_le h1.2
    rw [show (130 : Int32).toNatClampNeg = 130 from rfl] at this
    omega
  rw [List.all_eq_true] at h
  have := h _ (List.mem_range.mpr h4)
  rw [← h3, hz] at this
  simpa using this
theorem rk_eq {k : Int32} (h : okK k = true) : rkM (kMd k) = rkK k := by
  have := okK_all (fun k => decide (rkM (kMd k) = rkK k)) (by decide +kernel) h
  simpa using this
/-- the reference's number of a word is one the class's word -/
theorem kMd_at (j : Int32) {k : Int32} (hj : (List.range 131).all (fun i => (! okK (nI i)) || decide (kMd (nI i) = kMd j ↔ nI i = j)) = true) (h : okK k = true) : kMd k = kMd j ↔ k = j := by
  have := okK_all (fun k => decide (kMd k = kMd j ↔ k = j)) hj h
  simpa using this
def atK (k : Int32) : Prop := k = 3 ∨ k = 4 ∨ k = 5 ∨ k = 11 ∨ k = 40
theorem m_isAtom {μ : S5} : f_X12_isAtom μ = some (if (gI μ 4 = 3 ∨ gI μ 4 = 4 ∨ gI μ 4 = 2 ∨ gI μ 4 = 15 ∨ gI μ 4 = 140) then 1 else 0, μ) := by
  unfold f_X12_isAtom f_X12_isAtom_b42
  rw [m_isS, bd_of]
  by_cases h1 : gI μ 4 = 3
  · simp [h1]
  by_cases h2 : gI μ 4 = 4
  · simp [h2]
  by_cases h3 : gI μ 4 = 2
  · simp [h3]
  by_cases h4 : gI μ 4 = 15
  · simp [h4]
  by_cases h5 : gI μ 4 = 140
  · simp [h5]
  · simp [h1, h2, h3, h4, h5]
theorem kMd_atom {k : Int32} (h : okK k = true) : (kMd k = 3 ∨ kMd k = 4 ∨ kMd k = 2 ∨ kMd k = 15 ∨ kMd k = 140) ↔ atK k := by
  have := okK_all (fun k => decide ((kMd k = 3 ∨ kMd k = 4 ∨ kMd k = 2 ∨ kMd k = 15 ∨ kMd k = 140) ↔ (k = 3 ∨ k = 4 ∨ k = 5 ∨ k = 11 ∨ k = 40))) (by decide +kernel) h
  have h2 := of_decide_eq_true this
  exact h2
theorem c_isAtom (k : Int32) (σ : S5) : f_X5_isAtom k σ = some (if k = 3 ∨ k = 4 ∨ k = 5 ∨ k = 11 ∨ k = 40 then 1 else 0, σ) := by
  unfold f_X5_isAtom f_X5_isAtom_b27
  by_cases h1 : k = 3
  · simp [h1]
  by_cases h2 : k = 4
  · simp [h2]
  by_cases h3 : k = 5
  · simp [h3]
  by_cases h4 : k = 11
  · simp [h4]
  by_cases h5 : k = 40
  · simp [h5]
  · simp [h1, h2, h3, h4, h5]
