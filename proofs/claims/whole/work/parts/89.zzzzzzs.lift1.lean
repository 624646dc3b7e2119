/-- what lifting a node never writes -/
def FrLI (σ τ : S5) : Prop := (∀ j, ¬ j = 26 → ¬ j = 27 → ¬ j = 28 → gI τ j = gI σ j) ∧ (∀ j, gJ τ j = gJ σ j) ∧ (∀ j, j < 31 ∨ j = 38 ∨ (40 ≤ j ∧ ¬ j = 48) → gA τ j = gA σ j) ∧ (∀ j, ¬ j = 5 → gB τ j = gB σ j) ∧ τ.2.2.2.2 = σ.2.2.2.2
theorem FrLI.rf (σ : S5) : FrLI σ σ := ⟨fun _ _ _ _ => rfl, fun _ => rfl, fun _ _ => rfl, fun _ _ => rfl, rfl⟩
theorem FrLI.tr {σ τ ρ : S5} (h : FrLI σ τ) (h2 : FrLI τ ρ) : FrLI σ ρ := ⟨fun j a b c => (h2.1 j a b c).trans (h.1 j a b c), fun j => (h2.2.1 j).trans (h.2.1 j), fun j a => (h2.2.2.1 j a).trans (h.2.2.1 j a), fun j a => (h2.2.2.2.1 j a).trans (h.2.2.2.1 j a), h2.2.2.2.2.trans h.2.2.2.2⟩
theorem FrLI.A {σ τ : S5} {k : Nat} {i v : Int32} (h : FrLI σ τ) (hk : (31 ≤ k ∧ k ≤ 37) ∨ k = 39 ∨ k = 48) : FrLI σ (pA τ k i v) := ⟨h.1, h.2.1, fun j a => by rw [gA_ne _ _ _ (by omega)]; exact h.2.2.1 j a, h.2.2.2⟩
theorem FrLI.I {σ τ : S5} {k : Nat} {v : Int32} (h : FrLI σ τ) (hk : k = 26 ∨ k = 27 ∨ k = 28) : FrLI σ (pI τ k v) := ⟨fun j a b c => by rw [gI_pI, if_neg (by omega)]; exact h.1 j a b c, h.2⟩
theorem FrLI.B {σ τ : S5} {i : Int32} {v : Int64} (h : FrLI σ τ) : FrLI σ (pB τ 5 i v) := ⟨h.1, h.2.1, h.2.2.1, fun j a => by rw [gB_ne _ _ _ a]; exact h.2.2.2.1 j a, h.2.2.2.2⟩
theorem FrLI.x {σ τ : S5} (h : FrLI σ τ) (j : Nat) (i : Int32) (hj : j < 31 ∨ j = 38 ∨ (40 ≤ j ∧ ¬ j = 48)) : xA τ j i = xA σ j i := by
  show gA τ j i.toNatClampNeg = gA σ j i.toNatClampNeg
  rw [h.2.2.1 j hj]
/-- heights and what is used, of the first children -/
def hL (μ : S5) (pp : Nat → Int32) : Nat → Int32
  | 0 => 0
  | k + 1 => if xA μ 37 (pp k) ≤ hL μ pp k then hL μ pp k else xA μ 37 (pp k)
def uL (μ : S5) (pp : Nat → Int32) (u0 : Int64) : Nat → Int64
  | 0 => u0
  | k + 1 => uL μ pp u0 k ||| xB μ 5 (pp k)
/-- the rows of a lifted node -/
def Lw8 (μ μ' : S5) (x : Int32) : Prop := xA μ' 31 x = xA μ 31 x ∧ xA μ' 32 x = xA μ 32 x ∧ xA μ' 33 x = xA μ 33 x ∧ xA μ' 34 x = xA μ 34 x ∧ xA μ' 35 x = xA μ 35 x ∧ xA μ' 37 x = xA μ 37 x ∧ xB μ' 5 x = xB μ 5 x
theorem Lw8.rf (μ : S5) (x : Int32) : Lw8 μ μ x := ⟨rfl, rfl, rfl, rfl, rfl, rfl, rfl⟩
theorem Lw8.tr {μ ν ρ : S5} {x : Int32} (h : Lw8 μ ν x) (h2 : Lw8 ν ρ x) : Lw8 μ ρ x := ⟨h2.1.trans h.1, h2.2.1.trans h.2.1, h2.2.2.1.trans h.2.2.1, h2.2.2.2.1.trans h.2.2.2.1, h2.2.2.2.2.1.trans h.2.2.2.2.1, h2.2.2.2.2.2.1.trans h.2.2.2.2.2.1, h2.2.2.2.2.2.2.trans h.2.2.2.2.2.2⟩
/-- a node is lifted: m lifted before, ct children, hd held; its children are the last n held -/
def LIf (μ μ' : S5) (kind value : Int32) (n m ct hd : Nat) : Prop := FrLI μ μ' ∧ (gI μ' 26 = nI (m + 1) ∧ gI μ' 27 = nI (ct + n) ∧ gI μ' 28 = nI (hd + 1)) ∧ (∀ x, x < m → Lw8 μ μ' (nI x)) ∧ (∀ x, x < ct → xA μ' 39 (nI x) = xA μ 39 (nI x)) ∧ (∀ x, x < hd → xA μ' 48 (nI x) = xA μ 48 (nI x)) ∧ xA μ' 48 (nI hd) = nI m ∧ (xA μ' 31 (nI m) = kind ∧ xA μ' 32 (nI m) = value ∧ xA μ' 33 (nI m) = nI ct ∧ xA μ' 34 (nI m) = nI n ∧ xA μ' 35 (nI m) = 0) ∧ (∀ k, k < n → xA μ' 39 (nI (ct + k)) = xA μ 48 (nI (hd + k))) ∧ xA μ' 37 (nI m) = hL μ (fun k => xA μ 48 (nI (hd + k))) n + 1 ∧ xB μ' 5 (nI m) = uL μ (fun k => xA μ 48 (nI (hd + k))) (if kind = 13 then j_lshl 1 value else 0) n
theorem gd7000 {β : Type} {i : Int32} {x : Option β} (h0 : 0 ≤ i) (h1 : i < 7000) : gd i 7000 x = x := gd_of h0 h1 rfl
theorem li_L108 {μ ρ : S5} {n m ct hd : Nat} (hm : m < 7000) (hct : ct + n ≤ 14000) (hhd : hd + n ≤ 7000) (hh : hd < 7000) (h28 : gI ρ 28 = nI hd) (h33 : xA ρ 33 (nI m) = nI ct) (hpp : ∀ k, k < n → ∃ p, p < m ∧ xA μ 48 (nI (hd + k)) = nI p) (e48 : ∀ x, xA ρ 48 x = xA μ 48 x) (e37 : ∀ x, x < m → xA ρ 37 (nI x) = xA μ 37 (nI x)) (e5 : ∀ x, x < m → xB ρ 5 (nI x) = xB μ 5 (nI x)) (u0 : Int64) : ∀ (d k f : Nat) (τ : S5), k + d = n → d < f → FrLI ρ τ → gI τ 26 = gI ρ 26 ∧ gI τ 27 = gI ρ 27 ∧ gI τ 28 = gI ρ 28 → (∀ g x, ¬ g = 39 → xA τ g x = xA ρ g x) → (∀ x, xB τ 5 x = xB ρ 5 x) → (∀ x, x < ct → xA τ 39 (nI x) = xA ρ 39 (nI x)) → (∀ x, x < k → xA τ 39 (nI (ct + x)) = xA μ 48 (nI (hd + x))) → ∃ τ', f_X12_lift_L108 f (nI n) (nI m) (hL μ (fun k => xA μ 48 (nI (hd + k))) k) (uL μ (fun k => xA μ 48 (nI (hd + k))) u0 k) (nI k) τ = some (nI m, pI (pA (pB (pA τ' 37 (nI m) (hL μ (fun k => xA μ 48 (nI (hd + k))) n + 1)) 5 (nI m) (uL μ (fun k => xA μ 48 (nI (hd + k))) u0 n)) 48 (nI hd) (nI m)) 28 (nI (hd + 1))) ∧ FrLI ρ τ' ∧ (gI τ' 26 = gI ρ 26 ∧ gI τ' 27 = gI ρ 27) ∧ (∀ g x, ¬ g = 39 → xA τ' g x = xA ρ g x) ∧ (∀ x, xB τ' 5 x = xB ρ 5 x) ∧ (∀ x, x < ct → xA τ' 39 (nI x) = xA ρ 39 (nI x)) ∧ (∀ x, x < n → xA τ' 39 (nI (ct + x)) = xA μ 48 (nI (hd + x))) := by
  intro d
  induction d with
  | zero =>
    intro k f τ hk hf q1 q2 q3 q4 q5 q6
    obtain ⟨f, rfl⟩ : ∃ f', f = f' + 1 := ⟨f - 1, by omega⟩
    have : k = n := by omega
    subst this
    refine ⟨τ, ?_, q1, ⟨q2.1, q2.2.1⟩, q3, q4, q5, q6⟩
    show f_X12_lift_B108 _ _ _ _ _ _ _ = _
    unfold f_X12_lift_B108
    rw [if_pos (Int32.le_refl _), gdn hm (by omega), gdn hm (by omega), q2.2.2, h28]
    rw [gdn hh (by omega), nI_add1]
  | succ d ih =>
    intro k f τ hk hf q1 q2 q3 q4 q5 q6
    obtain ⟨f, rfl⟩ : ∃ f', f = f' + 1 := ⟨f - 1, by omega⟩
    obtain ⟨p, p1, p2⟩ := hpp k (by omega)
    have e28 : gI τ 28 + nI k = nI (hd + k) := by rw [q2.2.2, h28, nI_plus]
    have e33 : xA τ 33 (nI m) + nI k = nI (ct + k) := by rw [q3 33 _ (by decide), h33, nI_plus]
    have t48 : xA τ 48 (nI (hd + k)) = nI p := by rw [q3 48 _ (by decide), e48, p2]
    have t37 : xA τ 37 (nI p) = xA μ 37 (nI p) := by rw [q3 37 _ (by decide), e37 p p1]
    have s5 : xB τ 5 (nI p) = xB μ 5 (nI p) := by rw [q4, e5 p p1]
    have hB : f_X12_lift_L108 (f + 1) (nI n) (nI m) (hL μ (fun k => xA μ 48 (nI (hd + k))) k) (uL μ (fun k => xA μ 48 (nI (hd + k))) u0 k) (nI k) τ = f_X12_lift_L108 f (nI n) (nI m) (hL μ (fun k => xA μ 48 (nI (hd + k))) (k + 1)) (uL μ (fun k => xA μ 48 (nI (hd + k))) u0 (k + 1)) (nI (k + 1)) (pA τ 39 (nI (ct + k)) (nI p)) := by
      show f_X12_lift_B108 _ _ _ _ _ _ _ = _
      unfold f_X12_lift_B108 f_X12_lift_b169
      have eu : uL μ (fun k => xA μ 48 (nI (hd + k))) u0 (k + 1) = uL μ (fun k => xA μ 48 (nI (hd + k))) u0 k ||| xB μ 5 (nI p) := by
        show _ ||| xB μ 5 (xA μ 48 (nI (hd + k))) = _
        rw [p2]
      have eh : hL μ (fun k => xA μ 48 (nI (hd + k))) (k + 1) = if xA μ 37 (nI p) ≤ hL μ (fun k => xA μ 48 (nI (hd + k))) k then hL μ (fun k => xA μ 48 (nI (hd + k))) k else xA μ 37 (nI p) := by
        show (if xA μ 37 (xA μ 48 (nI (hd + k))) ≤ _ then _ else xA μ 37 (xA μ 48 (nI (hd + k)))) = _
        rw [p2]
      rw [if_neg (fun w => by have := (nI_le31 (by omega) (by omega)).mp w; omega), e28, gdn (by omega) (by omega), gdn hm (by omega), e33, gdn (by omega) (by omega), t48, gdn (by omega) (by omega), t37, nI_add1, eu, eh]
      by_cases hle : xA μ 37 (nI p) ≤ hL μ (fun k => xA μ 48 (nI (hd + k))) k
      · rw [if_pos hle, if_pos hle, gdn (by omega) (by omega)]
        show f_X12_lift_L108 f _ _ _ (_ ||| xB τ 5 (nI p)) _ _ = _
        rw [s5]
      · rw [if_neg hle, if_neg hle, gdn (by omega) (by omega), gdn (by omega) (by omega)]
        show f_X12_lift_L108 f _ _ _ (_ ||| xB τ 5 (nI p)) _ _ = _
        rw [s5]
    rw [hB]
    refine ih (k + 1) f _ (by omega) (by omega) (q1.A (by omega)) q2 (fun g x hg => by rw [xA_pA, if_neg (fun w => hg w.1)]; exact q3 g x hg) q4 (fun x hx => ?_) (fun x hx => ?_)
    · rw [xA_pA, if_neg (fun w => tn_neL (by omega) (by omega) (by omega) w.2)]
      exact q5 x hx
    · by_cases hxk : x = k
      · subst hxk
        rw [xA_self, p2]
      · rw [xA_pA, if_neg (fun w => tn_neL (by omega) (by omega) (by omega) w.2)]
        exact q6 x (by omega)
theorem li_go {μ : S5} (kind value : Int32) {n m ct hd : Nat} (h26 : gI μ 26 = nI m) (h27 : gI μ 27 = nI ct) (h28 : gI μ 28 = nI (hd + n)) (hm : m < 7000) (hct : ct + n ≤ 14000) (hhd : hd + n ≤ 7000) (hh : hd < 7000) (hpp : ∀ k, k < n → ∃ p, p < m ∧ xA μ 48 (nI (hd + k)) = nI p) : ∃ μ', f_X12_lift kind value (nI n) μ = some (nI m, μ') ∧ LIf μ μ' kind value n m ct hd := by
  have hbig := FU_big (n := 30000) (by decide)
  have n0 : 0 ≤ nI m := i_le0 (nI_nneg (by omega))
  have e28 : nI (hd + n) - nI n = nI hd := by rw [← nI_plus]; grind
  have hlift : f_X12_lift kind value (nI n) μ = f_X12_lift_b103 (nI n) (nI m) 0 (if kind = 13 then j_lshl 1 value else 0) (pI (pI (pA (pA (pA (pA (pA (pA (pI μ 26 (nI (m + 1))) 31 (nI m) kind) 32 (nI m) value) 33 (nI m) (nI ct)) 34 (nI m) (nI n)) 35 (nI m) 0) 36 (nI m) (vp_nar .boolean 0)) 27 (nI (ct + n))) 28 (nI hd)) := by
    unfold f_X12_lift
    rw [h26, h27, h28, gdn hm (by omega), gdn hm (by omega), gdn hm (by omega), gdn hm (by omega), gdn hm (by omega), gdn hm (by omega), nI_add1, nI_plus, e28]
    by_cases h13 : kind = 13
    · rw [if_pos h13, if_pos h13]
    · rw [if_neg h13, if_neg h13]
  rw [hlift]
  have fr : FrLI μ (pI (pI (pA (pA (pA (pA (pA (pA (pI μ 26 (nI (m + 1))) 31 (nI m) kind) 32 (nI m) value) 33 (nI m) (nI ct)) 34 (nI m) (nI n)) 35 (nI m) 0) 36 (nI m) (vp_nar .boolean 0)) 27 (nI (ct + n))) 28 (nI hd)) := (((((((((FrLI.rf μ).I (by omega)).A (by omega)).A (by omega)).A (by omega)).A (by omega)).A (by omega)).A (by omega)).I (by omega)).I (by omega)
  have row : ∀ g x, xA (pI (pI (pA (pA (pA (pA (pA (pA (pI μ 26 (nI (m + 1))) 31 (nI m) kind) 32 (nI m) value) 33 (nI m) (nI ct)) 34 (nI m) (nI n)) 35 (nI m) 0) 36 (nI m) (vp_nar .boolean 0)) 27 (nI (ct + n))) 28 (nI hd)) g x = xA (pA (pA (pA (pA (pA (pA μ 31 (nI m) kind) 32 (nI m) value) 33 (nI m) (nI ct)) 34 (nI m) (nI n)) 35 (nI m) 0) 36 (nI m) (vp_nar .boolean 0)) g x := fun g x => rfl
  have g26 : gI (pI (pI (pA (pA (pA (pA (pA (pA (pI μ 26 (nI (m + 1))) 31 (nI m) kind) 32 (nI m) value) 33 (nI m) (nI ct)) 34 (nI m) (nI n)) 35 (nI m) 0) 36 (nI m) (vp_nar .boolean 0)) 27 (nI (ct + n))) 28 (nI hd)) 26 = nI (m + 1) := by
    rw [gI_pI, if_neg (by decide), gI_pI, if_neg (by decide)]
    show gI (pI μ 26 (nI (m + 1))) 26 = _
    rw [gI_pI, if_pos rfl]
  have g27 : gI (pI (pI (pA (pA (pA (pA (pA (pA (pI μ 26 (nI (m + 1))) 31 (nI m) kind) 32 (nI m) value) 33 (nI m) (nI ct)) 34 (nI m) (nI n)) 35 (nI m) 0) 36 (nI m) (vp_nar .boolean 0)) 27 (nI (ct + n))) 28 (nI hd)) 27 = nI (ct + n) := by
    rw [gI_pI, if_neg (by decide), gI_pI, if_pos rfl]
  have g28 : gI (pI (pI (pA (pA (pA (pA (pA (pA (pI μ 26 (nI (m + 1))) 31 (nI m) kind) 32 (nI m) value) 33 (nI m) (nI ct)) 34 (nI m) (nI n)) 35 (nI m) 0) 36 (nI m) (vp_nar .boolean 0)) 27 (nI (ct + n))) 28 (nI hd)) 28 = nI hd := by
    rw [gI_pI, if_pos rfl]
  have rb : ∀ x, xB (pI (pI (pA (pA (pA (pA (pA (pA (pI μ 26 (nI (m + 1))) 31 (nI m) kind) 32 (nI m) value) 33 (nI m) (nI ct)) 34 (nI m) (nI n)) 35 (nI m) 0) 36 (nI m) (vp_nar .boolean 0)) 27 (nI (ct + n))) 28 (nI hd)) 5 x = xB μ 5 x := fun x => rfl
  generalize pI (pI (pA (pA (pA (pA (pA (pA (pI μ 26 (nI (m + 1))) 31 (nI m) kind) 32 (nI m) value) 33 (nI m) (nI ct)) 34 (nI m) (nI n)) 35 (nI m) 0) 36 (nI m) (vp_nar .boolean 0)) 27 (nI (ct + n))) 28 (nI hd) = ρ at fr row g26 g27 g28 rb
  have rx : ∀ g x, g = 37 ∨ g = 39 ∨ g = 48 → xA ρ g x = xA μ g x := fun g x hg => by
    rw [row, xA_pA, if_neg (by omega), xA_pA, if_neg (by omega), xA_pA, if_neg (by omega), xA_pA, if_neg (by omega), xA_pA, if_neg (by omega), xA_pA, if_neg (by omega)]
  have ro : ∀ g (x : Nat), x < m → xA ρ g (nI x) = xA μ g (nI x) := fun g x hx => by
    have hne : ¬ (nI x).toNatClampNeg = (nI m).toNatClampNeg := tn_neL (by omega) (by omega) (by omega)
    rw [row, xA_pA, if_neg (fun w => hne w.2), xA_pA, if_neg (fun w => hne w.2), xA_pA, if_neg (fun w => hne w.2), xA_pA, if_neg (fun w => hne w.2), xA_pA, if_neg (fun w => hne w.2), xA_pA, if_neg (fun w => hne w.2)]
  have r31 : xA ρ 31 (nI m) = kind := by
    rw [row, xA_pA, if_neg (by omega), xA_pA, if_neg (by omega), xA_pA, if_neg (by omega), xA_pA, if_neg (by omega), xA_pA, if_neg (by omega), xA_self]
  have r32 : xA ρ 32 (nI m) = value := by
    rw [row, xA_pA, if_neg (by omega), xA_pA, if_neg (by omega), xA_pA, if_neg (by omega), xA_pA, if_neg (by omega), xA_self]
  have r33 : xA ρ 33 (nI m) = nI ct := by
    rw [row, xA_pA, if_neg (by omega), xA_pA, if_neg (by omega), xA_pA, if_neg (by omega), xA_self]
  have r34 : xA ρ 34 (nI m) = nI n := by
    rw [row, xA_pA, if_neg (by omega), xA_pA, if_neg (by omega), xA_self]
  have r35 : xA ρ 35 (nI m) = 0 := by
    rw [row, xA_pA, if_neg (by omega), xA_self]
  clear row hlift
  obtain ⟨τ', a1, a2, a3, a4, a5, a6, a7⟩ := li_L108 (μ := μ) (ρ := ρ) (n := n) (m := m) (ct := ct) (hd := hd) hm hct hhd hh g28 r33 hpp (fun x => rx 48 x (by omega)) (fun x hx => rx 37 _ (by omega)) (fun x hx => rb _) (if kind = 13 then j_lshl 1 value else 0) n 0 FU ρ (by omega) (by omega) (FrLI.rf ρ) ⟨rfl, rfl, rfl⟩ (fun _ _ _ => rfl) (fun _ => rfl) (fun _ _ => rfl) (fun x hx => absurd hx (by omega))
  refine ⟨_, a1, (((((fr.tr a2).A (by omega)).B).A (by omega)).I (by omega)), ⟨?_, ?_, ?_⟩, fun x hx => ?_, fun x hx => ?_, fun x hx => ?_, ?_, ⟨?_, ?_, ?_, ?_, ?_⟩, fun k hk => ?_, ?_, ?_⟩
  · rw [gI_pI, if_neg (by decide), gI_pA]
    show gI τ' 26 = _
    rw [a3.1, g26]
  · rw [gI_pI, if_neg (by decide), gI_pA]
    show gI τ' 27 = _
    rw [a3.2, g27]
  · rw [gI_pI, if_pos rfl]
  · have hne : ¬ (nI x).toNatClampNeg = (nI m).toNatClampNeg := tn_neL (by omega) (by omega) (by omega)
    have ex : ∀ g, ¬ g = 39 → ¬ g = 48 → xA (pI (pA (pB (pA τ' 37 (nI m) (hL μ (fun k => xA μ 48 (nI (hd + k))) n + 1)) 5 (nI m) (uL μ (fun k => xA μ 48 (nI (hd + k))) (if kind = 13 then j_lshl 1 value else 0) n)) 48 (nI hd) (nI m)) 28 (nI (hd + 1))) g (nI x) = xA μ g (nI x) := fun g hg hg2 => by
      rw [xA_pI, xA_pA, if_neg (fun w => hg2 w.1)]
      show xA (pA τ' 37 (nI m) (hL μ (fun k => xA μ 48 (nI (hd + k))) n + 1)) g (nI x) = _
      rw [xA_pA, if_neg (fun w => hne w.2), a4 g _ hg, ro g x hx]
    refine ⟨ex 31 (by decide) (by decide), ex 32 (by decide) (by decide), ex 33 (by decide) (by decide), ex 34 (by decide) (by decide), ex 35 (by decide) (by decide), ex 37 (by decide) (by decide), ?_⟩
    show xB (pB (pA τ' 37 (nI m) (hL μ (fun k => xA μ 48 (nI (hd + k))) n + 1)) 5 (nI m) (uL μ (fun k => xA μ 48 (nI (hd + k))) (if kind = 13 then j_lshl 1 value else 0) n)) 5 (nI x) = _
    rw [xB_pB, if_neg (fun w => hne w.2)]
    show xB τ' 5 _ = _
    rw [a5, rb]
  · rw [xA_pI, xA_pA, if_neg (fun w => absurd w.1 (by decide))]
    show xA (pA τ' 37 (nI m) (hL μ (fun k => xA μ 48 (nI (hd + k))) n + 1)) 39 (nI x) = _
    rw [xA_pA, if_neg (fun w => absurd w.1 (by decide)), a6 x hx, rx 39 _ (by omega)]
  · rw [xA_pI, xA_pA, if_neg (fun w => tn_neL (by omega) (by omega) (by omega) w.2)]
    show xA (pA τ' 37 (nI m) (hL μ (fun k => xA μ 48 (nI (hd + k))) n + 1)) 48 (nI x) = _
    rw [xA_pA, if_neg (fun w => absurd w.1 (by decide)), a4 48 _ (by decide), rx 48 _ (by omega)]
  · rw [xA_pI, xA_self]
  · rw [xA_pI, xA_pA, if_neg (fun w => absurd w.1 (by decide))]
    show xA (pA τ' 37 (nI m) (hL μ (fun k => xA μ 48 (nI (hd + k))) n + 1)) 31 (nI m) = _
    rw [xA_pA, if_neg (fun w => absurd w.1 (by decide)), a4 31 _ (by decide), r31]
  · rw [xA_pI, xA_pA, if_neg (fun w => absurd w.1 (by decide))]
    show xA (pA τ' 37 (nI m) (hL μ (fun k => xA μ 48 (nI (hd + k))) n + 1)) 32 (nI m) = _
    rw [xA_pA, if_neg (fun w => absurd w.1 (by decide)), a4 32 _ (by decide), r32]
  · rw [xA_pI, xA_pA, if_neg (fun w => absurd w.1 (by decide))]
    show xA (pA τ' 37 (nI m) (hL μ (fun k => xA μ 48 (nI (hd + k))) n + 1)) 33 (nI m) = _
    rw [xA_pA, if_neg (fun w => absurd w.1 (by decide)), a4 33 _ (by decide), r33]
  · rw [xA_pI, xA_pA, if_neg (fun w => absurd w.1 (by decide))]
    show xA (pA τ' 37 (nI m) (hL μ (fun k => xA μ 48 (nI (hd + k))) n + 1)) 34 (nI m) = _
    rw [xA_pA, if_neg (fun w => absurd w.1 (by decide)), a4 34 _ (by decide), r34]
  · rw [xA_pI, xA_pA, if_neg (fun w => absurd w.1 (by decide))]
    show xA (pA τ' 37 (nI m) (hL μ (fun k => xA μ 48 (nI (hd + k))) n + 1)) 35 (nI m) = _
    rw [xA_pA, if_neg (fun w => absurd w.1 (by decide)), a4 35 _ (by decide), r35]
  · rw [xA_pI, xA_pA, if_neg (fun w => absurd w.1 (by decide))]
    show xA (pA τ' 37 (nI m) (hL μ (fun k => xA μ 48 (nI (hd + k))) n + 1)) 39 (nI (ct + k)) = _
    rw [xA_pA, if_neg (fun w => absurd w.1 (by decide)), a7 k hk]
  · rw [xA_pI, xA_pA, if_neg (fun w => absurd w.1 (by decide))]
    show xA (pA τ' 37 (nI m) (hL μ (fun k => xA μ 48 (nI (hd + k))) n + 1)) 37 (nI m) = _
    rw [xA_self]
  · show xB (pB (pA τ' 37 (nI m) (hL μ (fun k => xA μ 48 (nI (hd + k))) n + 1)) 5 (nI m) (uL μ (fun k => xA μ 48 (nI (hd + k))) (if kind = 13 then j_lshl 1 value else 0) n)) 5 (nI m) = _
    rw [xB_pB, if_pos ⟨rfl, rfl⟩]
