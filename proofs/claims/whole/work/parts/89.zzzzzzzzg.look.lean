theorem nI_x4 (f : Nat) : nI f * 4 = nI (4 * f) := by
  show Int32.ofNat f * Int32.ofNat 4 = Int32.ofNat (4 * f)
  rw [← Int32.ofNat_mul, Nat.mul_comm]
/-- the tables of functions, as the words hold them -/
def TBc (σ : S5) (pa : Nat → Nat) (f : Nat) (ρ : Nat → Bool) : Bool := decide (pa f ≤ 8) && lb (xB σ 5 (nI (4 * f + rwN ρ (pa f) / 64))) (rwN ρ (pa f) % 64)
theorem look_go {σ : S5} {f r : Nat} (hf : f < 630) (hr : r < 256) : f_X1_look (nI f) (nI r) σ = some (if lb (xB σ 5 (nI (4 * f + r / 64))) (r % 64) = true then 1 else 0, σ) := by
  unfold f_X1_look
  rw [ro_6 hr, ro_63 hr, nI_x4, nI_plus, gdn (by omega) (by omega), lw2, lb_ushr _ (by omega), Nat.add_zero]
theorem alone_go {σ : S5} {pa : Nat → Nat} {f : Nat} (hf : f < 630) (hp : xA σ 3 (nI f) = nI (pa f)) (hp8 : pa f ≤ 8) : f_X1_alone (nI f) σ = some (if pa f = 0 then (if TBc σ pa f (fun _ => false) = true then -1 else 0) else -1, σ) := by
  unfold f_X1_alone
  rw [gdn hf (by omega), hp]
  by_cases h : pa f = 0
  · rw [h, if_pos (show nI 0 ≤ 0 by decide), if_pos rfl, nI_x4, gdn (by omega) (by omega), lw3]
    unfold TBc
    rw [h]
    show _ = some (if (true && lb (xB σ 5 (nI (4 * f))) 0) = true then _ else _, σ)
    rw [Bool.true_and]
  · rw [if_neg (fun w => h (by have := (nI_le31 (b := 0) (by omega) (by omega)).mp w; omega)), if_neg h]
/-- one lane of a call: the row is put together -/
theorem cm_L20 {rec5 : Int32 → Int32 → Int64 → Int32 → S5 → Option (Int64 × S5)} {σ : S5} {f g k l : Nat} {v3 : Int64} (hf : f < 630) (hk : k ≤ 8) (hg : g + k ≤ 328) (h22 : gI σ 22 = nI (g + k)) (hl : l < 64) : ∀ (d i n : Nat), i + d = k → d < n → f_X1_compose_L20 rec5 n (nI f) (nI g) v3 (nI l) (nI (rwN (fun i => lb (xB σ 7 (nI (g + i))) l) i)) (nI (g + i)) σ = rec5 (nI f) (nI g) (v3 ||| j_lshl (if lb (xB σ 5 (nI (4 * f + rwN (fun i => lb (xB σ 7 (nI (g + i))) l) k / 64))) (rwN (fun i => lb (xB σ 7 (nI (g + i))) l) k % 64) = true then 1 else 0) (nI l)) (nI (l + 1)) σ := by
  have hlt := rwN_lt (fun i => lb (xB σ 7 (nI (g + i))) l) k
  have h28 : (2 : Nat) ^ k ≤ 2 ^ 8 := Nat.pow_le_pow_right (by omega) hk
  have h8 : (2 : Nat) ^ 8 = 256 := by decide
  intro d
  induction d with
  | zero =>
    intro i n hi hn
    obtain ⟨n, rfl⟩ : ∃ m, n = m + 1 := ⟨n - 1, by omega⟩
    have : i = k := by omega
    subst this
    show f_X1_compose_B20 _ _ _ _ _ _ _ _ _ = _
    unfold f_X1_compose_B20
    rw [h22, if_pos (Int32.le_refl _), look_go hf (by omega), bd_of, nI_add1]
    congr 2
    split <;> rfl
  | succ d ih =>
    intro i n hi hn
    obtain ⟨n, rfl⟩ : ∃ m, n = m + 1 := ⟨n - 1, by omega⟩
    show f_X1_compose_B20 _ _ _ _ _ _ _ _ _ = _
    unfold f_X1_compose_B20
    rw [h22, if_neg (fun w => by have := (nI_le31 (by omega) (by omega)).mp w; omega), gdn (by omega) (by omega), lw1, lb_ushr _ hl, Nat.add_zero, nI_sub (by omega), show g + i - g = i by omega, nI_add1]
    have e : (if lb (xB σ 7 (nI (g + i))) l = true then (1 : Int64) else 0).toInt32 = if lb (xB σ 7 (nI (g + i))) l = true then 1 else 0 := by split <;> rfl
    rw [e, rw_or (by omega) (rwN_lt _ i) (lb (xB σ 7 (nI (g + i))) l)]
    exact ih (i + 1) n (by omega) (by omega)
/-- all lanes of a call -/
theorem cm_L5 {σ : S5} {pa : Nat → Nat} {f g L : Nat} (hf : f < 630) (hk : pa f ≤ 8) (hg : g + pa f ≤ 328) (h22 : gI σ 22 = nI (g + pa f)) (h23 : gI σ 23 = nI L) (hL : L ≤ 64) : ∀ (d l n : Nat) (v : Int64), l + d = L → d < n → (∀ m, m < 64 → lb v m = (decide (m < l) && TBc σ pa f (fun i => lb (xB σ 7 (nI (g + i))) m))) → ∃ w, f_X1_compose_L5 n (nI f) (nI g) v (nI l) σ = some (w, σ) ∧ ∀ m, m < 64 → lb w m = (decide (m < L) && TBc σ pa f (fun i => lb (xB σ 7 (nI (g + i))) m)) := by
  intro d
  induction d with
  | zero =>
    intro l n v hl hn hv
    obtain ⟨n, rfl⟩ : ∃ m, n = m + 1 := ⟨n - 1, by omega⟩
    have : l = L := by omega
    subst this
    refine ⟨v, ?_, hv⟩
    show f_X1_compose_B5 _ _ _ _ _ _ = _
    unfold f_X1_compose_B5
    rw [h23, if_pos (Int32.le_refl _)]
  | succ d ih =>
    intro l n v hl hn hv
    obtain ⟨n, rfl⟩ : ∃ m, n = m + 1 := ⟨n - 1, by omega⟩
    have e := cm_L20 (rec5 := f_X1_compose_L5 n) (σ := σ) (v3 := v) hf hk hg h22 (show l < 64 by omega) (pa f) 0 FU (by omega) (by show pa f < 1099511627776; omega)
    have e2 : f_X1_compose_L5 (n + 1) (nI f) (nI g) v (nI l) σ = f_X1_compose_L20 (f_X1_compose_L5 n) FU (nI f) (nI g) v (nI l) 0 (nI g) σ := by
      show f_X1_compose_B5 _ _ _ _ _ _ = _
      unfold f_X1_compose_B5
      rw [h23, if_neg (fun w => by have := (nI_le31 (by omega) (by omega)).mp w; omega)]
    rw [e2]
    have e' : f_X1_compose_L20 (f_X1_compose_L5 n) FU (nI f) (nI g) v (nI l) 0 (nI g) σ = _ := e
    rw [e']
    refine ih (l + 1) n _ (by omega) (by omega) (fun m hm => ?_)
    rw [lb_or, hv m hm, lb_shl _ (by omega)]
    by_cases h1 : m < l
    · rw [decide_eq_true h1, decide_eq_true (show m < l + 1 by omega), decide_eq_true hm]
      simp
    · by_cases h2 : m = l
      · subst h2
        rw [decide_eq_false h1, decide_eq_true (show m < m + 1 by omega), decide_eq_true hm]
        show (false || (true && (true && lb _ (m - m)))) = (true && TBc σ pa f _)
        rw [Nat.sub_self]
        unfold TBc
        rw [decide_eq_true hk, Bool.true_and]
        by_cases hb : lb (xB σ 5 (nI (4 * f + rwN (fun i => lb (xB σ 7 (nI (g + i))) m) (pa f) / 64))) (rwN (fun i => lb (xB σ 7 (nI (g + i))) m) (pa f) % 64) = true
        · rw [if_pos hb, hb, lb_1]; rfl
        · rw [if_neg hb, lb_0]
          have : lb (xB σ 5 (nI (4 * f + rwN (fun i => lb (xB σ 7 (nI (g + i))) m) (pa f) / 64))) (rwN (fun i => lb (xB σ 7 (nI (g + i))) m) (pa f) % 64) = false := by simpa using hb
          rw [this]; rfl
      · rw [decide_eq_false h1, decide_eq_false (show ¬ m < l + 1 by omega)]
        have hb : ∀ b : Bool, lb (if b = true then (1 : Int64) else 0) (m - l) = false := fun b => by
          cases b
          · rw [if_neg (by decide), lb_0]
          · rw [if_pos rfl, lb_1, decide_eq_false (by omega)]
        rw [hb]
        simp
/-- A CALL, ALL ITS LANES -/
theorem cmL_go {σ : S5} {pa : Nat → Nat} {f g L : Nat} (hf : f < 630) (hk : pa f ≤ 8) (hg : g + pa f ≤ 328) (h22 : gI σ 22 = nI (g + pa f)) (h23 : gI σ 23 = nI L) (hL : L ≤ 64) : ∃ w, f_X1_compose (nI f) (nI g) σ = some (w, σ) ∧ ∀ m, m < 64 → lb w m = (decide (m < L) && TBc σ pa f (fun i => lb (xB σ 7 (nI (g + i))) m)) :=
  cm_L5 hf hk hg h22 h23 hL L 0 FU 0 (by omega) (by show L < 1099511627776; omega) (fun m hm => by rw [lb_0, decide_eq_false (by omega), Bool.false_and])
