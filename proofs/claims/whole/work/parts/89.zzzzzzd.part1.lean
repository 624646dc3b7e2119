theorem kd_ite2 {α : Type} {P : S5 → Prop} {c : Prop} {_ : Decidable c} {x y : Option (α × S5)} (hx : c → Kd P x) (hy : ¬ c → Kd P y) : Kd P (if c then x else y) := by
  by_cases h : c
  · rw [if_pos h]; exact hx h
  · rw [if_neg h]; exact hy h
/-- a node that counts as a part -/
def wp (σ : S5) (i : Nat) : Nat := if 10 ≤ xA σ 13 (nI i) ∧ xA σ 13 (nI i) ≤ 13 then 0 else 1
/-- parts and d more have been counted -/
def Qf (d : Nat) (σ : S5) : Prop := gI σ 11 = 0 ∧ (0 ≤ gI σ 13 ∧ gI σ 13 ≤ 600) ∧ 0 ≤ gI σ 8 ∧ gI σ 8 ≤ 6200 ∧ prI (wp σ) (gI σ 8) + d ≤ (gI σ 13).toNatClampNeg
def Np (d : Nat) (σ : S5) : Prop := gI σ 17 = 0 ∨ Qf d σ
def EN (E : S5 → Option (Int32 × S5)) : Prop := ∀ d σ, Np d σ → Kd (Np d) (E σ)
theorem pre_eq {w w2 : Nat → Nat} : ∀ n, (∀ i, i < n → w i = w2 i) → pre w n = pre w2 n
  | 0, _ => rfl
  | n + 1, h => by
    show pre w n + w n = pre w2 n + w2 n
    rw [pre_eq n (fun i hi => h i (by omega)), h n (by omega)]
theorem Qf_of {d : Nat} {σ τ : S5} (h : Qf d σ) (h11 : gI τ 11 = gI σ 11) (h13 : gI τ 13 = gI σ 13) (h8 : gI τ 8 = gI σ 8) (hA : ∀ i, xA τ 13 i = xA σ 13 i) : Qf d τ := by
  have e : wp τ = wp σ := by
    funext i
    unfold wp
    rw [hA]
  unfold Qf
  rw [h11, h13, h8, e]
  exact h
theorem Qf_pI {d : Nat} (σ : S5) (k : Nat) (v : Int32) (hk : ¬ (8 = k ∨ 11 = k ∨ 13 = k)) (h : Qf d σ) : Qf d (pI σ k v) := Qf_of h (by rw [gI_pI, if_neg (by omega)]) (by rw [gI_pI, if_neg (by omega)]) (by rw [gI_pI, if_neg (by omega)]) (fun _ => rfl)
theorem Qf_pJ {d : Nat} {σ : S5} {k : Nat} {v : Int64} (h : Qf d σ) : Qf d (pJ σ k v) := Qf_of h rfl rfl rfl (fun _ => rfl)
theorem Qf_pN {d : Nat} {σ : S5} {k v : Nat} (h : Qf d σ) : Qf d (pN σ k v) := Qf_of h rfl rfl rfl (fun _ => rfl)
theorem Qf_pB {d : Nat} {σ : S5} {k : Nat} {i : Int32} {v : Int64} (h : Qf d σ) : Qf d (pB σ k i v) := Qf_of h rfl rfl rfl (fun _ => rfl)
theorem Qf_pA {d : Nat} (σ : S5) (k : Nat) (i v : Int32) (hk : ¬ 13 = k) (h : Qf d σ) : Qf d (pA σ k i v) := Qf_of h rfl rfl rfl (fun x => by rw [xA_pA, if_neg (fun w => hk w.1)])
theorem Np_pI {d : Nat} (σ : S5) (k : Nat) (v : Int32) (hk : ¬ (8 = k ∨ 11 = k ∨ 13 = k ∨ 17 = k)) (h : Np d σ) : Np d (pI σ k v) := h.elim (fun w => Or.inl (by rw [gI_pI, if_neg (by omega)]; exact w)) (fun w => Or.inr (Qf_pI _ _ _ (by omega) w))
theorem Np_pJ {d : Nat} {σ : S5} {k : Nat} {v : Int64} (h : Np d σ) : Np d (pJ σ k v) := h.elim Or.inl (fun w => Or.inr (Qf_pJ w))
theorem Np_pN {d : Nat} {σ : S5} {k v : Nat} (h : Np d σ) : Np d (pN σ k v) := h.elim Or.inl (fun w => Or.inr (Qf_pN w))
theorem Np_pB {d : Nat} {σ : S5} {k : Nat} {i : Int32} {v : Int64} (h : Np d σ) : Np d (pB σ k i v) := h.elim Or.inl (fun w => Or.inr (Qf_pB w))
theorem Np_pA {d : Nat} (σ : S5) (k : Nat) (i v : Int32) (hk : ¬ 13 = k) (h : Np d σ) : Np d (pA σ k i v) := h.elim Or.inl (fun w => Or.inr (Qf_pA _ _ _ _ hk w))
theorem Qf_cp {d : Nat} {σ : S5} (h : Qf d σ) (h6 : gI σ 13 < 600) : Qf (d + 1) (pI σ 13 (gI σ 13 + 1)) := by
  obtain ⟨h1, ⟨h2, h3⟩, h4, h5, h6'⟩ := h
  have e := tn_s h2 (by grind)
  refine ⟨by rw [gI_pI, if_neg (by decide)]; exact h1, ⟨by rw [gI_pI, if_pos rfl]; grind, by rw [gI_pI, if_pos rfl]; grind⟩, by rw [gI_pI, if_neg (by decide)]; exact h4, by rw [gI_pI, if_neg (by decide)]; exact h5, ?_⟩
  rw [gI_pI, if_neg (by decide), gI_pI, if_pos rfl, e]
  show prI (wp σ) (gI σ 8) + (d + 1) ≤ _
  omega
theorem Qf_ad {d e : Nat} {σ : S5} (a1 a2 a3 a4 : Int32) (h : Qf d σ) (h6 : gI σ 8 < 6200) (he : d = e + 1 ∨ (d = e ∧ 10 ≤ a1 ∧ a1 ≤ 13)) : Qf e (pI (pA (pA (pA (pA (pA σ 13 (gI σ 8) a1) 14 (gI σ 8) a2) 15 (gI σ 8) a3) 16 (gI σ 8) a4) 17 (gI σ 8) (-1)) 8 ((gI σ 8) + 1)) := by
  obtain ⟨h1, h2, h4, h5, h6'⟩ := h
  have hx : ∀ i, xA (pI (pA (pA (pA (pA (pA σ 13 (gI σ 8) a1) 14 (gI σ 8) a2) 15 (gI σ 8) a3) 16 (gI σ 8) a4) 17 (gI σ 8) (-1)) 8 ((gI σ 8) + 1)) 13 i = xA (pA σ 13 (gI σ 8) a1) 13 i := by
    intro i
    rw [xA_pI, xA_pA, if_neg (fun w => absurd w.1 (by decide)), xA_pA, if_neg (fun w => absurd w.1 (by decide)), xA_pA, if_neg (fun w => absurd w.1 (by decide)), xA_pA, if_neg (fun w => absurd w.1 (by decide))]
  refine ⟨by rw [gI_pI, if_neg (by decide)]; exact h1, by rw [gI_pI, if_neg (by decide)]; exact h2, by rw [gI_pI, if_pos rfl]; grind, by rw [gI_pI, if_pos rfl]; grind, ?_⟩
  rw [gI_pI, if_pos rfl, gI_pI, if_neg (by decide), prI_s _ h4 (by grind)]
  have hl : (gI σ 8).toNatClampNeg < 6200 := i_lt (n := 6200) (not_neg h4) h6
  have e1 : prI (wp (pI (pA (pA (pA (pA (pA σ 13 (gI σ 8) a1) 14 (gI σ 8) a2) 15 (gI σ 8) a3) 16 (gI σ 8) a4) 17 (gI σ 8) (-1)) 8 ((gI σ 8) + 1))) (gI σ 8) = prI (wp σ) (gI σ 8) := by
    unfold prI
    refine pre_eq _ (fun i hi => ?_)
    have e13 : xA (pI (pA (pA (pA (pA (pA σ 13 (gI σ 8) a1) 14 (gI σ 8) a2) 15 (gI σ 8) a3) 16 (gI σ 8) a4) 17 (gI σ 8) (-1)) 8 ((gI σ 8) + 1)) 13 (nI i) = xA σ 13 (nI i) := by
      rw [hx, xA_pA, if_neg (fun w => by
        have := w.2
        rw [nI_clamp (by omega)] at this
        omega)]
    unfold wp
    rw [e13]
  rw [e1]
  have e2 : wp (pI (pA (pA (pA (pA (pA σ 13 (gI σ 8) a1) 14 (gI σ 8) a2) 15 (gI σ 8) a3) 16 (gI σ 8) a4) 17 (gI σ 8) (-1)) 8 ((gI σ 8) + 1)) (gI σ 8).toNatClampNeg = if 10 ≤ a1 ∧ a1 ≤ 13 then 0 else 1 := by
    unfold wp
    rw [xA_tn, hx, xA_self]
  rw [e2]
  show prI (wp σ) (gI σ 8) + _ + e ≤ (gI σ 13).toNatClampNeg
  rcases he with w | ⟨w, w2⟩
  · split <;> omega
  · rw [if_pos w2]; omega
theorem Qf.le {d e : Nat} {σ : S5} (h : Qf d σ) (he : e ≤ d) : Qf e σ := ⟨h.1, h.2.1, h.2.2.1, h.2.2.2.1, by have := h.2.2.2.2; omega⟩
theorem ad_x {d e : Nat} {σ : S5} (a1 a2 a3 a4 : Int32) (h : Np d σ) (he : d = e + 1 ∨ (d = e ∧ 10 ≤ a1 ∧ a1 ≤ 13)) : Kd (Np e) (f_X9_add a1 a2 a3 a4 σ) := by
  unfold f_X9_add
  refine kd_ite2 (fun h6 => kd_gd (kd_gd (kd_gd (kd_gd (kd_gd (kd_some ?_)))))) (fun _ => kd_some (h.elim Or.inl (fun w => Or.inr (w.le (by omega)))))
  rcases h with w | w
  · exact Or.inl (by rw [gI_pI, if_neg (by decide)]; exact w)
  · exact Or.inr (Qf_ad a1 a2 a3 a4 w h6 he)
theorem ad_p {d : Nat} {σ : S5} (a1 a2 a3 a4 : Int32) (h : Np (d + 1) σ) : Kd (Np d) (f_X9_add a1 a2 a3 a4 σ) := ad_x a1 a2 a3 a4 h (Or.inl rfl)
theorem ad_n {d : Nat} {σ : S5} (a1 a2 a3 a4 : Int32) (ha : 10 ≤ a1 ∧ a1 ≤ 13) (h : Np d σ) : Kd (Np d) (f_X9_add a1 a2 a3 a4 σ) := ad_x a1 a2 a3 a4 h (Or.inr ⟨rfl, ha⟩)
/-- what the words' reader writes doesn't matter -/
def Lc (P : S5 → Prop) : Prop := (∀ (σ : S5) (k : Nat) (v : Int32), 16 ≤ k ∧ k ≤ 19 → P σ → P (pI σ k v)) ∧ (∀ (σ : S5) (k : Nat) (v : Int64), P σ → P (pJ σ k v))
theorem Lc_Qf (d : Nat) : Lc (Qf d) := ⟨fun σ k v hk h => Qf_pI _ _ _ (by omega) h, fun σ k v h => Qf_pJ h⟩
theorem Lc_fr (σ0 : S5) : Lc (fun τ => τ.2.2.1 = σ0.2.2.1) := ⟨fun _ _ _ _ h => h, fun _ _ _ h => h⟩
theorem Lc.i {P : S5 → Prop} (hP : Lc P) (σ : S5) (k : Nat) (v : Int32) (hk : 16 ≤ k ∧ k ≤ 19) (h : P σ) : P (pI σ k v) := hP.1 σ k v hk h
theorem Lc.j {P : S5 → Prop} (hP : Lc P) (σ : S5) (k : Nat) (v : Int64) (h : P σ) : P (pJ σ k v) := hP.2 σ k v h
