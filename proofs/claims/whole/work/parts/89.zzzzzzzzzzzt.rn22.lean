/-- what keeping a let's bindings leaves -/
def FlC (σ τ : S5) : Prop := (∀ j, gI τ j = gI σ j) ∧ (∀ j, gJ τ j = gJ σ j) ∧ (∀ j, ¬ j = 40 → gA τ j = gA σ j) ∧ (∀ j, ¬ j = 13 → ¬ j = 14 → gB τ j = gB σ j) ∧ τ.2.2.2.2 = σ.2.2.2.2
def FlM (μ ν : S5) : Prop := (∀ j, ¬ (32 ≤ j ∧ j ≤ 35) → ¬ (39 ≤ j ∧ j ≤ 41) → ¬ j = 44 → ¬ j = 45 → ¬ j = 54 → gI ν j = gI μ j) ∧ (∀ j, gJ ν j = gJ μ j) ∧ (∀ j, ¬ (53 ≤ j ∧ j ≤ 56) → ¬ j = 62 → ¬ j = 63 → gA ν j = gA μ j) ∧ (∀ j, ¬ j = 7 → ¬ j = 9 → gB ν j = gB μ j) ∧ ν.2.2.2.2 = μ.2.2.2.2
theorem FlC.tr {σ τ ρ : S5} (h : FlC σ τ) (g : FlC τ ρ) : FlC σ ρ := ⟨fun j => (g.1 j).trans (h.1 j), fun j => (g.2.1 j).trans (h.2.1 j), fun j a => (g.2.2.1 j a).trans (h.2.2.1 j a), fun j a b => (g.2.2.2.1 j a b).trans (h.2.2.2.1 j a b), g.2.2.2.2.trans h.2.2.2.2⟩
theorem FlM.tr {σ τ ρ : S5} (h : FlM σ τ) (g : FlM τ ρ) : FlM σ ρ := ⟨fun j a b c d e => (g.1 j a b c d e).trans (h.1 j a b c d e), fun j => (g.2.1 j).trans (h.2.1 j), fun j a b c => (g.2.2.1 j a b c).trans (h.2.2.1 j a b c), fun j a b => (g.2.2.2.1 j a b).trans (h.2.2.2.1 j a b), g.2.2.2.2.trans h.2.2.2.2⟩
theorem FkC.l {σ τ : S5} (h : FkC σ τ) : FlC σ τ := ⟨h.1, h.2.1, h.2.2.1, fun j _ b => h.2.2.2.1 j b, h.2.2.2.2⟩
theorem FkM.l {μ ν : S5} (h : FkM μ ν) : FlM μ ν := ⟨h.1, h.2.1, h.2.2.1, fun j a _ => h.2.2.2.1 j a, h.2.2.2.2⟩
theorem Fb.lc {σ τ : S5} (h : Fb 13 σ τ) : FlC σ τ := ⟨h.1, h.2.1, fun j _ => h.2.2.1 j, fun j a _ => h.2.2.2.1 j a, h.2.2.2.2⟩
theorem Fb.lm {μ ν : S5} (h : Fb 9 μ ν) : FlM μ ν := ⟨fun j _ _ _ _ _ => h.1 j, h.2.1, fun j _ _ _ => h.2.2.1 j, fun j _ a => h.2.2.2.1 j a, h.2.2.2.2⟩
theorem eqP.fl {τ σ σ' : S5} (h : eqP τ σ) (g : FlC σ σ') : eqP τ σ' := ⟨fun j hj => (g.1 j).trans (h.1 j hj), fun j hj => (g.2.2.1 j (by omega)).trans (h.2.1 j hj), fun j hj => (g.2.2.2.1 j (by omega) (by omega)).trans (h.2.2 j hj)⟩
theorem eqQ.fl {τ σ σ' : S5} (h : eqQ τ σ) (g : FlM σ σ') : eqQ τ σ' := ⟨fun j hj => (g.1 j (by omega) (by omega) (by omega) (by omega) (by omega)).trans (h.1 j hj), fun j hj => (g.2.2.1 j (by omega) (by omega) (by omega)).trans (h.2.1 j hj), fun j hj => (g.2.2.2.1 j (by omega) (by omega)).trans (h.2.2 j hj)⟩
/-- a variable gets its value, on both sides -/
theorem EV.w {τ : S5} {F k : Nat} {pa nv : Nat → Nat} {σ μ : S5} {n : Nat} {tg ct : Nat → Nat} {f base : Nat} {Sc Sc' : Nat → Prop} (h : EV τ F k pa nv σ μ n tg ct f base Sc) {i : Nat} {x y : Int64} (hi : base + i < 2 ^ 31) (hv : VL τ F pa n tg ct x y) (hS : ∀ z, Sc' z → Sc z ∨ z = i) : EV τ F k pa nv (pB σ 13 (nI (base + i)) x) (pB μ 9 (nI (base + i)) y) n tg ct f base Sc' := by
  obtain ⟨a, b, c⟩ := h
  refine ⟨a, fun z hz => ?_, c⟩
  by_cases e : z = i
  · subst e
    rw [gB_s hi, gB_s hi]
    exact hv
  · rw [gB_n hi (by omega), gB_n hi (by omega)]
    exact b z ((hS z hz).resolve_right e)
theorem HS.wv {τ μ0 : S5} {F T : Nat} {pa nv : Nat → Nat} {σ μ : S5} {n : Nat} {tg ct : Nat → Nat} {Rd : Nat → Prop} (h : HS τ μ0 F T pa nv σ μ n tg ct Rd) (i j : Int32) (x y : Int64) : HS τ μ0 F T pa nv (pB σ 13 i x) (pB μ 9 j y) n tg ct Rd := h
theorem NR.wv {σ μ : S5} (h : NR σ μ) (i j : Int32) (x y : Int64) : NR (pB σ 13 i x) (pB μ 9 j y) := h
/-- whether something is made for a binding -/
def wBn (τ : S5) (kc : Nat → Int32) (j : Nat) : Nat := if xA τ 13 (kc j) ≤ 2 then 0 else 1
/-- a binding that is begun -/
def BDn (τ μ0 : S5) (F T : Nat) (pa nv : Nat → Nat) (f base lo n0 : Nat) (Sc' : Nat → Prop) (kc : Nat → Int32) (kp : Nat → Nat) (σ μ : S5) (n : Nat) (tg ct : Nat → Nat) (j : Nat) : Prop := VL τ F pa n tg ct (gB σ 13 (base + (lo + j))) (gB μ 9 (base + (lo + j))) ∧ (¬ xA τ 13 (kc j) ≤ 2 → n0 + pre (wBn τ kc) j < n ∧ SH τ μ0 F T pa nv f (kc j) (kp j) Sc' (tg (n0 + pre (wBn τ kc) j)) (ct (n0 + pre (wBn τ kc) j)) ∧ (tg (n0 + pre (wBn τ kc) j) = 6 → gA μ 53 (n0 + pre (wBn τ kc) j) = 2) ∧ gB σ 13 (base + (lo + j)) = vv (nI (tg (n0 + pre (wBn τ kc) j))) (nI (adr tg ct (n0 + pre (wBn τ kc) j))) ∧ gB μ 9 (base + (lo + j)) = vv 3 (nI (n0 + pre (wBn τ kc) j)))
