/-- what a new program leaves of the forge -/
def Kp (σ τ : S5) : Prop := (∀ j, j = 64 ∨ j = 65 ∨ j = 66 ∨ (40 ≤ j ∧ j ≤ 59) → gI τ j = gI σ j) ∧ (∀ j, 42 ≤ j → gA τ j = gA σ j) ∧ (∀ x, x < 10 → gA τ 40 x = 0) ∧ (∀ x, x < 630 → gA τ 41 x = 0) ∧ (∀ j, 8 ≤ j → ¬ j = 30 → gB τ j = gB σ j) ∧ ∀ k, ¬ k = 9 → gN τ k = gN σ k
theorem Kp.pI {σ τ : S5} (h : Kp σ τ) (k : Nat) (v : Int32) (hk : ¬ (k = 64 ∨ k = 65 ∨ k = 66 ∨ (40 ≤ k ∧ k ≤ 59))) : Kp σ (pI τ k v) := ⟨fun j hj => by rw [gI_pI, if_neg (fun w => hk (by rw [← w]; exact hj))]; exact h.1 j hj, h.2.1, h.2.2.1, h.2.2.2.1, h.2.2.2.2.1, h.2.2.2.2.2⟩
theorem Kp.fr {σ τ τ2 : S5} (h : Kp σ τ) (hI : ∀ j, 40 ≤ j → gI τ2 j = gI τ j) (hA : ∀ j, 40 ≤ j → gA τ2 j = gA τ j) (hB : ∀ j, 8 ≤ j → gB τ2 j = gB τ j) (hN : ∀ k, ¬ k = 9 → gN τ2 k = gN τ k) : Kp σ τ2 := ⟨fun j hj => (hI j (by omega)).trans (h.1 j hj), fun j hj => (hA j (by omega)).trans (h.2.1 j hj), fun x hx => by rw [hA 40 (by decide)]; exact h.2.2.1 x hx, fun x hx => by rw [hA 41 (by decide)]; exact h.2.2.2.1 x hx, fun j a b => (hB j a).trans (h.2.2.2.2.1 j a b), fun k hk => (hN k hk).trans (h.2.2.2.2.2 k hk)⟩
theorem Kp.out {σ τ : S5} (h : Kp σ τ) (i : Int32) (v : Int64) : Kp σ (pB τ 30 i v) := ⟨h.1, h.2.1, h.2.2.1, h.2.2.2.1, fun j a b => (gB_pB_ne b).trans (h.2.2.2.2.1 j a b), h.2.2.2.2.2⟩
/-- likewise the other -/
def Kq (μ ν : S5) : Prop := (∀ j, j = 2 ∨ j = 35 ∨ j = 36 → gI ν j = gI μ j) ∧ (∀ j, j = 44 ∨ j = 45 ∨ j = 38 ∨ j = 34 ∨ j = 39 ∨ j = 40 ∨ j = 41 ∨ j = 42 ∨ j = 43 ∨ j = 46 → gI ν j = 0) ∧ gA ν 1 = gA μ 1 ∧ ∀ x, x < 640 → gA ν 57 x = 0
theorem Kq.pI {μ ν : S5} (h : Kq μ ν) (k : Nat) (v : Int32) (hk : ¬ (k = 2 ∨ k = 35 ∨ k = 36 ∨ k = 44 ∨ k = 45 ∨ k = 38 ∨ k = 34 ∨ k = 39 ∨ k = 40 ∨ k = 41 ∨ k = 42 ∨ k = 43 ∨ k = 46)) : Kq μ (pI ν k v) := ⟨fun j hj => by rw [gI_pI, if_neg (by omega)]; exact h.1 j hj, fun j hj => by rw [gI_pI, if_neg (by omega)]; exact h.2.1 j hj, h.2.2.1, h.2.2.2⟩
theorem Kq.fr {μ ν ν2 : S5} (h : Kq μ ν) (hI : ∀ j, j = 2 ∨ 34 ≤ j → gI ν2 j = gI ν j) (hA : ∀ j, j = 1 ∨ j = 57 → gA ν2 j = gA ν j) : Kq μ ν2 := ⟨fun j hj => (hI j (by omega)).trans (h.1 j hj), fun j hj => (hI j (by omega)).trans (h.2.1 j hj), (hA 1 (by decide)).trans h.2.2.1, fun x hx => by rw [hA 57 (by decide)]; exact h.2.2.2 x hx⟩
theorem ra_fin {σ τ μ ν : S5} (h : RA σ μ) (hp : Kp σ τ) (hq : Kq μ ν) (h0 : gI τ 0 = 0) (h1 : gI ν 1 = 0) (h61 : gI τ 61 = gI ν 30) (h62 : gI τ 62 = gI ν 31) (h63 : gI τ 63 = gI ν 12) (hS : RS τ ν) : RA τ ν := by
  obtain ⟨-, ⟨o1, o2, o3, o4⟩, ⟨-, -, -, f4, f5⟩, -, -⟩ := h
  have e66 := hp.1 66 (by decide)
  refine ⟨⟨by rw [h0, h1], by rw [h0]; decide, by rw [h0]; decide, fun i hi => ?_⟩, ⟨by rw [e66, hq.1 2 (by decide)]; exact o1, by rw [e66]; exact o2, by rw [e66]; exact o3, fun i hi => ?_⟩, ⟨h61, h62, h63, by rw [hp.1 64 (by decide), hq.1 36 (by decide)]; exact f4, by rw [hp.1 65 (by decide), hq.1 35 (by decide)]; exact f5⟩, hS, ?_⟩
  · rw [h0] at hi
    exact absurd hi (Nat.not_lt_zero i)
  · rw [e66] at hi
    rw [hp.2.1 50 (by decide), hq.2.2.1]
    exact o4 i hi
  · have z : ∀ x j, x < 10 → (j = 44 ∨ j = 45 ∨ j = 38 ∨ j = 34 ∨ j = 39 ∨ j = 40 ∨ j = 41 ∨ j = 42 ∨ j = 43 ∨ j = 46) → gA τ 40 x = gI ν j := fun x j hx hj => by rw [hp.2.2.1 x hx, hq.2.1 j hj]
    have e46 : gI ν 46 = 0 := hq.2.1 46 (by decide)
    refine ⟨z 0 44 (by decide) (by decide), z 1 45 (by decide) (by decide), z 2 38 (by decide) (by decide), z 3 34 (by decide) (by decide), z 4 39 (by decide) (by decide), z 5 40 (by decide) (by decide), z 6 41 (by decide) (by decide), z 7 42 (by decide) (by decide), z 8 43 (by decide) (by decide), z 9 46 (by decide) (by decide), by rw [e46]; decide, by rw [e46]; decide, fun i hi => ?_, fun f hf => ?_⟩
    · rw [e46] at hi
      exact absurd hi (Nat.not_lt_zero i)
    · rw [hp.2.2.2.1 f hf, hq.2.2.2 f (by omega)]
/-- the rows of the program -/
def eqP (σ0 σ : S5) : Prop := (∀ j, (4 ≤ j ∧ j ≤ 8) ∨ j = 13 → gI σ j = gI σ0 j) ∧ (∀ j, 2 ≤ j ∧ j ≤ 19 → gA σ j = gA σ0 j) ∧ ∀ j, j = 0 ∨ j = 1 ∨ j = 2 ∨ j = 5 → gB σ j = gB σ0 j
def eqQ (μ0 μ : S5) : Prop := (∀ j, j = 11 ∨ j = 13 ∨ j = 14 ∨ j = 22 → gI μ j = gI μ0 j) ∧ (∀ j, j = 13 ∨ j = 20 ∨ (31 ≤ j ∧ j ≤ 47) ∨ j = 49 ∨ j = 52 → gA μ j = gA μ0 j) ∧ ∀ j, j = 2 ∨ j = 3 ∨ j = 5 → gB μ j = gB μ0 j
def PRx (σ μ : S5) : Prop := ∃ σ0 μ0, eqP σ0 σ ∧ eqQ μ0 μ ∧ PRg σ0 μ0
theorem PRx.rp {σ μ : S5} (h : PRx σ μ) : RP σ μ := by
  obtain ⟨σ0, μ0, ⟨p1, p2, -⟩, ⟨q1, q2, -⟩, F, k, T, pa, nv, Tt, ⟨b1, -⟩, ⟨b2, b3⟩, -, -, c1, c2, -, -, hf⟩ := h
  have e6 : gI σ 6 = nI F := by rw [p1 6 (by decide)]; exact b2
  refine ⟨by rw [e6, q1 22 (by decide), b3], by rw [e6]; exact i_le0 (nI_nneg (by omega)), by rw [e6]; exact (nI_le31 (b := 630) (by omega) (by omega)).mpr b1, by rw [p1 4 (by decide), q1 14 (by decide)]; exact c1.1, by rw [p1 13 (by decide), q1 11 (by decide)]; exact c2, fun f hff => ?_⟩
  rw [e6, nI_clamp (by omega)] at hff
  obtain ⟨q, p, hi, ⟨d1, d2, d3, -⟩, d4, ⟨d5, d6, -⟩, -⟩ := hf f hff
  have x : ∀ (s : S5) (j : Nat), gA s j f = xA s j (nI f) := fun s j => by
    show gA s j f = gA s j (nI f).toNatClampNeg
    rw [nI_clamp (by omega)]
  rw [p2 3 (by decide), q2 47 (by decide), p2 4 (by decide), q2 20 (by decide), p2 6 (by decide), q2 46 (by decide), x σ0 3, x μ0 47, x σ0 4, x μ0 20, x σ0 6, x μ0 46, d1, d2, d5, d6]
  exact ⟨rfl, i_le0 (nI_nneg (by omega)), (nI_le31 (b := 8) (by omega) (by omega)).mpr d3, d4, rfl⟩
/-- the relation beyond RA -/
def RXX (σ μ : S5) : Prop := DN σ ∧ Z22 σ ∧ (gI σ 60 = 1 → PRx σ μ)
