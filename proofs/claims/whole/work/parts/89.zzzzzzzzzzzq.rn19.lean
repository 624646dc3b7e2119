theorem VL.nn {τ : S5} {F : Nat} {pa : Nat → Nat} {n : Nat} {tg ct : Nat → Nat} {x y : Int64} (v : VL τ F pa n tg ct x y) : 0 ≤ lg_cmp y 0 ∧ ¬ lg_cmp y 0 < 0 := by
  rcases v with ⟨i, -, rfl⟩ | ⟨f, -, -, -, rfl⟩ | ⟨k, -, -, -, -, rfl⟩ | ⟨c, -, -, -, rfl⟩
  · exact lg_nn (vv_nn (t := 0) (by decide) _)
  · exact lg_nn (vv_nn (t := 1) (by decide) _)
  · exact lg_nn (vv_nn (t := 2) (by decide) _)
  · exact lg_nn (vv_nn (t := 3) (by decide) _)
theorem kd_all {τ μ : S5} {F V T : Nat} (hV : V ≤ 40) {c : Int32} {q p : Nat} {Sc : Nat → Prop} {lo hi : Nat} (h : XM τ μ F V T c q p Sc lo hi) : xA τ 13 c = 0 ∨ xA τ 13 c = 1 ∨ xA τ 13 c = 2 ∨ xA τ 13 c = 3 ∨ xA τ 13 c = 4 ∨ xA τ 13 c = 5 ∨ xA τ 13 c = 6 ∨ xA τ 13 c = 7 ∨ xA τ 13 c = 8 ∨ xA τ 13 c = 9 := by
  obtain ⟨-, -, h3⟩ := h.un hV
  rcases h3 with ⟨-, -, -, -, w⟩ | ⟨k, ct, cc, ll, w, -⟩ | ⟨w1, w2, -⟩ | ⟨w1, w2, -⟩
  · rcases w with ⟨a, b, -⟩ | ⟨a, b, -⟩ | ⟨a, b, g, c, d, e⟩ | ⟨a, b, -⟩ | ⟨a, b⟩
    · exact Or.inl a
    · exact Or.inr (Or.inl a)
    · exact Or.inr (Or.inr (Or.inl a))
    · exact Or.inr (Or.inr (Or.inr (Or.inl a)))
    · exact Or.inr (Or.inr (Or.inr (Or.inr (Or.inl a))))
  · rcases w with ⟨a, b, -⟩ | ⟨a, b, -⟩ | ⟨a, b, -⟩
    · exact Or.inr (Or.inr (Or.inr (Or.inr (Or.inr (Or.inl a)))))
    · exact Or.inr (Or.inr (Or.inr (Or.inr (Or.inr (Or.inr (Or.inr (Or.inr (Or.inl a))))))))
    · exact Or.inr (Or.inr (Or.inr (Or.inr (Or.inr (Or.inr (Or.inr (Or.inr (Or.inr a))))))))
  · exact Or.inr (Or.inr (Or.inr (Or.inr (Or.inr (Or.inr (Or.inr (Or.inl w1)))))))
  · exact Or.inr (Or.inr (Or.inr (Or.inr (Or.inr (Or.inr (Or.inl w1))))))
theorem L0_ov {μ : S5} (h : ¬ gI μ 44 = 0) (N : Nat) : f_X12_doTasks_L0 (N + 1) μ = some ((), μ) := by
  show f_X12_doTasks_B0 _ _ = _
  unfold f_X12_doTasks_B0
  by_cases h0 : gI μ 54 ≤ 0
  · rw [if_pos h0]
  · rw [if_neg h0, if_neg h]
theorem HS.ft {τ μ0 : S5} {F T : Nat} {pa nv : Nat → Nat} {σ μ ν : S5} {n : Nat} {tg ct : Nat → Nat} {Rd : Nat → Prop} (h : HS τ μ0 F T pa nv σ μ n tg ct Rd) (g : Ft μ ν) : HS τ μ0 F T pa nv σ ν n tg ct Rd := by
  obtain ⟨⟨a1, a2, a3, a4, a5⟩, b⟩ := h
  refine ⟨⟨by rw [g.1 32 (by decide)]; exact a1, by rw [g.1 33 (by decide)]; exact a2, a3, by rw [g.1 34 (by decide)]; exact a4, a5⟩, fun c hc => ?_⟩
  rw [g.2.2.1 53 (by decide) (by decide), g.2.2.1 54 (by decide) (by decide), g.2.2.1 55 (by decide) (by decide), g.2.2.1 56 (by decide) (by decide), g.2.2.2.1 6, g.2.2.2.1 7]
  exact b c hc
theorem NR.ft {σ μ ν : S5} (h : NR σ μ) (g : Ft μ ν) : NR σ ν := h.st (fun _ _ => rfl) rfl rfl (fun _ _ => rfl) (fun j hj => g.1 j (by omega)) (g.2.2.1 57 (by decide) (by decide)) (g.2.2.1 58 (by decide) (by decide))
theorem NR.w7 {σ μ : S5} (h : NR σ μ) (i : Int32) (v : Int64) : NR σ (pB μ 7 i v) := h.st (fun _ _ => rfl) rfl rfl (fun _ _ => rfl) (fun _ _ => rfl) rfl rfl
/-- a task's turn, for what is made -/
theorem dt_mk {μ : S5} {p t place : Nat} (h54 : gI μ 54 = nI (t + 1)) (ht : t < 8000) (h0 : gI μ 44 = 0) (h62 : gA μ 62 t = nI p) (h63 : gA μ 63 t = nI place) (hp : place < 4100) : (∀ {y : Int64}, f_X12_plain (nI p) (pI μ 54 (nI t)) = some (y, pI μ 54 (nI t)) → 0 ≤ lg_cmp y 0 → DT 1 μ (pB (pI μ 54 (nI t)) 7 (nI place) y)) ∧ (f_X12_plain (nI p) (pI μ 54 (nI t)) = some (-1, pI μ 54 (nI t)) → (∀ {ν : S5}, f_X12_make (nI p) (pI μ 54 (nI t)) = some (-1, ν) → DT 1 μ (pB ν 7 (nI place) (-1))) ∧ ∀ {r : Nat} {ν ν2 : S5}, r < 2 ^ 31 → f_X12_make (nI p) (pI μ 54 (nI t)) = some (nI r, ν) → f_X12_fill (nI p) (nI r) ν = some ((), ν2) → DT 1 μ (pB ν2 7 (nI place) (vv 3 (nI r)))) := by
  have e1 : nI (t + 1) - 1 = nI t := by
    rw [show (1 : Int32) = nI 1 from rfl, nI_sub (by omega)]
    rfl
  have hn0 : ¬ nI (t + 1) ≤ 0 := nle0 (by omega) (by omega)
  refine ⟨fun {y} hy hyn N => ?_, fun hpl => ⟨fun {ν} hm N => ?_, fun {r ν ν2} hr hm hf N => ?_⟩⟩
  · rw [Nat.add_comm]
    show f_X12_doTasks_B0 _ _ = _
    unfold f_X12_doTasks_B0 f_X12_doTasks_b82
    rw [h54, if_neg hn0, if_pos h0, e1, gdn ht (by omega), gdn ht (by omega), xA_n (by omega), h62, hy, bd_of, if_pos hyn, xA_n (by omega), h63, gdn hp (by omega)]
  · rw [Nat.add_comm]
    show f_X12_doTasks_B0 _ _ = _
    unfold f_X12_doTasks_B0 f_X12_doTasks_b82
    rw [h54, if_neg hn0, if_pos h0, e1, gdn ht (by omega), gdn ht (by omega), xA_n (by omega), h62, hpl, bd_of, if_neg lg_m1.1, hm, bd_of, if_pos (by decide), xA_n (by omega), h63, gdn hp (by omega)]
  · rw [Nat.add_comm]
    show f_X12_doTasks_B0 _ _ = _
    unfold f_X12_doTasks_B0 f_X12_doTasks_b82
    rw [h54, if_neg hn0, if_pos h0, e1, gdn ht (by omega), gdn ht (by omega), xA_n (by omega), h62, hpl, bd_of, if_neg lg_m1.1, hm, bd_of, if_neg (nI_nneg hr), show f_X12_value 3 (nI r) ν = some (vv 3 (nI r), ν) from rfl, bd_of, hf, bd_of, xA_n (by omega), h63, gdn hp (by omega)]
