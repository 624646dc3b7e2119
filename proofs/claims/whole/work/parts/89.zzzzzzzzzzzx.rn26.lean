theorem VL.int {τ : S5} {F : Nat} {pa : Nat → Nat} {n : Nat} {tg ct : Nat → Nat} {x y : Int64} (v : VL τ F pa n tg ct x y) : (∃ i, x = vv 1 i ∧ y = vv 0 i) ∨ (¬ (j_lushr x 32).toInt32 = 1 ∧ ¬ (j_lshr y 32).toInt32 = 0) := by
  rcases v with v | ⟨f, -, -, rfl, rfl⟩ | ⟨k, -, -, -, rfl, rfl⟩ | ⟨c, -, h, rfl, rfl⟩
  · exact Or.inl v
  · refine Or.inr ⟨by rw [vv_tag]; decide, by rw [vv_kd]; decide⟩
  · refine Or.inr ⟨by rw [vv_tag]; decide, by rw [vv_kd]; decide⟩
  · refine Or.inr ⟨?_, by rw [vv_kd]; decide⟩
    rw [vv_tag]
    rcases h with h | h | h <;> rw [h] <;> decide
theorem d_m1 (a : Int32) : a / (-1) = -a := by
  apply Int32.toInt_inj.mp
  have e : (-1 : Int32).toInt = -1 := rfl
  rw [Int32.toInt_div, e, Int32.toInt_neg, Int.tdiv_neg, Int.tdiv_one]
theorem m_m1 (a : Int32) : a - a / (-1) * (-1) = 0 := by
  rw [d_m1]
  grind
/-- both give a value, or both end -/
def GE (τ : S5) (F : Nat) (pa : Nat → Nat) (n : Nat) (tg ct : Nat → Nat) (σ μ : S5) (Fc Fm : Option (Unit × S5)) : Prop := (∃ x y, Fc = some ((), pI (pJ σ 5 x) 45 0) ∧ Fm = some ((), pI (pJ μ 1 y) 53 1) ∧ VL τ F pa n tg ct x y) ∨ (∃ τ' ν, Fc = some ((), τ') ∧ Fm = some ((), ν) ∧ OV τ' ν ∧ FkC σ τ' ∧ FkM μ ν)
/-- operations are worked out alike -/
theorem oper_go {τ μ0 : S5} {F k T : Nat} {pa nv : Nat → Nat} (hS : PSt τ μ0 F k T pa nv) {n : Nat} {tg ct : Nat → Nat} {σ μ : S5} (hn : NR σ μ) (h0 : gI μ 44 = 0) {x1 y1 x2 y2 : Int64} (v1 : VL τ F pa n tg ct x1 y1) (v2 : VL τ F pa n tg ct x2 y2) {s : Int32} (hs : 0 < rkK s) : GE τ F pa n tg ct σ μ (f_X3_operate s x1 x2 σ) (f_X12_reckon (kMd s) y1 y2 μ) := by
  have hend : ∀ b : Int32, ∃ τ' ν, bd (f_X3_endWith 2 b σ) (fun _ τ20 => some ((), τ20)) = some ((), τ') ∧ bd (f_X12_ends 2 b μ) (fun _ τ18 => some ((), τ18)) = some ((), ν) ∧ OV τ' ν ∧ FkC σ τ' ∧ FkM μ ν := by
    intro b
    obtain ⟨τ', ν, c1, c2, c3, c4, c5, -, -⟩ := end_go hn h0 2 b (by decide)
    exact ⟨τ', ν, by rw [c1]; rfl, by rw [c2]; rfl, c3, c4, c5⟩
  have tr : ∀ z : Nat, z < 2 → VL τ F pa n tg ct (vv 3 (nI z)) (vv 2 (nI z)) := by
    intro z hz
    have h2 : (2 : Int32) ≤ gI τ 4 := hS.2.1.2.1
    refine Or.inr (Or.inr (Or.inl ⟨z, by omega, ?_, ?_, rfl, rfl⟩))
    · have hz2 : nI z < 2 := (nI_lt31 (b := 2) (by omega) (by omega)).mpr hz
      exact Int32.lt_of_lt_of_le hz2 h2
    · have hc : z = 0 ∨ z = 1 := by omega
      rcases hc with rfl | rfl
      · exact hS.2.2.2.1.1
      · exact hS.2.2.2.1.2
  rcases v1.int with ⟨a, rfl, rfl⟩ | ⟨p1, p2⟩
  · rcases v2.int with ⟨b, rfl, rfl⟩ | ⟨q1, q2⟩
    · have cT : ∀ z : Int32, f_X0_tag (vv 1 z) σ = some (1, σ) := fun z => by
        show some ((j_lushr (vv 1 z) 32).toInt32, σ) = _
        rw [vv_tag]
      have mT : ∀ z : Int32, f_X12_kindOf (vv 0 z) μ = some (0, μ) := fun z => by
        show some ((j_lshr (vv 0 z) 32).toInt32, μ) = _
        rw [vv_kd]
      have mO : ∀ z : Int32, f_X12_of (vv 0 z) μ = some (z, μ) := fun z => by
        show some ((vv 0 z).toInt32, μ) = _
        rw [vv_of]
      have gi : ∀ z : Int32, ∃ x y, some ((), pI (pJ σ 5 (vv 1 z)) 45 0) = some ((), pI (pJ σ 5 x) 45 0) ∧ some ((), pI (pJ μ 1 (vv 0 z)) 53 1) = some ((), pI (pJ μ 1 y) 53 1) ∧ VL τ F pa n tg ct x y := fun z => ⟨_, _, rfl, rfl, Or.inl ⟨z, rfl, rfl⟩⟩
      unfold f_X3_operate f_X12_reckon
      rw [cT, bd_of, if_pos rfl, cT, bd_of, if_pos rfl, vv_of, vv_of, mT, bd_of, if_pos rfl, mT, bd_of, if_pos rfl, mO, bd_of, mO, bd_of]
      have key : s = 129 ∨ s = 130 ∨ s = 60 ∨ s = 43 ∨ s = 45 ∨ s = 42 ∨ s = 47 ∨ s = 37 := by
        unfold rkK at hs
        by_cases h1 : s = 129
        · exact Or.inl h1
        by_cases h2 : s = 130
        · exact Or.inr (Or.inl h2)
        by_cases h3 : s = 60
        · exact Or.inr (Or.inr (Or.inl h3))
        by_cases h4 : s = 43
        · exact Or.inr (Or.inr (Or.inr (Or.inl h4)))
        by_cases h5 : s = 45
        · exact Or.inr (Or.inr (Or.inr (Or.inr (Or.inl h5))))
        by_cases h6 : s = 42
        · exact Or.inr (Or.inr (Or.inr (Or.inr (Or.inr (Or.inl h6)))))
        by_cases h7 : s = 47
        · exact Or.inr (Or.inr (Or.inr (Or.inr (Or.inr (Or.inr (Or.inl h7))))))
        by_cases h8 : s = 37
        · exact Or.inr (Or.inr (Or.inr (Or.inr (Or.inr (Or.inr (Or.inr h8))))))
        rw [if_neg h1, if_neg h2, if_neg h3, if_neg h4, if_neg h5, if_neg h6, if_neg h7, if_neg h8] at hs
        exact absurd hs (by decide)
      rcases key with rfl | rfl | rfl | rfl | rfl | rfl | rfl | rfl
      · rw [if_neg (by decide), if_neg (by decide), if_neg (by decide), if_neg (by decide), if_pos rfl, show kMd 129 = 21 from rfl, if_pos rfl]
        by_cases hab : a = b
        · rw [if_pos hab, if_pos hab]
          exact Or.inl ⟨vv 3 (nI 1), vv 2 (nI 1), rfl, rfl, tr 1 (by decide)⟩
        · rw [if_neg hab, if_neg hab]
          exact Or.inl ⟨vv 3 (nI 0), vv 2 (nI 0), rfl, rfl, tr 0 (by decide)⟩
      · rw [if_neg (by decide), if_neg (by decide), if_neg (by decide), if_neg (by decide), if_neg (by decide), if_pos rfl, show kMd 130 = 22 from rfl]
        by_cases hab : b < a
        · rw [if_pos hab, if_neg (show ¬ (22 : Int32) = 21 by decide), if_pos rfl, if_pos hab]
          exact Or.inl ⟨vv 3 (nI 0), vv 2 (nI 0), rfl, rfl, tr 0 (by decide)⟩
        · rw [if_neg hab, if_neg (show ¬ (22 : Int32) = 21 by decide), if_pos rfl, if_neg hab]
          exact Or.inl ⟨vv 3 (nI 1), vv 2 (nI 1), rfl, rfl, tr 1 (by decide)⟩
      · rw [if_neg (by decide), if_neg (by decide), if_neg (by decide), if_pos rfl, show kMd 60 = 160 from rfl]
        by_cases hab : b ≤ a
        · rw [if_pos hab, if_neg (show ¬ (160 : Int32) = 21 by decide), if_neg (show ¬ (160 : Int32) = 22 by decide), if_neg (show ¬ (160 : Int32) = 137 by decide), if_neg (show ¬ (160 : Int32) = 142 by decide), if_neg (show ¬ (160 : Int32) = 143 by decide), if_neg (show ¬ (160 : Int32) = 145 by decide), if_neg (show ¬ (160 : Int32) = 147 by decide), if_pos hab]
          exact Or.inl ⟨vv 3 (nI 0), vv 2 (nI 0), rfl, rfl, tr 0 (by decide)⟩
        · rw [if_neg hab, if_neg (show ¬ (160 : Int32) = 21 by decide), if_neg (show ¬ (160 : Int32) = 22 by decide), if_neg (show ¬ (160 : Int32) = 137 by decide), if_neg (show ¬ (160 : Int32) = 142 by decide), if_neg (show ¬ (160 : Int32) = 143 by decide), if_neg (show ¬ (160 : Int32) = 145 by decide), if_neg (show ¬ (160 : Int32) = 147 by decide), if_neg hab]
          exact Or.inl ⟨vv 3 (nI 1), vv 2 (nI 1), rfl, rfl, tr 1 (by decide)⟩
      · rw [if_neg (by decide), if_pos rfl, show kMd 43 = 143 from rfl, if_neg (by decide), if_neg (by decide), if_neg (by decide), if_neg (by decide), if_pos rfl]
        exact Or.inl ⟨vv 1 (a + b), vv 0 (a + b), rfl, rfl, Or.inl ⟨_, rfl, rfl⟩⟩
      · rw [if_neg (by decide), if_neg (by decide), if_pos rfl, show kMd 45 = 145 from rfl, if_neg (by decide), if_neg (by decide), if_neg (by decide), if_neg (by decide), if_neg (by decide), if_pos rfl]
        exact Or.inl ⟨vv 1 (a - b), vv 0 (a - b), rfl, rfl, Or.inl ⟨_, rfl, rfl⟩⟩
      · rw [if_pos rfl, show kMd 42 = 142 from rfl, if_neg (by decide), if_neg (by decide), if_neg (by decide), if_pos rfl]
        exact Or.inl ⟨vv 1 (a * b), vv 0 (a * b), rfl, rfl, Or.inl ⟨_, rfl, rfl⟩⟩
      · rw [if_neg (by decide), if_neg (by decide), if_neg (by decide), if_neg (by decide), if_neg (by decide), if_neg (by decide), show kMd 47 = 147 from rfl, if_neg (by decide), if_neg (by decide), if_neg (by decide), if_neg (by decide), if_neg (by decide), if_neg (by decide), if_pos rfl]
        unfold f_X3_divide
        by_cases hb0 : b = 0
        · rw [if_pos hb0, if_pos hb0]
          obtain ⟨τ', ν, c1, c2, c3, c4, c5⟩ := hend 2
          exact Or.inr ⟨τ', ν, by rw [c1]; rfl, c2, c3, c4, c5⟩
        · rw [if_neg hb0, if_neg hb0, if_pos rfl, if_pos rfl]
          unfold gz
          rw [if_neg hb0, if_neg hb0]
          by_cases hbm : b = -1
          · rw [if_pos hbm, hbm, d_m1]
            exact Or.inl ⟨vv 1 (-a), vv 0 (-a), rfl, rfl, Or.inl ⟨_, rfl, rfl⟩⟩
          · rw [if_neg hbm]
            exact Or.inl ⟨vv 1 (a / b), vv 0 (a / b), rfl, rfl, Or.inl ⟨_, rfl, rfl⟩⟩
      · rw [if_neg (by decide), if_neg (by decide), if_neg (by decide), if_neg (by decide), if_neg (by decide), if_neg (by decide), show kMd 37 = 137 from rfl, if_neg (by decide), if_neg (by decide), if_pos rfl]
        unfold f_X3_divide
        by_cases hb0 : b = 0
        · rw [if_pos hb0, if_pos hb0]
          obtain ⟨τ', ν, c1, c2, c3, c4, c5⟩ := hend 2
          exact Or.inr ⟨τ', ν, by rw [c1]; rfl, c2, c3, c4, c5⟩
        · rw [if_neg hb0, if_neg hb0, if_neg (by decide), if_neg (by decide)]
          unfold gz
          rw [if_neg hb0, if_neg hb0]
          by_cases hbm : b = -1
          · rw [if_pos hbm, hbm, m_m1]
            exact Or.inl ⟨vv 1 0, vv 0 0, rfl, rfl, Or.inl ⟨_, rfl, rfl⟩⟩
          · rw [if_neg hbm]
            exact Or.inl ⟨vv 1 (a - a / b * b), vv 0 (a - a / b * b), rfl, rfl, Or.inl ⟨_, rfl, rfl⟩⟩
    · obtain ⟨τ', ν, c1, c2, c3, c4, c5⟩ := hend 4
      refine Or.inr ⟨τ', ν, ?_, ?_, c3, c4, c5⟩
      · unfold f_X3_operate f_X3_operate_b17
        rw [show f_X0_tag (vv 1 a) σ = some ((j_lushr (vv 1 a) 32).toInt32, σ) from rfl, vv_tag, bd_of, if_pos rfl, show f_X0_tag x2 σ = some ((j_lushr x2 32).toInt32, σ) from rfl, bd_of, if_neg q1]
        exact c1
      · unfold f_X12_reckon f_X12_reckon_b15
        rw [show f_X12_kindOf (vv 0 a) μ = some ((j_lshr (vv 0 a) 32).toInt32, μ) from rfl, vv_kd, bd_of, if_pos rfl, show f_X12_kindOf y2 μ = some ((j_lshr y2 32).toInt32, μ) from rfl, bd_of, if_neg q2]
        exact c2
  · obtain ⟨τ', ν, c1, c2, c3, c4, c5⟩ := hend 4
    refine Or.inr ⟨τ', ν, ?_, ?_, c3, c4, c5⟩
    · unfold f_X3_operate f_X3_operate_b17
      rw [show f_X0_tag x1 σ = some ((j_lushr x1 32).toInt32, σ) from rfl, bd_of, if_neg p1]
      exact c1
    · unfold f_X12_reckon f_X12_reckon_b15
      rw [show f_X12_kindOf y1 μ = some ((j_lshr y1 32).toInt32, μ) from rfl, bd_of, if_neg p2]
      exact c2
