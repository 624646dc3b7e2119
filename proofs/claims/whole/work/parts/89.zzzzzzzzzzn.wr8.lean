/-- while the program is written, its rows stay -/
def CW (τ0 σ : S5) : Prop := eqP τ0 σ ∧ gN σ 9 = 1
theorem CW.fr {τ0 σ τ : S5} (h : CW τ0 σ) (f : FrWc σ τ) : CW τ0 τ := ⟨⟨fun j hj => (f.1 j (by omega) (by omega)).trans (h.1.1 j hj), fun j hj => (f.2.2.1 j (by omega)).trans (h.1.2.1 j hj), fun j hj => (f.2.2.2.1 j).trans (h.1.2.2 j hj)⟩, (congrFun f.2.2.2.2 9).trans h.2⟩
theorem eqQ.fr {μ0 μ ν : S5} (h : eqQ μ0 μ) (f : FrWm μ ν) : eqQ μ0 ν := ⟨fun j hj => (f.1 j (by omega)).trans (h.1 j hj), fun j hj => (f.2.2.1 j (by omega) (by omega) (by omega)).trans (h.2.1 j hj), fun j hj => (f.2.2.2.1 j).trans (h.2.2 j hj)⟩
theorem CW.x {τ0 σ : S5} (h : CW τ0 σ) (j : Nat) (x : Int32) (hj : 2 ≤ j ∧ j ≤ 19) : xA σ j x = xA τ0 j x := congrFun (h.1.2.1 j hj) _
theorem CW.y {τ0 σ : S5} (h : CW τ0 σ) (j : Nat) (x : Int32) (hj : j = 0 ∨ j = 1 ∨ j = 2 ∨ j = 5) : xB σ j x = xB τ0 j x := congrFun (h.1.2.2 j hj) _
theorem eqQ.x {μ0 μ : S5} (h : eqQ μ0 μ) (j : Nat) (x : Int32) (hj : j = 13 ∨ j = 20 ∨ (31 ≤ j ∧ j ≤ 47) ∨ j = 49 ∨ j = 52) : xA μ j x = xA μ0 j x := congrFun (h.2.1 j hj) _
theorem eqQ.y {μ0 μ : S5} (h : eqQ μ0 μ) (j : Nat) (x : Int32) (hj : j = 2 ∨ j = 3 ∨ j = 5) : xB μ j x = xB μ0 j x := congrFun (h.2.2 j hj) _
theorem gq1 {β : Type} {τ0 σ : S5} (h : CW τ0 σ) (x : Option β) : gq (gN σ 9) 1 x = x := by
  unfold gq
  rw [if_pos h.2]
/-- it writes these signs -/
def Wc (τ0 : S5) (G : S5 → Option (Unit × S5)) (L : List Int32) : Prop := ∀ σ τ, CW τ0 σ → LWc L σ τ → G σ = some ((), τ)
def Wm (μ0 : S5) (G : S5 → Option (Unit × S5)) (L : List Int32) : Prop := ∀ μ ν, eqQ μ0 μ → LWm L μ ν → G μ = some ((), ν)
theorem LWc.one {b : Int32} {σ τ : S5} (h : LWc [b] σ τ) : f_X8_add_draft b σ = some ((), τ) := by
  obtain ⟨ρ, h1, h2⟩ := h
  cases h2
  exact h1
theorem LWm.one {b : Int32} {σ τ : S5} (h : LWm [b] σ τ) : f_X12_letters b σ = some ((), τ) := by
  obtain ⟨ρ, h1, h2⟩ := h
  cases h2
  exact h1
def pk1 (u : Int64) (x : Int32) : Int64 := if x = 0 then u else (j_lshl u 8) ||| x.toInt64
def pkV (a b c d e : Int32) : Int64 := pk1 (pk1 (pk1 (pk1 a.toInt64 b) c) d) e
theorem pk_go (a b c d e : Int32) (μ : S5) : f_X12_pack a b c d e μ = some (pkV a b c d e, μ) := by
  unfold f_X12_pack f_X12_pack_b21 f_X12_pack_b40 f_X12_pack_b59 pkV pk1
  by_cases hb : b = 0 <;> by_cases hc : c = 0 <;> by_cases hd : d = 0 <;> by_cases he : e = 0 <;> simp [hb, hc, hd, he]
theorem pl_main : byL (byM (pkV 109 97 105 110 0)) 8 = [109, 97, 105, 110] := by decide
theorem pl_eq : byL (byM (pkV 61 61 0 0 0)) 8 = [61, 61] := by decide
theorem pl_le : byL (byM (pkV 60 61 0 0 0)) 8 = [60, 61] := by decide
theorem pl_ar : byL (byM (pkV 32 45 62 32 0)) 8 = [32, 45, 62, 32] := by decide
theorem pl_is : byL (byM (pkV 32 61 32 0 0)) 8 = [32, 61, 32] := by decide
theorem pl_in : byL (byM (pkV 32 105 110 32 0)) 8 = [32, 105, 110, 32] := by decide
theorem pl_let : byL (byM (pkV 40 108 101 116 32)) 8 = [40, 108, 101, 116, 32] := by decide
theorem pl_cm : byL (byM (pkV 44 32 0 0 0)) 8 = [44, 32] := by decide
theorem pl_cs : byL (byM (pkV 40 99 97 115 101)) 8 = [40, 99, 97, 115, 101] := by decide
theorem pl_of : byL (byM (pkV 32 111 102 32 123)) 8 = [32, 111, 102, 32, 123] := by decide
theorem pl_sc : byL (byM (pkV 59 32 0 0 0)) 8 = [59, 32] := by decide
theorem pl_cl : byL (byM (pkV 125 41 0 0 0)) 8 = [125, 41] := by decide
theorem pl_fl : byL (byM (pkV 102 97 105 108 0)) 8 = [102, 97, 105, 108] := by decide
theorem pl_dt : byL (byM (pkV 100 97 116 97 32)) 8 = [100, 97, 116, 97, 32] := by decide
theorem pl_or : byL (byM (pkV 32 124 32 0 0)) 8 = [32, 124, 32] := by decide
theorem sgk {a b c d e : Int32} {L : List Int32} (hL : byL (byM (pkV a b c d e)) 8 = L) {μ ν : S5} (h : LWm L μ ν) : f_X12_signs (pkV a b c d e) μ = some ((), ν) := sgM_go (by rw [hL]; exact h)
/-- the constant texts -/
theorem txC {z : Nat} (hz : z < 16) {L : List Int32} (hL : L = (List.range (sLen.getD z 0)).map (fun k => sB z (0 + k))) {σ τ : S5} (h : LWc L σ τ) : f_X8_addText_draft z σ = some ((), τ) := by
  have hb := FU_big (n := 5000) (by decide)
  have hl := (sLen_s z hz).2
  unfold f_X8_addText_draft
  exact cx_go hz (sLen.getD z 0) 0 FU L σ τ (by omega) (by omega) hL h
theorem tl_1 : [100, 97, 116, 97, 32] = (List.range (sLen.getD 1 0)).map (fun k => sB 1 (0 + k)) := by decide
theorem tl_2 : [32, 124, 32] = (List.range (sLen.getD 2 0)).map (fun k => sB 2 (0 + k)) := by decide
theorem tl_3 : [59, 10] = (List.range (sLen.getD 3 0)).map (fun k => sB 3 (0 + k)) := by decide
theorem tl_4 : [109, 97, 105, 110] = (List.range (sLen.getD 4 0)).map (fun k => sB 4 (0 + k)) := by decide
theorem tl_5 : [32, 61, 32] = (List.range (sLen.getD 5 0)).map (fun k => sB 5 (0 + k)) := by decide
theorem tl_6 : [102, 97, 105, 108] = (List.range (sLen.getD 6 0)).map (fun k => sB 6 (0 + k)) := by decide
theorem tl_7 : [61, 61] = (List.range (sLen.getD 7 0)).map (fun k => sB 7 (0 + k)) := by decide
theorem tl_8 : [60, 61] = (List.range (sLen.getD 8 0)).map (fun k => sB 8 (0 + k)) := by decide
theorem tl_9 : [99, 97, 115, 101, 32] = (List.range (sLen.getD 9 0)).map (fun k => sB 9 (0 + k)) := by decide
theorem tl_10 : [32, 111, 102, 32, 123] = (List.range (sLen.getD 10 0)).map (fun k => sB 10 (0 + k)) := by decide
theorem tl_11 : [59, 32] = (List.range (sLen.getD 11 0)).map (fun k => sB 11 (0 + k)) := by decide
theorem tl_12 : [32, 45, 62, 32] = (List.range (sLen.getD 12 0)).map (fun k => sB 12 (0 + k)) := by decide
theorem tl_13 : [108, 101, 116, 32] = (List.range (sLen.getD 13 0)).map (fun k => sB 13 (0 + k)) := by decide
theorem tl_14 : [44, 32] = (List.range (sLen.getD 14 0)).map (fun k => sB 14 (0 + k)) := by decide
theorem tl_15 : [32, 105, 110, 32] = (List.range (sLen.getD 15 0)).map (fun k => sB 15 (0 + k)) := by decide
/-- signs of a text -/
def okL (L : List Int32) : Prop := ∀ b, b ∈ L → okS b
theorem okL.ap {L L' : List Int32} (h : okL L) (h' : okL L') : okL (L ++ L') := fun b hb => (List.mem_append.mp hb).elim (h b) (h' b)
theorem okL.cs {b : Int32} {L : List Int32} (h : okS b) (h' : okL L) : okL (b :: L) := fun x hx => (List.mem_cons.mp hx).elim (fun w => by rw [w]; exact h) (h' x)
theorem okL.nil : okL [] := fun _ hb => absurd hb (List.not_mem_nil)
/-- a variable -/
theorem wv {x : Nat} (hx : x < 2 ^ 31) : ∃ L, okL L ∧ (∀ τ0, Wc τ0 (f_X7_writeVariable (nI x)) L) ∧ ∀ μ0, Wm μ0 (f_X12_variable (nI x)) L := by
  obtain ⟨L, a1, a2, a3⟩ := tx_nm hx
  refine ⟨[118] ++ L, okL.cs (Or.inr (by decide)) a1, fun τ0 σ τ hC h => ?_, fun μ0 μ ν hq h => ?_⟩
  · obtain ⟨ρ, h1, h2⟩ := LWc.ap h
    unfold f_X7_writeVariable
    rw [gq1 hC, h1.one, bd_of, gq1 (hC.fr h1.fr), a2 _ _ h2, bd_of]
  · obtain ⟨ρ, h1, h2⟩ := LWm.ap h
    unfold f_X12_variable
    rw [h1.one, bd_of, a3 _ _ h2, bd_of]
/-- a function's name -/
theorem wf {τ0 μ0 : S5} {k : Nat} (hk : k ≤ 30) (h13 : gI μ0 13 = nI k) (hnm : ∀ i, i < k → xB τ0 1 (nI i) = xB μ0 2 (nI i)) (hd : ∀ i j, i < j → j < k → ¬ xB τ0 1 (nI i) = xB τ0 1 (nI j)) (h7 : gI τ0 7 = tp (xB τ0 1) 1835100526 k 0) {f : Nat} (hf : f < 2 ^ 31) : ∃ L, okL L ∧ Wc τ0 (f_X7_writeFunction (nI f)) L ∧ Wm μ0 (f_X12_functionName (nI f)) L := by
  have hb := FU_big (n := 5000) (by decide)
  have hmf : ∀ μ, eqQ μ0 μ → f_X12_mainFunction μ = some (gI τ0 7, μ) := by
    intro μ hq
    have e2 : ∀ i, i < k → xB μ 2 (nI i) = xB τ0 1 (nI i) := fun i hi => by rw [hq.y 2 _ (by decide), hnm i hi]
    have := mf_L4 (μ := μ) hk (by rw [hq.1 13 (by decide)]; exact h13) (fun i j a b => by rw [e2 i (by omega), e2 j b]; exact hd i j a b) k 0 FU (-1) (by omega) (by omega)
    rw [tp_congr k 0 (b2 := xB τ0 1) (fun x _ hx => e2 x (by omega)), ← h7] at this
    unfold f_X12_mainFunction
    rw [show (0 : Int32) = nI 0 from rfl, this]
    by_cases hh : gI τ0 7 = -1
    · rw [if_pos hh, hh]
    · rw [if_neg hh]
  by_cases hm : nI f = gI τ0 7
  · refine ⟨[109, 97, 105, 110], ?_, fun σ τ hC h => ?_, fun μ ν hq h => ?_⟩
    · exact okL.cs (Or.inr (by decide)) (okL.cs (Or.inr (by decide)) (okL.cs (Or.inr (by decide)) (okL.cs (Or.inr (by decide)) okL.nil)))
    · unfold f_X7_writeFunction
      rw [hC.1.1 7 (by decide), if_pos hm, gq1 hC, txC (by decide) tl_4 h, bd_of]
    · unfold f_X12_functionName
      rw [hmf μ hq, bd_of, if_pos hm, pk_go, bd_of, sgk pl_main h, bd_of]
  · obtain ⟨L, a1, a2, a3⟩ := tx_nm hf
    refine ⟨[102] ++ L, okL.cs (Or.inr (by decide)) a1, fun σ τ hC h => ?_, fun μ ν hq h => ?_⟩
    · obtain ⟨ρ, h1, h2⟩ := LWc.ap h
      unfold f_X7_writeFunction
      rw [hC.1.1 7 (by decide), if_neg hm, gq1 hC, h1.one, bd_of, gq1 (hC.fr h1.fr), a2 _ _ h2, bd_of]
    · obtain ⟨ρ, h1, h2⟩ := LWm.ap h
      unfold f_X12_functionName
      rw [hmf μ hq, bd_of, if_neg hm, h1.one, bd_of, a3 _ _ h2, bd_of]
/-- the sign of an operation -/
theorem wo {k : Int32} (hk : 0 < rkK k) : ∃ L, okL L ∧ (∀ τ0, Wc τ0 (f_X7_writeSign k) L) ∧ ∀ μ0, Wm μ0 (f_X12_operation (kMd k)) L := by
  have key : k = 129 ∨ k = 130 ∨ (¬ k = 129 ∧ ¬ k = 130 ∧ ¬ kMd k = 21 ∧ ¬ kMd k = 22 ∧ kMd k - 100 = k ∧ (32 ≤ k ∧ k ≤ 126)) := by
    unfold rkK at hk
    by_cases h1 : k = 129
    · exact Or.inl h1
    by_cases h2 : k = 130
    · exact Or.inr (Or.inl h2)
    refine Or.inr (Or.inr ?_)
    rw [if_neg h1, if_neg h2] at hk
    by_cases h3 : k = 60
    · subst h3; decide
    by_cases h4 : k = 43
    · subst h4; decide
    by_cases h5 : k = 45
    · subst h5; decide
    by_cases h6 : k = 42
    · subst h6; decide
    by_cases h7 : k = 47
    · subst h7; decide
    by_cases h8 : k = 37
    · subst h8; decide
    rw [if_neg h3, if_neg h4, if_neg h5, if_neg h6, if_neg h7, if_neg h8] at hk
    exact absurd hk (by decide)
  have h32 : okS 32 := Or.inr (by decide)
  rcases key with rfl | rfl | ⟨h1, h2, h3, h4, h5, h6⟩
  · refine ⟨[32] ++ ([61, 61] ++ [32]), okL.cs h32 (okL.cs (Or.inr (by decide)) (okL.cs (Or.inr (by decide)) (okL.cs h32 okL.nil))), fun τ0 σ τ hC h => ?_, fun μ0 μ ν hq h => ?_⟩
    · obtain ⟨ρ1, a1, a2⟩ := LWc.ap h
      obtain ⟨ρ2, a3, a4⟩ := LWc.ap a2
      have c1 := hC.fr a1.fr
      have c2 := c1.fr a3.fr
      unfold f_X7_writeSign f_X7_writeSign_b55
      rw [gq1 hC, a1.one, bd_of, if_pos rfl, gq1 c1, txC (by decide) tl_7 a3, bd_of, gq1 c2, a4.one, bd_of]
    · obtain ⟨ρ1, a1, a2⟩ := LWm.ap h
      obtain ⟨ρ2, a3, a4⟩ := LWm.ap a2
      unfold f_X12_operation f_X12_operation_b60
      rw [a1.one, bd_of, if_pos (by decide), pk_go, bd_of, sgk pl_eq a3, bd_of, a4.one, bd_of]
  · refine ⟨[32] ++ ([60, 61] ++ [32]), okL.cs h32 (okL.cs (Or.inr (by decide)) (okL.cs (Or.inr (by decide)) (okL.cs h32 okL.nil))), fun τ0 σ τ hC h => ?_, fun μ0 μ ν hq h => ?_⟩
    · obtain ⟨ρ1, a1, a2⟩ := LWc.ap h
      obtain ⟨ρ2, a3, a4⟩ := LWc.ap a2
      have c1 := hC.fr a1.fr
      have c2 := c1.fr a3.fr
      unfold f_X7_writeSign f_X7_writeSign_b55
      rw [gq1 hC, a1.one, bd_of, if_neg (by decide), if_pos rfl, gq1 c1, txC (by decide) tl_8 a3, bd_of, gq1 c2, a4.one, bd_of]
    · obtain ⟨ρ1, a1, a2⟩ := LWm.ap h
      obtain ⟨ρ2, a3, a4⟩ := LWm.ap a2
      unfold f_X12_operation f_X12_operation_b60
      rw [a1.one, bd_of, if_neg (by decide), if_pos (by decide), pk_go, bd_of, sgk pl_le a3, bd_of, a4.one, bd_of]
  · refine ⟨[32] ++ ([k] ++ [32]), okL.cs h32 (okL.cs (Or.inr h6) (okL.cs h32 okL.nil)), fun τ0 σ τ hC h => ?_, fun μ0 μ ν hq h => ?_⟩
    · obtain ⟨ρ1, a1, a2⟩ := LWc.ap h
      obtain ⟨ρ2, a3, a4⟩ := LWc.ap a2
      have c1 := hC.fr a1.fr
      have c2 := c1.fr a3.fr
      unfold f_X7_writeSign f_X7_writeSign_b55
      rw [gq1 hC, a1.one, bd_of, if_neg h1, if_neg h2, gq1 c1, a3.one, bd_of, gq1 c2, a4.one, bd_of]
    · obtain ⟨ρ1, a1, a2⟩ := LWm.ap h
      obtain ⟨ρ2, a3, a4⟩ := LWm.ap a2
      unfold f_X12_operation f_X12_operation_b60
      rw [a1.one, bd_of, if_neg h3, if_neg h4, h5, a3.one, bd_of, a4.one, bd_of]
