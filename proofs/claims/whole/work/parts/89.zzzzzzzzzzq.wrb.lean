theorem okb {b : Int32} (h : 32 ≤ b ∧ b ≤ 126) : okL [b] := okL.cs (Or.inr h) okL.nil
/-- what stands around the parts of a node -/
theorem ar_in {μ0 : S5} {p k i : Nat} (hp : p < 7000) (hk : k ≤ 10) (hi : i < k) (h34 : xA μ0 34 (nI p) = nI k) {μ : S5} (hq : eqQ μ0 μ) : f_X12_around (nI p) (nI i) μ = f_X12_around_b15 (nI p) (nI i) 0 μ := by
  unfold f_X12_around
  rw [gdn hp (by omega), hq.x 34 _ (by decide), h34, if_neg (fun w => by have := nI_injL (a := i) (b := k) (by omega) (by omega) w; omega)]
theorem ar_en {μ0 : S5} {p k : Nat} (hp : p < 7000) (h34 : xA μ0 34 (nI p) = nI k) {μ : S5} (hq : eqQ μ0 μ) : f_X12_around (nI p) (nI k) μ = f_X12_around_b15 (nI p) (nI k) 1 μ := by
  unfold f_X12_around
  rw [gdn hp (by omega), hq.x 34 _ (by decide), h34, if_pos rfl]
theorem nI_z {i : Nat} (h : i < 2 ^ 31) (h0 : ¬ i = 0) : ¬ nI i = 0 := fun w => h0 (nI_injL (a := i) (b := 0) h (by omega) w)
/-- the row of an application -/
theorem aw_app {μ0 : S5} {p k : Nat} (hp : p < 7000) (hk : k ≤ 10) (h34 : xA μ0 34 (nI p) = nI k) (h31 : xA μ0 31 (nI p) = 6) : (∀ i, i < k → Wm μ0 (f_X12_around (nI p) (nI i)) (if i = 0 then [40] else [32])) ∧ Wm μ0 (f_X12_around (nI p) (nI k)) [41] := by
  refine ⟨fun i hi μ ν hq h => ?_, fun μ ν hq h => ?_⟩
  · rw [ar_in hp hk hi h34 hq]
    unfold f_X12_around_b15 f_X12_around_b375
    rw [gdn hp (by omega), hq.x 31 _ (by decide), h31, if_neg (by decide), if_neg (by decide), if_neg (by decide), if_neg (by decide), if_neg (by decide), if_neg (by decide), if_pos rfl, if_pos rfl]
    by_cases h0 : i = 0
    · rw [if_pos h0] at h
      rw [if_pos (by rw [h0]; rfl), h.one, bd_of]
    · rw [if_neg h0] at h
      rw [if_neg (nI_z (by omega) h0), h.one, bd_of]
  · rw [ar_en hp h34 hq]
    unfold f_X12_around_b15 f_X12_around_b375
    rw [gdn hp (by omega), hq.x 31 _ (by decide), h31, if_neg (by decide), if_neg (by decide), if_neg (by decide), if_neg (by decide), if_neg (by decide), if_neg (by decide), if_pos rfl, if_neg (by decide), h.one, bd_of]
/-- an operation -/
theorem aw_sign {μ0 : S5} {p : Nat} {o : Int32} {Lo : List Int32} (hp : p < 7000) (h34 : xA μ0 34 (nI p) = nI 2) (h31 : xA μ0 31 (nI p) = 5) (h32 : xA μ0 32 (nI p) = o) (ho : Wm μ0 (f_X12_operation o) Lo) : (∀ i, i < 2 → Wm μ0 (f_X12_around (nI p) (nI i)) (if i = 0 then [40] else Lo)) ∧ Wm μ0 (f_X12_around (nI p) (nI 2)) [41] := by
  refine ⟨fun i hi μ ν hq h => ?_, fun μ ν hq h => ?_⟩
  · rw [ar_in hp (by omega) hi h34 hq]
    unfold f_X12_around_b15 f_X12_around_b305
    rw [gdn hp (by omega), hq.x 31 _ (by decide), h31, if_neg (by decide), if_neg (by decide), if_neg (by decide), if_neg (by decide), if_neg (by decide), if_pos rfl]
    by_cases h0 : i = 0
    · subst h0
      rw [if_pos rfl] at h
      rw [if_neg (by decide), if_pos rfl, h.one, bd_of]
    · obtain rfl : i = 1 := by omega
      rw [if_neg h0] at h
      rw [if_pos (show nI 1 = 1 from rfl), gdn hp (by omega), hq.x 32 _ (by decide), h32, ho _ _ hq h, bd_of]
  · rw [ar_en hp h34 hq]
    unfold f_X12_around_b15 f_X12_around_b305
    rw [gdn hp (by omega), hq.x 31 _ (by decide), h31, if_neg (by decide), if_neg (by decide), if_neg (by decide), if_neg (by decide), if_neg (by decide), if_pos rfl, if_neg (by decide), if_neg (by decide), h.one, bd_of]
/-- a constructor with fields -/
theorem aw_cons {μ0 : S5} {p k : Nat} {z : Int32} {Ln : List Int32} (hp : p < 7000) (hk0 : 1 ≤ k) (hk : k ≤ 10) (h34 : xA μ0 34 (nI p) = nI k) (h31 : xA μ0 31 (nI p) = 7) (h32 : xA μ0 32 (nI p) = z) (hz0 : 0 ≤ z) (hz1 : z < 30) (hn : ∀ μ ν, LWm Ln μ ν → f_X12_signs (xB μ0 3 z) μ = some ((), ν)) : (∀ i, i < k → Wm μ0 (f_X12_around (nI p) (nI i)) (if i = 0 then [40] ++ (Ln ++ [32]) else [32])) ∧ Wm μ0 (f_X12_around (nI p) (nI k)) [41] := by
  refine ⟨fun i hi μ ν hq h => ?_, fun μ ν hq h => ?_⟩
  · rw [ar_in hp hk hi h34 hq]
    unfold f_X12_around_b15 f_X12_around_b336 f_X12_around_b348
    rw [gdn hp (by omega), hq.x 31 _ (by decide), h31, if_neg (by decide), if_neg (by decide), if_neg (by decide), if_neg (by decide), if_neg (by decide), if_neg (by decide), if_neg (by decide), if_pos rfl]
    by_cases h0 : i = 0
    · subst h0
      rw [if_pos rfl] at h
      obtain ⟨ρ1, l1, l2⟩ := LWm.ap h
      obtain ⟨ρ2, l3, l4⟩ := LWm.ap l2
      have c1 := hq.fr l1.fr.1
      rw [if_pos (show nI 0 = 0 from rfl), l1.one, bd_of, gdn hp (by omega), c1.x 32 _ (by decide), h32, gd30 hz0 hz1, c1.y 3 _ (by decide), hn _ _ l3, bd_of, if_pos rfl, l4.one, bd_of]
    · rw [if_neg h0] at h
      rw [if_neg (nI_z (by omega) h0), if_pos rfl, h.one, bd_of]
  · rw [ar_en hp h34 hq]
    unfold f_X12_around_b15 f_X12_around_b336 f_X12_around_b348
    rw [gdn hp (by omega), hq.x 31 _ (by decide), h31, if_neg (by decide), if_neg (by decide), if_neg (by decide), if_neg (by decide), if_neg (by decide), if_neg (by decide), if_neg (by decide), if_pos rfl, if_neg (nI_z (by omega) (by omega)), if_neg (by decide), h.one, bd_of]
/-- a let -/
theorem aw_let {μ0 : S5} {p l x0 : Nat} {Lv : Nat → List Int32} (hp : p < 7000) (hl : 1 ≤ l) (hl5 : l ≤ 5) (h34 : xA μ0 34 (nI p) = nI (l + 1)) (h31 : xA μ0 31 (nI p) = 0) (h32 : xA μ0 32 (nI p) = nI l) (h35 : xA μ0 35 (nI p) = nI x0) (hv : ∀ i, i < l → Wm μ0 (f_X12_variable (nI (x0 + i))) (Lv i)) : (∀ i, i < l + 1 → Wm μ0 (f_X12_around (nI p) (nI i)) (if i = l then [32, 105, 110, 32] else (if i = 0 then [40, 108, 101, 116, 32] else [44, 32]) ++ (Lv i ++ [32, 61, 32]))) ∧ Wm μ0 (f_X12_around (nI p) (nI (l + 1))) [41] := by
  refine ⟨fun i hi μ ν hq h => ?_, fun μ ν hq h => ?_⟩
  · rw [ar_in hp (by omega) hi h34 hq]
    unfold f_X12_around_b15 f_X12_around_b141
    rw [gdn hp (by omega), hq.x 31 _ (by decide), h31, if_pos rfl, if_pos rfl, gdn hp (by omega), hq.x 32 _ (by decide), h32]
    by_cases hil : i = l
    · subst hil
      rw [if_pos rfl] at h
      rw [if_pos rfl, pk_go, bd_of, sgk pl_in h, bd_of]
    · rw [if_neg hil] at h
      rw [if_neg (fun w => hil (nI_injL (by omega) (by omega) w))]
      obtain ⟨ρ1, l1, l2⟩ := LWm.ap h
      obtain ⟨ρ2, l3, l4⟩ := LWm.ap l2
      have c1 := hq.fr l1.fr.1
      have c2 := c1.fr l3.fr.1
      by_cases h0 : i = 0
      · rw [if_pos h0] at l1
        rw [if_pos (by rw [h0]; rfl), pk_go, bd_of, sgk pl_let l1, bd_of, gdn hp (by omega), c1.x 35 _ (by decide), h35, nI_plus, hv i (by omega) _ _ c1 l3, bd_of, pk_go, bd_of, sgk pl_is l4, bd_of]
      · rw [if_neg h0] at l1
        rw [if_neg (nI_z (by omega) h0), pk_go, bd_of, sgk pl_cm l1, bd_of, gdn hp (by omega), c1.x 35 _ (by decide), h35, nI_plus, hv i (by omega) _ _ c1 l3, bd_of, pk_go, bd_of, sgk pl_is l4, bd_of]
  · rw [ar_en hp h34 hq]
    unfold f_X12_around_b15
    rw [gdn hp (by omega), hq.x 31 _ (by decide), h31, if_pos rfl, if_neg (by decide), h.one, bd_of]
/-- a case -/
theorem aw_case {μ0 : S5} {p l ct : Nat} {Lp : Nat → List Int32} (hp : p < 7000) (hl : 1 ≤ l) (hl8 : l ≤ 8) (h34 : xA μ0 34 (nI p) = nI (l + 1)) (h31 : xA μ0 31 (nI p) = 3) (h33 : xA μ0 33 (nI p) = nI ct) (hv : ∀ i, i < l → Wm μ0 (f_X12_pattern (nI (ct + 1 + i))) (Lp i ++ [32, 45, 62, 32])) : (∀ i, i < l + 1 → Wm μ0 (f_X12_around (nI p) (nI i)) (if i = 0 then [40, 99, 97, 115, 101] ++ [32] else (if i = 1 then [32, 111, 102, 32, 123] else [59, 32]) ++ (Lp (i - 1) ++ [32, 45, 62, 32]))) ∧ Wm μ0 (f_X12_around (nI p) (nI (l + 1))) [125, 41] := by
  refine ⟨fun i hi μ ν hq h => ?_, fun μ ν hq h => ?_⟩
  · rw [ar_in hp (by omega) hi h34 hq]
    unfold f_X12_around_b15 f_X12_around_b257
    rw [gdn hp (by omega), hq.x 31 _ (by decide), h31, if_neg (by decide), if_neg (by decide), if_neg (by decide), if_pos rfl, if_pos rfl]
    by_cases h0 : i = 0
    · subst h0
      rw [if_pos rfl] at h
      obtain ⟨ρ1, l1, l2⟩ := LWm.ap h
      rw [if_pos (show nI 0 = 0 from rfl), pk_go, bd_of, sgk pl_cs l1, bd_of, l2.one, bd_of]
    · rw [if_neg h0] at h
      rw [if_neg (nI_z (by omega) h0)]
      obtain ⟨ρ1, l1, l2⟩ := LWm.ap h
      have c1 := hq.fr l1.fr.1
      have e : nI ct + nI i = nI (ct + 1 + (i - 1)) := by rw [nI_plus, show ct + i = ct + 1 + (i - 1) by omega]
      by_cases h1 : i = 1
      · rw [if_pos h1] at l1
        rw [if_pos (by rw [h1]; rfl), pk_go, bd_of, sgk pl_of l1, bd_of, gdn hp (by omega), c1.x 33 _ (by decide), h33, e, hv (i - 1) (by omega) _ _ c1 l2, bd_of]
      · rw [if_neg h1] at l1
        rw [if_neg (show ¬ nI i = 1 from fun w => h1 (nI_injL (a := i) (b := 1) (by omega) (by omega) w)), pk_go, bd_of, sgk pl_sc l1, bd_of, gdn hp (by omega), c1.x 33 _ (by decide), h33, e, hv (i - 1) (by omega) _ _ c1 l2, bd_of]
  · rw [ar_en hp h34 hq]
    unfold f_X12_around_b15
    rw [gdn hp (by omega), hq.x 31 _ (by decide), h31, if_neg (by decide), if_neg (by decide), if_neg (by decide), if_pos rfl, if_neg (by decide), pk_go, bd_of, sgk pl_cl h, bd_of]
