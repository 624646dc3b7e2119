/-- the other's tasks: so many turns -/
def DT (m : Nat) (μ ν : S5) : Prop := ∀ N, f_X12_doTasks_L0 (m + N) μ = f_X12_doTasks_L0 N ν
theorem DT.rf (μ : S5) : DT 0 μ μ := fun N => by rw [Nat.zero_add]
theorem DT.tr {a b : Nat} {μ ν ρ : S5} (h : DT a μ ν) (g : DT b ν ρ) : DT (a + b) μ ρ := fun N => by rw [Nat.add_assoc, h, g]
/-- only the tasks were written -/
def Ft (μ ν : S5) : Prop := (∀ j, ¬ j = 54 → gI ν j = gI μ j) ∧ (∀ j, gJ ν j = gJ μ j) ∧ (∀ j, ¬ j = 62 → ¬ j = 63 → gA ν j = gA μ j) ∧ (∀ j, gB ν j = gB μ j) ∧ ν.2.2.2.2 = μ.2.2.2.2
theorem Ft.rf (μ : S5) : Ft μ μ := ⟨fun _ _ => rfl, fun _ => rfl, fun _ _ _ => rfl, fun _ => rfl, rfl⟩
theorem Ft.tr {μ ν ρ : S5} (h : Ft μ ν) (g : Ft ν ρ) : Ft μ ρ := ⟨fun j a => (g.1 j a).trans (h.1 j a), fun j => (g.2.1 j).trans (h.2.1 j), fun j a b => (g.2.2.1 j a b).trans (h.2.2.1 j a b), fun j => (g.2.2.2.1 j).trans (h.2.2.2.1 j), g.2.2.2.2.trans h.2.2.2.2⟩
theorem Ft.km {μ ν : S5} (h : Ft μ ν) : FkM μ ν := ⟨fun j _ _ _ _ a => h.1 j a, h.2.1, fun j _ a b => h.2.2.1 j a b, fun j _ => h.2.2.2.1 j, h.2.2.2.2⟩
theorem gA_s {σ : S5} {k i : Nat} {v : Int32} (hi : i < 2 ^ 31) : gA (pA σ k (nI i) v) k i = v := by rw [gA_pA, nI_clamp hi, if_pos ⟨rfl, rfl⟩]
theorem gA_n {σ : S5} {k i j : Nat} {v : Int32} (hi : i < 2 ^ 31) (h : ¬ j = i) : gA (pA σ k (nI i) v) k j = gA σ k j := by rw [gA_pA, nI_clamp hi, if_neg (fun w => h w.2)]
theorem xA_n {σ : S5} {k i : Nat} (hi : i < 2 ^ 31) : xA σ k (nI i) = gA σ k i := by
  show gA σ k (nI i).toNatClampNeg = _
  rw [nI_clamp hi]
/-- the children of a cell become tasks, the first on top -/
theorem ftk_go {μ0 : S5} {p bg ct0 ah m t : Nat} {pp : Nat → Nat} (hp : p < 7000) (h33 : xA μ0 33 (nI p) = nI ct0) (hct : ct0 + ah + m ≤ 14000) (hk : ∀ i, i < m → xA μ0 39 (nI (ct0 + ah + i)) = nI (pp i)) (ht : t + m ≤ 8000) (hb : bg + m < 2 ^ 30) : ∀ (r N : Nat) (μ : S5), r ≤ m → r < N → eqQ μ0 μ → gI μ 54 = nI (t + (m - r)) → (∀ j, r ≤ j → j < m → gA μ 62 (t + (m - 1 - j)) = nI (pp j) ∧ gA μ 63 (t + (m - 1 - j)) = nI (bg + j)) → ∃ ν, f_X12_fill_L104 N (nI p) (nI bg) (nI ah) (nI r - 1) μ = some ((), ν) ∧ Ft μ ν ∧ gI ν 54 = nI (t + m) ∧ (∀ j, j < m → gA ν 62 (t + (m - 1 - j)) = nI (pp j) ∧ gA ν 63 (t + (m - 1 - j)) = nI (bg + j)) ∧ ∀ j, j < t → gA ν 62 j = gA μ 62 j ∧ gA ν 63 j = gA μ 63 j := by
  intro r
  induction r with
  | zero =>
    intro N μ hr hN hQ h54 hts
    obtain ⟨N, rfl⟩ : ∃ n, N = n + 1 := ⟨N - 1, by omega⟩
    refine ⟨μ, ?_, Ft.rf μ, h54, fun j hj => hts j (by omega) hj, fun _ _ => ⟨rfl, rfl⟩⟩
    show f_X12_fill_B104 _ _ _ _ _ _ = _
    unfold f_X12_fill_B104
    rw [if_pos (by decide)]
  | succ r ih =>
    intro N μ hr hN hQ h54 hts
    obtain ⟨N, rfl⟩ : ∃ n, N = n + 1 := ⟨N - 1, by omega⟩
    have e1 : nI (r + 1) - 1 = nI r := by
      rw [show (1 : Int32) = nI 1 from rfl, nI_sub (by omega)]
      rfl
    have e2 : nI r + (-1) = nI r - 1 := by grind
    have e3 : nI (t + (m - (r + 1))) + 1 = nI (t + (m - r)) := by rw [nI_add1, show t + (m - (r + 1)) + 1 = t + (m - r) by omega]
    have hi1 : t + (m - (r + 1)) = t + (m - 1 - r) := by omega
    obtain ⟨ν, a1, a2, a3, a4, a5⟩ := ih N (pI (pA (pA μ 62 (nI (t + (m - (r + 1)))) (nI (pp r))) 63 (nI (t + (m - (r + 1)))) (nI (bg + r))) 54 (nI (t + (m - r)))) (by omega) (by omega) ⟨fun j hj => by rw [gI_pI, if_neg (by omega)]; exact hQ.1 j hj, fun j hj => by
      show gA (pA (pA μ 62 _ _) 63 _ _) j = _
      rw [gA_pA_ne (by omega), gA_pA_ne (by omega)]
      exact hQ.2.1 j hj, hQ.2.2⟩ rfl (fun j j1 j2 => by
      show gA (pA (pA μ 62 _ _) 63 _ _) 62 _ = _ ∧ gA (pA (pA μ 62 _ _) 63 _ _) 63 _ = _
      rw [gA_pA_ne (show ¬ 62 = 63 by decide)]
      by_cases hjr : j = r
      · subst hjr
        rw [hi1, gA_s (by omega), gA_s (by omega)]
        exact ⟨rfl, rfl⟩
      · rw [gA_n (by omega) (by omega), gA_n (by omega) (by omega), show gA (pA μ 62 (nI (t + (m - (r + 1)))) (nI (pp r))) 63 = gA μ 63 from gA_pA_ne (by decide)]
        exact hts j (by omega) j2)
    have hF1 : Ft μ (pI (pA (pA μ 62 (nI (t + (m - (r + 1)))) (nI (pp r))) 63 (nI (t + (m - (r + 1)))) (nI (bg + r))) 54 (nI (t + (m - r)))) := ⟨fun j a => by rw [gI_pI, if_neg a]; rfl, fun _ => rfl, fun j a b => by
      show gA (pA (pA μ 62 _ _) 63 _ _) j = _
      rw [gA_pA_ne b, gA_pA_ne a], fun _ => rfl, rfl⟩
    refine ⟨ν, ?_, hF1.tr a2, a3, a4, fun j hj => ?_⟩
    · show f_X12_fill_B104 _ _ _ _ _ _ = _
      unfold f_X12_fill_B104 f_X12_child
      rw [e1, if_neg (nI_nneg (by omega)), gdn hp (by omega), hQ.x 33 _ (by decide), h33, nI_plus, nI_plus, gdn (by omega) (by omega), hQ.x 39 _ (by decide), show ct0 + (ah + r) = ct0 + ah + r by omega, hk r (by omega), bd_of, h54, gdn (by omega) (by omega), gdn (by omega) (by omega), nI_plus, e2, e3]
      exact a1
    · rw [(a5 j hj).1, (a5 j hj).2]
      show gA (pA (pA μ 62 _ _) 63 _ _) 62 j = _ ∧ gA (pA (pA μ 62 _ _) 63 _ _) 63 j = _
      rw [gA_pA_ne (show ¬ 62 = 63 by decide), gA_n (by omega) (by omega), gA_n (by omega) (by omega), show gA (pA μ 62 (nI (t + (m - (r + 1)))) (nI (pp r))) 63 = gA μ 63 from gA_pA_ne (by decide)]
      exact ⟨rfl, rfl⟩
theorem over_0 {σ : S5} (h : xA σ 40 0 = 0) : f_X3_isOver σ = some (0, σ) := by
  unfold f_X3_isOver
  rw [if_pos h]
theorem over_1 {σ : S5} (h : ¬ xA σ 40 0 = 0) : f_X3_isOver σ = some (1, σ) := by
  unfold f_X3_isOver
  rw [if_neg h]
/-- nothing goes into an atom -/
theorem fCx_0 {τ σ : S5} {E : Int32 → S5 → Option (Int64 × S5)} (hP : eqP τ σ) (h0 : xA σ 40 0 = 0) {c : Int32} (hc : 0 ≤ c ∧ c < 6200) (v : Int64) {a4 : Int32} (hk : xA τ 13 c = 0 ∨ xA τ 13 c = 1 ∨ xA τ 13 c = 2 ∨ (xA τ 13 c = 3 ∧ a4 = 0)) : f_X3_fill E c v a4 σ = some ((), σ) := by
  have g1 : ∀ {β : Type} (x : Option β), gd c 6200 x = x := fun x => gd6200 hc.1 hc.2
  unfold f_X3_fill
  rw [over_0 h0, bd_of, if_pos rfl, g1, g1, hP.x 13 _ (by decide)]
  rcases hk with a | a | a | ⟨a, b⟩
  · rw [a, if_pos rfl]
  · rw [a, if_neg (by decide), if_pos rfl]
  · rw [a, if_neg (by decide), if_neg (by decide), if_pos rfl]
  · rw [a, if_neg (by decide), if_neg (by decide), if_neg (by decide), if_pos rfl, if_pos b]
theorem fCx_ov {E : Int32 → S5 → Option (Int64 × S5)} {σ : S5} (h0 : ¬ xA σ 40 0 = 0) (c : Int32) (v : Int64) (a4 : Int32) : f_X3_fill E c v a4 σ = some ((), σ) := by
  unfold f_X3_fill
  rw [over_1 h0, bd_of, if_neg (by decide)]
/-- variables go into a suspension -/
theorem fCx_6 {τ σ : S5} {E : Int32 → S5 → Option (Int64 × S5)} (hP : eqP τ σ) (h0 : xA σ 40 0 = 0) {c : Int32} (hc : 0 ≤ c ∧ c < 6200) (v : Int64) {a4 : Int32} (hk : (xA τ 13 c = 3 ∧ ¬ a4 = 0) ∨ xA τ 13 c = 4 ∨ xA τ 13 c = 5 ∨ xA τ 13 c = 6 ∨ xA τ 13 c = 7 ∨ (xA τ 13 c = 8 ∧ f_X3_isPartOfCall c σ = some (0, σ))) : f_X3_fill E c v a4 σ = bd (f_X3_storeVariables (v.toInt32 + 1) (xB σ 2 c) σ) (fun _ τ => some ((), τ)) := by
  have g1 : ∀ {β : Type} (x : Option β), gd c 6200 x = x := fun x => gd6200 hc.1 hc.2
  unfold f_X3_fill f_X3_fill_b172
  rw [over_0 h0, bd_of, if_pos rfl, g1, g1, hP.x 13 _ (by decide)]
  rcases hk with ⟨a, b⟩ | a | a | a | a | ⟨a, b⟩
  · rw [a, if_neg (by decide), if_neg (by decide), if_neg (by decide), if_pos rfl, if_neg b, g1]
  · rw [a, if_neg (by decide), if_neg (by decide), if_neg (by decide), if_neg (by decide), if_pos rfl, g1, if_neg (by decide), g1]
  · rw [a, if_neg (by decide), if_neg (by decide), if_neg (by decide), if_neg (by decide), if_neg (by decide), if_pos rfl, g1, if_neg (by decide), g1]
  · rw [a, if_neg (by decide), if_neg (by decide), if_neg (by decide), if_neg (by decide), if_neg (by decide), if_neg (by decide), if_pos rfl, g1, if_neg (by decide), g1]
  · rw [a, if_neg (by decide), if_neg (by decide), if_neg (by decide), if_neg (by decide), if_neg (by decide), if_neg (by decide), if_neg (by decide), if_pos rfl, g1, if_neg (by decide), g1]
  · rw [a, if_neg (by decide), if_neg (by decide), if_neg (by decide), if_neg (by decide), if_neg (by decide), if_neg (by decide), if_neg (by decide), if_neg (by decide), if_pos rfl, g1, if_pos rfl, b, bd_of, if_pos rfl, g1]
/-- fields go into an object -/
theorem fCx_4 {τ σ : S5} {E : Int32 → S5 → Option (Int64 × S5)} (hP : eqP τ σ) (h0 : xA σ 40 0 = 0) {c : Int32} (hc : 0 ≤ c ∧ c < 6200) (v : Int64) (a4 : Int32) (hk : xA τ 13 c = 9) : f_X3_fill E c v a4 σ = bd (f_X3_keepRow E (xA τ 16 c) (v.toInt32 + 1) σ) (fun _ τ => some ((), τ)) := by
  have g1 : ∀ {β : Type} (x : Option β), gd c 6200 x = x := fun x => gd6200 hc.1 hc.2
  unfold f_X3_fill
  rw [over_0 h0, bd_of, if_pos rfl, g1, g1, hP.x 13 _ (by decide), hk, if_neg (by decide), if_neg (by decide), if_neg (by decide), if_neg (by decide), if_neg (by decide), if_neg (by decide), if_neg (by decide), if_neg (by decide), if_neg (by decide), if_pos rfl, hP.x 16 _ (by decide)]
/-- arguments go into a part of a call -/
theorem fCx_5 {τ σ : S5} {E : Int32 → S5 → Option (Int64 × S5)} (hP : eqP τ σ) (h0 : xA σ 40 0 = 0) {c h : Int32} (hc : 0 ≤ c ∧ c < 6200) (hh : 0 ≤ h ∧ h < 6200) (e16 : xA τ 16 c = h) (v : Int64) (a4 : Int32) (hk : xA τ 13 c = 8) (hl : f_X3_isPartOfCall c σ = some (1, σ)) : f_X3_fill E c v a4 σ = bd (f_X3_keepRow E (xA τ 17 h) (v.toInt32 + 2) σ) (fun _ τ => some ((), τ)) := by
  have g1 : ∀ {β : Type} (x : Option β), gd c 6200 x = x := fun x => gd6200 hc.1 hc.2
  unfold f_X3_fill
  rw [over_0 h0, bd_of, if_pos rfl, g1, g1, hP.x 13 _ (by decide), hk, if_neg (by decide), if_neg (by decide), if_neg (by decide), if_neg (by decide), if_neg (by decide), if_neg (by decide), if_neg (by decide), if_neg (by decide), if_pos rfl, g1, if_pos rfl, hl, bd_of, if_neg (by decide), hP.x 16 _ (by decide), e16, gd6200 hh.1 hh.2, hP.x 17 _ (by decide)]
