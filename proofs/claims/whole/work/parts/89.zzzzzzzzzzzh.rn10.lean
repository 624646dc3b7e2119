def updN (f : Nat → Nat) (i v j : Nat) : Nat := if j = i then v else f j
theorem updN_s {f : Nat → Nat} {i v : Nat} : updN f i v i = v := if_pos rfl
theorem updN_n {f : Nat → Nat} {i v j : Nat} (h : ¬ j = i) : updN f i v j = f j := if_neg h
/-- the heaps alike -/
def HS (τ μ0 : S5) (F T : Nat) (pa nv : Nat → Nat) (σ μ : S5) (n : Nat) (tg ct : Nat → Nat) (Rd : Nat → Prop) : Prop := (gI μ 32 = nI n ∧ gI μ 33 = nI (pre ct n) ∧ adr tg ct n ≤ 4000 ∧ gI μ 34 = nI (adr tg ct n) ∧ gA σ 40 3 = nI (adr tg ct n)) ∧ ∀ c, c < n → CO τ μ0 F T pa nv (gB σ 14) (gA μ 53) (gA μ 54) (gA μ 55) (gA μ 56) (gB μ 6) (gB μ 7) n tg ct (Rd c) c
/-- the numbers of a run that is under way -/
def NR (σ μ : S5) : Prop := RR σ μ ∧ gI μ 35 = gI σ 65 + gA σ 40 3 ∧ gI μ 36 = gI σ 64 + gA σ 40 2 ∧ gI μ 37 + gA σ 40 2 = gI σ 47 ∧ gI σ 46 = gI μ 47
theorem Gro.nw (n : Nat) (tg ct : Nat → Nat) (t m : Nat) : Gro n tg ct (n + 1) (updN tg n t) (updN ct n m) := ⟨Nat.le_succ n, fun i hi => ⟨updN_n (by omega), updN_n (by omega)⟩⟩
/-- one more cell -/
theorem hs_new {τ μ0 : S5} {F T : Nat} {pa nv : Nat → Nat} {σ μ σ' μ' : S5} {n : Nat} {tg ct : Nat → Nat} {Rd : Nat → Prop} (h : HS τ μ0 F T pa nv σ μ n tg ct Rd) {t m : Nat} {s v : Int32} (h32 : gI μ' 32 = nI (n + 1)) (h33 : gI μ' 33 = nI (pre ct n + m)) (h40 : adr tg ct n + (m + 1 + if t = 5 then 1 else 0) ≤ 4000) (h34 : gI μ' 34 = nI (adr tg ct n + (m + 1 + if t = 5 then 1 else 0))) (hc3 : gA σ' 40 3 = nI (adr tg ct n + (m + 1 + if t = 5 then 1 else 0))) (h53 : gA μ' 53 = upd (gA μ 53) n s) (h54 : gA μ' 54 = upd (gA μ 54) n v) (h55 : gA μ' 55 = upd (gA μ 55) n (nI (pre ct n))) (h56 : gA μ' 56 = upd (gA μ 56) n (nI m)) (h6 : gB μ' 6 = gB μ 6) (h7 : gB μ' 7 = gB μ 7) (h14 : ∀ j, j < adr tg ct n → gB σ' 14 j = gB σ 14 j) (hnew : CO τ μ0 F T pa nv (gB σ' 14) (gA μ' 53) (gA μ' 54) (gA μ' 55) (gA μ' 56) (gB μ' 6) (gB μ' 7) (n + 1) (updN tg n t) (updN ct n m) False n) : HS τ μ0 F T pa nv σ' μ' (n + 1) (updN tg n t) (updN ct n m) (fun c => c < n ∧ Rd c) := by
  have hg := Gro.nw n tg ct t m
  obtain ⟨ga, gp⟩ := hg.ad (Nat.le_refl n)
  have hsz : szc (updN tg n t) (updN ct n m) n = m + 1 + if t = 5 then 1 else 0 := by
    unfold szc
    rw [updN_s, updN_s]
  have ead : adr (updN tg n t) (updN ct n m) (n + 1) = adr tg ct n + (m + 1 + if t = 5 then 1 else 0) := by rw [adr_s, ga, hsz]
  have epr : pre (updN ct n m) (n + 1) = pre ct n + m := by
    show pre (updN ct n m) n + updN ct n m n = _
    rw [gp, updN_s]
  refine ⟨⟨h32, by rw [epr]; exact h33, by rw [ead]; exact h40, by rw [ead]; exact h34, by rw [ead]; exact hc3⟩, fun c hc => ?_⟩
  by_cases hcn : c = n
  · subst hcn
    unfold CO at hnew ⊢
    exact ⟨hnew.1, hnew.2.1, fun w => absurd w.1 (Nat.lt_irrefl c)⟩
  · have hc' : c < n := by omega
    refine (h.2 c hc').st hg hc' ⟨by rw [h53]; exact up_n hcn, by rw [h54]; exact up_n hcn, by rw [h55]; exact up_n hcn, by rw [h56]; exact up_n hcn, by rw [h6]⟩ (fun j j1 j2 => h14 j ?_) (fun j _ _ => by rw [h7]) (fun w => w.2)
    have := adr_mo tg ct hc'
    omega
/-- the other makes a cell -/
theorem nc_m {μ : S5} {n N ft s m so : Nat} {v : Int32} (h32 : gI μ 32 = nI n) (h33 : gI μ 33 = nI ft) (h34 : gI μ 34 = nI N) (hn : n < 4100) (hs : N + s < 2 ^ 31) (hso : so < 3) : (N + s ≤ 4000 → ∃ ν, f_X12_newCell (nI so) v (nI m) (nI s) μ = some (nI n, ν) ∧ (gI ν 32 = nI (n + 1) ∧ gI ν 33 = nI (ft + m) ∧ gI ν 34 = nI (N + s) ∧ gI ν 35 = gI μ 35 + nI s ∧ gI ν 39 = gI μ 39 + (if so = 2 then 1 else 0) ∧ gI ν 40 = gI μ 40 + (if so = 1 then 1 else 0) ∧ gI ν 41 = gI μ 41 + (if so = 0 then 1 else 0)) ∧ (∀ j, ¬ (32 ≤ j ∧ j ≤ 35) → ¬ (39 ≤ j ∧ j ≤ 41) → gI ν j = gI μ j) ∧ (∀ j, gJ ν j = gJ μ j) ∧ (∀ j, ¬ (53 ≤ j ∧ j ≤ 56) → gA ν j = gA μ j) ∧ (gA ν 53 = upd (gA μ 53) n (nI so) ∧ gA ν 54 = upd (gA μ 54) n v ∧ gA ν 55 = upd (gA μ 55) n (nI ft) ∧ gA ν 56 = upd (gA μ 56) n (nI m)) ∧ (∀ j, gB ν j = gB μ j) ∧ ν.2.2.2.2 = μ.2.2.2.2) ∧ (¬ N + s ≤ 4000 → f_X12_newCell (nI so) v (nI m) (nI s) μ = bd (f_X12_ends 3 2 μ) (fun _ τ16 => some (-1, τ16))) := by
  have e1 : nI N + nI s = nI (N + s) := nI_plus N s
  have key : nI (N + s) ≤ 4000 ↔ N + s ≤ 4000 := nI_le31 (a := N + s) (b := 4000) hs (by omega)
  refine ⟨fun h => ?_, fun h => ?_⟩
  · obtain ⟨μ', eμ⟩ : ∃ z, z = pI (pA (pA (pA (pA (pI (pI (pI μ 34 (nI (N + s))) 35 (gI μ 35 + nI s)) 32 (nI (n + 1))) 53 (nI n) (nI so)) 54 (nI n) v) 55 (nI n) (nI ft)) 56 (nI n) (nI m)) 33 (nI (ft + m)) := ⟨_, rfl⟩
    have hn' : (nI n).toNatClampNeg = n := nI_clamp (by omega)
    have d2 : (nI so = 2) = (so = 2) := propext ⟨fun w => nI_injL (a := so) (b := 2) (by omega) (by omega) w, fun w => by rw [w]; rfl⟩
    have d1 : (nI so = 1) = (so = 1) := propext ⟨fun w => nI_injL (a := so) (b := 1) (by omega) (by omega) w, fun w => by rw [w]; rfl⟩
    have d0 : (nI so = 0) = (so = 0) := propext ⟨fun w => nI_injL (a := so) (b := 0) (by omega) (by omega) w, fun w => by rw [w]; rfl⟩
    refine ⟨pI (pI (pI μ' 39 (gI μ' 39 + (if so = 2 then 1 else 0))) 40 (gI μ' 40 + (if so = 1 then 1 else 0))) 41 (gI μ' 41 + (if so = 0 then 1 else 0)), ?_, ?_, ?_, ?_, ?_, ?_, ?_, ?_⟩
    · unfold f_X12_newCell f_X12_newCell_b119 f_X12_newCell_b138 f_X12_newCell_b156
      rw [h32, h33, h34, e1, if_pos (key.mpr h), gdn hn (by omega), gdn hn (by omega), gdn hn (by omega), gdn hn (by omega), nI_add1, nI_plus, ← eμ]
      have c3 : so = 0 ∨ so = 1 ∨ so = 2 := by omega
      have e39 : gI μ' 39 = gI μ 39 := by rw [eμ]; rfl
      rcases c3 with rfl | rfl | rfl
      · rw [if_neg (show ¬ nI 0 = 2 by decide), if_neg (show ¬ nI 0 = 1 by decide), if_pos (show nI 0 = 0 from rfl), e39]
        rfl
      · rw [if_neg (show ¬ nI 1 = 2 by decide), if_pos (show nI 1 = 1 from rfl), if_neg (show ¬ nI 1 = 0 by decide), e39]
        rfl
      · rw [if_pos (show nI 2 = 2 from rfl), if_neg (show ¬ nI 2 = 1 by decide), if_neg (show ¬ nI 2 = 0 by decide), e39]
        rfl
    · subst eμ
      exact ⟨rfl, rfl, rfl, rfl, rfl, rfl, rfl⟩
    · intro j a b
      subst eμ
      rw [gI_pI, if_neg (by omega), gI_pI, if_neg (by omega), gI_pI, if_neg (by omega), gI_pI, if_neg (by omega)]
      show gI (pI (pI (pI μ 34 _) 35 _) 32 _) j = _
      rw [gI_pI, if_neg (by omega), gI_pI, if_neg (by omega), gI_pI, if_neg (by omega)]
    · intro j
      subst eμ
      rfl
    · intro j a
      subst eμ
      show gA (pA (pA (pA (pA _ 53 _ _) 54 _ _) 55 _ _) 56 _ _) j = _
      rw [gA_pA_ne (by omega), gA_pA_ne (by omega), gA_pA_ne (by omega), gA_pA_ne (by omega)]
      rfl
    · subst eμ
      refine ⟨?_, ?_, ?_, ?_⟩
      · show upd (gA μ 53) (nI n).toNatClampNeg _ = _
        rw [hn']
      · show upd (gA μ 54) (nI n).toNatClampNeg _ = _
        rw [hn']
      · show upd (gA μ 55) (nI n).toNatClampNeg _ = _
        rw [hn']
      · show upd (gA μ 56) (nI n).toNatClampNeg _ = _
        rw [hn']
    · intro j
      subst eμ
      rfl
    · subst eμ
      rfl
  · unfold f_X12_newCell
    rw [h34, e1, if_neg (fun w => h (key.mp w))]
/-- the one makes a cell -/
theorem mk_c {σ : S5} {N s j : Nat} (h3 : gA σ 40 3 = nI N) (hN : N ≤ 4000) (hs : s < 2 ^ 30) (hj : j < 10) : (N + s ≤ 4000 → f_X0_make (nI s) (nI j) σ = some (nI N, pA (pA σ 40 3 (nI (N + s))) 40 (nI j) (xA (pA σ 40 3 (nI (N + s))) 40 (nI j) + 1))) ∧ (¬ N + s ≤ 4000 → f_X0_make (nI s) (nI j) σ = some (-1, σ)) := by
  have e3 : xA σ 40 3 = nI N := h3
  have e4 : (4000 : Int32) - nI N = nI (4000 - N) := by
    rw [show (4000 : Int32) = nI 4000 from rfl, nI_sub hN]
  have key : nI s ≤ nI (4000 - N) ↔ N + s ≤ 4000 := by
    rw [nI_le31 (by omega) (by omega)]
    omega
  refine ⟨fun h => ?_, fun h => ?_⟩
  · unfold f_X0_make
    rw [e3, e4, if_pos (key.mpr h), gdn hj (by omega), gdn hj (by omega), nI_plus]
  · unfold f_X0_make
    rw [e3, e4, if_neg (fun w => h (key.mp w))]
