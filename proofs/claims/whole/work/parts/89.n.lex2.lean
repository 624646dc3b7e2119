theorem nI_tn {a : Int32} (h : 0 ≤ a) : a = nI a.toNatClampNeg := by
  apply Int32.toInt_inj.mp
  have h2 := i_nat h
  have h3 : a.toNatClampNeg < 2 ^ 31 := by have := a.toInt_lt; omega
  show _ = (Int32.ofNat a.toNatClampNeg).toInt
  rw [Int32.toInt_ofNat_of_lt h3, ← h2]
theorem skR_le (T : Nat → Int32) : ∀ (d k : Nat) (r : Int32), k ≤ skR T d k r ∧ skR T d k r ≤ k + d
  | 0, k, r => ⟨Nat.le_refl _, Nat.le_refl _⟩
  | d + 1, k, r => by
    unfold skR
    have h1 := skR_le T d (k + 1) 0
    have h2 := skR_le T d (k + 1) 1
    have h3 := skR_le T d (k + 1) r
    split
    · omega
    split
    · omega
    split
    · omega
    split <;> omega
theorem skR_eq {T U : Nat → Int32} {n : Nat} (h : ∀ i, i < n → T i = U i) : ∀ (d k : Nat) (r : Int32), k + d ≤ n → skR T d k r = skR U d k r
  | 0, _, _, _ => rfl
  | d + 1, k, r, hk => by
    unfold skR
    rw [h k (by omega), skR_eq h d (k + 1) 0 (by omega), skR_eq h d (k + 1) 1 (by omega), skR_eq h d (k + 1) r (by omega)]
theorem nmT_eq {T U : Nat → Int32} {n : Nat} (h : ∀ i, i < n → T i = U i) : ∀ (d k : Nat), k + d ≤ n → nmT T d k = nmT U d k
  | 0, _, _ => rfl
  | d + 1, k, hk => by
    unfold nmT
    rw [h k (by omega), nmT_eq h d (k + 1) (by omega)]
theorem nuT_eq {T U : Nat → Int32} {n : Nat} (h : ∀ i, i < n → T i = U i) : ∀ (d k : Nat), k + d ≤ n → nuT T d k = nuT U d k
  | 0, _, _ => rfl
  | d + 1, k, hk => by
    unfold nuT
    rw [h k (by omega), nuT_eq h d (k + 1) (by omega)]
theorem nmV_eq {T U : Nat → Int32} {n : Nat} (h : ∀ i, i < n → T i = U i) (k : Nat) : ∀ (j : Nat), k + j ≤ n → nmV T k j = nmV U k j
  | 0, _ => rfl
  | j + 1, hk => by
    unfold nmV
    rw [h (k + j) (by omega), nmV_eq h k j (by omega)]
theorem nuV_eq {T U : Nat → Int32} {n : Nat} (h : ∀ i, i < n → T i = U i) (k : Nat) : ∀ (j : Nat), k + j ≤ n → nuV T k j = nuV U k j
  | 0, _ => rfl
  | j + 1, hk => by
    unfold nuV
    rw [h (k + j) (by omega), nuV_eq h k j (by omega)]
theorem nuT_dg (T : Nat → Int32) : ∀ (d k i : Nat), k ≤ i → i < nuT T d k → ¬ dg (T i) = 0
  | 0, k, i, h1, h2 => by
    unfold nuT at h2
    omega
  | d + 1, k, i, h1, h2 => by
    unfold nuT at h2
    by_cases c : dg (T k) = 0
    · rw [if_pos c] at h2
      omega
    · rw [if_neg c] at h2
      by_cases c2 : i = k
      · rw [c2]; exact c
      · exact nuT_dg T d (k + 1) i (by omega) h2
theorem dg_rng {z : Int32} (h : ¬ dg z = 0) : 0 ≤ (z - 48).toInt64 ∧ (z - 48).toInt64 ≤ 9 := by
  have h1 : 0 ≤ z - 48 ∧ z - 48 ≤ 9 := by
    unfold dg at h
    grind
  obtain ⟨h1, h2⟩ := h1
  rw [Int32.le_iff_toInt_le] at h1 h2
  constructor
  · rw [Int64.le_iff_toInt_le, Int32.toInt_toInt64]
    exact h1
  · rw [Int64.le_iff_toInt_le, Int32.toInt_toInt64]
    exact h2
def nuB : Nat → Int64
  | 0 => 0
  | j + 1 => nuB j * 10 + 9
theorem nuB_le : ∀ j, j < 10 → 0 ≤ nuB j ∧ nuB j ≤ 999999999 := by decide +kernel
theorem nu_step {v w b : Int64} (h0 : 0 ≤ v) (h1 : v ≤ b) (h2 : b ≤ 999999999) (h3 : 0 ≤ w) (h4 : w ≤ 9) : 0 ≤ v * 10 + w ∧ v * 10 + w ≤ b * 10 + 9 := by grind
theorem nuV_rng (T : Nat → Int32) (k e : Nat) (h : ∀ i, k ≤ i → i < e → ¬ dg (T i) = 0) : ∀ j, j ≤ 10 → k + j ≤ e → 0 ≤ nuV T k j ∧ nuV T k j ≤ nuB j
  | 0, _, _ => by unfold nuV nuB; decide
  | j + 1, h1, h2 => by
    have ih := nuV_rng T k e h j (by omega) (by omega)
    have hd := dg_rng (h (k + j) (by omega) (by omega))
    unfold nuV nuB
    exact nu_step ih.1 ih.2 (nuB_le j (by omega)).2 hd.1 hd.2
theorem lg_le {v : Int64} (h : ¬ 0 < lg_cmp v 2147483647) : v ≤ 2147483647 := by
  unfold lg_cmp at h
  grind
theorem l_i32 {v : Int64} (h0 : 0 ≤ v) (h1 : v ≤ 2147483647) : 0 ≤ v.toInt32 := by
  rw [Int64.le_iff_toInt_le] at h0 h1
  rw [Int32.le_iff_toInt_le, Int64.toInt_toInt32, Int.bmod_eq_of_le]
  · exact h0
  · have : (0 : Int64).toInt = 0 := rfl
    omega
  · have : (2147483647 : Int64).toInt = 2147483647 := rfl
    omega
/-- the class's state behind a word: it ended at e, of kind k, at place p -/
def wdC (σ : S5) (e k p v : Int32) (z : Int64) : S5 := pI (pI (pI (pI (pJ σ 0 z) 16 e) 17 k) 18 p) 19 v
/-- the reference's -/
def wdM (μ : S5) (e k p v : Int32) (z : Int64) : S5 := pI (pI (pI (pI (pJ μ 0 z) 3 e) 4 k) 5 p) 6 v
theorem wdC_eq {σ τ : S5} {e k p v : Int32} {z : Int64} (h1 : ∀ j, gI τ j = gI (wdC σ e k p v z) j) (h2 : ∀ j, gJ τ j = gJ (wdC σ e k p v z) j) (h3 : τ.2.2 = σ.2.2) : τ = wdC σ e k p v z := S5_ext h1 h2 h3
theorem wdM_eq {σ τ : S5} {e k p v : Int32} {z : Int64} (h1 : ∀ j, gI τ j = gI (wdM σ e k p v z) j) (h2 : ∀ j, gJ τ j = gJ (wdM σ e k p v z) j) (h3 : τ.2.2 = σ.2.2) : τ = wdM σ e k p v z := S5_ext h1 h2 h3
theorem nI_lx {a b : Nat} (h : a ≤ b) (hb : b ≤ 4000) : nI a ≤ nI b := (nI_le31 (by omega) (by omega)).mpr h
theorem nI_ly {a b : Nat} (h : a < b) (hb : b ≤ 4000) : nI a < nI b := (nI_lt31 (by omega) (by omega)).mpr h
theorem okS_ne {z : Int32} (h : okS z) : ¬ z = -1 ∧ ¬ z = 0 := by rcases h with rfl | ⟨h1, h2⟩ <;> grind
/-- what class and reference make of the next word -/
def Lx (σ μ : S5) : Prop := ∃ (e kc p v : Int32) (z : Int64) (vm : Int32) (zm : Int64), f_X10_advance σ = some ((), wdC σ e kc p v z) ∧ f_X12_next μ = some ((), wdM μ e (kMd kc) p vm zm) ∧ okK kc = true ∧ gI σ 16 ≤ p ∧ p ≤ e ∧ e ≤ gI σ 0 ∧ (kc = 1 → p = gI σ 0) ∧ (¬ kc = 1 → p < e) ∧ (kc = 3 ∨ kc = 4 → z = zm) ∧ (kc = 5 → v = vm ∧ 0 ≤ v)
theorem lexN {T U : Nat → Int32} {n k : Nat} {σ μ : S5} (hn3 : n ≤ 3000) (hT : gA σ 0 = T) (hU : gA μ 0 = U) (hTU : ∀ i, i < n → T i = U i) (hok : ∀ i, i < n → okS (T i)) (hn : gI σ 0 = nI n) (hm : gI μ 1 = nI n) (hk : gI σ 16 = nI k) (hkm : gI μ 3 = nI k) (hkn : k ≤ n) (h0 : ¬ gI σ 17 = 0) : Lx σ μ := by
  have hp := skR_le T (n - k) k 0
  have hpe := skR_eq hTU (n - k) k 0 (by omega)
  have cA : f_X10_advance σ = bd (f_X8_signAt_text (nI (skR T (n - k) k 0)) (pI (pI σ 16 (nI (skR T (n - k) k 0))) 18 (nI (skR T (n - k) k 0)))) (fun r28 τ28 =>
    if r28 = (-1) then
      (some ((), (pI τ28 17 1)))
    else
      (bd (f_X10_isSmall (r28) τ28) (fun r46 τ46 =>
      if r46 = 0 then
        (bd (f_X10_isGreat (r28) τ46) (fun r53 τ53 =>
        if r53 = 0 then
          (bd (f_X10_isDigit (r28) τ53) (fun r68 τ68 =>
          if r68 = 0 then
            (bd (f_X10_readSign (r28) τ68) (fun _ τ83 =>
            some ((), τ83)))
          else
            (bd (f_X10_readNumber  τ68) (fun _ τ75 =>
            some ((), τ75)))))
        else
          (f_X10_advance_b59  (r28) τ53)))
      else
        (f_X10_advance_b59  (r28) τ46)))) := by
    unfold f_X10_advance f_X10_passBlanks
    rw [if_neg h0, c_pass hn3 (n - k) k 0 σ FU hT hn hk (by omega) (FU_big (by omega)), bd_of]
    rfl
  have cM : f_X12_next μ = bd (f_X12_sign (nI (skR T (n - k) k 0)) (pI (pI μ 3 (nI (skR T (n - k) k 0))) 5 (nI (skR T (n - k) k 0)))) (fun r17 τ17 =>
  bd (f_X12_sign (((gI τ17 3) + 1)) τ17) (fun r28 τ28 =>
  if (gI τ28 3) < (gI τ28 1) then
    (bd (f_X12_isSmall (r17) τ28) (fun r52 τ52 =>
    if r52 = 0 then
      (bd (f_X12_isCapital (r17) τ52) (fun r59 τ59 =>
      if r59 = 0 then
        (bd (f_X12_isDigit (r17) τ59) (fun r77 τ77 =>
        if r77 = 0 then
          (mSg r17 r28 τ77)
        else
          (bd (f_X12_readNumber  τ77) (fun _ τ84 =>
          some ((), τ84)))))
      else
        (f_X12_next_b65  (r17) τ59)))
    else
      (f_X12_next_b65  (r17) τ52)))
  else
    (some ((), (pI τ28 4 0))))) := by
    unfold f_X12_next f_X12_passBlanks
    rw [m_pass hn3 (n - k) k μ FU hU hm hkm (by omega) (FU_big (by omega)), bd_of, ← hpe]
    rfl
  generalize skR T (n - k) k 0 = p at *
  rw [c_sg (σ := pI (pI σ 16 (nI p)) 18 (nI p)) (T := T) (n := n) (k := p) hT hn hn3 (by omega), bd_of] at cA
  rw [m_sg (μ := pI (pI μ 3 (nI p)) 5 (nI p)) (T := U) (n := n) (k := p) hU hm hn3 (by omega), bd_of] at cM
  have e3 : gI (pI (pI μ 3 (nI p)) 5 (nI p)) 3 = nI p := rfl
  have e31 : gI (pI (pI μ 3 (nI p)) 5 (nI p)) 1 = nI n := hm
  rw [e3, nI_add1, m_sg (μ := pI (pI μ 3 (nI p)) 5 (nI p)) (T := U) (n := n) (k := p + 1) hU hm hn3 (by omega), bd_of, e3, e31] at cM
  unfold Lx
  by_cases hpn : p < n
  · have hz := hok p hpn
    have hz1 := okS_ne hz
    rw [show sgC T n p = T p from if_pos hpn, if_neg hz1.1] at cA
    rw [show sgM U n p = T p by rw [hTU p hpn]; exact if_pos hpn, if_pos (nI_ly hpn (by omega))] at cM
    rw [c_sm, bd_of] at cA
    rw [m_sm, bd_of] at cM
    have hnm := nmT_le T (n - (p + 1)) (p + 1)
    have hname : f_X10_advance_b59 (T p) (pI (pI σ 16 (nI p)) 18 (nI p)) = f_X10_advance σ → f_X12_next_b65 (T p) (pI (pI μ 3 (nI p)) 5 (nI p)) = f_X12_next μ → Lx σ μ := by
      intro h1 h2
      unfold f_X10_advance_b59 at h1
      rw [c_name (σ := (pI (pI σ 16 (nI p)) 18 (nI p))) (T := T) (n := n) (k0 := p) hn3 hT hn rfl hpn, c_b83, bd_of] at h1
      unfold f_X12_next_b65 at h2
      rw [m_gr, bd_of, m_name (μ := (pI (pI μ 3 (nI p)) 5 (nI p))) (T := U) (n := n) (k0 := p) hn3 _ hU hm rfl rfl hpn, ← nmT_eq hTU (n - (p + 1)) (p + 1) (by omega), m_mEx (μ := pI (pI (pI μ 3 (nI p)) 5 (nI p)) 3 (nI (nmT T (n - (p + 1)) (p + 1)))) (e := nmT T (n - (p + 1)) (p + 1)) (k0 := p) _ _ rfl rfl (by omega) (by omega), bd_of, ← nmV_eq hTU p _ (by omega)] at h2
      generalize hE : nmT T (n - (p + 1)) (p + 1) = E at *
      have hE8 : (nI (E - p) ≤ (8 : Int32)) ↔ E - p ≤ 8 := nI_le31 (b := 8) (by omega) (by omega)
      refine ⟨nI E, (if E - p ≤ 8 then (if gr (T p) = 0 then kwC (nmV T p (E - p)) else 4) else 2), nI p, gI σ 19, nmV T p (E - p), gI μ 6, nmV T p (min (E - p) 8), ?_, ?_, ?_, ?_, nI_lx (by omega) (by omega), ?_, ?_, fun _ => nI_ly (by omega) (by omega), ?_, ?_⟩
      · rw [← h1]
        congr 2
        refine wdC_eq (fun j => ?_) (fun j => ?_) rfl
        · simp only [wdC, gI_pI, gI_pJ, gJ_pI, gJ_pJ, hE8, if_true]
          grind
        · simp only [wdC, gJ_pI, gJ_pJ]
      · rw [← h2]
        congr 2
        have hkm2 : kMd (if E - p ≤ 8 then (if gr (T p) = 0 then kwC (nmV T p (E - p)) else 4) else 2) = (if E - p ≤ 8 then (if gr (T p) = 0 then kwM (nmV T p (min (E - p) 8)) else 4) else 1) := by
          by_cases c8 : E - p ≤ 8
          · rw [if_pos c8, if_pos c8, Nat.min_eq_left c8]
            by_cases cg : gr (T p) = 0
            · rw [if_pos cg, if_pos cg, (ok_kw _).2.1]
            · rw [if_neg cg, if_neg cg]; decide
          · rw [if_neg c8, if_neg c8]; decide
        refine wdM_eq (fun j => ?_) (fun j => ?_) rfl
        · simp only [wdM, gI_pI, gI_pJ, hkm2]
          grind
        · simp only [wdM, gJ_pI, gJ_pJ]
      · split
        · split
          · exact (ok_kw _).1
          · decide
        · decide
      · rw [hk]; exact nI_lx (by omega) (by omega)
      · rw [hn]; exact nI_lx (by omega) (by omega)
      · intro hq
        exfalso
        have hk1 := (ok_kw (nmV T p (E - p))).2.2.1
        grind
      · intro hq
        by_cases c8 : E - p ≤ 8
        · rw [Nat.min_eq_left c8]
        · rw [if_neg c8] at hq
          exfalso
          rcases hq with hq | hq <;> exact absurd hq (by decide)
      · intro hq
        exfalso
        have hk1 := (ok_kw (nmV T p (E - p))).2.2.2
        grind
    by_cases c1 : sm (T p) = 0
    · rw [if_pos c1, c_gr, bd_of] at cA
      rw [if_pos c1, m_gr, bd_of] at cM
      by_cases c2 : gr (T p) = 0
      · rw [if_pos c2, c_dg, bd_of] at cA
        rw [if_pos c2, m_dg, bd_of] at cM
        by_cases c3 : dg (T p) = 0
        · rw [if_pos c3] at cA cM
          have e16 : gI (pI (pI σ 16 (nI p)) 18 (nI p)) 16 + 1 = nI (p + 1) := nI_add1 p
          have hs := c_sg (σ := pI (pI σ 16 (nI p)) 18 (nI p)) (T := T) (n := n) (k := p + 1) hT hn hn3 (by omega)
          rw [← e16] at hs
          have hw1 : sgC T n (p + 1) = 62 ↔ sgM U n (p + 1) = 62 := by
            unfold sgC sgM
            by_cases c4 : p + 1 < n
            · rw [if_pos c4, if_pos c4, hTU _ c4]
            · rw [if_neg c4, if_neg c4]; decide
          have hw2 : sgC T n (p + 1) = 61 ↔ sgM U n (p + 1) = 61 := by
            unfold sgC sgM
            by_cases c4 : p + 1 < n
            · rw [if_pos c4, if_pos c4, hTU _ c4]
            · rw [if_neg c4, if_neg c4]; decide
          have hlast : 128 ≤ kS (T p) (sgC T n (p + 1)) → p + 1 < n := by
            intro hq
            apply Classical.byContradiction
            intro c4
            have hw : sgC T n (p + 1) = -1 := if_neg c4
            rw [hw] at hq
            have := kn_lt hz
            unfold kS at hq
            grind
          rw [c_sgn hz hs, bd_of] at cA
          rw [m_sgn hz hw1 hw2] at cM
          generalize sgC T n (p + 1) = w at *
          have hK := ok_kS hz w
          have hK1 : ¬ kS (T p) w = 1 ∧ ¬ kS (T p) w = 3 ∧ ¬ kS (T p) w = 4 ∧ ¬ kS (T p) w = 5 := by
            unfold kS
            rcases hz with hz | ⟨hz, _⟩ <;> grind
          have e16' : gI (pI (pI σ 16 (nI p)) 18 (nI p)) 16 = nI p := rfl
          have e3' : gI (pI (pI μ 3 (nI p)) 5 (nI p)) 3 = nI p := rfl
          rw [e16'] at cA
          rw [e3'] at cM
          generalize hKK : kS (T p) w = K at *
          refine ⟨nI p + (if K < 128 then 1 else 2), K, nI p, gI σ 19, gJ σ 0, gI μ 6, gJ μ 0, ?_, ?_, hK, ?_, ?_, ?_, ?_, ?_, ?_, ?_⟩
          · rw [cA]
            congr 2
            refine wdC_eq (fun j => ?_) (fun j => ?_) rfl
            · simp only [wdC, gI_pI, gI_pJ]
              grind
            · simp only [wdC, gJ_pI, gJ_pJ]
              grind
          · rw [cM]
            congr 2
            refine wdM_eq (fun j => ?_) (fun j => ?_) rfl
            · simp only [wdM, gI_pI, gI_pJ]
              grind
            · simp only [wdM, gJ_pI, gJ_pJ]
              grind
          · rw [hk]; exact nI_lx (by omega) (by omega)
          · have : nI p ≤ 3000 := nI_lx (b := 3000) (by omega) (by omega)
            grind
          · rw [hn]
            by_cases c5 : K < 128
            · rw [if_pos c5, nI_add1]; exact nI_lx (by omega) (by omega)
            · rw [if_neg c5, nI_add2]; exact nI_lx (by have := hlast (by grind); omega) (by omega)
          · intro hq; exact absurd hq hK1.1
          · intro _
            have : nI p ≤ 3000 := nI_lx (b := 3000) (by omega) (by omega)
            grind
          · intro hq; exfalso; grind
          · intro hq; exfalso; grind
        · rw [if_neg c3] at cA cM
          rw [c_num (σ := (pI (pI σ 16 (nI p)) 18 (nI p))) (T := T) (n := n) (k0 := p) hn3 hT hn rfl (by omega), c_b79, bd_of] at cA
          rw [m_num (μ := (pI (pI μ 3 (nI p)) 5 (nI p))) (T := U) (n := n) (k0 := p) hn3 hU hm rfl rfl (by omega), ← nuT_eq hTU (n - p) p (by omega), m_mEn (μ := pI (pI (pI μ 3 (nI p)) 5 (nI p)) 3 (nI (nuT T (n - p) p))) (e := nuT T (n - p) p) (k0 := p) _ rfl rfl (by have := nuT_le T (n - p) p; omega) (by have := nuT_le T (n - p) p; omega), bd_of, ← nuV_eq hTU p _ (by have := nuT_le T (n - p) p; omega)] at cM
          have hnu := nuT_le T (n - p) p
          have hnd := nuT_dg T (n - p) p
          have hpos : p < nuT T (n - p) p := by
            obtain ⟨d, hd⟩ : ∃ d, n - p = d + 1 := ⟨n - p - 1, by omega⟩
            rw [hd]
            unfold nuT
            rw [if_neg c3]
            have := nuT_le T d (p + 1)
            omega
          generalize nuT T (n - p) p = E at *
          have hrng := nuV_rng T p E hnd (min (E - p) 10) (by omega) (by omega)
          have hE10 : ((10 : Int32) < nI (E - p)) ↔ 10 < E - p := nI_lt31 (a := 10) (by omega) (by omega)
          generalize nuV T p (min (E - p) 10) = V at *
          by_cases c4 : 10 < E - p ∨ 0 < lg_cmp V 2147483647
          · refine ⟨nI E, 2, nI p, 0, gJ σ 0, V.toInt32, gJ μ 0, ?_, ?_, by decide, ?_, nI_lx (by omega) (by omega), ?_, fun hq => absurd hq (by decide), fun _ => nI_ly (by omega) (by omega), fun hq => absurd hq (by decide), fun hq => absurd hq (by decide)⟩
            · rw [cA]
              congr 2
              refine wdC_eq (fun j => ?_) (fun j => ?_) ?_
              · simp only [wdC, gI_pI, gI_pJ, hE10]
                grind [gI_pI, gI_pJ]
              · simp only [wdC, gJ_pI, gJ_pJ]
                grind [gJ_pI, gJ_pJ]
              · split
                · rfl
                split <;> rfl
            · rw [cM]
              congr 2
              have hk1 : (if 10 < E - p then (1 : Int32) else if lg_cmp V 2147483647 ≤ 0 then 2 else 1) = kMd 2 := by
                rw [show kMd 2 = 1 by decide]
                grind
              refine wdM_eq (fun j => ?_) (fun j => ?_) rfl
              · simp only [wdM, gI_pI, gI_pJ, hk1]
                grind
              · simp only [wdM, gJ_pI, gJ_pJ]
                grind
            · rw [hk]; exact nI_lx (by omega) (by omega)
            · rw [hn]; exact nI_lx (by omega) (by omega)
          · have c5 : ¬ 10 < E - p := fun q => c4 (Or.inl q)
            have c6 : ¬ 0 < lg_cmp V 2147483647 := fun q => c4 (Or.inr q)
            have hv := l_i32 hrng.1 (lg_le c6)
            refine ⟨nI E, 5, nI p, V.toInt32, gJ σ 0, V.toInt32, gJ μ 0, ?_, ?_, by decide, ?_, nI_lx (by omega) (by omega), ?_, fun hq => absurd hq (by decide), fun _ => nI_ly (by omega) (by omega), fun hq => absurd hq (by decide), fun _ => ⟨rfl, hv⟩⟩
            · rw [cA, if_neg (fun q => c5 (hE10.mp q)), if_neg c6]
              congr 2
              refine wdC_eq (fun j => ?_) (fun j => ?_) rfl
              · simp only [wdC, gI_pI, gI_pJ]
                grind
              · simp only [wdC, gJ_pI, gJ_pJ]
                grind
            · rw [cM, if_neg c5, if_pos (show lg_cmp V 2147483647 ≤ 0 by grind)]
              congr 2
              have hk1 : (2 : Int32) = kMd 5 := by decide
              refine wdM_eq (fun j => ?_) (fun j => ?_) rfl
              · simp only [wdM, gI_pI, gI_pJ, ← hk1]
                grind
              · simp only [wdM, gJ_pI, gJ_pJ]
                grind
            · rw [hk]; exact nI_lx (by omega) (by omega)
            · rw [hn]; exact nI_lx (by omega) (by omega)
      · rw [if_neg c2] at cA cM
        exact hname cA.symm cM.symm
    · rw [if_neg c1] at cA cM
      exact hname cA.symm cM.symm
  · have hpn2 : p = n := by omega
    rw [show sgC T n p = -1 from if_neg hpn, if_pos rfl] at cA
    rw [if_neg (fun q => hpn ((nI_lt31 (by omega) (by omega)).mp q))] at cM
    refine ⟨nI p, 1, nI p, gI σ 19, gJ σ 0, gI μ 6, gJ μ 0, ?_, ?_, by decide, ?_, nI_lx (by omega) (by omega), ?_, ?_, fun hq => absurd rfl hq, fun hq => absurd hq (by decide), fun hq => absurd hq (by decide)⟩
    · rw [cA]
      congr 2
      refine wdC_eq (fun j => ?_) (fun j => ?_) rfl
      · simp only [wdC, gI_pI, gI_pJ]
        grind
      · simp only [wdC, gJ_pI, gJ_pJ]
        grind
    · rw [cM]
      congr 2
      have hk1 : (0 : Int32) = kMd 1 := by decide
      refine wdM_eq (fun j => ?_) (fun j => ?_) rfl
      · simp only [wdM, gI_pI, gI_pJ, ← hk1]
        grind
      · simp only [wdM, gJ_pI, gJ_pJ]
        grind
    · rw [hk]; exact nI_lx (by omega) (by omega)
    · rw [hn, hpn2]; exact nI_lx (by omega) (by omega)
    · intro _; rw [hn, hpn2]
theorem lex {σ μ : S5} (h : RT σ μ) (ha : gI σ 16 = gI μ 3) (h0 : 0 ≤ gI σ 16) (h1 : gI σ 16 ≤ gI σ 0) (hk : ¬ gI σ 17 = 0) : Lx σ μ := by
  obtain ⟨e1, n0, n1, hT⟩ := h
  have hn := nI_tn n0
  have hkk := nI_tn h0
  have hle := i_le h1
  have h3 : (gI σ 0).toNatClampNeg ≤ 3000 := i_le n1
  exact lexN (T := gA σ 0) (U := gA μ 0) (n := (gI σ 0).toNatClampNeg) (k := (gI σ 16).toNatClampNeg) h3 rfl rfl (fun i hi => (hT i hi).1) (fun i hi => by rw [(hT i hi).1]; exact (hT i hi).2) hn (e1 ▸ hn) hkk (ha ▸ hkk) hle hk
