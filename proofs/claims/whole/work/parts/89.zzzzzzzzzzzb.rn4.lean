theorem vw_sh {w : Nat} (hw : 0 < w) {e : Nat → Nat} (he : ∀ k, e k < 2 ^ w) {n : Nat} (hz : ∀ i, n ≤ i → e i = 0) (r : Nat) : (vw w e n 0) >>> (w * r) = vw w (fun i => e (i + r)) n 0 := by
  apply Nat.eq_of_testBit_eq
  intro j
  rw [Nat.testBit_shiftRight, vw_tb hw he, vw_tb hw (fun k => he (k + r)), Nat.mul_add_div hw, Nat.mul_add_mod, Nat.zero_add, Nat.zero_add, Nat.add_comm (j / w) r]
  by_cases h : w * r + j < w * n
  · rw [decide_eq_true h, decide_eq_true (show j < w * n by omega)]
  · have h2 : n ≤ r + j / w := by
      rw [← Nat.mul_add_div hw, Nat.le_div_iff_mul_le hw, Nat.mul_comm n w]
      omega
    rw [decide_eq_false h, hz _ h2, Nat.zero_testBit, Bool.and_false]
    simp
theorem mk1 {e : Nat → Nat} (he : ∀ k, e k < 2 ^ 1) : vw 1 e 64 0 &&& 6148914691236517205 = vw 2 (fun i => e (2 * i)) 32 0 := by
  have hM : ∀ j, j < 64 → (6148914691236517205 : Nat).testBit j = decide (j % 2 < 1) := by decide
  apply Nat.eq_of_testBit_eq
  intro j
  rw [Nat.testBit_and, vw_tb (by decide) he, vw_tb (by decide) (fun k => Nat.lt_trans (he (2 * k)) (by decide))]
  by_cases h : j < 64
  · rw [hM j h, decide_eq_true (show j < 1 * 64 by omega), Bool.true_and, Bool.true_and]
    by_cases h2 : j % 2 < 1
    · rw [decide_eq_true h2, Bool.and_true, show 0 + j / 1 = 2 * (0 + j / 2) by omega, show j % 1 = j % 2 by omega]
    · rw [decide_eq_false h2, Bool.and_false, tb0 (he _) (show 1 ≤ j % 2 by omega)]
  · rw [decide_eq_false (show ¬ j < 1 * 64 by omega), Bool.false_and, Bool.false_and, Bool.false_and]
theorem mk2 {e : Nat → Nat} (he : ∀ k, e k < 2 ^ 2) : vw 2 e 32 0 &&& 3689348814741910323 = vw 4 (fun i => e (2 * i)) 16 0 := by
  have hM : ∀ j, j < 64 → (3689348814741910323 : Nat).testBit j = decide (j % 4 < 2) := by decide
  apply Nat.eq_of_testBit_eq
  intro j
  rw [Nat.testBit_and, vw_tb (by decide) he, vw_tb (by decide) (fun k => Nat.lt_trans (he (2 * k)) (by decide))]
  by_cases h : j < 64
  · rw [hM j h, decide_eq_true (show j < 2 * 32 by omega), Bool.true_and, Bool.true_and]
    by_cases h2 : j % 4 < 2
    · rw [decide_eq_true h2, Bool.and_true, show 0 + j / 2 = 2 * (0 + j / 4) by omega, show j % 2 = j % 4 by omega]
    · rw [decide_eq_false h2, Bool.and_false, tb0 (he _) (show 2 ≤ j % 4 by omega)]
  · rw [decide_eq_false (show ¬ j < 2 * 32 by omega), Bool.false_and, Bool.false_and, Bool.false_and]
theorem mk4 {e : Nat → Nat} (he : ∀ k, e k < 2 ^ 4) : vw 4 e 16 0 &&& 1085102592571150095 = vw 8 (fun i => e (2 * i)) 8 0 := by
  have hM : ∀ j, j < 64 → (1085102592571150095 : Nat).testBit j = decide (j % 8 < 4) := by decide
  apply Nat.eq_of_testBit_eq
  intro j
  rw [Nat.testBit_and, vw_tb (by decide) he, vw_tb (by decide) (fun k => Nat.lt_trans (he (2 * k)) (by decide))]
  by_cases h : j < 64
  · rw [hM j h, decide_eq_true (show j < 4 * 16 by omega), Bool.true_and, Bool.true_and]
    by_cases h2 : j % 8 < 4
    · rw [decide_eq_true h2, Bool.and_true, show 0 + j / 4 = 2 * (0 + j / 8) by omega, show j % 4 = j % 8 by omega]
    · rw [decide_eq_false h2, Bool.and_false, tb0 (he _) (show 4 ≤ j % 8 by omega)]
  · rw [decide_eq_false (show ¬ j < 4 * 16 by omega), Bool.false_and, Bool.false_and, Bool.false_and]
theorem pcn_hi {X m : Nat} (h : X < 2 ^ m) : ∀ d, pcn X (m + d) = pcn X m
  | 0 => rfl
  | d + 1 => by
    show pcn X (m + d) + (X.testBit (m + d)).toNat = _
    rw [pcn_hi h d, tb0 h (Nat.le_add_right m d)]
    rfl
theorem pcn_le {X : Nat} : ∀ m, pcn X m ≤ m
  | 0 => Nat.le_refl _
  | m + 1 => by
    show pcn X m + (X.testBit m).toNat ≤ _
    have h1 := pcn_le (X := X) m
    have h2 := Bool.toNat_le (X.testBit m)
    omega
/-- THE BITS ARE COUNTED, on the one side -/
theorem bc_go {a : Int64} (hX : i64n a < 2 ^ 40) (σ : S5) : f_J13_bitCount_95d88 a σ = some (nI (pcn (i64n a) 40), σ) := by
  obtain ⟨X, eX⟩ : ∃ X, X = i64n a := ⟨_, rfl⟩
  rw [← eX] at hX ⊢
  have hb : ∀ i, (X.testBit i).toNat < 2 ^ 1 := fun i => by have := Bool.toNat_le (X.testBit i); omega
  have hbz : ∀ i, 40 ≤ i → (X.testBit i).toNat = 0 := fun i hi => by rw [tb0 hX hi]; rfl
  obtain ⟨b, eb⟩ : ∃ b : Nat → Nat, b = fun i => (X.testBit i).toNat := ⟨_, rfl⟩
  have hb' : ∀ i, b i ≤ 1 := fun i => by rw [eb]; exact Bool.toNat_le _
  have hbz' : ∀ i, 40 ≤ i → b i = 0 := fun i hi => by rw [eb]; exact hbz i hi
  have xX : vw 1 b 64 0 = X := by
    rw [eb]
    have := vw_bits (X := X) 64 0 (by rw [Nat.pow_zero, Nat.div_one]; omega)
    rw [Nat.pow_zero, Nat.div_one] at this
    exact this
  -- the first step
  obtain ⟨e1, ee1⟩ : ∃ e : Nat → Nat, e = fun i => b (2 * i) + b (2 * i + 1) := ⟨_, rfl⟩
  have he1 : ∀ i, e1 i ≤ 2 := fun i => by rw [ee1]; have := hb' (2 * i); have := hb' (2 * i + 1); show b (2 * i) + b (2 * i + 1) ≤ 2; omega
  have he1z : ∀ i, 20 ≤ i → e1 i = 0 := fun i hi => by rw [ee1]; show b (2 * i) + b (2 * i + 1) = 0; rw [hbz' _ (by omega), hbz' _ (by omega)]
  have y1 : X >>> 1 &&& 6148914691236517205 = vw 2 (fun i => b (2 * i + 1)) 32 0 := by
    rw [← xX]
    have h := vw_sh (w := 1) (by decide) (e := b) (fun k => by have := hb' k; omega) (n := 64) (fun i hi => hbz' i (by omega)) 1
    rw [show 1 * 1 = 1 from rfl] at h
    rw [h, mk1 (e := fun i => b (i + 1)) (fun k => by have := hb' (k + 1); omega)]
  have x2 : X = vw 2 (fun i => b (2 * i) + 2 * b (2 * i + 1)) 32 0 := by
    rw [← xX]
    exact vw_pair (w := 1) (e := b) 32 0
  have s1 : vw 2 e1 32 0 + vw 2 (fun i => b (2 * i + 1)) 32 0 = X := by
    rw [vw_add, x2]
    exact vw_cg (fun k => by rw [ee1]; show b (2 * k) + b (2 * k + 1) + b (2 * k + 1) = _; omega) 32 0
  obtain ⟨a1, ea1⟩ : ∃ z, z = a - ((j_lushr a 1) &&& 6148914691236517205) := ⟨_, rfl⟩
  have n1 : i64n ((j_lushr a 1) &&& 6148914691236517205) = vw 2 (fun i => b (2 * i + 1)) 32 0 := by
    rw [i64n_and, show (1 : Int32) = nI 1 from rfl, i64n_ush _ (by decide), ← eX]
    exact y1
  have n2 : i64n a1 = vw 2 e1 32 0 := by
    rw [ea1, i64n_sub (by rw [n1, ← eX]; omega), n1, ← eX]
    omega
  -- the second
  obtain ⟨e2, ee2⟩ : ∃ e : Nat → Nat, e = fun i => e1 (2 * i) + e1 (2 * i + 1) := ⟨_, rfl⟩
  have he2 : ∀ i, e2 i ≤ 4 := fun i => by rw [ee2]; have := he1 (2 * i); have := he1 (2 * i + 1); show e1 (2 * i) + e1 (2 * i + 1) ≤ 4; omega
  have he2z : ∀ i, 10 ≤ i → e2 i = 0 := fun i hi => by rw [ee2]; show e1 (2 * i) + e1 (2 * i + 1) = 0; rw [he1z _ (by omega), he1z _ (by omega)]
  have l1 : ∀ k, e1 k < 2 ^ 2 := fun k => by have := he1 k; omega
  have p2 : i64n (a1 &&& 3689348814741910323) = vw 4 (fun i => e1 (2 * i)) 16 0 := by
    rw [i64n_and, n2]
    exact mk2 l1
  have q2 : i64n ((j_lushr a1 2) &&& 3689348814741910323) = vw 4 (fun i => e1 (2 * i + 1)) 16 0 := by
    rw [i64n_and, show (2 : Int32) = nI 2 from rfl, i64n_ush _ (by decide), n2]
    have h := vw_sh (w := 2) (by decide) l1 (n := 32) (fun i hi => he1z i (by omega)) 1
    rw [show 2 * 1 = 2 from rfl] at h
    rw [h]
    exact mk2 (e := fun i => e1 (i + 1)) (fun k => l1 (k + 1))
  have l2 : ∀ k, e2 k < 2 ^ 4 := fun k => by have := he2 k; omega
  obtain ⟨a2, ea2⟩ : ∃ z, z = (a1 &&& 3689348814741910323) + ((j_lushr a1 2) &&& 3689348814741910323) := ⟨_, rfl⟩
  have t2 : vw 4 (fun i => e1 (2 * i)) 16 0 + vw 4 (fun i => e1 (2 * i + 1)) 16 0 = vw 4 e2 16 0 := by
    rw [vw_add, ee2]
  have n3 : i64n a2 = vw 4 e2 16 0 := by
    rw [ea2, i64n_add (by rw [p2, q2, t2]; exact vw_lt l2 16 0), p2, q2, t2]
  -- the third
  obtain ⟨g, eg⟩ : ∃ e : Nat → Nat, e = fun i => e2 (2 * i) + e2 (2 * i + 1) := ⟨_, rfl⟩
  have hg : ∀ i, g i ≤ 8 := fun i => by rw [eg]; have := he2 (2 * i); have := he2 (2 * i + 1); show e2 (2 * i) + e2 (2 * i + 1) ≤ 8; omega
  have hgz : ∀ i, 5 ≤ i → g i = 0 := fun i hi => by rw [eg]; show e2 (2 * i) + e2 (2 * i + 1) = 0; rw [he2z _ (by omega), he2z _ (by omega)]
  have q3 : i64n (j_lushr a2 4) = vw 4 (fun i => e2 (i + 1)) 16 0 := by
    rw [show (4 : Int32) = nI 4 from rfl, i64n_ush _ (by decide), n3]
    have h := vw_sh (w := 4) (by decide) l2 (n := 16) (fun i hi => he2z i (by omega)) 1
    rw [show 4 * 1 = 4 from rfl] at h
    exact h
  have l3 : ∀ k, e2 k + e2 (k + 1) < 2 ^ 4 := fun k => by have := he2 k; have := he2 (k + 1); omega
  obtain ⟨a3, ea3⟩ : ∃ z, z = (a2 + (j_lushr a2 4)) &&& 1085102592571150095 := ⟨_, rfl⟩
  have n4 : i64n a3 = vw 8 g 8 0 := by
    rw [ea3, i64n_and, i64n_add (by rw [n3, q3, vw_add]; exact vw_lt l3 16 0), n3, q3, vw_add]
    refine (mk4 l3).trans ?_
    rw [eg]
  -- the sum
  have sh8 : ∀ (h : Nat → Nat) (r : Nat), (∀ k, h k < 2 ^ 8) → (∀ i, 8 ≤ i → h i = 0) → ∀ (x : Int64) (m : Nat), m < 64 → m = 8 * r → i64n x = vw 8 h 8 0 → (∀ k, h k + h (k + r) < 2 ^ 8) → i64n (x + j_lushr x (nI m)) = vw 8 (fun i => h i + h (i + r)) 8 0 := by
    intro h r h1 h2 x m hm hr hx h3
    have q : i64n (j_lushr x (nI m)) = vw 8 (fun i => h (i + r)) 8 0 := by
      rw [i64n_ush _ hm, hx, hr]
      exact vw_sh (w := 8) (by decide) h1 h2 r
    rw [i64n_add (by rw [hx, q, vw_add]; exact vw_lt h3 8 0), hx, q, vw_add]
  have z4 := sh8 g 1 (fun k => by have := hg k; omega) (fun i hi => hgz i (by omega)) a3 8 (by decide) rfl n4 (fun k => by have := hg k; have := hg (k + 1); omega)
  obtain ⟨a4, ea4⟩ : ∃ z, z = a3 + j_lushr a3 8 := ⟨_, rfl⟩
  rw [show nI 8 = 8 from rfl, ← ea4] at z4
  have z5 := sh8 (fun i => g i + g (i + 1)) 2 (fun k => by have := hg k; have := hg (k + 1); show g k + g (k + 1) < _; omega) (fun i hi => by show g i + g (i + 1) = 0; rw [hgz i (by omega), hgz (i + 1) (by omega)]) a4 16 (by decide) rfl z4 (fun k => by have := hg k; have := hg (k + 1); have := hg (k + 2); have := hg (k + 2 + 1); show g k + g (k + 1) + (g (k + 2) + g (k + 2 + 1)) < _; omega)
  obtain ⟨a5, ea5⟩ : ∃ z, z = a4 + j_lushr a4 16 := ⟨_, rfl⟩
  rw [show nI 16 = 16 from rfl, ← ea5] at z5
  have z6 := sh8 (fun i => g i + g (i + 1) + (g (i + 2) + g (i + 2 + 1))) 4 (fun k => by have := hg k; have := hg (k + 1); have := hg (k + 2); have := hg (k + 2 + 1); show g k + g (k + 1) + (g (k + 2) + g (k + 2 + 1)) < _; omega) (fun i hi => by show g i + g (i + 1) + (g (i + 2) + g (i + 2 + 1)) = 0; rw [hgz i (by omega), hgz (i + 1) (by omega), hgz (i + 2) (by omega), hgz (i + 2 + 1) (by omega)]) a5 32 (by decide) rfl z5 (fun k => by
    have := hg k; have := hg (k + 1); have := hg (k + 2); have := hg (k + 2 + 1); have := hg (k + 4); have := hg (k + 4 + 1); have := hg (k + 4 + 2); have := hg (k + 4 + 2 + 1)
    show g k + g (k + 1) + (g (k + 2) + g (k + 2 + 1)) + (g (k + 4) + g (k + 4 + 1) + (g (k + 4 + 2) + g (k + 4 + 2 + 1))) < _
    omega)
  obtain ⟨a6, ea6⟩ : ∃ z, z = a5 + j_lushr a5 32 := ⟨_, rfl⟩
  rw [show nI 32 = 32 from rfl, ← ea6] at z6
  have hf : f_J13_bitCount_95d88 a σ = some (a6.toInt32 &&& 127, σ) := by
    unfold f_J13_bitCount_95d88
    rw [← ea1, ← ea2, ← ea3, ← ea4, ← ea5, ← ea6]
  have hP : pcn X 40 = g 0 + g 1 + g 2 + g 3 + g 4 + g 5 + g 6 + g 7 := by
    have h64 : pcn X 40 = pcn X (2 * 32) := (pcn_hi hX 24).symm
    rw [h64, pcn_sum, ← eb, pre_pair, ← ee1, show 32 = 2 * 16 from rfl, pre_pair, ← ee2, show 16 = 2 * 8 from rfl, pre_pair, ← eg]
    show 0 + g 0 + g 1 + g 2 + g 3 + g 4 + g 5 + g 6 + g 7 = _
    omega
  have hP8 : pcn X 40 < 2 ^ 7 := by have := pcn_le (X := X) 40; omega
  rw [hf]
  congr 2
  apply i32_ext
  intro j hj
  rw [Int32.toBitVec_and, BitVec.getLsbD_and, l2i_b _ hj, show (127 : Int32) = nI (2 ^ 7 - 1) from rfl, msk_b (by decide) hj, nI_b (by omega) hj]
  by_cases h7 : j < 7
  · rw [decide_eq_true h7, Bool.and_true]
    show (i64n a6).testBit j = _
    rw [z6, vw_tb (by decide) (fun k => by
      have := hg k; have := hg (k + 1); have := hg (k + 2); have := hg (k + 2 + 1); have := hg (k + 4); have := hg (k + 4 + 1); have := hg (k + 4 + 2); have := hg (k + 4 + 2 + 1)
      show g k + g (k + 1) + (g (k + 2) + g (k + 2 + 1)) + (g (k + 4) + g (k + 4 + 1) + (g (k + 4 + 2) + g (k + 4 + 2 + 1))) < _
      omega), decide_eq_true (show j < 8 * 8 by omega), Bool.true_and, show 0 + j / 8 = 0 by omega, show j % 8 = j by omega, hP]
    show (g 0 + g 1 + (g 2 + g 3) + (g 4 + g 5 + (g 6 + g 7))).testBit j = _
    congr 1
    omega
  · rw [decide_eq_false h7, Bool.and_false, tb0 hP8 (by omega)]
