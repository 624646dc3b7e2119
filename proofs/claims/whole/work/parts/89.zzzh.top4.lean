theorem mT_f {μ : S5} {n : Int32} {k : Nat} (hk : k ≤ 29) (hn0 : 0 ≤ n) (h13 : gI μ 13 = nI k) : ∃ Q : S5, pA (mTp μ n) 9 n (gI (mTp μ n) 10) = Q ∧ (∀ j, ¬ j = 13 → gI Q j = gI μ j) ∧ gI Q 13 = nI (k + 1) ∧ (∀ j x, ¬ j = 9 → ¬ j = 11 → ¬ j = 12 → xA Q j x = xA μ j x) ∧ xA Q 9 n = gI μ 10 ∧ (∀ x, 0 ≤ x → x < n → xA Q 9 x = xA μ 9 x) ∧ (∀ j x, ¬ j = 2 → xB Q j x = xB μ j x) ∧ (∀ i, i < k → xB Q 2 (nI i) = xB μ 2 (nI i) ∧ xA Q 11 (nI i) = xA μ 11 (nI i) ∧ xA Q 12 (nI i) = xA μ 12 (nI i)) ∧ (xB Q 2 (nI k) = xB μ 0 n ∧ xA Q 11 (nI k) = xA μ 6 n ∧ xA Q 12 (nI k) = n) ∧ EqT μ Q ∧ (∀ σ, Wd σ μ → Wd σ Q) := by
  have hki : 0 ≤ nI k ∧ nI k < 30 := nI_n30 (by omega)
  have T : ∀ j, ¬ j = 13 → gI (mTp μ n) j = gI μ j := fun j w => by
    unfold mTp
    rw [gI_pI, if_neg w]
    rfl
  have T13 : gI (mTp μ n) 13 = nI (k + 1) := by
    show gI μ 13 + 1 = _
    rw [h13, nI_add1]
  have TA : ∀ j x, ¬ j = 11 → ¬ j = 12 → xA (mTp μ n) j x = xA μ j x := fun j x w1 w2 => by
    unfold mTp
    rw [xA_pI, xA_pA, if_neg (fun w => w2 w.1), xA_pA, if_neg (fun w => w1 w.1), xA_pB]
  have T11 : ∀ x : Int32, xA (mTp μ n) 11 x = if x.toNatClampNeg = (nI k).toNatClampNeg then xA μ 6 n else xA μ 11 x := fun x => by
    unfold mTp
    rw [h13]
    simp [xA_pI, xA_pA, xA_pB]
  have T12 : ∀ x : Int32, xA (mTp μ n) 12 x = if x.toNatClampNeg = (nI k).toNatClampNeg then n else xA μ 12 x := fun x => by
    unfold mTp
    rw [h13]
    simp [xA_pI, xA_pA, xA_pB]
  have TB : ∀ j x, ¬ j = 2 → xB (mTp μ n) j x = xB μ j x := fun j x w => by
    unfold mTp
    rw [xB_pI, xB_pA, xB_pA, xB_pB, if_neg (fun q => w q.1)]
  have TB2 : ∀ x : Int32, xB (mTp μ n) 2 x = if x.toNatClampNeg = (nI k).toNatClampNeg then xB μ 0 n else xB μ 2 x := fun x => by
    unfold mTp
    rw [h13]
    simp [xB_pI, xB_pA, xB_pB]
  have TE : EqT μ (mTp μ n) := ((((EqT.rf μ).B (by decide)).A (by decide)).A (by decide)).I (by decide)
  have TW : ∀ σ, Wd σ μ → Wd σ (pA (mTp μ n) 9 n (gI (mTp μ n) 10)) := fun σ h => h.mTp
  refine ⟨_, rfl, ?_⟩
  generalize mTp μ n = M at *
  have hne : ∀ i, i < k → ¬ (nI i).toNatClampNeg = (nI k).toNatClampNeg := fun i hi w => by
    have h1 := (i_inj (nI_n30 (i := i) (by omega)).1 hki.1).mp w
    have := nI_inj (a := i) (b := k) (by omega) (by omega) h1
    omega
  refine ⟨fun j w => (a9_gI _ _ _ _).trans (T j w), (a9_gI _ _ _ _).trans T13, fun j x w1 w2 w3 => (a9_A _ _ _ _ w1).trans (TA j x w2 w3), ?_, fun x p q => (a9_9 _ _ p q).trans (TA 9 x (by decide) (by decide)), fun j x w => TB j x w, fun i hi => ?_, ?_, TE.A (by decide), TW⟩
  · rw [xA_pA, if_pos ⟨rfl, rfl⟩]; exact T 10 (by decide)
  · rw [a9_A _ _ _ _ (by decide), a9_A _ _ _ _ (by decide), T11, T12, if_neg (hne i hi), if_neg (hne i hi)]
    exact ⟨by rw [xB_pA, TB2, if_neg (hne i hi)], rfl, rfl⟩
  · rw [a9_A _ _ _ _ (by decide), a9_A _ _ _ _ (by decide), T11, T12, if_pos rfl, if_pos rfl]
    exact ⟨by rw [xB_pA, TB2, if_pos rfl], rfl, rfl⟩
theorem EqT.w {σ τ : S5} {e k p v : Int32} {z : Int64} (h : EqT σ τ) : EqT σ (wdM τ e k p v z) := h.tr (EqR.t ((EqR.rf τ).w))
/-- both have read a function's name -/
def FN1 (σ μ σ2 μ2 : S5) (k : Nat) : Prop := Sv σ2 μ2 ∧ iv σ 18 + 1 ≤ iv σ2 18 ∧ (∀ j, j < 16 → ¬ j = 5 → ¬ j = 6 → ¬ j = 9 → gI σ2 j = gI σ j) ∧ (gI σ2 5 = nI (k + 1) ∧ gI σ2 6 = nI (k + 1) ∧ gI σ2 9 = gI σ 9 + 1) ∧ (∀ x, xA σ2 2 x = xA σ 2 x) ∧ FrC σ σ2 ∧ (∀ i, i < k → xB σ2 1 (nI i) = xB σ 1 (nI i) ∧ xA σ2 8 (nI i) = xA σ 8 (nI i) ∧ xA σ2 4 (nI i) = xA σ 4 (nI i) ∧ xA σ2 11 (nI i) = xA σ 11 (nI i)) ∧ (xB σ2 1 (nI k) = gJ σ 0 ∧ xA σ2 8 (nI k) = gI σ 9 ∧ xA σ2 4 (nI k) = 0 ∧ xA σ2 11 (nI k) = 0) ∧ (xA σ2 20 (gI σ 9) = 0 ∧ xA σ2 21 (gI σ 9) = -1 ∧ xA σ2 22 (gI σ 9) = gI σ 9 ∧ xA σ2 24 (gI σ 9) = gI σ 18) ∧ ((∀ j, 6 < j → ¬ j = 9 → ¬ j = 13 → gI μ2 j = gI μ j) ∧ gI μ2 9 = gI μ 9 + 1 ∧ gI μ2 13 = nI (k + 1) ∧ FrM μ μ2) ∧ (∀ i, i < k → xB μ2 2 (nI i) = xB μ 2 (nI i) ∧ xA μ2 11 (nI i) = xA μ 11 (nI i) ∧ xA μ2 12 (nI i) = xA μ 12 (nI i)) ∧ (xB μ2 2 (nI k) = gJ μ 0 ∧ xA μ2 11 (nI k) = gI μ 5 ∧ xA μ2 12 (nI k) = gI μ 9) ∧ (xA μ2 2 (gI μ 9) = 12 ∧ xA μ2 5 (gI μ 9) = -1 ∧ xA μ2 6 (gI μ 9) = gI μ 5 ∧ xA μ2 10 (gI μ 9) = 0 ∧ xA μ2 9 (gI μ 9) = gI μ2 10) ∧ EqT μ μ2
theorem fn_one {μ0 σ μ : S5} {k : Nat} {cc fs fu fn ft : Nat → Int32} (h : TP μ0 σ μ k cc fs fu fn ft) (h3 : gI σ 17 = 3) (hk : k ≤ 29) : ∃ σ2 μc μ2 : S5, f_X10_advance (cTp (cSc σ (-1) (gI σ 18) (gI σ 9)) (gJ σ 0) (gI σ 9)) = some ((), σ2) ∧ f_X12_next (pB (ndM μ 12) 0 (gI μ 9) (gJ μ 0)) = some ((), μc) ∧ gI μc 7 = 0 ∧ gI μc 13 = gI μ 13 ∧ pA (mTp μc (gI μ 9)) 9 (gI μ 9) (gI (mTp μc (gI μ 9)) 10) = μ2 ∧ FN1 σ μ σ2 μ2 k := by
  obtain ⟨hs, hbm, ⟨h15, h14, h16, h17, hs7⟩, ⟨hk30, h5, h6, h13⟩, -, -, -⟩ := h
  have hb := hs.2.2
  have hp3 := hs.p3
  unfold Bv at hb
  obtain ⟨b1, b2, b3, b4, b5, b6, b7, b8, b9, b10, b11, b12, b13, b14, b15, b16, b17, b18, b19, b20, b21, b22, b23⟩ := hb
  obtain ⟨C, hC, CI, C5, C6, C9, CA, CB, CF, Ci, Ck, Cs, CW⟩ := fn_oneC hk h5 h6
  obtain ⟨N, hN, NI, N9, NF', NA, NB, Nr, NT, NW⟩ := fn_oneM μ
  rw [hC, hN]
  clear hC hN
  have hW : Wd C N := CW N (NW σ hs.1)
  obtain ⟨e, kc, p, v, z, vm, zm, a1, a2, a3, a4, a5, a6⟩ := adv hW (by rw [CI 17 (by decide) (by decide) (by decide), h3]; decide)
  rw [CI 18 (by decide) (by decide) (by decide)] at a4
  have m13 : gI (wdM N e (kMd kc) p vm zm) 13 = nI k := (gI_wdM (by decide)).trans ((NI 13 (by decide)).trans h13)
  obtain ⟨Q, hQ, QI, Q13, QA, Q9, Q9b, QB, Qi, Qk, QT, QW⟩ := mT_f (μ := wdM N e (kMd kc) p vm zm) (n := gI μ 9) hk b17 m13
  refine ⟨_, _, Q, a1, a2, (gI_wdM (by decide)).trans ((NI 7 (by decide)).trans b2), by rw [m13, h13], hQ, ?_⟩
  clear hQ
  have S18 : gI (wdC C e kc p v z) 18 = p := p_wdC
  have SI : ∀ j, (j < 16 ∨ 19 < j) → gI (wdC C e kc p v z) j = gI C j := fun j w => gI_wdC w
  have SA : ∀ j x, xA (wdC C e kc p v z) j x = xA C j x := fun j x => xA_wdC ..
  have SB : ∀ j x, xB (wdC C e kc p v z) j x = xB C j x := fun j x => xB_wdC ..
  have SF : FrC σ (wdC C e kc p v z) := CF.w
  have MI : ∀ j, (j < 3 ∨ 6 < j) → gI (wdM N e (kMd kc) p vm zm) j = gI N j := fun j w => gI_wdM w
  have MA : ∀ j x, xA (wdM N e (kMd kc) p vm zm) j x = xA N j x := fun j x => xA_wdM ..
  have MB : ∀ j x, xB (wdM N e (kMd kc) p vm zm) j x = xB N j x := fun j x => xB_wdM ..
  have MT : EqT μ (wdM N e (kMd kc) p vm zm) := NT.w
  have hWQ := QW _ a3
  clear a1 a2 a3 hW QW NW CW
  generalize wdC C e kc p v z = S at *
  generalize wdM N e (kMd kc) p vm zm = M at *
  have s0 : ∀ j, j < 16 → ¬ j = 5 → ¬ j = 6 → ¬ j = 9 → gI S j = gI σ j := fun j w w1 w2 w3 => (SI j (Or.inl w)).trans (CI j w1 w2 w3)
  have s5 : gI S 5 = nI (k + 1) := (SI 5 (by decide)).trans C5
  have s6 : gI S 6 = nI (k + 1) := (SI 6 (by decide)).trans C6
  have s9 : gI S 9 = gI σ 9 + 1 := (SI 9 (by decide)).trans C9
  have q0 : ∀ j, 6 < j → ¬ j = 9 → ¬ j = 13 → gI Q j = gI μ j := fun j w w1 w2 => (QI j w2).trans ((MI j (Or.inr w)).trans (NI j w1))
  have q9 : gI Q 9 = gI μ 9 + 1 := (QI 9 (by decide)).trans ((MI 9 (by decide)).trans N9)
  have i8 := iv_eq (s0 8 (by decide) (by decide) (by decide) (by decide))
  have i9 := iv_a1 s9 b11 (le_t b12 (by decide))
  have i5 : iv S 5 = iv σ 5 + 1 := iv_a1 (by rw [s5, h5, nI_add1]) b13 (le_t b14 (by decide))
  have i10 := iv_eq (s0 10 (by decide) (by decide) (by decide) (by decide))
  have i13 := iv_eq (s0 13 (by decide) (by decide) (by decide) (by decide))
  have i18 : iv σ 18 < iv S 18 := iv_lt (by rw [S18]; exact a4)
  have j9 := iv_a1 q9 b17 (le_t b18 (by decide))
  have j10 := iv_eq (q0 10 (by decide) (by decide) (by decide))
  have hBw : Bw S Q := by
    unfold Bm at hbm
    unfold Bw
    omega
  have hCt : Ct S Q := Ct_of hs.2.1 (s0 4 (by decide) (by decide) (by decide) (by decide)) (q0 14 (by decide) (by decide) (by decide)) (fun x => by rw [SB, CB 0 x (by decide)]) (fun x => by rw [QB 3 x (by decide), MB, NB 3 x (by decide)]) (fun x => by rw [SA, CA 2 x (by decide) (by decide) (by decide) (by decide) (by decide) (by decide) (by decide)]) (fun x => by rw [QA 13 x (by decide) (by decide) (by decide), MA, NA 13 x (by decide)])
  have z9 := le0_a1 b11 (le_t b12 (by decide))
  have z9m := le0_a1 b17 (le_t b18 (by decide))
  refine ⟨⟨hWQ, hCt, Bv_mk (by rw [s0 11 (by decide) (by decide) (by decide) (by decide)]; exact b1) (by rw [q0 7 (by decide) (by decide) (by decide)]; exact b2) (by rw [s0 13 (by decide) (by decide) (by decide) (by decide), q0 11 (by decide) (by decide) (by decide)]; exact b3) (by rw [s0 13 (by decide) (by decide) (by decide) (by decide)]; exact b4) (by rw [s0 13 (by decide) (by decide) (by decide) (by decide)]; exact b5) (by rw [s0 14 (by decide) (by decide) (by decide) (by decide), q0 15 (by decide) (by decide) (by decide)]; exact b6) (by rw [s0 14 (by decide) (by decide) (by decide) (by decide)]; exact b7) (by rw [s0 14 (by decide) (by decide) (by decide) (by decide)]; exact b8) (by rw [s0 8 (by decide) (by decide) (by decide) (by decide)]; exact b9) (by rw [s9]; exact z9) (by rw [s5]; exact i_le0 (nI_nneg (by omega))) (by rw [s5]; exact (nI_le31 (b := 30) (by omega) (by omega)).mpr (by omega)) (by rw [s0 10 (by decide) (by decide) (by decide) (by decide)]; exact b15) (by rw [q9]; exact z9m) (by rw [q0 10 (by decide) (by decide) (by decide)]; exact b19) (by rw [s0 15 (by decide) (by decide) (by decide) (by decide)]; exact b21) (by rw [s0 15 (by decide) (by decide) (by decide) (by decide)]; exact b22) (by rw [S18]; exact a6) hBw⟩, by omega, s0, ⟨s5, s6, s9⟩, fun x => by rw [SA, CA 2 x (by decide) (by decide) (by decide) (by decide) (by decide) (by decide) (by decide)], SF, fun i hi => by rw [SB, SA, SA, SA]; exact Ci i hi, by rw [SB, SA, SA, SA]; exact Ck, by rw [SA, SA, SA, SA]; exact Cs, ⟨q0, q9, Q13, ?_⟩, fun i hi => ?_, ?_, ⟨?_, ?_, ?_, ?_, ?_⟩, MT.tr QT⟩
  · obtain ⟨f1, f2⟩ := NF'
    refine ⟨fun i p q => ?_, fun i p q => by rw [QB 1 i (by decide), MB]; exact f2 i p q⟩
    rw [QA 2 i (by decide) (by decide) (by decide), QA 3 i (by decide) (by decide) (by decide), QA 4 i (by decide) (by decide) (by decide), QA 5 i (by decide) (by decide) (by decide), QA 6 i (by decide) (by decide) (by decide), QA 7 i (by decide) (by decide) (by decide), QA 8 i (by decide) (by decide) (by decide), Q9b i p q, QA 10 i (by decide) (by decide) (by decide), QB 0 i (by decide), MA, MA, MA, MA, MA, MA, MA, MA, MA, MB]
    exact f1 i p q
  · have x := Qi i hi
    rw [x.1, x.2.1, x.2.2, MB, MA, MA, NB 2 _ (by decide), NA 11 _ (by decide), NA 12 _ (by decide)]
    exact ⟨rfl, rfl, rfl⟩
  · rw [Qk.1, Qk.2.1, Qk.2.2, MB, MA]
    exact ⟨Nr.2.2.2.2, Nr.2.2.1, rfl⟩
  · rw [QA 2 _ (by decide) (by decide) (by decide), MA]; exact Nr.1
  · rw [QA 5 _ (by decide) (by decide) (by decide), MA]; exact Nr.2.1
  · rw [QA 6 _ (by decide) (by decide) (by decide), MA]; exact Nr.2.2.1
  · rw [QA 10 _ (by decide) (by decide) (by decide), MA]; exact Nr.2.2.2.1
  · rw [Q9, QI 10 (by decide)]
