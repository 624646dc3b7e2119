/-- the reference's variables -/
def hX (ρ : S5) (x : Nat) : Bool := decide (xA ρ 51 (nI x) = 1)
theorem hX_b {ρ : S5} {x : Nat} (h : xA ρ 51 (nI x) = 0 ∨ xA ρ 51 (nI x) = 1) : xA ρ 51 (nI x) = b2i (hX ρ x) := by
  unfold hX
  rcases h with w | w <;> rw [w] <;> decide
/-- variables from lo to hi are written -/
def Fr51 (lo hi : Nat) (ρ ρ' : S5) : Prop := FrZ ρ ρ' ∧ (∀ x, xA ρ' 50 x = xA ρ 50 x) ∧ ∀ x, x < 640 → x < lo ∨ hi ≤ x → xA ρ' 51 (nI x) = xA ρ 51 (nI x)
theorem Fr51.rf (lo hi : Nat) (ρ : S5) : Fr51 lo hi ρ ρ := ⟨FrZ.rf _, fun _ => rfl, fun _ _ _ => rfl⟩
theorem Fr51.tr {lo hi : Nat} {ρ ρ1 ρ2 : S5} (h : Fr51 lo hi ρ ρ1) (k : Fr51 lo hi ρ1 ρ2) : Fr51 lo hi ρ ρ2 := ⟨h.1.tr k.1, fun x => (k.2.1 x).trans (h.2.1 x), fun x a b => (k.2.2 x a b).trans (h.2.2 x a b)⟩
theorem Fr51.wd {lo hi lo' hi' : Nat} {ρ ρ' : S5} (h : Fr51 lo' hi' ρ ρ') (h1 : lo ≤ lo') (h2 : hi' ≤ hi) : Fr51 lo hi ρ ρ' := ⟨h.1, h.2.1, fun x a b => h.2.2 x a (by omega)⟩
theorem Fr51.set {lo hi y : Nat} (ρ : S5) (v : Int32) (h1 : lo ≤ y) (h2 : y < hi) (h3 : y < 640) : Fr51 lo hi ρ (pA ρ 51 (nI y) v) := ⟨⟨fun _ => rfl, fun _ => rfl, fun j _ h5 => gA_ne _ _ _ h5, fun _ => rfl, rfl⟩, fun x => by rw [xA_pA, if_neg (fun z => absurd z.1 (by decide))], fun x hx hz => by rw [xA_pA, if_neg (fun z => tn_neL (a := x) (b := y) (by omega) (by omega) (by omega) z.2)]⟩
theorem Fr51.hx {lo hi : Nat} {ρ ρ' : S5} (h : Fr51 lo hi ρ ρ') {x : Nat} (hx : x < 640) (hz : x < lo ∨ hi ≤ x) : hX ρ' x = hX ρ x := by
  unfold hX
  rw [h.2.2 x hx hz]
/-- what the first loop makes of a part -/
def BI (τ : S5) (pa : Nat → Nat) (c : Int32) (lo hi : Nat) (ρ : S5) : Prop := (∀ x, lo ≤ x → x < hi → xA ρ 51 (nI x) = 0 ∨ xA ρ 51 (nI x) = 1) ∧ (∀ n, Alv τ (hX ρ) n c) ∧ (∀ T' Y n, hF τ c < n → Clo τ pa T' Y n c → ∀ x, lo ≤ x → x < hi → hX ρ x = true → Y x = true)
theorem BI.st {τ : S5} {pa : Nat → Nat} {c : Int32} {Sc : Nat → Prop} {lo hi a b : Nat} {ρ ρ' : S5} (q : VS τ c Sc lo hi) (h : BI τ pa c lo hi ρ) (hf : Fr51 a b ρ ρ') (h40 : hi ≤ 64) (hd : hi ≤ a ∨ b ≤ lo) : BI τ pa c lo hi ρ' := by
  obtain ⟨h1, h2, h3⟩ := h
  have hx : ∀ x, lo ≤ x → x < hi → hX ρ' x = hX ρ x := fun x x1 x2 => hf.hx (by omega) (by omega)
  exact ⟨fun x x1 x2 => by rw [hf.2.2 x (by omega) (by omega)]; exact h1 x x1 x2, fun n => Alv_mo q n (fun x x1 x2 w => by rw [hx x x1 x2]; exact w) (h2 n), fun T' Y n hn hc x x1 x2 w => h3 T' Y n hn hc x x1 x2 (by rw [← hx x x1 x2]; exact w)⟩
/-- the first loop over the children -/
theorem bi_kids {τ μ : S5} {pa : Nat → Nat} {F : Nat} {k ct : Nat} {cc : Nat → Int32} {Sa : Nat → Nat → Prop} {la lb : Nat → Nat} {q p lo hi : Nat} {a1 : Int32} {e : Nat} (hJ : JK μ (fun c q p Sc lo hi => JT τ μ F c q p Sc lo hi ∧ ∀ (ρ : S5), p ≤ e → RwE μ ρ → hi ≤ 64 → ∃ ρ', (∀ N, f_X12_bitOfPart_L2 (N + (p + 1 - q)) a1 (nI e) (nI q) ρ = f_X12_bitOfPart_L2 N a1 (nI e) (nI (p + 1)) ρ') ∧ Fr51 lo hi ρ ρ' ∧ BI τ pa c lo hi ρ') k ct cc Sa la lb q p) (hb : ∀ i, i < k → lo ≤ la i ∧ lb i ≤ hi) (hd : ∀ i j, i < j → j < k → lb i ≤ la j) (hpe : p ≤ e) (h64 : hi ≤ 64) {ρ : S5} (hR : RwE μ ρ) : ∃ ρ', (∀ N, f_X12_bitOfPart_L2 (N + (p - q)) a1 (nI e) (nI q) ρ = f_X12_bitOfPart_L2 N a1 (nI e) (nI p) ρ') ∧ FrZ ρ ρ' ∧ (∀ x, xA ρ' 50 x = xA ρ 50 x) ∧ (∀ x, x < 640 → (∀ i, i < k → x < la i ∨ lb i ≤ x) → xA ρ' 51 (nI x) = xA ρ 51 (nI x)) ∧ ∀ i, i < k → BI τ pa (cc i) (la i) (lb i) ρ' := by
  obtain ⟨qq, pp, k1, k2, k3, k4, k5, k6⟩ := hJ
  have hqq : ∀ i, i < k → qq i ≤ pp i ∧ qq (i + 1) = pp i + 1 := fun i hi => ⟨(k6 i hi).2.1, (k6 i hi).2.2.2.1⟩
  obtain ⟨ρ', r1, r2⟩ := kid_run (G := fun N n ρ => f_X12_bitOfPart_L2 N a1 (nI e) (nI n) ρ) (I := fun i s => FrZ ρ s ∧ (∀ x, xA s 50 x = xA ρ 50 x) ∧ (∀ x, x < 640 → (∀ j, j < i → x < la j ∨ lb j ≤ x) → xA s 51 (nI x) = xA ρ 51 (nI x)) ∧ ∀ j, j < i → BI τ pa (cc j) (la j) (lb j) s) k hqq (fun i hi s hs => by
    obtain ⟨b1, b2, b3, b4, b5⟩ := k6 i hi
    obtain ⟨s1, s2, s3, s4⟩ := hs
    obtain ⟨c1, c2⟩ := hb i hi
    obtain ⟨s', t1, t2, t3⟩ := b1.2 s (by omega) (s1.rw hR) (by omega)
    refine ⟨s', t1, s1.tr t2.1, fun x => (t2.2.1 x).trans (s2 x), fun x hx hj => ?_, fun j hj => ?_⟩
    · rw [t2.2.2 x hx (by have := hj i (by omega); omega)]
      exact s3 x hx (fun j hji => hj j (by omega))
    · by_cases hji : j = i
      · rw [hji]; exact t3
      · obtain ⟨c3, c4⟩ := hb j (by omega)
        exact (s4 j (by omega)).st (k6 j (by omega)).1.1.h.2.2.2.1 t2 (by omega) (Or.inl (hd j i (by omega) hi))) ρ ⟨FrZ.rf _, fun _ => rfl, fun _ _ _ => rfl, fun j hj => absurd hj (by omega)⟩
  rw [k4, k5] at r1
  exact ⟨ρ', r1, r2⟩
/-- a let's names begin with nothing -/
theorem bi_L19 {μ ρ : S5} {a1 a2 : Int32} {p l lo : Nat} (hp : p < 7000) (hR : RwE μ ρ) (h32 : xA μ 32 (nI p) = nI l) (h35 : xA μ 35 (nI p) = nI lo) (hl5 : l ≤ 5) (hlo : lo + l ≤ 64) : ∀ (m i N : Nat) (ρi : S5), i + m = l → m < N → (Fr51 lo (lo + l) ρ ρi ∧ ∀ x, x < i → xA ρi 51 (nI (lo + x)) = 0) → ∃ ρ', (∀ rec2, f_X12_bitOfPart_L19 rec2 N a1 a2 (nI p) (nI i) ρi = rec2 a1 a2 (nI (p + 1)) ρ') ∧ Fr51 lo (lo + l) ρ ρ' ∧ ∀ x, x < l → xA ρ' 51 (nI (lo + x)) = 0 := by
  intro m
  induction m with
  | zero =>
    intro i N ρi hid hN hI
    obtain ⟨N, rfl⟩ : ∃ m, N = m + 1 := ⟨N - 1, by omega⟩
    have hip : i = l := by omega
    refine ⟨ρi, fun rec2 => ?_, hI.1, fun x hx => hI.2 x (by omega)⟩
    show f_X12_bitOfPart_B19 _ _ _ _ _ _ _ = _
    unfold f_X12_bitOfPart_B19 f_X12_bitOfPart_b135
    rw [gdn hp (by omega), (hI.1.1.rw hR).x 32 _ (by decide) (by decide) (by decide) (by decide) (by decide), h32, hip, if_pos (Int32.le_refl _), nI_add1]
  | succ m ih =>
    intro i N ρi hid hN hI
    obtain ⟨N, rfl⟩ : ∃ m, N = m + 1 := ⟨N - 1, by omega⟩
    have hRi := hI.1.1.rw hR
    have st : ∀ rec2, f_X12_bitOfPart_L19 rec2 (N + 1) a1 a2 (nI p) (nI i) ρi = f_X12_bitOfPart_L19 rec2 N a1 a2 (nI p) (nI (i + 1)) (pA ρi 51 (nI (lo + i)) 0) := fun rec2 => by
      show f_X12_bitOfPart_B19 _ _ _ _ _ _ _ = _
      unfold f_X12_bitOfPart_B19
      rw [gdn hp (by omega), hRi.x 32 _ (by decide) (by decide) (by decide) (by decide) (by decide), h32, if_neg (fun w => by have := (nI_le31 (by omega) (by omega)).mp w; omega), gdn hp (by omega), hRi.x 35 _ (by decide) (by decide) (by decide) (by decide) (by decide), h35, nI_plus, gdn (by omega) (by omega), nI_add1]
      rfl
    obtain ⟨ρ', z1, z2⟩ := ih (i + 1) N (pA ρi 51 (nI (lo + i)) 0) (by omega) (by omega) ⟨hI.1.tr (Fr51.set ρi 0 (by omega) (by omega) (by omega)), fun x hx => by
      by_cases hxi : x = i
      · subst hxi
        rw [xA_self]
      · rw [xA_pA, if_neg (fun z => tn_neL (a := lo + x) (b := lo + i) (by omega) (by omega) (by omega) z.2)]
        exact hI.2 x (by omega)⟩
    exact ⟨ρ', fun rec2 => (st rec2).trans (z1 rec2), z2⟩
/-- what an alternative binds has a value -/
theorem bi_L81 {μ ρ : S5} {a1 a2 : Int32} {p ct k j x0 : Nat} (hp : p < 7000) (hR : RwE μ ρ) (h33 : xA μ 33 (nI p) = nI ct) (hct : ct + k < 14000) (h43 : xA μ 43 (nI (ct + k)) = nI j) (h42 : 0 < j → xA μ 42 (nI (ct + k)) = nI x0) (hj5 : x0 + j ≤ 64) : ∀ (m i N : Nat) (ρi : S5), i + m = j → m < N → (Fr51 x0 (x0 + j) ρ ρi ∧ ∀ x, x < i → xA ρi 51 (nI (x0 + x)) = 1) → ∃ ρ', (∀ rec2 rec67, f_X12_bitOfPart_L81 rec2 rec67 N a1 a2 (nI p) (nI k) (nI i) ρi = rec67 a1 a2 (nI p) (nI (k + 1)) ρ') ∧ Fr51 x0 (x0 + j) ρ ρ' ∧ ∀ x, x < j → xA ρ' 51 (nI (x0 + x)) = 1 := by
  intro m
  induction m with
  | zero =>
    intro i N ρi hid hN hI
    obtain ⟨N, rfl⟩ : ∃ m, N = m + 1 := ⟨N - 1, by omega⟩
    have hip : i = j := by omega
    have hRi := hI.1.1.rw hR
    refine ⟨ρi, fun rec2 rec67 => ?_, hI.1, fun x hx => hI.2 x (by omega)⟩
    show f_X12_bitOfPart_B81 _ _ _ _ _ _ _ _ _ = _
    unfold f_X12_bitOfPart_B81
    rw [gdn hp (by omega), hRi.x 33 _ (by decide) (by decide) (by decide) (by decide) (by decide), h33, nI_plus, gdn hct (by omega), hRi.x 43 _ (by decide) (by decide) (by decide) (by decide) (by decide), h43, hip, if_pos (Int32.le_refl _), nI_add1]
  | succ m ih =>
    intro i N ρi hid hN hI
    obtain ⟨N, rfl⟩ : ∃ m, N = m + 1 := ⟨N - 1, by omega⟩
    have hRi := hI.1.1.rw hR
    have st : ∀ rec2 rec67, f_X12_bitOfPart_L81 rec2 rec67 (N + 1) a1 a2 (nI p) (nI k) (nI i) ρi = f_X12_bitOfPart_L81 rec2 rec67 N a1 a2 (nI p) (nI k) (nI (i + 1)) (pA ρi 51 (nI (x0 + i)) 1) := fun rec2 rec67 => by
      show f_X12_bitOfPart_B81 _ _ _ _ _ _ _ _ _ = _
      unfold f_X12_bitOfPart_B81
      rw [gdn hp (by omega), hRi.x 33 _ (by decide) (by decide) (by decide) (by decide) (by decide), h33, nI_plus, gdn hct (by omega), hRi.x 43 _ (by decide) (by decide) (by decide) (by decide) (by decide), h43, if_neg (fun w => by have := (nI_le31 (by omega) (by omega)).mp w; omega), gdn hp (by omega), gdn hct (by omega), hRi.x 42 _ (by decide) (by decide) (by decide) (by decide) (by decide), h42 (by omega), nI_plus, gdn (by omega) (by omega), nI_add1]
      rfl
    obtain ⟨ρ', z1, z2⟩ := ih (i + 1) N (pA ρi 51 (nI (x0 + i)) 1) (by omega) (by omega) ⟨hI.1.tr (Fr51.set ρi 1 (by omega) (by omega) (by omega)), fun x hx => by
      by_cases hxi : x = i
      · subst hxi
        rw [xA_self]
      · rw [xA_pA, if_neg (fun z => tn_neL (a := x0 + x) (b := x0 + i) (by omega) (by omega) (by omega) z.2)]
        exact hI.2 x (by omega)⟩
    exact ⟨ρ', fun rec2 rec67 => (st rec2 rec67).trans (z1 rec2 rec67), z2⟩
/-- all alternatives -/
theorem bi_L67 {μ ρ : S5} {a1 a2 : Int32} {p ct l lo hi : Nat} {jj ll : Nat → Nat} (hp : p < 7000) (hR : RwE μ ρ) (h33 : xA μ 33 (nI p) = nI ct) (h34 : xA μ 34 (nI p) = nI (l + 1)) (hct : ct + (l + 1) ≤ 14000) (ha : ∀ i, i < l → xA μ 43 (nI (ct + 1 + i)) = nI (jj i) ∧ (0 < jj i → xA μ 42 (nI (ct + 1 + i)) = nI (ll i))) (hm : ∀ i, i < l → lo ≤ ll i ∧ ll i + jj i ≤ ll (i + 1) ∧ ll (i + 1) ≤ hi) (h64 : hi ≤ 64) : ∀ (m i N : Nat) (ρi : S5), i + m = l → m < N → (FrZ ρ ρi ∧ (∀ x, xA ρi 50 x = xA ρ 50 x) ∧ (∀ x, x < 640 → (∀ j, j < i → x < ll j ∨ ll j + jj j ≤ x) → xA ρi 51 (nI x) = xA ρ 51 (nI x)) ∧ ∀ j, j < i → ∀ x, x < jj j → xA ρi 51 (nI (ll j + x)) = 1) → ∃ ρ', (∀ rec2, f_X12_bitOfPart_L67 rec2 N a1 a2 (nI p) (nI (1 + i)) ρi = rec2 a1 a2 (nI (p + 1)) ρ') ∧ (FrZ ρ ρ' ∧ (∀ x, xA ρ' 50 x = xA ρ 50 x) ∧ (∀ x, x < 640 → (∀ j, j < l → x < ll j ∨ ll j + jj j ≤ x) → xA ρ' 51 (nI x) = xA ρ 51 (nI x)) ∧ ∀ j, j < l → ∀ x, x < jj j → xA ρ' 51 (nI (ll j + x)) = 1) := by
  have hmo := ll_mo (k := l) (ll := ll) (fun i hi => by have := (hm i hi).2.1; omega)
  intro m
  induction m with
  | zero =>
    intro i N ρi hid hN hI
    obtain ⟨N, rfl⟩ : ∃ m, N = m + 1 := ⟨N - 1, by omega⟩
    have hip : i = l := by omega
    have hRi := hI.1.rw hR
    refine ⟨ρi, fun rec2 => ?_, by rw [← hip]; exact hI⟩
    show f_X12_bitOfPart_B67 _ _ _ _ _ _ _ = _
    unfold f_X12_bitOfPart_B67 f_X12_bitOfPart_b135
    rw [gdn hp (by omega), hRi.x 34 _ (by decide) (by decide) (by decide) (by decide) (by decide), h34, hip, if_pos ((nI_le31 (by omega) (by omega)).mpr (by omega)), nI_add1]
  | succ m ih =>
    intro i N ρi hid hN hI
    obtain ⟨N, rfl⟩ : ∃ m, N = m + 1 := ⟨N - 1, by omega⟩
    obtain ⟨s1, s2, s3, s4⟩ := hI
    have hRi := s1.rw hR
    obtain ⟨m1, m2, m3⟩ := hm i (by omega)
    obtain ⟨n1, n2⟩ := ha i (by omega)
    have e1 : ct + (1 + i) = ct + 1 + i := by omega
    obtain ⟨ρ2, r1, r2, r3⟩ := bi_L81 (a1 := a1) (a2 := a2) (k := 1 + i) (j := jj i) (x0 := ll i) hp hRi h33 (by omega) (by rw [e1]; exact n1) (by rw [e1]; exact n2) (by omega) (jj i) 0 FU ρi (by omega) (by show jj i < 1099511627776; omega) ⟨Fr51.rf _ _ _, fun x hx => absurd hx (by omega)⟩
    have st : ∀ rec2, f_X12_bitOfPart_L67 rec2 (N + 1) a1 a2 (nI p) (nI (1 + i)) ρi = f_X12_bitOfPart_L67 rec2 N a1 a2 (nI p) (nI (1 + (i + 1))) ρ2 := fun rec2 => by
      show f_X12_bitOfPart_B67 _ _ _ _ _ _ _ = _
      unfold f_X12_bitOfPart_B67
      rw [gdn hp (by omega), hRi.x 34 _ (by decide) (by decide) (by decide) (by decide) (by decide), h34, if_neg (fun w => by have := (nI_le31 (by omega) (by omega)).mp w; omega)]
      exact r1 rec2 (f_X12_bitOfPart_L67 rec2 N)
    have hnew : FrZ ρ ρ2 ∧ (∀ x, xA ρ2 50 x = xA ρ 50 x) ∧ (∀ x, x < 640 → (∀ j, j < i + 1 → x < ll j ∨ ll j + jj j ≤ x) → xA ρ2 51 (nI x) = xA ρ 51 (nI x)) ∧ ∀ j, j < i + 1 → ∀ x, x < jj j → xA ρ2 51 (nI (ll j + x)) = 1 := by
      refine ⟨s1.tr r2.1, fun x => (r2.2.1 x).trans (s2 x), fun x hx hj => ?_, fun j hj x hx => ?_⟩
      · rw [r2.2.2 x hx (by have := hj i (by omega); omega)]
        exact s3 x hx (fun j hji => hj j (by omega))
      · by_cases hji : j = i
        · subst hji
          exact r3 x hx
        · have := hmo i (j + 1) (by omega) (by omega)
          have := (hm j (by omega)).2.1
          rw [r2.2.2 _ (by omega) (Or.inl (by omega))]
          exact s4 j (by omega) x hx
    obtain ⟨ρ', z1, z2⟩ := ih (i + 1) N ρ2 (by omega) (by omega) hnew
    exact ⟨ρ', fun rec2 => (st rec2).trans (z1 rec2), z2⟩
