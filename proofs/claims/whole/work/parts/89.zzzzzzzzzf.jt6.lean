/-- a let's names take what their parts have -/
theorem bl_L189 {μ ρ : S5} {a1 a2 : Int32} {p l lo ct : Nat} {pp : Nat → Nat} {bv : Nat → Bool} {mo0 : Bool} (hp : p < 7000) (hR : RwE μ ρ) (h31 : xA μ 31 (nI p) = 0) (h32 : xA μ 32 (nI p) = nI l) (h35 : xA μ 35 (nI p) = nI lo) (h33 : xA μ 33 (nI p) = nI ct) (hct : ct + l < 14000) (hl5 : l ≤ 5) (hlo : lo + l ≤ 64) (h39 : ∀ i, i < l → xA μ 39 (nI (ct + i)) = nI (pp i) ∧ pp i < 7000) (hb : ∀ i, i < l → xA ρ 50 (nI (pp i)) = b2i (bv i)) (h01 : ∀ x, x < l → xA ρ 51 (nI (lo + x)) = 0 ∨ xA ρ 51 (nI (lo + x)) = 1) (rec143 : Int32 → Int32 → Int32 → S5 → Option (Int32 × S5)) : ∀ (m i N : Nat) (mo : Bool) (ρi : S5), i + m = l → m < N → (Fr51 lo (lo + l) ρ ρi ∧ (∀ x, x < i → xA ρi 51 (nI (lo + x)) = b2i (hX ρ (lo + x) || bv x)) ∧ (∀ x, i ≤ x → x < l → xA ρi 51 (nI (lo + x)) = xA ρ 51 (nI (lo + x))) ∧ (mo = true ↔ mo0 = true ∨ ∃ x, x < i ∧ bv x = true ∧ hX ρ (lo + x) = false)) → ∃ (mo' : Bool) (ρ' : S5), (∀ rec180, f_X12_bitOfPart_L189 rec143 rec180 N a1 a2 (b2i mo) (nI p) (nI i) ρi = rec180 a1 a2 (b2i mo') (nI (p + 1)) ρ') ∧ Fr51 lo (lo + l) ρ ρ' ∧ (∀ x, x < l → xA ρ' 51 (nI (lo + x)) = b2i (hX ρ (lo + x) || bv x)) ∧ (mo' = true ↔ mo0 = true ∨ ∃ x, x < l ∧ bv x = true ∧ hX ρ (lo + x) = false) := by
  intro m
  induction m with
  | zero =>
    intro i N mo ρi hid hN hI
    obtain ⟨N, rfl⟩ : ∃ m, N = m + 1 := ⟨N - 1, by omega⟩
    have hip : i = l := by omega
    obtain ⟨s1, s2, s3, s4⟩ := hI
    have hRi := s1.1.rw hR
    refine ⟨mo, ρi, fun rec180 => ?_, s1, fun x hx => s2 x (by omega), by rw [← hip]; exact s4⟩
    show f_X12_bitOfPart_B189 _ _ _ _ _ _ _ _ _ = _
    unfold f_X12_bitOfPart_B189 f_X12_bitOfPart_b308
    rw [gdn hp (by omega), hRi.x 31 _ (by decide) (by decide) (by decide) (by decide) (by decide), h31, if_pos rfl, gdn hp (by omega), hRi.x 32 _ (by decide) (by decide) (by decide) (by decide) (by decide), h32, hip, if_pos (Int32.le_refl _), nI_add1]
  | succ m ih =>
    intro i N mo ρi hid hN hI
    obtain ⟨N, rfl⟩ : ∃ m, N = m + 1 := ⟨N - 1, by omega⟩
    obtain ⟨s1, s2, s3, s4⟩ := hI
    have hRi := s1.1.rw hR
    obtain ⟨k1, k2⟩ := h39 i (by omega)
    have e50 : xA ρi 50 (nI (pp i)) = b2i (bv i) := (s1.2.1 _).trans (hb i (by omega))
    have e51 : xA ρi 51 (nI (lo + i)) = b2i (hX ρ (lo + i)) := (s3 i (Nat.le_refl _) (by omega)).trans (hX_b (h01 i (by omega)))
    have x35 : xA ρi 35 (nI p) = nI lo := (hRi.x 35 _ (by decide) (by decide) (by decide) (by decide) (by decide)).trans h35
    have st : ∀ rec180, f_X12_bitOfPart_L189 rec143 rec180 (N + 1) a1 a2 (b2i mo) (nI p) (nI i) ρi = f_X12_bitOfPart_L189 rec143 rec180 N a1 a2 (b2i (mo || (bv i && !hX ρ (lo + i)))) (nI p) (nI (i + 1)) (pA ρi 51 (nI (lo + i)) (b2i (hX ρ (lo + i) || bv i))) := fun rec180 => by
      show f_X12_bitOfPart_B189 _ _ _ _ _ _ _ _ _ = _
      unfold f_X12_bitOfPart_B189 f_X12_bitOfPart_b257 f_X12_bitOfPart_b253 f_X12_bitOfPart_b258 f_X12_bitOfPart_b296 f_X12_bitOfPart_b301
      rw [gdn hp (by omega), hRi.x 31 _ (by decide) (by decide) (by decide) (by decide) (by decide), h31, if_pos rfl, gdn hp (by omega), hRi.x 32 _ (by decide) (by decide) (by decide) (by decide) (by decide), h32, if_neg (fun w => by have := (nI_le31 (by omega) (by omega)).mp w; omega), chd_go hRi hp h33 (by omega) k1, bd_of, gdn k2 (by omega), e50, x35, nI_plus, e51, nI_add1]
      simp only [gdn hp (show 7000 < 2 ^ 31 by omega), gdn (show lo + i < 640 by omega) (show 640 < 2 ^ 31 by omega)]
      cases mo <;> cases bv i <;> cases hX ρ (lo + i) <;> rfl
    obtain ⟨mo', ρ', z1, z2⟩ := ih (i + 1) N (mo || (bv i && !hX ρ (lo + i))) (pA ρi 51 (nI (lo + i)) (b2i (hX ρ (lo + i) || bv i))) (by omega) (by omega) ⟨s1.tr (Fr51.set ρi _ (by omega) (by omega) (by omega)), fun x hx => by
      by_cases hxi : x = i
      · subst hxi
        rw [xA_self]
      · rw [xA_pA, if_neg (fun z => tn_neL (a := lo + x) (b := lo + i) (by omega) (by omega) (by omega) z.2)]
        exact s2 x (by omega), fun x h1 h2 => by
      rw [xA_pA, if_neg (fun z => tn_neL (a := lo + x) (b := lo + i) (by omega) (by omega) (by omega) z.2)]
      exact s3 x (by omega) h2, by
      rw [Bool.or_eq_true, s4, Bool.and_eq_true, Bool.not_eq_true']
      refine ⟨fun w => ?_, fun w => ?_⟩
      · rcases w with (w | ⟨x, x1, x2, x3⟩) | ⟨w1, w2⟩
        · exact Or.inl w
        · exact Or.inr ⟨x, by omega, x2, x3⟩
        · exact Or.inr ⟨i, by omega, w1, w2⟩
      · rcases w with w | ⟨x, x1, x2, x3⟩
        · exact Or.inl (Or.inl w)
        · by_cases hxi : x = i
          · subst hxi; exact Or.inr ⟨x2, x3⟩
          · exact Or.inl (Or.inr ⟨x, by omega, x2, x3⟩)⟩
    exact ⟨mo', ρ', fun rec180 => (st rec180).trans (z1 rec180), z2⟩
/-- what the second loop has made of variables and its flag -/
def BLb (H lo hi : Nat) (s0 s : Bool × S5) : Prop := Fr51 lo hi s0.2 s.2 ∧ (∀ x, x < H → xA s.2 51 (nI x) = 0 ∨ xA s.2 51 (nI x) = 1) ∧ (∀ x, x < H → hX s0.2 x = true → hX s.2 x = true) ∧ (s.1 = false → s0.1 = false ∧ ∀ x, x < H → hX s.2 x = hX s0.2 x) ∧ (s0.1 = false → s.1 = false ∨ ∃ x, x < H ∧ hX s0.2 x = false ∧ hX s.2 x = true)
theorem BLb.rf {H : Nat} (lo hi : Nat) {s : Bool × S5} (h : ∀ x, x < H → xA s.2 51 (nI x) = 0 ∨ xA s.2 51 (nI x) = 1) : BLb H lo hi s s := ⟨Fr51.rf _ _ _, h, fun _ _ w => w, fun w => ⟨w, fun _ _ => rfl⟩, fun w => Or.inl w⟩
theorem BLb.tr {H lo hi : Nat} {s0 s1 s2 : Bool × S5} (h : BLb H lo hi s0 s1) (k : BLb H lo hi s1 s2) : BLb H lo hi s0 s2 := by
  obtain ⟨a1, a2, a3, a4, a5⟩ := h
  obtain ⟨b1, b2, b3, b4, b5⟩ := k
  refine ⟨a1.tr b1, b2, fun x hx w => b3 x hx (a3 x hx w), fun w => ?_, fun w => ?_⟩
  · obtain ⟨c1, c2⟩ := b4 w
    obtain ⟨d1, d2⟩ := a4 c1
    exact ⟨d1, fun x hx => (c2 x hx).trans (d2 x hx)⟩
  · rcases a5 w with z | ⟨x, x1, x2, x3⟩
    · rcases b5 z with y | ⟨x, x1, x2, x3⟩
      · exact Or.inl y
      · refine Or.inr ⟨x, x1, ?_, x3⟩
        cases e : hX s0.2 x with
        | false => rfl
        | true => rw [a3 x x1 e] at x2; exact absurd x2 (by decide)
    · exact Or.inr ⟨x, x1, x2, b3 x x1 x3⟩
theorem BLb.wd {H lo hi lo' hi' : Nat} {s0 s : Bool × S5} (h : BLb H lo' hi' s0 s) (h1 : lo ≤ lo') (h2 : hi' ≤ hi) : BLb H lo hi s0 s := ⟨h.1.wd h1 h2, h.2⟩
/-- and what it says of a part -/
def BLr (τ : S5) (pa : Nat → Nat) (H : Nat) (T : Nat → (Nat → Bool) → Bool) (X0 : Nat → Bool) (c : Int32) (s0 s : Bool × S5) : Prop := (∀ T' Y n, Crs T T' → hF τ c < n → Clo τ pa T' Y n c → (∀ x, X0 x = true → Y x = true) → (∀ x, x < H → hX s0.2 x = true → Y x = true) → ∀ x, x < H → hX s.2 x = true → Y x = true) ∧ (s.1 = false → (∀ x, x < H → hX s0.2 x = X0 x) → ∀ n, hF τ c < n → Alv τ X0 n c → Clo τ pa T X0 n c)
/-- the second loop, over a part -/
def BLg (τ μ : S5) (pa : Nat → Nat) (F H : Nat) (T : Nat → (Nat → Bool) → Bool) (X0 : Nat → Bool) (a1 : Int32) (e : Nat) (rec143 : Int32 → Int32 → Int32 → S5 → Option (Int32 × S5)) (c : Int32) (q p lo hi : Nat) : Prop := ∀ (s : Bool × S5), p ≤ e → RwE μ s.2 → hi ≤ H → hF τ c < 41 → (∀ x, x < H → xA s.2 51 (nI x) = 0 ∨ xA s.2 51 (nI x) = 1) → Bts τ μ pa F H T X0 q (p + 1) s.2 → ∃ s', (∀ N, f_X12_bitOfPart_L180 rec143 (N + (p + 1 - q)) a1 (nI e) (b2i s.1) (nI q) s.2 = f_X12_bitOfPart_L180 rec143 N a1 (nI e) (b2i s'.1) (nI (p + 1)) s'.2) ∧ BLb H lo hi s s' ∧ BLr τ pa H T X0 c s s'
theorem bl_kids {τ μ : S5} {pa : Nat → Nat} {F H : Nat} {T : Nat → (Nat → Bool) → Bool} {X0 : Nat → Bool} {a1 : Int32} {e : Nat} {rec143 : Int32 → Int32 → Int32 → S5 → Option (Int32 × S5)} {k ct : Nat} {cc : Nat → Int32} {Sa : Nat → Nat → Prop} {la lb : Nat → Nat} {q p lo hi : Nat} (hJ : JK μ (fun c q p Sc lo hi => JT τ μ F c q p Sc lo hi ∧ BLg τ μ pa F H T X0 a1 e rec143 c q p lo hi) k ct cc Sa la lb q p) (hb : ∀ i, i < k → lo ≤ la i ∧ lb i ≤ hi ∧ hF τ (cc i) < 41) (hpe : p ≤ e) (hH : hi ≤ H) {s : Bool × S5} (hR : RwE μ s.2) (h01 : ∀ x, x < H → xA s.2 51 (nI x) = 0 ∨ xA s.2 51 (nI x) = 1) (hB : Bts τ μ pa F H T X0 q (p + 1) s.2) : ∃ s', (∀ N, f_X12_bitOfPart_L180 rec143 (N + (p - q)) a1 (nI e) (b2i s.1) (nI q) s.2 = f_X12_bitOfPart_L180 rec143 N a1 (nI e) (b2i s'.1) (nI p) s'.2) ∧ BLb H lo hi s s' ∧ (∀ T' Y, Crs T T' → (∀ j, j < k → ∃ n, hF τ (cc j) < n ∧ Clo τ pa T' Y n (cc j)) → (∀ x, X0 x = true → Y x = true) → (∀ x, x < H → hX s.2 x = true → Y x = true) → ∀ x, x < H → hX s'.2 x = true → Y x = true) ∧ (s'.1 = false → (∀ x, x < H → hX s.2 x = X0 x) → ∀ j, j < k → ∀ n, hF τ (cc j) < n → Alv τ X0 n (cc j) → Clo τ pa T X0 n (cc j)) := by
  obtain ⟨qq, pp, k1, k2, k3, k4, k5, k6⟩ := hJ
  have hqq : ∀ i, i < k → qq i ≤ pp i ∧ qq (i + 1) = pp i + 1 := fun i hi => ⟨(k6 i hi).2.1, (k6 i hi).2.2.2.1⟩
  obtain ⟨s', r1, r2⟩ := kid_run (G := fun N n (s : Bool × S5) => f_X12_bitOfPart_L180 rec143 N a1 (nI e) (b2i s.1) (nI n) s.2) (I := fun i s' => BLb H lo hi s s' ∧ (∀ T' Y, Crs T T' → (∀ j, j < i → ∃ n, hF τ (cc j) < n ∧ Clo τ pa T' Y n (cc j)) → (∀ x, X0 x = true → Y x = true) → (∀ x, x < H → hX s.2 x = true → Y x = true) → ∀ x, x < H → hX s'.2 x = true → Y x = true) ∧ (s'.1 = false → (∀ x, x < H → hX s.2 x = X0 x) → ∀ j, j < i → ∀ n, hF τ (cc j) < n → Alv τ X0 n (cc j) → Clo τ pa T X0 n (cc j))) k hqq (fun i hi s1 hs => by
    obtain ⟨b1, b2, b3, b4, b5⟩ := k6 i hi
    obtain ⟨s2, s3, s4⟩ := hs
    obtain ⟨c1, c2, c3⟩ := hb i hi
    have hq := qq_mo hqq i 0 (by omega) (by omega)
    obtain ⟨s5, t1, t2, t3, t4⟩ := b1.2 s1 (by omega) (s2.1.1.rw hR) (by omega) c3 s2.2.1 (fun c' q' p' Sc' lo' hi' r1 r2 r3 r4 r5 => by
      rw [s2.1.2.1]
      exact hB c' q' p' Sc' lo' hi' r1 (by omega) (by omega) r4 r5)
    refine ⟨s5, t1, s2.tr (t2.wd c1 c2), fun T' Y y1 y2 y3 y4 => ?_, fun y1 y2 j hj n hn ha => ?_⟩
    · obtain ⟨n, n1, n2⟩ := y2 i (by omega)
      exact t3 T' Y n y1 n1 n2 y3 (s3 T' Y y1 (fun j hj => y2 j (by omega)) y3 y4)
    · have hf := t2.2.2.2.1 y1
      by_cases hji : j = i
      · subst hji
        have h2 := s2.2.2.2.1 hf.1
        exact t4 y1 (fun x hx => (h2.2 x hx).trans (y2 x hx)) n hn ha
      · exact s4 hf.1 y2 j (by omega) n hn ha) s ⟨BLb.rf _ _ h01, fun T' Y _ _ _ y4 => y4, fun _ _ j hj => absurd hj (by omega)⟩
  rw [k4, k5] at r1
  exact ⟨s', r1, r2⟩
