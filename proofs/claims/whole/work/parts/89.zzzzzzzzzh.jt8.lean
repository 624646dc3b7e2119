/-- how many variables have a value -/
def wH (ρ : S5) (x : Nat) : Nat := if hX ρ x = true then 1 else 0
theorem wH_1 (ρ : S5) (x : Nat) : wH ρ x ≤ 1 := by
  unfold wH
  split <;> omega
/-- while the bit of a part is looked for -/
def LpI (τ : S5) (pa : Nat → Nat) (T : Nat → (Nat → Bool) → Bool) (c : Int32) (lo hi : Nat) (ρ0 ρ : S5) : Prop := FrZ ρ0 ρ ∧ (∀ x, x < 640 → x < lo → xA ρ 51 (nI x) = xA ρ0 51 (nI x)) ∧ (∀ x, x < hi → xA ρ 51 (nI x) = 0 ∨ xA ρ 51 (nI x) = 1) ∧ (∀ n, Alv τ (hX ρ) n c) ∧ ∀ T' Y, Crs T T' → Clo τ pa T' Y 41 c → (∀ x, x < lo → hX ρ0 x = true → Y x = true) → ∀ x, x < hi → hX ρ x = true → Y x = true
theorem bp_L143 {τ μ ρ0 : S5} {pa : Nat → Nat} {F : Nat} (hpa : ∀ g, g < F → xA μ 47 (nI g) = nI (pa g) ∧ pa g ≤ 8) (hF6 : F ≤ 630) (hR : RwE μ ρ0) (hT : T01 ρ0 F) {c : Int32} {q p : Nat} {Sc : Nat → Prop} {lo hi : Nat} (h : JT τ μ F c q p Sc lo hi) (h64 : hi ≤ 64) (h41 : hF τ c < 41) : ∀ (m i N : Nat) (mo : Bool) (ρ : S5), i + m = 70 → m < N → LpI τ pa (TBm ρ0 pa) c lo hi ρ0 ρ → (mo = true → i ≤ pre (wH ρ) hi) → (mo = false → ∃ X : Nat → Bool, (∀ x, x < lo → X x = hX ρ0 x) ∧ Clo τ pa (TBm ρ0 pa) X 41 c ∧ xA ρ 50 (nI p) = b2i (dv τ pa (TBm ρ0 pa) X 41 c) ∧ ∀ T' Y, Crs (TBm ρ0 pa) T' → Clo τ pa T' Y 41 c → (∀ x, x < lo → hX ρ0 x = true → Y x = true) → dv τ pa (TBm ρ0 pa) X 41 c = true → dv τ pa T' Y 41 c = true) → ∃ b ρ', f_X12_bitOfPart_L143 N (nI q) (nI p) (b2i mo) ρ = some (b2i b, ρ') ∧ LpI τ pa (TBm ρ0 pa) c lo hi ρ0 ρ' ∧ (b = true → ∀ T' Y, Crs (TBm ρ0 pa) T' → Clo τ pa T' Y 41 c → (∀ x, x < lo → hX ρ0 x = true → Y x = true) → dv τ pa T' Y 41 c = true) ∧ ((∀ Y : Nat → Bool, (∀ x, x < lo → Y x = hX ρ0 x) → Clo τ pa (TBm ρ0 pa) Y 41 c → dv τ pa (TBm ρ0 pa) Y 41 c = true) → b = true) := by
  obtain ⟨g1, g2, g3, g4, g5⟩ := h.h
  have fin : ∀ (N : Nat) (ρ : S5), LpI τ pa (TBm ρ0 pa) c lo hi ρ0 ρ → (∃ X : Nat → Bool, (∀ x, x < lo → X x = hX ρ0 x) ∧ Clo τ pa (TBm ρ0 pa) X 41 c ∧ xA ρ 50 (nI p) = b2i (dv τ pa (TBm ρ0 pa) X 41 c) ∧ ∀ T' Y, Crs (TBm ρ0 pa) T' → Clo τ pa T' Y 41 c → (∀ x, x < lo → hX ρ0 x = true → Y x = true) → dv τ pa (TBm ρ0 pa) X 41 c = true → dv τ pa T' Y 41 c = true) → ∃ b ρ', f_X12_bitOfPart_L143 (N + 1) (nI q) (nI p) (b2i false) ρ = some (b2i b, ρ') ∧ LpI τ pa (TBm ρ0 pa) c lo hi ρ0 ρ' ∧ (b = true → ∀ T' Y, Crs (TBm ρ0 pa) T' → Clo τ pa T' Y 41 c → (∀ x, x < lo → hX ρ0 x = true → Y x = true) → dv τ pa T' Y 41 c = true) ∧ ((∀ Y : Nat → Bool, (∀ x, x < lo → Y x = hX ρ0 x) → Clo τ pa (TBm ρ0 pa) Y 41 c → dv τ pa (TBm ρ0 pa) Y 41 c = true) → b = true) := fun N ρ hI hX => by
    obtain ⟨X, x1, x2, x3, x4⟩ := hX
    refine ⟨dv τ pa (TBm ρ0 pa) X 41 c, ρ, ?_, hI, fun w T' Y y1 y2 y3 => x4 T' Y y1 y2 y3 w, fun w => w X x1 x2⟩
    show f_X12_bitOfPart_B143 _ _ _ _ _ = _
    unfold f_X12_bitOfPart_B143
    rw [if_pos (show b2i false = 0 from rfl), gdn g2 (by omega), x3, g_t01 _ (b2i_01 _)]
  intro m
  induction m with
  | zero =>
    intro i N mo ρ hid hN hI hm hf
    obtain ⟨N, rfl⟩ : ∃ m, N = m + 1 := ⟨N - 1, by omega⟩
    cases mo with
    | false => exact fin N ρ hI (hf rfl)
    | true =>
      have h1 := hm rfl
      have h2 := pre_one (wH_1 ρ) hi
      omega
  | succ m ih =>
    intro i N mo ρ hid hN hI hm hf
    obtain ⟨N, rfl⟩ : ∃ m, N = m + 1 := ⟨N - 1, by omega⟩
    cases mo with
    | false => exact fin N ρ hI (hf rfl)
    | true =>
      obtain ⟨a1, a2, a3, a4, a5⟩ := hI
      obtain ⟨X, eX⟩ : ∃ X : Nat → Bool, X = fun x => decide (x < hi) && hX ρ x := ⟨_, rfl⟩
      have hXe : ∀ x, x < hi → X x = hX ρ x := fun x hx => by rw [eX]; show (decide (x < hi) && hX ρ x) = _; rw [decide_eq_true hx, Bool.true_and]
      have hXl : ∀ x, X x = true → x < hi := fun x w => by
        rw [eX] at w
        have w : (decide (x < hi) && hX ρ x) = true := w
        rw [Bool.and_eq_true] at w
        exact of_decide_eq_true w.1
      have hR1 := a1.rw hR
      have eT := a1.T pa
      obtain ⟨ρ1, b1, b2, b3, b4⟩ := bp_L152 (X := X) (H := hi) hpa hF6 hR1 (a1.t01 hT) (fun x hx => by rw [hXe x hx]; exact hX_b (a3 x hx)) h64 h (Nat.le_refl _) h41 (f_X12_bitOfPart_L143 N) (b2i false) (p + 1 - q) q FU ρ (by omega) (by show p + 1 - q < 1099511627776; omega) (Nat.le_refl _) ⟨FrZ.rf _, fun _ => rfl, fun c' q' p' Sc' lo' hi' r1 r2 r3 r4 r5 => by have := r1.h.1; omega⟩
      rw [eT] at b4
      have hx1 : ∀ x, hX ρ1 x = hX ρ x := fun x => by unfold hX; rw [b3]
      obtain ⟨s, c1, c2, c3, c4⟩ := bl_go (pa := pa) (T := TBm ρ0 pa) (X0 := X) (a1 := nI q) (e := p) (rec143 := f_X12_bitOfPart_L143 N) (H := hi) g2 h64 hXl h (false, ρ1) (Nat.le_refl _) (b2.rw hR1) (Nat.le_refl _) h41 (fun x hx => by show xA ρ1 51 _ = 0 ∨ xA ρ1 51 _ = 1; rw [b3]; exact a3 x hx) b4
      have st : f_X12_bitOfPart_L143 (N + 1) (nI q) (nI p) (b2i true) ρ = f_X12_bitOfPart_L143 N (nI q) (nI p) (b2i s.1) s.2 := by
        show f_X12_bitOfPart_B143 _ _ _ _ _ = _
        unfold f_X12_bitOfPart_B143
        rw [if_neg (by decide)]
        have b1' : f_X12_bitOfPart_L152 (f_X12_bitOfPart_L143 N) FU (nI q) (nI p) 0 (nI q) ρ = f_X12_bitOfPart_L180 (f_X12_bitOfPart_L143 N) FU (nI q) (nI p) 0 (nI q) ρ1 := b1
        rw [b1']
        obtain ⟨M, hM⟩ : ∃ M, FU = M + 1 + (p + 1 - q) := ⟨1099511627776 - 1 - (p + 1 - q), by show 1099511627776 = _; omega⟩
        have c1' := c1 (M + 1)
        rw [← hM] at c1'
        have c1'' : f_X12_bitOfPart_L180 (f_X12_bitOfPart_L143 N) FU (nI q) (nI p) 0 (nI q) ρ1 = _ := c1'
        rw [c1'']
        show f_X12_bitOfPart_B180 _ _ _ _ _ _ _ = _
        unfold f_X12_bitOfPart_B180
        rw [if_pos ((nI_lt31 (by omega) (by omega)).mpr (by omega))]
      rw [st]
      have hgrow : ∀ x, x < hi → hX ρ x = true → hX s.2 x = true := fun x hx w => c2.2.2.1 x hx (by show hX ρ1 x = true; rw [hx1]; exact w)
      have hI2 : LpI τ pa (TBm ρ0 pa) c lo hi ρ0 s.2 := by
        refine ⟨(a1.tr b2).tr c2.1.1, fun x x1 x2 => ?_, c2.2.1, fun n => Alv_mo g4 n (fun x _ x2 w => hgrow x x2 w) (a4 n), fun T' Y y1 y2 y3 => ?_⟩
        · rw [c2.1.2.2 x x1 (Or.inl x2)]
          show xA ρ1 51 _ = _
          rw [b3]
          exact a2 x x1 x2
        · have h1 := a5 T' Y y1 y2 y3
          exact c3 T' Y 41 y1 h41 y2 (fun x w => h1 x (hXl x w) (by rw [← hXe x (hXl x w)]; exact w)) (fun x hx w => h1 x hx (by rw [← hx1]; exact w))
      refine ih (i + 1) N s.1 s.2 (by omega) (by omega) hI2 (fun w => ?_) (fun w => ?_)
      · have h1 := hm rfl
        rcases c2.2.2.2.2 rfl with z | ⟨x, x1, x2, x3⟩
        · rw [z] at w; exact absurd w (by decide)
        · have : pre (wH ρ) hi < pre (wH s.2) hi := pre_lts hi (fun y hy => by
            unfold wH
            by_cases e : hX ρ y = true
            · rw [if_pos e, if_pos (hgrow y hy e)]
              exact Nat.le_refl _
            · rw [if_neg e]; omega) ⟨x, x1, by
            have x2 : hX ρ1 x = false := x2
            rw [hx1] at x2
            unfold wH
            rw [x2, x3]
            decide⟩
          omega
      · obtain ⟨w1, w2⟩ := c2.2.2.2.1 w
        have hXA : ∀ n, Alv τ X n c := fun n => Alv_mo g4 n (fun x _ x2 w => by rw [hXe x x2]; exact w) (a4 n)
        refine ⟨X, fun x hx => ?_, c4 w (fun x hx => by show hX ρ1 x = X x; rw [hx1, hXe x hx]) 41 h41 (hXA 41), ?_, fun T' Y y1 y2 y3 y4 => ?_⟩
        · rw [hXe x (by omega)]
          unfold hX
          rw [a2 x (by omega) hx]
        · rw [c2.1.2.1]
          exact b4 c q p Sc lo hi h (Nat.le_refl _) (by omega) (Nat.le_refl _) h41
        · have h1 := a5 T' Y y1 y2 y3
          exact dv_le y1 (fun x w => h1 x (hXl x w) (by rw [← hXe x (hXl x w)]; exact w)) 41 c y4
/-- THE BIT OF A PART, THE REFERENCE -/
theorem bp_go {τ μ ρ : S5} {pa : Nat → Nat} {F : Nat} (hpa : ∀ g, g < F → xA μ 47 (nI g) = nI (pa g) ∧ pa g ≤ 8) (hF6 : F ≤ 630) (hR : RwE μ ρ) (hT : T01 ρ F) {c : Int32} {q p : Nat} {Sc : Nat → Prop} {lo hi : Nat} (h : JT τ μ F c q p Sc lo hi) (h64 : hi ≤ 64) (h41 : hF τ c < 41) (h01 : ∀ x, x < lo → xA ρ 51 (nI x) = 0 ∨ xA ρ 51 (nI x) = 1) : ∃ b ρ', f_X12_bitOfPart (nI q) (nI p) ρ = some (b2i b, ρ') ∧ FrZ ρ ρ' ∧ (∀ x, x < 640 → x < lo → xA ρ' 51 (nI x) = xA ρ 51 (nI x)) ∧ (b = true → ∀ T' Y, Crs (TBm ρ pa) T' → Clo τ pa T' Y 41 c → (∀ x, x < lo → hX ρ x = true → Y x = true) → dv τ pa T' Y 41 c = true) ∧ ((∀ Y : Nat → Bool, (∀ x, x < lo → Y x = hX ρ x) → Clo τ pa (TBm ρ pa) Y 41 c → dv τ pa (TBm ρ pa) Y 41 c = true) → b = true) := by
  obtain ⟨g1, g2, g3, g4, g5⟩ := h.h
  obtain ⟨ρ1, r1, r2, r3, r4, r5⟩ := bini_go (pa := pa) (a1 := nI q) (e := p) g2 h ρ (Nat.le_refl _) hR h64
  have hI : LpI τ pa (TBm ρ pa) c lo hi ρ ρ1 := by
    refine ⟨r2.1, fun x x1 x2 => r2.2.2 x x1 (Or.inl x2), fun x hx => ?_, r4, fun T' Y y1 y2 y3 x hx w => ?_⟩
    · by_cases hxl : x < lo
      · rw [r2.2.2 x (by omega) (Or.inl hxl)]
        exact h01 x hxl
      · exact r3 x (by omega) hx
    · by_cases hxl : x < lo
      · rw [r2.hx (by omega) (Or.inl hxl)] at w
        exact y3 x hxl w
      · exact r5 T' Y 41 h41 y2 x (by omega) hx w
  obtain ⟨b, ρ', t1, t2, t3, t4⟩ := bp_L143 hpa hF6 hR hT h h64 h41 70 0 FU true ρ1 (by omega) (by show 70 < 1099511627776; omega) hI (fun _ => Nat.zero_le _) (fun w => absurd w (by decide))
  refine ⟨b, ρ', ?_, t2.1, t2.2.1, t3, t4⟩
  unfold f_X12_bitOfPart
  obtain ⟨M, hM⟩ : ∃ M, FU = M + 1 + (p + 1 - q) := ⟨1099511627776 - 1 - (p + 1 - q), by show 1099511627776 = _; omega⟩
  have r1' := r1 (M + 1)
  rw [← hM] at r1'
  rw [r1']
  show f_X12_bitOfPart_B2 _ _ _ _ _ = _
  unfold f_X12_bitOfPart_B2
  rw [if_pos ((nI_lt31 (by omega) (by omega)).mpr (by omega))]
  exact t1
