/-- what settling writes -/
def FrE (lo : Nat) (σ σ' : S5) : Prop := (∀ j, ¬ j = 24 → gI σ' j = gI σ j) ∧ (∀ j, gJ σ' j = gJ σ j) ∧ (∀ j, gA σ' j = gA σ j) ∧ (∀ j, ¬ j = 6 → ¬ j = 7 → gB σ' j = gB σ j) ∧ σ'.2.2.2.2 = σ.2.2.2.2 ∧ ∀ x, x < 40 → x < lo → xB σ' 6 (nI x) = xB σ 6 (nI x)
theorem FrE.rf (lo : Nat) (σ : S5) : FrE lo σ σ := ⟨fun _ _ => rfl, fun _ => rfl, fun _ => rfl, fun _ _ _ => rfl, rfl, fun _ _ _ => rfl⟩
theorem FrE.tr {lo : Nat} {σ σ1 σ2 : S5} (h : FrE lo σ σ1) (k : FrE lo σ1 σ2) : FrE lo σ σ2 := by
  obtain ⟨a1, a2, a3, a4, a5, a6⟩ := h
  obtain ⟨b1, b2, b3, b4, b5, b6⟩ := k
  exact ⟨fun j x => (b1 j x).trans (a1 j x), fun j => (b2 j).trans (a2 j), fun j => (b3 j).trans (a3 j), fun j x y => (b4 j x y).trans (a4 j x y), b5.trans a5, fun x w z => (b6 x w z).trans (a6 x w z)⟩
theorem FrE.T {lo : Nat} {σ σ1 : S5} (h : FrE lo σ σ1) (pa : Nat → Nat) : TBc σ1 pa = TBc σ pa := by
  funext f ρ
  unfold TBc
  show (_ && lb (gB σ1 5 _) _) = (_ && lb (gB σ 5 _) _)
  rw [h.2.2.2.1 5 (by decide) (by decide)]
/-- how many bits of the variables are set -/
def wX (σ : S5) (y : Nat) : Nat := if XL σ (y % 64) (y / 64) = true then 1 else 0
theorem pre_one {w : Nat → Nat} (h : ∀ i, w i ≤ 1) : ∀ n, pre w n ≤ n
  | 0 => Nat.le_refl _
  | n + 1 => by
    have := pre_one h n
    have := h n
    show pre w n + w n ≤ n + 1
    omega
theorem pre_lq {w w' : Nat → Nat} : ∀ n, (∀ i, i < n → w i ≤ w' i) → pre w n ≤ pre w' n
  | 0, _ => Nat.le_refl _
  | n + 1, h => by
    have := pre_lq n (fun i hi => h i (by omega))
    have := h n (by omega)
    show pre w n + w n ≤ pre w' n + w' n
    omega
theorem pre_lts {w w' : Nat → Nat} : ∀ n, (∀ i, i < n → w i ≤ w' i) → (∃ i, i < n ∧ w i < w' i) → pre w n < pre w' n
  | 0, _, ⟨_, h, _⟩ => absurd h (by omega)
  | n + 1, h, ⟨i, h1, h2⟩ => by
    have h3 := h n (by omega)
    show pre w n + w n < pre w' n + w' n
    by_cases hi : i = n
    · subst hi
      have := pre_lq i (fun j hj => h j (by omega))
      omega
    · have := pre_lts n (fun j hj => h j (by omega)) ⟨i, by omega, h2⟩
      omega
theorem wX_1 (σ : S5) (y : Nat) : wX σ y ≤ 1 := by
  unfold wX
  split <;> omega
/-- a pass that changes something sets a bit -/
theorem wX_up {g lo hi : Nat} {σ σ' : S5} (h : FrD g lo hi σ σ') (h0 : gI σ 24 = 0) (h1 : ¬ gI σ' 24 = 0) : pre (wX σ) 2560 < pre (wX σ') 2560 := by
  have hle : ∀ i, i < 2560 → wX σ i ≤ wX σ' i := fun i hi => by
    unfold wX
    by_cases e : XL σ (i % 64) (i / 64) = true
    · rw [if_pos e, if_pos (h.2.2.2.2.2.2.2.1 (i / 64) (i % 64) (by omega) (by omega) e)]
      exact Nat.le_refl _
    · rw [if_neg e]; omega
  rcases h.2.2.2.2.2.2.2.2.2.2 h0 with w | ⟨x, l, a, b, c, d⟩
  · exact absurd w h1
  · refine pre_lts 2560 hle ⟨64 * x + l, by omega, ?_⟩
    unfold wX
    rw [show (64 * x + l) % 64 = l by omega, show (64 * x + l) / 64 = x by omega, c, d]
    decide
/-- the mask of the lanes -/
theorem lb_msk : ∀ L, L < 64 → ∀ l, l < 64 → lb (j_lshl 1 (nI L) - 1) l = decide (l < L) := by decide
/-- what settling finds -/
def SetR (τ : S5) (pa : Nat → Nat) (n L : Nat) (T : Nat → (Nat → Bool) → Bool) (Sc : Nat → Prop) (c : Int32) (σ : S5) (w : Int64) : Prop := ∀ l, l < 64 → (lb w l = true → l < L) ∧ (l < L → (lb w l = true → ∀ T' Y, Crs T T' → Clo τ pa T' Y n c → (∀ x, Sc x → XL σ l x = true → Y x = true) → dv τ pa T' Y n c = true) ∧ ((∀ Y : Nat → Bool, (∀ x, Sc x → Y x = XL σ l x) → Clo τ pa T Y n c → dv τ pa T Y n c = true) → lb w l = true))
/-- the names of lets begin with nothing -/
theorem st_L3 {E : Int32 → S5 → Option (Int64 × S5)} {c : Int32} {lo V : Nat} {σ : S5} (h40 : V ≤ 40) : ∀ (m i N : Nat) (σi : S5), i + m = V → m < N → lo ≤ i → (FrE lo σ σi ∧ gI σi 24 = gI σ 24 ∧ ∀ x, lo ≤ x → x < i → xB σi 6 (nI x) = 0) → ∃ σz, f_X1_settle_L3 E N c (nI V) (nI i) σi = f_X1_settle_L34 E FU c 0 0 (pI σz 24 1) ∧ FrE lo σ σz ∧ ∀ x, lo ≤ x → x < V → xB σz 6 (nI x) = 0 := by
  intro m
  induction m with
  | zero =>
    intro i N σi hid hN hl hI
    obtain ⟨N, rfl⟩ : ∃ m, N = m + 1 := ⟨N - 1, by omega⟩
    have hip : i = V := by omega
    refine ⟨σi, ?_, hI.1, by rw [← hip]; exact hI.2.2⟩
    show f_X1_settle_B3 _ _ _ _ _ _ = _
    unfold f_X1_settle_B3
    rw [hip, if_pos (Int32.le_refl _)]
  | succ m ih =>
    intro i N σi hid hN hl hI
    obtain ⟨N, rfl⟩ : ∃ m, N = m + 1 := ⟨N - 1, by omega⟩
    have st : f_X1_settle_L3 E (N + 1) c (nI V) (nI i) σi = f_X1_settle_L3 E N c (nI V) (nI (i + 1)) (pB σi 6 (nI i) 0) := by
      show f_X1_settle_B3 _ _ _ _ _ _ = _
      unfold f_X1_settle_B3
      rw [if_neg (fun w => by have := (nI_le31 (by omega) (by omega)).mp w; omega), gdn (by omega) (by omega), nI_add1]
    rw [st]
    have hne : ∀ x, x < 40 → ¬ x = i → xB (pB σi 6 (nI i) 0) 6 (nI x) = xB σi 6 (nI x) := fun x hx hn => by
      rw [xB_pB, if_neg (fun z => tn_neL (a := x) (b := i) (by omega) (by omega) hn z.2)]
    refine ih (i + 1) N _ (by omega) (by omega) (by omega) ⟨hI.1.tr ⟨fun _ _ => rfl, fun _ => rfl, fun _ => rfl, fun j h6 _ => gB_ne _ _ _ h6, rfl, fun x hx hz => hne x hx (by omega)⟩, hI.2.1, fun x h1 h2 => ?_⟩
    by_cases hxi : x = i
    · subst hxi
      rw [xB_pB, if_pos ⟨rfl, rfl⟩]
    · rw [hne x (by omega) hxi]
      exact hI.2.2 x h1 (by omega)
/-- nothing grew any more -/
theorem stl_end {τ : S5} {pa : Nat → Nat} {d n L : Nat} {c : Int32} {Sc : Nat → Prop} {lo hi : Nat} {σ : S5} (N i : Nat) (v : Int64) (σi : S5) (q : VS τ c Sc lo hi) (hS : ∀ x, Sc x → x < lo) (h40 : hi ≤ 40) (hn : hF τ c < n) (h23 : gI σ 23 = nI L) (hL : L ≤ 64) (a1 : FrE lo σ σi) (a3 : ∀ l, l < L → ∀ T' Y, Crs (TBc σ pa) T' → Clo τ pa T' Y n c → (∀ x, Sc x → XL σ l x = true → Y x = true) → HY (Zn Sc lo hi) σi l Y ∧ (lb v l = true → dv τ pa T' Y n c = true)) (a4 : ∀ l, l < L → lb v l = dv τ pa (TBc σ pa) (XL σi l) n c ∧ ClV τ pa (TBc σ pa) (XL σi l) n c) (h0 : gI σi 24 = 0) (hi3 : i ≤ 3000) : ∃ w σ', f_X1_settle_L34 (f_wordE d) (N + 1) c v (nI i) σi = some (w, σ') ∧ FrE lo σ σ' ∧ SetR τ pa n L (TBc σ pa) Sc c σ w := by
  have hlh := q.le
  have ef : f_X1_settle_L34 (f_wordE d) (N + 1) c v (nI i) σi = some (if L = 64 then v else v &&& (j_lshl 1 (nI L) - 1), σi) := by
    show f_X1_settle_B34 _ _ _ _ _ _ = _
    unfold f_X1_settle_B34 f_X1_settle_b66
    rw [if_neg (show ¬ (100000 : Int32) ≤ nI i from fun w => by have := (nI_le31 (a := 100000) (by omega) (by omega)).mp w; omega), if_pos h0, a1.1 23 (by decide), h23]
    by_cases h64 : L = 64
    · rw [if_pos h64, if_pos (show nI L = 64 by rw [h64]; rfl)]
    · rw [if_neg h64, if_neg (show ¬ nI L = 64 from fun w => h64 (nI_injL (b := 64) (by omega) (by omega) w))]
  have hlb : ∀ l, l < 64 → lb (if L = 64 then v else v &&& (j_lshl 1 (nI L) - 1)) l = (lb v l && decide (l < L)) := fun l hl => by
    by_cases h64 : L = 64
    · rw [if_pos h64, decide_eq_true (by omega), Bool.and_true]
    · rw [if_neg h64, lb_and, lb_msk L (by omega) l hl]
  refine ⟨_, σi, ef, a1, fun l hl => ?_⟩
  rw [hlb l hl]
  refine ⟨fun w => ?_, fun hlL => ?_⟩
  · rw [Bool.and_eq_true] at w
    exact of_decide_eq_true w.2
  · rw [decide_eq_true hlL, Bool.and_true]
    obtain ⟨z1, z2⟩ := a4 l hlL
    refine ⟨fun w T' Y k1 k2 k3 => (a3 l hlL T' Y k1 k2 k3).2 w, fun h => ?_⟩
    obtain ⟨X', x1, x2, x3, x4⟩ := ClV_ext (pa := pa) (T := TBc σ pa) (X := XL σi l) q hS (by omega) n hn
    have e := dv_vis (pa := pa) (T := TBc σ pa) (X := XL σi l) (X' := X') (fun x hx => by have := hS x hx; omega) q n hn (fun x hx => (x1 x (Or.inl (hS x hx))).symm) (x4 z2)
    rw [z1, e]
    refine h X' (fun x hx => ?_) x3
    have := hS x hx
    rw [x1 x (Or.inl this)]
    unfold XL
    rw [a1.2.2.2.2.2 x (by omega) this]
/-- passes, until nothing grows -/
theorem st_L34 {τ : S5} {pa : Nat → Nat} {d n g L : Nat} {c : Int32} {Sc : Nat → Prop} {lo hi : Nat} {σ : S5} (q : VS τ c Sc lo hi) (hW : WdA τ pa d n c Sc lo hi) (hS : ∀ x, Sc x → x < lo) (h40 : hi ≤ 40) (hn : hF τ c < n) (hE : TE τ σ) (h22 : gI σ 22 = nI g) (hg : g + 8 * hF τ c ≤ 328) (h23 : gI σ 23 = nI L) (hL : L ≤ 64) (hz : ∀ x, lo ≤ x → x < hi → xB σ 6 (nI x) = 0) : ∀ (m i N : Nat) (v : Int64) (σi : S5), i + m = 3000 → m < N → (FrE lo σ σi ∧ (gI σi 24 = 0 ∨ gI σi 24 = 1) ∧ (∀ l, l < L → ∀ T' Y, Crs (TBc σ pa) T' → Clo τ pa T' Y n c → (∀ x, Sc x → XL σ l x = true → Y x = true) → HY (Zn Sc lo hi) σi l Y ∧ (lb v l = true → dv τ pa T' Y n c = true)) ∧ (gI σi 24 = 0 → ∀ l, l < L → lb v l = dv τ pa (TBc σ pa) (XL σi l) n c ∧ ClV τ pa (TBc σ pa) (XL σi l) n c) ∧ (¬ gI σi 24 = 0 → i ≤ pre (wX σi) 2560)) → ∃ w σ', f_X1_settle_L34 (f_wordE d) N c v (nI i) σi = some (w, σ') ∧ FrE lo σ σ' ∧ SetR τ pa n L (TBc σ pa) Sc c σ w := by
  intro m
  induction m with
  | zero =>
    intro i N v σi hid hN hI
    obtain ⟨a1, a2, a3, a4, a5⟩ := hI
    have := pre_one (wX_1 σi) 2560
    by_cases h0 : gI σi 24 = 0
    · obtain ⟨N, rfl⟩ : ∃ m, N = m + 1 := ⟨N - 1, by omega⟩
      exact stl_end N i v σi q hS h40 hn h23 hL a1 a3 (a4 h0) h0 (by omega)
    · have := a5 h0
      omega
  | succ m ih =>
    intro i N v σi hid hN hI
    obtain ⟨N, rfl⟩ : ∃ m, N = m + 1 := ⟨N - 1, by omega⟩
    obtain ⟨a1, a2, a3, a4, a5⟩ := hI
    by_cases h0 : gI σi 24 = 0
    · exact stl_end N i v σi q hS h40 hn h23 hL a1 a3 (a4 h0) h0 (by omega)
    · have hi5 := a5 h0
      obtain ⟨σ0, es0⟩ : ∃ σ0, σ0 = pI σi 24 0 := ⟨_, rfl⟩
      have e24 : gI σ0 24 = 0 := by rw [es0, gI_pI, if_pos rfl]
      have f0 : FrE lo σi σ0 := by
        rw [es0]
        exact ⟨fun j hj => by rw [gI_pI, if_neg hj], fun _ => rfl, fun _ => rfl, fun _ _ _ => rfl, rfl, fun _ _ _ => rfl⟩
      have eX : ∀ l x, XL σ0 l x = XL σi l x := fun l x => by rw [es0]; rfl
      have f01 := a1.tr f0
      obtain ⟨w, σ1, b1, b2, b3, b4⟩ := hW g L σ0 (hE.of f01.2.2.1) (by rw [f01.1 22 (by decide)]; exact h22) (by rw [f01.1 23 (by decide)]; exact h23) hL (Or.inl e24) hg
      rw [f01.T pa] at b4
      have f1 : FrE lo σ0 σ1 := by
        obtain ⟨c1, c2, c3, c4, c5, c6, c7, c8⟩ := b3
        refine ⟨fun j hj => ?_, c2, c3, c4, c5, fun x hx hz => c7 x hx (Or.inl hz)⟩
        by_cases h2 : j = 22
        · subst h2
          rw [b2, f01.1 22 (by decide), h22]
        · exact c1 j hj h2
      have st : f_X1_settle_L34 (f_wordE d) (N + 1) c v (nI i) σi = f_X1_settle_L34 (f_wordE d) N c w (nI (i + 1)) σ1 := by
        show f_X1_settle_B34 _ _ _ _ _ _ = _
        unfold f_X1_settle_B34
        rw [if_neg (show ¬ (100000 : Int32) ≤ nI i from fun w => by have := (nI_le31 (a := 100000) (by omega) (by omega)).mp w; omega), if_neg h0, ← es0, b1, bd_of, nI_add1]
      rw [st]
      refine ih (i + 1) N w σ1 (by omega) (by omega) ⟨f01.tr f1, b3.2.2.2.2.2.2.2.2.2.1 (Or.inl e24), fun l hl T' Y k1 k2 k3 => ?_, b4.2, fun h1 => ?_⟩
      · obtain ⟨z1, z2⟩ := a3 l hl T' Y k1 k2 k3
        exact b4.1 l hl T' Y k1 k2 (fun x zx w => z1 x zx (by rw [← eX]; exact w))
      · have h2 := wX_up b3 e24 h1
        have h3 : pre (wX σ0) 2560 = pre (wX σi) 2560 := by rw [es0]; rfl
        omega
/-- WHAT IS FOUND, WHEN ALL IS SETTLED -/
theorem st_go {τ : S5} {pa : Nat → Nat} {F d n g L : Nat} {c : Int32} {Sc : Nat → Prop} {lo hi V : Nat} {σ : S5} (hpa : ∀ g, g < F → xA τ 3 (nI g) = nI (pa g) ∧ pa g ≤ 8) (hF6 : F ≤ 630) (q : VS τ c Sc lo hi) (hS : ∀ x, Sc x → x < lo) (hV : hi ≤ V) (h40 : V ≤ 40) (hn : hF τ c < n) (hd : hF τ c < d) (hR : Rg τ F n c) (hE : TE τ σ) (h22 : gI σ 22 = nI g) (hg : g + 8 * hF τ c ≤ 328) (h23 : gI σ 23 = nI L) (hL : L ≤ 64) : ∃ w σ', f_X1_settle (f_wordE d) c (nI lo) (nI V) σ = some (w, σ') ∧ FrE lo σ σ' ∧ SetR τ pa n L (TBc σ pa) Sc c σ w := by
  have hlh := q.le
  obtain ⟨σz, z1, z2, z3⟩ := st_L3 (E := f_wordE d) (c := c) (lo := lo) (V := V) (σ := σ) h40 (V - lo) lo FU σ (by omega) (by show V - lo < 1099511627776; omega) (Nat.le_refl _) ⟨FrE.rf _ _, rfl, fun x h1 h2 => absurd h2 (by omega)⟩
  obtain ⟨σ1, es1⟩ : ∃ σ1, σ1 = pI σz 24 1 := ⟨_, rfl⟩
  have f1 : FrE lo σz σ1 := by
    rw [es1]
    exact ⟨fun j hj => by rw [gI_pI, if_neg hj], fun _ => rfl, fun _ => rfl, fun _ _ _ => rfl, rfl, fun _ _ _ => rfl⟩
  have f := z2.tr f1
  have e24 : gI σ1 24 = 1 := by rw [es1, gI_pI, if_pos rfl]
  have hz : ∀ x, lo ≤ x → x < hi → xB σ1 6 (nI x) = 0 := fun x h1 h2 => by
    rw [es1]
    exact z3 x h1 (by omega)
  have hW := wd_go hpa hF6 q hS (by omega) n d hn hd hR
  have hXs : ∀ l x, Sc x → XL σ1 l x = XL σ l x := fun l x hx => by
    unfold XL
    have := hS x hx
    rw [f.2.2.2.2.2 x (by omega) this]
  have hY0 : ∀ l Y, (∀ x, Sc x → XL σ1 l x = true → Y x = true) → HY (Zn Sc lo hi) σ1 l Y := fun l Y k3 x zx w => by
    rcases zx with z | z
    · exact k3 x z w
    · unfold XL at w
      rw [hz x z.1 z.2, lb_0] at w
      exact absurd w (by decide)
  obtain ⟨w, σ', w1, w2, w3⟩ := st_L34 (σ := σ1) q hW hS (by omega) hn (hE.of f.2.2.1) (by rw [f.1 22 (by decide)]; exact h22) hg (by rw [f.1 23 (by decide)]; exact h23) hL hz 3000 0 FU 0 σ1 (by omega) (by show 3000 < 1099511627776; omega) ⟨FrE.rf _ _, Or.inr e24, fun l hl T' Y k1 k2 k3 => ⟨hY0 l Y k3, fun w => by rw [lb_0] at w; exact absurd w (by decide)⟩, fun w => by rw [e24] at w; exact absurd w (by decide), fun _ => Nat.zero_le _⟩
  refine ⟨w, σ', ?_, f.tr w2, ?_⟩
  · unfold f_X1_settle
    rw [z1, ← es1]
    exact w1
  · rw [f.T pa] at w3
    intro l hl
    obtain ⟨y1, y2⟩ := w3 l hl
    refine ⟨y1, fun hlL => ⟨fun y T' Y k1 k2 k3 => (y2 hlL).1 y T' Y k1 k2 (fun x hx h => k3 x hx (by rw [← hXs l x hx]; exact h)), fun h => (y2 hlL).2 (fun Y k1 k2 => h Y (fun x hx => by rw [k1 x hx]; exact hXs l x hx) k2)⟩⟩
