/-- settled, from a number before the part's own -/
theorem st_goz {τ : S5} {pa : Nat → Nat} {F d n g L z : Nat} {c : Int32} {Sc : Nat → Prop} {lo hi V : Nat} {σ : S5} (hpa : ∀ g, g < F → xA τ 3 (nI g) = nI (pa g) ∧ pa g ≤ 8) (hF6 : F ≤ 630) (q : VS τ c Sc lo hi) (hS : ∀ x, Sc x → x < lo) (hz : z ≤ lo) (hV : hi ≤ V) (h40 : V ≤ 40) (hn : hF τ c < n) (hd : hF τ c < d) (hR : Rg τ F n c) (hE : TE τ σ) (h22 : gI σ 22 = nI g) (hg : g + 8 * hF τ c ≤ 328) (h23 : gI σ 23 = nI L) (hL : L ≤ 64) : ∃ w σ' σ1, f_X1_settle (f_wordE d) c (nI z) (nI V) σ = some (w, σ') ∧ FrE z σ σ' ∧ (∀ x, x < 40 → x < z → xB σ1 6 (nI x) = xB σ 6 (nI x)) ∧ (∀ x, z ≤ x → x < V → xB σ1 6 (nI x) = 0) ∧ SetR τ pa n L (TBc σ pa) Sc c σ1 w := by
  have hlh := q.le
  obtain ⟨σz, z1, z2, z3⟩ := st_L3 (E := f_wordE d) (c := c) (lo := z) (V := V) (σ := σ) h40 (V - z) z FU σ (by omega) (by show V - z < 1099511627776; omega) (Nat.le_refl _) ⟨FrE.rf _ _, rfl, fun x h1 h2 => absurd h2 (by omega)⟩
  obtain ⟨σ1, es1⟩ : ∃ σ1, σ1 = pI σz 24 1 := ⟨_, rfl⟩
  have f1 : FrE z σz σ1 := by
    rw [es1]
    exact ⟨fun j hj => by rw [gI_pI, if_neg hj], fun _ => rfl, fun _ => rfl, fun _ _ _ => rfl, rfl, fun _ _ _ => rfl⟩
  have f := z2.tr f1
  have e24 : gI σ1 24 = 1 := by rw [es1, gI_pI, if_pos rfl]
  have hz0 : ∀ x, z ≤ x → x < V → xB σ1 6 (nI x) = 0 := fun x h1 h2 => by
    rw [es1]
    exact z3 x h1 h2
  have hW := wd_go hpa hF6 q hS (by omega) n d hn hd hR
  have hY0 : ∀ l Y, (∀ x, Sc x → XL σ1 l x = true → Y x = true) → HY (Zn Sc lo hi) σ1 l Y := fun l Y k3 x zx w => by
    rcases zx with y | y
    · exact k3 x y w
    · unfold XL at w
      rw [hz0 x (by omega) (by omega), lb_0] at w
      exact absurd w (by decide)
  obtain ⟨w, σ', w1, w2, w3⟩ := st_L34 (σ := σ1) q hW hS (by omega) hn (hE.of f.2.2.1) (by rw [f.1 22 (by decide)]; exact h22) hg (by rw [f.1 23 (by decide)]; exact h23) hL (fun x a b => hz0 x (by omega) (by omega)) 3000 0 FU 0 σ1 (by omega) (by show 3000 < 1099511627776; omega) ⟨FrE.rf _ _, Or.inr e24, fun l hl T' Y k1 k2 k3 => ⟨hY0 l Y k3, fun w => by rw [lb_0] at w; exact absurd w (by decide)⟩, fun w => by rw [e24] at w; exact absurd w (by decide), fun _ => Nat.zero_le _⟩
  rw [f.T pa] at w3
  refine ⟨w, σ', σ1, ?_, f.tr ⟨w2.1, w2.2.1, w2.2.2.1, w2.2.2.2.1, w2.2.2.2.2.1, fun x hx hz => w2.2.2.2.2.2 x hx (by omega)⟩, f.2.2.2.2.2, hz0, w3⟩
  unfold f_X1_settle
  rw [z1, ← es1]
  exact w1
/-- the tables are emptied -/
theorem fill_L10 {F : Nat} (hF6 : F ≤ 630) {σ : S5} : ∀ (m i N : Nat) (σi : S5), i + m = 4 * F → m < N → (FrI σ σi ∧ gI σi 23 = gI σ 23 ∧ gI σi 24 = gI σ 24 ∧ ∀ x, x < i → xB σi 5 (nI x) = 0) → ∃ σ', f_J7_fill_bad5a_dem_table_L10 N (nI (4 * F)) 0 (nI i) σi = some ((), σ') ∧ FrI σ σ' ∧ ∀ x, x < 4 * F → xB σ' 5 (nI x) = 0 := by
  intro m
  induction m with
  | zero =>
    intro i N σi hid hN hI
    obtain ⟨N, rfl⟩ : ∃ m, N = m + 1 := ⟨N - 1, by omega⟩
    have hip : i = 4 * F := by omega
    refine ⟨σi, ?_, hI.1, by rw [← hip]; exact hI.2.2.2⟩
    show f_J7_fill_bad5a_dem_table_B10 _ _ _ _ _ = _
    unfold f_J7_fill_bad5a_dem_table_B10
    rw [hip, if_pos (Int32.le_refl _)]
  | succ m ih =>
    intro i N σi hid hN hI
    obtain ⟨N, rfl⟩ : ∃ m, N = m + 1 := ⟨N - 1, by omega⟩
    obtain ⟨a1, a2, a3, a4⟩ := hI
    have st : f_J7_fill_bad5a_dem_table_L10 (N + 1) (nI (4 * F)) 0 (nI i) σi = f_J7_fill_bad5a_dem_table_L10 N (nI (4 * F)) 0 (nI (i + 1)) (pB σi 5 (nI i) 0) := by
      show f_J7_fill_bad5a_dem_table_B10 _ _ _ _ _ = _
      unfold f_J7_fill_bad5a_dem_table_B10
      rw [if_neg (fun w => by have := (nI_le31 (by omega) (by omega)).mp w; omega), gdn (by omega) (by omega), nI_add1]
    rw [st]
    refine ih (i + 1) N _ (by omega) (by omega) ⟨a1.tr ⟨fun _ _ _ => rfl, fun _ => rfl, fun _ => rfl, fun j h5 _ _ => gB_ne _ _ _ h5, rfl⟩, a2, a3, fun x hx => ?_⟩
    by_cases hxi : x = i
    · subst hxi
      rw [xB_pB, if_pos ⟨rfl, rfl⟩]
    · rw [xB_pB, if_neg (fun z => tn_neL (a := x) (b := i) (by omega) (by omega) hxi z.2)]
      exact a4 x (by omega)
theorem fillb_L10 {v : Nat} (hv : v ≤ 40) {σ : S5} : ∀ (m i N : Nat) (σi : S5), i + m = v → m < N → (FrE 0 σ σi ∧ gI σi 24 = gI σ 24 ∧ ∀ x, x < i → xB σi 6 (nI x) = -1) → ∃ σ', f_J7_fill_bad5a_dem_bits_L10 N (nI v) (-1) (nI i) σi = some ((), σ') ∧ FrE 0 σ σ' ∧ gI σ' 24 = gI σ 24 ∧ ∀ x, x < v → xB σ' 6 (nI x) = -1 := by
  intro m
  induction m with
  | zero =>
    intro i N σi hid hN hI
    obtain ⟨N, rfl⟩ : ∃ m, N = m + 1 := ⟨N - 1, by omega⟩
    have hip : i = v := by omega
    refine ⟨σi, ?_, by rw [← hip]; exact hI⟩
    show f_J7_fill_bad5a_dem_bits_B10 _ _ _ _ _ = _
    unfold f_J7_fill_bad5a_dem_bits_B10
    rw [hip, if_pos (Int32.le_refl _)]
  | succ m ih =>
    intro i N σi hid hN hI
    obtain ⟨N, rfl⟩ : ∃ m, N = m + 1 := ⟨N - 1, by omega⟩
    obtain ⟨a1, a3, a4⟩ := hI
    have st : f_J7_fill_bad5a_dem_bits_L10 (N + 1) (nI v) (-1) (nI i) σi = f_J7_fill_bad5a_dem_bits_L10 N (nI v) (-1) (nI (i + 1)) (pB σi 6 (nI i) (-1)) := by
      show f_J7_fill_bad5a_dem_bits_B10 _ _ _ _ _ = _
      unfold f_J7_fill_bad5a_dem_bits_B10
      rw [if_neg (fun w => by have := (nI_le31 (by omega) (by omega)).mp w; omega), gdn (by omega) (by omega), nI_add1]
    rw [st]
    refine ih (i + 1) N _ (by omega) (by omega) ⟨a1.tr ⟨fun _ _ => rfl, fun _ => rfl, fun _ => rfl, fun j h6 _ => gB_ne _ _ _ h6, rfl, fun x _ hx => absurd hx (by omega)⟩, a3, fun x hx => ?_⟩
    by_cases hxi : x = i
    · subst hxi
      rw [xB_pB, if_pos ⟨rfl, rfl⟩]
    · rw [xB_pB, if_neg (fun z => tn_neL (a := x) (b := i) (by omega) (by omega) hxi z.2)]
      exact a4 x (by omega)
/-- what a function needs, as a number -/
def ndN (T : Nat → (Nat → Bool) → Bool) (pa : Nat → Nat) (f : Nat) : Nat := rwN (fun i => !T f (fun j => decide (¬ j = i))) (pa f)
theorem ones_n : ∀ p, p < 9 → ∀ i, i < p → (((1 : Int32) <<< (nI p &&& 31)) - 1) &&& (((1 : Int32) <<< (nI i &&& 31)) ^^^ (-1)) = nI (rwN (fun j => decide (¬ j = i)) p) := by decide
theorem nd_L19 {σ : S5} {pa : Nat → Nat} {f : Nat} (hf : f < 630) (h3 : xA σ 3 (nI f) = nI (pa f)) (hp : pa f ≤ 8) : ∀ (m i N : Nat), i + m = pa f → m < N → f_X1_neededOf_L19 N (nI f) (((1 : Int32) <<< (nI (pa f) &&& 31)) - 1) (nI (rwN (fun i => !TBc σ pa f (fun j => decide (¬ j = i))) i)) (nI i) σ = some (nI (ndN (TBc σ pa) pa f), σ) := by
  intro m
  induction m with
  | zero =>
    intro i N hid hN
    obtain ⟨N, rfl⟩ : ∃ m, N = m + 1 := ⟨N - 1, by omega⟩
    have hip : i = pa f := by omega
    show f_X1_neededOf_B19 _ _ _ _ _ _ = _
    unfold f_X1_neededOf_B19
    rw [gdn hf (by omega), h3, if_pos (by rw [hip]; exact Int32.le_refl _), hip]
    rfl
  | succ m ih =>
    intro i N hid hN
    obtain ⟨N, rfl⟩ : ∃ m, N = m + 1 := ⟨N - 1, by omega⟩
    have h256 := rw_256 (ρ := fun j => decide (¬ j = i)) hp
    have et : lb (xB σ 5 (nI (4 * f + rwN (fun j => decide (¬ j = i)) (pa f) / 64))) (rwN (fun j => decide (¬ j = i)) (pa f) % 64) = TBc σ pa f (fun j => decide (¬ j = i)) := by
      unfold TBc
      rw [decide_eq_true hp, Bool.true_and]
    rw [← ih (i + 1) N (by omega) (by omega)]
    show f_X1_neededOf_B19 _ _ _ _ _ _ = _
    unfold f_X1_neededOf_B19 f_X1_neededOf_b58
    rw [gdn hf (by omega), h3, if_neg (fun w => by have := (nI_le31 (by omega) (by omega)).mp w; omega), ones_n _ (by omega) i (by omega), look_go hf h256, bd_of, et, nI_add1]
    have hor := fun b => rw_or (k := i) (by omega) (rwN_lt (fun i => !TBc σ pa f (fun j => decide (¬ j = i))) i) b
    cases hb : TBc σ pa f (fun j => decide (¬ j = i)) with
    | false =>
      have h1 := hor true
      rw [if_pos rfl, if_pos rfl] at h1
      rw [if_pos (show (if false = true then (1 : Int32) else 0) = 0 from rfl), h1]
      congr 1
      show nI _ = nI (rwN _ i + if (!TBc σ pa f (fun j => decide (¬ j = i))) = true then 2 ^ i else 0)
      rw [hb]
      rfl
    | true =>
      rw [if_neg (show ¬ (if true = true then (1 : Int32) else 0) = 0 by decide), Int32.or_zero]
      congr 1
      show nI _ = nI (rwN _ i + if (!TBc σ pa f (fun j => decide (¬ j = i))) = true then 2 ^ i else 0)
      rw [hb]
      rfl
theorem nd_go {σ : S5} {pa : Nat → Nat} {f : Nat} (hf : f < 630) (h3 : xA σ 3 (nI f) = nI (pa f)) (hp : pa f ≤ 8) : f_X1_neededOf (nI f) σ = some (nI (ndN (TBc σ pa) pa f), σ) := by
  unfold f_X1_neededOf
  rw [gdn hf (by omega), h3]
  exact nd_L19 hf h3 hp (pa f) 0 FU (by omega) (by show pa f < 1099511627776; omega)
