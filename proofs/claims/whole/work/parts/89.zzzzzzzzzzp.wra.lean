/-- the other's pile is taken apart -/
def wQp (μ : S5) (x y : Nat → Int32) : S5 := (μ.1, μ.2.1, fun j => cond (Nat.beq j 28) x (cond (Nat.beq j 29) y (μ.2.2.1 j)), μ.2.2.2)
theorem wQp_A {μ : S5} {x y : Nat → Int32} {j : Nat} (h : ¬ j = 28) (h' : ¬ j = 29) : gA (wQp μ x y) j = gA μ j := by
  show cond (Nat.beq j 28) x (cond (Nat.beq j 29) y (μ.2.2.1 j)) = _
  rw [beq_ne h, beq_ne h']
  rfl
theorem wQp_x {μ : S5} {x y : Nat → Int32} {j : Nat} (i : Int32) (h : ¬ j = 28) (h' : ¬ j = 29) : xA (wQp μ x y) j i = xA μ j i := congrFun (wQp_A h h') _
theorem wQp_28 (μ : S5) (x y : Nat → Int32) (i : Nat) (hi : i < 2 ^ 31) : xA (wQp μ x y) 28 (nI i) = x i := by
  show x (nI i).toNatClampNeg = x i
  rw [nI_clamp hi]
theorem wQp_29 (μ : S5) (x y : Nat → Int32) (i : Nat) (hi : i < 2 ^ 31) : xA (wQp μ x y) 29 (nI i) = y i := by
  show y (nI i).toNatClampNeg = y i
  rw [nI_clamp hi]
theorem S5x {x y : S5} (h1 : x.1 = y.1) (h2 : x.2.1 = y.2.1) (h3 : ∀ j, x.2.2.1 j = y.2.2.1 j) (h4 : x.2.2.2 = y.2.2.2) : x = y := Prod.ext h1 (Prod.ext h2 (Prod.ext (funext h3) h4))
theorem wQp_p28 (μ : S5) (x y : Nat → Int32) (i : Nat) (v : Int32) (hi : i < 2 ^ 31) : pA (wQp μ x y) 28 (nI i) v = wQp μ (upd x i v) y := by
  refine S5x rfl rfl (fun j => ?_) rfl
  show cond (Nat.beq j 28) (upd ((wQp μ x y).2.2.1 j) (nI i).toNatClampNeg v) ((wQp μ x y).2.2.1 j) = cond (Nat.beq j 28) (upd x i v) (cond (Nat.beq j 29) y (μ.2.2.1 j))
  rw [nI_clamp hi]
  by_cases h : j = 28
  · subst h; rfl
  · show cond (Nat.beq j 28) _ (cond (Nat.beq j 28) _ _) = _
    rw [beq_ne h]
    rfl
theorem wQp_p29 (μ : S5) (x y : Nat → Int32) (i : Nat) (v : Int32) (hi : i < 2 ^ 31) : pA (wQp μ x y) 29 (nI i) v = wQp μ x (upd y i v) := by
  refine S5x rfl rfl (fun j => ?_) rfl
  show cond (Nat.beq j 29) (upd ((wQp μ x y).2.2.1 j) (nI i).toNatClampNeg v) ((wQp μ x y).2.2.1 j) = cond (Nat.beq j 28) x (cond (Nat.beq j 29) (upd y i v) (μ.2.2.1 j))
  rw [nI_clamp hi]
  by_cases h : j = 29
  · subst h; rfl
  · show cond (Nat.beq j 29) _ (cond (Nat.beq j 28) _ (cond (Nat.beq j 29) _ _)) = _
    rw [beq_ne h]
    rfl
theorem wQp_p65 (μ : S5) (x y : Nat → Int32) (i v : Int32) (w : Int32) : pI (pA (wQp μ x y) 65 i v) 56 w = wQp (pI (pA μ 65 i v) 56 w) x y := by
  refine S5x rfl rfl (fun j => ?_) rfl
  show cond (Nat.beq j 65) (upd ((wQp μ x y).2.2.1 j) i.toNatClampNeg v) ((wQp μ x y).2.2.1 j) = cond (Nat.beq j 28) x (cond (Nat.beq j 29) y (cond (Nat.beq j 65) (upd (μ.2.2.1 j) i.toNatClampNeg v) (μ.2.2.1 j)))
  by_cases h : j = 65
  · subst h; rfl
  · show cond (Nat.beq j 65) _ (cond (Nat.beq j 28) _ (cond (Nat.beq j 29) _ _)) = _
    rw [beq_ne h]
    rfl
theorem wQp_id (μ : S5) : wQp μ (gA μ 28) (gA μ 29) = μ := by
  unfold wQp
  have e : (fun j => cond (Nat.beq j 28) (gA μ 28) (cond (Nat.beq j 29) (gA μ 29) (μ.2.2.1 j))) = μ.2.2.1 := by
    funext j
    by_cases h : j = 28
    · subst h; rfl
    · by_cases h' : j = 29
      · subst h'; rfl
      · exact wQp_A (μ := μ) h h'
  rw [e]
theorem wQp_q {μ0 μ : S5} (h : eqQ μ0 μ) (x y : Nat → Int32) : eqQ μ0 (wQp μ x y) := ⟨h.1, fun j hj => (wQp_A (by omega) (by omega)).trans (h.2.1 j hj), h.2.2⟩
theorem wQp_l {b : Int32} {μ ν : S5} (x y : Nat → Int32) (h : f_X12_letters b μ = some ((), ν)) : f_X12_letters b (wQp μ x y) = some ((), wQp ν x y) := by
  unfold f_X12_letters at h ⊢
  rw [show gI (wQp μ x y) 56 = gI μ 56 from rfl]
  split at h
  · rename_i c
    rw [if_pos c]
    cases h
    rfl
  · rename_i c
    rw [if_neg c]
    obtain ⟨g1, g2⟩ := gd_some h
    cases g2
    have e : gd (gI μ 56) 12001 (some ((), pI (pA μ 65 (gI μ 56) b) 56 (gI μ 56 + 1))) = some ((), pI (pA μ 65 (gI μ 56) b) 56 (gI μ 56 + 1)) := h
    unfold gd at e ⊢
    split at e
    · cases e
    · rename_i c2
      rw [if_neg c2, wQp_p65]
theorem LWm.p : ∀ {L : List Int32} {μ ν : S5} (x y : Nat → Int32), LWm L μ ν → LWm L (wQp μ x y) (wQp ν x y)
  | [], _, _, _, _, h => by cases h; rfl
  | _ :: _, _, _, x, y, ⟨ρ, h1, h2⟩ => ⟨wQp ρ x y, wQp_l x y h1, LWm.p x y h2⟩
/-- items with what stands between them -/
def jn (sp L : Nat → List Int32) (en : List Int32) : Nat → Nat → List Int32
  | 0, _ => en
  | m + 1, i => sp i ++ (L i ++ jn sp L en m (i + 1))
theorem jn_ok {sp L : Nat → List Int32} {en : List Int32} (he : okL en) : ∀ (m i : Nat), (∀ x, i ≤ x → x < i + m → okL (sp x) ∧ okL (L x)) → okL (jn sp L en m i)
  | 0, _, _ => he
  | m + 1, i, h => (h i (by omega) (by omega)).1.ap ((h i (by omega) (by omega)).2.ap (jn_ok he m (i + 1) (fun x a b => h x (by omega) (by omega))))
theorem jn_cg {sp sp' L L' : Nat → List Int32} {en : List Int32} : ∀ (m i : Nat), (∀ x, i ≤ x → x < i + m → sp x = sp' x ∧ L x = L' x) → jn sp L en m i = jn sp' L' en m i
  | 0, _, _ => rfl
  | m + 1, i, h => by
    unfold jn
    rw [(h i (by omega) (by omega)).1, (h i (by omega) (by omega)).2, jn_cg m (i + 1) (fun x a b => h x (by omega) (by omega))]
theorem jn_ap {sp L : Nat → List Int32} {en : List Int32} : ∀ (m i : Nat), jn sp L en m i = jn sp L [] m i ++ en
  | 0, _ => rfl
  | m + 1, i => by
    unfold jn
    rw [jn_ap m (i + 1), List.append_assoc, List.append_assoc]
theorem jn_la {sp L : Nat → List Int32} {en : List Int32} : ∀ (m i : Nat), jn sp L en (m + 1) i = jn sp L (sp (i + m) ++ (L (i + m) ++ en)) m i
  | 0, _ => rfl
  | m + 1, i => by
    have h := jn_la (sp := sp) (L := L) (en := en) m (i + 1)
    show sp i ++ (L i ++ jn sp L en (m + 1) (i + 1)) = sp i ++ (L i ++ jn sp L _ m (i + 1))
    rw [h, show i + 1 + m = i + (m + 1) by omega]
theorem jn_sh {sp L : Nat → List Int32} {en : List Int32} : ∀ (m i : Nat), jn sp L en m (i + 1) = jn (fun x => sp (x + 1)) (fun x => L (x + 1)) en m i
  | 0, _ => rfl
  | m + 1, i => by
    unfold jn
    rw [jn_sh m (i + 1)]
/-- the other's pile writes a subtree -/
def RMp (μ0 : S5) (h p m : Nat) (L : List Int32) : Prop := ∀ μ ν, eqQ μ0 μ → LWm L μ ν → ∀ (v : Nat) (x y : Nat → Int32), v + h < 3200 → x v = nI p → y v = 0 → ∃ (n : Nat) (x' y' : Nat → Int32), n + 1 ≤ 2 * m ∧ (∀ i, i < v → x' i = x i ∧ y' i = y i) ∧ ∀ N, f_X12_writeE_L16 (n + N) (nI (v + 1)) (wQp μ x y) = f_X12_writeE_L16 N (nI v) (wQp ν x' y')
theorem up_s {x : Nat → Int32} {i : Nat} {v : Int32} : upd x i v i = v := by unfold upd; simp
theorem up_n {x : Nat → Int32} {i j : Nat} {v : Int32} (h : ¬ j = i) : upd x i v j = x j := by unfold upd; simp [h]
theorem rm_leaf {μ0 : S5} {h p : Nat} (hp : p < 7000) (h34 : xA μ0 34 (nI p) = nI 0) {L : List Int32} (ha : Wm μ0 (f_X12_atom_ (nI p)) L) : RMp μ0 h p 1 L := by
  intro μ ν hq hL v x y hv hx hy
  refine ⟨1, x, y, by omega, fun _ _ => ⟨rfl, rfl⟩, fun N => ?_⟩
  have e1 : nI (v + 1) - 1 = nI v := by
    rw [show (1 : Int32) = nI 1 from rfl, nI_sub (by omega)]
    rfl
  have e2 : nI (v + 1) + (-1) = nI v := by rw [← e1]; grind
  rw [Nat.add_comm]
  show f_X12_writeE_B16 _ _ _ = _
  unfold f_X12_writeE_B16 f_X12_writeE_b118
  rw [if_neg (fun w => by have := (nI_le31 (a := v + 1) (b := 0) (by omega) (by omega)).mp w; omega), e1, gdn (by omega) (by omega), gdn (by omega) (by omega), wQp_28 _ _ _ _ (by omega), hx, gdn hp (by omega), (wQp_q hq x y).x 34 _ (by decide), h34, if_pos (show nI 0 = 0 from rfl), ha _ _ (wQp_q hq x y) (hL.p x y), bd_of, e2]
theorem rm_kids {τ0 μ0 : S5} {R : R6} {h h' k ct p q : Nat} {cc : Nat → Int32} {qq pp : Nat → Nat} (hp : p < 7000) (hk : 1 ≤ k) (hk9 : k ≤ 10) (h33 : xA μ0 33 (nI p) = nI ct) (hct : ct + k ≤ 14000) (h34 : xA μ0 34 (nI p) = nI k) (hqk : qq k = p) (sp L : Nat → List Int32) (en : List Int32) (hkid : ∀ i, i < k → qq i ≤ pp i ∧ pp i < p ∧ qq (i + 1) = pp i + 1 ∧ xA μ0 39 (nI (ct + i)) = nI (pp i) ∧ RMp μ0 h' (pp i) (pp i + 1 - qq i) (L i)) (hh : h' + 1 ≤ h) (hsp : ∀ i, i < k → Wm μ0 (f_X12_around (nI p) (nI i)) (sp i)) (hen : Wm μ0 (f_X12_around (nI p) (nI k)) en) : ∀ (m i : Nat), i + m = k → ∀ μ ν, eqQ μ0 μ → LWm (jn sp L en m i) μ ν → ∀ (v : Nat) (x y : Nat → Int32), v + h < 3200 → x v = nI p → y v = nI i → ∃ (n : Nat) (x' y' : Nat → Int32), n + 1 ≤ 2 * (p - qq i) + 2 ∧ (∀ i, i < v → x' i = x i ∧ y' i = y i) ∧ ∀ N, f_X12_writeE_L16 (n + N) (nI (v + 1)) (wQp μ x y) = f_X12_writeE_L16 N (nI v) (wQp ν x' y') := by
  have e1 : ∀ v, nI (v + 1) - 1 = nI v := fun v => by
    rw [show (1 : Int32) = nI 1 from rfl, nI_sub (by omega)]
    rfl
  have e2 : ∀ v, nI (v + 1) + (-1) = nI v := fun v => by rw [← e1]; grind
  have hk0 : ¬ nI k = 0 := fun w => by have := nI_injL (a := k) (b := 0) (by omega) (by omega) w; omega
  have hmo : ∀ m i, i + m = k → qq i ≤ p := by
    intro m
    induction m with
    | zero => intro i hi; rw [show i = k by omega, hqk]; exact Nat.le_refl _
    | succ m ih =>
      intro i hi
      obtain ⟨a1, a2, a3, -⟩ := hkid i (by omega)
      omega
  intro m
  induction m with
  | zero =>
    intro i hi μ ν hq hL v x y hv hx hy
    obtain rfl : i = k := by omega
    have hw := wQp_q hq x y
    refine ⟨1, x, upd y v (nI i + 1), by omega, fun j hj => ⟨rfl, up_n (by omega)⟩, fun N => ?_⟩
    have hLp := hL.p x y
    have hwn := hw.fr hLp.fr.1
    rw [Nat.add_comm]
    show f_X12_writeE_B16 _ _ _ = _
    unfold f_X12_writeE_B16 f_X12_writeE_b118
    rw [if_neg (fun w => by have := (nI_le31 (a := v + 1) (b := 0) (by omega) (by omega)).mp w; omega), e1, gdn (by omega) (by omega), gdn (by omega) (by omega), wQp_28 _ _ _ _ (by omega), hx, gdn hp (by omega), hw.x 34 _ (by decide), h34, if_neg hk0, wQp_29 _ _ _ _ (by omega), hy, hen _ _ hw hLp, bd_of, gdn (by omega) (by omega), gdn (by omega) (by omega), gdn hp (by omega), hwn.x 34 _ (by decide), h34, if_pos (Int32.le_refl _), wQp_29 _ _ _ _ (by omega), hy, wQp_p29 _ _ _ _ _ (by omega), e2]
  | succ m ih =>
    intro i hi μ ν hq hL v x y hv hx hy
    obtain ⟨ρ1, l1, l2⟩ := LWm.ap hL
    obtain ⟨ρ2, l3, l4⟩ := LWm.ap l2
    obtain ⟨a1, a2, a3, a4, a5⟩ := hkid i (by omega)
    have hw := wQp_q hq x y
    have l1p := l1.p x y
    have hwn := hw.fr l1p.fr.1
    have q1 := hq.fr l1.fr.1
    have q2 := q1.fr l3.fr.1
    obtain ⟨n1, x1, y1, b1, b2, b3⟩ := a5 ρ1 ρ2 q1 l3 (v + 1) (upd x (v + 1) (nI (pp i))) (upd (upd y v (nI (i + 1))) (v + 1) 0) (by omega) up_s up_s
    obtain ⟨n2, x2, y2, c1, c2, c3⟩ := ih (i + 1) (by omega) ρ2 ν q2 l4 v x1 y1 hv (by rw [(b2 v (by omega)).1, up_n (by omega)]; exact hx) (by rw [(b2 v (by omega)).2, up_n (by omega), up_s])
    have hm := hmo m (i + 1) (by omega)
    refine ⟨1 + n1 + n2, x2, y2, by omega, fun j hj => ?_, fun N => ?_⟩
    · rw [(c2 j hj).1, (c2 j hj).2, (b2 j (by omega)).1, (b2 j (by omega)).2, up_n (by omega), up_n (by omega), up_n (by omega)]
      exact ⟨rfl, rfl⟩
    · have hs : f_X12_writeE_L16 (n1 + (n2 + N) + 1) (nI (v + 1)) (wQp μ x y) = f_X12_writeE_L16 (n1 + (n2 + N)) (nI (v + 1 + 1)) (wQp ρ1 (upd x (v + 1) (nI (pp i))) (upd (upd y v (nI (i + 1))) (v + 1) 0)) := by
        show f_X12_writeE_B16 _ _ _ = _
        unfold f_X12_writeE_B16 f_X12_writeE_b118 f_X12_child
        rw [if_neg (fun w => by have := (nI_le31 (a := v + 1) (b := 0) (by omega) (by omega)).mp w; omega), e1, gdn (by omega) (by omega), gdn (by omega) (by omega), wQp_28 _ _ _ _ (by omega), hx, gdn hp (by omega), hw.x 34 _ (by decide), h34, if_neg hk0, wQp_29 _ _ _ _ (by omega), hy, hsp i (by omega) _ _ hw l1p, bd_of, gdn (by omega) (by omega), gdn (by omega) (by omega), gdn hp (by omega), hwn.x 34 _ (by decide), h34, if_neg (fun w => by have := (nI_le31 (a := k) (b := i) (by omega) (by omega)).mp w; omega), wQp_29 _ _ _ _ (by omega), hy, wQp_p29 _ _ _ _ _ (by omega), nI_add1, gdn hp (by omega)]
        have hw2 := wQp_q q1 x (upd y v (nI (i + 1)))
        rw [hw2.x 33 _ (by decide), h33, nI_plus, gdn (by omega) (by omega), hw2.x 39 _ (by decide), a4, bd_of, gdn (by omega) (by omega), gdn (by omega) (by omega), wQp_p28 _ _ _ _ _ (by omega), wQp_p29 _ _ _ _ _ (by omega), nI_add1]
      rw [show 1 + n1 + n2 + N = n1 + (n2 + N) + 1 by omega, hs, b3, c3]
