/-- the walk goes out of a scope -/
theorem ws_pop {σ τr μ0 : S5} {k F : Nat} {S : Int32} {D : Int32 → Nat} {h s s' : Int32} {u : Nat} {a : Int32} {m top d d1 B j : Nat} {τ μ ν : S5} (q : WS σ τr μ0 k F S D s s' u a (m + 1) (top + j) d1 B τ μ) (hj : xA σ 20 s = nI j) (hj5 : j ≤ 5) (s0 : 0 ≤ s) (h21 : xA σ 21 s = h) (hI : ∀ g, ¬ g = 24 → ¬ g = 25 → gI ν g = gI μ g) (h2 : ν.2 = μ.2) (h24 : gI ν 24 = nI top) (h25 : gI ν 25 = nI d) (hA : Aro σ τr μ S d (xA σ 22 h) d) (hd : d ≤ D h) : WS σ τr μ0 k F S D h s' u a m top d B τ ν := by
  obtain ⟨q1, q2, ⟨q3, q4, q5⟩, ⟨q6, q7, q8⟩, ⟨q9, q10⟩, ⟨q11, q12, q13⟩, q14, q15, ⟨q16, q17⟩⟩ := q
  have xa : ∀ (g : Nat) (i : Int32), xA ν g i = xA μ g i := fun g i => by show ν.2.2.1 g _ = μ.2.2.1 g _; rw [h2]
  have xb : ∀ (g : Nat) (i : Int32), xB ν g i = xB μ g i := fun g i => by show ν.2.2.2.1 g _ = μ.2.2.2.1 g _; rw [h2]
  have hS : Stk σ μ m h top := by
    rcases q4 with ⟨w, _⟩ | ⟨_, _, j', base, j5', hj', ht, _, hs⟩
    · exact absurd s0 (by rw [w]; decide)
    · have : j' = j := nI_inj (by omega) (by omega) (hj'.symm.trans hj)
      have : base = top := by omega
      subst this
      rw [h21] at hs
      exact hs
  obtain ⟨a1, a2, a3, a4, a5, a6⟩ := q1
  refine ⟨⟨fun g hg => (hI g (by omega) (by omega)).trans (a1 g hg), fun g => by show ν.2.1 g = _; rw [h2]; exact a2 g, fun g hg => by show ν.2.2.1 g = _; rw [h2]; exact a3 g hg, fun g hg => by show ν.2.2.2.1 g = _; rw [h2]; exact a4 g hg, by rw [h2]; exact a5, fun i hi => by rw [xa, xa]; exact a6 i hi⟩, (hI 23 (by decide) (by decide)).trans q2, ⟨h24, hS.st m h top (fun p _ => ⟨xb _ _, xa _ _⟩), by omega⟩, ⟨h25, hA.st d _ d (fun p _ => xa _ _), hd⟩, ⟨fun x i j' x0 x1 xj x5 ij => by rw [xa, xa]; exact q9 x i j' x0 x1 xj x5 ij, fun o f o0 o1 o2 o3 => by rw [xa]; exact q10 o f o0 o1 o2 o3⟩, ⟨q11.st (fun x => xa _ _) (fun x => xa _ _), q12, q13⟩, by rw [hI 7 (by decide) (by decide), hI 8 (by decide) (by decide)]; exact q14, q15, ⟨fun n n0 n1 n2 => (q16 n n0 n1 n2).st (xa _ _) (xa _ _), fun n n0 n1 n2 => by rw [xa]; exact q17 n n0 n1 n2⟩⟩
theorem pI_selfG (μ : S5) (k : Nat) : pI μ k (gI μ k) = μ := by
  refine Prod.ext ?_ rfl
  funext j
  show gI (pI μ k (gI μ k)) j = gI μ j
  rw [gI_pI]
  by_cases h : j = k
  · rw [if_pos h, h]
  · rw [if_neg h]
/-- the walk comes into a node without names -/
theorem ci_plain {μ : S5} {n : Int32} (hn0 : 0 ≤ n) (hn1 : n < 3200) (h19 : xA μ 19 n < 0) (hk0 : ¬ xA μ 2 n = 0) (hk8 : ¬ xA μ 2 n = 8) (h10 : xA μ 10 n = 0) : f_X12_comeInto n μ = some ((), pA μ 25 n (gI μ 23)) := by
  have hbig := FU_big (n := 30000) (by decide)
  obtain ⟨m, hm⟩ : ∃ m, FU = m + 1 := ⟨FU - 1, by omega⟩
  have hg : f_X12_giveNames n μ = some ((), pA μ 25 n (gI μ 23)) := by
    unfold f_X12_giveNames
    rw [gd3200 hn0 hn1, hm]
    show f_X12_giveNames_B12 _ _ _ _ = _
    unfold f_X12_giveNames_B12
    rw [gd3200 hn0 hn1, show xA (pA μ 25 n (gI μ 23)) 10 n = 0 from by rw [xA_pA, if_neg (fun w => absurd w.1 (by decide))]; exact h10, if_pos (by decide)]
  unfold f_X12_comeInto f_X12_comeInto_b34
  rw [gd3200 hn0 hn1, if_pos h19, gd3200 hn0 hn1, if_neg hk0, gd3200 hn0 hn1, if_neg hk8, hg, bd_of]
theorem go_plain {μ : S5} {n : Int32} (hn0 : 0 ≤ n) (hn1 : n < 3200) (h19 : xA μ 19 n < 0) (hk0 : ¬ xA μ 2 n = 0) (h10 : xA μ 10 n = 0) : f_X12_goOutOf n μ = some ((), μ) := by
  unfold f_X12_goOutOf f_X12_goOutOf_b19
  rw [gd3200 hn0 hn1, if_pos h19, gd3200 hn0 hn1, if_neg hk0, gd3200 hn0 hn1, h10, Int32.sub_zero, pI_selfG]
/-- the walk at a node: it comes there, comes into it, and goes on -/
def WB (rec : Int32 → S5 → Option (Unit × S5)) (q : Nat) (v1 : Int32) (v : Nat) (n : Int32) (μ : S5) : Option (Unit × S5) := bd (f_X12_beginAt (nI v) n μ) (fun _ τ90 => bd (f_X12_comeInto n τ90) (fun _ τ95 => f_X12_find_L55 rec q v1 (nI (v + 1)) τ95))
theorem st_in {μ μ1 : S5} {v : Nat} {x : Int32} (hv : v < 3200) (h : f_X12_nextChild (nI v) μ = some (x, μ1)) (hx : 0 ≤ x) (rec : Int32 → S5 → Option (Unit × S5)) (q : Nat) (v1 : Int32) : f_X12_find_L55 rec (q + 1) v1 (nI (v + 1)) μ = WB rec q v1 (v + 1) x μ1 := by
  have e1 : nI (v + 1) - 1 = nI v := by rw [← nI_add1]; grind
  have e2 : ¬ nI (v + 1) ≤ 0 := fun w => by have := (nI_le31 (b := 0) (by omega) (by omega)).mp w; omega
  show f_X12_find_B55 _ _ _ _ _ = _
  unfold f_X12_find_B55 f_X12_find_b101 WB
  rw [if_neg e2, e1, h, bd_of, if_pos hx, nI_add1]
theorem st_out {μ μ1 μ2 : S5} {v : Nat} {x n : Int32} (hv : v < 3200) (h : f_X12_nextChild (nI v) μ = some (x, μ1)) (hx : x < 0) (hn : xA μ1 28 (nI v) = n) (ho : f_X12_goOutOf n μ1 = some ((), μ2)) (rec : Int32 → S5 → Option (Unit × S5)) (q : Nat) (v1 : Int32) : f_X12_find_L55 rec (q + 1) v1 (nI (v + 1)) μ = f_X12_find_L55 rec q v1 (nI v) μ2 := by
  have e1 : nI (v + 1) - 1 = nI v := by rw [← nI_add1]; grind
  have e3 : nI (v + 1) + -1 = nI v := by rw [← nI_add1]; grind
  have e2 : ¬ nI (v + 1) ≤ 0 := fun w => by have := (nI_le31 (b := 0) (by omega) (by omega)).mp w; omega
  show f_X12_find_B55 _ _ _ _ _ = _
  unfold f_X12_find_B55 f_X12_find_b101
  rw [if_neg e2, e1, h, bd_of, if_neg (by grind), e3, gdn hv (by omega), hn, ho, bd_of]
/-- the walk's rows below a depth stay -/
def KW (v : Nat) (μ ν : S5) : Prop := ∀ p, p < v → xA ν 28 (nI p) = xA μ 28 (nI p) ∧ xA ν 29 (nI p) = xA μ 29 (nI p) ∧ xA ν 30 (nI p) = xA μ 30 (nI p)
theorem KW.rf (v : Nat) (μ : S5) : KW v μ μ := fun _ _ => ⟨rfl, rfl, rfl⟩
theorem KW.tr {v : Nat} {μ ν ρ : S5} (h : KW v μ ν) (h2 : KW v ν ρ) : KW v μ ρ := fun p hp => ⟨(h2 p hp).1.trans (h p hp).1, (h2 p hp).2.1.trans (h p hp).2.1, (h2 p hp).2.2.trans (h p hp).2.2⟩
theorem KW.le {v v' : Nat} {μ ν : S5} (h : KW v μ ν) (hv : v' ≤ v) : KW v' μ ν := fun p hp => h p (by omega)
theorem KW.A {v g : Nat} {μ ν : S5} {x : Int32} (h : KW v μ ν) (hv : v < 3200) : KW v μ (pA ν g (nI v) x) := fun p hp => by
  have hne := tn_ne (a := p) (b := v) (by omega) (by omega) (by omega)
  rw [xA_pA, if_neg (fun w => hne w.2), xA_pA, if_neg (fun w => hne w.2), xA_pA, if_neg (fun w => hne w.2)]
  exact h p hp
theorem KW.of {v : Nat} {μ ν : S5} (h : ∀ g i, g = 28 ∨ g = 29 ∨ g = 30 → xA ν g i = xA μ g i) : KW v μ ν := fun _ _ => ⟨h _ _ (by omega), h _ _ (by omega), h _ _ (by omega)⟩
theorem At.st {μ ν : S5} {v v' : Nat} {n i r : Int32} (h : At μ v n i r) (k : KW v' μ ν) (hv : v < v') : At ν v n i r := ⟨(k v hv).1.trans h.1, (k v hv).2.1.trans h.2.1, (k v hv).2.2.trans h.2.2⟩
theorem mBa_at (μ : S5) (v : Nat) (n r : Int32) : At (mBa μ v n r) v n 0 r := by
  unfold mBa
  refine ⟨?_, ?_, ?_⟩
  · rw [xA_pA, if_neg (fun w => absurd w.1 (by decide)), xA_pA, if_neg (fun w => absurd w.1 (by decide)), xA_pA, if_pos ⟨rfl, rfl⟩]
  · rw [xA_pA, if_neg (fun w => absurd w.1 (by decide)), xA_pA, if_pos ⟨rfl, rfl⟩]
  · rw [xA_pA, if_pos ⟨rfl, rfl⟩]
theorem mBa_kw (μ : S5) (v : Nat) (n r : Int32) (hv : v < 3200) : KW v μ (mBa μ v n r) := (((KW.rf v μ).A hv).A hv).A hv
theorem mBa_fr (a : Int32) (μ : S5) (v : Nat) (n r : Int32) : FrW a μ (mBa μ v n r) := (((FrW.rf a μ).A (by omega)).A (by omega)).A (by omega)
