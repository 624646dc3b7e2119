/-- what is seen, and some names more -/
def Sx (Sc : Nat → Prop) (x0 l : Nat) (x : Nat) : Prop := Sc x ∨ (x0 ≤ x ∧ x < x0 + l)
def VFl (τ : S5) (R : Int32 → (Nat → Prop) → Nat → Nat → Prop) (c : Int32) (Sc : Nat → Prop) (lo hi : Nat) : Prop := xA τ 13 c = 7 ∧ ∃ (l : Nat) (bb : Nat → Int32) (ll : Nat → Nat), 1 ≤ l ∧ l ≤ 5 ∧ (lo ≤ 4000 ∧ (∀ y, Sc y → y < lo) ∧ c < gI τ 8) ∧ xA τ 17 (xA τ 16 c) = bb 0 ∧ (∀ i, i < l → (0 ≤ bb i ∧ bb i < 6200) ∧ xA τ 14 (bb i) = nI (lo + i) ∧ xA τ 17 (bb i) = if i + 1 < l then bb (i + 1) else -1) ∧ (ll 0 = lo + l ∧ hF τ (xA τ 16 c) < hF τ c ∧ ∀ i, i < l → hF τ (xA τ 16 (bb i)) < hF τ c) ∧ R (xA τ 16 c) (Sx Sc lo l) (ll l) hi ∧ ∀ i, i < l → R (xA τ 16 (bb i)) (Sx Sc lo l) (ll i) (ll (i + 1))
def VFc (τ : S5) (R : Int32 → (Nat → Prop) → Nat → Nat → Prop) (c : Int32) (Sc : Nat → Prop) (lo hi : Nat) : Prop := xA τ 13 c = 6 ∧ ∃ (l : Nat) (aa : Nat → Int32) (ll : Nat → Nat), 1 ≤ l ∧ l ≤ 8 ∧ xA τ 17 (xA τ 16 c) = aa 0 ∧ R (xA τ 16 c) Sc lo (ll 0) ∧ (ll l = hi ∧ hF τ (xA τ 16 c) < hF τ c ∧ ∀ i, i < l → hF τ (xA τ 16 (aa i)) < hF τ c) ∧ ∀ i, i < l → ((0 ≤ aa i ∧ aa i < 6200) ∧ xA τ 17 (aa i) = if i + 1 < l then aa (i + 1) else -1) ∧ ((xA τ 13 (aa i) = 11 ∧ ∃ j, j ≤ 5 ∧ (ll i ≤ 4000 ∧ ∀ y, Sc y → y < ll i) ∧ xA τ 2 (xA τ 14 (aa i)) = nI j ∧ xA τ 15 (aa i) = nI (ll i) ∧ R (xA τ 16 (aa i)) (Sx Sc (ll i) j) (ll i + j) (ll (i + 1))) ∨ (¬ xA τ 13 (aa i) = 11 ∧ R (xA τ 16 (aa i)) Sc (ll i) (ll (i + 1))))
def VFr (τ : S5) (R : Int32 → (Nat → Prop) → Nat → Nat → Prop) (c : Int32) (Sc : Nat → Prop) (lo hi : Nat) : Prop := (xA τ 13 c = 5 ∨ xA τ 13 c = 8 ∨ xA τ 13 c = 9) ∧ ∃ (k : Nat) (cc : Nat → Int32) (ll : Nat → Nat), 1 ≤ k ∧ k ≤ 9 ∧ Chn τ c k cc ∧ ll 0 = lo ∧ (ll k = hi ∧ (∀ i, i < k → hF τ (cc i) < hF τ c) ∧ (xA τ 13 c = 8 → xA τ 15 c = nI (k - 1)) ∧ (xA τ 13 c = 5 → k = 2)) ∧ ∀ i, i < k → R (cc i) Sc (ll i) (ll (i + 1))
/-- every variable of a subtree is seen; those that it binds are numbered from lo to hi -/
def VF (τ : S5) (R : Int32 → (Nat → Prop) → Nat → Nat → Prop) (c : Int32) (Sc : Nat → Prop) (lo hi : Nat) : Prop := ((lo = hi ∧ xA τ 13 c ≤ 4) ∧ xA τ 16 c = -1 ∧ (xA τ 13 c = 3 → ∃ x, xA τ 14 c = nI x ∧ Sc x)) ∨ VFr τ R c Sc lo hi ∨ VFl τ R c Sc lo hi ∨ VFc τ R c Sc lo hi
theorem VF_mono {τ : S5} {R R' : Int32 → (Nat → Prop) → Nat → Nat → Prop} (h : ∀ c Sc lo hi, R c Sc lo hi → R' c Sc lo hi) {c : Int32} {Sc : Nat → Prop} {lo hi : Nat} (q : VF τ R c Sc lo hi) : VF τ R' c Sc lo hi := by
  rcases q with q | ⟨q1, k, cc, ll, q2, q3, q4, q4a, q4b, q5⟩ | ⟨q1, l, bb, ll, q2, q3, q4, q5, q6, q6a, q7, q8⟩ | ⟨q1, l, aa, ll, q2, q3, q4, q5, q5a, q6⟩
  · exact Or.inl q
  · exact Or.inr (Or.inl ⟨q1, k, cc, ll, q2, q3, q4, q4a, q4b, fun i hi => h _ _ _ _ (q5 i hi)⟩)
  · exact Or.inr (Or.inr (Or.inl ⟨q1, l, bb, ll, q2, q3, q4, q5, q6, q6a, h _ _ _ _ q7, fun i hi => h _ _ _ _ (q8 i hi)⟩))
  · refine Or.inr (Or.inr (Or.inr ⟨q1, l, aa, ll, q2, q3, q4, h _ _ _ _ q5, q5a, fun i hi => ⟨(q6 i hi).1, ?_⟩⟩))
    rcases (q6 i hi).2 with ⟨a, j, b1, b2, b3, b4, b5⟩ | ⟨a, b⟩
    · exact Or.inl ⟨a, j, b1, b2, b3, b4, h _ _ _ _ b5⟩
    · exact Or.inr ⟨a, h _ _ _ _ b⟩
def VS (τ : S5) (c : Int32) (Sc : Nat → Prop) (lo hi : Nat) : Prop := ∀ R : Int32 → (Nat → Prop) → Nat → Nat → Prop, (∀ c Sc lo hi, VF τ R c Sc lo hi → R c Sc lo hi) → R c Sc lo hi
theorem VS.fold {τ : S5} {c : Int32} {Sc : Nat → Prop} {lo hi : Nat} (q : VF τ (VS τ) c Sc lo hi) : VS τ c Sc lo hi := fun R hR => hR _ _ _ _ (VF_mono (fun _ _ _ _ w => w R hR) q)
theorem VS.ind {τ : S5} {P : Int32 → (Nat → Prop) → Nat → Nat → Prop} (hP : ∀ c Sc lo hi, VF τ (fun c Sc lo hi => VS τ c Sc lo hi ∧ P c Sc lo hi) c Sc lo hi → P c Sc lo hi) {c : Int32} {Sc : Nat → Prop} {lo hi : Nat} (q : VS τ c Sc lo hi) : P c Sc lo hi :=
  (q (fun c Sc lo hi => VS τ c Sc lo hi ∧ P c Sc lo hi) (fun c Sc lo hi w => ⟨VS.fold (VF_mono (fun _ _ _ _ z => z.1) w), hP c Sc lo hi w⟩)).2
theorem VS.un {τ : S5} {c : Int32} {Sc : Nat → Prop} {lo hi : Nat} (q : VS τ c Sc lo hi) : VF τ (VS τ) c Sc lo hi :=
  VS.ind (P := fun c Sc lo hi => VF τ (VS τ) c Sc lo hi) (fun _ _ _ _ w => VF_mono (fun _ _ _ _ z => z.1) w) q
/-- what is seen in scope h of function f -/
def Vs (σ τv : S5) (S : Int32) (sc : Nat → Int32) (cf : Nat → Nat) (f : Nat) (h : Int32) (x : Nat) : Prop := ∃ y, An σ h (y / 5) ∧ Kn σ τv S sc cf f y ∧ x = qn σ τv sc cf f y
/-- what lies around what -/
def AnX (σ τr τv : S5) (k U F : Nat) (S : Int32) (cf : Nat → Nat) : Prop := (∀ g p, g < F → p < cf g → Qa σ τr S g (xA τv 5 (nI (g * 8 + p)))) ∧ (∀ u, u < U → 0 ≤ tg σ k u → An σ (xA σ 27 (nI u)) (tg σ k u / 5))
/-- a scope of the same function sees what is seen around it, and its own names -/
theorem Vs.sub {σ ν τr τv : S5} {k U F : Nat} {S : Int32} {sc : Nat → Int32} {cf : Nat → Nat} (hL : LXc σ ν τr τv k U F S sc cf) {f j x0 : Nat} {h s : Int32} (hs0 : 0 ≤ s) (hs : s < S) (h22 : xA σ 22 s = sc f) (h21 : xA σ 21 s = h) (hj : xA σ 20 s = nI j) (hj5 : j ≤ 5) (hx : xA τv 25 s = nI x0) (hx3 : x0 ≤ 4000) (hf : f < F) {Sc : Nat → Prop} (hSc : ∀ x, Vs σ τv S sc cf f h x → Sc x) : ∀ x, Vs σ τv S sc cf f s x → Sx Sc x0 j x := by
  intro x hv
  obtain ⟨y, a, b, e⟩ := hv
  rcases a.pr with w | ⟨-, w⟩
  · refine Or.inr ?_
    obtain ⟨s', i, j', ⟨k0, k1⟩, k2, k3, k4, rfl, k5⟩ := b
    have hS : S ≤ 630 := hL.1.2.1.2
    have k7 : s' < 700 := by clear k5 hL hSc a; grind
    have ed := div5 (i := i) k0 k7 (by omega)
    have em := m5_n (i := i) k0 k7 (by omega)
    rw [ed] at w
    subst w
    have ej : j' = j := nI_injL (by omega) (by omega) (k2.symm.trans hj)
    have h25 := hL.2.2.2.2.2.1 f s hf hs0 hs h22
    have ex : x0 = cf f + prI (wO σ (sc f)) s := by
      rw [hx] at h25
      have hb : cf f + prI (wO σ (sc f)) s < 2 ^ 31 := by
        have hc8 : cf f ≤ 8 := (hL.2.2.1 f hf).2.2.2.2.1
        have h1 := nvF_le hL hf
        have h2 := prM (w := wO σ (sc f)) (i_le_of_lt hs)
        unfold nvF at h1
        omega
      exact nI_injL (by omega) hb h25
    have hq : qn σ τv sc cf f (s * 5 + nI i) = cf f + prI (wO σ (sc f)) s + i := by
      unfold qn
      rw [em, ed, if_pos h22, nI_clamp (by omega)]
    rw [e, hq, ex]
    omega
  · rw [h21] at w
    exact Or.inl (hSc x ⟨y, w, b, e⟩)
/-- numbers that are seen come before those of a later scope -/
def Bs (σ : S5) (sc : Nat → Int32) (cf : Nat → Nat) (f : Nat) (s : Int32) (Sc : Nat → Prop) : Prop := ∀ x, Sc x → x < cf f + prI (wO σ (sc f)) s
theorem Bs.le {σ : S5} {sc : Nat → Int32} {cf : Nat → Nat} {f : Nat} {s s1 : Int32} {Sc : Nat → Prop} (h : Bs σ sc cf f s Sc) (hs : s ≤ s1) : Bs σ sc cf f s1 Sc := fun x hx => by
  have h1 := h x hx
  have h2 := prM (w := wO σ (sc f)) hs
  omega
theorem Bs.sub {σ : S5} {sc : Nat → Int32} {cf : Nat → Nat} {f j x0 : Nat} {s : Int32} {Sc : Nat → Prop} (h : Bs σ sc cf f s Sc) (hs0 : 0 ≤ s) (hs7 : s < 7000) (h22 : xA σ 22 s = sc f) (hj : xA σ 20 s = nI j) (hj5 : j ≤ 5) (hx : x0 = cf f + prI (wO σ (sc f)) s) : Bs σ sc cf f (s + 1) (Sx Sc x0 j) := fun x hv => by
  have hw : wO σ (sc f) s.toNatClampNeg = j := by
    unfold wO vC
    rw [xA_tn, if_pos h22, xA_tn, hj, nI_clamp (by omega)]
  rw [prI_s _ hs0 hs7, hw]
  rcases hv with w | ⟨w1, w2⟩
  · have := h x w
    omega
  · omega
/-- where the numbers of a scope begin -/
def Wf (σ : S5) (sc : Nat → Int32) (cf : Nat → Nat) (f : Nat) (s : Int32) : Nat := cf f + prI (wO σ (sc f)) s
theorem Wf.le {σ : S5} {sc : Nat → Int32} {cf : Nat → Nat} {f : Nat} {s s1 : Int32} (hs : s ≤ s1) : Wf σ sc cf f s ≤ Wf σ sc cf f s1 := by
  have := prM (w := wO σ (sc f)) hs
  unfold Wf
  omega
theorem Wf.su {σ : S5} {sc : Nat → Int32} {cf : Nat → Nat} {f j : Nat} {s : Int32} (hs0 : 0 ≤ s) (hs7 : s < 7000) (h22 : xA σ 22 s = sc f) (hj : xA σ 20 s = nI j) (hj5 : j ≤ 5) : Wf σ sc cf f (s + 1) = Wf σ sc cf f s + j := by
  have hw : wO σ (sc f) s.toNatClampNeg = j := by
    unfold wO vC
    rw [xA_tn, if_pos h22, xA_tn, hj, nI_clamp (by omega)]
  unfold Wf
  rw [prI_s _ hs0 hs7, hw]
  omega
