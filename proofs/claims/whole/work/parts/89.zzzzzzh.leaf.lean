/-- weights of nodes and of scopes, alike where a function lies -/
def El (wl ws : Nat → Nat) (s s' t e : Int32) : Prop := prI wl e + prI ws s = prI wl t + prI ws s'
/-- what the weights must keep to -/
def Lw (σ : S5) (wl ws : Nat → Nat) : Prop := (∀ j : Int32, ¬ xA σ 13 j = 14 → wl j.toNatClampNeg = 0) ∧ (∀ s : Int32, fC σ s.toNatClampNeg = 0 → ws s.toNatClampNeg = 0) ∧ (∀ c s : Int32, xA σ 13 c = 14 → xA σ 14 c = s → 0 ≤ s → fC σ s.toNatClampNeg = 1 → wl c.toNatClampNeg = ws s.toNatClampNeg)
theorem El.tr {wl ws : Nat → Nat} {s s1 s' t t1 e : Int32} (h : El wl ws s s1 t t1) (h2 : El wl ws s1 s' t1 e) : El wl ws s s' t e := by
  unfold El at *
  omega
theorem El.n {σ : S5} {wl ws : Nat → Nat} (hL : Lw σ wl ws) {s t : Int32} (h0 : 0 ≤ t) (h1 : t < 7000) (hk : ¬ xA σ 13 t = 14) : El wl ws s s t (t + 1) := by
  unfold El
  rw [prI_s _ h0 h1, hL.1 t hk, Nat.add_zero]
theorem El.s {σ : S5} {wl ws : Nat → Nat} (hL : Lw σ wl ws) {s t : Int32} (h0 : 0 ≤ s) (h1 : s < 7000) (hf : fC σ s.toNatClampNeg = 0) : El wl ws s (s + 1) t t := by
  unfold El
  rw [prI_s _ h0 h1, hL.2.1 s hf, Nat.add_zero]
theorem TRow.lw {σ μ : S5} {wl ws : Nat → Nat} {P : Nat → Int32 → Int32 → Int32 → Int32 → Int32 → Int32 → Int32 → Int32 → Int32 → Prop} {k : Nat} {s s' u u' a b t c n1 c1 nn : Int32} {gap : Nat → Int32} (h : TRow σ μ P k s s' u u' a b t c n1 c1 nn gap) (hP : ∀ i s1 s1' u1 u1' a1 b1 t1 n1 c1, i < k → P i s1 s1' u1 u1' a1 b1 t1 n1 c1 → Wi s s' u u' a b t c s1 s1' u1 u1' a1 b1 t1 c1 → El wl ws s1 s1' t1 (c1 + 1)) : El wl ws s s' t c := by
  obtain ⟨g, cc, fs, fu, fn, ft, e1, e2, e3, e4, e5, e6, ⟨e7, e7'⟩, e8, e9, hi⟩ := h
  have key : ∀ j, j ≤ k → El wl ws s (fs j) t (ft j) := by
    intro j
    induction j with
    | zero => intro _; unfold El; rw [e1, e7]
    | succ j ih =>
      intro hj
      obtain ⟨d1, d2, d3, d4, d5, d6, d7, d8, d9⟩ := hi j (by omega)
      have q2 := hP _ _ _ _ _ _ _ _ _ _ (by omega) d1 d2
      rw [← d5] at q2
      exact (ih (by omega)).tr q2
  have := key k (Nat.le_refl _)
  rw [e2, e7'] at this
  exact this
theorem TFun.lw {σ μ : S5} {wl ws : Nat → Nat} (hL : Lw σ wl ws) {R : R10} (hR : ∀ h s s' u u' a b t n c, R h s s' u u' a b t n c → Ow σ h s → El wl ws s s' t (c + 1)) {h s s' u u' n b t c : Int32} (q : TFun σ μ R h s s' u u' n b t c) (h0 : 0 ≤ h) (hs0 : 0 ≤ s) (hs7 : s' ≤ 700) (hc0 : 0 ≤ c) (hc1 : c < 7000) : El wl ws s s' t (c + 1) := by
  obtain ⟨e1, e2, e3, e4, e5, e6, e7, e8, e9, c2, e10, e11, e12, e13, e14⟩ := q
  unfold Wi at e13
  have s7 : s < 7000 := by clear hR e12; grind
  have x := hR _ _ _ _ _ _ _ _ _ _ e12 (by unfold Ow; rw [e5]; exact ⟨hs0, by clear hR e12; grind⟩)
  rw [← e14] at x
  have c1 : fC σ s.toNatClampNeg = 1 := by
    unfold fC
    rw [xA_tn, xA_tn, ← nI_tn hs0, if_pos ⟨e5, by rw [e4]; clear hR e12; grind⟩]
  have w := hL.2.2 c s e1 e2 hs0 c1
  have g1 := prI_s wl hc0 hc1
  have g2 := prI_s ws hs0 s7
  unfold El at *
  omega
theorem TR.lw {σ μ : S5} {wl ws : Nat → Nat} (hL : Lw σ wl ws) {h s s' u u' a b t n c : Int32} (q : TR σ μ h s s' u u' a b t n c) : Ow σ h s → El wl ws s s' t (c + 1) := by
  refine TR.ind (P := fun h s s' u u' a b t n c => Ow σ h s → El wl ws s s' t (c + 1)) ?_ q
  clear q
  intro h s s' u u' a b t n c q ho
  obtain ⟨hb, q⟩ := q
  unfold Bd at hb
  obtain ⟨b1, b2, b3, b4, b5, b6, b7, b8, b9, b10, b11, b12, b13, b14⟩ := hb
  have hc0 : 0 ≤ c := i_trans b12 b13
  have hc1 : c < 7000 := by clear q; grind
  have hs0 : 0 ≤ s := by clear q; grind
  rcases q with q | q | q | q | q | q | q
  · obtain ⟨e1, e2, e3, e4, e5, e6, e7⟩ := q
    subst e1 e4
    refine El.n hL hc0 hc1 ?_
    rcases e7 with ⟨_, w, _⟩ | ⟨_, ⟨_, w, _⟩ | ⟨_, w, _⟩ | ⟨_, w⟩⟩ <;> rw [w] <;> decide
  · obtain ⟨e1, e2, e3, e4, e5, c1, c2, s1, u1, e6, e7, e8, e9, e10, -⟩ := q
    unfold Wi at e7 e9
    unfold Ow at ho
    have x := e8.2 ⟨ho.1, by clear e6 e8; grind⟩
    rw [← e10] at x
    exact (((e6.2 ho).tr x).tr (El.n hL hc0 hc1 (by rw [e3]; decide)))
  · obtain ⟨e1, e2, e3, k, e4, e5, e6, e7⟩ := q
    unfold Ow at ho
    exact ((e7.lw (fun i s1 s1' u1 u1' a1 b1 t1 n1 c1 _ w wi => (w.2 ⟨ho.1, by unfold Wi at wi; clear e7 w; grind⟩))).tr (El.n hL hc0 hc1 (by rw [e3]; decide)))
  · obtain ⟨e1, e2, e3, e4, e5, e6, e7, k, e8, e9, e10, e11⟩ := q
    unfold Ow at ho
    exact ((e11.lw (fun i s1 s1' u1 u1' a1 b1 t1 n1 c1 _ w wi => (w.2 ⟨ho.1, by unfold Wi at wi; clear e11 w; grind⟩))).tr (El.n hL hc0 hc1 (by rw [e3]; decide)))
  · obtain ⟨e1, e2, e3⟩ := q
    exact e3.lw hL (fun _ _ _ _ _ _ _ _ _ _ w => w.2) b1 hs0 b4 hc0 hc1
  · obtain ⟨e1, e2, e3, e4, e5, e6, e7, e8, k, s1, u1, a1, t1, c0, e9, e10, e11, e12, e13, e14, e15, e16, e17, e18, e19, e20⟩ := q
    unfold Ow at ho
    unfold Wi at e20
    have hne : ¬ xA σ 22 s = s := by rw [e7]; clear e14 e19; grind
    have hf : fC σ s.toNatClampNeg = 0 := by unfold fC; rw [xA_tn, ← nI_tn hs0, if_neg (fun w => hne w.1)]
    have os : ∀ x, s + 1 ≤ x → x ≤ 700 → Ow σ s x := fun x hx _ => by unfold Ow; rw [e7]; exact ⟨ho.1, by clear e14 e19; grind⟩
    have x := e19.2 (os s1 e15 (by clear e14 e19; grind))
    rw [← e13] at x
    refine ((((El.s hL hs0 (by clear e14 e19; grind) hf).tr (e14.lw ?_)).tr x).tr (El.n hL hc0 hc1 (by rw [e4]; decide)))
    intro i s2 s2' u2 u2' a2 b2 t2 n2 c2 _ w wi
    unfold Wi at wi
    obtain ⟨d1, d2, d3, d4, d5, c1, d6, d7, d8, d9⟩ := w
    have k2 : 0 ≤ c2 := by clear e14 x d9 e19; grind
    have k3 : c2 < 7000 := by clear e14 x d9 e19; grind
    rcases d9 with ⟨d9, d10, d11⟩ | d9
    · have y := d10.2 (os s2 (by clear e14 x d10 e19; grind) (by clear e14 x d10 e19; grind))
      rw [← d8] at y
      exact y.tr (El.n hL k2 k3 (by rw [d3]; decide))
    · have k4 : 0 ≤ c1 := by
        obtain ⟨g1, g2, g3, g4, g5, g6, g7, g8, g9, c9, g10, g11, g12, g13, g14⟩ := d9
        unfold Wi at g13
        clear e14 x g12 e19
        grind
      have y := d9.lw hL (fun _ _ _ _ _ _ _ _ _ _ w => w.2) hs0 (by clear e14 x d9 e19; grind) (by clear e14 x d9 e19; grind) k4 (by clear e14 x d9 e19; grind)
      rw [← d8] at y
      exact y.tr (El.n hL k2 k3 (by rw [d3]; decide))
  · obtain ⟨e1, e2, e3, e4, k, s1, u1, a1, c0, e9, e10, e11, e12, e13, e14, e15, e16, e17⟩ := q
    unfold Ow at ho
    unfold Wi at e13
    refine (((e12.2 ho).tr (e14.lw ?_)).tr (El.n hL hc0 hc1 (by rw [e4]; decide)))
    intro i s2 s2' u2 u2' a2 b2 t2 n2 c2 _ w wi
    unfold Wi at wi
    obtain ⟨d1, d2, c1, d3, d4, d5, d6⟩ := w
    have k2 : 0 ≤ c2 := by clear e14 d6 e12; grind
    have k3 : c2 < 7000 := by clear e14 d6 e12; grind
    rcases d6 with ⟨f1, f2, f3, f4, f5, f6, f7, f8, f9, f10, f11, f12, f13⟩ | ⟨f1, f2, f3, f4⟩
    · have hs2 : 0 ≤ s2 := by clear e14 f12 e12; grind
      have hne : ¬ xA σ 22 s2 = s2 := by rw [f9]; clear e14 f12 e12; grind
      have hf : fC σ s2.toNatClampNeg = 0 := by unfold fC; rw [xA_tn, ← nI_tn hs2, if_neg (fun w => hne w.1)]
      have y := (El.s hL (t := t2) hs2 (by clear e14 f12 e12; grind) hf).tr (f12.2 (by unfold Ow; rw [f9]; exact ⟨ho.1, by clear e14 f12 e12; grind⟩))
      rw [← d5] at y
      exact y.tr (El.n hL k2 k3 (by rw [f2]; decide))
    · have y := f3.2 ⟨ho.1, by clear e14 f3 e12; grind⟩
      rw [← d5] at y
      refine y.tr (El.n hL k2 k3 ?_)
      rcases f2 with ⟨_, w, _⟩ | ⟨_, w⟩ <;> rw [w] <;> decide
theorem PG.lw {σ μ : S5} {wl ws : Nat → Nat} (hL : Lw σ wl ws) {k : Nat} {cc fs fu fn ft : Nat → Int32} (hp : PG σ μ k cc fs fu fn ft) (h9 : gI σ 9 ≤ 630) : prI wl (gI σ 8) = prI ws (gI σ 9) := by
  obtain ⟨⟨p1, p2, p3, p4, p5, p6, p7, p8⟩, hi, -⟩ := hp
  have key : ∀ i, i ≤ k → El wl ws 0 (fs i) 0 (ft i) := by
    intro i
    induction i with
    | zero => intro _; unfold El; rw [p1, p7]
    | succ i ih =>
      intro hik
      obtain ⟨hq, hs, hu, hn, ht, htc⟩ := hi i (by omega)
      have hc : fC σ (fs i).toNatClampNeg = 0 := by unfold fC; rw [xA_tn, xA_tn, ← nI_tn hs.1, if_neg (fun w => w.2 hq.2.2.2.1.1)]
      have x := hq.2.2.2.2.2.2.2.lw hL ⟨by rw [hq.2.2.2.1.2.1]; exact hs.1, by rw [hq.2.2.2.1.2.1]; grind⟩
      rw [← htc] at x
      exact (ih (by omega)).tr ((El.s hL hs.1 (by grind) hc).tr x)
  have := key k (Nat.le_refl _)
  rw [p2, p8] at this
  unfold El at this
  have z1 : prI wl 0 = 0 := rfl
  have z2 : prI ws 0 = 0 := rfl
  omega
/-- a sum over the functions within, by their scopes and by their numbers -/
theorem pre_fn {σ : S5} {k : Nat} {L : Nat → Nat} : ∀ n, pre (fun i => if fC σ i = 1 then L (k + pre (fC σ) i) else 0) n = pre (fun j => L (k + j)) (pre (fC σ) n)
  | 0 => rfl
  | n + 1 => by
    show pre _ n + (if fC σ n = 1 then L (k + pre (fC σ) n) else 0) = pre (fun j => L (k + j)) (pre (fC σ) n + fC σ n)
    rw [pre_fn n]
    have hc : fC σ n = 0 ∨ fC σ n = 1 := by unfold fC; split <;> omega
    rcases hc with w | w
    · rw [w, if_neg (by omega)]; rfl
    · rw [w, if_pos rfl]; rfl
theorem pre_sh {L : Nat → Nat} (k : Nat) : ∀ n, pre L k + pre (fun j => L (k + j)) n = pre L (k + n)
  | 0 => rfl
  | n + 1 => by
    show pre L k + (pre (fun j => L (k + j)) n + L (k + n)) = pre L (k + n) + L (k + n)
    rw [← pre_sh k n]
    omega
theorem pre_1 {L c : Nat → Nat} (h : ∀ i, L i ≤ c i + 1) : ∀ n, pre L n ≤ pre c n + n
  | 0 => by show 0 ≤ 0 + 0; omega
  | n + 1 => by
    have := pre_1 h n
    have := h n
    show pre L n + L n ≤ pre c n + c n + (n + 1)
    omega
