/-- parts of a planted node -/
def Nn (τ : S5) (i : Int32) : Nat := (xA τ 19 i).toNatClampNeg
def Hn (τ : S5) (i : Int32) : Prop := 1 ≤ Nn τ i ∧ ∃ h : Nat, xA τ 18 i = nI h ∧ h ≤ Nn τ i
def wSs (σ τ : S5) (x : Nat) : Nat := if xA σ 22 (nI x) = nI x then Nn τ (xA σ 23 (nI x)) else 0
def wNn (σ τr : S5) (cf : Nat → Nat) (j : Nat) : Nat := 1 + wlN σ τr cf j
/-- so many parts, with those of the functions within, lie in a stretch of nodes -/
def Mb (σ τr τ : S5) (cf : Nat → Nat) (N : Nat) (s s' t e : Int32) : Prop := N + prI (wSs σ τ) s' + prI (wNn σ τr cf) t ≤ prI (wSs σ τ) s + prI (wNn σ τr cf) e
theorem Mb.tr {σ τr τ : S5} {cf : Nat → Nat} {N M : Nat} {s s1 s' t t1 e : Int32} (h : Mb σ τr τ cf N s s1 t t1) (h2 : Mb σ τr τ cf M s1 s' t1 e) : Mb σ τr τ cf (N + M) s s' t e := by
  unfold Mb at *
  omega
theorem Mb.n {σ τr τ : S5} {cf : Nat → Nat} (s : Int32) {c : Int32} (h0 : 0 ≤ c) (h1 : c < 7000) : Mb σ τr τ cf (1 + wlN σ τr cf c.toNatClampNeg) s s c (c + 1) := by
  unfold Mb
  rw [prI_s _ h0 h1]
  unfold wNn
  omega
theorem Mb.le {σ τr τ : S5} {cf : Nat → Nat} {N M : Nat} {s s' t e : Int32} (h : Mb σ τr τ cf N s s' t e) (hM : M ≤ N) : Mb σ τr τ cf M s s' t e := by
  unfold Mb at *
  omega
theorem Mb.s {σ τr τ : S5} {cf : Nat → Nat} {s : Int32} (t : Int32) (h0 : 0 ≤ s) (h1 : s < 7000) (hf : ¬ xA σ 22 s = s) : Mb σ τr τ cf 0 s (s + 1) t t := by
  unfold Mb
  rw [prI_s _ h0 h1]
  have : wSs σ τ s.toNatClampNeg = 0 := by unfold wSs; rw [xA_tn, ← nI_tn h0, if_neg hf]
  omega
theorem prM {w : Nat → Nat} {x y : Int32} (h : x ≤ y) : prI w x ≤ prI w y := by
  unfold prI
  have : x.toNatClampNeg ≤ y.toNatClampNeg := by
    have := Int32.le_iff_toInt_le.mp h
    unfold Int32.toNatClampNeg
    omega
  obtain ⟨d, hd⟩ : ∃ d, y.toNatClampNeg = x.toNatClampNeg + d := ⟨_, (Nat.add_sub_of_le this).symm⟩
  rw [hd]
  exact pre_mono d _
theorem pre_p1 (w : Nat → Nat) : ∀ n, pre (fun j => 1 + w j) n = n + pre w n
  | 0 => rfl
  | n + 1 => by
    show pre (fun j => 1 + w j) n + (1 + w n) = n + 1 + (pre w n + w n)
    rw [pre_p1 w n]
    omega
/-- what stands once all is planted -/
def PX (σ ν τr τv τu τp : S5) (k U F C : Nat) (S : Int32) (sc : Nat → Int32) (cf : Nat → Nat) : Prop := LXc σ ν τr τv k U F S sc cf ∧ PU σ τv k F sc cf U τu ∧ PNs σ τr τv τu S F sc cf C C τp ∧ gI σ 8 = nI C ∧ C ≤ 6200
theorem PX.le {σ ν τr τv τu τp : S5} {k U F C : Nat} {S : Int32} {sc : Nat → Int32} {cf : Nat → Nat} (h : PX σ ν τr τv τu τp k U F C S sc cf) {e : Int32} (he : e ≤ nI C) : prI (wNn σ τr cf) e ≤ 6100 := by
  obtain ⟨hL, -, -, h8, hC⟩ := h
  have h6 := hL.2.2.2.2.2.2.2.2.2.2.2
  rw [h8] at h6
  have h1 := prM (w := wNn σ τr cf) he
  have h2 : prI (wNn σ τr cf) (nI C) = C + prI (wlN σ τr cf) (nI C) := by
    unfold prI
    rw [nI_clamp (by omega)]
    exact pre_p1 (wlN σ τr cf) C
  rw [nI_clamp (by omega)] at h6
  omega
theorem PX.mb {σ ν τr τv τu τp : S5} {k U F C : Nat} {S : Int32} {sc : Nat → Int32} {cf : Nat → Nat} (h : PX σ ν τr τv τu τp k U F C S sc cf) {N : Nat} {s s' t e : Int32} (hs : s ≤ s') (he : e ≤ nI C) (hm : Mb σ τr τp cf N s s' t e) : N ≤ 6100 := by
  have h1 := h.le he
  have h2 := prM (w := wSs σ τp) hs
  unfold Mb at hm
  omega
def Ms (σ τr τ : S5) (cf : Nat → Nat) (s s' t c : Int32) : Prop := Hn τ c ∧ Nn τ c ≤ 6100 ∧ Mb σ τr τ cf (Nn τ c) s s' t (c + 1)
theorem mH_hn {τ : S5} {cc : Nat → Int32} : ∀ l, (∀ i, i < l → Hn τ (cc i)) → sP τ cc l ≤ 6200 → ∃ h : Nat, mH τ cc l = nI h ∧ h ≤ sP τ cc l
  | 0, _, _ => ⟨0, rfl, Nat.le_refl _⟩
  | l + 1, h, hs => by
    rw [sP_s] at hs
    obtain ⟨a, a1, a2⟩ := mH_hn l (fun i hi => h i (by omega)) (by omega)
    obtain ⟨b0, b, b1, b2⟩ := h l (by omega)
    unfold Nn at b2
    show ∃ h : Nat, (if mH τ cc l < xA τ 18 (cc l) then xA τ 18 (cc l) else mH τ cc l) = nI h ∧ h ≤ sP τ cc l + (xA τ 19 (cc l)).toNatClampNeg
    by_cases hlt : mH τ cc l < xA τ 18 (cc l)
    · rw [if_pos hlt]; exact ⟨b, b1, by omega⟩
    · rw [if_neg hlt]; exact ⟨a, a1, by omega⟩
/-- a node that counts, above its children -/
theorem Ms.node {σ ν τr τv τu τp : S5} {k U F C : Nat} {S : Int32} {sc : Nat → Int32} {cf : Nat → Nat} (hX : PX σ ν τr τv τu τp k U F C S sc cf) {s s' t c a2 : Int32} {l : Nat} {cc : Nat → Int32} (hs : s ≤ s') (hc0 : 0 ≤ c) (hc6 : c < 6200) (hcC : c < nI C) (hM : MEQ τp c a2 l cc) (hu : u1F (xA τp 13 c) = 1) (hk : ∀ i, i < l → Hn τp (cc i)) (hm : Mb σ τr τp cf (sP τp cc l) s s' t c) : Ms σ τr τp cf s s' t c ∧ Nn τp c = sP τp cc l + 1 := by
  have hsP := hX.mb hs (by grind) hm
  have e19 : xA τp 19 c = nI (sP τp cc l + 1) := by rw [hM.2.1, hu, mQ_sP l (fun i hi => (hk i hi).1), nI_add1]
  have eN : Nn τp c = sP τp cc l + 1 := by unfold Nn; rw [e19, nI_clamp (by omega)]
  obtain ⟨a, a1, a2⟩ := mH_hn l hk (by omega)
  have e18 : xA τp 18 c = nI (a + 1) := by rw [hM.1, hu, a1, nI_add1]
  have hm2 : Mb σ τr τp cf (Nn τp c) s s' t (c + 1) := (hm.tr (Mb.n s' hc0 (by grind))).le (by omega)
  have hle : c + 1 ≤ nI C := by grind
  exact ⟨⟨⟨by omega, a + 1, e18, by omega⟩, hX.mb hs hle hm2, hm2⟩, eN⟩
theorem MEQ.one {τ : S5} {c a2 c1 : Int32} {cc : Nat → Int32} (hM : MEQ τ c a2 1 cc) (hc : cc 0 = c1) (hu : u1F (xA τ 13 c) = 0) (h : Hn τ c1) (h6 : Nn τ c1 ≤ 6100) : xA τ 18 c = xA τ 18 c1 ∧ xA τ 19 c = xA τ 19 c1 := by
  obtain ⟨b0, b, b1, b2⟩ := h
  refine ⟨?_, ?_⟩
  · rw [hM.1, hu, Int32.add_zero]
    show (if (0 : Int32) < xA τ 18 (cc 0) then xA τ 18 (cc 0) else 0) = _
    rw [hc]
    by_cases hlt : (0 : Int32) < xA τ 18 c1
    · rw [if_pos hlt]
    · rw [if_neg hlt]
      rw [b1] at hlt ⊢
      have : ¬ 0 < b := fun w => hlt ((nI_lt31 (a := 0) (by omega) (by omega)).mpr w)
      have : b = 0 := by omega
      rw [this]
      rfl
  · rw [hM.2.1, hu, Int32.add_zero]
    show (0 : Int32) + xA τ 19 (cc 0) = _
    rw [hc, Int32.zero_add]
/-- a node that doesn't count, above its child -/
theorem Ms.one {σ ν τr τv τu τp : S5} {k U F C : Nat} {S : Int32} {sc : Nat → Int32} {cf : Nat → Nat} (hX : PX σ ν τr τv τu τp k U F C S sc cf) {s s' t c c1 a2 : Int32} {cc : Nat → Int32} (hs : s ≤ s') (hc : cc 0 = c1) (hc0 : 0 ≤ c) (hc6 : c < 6200) (e : c = c1 + 1) (hM : MEQ τp c a2 1 cc) (hu : u1F (xA τp 13 c) = 0) (h : Ms σ τr τp cf s s' t c1) : Ms σ τr τp cf s s' t c := by
  obtain ⟨h1, h2, h3⟩ := h
  obtain ⟨e18, e19⟩ := hM.one hc hu h1 h2
  have eN : Nn τp c = Nn τp c1 := by unfold Nn; rw [e19]
  refine ⟨⟨by rw [eN]; exact h1.1, ?_⟩, by rw [eN]; exact h2, ?_⟩
  · rw [e18, eN]; exact h1.2
  · rw [eN]
    rw [← e] at h3
    exact (h3.tr (Mb.n s' hc0 (by grind))).le (by omega)
/-- a leaf -/
theorem Ms.leaf {σ ν τr τv τu τp : S5} {k U F C : Nat} {S : Int32} {sc : Nat → Int32} {cf : Nat → Nat} (hX : PX σ ν τr τv τu τp k U F C S sc cf) {s c : Int32} (hc0 : 0 ≤ c) (hc6 : c < 6200) (h18 : xA τp 18 c = 1) (h19 : xA τp 19 c = 1) : Ms σ τr τp cf s s c c := by
  have eN : Nn τp c = 1 := by unfold Nn; rw [h19]; rfl
  exact ⟨⟨by omega, 1, h18, by omega⟩, by omega, (Mb.n s hc0 (by grind)).le (by omega)⟩
theorem sP_1 {τ : S5} {cc : Nat → Int32} : ∀ l, (∀ i, i < l → xA τ 19 (cc i) = 1) → sP τ cc l = l
  | 0, _ => rfl
  | l + 1, h => by
    rw [sP_s, sP_1 l (fun i hi => h i (by omega)), h l (by omega)]
    rfl
/-- a function within -/
theorem Ms.fn {σ ν τr τv τu τp : S5} {k U F C : Nat} {S : Int32} {sc : Nat → Int32} {cf : Nat → Nat} (hX : PX σ ν τr τv τu τp k U F C S sc cf) {s s' t c c2 : Int32} {f : Nat} (hf : f < F) (hsc : sc f = s) (hc0 : 0 ≤ c) (hc6 : c < 6200) (hcC : c < nI C) (h13 : xA σ 13 c = 14) (h14 : xA σ 14 c = s) (h22 : xA σ 22 s = s) (h23 : xA σ 23 s = c2) (hs0 : 0 ≤ s) (hs7 : s < 700) (hs' : s + 1 ≤ s') (e : c = c2 + 1) (hb : Ms σ τr τp cf (s + 1) s' t c2) : Ms σ τr τp cf s s' t c := by
  obtain ⟨hL, hPU, hPN, h8, hC⟩ := id hX
  obtain ⟨fr, fm⟩ := hPN.2.2.1 c hc0 hcC
  have h26 : xA τr 26 s = nI f := by have := ((hL.2.2.1 f hf).1).2.2.2; rw [hsc] at this; exact this
  have hF : F ≤ 630 := hL.1.2.2.2.1
  have hw : wlN σ τr cf c.toNatClampNeg = lwF cf f := by
    unfold wlN
    rw [xA_tn, if_pos h13, xA_tn, h14, h26, nI_clamp (by omega)]
  have hN : Hn τp c ∧ Nn τp c = 1 + lwF cf f := by
    have q := fr.2.2.2.2.2 h13 f hf (by rw [h14, hsc])
    unfold lwF
    by_cases hz : cf f = 0
    · obtain ⟨-, -, q3⟩ := q.1 hz
      obtain ⟨r1, r2, -⟩ := fm.1 q3
      have eN : Nn τp c = 1 := by unfold Nn; rw [r2]; rfl
      rw [if_pos hz]
      exact ⟨⟨by omega, 1, r1, by omega⟩, eN⟩
    · obtain ⟨n0, g, ⟨q1, q2⟩, q3, q4, q5, q6, q7, q8, q9⟩ := q.2 hz
      have hc8 : cf f ≤ 8 := (hL.2.2.1 f hf).2.2.2.2.1
      have hn0 : n0 ≤ 6200 := by
        have w1 := hL.2.2.2.2.2.2.2.2.2.2.2
        rw [h8, nI_clamp (by omega)] at w1
        have w2 : pre (wlN σ τr cf) (c.toNatClampNeg + 1) ≤ prI (wlN σ τr cf) (nI C) := by
          have := prM (w := wlN σ τr cf) (x := c + 1) (y := nI C) (by grind)
          unfold prI at this
          rw [tn_s hc0 (by grind)] at this
          exact this
        omega
      have hM := fm.2.2 h13 f hf (by rw [h14, hsc]) hz n0 q8 hn0
      have hlf : ∀ i, i < cf f + 1 → xA τp 18 (nI (n0 + i)) = 1 ∧ xA τp 19 (nI (n0 + i)) = 1 := fun i hi => ⟨(q9 i (by omega)).2.2.2.2.1, (q9 i (by omega)).2.2.2.2.2.1⟩
      have hk : ∀ i, i < cf f + 1 → Hn τp (nI (n0 + i)) := fun i hi => by
        have eN : Nn τp (nI (n0 + i)) = 1 := by unfold Nn; rw [(hlf i hi).2]; rfl
        exact ⟨by omega, 1, (hlf i hi).1, by omega⟩
      have hu : u1F (xA τp 13 c) = 1 := by rw [q5]; rfl
      have esP := sP_1 (τ := τp) (cc := fun p => nI (n0 + p)) (cf f + 1) (fun i hi => (hlf i hi).2)
      have e19 : xA τp 19 c = nI (cf f + 1 + 1) := by rw [hM.2.1, hu, mQ_sP (cf f + 1) (fun i hi => (hk i hi).1), esP, nI_add1]
      have eN : Nn τp c = cf f + 2 := by unfold Nn; rw [e19, nI_clamp (by omega)]
      obtain ⟨a, a1, a2⟩ := mH_hn (cf f + 1) hk (by omega)
      have e18 : xA τp 18 c = nI (a + 1) := by rw [hM.1, hu, a1, nI_add1]
      rw [if_neg hz]
      exact ⟨⟨by omega, a + 1, e18, by omega⟩, by omega⟩
  have hc8 : cf f ≤ 8 := (hL.2.2.1 f hf).2.2.2.2.1
  refine ⟨hN.1, by rw [hN.2]; unfold lwF; split <;> omega, ?_⟩
  have m1 := hb.2.2
  rw [← e] at m1
  have m2 := Mb.n (σ := σ) (τr := τr) (τ := τp) (cf := cf) s' hc0 (show c < 7000 by grind)
  have hS : wSs σ τp s.toNatClampNeg = Nn τp c2 := by unfold wSs; rw [xA_tn, ← nI_tn hs0, if_pos h22, h23]
  have m3 := prI_s (wSs σ τp) hs0 (show s < 7000 by grind)
  rw [hw] at m2
  rw [hN.2]
  unfold Mb at *
  omega
