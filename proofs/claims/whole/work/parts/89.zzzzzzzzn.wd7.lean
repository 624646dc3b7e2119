/-- the word of a case -/
theorem wd_case {τ : S5} {pa : Nat → Nat} {F d n k : Nat} {c : Int32} {Sc : Nat → Prop} {Sa : Nat → Nat → Prop} {lo hi : Nat} {aa : Nat → Int32} {jj ll : Nat → Nat} (h6 : xA τ 13 c = 6) (hk8 : k ≤ 8) (hk1 : 1 ≤ k) (h17 : xA τ 17 (xA τ 16 c) = aa 0) (hb : ∀ i, i < k → (0 ≤ aa i ∧ aa i < 6200) ∧ xA τ 17 (aa i) = if i + 1 < k then aa (i + 1) else -1) (hj : ∀ i, i < k → (xA τ 13 (aa i) = 11 ∧ xA τ 2 (xA τ 14 (aa i)) = nI (jj i) ∧ xA τ 15 (aa i) = nI (ll i) ∧ 0 ≤ xA τ 14 (aa i) ∧ xA τ 14 (aa i) < 30) ∨ (¬ xA τ 13 (aa i) = 11 ∧ jj i = 0)) (hlk : ll k = hi) (hh0 : hF τ (xA τ 16 c) < hF τ c) (hh : ∀ i, i < k → hF τ (xA τ 16 (aa i)) < hF τ c) (hnn : hF τ c < n + 1) (hv0 : VS τ (xA τ 16 c) Sc lo (ll 0)) (hW0 : WdA τ pa d n (xA τ 16 c) Sc lo (ll 0)) (hv : ∀ i, i < k → VS τ (xA τ 16 (aa i)) (Sa i) (ll i + jj i) (ll (i + 1))) (hSa : ∀ i, i < k → ∀ x, Sa i x → Sc x ∨ (ll i ≤ x ∧ x < ll i + jj i)) (hW : ∀ i, i < k → WdA τ pa d n (xA τ 16 (aa i)) (Sa i) (ll i + jj i) (ll (i + 1))) (hS : ∀ x, Sc x → x < lo) (h40 : hi ≤ 40) (hR : Rg τ F (n + 1) c) : WdA τ pa (d + 1) (n + 1) c Sc lo hi := by
  intro g L σ hE h22 h23 hL h24 hg
  obtain ⟨⟨c0, c6⟩, -, -, r6, -⟩ := hR
  obtain ⟨y0, y1⟩ := (r6 h6).1.c (by omega)
  have hmj : ∀ i, i < k → ll i + jj i ≤ ll (i + 1) := fun i hi => (hv i hi).le
  have hm := ll_mo (k := k) (ll := ll) (fun i hi => by have := hmj i hi; omega)
  have hmk := hm k 0 (by omega) (by omega)
  have hl0 := hv0.le
  have hZ : ∀ x, Zn Sc lo hi x → x < 40 := fun x w => by
    rcases w with w | w
    · have := hS x w; omega
    · omega
  obtain ⟨w0, σ1, a1, a2, a3, a4⟩ := hW0 g L σ hE h22 h23 hL h24 (by omega)
  have hE1 := hE.of a3.2.2.1
  obtain ⟨w1, σ2, b1, b2, b3, b4, b5⟩ := al_L8 h6 hk8 hk1 h17 hb hj hl0 hlk hh hnn hv hSa hW hS h40 hE1 (by rw [a3.1 23 (by decide) (by decide)]; exact h23) hL (a3.2.2.2.2.2.2.2.2.2.1 h24) hg k 0 FU 0 σ1 (by omega) (by show k < 1099511627776; omega) ⟨FrD.rf _ _ _ _, a2, fun l hl T' Y k1 k2 k3 => ⟨k3, fun w => by rw [lb_0] at w; exact absurd w (by decide)⟩, fun _ l hl => ⟨⟨fun w => by rw [lb_0] at w; exact absurd w (by decide), fun ⟨j, j1, _⟩ => absurd j1 (by omega)⟩, fun j j1 => absurd j1 (by omega)⟩⟩
  rw [a3.T pa] at b4 b5
  rw [if_pos (by omega)] at b1
  have e16 : xA σ 16 c = xA τ 16 c := (hE.1 c).2.2.1
  have e17 : xA σ1 17 (xA τ 16 c) = aa 0 := (hE1.1 _).2.2.2.1.trans h17
  have ew : f_wordE (d + 1) c σ = some (w0 &&& w1, σ2) := by
    rw [wordE_s]
    unfold f_X1_wordOf f_X1_wordOfAlternatives
    have b1' : f_X1_wordOfAlternatives_L8 (f_wordE d) FU 0 0 (aa 0) σ1 = some (w1, σ2) := b1
    rw [gd6200 c0 c6, gd6200 c0 c6, (hE.1 c).1, h6, if_neg (by decide), if_neg (by decide), if_neg (by decide), if_neg (by decide), if_pos rfl, e16, a1, bd_of, gd6200 y0 y1, e17, b1', bd_of]
  have hor : ∀ v, orA τ v 9 (aa 0) = true ↔ ∃ j, j < k ∧ v (xA τ 16 (aa j)) = true := fun v => by
    have := orA_iff (τ := τ) (v := v) (k := k) (aa := aa) (fun i hi => ⟨(hb i hi).1.1, (hb i hi).2⟩) 9 0 (by omega)
    rw [if_pos (by omega)] at this
    rw [this]
    exact ⟨fun ⟨j, _, a, b⟩ => ⟨j, a, b⟩, fun ⟨j, a, b⟩ => ⟨j, by omega, a, b⟩⟩
  have hd : ∀ T X, dv τ pa T X (n + 1) c = (dv τ pa T X n (xA τ 16 c) && orA τ (dv τ pa T X n) 9 (aa 0)) := fun T X => by
    show (if xA τ 13 c = 2 then _ else if xA τ 13 c = 3 then _ else if xA τ 13 c = 4 then _ else if xA τ 13 c = 5 then _ else if xA τ 13 c = 6 then _ else _) = _
    rw [h6, if_neg (by decide), if_neg (by decide), if_neg (by decide), if_neg (by decide), if_pos rfl, h17]
  refine ⟨_, σ2, ew, b3, (a3.wd (Nat.le_refl _) (by omega) (by omega)).tr (b2.wd (Nat.le_refl _) (by omega) (by omega)), fun l hl T' Y k1 k2 k3 => ?_, fun hz l hl => ?_⟩
  · have u := k2
    unfold Clo at u
    obtain ⟨z1, z2⟩ := a4.1 l hl T' Y k1 (u.2.1 h6).1 (fun x zx => k3 x (by rcases zx with w | w; exact Or.inl w; exact Or.inr (by omega)))
    have k4 := HY.kid hZ a3 k3 z1
    obtain ⟨y1, y2⟩ := b4 l hl T' Y k1 k2 k4
    refine ⟨y1, fun w => ?_⟩
    rw [lb_and, Bool.and_eq_true] at w
    rw [hd, Bool.and_eq_true]
    exact ⟨z2 w.1, (hor _).mpr (y2 w.2)⟩
  · obtain ⟨z1, z2⟩ := b5 hz l hl
    have t := kid_st hv0 (fun x w => by have := hS x w; omega) (by omega) (fun x zx => b2.xl (by
      rcases zx with w | w
      · have := hS x w; omega
      · omega) (by
      rcases zx with w | w
      · have := hS x w; omega
      · omega) l) (a4.2 (b2.2.2.2.2.2.2.2.2.1 hz) l hl)
    refine ⟨?_, ?_⟩
    · rw [lb_and, hd, t.1]
      congr 1
      exact Bool.eq_iff_iff.mpr (z1.trans (hor _).symm)
    · unfold ClV
      refine ⟨fun w => absurd (h6.symm.trans w) (by decide), fun _ => ⟨t.2, ?_⟩, fun w => absurd (h6.symm.trans w) (by decide), fun w => absurd (h6.symm.trans w) (by decide)⟩
      rw [h17]
      refine chA_mk0 hk1 (fun i hi => (hb i hi).2) (fun j hjk => ⟨(z2 j hjk).1, fun w11 q hq => ?_⟩) 9
      rcases hj j hjk with ⟨j1, j2, j3, j4⟩ | ⟨j1, j2⟩
      · have h2 := hmj j hjk
        have h3 := hm k (j + 1) (by omega) (by omega)
        rw [j2, nI_clamp (by omega)] at hq
        rw [j3, nI_clamp (by omega)]
        exact (z2 j hjk).2 q hq
      · exact absurd w11 j1
/-- THE WORD OF EVERY PART IS FOUND -/
theorem wd_go {τ : S5} {pa : Nat → Nat} {F : Nat} (hpa : ∀ g, g < F → xA τ 3 (nI g) = nI (pa g) ∧ pa g ≤ 8) (hF6 : F ≤ 630) {c : Int32} {Sc : Nat → Prop} {lo hi : Nat} (q : VS τ c Sc lo hi) : (∀ x, Sc x → x < lo) → hi ≤ 40 → ∀ n d, hF τ c < n → hF τ c < d → Rg τ F n c → WdA τ pa d n c Sc lo hi := by
  refine VS.ind (P := fun c Sc lo hi => (∀ x, Sc x → x < lo) → hi ≤ 40 → ∀ n d, hF τ c < n → hF τ c < d → Rg τ F n c → WdA τ pa d n c Sc lo hi) ?_ q
  clear q
  intro c Sc lo hi q hS h40 n d hn hd hR
  obtain ⟨n, rfl⟩ : ∃ m, n = m + 1 := ⟨n - 1, by omega⟩
  obtain ⟨d, rfl⟩ : ∃ m, d = m + 1 := ⟨d - 1, by omega⟩
  have hR' := hR
  obtain ⟨r1, r2, r3, r6, r7⟩ := hR'
  rcases q with ⟨⟨q0, q1⟩, -, q2⟩ | ⟨q1, k, cc, ll, q2, q3, q4, q5, ⟨q6, q7, q8, q8'⟩, q9⟩ | ⟨q1, l, bb, ll, q2, q3, q4, q5, q6, ⟨q7, q8, q9⟩, q10, q11⟩ | ⟨q1, l, aa, ll, q2, q3, q4, q5, ⟨q6, q7, q8⟩, q9⟩
  · exact wd_leaf hpa hF6 (Nat.le_of_eq q0) q1 q2 hS h40 hR
  · have hm := ll_mo (fun i hi => (q9 i hi).1.le)
    have u := r3 q1
    rw [q4.1] at u
    have hW : ∀ i, i < k → WdA τ pa d n (cc i) Sc (ll i) (ll (i + 1)) := fun i hi => by
      have h1 := hm i 0 (by omega) (by omega)
      have h2 := hm k (i + 1) (by omega) (by omega)
      have h3 := q7 i hi
      exact (q9 i hi).2 (fun x w => by have := hS x w; omega) (by omega) n d (by omega) (by omega) (chA_at (P := fun a => Rg τ F n a) q4.2 9 0 i (by omega) hi (by omega) u)
    rcases q1 with w | w | w
    · have hk := q8' w
      subst hk
      exact wd_sign w q4 q5 q6 q7 hn (fun i hi => (q9 i hi).1) hW hS h40 hR
    · exact wd_app hpa hF6 w (q8 w) q4 q2 q3 q5 q6 q7 hn (fun i hi => (q9 i hi).1) hW hS h40 hR
    · exact wd_cons w hR
  · have hm := ll_mo (fun i hi => (q11 i hi).1.le)
    have hmk := hm l 0 (by omega) (by omega)
    have hhi := q10.1.le
    obtain ⟨u0, u1⟩ := r7 q1
    rw [q5] at u1
    have hSx : ∀ x, Sx Sc lo l x → x < lo + l := fun x w => by
      rcases w with w | w
      · have := hS x w; omega
      · omega
    have uu := fun i (hi : i < l) => chA_at (P := fun b => Rg τ F n (xA τ 16 b) ∧ ¬ xA τ 13 b = 7) (fun i hi => ⟨(q6 i hi).1.1, (q6 i hi).2.2⟩) 9 0 i (by omega) hi (by omega) u1
    exact wd_let q1 q3 q5 q2 q6 (fun i hi => (uu i hi).2) q7 q8 q9 hn q10.1 (q10.2 (fun x w => by have := hSx x w; omega) h40 n d (by omega) (by omega) u0) (fun i hi => (q11 i hi).1) (fun i hi => by
      have h1 := hm i 0 (by omega) (by omega)
      have h2 := hm l (i + 1) (by omega) (by omega)
      have h3 := q9 i hi
      exact (q11 i hi).2 (fun x w => by have := hSx x w; omega) (by omega) n d (by omega) (by omega) (uu i hi).1) hS h40 hR
  · obtain ⟨u0, u1⟩ := r6 q1
    rw [q4] at u1
    have uu := fun i (hi : i < l) => chA_at (P := fun a => Rg τ F n (xA τ 16 a) ∧ (xA τ 13 a = 11 → 0 ≤ xA τ 14 a ∧ xA τ 14 a < 30)) (fun j hj => ⟨(q9 j hj).1.1.1, (q9 j hj).1.2⟩) 9 0 i (by omega) hi (by omega) u1
    obtain ⟨jj, hjj⟩ : ∃ jj : Nat → Nat, jj = fun i => if xA τ 13 (aa i) = 11 then (xA τ 2 (xA τ 14 (aa i))).toNatClampNeg else 0 := ⟨_, rfl⟩
    have hj11 : ∀ i, xA τ 13 (aa i) = 11 → jj i = (xA τ 2 (xA τ 14 (aa i))).toNatClampNeg := fun i w => by rw [hjj]; exact if_pos w
    have hjn : ∀ i, ¬ xA τ 13 (aa i) = 11 → jj i = 0 := fun i w => by rw [hjj]; exact if_neg w
    have hal : ∀ i, i < l → ∃ Sci : Nat → Prop, (VS τ (xA τ 16 (aa i)) Sci (ll i + jj i) (ll (i + 1)) ∧ ((∀ x, Sci x → x < ll i + jj i) → ll (i + 1) ≤ 40 → ∀ n d, hF τ (xA τ 16 (aa i)) < n → hF τ (xA τ 16 (aa i)) < d → Rg τ F n (xA τ 16 (aa i)) → WdA τ pa d n (xA τ 16 (aa i)) Sci (ll i + jj i) (ll (i + 1)))) ∧ (∀ x, Sci x → Sc x ∨ (ll i ≤ x ∧ x < ll i + jj i)) ∧ ((xA τ 13 (aa i) = 11 ∧ xA τ 2 (xA τ 14 (aa i)) = nI (jj i) ∧ xA τ 15 (aa i) = nI (ll i) ∧ 0 ≤ xA τ 14 (aa i) ∧ xA τ 14 (aa i) < 30) ∨ (¬ xA τ 13 (aa i) = 11 ∧ jj i = 0)) := fun i hi => by
      rcases (q9 i hi).2 with ⟨r5, j, r6, r7, r8, r9, r4⟩ | ⟨r5, r4⟩
      · have e : jj i = j := by rw [hj11 i r5, r8, nI_clamp (by omega)]
        rw [e]
        exact ⟨_, r4, fun x w => w, Or.inl ⟨r5, r8, r9, (uu i hi).2 r5⟩⟩
      · rw [hjn i r5]
        exact ⟨_, r4, fun x w => Or.inl w, Or.inr ⟨r5, rfl⟩⟩
    obtain ⟨Sa, hSa⟩ := ch_fin (fun _ => True) (P := fun i (Sci : Nat → Prop) => (VS τ (xA τ 16 (aa i)) Sci (ll i + jj i) (ll (i + 1)) ∧ ((∀ x, Sci x → x < ll i + jj i) → ll (i + 1) ≤ 40 → ∀ n d, hF τ (xA τ 16 (aa i)) < n → hF τ (xA τ 16 (aa i)) < d → Rg τ F n (xA τ 16 (aa i)) → WdA τ pa d n (xA τ 16 (aa i)) Sci (ll i + jj i) (ll (i + 1)))) ∧ (∀ x, Sci x → Sc x ∨ (ll i ≤ x ∧ x < ll i + jj i)) ∧ ((xA τ 13 (aa i) = 11 ∧ xA τ 2 (xA τ 14 (aa i)) = nI (jj i) ∧ xA τ 15 (aa i) = nI (ll i) ∧ 0 ≤ xA τ 14 (aa i) ∧ xA τ 14 (aa i) < 30) ∨ (¬ xA τ 13 (aa i) = 11 ∧ jj i = 0))) l hal
    have hmj : ∀ i, i < l → ll i + jj i ≤ ll (i + 1) := fun i hi => (hSa i hi).1.1.le
    have hm := ll_mo (k := l) (ll := ll) (fun i hi => by have := hmj i hi; omega)
    have hmk := hm l 0 (by omega) (by omega)
    have hl0 := q5.1.le
    refine wd_case q1 q3 q2 q4 (fun i hi => (q9 i hi).1) (fun i hi => (hSa i hi).2.2) q6 q7 q8 hn q5.1 (q5.2 hS (by omega) n d (by omega) (by omega) u0) (fun i hi => (hSa i hi).1.1) (fun i hi => (hSa i hi).2.1) (fun i hi => ?_) hS h40 hR
    have h1 := hm i 0 (by omega) (by omega)
    have h2 := hm l (i + 1) (by omega) (by omega)
    have h3 := q8 i hi
    exact (hSa i hi).1.2 (fun x w => by
      rcases (hSa i hi).2.1 x w with w | w
      · have := hS x w; omega
      · omega) (by omega) n d (by omega) (by omega) (uu i hi).1
