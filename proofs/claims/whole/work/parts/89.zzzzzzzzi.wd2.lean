/-- what was found of a part stays, where its variables stay -/
theorem kid_st {τ : S5} {pa : Nat → Nat} {T : Nat → (Nat → Bool) → Bool} {n l : Nat} {c : Int32} {Sc : Nat → Prop} {lo hi : Nat} {σ1 σ2 : S5} {b : Bool} (q : VS τ c Sc lo hi) (hS : ∀ x, Sc x → x < 40) (hn : hF τ c < n) (he : ∀ x, Zn Sc lo hi x → XL σ2 l x = XL σ1 l x) (h : b = dv τ pa T (XL σ1 l) n c ∧ ClV τ pa T (XL σ1 l) n c) : b = dv τ pa T (XL σ2 l) n c ∧ ClV τ pa T (XL σ2 l) n c := by
  have hS' : ∀ x, Sc x → x < 5000 := fun x w => by have := hS x w; omega
  refine ⟨h.1.trans ?_, ?_⟩
  · exact dv_cg hS' q hn (fun x w => (he x (Or.inl w)).symm) (fun x a b => (he x (Or.inr ⟨a, b⟩)).symm)
  · exact ClV_cg q hS' n hn (fun x w => (he x (Or.inl w)).symm) (fun x a b => (he x (Or.inr ⟨a, b⟩)).symm) h.2
/-- the word of a sign -/
theorem wd_sign {τ : S5} {pa : Nat → Nat} {F d n : Nat} {c : Int32} {Sc : Nat → Prop} {lo hi : Nat} {cc : Nat → Int32} {ll : Nat → Nat} (h5 : xA τ 13 c = 5) (hch : Chn τ c 2 cc) (hl0 : ll 0 = lo) (hl2 : ll 2 = hi) (hh : ∀ i, i < 2 → hF τ (cc i) < hF τ c) (hnn : hF τ c < n + 1) (hv : ∀ i, i < 2 → VS τ (cc i) Sc (ll i) (ll (i + 1))) (hW : ∀ i, i < 2 → WdA τ pa d n (cc i) Sc (ll i) (ll (i + 1))) (hS : ∀ x, Sc x → x < lo) (h40 : hi ≤ 40) (hR : Rg τ F (n + 1) c) : WdA τ pa (d + 1) (n + 1) c Sc lo hi := by
  intro g L σ hE h22 h23 hL h24 hg
  obtain ⟨⟨c0, c6⟩, -, r3, -⟩ := hR
  have u := r3 (Or.inl h5)
  obtain ⟨q4, q4'⟩ := hch
  rw [q4] at u
  have hh0 := hh 0 (by omega)
  have hh1 := hh 1 (by omega)
  have k0 := (chA_at (P := fun a => Rg τ F n a) q4' 9 0 0 (by omega) (by omega) (by omega) u).c (by omega)
  have e01 : ll (0 + 1) = ll 1 := rfl
  have e12 : ll (1 + 1) = ll 2 := rfl
  have hlo := (hv 0 (by omega)).le
  have hlo1 : ll 1 ≤ ll 2 := (hv 1 (by omega)).le
  have hZ : ∀ x, Zn Sc lo hi x → x < 40 := fun x w => by
    rcases w with w | w
    · have := hS x w; omega
    · omega
  obtain ⟨w0, σ1, a1, a2, a3, a4⟩ := hW 0 (by omega) g L σ hE h22 h23 hL h24 (by omega)
  obtain ⟨w1, σ2, b1, b2, b3, b4⟩ := hW 1 (by omega) g L σ1 (hE.of a3.2.2.1) a2 (by rw [a3.1 23 (by decide) (by decide)]; exact h23) hL (a3.2.2.2.2.2.2.2.2.2.1 h24) (by omega)
  rw [a3.T pa] at b4
  have e16 := (hE.1 c).2.2.1
  have e17 : xA σ1 17 (cc 0) = cc 1 := by
    rw [((hE.of a3.2.2.1).1 (cc 0)).2.2.2.1, (q4' 0 (by omega)).2]
    rfl
  have ew : f_wordE (d + 1) c σ = some (w0 &&& w1, σ2) := by
    rw [wordE_s]
    unfold f_X1_wordOf
    rw [gd6200 c0 c6, gd6200 c0 c6, (hE.1 c).1, h5, if_neg (by decide), if_neg (by decide), if_neg (by decide), if_pos rfl, e16, q4, a1, bd_of, gd6200 k0.1 k0.2, e17, b1, bd_of]
  have hd : ∀ T X, dv τ pa T X (n + 1) c = (dv τ pa T X n (cc 0) && dv τ pa T X n (cc 1)) := fun T X => by
    have e1 : xA τ 17 (xA τ 16 c) = cc 1 := by rw [q4]; exact (q4' 0 (by omega)).2
    show (if xA τ 13 c = 2 then _ else if xA τ 13 c = 3 then _ else if xA τ 13 c = 4 then _ else if xA τ 13 c = 5 then _ else _) = _
    rw [h5, if_neg (by decide), if_neg (by decide), if_neg (by decide), if_pos rfl, e1, q4]
  have hcl : ∀ T X, ClV τ pa T X n (cc 0) → ClV τ pa T X n (cc 1) → ClV τ pa T X (n + 1) c := fun T X z0 z1 => by
    have e1 : xA τ 17 (xA τ 16 c) = cc 1 := by rw [q4]; exact (q4' 0 (by omega)).2
    unfold ClV
    refine ⟨fun _ => ?_, fun w => absurd (h5.symm.trans w) (by decide), fun w => absurd (h5.symm.trans w) (by decide), fun w => absurd (h5.symm.trans w) (by decide)⟩
    rw [e1, q4]
    exact ⟨z0, z1⟩
  refine ⟨_, σ2, ew, b2, (a3.wd (Nat.le_refl _) (by omega) (by omega)).tr (b3.wd (Nat.le_refl _) (by omega) (by omega)), fun l hl T' Y k1 k2 k3 => ?_, fun hz l hl => ?_⟩
  · unfold Clo at k2
    have u := k2.1 (Or.inl h5)
    rw [q4] at u
    obtain ⟨z1, z2⟩ := a4.1 l hl T' Y k1 (chA_at (P := fun a => Clo τ pa T' Y n a) q4' 9 0 0 (by omega) (by omega) (by omega) u) (fun x zx => k3 x (by rcases zx with w | w; exact Or.inl w; exact Or.inr (by omega)))
    have k4 : HY (Zn Sc lo hi) σ1 l Y := HY.kid hZ a3 k3 z1
    obtain ⟨y1, y2⟩ := b4.1 l hl T' Y k1 (chA_at (P := fun a => Clo τ pa T' Y n a) q4' 9 0 1 (by omega) (by omega) (by omega) u) (fun x zx => k4 x (by rcases zx with w | w; exact Or.inl w; exact Or.inr (by omega)))
    refine ⟨HY.kid hZ b3 k4 y1, fun w => ?_⟩
    rw [lb_and, Bool.and_eq_true] at w
    rw [hd, z2 w.1, y2 w.2]
    rfl
  · have hb := b4.2 hz l hl
    have ha := kid_st (hv 0 (by omega)) (fun x w => by have := hS x w; omega) (by omega) (fun x zx => b3.xl (hZ x (by rcases zx with w | w; exact Or.inl w; exact Or.inr (by omega))) (by
      have e : ll (0 + 1) = ll 1 := rfl
      rcases zx with w | w
      · have := hS x w; omega
      · omega) l) (a4.2 (b3.2.2.2.2.2.2.2.2.1 hz) l hl)
    exact ⟨by rw [lb_and, ha.1, hb.1, hd], hcl _ _ ha.2 hb.2⟩
/-- the word of a constructor's value -/
theorem wd_cons {τ : S5} {pa : Nat → Nat} {F d n : Nat} {c : Int32} {Sc : Nat → Prop} {lo hi : Nat} (h9 : xA τ 13 c = 9) (hR : Rg τ F (n + 1) c) : WdA τ pa (d + 1) (n + 1) c Sc lo hi := by
  intro g L σ hE h22 h23 hL h24 hg
  obtain ⟨⟨c0, c6⟩, -⟩ := hR
  have ew : f_wordE (d + 1) c σ = some (-1, σ) := by
    rw [wordE_s]
    unfold f_X1_wordOf
    rw [gd6200 c0 c6, gd6200 c0 c6, (hE.1 c).1, h9, if_neg (by decide), if_neg (by decide), if_neg (by decide), if_neg (by decide), if_neg (by decide), if_neg (by decide), if_neg (by decide)]
  have hd : ∀ T X, dv τ pa T X (n + 1) c = true := fun T X => by
    show (if xA τ 13 c = 2 then _ else if xA τ 13 c = 3 then _ else if xA τ 13 c = 4 then _ else if xA τ 13 c = 5 then _ else if xA τ 13 c = 6 then _ else if xA τ 13 c = 7 then _ else if xA τ 13 c = 8 then _ else _) = _
    rw [h9, if_neg (by decide), if_neg (by decide), if_neg (by decide), if_neg (by decide), if_neg (by decide), if_neg (by decide), if_neg (by decide)]
  refine ⟨_, σ, ew, h22, FrD.rf _ _ _ _, fun l hl T' Y k1 k2 k3 => ⟨k3, fun _ => hd _ _⟩, fun hz l hl => ⟨by rw [hd, lb_m1 (by omega)], ?_⟩⟩
  unfold ClV
  exact ⟨fun w => absurd (h9.symm.trans w) (by decide), fun w => absurd (h9.symm.trans w) (by decide), fun w => absurd (h9.symm.trans w) (by decide), fun w => absurd (h9.symm.trans w) (by decide)⟩
