/-- closing a let or a case writes a little more -/
def CLs (μa μ5 : S5) (m ct : Nat) : Prop := (FrWL μa μ5 ∧ gI μ5 26 = gI μa 26 ∧ gI μ5 27 = gI μa 27 ∧ gI μ5 28 = gI μa 28) ∧ (∀ x, x < m → Lw8 μa μ5 (nI x)) ∧ (∀ y, y < ct → Ls5 μa μ5 (nI y)) ∧ (∀ g y, g = 28 ∨ g = 29 ∨ g = 30 ∨ g = 39 ∨ g = 48 → xA μ5 g y = xA μa g y) ∧ (xA μ5 31 (nI m) = xA μa 31 (nI m) ∧ xA μ5 32 (nI m) = xA μa 32 (nI m) ∧ xA μ5 33 (nI m) = xA μa 33 (nI m) ∧ xA μ5 34 (nI m) = xA μa 34 (nI m) ∧ xA μ5 37 (nI m) = xA μa 37 (nI m))
/-- the children of a closed node -/
theorem kids_of {τp μ4 μa μ5 : S5} {F V m ct hd l : Nat} {kind value : Int32} {cc : Nat → Int32} (hLI : LIf μ4 μa kind value l (m + sP τp cc l) (ct + sP τp cc l - l) hd) (hC : CLs μa μ5 (m + sP τp cc l) (ct + sP τp cc l - l)) (h1 : ∀ i, i < l → 1 ≤ (xA τp 19 (cc i)).toNatClampNeg) (hk : ∀ k, k < l → xA μ4 48 (nI (hd + k)) = nI (m + sP τp cc (k + 1) - 1) ∧ LT τp μ4 F V (ct + sP τp cc l - l) (cc k) (m + sP τp cc k) (m + sP τp cc (k + 1) - 1)) (hct : ct + sP τp cc l ≤ 14000) : LKids μ5 (LT τp μ5 F V (ct + sP τp cc l)) l cc (ct + sP τp cc l) m (m + sP τp cc l) := by
  obtain ⟨c1, ⟨c2, c3, c4⟩, c5, c6, c7, c8, ⟨c9, c10, c11, c12, c13⟩, c14, c15, c16⟩ := hLI
  obtain ⟨d1, d2, d3, d4, ⟨d5, d6, d7, d8, d9⟩⟩ := hC
  have hge := sP_ge h1 l (Nat.le_refl _)
  refine ⟨fun k => m + sP τp cc k, fun k => m + sP τp cc (k + 1) - 1, ct + sP τp cc l - l, d7.trans c11, by omega, d8.trans c12, by show m + 0 = m; omega, rfl, fun i hi => ?_⟩
  have y1 := sP_s τp cc i
  have y2 := h1 i hi
  have y3 := sP_mono (τp := τp) (cc := cc) (i := i + 1) (l := l) (by omega)
  refine ⟨?_, by show m + sP τp cc i ≤ m + sP τp cc (i + 1) - 1; omega, by show m + sP τp cc (i + 1) - 1 < m + sP τp cc l; omega, by show m + sP τp cc (i + 1) = m + sP τp cc (i + 1) - 1 + 1; omega, ?_⟩
  · refine (hk i hi).2.st (by omega) hct (fun y hy => ?_) (fun x x1 x2 => (c5 x (by omega)).tr (d2 x (by omega)))
    have : Ls5 μ4 μa (nI y) := ⟨c6 y hy, c1.x 40 _ (by omega), c1.x 41 _ (by omega), c1.x 42 _ (by omega), c1.x 43 _ (by omega)⟩
    exact this.tr (d3 y hy)
  · rw [d4 39 _ (by omega), c14 i hi, (hk i hi).1]
/-- a node whose children come as the walk says, closed with a little more -/
theorem gc_gen {τp μm : S5} {F V f : Nat} {n c r0 : Int32} {kind value : Int32} {l S0 : Nat} {g cc st rr : Nat → Int32} {sz : Nat → Nat} (hn0 : 0 ≤ n) (hn1 : n < 3200) (h19 : xA μm 19 n = -1) (hl : l ≤ 9) (hit : ∀ i, i < l → GoC τp μm F V f (g i) (cc i) (sz i)) (hsz : pre sz l + 1 ≤ S0) (hb : ∀ (μ : S5) (v : Nat), v < 3200 → FrWL μm μ → f_X12_beginAt (nI v) n μ = some ((), mBa μ v n r0)) (hst0 : st 0 = 0) (hrr0 : rr 0 = r0) (hN : ∀ (v : Nat) (μ : S5) (i : Nat), v < 3200 → i < l → FrWL μm μ → At μ v n (st i) (rr i) → ∃ μ1, f_X12_nextChild (nI v) μ = some (g i, μ1) ∧ At μ1 v n (st (i + 1)) (rr (i + 1)) ∧ W29 v μ μ1) (hE : ∀ (v : Nat) (μ : S5), v < 3200 → FrWL μm μ → At μ v n (st l) (rr l) → ∃ x μ1, x < 0 ∧ f_X12_nextChild (nI v) μ = some (x, μ1) ∧ W29 v μ μ1) (hcl : ∀ (m ct hd : Nat) (μ : S5), WLs μm (m + sP τp cc l) (ct + sP τp cc l - l) (hd + l) μ → m + sP τp cc l < 7000 → ct + sP τp cc l ≤ 14000 → hd + l ≤ 7000 → hd < 7000 → (∀ k, k < l → xA μ 48 (nI (hd + k)) = nI (m + sP τp cc (k + 1) - 1) ∧ LT τp μ F V (ct + sP τp cc l - l) (cc k) (m + sP τp cc k) (m + sP τp cc (k + 1) - 1)) → ∃ μa μ5, f_X12_closePart (nI f) n μ = some ((), μ5) ∧ LIf μ μa kind value l (m + sP τp cc l) (ct + sP τp cc l - l) hd ∧ CLs μa μ5 (m + sP τp cc l) (ct + sP τp cc l - l) ∧ (LKids μ5 (LT τp μ5 F V (ct + sP τp cc l)) l cc (ct + sP τp cc l) m (m + sP τp cc l) → LT τp μ5 F V (ct + sP τp cc l) c m (m + sP τp cc l))) (hPc : (xA τp 19 c).toNatClampNeg = sP τp cc l + 1) : GoC τp μm F V f n c S0 := by
  have h1 : ∀ i, i < l → 1 ≤ (xA τp 19 (cc i)).toNatClampNeg := fun i hi => (hit i hi).1
  refine ⟨by omega, ?_⟩
  rw [hPc]
  intro v m ct hd μ μ1 q hnx hq hv hm hct hhd
  obtain ⟨q1, q2⟩ := hq
  have w2 := mBa_wl (v := v + 1) (n := n) (r := r0) q1
  have hat := mBa_at μ1 (v + 1) n r0
  rw [← hst0, ← hrr0] at hat
  have hge := sP_ge h1 l (Nat.le_refl _)
  have hszi : ∀ i, i < l → sz i ≤ pre sz l := fun i hi => pre_at l i hi
  obtain ⟨j1, μ3, a1, a2, a3, a4, a5, a6, a7⟩ := gl_row (v := v + 1) (by omega) hl hit (fun μ i hi hf ha => hN (v + 1) μ i (by omega) hi hf ha) (fun i hi => by have := hszi i hi; omega) m ct hd (by omega) (by omega) (by omega) l 0 (mBa μ1 (v + 1) n r0) (by omega) w2 (by rw [hrr0] at hat ⊢; exact hat) (fun k hk => absurd hk (by omega))
  obtain ⟨x, μ4, x0, x1, x2⟩ := hE (v + 1) μ3 (by omega) a3.1 a6
  have w4 := x2.wl a3
  have hp28 : xA μ4 28 (nI (v + 1)) = n := by
    rcases x2 with ⟨a, rfl⟩ | ⟨a, b, rfl⟩
    · rw [xA_pA, if_neg (fun w => absurd w.1 (by decide))]; exact a6.1
    · rw [xA_pA, if_neg (fun w => absurd w.1 (by decide)), xA_pA, if_neg (fun w => absurd w.1 (by decide))]; exact a6.1
  have lb34 : LBf μ3 μ4 (m + sP τp cc l) (ct + sP τp cc l - l) (hd + l) := x2.lb
  have hk4 : ∀ k, k < l → xA μ4 48 (nI (hd + k)) = nI (m + sP τp cc (k + 1) - 1) ∧ LT τp μ4 F V (ct + sP τp cc l - l) (cc k) (m + sP τp cc k) (m + sP τp cc (k + 1) - 1) := by
    intro k hk
    obtain ⟨z1, z2⟩ := a5 k hk
    have y1 := sP_mono (τp := τp) (cc := cc) (i := k + 1) (l := l) (by omega)
    have y2 := h1 k hk
    have y3 := sP_s τp cc k
    exact ⟨(lb34.2.2 (hd + k) (by omega)).trans z1, z2.st (Nat.le_refl _) (by omega) lb34.2.1 (fun x x1 x2 => lb34.1 x (by omega))⟩
  obtain ⟨μa, μ5, d1, d2, d3, d4⟩ := hcl m ct hd μ4 w4 (by omega) (by omega) (by omega) (by omega) hk4
  have e4 := d4 (kids_of d2 d3 h1 hk4 (by omega))
  have hgo := gl_node (f := f) (ji := j1) (by omega) hn0 hn1 hnx (by rw [q1.1.x 19 _ (by omega)]; exact h19) (hb μ1 (v + 1) (by omega) q1.1) a2 x1 x0 hp28 d1
  have wl := d2.wl w4.1
  obtain ⟨k1, k2, k3, k4, k5⟩ := d3
  have hpre0 : pre sz 0 = 0 := rfl
  have lba5 : LBf μa μ5 (m + sP τp cc l) (ct + sP τp cc l - l) hd := ⟨k2, k3, fun x _ => k4 48 _ (by omega)⟩
  refine ⟨j1 + 2, μ5, by omega, hgo, ?_, ?_, ?_, ?_, ?_⟩
  · rw [show m + (sP τp cc l + 1) = m + sP τp cc l + 1 by omega, show ct + (sP τp cc l + 1) - 1 = ct + sP τp cc l - l + l by omega]
    exact ⟨wl.1.tr k1.1, k1.2.1.trans wl.2.1, k1.2.2.1.trans wl.2.2.1, k1.2.2.2.trans wl.2.2.2⟩
  · have z1 : LBf μ μ3 m ct hd := (q2.tr mBa_lb (Nat.le_refl _) (Nat.le_refl _) (Nat.le_refl _)).tr a4 (Nat.le_refl _) (Nat.le_refl _) (Nat.le_refl _)
    have z2 := z1.tr lb34 (by omega) (by omega) (by omega)
    exact (z2.tr d2.lb (by omega) (by omega) (by omega)).tr lba5 (by omega) (by omega) (by omega)
  · rw [k4 48 _ (by omega), d2.2.2.2.2.2.1]
    congr 1
  · rw [show ct + (sP τp cc l + 1) - 1 = ct + sP τp cc l by omega, show m + (sP τp cc l + 1) - 1 = m + sP τp cc l by omega]
    exact e4
  · have k5' : KW (v + 1) μa μ5 := fun p _ => ⟨k4 28 _ (by omega), k4 29 _ (by omega), k4 30 _ (by omega)⟩
    exact ((((mBa_kw μ1 (v + 1) n r0 (by omega)).tr a7).tr (x2.kw (by omega))).tr (d2.kw (v + 1))).tr k5'
/-- measures, when the first child comes last -/
theorem mH_sh {τp : S5} {c0 : Int32} {bb : Nat → Int32} : ∀ l, mH τp (fun p => if p = 0 then c0 else bb (p - 1)) (l + 1) = (if mH τp bb l < xA τp 18 c0 then xA τp 18 c0 else mH τp bb l)
  | 0 => rfl
  | l + 1 => by
    show (if mH τp (fun p => if p = 0 then c0 else bb (p - 1)) (l + 1) < xA τp 18 (bb l) then xA τp 18 (bb l) else mH τp (fun p => if p = 0 then c0 else bb (p - 1)) (l + 1)) = (if (if mH τp bb l < xA τp 18 (bb l) then xA τp 18 (bb l) else mH τp bb l) < xA τp 18 c0 then xA τp 18 c0 else (if mH τp bb l < xA τp 18 (bb l) then xA τp 18 (bb l) else mH τp bb l))
    rw [mH_sh l]
    generalize mH τp bb l = a
    generalize xA τp 18 c0 = b
    generalize xA τp 18 (bb l) = d
    grind
theorem mQ_sh {τp : S5} {c0 : Int32} {bb : Nat → Int32} : ∀ l, mQ τp (fun p => if p = 0 then c0 else bb (p - 1)) (l + 1) = mQ τp bb l + xA τp 19 c0
  | 0 => rfl
  | l + 1 => by
    show mQ τp (fun p => if p = 0 then c0 else bb (p - 1)) (l + 1) + xA τp 19 (bb l) = mQ τp bb l + xA τp 19 (bb l) + xA τp 19 c0
    rw [mQ_sh l]
    grind
theorem mU_sh {τp : S5} {c0 : Int32} {bb : Nat → Int32} : ∀ l, mU τp (fun p => if p = 0 then c0 else bb (p - 1)) (l + 1) = mU τp bb l ||| xB τp 2 c0
  | 0 => rfl
  | l + 1 => by
    show mU τp (fun p => if p = 0 then c0 else bb (p - 1)) (l + 1) ||| xB τp 2 (bb l) = (mU τp bb l ||| xB τp 2 (bb l)) ||| xB τp 2 c0
    rw [mU_sh l, Int64.or_assoc, Int64.or_assoc, Int64.or_comm (xB τp 2 c0)]
theorem mS_sh {τp : S5} {c0 : Int32} {bb : Nat → Int32} (h : ¬ xA τp 13 c0 = 10) : ∀ l, mS τp (fun p => if p = 0 then c0 else bb (p - 1)) (l + 1) = mS τp bb l
  | 0 => by
    show (0 : Int64) ||| (if xA τp 13 c0 = 10 then spn (xA τp 14 c0) 1 else 0) = 0
    rw [if_neg h]
    rfl
  | l + 1 => by
    show mS τp (fun p => if p = 0 then c0 else bb (p - 1)) (l + 1) ||| (if xA τp 13 (bb l) = 10 then spn (xA τp 14 (bb l)) 1 else 0) = mS τp bb l ||| _
    rw [mS_sh h l]
/-- single bits, one behind the other -/
def orS (x0 : Nat) : Nat → Int64
  | 0 => 0
  | p + 1 => orS x0 p ||| spn (nI (x0 + p)) 1
theorem orS_eq : ∀ l : Fin 6, ∀ x0 : Fin 41, x0.val + l.val ≤ 40 → orS x0.val l.val = j_lshl (j_lshl 1 (nI l.val) - 1) (nI x0.val) := by
  decide +kernel
