theorem jn_hd {sp sp' L : Nat → List Int32} {en P : List Int32} {m : Nat} (h0 : sp 0 = P ++ sp' 0) (h1 : ∀ x, 1 ≤ x → x ≤ m → sp x = sp' x) : jn sp L en (m + 1) 0 = P ++ (jn sp' L [] (m + 1) 0 ++ en) := by
  have e := jn_cg (L := L) (L' := L) (en := en) m 1 (fun x a b => ⟨h1 x a (by omega), rfl⟩)
  show sp 0 ++ (L 0 ++ jn sp L en m (0 + 1)) = P ++ ((sp' 0 ++ (L 0 ++ jn sp' L [] m (0 + 1))) ++ en)
  rw [h0, Nat.zero_add, e, jn_ap m 1]
  simp only [List.append_assoc]
theorem rm_node {τ0 μ0 : S5} {h k ct p q : Nat} {cc : Nat → Int32} {qq pp : Nat → Nat} (hp : p < 7000) (hqp : q ≤ p) (hk : 1 ≤ k) (hk9 : k ≤ 10) (h33 : xA μ0 33 (nI p) = nI ct) (hct : ct + k ≤ 14000) (h34 : xA μ0 34 (nI p) = nI k) (h0 : qq 0 = q) (hqk : qq k = p) (sp L : Nat → List Int32) (en : List Int32) (hkid : ∀ i, i < k → WTr τ0 μ0 (cc i) (qq i) (pp i) (L i) ∧ hF τ0 (cc i) < h ∧ qq i ≤ pp i ∧ pp i < p ∧ qq (i + 1) = pp i + 1 ∧ xA μ0 39 (nI (ct + i)) = nI (pp i)) (hsp : (∀ i, i < k → Wm μ0 (f_X12_around (nI p) (nI i)) (sp i)) ∧ Wm μ0 (f_X12_around (nI p) (nI k)) en) : RMp μ0 h p (p + 1 - q) (jn sp L en k 0) := by
  intro μ ν hq hL v x y hv hx hy
  have hh := (hkid 0 (by omega)).2.1
  obtain ⟨n, x', y', a1, a2, a3⟩ := rm_kids (τ0 := τ0) (R := fun _ _ _ _ _ _ => True) (h := h) (h' := h - 1) (q := q) (cc := cc) hp hk hk9 h33 hct h34 hqk sp L en (fun i hi => ⟨(hkid i hi).2.2.1, (hkid i hi).2.2.2.1, (hkid i hi).2.2.2.2.1, (hkid i hi).2.2.2.2.2, (hkid i hi).1.2.2.mo (by have := (hkid i hi).2.1; omega)⟩) (by omega) hsp.1 hsp.2 k 0 (by omega) μ ν hq hL v x y hv hx hy
  exact ⟨n, x', y', by rw [h0] at a1; omega, a2, a3⟩
theorem jn_ok0 {sp L : Nat → List Int32} {en : List Int32} {k : Nat} (he : okL en) (h1 : ∀ i, i < k → okL (sp i)) (h2 : ∀ i, i < k → okL (L i)) : okL (jn sp L en k 0) := jn_ok he k 0 (fun x _ b => ⟨h1 x (by omega), h2 x (by omega)⟩)
theorem k5n {x : Int32} (h : x = 5 ∨ x = 6 ∨ x = 7 ∨ x = 8 ∨ x = 9) : ¬ x = 0 ∧ ¬ x = 1 ∧ ¬ x = 2 ∧ ¬ x = 3 ∧ ¬ x = 4 := by
  rcases h with rfl | rfl | rfl | rfl | rfl <;> decide
/-- a row of parts -/
theorem wt_row {τ0 μ0 : S5} {k0 : Nat} (H : WH τ0 μ0 k0) {c : Int32} {q p : Nat} {Sc : Nat → Prop} {lo hi : Nat} (hp : p < 7000) (hqp : q ≤ p) (hc : 0 ≤ c ∧ c < 6200) (h : XRow τ0 μ0 (fun c q p _ _ _ => ∃ L, WTr τ0 μ0 c q p L) c q p Sc lo hi) : ∃ L, WTr τ0 μ0 c q p L := by
  have hb := FU_big (n := 5000) (by decide)
  obtain ⟨k, ct, cc, ll, hk, ⟨k1, k9⟩, hch, -, -, qq, pp, x33, x14, x34, xq0, xqk, xk⟩ := h
  obtain ⟨L, hL⟩ := ch_fn (P := fun i L => WTr τ0 μ0 (cc i) (qq i) (pp i) L) (fun i hi => (xk i hi).1)
  have hkid : ∀ i, i < k → WTr τ0 μ0 (cc i) (qq i) (pp i) (L i) ∧ hF τ0 (cc i) < hF τ0 c ∧ qq i ≤ pp i ∧ pp i < p ∧ qq (i + 1) = pp i + 1 ∧ xA μ0 39 (nI (ct + i)) = nI (pp i) := fun i hi => ⟨hL i hi, (xk i hi).2.1, (xk i hi).2.2.2⟩
  have hE : ∀ d i, i < k → hF τ0 c < d + 1 → Wc τ0 (f_writeE d (cc i)) (L i) := fun d i hi hd => (hL i hi).2.1 d (by have := (xk i hi).2.1; omega)
  have hrow : ∀ d, hF τ0 c < d + 1 → Wc τ0 (f_X7_writeRow (f_writeE d) (cc 0)) (jn (fun i => if i = 0 then [] else [32]) L [] k 0) := by
    intro d hd σ τ hC hl
    have := cl_row (τ0 := τ0) (E := f_writeE d) (k := k) (cc := cc) (L := L) k9 (fun i hi => ⟨(xk i hi).2.2.1, (hch.2 i hi).2, hE d i hi hd⟩) k 0 (by omega) FU (by omega) σ τ hC hl
    rw [if_pos (by omega)] at this
    unfold f_X7_writeRow
    exact this
  have o41 : okL [41] := okb (by decide)
  have okk : ∀ i, i < k → okL (L i) := fun i hi => (hL i hi).1
  obtain ⟨m, rfl⟩ : ∃ m, k = m + 1 := ⟨k - 1, by omega⟩
  rcases hk with ⟨a1, a2, a3, a4, a5⟩ | ⟨a1, a2, a3, a4⟩ | ⟨a1, a2, a3, a4, a5, a6, a7⟩
  · obtain rfl : m = 1 := by omega
    obtain ⟨Lo, o1, o2, o3⟩ := wo a4
    have aw := aw_sign hp x34 a2 a3 (o3 μ0)
    refine ⟨jn (fun i => if i = 0 then [40] else Lo) L [41] 2 0, jn_ok0 o41 (fun i _ => ?_) okk, fun d hd => ?_, rm_node hp hqp (by omega) (by omega) x33 x14 x34 xq0 xqk _ L _ hkid aw⟩
    · by_cases h0 : i = 0
      · simp only [if_pos h0]; exact okb (by decide)
      · simp only [if_neg h0]; exact o1
    · obtain ⟨d, rfl⟩ : ∃ d', d = d' + 1 := ⟨d - 1, by omega⟩
      have e : jn (fun i => if i = 0 then [40] else Lo) L [41] 2 0 = [40] ++ ((L 0 ++ (Lo ++ L 1)) ++ [41]) := by
        show [40] ++ (L 0 ++ (Lo ++ (L 1 ++ [41]))) = _
        simp only [List.append_assoc]
      rw [e]
      show Wc τ0 (f_X7_writePart (f_writeE d) c) _
      refine wt_in hc (k5n (Or.inl a1)) (fun σ τ hC hl => ?_)
      obtain ⟨ρ1, l1, l2⟩ := LWc.ap hl
      obtain ⟨ρ2, l3, l4⟩ := LWc.ap l2
      have c1 := hC.fr l1.fr
      have c2 := c1.fr l3.fr
      have b0 := (xk 0 (by omega)).2.2.1
      have n0 : xA τ0 17 (cc 0) = cc 1 := (hch.2 0 (by omega)).2
      unfold f_X7_writeInner
      rw [gd6200 hc.1 hc.2, gd6200 hc.1 hc.2, hC.x 13 _ (by decide), a1, if_pos rfl, hC.x 16 _ (by decide), hch.1, hE d 0 (by omega) hd _ _ hC l1, bd_of, gd6200 hc.1 hc.2, c1.x 14 _ (by decide), o2 τ0 _ _ c1 l3, bd_of, gd6200 b0.1 b0.2, c2.x 17 _ (by decide), n0, hE d 1 (by omega) hd _ _ c2 l4, bd_of]
  · have aw := aw_app hp (by omega) x34 a2
    refine ⟨jn (fun i => if i = 0 then [40] else [32]) L [41] (m + 1) 0, jn_ok0 o41 (fun i _ => ?_) okk, fun d hd => ?_, rm_node hp hqp (by omega) (by omega) x33 x14 x34 xq0 xqk _ L _ hkid aw⟩
    · by_cases h0 : i = 0
      · simp only [if_pos h0]; exact okb (by decide)
      · simp only [if_neg h0]; exact okb (by decide)
    · obtain ⟨d, rfl⟩ : ∃ d', d = d' + 1 := ⟨d - 1, by omega⟩
      rw [jn_hd (sp := fun i => if i = 0 then [40] else [32]) (sp' := fun i => if i = 0 then [] else [32]) (P := [40]) rfl (fun x hx _ => by simp only [if_neg (show ¬ x = 0 by omega)])]
      show Wc τ0 (f_X7_writePart (f_writeE d) c) _
      refine wt_in hc (k5n (Or.inr (Or.inr (Or.inr (Or.inl a1))))) (fun σ τ hC hl => ?_)
      unfold f_X7_writeInner
      rw [gd6200 hc.1 hc.2, gd6200 hc.1 hc.2, hC.x 13 _ (by decide), a1, if_neg (by decide), if_neg (by decide), if_neg (by decide), if_pos rfl, hC.x 16 _ (by decide), hch.1, hrow d hd _ _ hC hl, bd_of]
  · obtain ⟨⟨k30, k13⟩, knm, kdf, k7, hct, hN⟩ := H
    have hz1 : xA τ0 14 c < 30 := by
      have := hct.2.2.1
      clear hct
      grind
    obtain ⟨Ln, n1, n2, n3⟩ := wn hct hN a4 a5
    have aw := aw_cons hp (by omega) (by omega) x34 a2 a3 a4 hz1 n3
    refine ⟨jn (fun i => if i = 0 then [40] ++ (Ln ++ [32]) else [32]) L [41] (m + 1) 0, jn_ok0 o41 (fun i _ => ?_) okk, fun d hd => ?_, rm_node hp hqp (by omega) (by omega) x33 x14 x34 xq0 xqk _ L _ hkid aw⟩
    · by_cases h0 : i = 0
      · simp only [if_pos h0]; exact (okb (by decide)).ap (n1.ap (okb (by decide)))
      · simp only [if_neg h0]; exact okb (by decide)
    · obtain ⟨d, rfl⟩ : ∃ d', d = d' + 1 := ⟨d - 1, by omega⟩
      have e : jn (fun i => if i = 0 then [40] ++ (Ln ++ [32]) else [32]) L [41] (m + 1) 0 = [40] ++ ((Ln ++ ([32] ++ jn (fun i => if i = 0 then [] else [32]) L [] (m + 1) 0)) ++ [41]) := by
        rw [jn_hd (sp := fun i => if i = 0 then [40] ++ (Ln ++ [32]) else [32]) (sp' := fun i => if i = 0 then [] else [32]) (P := [40] ++ (Ln ++ [32])) (by simp) (fun x hx _ => by simp only [if_neg (show ¬ x = 0 by omega)])]
        simp only [List.append_assoc]
      rw [e]
      show Wc τ0 (f_X7_writePart (f_writeE d) c) _
      refine wt_in hc (k5n (Or.inr (Or.inr (Or.inr (Or.inr a1))))) (fun σ τ hC hl => ?_)
      obtain ⟨ρ1, l1, l2⟩ := LWc.ap hl
      obtain ⟨ρ2, l3, l4⟩ := LWc.ap l2
      have c1 := hC.fr l1.fr
      have c2 := c1.fr l3.fr
      unfold f_X7_writeInner
      rw [gd6200 hc.1 hc.2, gd6200 hc.1 hc.2, hC.x 13 _ (by decide), a1, if_neg (by decide), if_neg (by decide), if_neg (by decide), if_neg (by decide), if_pos rfl, gq1 hC, gd6200 hc.1 hc.2, hC.x 14 _ (by decide), gd30 a4 hz1, hC.y 0 _ (by decide), n2 _ _ l1, bd_of, gq1 c1, l3.one, bd_of, hC.x 16 _ (by decide), hch.1, hrow d hd _ _ c2 l4, bd_of]
