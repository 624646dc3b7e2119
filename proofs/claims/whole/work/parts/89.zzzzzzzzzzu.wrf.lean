theorem ok_l : okL [108, 101, 116, 32] := okL.cs (Or.inr (by decide)) (okL.cs (Or.inr (by decide)) (okL.cs (Or.inr (by decide)) (okb (by decide))))
theorem ok_i : okL [32, 105, 110, 32] := okL.cs (Or.inr (by decide)) (okL.cs (Or.inr (by decide)) (okL.cs (Or.inr (by decide)) (okb (by decide))))
theorem ok_e : okL [32, 61, 32] := okL.cs (Or.inr (by decide)) (okL.cs (Or.inr (by decide)) (okb (by decide)))
theorem ok_c : okL [44, 32] := okL.cs (Or.inr (by decide)) (okb (by decide))
theorem ok_s : okL [59, 32] := okL.cs (Or.inr (by decide)) (okb (by decide))
theorem ok_k : okL [40, 99, 97, 115, 101] := okL.cs (Or.inr (by decide)) (okL.cs (Or.inr (by decide)) (okL.cs (Or.inr (by decide)) (okL.cs (Or.inr (by decide)) (okb (by decide)))))
theorem ok_o : okL [32, 111, 102, 32, 123] := okL.cs (Or.inr (by decide)) (okL.cs (Or.inr (by decide)) (okL.cs (Or.inr (by decide)) (okL.cs (Or.inr (by decide)) (okb (by decide)))))
theorem ok_z : okL [125, 41] := okL.cs (Or.inr (by decide)) (okb (by decide))
/-- a let -/
theorem wt_let {τ0 μ0 : S5} {c : Int32} {q p : Nat} {Sc : Nat → Prop} {lo hi : Nat} (hp : p < 7000) (hqp : q ≤ p) (hhi : hi ≤ 40) (hc : 0 ≤ c ∧ c < 6200) (h : XLet τ0 μ0 (fun c q p _ _ _ => ∃ L, WTr τ0 μ0 c q p L) c q p Sc lo hi) : ∃ L, WTr τ0 μ0 c q p L := by
  have hb := FU_big (n := 5000) (by decide)
  obtain ⟨a1, a2, l, ct, bb, ll, ⟨l1, l5⟩, a3, a4, a5, a6, a7, a8, qq, pp, x33, x14, x34, xq0, xqk, xk⟩ := h
  obtain ⟨L, hL⟩ := ch_fn (P := fun i L => WTr τ0 μ0 (if i < l then xA τ0 16 (bb i) else xA τ0 16 c) (qq i) (pp i) L) (fun i hi => (xk i hi).1)
  have hkid : ∀ i, i < l + 1 → WTr τ0 μ0 (if i < l then xA τ0 16 (bb i) else xA τ0 16 c) (qq i) (pp i) (L i) ∧ hF τ0 (if i < l then xA τ0 16 (bb i) else xA τ0 16 c) < hF τ0 c ∧ qq i ≤ pp i ∧ pp i < p ∧ qq (i + 1) = pp i + 1 ∧ xA μ0 39 (nI (ct + i)) = nI (pp i) := fun i hi => ⟨hL i hi, (xk i hi).2.1, (xk i hi).2.2.2⟩
  obtain ⟨Lv, hv⟩ := ch_fn (k := l) (P := fun i L => okL L ∧ (∀ τ0, Wc τ0 (f_X7_writeVariable (nI (lo + i))) L) ∧ ∀ μ0, Wm μ0 (f_X12_variable (nI (lo + i))) L) (fun i hi => wv (x := lo + i) (by omega))
  have hE : ∀ d i, i < l → hF τ0 c < d + 1 → Wc τ0 (f_writeE d (xA τ0 16 (bb i))) (L i) := fun d i hi hd => by
    have w := hkid i (by omega)
    simp only [if_pos hi] at w
    exact w.1.2.1 d (by have := w.2.1; omega)
  have hE0 : ∀ d, hF τ0 c < d + 1 → Wc τ0 (f_writeE d (xA τ0 16 c)) (L l) := fun d hd => by
    have w := hkid l (by omega)
    simp only [if_neg (Nat.lt_irrefl l)] at w
    exact w.1.2.1 d (by have := w.2.1; omega)
  have b0 : 0 ≤ xA τ0 16 c ∧ xA τ0 16 c < 6200 := by
    have w := (xk l (by omega)).2.2.1
    simp only [if_neg (Nat.lt_irrefl l)] at w
    exact w
  have hrow : ∀ d, hF τ0 c < d + 1 → Wc τ0 (f_X7_writeBindings (f_writeE d) (bb 0)) (jn (fun i => (if i = 0 then [] else [44, 32]) ++ (Lv i ++ [32, 61, 32])) L [] l 0) := by
    intro d hd σ τ hC hl
    have := cl_bind (τ0 := τ0) (E := f_writeE d) (k := l) (x0 := lo) (bb := bb) (L := L) (Lv := Lv) (by omega) (fun i hi => ⟨(a6 i hi).1, (a6 i hi).2.2.2.2, (a6 i hi).2.2.1, (hv i hi).2.1 τ0, hE d i hi hd⟩) l 0 (by omega) FU (by omega) σ τ hC hl
    rw [if_pos (by omega)] at this
    unfold f_X7_writeBindings
    exact this
  have aw := aw_let (Lv := Lv) hp l1 l5 x34 a2 a3 a4 (fun i hi => (hv i hi).2.2 μ0)
  refine ⟨jn (fun i => if i = l then [32, 105, 110, 32] else (if i = 0 then [40, 108, 101, 116, 32] else [44, 32]) ++ (Lv i ++ [32, 61, 32])) L [41] (l + 1) 0, jn_ok0 (okb (by decide)) (fun i hi' => ?_) (fun i hi' => (hL i hi').1), fun d hd => ?_, rm_node hp hqp (by omega) (by omega) x33 x14 x34 xq0 xqk _ L _ hkid aw⟩
  · by_cases hil : i = l
    · simp only [if_pos hil]; exact ok_i
    · simp only [if_neg hil]
      refine okL.ap ?_ ((hv i (by omega)).1.ap ok_e)
      by_cases h0 : i = 0
      · rw [if_pos h0]; exact okL.cs (Or.inr (by decide)) ok_l
      · rw [if_neg h0]; exact ok_c
  · obtain ⟨d, rfl⟩ : ∃ d', d = d' + 1 := ⟨d - 1, by omega⟩
    have e : jn (fun i => if i = l then [32, 105, 110, 32] else (if i = 0 then [40, 108, 101, 116, 32] else [44, 32]) ++ (Lv i ++ [32, 61, 32])) L [41] (l + 1) 0 = [40] ++ (([108, 101, 116, 32] ++ (jn (fun i => (if i = 0 then [] else [44, 32]) ++ (Lv i ++ [32, 61, 32])) L [] l 0 ++ ([32, 105, 110, 32] ++ L l))) ++ [41]) := by
      obtain ⟨m, rfl⟩ : ∃ m, l = m + 1 := ⟨l - 1, by omega⟩
      rw [jn_la (m + 1) 0, Nat.zero_add]
      simp only [if_pos (show m + 1 = m + 1 from rfl)]
      rw [jn_hd (sp := fun i => if i = m + 1 then [32, 105, 110, 32] else (if i = 0 then [40, 108, 101, 116, 32] else [44, 32]) ++ (Lv i ++ [32, 61, 32])) (sp' := fun i => (if i = 0 then [] else [44, 32]) ++ (Lv i ++ [32, 61, 32])) (P := [40, 108, 101, 116, 32]) (by simp) (fun x hx hx2 => by simp only [if_neg (show ¬ x = m + 1 by omega), if_neg (show ¬ x = 0 by omega)])]
      simp
    rw [e]
    show Wc τ0 (f_X7_writePart (f_writeE d) c) _
    refine wt_in hc (k5n (Or.inr (Or.inr (Or.inl a1)))) (fun σ τ hC hl => ?_)
    obtain ⟨ρ1, m1, m2⟩ := LWc.ap hl
    obtain ⟨ρ2, m3, m4⟩ := LWc.ap m2
    obtain ⟨ρ3, m5, m6⟩ := LWc.ap m4
    have c1 := hC.fr m1.fr
    have c2 := c1.fr m3.fr
    have c3 := c2.fr m5.fr
    unfold f_X7_writeInner
    rw [gd6200 hc.1 hc.2, gd6200 hc.1 hc.2, hC.x 13 _ (by decide), a1, if_neg (by decide), if_neg (by decide), if_pos rfl, gq1 hC, txC (by decide) tl_13 m1, bd_of, hC.x 16 _ (by decide), gd6200 b0.1 b0.2, c1.x 17 _ (by decide), a5, hrow d hd _ _ c1 m3, bd_of, gq1 c2, txC (by decide) tl_15 m5, bd_of, hE0 d hd _ _ c3 m6, bd_of]
/-- a case -/
theorem wt_case {τ0 μ0 : S5} {k0 : Nat} (H : WH τ0 μ0 k0) {c : Int32} {q p : Nat} {Sc : Nat → Prop} {lo hi : Nat} (hp : p < 7000) (hqp : q ≤ p) (hhi : hi ≤ 40) (hc : 0 ≤ c ∧ c < 6200) (h : XCase τ0 μ0 (fun c q p _ _ _ => ∃ L, WTr τ0 μ0 c q p L) c q p Sc lo hi) : ∃ L, WTr τ0 μ0 c q p L := by
  have hb := FU_big (n := 5000) (by decide)
  obtain ⟨a1, a2, l, ct, aa, jj, ll, ⟨l1, l8⟩, a3, a5, a6, a7, a8, a9, qq, pp, x33, x14, x34, xq0, xqk, xk⟩ := h
  obtain ⟨L, hL⟩ := ch_fn (P := fun i L => WTr τ0 μ0 (if i = 0 then xA τ0 16 c else xA τ0 16 (aa (i - 1))) (qq i) (pp i) L) (fun i hi => (xk i hi).1)
  have hkid : ∀ i, i < l + 1 → WTr τ0 μ0 (if i = 0 then xA τ0 16 c else xA τ0 16 (aa (i - 1))) (qq i) (pp i) (L i) ∧ hF τ0 (if i = 0 then xA τ0 16 c else xA τ0 16 (aa (i - 1))) < hF τ0 c ∧ qq i ≤ pp i ∧ pp i < p ∧ qq (i + 1) = pp i + 1 ∧ xA μ0 39 (nI (ct + i)) = nI (pp i) := fun i hi => ⟨hL i hi, (xk i hi).2.1, (xk i hi).2.2.2⟩
  have hmo := ll_mo (k := l) (ll := ll) (fun i hi => by have := (a7 i hi).2; omega)
  obtain ⟨-, -, -, -, hct, hN⟩ := H
  obtain ⟨Lp, hv⟩ := ch_fn (k := l) (P := fun i L => okL L ∧ Wc τ0 (f_X7_writePattern (aa i)) L ∧ Wm μ0 (f_X12_pattern (nI (ct + 1 + i))) (L ++ [32, 45, 62, 32])) (fun i hi' => wpt hct hN (a7 i hi').1 (a6 i hi').1.1 (a6 i hi').1.2 (by omega) (by have := hmo l i (by omega) (by omega); omega))
  have hE : ∀ d i, i < l → hF τ0 c < d + 1 → Wc τ0 (f_writeE d (xA τ0 16 (aa i))) (L (i + 1)) := fun d i hi hd => by
    have w := hkid (i + 1) (by omega)
    simp only [if_neg (show ¬ i + 1 = 0 by omega), Nat.add_sub_cancel] at w
    exact w.1.2.1 d (by have := w.2.1; omega)
  have hE0 : ∀ d, hF τ0 c < d + 1 → Wc τ0 (f_writeE d (xA τ0 16 c)) (L 0) := fun d hd => by
    have w := hkid 0 (by omega)
    simp only [if_pos (show (0 : Nat) = 0 from rfl)] at w
    exact w.1.2.1 d (by have := w.2.1; omega)
  have b0 : 0 ≤ xA τ0 16 c ∧ xA τ0 16 c < 6200 := by
    have w := (xk 0 (by omega)).2.2.1
    simp only [if_pos (show (0 : Nat) = 0 from rfl)] at w
    exact w
  have hrow : ∀ d, hF τ0 c < d + 1 → Wc τ0 (f_X7_writeAlternatives (f_writeE d) (aa 0)) (jn (fun i => (if i = 0 then [] else [59, 32]) ++ (Lp i ++ [32, 45, 62, 32])) (fun i => L (i + 1)) [] l 0) := by
    intro d hd σ τ hC hl
    have := cl_alt (τ0 := τ0) (E := f_writeE d) (k := l) (aa := aa) (L := fun i => L (i + 1)) (Lp := Lp) (by omega) (fun i hi => ⟨(a6 i hi).1, (a6 i hi).2.2, (hv i hi).2.1, hE d i hi hd⟩) l 0 (by omega) FU (by omega) σ τ hC hl
    rw [if_pos (by omega)] at this
    unfold f_X7_writeAlternatives
    exact this
  have aw := aw_case (Lp := Lp) hp l1 l8 x34 a2 x33 (fun i hi => (hv i hi).2.2)
  refine ⟨jn (fun i => if i = 0 then [40, 99, 97, 115, 101] ++ [32] else (if i = 1 then [32, 111, 102, 32, 123] else [59, 32]) ++ (Lp (i - 1) ++ [32, 45, 62, 32])) L [125, 41] (l + 1) 0, jn_ok0 ok_z (fun i hi' => ?_) (fun i hi' => (hL i hi').1), fun d hd => ?_, rm_node hp hqp (by omega) (by omega) x33 x14 x34 xq0 xqk _ L _ hkid aw⟩
  · by_cases h0 : i = 0
    · simp only [if_pos h0]; exact ok_k.ap (okb (by decide))
    · simp only [if_neg h0]
      refine okL.ap ?_ ((hv (i - 1) (by omega)).1.ap ok_ar)
      by_cases h1 : i = 1
      · rw [if_pos h1]; exact ok_o
      · rw [if_neg h1]; exact ok_s
  · obtain ⟨d, rfl⟩ : ∃ d', d = d' + 1 := ⟨d - 1, by omega⟩
    have e : jn (fun i => if i = 0 then [40, 99, 97, 115, 101] ++ [32] else (if i = 1 then [32, 111, 102, 32, 123] else [59, 32]) ++ (Lp (i - 1) ++ [32, 45, 62, 32])) L [125, 41] (l + 1) 0 = [40] ++ (([99, 97, 115, 101, 32] ++ (L 0 ++ ([32, 111, 102, 32, 123] ++ (jn (fun i => (if i = 0 then [] else [59, 32]) ++ (Lp i ++ [32, 45, 62, 32])) (fun i => L (i + 1)) [] l 0 ++ [125])))) ++ [41]) := by
      obtain ⟨m, rfl⟩ : ∃ m, l = m + 1 := ⟨l - 1, by omega⟩
      show ([40, 99, 97, 115, 101] ++ [32]) ++ (L 0 ++ jn _ L [125, 41] (m + 1) (0 + 1)) = _
      rw [jn_sh (m + 1) 0, jn_hd (L := fun x => L (x + 1)) (sp' := fun i => (if i = 0 then [] else [59, 32]) ++ (Lp i ++ [32, 45, 62, 32])) (P := [32, 111, 102, 32, 123]) (by simp) (fun x hx hx2 => by simp only [if_neg (show ¬ x + 1 = 0 by omega), if_neg (show ¬ x + 1 = 1 by omega), if_neg (show ¬ x = 0 by omega), Nat.add_sub_cancel])]
      simp
    rw [e]
    show Wc τ0 (f_X7_writePart (f_writeE d) c) _
    refine wt_in hc (k5n (Or.inr (Or.inl a1))) (fun σ τ hC hl => ?_)
    obtain ⟨ρ1, m1, m2⟩ := LWc.ap hl
    obtain ⟨ρ2, m3, m4⟩ := LWc.ap m2
    obtain ⟨ρ3, m5, m6⟩ := LWc.ap m4
    obtain ⟨ρ4, m7, m8⟩ := LWc.ap m6
    have c1 := hC.fr m1.fr
    have c2 := c1.fr m3.fr
    have c3 := c2.fr m5.fr
    have c4 := c3.fr m7.fr
    unfold f_X7_writeInner
    rw [gd6200 hc.1 hc.2, gd6200 hc.1 hc.2, hC.x 13 _ (by decide), a1, if_neg (by decide), if_pos rfl, gq1 hC, txC (by decide) tl_9 m1, bd_of, hC.x 16 _ (by decide), hE0 d hd _ _ c1 m3, bd_of, gq1 c2, txC (by decide) tl_10 m5, bd_of, gd6200 b0.1 b0.2, c3.x 17 _ (by decide), a5, hrow d hd _ _ c3 m7, bd_of, gq1 c4, m8.one, bd_of]
theorem XK.mono {τ μ : S5} {R R' : R6} {h : Nat} (hR : ∀ c q p Sc lo hi, hF τ c < h → R c q p Sc lo hi → R' c q p Sc lo hi) {k ct : Nat} {cc : Nat → Int32} {Sa : Nat → Nat → Prop} {la lb : Nat → Nat} {q p : Nat} (w : XK τ μ R h k ct cc Sa la lb q p) : XK τ μ R' h k ct cc Sa la lb q p := by
  obtain ⟨qq, pp, a1, a2, a3, a4, a5, a6⟩ := w
  exact ⟨qq, pp, a1, a2, a3, a4, a5, fun i hi => ⟨hR _ _ _ _ _ _ (a6 i hi).2.1 (a6 i hi).1, (a6 i hi).2⟩⟩
theorem XF.mono {τ μ : S5} {F : Nat} {R R' : R6} {c : Int32} (hR : ∀ c' q p Sc lo hi, hF τ c' < hF τ c → R c' q p Sc lo hi → R' c' q p Sc lo hi) {q p : Nat} {Sc : Nat → Prop} {lo hi : Nat} (h : XF τ μ F R c q p Sc lo hi) : XF τ μ F R' c q p Sc lo hi := by
  obtain ⟨h1, h2, h3⟩ := h
  refine ⟨h1, h2, ?_⟩
  rcases h3 with w | ⟨k, ct, cc, ll, b1, b2, b3, b4, b5, b6⟩ | ⟨b1, b2, l, ct, bb, ll, b3, b4, b5, b6, b7, b8, b9, b10⟩ | ⟨b1, b2, l, ct, aa, jj, ll, b3, b4, b5, b6, b7, b8, b9, b10⟩
  · exact Or.inl w
  · exact Or.inr (Or.inl ⟨k, ct, cc, ll, b1, b2, b3, b4, b5, b6.mono hR⟩)
  · exact Or.inr (Or.inr (Or.inl ⟨b1, b2, l, ct, bb, ll, b3, b4, b5, b6, b7, b8, b9, b10.mono hR⟩))
  · exact Or.inr (Or.inr (Or.inr ⟨b1, b2, l, ct, aa, jj, ll, b3, b4, b5, b6, b7, b8, b9, b10.mono hR⟩))
/-- EVERY SUBTREE IS WRITTEN ALIKE -/
theorem wt_go {τ0 μ0 : S5} {k F V T : Nat} (H : WH τ0 μ0 k) (hFb : F ≤ 630) (hV : V ≤ 40) : ∀ (n : Nat) (c : Int32) (q p : Nat) (Sc : Nat → Prop) (lo hi : Nat), hF τ0 c < n → XN τ0 μ0 F V T c q p Sc lo hi → ∃ L, WTr τ0 μ0 c q p L := by
  intro n
  induction n with
  | zero => intro c q p Sc lo hi hn; exact absurd hn (Nat.not_lt_zero _)
  | succ n ih =>
    intro c q p Sc lo hi hn hX
    have h40 := hX.2.2.2
    have h := (hX.un hV).mono (R' := fun c q p _ _ _ => ∃ L, WTr τ0 μ0 c q p L) (fun c' q p Sc lo hi hlt w => ih c' q p Sc lo hi (by omega) w)
    obtain ⟨⟨hqp, hp, hc, hle, -⟩, -, h3⟩ := h
    rcases h3 with w | w | w | w
    · obtain ⟨L, b1, b2, b3⟩ := wt_leaf H hFb hp hc w
      refine ⟨L, b1, fun d hd => ?_, ?_⟩
      · obtain ⟨d, rfl⟩ : ∃ d', d = d' + 1 := ⟨d - 1, by omega⟩
        exact b2 (f_writeE d)
      · obtain rfl := w.1
        rw [show q + 1 - q = 1 by omega]
        exact rm_leaf hp w.2.2.1 b3
    · exact wt_row H hp hqp hc w
    · exact wt_let hp hqp h40 hc w
    · exact wt_case H hp hqp h40 hc w
