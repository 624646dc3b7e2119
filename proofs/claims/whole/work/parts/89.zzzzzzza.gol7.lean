theorem sP_cg {τp : S5} {cc dd : Nat → Int32} (l : Nat) (h : ∀ i, i < l → xA τp 19 (cc i) = xA τp 19 (dd i)) : sP τp cc l = sP τp dd l := pre_eq l (fun i hi => congrArg Int32.toNatClampNeg (h i hi))
theorem mH_cg {τp : S5} {cc dd : Nat → Int32} : ∀ l, (∀ i, i < l → xA τp 18 (cc i) = xA τp 18 (dd i)) → mH τp cc l = mH τp dd l
  | 0, _ => rfl
  | l + 1, h => by
    show (if mH τp cc l < xA τp 18 (cc l) then xA τp 18 (cc l) else mH τp cc l) = (if mH τp dd l < xA τp 18 (dd l) then xA τp 18 (dd l) else mH τp dd l)
    rw [mH_cg l (fun i hi => h i (by omega)), h l (by omega)]
theorem mQ_cg {τp : S5} {cc dd : Nat → Int32} : ∀ l, (∀ i, i < l → xA τp 19 (cc i) = xA τp 19 (dd i)) → mQ τp cc l = mQ τp dd l
  | 0, _ => rfl
  | l + 1, h => by
    show mQ τp cc l + xA τp 19 (cc l) = mQ τp dd l + xA τp 19 (dd l)
    rw [mQ_cg l (fun i hi => h i (by omega)), h l (by omega)]
theorem mU_cg {τp : S5} {cc dd : Nat → Int32} : ∀ l, (∀ i, i < l → xB τp 2 (cc i) = xB τp 2 (dd i)) → mU τp cc l = mU τp dd l
  | 0, _ => rfl
  | l + 1, h => by
    show mU τp cc l ||| xB τp 2 (cc l) = mU τp dd l ||| xB τp 2 (dd l)
    rw [mU_cg l (fun i hi => h i (by omega)), h l (by omega)]
theorem mS_or {τp : S5} {bb : Nat → Int32} {x0 : Nat} : ∀ l, (∀ i, i < l → xA τp 13 (bb i) = 10 ∧ xA τp 14 (bb i) = nI (x0 + i)) → mS τp bb l = orS x0 l
  | 0, _ => rfl
  | l + 1, h => by
    show mS τp bb l ||| (if xA τp 13 (bb l) = 10 then spn (xA τp 14 (bb l)) 1 else 0) = orS x0 l ||| spn (nI (x0 + l)) 1
    rw [mS_or l (fun i hi => h i (by omega)), (h l (by omega)).1, if_pos rfl, (h l (by omega)).2]
/-- a let is lifted -/
theorem gc_let {τp μm : S5} {F V f : Nat} {n c c0 : Int32} {l S0 x0 szb : Nat} {g cc bb : Nat → Int32} {sz : Nat → Nat} (hn0 : 0 ≤ n) (hn1 : n < 3200) (h2 : xA μm 2 n = 0) (h19 : xA μm 19 n = -1) (hl1 : 1 ≤ l) (hl : l ≤ 5) (h3 : xA μm 3 n = g 0) (hg : ∀ i, i < l → (0 ≤ g i ∧ g i < 3200) ∧ xA μm 5 (g i) = if i + 1 < l then g (i + 1) else -1) (hit : ∀ i, i < l → GoC τp μm F V f (g i) (cc i) (sz i)) (hbody : GoC τp μm F V f (xA μm 7 n) c0 szb) (hsz : pre sz l + szb + 1 ≤ S0) (hb7 : (∀ i, i < l → (xA τp 19 (cc i)).toNatClampNeg ≤ 7000) ∧ (xA τp 19 c0).toNatClampNeg ≤ 7000) (hloc : ∀ μ, FrWL μm μ → f_X12_local (nI f) (xA μm 25 n) μ = some (nI x0, μ)) (hx0 : x0 + l ≤ V) (hV : V ≤ 4000) (h13 : xA τp 13 c = 7) (h16 : xA τp 16 c = c0) (hc00 : 0 ≤ c0) (h17 : xA τp 17 c0 = bb 0) (hc10 : ¬ xA τp 13 c0 = 10) (hbb : ∀ i, i < l → (0 ≤ bb i ∧ xA τp 13 (bb i) = 10 ∧ xA τp 14 (bb i) = nI (x0 + i) ∧ xA τp 16 (bb i) = cc i ∧ 0 ≤ cc i ∧ xA τp 17 (cc i) = -1 ∧ xA τp 17 (bb i) = if i + 1 < l then bb (i + 1) else -1) ∧ xA τp 18 (bb i) = xA τp 18 (cc i) ∧ xA τp 19 (bb i) = xA τp 19 (cc i) ∧ xB τp 2 (bb i) = xB τp 2 (cc i)) (hM : MEQ τp c 0 (l + 1) (fun p => if p = 0 then c0 else bb (p - 1))) (hc0 : 0 ≤ c) (hc6 : c < 6200) : GoC τp μm F V f n c S0 := by
  have hu : u1F (xA τp 13 c) = 1 := by rw [h13]; rfl
  have h1 : ∀ i, i < l → 1 ≤ (xA τp 19 (cc i)).toNatClampNeg := fun i hi => (hit i hi).1
  have hit' : ∀ i, i < l + 1 → GoC τp μm F V f (if i < l then g i else xA μm 7 n) (if i < l then cc i else c0) (if i < l then sz i else szb) := by
    intro i hi
    by_cases hil : i < l
    · rw [if_pos hil, if_pos hil, if_pos hil]; exact hit i hil
    · rw [if_neg hil, if_neg hil, if_neg hil]; exact hbody
  have eL : ∀ k, k ≤ l → ∀ i, i < k → (if i < l then cc i else c0) = cc i := fun k hk i hi => if_pos (by omega)
  have esP : sP τp (fun i => if i < l then cc i else c0) (l + 1) = sP τp cc l + (xA τp 19 c0).toNatClampNeg := by
    rw [sP_s, sP_cg (dd := cc) l (fun i hi => by rw [if_pos hi]), if_neg (by omega)]
  have hsPb : ∀ i, i ≤ l → sP τp cc i ≤ 7000 * i := by
    intro i
    induction i with
    | zero => intro _; exact Nat.le_refl _
    | succ i ih =>
      intro hi
      have a := ih (by omega)
      have b := hb7.1 i (by omega)
      rw [sP_s]
      omega
  have hsPl := hsPb l (Nat.le_refl _)
  have hP0 : xA τp 19 c0 = nI (xA τp 19 c0).toNatClampNeg := by
    have h := mQ_sP (τp := τp) (cc := fun _ => c0) 1 (fun i _ => hbody.1)
    have e1 : mQ τp (fun _ => c0) 1 = 0 + xA τp 19 c0 := rfl
    have e2 : sP τp (fun _ => c0) 1 = 0 + (xA τp 19 c0).toNatClampNeg := rfl
    rw [e1, e2, Int32.zero_add, Nat.zero_add] at h
    exact h
  have hPc : (xA τp 19 c).toNatClampNeg = sP τp (fun i => if i < l then cc i else c0) (l + 1) + 1 := by
    rw [hM.2.1, hu, mQ_sh, mQ_cg (dd := cc) l (fun i hi => (hbb i hi).2.2.1), mQ_sP l h1, esP]
    rw [hP0, nI_plus, nI_add1, nI_clamp (by have := hb7.2; omega), nI_clamp (by have := hb7.2; omega)]
  have epre : pre (fun i => if i < l then sz i else szb) (l + 1) = pre sz l + szb := by
    show pre (fun i => if i < l then sz i else szb) l + (if l < l then sz l else szb) = _
    rw [if_neg (by omega), pre_eq (w2 := sz) l (fun i hi => if_pos hi)]
  refine gc_gen (kind := 0) (value := nI l) (l := l + 1) (g := fun i => if i < l then g i else xA μm 7 n) (cc := fun i => if i < l then cc i else c0) (sz := fun i => if i < l then sz i else szb) (r0 := g 0) (st := fun i => if i ≤ l then nI i else 100) (rr := fun i => if i < l then g i else -1) hn0 hn1 h19 (by omega) hit' (by rw [epre]; exact hsz) (fun μ v hv hf => by rw [ba_row hv hn0 hn1 (by rw [hf.x 2 _ (by omega), h2]; decide), hf.x 3 _ (by omega), h3]) rfl (if_pos (by omega)) (fun v μ i hv hi hf ha => ?_) (fun v μ hv hf ha => ?_) (fun m ct hd μ hw hm hct hhd hh hk => ?_) hPc
  · by_cases hil : i < l
    · obtain ⟨⟨g0, g1⟩, g2⟩ := hg i hil
      have ha' : At μ v n (nI i) (g i) := by
        have e1 : (if i ≤ l then nI i else 100) = nI i := if_pos (by omega)
        have e2 : (if i < l then g i else -1) = g i := if_pos hil
        rw [← e1, ← e2]; exact ha
      refine ⟨_, by show f_X12_nextChild (nI v) μ = some (if i < l then g i else xA μm 7 n, _); rw [if_pos hil]; exact nx_let hv hn0 hn1 ha' (by rw [hf.x 2 _ (by omega)]; exact h2) g0 g1, ?_, Or.inr ⟨_, _, rfl⟩⟩
      show At _ v n (if i + 1 ≤ l then nI (i + 1) else 100) (if i + 1 < l then g (i + 1) else -1)
      rw [if_pos (show i + 1 ≤ l by omega)]
      refine ⟨?_, ?_, ?_⟩
      · rw [xA_pA, if_neg (fun w => absurd w.1 (by decide)), xA_pA, if_neg (fun w => absurd w.1 (by decide))]; exact ha'.1
      · rw [xA_pA, if_neg (fun w => absurd w.1 (by decide)), xA_self, nI_add1]
      · rw [xA_self, hf.x 5 _ (by omega), g2]
    · have hie : i = l := by omega
      subst hie
      have ha' : At μ v n (nI i) (-1) := by
        have e1 : (if i ≤ i then nI i else 100) = nI i := if_pos (Nat.le_refl _)
        have e2 : (if i < i then g i else -1) = -1 := if_neg (by omega)
        rw [← e1, ← e2]; exact ha
      have hnx := nx_letB hv hn0 hn1 ha' (by rw [hf.x 2 _ (by omega)]; exact h2) (by decide)
      rw [if_neg (fun w => by have := (nI_le31 (a := 100) (by omega) (by omega)).mp w; omega), hf.x 7 _ (by omega)] at hnx
      refine ⟨_, by show f_X12_nextChild (nI v) μ = some (if i < i then g i else xA μm 7 n, _); rw [if_neg (by omega)]; exact hnx, ?_, Or.inl ⟨_, rfl⟩⟩
      show At _ v n (if i + 1 ≤ i then nI (i + 1) else 100) (if i + 1 < i then g (i + 1) else -1)
      rw [if_neg (by omega), if_neg (by omega)]
      refine ⟨?_, ?_, ?_⟩
      · rw [xA_pA, if_neg (fun w => absurd w.1 (by decide))]; exact ha'.1
      · rw [xA_self]
      · rw [xA_pA, if_neg (fun w => absurd w.1 (by decide))]; exact ha'.2.2
  · have ha' : At μ v n 100 (-1) := by
      have e1 : (if l + 1 ≤ l then nI (l + 1) else 100) = 100 := if_neg (by omega)
      have e2 : (if l + 1 < l then g (l + 1) else -1) = -1 := if_neg (by omega)
      rw [← e1, ← e2]; exact ha
    have hnx := nx_letB hv hn0 hn1 ha' (by rw [hf.x 2 _ (by omega)]; exact h2) (by decide)
    rw [if_pos (by decide)] at hnx
    exact ⟨-1, _, by decide, hnx, Or.inl ⟨_, rfl⟩⟩
  · have hrc : f_X12_rowCount n μ = some (nI l, μ) := rc_go (g := g) hn0 hn1 (by omega) (by rw [if_pos (by omega), hw.1.x 3 _ (by omega)]; exact h3) (fun i hi => ⟨(hg i hi).1, by rw [hw.1.x 5 _ (by omega)]; exact (hg i hi).2⟩)
    have hge := sP_ge (τp := τp) (cc := fun i => if i < l then cc i else c0) (l := l + 1) (fun i hi => (hit' i hi).1) (l + 1) (Nat.le_refl _)
    generalize hM' : m + sP τp (fun i => if i < l then cc i else c0) (l + 1) = M at hw hm
    obtain ⟨μa, a1, a2⟩ := li_go (n := l + 1) (hd := hd) 0 (nI l) hw.2.1 hw.2.2.1 hw.2.2.2 hm (by omega) hhd hh (fun k hk' => by
      have y1 := sP_mono (τp := τp) (cc := fun i => if i < l then cc i else c0) (i := k + 1) (l := l + 1) (by omega)
      have y2 := (hit' k hk').1
      have y3 := sP_s τp (fun i => if i < l then cc i else c0) k
      exact ⟨_, by omega, (hk k hk').1⟩)
    have M0 : 0 ≤ nI M := i_le0 (nI_nneg (by omega))
    have fa : FrWL μm μa := hw.1.tr a2.1.wl
    refine ⟨μa, pB (pA μa 35 (nI M) (nI x0)) 5 (nI M) (xB μa 5 (nI M) &&& (j_lshl (j_lshl 1 (nI l) - 1) (nI x0) ^^^ (-1))), ?_, a2, ?_, fun hkids => ?_⟩
    · unfold f_X12_closePart f_X12_bits
      rw [gd3200 hn0 hn1, hw.1.x 2 _ (by omega), h2, if_pos rfl, hrc, bd_of, nI_add1, a1, bd_of, gd3200 hn0 hn1, fa.x 25 _ (by omega), hloc μa fa, bd_of, gdn hm (by omega), gdn hm (by omega), gdn hm (by omega), bd_of, gdn hm (by omega), xA_self]
    · have hne : ∀ x, x < M → ¬ (nI x).toNatClampNeg = (nI M).toNatClampNeg := fun x hx => tn_neL (by omega) (by omega) (by omega)
      refine ⟨⟨((FrWL.rf μa).A (by omega)).B, rfl, rfl, rfl⟩, fun x hx => ?_, fun y hy => ?_, fun gg y hgg => ?_, ?_⟩
      · have e : ∀ gg, xA (pA μa 35 (nI M) (nI x0)) gg (nI x) = xA μa gg (nI x) := fun gg => by rw [xA_pA, if_neg (fun w => hne x hx w.2)]
        exact ⟨e 31, e 32, e 33, e 34, e 35, e 37, by rw [xB_pB, if_neg (fun w => hne x hx w.2)]; rfl⟩
      · have e : ∀ gg, ¬ gg = 35 → xA (pA μa 35 (nI M) (nI x0)) gg (nI y) = xA μa gg (nI y) := fun gg w => by rw [xA_pA, if_neg (fun z => w z.1)]
        exact ⟨e 39 (by decide), e 40 (by decide), e 41 (by decide), e 42 (by decide), e 43 (by decide)⟩
      · show xA (pA μa 35 (nI M) (nI x0)) gg y = _
        rw [xA_pA, if_neg (by omega)]
      · have e : ∀ gg, ¬ gg = 35 → xA (pA μa 35 (nI M) (nI x0)) gg (nI M) = xA μa gg (nI M) := fun gg w => by rw [xA_pA, if_neg (fun z => w z.1)]
        exact ⟨e 31 (by decide), e 32 (by decide), e 33 (by decide), e 34 (by decide), e 37 (by decide)⟩
    · have hx := a2.2.2.2.2.2.2.1
      have e : ∀ gg, ¬ gg = 35 → xA (pB (pA μa 35 (nI M) (nI x0)) 5 (nI M) (xB μa 5 (nI M) &&& (j_lshl (j_lshl 1 (nI l) - 1) (nI x0) ^^^ (-1)))) gg (nI M) = xA μa gg (nI M) := fun gg w => by
        show xA (pA μa 35 (nI M) (nI x0)) gg (nI M) = _
        rw [xA_pA, if_neg (fun z => w z.1)]
      have hch : ∀ k, k < l + 1 → xA μ 37 (xA μ 48 (nI (hd + k))) = xA τp 18 (if k < l then cc k else c0) ∧ (V ≤ 40 → xB μ 5 (xA μ 48 (nI (hd + k))) = xB τp 2 (if k < l then cc k else c0)) := by
        intro k hkl
        obtain ⟨z1, z2⟩ := hk k hkl
        rw [z1]
        exact ⟨z2.un.2.1, z2.un.2.2.2.1⟩
      refine LT.fold ⟨⟨by omega, by omega, by omega, hc0, hc6⟩, ?_, by rw [hPc]; omega, fun hV40 => ?_, Or.inr (Or.inr (Or.inr (Or.inr (Or.inl ⟨h13, (e 31 (by decide)).trans hx.1, l, x0, bb, cc, c0, hl1, hl, (e 32 (by decide)).trans hx.2.1, ?_, hx0, h16, hc00, h17, fun i hi => (hbb i hi).1, hkids⟩))))⟩
      · rw [e 37 (by decide), a2.2.2.2.2.2.2.2.2.1, hL_mH (cc := fun i => if i < l then cc i else c0) (l + 1) (fun i hi => (hch i hi).1), hM.1, hu, mH_sh, mH_cg (dd := cc) l (fun i hi => (hbb i hi).2.1)]
        show (if mH τp (fun i => if i < l then cc i else c0) l < xA τp 18 (if l < l then cc l else c0) then xA τp 18 (if l < l then cc l else c0) else mH τp (fun i => if i < l then cc i else c0) l) + 1 = _
        rw [if_neg (show ¬ l < l by omega), mH_cg (dd := cc) l (fun i hi => by rw [if_pos hi])]
      · rw [xB_pB, if_pos ⟨rfl, rfl⟩, a2.2.2.2.2.2.2.2.2.2, if_neg (by decide), uL_mU (cc := fun i => if i < l then cc i else c0) (l + 1) (fun i hi => (hch i hi).2 hV40), hM.2.2]
        unfold mB
        rw [if_neg (by rw [h13]; decide), mU_sh, mU_cg (dd := cc) l (fun i hi => (hbb i hi).2.2.2), mS_sh hc10, mS_or (x0 := x0) l (fun i hi => ⟨(hbb i hi).1.2.1, (hbb i hi).1.2.2.1⟩)]
        have e1 := orS_eq ⟨l, by omega⟩ ⟨x0, by omega⟩ (by show x0 + l ≤ 40; omega)
        have e1' : orS x0 l = j_lshl (j_lshl 1 (nI l) - 1) (nI x0) := e1
        rw [e1']
        show (mU τp (fun i => if i < l then cc i else c0) l ||| xB τp 2 (if l < l then cc l else c0)) &&& _ = _
        rw [if_neg (show ¬ l < l by omega), mU_cg (dd := cc) l (fun i hi => by rw [if_pos hi])]
      · show xA (pA μa 35 (nI M) (nI x0)) 35 (nI M) = _
        rw [xA_self]
