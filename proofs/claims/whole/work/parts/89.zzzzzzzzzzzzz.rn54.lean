def wt (k p : Nat) : Int32 := ((nI k) <<< ((16 : Int32) &&& 31)) ||| nI p
theorem wt_bit {k p : Nat} (hk : k < 8) (hp : p < 2 ^ 16) {j : Nat} (hj : j < 32) : (wt k p).toBitVec.getLsbD j = if j < 16 then p.testBit j else k.testBit (j - 16) := by
  unfold wt
  rw [Int32.toBitVec_or, BitVec.getLsbD_or, nI_b (by omega) hj]
  have e : ((nI k) <<< ((16 : Int32) &&& 31)).toBitVec = (nI k).toBitVec <<< 16 := rfl
  rw [e, BitVec.getLsbD_shiftLeft, decide_eq_true hj]
  by_cases h : j < 16
  · rw [if_pos h, decide_eq_true h]
    simp
  · rw [if_neg h, decide_eq_false h, nI_b (by omega) (by omega), tb0 hp (by omega)]
    simp
theorem wt_p {k p : Nat} (hk : k < 8) (hp : p < 2 ^ 16) : (wt k p) &&& 65535 = nI p := i32_ext (fun j hj => by
  rw [Int32.toBitVec_and, BitVec.getLsbD_and, show (65535 : Int32) = nI (2 ^ 16 - 1) from rfl, msk_b (by decide) hj, nI_b (by omega) hj, wt_bit hk hp hj]
  by_cases h : j < 16
  · rw [if_pos h, decide_eq_true h, Bool.and_true]
  · rw [decide_eq_false h, Bool.and_false, tb0 hp (by omega)])
theorem wt_k {k p : Nat} (hk : k < 8) (hp : p < 2 ^ 16) : (wt k p) >>> ((16 : Int32) &&& 31) = nI k := i32_ext (fun j hj => by
  have e : ((wt k p) >>> ((16 : Int32) &&& 31)).toBitVec = (wt k p).toBitVec.sshiftRight 16 := rfl
  rw [e, BitVec.getLsbD_sshiftRight, nI_b (by omega) hj, decide_eq_false (show ¬ 32 ≤ j by omega)]
  by_cases h : 16 + j < 32
  · rw [if_pos h, wt_bit hk hp h, if_neg (by omega), show 16 + j - 16 = j by omega]
    rfl
  · rw [if_neg h, BitVec.msb_eq_getLsbD_last, wt_bit hk hp (by omega), if_neg (by omega), tb0 (show k < 2 ^ 3 by omega) (by omega), tb0 (show k < 2 ^ 3 by omega) (by omega)]
    rfl)
theorem FmC.t (σ : S5) (v : Int32) : FmC σ (pI σ 40 v) := ⟨fun j w => by rw [gI_pI, if_neg (by omega)], fun _ _ => rfl, fun _ _ => rfl, fun _ _ => rfl, fun _ _ _ => rfl⟩
theorem FmM.i (μ : S5) {k : Nat} (hk : 48 ≤ k ∧ k ≤ 54) (v : Int32) : FmM μ (pI μ k v) := ⟨fun j w w' => by rw [gI_pI, if_neg (by omega)], fun _ _ => rfl, fun _ _ => rfl, fun _ _ => rfl, rfl⟩
/-- a frame of a part is popped, on both sides -/
theorem pop_go {τ μ0 : S5} {F k T : Nat} {pa nv D E : Nat → Nat} (hnv : ∀ f, f < F → nv f ≤ 40) {σs μs : S5} {t0 : Nat} {σ μ : S5} {n : Nat} {tg ct : Nat → Nat} {x : Nat × Nat × Nat × Nat × Nat} {K : List (Nat × Nat × Nat × Nat × Nat)} {t W V b f e r P R : Nat} (h : MSb τ μ0 F k T pa nv D E σs μs t0 σ μ n tg ct (x :: K) t W V b f e r P R) (hx : x.1 ≤ 6) : ∃ t' W' V', NFr τ μ0 F T pa nv σ μ n tg ct x.1 x.2.1 x.2.2.1 x.2.2.2.1 t' W' V' b f e r ∧ MSv τ μ0 F k T pa nv D E σs μs t0 (pI σ 40 (nI (t' + nvl x.1 x.2.2.2.1))) (pI μ 48 (nI W')) n tg ct K t' W' V' b f e (r + 1) (P + fpF D μ0 x) (R - fqF E μ0 x) (nvl x.1 x.2.2.2.1) ∧ fqF E μ0 x ≤ R ∧ f_X3_pop σ = some (gB σ 12 (t' + nvl x.1 x.2.2.2.1), pI σ 40 (nI (t' + nvl x.1 x.2.2.2.1))) ∧ 0 < gI σ 40 ∧ gI μ 48 - 1 = nI W' ∧ W' < 202000 := by
  obtain ⟨b1, b2, b3, b4, b5, b6, b7⟩ := h.bd
  obtain ⟨⟨f1, f2, f3⟩, hH, ⟨hn, h0⟩, ⟨⟨m1, m2, m3, m4⟩, m5, m6, m7, m8⟩, ⟨q1, q2, q3, q4⟩, hK, hG, ⟨n1, n2, cl, lf, n3, n4, n5, n6, n7, n8⟩⟩ := h
  rcases hK with ⟨a0, t', W', V', a1, a2, a3, a4, a5⟩ | ⟨a0, -⟩
  · have l1 := m5.b
    have e40 : gI σ 40 - 1 = nI (t' + nvl x.1 x.2.2.2.1) := by
      rw [m1, show (1 : Int32) = nI 1 from rfl, nI_sub (by omega), a1]
      rfl
    have h40 : 0 < gI σ 40 := by
      rw [m1, show (0 : Int32) = nI 0 from rfl]
      exact (nI_lt31 (by omega) (by omega)).mpr (by omega)
    have eK7 : nLU (x :: K) = nLU K := by
      show (if x.1 = 7 then 1 else 0) + nLU K = _
      rw [if_neg (by omega), Nat.zero_add]
    have eK8 : nLC (x :: K) = nLC K := by
      show (if x.1 = 8 then 1 else 0) + nLC K = _
      rw [if_neg (by omega), Nat.zero_add]
    have eF : fpK D μ0 (x :: K) = fpF D μ0 x + fpK D μ0 K := rfl
    have eQ : fqK E μ0 (x :: K) = fqF E μ0 x + fqK E μ0 K := rfl
    have eb : blC (pI μ 48 (nI W')) = blC μ := rfl
    have es : ∀ G : Nat → Nat, spC G (pI μ 48 (nI W')) = spC G μ := fun _ => rfl
    refine ⟨t', W', V', a4, ⟨⟨f1.tr (FmC.t _ _), f2.tr (FmM.i _ (by omega) _), f3⟩, hH, ⟨hn, h0⟩, ⟨⟨rfl, m2, m3, m4⟩, m5, ?_, m7, m8⟩, ⟨rfl, ?_, q3, q4⟩, ?_, hG, ⟨?_, n2, cl, lf, n3, n4, n5, ?_, ?_, ?_⟩, a4.2.1⟩, by omega, ?_, h40, ?_, by omega⟩
    · show t' + _ ≤ gN σ 1
      omega
    · show gI μ 49 = _
      rw [q2, a3]
    · exact SK.mv hnv (Gro.rf n tg ct) K a5 (fun _ _ => rfl) (fun _ _ => ⟨rfl, rfl, rfl⟩) (fun _ _ => rfl) (fun _ _ w => w)
    · rw [eb]; omega
    · omega
    · rw [es]; omega
    · rw [es]; omega
    · unfold f_X3_pop
      rw [if_pos h40, e40, gdn (by omega) (by omega), xB_at (by omega)]
    · rw [q1, show (1 : Int32) = nI 1 from rfl, nI_sub (by omega), a2]
      rfl
  · omega
/-- values on top are given up -/
theorem MSv.drop {τ μ0 : S5} {F k T : Nat} {pa nv D E : Nat → Nat} (hnv : ∀ f, f < F → nv f ≤ 40) {σs μs : S5} {t0 : Nat} {σ μ : S5} {n : Nat} {tg ct : Nat → Nat} {K : List (Nat × Nat × Nat × Nat × Nat)} {t W V b f e r P R i : Nat} (h : MSv τ μ0 F k T pa nv D E σs μs t0 σ μ n tg ct K t W V b f e r P R i) : MSb τ μ0 F k T pa nv D E σs μs t0 (pI σ 40 (nI t)) (pI μ 49 (nI V)) n tg ct K t W V b f e r P R := by
  obtain ⟨⟨f1, f2, f3⟩, hH, ⟨hn, h0⟩, ⟨⟨m1, m2, m3, m4⟩, m5, m6, m7, m8⟩, ⟨q1, q2, q3, q4⟩, hK, hG, ⟨n1, n2, cl, lf, n3, n4, n5, n6, n7, n8⟩, -⟩ := h
  refine ⟨⟨f1.tr (FmC.t _ _), f2.tr (FmM.i _ (by omega) _), f3⟩, hH, ⟨hn, h0⟩, ⟨⟨rfl, m2, m3, m4⟩, m5, ?_, m7, m8⟩, ⟨q1, rfl, q3, q4⟩, ?_, hG, ⟨n1, n2, cl, lf, n3, n4, n5, n6, ?_, n8⟩⟩
  · show t ≤ gN σ 1
    omega
  · exact SK.mv hnv (Gro.rf n tg ct) K hK (fun _ _ => rfl) (fun _ _ => ⟨rfl, rfl, rfl⟩) (fun _ _ => rfl) (fun _ _ w => w)
  · have es : spC D (pI μ 49 (nI V)) = spC D μ := rfl
    rw [es]
    omega
theorem sdN_le (D : Nat → Nat) (μ : S5) {p : Nat} : ∀ (m i : Nat), i + m < cnN μ p → D (chN μ p (i + m)) ≤ sdN D μ p i
  | 0, i, h => by rw [sdN_s D μ (p := p) (i := i) (by omega), Nat.add_zero]; exact Nat.le_add_right _ _
  | m + 1, i, h => by
    rw [sdN_s D μ (p := p) (i := i) (by omega)]
    have := sdN_le D μ (p := p) m (i + 1) (by omega)
    rw [show i + 1 + m = i + (m + 1) by omega] at this
    omega
theorem gq_e {β : Type} {a b : Nat} (h : a = b) {x : Option β} : gq a b x = x := if_pos h
/-- the head of resume, and of going on -/
theorem rs_hd {σ : S5} {kd a bb t1 : Nat} (h0 : 0 < gI σ 40) (hp : f_X3_pop σ = some (fr kd a bb, pI σ 40 (nI t1))) (hk : kd < 128) (ha : a < 2 ^ 28) (hb : bb < 2 ^ 28) : (kd = 1 → f_X3_resume σ = bd (f_X3_push (gJ σ 5) (pI σ 40 (nI t1))) (fun _ τ97 => gle (gN σ 1) (gN τ97 1) <| gle (gN σ 3) (gN τ97 3) <| f_X3_resume_b100 (nI a) τ97)) ∧ (kd = 2 → f_X3_resume σ = (gd (nI a) 6200 <| bd (f_X3_pop (pI σ 40 (nI t1))) (fun r145 τ145 => gq (gN τ145 1) (gN σ 1) <| gq (gN τ145 3) (gN σ 3) <| bd (f_X3_operate (xA σ 14 (nI a)) (r145) ((gJ τ145 5)) τ145) (fun _ τ152 => gq (gN τ152 1) (gN τ145 1) <| gq (gN τ152 3) (gN τ145 3) <| some ((), τ152))))) ∧ (kd = 3 → f_X3_resume σ = (gd (nI a) 6200 <| gd (xA σ 16 (nI a)) 6200 <| bd (f_X3_choose ((xA σ 17 (xA σ 16 (nI a)))) (pI σ 40 (nI t1))) (fun _ τ176 => gq (gN τ176 1) (gN σ 1) <| gq (gN τ176 3) (gN σ 3) <| some ((), τ176)))) ∧ (kd = 4 → f_X3_resume σ = (gd (nI a) 6200 <| gd (xA σ 16 (nI a)) 6200 <| gd (xA σ 17 (xA σ 16 (nI a))) 6200 <| gd ((gI σ 41) + (xA σ 14 (xA σ 17 (xA σ 16 (nI a))))) (gN σ 3) <| gd (nI a) 6200 <| bd (f_X3_workOn ((xA σ 16 (nI a))) (pB (pI σ 40 (nI t1)) 13 ((gI σ 41) + (xA σ 14 (xA σ 17 (xA σ 16 (nI a))))) (gJ σ 5))) (fun _ τ231 => gq (gN τ231 1) (gN σ 1) <| gq (gN τ231 3) (gN σ 3) <| some ((), τ231)))) ∧ (kd = 5 → f_X3_resume σ = bd (f_X3_push (gJ σ 5) (pI σ 40 (nI t1))) (fun _ τ242 => gle (gN σ 1) (gN τ242 1) <| gle (gN σ 3) (gN τ242 3) <| f_X3_resume_b245 (nI a) (nI bb) τ242)) ∧ (kd = 6 → f_X3_resume σ = bd (f_X3_applyValue (nI a) (pI σ 40 (nI t1))) (fun _ τ259 => gle (gN σ 1) (gN τ259 1) <| gle (gN σ 3) (gN τ259 3) <| some ((), τ259))) ∧ (kd = 7 → f_X3_resume σ = bd (f_X0_update (nI a) (gJ σ 5) (pI σ 40 (nI t1))) (fun _ τ274 => gq (gN τ274 1) (gN σ 1) <| gq (gN τ274 3) (gN σ 3) <| some ((), τ274))) ∧ (kd = 8 → f_X3_resume σ = bd (f_X3_closeVariables (nI a) (nI bb) (pI σ 40 (nI t1))) (fun _ τ284 => gq (gN τ284 1) (gN σ 1) <| gq (gN τ284 3) (gN σ 3) <| some ((), τ284))) ∧ (kd = 9 → f_X3_resume σ = bd (f_X3_show (pI σ 40 (nI t1))) (fun _ τ291 => gle (gN σ 1) (gN τ291 1) <| gle (gN σ 3) (gN τ291 3) <| some ((), τ291))) ∧ (kd = 10 → f_X3_resume σ = bd (f_X3_showField (nI a) (nI bb) (pI σ 40 (nI t1))) (fun _ τ301 => gle (gN σ 1) (gN τ301 1) <| gle (gN σ 3) (gN τ301 3) <| some ((), τ301))) := by
  have ek := fr_k hk ha hb
  have ea := fr_a hk ha hb
  have eb := fr_bb hk ha hb
  refine ⟨fun w => ?_, fun w => ?_, fun w => ?_, fun w => ?_, fun w => ?_, fun w => ?_, fun w => ?_, fun w => ?_, fun w => ?_, fun w => ?_⟩
  · subst w
    unfold f_X3_resume
    rw [if_pos h0, hp, bd_of, ek, ea, eb, gq_e (show gN (pI σ 40 (nI t1)) 1 = gN σ 1 from rfl), gq_e (show gN (pI σ 40 (nI t1)) 3 = gN σ 3 from rfl), if_pos (show nI 1 = 1 from rfl)]
    rfl
  · subst w
    unfold f_X3_resume
    rw [if_pos h0, hp, bd_of, ek, ea, eb, gq_e (show gN (pI σ 40 (nI t1)) 1 = gN σ 1 from rfl), gq_e (show gN (pI σ 40 (nI t1)) 3 = gN σ 3 from rfl), if_neg (show ¬ nI 2 = 1 by decide), if_pos (show nI 2 = 2 from rfl)]
    rfl
  · subst w
    unfold f_X3_resume
    rw [if_pos h0, hp, bd_of, ek, ea, eb, gq_e (show gN (pI σ 40 (nI t1)) 1 = gN σ 1 from rfl), gq_e (show gN (pI σ 40 (nI t1)) 3 = gN σ 3 from rfl), if_neg (show ¬ nI 3 = 1 by decide), if_neg (show ¬ nI 3 = 2 by decide), if_pos (show nI 3 = 3 from rfl)]
    rfl
  · subst w
    unfold f_X3_resume
    rw [if_pos h0, hp, bd_of, ek, ea, eb, gq_e (show gN (pI σ 40 (nI t1)) 1 = gN σ 1 from rfl), gq_e (show gN (pI σ 40 (nI t1)) 3 = gN σ 3 from rfl), if_neg (show ¬ nI 4 = 1 by decide), if_neg (show ¬ nI 4 = 2 by decide), if_neg (show ¬ nI 4 = 3 by decide), if_pos (show nI 4 = 4 from rfl)]
    rfl
  · subst w
    unfold f_X3_resume
    rw [if_pos h0, hp, bd_of, ek, ea, eb, gq_e (show gN (pI σ 40 (nI t1)) 1 = gN σ 1 from rfl), gq_e (show gN (pI σ 40 (nI t1)) 3 = gN σ 3 from rfl), if_neg (show ¬ nI 5 = 1 by decide), if_neg (show ¬ nI 5 = 2 by decide), if_neg (show ¬ nI 5 = 3 by decide), if_neg (show ¬ nI 5 = 4 by decide), if_pos (show nI 5 = 5 from rfl)]
    rfl
  · subst w
    unfold f_X3_resume
    rw [if_pos h0, hp, bd_of, ek, ea, eb, gq_e (show gN (pI σ 40 (nI t1)) 1 = gN σ 1 from rfl), gq_e (show gN (pI σ 40 (nI t1)) 3 = gN σ 3 from rfl), if_neg (show ¬ nI 6 = 1 by decide), if_neg (show ¬ nI 6 = 2 by decide), if_neg (show ¬ nI 6 = 3 by decide), if_neg (show ¬ nI 6 = 4 by decide), if_neg (show ¬ nI 6 = 5 by decide), if_pos (show nI 6 = 6 from rfl)]
    rfl
  · subst w
    unfold f_X3_resume
    rw [if_pos h0, hp, bd_of, ek, ea, eb, gq_e (show gN (pI σ 40 (nI t1)) 1 = gN σ 1 from rfl), gq_e (show gN (pI σ 40 (nI t1)) 3 = gN σ 3 from rfl), if_neg (show ¬ nI 7 = 1 by decide), if_neg (show ¬ nI 7 = 2 by decide), if_neg (show ¬ nI 7 = 3 by decide), if_neg (show ¬ nI 7 = 4 by decide), if_neg (show ¬ nI 7 = 5 by decide), if_neg (show ¬ nI 7 = 6 by decide), if_pos (show nI 7 = 7 from rfl)]
    rfl
  · subst w
    unfold f_X3_resume
    rw [if_pos h0, hp, bd_of, ek, ea, eb, gq_e (show gN (pI σ 40 (nI t1)) 1 = gN σ 1 from rfl), gq_e (show gN (pI σ 40 (nI t1)) 3 = gN σ 3 from rfl), if_neg (show ¬ nI 8 = 1 by decide), if_neg (show ¬ nI 8 = 2 by decide), if_neg (show ¬ nI 8 = 3 by decide), if_neg (show ¬ nI 8 = 4 by decide), if_neg (show ¬ nI 8 = 5 by decide), if_neg (show ¬ nI 8 = 6 by decide), if_neg (show ¬ nI 8 = 7 by decide), if_pos (show nI 8 = 8 from rfl)]
    rfl
  · subst w
    unfold f_X3_resume
    rw [if_pos h0, hp, bd_of, ek, ea, eb, gq_e (show gN (pI σ 40 (nI t1)) 1 = gN σ 1 from rfl), gq_e (show gN (pI σ 40 (nI t1)) 3 = gN σ 3 from rfl), if_neg (show ¬ nI 9 = 1 by decide), if_neg (show ¬ nI 9 = 2 by decide), if_neg (show ¬ nI 9 = 3 by decide), if_neg (show ¬ nI 9 = 4 by decide), if_neg (show ¬ nI 9 = 5 by decide), if_neg (show ¬ nI 9 = 6 by decide), if_neg (show ¬ nI 9 = 7 by decide), if_neg (show ¬ nI 9 = 8 by decide), if_pos (show nI 9 = 9 from rfl)]
    rfl
  · subst w
    unfold f_X3_resume
    rw [if_pos h0, hp, bd_of, ek, ea, eb, gq_e (show gN (pI σ 40 (nI t1)) 1 = gN σ 1 from rfl), gq_e (show gN (pI σ 40 (nI t1)) 3 = gN σ 3 from rfl), if_neg (show ¬ nI 10 = 1 by decide), if_neg (show ¬ nI 10 = 2 by decide), if_neg (show ¬ nI 10 = 3 by decide), if_neg (show ¬ nI 10 = 4 by decide), if_neg (show ¬ nI 10 = 5 by decide), if_neg (show ¬ nI 10 = 6 by decide), if_neg (show ¬ nI 10 = 7 by decide), if_neg (show ¬ nI 10 = 8 by decide), if_neg (show ¬ nI 10 = 9 by decide)]
    rfl
theorem go_hd {μ : S5} {W' kd p : Nat} (h48 : gI μ 48 - 1 = nI W') (hW : W' < 202000) (h59 : gA μ 59 W' = wt kd p) (hk : kd < 8) (hp : p < 7000) : (kd = 0 → f_X12_goOn μ = (gd (gA μ 61 W') 4100 <| gd (gA μ 61 W') 4100 <| some ((), (pI (pB (pA (pI μ 48 (nI W')) 53 (gA μ 61 W') 4) 6 (gA μ 61 W') (gJ μ 1)) 42 ((gI μ 42) + 1))))) ∧ (kd = 1 → f_X12_goOn μ = some ((), (pI (pI (pI μ 48 (nI W')) 50 (gA μ 60 W')) 51 (gA μ 61 W')))) ∧ (kd = 2 → f_X12_goOn μ = bd (f_X12_push ((gJ μ 1)) (pI μ 48 (nI W'))) (fun _ τ148 => bd (f_X12_waits (3) (nI p) (0) τ148) (fun _ τ155 => bd (f_X12_child (nI p) (1) τ155) (fun r162 τ162 => bd (f_X12_evaluate (r162) τ162) (fun _ τ165 => some ((), τ165)))))) ∧ (kd = 3 → f_X12_goOn μ = (gd (nI p) 7000 <| gd ((gI μ 49) - 1) 580000 <| bd (f_X12_reckon (xA μ 32 (nI p)) ((xB μ 8 ((gI μ 49) - 1))) ((gJ μ 1)) (pI (pI μ 48 (nI W')) 49 ((gI μ 49) - 1))) (fun _ τ199 => some ((), τ199)))) ∧ (kd = 4 → f_X12_goOn μ = bd (f_X12_choose (nI p) ((gJ μ 1)) (pI μ 48 (nI W'))) (fun _ τ209 => some ((), τ209))) ∧ (kd = 5 → f_X12_goOn μ = (gd (nI p) 7000 <| gd ((gI μ 50) + (xA μ 35 (nI p))) 193000 <| bd (f_X12_child (nI p) (1) (pB (pI μ 48 (nI W')) 9 ((gI μ 50) + (xA μ 35 (nI p))) (gJ μ 1))) (fun r237 τ237 => bd (f_X12_evaluate (r237) τ237) (fun _ τ240 => some ((), τ240))))) ∧ (kd = 6 → f_X12_goOn μ = bd (f_X12_push ((gJ μ 1)) (pI μ 48 (nI W'))) (fun _ τ249 => bd (f_X12_arguments (nI p) ((gA μ 61 W') + 1) τ249) (fun _ τ257 => some ((), τ257)))) ∧ (kd = 7 → f_X12_goOn μ = bd (f_X12_apply ((gJ μ 1)) (gA μ 61 W') (pI μ 48 (nI W'))) (fun _ τ267 => some ((), τ267))) := by
  have ek := wt_k (p := p) hk (by omega)
  have ep := wt_p (p := p) hk (by omega)
  have e59 : xA μ 59 (nI W') = wt kd p := by rw [xA_n (by omega)]; exact h59
  have e60 : xA μ 60 (nI W') = gA μ 60 W' := xA_n (by omega)
  have e61 : xA μ 61 (nI W') = gA μ 61 W' := xA_n (by omega)
  refine ⟨fun w => ?_, fun w => ?_, fun w => ?_, fun w => ?_, fun w => ?_, fun w => ?_, fun w => ?_, fun w => ?_⟩
  · subst w
    unfold f_X12_goOn
    rw [h48, gdn hW (by omega), gdn hW (by omega), gdn hW (by omega), e59, ek, ep, e61, if_pos (show nI 0 = 0 from rfl)]
  · subst w
    unfold f_X12_goOn
    rw [h48, gdn hW (by omega), gdn hW (by omega), gdn hW (by omega), e59, ek, ep, e61, if_neg (show ¬ nI 1 = 0 by decide), if_pos (show nI 1 = 1 from rfl), gdn hW (by omega), e60]
  · subst w
    unfold f_X12_goOn
    rw [h48, gdn hW (by omega), gdn hW (by omega), gdn hW (by omega), e59, ek, ep, e61, if_neg (show ¬ nI 2 = 0 by decide), if_neg (show ¬ nI 2 = 1 by decide), if_pos (show nI 2 = 2 from rfl)]
  · subst w
    unfold f_X12_goOn
    rw [h48, gdn hW (by omega), gdn hW (by omega), gdn hW (by omega), e59, ek, ep, e61, if_neg (show ¬ nI 3 = 0 by decide), if_neg (show ¬ nI 3 = 1 by decide), if_neg (show ¬ nI 3 = 2 by decide), if_pos (show nI 3 = 3 from rfl)]
  · subst w
    unfold f_X12_goOn
    rw [h48, gdn hW (by omega), gdn hW (by omega), gdn hW (by omega), e59, ek, ep, e61, if_neg (show ¬ nI 4 = 0 by decide), if_neg (show ¬ nI 4 = 1 by decide), if_neg (show ¬ nI 4 = 2 by decide), if_neg (show ¬ nI 4 = 3 by decide), if_pos (show nI 4 = 4 from rfl)]
  · subst w
    unfold f_X12_goOn
    rw [h48, gdn hW (by omega), gdn hW (by omega), gdn hW (by omega), e59, ek, ep, e61, if_neg (show ¬ nI 5 = 0 by decide), if_neg (show ¬ nI 5 = 1 by decide), if_neg (show ¬ nI 5 = 2 by decide), if_neg (show ¬ nI 5 = 3 by decide), if_neg (show ¬ nI 5 = 4 by decide), if_pos (show nI 5 = 5 from rfl)]
  · subst w
    unfold f_X12_goOn
    rw [h48, gdn hW (by omega), gdn hW (by omega), gdn hW (by omega), e59, ek, ep, e61, if_neg (show ¬ nI 6 = 0 by decide), if_neg (show ¬ nI 6 = 1 by decide), if_neg (show ¬ nI 6 = 2 by decide), if_neg (show ¬ nI 6 = 3 by decide), if_neg (show ¬ nI 6 = 4 by decide), if_neg (show ¬ nI 6 = 5 by decide), if_pos (show nI 6 = 6 from rfl)]
  · subst w
    unfold f_X12_goOn
    rw [h48, gdn hW (by omega), gdn hW (by omega), gdn hW (by omega), e59, ek, ep, e61, if_neg (show ¬ nI 7 = 0 by decide), if_neg (show ¬ nI 7 = 1 by decide), if_neg (show ¬ nI 7 = 2 by decide), if_neg (show ¬ nI 7 = 3 by decide), if_neg (show ¬ nI 7 = 4 by decide), if_neg (show ¬ nI 7 = 5 by decide), if_neg (show ¬ nI 7 = 6 by decide)]
