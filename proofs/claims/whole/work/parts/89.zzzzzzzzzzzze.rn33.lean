theorem eqP.fm {τ σ σ' : S5} (h : eqP τ σ) (g : FmC σ σ') : eqP τ σ' := ⟨fun j hj => (g.1 j (by omega)).trans (h.1 j hj), fun j hj => (g.2.2.1 j (by omega)).trans (h.2.1 j hj), fun j hj => (g.2.2.2.1 j (by omega)).trans (h.2.2 j hj)⟩
theorem eqQ.fm {τ σ σ' : S5} (h : eqQ τ σ) (g : FmM σ σ') : eqQ τ σ' := ⟨fun j hj => (g.1 j (by omega) (by omega)).trans (h.1 j hj), fun j hj => (g.2.2.1 j (by omega)).trans (h.2.1 j hj), fun j hj => (g.2.2.2.1 j (by omega)).trans (h.2.2 j hj)⟩
/-- a sum where one term changes -/
theorem pre_upd {w w' : Nat → Nat} {c : Nat} (h : ∀ i, ¬ i = c → w' i = w i) : ∀ n, (c < n → pre w' n + w c = pre w n + w' c) ∧ (n ≤ c → pre w' n = pre w n)
  | 0 => ⟨fun a => absurd a (Nat.not_lt_zero c), fun _ => rfl⟩
  | n + 1 => by
    obtain ⟨h1, h2⟩ := pre_upd h n
    refine ⟨fun a => ?_, fun a => ?_⟩
    · show pre w' n + w' n + w c = pre w n + w n + w' c
      by_cases e : c = n
      · have := h2 (by omega)
        subst e
        omega
      · have := h1 (by omega)
        have := h n (fun x => e x.symm)
        omega
    · show pre w' n + w' n = pre w n + w n
      rw [h2 (by omega), h n (by omega)]
/-- a suspension is entered or updated: the heaps -/
theorem hs_ch {τ μ0 : S5} {F T : Nat} {pa nv : Nat → Nat} {σ μ σ' μ' : S5} {n : Nat} {tg ct : Nat → Nat} {Rd : Nat → Prop} (h : HS τ μ0 F T pa nv σ μ n tg ct Rd) {c : Nat} (hc : c < n) (ht : tg c = 6) {s : Int32} {v : Int64} (hI : ∀ j, 32 ≤ j → j ≤ 34 → gI μ' j = gI μ j) (h40 : gA σ' 40 3 = gA σ 40 3) (h53 : gA μ' 53 = upd (gA μ 53) c s) (h546 : ∀ j, 54 ≤ j → j ≤ 56 → gA μ' j = gA μ j) (h7 : gB μ' 7 = gB μ 7) (h6 : ∀ d, ¬ d = c → gB μ' 6 d = gB μ 6 d) (h14 : gB σ' 14 (adr tg ct c) = v) (h14n : ∀ j, ¬ j = adr tg ct c → gB σ' 14 j = gB σ 14 j) (hv : (s = 3 ∧ v = 4611686018427387904) ∨ (s = 4 ∧ VL τ F pa n tg ct v (gB μ' 6 c))) : HS τ μ0 F T pa nv σ' μ' n tg ct Rd := by
  obtain ⟨⟨a1, a2, a3, a4, a5⟩, a6⟩ := h
  refine ⟨⟨by rw [hI 32 (by omega) (by omega)]; exact a1, by rw [hI 33 (by omega) (by omega)]; exact a2, a3, by rw [hI 34 (by omega) (by omega)]; exact a4, by rw [h40]; exact a5⟩, fun d hd => ?_⟩
  by_cases e : d = c
  · subst e
    have hs : gA μ' 53 d = s := by rw [h53, up_s]
    unfold CO
    rw [hs, h546 54 (by omega) (by omega), h546 55 (by omega) (by omega), h546 56 (by omega) (by omega), h14]
    refine ⟨(a6 d hd).1, Or.inr (Or.inr ⟨ht, Or.inr ?_⟩), fun _ w => ?_⟩
    · rcases hv with ⟨w1, w2⟩ | ⟨w1, w2⟩
      · exact Or.inl ⟨w1, w2⟩
      · exact Or.inr ⟨w1, w2⟩
    · have := w ht
      rcases hv with ⟨w1, w2⟩ | ⟨w1, w2⟩ <;> rw [w1] at this <;> exact absurd this (by decide)
  · refine (a6 d hd).st (Gro.rf n tg ct) hd ⟨by rw [h53]; exact up_n e, by rw [h546 54 (by omega) (by omega)], by rw [h546 55 (by omega) (by omega)], by rw [h546 56 (by omega) (by omega)], h6 d e⟩ (fun j j1 j2 => h14n j ?_) (fun j _ _ => by rw [h7]) id
    rcases Nat.lt_or_ge d c with w | w
    · have := adr_mo tg ct w
      omega
    · have := adr_mo tg ct (show c < d by omega)
      have hz : szc tg ct c = ct c + 1 + if tg c = 5 then 1 else 0 := rfl
      omega
/-- where they only take something up, they stay alike -/
theorem MSb.st {τ μ0 : S5} {F k T : Nat} {pa nv D E : Nat → Nat} {σs μs : S5} {t0 : Nat} {σ μ σ' μ' : S5} {n : Nat} {tg ct : Nat → Nat} {K : List (Nat × Nat × Nat × Nat × Nat)} {t W V b f e r P R : Nat} (hnv : ∀ f, f < F → nv f ≤ 40) (h : MSb τ μ0 F k T pa nv D E σs μs t0 σ μ n tg ct K t W V b f e r P R) (hI : ∀ j, ¬ (j = 44 ∨ j = 45) → gI σ' j = gI σ j) (hJ : ∀ j, ¬ j = 5 → gJ σ' j = gJ σ j) (hA : ∀ j, gA σ' j = gA σ j) (hB : ∀ j, gB σ' j = gB σ j) (hN : σ'.2.2.2.2 = σ.2.2.2.2) (mI : ∀ j, ¬ (j = 52 ∨ j = 53) → gI μ' j = gI μ j) (mJ : ∀ j, ¬ j = 1 → gJ μ' j = gJ μ j) (mA : ∀ j, gA μ' j = gA μ j) (mB : ∀ j, gB μ' j = gB μ j) (mN : μ'.2.2.2.2 = μ.2.2.2.2) : MSb τ μ0 F k T pa nv D E σs μs t0 σ' μ' n tg ct K t W V b f e r P R := by
  obtain ⟨⟨f1, f2, f3⟩, hH, ⟨hn, h0⟩, ⟨⟨m1, m2, m3, m4⟩, m5, m6, m7, m8⟩, ⟨q1, q2, q3, q4⟩, hK, hG, ⟨n1, n2, cl, lf, n3, n4, n5, n6, n7, n8⟩⟩ := h
  have eN : ∀ j, gN σ' j = gN σ j := fun j => congrFun hN j
  have e1 : blC μ' = blC μ := funext (fun c => by unfold blC; rw [mA 53])
  have e2 : spC D μ' = spC D μ := funext (fun c => by unfold spC; rw [mA 53, mA 54])
  have e3 : spC E μ' = spC E μ := funext (fun c => by unfold spC; rw [mA 53, mA 54])
  refine ⟨⟨f1.tr ⟨fun j a => hI j (by omega), hJ, fun j _ => hA j, fun j _ => hB j, fun k _ _ => eN k⟩, f2.tr ⟨fun j a b => mI j (by omega), mJ, fun j _ => mA j, fun j _ => mB j, mN⟩, f3.eq (mB 7)⟩, ?_, ⟨?_, ?_⟩, ⟨⟨?_, ?_, ?_, ?_⟩, ?_, ?_, ?_, ?_⟩, ⟨?_, ?_, ?_, ?_⟩, ?_, ?_, ?_⟩
  · unfold HS at *
    rw [mI 32 (by omega), mI 33 (by omega), mI 34 (by omega), hA 40, hB 14, mA 53, mA 54, mA 55, mA 56, mB 6, mB 7]
    exact hH
  · exact hn.st (fun x _ => by rw [hA 40]) (hA 41) (hA 42) (fun j w => hI j (by omega)) (fun j w => mI j (by omega)) (mA 57) (mA 58)
  · rw [mI 44 (by omega)]; exact h0
  · rw [hI 40 (by omega)]; exact m1
  · rw [hI 41 (by omega)]; exact m2
  · rw [hI 42 (by omega)]; exact m3
  · rw [hI 43 (by omega)]; exact m4
  · rw [eN]; exact m5
  · rw [eN]; exact m6
  · rw [eN]; exact m7
  · rw [eN]; exact m8
  · rw [mI 48 (by omega)]; exact q1
  · rw [mI 49 (by omega)]; exact q2
  · rw [mI 50 (by omega)]; exact q3
  · rw [mI 51 (by omega)]; exact q4
  · exact SK.mv hnv (Gro.rf n tg ct) K hK (fun j _ => by rw [hB 12]) (fun j _ => by rw [mA 59, mA 60, mA 61]; exact ⟨rfl, rfl, rfl⟩) (fun j _ => by rw [mB 8]) (fun j _ w => by rw [hB 13, mB 9]; exact w)
  · unfold GLB at *
    rw [hA 43, mA 64]
    exact hG
  · exact ⟨by rw [e1]; exact n1, n2, cl, lf, by rw [mI 38 (by omega)]; exact n3, by rw [mI 37 (by omega)]; exact n4, n5, n6, by rw [e2]; exact n7, by rw [e3]; exact n8⟩
theorem PSt.nv {τ μ0 : S5} {F k T : Nat} {pa nv : Nat → Nat} (hS : PSt τ μ0 F k T pa nv) : ∀ f, f < F → nv f ≤ 40 := fun f hf => (hS.2.2.2.2 f hf).2.1.2.2.2
/-- both give a value -/
theorem gv_go {τ μ0 : S5} {F k T : Nat} {pa nv D E : Nat → Nat} {σs μs : S5} {t0 : Nat} {σ μ : S5} {n : Nat} {tg ct : Nat → Nat} {K : List (Nat × Nat × Nat × Nat × Nat)} {t W V b f e r P R : Nat} (hnv : ∀ f, f < F → nv f ≤ 40) (h : MSb τ μ0 F k T pa nv D E σs μs t0 σ μ n tg ct K t W V b f e r P R) {Z : Nat} (hZ : R ≤ Z) {x y : Int64} (v : VL τ F pa n tg ct x y) {Fc Fm : Option (Unit × S5)} (hc : Fc = some ((), pI (pJ σ 5 x) 45 0)) (hm : Fm = some ((), pI (pJ μ 1 y) 53 1)) : GOt τ μ0 F k T pa nv D E σs μs t0 Z σ Fc Fm := by
  refine ⟨_, _, hc, hm, ⟨Nat.le_refl _, Nat.le_refl _⟩, Or.inl ⟨n, tg, ct, K, t, W, V, b, f, e, r, P, R, h.st hnv (fun j a => ?_) (fun j a => by rw [gJ_pI, gJ_pJ, if_neg a]) (fun _ => rfl) (fun _ => rfl) rfl (fun j a => ?_) (fun j a => by rw [gJ_pI, gJ_pJ, if_neg a]) (fun _ => rfl) (fun _ => rfl) rfl, Or.inr ⟨⟨rfl, rfl, v⟩, hZ⟩⟩⟩
  · rw [gI_pI, if_neg (by omega)]; rfl
  · rw [gI_pI, if_neg (by omega)]; rfl
/-- both end -/
theorem ov_go {τ μ0 : S5} {F k T : Nat} {pa nv D E : Nat → Nat} {σs μs : S5} {t0 : Nat} {σ μ : S5} {n : Nat} {tg ct : Nat → Nat} {K : List (Nat × Nat × Nat × Nat × Nat)} {t W V b f e r P R : Nat} (h : MSb τ μ0 F k T pa nv D E σs μs t0 σ μ n tg ct K t W V b f e r P R) {Z : Nat} {a b' : Int32} (ha : ¬ a = 0) {Fc Fm : Option (Unit × S5)} (hc : Fc = f_X3_endWith a b' σ) (hm : Fm = f_X12_ends a b' μ) : GOt τ μ0 F k T pa nv D E σs μs t0 Z σ Fc Fm := by
  obtain ⟨⟨f1, f2, -⟩, -, ⟨hn, h0⟩, ⟨-, m5, -, m7, -⟩, -⟩ := h
  obtain ⟨τ', ν, w1, w2, w3, w4, w5, -⟩ := end_go hn h0 a b' ha
  refine ⟨τ', ν, hc.trans w1, hm.trans w2, ⟨Nat.le_of_eq (congrFun w4.2.2.2.2 1).symm, Nat.le_of_eq (congrFun w4.2.2.2.2 3).symm⟩, Or.inr ⟨w3, f1.tr w4.fm, f2.tr w5.fm, ?_, ?_⟩⟩
  · rw [show gN τ' 1 = gN σ 1 from congrFun w4.2.2.2.2 1]; exact m5
  · rw [show gN τ' 3 = gN σ 3 from congrFun w4.2.2.2.2 3]; exact m7
