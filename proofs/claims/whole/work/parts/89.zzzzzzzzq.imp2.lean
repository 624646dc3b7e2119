/-- what demand knows of the lifted functions -/
def DX (τ : S5) (pa : Nat → Nat) (rt : Nat → Int32) (nv : Nat → Nat) (F : Nat) : Prop := F ≤ 630 ∧ (∀ g, g < F → xA τ 3 (nI g) = nI (pa g) ∧ pa g ≤ 8) ∧ (∀ g, F ≤ g → 8 < pa g) ∧ ∀ g, g < F → xA τ 7 (nI g) = rt g ∧ xA τ 6 (nI g) = nI (nv g) ∧ nv g ≤ 40 ∧ hF τ (rt g) ≤ 40 ∧ (∃ hi, VS τ (rt g) (fun x => x < pa g) (pa g) hi ∧ hi ≤ nv g) ∧ Rg τ F 41 (rt g)
/-- the rows that demand reads -/
def TF2 (τ σ : S5) : Prop := TE τ σ ∧ (∀ x, xA σ 7 x = xA τ 7 x) ∧ ∀ x, xA σ 6 x = xA τ 6 x
theorem TF2.of {τ σ σ' : S5} (h : TF2 τ σ) (e : ∀ j, gA σ' j = gA σ j) : TF2 τ σ' := by
  have ex : ∀ j i, xA σ' j i = xA σ j i := fun j i => by show gA σ' j _ = gA σ j _; rw [e]
  exact ⟨h.1.of e, fun x => by rw [ex]; exact h.2.1 x, fun x => by rw [ex]; exact h.2.2 x⟩
theorem rw_256 {ρ : Nat → Bool} {p : Nat} (hp : p ≤ 8) : rwN ρ p < 256 := by
  have h1 := rwN_lt ρ p
  have h2 : (2 : Nat) ^ p ≤ 2 ^ 8 := Nat.pow_le_pow_right (by omega) hp
  have h3 : (2 : Nat) ^ 8 = 256 := by decide
  omega
theorem TBc_set {σ σ' : S5} {pa : Nat → Nat} {F f w : Nat} {r : Int64} (hF6 : F ≤ 630) (hpF : ∀ g, F ≤ g → 8 < pa g) (hf : f < F) (hp : pa f ≤ 8) (hw : w < 4) (h1 : xB σ' 5 (nI (4 * f + w)) = r) (h2 : ∀ x, x < 2520 → ¬ x = 4 * f + w → xB σ' 5 (nI x) = xB σ 5 (nI x)) (g : Nat) (ρ : Nat → Bool) : TBc σ' pa g ρ = if g = f ∧ rwN ρ (pa g) / 64 = w then lb r (rwN ρ (pa g) % 64) else TBc σ pa g ρ := by
  unfold TBc
  by_cases hg : g < F
  · by_cases hp8 : pa g ≤ 8
    · have h256 := rw_256 (ρ := ρ) hp8
      rw [decide_eq_true hp8, Bool.true_and, Bool.true_and]
      by_cases hc : g = f ∧ rwN ρ (pa g) / 64 = w
      · obtain ⟨rfl, hc2⟩ := hc
        rw [if_pos ⟨rfl, hc2⟩, hc2, h1]
      · rw [if_neg hc, h2 _ (by omega) (by omega)]
    · rw [decide_eq_false hp8, Bool.false_and, Bool.false_and, if_neg (fun z => hp8 (by rw [z.1]; exact hp))]
  · have := hpF g (by omega)
    rw [decide_eq_false (by omega), Bool.false_and, Bool.false_and, if_neg (fun z => hg (by rw [z.1]; exact hf))]
/-- rows that no lane stands for are not set -/
def Mk (σ : S5) (pa : Nat → Nat) (F : Nat) : Prop := ∀ f, f < F → ∀ w, w < 4 → ∀ l, l < 64 → lb (xB σ 5 (nI (4 * f + w))) l = true → 64 * w + l < 2 ^ pa f
/-- in a round -/
def RI (τ : S5) (pa : Nat → Nat) (rt : Nat → Int32) (F r : Nat) (σ0 σ : S5) (v : Int32) (Dn : Nat → Nat → Prop) : Prop := FrI σ0 σ ∧ (v = 0 ∨ v = 1) ∧ (∃ k, TLe (TBc σ pa) (Tj τ pa rt 41 k)) ∧ TLe (Tj τ pa rt 41 r) (TBc σ pa) ∧ (∀ f ρ, f < F → Dn f (rwN ρ (pa f) / 64) → Tj τ pa rt 41 (r + 1) f ρ = true → TBc σ pa f ρ = true) ∧ (v = 0 → (∀ x, x < 2520 → xB σ 5 (nI x) = xB σ0 5 (nI x)) ∧ ∀ f ρ, f < F → Dn f (rwN ρ (pa f) / 64) → ∀ k, TLe (Tj τ pa rt 41 k) (TBc σ0 pa) → Tj τ pa rt 41 (k + 1) f ρ = true → TBc σ0 pa f ρ = true) ∧ (TLe (Tl τ pa rt 41) (TBc σ0 pa) → v = 0) ∧ Mk σ pa F
theorem TBc_eq {σ σ' : S5} {pa : Nat → Nat} {F : Nat} (hF6 : F ≤ 630) (hpF : ∀ g, F ≤ g → 8 < pa g) (h : ∀ x, x < 2520 → xB σ' 5 (nI x) = xB σ 5 (nI x)) : TBc σ' pa = TBc σ pa := by
  funext g ρ
  unfold TBc
  by_cases hp8 : pa g ≤ 8
  · have hg : g < F := by
      by_cases hg : g < F
      · exact hg
      · have := hpF g (by omega); omega
    have h256 := rw_256 (ρ := ρ) hp8
    rw [h _ (by omega)]
  · rw [decide_eq_false hp8, Bool.false_and, Bool.false_and]
/-- lanes and words of a function with p parameters -/
def Lp (p : Nat) : Nat := if p < 6 then 2 ^ p else 64
def Wp (p : Nat) : Nat := if 6 < p then 2 ^ (p - 6) else 1
theorem lw_row : ∀ p, p ≤ 8 → ∀ w, w < Wp p → ∀ l, l < 64 → (l < Lp p ↔ 64 * w + l < 2 ^ p) := by decide
theorem lw_col : ∀ p, p ≤ 8 → Lp p ≤ 64 ∧ Wp p ≤ 4 ∧ 2 ^ p ≤ 64 * Wp p := by decide
/-- one word of a function's table is found anew -/
theorem RI.step {τ : S5} {pa : Nat → Nat} {rt : Nat → Int32} {nv : Nat → Nat} {F r : Nat} {σ0 σ σs σt σ' : S5} {v u : Int32} {f w : Nat} {x : Int64} {Dn Dn' : Nat → Nat → Prop} (hD : DX τ pa rt nv F) (hf : f < F) (hw : w < Wp (pa f)) (hI : RI τ pa rt F r σ0 σ v Dn) (hs5 : ∀ y, xB σs 5 y = xB σ 5 y) (hs6 : ∀ y, y < pa f → xB σs 6 (nI y) = lwd w y) (hS : SetR τ pa 41 (Lp (pa f)) (TBc σs pa) (fun y => y < pa f) (rt f) σs x) (ht5 : ∀ y, xB σt 5 y = xB σ 5 y) (hfr : FrI σ σt) (hu : (u = 0 ∧ x = xB σ 5 (nI (4 * f + w))) ∨ (u = 1 ∧ ¬ x = xB σ 5 (nI (4 * f + w)))) (hσ' : σ' = pB σt 5 (nI (4 * f + w)) x) (hDn : ∀ g y, Dn' g y → Dn g y ∨ (g = f ∧ y = w)) : RI τ pa rt F r σ0 σ' (v ||| u) Dn' := by
  obtain ⟨hF6, hpa, hpF, hX⟩ := hD
  obtain ⟨a1, a2, ⟨k0, a3⟩, a4, a5, a6, a7, a8⟩ := hI
  obtain ⟨p1, p2⟩ := hpa f hf
  obtain ⟨c1, c2, c3⟩ := lw_col (pa f) p2
  have hw4 : w < 4 := by omega
  have e1 : xB σ' 5 (nI (4 * f + w)) = x := by rw [hσ', xB_pB, if_pos ⟨rfl, rfl⟩]
  have e2 : ∀ y, y < 2520 → ¬ y = 4 * f + w → xB σ' 5 (nI y) = xB σ 5 (nI y) := fun y hy hn => by
    rw [hσ', xB_pB, if_neg (fun z => tn_neL (a := y) (b := 4 * f + w) (by omega) (by omega) hn z.2)]
    exact ht5 _
  have eT := TBc_set (σ := σ) (σ' := σ') hF6 hpF hf p2 hw4 e1 e2
  have eTs : TBc σs pa = TBc σ pa := TBc_eq hF6 hpF (fun y _ => hs5 _)
  rw [eTs] at hS
  have hXL : ∀ ρ, rwN ρ (pa f) / 64 = w → ∀ y, y < pa f → XL σs (rwN ρ (pa f) % 64) y = ρ y := fun ρ hr y hy => by
    unfold XL
    rw [hs6 y hy, lwd_bit w hw4 y (by omega) _ (by omega), show 64 * w + rwN ρ (pa f) % 64 = rwN ρ (pa f) by omega]
    exact rwN_bit ρ (pa f) y hy
  have hup : ∀ k ρ, rwN ρ (pa f) / 64 = w → TLe (TBc σ pa) (Tj τ pa rt 41 k) → lb x (rwN ρ (pa f) % 64) = true → Tj τ pa rt 41 (k + 1) f ρ = true := fun k ρ hr hT hb => hS.up (by omega) p2 (hXL ρ hr) hT hb
  have hrl : ∀ ρ, rwN ρ (pa f) / 64 = w → rwN ρ (pa f) % 64 < Lp (pa f) := fun ρ hr => (lw_row (pa f) p2 w hw _ (by omega)).mpr (by have := rwN_lt ρ (pa f); omega)
  have hlo : ∀ k ρ, rwN ρ (pa f) / 64 = w → TLe (Tj τ pa rt 41 k) (TBc σ pa) → Tj τ pa rt 41 (k + 1) f ρ = true → lb x (rwN ρ (pa f) % 64) = true := fun k ρ hr hT hj => hS.lo (by omega) (hrl ρ hr) (hXL ρ hr) hT hj
  have hfr' : FrI σ0 σ' := by
    refine (a1.tr hfr).tr ?_
    rw [hσ']
    exact ⟨fun _ _ _ => rfl, fun _ => rfl, fun _ => rfl, fun j h5 _ _ => gB_ne _ _ _ h5, rfl⟩
  have hsame : TLe (Tl τ pa rt 41) (TBc σ0 pa) → u = 0 := fun hTl => by
    have hv := a7 hTl
    have h50 := (a6 hv).1
    have eT0 : TBc σ pa = TBc σ0 pa := TBc_eq hF6 hpF h50
    rcases hu with ⟨w1, -⟩ | ⟨-, w2⟩
    · exact w1
    · refine absurd (lb_ext (fun l hl => ?_)) w2
      by_cases hlL : l < Lp (pa f)
      · have hrow := (lw_row (pa f) p2 w hw l hl).mp hlL
        obtain ⟨ρ, hρ⟩ : ∃ ρ, rwN ρ (pa f) = 64 * w + l := ⟨_, rwN_of hrow⟩
        have hd : rwN ρ (pa f) / 64 = w := by omega
        have hm : rwN ρ (pa f) % 64 = l := by omega
        have et : TBc σ pa f ρ = lb (xB σ 5 (nI (4 * f + w))) l := by
          unfold TBc
          rw [decide_eq_true p2, Bool.true_and, hd, hm]
        rw [← et, ← hm]
        refine Bool.eq_iff_iff.mpr ⟨fun z => ?_, fun z => ?_⟩
        · have := hup k0 ρ hd a3 z
          rw [eT0]
          exact hTl f ρ (Tj_Tl τ pa rt 41 _ f ρ this)
        · refine hlo k0 ρ hd (fun g ρ' z' => ?_) (Tj_le τ pa rt 41 k0 f ρ (a3 f ρ z))
          rw [eT0]
          exact hTl g ρ' (Tj_Tl τ pa rt 41 _ g ρ' z')
      · have h1 : lb x l = false := by
          cases e : lb x l with
          | false => rfl
          | true => exact absurd ((hS l hl).1 e) hlL
        have h2 : lb (xB σ 5 (nI (4 * f + w))) l = false := by
          cases e : lb (xB σ 5 (nI (4 * f + w))) l with
          | false => rfl
          | true => exact absurd ((lw_row (pa f) p2 w hw l hl).mpr (a8 f hf w hw4 l hl e)) hlL
        rw [h1, h2]
  refine ⟨hfr', ?_, ⟨k0 + 1, fun g ρ hT => ?_⟩, fun g ρ hj => ?_, fun g ρ hg hdn hj => ?_, fun hv => ?_, fun hTl => ?_, fun g hg y hy l hl hb => ?_⟩
  · rcases a2 with k | k <;> rw [k] <;> rcases hu with ⟨k2, -⟩ | ⟨k2, -⟩ <;> rw [k2] <;> decide
  · rw [eT] at hT
    by_cases hc : g = f ∧ rwN ρ (pa g) / 64 = w
    · obtain ⟨rfl, hc⟩ := hc
      rw [if_pos ⟨rfl, hc⟩] at hT
      exact hup k0 ρ hc a3 hT
    · rw [if_neg hc] at hT
      exact Tj_le τ pa rt 41 k0 g ρ (a3 g ρ hT)
  · rw [eT]
    by_cases hc : g = f ∧ rwN ρ (pa g) / 64 = w
    · obtain ⟨rfl, hc⟩ := hc
      rw [if_pos ⟨rfl, hc⟩]
      exact hlo r ρ hc a4 (Tj_le τ pa rt 41 r g ρ hj)
    · rw [if_neg hc]
      exact a4 g ρ hj
  · rw [eT]
    by_cases hc : g = f ∧ rwN ρ (pa g) / 64 = w
    · obtain ⟨rfl, hc⟩ := hc
      rw [if_pos ⟨rfl, hc⟩]
      exact hlo r ρ hc a4 hj
    · rw [if_neg hc]
      rcases hDn _ _ hdn with z | z
      · exact a5 g ρ hg z hj
      · exact absurd z hc
  · have hv0 : v = 0 := by
      rcases a2 with k | k
      · exact k
      · rw [k] at hv
        rcases hu with ⟨k2, -⟩ | ⟨k2, -⟩ <;> rw [k2] at hv <;> exact absurd hv (by decide)
    have hx : x = xB σ 5 (nI (4 * f + w)) := by
      rcases hu with ⟨-, k2⟩ | ⟨k2, -⟩
      · exact k2
      · rw [hv0, k2] at hv; exact absurd hv (by decide)
    obtain ⟨b1, b2⟩ := a6 hv0
    have eT0 : TBc σ pa = TBc σ0 pa := TBc_eq hF6 hpF b1
    refine ⟨fun y hy => ?_, fun g ρ hg hdn k hT hj => ?_⟩
    · by_cases hyw : y = 4 * f + w
      · rw [hyw, e1, hx, ← hyw]
        exact b1 y hy
      · rw [e2 y hy hyw]
        exact b1 y hy
    · rcases hDn _ _ hdn with z | ⟨rfl, z⟩
      · exact b2 g ρ hg z k hT hj
      · have := hlo k ρ z (by rw [eT0]; exact hT) hj
        rw [← eT0]
        unfold TBc
        rw [decide_eq_true p2, Bool.true_and, z, ← hx]
        exact this
  · rw [a7 hTl, hsame hTl]
    rfl
  · by_cases hc : 4 * g + y = 4 * f + w
    · have : g = f := by omega
      have : y = w := by omega
      subst this
      subst g
      rw [e1] at hb
      exact (lw_row (pa f) p2 y hw l hl).mp ((hS l hl).1 hb)
    · rw [e2 _ (by omega) hc] at hb
      exact a8 g hg y hy l hl hb
