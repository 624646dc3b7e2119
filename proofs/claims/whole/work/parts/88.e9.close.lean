



theorem k3_X5_readExpression (l : Launch) (dC : Nat → ClassId) (dI : Nat → Nat → Nat) {ak : Nat → Nat} (ad : Nat → Nat) (kc : Nat → ClassId) (sv : Value) : ∀ (d : Nat) (σ τ : S5) (r : Int32), f_readE d σ = some (r, τ) → ∀ sz : Nat, Met l yX5_readExpression (Cond.code yX5_readExpression cX5_readExpression 1 (some .int) :: uG) { frames := 13 * d, cells := 0, slots := 0, locals := 294 * d } (gPc (dC, dI) (tC kc) (wC ad kc sv) (zC ak) [.ref (ad 5)] σ sz) (gQi (dC, dI) (tC kc) (wC ad kc sv) (va_A (wC ad kc sv σ) sz) r τ) 0 0 (va_A (wC ad kc sv σ) sz) := by
  intro d
  induction d with
  | zero => intro σ τ r hg; cases hg
  | succ d ih => intro σ τ r hg sz; exact k2_X5_readExpression l dC dI ad kc sv ih hg sz
theorem k3_X1_wordOf (l : Launch) (dC : Nat → ClassId) (dI : Nat → Nat → Nat) {ak : Nat → Nat} (ad : Nat → Nat) (kc : Nat → ClassId) (sv : Value) : ∀ (d : Nat) (a1 : Int32) (σ τ : S5) (r : Int64), f_wordE d a1 σ = some (r, τ) → ∀ sz : Nat, Met l yX1_wordOf (Cond.code yX1_wordOf cX1_wordOf 3 (some .long) :: uG) { frames := 3 * d, cells := 0, slots := 0, locals := 78 * d } (gPc (dC, dI) (tC kc) (wC ad kc sv) (zC ak) [.ref (ad 8), .int a1] σ sz) (gQl (dC, dI) (tC kc) (wC ad kc sv) (va_A (wC ad kc sv σ) sz) r τ) 0 0 (va_A (wC ad kc sv σ) sz) := by
  intro d
  induction d with
  | zero => intro a1 σ τ r hg; cases hg
  | succ d ih => intro a1 σ τ r hg sz; exact k2_X1_wordOf l dC dI ad kc sv ih hg sz
theorem k3_X7_writePart (l : Launch) (dC : Nat → ClassId) (dI : Nat → Nat → Nat) {ak : Nat → Nat} (ad : Nat → Nat) (kc : Nat → ClassId) (sv : Value) : ∀ (d : Nat) (a1 : Int32) (σ τ : S5) (r : Unit), f_writeE d a1 σ = some (r, τ) → ∀ sz : Nat, Met l yX7_writePart (Cond.code yX7_writePart cX7_writePart 3 none :: uG) { frames := 7 * d, cells := 0, slots := 0, locals := 152 * d } (gPc (dC, dI) (tC kc) (wC ad kc sv) (zC ak) [.ref (ad 9), .int a1] σ sz) (gQv (dC, dI) (tC kc) (wC ad kc sv) (va_A (wC ad kc sv σ) sz) r τ) 0 0 (va_A (wC ad kc sv σ) sz) := by
  intro d
  induction d with
  | zero => intro a1 σ τ r hg; cases hg
  | succ d ih => intro a1 σ τ r hg sz; exact k2_X7_writePart l dC dI ad kc sv ih hg sz

