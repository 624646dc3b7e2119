


def wK (ad : Nat → Nat) (kc : Nat → ClassId) (sa va : Nat) (σ : S5) : va_W := [(ad 0, .inr (6, [.ref (ad 3), .ref (ad 2), .ref (ad 4), .ref (ad 5), .ref (ad 6), .ref (ad 7), .ref (ad 1), .ref sa, .int (gI σ 40), .ref va, .int (gI σ 41), .int (gI σ 42), .int (gI σ 43), .int (gI σ 44), .long (gJ σ 5), .int (gI σ 45), .int (gI σ 46), .int (gI σ 47)])),
  (ad 1, .inr (3, [.ref (ad 10), .ref (ad 4)])),
  (ad 2, .inr (7, [.ref (ad 11), .ref (ad 12), .int (gI σ 4), .ref (ad 13), .int (gI σ 5), .int (gI σ 6), .int (gI σ 7), .ref (ad 14), .ref (ad 15), .ref (ad 16), .ref (ad 17), .ref (ad 18), .ref (ad 19), .ref (ad 20), .ref (ad 21), .ref (ad 22), .ref (ad 23)])),
  (ad 3, .inr (12, [.ref (ad 24), .ref (ad 25), .ref (ad 26), .ref (ad 27), .ref (ad 28), .ref (ad 29), .ref (ad 30), .ref (ad 31), .int (gI σ 8)])),
  (ad 4, .inl (kc 4, 10, .inl (gA σ 40))),
  (ad 5, .inl (kc 5, 630, .inl (gA σ 41))),
  (ad 6, .inl (kc 6, 1000, .inl (gA σ 42))),
  (ad 7, .inl (kc 7, 30, .inl (gA σ 43))),
  (sa, .inl (kc 8, (gN σ 1), .inr (.inl (gB σ 12)))),
  (va, .inl (kc 9, (gN σ 3), .inr (.inl (gB σ 13)))),
  (ad 10, .inl (kc 10, 4000, .inr (.inl (gB σ 14)))),
  (ad 11, .inl (kc 11, 30, .inr (.inl (gB σ 0)))),
  (ad 12, .inl (kc 12, 30, .inl (gA σ 2))),
  (ad 13, .inl (kc 13, 30, .inr (.inl (gB σ 1)))),
  (ad 14, .inl (kc 14, 630, .inl (gA σ 3))),
  (ad 15, .inl (kc 15, 630, .inl (gA σ 4))),
  (ad 16, .inl (kc 16, 5040, .inl (gA σ 5))),
  (ad 17, .inl (kc 17, 630, .inl (gA σ 6))),
  (ad 18, .inl (kc 18, 630, .inl (gA σ 7))),
  (ad 19, .inl (kc 19, 630, .inl (gA σ 8))),
  (ad 20, .inl (kc 20, 630, .inl (gA σ 9))),
  (ad 21, .inl (kc 21, 630, .inl (gA σ 10))),
  (ad 22, .inl (kc 22, 630, .inl (gA σ 11))),
  (ad 23, .inl (kc 23, 630, .inl (gA σ 12))),
  (ad 24, .inl (kc 24, 6200, .inl (gA σ 13))),
  (ad 25, .inl (kc 25, 6200, .inl (gA σ 14))),
  (ad 26, .inl (kc 26, 6200, .inl (gA σ 15))),
  (ad 27, .inl (kc 27, 6200, .inl (gA σ 16))),
  (ad 28, .inl (kc 28, 6200, .inl (gA σ 17))),
  (ad 29, .inl (kc 29, 6200, .inl (gA σ 18))),
  (ad 30, .inl (kc 30, 6200, .inl (gA σ 19))),
  (ad 31, .inl (kc 31, 6200, .inr (.inl (gB σ 2))))]
def tK (kc : Nat → ClassId) : List (ClassId × FieldType) := [(kc 4, .int), (kc 5, .int), (kc 6, .int), (kc 7, .int), (kc 8, .long), (kc 9, .long), (kc 10, .long), (kc 11, .long), (kc 12, .int), (kc 13, .long), (kc 14, .int), (kc 15, .int), (kc 16, .int), (kc 17, .int), (kc 18, .int), (kc 19, .int), (kc 20, .int), (kc 21, .int), (kc 22, .int), (kc 23, .int), (kc 24, .int), (kc 25, .int), (kc 26, .int), (kc 27, .int), (kc 28, .int), (kc 29, .int), (kc 30, .int), (kc 31, .long)]
section SEMK
variable {p : Program} {l : Launch} {e : Env} {R : Room} {s : State} {m : MethodId} {args : Array Value} {below : List Frame} {meth : Method} {c : Code} {H : Heap} {locs : List Loc} {cells slots : Nat} {Q : State → Prop}
variable {cc : ByteArray} {nL pc : Nat} {own : String} {ls : Array Slot} {rest : List Value} {dC : Nat → ClassId} {dI : Nat → Nat → Nat} {Z : ZZ} {A : Nat → Prop} {σ : S5} {ad : Nat → Nat} {kc : Nat → ClassId} {sa va : Nat}
theorem wkgR_0_0 {idx : Nat} (S : CallFix p m c cc nL s args uG own) (X : gX (dC, dI) (tK kc) (wK ad kc sa va) Z A s σ H locs) (hf : Cond.fieldLink own idx "LazyForge$Machine" "tree" "LLazyForge$Tree;" ∈ uG) (hd : decode cc pc = .ok (.getfield idx, 3))
    (k : W p l e R s m args below meth c H locs cells slots Q (F0 m (pc + 3) ls (.ref (ad 3) :: rest))) : W p l e R s m args below meth c H locs cells slots Q (F0 m pc ls (.ref (ad 0) :: rest)) := by
  obtain ⟨hx, hb, hml, hown, hu⟩ := S
  obtain ⟨hK, hP, hD, hS, hA⟩ := X
  exact va_get (D := (dC, dI)) (ci := 6) (v := .ref (ad 3)) (C := RX3) (T := TX3) (N := 18) hx hb hu iuX3 hown hK hP 0 rfl rfl 0 (by decide) (hu _ hf) (fun _ h9 => h9) rfl hd k
theorem wkgR_0_1 {idx : Nat} (S : CallFix p m c cc nL s args uG own) (X : gX (dC, dI) (tK kc) (wK ad kc sa va) Z A s σ H locs) (hf : Cond.fieldLink own idx "LazyForge$Machine" "program" "LLazyForge$Program;" ∈ uG) (hd : decode cc pc = .ok (.getfield idx, 3))
    (k : W p l e R s m args below meth c H locs cells slots Q (F0 m (pc + 3) ls (.ref (ad 2) :: rest))) : W p l e R s m args below meth c H locs cells slots Q (F0 m pc ls (.ref (ad 0) :: rest)) := by
  obtain ⟨hx, hb, hml, hown, hu⟩ := S
  obtain ⟨hK, hP, hD, hS, hA⟩ := X
  exact va_get (D := (dC, dI)) (ci := 6) (v := .ref (ad 2)) (C := RX3) (T := TX3) (N := 18) hx hb hu iuX3 hown hK hP 0 rfl rfl 1 (by decide) (hu _ hf) (fun _ h9 => h9) rfl hd k
theorem wkgR_0_2 {idx : Nat} (S : CallFix p m c cc nL s args uG own) (X : gX (dC, dI) (tK kc) (wK ad kc sa va) Z A s σ H locs) (hf : Cond.fieldLink own idx "LazyForge$Machine" "counts" "[I" ∈ uG) (hd : decode cc pc = .ok (.getfield idx, 3))
    (k : W p l e R s m args below meth c H locs cells slots Q (F0 m (pc + 3) ls (.ref (ad 4) :: rest))) : W p l e R s m args below meth c H locs cells slots Q (F0 m pc ls (.ref (ad 0) :: rest)) := by
  obtain ⟨hx, hb, hml, hown, hu⟩ := S
  obtain ⟨hK, hP, hD, hS, hA⟩ := X
  exact va_get (D := (dC, dI)) (ci := 6) (v := .ref (ad 4)) (C := RX3) (T := TX3) (N := 18) hx hb hu iuX3 hown hK hP 0 rfl rfl 2 (by decide) (hu _ hf) (fun _ h9 => h9) rfl hd k
theorem wkgR_0_3 {idx : Nat} (S : CallFix p m c cc nL s args uG own) (X : gX (dC, dI) (tK kc) (wK ad kc sa va) Z A s σ H locs) (hf : Cond.fieldLink own idx "LazyForge$Machine" "timesCalled" "[I" ∈ uG) (hd : decode cc pc = .ok (.getfield idx, 3))
    (k : W p l e R s m args below meth c H locs cells slots Q (F0 m (pc + 3) ls (.ref (ad 5) :: rest))) : W p l e R s m args below meth c H locs cells slots Q (F0 m pc ls (.ref (ad 0) :: rest)) := by
  obtain ⟨hx, hb, hml, hown, hu⟩ := S
  obtain ⟨hK, hP, hD, hS, hA⟩ := X
  exact va_get (D := (dC, dI)) (ci := 6) (v := .ref (ad 5)) (C := RX3) (T := TX3) (N := 18) hx hb hu iuX3 hown hK hP 0 rfl rfl 3 (by decide) (hu _ hf) (fun _ h9 => h9) rfl hd k
theorem wkgR_0_4 {idx : Nat} (S : CallFix p m c cc nL s args uG own) (X : gX (dC, dI) (tK kc) (wK ad kc sa va) Z A s σ H locs) (hf : Cond.fieldLink own idx "LazyForge$Machine" "row" "[I" ∈ uG) (hd : decode cc pc = .ok (.getfield idx, 3))
    (k : W p l e R s m args below meth c H locs cells slots Q (F0 m (pc + 3) ls (.ref (ad 6) :: rest))) : W p l e R s m args below meth c H locs cells slots Q (F0 m pc ls (.ref (ad 0) :: rest)) := by
  obtain ⟨hx, hb, hml, hown, hu⟩ := S
  obtain ⟨hK, hP, hD, hS, hA⟩ := X
  exact va_get (D := (dC, dI)) (ci := 6) (v := .ref (ad 6)) (C := RX3) (T := TX3) (N := 18) hx hb hu iuX3 hown hK hP 0 rfl rfl 4 (by decide) (hu _ hf) (fun _ h9 => h9) rfl hd k
theorem wkgR_0_5 {idx : Nat} (S : CallFix p m c cc nL s args uG own) (X : gX (dC, dI) (tK kc) (wK ad kc sa va) Z A s σ H locs) (hf : Cond.fieldLink own idx "LazyForge$Machine" "global" "[I" ∈ uG) (hd : decode cc pc = .ok (.getfield idx, 3))
    (k : W p l e R s m args below meth c H locs cells slots Q (F0 m (pc + 3) ls (.ref (ad 7) :: rest))) : W p l e R s m args below meth c H locs cells slots Q (F0 m pc ls (.ref (ad 0) :: rest)) := by
  obtain ⟨hx, hb, hml, hown, hu⟩ := S
  obtain ⟨hK, hP, hD, hS, hA⟩ := X
  exact va_get (D := (dC, dI)) (ci := 6) (v := .ref (ad 7)) (C := RX3) (T := TX3) (N := 18) hx hb hu iuX3 hown hK hP 0 rfl rfl 5 (by decide) (hu _ hf) (fun _ h9 => h9) rfl hd k
theorem wkgR_0_6 {idx : Nat} (S : CallFix p m c cc nL s args uG own) (X : gX (dC, dI) (tK kc) (wK ad kc sa va) Z A s σ H locs) (hf : Cond.fieldLink own idx "LazyForge$Machine" "cells" "LLazyForge$Cells;" ∈ uG) (hd : decode cc pc = .ok (.getfield idx, 3))
    (k : W p l e R s m args below meth c H locs cells slots Q (F0 m (pc + 3) ls (.ref (ad 1) :: rest))) : W p l e R s m args below meth c H locs cells slots Q (F0 m pc ls (.ref (ad 0) :: rest)) := by
  obtain ⟨hx, hb, hml, hown, hu⟩ := S
  obtain ⟨hK, hP, hD, hS, hA⟩ := X
  exact va_get (D := (dC, dI)) (ci := 6) (v := .ref (ad 1)) (C := RX3) (T := TX3) (N := 18) hx hb hu iuX3 hown hK hP 0 rfl rfl 6 (by decide) (hu _ hf) (fun _ h9 => h9) rfl hd k
theorem wkgR_0_7 {idx : Nat} (S : CallFix p m c cc nL s args uG own) (X : gX (dC, dI) (tK kc) (wK ad kc sa va) Z A s σ H locs) (hf : Cond.fieldLink own idx "LazyForge$Machine" "stack" "[J" ∈ uG) (hd : decode cc pc = .ok (.getfield idx, 3))
    (k : W p l e R s m args below meth c H locs cells slots Q (F0 m (pc + 3) ls (.ref sa :: rest))) : W p l e R s m args below meth c H locs cells slots Q (F0 m pc ls (.ref (ad 0) :: rest)) := by
  obtain ⟨hx, hb, hml, hown, hu⟩ := S
  obtain ⟨hK, hP, hD, hS, hA⟩ := X
  exact va_get (D := (dC, dI)) (ci := 6) (v := .ref sa) (C := RX3) (T := TX3) (N := 18) hx hb hu iuX3 hown hK hP 0 rfl rfl 7 (by decide) (hu _ hf) (fun _ h9 => h9) rfl hd k
theorem wkgI_40 {idx : Nat} (S : CallFix p m c cc nL s args uG own) (X : gX (dC, dI) (tK kc) (wK ad kc sa va) Z A s σ H locs) (hf : Cond.fieldLink own idx "LazyForge$Machine" "top" "I" ∈ uG) {v : Int32} (hv : gI σ 40 = v) (hd : decode cc pc = .ok (.getfield idx, 3))
    (k : W p l e R s m args below meth c H locs cells slots Q (F0 m (pc + 3) ls (.int v :: rest))) : W p l e R s m args below meth c H locs cells slots Q (F0 m pc ls (.ref (ad 0) :: rest)) := by
  subst hv
  obtain ⟨hx, hb, hml, hown, hu⟩ := S
  obtain ⟨hK, hP, hD, hS, hA⟩ := X
  exact va_get (D := (dC, dI)) (ci := 6) (v := .int (gI σ 40)) (C := RX3) (T := TX3) (N := 18) hx hb hu iuX3 hown hK hP 0 rfl rfl 8 (by decide) (hu _ hf) (fun _ h9 => h9) rfl hd k
theorem wkpI_40 {idx : Nat} {v : Int32} (S : CallFix p m c cc nL s args uG own) (X : gX (dC, dI) (tK kc) (wK ad kc sa va) Z A s σ H locs) (hf : Cond.fieldLink own idx "LazyForge$Machine" "top" "I" ∈ uG) (hd : decode cc pc = .ok (.putfield idx, 3))
    (k : ∀ (H : Heap) (locs : List Loc), gX (dC, dI) (tK kc) (wK ad kc sa va) Z A s (pI σ 40 v) H locs → W p l e R s m args below meth c H locs cells slots Q (F0 m (pc + 3) ls (rest))) : W p l e R s m args below meth c H locs cells slots Q (F0 m pc ls (.int v :: .ref (ad 0) :: rest)) := by
  obtain ⟨hx, hb, hml, hown, hu⟩ := S
  obtain ⟨hK, hP, hD, hS, hA⟩ := X
  exact va_put (D := (dC, dI)) (ci := 6) (v := .int v) (ty := (tyX3 8)) (C := RX3) (T := TX3) (N := 18) hx hb hu iuX3 tyX3 tyX3_ok nmX3 hown hK hP hD hS 0 rfl rfl 8 (by decide) (hu _ hf) (fun _ h9 => h9) rfl (by decide +kernel) (rfl) (rfl) (Nat.le_of_ble_eq_true rfl) hd (fun H1 locs1 hP1 hD1 hS1 => k H1 locs1 ⟨hK, hP1, hD1, hS1, hA⟩)
theorem wkgR_0_9 {idx : Nat} (S : CallFix p m c cc nL s args uG own) (X : gX (dC, dI) (tK kc) (wK ad kc sa va) Z A s σ H locs) (hf : Cond.fieldLink own idx "LazyForge$Machine" "variables" "[J" ∈ uG) (hd : decode cc pc = .ok (.getfield idx, 3))
    (k : W p l e R s m args below meth c H locs cells slots Q (F0 m (pc + 3) ls (.ref va :: rest))) : W p l e R s m args below meth c H locs cells slots Q (F0 m pc ls (.ref (ad 0) :: rest)) := by
  obtain ⟨hx, hb, hml, hown, hu⟩ := S
  obtain ⟨hK, hP, hD, hS, hA⟩ := X
  exact va_get (D := (dC, dI)) (ci := 6) (v := .ref va) (C := RX3) (T := TX3) (N := 18) hx hb hu iuX3 hown hK hP 0 rfl rfl 9 (by decide) (hu _ hf) (fun _ h9 => h9) rfl hd k
theorem wkgI_41 {idx : Nat} (S : CallFix p m c cc nL s args uG own) (X : gX (dC, dI) (tK kc) (wK ad kc sa va) Z A s σ H locs) (hf : Cond.fieldLink own idx "LazyForge$Machine" "base" "I" ∈ uG) {v : Int32} (hv : gI σ 41 = v) (hd : decode cc pc = .ok (.getfield idx, 3))
    (k : W p l e R s m args below meth c H locs cells slots Q (F0 m (pc + 3) ls (.int v :: rest))) : W p l e R s m args below meth c H locs cells slots Q (F0 m pc ls (.ref (ad 0) :: rest)) := by
  subst hv
  obtain ⟨hx, hb, hml, hown, hu⟩ := S
  obtain ⟨hK, hP, hD, hS, hA⟩ := X
  exact va_get (D := (dC, dI)) (ci := 6) (v := .int (gI σ 41)) (C := RX3) (T := TX3) (N := 18) hx hb hu iuX3 hown hK hP 0 rfl rfl 10 (by decide) (hu _ hf) (fun _ h9 => h9) rfl hd k
theorem wkpI_41 {idx : Nat} {v : Int32} (S : CallFix p m c cc nL s args uG own) (X : gX (dC, dI) (tK kc) (wK ad kc sa va) Z A s σ H locs) (hf : Cond.fieldLink own idx "LazyForge$Machine" "base" "I" ∈ uG) (hd : decode cc pc = .ok (.putfield idx, 3))
    (k : ∀ (H : Heap) (locs : List Loc), gX (dC, dI) (tK kc) (wK ad kc sa va) Z A s (pI σ 41 v) H locs → W p l e R s m args below meth c H locs cells slots Q (F0 m (pc + 3) ls (rest))) : W p l e R s m args below meth c H locs cells slots Q (F0 m pc ls (.int v :: .ref (ad 0) :: rest)) := by
  obtain ⟨hx, hb, hml, hown, hu⟩ := S
  obtain ⟨hK, hP, hD, hS, hA⟩ := X
  exact va_put (D := (dC, dI)) (ci := 6) (v := .int v) (ty := (tyX3 10)) (C := RX3) (T := TX3) (N := 18) hx hb hu iuX3 tyX3 tyX3_ok nmX3 hown hK hP hD hS 0 rfl rfl 10 (by decide) (hu _ hf) (fun _ h9 => h9) rfl (by decide +kernel) (rfl) (rfl) (Nat.le_of_ble_eq_true rfl) hd (fun H1 locs1 hP1 hD1 hS1 => k H1 locs1 ⟨hK, hP1, hD1, hS1, hA⟩)
theorem wkgI_42 {idx : Nat} (S : CallFix p m c cc nL s args uG own) (X : gX (dC, dI) (tK kc) (wK ad kc sa va) Z A s σ H locs) (hf : Cond.fieldLink own idx "LazyForge$Machine" "edge" "I" ∈ uG) {v : Int32} (hv : gI σ 42 = v) (hd : decode cc pc = .ok (.getfield idx, 3))
    (k : W p l e R s m args below meth c H locs cells slots Q (F0 m (pc + 3) ls (.int v :: rest))) : W p l e R s m args below meth c H locs cells slots Q (F0 m pc ls (.ref (ad 0) :: rest)) := by
  subst hv
  obtain ⟨hx, hb, hml, hown, hu⟩ := S
  obtain ⟨hK, hP, hD, hS, hA⟩ := X
  exact va_get (D := (dC, dI)) (ci := 6) (v := .int (gI σ 42)) (C := RX3) (T := TX3) (N := 18) hx hb hu iuX3 hown hK hP 0 rfl rfl 11 (by decide) (hu _ hf) (fun _ h9 => h9) rfl hd k
theorem wkpI_42 {idx : Nat} {v : Int32} (S : CallFix p m c cc nL s args uG own) (X : gX (dC, dI) (tK kc) (wK ad kc sa va) Z A s σ H locs) (hf : Cond.fieldLink own idx "LazyForge$Machine" "edge" "I" ∈ uG) (hd : decode cc pc = .ok (.putfield idx, 3))
    (k : ∀ (H : Heap) (locs : List Loc), gX (dC, dI) (tK kc) (wK ad kc sa va) Z A s (pI σ 42 v) H locs → W p l e R s m args below meth c H locs cells slots Q (F0 m (pc + 3) ls (rest))) : W p l e R s m args below meth c H locs cells slots Q (F0 m pc ls (.int v :: .ref (ad 0) :: rest)) := by
  obtain ⟨hx, hb, hml, hown, hu⟩ := S
  obtain ⟨hK, hP, hD, hS, hA⟩ := X
  exact va_put (D := (dC, dI)) (ci := 6) (v := .int v) (ty := (tyX3 11)) (C := RX3) (T := TX3) (N := 18) hx hb hu iuX3 tyX3 tyX3_ok nmX3 hown hK hP hD hS 0 rfl rfl 11 (by decide) (hu _ hf) (fun _ h9 => h9) rfl (by decide +kernel) (rfl) (rfl) (Nat.le_of_ble_eq_true rfl) hd (fun H1 locs1 hP1 hD1 hS1 => k H1 locs1 ⟨hK, hP1, hD1, hS1, hA⟩)
theorem wkgI_43 {idx : Nat} (S : CallFix p m c cc nL s args uG own) (X : gX (dC, dI) (tK kc) (wK ad kc sa va) Z A s σ H locs) (hf : Cond.fieldLink own idx "LazyForge$Machine" "function" "I" ∈ uG) {v : Int32} (hv : gI σ 43 = v) (hd : decode cc pc = .ok (.getfield idx, 3))
    (k : W p l e R s m args below meth c H locs cells slots Q (F0 m (pc + 3) ls (.int v :: rest))) : W p l e R s m args below meth c H locs cells slots Q (F0 m pc ls (.ref (ad 0) :: rest)) := by
  subst hv
  obtain ⟨hx, hb, hml, hown, hu⟩ := S
  obtain ⟨hK, hP, hD, hS, hA⟩ := X
  exact va_get (D := (dC, dI)) (ci := 6) (v := .int (gI σ 43)) (C := RX3) (T := TX3) (N := 18) hx hb hu iuX3 hown hK hP 0 rfl rfl 12 (by decide) (hu _ hf) (fun _ h9 => h9) rfl hd k
theorem wkpI_43 {idx : Nat} {v : Int32} (S : CallFix p m c cc nL s args uG own) (X : gX (dC, dI) (tK kc) (wK ad kc sa va) Z A s σ H locs) (hf : Cond.fieldLink own idx "LazyForge$Machine" "function" "I" ∈ uG) (hd : decode cc pc = .ok (.putfield idx, 3))
    (k : ∀ (H : Heap) (locs : List Loc), gX (dC, dI) (tK kc) (wK ad kc sa va) Z A s (pI σ 43 v) H locs → W p l e R s m args below meth c H locs cells slots Q (F0 m (pc + 3) ls (rest))) : W p l e R s m args below meth c H locs cells slots Q (F0 m pc ls (.int v :: .ref (ad 0) :: rest)) := by
  obtain ⟨hx, hb, hml, hown, hu⟩ := S
  obtain ⟨hK, hP, hD, hS, hA⟩ := X
  exact va_put (D := (dC, dI)) (ci := 6) (v := .int v) (ty := (tyX3 12)) (C := RX3) (T := TX3) (N := 18) hx hb hu iuX3 tyX3 tyX3_ok nmX3 hown hK hP hD hS 0 rfl rfl 12 (by decide) (hu _ hf) (fun _ h9 => h9) rfl (by decide +kernel) (rfl) (rfl) (Nat.le_of_ble_eq_true rfl) hd (fun H1 locs1 hP1 hD1 hS1 => k H1 locs1 ⟨hK, hP1, hD1, hS1, hA⟩)
theorem wkgI_44 {idx : Nat} (S : CallFix p m c cc nL s args uG own) (X : gX (dC, dI) (tK kc) (wK ad kc sa va) Z A s σ H locs) (hf : Cond.fieldLink own idx "LazyForge$Machine" "node" "I" ∈ uG) {v : Int32} (hv : gI σ 44 = v) (hd : decode cc pc = .ok (.getfield idx, 3))
    (k : W p l e R s m args below meth c H locs cells slots Q (F0 m (pc + 3) ls (.int v :: rest))) : W p l e R s m args below meth c H locs cells slots Q (F0 m pc ls (.ref (ad 0) :: rest)) := by
  subst hv
  obtain ⟨hx, hb, hml, hown, hu⟩ := S
  obtain ⟨hK, hP, hD, hS, hA⟩ := X
  exact va_get (D := (dC, dI)) (ci := 6) (v := .int (gI σ 44)) (C := RX3) (T := TX3) (N := 18) hx hb hu iuX3 hown hK hP 0 rfl rfl 13 (by decide) (hu _ hf) (fun _ h9 => h9) rfl hd k
theorem wkpI_44 {idx : Nat} {v : Int32} (S : CallFix p m c cc nL s args uG own) (X : gX (dC, dI) (tK kc) (wK ad kc sa va) Z A s σ H locs) (hf : Cond.fieldLink own idx "LazyForge$Machine" "node" "I" ∈ uG) (hd : decode cc pc = .ok (.putfield idx, 3))
    (k : ∀ (H : Heap) (locs : List Loc), gX (dC, dI) (tK kc) (wK ad kc sa va) Z A s (pI σ 44 v) H locs → W p l e R s m args below meth c H locs cells slots Q (F0 m (pc + 3) ls (rest))) : W p l e R s m args below meth c H locs cells slots Q (F0 m pc ls (.int v :: .ref (ad 0) :: rest)) := by
  obtain ⟨hx, hb, hml, hown, hu⟩ := S
  obtain ⟨hK, hP, hD, hS, hA⟩ := X
  exact va_put (D := (dC, dI)) (ci := 6) (v := .int v) (ty := (tyX3 13)) (C := RX3) (T := TX3) (N := 18) hx hb hu iuX3 tyX3 tyX3_ok nmX3 hown hK hP hD hS 0 rfl rfl 13 (by decide) (hu _ hf) (fun _ h9 => h9) rfl (by decide +kernel) (rfl) (rfl) (Nat.le_of_ble_eq_true rfl) hd (fun H1 locs1 hP1 hD1 hS1 => k H1 locs1 ⟨hK, hP1, hD1, hS1, hA⟩)
theorem wkgJ_5 {idx : Nat} (S : CallFix p m c cc nL s args uG own) (X : gX (dC, dI) (tK kc) (wK ad kc sa va) Z A s σ H locs) (hf : Cond.fieldLink own idx "LazyForge$Machine" "value" "J" ∈ uG) {v : Int64} (hv : gJ σ 5 = v) (hd : decode cc pc = .ok (.getfield idx, 3))
    (k : W p l e R s m args below meth c H locs cells slots Q (F0 m (pc + 3) ls (.long v :: rest))) : W p l e R s m args below meth c H locs cells slots Q (F0 m pc ls (.ref (ad 0) :: rest)) := by
  subst hv
  obtain ⟨hx, hb, hml, hown, hu⟩ := S
  obtain ⟨hK, hP, hD, hS, hA⟩ := X
  exact va_get (D := (dC, dI)) (ci := 6) (v := .long (gJ σ 5)) (C := RX3) (T := TX3) (N := 18) hx hb hu iuX3 hown hK hP 0 rfl rfl 14 (by decide) (hu _ hf) (fun _ h9 => h9) rfl hd k
theorem wkpJ_5 {idx : Nat} {v : Int64} (S : CallFix p m c cc nL s args uG own) (X : gX (dC, dI) (tK kc) (wK ad kc sa va) Z A s σ H locs) (hf : Cond.fieldLink own idx "LazyForge$Machine" "value" "J" ∈ uG) (hd : decode cc pc = .ok (.putfield idx, 3))
    (k : ∀ (H : Heap) (locs : List Loc), gX (dC, dI) (tK kc) (wK ad kc sa va) Z A s (pJ σ 5 v) H locs → W p l e R s m args below meth c H locs cells slots Q (F0 m (pc + 3) ls (rest))) : W p l e R s m args below meth c H locs cells slots Q (F0 m pc ls (.long v :: .ref (ad 0) :: rest)) := by
  obtain ⟨hx, hb, hml, hown, hu⟩ := S
  obtain ⟨hK, hP, hD, hS, hA⟩ := X
  exact va_put (D := (dC, dI)) (ci := 6) (v := .long v) (ty := (tyX3 14)) (C := RX3) (T := TX3) (N := 18) hx hb hu iuX3 tyX3 tyX3_ok nmX3 hown hK hP hD hS 0 rfl rfl 14 (by decide) (hu _ hf) (fun _ h9 => h9) rfl (by decide +kernel) (rfl) (rfl) (Nat.le_of_ble_eq_true rfl) hd (fun H1 locs1 hP1 hD1 hS1 => k H1 locs1 ⟨hK, hP1, hD1, hS1, hA⟩)
theorem wkgI_45 {idx : Nat} (S : CallFix p m c cc nL s args uG own) (X : gX (dC, dI) (tK kc) (wK ad kc sa va) Z A s σ H locs) (hf : Cond.fieldLink own idx "LazyForge$Machine" "working" "Z" ∈ uG) {v : Int32} (hv : gI σ 45 = v) (hd : decode cc pc = .ok (.getfield idx, 3))
    (k : W p l e R s m args below meth c H locs cells slots Q (F0 m (pc + 3) ls (.int v :: rest))) : W p l e R s m args below meth c H locs cells slots Q (F0 m pc ls (.ref (ad 0) :: rest)) := by
  subst hv
  obtain ⟨hx, hb, hml, hown, hu⟩ := S
  obtain ⟨hK, hP, hD, hS, hA⟩ := X
  exact va_get (D := (dC, dI)) (ci := 6) (v := .int (gI σ 45)) (C := RX3) (T := TX3) (N := 18) hx hb hu iuX3 hown hK hP 0 rfl rfl 15 (by decide) (hu _ hf) (fun _ h9 => h9) rfl hd k
theorem wkpI_45 {idx : Nat} {v : Int32} (S : CallFix p m c cc nL s args uG own) (X : gX (dC, dI) (tK kc) (wK ad kc sa va) Z A s σ H locs) (hf : Cond.fieldLink own idx "LazyForge$Machine" "working" "Z" ∈ uG) (hn : v = 0 ∨ v = 1) (hd : decode cc pc = .ok (.putfield idx, 3))
    (k : ∀ (H : Heap) (locs : List Loc), gX (dC, dI) (tK kc) (wK ad kc sa va) Z A s (pI σ 45 v) H locs → W p l e R s m args below meth c H locs cells slots Q (F0 m (pc + 3) ls (rest))) : W p l e R s m args below meth c H locs cells slots Q (F0 m pc ls (.int v :: .ref (ad 0) :: rest)) := by
  obtain ⟨hx, hb, hml, hown, hu⟩ := S
  obtain ⟨hK, hP, hD, hS, hA⟩ := X
  exact va_put (D := (dC, dI)) (ci := 6) (v := .int v) (ty := (tyX3 15)) (C := RX3) (T := TX3) (N := 18) hx hb hu iuX3 tyX3 tyX3_ok nmX3 hown hK hP hD hS 0 rfl rfl 15 (by decide) (hu _ hf) (fun _ h9 => h9) rfl (by decide +kernel) (by rcases hn with rfl | rfl <;> rfl) (by rcases hn with rfl | rfl <;> rfl) (Nat.le_of_ble_eq_true rfl) hd (fun H1 locs1 hP1 hD1 hS1 => k H1 locs1 ⟨hK, hP1, hD1, hS1, hA⟩)
theorem wkgI_46 {idx : Nat} (S : CallFix p m c cc nL s args uG own) (X : gX (dC, dI) (tK kc) (wK ad kc sa va) Z A s σ H locs) (hf : Cond.fieldLink own idx "LazyForge$Machine" "eager" "Z" ∈ uG) {v : Int32} (hv : gI σ 46 = v) (hd : decode cc pc = .ok (.getfield idx, 3))
    (k : W p l e R s m args below meth c H locs cells slots Q (F0 m (pc + 3) ls (.int v :: rest))) : W p l e R s m args below meth c H locs cells slots Q (F0 m pc ls (.ref (ad 0) :: rest)) := by
  subst hv
  obtain ⟨hx, hb, hml, hown, hu⟩ := S
  obtain ⟨hK, hP, hD, hS, hA⟩ := X
  exact va_get (D := (dC, dI)) (ci := 6) (v := .int (gI σ 46)) (C := RX3) (T := TX3) (N := 18) hx hb hu iuX3 hown hK hP 0 rfl rfl 16 (by decide) (hu _ hf) (fun _ h9 => h9) rfl hd k
theorem wkpI_46 {idx : Nat} {v : Int32} (S : CallFix p m c cc nL s args uG own) (X : gX (dC, dI) (tK kc) (wK ad kc sa va) Z A s σ H locs) (hf : Cond.fieldLink own idx "LazyForge$Machine" "eager" "Z" ∈ uG) (hn : v = 0 ∨ v = 1) (hd : decode cc pc = .ok (.putfield idx, 3))
    (k : ∀ (H : Heap) (locs : List Loc), gX (dC, dI) (tK kc) (wK ad kc sa va) Z A s (pI σ 46 v) H locs → W p l e R s m args below meth c H locs cells slots Q (F0 m (pc + 3) ls (rest))) : W p l e R s m args below meth c H locs cells slots Q (F0 m pc ls (.int v :: .ref (ad 0) :: rest)) := by
  obtain ⟨hx, hb, hml, hown, hu⟩ := S
  obtain ⟨hK, hP, hD, hS, hA⟩ := X
  exact va_put (D := (dC, dI)) (ci := 6) (v := .int v) (ty := (tyX3 16)) (C := RX3) (T := TX3) (N := 18) hx hb hu iuX3 tyX3 tyX3_ok nmX3 hown hK hP hD hS 0 rfl rfl 16 (by decide) (hu _ hf) (fun _ h9 => h9) rfl (by decide +kernel) (by rcases hn with rfl | rfl <;> rfl) (by rcases hn with rfl | rfl <;> rfl) (Nat.le_of_ble_eq_true rfl) hd (fun H1 locs1 hP1 hD1 hS1 => k H1 locs1 ⟨hK, hP1, hD1, hS1, hA⟩)
theorem wkgI_47 {idx : Nat} (S : CallFix p m c cc nL s args uG own) (X : gX (dC, dI) (tK kc) (wK ad kc sa va) Z A s σ H locs) (hf : Cond.fieldLink own idx "LazyForge$Machine" "callsMost" "I" ∈ uG) {v : Int32} (hv : gI σ 47 = v) (hd : decode cc pc = .ok (.getfield idx, 3))
    (k : W p l e R s m args below meth c H locs cells slots Q (F0 m (pc + 3) ls (.int v :: rest))) : W p l e R s m args below meth c H locs cells slots Q (F0 m pc ls (.ref (ad 0) :: rest)) := by
  subst hv
  obtain ⟨hx, hb, hml, hown, hu⟩ := S
  obtain ⟨hK, hP, hD, hS, hA⟩ := X
  exact va_get (D := (dC, dI)) (ci := 6) (v := .int (gI σ 47)) (C := RX3) (T := TX3) (N := 18) hx hb hu iuX3 hown hK hP 0 rfl rfl 17 (by decide) (hu _ hf) (fun _ h9 => h9) rfl hd k
theorem wkpI_47 {idx : Nat} {v : Int32} (S : CallFix p m c cc nL s args uG own) (X : gX (dC, dI) (tK kc) (wK ad kc sa va) Z A s σ H locs) (hf : Cond.fieldLink own idx "LazyForge$Machine" "callsMost" "I" ∈ uG) (hd : decode cc pc = .ok (.putfield idx, 3))
    (k : ∀ (H : Heap) (locs : List Loc), gX (dC, dI) (tK kc) (wK ad kc sa va) Z A s (pI σ 47 v) H locs → W p l e R s m args below meth c H locs cells slots Q (F0 m (pc + 3) ls (rest))) : W p l e R s m args below meth c H locs cells slots Q (F0 m pc ls (.int v :: .ref (ad 0) :: rest)) := by
  obtain ⟨hx, hb, hml, hown, hu⟩ := S
  obtain ⟨hK, hP, hD, hS, hA⟩ := X
  exact va_put (D := (dC, dI)) (ci := 6) (v := .int v) (ty := (tyX3 17)) (C := RX3) (T := TX3) (N := 18) hx hb hu iuX3 tyX3 tyX3_ok nmX3 hown hK hP hD hS 0 rfl rfl 17 (by decide) (hu _ hf) (fun _ h9 => h9) rfl (by decide +kernel) (rfl) (rfl) (Nat.le_of_ble_eq_true rfl) hd (fun H1 locs1 hP1 hD1 hS1 => k H1 locs1 ⟨hK, hP1, hD1, hS1, hA⟩)
theorem wkgR_1_0 {idx : Nat} (S : CallFix p m c cc nL s args uG own) (X : gX (dC, dI) (tK kc) (wK ad kc sa va) Z A s σ H locs) (hf : Cond.fieldLink own idx "LazyForge$Cells" "row" "[J" ∈ uG) (hd : decode cc pc = .ok (.getfield idx, 3))
    (k : W p l e R s m args below meth c H locs cells slots Q (F0 m (pc + 3) ls (.ref (ad 10) :: rest))) : W p l e R s m args below meth c H locs cells slots Q (F0 m pc ls (.ref (ad 1) :: rest)) := by
  obtain ⟨hx, hb, hml, hown, hu⟩ := S
  obtain ⟨hK, hP, hD, hS, hA⟩ := X
  exact va_get (D := (dC, dI)) (ci := 3) (v := .ref (ad 10)) (C := RX0) (T := TX0) (N := 2) hx hb hu iuX0 hown hK hP 1 rfl rfl 0 (by decide) (hu _ hf) (fun _ h9 => h9) rfl hd k
theorem wkgR_1_1 {idx : Nat} (S : CallFix p m c cc nL s args uG own) (X : gX (dC, dI) (tK kc) (wK ad kc sa va) Z A s σ H locs) (hf : Cond.fieldLink own idx "LazyForge$Cells" "counts" "[I" ∈ uG) (hd : decode cc pc = .ok (.getfield idx, 3))
    (k : W p l e R s m args below meth c H locs cells slots Q (F0 m (pc + 3) ls (.ref (ad 4) :: rest))) : W p l e R s m args below meth c H locs cells slots Q (F0 m pc ls (.ref (ad 1) :: rest)) := by
  obtain ⟨hx, hb, hml, hown, hu⟩ := S
  obtain ⟨hK, hP, hD, hS, hA⟩ := X
  exact va_get (D := (dC, dI)) (ci := 3) (v := .ref (ad 4)) (C := RX0) (T := TX0) (N := 2) hx hb hu iuX0 hown hK hP 1 rfl rfl 1 (by decide) (hu _ hf) (fun _ h9 => h9) rfl hd k
theorem wkgR_2_0 {idx : Nat} (S : CallFix p m c cc nL s args uG own) (X : gX (dC, dI) (tK kc) (wK ad kc sa va) Z A s σ H locs) (hf : Cond.fieldLink own idx "LazyForge$Program" "constructorName" "[J" ∈ uG) (hd : decode cc pc = .ok (.getfield idx, 3))
    (k : W p l e R s m args below meth c H locs cells slots Q (F0 m (pc + 3) ls (.ref (ad 11) :: rest))) : W p l e R s m args below meth c H locs cells slots Q (F0 m pc ls (.ref (ad 2) :: rest)) := by
  obtain ⟨hx, hb, hml, hown, hu⟩ := S
  obtain ⟨hK, hP, hD, hS, hA⟩ := X
  exact va_get (D := (dC, dI)) (ci := 7) (v := .ref (ad 11)) (C := RX4) (T := TX4) (N := 17) hx hb hu iuX4 hown hK hP 2 rfl rfl 0 (by decide) (hu _ hf) (fun _ h9 => h9) rfl hd k
theorem wkgR_2_1 {idx : Nat} (S : CallFix p m c cc nL s args uG own) (X : gX (dC, dI) (tK kc) (wK ad kc sa va) Z A s σ H locs) (hf : Cond.fieldLink own idx "LazyForge$Program" "fields" "[I" ∈ uG) (hd : decode cc pc = .ok (.getfield idx, 3))
    (k : W p l e R s m args below meth c H locs cells slots Q (F0 m (pc + 3) ls (.ref (ad 12) :: rest))) : W p l e R s m args below meth c H locs cells slots Q (F0 m pc ls (.ref (ad 2) :: rest)) := by
  obtain ⟨hx, hb, hml, hown, hu⟩ := S
  obtain ⟨hK, hP, hD, hS, hA⟩ := X
  exact va_get (D := (dC, dI)) (ci := 7) (v := .ref (ad 12)) (C := RX4) (T := TX4) (N := 17) hx hb hu iuX4 hown hK hP 2 rfl rfl 1 (by decide) (hu _ hf) (fun _ h9 => h9) rfl hd k
theorem wkgI_4 {idx : Nat} (S : CallFix p m c cc nL s args uG own) (X : gX (dC, dI) (tK kc) (wK ad kc sa va) Z A s σ H locs) (hf : Cond.fieldLink own idx "LazyForge$Program" "constructors" "I" ∈ uG) {v : Int32} (hv : gI σ 4 = v) (hd : decode cc pc = .ok (.getfield idx, 3))
    (k : W p l e R s m args below meth c H locs cells slots Q (F0 m (pc + 3) ls (.int v :: rest))) : W p l e R s m args below meth c H locs cells slots Q (F0 m pc ls (.ref (ad 2) :: rest)) := by
  subst hv
  obtain ⟨hx, hb, hml, hown, hu⟩ := S
  obtain ⟨hK, hP, hD, hS, hA⟩ := X
  exact va_get (D := (dC, dI)) (ci := 7) (v := .int (gI σ 4)) (C := RX4) (T := TX4) (N := 17) hx hb hu iuX4 hown hK hP 2 rfl rfl 2 (by decide) (hu _ hf) (fun _ h9 => h9) rfl hd k
theorem wkpI_4 {idx : Nat} {v : Int32} (S : CallFix p m c cc nL s args uG own) (X : gX (dC, dI) (tK kc) (wK ad kc sa va) Z A s σ H locs) (hf : Cond.fieldLink own idx "LazyForge$Program" "constructors" "I" ∈ uG) (hd : decode cc pc = .ok (.putfield idx, 3))
    (k : ∀ (H : Heap) (locs : List Loc), gX (dC, dI) (tK kc) (wK ad kc sa va) Z A s (pI σ 4 v) H locs → W p l e R s m args below meth c H locs cells slots Q (F0 m (pc + 3) ls (rest))) : W p l e R s m args below meth c H locs cells slots Q (F0 m pc ls (.int v :: .ref (ad 2) :: rest)) := by
  obtain ⟨hx, hb, hml, hown, hu⟩ := S
  obtain ⟨hK, hP, hD, hS, hA⟩ := X
  exact va_put (D := (dC, dI)) (ci := 7) (v := .int v) (ty := (tyX4 2)) (C := RX4) (T := TX4) (N := 17) hx hb hu iuX4 tyX4 tyX4_ok nmX4 hown hK hP hD hS 2 rfl rfl 2 (by decide) (hu _ hf) (fun _ h9 => h9) rfl (by decide +kernel) (rfl) (rfl) (Nat.le_of_ble_eq_true rfl) hd (fun H1 locs1 hP1 hD1 hS1 => k H1 locs1 ⟨hK, hP1, hD1, hS1, hA⟩)
theorem wkgR_2_3 {idx : Nat} (S : CallFix p m c cc nL s args uG own) (X : gX (dC, dI) (tK kc) (wK ad kc sa va) Z A s σ H locs) (hf : Cond.fieldLink own idx "LazyForge$Program" "topName" "[J" ∈ uG) (hd : decode cc pc = .ok (.getfield idx, 3))
    (k : W p l e R s m args below meth c H locs cells slots Q (F0 m (pc + 3) ls (.ref (ad 13) :: rest))) : W p l e R s m args below meth c H locs cells slots Q (F0 m pc ls (.ref (ad 2) :: rest)) := by
  obtain ⟨hx, hb, hml, hown, hu⟩ := S
  obtain ⟨hK, hP, hD, hS, hA⟩ := X
  exact va_get (D := (dC, dI)) (ci := 7) (v := .ref (ad 13)) (C := RX4) (T := TX4) (N := 17) hx hb hu iuX4 hown hK hP 2 rfl rfl 3 (by decide) (hu _ hf) (fun _ h9 => h9) rfl hd k
theorem wkgI_5 {idx : Nat} (S : CallFix p m c cc nL s args uG own) (X : gX (dC, dI) (tK kc) (wK ad kc sa va) Z A s σ H locs) (hf : Cond.fieldLink own idx "LazyForge$Program" "tops" "I" ∈ uG) {v : Int32} (hv : gI σ 5 = v) (hd : decode cc pc = .ok (.getfield idx, 3))
    (k : W p l e R s m args below meth c H locs cells slots Q (F0 m (pc + 3) ls (.int v :: rest))) : W p l e R s m args below meth c H locs cells slots Q (F0 m pc ls (.ref (ad 2) :: rest)) := by
  subst hv
  obtain ⟨hx, hb, hml, hown, hu⟩ := S
  obtain ⟨hK, hP, hD, hS, hA⟩ := X
  exact va_get (D := (dC, dI)) (ci := 7) (v := .int (gI σ 5)) (C := RX4) (T := TX4) (N := 17) hx hb hu iuX4 hown hK hP 2 rfl rfl 4 (by decide) (hu _ hf) (fun _ h9 => h9) rfl hd k
theorem wkpI_5 {idx : Nat} {v : Int32} (S : CallFix p m c cc nL s args uG own) (X : gX (dC, dI) (tK kc) (wK ad kc sa va) Z A s σ H locs) (hf : Cond.fieldLink own idx "LazyForge$Program" "tops" "I" ∈ uG) (hd : decode cc pc = .ok (.putfield idx, 3))
    (k : ∀ (H : Heap) (locs : List Loc), gX (dC, dI) (tK kc) (wK ad kc sa va) Z A s (pI σ 5 v) H locs → W p l e R s m args below meth c H locs cells slots Q (F0 m (pc + 3) ls (rest))) : W p l e R s m args below meth c H locs cells slots Q (F0 m pc ls (.int v :: .ref (ad 2) :: rest)) := by
  obtain ⟨hx, hb, hml, hown, hu⟩ := S
  obtain ⟨hK, hP, hD, hS, hA⟩ := X
  exact va_put (D := (dC, dI)) (ci := 7) (v := .int v) (ty := (tyX4 4)) (C := RX4) (T := TX4) (N := 17) hx hb hu iuX4 tyX4 tyX4_ok nmX4 hown hK hP hD hS 2 rfl rfl 4 (by decide) (hu _ hf) (fun _ h9 => h9) rfl (by decide +kernel) (rfl) (rfl) (Nat.le_of_ble_eq_true rfl) hd (fun H1 locs1 hP1 hD1 hS1 => k H1 locs1 ⟨hK, hP1, hD1, hS1, hA⟩)
theorem wkgI_6 {idx : Nat} (S : CallFix p m c cc nL s args uG own) (X : gX (dC, dI) (tK kc) (wK ad kc sa va) Z A s σ H locs) (hf : Cond.fieldLink own idx "LazyForge$Program" "functions" "I" ∈ uG) {v : Int32} (hv : gI σ 6 = v) (hd : decode cc pc = .ok (.getfield idx, 3))
    (k : W p l e R s m args below meth c H locs cells slots Q (F0 m (pc + 3) ls (.int v :: rest))) : W p l e R s m args below meth c H locs cells slots Q (F0 m pc ls (.ref (ad 2) :: rest)) := by
  subst hv
  obtain ⟨hx, hb, hml, hown, hu⟩ := S
  obtain ⟨hK, hP, hD, hS, hA⟩ := X
  exact va_get (D := (dC, dI)) (ci := 7) (v := .int (gI σ 6)) (C := RX4) (T := TX4) (N := 17) hx hb hu iuX4 hown hK hP 2 rfl rfl 5 (by decide) (hu _ hf) (fun _ h9 => h9) rfl hd k
theorem wkpI_6 {idx : Nat} {v : Int32} (S : CallFix p m c cc nL s args uG own) (X : gX (dC, dI) (tK kc) (wK ad kc sa va) Z A s σ H locs) (hf : Cond.fieldLink own idx "LazyForge$Program" "functions" "I" ∈ uG) (hd : decode cc pc = .ok (.putfield idx, 3))
    (k : ∀ (H : Heap) (locs : List Loc), gX (dC, dI) (tK kc) (wK ad kc sa va) Z A s (pI σ 6 v) H locs → W p l e R s m args below meth c H locs cells slots Q (F0 m (pc + 3) ls (rest))) : W p l e R s m args below meth c H locs cells slots Q (F0 m pc ls (.int v :: .ref (ad 2) :: rest)) := by
  obtain ⟨hx, hb, hml, hown, hu⟩ := S
  obtain ⟨hK, hP, hD, hS, hA⟩ := X
  exact va_put (D := (dC, dI)) (ci := 7) (v := .int v) (ty := (tyX4 5)) (C := RX4) (T := TX4) (N := 17) hx hb hu iuX4 tyX4 tyX4_ok nmX4 hown hK hP hD hS 2 rfl rfl 5 (by decide) (hu _ hf) (fun _ h9 => h9) rfl (by decide +kernel) (rfl) (rfl) (Nat.le_of_ble_eq_true rfl) hd (fun H1 locs1 hP1 hD1 hS1 => k H1 locs1 ⟨hK, hP1, hD1, hS1, hA⟩)
theorem wkgI_7 {idx : Nat} (S : CallFix p m c cc nL s args uG own) (X : gX (dC, dI) (tK kc) (wK ad kc sa va) Z A s σ H locs) (hf : Cond.fieldLink own idx "LazyForge$Program" "main" "I" ∈ uG) {v : Int32} (hv : gI σ 7 = v) (hd : decode cc pc = .ok (.getfield idx, 3))
    (k : W p l e R s m args below meth c H locs cells slots Q (F0 m (pc + 3) ls (.int v :: rest))) : W p l e R s m args below meth c H locs cells slots Q (F0 m pc ls (.ref (ad 2) :: rest)) := by
  subst hv
  obtain ⟨hx, hb, hml, hown, hu⟩ := S
  obtain ⟨hK, hP, hD, hS, hA⟩ := X
  exact va_get (D := (dC, dI)) (ci := 7) (v := .int (gI σ 7)) (C := RX4) (T := TX4) (N := 17) hx hb hu iuX4 hown hK hP 2 rfl rfl 6 (by decide) (hu _ hf) (fun _ h9 => h9) rfl hd k
theorem wkpI_7 {idx : Nat} {v : Int32} (S : CallFix p m c cc nL s args uG own) (X : gX (dC, dI) (tK kc) (wK ad kc sa va) Z A s σ H locs) (hf : Cond.fieldLink own idx "LazyForge$Program" "main" "I" ∈ uG) (hd : decode cc pc = .ok (.putfield idx, 3))
    (k : ∀ (H : Heap) (locs : List Loc), gX (dC, dI) (tK kc) (wK ad kc sa va) Z A s (pI σ 7 v) H locs → W p l e R s m args below meth c H locs cells slots Q (F0 m (pc + 3) ls (rest))) : W p l e R s m args below meth c H locs cells slots Q (F0 m pc ls (.int v :: .ref (ad 2) :: rest)) := by
  obtain ⟨hx, hb, hml, hown, hu⟩ := S
  obtain ⟨hK, hP, hD, hS, hA⟩ := X
  exact va_put (D := (dC, dI)) (ci := 7) (v := .int v) (ty := (tyX4 6)) (C := RX4) (T := TX4) (N := 17) hx hb hu iuX4 tyX4 tyX4_ok nmX4 hown hK hP hD hS 2 rfl rfl 6 (by decide) (hu _ hf) (fun _ h9 => h9) rfl (by decide +kernel) (rfl) (rfl) (Nat.le_of_ble_eq_true rfl) hd (fun H1 locs1 hP1 hD1 hS1 => k H1 locs1 ⟨hK, hP1, hD1, hS1, hA⟩)
theorem wkgR_2_7 {idx : Nat} (S : CallFix p m c cc nL s args uG own) (X : gX (dC, dI) (tK kc) (wK ad kc sa va) Z A s σ H locs) (hf : Cond.fieldLink own idx "LazyForge$Program" "parameters" "[I" ∈ uG) (hd : decode cc pc = .ok (.getfield idx, 3))
    (k : W p l e R s m args below meth c H locs cells slots Q (F0 m (pc + 3) ls (.ref (ad 14) :: rest))) : W p l e R s m args below meth c H locs cells slots Q (F0 m pc ls (.ref (ad 2) :: rest)) := by
  obtain ⟨hx, hb, hml, hown, hu⟩ := S
  obtain ⟨hK, hP, hD, hS, hA⟩ := X
  exact va_get (D := (dC, dI)) (ci := 7) (v := .ref (ad 14)) (C := RX4) (T := TX4) (N := 17) hx hb hu iuX4 hown hK hP 2 rfl rfl 7 (by decide) (hu _ hf) (fun _ h9 => h9) rfl hd k
theorem wkgR_2_8 {idx : Nat} (S : CallFix p m c cc nL s args uG own) (X : gX (dC, dI) (tK kc) (wK ad kc sa va) Z A s σ H locs) (hf : Cond.fieldLink own idx "LazyForge$Program" "frees" "[I" ∈ uG) (hd : decode cc pc = .ok (.getfield idx, 3))
    (k : W p l e R s m args below meth c H locs cells slots Q (F0 m (pc + 3) ls (.ref (ad 15) :: rest))) : W p l e R s m args below meth c H locs cells slots Q (F0 m pc ls (.ref (ad 2) :: rest)) := by
  obtain ⟨hx, hb, hml, hown, hu⟩ := S
  obtain ⟨hK, hP, hD, hS, hA⟩ := X
  exact va_get (D := (dC, dI)) (ci := 7) (v := .ref (ad 15)) (C := RX4) (T := TX4) (N := 17) hx hb hu iuX4 hown hK hP 2 rfl rfl 8 (by decide) (hu _ hf) (fun _ h9 => h9) rfl hd k
theorem wkgR_2_9 {idx : Nat} (S : CallFix p m c cc nL s args uG own) (X : gX (dC, dI) (tK kc) (wK ad kc sa va) Z A s σ H locs) (hf : Cond.fieldLink own idx "LazyForge$Program" "free" "[I" ∈ uG) (hd : decode cc pc = .ok (.getfield idx, 3))
    (k : W p l e R s m args below meth c H locs cells slots Q (F0 m (pc + 3) ls (.ref (ad 16) :: rest))) : W p l e R s m args below meth c H locs cells slots Q (F0 m pc ls (.ref (ad 2) :: rest)) := by
  obtain ⟨hx, hb, hml, hown, hu⟩ := S
  obtain ⟨hK, hP, hD, hS, hA⟩ := X
  exact va_get (D := (dC, dI)) (ci := 7) (v := .ref (ad 16)) (C := RX4) (T := TX4) (N := 17) hx hb hu iuX4 hown hK hP 2 rfl rfl 9 (by decide) (hu _ hf) (fun _ h9 => h9) rfl hd k
theorem wkgR_2_10 {idx : Nat} (S : CallFix p m c cc nL s args uG own) (X : gX (dC, dI) (tK kc) (wK ad kc sa va) Z A s σ H locs) (hf : Cond.fieldLink own idx "LazyForge$Program" "variables" "[I" ∈ uG) (hd : decode cc pc = .ok (.getfield idx, 3))
    (k : W p l e R s m args below meth c H locs cells slots Q (F0 m (pc + 3) ls (.ref (ad 17) :: rest))) : W p l e R s m args below meth c H locs cells slots Q (F0 m pc ls (.ref (ad 2) :: rest)) := by
  obtain ⟨hx, hb, hml, hown, hu⟩ := S
  obtain ⟨hK, hP, hD, hS, hA⟩ := X
  exact va_get (D := (dC, dI)) (ci := 7) (v := .ref (ad 17)) (C := RX4) (T := TX4) (N := 17) hx hb hu iuX4 hown hK hP 2 rfl rfl 10 (by decide) (hu _ hf) (fun _ h9 => h9) rfl hd k
theorem wkgR_2_11 {idx : Nat} (S : CallFix p m c cc nL s args uG own) (X : gX (dC, dI) (tK kc) (wK ad kc sa va) Z A s σ H locs) (hf : Cond.fieldLink own idx "LazyForge$Program" "root" "[I" ∈ uG) (hd : decode cc pc = .ok (.getfield idx, 3))
    (k : W p l e R s m args below meth c H locs cells slots Q (F0 m (pc + 3) ls (.ref (ad 18) :: rest))) : W p l e R s m args below meth c H locs cells slots Q (F0 m pc ls (.ref (ad 2) :: rest)) := by
  obtain ⟨hx, hb, hml, hown, hu⟩ := S
  obtain ⟨hK, hP, hD, hS, hA⟩ := X
  exact va_get (D := (dC, dI)) (ci := 7) (v := .ref (ad 18)) (C := RX4) (T := TX4) (N := 17) hx hb hu iuX4 hown hK hP 2 rfl rfl 11 (by decide) (hu _ hf) (fun _ h9 => h9) rfl hd k
theorem wkgR_2_12 {idx : Nat} (S : CallFix p m c cc nL s args uG own) (X : gX (dC, dI) (tK kc) (wK ad kc sa va) Z A s σ H locs) (hf : Cond.fieldLink own idx "LazyForge$Program" "scope" "[I" ∈ uG) (hd : decode cc pc = .ok (.getfield idx, 3))
    (k : W p l e R s m args below meth c H locs cells slots Q (F0 m (pc + 3) ls (.ref (ad 19) :: rest))) : W p l e R s m args below meth c H locs cells slots Q (F0 m pc ls (.ref (ad 2) :: rest)) := by
  obtain ⟨hx, hb, hml, hown, hu⟩ := S
  obtain ⟨hK, hP, hD, hS, hA⟩ := X
  exact va_get (D := (dC, dI)) (ci := 7) (v := .ref (ad 19)) (C := RX4) (T := TX4) (N := 17) hx hb hu iuX4 hown hK hP 2 rfl rfl 12 (by decide) (hu _ hf) (fun _ h9 => h9) rfl hd k
theorem wkgR_2_13 {idx : Nat} (S : CallFix p m c cc nL s args uG own) (X : gX (dC, dI) (tK kc) (wK ad kc sa va) Z A s σ H locs) (hf : Cond.fieldLink own idx "LazyForge$Program" "parts" "[I" ∈ uG) (hd : decode cc pc = .ok (.getfield idx, 3))
    (k : W p l e R s m args below meth c H locs cells slots Q (F0 m (pc + 3) ls (.ref (ad 20) :: rest))) : W p l e R s m args below meth c H locs cells slots Q (F0 m pc ls (.ref (ad 2) :: rest)) := by
  obtain ⟨hx, hb, hml, hown, hu⟩ := S
  obtain ⟨hK, hP, hD, hS, hA⟩ := X
  exact va_get (D := (dC, dI)) (ci := 7) (v := .ref (ad 20)) (C := RX4) (T := TX4) (N := 17) hx hb hu iuX4 hown hK hP 2 rfl rfl 13 (by decide) (hu _ hf) (fun _ h9 => h9) rfl hd k
theorem wkgR_2_14 {idx : Nat} (S : CallFix p m c cc nL s args uG own) (X : gX (dC, dI) (tK kc) (wK ad kc sa va) Z A s σ H locs) (hf : Cond.fieldLink own idx "LazyForge$Program" "height" "[I" ∈ uG) (hd : decode cc pc = .ok (.getfield idx, 3))
    (k : W p l e R s m args below meth c H locs cells slots Q (F0 m (pc + 3) ls (.ref (ad 21) :: rest))) : W p l e R s m args below meth c H locs cells slots Q (F0 m pc ls (.ref (ad 2) :: rest)) := by
  obtain ⟨hx, hb, hml, hown, hu⟩ := S
  obtain ⟨hK, hP, hD, hS, hA⟩ := X
  exact va_get (D := (dC, dI)) (ci := 7) (v := .ref (ad 21)) (C := RX4) (T := TX4) (N := 17) hx hb hu iuX4 hown hK hP 2 rfl rfl 14 (by decide) (hu _ hf) (fun _ h9 => h9) rfl hd k
theorem wkgR_2_15 {idx : Nat} (S : CallFix p m c cc nL s args uG own) (X : gX (dC, dI) (tK kc) (wK ad kc sa va) Z A s σ H locs) (hf : Cond.fieldLink own idx "LazyForge$Program" "lets" "[I" ∈ uG) (hd : decode cc pc = .ok (.getfield idx, 3))
    (k : W p l e R s m args below meth c H locs cells slots Q (F0 m (pc + 3) ls (.ref (ad 22) :: rest))) : W p l e R s m args below meth c H locs cells slots Q (F0 m pc ls (.ref (ad 2) :: rest)) := by
  obtain ⟨hx, hb, hml, hown, hu⟩ := S
  obtain ⟨hK, hP, hD, hS, hA⟩ := X
  exact va_get (D := (dC, dI)) (ci := 7) (v := .ref (ad 22)) (C := RX4) (T := TX4) (N := 17) hx hb hu iuX4 hown hK hP 2 rfl rfl 15 (by decide) (hu _ hf) (fun _ h9 => h9) rfl hd k
theorem wkgR_2_16 {idx : Nat} (S : CallFix p m c cc nL s args uG own) (X : gX (dC, dI) (tK kc) (wK ad kc sa va) Z A s σ H locs) (hf : Cond.fieldLink own idx "LazyForge$Program" "needed" "[I" ∈ uG) (hd : decode cc pc = .ok (.getfield idx, 3))
    (k : W p l e R s m args below meth c H locs cells slots Q (F0 m (pc + 3) ls (.ref (ad 23) :: rest))) : W p l e R s m args below meth c H locs cells slots Q (F0 m pc ls (.ref (ad 2) :: rest)) := by
  obtain ⟨hx, hb, hml, hown, hu⟩ := S
  obtain ⟨hK, hP, hD, hS, hA⟩ := X
  exact va_get (D := (dC, dI)) (ci := 7) (v := .ref (ad 23)) (C := RX4) (T := TX4) (N := 17) hx hb hu iuX4 hown hK hP 2 rfl rfl 16 (by decide) (hu _ hf) (fun _ h9 => h9) rfl hd k
theorem wkgR_3_0 {idx : Nat} (S : CallFix p m c cc nL s args uG own) (X : gX (dC, dI) (tK kc) (wK ad kc sa va) Z A s σ H locs) (hf : Cond.fieldLink own idx "LazyForge$Tree" "kind" "[I" ∈ uG) (hd : decode cc pc = .ok (.getfield idx, 3))
    (k : W p l e R s m args below meth c H locs cells slots Q (F0 m (pc + 3) ls (.ref (ad 24) :: rest))) : W p l e R s m args below meth c H locs cells slots Q (F0 m pc ls (.ref (ad 3) :: rest)) := by
  obtain ⟨hx, hb, hml, hown, hu⟩ := S
  obtain ⟨hK, hP, hD, hS, hA⟩ := X
  exact va_get (D := (dC, dI)) (ci := 12) (v := .ref (ad 24)) (C := RX9) (T := TX9) (N := 9) hx hb hu iuX9 hown hK hP 3 rfl rfl 0 (by decide) (hu _ hf) (fun _ h9 => h9) rfl hd k
theorem wkgR_3_1 {idx : Nat} (S : CallFix p m c cc nL s args uG own) (X : gX (dC, dI) (tK kc) (wK ad kc sa va) Z A s σ H locs) (hf : Cond.fieldLink own idx "LazyForge$Tree" "value" "[I" ∈ uG) (hd : decode cc pc = .ok (.getfield idx, 3))
    (k : W p l e R s m args below meth c H locs cells slots Q (F0 m (pc + 3) ls (.ref (ad 25) :: rest))) : W p l e R s m args below meth c H locs cells slots Q (F0 m pc ls (.ref (ad 3) :: rest)) := by
  obtain ⟨hx, hb, hml, hown, hu⟩ := S
  obtain ⟨hK, hP, hD, hS, hA⟩ := X
  exact va_get (D := (dC, dI)) (ci := 12) (v := .ref (ad 25)) (C := RX9) (T := TX9) (N := 9) hx hb hu iuX9 hown hK hP 3 rfl rfl 1 (by decide) (hu _ hf) (fun _ h9 => h9) rfl hd k
theorem wkgR_3_2 {idx : Nat} (S : CallFix p m c cc nL s args uG own) (X : gX (dC, dI) (tK kc) (wK ad kc sa va) Z A s σ H locs) (hf : Cond.fieldLink own idx "LazyForge$Tree" "slot" "[I" ∈ uG) (hd : decode cc pc = .ok (.getfield idx, 3))
    (k : W p l e R s m args below meth c H locs cells slots Q (F0 m (pc + 3) ls (.ref (ad 26) :: rest))) : W p l e R s m args below meth c H locs cells slots Q (F0 m pc ls (.ref (ad 3) :: rest)) := by
  obtain ⟨hx, hb, hml, hown, hu⟩ := S
  obtain ⟨hK, hP, hD, hS, hA⟩ := X
  exact va_get (D := (dC, dI)) (ci := 12) (v := .ref (ad 26)) (C := RX9) (T := TX9) (N := 9) hx hb hu iuX9 hown hK hP 3 rfl rfl 2 (by decide) (hu _ hf) (fun _ h9 => h9) rfl hd k
theorem wkgR_3_3 {idx : Nat} (S : CallFix p m c cc nL s args uG own) (X : gX (dC, dI) (tK kc) (wK ad kc sa va) Z A s σ H locs) (hf : Cond.fieldLink own idx "LazyForge$Tree" "kid" "[I" ∈ uG) (hd : decode cc pc = .ok (.getfield idx, 3))
    (k : W p l e R s m args below meth c H locs cells slots Q (F0 m (pc + 3) ls (.ref (ad 27) :: rest))) : W p l e R s m args below meth c H locs cells slots Q (F0 m pc ls (.ref (ad 3) :: rest)) := by
  obtain ⟨hx, hb, hml, hown, hu⟩ := S
  obtain ⟨hK, hP, hD, hS, hA⟩ := X
  exact va_get (D := (dC, dI)) (ci := 12) (v := .ref (ad 27)) (C := RX9) (T := TX9) (N := 9) hx hb hu iuX9 hown hK hP 3 rfl rfl 3 (by decide) (hu _ hf) (fun _ h9 => h9) rfl hd k
theorem wkgR_3_4 {idx : Nat} (S : CallFix p m c cc nL s args uG own) (X : gX (dC, dI) (tK kc) (wK ad kc sa va) Z A s σ H locs) (hf : Cond.fieldLink own idx "LazyForge$Tree" "next" "[I" ∈ uG) (hd : decode cc pc = .ok (.getfield idx, 3))
    (k : W p l e R s m args below meth c H locs cells slots Q (F0 m (pc + 3) ls (.ref (ad 28) :: rest))) : W p l e R s m args below meth c H locs cells slots Q (F0 m pc ls (.ref (ad 3) :: rest)) := by
  obtain ⟨hx, hb, hml, hown, hu⟩ := S
  obtain ⟨hK, hP, hD, hS, hA⟩ := X
  exact va_get (D := (dC, dI)) (ci := 12) (v := .ref (ad 28)) (C := RX9) (T := TX9) (N := 9) hx hb hu iuX9 hown hK hP 3 rfl rfl 4 (by decide) (hu _ hf) (fun _ h9 => h9) rfl hd k
theorem wkgR_3_5 {idx : Nat} (S : CallFix p m c cc nL s args uG own) (X : gX (dC, dI) (tK kc) (wK ad kc sa va) Z A s σ H locs) (hf : Cond.fieldLink own idx "LazyForge$Tree" "height" "[I" ∈ uG) (hd : decode cc pc = .ok (.getfield idx, 3))
    (k : W p l e R s m args below meth c H locs cells slots Q (F0 m (pc + 3) ls (.ref (ad 29) :: rest))) : W p l e R s m args below meth c H locs cells slots Q (F0 m pc ls (.ref (ad 3) :: rest)) := by
  obtain ⟨hx, hb, hml, hown, hu⟩ := S
  obtain ⟨hK, hP, hD, hS, hA⟩ := X
  exact va_get (D := (dC, dI)) (ci := 12) (v := .ref (ad 29)) (C := RX9) (T := TX9) (N := 9) hx hb hu iuX9 hown hK hP 3 rfl rfl 5 (by decide) (hu _ hf) (fun _ h9 => h9) rfl hd k
theorem wkgR_3_6 {idx : Nat} (S : CallFix p m c cc nL s args uG own) (X : gX (dC, dI) (tK kc) (wK ad kc sa va) Z A s σ H locs) (hf : Cond.fieldLink own idx "LazyForge$Tree" "parts" "[I" ∈ uG) (hd : decode cc pc = .ok (.getfield idx, 3))
    (k : W p l e R s m args below meth c H locs cells slots Q (F0 m (pc + 3) ls (.ref (ad 30) :: rest))) : W p l e R s m args below meth c H locs cells slots Q (F0 m pc ls (.ref (ad 3) :: rest)) := by
  obtain ⟨hx, hb, hml, hown, hu⟩ := S
  obtain ⟨hK, hP, hD, hS, hA⟩ := X
  exact va_get (D := (dC, dI)) (ci := 12) (v := .ref (ad 30)) (C := RX9) (T := TX9) (N := 9) hx hb hu iuX9 hown hK hP 3 rfl rfl 6 (by decide) (hu _ hf) (fun _ h9 => h9) rfl hd k
theorem wkgR_3_7 {idx : Nat} (S : CallFix p m c cc nL s args uG own) (X : gX (dC, dI) (tK kc) (wK ad kc sa va) Z A s σ H locs) (hf : Cond.fieldLink own idx "LazyForge$Tree" "used" "[J" ∈ uG) (hd : decode cc pc = .ok (.getfield idx, 3))
    (k : W p l e R s m args below meth c H locs cells slots Q (F0 m (pc + 3) ls (.ref (ad 31) :: rest))) : W p l e R s m args below meth c H locs cells slots Q (F0 m pc ls (.ref (ad 3) :: rest)) := by
  obtain ⟨hx, hb, hml, hown, hu⟩ := S
  obtain ⟨hK, hP, hD, hS, hA⟩ := X
  exact va_get (D := (dC, dI)) (ci := 12) (v := .ref (ad 31)) (C := RX9) (T := TX9) (N := 9) hx hb hu iuX9 hown hK hP 3 rfl rfl 7 (by decide) (hu _ hf) (fun _ h9 => h9) rfl hd k
theorem wkgI_8 {idx : Nat} (S : CallFix p m c cc nL s args uG own) (X : gX (dC, dI) (tK kc) (wK ad kc sa va) Z A s σ H locs) (hf : Cond.fieldLink own idx "LazyForge$Tree" "count" "I" ∈ uG) {v : Int32} (hv : gI σ 8 = v) (hd : decode cc pc = .ok (.getfield idx, 3))
    (k : W p l e R s m args below meth c H locs cells slots Q (F0 m (pc + 3) ls (.int v :: rest))) : W p l e R s m args below meth c H locs cells slots Q (F0 m pc ls (.ref (ad 3) :: rest)) := by
  subst hv
  obtain ⟨hx, hb, hml, hown, hu⟩ := S
  obtain ⟨hK, hP, hD, hS, hA⟩ := X
  exact va_get (D := (dC, dI)) (ci := 12) (v := .int (gI σ 8)) (C := RX9) (T := TX9) (N := 9) hx hb hu iuX9 hown hK hP 3 rfl rfl 8 (by decide) (hu _ hf) (fun _ h9 => h9) rfl hd k
theorem wkpI_8 {idx : Nat} {v : Int32} (S : CallFix p m c cc nL s args uG own) (X : gX (dC, dI) (tK kc) (wK ad kc sa va) Z A s σ H locs) (hf : Cond.fieldLink own idx "LazyForge$Tree" "count" "I" ∈ uG) (hd : decode cc pc = .ok (.putfield idx, 3))
    (k : ∀ (H : Heap) (locs : List Loc), gX (dC, dI) (tK kc) (wK ad kc sa va) Z A s (pI σ 8 v) H locs → W p l e R s m args below meth c H locs cells slots Q (F0 m (pc + 3) ls (rest))) : W p l e R s m args below meth c H locs cells slots Q (F0 m pc ls (.int v :: .ref (ad 3) :: rest)) := by
  obtain ⟨hx, hb, hml, hown, hu⟩ := S
  obtain ⟨hK, hP, hD, hS, hA⟩ := X
  exact va_put (D := (dC, dI)) (ci := 12) (v := .int v) (ty := (tyX9 8)) (C := RX9) (T := TX9) (N := 9) hx hb hu iuX9 tyX9 tyX9_ok nmX9 hown hK hP hD hS 3 rfl rfl 8 (by decide) (hu _ hf) (fun _ h9 => h9) rfl (by decide +kernel) (rfl) (rfl) (Nat.le_of_ble_eq_true rfl) hd (fun H1 locs1 hP1 hD1 hS1 => k H1 locs1 ⟨hK, hP1, hD1, hS1, hA⟩)
theorem wklA_40 {i : Int32} {v : Int32} (S : CallFix p m c cc nL s args uG own) (X : gX (dC, dI) (tK kc) (wK ad kc sa va) Z A s σ H locs) (hi : vp_in i 10) (hv : xA σ 40 i = v) (hd : decode cc pc = .ok (.iaload, 1))
    (k : W p l e R s m args below meth c H locs cells slots Q (F0 m (pc + 1) ls (.int v :: rest))) : W p l e R s m args below meth c H locs cells slots Q (F0 m pc ls (.int i :: .ref (ad 4) :: rest)) := by
  subst hv
  obtain ⟨hx, hb, hml, hown, hu⟩ := S
  obtain ⟨hK, hP, hD, hS, hA⟩ := X
  exact va_iald hx hb hK hP 4 0 rfl rfl hi hd k
theorem wksA_40 {i : Int32} {v : Int32} (S : CallFix p m c cc nL s args uG own) (X : gX (dC, dI) (tK kc) (wK ad kc sa va) Z A s σ H locs) (hi : vp_in i 10) (hd : decode cc pc = .ok (.iastore, 1))
    (k : ∀ (H : Heap) (locs : List Loc), gX (dC, dI) (tK kc) (wK ad kc sa va) Z A s (pA σ 40 i v) H locs → W p l e R s m args below meth c H locs cells slots Q (F0 m (pc + 1) ls (rest))) : W p l e R s m args below meth c H locs cells slots Q (F0 m pc ls (.int v :: .int i :: .ref (ad 4) :: rest)) := by
  obtain ⟨hx, hb, hml, hown, hu⟩ := S
  obtain ⟨hK, hP, hD, hS, hA⟩ := X
  exact va_iast hx hb hK hP hD hS 4 0 rfl rfl hi hd (fun H1 locs1 hP1 hD1 hS1 => k H1 locs1 ⟨hK, hP1, hD1, hS1, hA⟩)
theorem wknA_40 (S : CallFix p m c cc nL s args uG own) (X : gX (dC, dI) (tK kc) (wK ad kc sa va) Z A s σ H locs) (hd : decode cc pc = .ok (.arraylength, 1))
    (k : W p l e R s m args below meth c H locs cells slots Q (F0 m (pc + 1) ls (.int 10 :: rest))) : W p l e R s m args below meth c H locs cells slots Q (F0 m pc ls (.ref (ad 4) :: rest)) := by
  obtain ⟨hx, hb, hml, hown, hu⟩ := S
  obtain ⟨hK, hP, hD, hS, hA⟩ := X
  exact va_alen (v := 10) hx hb hK hP 4 0 rfl rfl (show Int32.ofNat 10 = 10 by decide) hd k
theorem wklA_41 {i : Int32} {v : Int32} (S : CallFix p m c cc nL s args uG own) (X : gX (dC, dI) (tK kc) (wK ad kc sa va) Z A s σ H locs) (hi : vp_in i 630) (hv : xA σ 41 i = v) (hd : decode cc pc = .ok (.iaload, 1))
    (k : W p l e R s m args below meth c H locs cells slots Q (F0 m (pc + 1) ls (.int v :: rest))) : W p l e R s m args below meth c H locs cells slots Q (F0 m pc ls (.int i :: .ref (ad 5) :: rest)) := by
  subst hv
  obtain ⟨hx, hb, hml, hown, hu⟩ := S
  obtain ⟨hK, hP, hD, hS, hA⟩ := X
  exact va_iald hx hb hK hP 5 1 rfl rfl hi hd k
theorem wksA_41 {i : Int32} {v : Int32} (S : CallFix p m c cc nL s args uG own) (X : gX (dC, dI) (tK kc) (wK ad kc sa va) Z A s σ H locs) (hi : vp_in i 630) (hd : decode cc pc = .ok (.iastore, 1))
    (k : ∀ (H : Heap) (locs : List Loc), gX (dC, dI) (tK kc) (wK ad kc sa va) Z A s (pA σ 41 i v) H locs → W p l e R s m args below meth c H locs cells slots Q (F0 m (pc + 1) ls (rest))) : W p l e R s m args below meth c H locs cells slots Q (F0 m pc ls (.int v :: .int i :: .ref (ad 5) :: rest)) := by
  obtain ⟨hx, hb, hml, hown, hu⟩ := S
  obtain ⟨hK, hP, hD, hS, hA⟩ := X
  exact va_iast hx hb hK hP hD hS 5 1 rfl rfl hi hd (fun H1 locs1 hP1 hD1 hS1 => k H1 locs1 ⟨hK, hP1, hD1, hS1, hA⟩)
theorem wknA_41 (S : CallFix p m c cc nL s args uG own) (X : gX (dC, dI) (tK kc) (wK ad kc sa va) Z A s σ H locs) (hd : decode cc pc = .ok (.arraylength, 1))
    (k : W p l e R s m args below meth c H locs cells slots Q (F0 m (pc + 1) ls (.int 630 :: rest))) : W p l e R s m args below meth c H locs cells slots Q (F0 m pc ls (.ref (ad 5) :: rest)) := by
  obtain ⟨hx, hb, hml, hown, hu⟩ := S
  obtain ⟨hK, hP, hD, hS, hA⟩ := X
  exact va_alen (v := 630) hx hb hK hP 5 1 rfl rfl (show Int32.ofNat 630 = 630 by decide) hd k
theorem wklA_42 {i : Int32} {v : Int32} (S : CallFix p m c cc nL s args uG own) (X : gX (dC, dI) (tK kc) (wK ad kc sa va) Z A s σ H locs) (hi : vp_in i 1000) (hv : xA σ 42 i = v) (hd : decode cc pc = .ok (.iaload, 1))
    (k : W p l e R s m args below meth c H locs cells slots Q (F0 m (pc + 1) ls (.int v :: rest))) : W p l e R s m args below meth c H locs cells slots Q (F0 m pc ls (.int i :: .ref (ad 6) :: rest)) := by
  subst hv
  obtain ⟨hx, hb, hml, hown, hu⟩ := S
  obtain ⟨hK, hP, hD, hS, hA⟩ := X
  exact va_iald hx hb hK hP 6 2 rfl rfl hi hd k
theorem wksA_42 {i : Int32} {v : Int32} (S : CallFix p m c cc nL s args uG own) (X : gX (dC, dI) (tK kc) (wK ad kc sa va) Z A s σ H locs) (hi : vp_in i 1000) (hd : decode cc pc = .ok (.iastore, 1))
    (k : ∀ (H : Heap) (locs : List Loc), gX (dC, dI) (tK kc) (wK ad kc sa va) Z A s (pA σ 42 i v) H locs → W p l e R s m args below meth c H locs cells slots Q (F0 m (pc + 1) ls (rest))) : W p l e R s m args below meth c H locs cells slots Q (F0 m pc ls (.int v :: .int i :: .ref (ad 6) :: rest)) := by
  obtain ⟨hx, hb, hml, hown, hu⟩ := S
  obtain ⟨hK, hP, hD, hS, hA⟩ := X
  exact va_iast hx hb hK hP hD hS 6 2 rfl rfl hi hd (fun H1 locs1 hP1 hD1 hS1 => k H1 locs1 ⟨hK, hP1, hD1, hS1, hA⟩)
theorem wknA_42 (S : CallFix p m c cc nL s args uG own) (X : gX (dC, dI) (tK kc) (wK ad kc sa va) Z A s σ H locs) (hd : decode cc pc = .ok (.arraylength, 1))
    (k : W p l e R s m args below meth c H locs cells slots Q (F0 m (pc + 1) ls (.int 1000 :: rest))) : W p l e R s m args below meth c H locs cells slots Q (F0 m pc ls (.ref (ad 6) :: rest)) := by
  obtain ⟨hx, hb, hml, hown, hu⟩ := S
  obtain ⟨hK, hP, hD, hS, hA⟩ := X
  exact va_alen (v := 1000) hx hb hK hP 6 2 rfl rfl (show Int32.ofNat 1000 = 1000 by decide) hd k
theorem wklA_43 {i : Int32} {v : Int32} (S : CallFix p m c cc nL s args uG own) (X : gX (dC, dI) (tK kc) (wK ad kc sa va) Z A s σ H locs) (hi : vp_in i 30) (hv : xA σ 43 i = v) (hd : decode cc pc = .ok (.iaload, 1))
    (k : W p l e R s m args below meth c H locs cells slots Q (F0 m (pc + 1) ls (.int v :: rest))) : W p l e R s m args below meth c H locs cells slots Q (F0 m pc ls (.int i :: .ref (ad 7) :: rest)) := by
  subst hv
  obtain ⟨hx, hb, hml, hown, hu⟩ := S
  obtain ⟨hK, hP, hD, hS, hA⟩ := X
  exact va_iald hx hb hK hP 7 3 rfl rfl hi hd k
theorem wksA_43 {i : Int32} {v : Int32} (S : CallFix p m c cc nL s args uG own) (X : gX (dC, dI) (tK kc) (wK ad kc sa va) Z A s σ H locs) (hi : vp_in i 30) (hd : decode cc pc = .ok (.iastore, 1))
    (k : ∀ (H : Heap) (locs : List Loc), gX (dC, dI) (tK kc) (wK ad kc sa va) Z A s (pA σ 43 i v) H locs → W p l e R s m args below meth c H locs cells slots Q (F0 m (pc + 1) ls (rest))) : W p l e R s m args below meth c H locs cells slots Q (F0 m pc ls (.int v :: .int i :: .ref (ad 7) :: rest)) := by
  obtain ⟨hx, hb, hml, hown, hu⟩ := S
  obtain ⟨hK, hP, hD, hS, hA⟩ := X
  exact va_iast hx hb hK hP hD hS 7 3 rfl rfl hi hd (fun H1 locs1 hP1 hD1 hS1 => k H1 locs1 ⟨hK, hP1, hD1, hS1, hA⟩)
theorem wknA_43 (S : CallFix p m c cc nL s args uG own) (X : gX (dC, dI) (tK kc) (wK ad kc sa va) Z A s σ H locs) (hd : decode cc pc = .ok (.arraylength, 1))
    (k : W p l e R s m args below meth c H locs cells slots Q (F0 m (pc + 1) ls (.int 30 :: rest))) : W p l e R s m args below meth c H locs cells slots Q (F0 m pc ls (.ref (ad 7) :: rest)) := by
  obtain ⟨hx, hb, hml, hown, hu⟩ := S
  obtain ⟨hK, hP, hD, hS, hA⟩ := X
  exact va_alen (v := 30) hx hb hK hP 7 3 rfl rfl (show Int32.ofNat 30 = 30 by decide) hd k
theorem wklB_12 {i : Int32} {v : Int64} (S : CallFix p m c cc nL s args uG own) (X : gX (dC, dI) (tK kc) (wK ad kc sa va) Z A s σ H locs) (hi : vp_in i (gN σ 1)) (hv : xB σ 12 i = v) (hd : decode cc pc = .ok (.laload, 1))
    (k : W p l e R s m args below meth c H locs cells slots Q (F0 m (pc + 1) ls (.long v :: rest))) : W p l e R s m args below meth c H locs cells slots Q (F0 m pc ls (.int i :: .ref sa :: rest)) := by
  subst hv
  obtain ⟨hx, hb, hml, hown, hu⟩ := S
  obtain ⟨hK, hP, hD, hS, hA⟩ := X
  exact va_lald hx hb hK hP 8 4 rfl rfl hi hd k
theorem wksB_12 {i : Int32} {v : Int64} (S : CallFix p m c cc nL s args uG own) (X : gX (dC, dI) (tK kc) (wK ad kc sa va) Z A s σ H locs) (hi : vp_in i (gN σ 1)) (hd : decode cc pc = .ok (.lastore, 1))
    (k : ∀ (H : Heap) (locs : List Loc), gX (dC, dI) (tK kc) (wK ad kc sa va) Z A s (pB σ 12 i v) H locs → W p l e R s m args below meth c H locs cells slots Q (F0 m (pc + 1) ls (rest))) : W p l e R s m args below meth c H locs cells slots Q (F0 m pc ls (.long v :: .int i :: .ref sa :: rest)) := by
  obtain ⟨hx, hb, hml, hown, hu⟩ := S
  obtain ⟨hK, hP, hD, hS, hA⟩ := X
  exact va_last hx hb hK hP hD hS 8 4 rfl rfl hi hd (fun H1 locs1 hP1 hD1 hS1 => k H1 locs1 ⟨hK, hP1, hD1, hS1, hA⟩)
theorem wknB_12 (S : CallFix p m c cc nL s args uG own) (X : gX (dC, dI) (tK kc) (wK ad kc sa va) Z A s σ H locs) (hd : decode cc pc = .ok (.arraylength, 1))
    (k : W p l e R s m args below meth c H locs cells slots Q (F0 m (pc + 1) ls (.int (Int32.ofNat (gN σ 1)) :: rest))) : W p l e R s m args below meth c H locs cells slots Q (F0 m pc ls (.ref sa :: rest)) := by
  obtain ⟨hx, hb, hml, hown, hu⟩ := S
  obtain ⟨hK, hP, hD, hS, hA⟩ := X
  exact va_alen (v := (Int32.ofNat (gN σ 1))) hx hb hK hP 8 4 rfl rfl (rfl) hd k
theorem wklB_13 {i : Int32} {v : Int64} (S : CallFix p m c cc nL s args uG own) (X : gX (dC, dI) (tK kc) (wK ad kc sa va) Z A s σ H locs) (hi : vp_in i (gN σ 3)) (hv : xB σ 13 i = v) (hd : decode cc pc = .ok (.laload, 1))
    (k : W p l e R s m args below meth c H locs cells slots Q (F0 m (pc + 1) ls (.long v :: rest))) : W p l e R s m args below meth c H locs cells slots Q (F0 m pc ls (.int i :: .ref va :: rest)) := by
  subst hv
  obtain ⟨hx, hb, hml, hown, hu⟩ := S
  obtain ⟨hK, hP, hD, hS, hA⟩ := X
  exact va_lald hx hb hK hP 9 5 rfl rfl hi hd k
theorem wksB_13 {i : Int32} {v : Int64} (S : CallFix p m c cc nL s args uG own) (X : gX (dC, dI) (tK kc) (wK ad kc sa va) Z A s σ H locs) (hi : vp_in i (gN σ 3)) (hd : decode cc pc = .ok (.lastore, 1))
    (k : ∀ (H : Heap) (locs : List Loc), gX (dC, dI) (tK kc) (wK ad kc sa va) Z A s (pB σ 13 i v) H locs → W p l e R s m args below meth c H locs cells slots Q (F0 m (pc + 1) ls (rest))) : W p l e R s m args below meth c H locs cells slots Q (F0 m pc ls (.long v :: .int i :: .ref va :: rest)) := by
  obtain ⟨hx, hb, hml, hown, hu⟩ := S
  obtain ⟨hK, hP, hD, hS, hA⟩ := X
  exact va_last hx hb hK hP hD hS 9 5 rfl rfl hi hd (fun H1 locs1 hP1 hD1 hS1 => k H1 locs1 ⟨hK, hP1, hD1, hS1, hA⟩)
theorem wknB_13 (S : CallFix p m c cc nL s args uG own) (X : gX (dC, dI) (tK kc) (wK ad kc sa va) Z A s σ H locs) (hd : decode cc pc = .ok (.arraylength, 1))
    (k : W p l e R s m args below meth c H locs cells slots Q (F0 m (pc + 1) ls (.int (Int32.ofNat (gN σ 3)) :: rest))) : W p l e R s m args below meth c H locs cells slots Q (F0 m pc ls (.ref va :: rest)) := by
  obtain ⟨hx, hb, hml, hown, hu⟩ := S
  obtain ⟨hK, hP, hD, hS, hA⟩ := X
  exact va_alen (v := (Int32.ofNat (gN σ 3))) hx hb hK hP 9 5 rfl rfl (rfl) hd k
theorem wklB_14 {i : Int32} {v : Int64} (S : CallFix p m c cc nL s args uG own) (X : gX (dC, dI) (tK kc) (wK ad kc sa va) Z A s σ H locs) (hi : vp_in i 4000) (hv : xB σ 14 i = v) (hd : decode cc pc = .ok (.laload, 1))
    (k : W p l e R s m args below meth c H locs cells slots Q (F0 m (pc + 1) ls (.long v :: rest))) : W p l e R s m args below meth c H locs cells slots Q (F0 m pc ls (.int i :: .ref (ad 10) :: rest)) := by
  subst hv
  obtain ⟨hx, hb, hml, hown, hu⟩ := S
  obtain ⟨hK, hP, hD, hS, hA⟩ := X
  exact va_lald hx hb hK hP 10 6 rfl rfl hi hd k
theorem wksB_14 {i : Int32} {v : Int64} (S : CallFix p m c cc nL s args uG own) (X : gX (dC, dI) (tK kc) (wK ad kc sa va) Z A s σ H locs) (hi : vp_in i 4000) (hd : decode cc pc = .ok (.lastore, 1))
    (k : ∀ (H : Heap) (locs : List Loc), gX (dC, dI) (tK kc) (wK ad kc sa va) Z A s (pB σ 14 i v) H locs → W p l e R s m args below meth c H locs cells slots Q (F0 m (pc + 1) ls (rest))) : W p l e R s m args below meth c H locs cells slots Q (F0 m pc ls (.long v :: .int i :: .ref (ad 10) :: rest)) := by
  obtain ⟨hx, hb, hml, hown, hu⟩ := S
  obtain ⟨hK, hP, hD, hS, hA⟩ := X
  exact va_last hx hb hK hP hD hS 10 6 rfl rfl hi hd (fun H1 locs1 hP1 hD1 hS1 => k H1 locs1 ⟨hK, hP1, hD1, hS1, hA⟩)
theorem wknB_14 (S : CallFix p m c cc nL s args uG own) (X : gX (dC, dI) (tK kc) (wK ad kc sa va) Z A s σ H locs) (hd : decode cc pc = .ok (.arraylength, 1))
    (k : W p l e R s m args below meth c H locs cells slots Q (F0 m (pc + 1) ls (.int 4000 :: rest))) : W p l e R s m args below meth c H locs cells slots Q (F0 m pc ls (.ref (ad 10) :: rest)) := by
  obtain ⟨hx, hb, hml, hown, hu⟩ := S
  obtain ⟨hK, hP, hD, hS, hA⟩ := X
  exact va_alen (v := 4000) hx hb hK hP 10 6 rfl rfl (show Int32.ofNat 4000 = 4000 by decide) hd k
theorem wklB_0 {i : Int32} {v : Int64} (S : CallFix p m c cc nL s args uG own) (X : gX (dC, dI) (tK kc) (wK ad kc sa va) Z A s σ H locs) (hi : vp_in i 30) (hv : xB σ 0 i = v) (hd : decode cc pc = .ok (.laload, 1))
    (k : W p l e R s m args below meth c H locs cells slots Q (F0 m (pc + 1) ls (.long v :: rest))) : W p l e R s m args below meth c H locs cells slots Q (F0 m pc ls (.int i :: .ref (ad 11) :: rest)) := by
  subst hv
  obtain ⟨hx, hb, hml, hown, hu⟩ := S
  obtain ⟨hK, hP, hD, hS, hA⟩ := X
  exact va_lald hx hb hK hP 11 7 rfl rfl hi hd k
theorem wksB_0 {i : Int32} {v : Int64} (S : CallFix p m c cc nL s args uG own) (X : gX (dC, dI) (tK kc) (wK ad kc sa va) Z A s σ H locs) (hi : vp_in i 30) (hd : decode cc pc = .ok (.lastore, 1))
    (k : ∀ (H : Heap) (locs : List Loc), gX (dC, dI) (tK kc) (wK ad kc sa va) Z A s (pB σ 0 i v) H locs → W p l e R s m args below meth c H locs cells slots Q (F0 m (pc + 1) ls (rest))) : W p l e R s m args below meth c H locs cells slots Q (F0 m pc ls (.long v :: .int i :: .ref (ad 11) :: rest)) := by
  obtain ⟨hx, hb, hml, hown, hu⟩ := S
  obtain ⟨hK, hP, hD, hS, hA⟩ := X
  exact va_last hx hb hK hP hD hS 11 7 rfl rfl hi hd (fun H1 locs1 hP1 hD1 hS1 => k H1 locs1 ⟨hK, hP1, hD1, hS1, hA⟩)
theorem wknB_0 (S : CallFix p m c cc nL s args uG own) (X : gX (dC, dI) (tK kc) (wK ad kc sa va) Z A s σ H locs) (hd : decode cc pc = .ok (.arraylength, 1))
    (k : W p l e R s m args below meth c H locs cells slots Q (F0 m (pc + 1) ls (.int 30 :: rest))) : W p l e R s m args below meth c H locs cells slots Q (F0 m pc ls (.ref (ad 11) :: rest)) := by
  obtain ⟨hx, hb, hml, hown, hu⟩ := S
  obtain ⟨hK, hP, hD, hS, hA⟩ := X
  exact va_alen (v := 30) hx hb hK hP 11 7 rfl rfl (show Int32.ofNat 30 = 30 by decide) hd k
theorem wklA_2 {i : Int32} {v : Int32} (S : CallFix p m c cc nL s args uG own) (X : gX (dC, dI) (tK kc) (wK ad kc sa va) Z A s σ H locs) (hi : vp_in i 30) (hv : xA σ 2 i = v) (hd : decode cc pc = .ok (.iaload, 1))
    (k : W p l e R s m args below meth c H locs cells slots Q (F0 m (pc + 1) ls (.int v :: rest))) : W p l e R s m args below meth c H locs cells slots Q (F0 m pc ls (.int i :: .ref (ad 12) :: rest)) := by
  subst hv
  obtain ⟨hx, hb, hml, hown, hu⟩ := S
  obtain ⟨hK, hP, hD, hS, hA⟩ := X
  exact va_iald hx hb hK hP 12 8 rfl rfl hi hd k
theorem wksA_2 {i : Int32} {v : Int32} (S : CallFix p m c cc nL s args uG own) (X : gX (dC, dI) (tK kc) (wK ad kc sa va) Z A s σ H locs) (hi : vp_in i 30) (hd : decode cc pc = .ok (.iastore, 1))
    (k : ∀ (H : Heap) (locs : List Loc), gX (dC, dI) (tK kc) (wK ad kc sa va) Z A s (pA σ 2 i v) H locs → W p l e R s m args below meth c H locs cells slots Q (F0 m (pc + 1) ls (rest))) : W p l e R s m args below meth c H locs cells slots Q (F0 m pc ls (.int v :: .int i :: .ref (ad 12) :: rest)) := by
  obtain ⟨hx, hb, hml, hown, hu⟩ := S
  obtain ⟨hK, hP, hD, hS, hA⟩ := X
  exact va_iast hx hb hK hP hD hS 12 8 rfl rfl hi hd (fun H1 locs1 hP1 hD1 hS1 => k H1 locs1 ⟨hK, hP1, hD1, hS1, hA⟩)
theorem wknA_2 (S : CallFix p m c cc nL s args uG own) (X : gX (dC, dI) (tK kc) (wK ad kc sa va) Z A s σ H locs) (hd : decode cc pc = .ok (.arraylength, 1))
    (k : W p l e R s m args below meth c H locs cells slots Q (F0 m (pc + 1) ls (.int 30 :: rest))) : W p l e R s m args below meth c H locs cells slots Q (F0 m pc ls (.ref (ad 12) :: rest)) := by
  obtain ⟨hx, hb, hml, hown, hu⟩ := S
  obtain ⟨hK, hP, hD, hS, hA⟩ := X
  exact va_alen (v := 30) hx hb hK hP 12 8 rfl rfl (show Int32.ofNat 30 = 30 by decide) hd k
theorem wklB_1 {i : Int32} {v : Int64} (S : CallFix p m c cc nL s args uG own) (X : gX (dC, dI) (tK kc) (wK ad kc sa va) Z A s σ H locs) (hi : vp_in i 30) (hv : xB σ 1 i = v) (hd : decode cc pc = .ok (.laload, 1))
    (k : W p l e R s m args below meth c H locs cells slots Q (F0 m (pc + 1) ls (.long v :: rest))) : W p l e R s m args below meth c H locs cells slots Q (F0 m pc ls (.int i :: .ref (ad 13) :: rest)) := by
  subst hv
  obtain ⟨hx, hb, hml, hown, hu⟩ := S
  obtain ⟨hK, hP, hD, hS, hA⟩ := X
  exact va_lald hx hb hK hP 13 9 rfl rfl hi hd k
theorem wksB_1 {i : Int32} {v : Int64} (S : CallFix p m c cc nL s args uG own) (X : gX (dC, dI) (tK kc) (wK ad kc sa va) Z A s σ H locs) (hi : vp_in i 30) (hd : decode cc pc = .ok (.lastore, 1))
    (k : ∀ (H : Heap) (locs : List Loc), gX (dC, dI) (tK kc) (wK ad kc sa va) Z A s (pB σ 1 i v) H locs → W p l e R s m args below meth c H locs cells slots Q (F0 m (pc + 1) ls (rest))) : W p l e R s m args below meth c H locs cells slots Q (F0 m pc ls (.long v :: .int i :: .ref (ad 13) :: rest)) := by
  obtain ⟨hx, hb, hml, hown, hu⟩ := S
  obtain ⟨hK, hP, hD, hS, hA⟩ := X
  exact va_last hx hb hK hP hD hS 13 9 rfl rfl hi hd (fun H1 locs1 hP1 hD1 hS1 => k H1 locs1 ⟨hK, hP1, hD1, hS1, hA⟩)
theorem wknB_1 (S : CallFix p m c cc nL s args uG own) (X : gX (dC, dI) (tK kc) (wK ad kc sa va) Z A s σ H locs) (hd : decode cc pc = .ok (.arraylength, 1))
    (k : W p l e R s m args below meth c H locs cells slots Q (F0 m (pc + 1) ls (.int 30 :: rest))) : W p l e R s m args below meth c H locs cells slots Q (F0 m pc ls (.ref (ad 13) :: rest)) := by
  obtain ⟨hx, hb, hml, hown, hu⟩ := S
  obtain ⟨hK, hP, hD, hS, hA⟩ := X
  exact va_alen (v := 30) hx hb hK hP 13 9 rfl rfl (show Int32.ofNat 30 = 30 by decide) hd k
theorem wklA_3 {i : Int32} {v : Int32} (S : CallFix p m c cc nL s args uG own) (X : gX (dC, dI) (tK kc) (wK ad kc sa va) Z A s σ H locs) (hi : vp_in i 630) (hv : xA σ 3 i = v) (hd : decode cc pc = .ok (.iaload, 1))
    (k : W p l e R s m args below meth c H locs cells slots Q (F0 m (pc + 1) ls (.int v :: rest))) : W p l e R s m args below meth c H locs cells slots Q (F0 m pc ls (.int i :: .ref (ad 14) :: rest)) := by
  subst hv
  obtain ⟨hx, hb, hml, hown, hu⟩ := S
  obtain ⟨hK, hP, hD, hS, hA⟩ := X
  exact va_iald hx hb hK hP 14 10 rfl rfl hi hd k
theorem wksA_3 {i : Int32} {v : Int32} (S : CallFix p m c cc nL s args uG own) (X : gX (dC, dI) (tK kc) (wK ad kc sa va) Z A s σ H locs) (hi : vp_in i 630) (hd : decode cc pc = .ok (.iastore, 1))
    (k : ∀ (H : Heap) (locs : List Loc), gX (dC, dI) (tK kc) (wK ad kc sa va) Z A s (pA σ 3 i v) H locs → W p l e R s m args below meth c H locs cells slots Q (F0 m (pc + 1) ls (rest))) : W p l e R s m args below meth c H locs cells slots Q (F0 m pc ls (.int v :: .int i :: .ref (ad 14) :: rest)) := by
  obtain ⟨hx, hb, hml, hown, hu⟩ := S
  obtain ⟨hK, hP, hD, hS, hA⟩ := X
  exact va_iast hx hb hK hP hD hS 14 10 rfl rfl hi hd (fun H1 locs1 hP1 hD1 hS1 => k H1 locs1 ⟨hK, hP1, hD1, hS1, hA⟩)
theorem wknA_3 (S : CallFix p m c cc nL s args uG own) (X : gX (dC, dI) (tK kc) (wK ad kc sa va) Z A s σ H locs) (hd : decode cc pc = .ok (.arraylength, 1))
    (k : W p l e R s m args below meth c H locs cells slots Q (F0 m (pc + 1) ls (.int 630 :: rest))) : W p l e R s m args below meth c H locs cells slots Q (F0 m pc ls (.ref (ad 14) :: rest)) := by
  obtain ⟨hx, hb, hml, hown, hu⟩ := S
  obtain ⟨hK, hP, hD, hS, hA⟩ := X
  exact va_alen (v := 630) hx hb hK hP 14 10 rfl rfl (show Int32.ofNat 630 = 630 by decide) hd k
theorem wklA_4 {i : Int32} {v : Int32} (S : CallFix p m c cc nL s args uG own) (X : gX (dC, dI) (tK kc) (wK ad kc sa va) Z A s σ H locs) (hi : vp_in i 630) (hv : xA σ 4 i = v) (hd : decode cc pc = .ok (.iaload, 1))
    (k : W p l e R s m args below meth c H locs cells slots Q (F0 m (pc + 1) ls (.int v :: rest))) : W p l e R s m args below meth c H locs cells slots Q (F0 m pc ls (.int i :: .ref (ad 15) :: rest)) := by
  subst hv
  obtain ⟨hx, hb, hml, hown, hu⟩ := S
  obtain ⟨hK, hP, hD, hS, hA⟩ := X
  exact va_iald hx hb hK hP 15 11 rfl rfl hi hd k
theorem wksA_4 {i : Int32} {v : Int32} (S : CallFix p m c cc nL s args uG own) (X : gX (dC, dI) (tK kc) (wK ad kc sa va) Z A s σ H locs) (hi : vp_in i 630) (hd : decode cc pc = .ok (.iastore, 1))
    (k : ∀ (H : Heap) (locs : List Loc), gX (dC, dI) (tK kc) (wK ad kc sa va) Z A s (pA σ 4 i v) H locs → W p l e R s m args below meth c H locs cells slots Q (F0 m (pc + 1) ls (rest))) : W p l e R s m args below meth c H locs cells slots Q (F0 m pc ls (.int v :: .int i :: .ref (ad 15) :: rest)) := by
  obtain ⟨hx, hb, hml, hown, hu⟩ := S
  obtain ⟨hK, hP, hD, hS, hA⟩ := X
  exact va_iast hx hb hK hP hD hS 15 11 rfl rfl hi hd (fun H1 locs1 hP1 hD1 hS1 => k H1 locs1 ⟨hK, hP1, hD1, hS1, hA⟩)
theorem wknA_4 (S : CallFix p m c cc nL s args uG own) (X : gX (dC, dI) (tK kc) (wK ad kc sa va) Z A s σ H locs) (hd : decode cc pc = .ok (.arraylength, 1))
    (k : W p l e R s m args below meth c H locs cells slots Q (F0 m (pc + 1) ls (.int 630 :: rest))) : W p l e R s m args below meth c H locs cells slots Q (F0 m pc ls (.ref (ad 15) :: rest)) := by
  obtain ⟨hx, hb, hml, hown, hu⟩ := S
  obtain ⟨hK, hP, hD, hS, hA⟩ := X
  exact va_alen (v := 630) hx hb hK hP 15 11 rfl rfl (show Int32.ofNat 630 = 630 by decide) hd k
theorem wklA_5 {i : Int32} {v : Int32} (S : CallFix p m c cc nL s args uG own) (X : gX (dC, dI) (tK kc) (wK ad kc sa va) Z A s σ H locs) (hi : vp_in i 5040) (hv : xA σ 5 i = v) (hd : decode cc pc = .ok (.iaload, 1))
    (k : W p l e R s m args below meth c H locs cells slots Q (F0 m (pc + 1) ls (.int v :: rest))) : W p l e R s m args below meth c H locs cells slots Q (F0 m pc ls (.int i :: .ref (ad 16) :: rest)) := by
  subst hv
  obtain ⟨hx, hb, hml, hown, hu⟩ := S
  obtain ⟨hK, hP, hD, hS, hA⟩ := X
  exact va_iald hx hb hK hP 16 12 rfl rfl hi hd k
theorem wksA_5 {i : Int32} {v : Int32} (S : CallFix p m c cc nL s args uG own) (X : gX (dC, dI) (tK kc) (wK ad kc sa va) Z A s σ H locs) (hi : vp_in i 5040) (hd : decode cc pc = .ok (.iastore, 1))
    (k : ∀ (H : Heap) (locs : List Loc), gX (dC, dI) (tK kc) (wK ad kc sa va) Z A s (pA σ 5 i v) H locs → W p l e R s m args below meth c H locs cells slots Q (F0 m (pc + 1) ls (rest))) : W p l e R s m args below meth c H locs cells slots Q (F0 m pc ls (.int v :: .int i :: .ref (ad 16) :: rest)) := by
  obtain ⟨hx, hb, hml, hown, hu⟩ := S
  obtain ⟨hK, hP, hD, hS, hA⟩ := X
  exact va_iast hx hb hK hP hD hS 16 12 rfl rfl hi hd (fun H1 locs1 hP1 hD1 hS1 => k H1 locs1 ⟨hK, hP1, hD1, hS1, hA⟩)
theorem wknA_5 (S : CallFix p m c cc nL s args uG own) (X : gX (dC, dI) (tK kc) (wK ad kc sa va) Z A s σ H locs) (hd : decode cc pc = .ok (.arraylength, 1))
    (k : W p l e R s m args below meth c H locs cells slots Q (F0 m (pc + 1) ls (.int 5040 :: rest))) : W p l e R s m args below meth c H locs cells slots Q (F0 m pc ls (.ref (ad 16) :: rest)) := by
  obtain ⟨hx, hb, hml, hown, hu⟩ := S
  obtain ⟨hK, hP, hD, hS, hA⟩ := X
  exact va_alen (v := 5040) hx hb hK hP 16 12 rfl rfl (show Int32.ofNat 5040 = 5040 by decide) hd k
theorem wklA_6 {i : Int32} {v : Int32} (S : CallFix p m c cc nL s args uG own) (X : gX (dC, dI) (tK kc) (wK ad kc sa va) Z A s σ H locs) (hi : vp_in i 630) (hv : xA σ 6 i = v) (hd : decode cc pc = .ok (.iaload, 1))
    (k : W p l e R s m args below meth c H locs cells slots Q (F0 m (pc + 1) ls (.int v :: rest))) : W p l e R s m args below meth c H locs cells slots Q (F0 m pc ls (.int i :: .ref (ad 17) :: rest)) := by
  subst hv
  obtain ⟨hx, hb, hml, hown, hu⟩ := S
  obtain ⟨hK, hP, hD, hS, hA⟩ := X
  exact va_iald hx hb hK hP 17 13 rfl rfl hi hd k
theorem wksA_6 {i : Int32} {v : Int32} (S : CallFix p m c cc nL s args uG own) (X : gX (dC, dI) (tK kc) (wK ad kc sa va) Z A s σ H locs) (hi : vp_in i 630) (hd : decode cc pc = .ok (.iastore, 1))
    (k : ∀ (H : Heap) (locs : List Loc), gX (dC, dI) (tK kc) (wK ad kc sa va) Z A s (pA σ 6 i v) H locs → W p l e R s m args below meth c H locs cells slots Q (F0 m (pc + 1) ls (rest))) : W p l e R s m args below meth c H locs cells slots Q (F0 m pc ls (.int v :: .int i :: .ref (ad 17) :: rest)) := by
  obtain ⟨hx, hb, hml, hown, hu⟩ := S
  obtain ⟨hK, hP, hD, hS, hA⟩ := X
  exact va_iast hx hb hK hP hD hS 17 13 rfl rfl hi hd (fun H1 locs1 hP1 hD1 hS1 => k H1 locs1 ⟨hK, hP1, hD1, hS1, hA⟩)
theorem wknA_6 (S : CallFix p m c cc nL s args uG own) (X : gX (dC, dI) (tK kc) (wK ad kc sa va) Z A s σ H locs) (hd : decode cc pc = .ok (.arraylength, 1))
    (k : W p l e R s m args below meth c H locs cells slots Q (F0 m (pc + 1) ls (.int 630 :: rest))) : W p l e R s m args below meth c H locs cells slots Q (F0 m pc ls (.ref (ad 17) :: rest)) := by
  obtain ⟨hx, hb, hml, hown, hu⟩ := S
  obtain ⟨hK, hP, hD, hS, hA⟩ := X
  exact va_alen (v := 630) hx hb hK hP 17 13 rfl rfl (show Int32.ofNat 630 = 630 by decide) hd k
theorem wklA_7 {i : Int32} {v : Int32} (S : CallFix p m c cc nL s args uG own) (X : gX (dC, dI) (tK kc) (wK ad kc sa va) Z A s σ H locs) (hi : vp_in i 630) (hv : xA σ 7 i = v) (hd : decode cc pc = .ok (.iaload, 1))
    (k : W p l e R s m args below meth c H locs cells slots Q (F0 m (pc + 1) ls (.int v :: rest))) : W p l e R s m args below meth c H locs cells slots Q (F0 m pc ls (.int i :: .ref (ad 18) :: rest)) := by
  subst hv
  obtain ⟨hx, hb, hml, hown, hu⟩ := S
  obtain ⟨hK, hP, hD, hS, hA⟩ := X
  exact va_iald hx hb hK hP 18 14 rfl rfl hi hd k
theorem wksA_7 {i : Int32} {v : Int32} (S : CallFix p m c cc nL s args uG own) (X : gX (dC, dI) (tK kc) (wK ad kc sa va) Z A s σ H locs) (hi : vp_in i 630) (hd : decode cc pc = .ok (.iastore, 1))
    (k : ∀ (H : Heap) (locs : List Loc), gX (dC, dI) (tK kc) (wK ad kc sa va) Z A s (pA σ 7 i v) H locs → W p l e R s m args below meth c H locs cells slots Q (F0 m (pc + 1) ls (rest))) : W p l e R s m args below meth c H locs cells slots Q (F0 m pc ls (.int v :: .int i :: .ref (ad 18) :: rest)) := by
  obtain ⟨hx, hb, hml, hown, hu⟩ := S
  obtain ⟨hK, hP, hD, hS, hA⟩ := X
  exact va_iast hx hb hK hP hD hS 18 14 rfl rfl hi hd (fun H1 locs1 hP1 hD1 hS1 => k H1 locs1 ⟨hK, hP1, hD1, hS1, hA⟩)
theorem wknA_7 (S : CallFix p m c cc nL s args uG own) (X : gX (dC, dI) (tK kc) (wK ad kc sa va) Z A s σ H locs) (hd : decode cc pc = .ok (.arraylength, 1))
    (k : W p l e R s m args below meth c H locs cells slots Q (F0 m (pc + 1) ls (.int 630 :: rest))) : W p l e R s m args below meth c H locs cells slots Q (F0 m pc ls (.ref (ad 18) :: rest)) := by
  obtain ⟨hx, hb, hml, hown, hu⟩ := S
  obtain ⟨hK, hP, hD, hS, hA⟩ := X
  exact va_alen (v := 630) hx hb hK hP 18 14 rfl rfl (show Int32.ofNat 630 = 630 by decide) hd k
theorem wklA_8 {i : Int32} {v : Int32} (S : CallFix p m c cc nL s args uG own) (X : gX (dC, dI) (tK kc) (wK ad kc sa va) Z A s σ H locs) (hi : vp_in i 630) (hv : xA σ 8 i = v) (hd : decode cc pc = .ok (.iaload, 1))
    (k : W p l e R s m args below meth c H locs cells slots Q (F0 m (pc + 1) ls (.int v :: rest))) : W p l e R s m args below meth c H locs cells slots Q (F0 m pc ls (.int i :: .ref (ad 19) :: rest)) := by
  subst hv
  obtain ⟨hx, hb, hml, hown, hu⟩ := S
  obtain ⟨hK, hP, hD, hS, hA⟩ := X
  exact va_iald hx hb hK hP 19 15 rfl rfl hi hd k
theorem wksA_8 {i : Int32} {v : Int32} (S : CallFix p m c cc nL s args uG own) (X : gX (dC, dI) (tK kc) (wK ad kc sa va) Z A s σ H locs) (hi : vp_in i 630) (hd : decode cc pc = .ok (.iastore, 1))
    (k : ∀ (H : Heap) (locs : List Loc), gX (dC, dI) (tK kc) (wK ad kc sa va) Z A s (pA σ 8 i v) H locs → W p l e R s m args below meth c H locs cells slots Q (F0 m (pc + 1) ls (rest))) : W p l e R s m args below meth c H locs cells slots Q (F0 m pc ls (.int v :: .int i :: .ref (ad 19) :: rest)) := by
  obtain ⟨hx, hb, hml, hown, hu⟩ := S
  obtain ⟨hK, hP, hD, hS, hA⟩ := X
  exact va_iast hx hb hK hP hD hS 19 15 rfl rfl hi hd (fun H1 locs1 hP1 hD1 hS1 => k H1 locs1 ⟨hK, hP1, hD1, hS1, hA⟩)
theorem wknA_8 (S : CallFix p m c cc nL s args uG own) (X : gX (dC, dI) (tK kc) (wK ad kc sa va) Z A s σ H locs) (hd : decode cc pc = .ok (.arraylength, 1))
    (k : W p l e R s m args below meth c H locs cells slots Q (F0 m (pc + 1) ls (.int 630 :: rest))) : W p l e R s m args below meth c H locs cells slots Q (F0 m pc ls (.ref (ad 19) :: rest)) := by
  obtain ⟨hx, hb, hml, hown, hu⟩ := S
  obtain ⟨hK, hP, hD, hS, hA⟩ := X
  exact va_alen (v := 630) hx hb hK hP 19 15 rfl rfl (show Int32.ofNat 630 = 630 by decide) hd k
theorem wklA_9 {i : Int32} {v : Int32} (S : CallFix p m c cc nL s args uG own) (X : gX (dC, dI) (tK kc) (wK ad kc sa va) Z A s σ H locs) (hi : vp_in i 630) (hv : xA σ 9 i = v) (hd : decode cc pc = .ok (.iaload, 1))
    (k : W p l e R s m args below meth c H locs cells slots Q (F0 m (pc + 1) ls (.int v :: rest))) : W p l e R s m args below meth c H locs cells slots Q (F0 m pc ls (.int i :: .ref (ad 20) :: rest)) := by
  subst hv
  obtain ⟨hx, hb, hml, hown, hu⟩ := S
  obtain ⟨hK, hP, hD, hS, hA⟩ := X
  exact va_iald hx hb hK hP 20 16 rfl rfl hi hd k
theorem wksA_9 {i : Int32} {v : Int32} (S : CallFix p m c cc nL s args uG own) (X : gX (dC, dI) (tK kc) (wK ad kc sa va) Z A s σ H locs) (hi : vp_in i 630) (hd : decode cc pc = .ok (.iastore, 1))
    (k : ∀ (H : Heap) (locs : List Loc), gX (dC, dI) (tK kc) (wK ad kc sa va) Z A s (pA σ 9 i v) H locs → W p l e R s m args below meth c H locs cells slots Q (F0 m (pc + 1) ls (rest))) : W p l e R s m args below meth c H locs cells slots Q (F0 m pc ls (.int v :: .int i :: .ref (ad 20) :: rest)) := by
  obtain ⟨hx, hb, hml, hown, hu⟩ := S
  obtain ⟨hK, hP, hD, hS, hA⟩ := X
  exact va_iast hx hb hK hP hD hS 20 16 rfl rfl hi hd (fun H1 locs1 hP1 hD1 hS1 => k H1 locs1 ⟨hK, hP1, hD1, hS1, hA⟩)
theorem wknA_9 (S : CallFix p m c cc nL s args uG own) (X : gX (dC, dI) (tK kc) (wK ad kc sa va) Z A s σ H locs) (hd : decode cc pc = .ok (.arraylength, 1))
    (k : W p l e R s m args below meth c H locs cells slots Q (F0 m (pc + 1) ls (.int 630 :: rest))) : W p l e R s m args below meth c H locs cells slots Q (F0 m pc ls (.ref (ad 20) :: rest)) := by
  obtain ⟨hx, hb, hml, hown, hu⟩ := S
  obtain ⟨hK, hP, hD, hS, hA⟩ := X
  exact va_alen (v := 630) hx hb hK hP 20 16 rfl rfl (show Int32.ofNat 630 = 630 by decide) hd k
theorem wklA_10 {i : Int32} {v : Int32} (S : CallFix p m c cc nL s args uG own) (X : gX (dC, dI) (tK kc) (wK ad kc sa va) Z A s σ H locs) (hi : vp_in i 630) (hv : xA σ 10 i = v) (hd : decode cc pc = .ok (.iaload, 1))
    (k : W p l e R s m args below meth c H locs cells slots Q (F0 m (pc + 1) ls (.int v :: rest))) : W p l e R s m args below meth c H locs cells slots Q (F0 m pc ls (.int i :: .ref (ad 21) :: rest)) := by
  subst hv
  obtain ⟨hx, hb, hml, hown, hu⟩ := S
  obtain ⟨hK, hP, hD, hS, hA⟩ := X
  exact va_iald hx hb hK hP 21 17 rfl rfl hi hd k
theorem wksA_10 {i : Int32} {v : Int32} (S : CallFix p m c cc nL s args uG own) (X : gX (dC, dI) (tK kc) (wK ad kc sa va) Z A s σ H locs) (hi : vp_in i 630) (hd : decode cc pc = .ok (.iastore, 1))
    (k : ∀ (H : Heap) (locs : List Loc), gX (dC, dI) (tK kc) (wK ad kc sa va) Z A s (pA σ 10 i v) H locs → W p l e R s m args below meth c H locs cells slots Q (F0 m (pc + 1) ls (rest))) : W p l e R s m args below meth c H locs cells slots Q (F0 m pc ls (.int v :: .int i :: .ref (ad 21) :: rest)) := by
  obtain ⟨hx, hb, hml, hown, hu⟩ := S
  obtain ⟨hK, hP, hD, hS, hA⟩ := X
  exact va_iast hx hb hK hP hD hS 21 17 rfl rfl hi hd (fun H1 locs1 hP1 hD1 hS1 => k H1 locs1 ⟨hK, hP1, hD1, hS1, hA⟩)
theorem wknA_10 (S : CallFix p m c cc nL s args uG own) (X : gX (dC, dI) (tK kc) (wK ad kc sa va) Z A s σ H locs) (hd : decode cc pc = .ok (.arraylength, 1))
    (k : W p l e R s m args below meth c H locs cells slots Q (F0 m (pc + 1) ls (.int 630 :: rest))) : W p l e R s m args below meth c H locs cells slots Q (F0 m pc ls (.ref (ad 21) :: rest)) := by
  obtain ⟨hx, hb, hml, hown, hu⟩ := S
  obtain ⟨hK, hP, hD, hS, hA⟩ := X
  exact va_alen (v := 630) hx hb hK hP 21 17 rfl rfl (show Int32.ofNat 630 = 630 by decide) hd k
theorem wklA_11 {i : Int32} {v : Int32} (S : CallFix p m c cc nL s args uG own) (X : gX (dC, dI) (tK kc) (wK ad kc sa va) Z A s σ H locs) (hi : vp_in i 630) (hv : xA σ 11 i = v) (hd : decode cc pc = .ok (.iaload, 1))
    (k : W p l e R s m args below meth c H locs cells slots Q (F0 m (pc + 1) ls (.int v :: rest))) : W p l e R s m args below meth c H locs cells slots Q (F0 m pc ls (.int i :: .ref (ad 22) :: rest)) := by
  subst hv
  obtain ⟨hx, hb, hml, hown, hu⟩ := S
  obtain ⟨hK, hP, hD, hS, hA⟩ := X
  exact va_iald hx hb hK hP 22 18 rfl rfl hi hd k
theorem wksA_11 {i : Int32} {v : Int32} (S : CallFix p m c cc nL s args uG own) (X : gX (dC, dI) (tK kc) (wK ad kc sa va) Z A s σ H locs) (hi : vp_in i 630) (hd : decode cc pc = .ok (.iastore, 1))
    (k : ∀ (H : Heap) (locs : List Loc), gX (dC, dI) (tK kc) (wK ad kc sa va) Z A s (pA σ 11 i v) H locs → W p l e R s m args below meth c H locs cells slots Q (F0 m (pc + 1) ls (rest))) : W p l e R s m args below meth c H locs cells slots Q (F0 m pc ls (.int v :: .int i :: .ref (ad 22) :: rest)) := by
  obtain ⟨hx, hb, hml, hown, hu⟩ := S
  obtain ⟨hK, hP, hD, hS, hA⟩ := X
  exact va_iast hx hb hK hP hD hS 22 18 rfl rfl hi hd (fun H1 locs1 hP1 hD1 hS1 => k H1 locs1 ⟨hK, hP1, hD1, hS1, hA⟩)
theorem wknA_11 (S : CallFix p m c cc nL s args uG own) (X : gX (dC, dI) (tK kc) (wK ad kc sa va) Z A s σ H locs) (hd : decode cc pc = .ok (.arraylength, 1))
    (k : W p l e R s m args below meth c H locs cells slots Q (F0 m (pc + 1) ls (.int 630 :: rest))) : W p l e R s m args below meth c H locs cells slots Q (F0 m pc ls (.ref (ad 22) :: rest)) := by
  obtain ⟨hx, hb, hml, hown, hu⟩ := S
  obtain ⟨hK, hP, hD, hS, hA⟩ := X
  exact va_alen (v := 630) hx hb hK hP 22 18 rfl rfl (show Int32.ofNat 630 = 630 by decide) hd k
theorem wklA_12 {i : Int32} {v : Int32} (S : CallFix p m c cc nL s args uG own) (X : gX (dC, dI) (tK kc) (wK ad kc sa va) Z A s σ H locs) (hi : vp_in i 630) (hv : xA σ 12 i = v) (hd : decode cc pc = .ok (.iaload, 1))
    (k : W p l e R s m args below meth c H locs cells slots Q (F0 m (pc + 1) ls (.int v :: rest))) : W p l e R s m args below meth c H locs cells slots Q (F0 m pc ls (.int i :: .ref (ad 23) :: rest)) := by
  subst hv
  obtain ⟨hx, hb, hml, hown, hu⟩ := S
  obtain ⟨hK, hP, hD, hS, hA⟩ := X
  exact va_iald hx hb hK hP 23 19 rfl rfl hi hd k
theorem wksA_12 {i : Int32} {v : Int32} (S : CallFix p m c cc nL s args uG own) (X : gX (dC, dI) (tK kc) (wK ad kc sa va) Z A s σ H locs) (hi : vp_in i 630) (hd : decode cc pc = .ok (.iastore, 1))
    (k : ∀ (H : Heap) (locs : List Loc), gX (dC, dI) (tK kc) (wK ad kc sa va) Z A s (pA σ 12 i v) H locs → W p l e R s m args below meth c H locs cells slots Q (F0 m (pc + 1) ls (rest))) : W p l e R s m args below meth c H locs cells slots Q (F0 m pc ls (.int v :: .int i :: .ref (ad 23) :: rest)) := by
  obtain ⟨hx, hb, hml, hown, hu⟩ := S
  obtain ⟨hK, hP, hD, hS, hA⟩ := X
  exact va_iast hx hb hK hP hD hS 23 19 rfl rfl hi hd (fun H1 locs1 hP1 hD1 hS1 => k H1 locs1 ⟨hK, hP1, hD1, hS1, hA⟩)
theorem wknA_12 (S : CallFix p m c cc nL s args uG own) (X : gX (dC, dI) (tK kc) (wK ad kc sa va) Z A s σ H locs) (hd : decode cc pc = .ok (.arraylength, 1))
    (k : W p l e R s m args below meth c H locs cells slots Q (F0 m (pc + 1) ls (.int 630 :: rest))) : W p l e R s m args below meth c H locs cells slots Q (F0 m pc ls (.ref (ad 23) :: rest)) := by
  obtain ⟨hx, hb, hml, hown, hu⟩ := S
  obtain ⟨hK, hP, hD, hS, hA⟩ := X
  exact va_alen (v := 630) hx hb hK hP 23 19 rfl rfl (show Int32.ofNat 630 = 630 by decide) hd k
theorem wklA_13 {i : Int32} {v : Int32} (S : CallFix p m c cc nL s args uG own) (X : gX (dC, dI) (tK kc) (wK ad kc sa va) Z A s σ H locs) (hi : vp_in i 6200) (hv : xA σ 13 i = v) (hd : decode cc pc = .ok (.iaload, 1))
    (k : W p l e R s m args below meth c H locs cells slots Q (F0 m (pc + 1) ls (.int v :: rest))) : W p l e R s m args below meth c H locs cells slots Q (F0 m pc ls (.int i :: .ref (ad 24) :: rest)) := by
  subst hv
  obtain ⟨hx, hb, hml, hown, hu⟩ := S
  obtain ⟨hK, hP, hD, hS, hA⟩ := X
  exact va_iald hx hb hK hP 24 20 rfl rfl hi hd k
theorem wksA_13 {i : Int32} {v : Int32} (S : CallFix p m c cc nL s args uG own) (X : gX (dC, dI) (tK kc) (wK ad kc sa va) Z A s σ H locs) (hi : vp_in i 6200) (hd : decode cc pc = .ok (.iastore, 1))
    (k : ∀ (H : Heap) (locs : List Loc), gX (dC, dI) (tK kc) (wK ad kc sa va) Z A s (pA σ 13 i v) H locs → W p l e R s m args below meth c H locs cells slots Q (F0 m (pc + 1) ls (rest))) : W p l e R s m args below meth c H locs cells slots Q (F0 m pc ls (.int v :: .int i :: .ref (ad 24) :: rest)) := by
  obtain ⟨hx, hb, hml, hown, hu⟩ := S
  obtain ⟨hK, hP, hD, hS, hA⟩ := X
  exact va_iast hx hb hK hP hD hS 24 20 rfl rfl hi hd (fun H1 locs1 hP1 hD1 hS1 => k H1 locs1 ⟨hK, hP1, hD1, hS1, hA⟩)
theorem wknA_13 (S : CallFix p m c cc nL s args uG own) (X : gX (dC, dI) (tK kc) (wK ad kc sa va) Z A s σ H locs) (hd : decode cc pc = .ok (.arraylength, 1))
    (k : W p l e R s m args below meth c H locs cells slots Q (F0 m (pc + 1) ls (.int 6200 :: rest))) : W p l e R s m args below meth c H locs cells slots Q (F0 m pc ls (.ref (ad 24) :: rest)) := by
  obtain ⟨hx, hb, hml, hown, hu⟩ := S
  obtain ⟨hK, hP, hD, hS, hA⟩ := X
  exact va_alen (v := 6200) hx hb hK hP 24 20 rfl rfl (show Int32.ofNat 6200 = 6200 by decide) hd k
theorem wklA_14 {i : Int32} {v : Int32} (S : CallFix p m c cc nL s args uG own) (X : gX (dC, dI) (tK kc) (wK ad kc sa va) Z A s σ H locs) (hi : vp_in i 6200) (hv : xA σ 14 i = v) (hd : decode cc pc = .ok (.iaload, 1))
    (k : W p l e R s m args below meth c H locs cells slots Q (F0 m (pc + 1) ls (.int v :: rest))) : W p l e R s m args below meth c H locs cells slots Q (F0 m pc ls (.int i :: .ref (ad 25) :: rest)) := by
  subst hv
  obtain ⟨hx, hb, hml, hown, hu⟩ := S
  obtain ⟨hK, hP, hD, hS, hA⟩ := X
  exact va_iald hx hb hK hP 25 21 rfl rfl hi hd k
theorem wksA_14 {i : Int32} {v : Int32} (S : CallFix p m c cc nL s args uG own) (X : gX (dC, dI) (tK kc) (wK ad kc sa va) Z A s σ H locs) (hi : vp_in i 6200) (hd : decode cc pc = .ok (.iastore, 1))
    (k : ∀ (H : Heap) (locs : List Loc), gX (dC, dI) (tK kc) (wK ad kc sa va) Z A s (pA σ 14 i v) H locs → W p l e R s m args below meth c H locs cells slots Q (F0 m (pc + 1) ls (rest))) : W p l e R s m args below meth c H locs cells slots Q (F0 m pc ls (.int v :: .int i :: .ref (ad 25) :: rest)) := by
  obtain ⟨hx, hb, hml, hown, hu⟩ := S
  obtain ⟨hK, hP, hD, hS, hA⟩ := X
  exact va_iast hx hb hK hP hD hS 25 21 rfl rfl hi hd (fun H1 locs1 hP1 hD1 hS1 => k H1 locs1 ⟨hK, hP1, hD1, hS1, hA⟩)
theorem wknA_14 (S : CallFix p m c cc nL s args uG own) (X : gX (dC, dI) (tK kc) (wK ad kc sa va) Z A s σ H locs) (hd : decode cc pc = .ok (.arraylength, 1))
    (k : W p l e R s m args below meth c H locs cells slots Q (F0 m (pc + 1) ls (.int 6200 :: rest))) : W p l e R s m args below meth c H locs cells slots Q (F0 m pc ls (.ref (ad 25) :: rest)) := by
  obtain ⟨hx, hb, hml, hown, hu⟩ := S
  obtain ⟨hK, hP, hD, hS, hA⟩ := X
  exact va_alen (v := 6200) hx hb hK hP 25 21 rfl rfl (show Int32.ofNat 6200 = 6200 by decide) hd k
theorem wklA_15 {i : Int32} {v : Int32} (S : CallFix p m c cc nL s args uG own) (X : gX (dC, dI) (tK kc) (wK ad kc sa va) Z A s σ H locs) (hi : vp_in i 6200) (hv : xA σ 15 i = v) (hd : decode cc pc = .ok (.iaload, 1))
    (k : W p l e R s m args below meth c H locs cells slots Q (F0 m (pc + 1) ls (.int v :: rest))) : W p l e R s m args below meth c H locs cells slots Q (F0 m pc ls (.int i :: .ref (ad 26) :: rest)) := by
  subst hv
  obtain ⟨hx, hb, hml, hown, hu⟩ := S
  obtain ⟨hK, hP, hD, hS, hA⟩ := X
  exact va_iald hx hb hK hP 26 22 rfl rfl hi hd k
theorem wksA_15 {i : Int32} {v : Int32} (S : CallFix p m c cc nL s args uG own) (X : gX (dC, dI) (tK kc) (wK ad kc sa va) Z A s σ H locs) (hi : vp_in i 6200) (hd : decode cc pc = .ok (.iastore, 1))
    (k : ∀ (H : Heap) (locs : List Loc), gX (dC, dI) (tK kc) (wK ad kc sa va) Z A s (pA σ 15 i v) H locs → W p l e R s m args below meth c H locs cells slots Q (F0 m (pc + 1) ls (rest))) : W p l e R s m args below meth c H locs cells slots Q (F0 m pc ls (.int v :: .int i :: .ref (ad 26) :: rest)) := by
  obtain ⟨hx, hb, hml, hown, hu⟩ := S
  obtain ⟨hK, hP, hD, hS, hA⟩ := X
  exact va_iast hx hb hK hP hD hS 26 22 rfl rfl hi hd (fun H1 locs1 hP1 hD1 hS1 => k H1 locs1 ⟨hK, hP1, hD1, hS1, hA⟩)
theorem wknA_15 (S : CallFix p m c cc nL s args uG own) (X : gX (dC, dI) (tK kc) (wK ad kc sa va) Z A s σ H locs) (hd : decode cc pc = .ok (.arraylength, 1))
    (k : W p l e R s m args below meth c H locs cells slots Q (F0 m (pc + 1) ls (.int 6200 :: rest))) : W p l e R s m args below meth c H locs cells slots Q (F0 m pc ls (.ref (ad 26) :: rest)) := by
  obtain ⟨hx, hb, hml, hown, hu⟩ := S
  obtain ⟨hK, hP, hD, hS, hA⟩ := X
  exact va_alen (v := 6200) hx hb hK hP 26 22 rfl rfl (show Int32.ofNat 6200 = 6200 by decide) hd k
theorem wklA_16 {i : Int32} {v : Int32} (S : CallFix p m c cc nL s args uG own) (X : gX (dC, dI) (tK kc) (wK ad kc sa va) Z A s σ H locs) (hi : vp_in i 6200) (hv : xA σ 16 i = v) (hd : decode cc pc = .ok (.iaload, 1))
    (k : W p l e R s m args below meth c H locs cells slots Q (F0 m (pc + 1) ls (.int v :: rest))) : W p l e R s m args below meth c H locs cells slots Q (F0 m pc ls (.int i :: .ref (ad 27) :: rest)) := by
  subst hv
  obtain ⟨hx, hb, hml, hown, hu⟩ := S
  obtain ⟨hK, hP, hD, hS, hA⟩ := X
  exact va_iald hx hb hK hP 27 23 rfl rfl hi hd k
theorem wksA_16 {i : Int32} {v : Int32} (S : CallFix p m c cc nL s args uG own) (X : gX (dC, dI) (tK kc) (wK ad kc sa va) Z A s σ H locs) (hi : vp_in i 6200) (hd : decode cc pc = .ok (.iastore, 1))
    (k : ∀ (H : Heap) (locs : List Loc), gX (dC, dI) (tK kc) (wK ad kc sa va) Z A s (pA σ 16 i v) H locs → W p l e R s m args below meth c H locs cells slots Q (F0 m (pc + 1) ls (rest))) : W p l e R s m args below meth c H locs cells slots Q (F0 m pc ls (.int v :: .int i :: .ref (ad 27) :: rest)) := by
  obtain ⟨hx, hb, hml, hown, hu⟩ := S
  obtain ⟨hK, hP, hD, hS, hA⟩ := X
  exact va_iast hx hb hK hP hD hS 27 23 rfl rfl hi hd (fun H1 locs1 hP1 hD1 hS1 => k H1 locs1 ⟨hK, hP1, hD1, hS1, hA⟩)
theorem wknA_16 (S : CallFix p m c cc nL s args uG own) (X : gX (dC, dI) (tK kc) (wK ad kc sa va) Z A s σ H locs) (hd : decode cc pc = .ok (.arraylength, 1))
    (k : W p l e R s m args below meth c H locs cells slots Q (F0 m (pc + 1) ls (.int 6200 :: rest))) : W p l e R s m args below meth c H locs cells slots Q (F0 m pc ls (.ref (ad 27) :: rest)) := by
  obtain ⟨hx, hb, hml, hown, hu⟩ := S
  obtain ⟨hK, hP, hD, hS, hA⟩ := X
  exact va_alen (v := 6200) hx hb hK hP 27 23 rfl rfl (show Int32.ofNat 6200 = 6200 by decide) hd k
theorem wklA_17 {i : Int32} {v : Int32} (S : CallFix p m c cc nL s args uG own) (X : gX (dC, dI) (tK kc) (wK ad kc sa va) Z A s σ H locs) (hi : vp_in i 6200) (hv : xA σ 17 i = v) (hd : decode cc pc = .ok (.iaload, 1))
    (k : W p l e R s m args below meth c H locs cells slots Q (F0 m (pc + 1) ls (.int v :: rest))) : W p l e R s m args below meth c H locs cells slots Q (F0 m pc ls (.int i :: .ref (ad 28) :: rest)) := by
  subst hv
  obtain ⟨hx, hb, hml, hown, hu⟩ := S
  obtain ⟨hK, hP, hD, hS, hA⟩ := X
  exact va_iald hx hb hK hP 28 24 rfl rfl hi hd k
theorem wksA_17 {i : Int32} {v : Int32} (S : CallFix p m c cc nL s args uG own) (X : gX (dC, dI) (tK kc) (wK ad kc sa va) Z A s σ H locs) (hi : vp_in i 6200) (hd : decode cc pc = .ok (.iastore, 1))
    (k : ∀ (H : Heap) (locs : List Loc), gX (dC, dI) (tK kc) (wK ad kc sa va) Z A s (pA σ 17 i v) H locs → W p l e R s m args below meth c H locs cells slots Q (F0 m (pc + 1) ls (rest))) : W p l e R s m args below meth c H locs cells slots Q (F0 m pc ls (.int v :: .int i :: .ref (ad 28) :: rest)) := by
  obtain ⟨hx, hb, hml, hown, hu⟩ := S
  obtain ⟨hK, hP, hD, hS, hA⟩ := X
  exact va_iast hx hb hK hP hD hS 28 24 rfl rfl hi hd (fun H1 locs1 hP1 hD1 hS1 => k H1 locs1 ⟨hK, hP1, hD1, hS1, hA⟩)
theorem wknA_17 (S : CallFix p m c cc nL s args uG own) (X : gX (dC, dI) (tK kc) (wK ad kc sa va) Z A s σ H locs) (hd : decode cc pc = .ok (.arraylength, 1))
    (k : W p l e R s m args below meth c H locs cells slots Q (F0 m (pc + 1) ls (.int 6200 :: rest))) : W p l e R s m args below meth c H locs cells slots Q (F0 m pc ls (.ref (ad 28) :: rest)) := by
  obtain ⟨hx, hb, hml, hown, hu⟩ := S
  obtain ⟨hK, hP, hD, hS, hA⟩ := X
  exact va_alen (v := 6200) hx hb hK hP 28 24 rfl rfl (show Int32.ofNat 6200 = 6200 by decide) hd k
theorem wklA_18 {i : Int32} {v : Int32} (S : CallFix p m c cc nL s args uG own) (X : gX (dC, dI) (tK kc) (wK ad kc sa va) Z A s σ H locs) (hi : vp_in i 6200) (hv : xA σ 18 i = v) (hd : decode cc pc = .ok (.iaload, 1))
    (k : W p l e R s m args below meth c H locs cells slots Q (F0 m (pc + 1) ls (.int v :: rest))) : W p l e R s m args below meth c H locs cells slots Q (F0 m pc ls (.int i :: .ref (ad 29) :: rest)) := by
  subst hv
  obtain ⟨hx, hb, hml, hown, hu⟩ := S
  obtain ⟨hK, hP, hD, hS, hA⟩ := X
  exact va_iald hx hb hK hP 29 25 rfl rfl hi hd k
theorem wksA_18 {i : Int32} {v : Int32} (S : CallFix p m c cc nL s args uG own) (X : gX (dC, dI) (tK kc) (wK ad kc sa va) Z A s σ H locs) (hi : vp_in i 6200) (hd : decode cc pc = .ok (.iastore, 1))
    (k : ∀ (H : Heap) (locs : List Loc), gX (dC, dI) (tK kc) (wK ad kc sa va) Z A s (pA σ 18 i v) H locs → W p l e R s m args below meth c H locs cells slots Q (F0 m (pc + 1) ls (rest))) : W p l e R s m args below meth c H locs cells slots Q (F0 m pc ls (.int v :: .int i :: .ref (ad 29) :: rest)) := by
  obtain ⟨hx, hb, hml, hown, hu⟩ := S
  obtain ⟨hK, hP, hD, hS, hA⟩ := X
  exact va_iast hx hb hK hP hD hS 29 25 rfl rfl hi hd (fun H1 locs1 hP1 hD1 hS1 => k H1 locs1 ⟨hK, hP1, hD1, hS1, hA⟩)
theorem wknA_18 (S : CallFix p m c cc nL s args uG own) (X : gX (dC, dI) (tK kc) (wK ad kc sa va) Z A s σ H locs) (hd : decode cc pc = .ok (.arraylength, 1))
    (k : W p l e R s m args below meth c H locs cells slots Q (F0 m (pc + 1) ls (.int 6200 :: rest))) : W p l e R s m args below meth c H locs cells slots Q (F0 m pc ls (.ref (ad 29) :: rest)) := by
  obtain ⟨hx, hb, hml, hown, hu⟩ := S
  obtain ⟨hK, hP, hD, hS, hA⟩ := X
  exact va_alen (v := 6200) hx hb hK hP 29 25 rfl rfl (show Int32.ofNat 6200 = 6200 by decide) hd k
theorem wklA_19 {i : Int32} {v : Int32} (S : CallFix p m c cc nL s args uG own) (X : gX (dC, dI) (tK kc) (wK ad kc sa va) Z A s σ H locs) (hi : vp_in i 6200) (hv : xA σ 19 i = v) (hd : decode cc pc = .ok (.iaload, 1))
    (k : W p l e R s m args below meth c H locs cells slots Q (F0 m (pc + 1) ls (.int v :: rest))) : W p l e R s m args below meth c H locs cells slots Q (F0 m pc ls (.int i :: .ref (ad 30) :: rest)) := by
  subst hv
  obtain ⟨hx, hb, hml, hown, hu⟩ := S
  obtain ⟨hK, hP, hD, hS, hA⟩ := X
  exact va_iald hx hb hK hP 30 26 rfl rfl hi hd k
theorem wksA_19 {i : Int32} {v : Int32} (S : CallFix p m c cc nL s args uG own) (X : gX (dC, dI) (tK kc) (wK ad kc sa va) Z A s σ H locs) (hi : vp_in i 6200) (hd : decode cc pc = .ok (.iastore, 1))
    (k : ∀ (H : Heap) (locs : List Loc), gX (dC, dI) (tK kc) (wK ad kc sa va) Z A s (pA σ 19 i v) H locs → W p l e R s m args below meth c H locs cells slots Q (F0 m (pc + 1) ls (rest))) : W p l e R s m args below meth c H locs cells slots Q (F0 m pc ls (.int v :: .int i :: .ref (ad 30) :: rest)) := by
  obtain ⟨hx, hb, hml, hown, hu⟩ := S
  obtain ⟨hK, hP, hD, hS, hA⟩ := X
  exact va_iast hx hb hK hP hD hS 30 26 rfl rfl hi hd (fun H1 locs1 hP1 hD1 hS1 => k H1 locs1 ⟨hK, hP1, hD1, hS1, hA⟩)
theorem wknA_19 (S : CallFix p m c cc nL s args uG own) (X : gX (dC, dI) (tK kc) (wK ad kc sa va) Z A s σ H locs) (hd : decode cc pc = .ok (.arraylength, 1))
    (k : W p l e R s m args below meth c H locs cells slots Q (F0 m (pc + 1) ls (.int 6200 :: rest))) : W p l e R s m args below meth c H locs cells slots Q (F0 m pc ls (.ref (ad 30) :: rest)) := by
  obtain ⟨hx, hb, hml, hown, hu⟩ := S
  obtain ⟨hK, hP, hD, hS, hA⟩ := X
  exact va_alen (v := 6200) hx hb hK hP 30 26 rfl rfl (show Int32.ofNat 6200 = 6200 by decide) hd k
theorem wklB_2 {i : Int32} {v : Int64} (S : CallFix p m c cc nL s args uG own) (X : gX (dC, dI) (tK kc) (wK ad kc sa va) Z A s σ H locs) (hi : vp_in i 6200) (hv : xB σ 2 i = v) (hd : decode cc pc = .ok (.laload, 1))
    (k : W p l e R s m args below meth c H locs cells slots Q (F0 m (pc + 1) ls (.long v :: rest))) : W p l e R s m args below meth c H locs cells slots Q (F0 m pc ls (.int i :: .ref (ad 31) :: rest)) := by
  subst hv
  obtain ⟨hx, hb, hml, hown, hu⟩ := S
  obtain ⟨hK, hP, hD, hS, hA⟩ := X
  exact va_lald hx hb hK hP 31 27 rfl rfl hi hd k
theorem wksB_2 {i : Int32} {v : Int64} (S : CallFix p m c cc nL s args uG own) (X : gX (dC, dI) (tK kc) (wK ad kc sa va) Z A s σ H locs) (hi : vp_in i 6200) (hd : decode cc pc = .ok (.lastore, 1))
    (k : ∀ (H : Heap) (locs : List Loc), gX (dC, dI) (tK kc) (wK ad kc sa va) Z A s (pB σ 2 i v) H locs → W p l e R s m args below meth c H locs cells slots Q (F0 m (pc + 1) ls (rest))) : W p l e R s m args below meth c H locs cells slots Q (F0 m pc ls (.long v :: .int i :: .ref (ad 31) :: rest)) := by
  obtain ⟨hx, hb, hml, hown, hu⟩ := S
  obtain ⟨hK, hP, hD, hS, hA⟩ := X
  exact va_last hx hb hK hP hD hS 31 27 rfl rfl hi hd (fun H1 locs1 hP1 hD1 hS1 => k H1 locs1 ⟨hK, hP1, hD1, hS1, hA⟩)
theorem wknB_2 (S : CallFix p m c cc nL s args uG own) (X : gX (dC, dI) (tK kc) (wK ad kc sa va) Z A s σ H locs) (hd : decode cc pc = .ok (.arraylength, 1))
    (k : W p l e R s m args below meth c H locs cells slots Q (F0 m (pc + 1) ls (.int 6200 :: rest))) : W p l e R s m args below meth c H locs cells slots Q (F0 m pc ls (.ref (ad 31) :: rest)) := by
  obtain ⟨hx, hb, hml, hown, hu⟩ := S
  obtain ⟨hK, hP, hD, hS, hA⟩ := X
  exact va_alen (v := 6200) hx hb hK hP 31 27 rfl rfl (show Int32.ofNat 6200 = 6200 by decide) hd k
end SEMK

