


def wF (x q9 : Nat) (ad : Nat → Nat) (kc : Nat → ClassId) (sv : Value) (sa va : Nat) (σ : S5) : va_W := [(x, .inr (14, [.ref (ad 4), .ref (ad 6), .ref (ad 9), .ref (ad 11), .ref (ad 12), .ref (ad 13), .ref (ad 53), .ref (ad 1), .ref (ad 5), .int (gI σ 60), .int (gI σ 61), .int (gI σ 62), .int (gI σ 63), .int (gI σ 64), .int (gI σ 65)])),
  (ad 1, .inr (11, [.ref (ad 2), .int (gI σ 66), .int (gI σ 67)])),
  (ad 2, .inl (kc 2, 12000, .inl (gA σ 50))),
  (q9, .inl (kc 3, 1, .inr (.inl (gB σ 30)))),
  (ad 4, .inr (11, [.ref (ad 14), .int (gI σ 0), .int (gI σ 1)])),
  (ad 5, .inr (11, [.ref (ad 15), .int (gI σ 2), .int (gI σ 3)])),
  (ad 6, .inr (7, [.ref (ad 16), .ref (ad 17), .int (gI σ 4), .ref (ad 18), .int (gI σ 5), .int (gI σ 6), .int (gI σ 7), .ref (ad 19), .ref (ad 20), .ref (ad 21), .ref (ad 22), .ref (ad 23), .ref (ad 24), .ref (ad 25), .ref (ad 26), .ref (ad 27), .ref (ad 28)])),
  (ad 7, .inr (12, [.ref (ad 29), .ref (ad 30), .ref (ad 31), .ref (ad 32), .ref (ad 33), .ref (ad 34), .ref (ad 35), .ref (ad 36), .int (gI σ 8)])),
  (ad 8, .inr (9, [.ref (ad 37), .ref (ad 38), .ref (ad 39), .ref (ad 40), .ref (ad 41), .ref (ad 42), .ref (ad 43), .ref (ad 44), .int (gI σ 9), .ref (ad 45), .ref (ad 46), .ref (ad 47), .ref (ad 48), .ref (ad 49), .int (gI σ 10)])),
  (ad 9, .inr (8, [.ref (ad 10), .ref (ad 7), .ref (ad 6), .ref (ad 8), .int (gI σ 11), .int (gI σ 12), .int (gI σ 13), .int (gI σ 14), .int (gI σ 15)])),
  (ad 10, .inr (13, [.ref (ad 4), .int (gI σ 16), .int (gI σ 17), .int (gI σ 18), .int (gI σ 19), .long (gJ σ 0)])),
  (ad 11, .inr (5, [.ref (ad 7), .ref (ad 6), .ref (ad 8), .int (gI σ 20), .int (gI σ 21)])),
  (ad 12, .inr (4, [.ref (ad 7), .ref (ad 6), .ref (ad 50), .ref (ad 51), .ref (ad 52), .int (gI σ 22), .int (gI σ 23), .int (gI σ 24)])),
  (ad 13, .inr (10, [.ref (ad 7), .ref (ad 6), cond (Nat.beq (gN σ 9) 1) (.ref (ad 5)) sv])),
  (ad 14, .inl (kc 14, 3000, .inl (gA σ 0))),
  (ad 15, .inl (kc 15, 12000, .inl (gA σ 1))),
  (ad 16, .inl (kc 16, 30, .inr (.inl (gB σ 0)))),
  (ad 17, .inl (kc 17, 30, .inl (gA σ 2))),
  (ad 18, .inl (kc 18, 30, .inr (.inl (gB σ 1)))),
  (ad 19, .inl (kc 19, 630, .inl (gA σ 3))),
  (ad 20, .inl (kc 20, 630, .inl (gA σ 4))),
  (ad 21, .inl (kc 21, 5040, .inl (gA σ 5))),
  (ad 22, .inl (kc 22, 630, .inl (gA σ 6))),
  (ad 23, .inl (kc 23, 630, .inl (gA σ 7))),
  (ad 24, .inl (kc 24, 630, .inl (gA σ 8))),
  (ad 25, .inl (kc 25, 630, .inl (gA σ 9))),
  (ad 26, .inl (kc 26, 630, .inl (gA σ 10))),
  (ad 27, .inl (kc 27, 630, .inl (gA σ 11))),
  (ad 28, .inl (kc 28, 630, .inl (gA σ 12))),
  (ad 29, .inl (kc 29, 6200, .inl (gA σ 13))),
  (ad 30, .inl (kc 30, 6200, .inl (gA σ 14))),
  (ad 31, .inl (kc 31, 6200, .inl (gA σ 15))),
  (ad 32, .inl (kc 32, 6200, .inl (gA σ 16))),
  (ad 33, .inl (kc 33, 6200, .inl (gA σ 17))),
  (ad 34, .inl (kc 34, 6200, .inl (gA σ 18))),
  (ad 35, .inl (kc 35, 6200, .inl (gA σ 19))),
  (ad 36, .inl (kc 36, 6200, .inr (.inl (gB σ 2)))),
  (ad 37, .inl (kc 37, 3500, .inr (.inl (gB σ 3)))),
  (ad 38, .inl (kc 38, 700, .inl (gA σ 20))),
  (ad 39, .inl (kc 39, 700, .inl (gA σ 21))),
  (ad 40, .inl (kc 40, 700, .inl (gA σ 22))),
  (ad 41, .inl (kc 41, 700, .inl (gA σ 23))),
  (ad 42, .inl (kc 42, 700, .inl (gA σ 24))),
  (ad 43, .inl (kc 43, 700, .inl (gA σ 25))),
  (ad 44, .inl (kc 44, 700, .inl (gA σ 26))),
  (ad 45, .inl (kc 45, 600, .inr (.inl (gB σ 4)))),
  (ad 46, .inl (kc 46, 600, .inl (gA σ 27))),
  (ad 47, .inl (kc 47, 600, .inl (gA σ 28))),
  (ad 48, .inl (kc 48, 600, .inl (gA σ 29))),
  (ad 49, .inl (kc 49, 600, .inl (gA σ 30))),
  (ad 50, .inl (kc 50, 2520, .inr (.inl (gB σ 5)))),
  (ad 51, .inl (kc 51, 40, .inr (.inl (gB σ 6)))),
  (ad 52, .inl (kc 52, 328, .inr (.inl (gB σ 7)))),
  (ad 53, .inr (6, [.ref (ad 7), .ref (ad 6), .ref (ad 55), .ref (ad 56), .ref (ad 57), .ref (ad 58), .ref (ad 54), .ref sa, .int (gI σ 40), .ref va, .int (gI σ 41), .int (gI σ 42), .int (gI σ 43), .int (gI σ 44), .long (gJ σ 5), .int (gI σ 45), .int (gI σ 46), .int (gI σ 47)])),
  (ad 54, .inr (3, [.ref (ad 61), .ref (ad 55)])),
  (ad 55, .inl (kc 55, 10, .inl (gA σ 40))),
  (ad 56, .inl (kc 56, 630, .inl (gA σ 41))),
  (ad 57, .inl (kc 57, 1000, .inl (gA σ 42))),
  (ad 58, .inl (kc 58, 30, .inl (gA σ 43))),
  (sa, .inl (kc 59, (gN σ 1), .inr (.inl (gB σ 12)))),
  (va, .inl (kc 60, (gN σ 3), .inr (.inl (gB σ 13)))),
  (ad 61, .inl (kc 61, 4000, .inr (.inl (gB σ 14))))]
def tF (kc : Nat → ClassId) : List (ClassId × FieldType) := [(kc 2, .byte), (kc 3, .long), (kc 14, .byte), (kc 15, .byte), (kc 16, .long), (kc 17, .int), (kc 18, .long), (kc 19, .int), (kc 20, .int), (kc 21, .int), (kc 22, .int), (kc 23, .int), (kc 24, .int), (kc 25, .int), (kc 26, .int), (kc 27, .int), (kc 28, .int), (kc 29, .int), (kc 30, .int), (kc 31, .int), (kc 32, .int), (kc 33, .int), (kc 34, .int), (kc 35, .int), (kc 36, .long), (kc 37, .long), (kc 38, .int), (kc 39, .int), (kc 40, .int), (kc 41, .int), (kc 42, .int), (kc 43, .int), (kc 44, .int), (kc 45, .long), (kc 46, .int), (kc 47, .int), (kc 48, .int), (kc 49, .int), (kc 50, .long), (kc 51, .long), (kc 52, .long), (kc 55, .int), (kc 56, .int), (kc 57, .int), (kc 58, .int), (kc 59, .long), (kc 60, .long), (kc 61, .long)]
section SEMF
variable {p : Program} {l : Launch} {e : Env} {R : Room} {s : State} {m : MethodId} {args : Array Value} {below : List Frame} {meth : Method} {c : Code} {H : Heap} {locs : List Loc} {cells slots : Nat} {Q : State → Prop}
variable {cc : ByteArray} {nL pc : Nat} {own : String} {ls : Array Slot} {rest : List Value} {dC : Nat → ClassId} {dI : Nat → Nat → Nat} {Z : ZZ} {A : Nat → Prop} {σ : S5} {x q9 : Nat} {ad : Nat → Nat} {kc : Nat → ClassId} {sv : Value} {sa va : Nat}
theorem wfgR_0_0 {idx : Nat} (S : CallFix p m c cc nL s args uG own) (X : gX (dC, dI) (tF kc) (wF x q9 ad kc sv sa va) Z A s σ H locs) (hf : Cond.fieldLink own idx "LazyForge" "text" "LLazyForge$Signs;" ∈ uG) (hd : decode cc pc = .ok (.getfield idx, 3))
    (k : W p l e R s m args below meth c H locs cells slots Q (F0 m (pc + 3) ls (.ref (ad 4) :: rest))) : W p l e R s m args below meth c H locs cells slots Q (F0 m pc ls (.ref x :: rest)) := by
  obtain ⟨hx, hb, hml, hown, hu⟩ := S
  obtain ⟨hK, hP, hD, hS, hA⟩ := X
  exact va_get (D := (dC, dI)) (ci := 14) (v := .ref (ad 4)) (C := RX11) (T := TX11) (N := 15) hx hb hu iuX11 hown hK hP 0 rfl rfl 0 (by decide) (hu _ hf) (fun _ h9 => h9) rfl hd k
theorem wfgR_0_1 {idx : Nat} (S : CallFix p m c cc nL s args uG own) (X : gX (dC, dI) (tF kc) (wF x q9 ad kc sv sa va) Z A s σ H locs) (hf : Cond.fieldLink own idx "LazyForge" "program" "LLazyForge$Program;" ∈ uG) (hd : decode cc pc = .ok (.getfield idx, 3))
    (k : W p l e R s m args below meth c H locs cells slots Q (F0 m (pc + 3) ls (.ref (ad 6) :: rest))) : W p l e R s m args below meth c H locs cells slots Q (F0 m pc ls (.ref x :: rest)) := by
  obtain ⟨hx, hb, hml, hown, hu⟩ := S
  obtain ⟨hK, hP, hD, hS, hA⟩ := X
  exact va_get (D := (dC, dI)) (ci := 14) (v := .ref (ad 6)) (C := RX11) (T := TX11) (N := 15) hx hb hu iuX11 hown hK hP 0 rfl rfl 1 (by decide) (hu _ hf) (fun _ h9 => h9) rfl hd k
theorem wfgR_0_2 {idx : Nat} (S : CallFix p m c cc nL s args uG own) (X : gX (dC, dI) (tF kc) (wF x q9 ad kc sv sa va) Z A s σ H locs) (hf : Cond.fieldLink own idx "LazyForge" "reader" "LLazyForge$Reader;" ∈ uG) (hd : decode cc pc = .ok (.getfield idx, 3))
    (k : W p l e R s m args below meth c H locs cells slots Q (F0 m (pc + 3) ls (.ref (ad 9) :: rest))) : W p l e R s m args below meth c H locs cells slots Q (F0 m pc ls (.ref x :: rest)) := by
  obtain ⟨hx, hb, hml, hown, hu⟩ := S
  obtain ⟨hK, hP, hD, hS, hA⟩ := X
  exact va_get (D := (dC, dI)) (ci := 14) (v := .ref (ad 9)) (C := RX11) (T := TX11) (N := 15) hx hb hu iuX11 hown hK hP 0 rfl rfl 2 (by decide) (hu _ hf) (fun _ h9 => h9) rfl hd k
theorem wfgR_0_3 {idx : Nat} (S : CallFix p m c cc nL s args uG own) (X : gX (dC, dI) (tF kc) (wF x q9 ad kc sv sa va) Z A s σ H locs) (hf : Cond.fieldLink own idx "LazyForge" "lifter" "LLazyForge$Lifter;" ∈ uG) (hd : decode cc pc = .ok (.getfield idx, 3))
    (k : W p l e R s m args below meth c H locs cells slots Q (F0 m (pc + 3) ls (.ref (ad 11) :: rest))) : W p l e R s m args below meth c H locs cells slots Q (F0 m pc ls (.ref x :: rest)) := by
  obtain ⟨hx, hb, hml, hown, hu⟩ := S
  obtain ⟨hK, hP, hD, hS, hA⟩ := X
  exact va_get (D := (dC, dI)) (ci := 14) (v := .ref (ad 11)) (C := RX11) (T := TX11) (N := 15) hx hb hu iuX11 hown hK hP 0 rfl rfl 3 (by decide) (hu _ hf) (fun _ h9 => h9) rfl hd k
theorem wfgR_0_4 {idx : Nat} (S : CallFix p m c cc nL s args uG own) (X : gX (dC, dI) (tF kc) (wF x q9 ad kc sv sa va) Z A s σ H locs) (hf : Cond.fieldLink own idx "LazyForge" "demand" "LLazyForge$Demand;" ∈ uG) (hd : decode cc pc = .ok (.getfield idx, 3))
    (k : W p l e R s m args below meth c H locs cells slots Q (F0 m (pc + 3) ls (.ref (ad 12) :: rest))) : W p l e R s m args below meth c H locs cells slots Q (F0 m pc ls (.ref x :: rest)) := by
  obtain ⟨hx, hb, hml, hown, hu⟩ := S
  obtain ⟨hK, hP, hD, hS, hA⟩ := X
  exact va_get (D := (dC, dI)) (ci := 14) (v := .ref (ad 12)) (C := RX11) (T := TX11) (N := 15) hx hb hu iuX11 hown hK hP 0 rfl rfl 4 (by decide) (hu _ hf) (fun _ h9 => h9) rfl hd k
theorem wfgR_0_5 {idx : Nat} (S : CallFix p m c cc nL s args uG own) (X : gX (dC, dI) (tF kc) (wF x q9 ad kc sv sa va) Z A s σ H locs) (hf : Cond.fieldLink own idx "LazyForge" "scribe" "LLazyForge$Scribe;" ∈ uG) (hd : decode cc pc = .ok (.getfield idx, 3))
    (k : W p l e R s m args below meth c H locs cells slots Q (F0 m (pc + 3) ls (.ref (ad 13) :: rest))) : W p l e R s m args below meth c H locs cells slots Q (F0 m pc ls (.ref x :: rest)) := by
  obtain ⟨hx, hb, hml, hown, hu⟩ := S
  obtain ⟨hK, hP, hD, hS, hA⟩ := X
  exact va_get (D := (dC, dI)) (ci := 14) (v := .ref (ad 13)) (C := RX11) (T := TX11) (N := 15) hx hb hu iuX11 hown hK hP 0 rfl rfl 5 (by decide) (hu _ hf) (fun _ h9 => h9) rfl hd k
theorem wfgR_0_6 {idx : Nat} (S : CallFix p m c cc nL s args uG own) (X : gX (dC, dI) (tF kc) (wF x q9 ad kc sv sa va) Z A s σ H locs) (hf : Cond.fieldLink own idx "LazyForge" "machine" "LLazyForge$Machine;" ∈ uG) (hd : decode cc pc = .ok (.getfield idx, 3))
    (k : W p l e R s m args below meth c H locs cells slots Q (F0 m (pc + 3) ls (.ref (ad 53) :: rest))) : W p l e R s m args below meth c H locs cells slots Q (F0 m pc ls (.ref x :: rest)) := by
  obtain ⟨hx, hb, hml, hown, hu⟩ := S
  obtain ⟨hK, hP, hD, hS, hA⟩ := X
  exact va_get (D := (dC, dI)) (ci := 14) (v := .ref (ad 53)) (C := RX11) (T := TX11) (N := 15) hx hb hu iuX11 hown hK hP 0 rfl rfl 6 (by decide) (hu _ hf) (fun _ h9 => h9) rfl hd k
theorem wfgR_0_7 {idx : Nat} (S : CallFix p m c cc nL s args uG own) (X : gX (dC, dI) (tF kc) (wF x q9 ad kc sv sa va) Z A s σ H locs) (hf : Cond.fieldLink own idx "LazyForge" "out" "LLazyForge$Signs;" ∈ uG) (hd : decode cc pc = .ok (.getfield idx, 3))
    (k : W p l e R s m args below meth c H locs cells slots Q (F0 m (pc + 3) ls (.ref (ad 1) :: rest))) : W p l e R s m args below meth c H locs cells slots Q (F0 m pc ls (.ref x :: rest)) := by
  obtain ⟨hx, hb, hml, hown, hu⟩ := S
  obtain ⟨hK, hP, hD, hS, hA⟩ := X
  exact va_get (D := (dC, dI)) (ci := 14) (v := .ref (ad 1)) (C := RX11) (T := TX11) (N := 15) hx hb hu iuX11 hown hK hP 0 rfl rfl 7 (by decide) (hu _ hf) (fun _ h9 => h9) rfl hd k
theorem wfgR_0_8 {idx : Nat} (S : CallFix p m c cc nL s args uG own) (X : gX (dC, dI) (tF kc) (wF x q9 ad kc sv sa va) Z A s σ H locs) (hf : Cond.fieldLink own idx "LazyForge" "draft" "LLazyForge$Signs;" ∈ uG) (hd : decode cc pc = .ok (.getfield idx, 3))
    (k : W p l e R s m args below meth c H locs cells slots Q (F0 m (pc + 3) ls (.ref (ad 5) :: rest))) : W p l e R s m args below meth c H locs cells slots Q (F0 m pc ls (.ref x :: rest)) := by
  obtain ⟨hx, hb, hml, hown, hu⟩ := S
  obtain ⟨hK, hP, hD, hS, hA⟩ := X
  exact va_get (D := (dC, dI)) (ci := 14) (v := .ref (ad 5)) (C := RX11) (T := TX11) (N := 15) hx hb hu iuX11 hown hK hP 0 rfl rfl 8 (by decide) (hu _ hf) (fun _ h9 => h9) rfl hd k
theorem wfgI_60 {idx : Nat} (S : CallFix p m c cc nL s args uG own) (X : gX (dC, dI) (tF kc) (wF x q9 ad kc sv sa va) Z A s σ H locs) (hf : Cond.fieldLink own idx "LazyForge" "standing" "Z" ∈ uG) {v : Int32} (hv : gI σ 60 = v) (hd : decode cc pc = .ok (.getfield idx, 3))
    (k : W p l e R s m args below meth c H locs cells slots Q (F0 m (pc + 3) ls (.int v :: rest))) : W p l e R s m args below meth c H locs cells slots Q (F0 m pc ls (.ref x :: rest)) := by
  subst hv
  obtain ⟨hx, hb, hml, hown, hu⟩ := S
  obtain ⟨hK, hP, hD, hS, hA⟩ := X
  exact va_get (D := (dC, dI)) (ci := 14) (v := .int (gI σ 60)) (C := RX11) (T := TX11) (N := 15) hx hb hu iuX11 hown hK hP 0 rfl rfl 9 (by decide) (hu _ hf) (fun _ h9 => h9) rfl hd k
theorem wfpI_60 {idx : Nat} {v : Int32} (S : CallFix p m c cc nL s args uG own) (X : gX (dC, dI) (tF kc) (wF x q9 ad kc sv sa va) Z A s σ H locs) (hf : Cond.fieldLink own idx "LazyForge" "standing" "Z" ∈ uG) (hn : v = 0 ∨ v = 1) (hd : decode cc pc = .ok (.putfield idx, 3))
    (k : ∀ (H : Heap) (locs : List Loc), gX (dC, dI) (tF kc) (wF x q9 ad kc sv sa va) Z A s (pI σ 60 v) H locs → W p l e R s m args below meth c H locs cells slots Q (F0 m (pc + 3) ls (rest))) : W p l e R s m args below meth c H locs cells slots Q (F0 m pc ls (.int v :: .ref x :: rest)) := by
  obtain ⟨hx, hb, hml, hown, hu⟩ := S
  obtain ⟨hK, hP, hD, hS, hA⟩ := X
  exact va_put (D := (dC, dI)) (ci := 14) (v := .int v) (ty := (tyX11 9)) (C := RX11) (T := TX11) (N := 15) hx hb hu iuX11 tyX11 tyX11_ok nmX11 hown hK hP hD hS 0 rfl rfl 9 (by decide) (hu _ hf) (fun _ h9 => h9) rfl (by decide +kernel) (by rcases hn with rfl | rfl <;> rfl) (by rcases hn with rfl | rfl <;> rfl) (Nat.le_of_ble_eq_true rfl) hd (fun H1 locs1 hP1 hD1 hS1 => k H1 locs1 ⟨hK, hP1, hD1, hS1, hA⟩)
theorem wfgI_61 {idx : Nat} (S : CallFix p m c cc nL s args uG own) (X : gX (dC, dI) (tF kc) (wF x q9 ad kc sv sa va) Z A s σ H locs) (hf : Cond.fieldLink own idx "LazyForge" "faultKind" "I" ∈ uG) {v : Int32} (hv : gI σ 61 = v) (hd : decode cc pc = .ok (.getfield idx, 3))
    (k : W p l e R s m args below meth c H locs cells slots Q (F0 m (pc + 3) ls (.int v :: rest))) : W p l e R s m args below meth c H locs cells slots Q (F0 m pc ls (.ref x :: rest)) := by
  subst hv
  obtain ⟨hx, hb, hml, hown, hu⟩ := S
  obtain ⟨hK, hP, hD, hS, hA⟩ := X
  exact va_get (D := (dC, dI)) (ci := 14) (v := .int (gI σ 61)) (C := RX11) (T := TX11) (N := 15) hx hb hu iuX11 hown hK hP 0 rfl rfl 10 (by decide) (hu _ hf) (fun _ h9 => h9) rfl hd k
theorem wfpI_61 {idx : Nat} {v : Int32} (S : CallFix p m c cc nL s args uG own) (X : gX (dC, dI) (tF kc) (wF x q9 ad kc sv sa va) Z A s σ H locs) (hf : Cond.fieldLink own idx "LazyForge" "faultKind" "I" ∈ uG) (hd : decode cc pc = .ok (.putfield idx, 3))
    (k : ∀ (H : Heap) (locs : List Loc), gX (dC, dI) (tF kc) (wF x q9 ad kc sv sa va) Z A s (pI σ 61 v) H locs → W p l e R s m args below meth c H locs cells slots Q (F0 m (pc + 3) ls (rest))) : W p l e R s m args below meth c H locs cells slots Q (F0 m pc ls (.int v :: .ref x :: rest)) := by
  obtain ⟨hx, hb, hml, hown, hu⟩ := S
  obtain ⟨hK, hP, hD, hS, hA⟩ := X
  exact va_put (D := (dC, dI)) (ci := 14) (v := .int v) (ty := (tyX11 10)) (C := RX11) (T := TX11) (N := 15) hx hb hu iuX11 tyX11 tyX11_ok nmX11 hown hK hP hD hS 0 rfl rfl 10 (by decide) (hu _ hf) (fun _ h9 => h9) rfl (by decide +kernel) (rfl) (rfl) (Nat.le_of_ble_eq_true rfl) hd (fun H1 locs1 hP1 hD1 hS1 => k H1 locs1 ⟨hK, hP1, hD1, hS1, hA⟩)
theorem wfgI_62 {idx : Nat} (S : CallFix p m c cc nL s args uG own) (X : gX (dC, dI) (tF kc) (wF x q9 ad kc sv sa va) Z A s σ H locs) (hf : Cond.fieldLink own idx "LazyForge" "faultPlace" "I" ∈ uG) {v : Int32} (hv : gI σ 62 = v) (hd : decode cc pc = .ok (.getfield idx, 3))
    (k : W p l e R s m args below meth c H locs cells slots Q (F0 m (pc + 3) ls (.int v :: rest))) : W p l e R s m args below meth c H locs cells slots Q (F0 m pc ls (.ref x :: rest)) := by
  subst hv
  obtain ⟨hx, hb, hml, hown, hu⟩ := S
  obtain ⟨hK, hP, hD, hS, hA⟩ := X
  exact va_get (D := (dC, dI)) (ci := 14) (v := .int (gI σ 62)) (C := RX11) (T := TX11) (N := 15) hx hb hu iuX11 hown hK hP 0 rfl rfl 11 (by decide) (hu _ hf) (fun _ h9 => h9) rfl hd k
theorem wfpI_62 {idx : Nat} {v : Int32} (S : CallFix p m c cc nL s args uG own) (X : gX (dC, dI) (tF kc) (wF x q9 ad kc sv sa va) Z A s σ H locs) (hf : Cond.fieldLink own idx "LazyForge" "faultPlace" "I" ∈ uG) (hd : decode cc pc = .ok (.putfield idx, 3))
    (k : ∀ (H : Heap) (locs : List Loc), gX (dC, dI) (tF kc) (wF x q9 ad kc sv sa va) Z A s (pI σ 62 v) H locs → W p l e R s m args below meth c H locs cells slots Q (F0 m (pc + 3) ls (rest))) : W p l e R s m args below meth c H locs cells slots Q (F0 m pc ls (.int v :: .ref x :: rest)) := by
  obtain ⟨hx, hb, hml, hown, hu⟩ := S
  obtain ⟨hK, hP, hD, hS, hA⟩ := X
  exact va_put (D := (dC, dI)) (ci := 14) (v := .int v) (ty := (tyX11 11)) (C := RX11) (T := TX11) (N := 15) hx hb hu iuX11 tyX11 tyX11_ok nmX11 hown hK hP hD hS 0 rfl rfl 11 (by decide) (hu _ hf) (fun _ h9 => h9) rfl (by decide +kernel) (rfl) (rfl) (Nat.le_of_ble_eq_true rfl) hd (fun H1 locs1 hP1 hD1 hS1 => k H1 locs1 ⟨hK, hP1, hD1, hS1, hA⟩)
theorem wfgI_63 {idx : Nat} (S : CallFix p m c cc nL s args uG own) (X : gX (dC, dI) (tF kc) (wF x q9 ad kc sv sa va) Z A s σ H locs) (hf : Cond.fieldLink own idx "LazyForge" "partsEver" "I" ∈ uG) {v : Int32} (hv : gI σ 63 = v) (hd : decode cc pc = .ok (.getfield idx, 3))
    (k : W p l e R s m args below meth c H locs cells slots Q (F0 m (pc + 3) ls (.int v :: rest))) : W p l e R s m args below meth c H locs cells slots Q (F0 m pc ls (.ref x :: rest)) := by
  subst hv
  obtain ⟨hx, hb, hml, hown, hu⟩ := S
  obtain ⟨hK, hP, hD, hS, hA⟩ := X
  exact va_get (D := (dC, dI)) (ci := 14) (v := .int (gI σ 63)) (C := RX11) (T := TX11) (N := 15) hx hb hu iuX11 hown hK hP 0 rfl rfl 12 (by decide) (hu _ hf) (fun _ h9 => h9) rfl hd k
theorem wfpI_63 {idx : Nat} {v : Int32} (S : CallFix p m c cc nL s args uG own) (X : gX (dC, dI) (tF kc) (wF x q9 ad kc sv sa va) Z A s σ H locs) (hf : Cond.fieldLink own idx "LazyForge" "partsEver" "I" ∈ uG) (hd : decode cc pc = .ok (.putfield idx, 3))
    (k : ∀ (H : Heap) (locs : List Loc), gX (dC, dI) (tF kc) (wF x q9 ad kc sv sa va) Z A s (pI σ 63 v) H locs → W p l e R s m args below meth c H locs cells slots Q (F0 m (pc + 3) ls (rest))) : W p l e R s m args below meth c H locs cells slots Q (F0 m pc ls (.int v :: .ref x :: rest)) := by
  obtain ⟨hx, hb, hml, hown, hu⟩ := S
  obtain ⟨hK, hP, hD, hS, hA⟩ := X
  exact va_put (D := (dC, dI)) (ci := 14) (v := .int v) (ty := (tyX11 12)) (C := RX11) (T := TX11) (N := 15) hx hb hu iuX11 tyX11 tyX11_ok nmX11 hown hK hP hD hS 0 rfl rfl 12 (by decide) (hu _ hf) (fun _ h9 => h9) rfl (by decide +kernel) (rfl) (rfl) (Nat.le_of_ble_eq_true rfl) hd (fun H1 locs1 hP1 hD1 hS1 => k H1 locs1 ⟨hK, hP1, hD1, hS1, hA⟩)
theorem wfgI_64 {idx : Nat} (S : CallFix p m c cc nL s args uG own) (X : gX (dC, dI) (tF kc) (wF x q9 ad kc sv sa va) Z A s σ H locs) (hf : Cond.fieldLink own idx "LazyForge" "callsEver" "I" ∈ uG) {v : Int32} (hv : gI σ 64 = v) (hd : decode cc pc = .ok (.getfield idx, 3))
    (k : W p l e R s m args below meth c H locs cells slots Q (F0 m (pc + 3) ls (.int v :: rest))) : W p l e R s m args below meth c H locs cells slots Q (F0 m pc ls (.ref x :: rest)) := by
  subst hv
  obtain ⟨hx, hb, hml, hown, hu⟩ := S
  obtain ⟨hK, hP, hD, hS, hA⟩ := X
  exact va_get (D := (dC, dI)) (ci := 14) (v := .int (gI σ 64)) (C := RX11) (T := TX11) (N := 15) hx hb hu iuX11 hown hK hP 0 rfl rfl 13 (by decide) (hu _ hf) (fun _ h9 => h9) rfl hd k
theorem wfpI_64 {idx : Nat} {v : Int32} (S : CallFix p m c cc nL s args uG own) (X : gX (dC, dI) (tF kc) (wF x q9 ad kc sv sa va) Z A s σ H locs) (hf : Cond.fieldLink own idx "LazyForge" "callsEver" "I" ∈ uG) (hd : decode cc pc = .ok (.putfield idx, 3))
    (k : ∀ (H : Heap) (locs : List Loc), gX (dC, dI) (tF kc) (wF x q9 ad kc sv sa va) Z A s (pI σ 64 v) H locs → W p l e R s m args below meth c H locs cells slots Q (F0 m (pc + 3) ls (rest))) : W p l e R s m args below meth c H locs cells slots Q (F0 m pc ls (.int v :: .ref x :: rest)) := by
  obtain ⟨hx, hb, hml, hown, hu⟩ := S
  obtain ⟨hK, hP, hD, hS, hA⟩ := X
  exact va_put (D := (dC, dI)) (ci := 14) (v := .int v) (ty := (tyX11 13)) (C := RX11) (T := TX11) (N := 15) hx hb hu iuX11 tyX11 tyX11_ok nmX11 hown hK hP hD hS 0 rfl rfl 13 (by decide) (hu _ hf) (fun _ h9 => h9) rfl (by decide +kernel) (rfl) (rfl) (Nat.le_of_ble_eq_true rfl) hd (fun H1 locs1 hP1 hD1 hS1 => k H1 locs1 ⟨hK, hP1, hD1, hS1, hA⟩)
theorem wfgI_65 {idx : Nat} (S : CallFix p m c cc nL s args uG own) (X : gX (dC, dI) (tF kc) (wF x q9 ad kc sv sa va) Z A s σ H locs) (hf : Cond.fieldLink own idx "LazyForge" "cellsEver" "I" ∈ uG) {v : Int32} (hv : gI σ 65 = v) (hd : decode cc pc = .ok (.getfield idx, 3))
    (k : W p l e R s m args below meth c H locs cells slots Q (F0 m (pc + 3) ls (.int v :: rest))) : W p l e R s m args below meth c H locs cells slots Q (F0 m pc ls (.ref x :: rest)) := by
  subst hv
  obtain ⟨hx, hb, hml, hown, hu⟩ := S
  obtain ⟨hK, hP, hD, hS, hA⟩ := X
  exact va_get (D := (dC, dI)) (ci := 14) (v := .int (gI σ 65)) (C := RX11) (T := TX11) (N := 15) hx hb hu iuX11 hown hK hP 0 rfl rfl 14 (by decide) (hu _ hf) (fun _ h9 => h9) rfl hd k
theorem wfpI_65 {idx : Nat} {v : Int32} (S : CallFix p m c cc nL s args uG own) (X : gX (dC, dI) (tF kc) (wF x q9 ad kc sv sa va) Z A s σ H locs) (hf : Cond.fieldLink own idx "LazyForge" "cellsEver" "I" ∈ uG) (hd : decode cc pc = .ok (.putfield idx, 3))
    (k : ∀ (H : Heap) (locs : List Loc), gX (dC, dI) (tF kc) (wF x q9 ad kc sv sa va) Z A s (pI σ 65 v) H locs → W p l e R s m args below meth c H locs cells slots Q (F0 m (pc + 3) ls (rest))) : W p l e R s m args below meth c H locs cells slots Q (F0 m pc ls (.int v :: .ref x :: rest)) := by
  obtain ⟨hx, hb, hml, hown, hu⟩ := S
  obtain ⟨hK, hP, hD, hS, hA⟩ := X
  exact va_put (D := (dC, dI)) (ci := 14) (v := .int v) (ty := (tyX11 14)) (C := RX11) (T := TX11) (N := 15) hx hb hu iuX11 tyX11 tyX11_ok nmX11 hown hK hP hD hS 0 rfl rfl 14 (by decide) (hu _ hf) (fun _ h9 => h9) rfl (by decide +kernel) (rfl) (rfl) (Nat.le_of_ble_eq_true rfl) hd (fun H1 locs1 hP1 hD1 hS1 => k H1 locs1 ⟨hK, hP1, hD1, hS1, hA⟩)
theorem wfgR_1_0 {idx : Nat} (S : CallFix p m c cc nL s args uG own) (X : gX (dC, dI) (tF kc) (wF x q9 ad kc sv sa va) Z A s σ H locs) (hf : Cond.fieldLink own idx "LazyForge$Signs" "row" "[B" ∈ uG) (hd : decode cc pc = .ok (.getfield idx, 3))
    (k : W p l e R s m args below meth c H locs cells slots Q (F0 m (pc + 3) ls (.ref (ad 2) :: rest))) : W p l e R s m args below meth c H locs cells slots Q (F0 m pc ls (.ref (ad 1) :: rest)) := by
  obtain ⟨hx, hb, hml, hown, hu⟩ := S
  obtain ⟨hK, hP, hD, hS, hA⟩ := X
  exact va_get (D := (dC, dI)) (ci := 11) (v := .ref (ad 2)) (C := RX8) (T := TX8) (N := 3) hx hb hu iuX8 hown hK hP 1 rfl rfl 0 (by decide) (hu _ hf) (fun _ h9 => h9) rfl hd k
theorem wfgI_66 {idx : Nat} (S : CallFix p m c cc nL s args uG own) (X : gX (dC, dI) (tF kc) (wF x q9 ad kc sv sa va) Z A s σ H locs) (hf : Cond.fieldLink own idx "LazyForge$Signs" "count" "I" ∈ uG) {v : Int32} (hv : gI σ 66 = v) (hd : decode cc pc = .ok (.getfield idx, 3))
    (k : W p l e R s m args below meth c H locs cells slots Q (F0 m (pc + 3) ls (.int v :: rest))) : W p l e R s m args below meth c H locs cells slots Q (F0 m pc ls (.ref (ad 1) :: rest)) := by
  subst hv
  obtain ⟨hx, hb, hml, hown, hu⟩ := S
  obtain ⟨hK, hP, hD, hS, hA⟩ := X
  exact va_get (D := (dC, dI)) (ci := 11) (v := .int (gI σ 66)) (C := RX8) (T := TX8) (N := 3) hx hb hu iuX8 hown hK hP 1 rfl rfl 1 (by decide) (hu _ hf) (fun _ h9 => h9) rfl hd k
theorem wfpI_66 {idx : Nat} {v : Int32} (S : CallFix p m c cc nL s args uG own) (X : gX (dC, dI) (tF kc) (wF x q9 ad kc sv sa va) Z A s σ H locs) (hf : Cond.fieldLink own idx "LazyForge$Signs" "count" "I" ∈ uG) (hd : decode cc pc = .ok (.putfield idx, 3))
    (k : ∀ (H : Heap) (locs : List Loc), gX (dC, dI) (tF kc) (wF x q9 ad kc sv sa va) Z A s (pI σ 66 v) H locs → W p l e R s m args below meth c H locs cells slots Q (F0 m (pc + 3) ls (rest))) : W p l e R s m args below meth c H locs cells slots Q (F0 m pc ls (.int v :: .ref (ad 1) :: rest)) := by
  obtain ⟨hx, hb, hml, hown, hu⟩ := S
  obtain ⟨hK, hP, hD, hS, hA⟩ := X
  exact va_put (D := (dC, dI)) (ci := 11) (v := .int v) (ty := (tyX8 1)) (C := RX8) (T := TX8) (N := 3) hx hb hu iuX8 tyX8 tyX8_ok nmX8 hown hK hP hD hS 1 rfl rfl 1 (by decide) (hu _ hf) (fun _ h9 => h9) rfl (by decide +kernel) (rfl) (rfl) (Nat.le_of_ble_eq_true rfl) hd (fun H1 locs1 hP1 hD1 hS1 => k H1 locs1 ⟨hK, hP1, hD1, hS1, hA⟩)
theorem wfgI_67 {idx : Nat} (S : CallFix p m c cc nL s args uG own) (X : gX (dC, dI) (tF kc) (wF x q9 ad kc sv sa va) Z A s σ H locs) (hf : Cond.fieldLink own idx "LazyForge$Signs" "lost" "Z" ∈ uG) {v : Int32} (hv : gI σ 67 = v) (hd : decode cc pc = .ok (.getfield idx, 3))
    (k : W p l e R s m args below meth c H locs cells slots Q (F0 m (pc + 3) ls (.int v :: rest))) : W p l e R s m args below meth c H locs cells slots Q (F0 m pc ls (.ref (ad 1) :: rest)) := by
  subst hv
  obtain ⟨hx, hb, hml, hown, hu⟩ := S
  obtain ⟨hK, hP, hD, hS, hA⟩ := X
  exact va_get (D := (dC, dI)) (ci := 11) (v := .int (gI σ 67)) (C := RX8) (T := TX8) (N := 3) hx hb hu iuX8 hown hK hP 1 rfl rfl 2 (by decide) (hu _ hf) (fun _ h9 => h9) rfl hd k
theorem wfpI_67 {idx : Nat} {v : Int32} (S : CallFix p m c cc nL s args uG own) (X : gX (dC, dI) (tF kc) (wF x q9 ad kc sv sa va) Z A s σ H locs) (hf : Cond.fieldLink own idx "LazyForge$Signs" "lost" "Z" ∈ uG) (hn : v = 0 ∨ v = 1) (hd : decode cc pc = .ok (.putfield idx, 3))
    (k : ∀ (H : Heap) (locs : List Loc), gX (dC, dI) (tF kc) (wF x q9 ad kc sv sa va) Z A s (pI σ 67 v) H locs → W p l e R s m args below meth c H locs cells slots Q (F0 m (pc + 3) ls (rest))) : W p l e R s m args below meth c H locs cells slots Q (F0 m pc ls (.int v :: .ref (ad 1) :: rest)) := by
  obtain ⟨hx, hb, hml, hown, hu⟩ := S
  obtain ⟨hK, hP, hD, hS, hA⟩ := X
  exact va_put (D := (dC, dI)) (ci := 11) (v := .int v) (ty := (tyX8 2)) (C := RX8) (T := TX8) (N := 3) hx hb hu iuX8 tyX8 tyX8_ok nmX8 hown hK hP hD hS 1 rfl rfl 2 (by decide) (hu _ hf) (fun _ h9 => h9) rfl (by decide +kernel) (by rcases hn with rfl | rfl <;> rfl) (by rcases hn with rfl | rfl <;> rfl) (Nat.le_of_ble_eq_true rfl) hd (fun H1 locs1 hP1 hD1 hS1 => k H1 locs1 ⟨hK, hP1, hD1, hS1, hA⟩)
theorem wflA_50 {i : Int32} {v : Int32} (S : CallFix p m c cc nL s args uG own) (X : gX (dC, dI) (tF kc) (wF x q9 ad kc sv sa va) Z A s σ H locs) (hi : vp_in i 12000) (hv : xA σ 50 i = v) (hd : decode cc pc = .ok (.baload, 1))
    (k : W p l e R s m args below meth c H locs cells slots Q (F0 m (pc + 1) ls (.int v :: rest))) : W p l e R s m args below meth c H locs cells slots Q (F0 m pc ls (.int i :: .ref (ad 2) :: rest)) := by
  subst hv
  obtain ⟨hx, hb, hml, hown, hu⟩ := S
  obtain ⟨hK, hP, hD, hS, hA⟩ := X
  exact va_bald hx hb hK hP 2 0 rfl rfl hi hd k
theorem wfsA_50 {i : Int32} {v : Int32} (S : CallFix p m c cc nL s args uG own) (X : gX (dC, dI) (tF kc) (wF x q9 ad kc sv sa va) Z A s σ H locs) (hi : vp_in i 12000) (hd : decode cc pc = .ok (.bastore, 1))
    (k : ∀ (H : Heap) (locs : List Loc), gX (dC, dI) (tF kc) (wF x q9 ad kc sv sa va) Z A s (pA σ 50 i (vp_nar .byte v)) H locs → W p l e R s m args below meth c H locs cells slots Q (F0 m (pc + 1) ls (rest))) : W p l e R s m args below meth c H locs cells slots Q (F0 m pc ls (.int v :: .int i :: .ref (ad 2) :: rest)) := by
  obtain ⟨hx, hb, hml, hown, hu⟩ := S
  obtain ⟨hK, hP, hD, hS, hA⟩ := X
  exact va_bast hx hb hK hP hD hS 2 0 rfl rfl hi hd (fun H1 locs1 hP1 hD1 hS1 => k H1 locs1 ⟨hK, hP1, hD1, hS1, hA⟩)
theorem wfnA_50 (S : CallFix p m c cc nL s args uG own) (X : gX (dC, dI) (tF kc) (wF x q9 ad kc sv sa va) Z A s σ H locs) (hd : decode cc pc = .ok (.arraylength, 1))
    (k : W p l e R s m args below meth c H locs cells slots Q (F0 m (pc + 1) ls (.int 12000 :: rest))) : W p l e R s m args below meth c H locs cells slots Q (F0 m pc ls (.ref (ad 2) :: rest)) := by
  obtain ⟨hx, hb, hml, hown, hu⟩ := S
  obtain ⟨hK, hP, hD, hS, hA⟩ := X
  exact va_alen (v := 12000) hx hb hK hP 2 0 rfl rfl (show Int32.ofNat 12000 = 12000 by decide) hd k
theorem wflB_30 {i : Int32} {v : Int64} (S : CallFix p m c cc nL s args uG own) (X : gX (dC, dI) (tF kc) (wF x q9 ad kc sv sa va) Z A s σ H locs) (hi : vp_in i 1) (hv : xB σ 30 i = v) (hd : decode cc pc = .ok (.laload, 1))
    (k : W p l e R s m args below meth c H locs cells slots Q (F0 m (pc + 1) ls (.long v :: rest))) : W p l e R s m args below meth c H locs cells slots Q (F0 m pc ls (.int i :: .ref q9 :: rest)) := by
  subst hv
  obtain ⟨hx, hb, hml, hown, hu⟩ := S
  obtain ⟨hK, hP, hD, hS, hA⟩ := X
  exact va_lald hx hb hK hP 3 1 rfl rfl hi hd k
theorem wfsB_30 {i : Int32} {v : Int64} (S : CallFix p m c cc nL s args uG own) (X : gX (dC, dI) (tF kc) (wF x q9 ad kc sv sa va) Z A s σ H locs) (hi : vp_in i 1) (hd : decode cc pc = .ok (.lastore, 1))
    (k : ∀ (H : Heap) (locs : List Loc), gX (dC, dI) (tF kc) (wF x q9 ad kc sv sa va) Z A s (pB σ 30 i v) H locs → W p l e R s m args below meth c H locs cells slots Q (F0 m (pc + 1) ls (rest))) : W p l e R s m args below meth c H locs cells slots Q (F0 m pc ls (.long v :: .int i :: .ref q9 :: rest)) := by
  obtain ⟨hx, hb, hml, hown, hu⟩ := S
  obtain ⟨hK, hP, hD, hS, hA⟩ := X
  exact va_last hx hb hK hP hD hS 3 1 rfl rfl hi hd (fun H1 locs1 hP1 hD1 hS1 => k H1 locs1 ⟨hK, hP1, hD1, hS1, hA⟩)
theorem wfnB_30 (S : CallFix p m c cc nL s args uG own) (X : gX (dC, dI) (tF kc) (wF x q9 ad kc sv sa va) Z A s σ H locs) (hd : decode cc pc = .ok (.arraylength, 1))
    (k : W p l e R s m args below meth c H locs cells slots Q (F0 m (pc + 1) ls (.int 1 :: rest))) : W p l e R s m args below meth c H locs cells slots Q (F0 m pc ls (.ref q9 :: rest)) := by
  obtain ⟨hx, hb, hml, hown, hu⟩ := S
  obtain ⟨hK, hP, hD, hS, hA⟩ := X
  exact va_alen (v := 1) hx hb hK hP 3 1 rfl rfl (show Int32.ofNat 1 = 1 by decide) hd k
theorem wfgR_4_0 {idx : Nat} (S : CallFix p m c cc nL s args uG own) (X : gX (dC, dI) (tF kc) (wF x q9 ad kc sv sa va) Z A s σ H locs) (hf : Cond.fieldLink own idx "LazyForge$Signs" "row" "[B" ∈ uG) (hd : decode cc pc = .ok (.getfield idx, 3))
    (k : W p l e R s m args below meth c H locs cells slots Q (F0 m (pc + 3) ls (.ref (ad 14) :: rest))) : W p l e R s m args below meth c H locs cells slots Q (F0 m pc ls (.ref (ad 4) :: rest)) := by
  obtain ⟨hx, hb, hml, hown, hu⟩ := S
  obtain ⟨hK, hP, hD, hS, hA⟩ := X
  exact va_get (D := (dC, dI)) (ci := 11) (v := .ref (ad 14)) (C := RX8) (T := TX8) (N := 3) hx hb hu iuX8 hown hK hP 4 rfl rfl 0 (by decide) (hu _ hf) (fun _ h9 => h9) rfl hd k
theorem wfgI_0 {idx : Nat} (S : CallFix p m c cc nL s args uG own) (X : gX (dC, dI) (tF kc) (wF x q9 ad kc sv sa va) Z A s σ H locs) (hf : Cond.fieldLink own idx "LazyForge$Signs" "count" "I" ∈ uG) {v : Int32} (hv : gI σ 0 = v) (hd : decode cc pc = .ok (.getfield idx, 3))
    (k : W p l e R s m args below meth c H locs cells slots Q (F0 m (pc + 3) ls (.int v :: rest))) : W p l e R s m args below meth c H locs cells slots Q (F0 m pc ls (.ref (ad 4) :: rest)) := by
  subst hv
  obtain ⟨hx, hb, hml, hown, hu⟩ := S
  obtain ⟨hK, hP, hD, hS, hA⟩ := X
  exact va_get (D := (dC, dI)) (ci := 11) (v := .int (gI σ 0)) (C := RX8) (T := TX8) (N := 3) hx hb hu iuX8 hown hK hP 4 rfl rfl 1 (by decide) (hu _ hf) (fun _ h9 => h9) rfl hd k
theorem wfpI_0 {idx : Nat} {v : Int32} (S : CallFix p m c cc nL s args uG own) (X : gX (dC, dI) (tF kc) (wF x q9 ad kc sv sa va) Z A s σ H locs) (hf : Cond.fieldLink own idx "LazyForge$Signs" "count" "I" ∈ uG) (hd : decode cc pc = .ok (.putfield idx, 3))
    (k : ∀ (H : Heap) (locs : List Loc), gX (dC, dI) (tF kc) (wF x q9 ad kc sv sa va) Z A s (pI σ 0 v) H locs → W p l e R s m args below meth c H locs cells slots Q (F0 m (pc + 3) ls (rest))) : W p l e R s m args below meth c H locs cells slots Q (F0 m pc ls (.int v :: .ref (ad 4) :: rest)) := by
  obtain ⟨hx, hb, hml, hown, hu⟩ := S
  obtain ⟨hK, hP, hD, hS, hA⟩ := X
  exact va_put (D := (dC, dI)) (ci := 11) (v := .int v) (ty := (tyX8 1)) (C := RX8) (T := TX8) (N := 3) hx hb hu iuX8 tyX8 tyX8_ok nmX8 hown hK hP hD hS 4 rfl rfl 1 (by decide) (hu _ hf) (fun _ h9 => h9) rfl (by decide +kernel) (rfl) (rfl) (Nat.le_of_ble_eq_true rfl) hd (fun H1 locs1 hP1 hD1 hS1 => k H1 locs1 ⟨hK, hP1, hD1, hS1, hA⟩)
theorem wfgI_1 {idx : Nat} (S : CallFix p m c cc nL s args uG own) (X : gX (dC, dI) (tF kc) (wF x q9 ad kc sv sa va) Z A s σ H locs) (hf : Cond.fieldLink own idx "LazyForge$Signs" "lost" "Z" ∈ uG) {v : Int32} (hv : gI σ 1 = v) (hd : decode cc pc = .ok (.getfield idx, 3))
    (k : W p l e R s m args below meth c H locs cells slots Q (F0 m (pc + 3) ls (.int v :: rest))) : W p l e R s m args below meth c H locs cells slots Q (F0 m pc ls (.ref (ad 4) :: rest)) := by
  subst hv
  obtain ⟨hx, hb, hml, hown, hu⟩ := S
  obtain ⟨hK, hP, hD, hS, hA⟩ := X
  exact va_get (D := (dC, dI)) (ci := 11) (v := .int (gI σ 1)) (C := RX8) (T := TX8) (N := 3) hx hb hu iuX8 hown hK hP 4 rfl rfl 2 (by decide) (hu _ hf) (fun _ h9 => h9) rfl hd k
theorem wfpI_1 {idx : Nat} {v : Int32} (S : CallFix p m c cc nL s args uG own) (X : gX (dC, dI) (tF kc) (wF x q9 ad kc sv sa va) Z A s σ H locs) (hf : Cond.fieldLink own idx "LazyForge$Signs" "lost" "Z" ∈ uG) (hn : v = 0 ∨ v = 1) (hd : decode cc pc = .ok (.putfield idx, 3))
    (k : ∀ (H : Heap) (locs : List Loc), gX (dC, dI) (tF kc) (wF x q9 ad kc sv sa va) Z A s (pI σ 1 v) H locs → W p l e R s m args below meth c H locs cells slots Q (F0 m (pc + 3) ls (rest))) : W p l e R s m args below meth c H locs cells slots Q (F0 m pc ls (.int v :: .ref (ad 4) :: rest)) := by
  obtain ⟨hx, hb, hml, hown, hu⟩ := S
  obtain ⟨hK, hP, hD, hS, hA⟩ := X
  exact va_put (D := (dC, dI)) (ci := 11) (v := .int v) (ty := (tyX8 2)) (C := RX8) (T := TX8) (N := 3) hx hb hu iuX8 tyX8 tyX8_ok nmX8 hown hK hP hD hS 4 rfl rfl 2 (by decide) (hu _ hf) (fun _ h9 => h9) rfl (by decide +kernel) (by rcases hn with rfl | rfl <;> rfl) (by rcases hn with rfl | rfl <;> rfl) (Nat.le_of_ble_eq_true rfl) hd (fun H1 locs1 hP1 hD1 hS1 => k H1 locs1 ⟨hK, hP1, hD1, hS1, hA⟩)
theorem wfgR_5_0 {idx : Nat} (S : CallFix p m c cc nL s args uG own) (X : gX (dC, dI) (tF kc) (wF x q9 ad kc sv sa va) Z A s σ H locs) (hf : Cond.fieldLink own idx "LazyForge$Signs" "row" "[B" ∈ uG) (hd : decode cc pc = .ok (.getfield idx, 3))
    (k : W p l e R s m args below meth c H locs cells slots Q (F0 m (pc + 3) ls (.ref (ad 15) :: rest))) : W p l e R s m args below meth c H locs cells slots Q (F0 m pc ls (.ref (ad 5) :: rest)) := by
  obtain ⟨hx, hb, hml, hown, hu⟩ := S
  obtain ⟨hK, hP, hD, hS, hA⟩ := X
  exact va_get (D := (dC, dI)) (ci := 11) (v := .ref (ad 15)) (C := RX8) (T := TX8) (N := 3) hx hb hu iuX8 hown hK hP 5 rfl rfl 0 (by decide) (hu _ hf) (fun _ h9 => h9) rfl hd k
theorem wfgI_2 {idx : Nat} (S : CallFix p m c cc nL s args uG own) (X : gX (dC, dI) (tF kc) (wF x q9 ad kc sv sa va) Z A s σ H locs) (hf : Cond.fieldLink own idx "LazyForge$Signs" "count" "I" ∈ uG) {v : Int32} (hv : gI σ 2 = v) (hd : decode cc pc = .ok (.getfield idx, 3))
    (k : W p l e R s m args below meth c H locs cells slots Q (F0 m (pc + 3) ls (.int v :: rest))) : W p l e R s m args below meth c H locs cells slots Q (F0 m pc ls (.ref (ad 5) :: rest)) := by
  subst hv
  obtain ⟨hx, hb, hml, hown, hu⟩ := S
  obtain ⟨hK, hP, hD, hS, hA⟩ := X
  exact va_get (D := (dC, dI)) (ci := 11) (v := .int (gI σ 2)) (C := RX8) (T := TX8) (N := 3) hx hb hu iuX8 hown hK hP 5 rfl rfl 1 (by decide) (hu _ hf) (fun _ h9 => h9) rfl hd k
theorem wfpI_2 {idx : Nat} {v : Int32} (S : CallFix p m c cc nL s args uG own) (X : gX (dC, dI) (tF kc) (wF x q9 ad kc sv sa va) Z A s σ H locs) (hf : Cond.fieldLink own idx "LazyForge$Signs" "count" "I" ∈ uG) (hd : decode cc pc = .ok (.putfield idx, 3))
    (k : ∀ (H : Heap) (locs : List Loc), gX (dC, dI) (tF kc) (wF x q9 ad kc sv sa va) Z A s (pI σ 2 v) H locs → W p l e R s m args below meth c H locs cells slots Q (F0 m (pc + 3) ls (rest))) : W p l e R s m args below meth c H locs cells slots Q (F0 m pc ls (.int v :: .ref (ad 5) :: rest)) := by
  obtain ⟨hx, hb, hml, hown, hu⟩ := S
  obtain ⟨hK, hP, hD, hS, hA⟩ := X
  exact va_put (D := (dC, dI)) (ci := 11) (v := .int v) (ty := (tyX8 1)) (C := RX8) (T := TX8) (N := 3) hx hb hu iuX8 tyX8 tyX8_ok nmX8 hown hK hP hD hS 5 rfl rfl 1 (by decide) (hu _ hf) (fun _ h9 => h9) rfl (by decide +kernel) (rfl) (rfl) (Nat.le_of_ble_eq_true rfl) hd (fun H1 locs1 hP1 hD1 hS1 => k H1 locs1 ⟨hK, hP1, hD1, hS1, hA⟩)
theorem wfgI_3 {idx : Nat} (S : CallFix p m c cc nL s args uG own) (X : gX (dC, dI) (tF kc) (wF x q9 ad kc sv sa va) Z A s σ H locs) (hf : Cond.fieldLink own idx "LazyForge$Signs" "lost" "Z" ∈ uG) {v : Int32} (hv : gI σ 3 = v) (hd : decode cc pc = .ok (.getfield idx, 3))
    (k : W p l e R s m args below meth c H locs cells slots Q (F0 m (pc + 3) ls (.int v :: rest))) : W p l e R s m args below meth c H locs cells slots Q (F0 m pc ls (.ref (ad 5) :: rest)) := by
  subst hv
  obtain ⟨hx, hb, hml, hown, hu⟩ := S
  obtain ⟨hK, hP, hD, hS, hA⟩ := X
  exact va_get (D := (dC, dI)) (ci := 11) (v := .int (gI σ 3)) (C := RX8) (T := TX8) (N := 3) hx hb hu iuX8 hown hK hP 5 rfl rfl 2 (by decide) (hu _ hf) (fun _ h9 => h9) rfl hd k
theorem wfpI_3 {idx : Nat} {v : Int32} (S : CallFix p m c cc nL s args uG own) (X : gX (dC, dI) (tF kc) (wF x q9 ad kc sv sa va) Z A s σ H locs) (hf : Cond.fieldLink own idx "LazyForge$Signs" "lost" "Z" ∈ uG) (hn : v = 0 ∨ v = 1) (hd : decode cc pc = .ok (.putfield idx, 3))
    (k : ∀ (H : Heap) (locs : List Loc), gX (dC, dI) (tF kc) (wF x q9 ad kc sv sa va) Z A s (pI σ 3 v) H locs → W p l e R s m args below meth c H locs cells slots Q (F0 m (pc + 3) ls (rest))) : W p l e R s m args below meth c H locs cells slots Q (F0 m pc ls (.int v :: .ref (ad 5) :: rest)) := by
  obtain ⟨hx, hb, hml, hown, hu⟩ := S
  obtain ⟨hK, hP, hD, hS, hA⟩ := X
  exact va_put (D := (dC, dI)) (ci := 11) (v := .int v) (ty := (tyX8 2)) (C := RX8) (T := TX8) (N := 3) hx hb hu iuX8 tyX8 tyX8_ok nmX8 hown hK hP hD hS 5 rfl rfl 2 (by decide) (hu _ hf) (fun _ h9 => h9) rfl (by decide +kernel) (by rcases hn with rfl | rfl <;> rfl) (by rcases hn with rfl | rfl <;> rfl) (Nat.le_of_ble_eq_true rfl) hd (fun H1 locs1 hP1 hD1 hS1 => k H1 locs1 ⟨hK, hP1, hD1, hS1, hA⟩)
theorem wfgR_6_0 {idx : Nat} (S : CallFix p m c cc nL s args uG own) (X : gX (dC, dI) (tF kc) (wF x q9 ad kc sv sa va) Z A s σ H locs) (hf : Cond.fieldLink own idx "LazyForge$Program" "constructorName" "[J" ∈ uG) (hd : decode cc pc = .ok (.getfield idx, 3))
    (k : W p l e R s m args below meth c H locs cells slots Q (F0 m (pc + 3) ls (.ref (ad 16) :: rest))) : W p l e R s m args below meth c H locs cells slots Q (F0 m pc ls (.ref (ad 6) :: rest)) := by
  obtain ⟨hx, hb, hml, hown, hu⟩ := S
  obtain ⟨hK, hP, hD, hS, hA⟩ := X
  exact va_get (D := (dC, dI)) (ci := 7) (v := .ref (ad 16)) (C := RX4) (T := TX4) (N := 17) hx hb hu iuX4 hown hK hP 6 rfl rfl 0 (by decide) (hu _ hf) (fun _ h9 => h9) rfl hd k
theorem wfgR_6_1 {idx : Nat} (S : CallFix p m c cc nL s args uG own) (X : gX (dC, dI) (tF kc) (wF x q9 ad kc sv sa va) Z A s σ H locs) (hf : Cond.fieldLink own idx "LazyForge$Program" "fields" "[I" ∈ uG) (hd : decode cc pc = .ok (.getfield idx, 3))
    (k : W p l e R s m args below meth c H locs cells slots Q (F0 m (pc + 3) ls (.ref (ad 17) :: rest))) : W p l e R s m args below meth c H locs cells slots Q (F0 m pc ls (.ref (ad 6) :: rest)) := by
  obtain ⟨hx, hb, hml, hown, hu⟩ := S
  obtain ⟨hK, hP, hD, hS, hA⟩ := X
  exact va_get (D := (dC, dI)) (ci := 7) (v := .ref (ad 17)) (C := RX4) (T := TX4) (N := 17) hx hb hu iuX4 hown hK hP 6 rfl rfl 1 (by decide) (hu _ hf) (fun _ h9 => h9) rfl hd k
theorem wfgI_4 {idx : Nat} (S : CallFix p m c cc nL s args uG own) (X : gX (dC, dI) (tF kc) (wF x q9 ad kc sv sa va) Z A s σ H locs) (hf : Cond.fieldLink own idx "LazyForge$Program" "constructors" "I" ∈ uG) {v : Int32} (hv : gI σ 4 = v) (hd : decode cc pc = .ok (.getfield idx, 3))
    (k : W p l e R s m args below meth c H locs cells slots Q (F0 m (pc + 3) ls (.int v :: rest))) : W p l e R s m args below meth c H locs cells slots Q (F0 m pc ls (.ref (ad 6) :: rest)) := by
  subst hv
  obtain ⟨hx, hb, hml, hown, hu⟩ := S
  obtain ⟨hK, hP, hD, hS, hA⟩ := X
  exact va_get (D := (dC, dI)) (ci := 7) (v := .int (gI σ 4)) (C := RX4) (T := TX4) (N := 17) hx hb hu iuX4 hown hK hP 6 rfl rfl 2 (by decide) (hu _ hf) (fun _ h9 => h9) rfl hd k
theorem wfpI_4 {idx : Nat} {v : Int32} (S : CallFix p m c cc nL s args uG own) (X : gX (dC, dI) (tF kc) (wF x q9 ad kc sv sa va) Z A s σ H locs) (hf : Cond.fieldLink own idx "LazyForge$Program" "constructors" "I" ∈ uG) (hd : decode cc pc = .ok (.putfield idx, 3))
    (k : ∀ (H : Heap) (locs : List Loc), gX (dC, dI) (tF kc) (wF x q9 ad kc sv sa va) Z A s (pI σ 4 v) H locs → W p l e R s m args below meth c H locs cells slots Q (F0 m (pc + 3) ls (rest))) : W p l e R s m args below meth c H locs cells slots Q (F0 m pc ls (.int v :: .ref (ad 6) :: rest)) := by
  obtain ⟨hx, hb, hml, hown, hu⟩ := S
  obtain ⟨hK, hP, hD, hS, hA⟩ := X
  exact va_put (D := (dC, dI)) (ci := 7) (v := .int v) (ty := (tyX4 2)) (C := RX4) (T := TX4) (N := 17) hx hb hu iuX4 tyX4 tyX4_ok nmX4 hown hK hP hD hS 6 rfl rfl 2 (by decide) (hu _ hf) (fun _ h9 => h9) rfl (by decide +kernel) (rfl) (rfl) (Nat.le_of_ble_eq_true rfl) hd (fun H1 locs1 hP1 hD1 hS1 => k H1 locs1 ⟨hK, hP1, hD1, hS1, hA⟩)
theorem wfgR_6_3 {idx : Nat} (S : CallFix p m c cc nL s args uG own) (X : gX (dC, dI) (tF kc) (wF x q9 ad kc sv sa va) Z A s σ H locs) (hf : Cond.fieldLink own idx "LazyForge$Program" "topName" "[J" ∈ uG) (hd : decode cc pc = .ok (.getfield idx, 3))
    (k : W p l e R s m args below meth c H locs cells slots Q (F0 m (pc + 3) ls (.ref (ad 18) :: rest))) : W p l e R s m args below meth c H locs cells slots Q (F0 m pc ls (.ref (ad 6) :: rest)) := by
  obtain ⟨hx, hb, hml, hown, hu⟩ := S
  obtain ⟨hK, hP, hD, hS, hA⟩ := X
  exact va_get (D := (dC, dI)) (ci := 7) (v := .ref (ad 18)) (C := RX4) (T := TX4) (N := 17) hx hb hu iuX4 hown hK hP 6 rfl rfl 3 (by decide) (hu _ hf) (fun _ h9 => h9) rfl hd k
theorem wfgI_5 {idx : Nat} (S : CallFix p m c cc nL s args uG own) (X : gX (dC, dI) (tF kc) (wF x q9 ad kc sv sa va) Z A s σ H locs) (hf : Cond.fieldLink own idx "LazyForge$Program" "tops" "I" ∈ uG) {v : Int32} (hv : gI σ 5 = v) (hd : decode cc pc = .ok (.getfield idx, 3))
    (k : W p l e R s m args below meth c H locs cells slots Q (F0 m (pc + 3) ls (.int v :: rest))) : W p l e R s m args below meth c H locs cells slots Q (F0 m pc ls (.ref (ad 6) :: rest)) := by
  subst hv
  obtain ⟨hx, hb, hml, hown, hu⟩ := S
  obtain ⟨hK, hP, hD, hS, hA⟩ := X
  exact va_get (D := (dC, dI)) (ci := 7) (v := .int (gI σ 5)) (C := RX4) (T := TX4) (N := 17) hx hb hu iuX4 hown hK hP 6 rfl rfl 4 (by decide) (hu _ hf) (fun _ h9 => h9) rfl hd k
theorem wfpI_5 {idx : Nat} {v : Int32} (S : CallFix p m c cc nL s args uG own) (X : gX (dC, dI) (tF kc) (wF x q9 ad kc sv sa va) Z A s σ H locs) (hf : Cond.fieldLink own idx "LazyForge$Program" "tops" "I" ∈ uG) (hd : decode cc pc = .ok (.putfield idx, 3))
    (k : ∀ (H : Heap) (locs : List Loc), gX (dC, dI) (tF kc) (wF x q9 ad kc sv sa va) Z A s (pI σ 5 v) H locs → W p l e R s m args below meth c H locs cells slots Q (F0 m (pc + 3) ls (rest))) : W p l e R s m args below meth c H locs cells slots Q (F0 m pc ls (.int v :: .ref (ad 6) :: rest)) := by
  obtain ⟨hx, hb, hml, hown, hu⟩ := S
  obtain ⟨hK, hP, hD, hS, hA⟩ := X
  exact va_put (D := (dC, dI)) (ci := 7) (v := .int v) (ty := (tyX4 4)) (C := RX4) (T := TX4) (N := 17) hx hb hu iuX4 tyX4 tyX4_ok nmX4 hown hK hP hD hS 6 rfl rfl 4 (by decide) (hu _ hf) (fun _ h9 => h9) rfl (by decide +kernel) (rfl) (rfl) (Nat.le_of_ble_eq_true rfl) hd (fun H1 locs1 hP1 hD1 hS1 => k H1 locs1 ⟨hK, hP1, hD1, hS1, hA⟩)
theorem wfgI_6 {idx : Nat} (S : CallFix p m c cc nL s args uG own) (X : gX (dC, dI) (tF kc) (wF x q9 ad kc sv sa va) Z A s σ H locs) (hf : Cond.fieldLink own idx "LazyForge$Program" "functions" "I" ∈ uG) {v : Int32} (hv : gI σ 6 = v) (hd : decode cc pc = .ok (.getfield idx, 3))
    (k : W p l e R s m args below meth c H locs cells slots Q (F0 m (pc + 3) ls (.int v :: rest))) : W p l e R s m args below meth c H locs cells slots Q (F0 m pc ls (.ref (ad 6) :: rest)) := by
  subst hv
  obtain ⟨hx, hb, hml, hown, hu⟩ := S
  obtain ⟨hK, hP, hD, hS, hA⟩ := X
  exact va_get (D := (dC, dI)) (ci := 7) (v := .int (gI σ 6)) (C := RX4) (T := TX4) (N := 17) hx hb hu iuX4 hown hK hP 6 rfl rfl 5 (by decide) (hu _ hf) (fun _ h9 => h9) rfl hd k
theorem wfpI_6 {idx : Nat} {v : Int32} (S : CallFix p m c cc nL s args uG own) (X : gX (dC, dI) (tF kc) (wF x q9 ad kc sv sa va) Z A s σ H locs) (hf : Cond.fieldLink own idx "LazyForge$Program" "functions" "I" ∈ uG) (hd : decode cc pc = .ok (.putfield idx, 3))
    (k : ∀ (H : Heap) (locs : List Loc), gX (dC, dI) (tF kc) (wF x q9 ad kc sv sa va) Z A s (pI σ 6 v) H locs → W p l e R s m args below meth c H locs cells slots Q (F0 m (pc + 3) ls (rest))) : W p l e R s m args below meth c H locs cells slots Q (F0 m pc ls (.int v :: .ref (ad 6) :: rest)) := by
  obtain ⟨hx, hb, hml, hown, hu⟩ := S
  obtain ⟨hK, hP, hD, hS, hA⟩ := X
  exact va_put (D := (dC, dI)) (ci := 7) (v := .int v) (ty := (tyX4 5)) (C := RX4) (T := TX4) (N := 17) hx hb hu iuX4 tyX4 tyX4_ok nmX4 hown hK hP hD hS 6 rfl rfl 5 (by decide) (hu _ hf) (fun _ h9 => h9) rfl (by decide +kernel) (rfl) (rfl) (Nat.le_of_ble_eq_true rfl) hd (fun H1 locs1 hP1 hD1 hS1 => k H1 locs1 ⟨hK, hP1, hD1, hS1, hA⟩)
theorem wfgI_7 {idx : Nat} (S : CallFix p m c cc nL s args uG own) (X : gX (dC, dI) (tF kc) (wF x q9 ad kc sv sa va) Z A s σ H locs) (hf : Cond.fieldLink own idx "LazyForge$Program" "main" "I" ∈ uG) {v : Int32} (hv : gI σ 7 = v) (hd : decode cc pc = .ok (.getfield idx, 3))
    (k : W p l e R s m args below meth c H locs cells slots Q (F0 m (pc + 3) ls (.int v :: rest))) : W p l e R s m args below meth c H locs cells slots Q (F0 m pc ls (.ref (ad 6) :: rest)) := by
  subst hv
  obtain ⟨hx, hb, hml, hown, hu⟩ := S
  obtain ⟨hK, hP, hD, hS, hA⟩ := X
  exact va_get (D := (dC, dI)) (ci := 7) (v := .int (gI σ 7)) (C := RX4) (T := TX4) (N := 17) hx hb hu iuX4 hown hK hP 6 rfl rfl 6 (by decide) (hu _ hf) (fun _ h9 => h9) rfl hd k
theorem wfpI_7 {idx : Nat} {v : Int32} (S : CallFix p m c cc nL s args uG own) (X : gX (dC, dI) (tF kc) (wF x q9 ad kc sv sa va) Z A s σ H locs) (hf : Cond.fieldLink own idx "LazyForge$Program" "main" "I" ∈ uG) (hd : decode cc pc = .ok (.putfield idx, 3))
    (k : ∀ (H : Heap) (locs : List Loc), gX (dC, dI) (tF kc) (wF x q9 ad kc sv sa va) Z A s (pI σ 7 v) H locs → W p l e R s m args below meth c H locs cells slots Q (F0 m (pc + 3) ls (rest))) : W p l e R s m args below meth c H locs cells slots Q (F0 m pc ls (.int v :: .ref (ad 6) :: rest)) := by
  obtain ⟨hx, hb, hml, hown, hu⟩ := S
  obtain ⟨hK, hP, hD, hS, hA⟩ := X
  exact va_put (D := (dC, dI)) (ci := 7) (v := .int v) (ty := (tyX4 6)) (C := RX4) (T := TX4) (N := 17) hx hb hu iuX4 tyX4 tyX4_ok nmX4 hown hK hP hD hS 6 rfl rfl 6 (by decide) (hu _ hf) (fun _ h9 => h9) rfl (by decide +kernel) (rfl) (rfl) (Nat.le_of_ble_eq_true rfl) hd (fun H1 locs1 hP1 hD1 hS1 => k H1 locs1 ⟨hK, hP1, hD1, hS1, hA⟩)
theorem wfgR_6_7 {idx : Nat} (S : CallFix p m c cc nL s args uG own) (X : gX (dC, dI) (tF kc) (wF x q9 ad kc sv sa va) Z A s σ H locs) (hf : Cond.fieldLink own idx "LazyForge$Program" "parameters" "[I" ∈ uG) (hd : decode cc pc = .ok (.getfield idx, 3))
    (k : W p l e R s m args below meth c H locs cells slots Q (F0 m (pc + 3) ls (.ref (ad 19) :: rest))) : W p l e R s m args below meth c H locs cells slots Q (F0 m pc ls (.ref (ad 6) :: rest)) := by
  obtain ⟨hx, hb, hml, hown, hu⟩ := S
  obtain ⟨hK, hP, hD, hS, hA⟩ := X
  exact va_get (D := (dC, dI)) (ci := 7) (v := .ref (ad 19)) (C := RX4) (T := TX4) (N := 17) hx hb hu iuX4 hown hK hP 6 rfl rfl 7 (by decide) (hu _ hf) (fun _ h9 => h9) rfl hd k
theorem wfgR_6_8 {idx : Nat} (S : CallFix p m c cc nL s args uG own) (X : gX (dC, dI) (tF kc) (wF x q9 ad kc sv sa va) Z A s σ H locs) (hf : Cond.fieldLink own idx "LazyForge$Program" "frees" "[I" ∈ uG) (hd : decode cc pc = .ok (.getfield idx, 3))
    (k : W p l e R s m args below meth c H locs cells slots Q (F0 m (pc + 3) ls (.ref (ad 20) :: rest))) : W p l e R s m args below meth c H locs cells slots Q (F0 m pc ls (.ref (ad 6) :: rest)) := by
  obtain ⟨hx, hb, hml, hown, hu⟩ := S
  obtain ⟨hK, hP, hD, hS, hA⟩ := X
  exact va_get (D := (dC, dI)) (ci := 7) (v := .ref (ad 20)) (C := RX4) (T := TX4) (N := 17) hx hb hu iuX4 hown hK hP 6 rfl rfl 8 (by decide) (hu _ hf) (fun _ h9 => h9) rfl hd k
theorem wfgR_6_9 {idx : Nat} (S : CallFix p m c cc nL s args uG own) (X : gX (dC, dI) (tF kc) (wF x q9 ad kc sv sa va) Z A s σ H locs) (hf : Cond.fieldLink own idx "LazyForge$Program" "free" "[I" ∈ uG) (hd : decode cc pc = .ok (.getfield idx, 3))
    (k : W p l e R s m args below meth c H locs cells slots Q (F0 m (pc + 3) ls (.ref (ad 21) :: rest))) : W p l e R s m args below meth c H locs cells slots Q (F0 m pc ls (.ref (ad 6) :: rest)) := by
  obtain ⟨hx, hb, hml, hown, hu⟩ := S
  obtain ⟨hK, hP, hD, hS, hA⟩ := X
  exact va_get (D := (dC, dI)) (ci := 7) (v := .ref (ad 21)) (C := RX4) (T := TX4) (N := 17) hx hb hu iuX4 hown hK hP 6 rfl rfl 9 (by decide) (hu _ hf) (fun _ h9 => h9) rfl hd k
theorem wfgR_6_10 {idx : Nat} (S : CallFix p m c cc nL s args uG own) (X : gX (dC, dI) (tF kc) (wF x q9 ad kc sv sa va) Z A s σ H locs) (hf : Cond.fieldLink own idx "LazyForge$Program" "variables" "[I" ∈ uG) (hd : decode cc pc = .ok (.getfield idx, 3))
    (k : W p l e R s m args below meth c H locs cells slots Q (F0 m (pc + 3) ls (.ref (ad 22) :: rest))) : W p l e R s m args below meth c H locs cells slots Q (F0 m pc ls (.ref (ad 6) :: rest)) := by
  obtain ⟨hx, hb, hml, hown, hu⟩ := S
  obtain ⟨hK, hP, hD, hS, hA⟩ := X
  exact va_get (D := (dC, dI)) (ci := 7) (v := .ref (ad 22)) (C := RX4) (T := TX4) (N := 17) hx hb hu iuX4 hown hK hP 6 rfl rfl 10 (by decide) (hu _ hf) (fun _ h9 => h9) rfl hd k
theorem wfgR_6_11 {idx : Nat} (S : CallFix p m c cc nL s args uG own) (X : gX (dC, dI) (tF kc) (wF x q9 ad kc sv sa va) Z A s σ H locs) (hf : Cond.fieldLink own idx "LazyForge$Program" "root" "[I" ∈ uG) (hd : decode cc pc = .ok (.getfield idx, 3))
    (k : W p l e R s m args below meth c H locs cells slots Q (F0 m (pc + 3) ls (.ref (ad 23) :: rest))) : W p l e R s m args below meth c H locs cells slots Q (F0 m pc ls (.ref (ad 6) :: rest)) := by
  obtain ⟨hx, hb, hml, hown, hu⟩ := S
  obtain ⟨hK, hP, hD, hS, hA⟩ := X
  exact va_get (D := (dC, dI)) (ci := 7) (v := .ref (ad 23)) (C := RX4) (T := TX4) (N := 17) hx hb hu iuX4 hown hK hP 6 rfl rfl 11 (by decide) (hu _ hf) (fun _ h9 => h9) rfl hd k
theorem wfgR_6_12 {idx : Nat} (S : CallFix p m c cc nL s args uG own) (X : gX (dC, dI) (tF kc) (wF x q9 ad kc sv sa va) Z A s σ H locs) (hf : Cond.fieldLink own idx "LazyForge$Program" "scope" "[I" ∈ uG) (hd : decode cc pc = .ok (.getfield idx, 3))
    (k : W p l e R s m args below meth c H locs cells slots Q (F0 m (pc + 3) ls (.ref (ad 24) :: rest))) : W p l e R s m args below meth c H locs cells slots Q (F0 m pc ls (.ref (ad 6) :: rest)) := by
  obtain ⟨hx, hb, hml, hown, hu⟩ := S
  obtain ⟨hK, hP, hD, hS, hA⟩ := X
  exact va_get (D := (dC, dI)) (ci := 7) (v := .ref (ad 24)) (C := RX4) (T := TX4) (N := 17) hx hb hu iuX4 hown hK hP 6 rfl rfl 12 (by decide) (hu _ hf) (fun _ h9 => h9) rfl hd k
theorem wfgR_6_13 {idx : Nat} (S : CallFix p m c cc nL s args uG own) (X : gX (dC, dI) (tF kc) (wF x q9 ad kc sv sa va) Z A s σ H locs) (hf : Cond.fieldLink own idx "LazyForge$Program" "parts" "[I" ∈ uG) (hd : decode cc pc = .ok (.getfield idx, 3))
    (k : W p l e R s m args below meth c H locs cells slots Q (F0 m (pc + 3) ls (.ref (ad 25) :: rest))) : W p l e R s m args below meth c H locs cells slots Q (F0 m pc ls (.ref (ad 6) :: rest)) := by
  obtain ⟨hx, hb, hml, hown, hu⟩ := S
  obtain ⟨hK, hP, hD, hS, hA⟩ := X
  exact va_get (D := (dC, dI)) (ci := 7) (v := .ref (ad 25)) (C := RX4) (T := TX4) (N := 17) hx hb hu iuX4 hown hK hP 6 rfl rfl 13 (by decide) (hu _ hf) (fun _ h9 => h9) rfl hd k
theorem wfgR_6_14 {idx : Nat} (S : CallFix p m c cc nL s args uG own) (X : gX (dC, dI) (tF kc) (wF x q9 ad kc sv sa va) Z A s σ H locs) (hf : Cond.fieldLink own idx "LazyForge$Program" "height" "[I" ∈ uG) (hd : decode cc pc = .ok (.getfield idx, 3))
    (k : W p l e R s m args below meth c H locs cells slots Q (F0 m (pc + 3) ls (.ref (ad 26) :: rest))) : W p l e R s m args below meth c H locs cells slots Q (F0 m pc ls (.ref (ad 6) :: rest)) := by
  obtain ⟨hx, hb, hml, hown, hu⟩ := S
  obtain ⟨hK, hP, hD, hS, hA⟩ := X
  exact va_get (D := (dC, dI)) (ci := 7) (v := .ref (ad 26)) (C := RX4) (T := TX4) (N := 17) hx hb hu iuX4 hown hK hP 6 rfl rfl 14 (by decide) (hu _ hf) (fun _ h9 => h9) rfl hd k
theorem wfgR_6_15 {idx : Nat} (S : CallFix p m c cc nL s args uG own) (X : gX (dC, dI) (tF kc) (wF x q9 ad kc sv sa va) Z A s σ H locs) (hf : Cond.fieldLink own idx "LazyForge$Program" "lets" "[I" ∈ uG) (hd : decode cc pc = .ok (.getfield idx, 3))
    (k : W p l e R s m args below meth c H locs cells slots Q (F0 m (pc + 3) ls (.ref (ad 27) :: rest))) : W p l e R s m args below meth c H locs cells slots Q (F0 m pc ls (.ref (ad 6) :: rest)) := by
  obtain ⟨hx, hb, hml, hown, hu⟩ := S
  obtain ⟨hK, hP, hD, hS, hA⟩ := X
  exact va_get (D := (dC, dI)) (ci := 7) (v := .ref (ad 27)) (C := RX4) (T := TX4) (N := 17) hx hb hu iuX4 hown hK hP 6 rfl rfl 15 (by decide) (hu _ hf) (fun _ h9 => h9) rfl hd k
theorem wfgR_6_16 {idx : Nat} (S : CallFix p m c cc nL s args uG own) (X : gX (dC, dI) (tF kc) (wF x q9 ad kc sv sa va) Z A s σ H locs) (hf : Cond.fieldLink own idx "LazyForge$Program" "needed" "[I" ∈ uG) (hd : decode cc pc = .ok (.getfield idx, 3))
    (k : W p l e R s m args below meth c H locs cells slots Q (F0 m (pc + 3) ls (.ref (ad 28) :: rest))) : W p l e R s m args below meth c H locs cells slots Q (F0 m pc ls (.ref (ad 6) :: rest)) := by
  obtain ⟨hx, hb, hml, hown, hu⟩ := S
  obtain ⟨hK, hP, hD, hS, hA⟩ := X
  exact va_get (D := (dC, dI)) (ci := 7) (v := .ref (ad 28)) (C := RX4) (T := TX4) (N := 17) hx hb hu iuX4 hown hK hP 6 rfl rfl 16 (by decide) (hu _ hf) (fun _ h9 => h9) rfl hd k
theorem wfgR_7_0 {idx : Nat} (S : CallFix p m c cc nL s args uG own) (X : gX (dC, dI) (tF kc) (wF x q9 ad kc sv sa va) Z A s σ H locs) (hf : Cond.fieldLink own idx "LazyForge$Tree" "kind" "[I" ∈ uG) (hd : decode cc pc = .ok (.getfield idx, 3))
    (k : W p l e R s m args below meth c H locs cells slots Q (F0 m (pc + 3) ls (.ref (ad 29) :: rest))) : W p l e R s m args below meth c H locs cells slots Q (F0 m pc ls (.ref (ad 7) :: rest)) := by
  obtain ⟨hx, hb, hml, hown, hu⟩ := S
  obtain ⟨hK, hP, hD, hS, hA⟩ := X
  exact va_get (D := (dC, dI)) (ci := 12) (v := .ref (ad 29)) (C := RX9) (T := TX9) (N := 9) hx hb hu iuX9 hown hK hP 7 rfl rfl 0 (by decide) (hu _ hf) (fun _ h9 => h9) rfl hd k
theorem wfgR_7_1 {idx : Nat} (S : CallFix p m c cc nL s args uG own) (X : gX (dC, dI) (tF kc) (wF x q9 ad kc sv sa va) Z A s σ H locs) (hf : Cond.fieldLink own idx "LazyForge$Tree" "value" "[I" ∈ uG) (hd : decode cc pc = .ok (.getfield idx, 3))
    (k : W p l e R s m args below meth c H locs cells slots Q (F0 m (pc + 3) ls (.ref (ad 30) :: rest))) : W p l e R s m args below meth c H locs cells slots Q (F0 m pc ls (.ref (ad 7) :: rest)) := by
  obtain ⟨hx, hb, hml, hown, hu⟩ := S
  obtain ⟨hK, hP, hD, hS, hA⟩ := X
  exact va_get (D := (dC, dI)) (ci := 12) (v := .ref (ad 30)) (C := RX9) (T := TX9) (N := 9) hx hb hu iuX9 hown hK hP 7 rfl rfl 1 (by decide) (hu _ hf) (fun _ h9 => h9) rfl hd k
theorem wfgR_7_2 {idx : Nat} (S : CallFix p m c cc nL s args uG own) (X : gX (dC, dI) (tF kc) (wF x q9 ad kc sv sa va) Z A s σ H locs) (hf : Cond.fieldLink own idx "LazyForge$Tree" "slot" "[I" ∈ uG) (hd : decode cc pc = .ok (.getfield idx, 3))
    (k : W p l e R s m args below meth c H locs cells slots Q (F0 m (pc + 3) ls (.ref (ad 31) :: rest))) : W p l e R s m args below meth c H locs cells slots Q (F0 m pc ls (.ref (ad 7) :: rest)) := by
  obtain ⟨hx, hb, hml, hown, hu⟩ := S
  obtain ⟨hK, hP, hD, hS, hA⟩ := X
  exact va_get (D := (dC, dI)) (ci := 12) (v := .ref (ad 31)) (C := RX9) (T := TX9) (N := 9) hx hb hu iuX9 hown hK hP 7 rfl rfl 2 (by decide) (hu _ hf) (fun _ h9 => h9) rfl hd k
theorem wfgR_7_3 {idx : Nat} (S : CallFix p m c cc nL s args uG own) (X : gX (dC, dI) (tF kc) (wF x q9 ad kc sv sa va) Z A s σ H locs) (hf : Cond.fieldLink own idx "LazyForge$Tree" "kid" "[I" ∈ uG) (hd : decode cc pc = .ok (.getfield idx, 3))
    (k : W p l e R s m args below meth c H locs cells slots Q (F0 m (pc + 3) ls (.ref (ad 32) :: rest))) : W p l e R s m args below meth c H locs cells slots Q (F0 m pc ls (.ref (ad 7) :: rest)) := by
  obtain ⟨hx, hb, hml, hown, hu⟩ := S
  obtain ⟨hK, hP, hD, hS, hA⟩ := X
  exact va_get (D := (dC, dI)) (ci := 12) (v := .ref (ad 32)) (C := RX9) (T := TX9) (N := 9) hx hb hu iuX9 hown hK hP 7 rfl rfl 3 (by decide) (hu _ hf) (fun _ h9 => h9) rfl hd k
theorem wfgR_7_4 {idx : Nat} (S : CallFix p m c cc nL s args uG own) (X : gX (dC, dI) (tF kc) (wF x q9 ad kc sv sa va) Z A s σ H locs) (hf : Cond.fieldLink own idx "LazyForge$Tree" "next" "[I" ∈ uG) (hd : decode cc pc = .ok (.getfield idx, 3))
    (k : W p l e R s m args below meth c H locs cells slots Q (F0 m (pc + 3) ls (.ref (ad 33) :: rest))) : W p l e R s m args below meth c H locs cells slots Q (F0 m pc ls (.ref (ad 7) :: rest)) := by
  obtain ⟨hx, hb, hml, hown, hu⟩ := S
  obtain ⟨hK, hP, hD, hS, hA⟩ := X
  exact va_get (D := (dC, dI)) (ci := 12) (v := .ref (ad 33)) (C := RX9) (T := TX9) (N := 9) hx hb hu iuX9 hown hK hP 7 rfl rfl 4 (by decide) (hu _ hf) (fun _ h9 => h9) rfl hd k
theorem wfgR_7_5 {idx : Nat} (S : CallFix p m c cc nL s args uG own) (X : gX (dC, dI) (tF kc) (wF x q9 ad kc sv sa va) Z A s σ H locs) (hf : Cond.fieldLink own idx "LazyForge$Tree" "height" "[I" ∈ uG) (hd : decode cc pc = .ok (.getfield idx, 3))
    (k : W p l e R s m args below meth c H locs cells slots Q (F0 m (pc + 3) ls (.ref (ad 34) :: rest))) : W p l e R s m args below meth c H locs cells slots Q (F0 m pc ls (.ref (ad 7) :: rest)) := by
  obtain ⟨hx, hb, hml, hown, hu⟩ := S
  obtain ⟨hK, hP, hD, hS, hA⟩ := X
  exact va_get (D := (dC, dI)) (ci := 12) (v := .ref (ad 34)) (C := RX9) (T := TX9) (N := 9) hx hb hu iuX9 hown hK hP 7 rfl rfl 5 (by decide) (hu _ hf) (fun _ h9 => h9) rfl hd k
theorem wfgR_7_6 {idx : Nat} (S : CallFix p m c cc nL s args uG own) (X : gX (dC, dI) (tF kc) (wF x q9 ad kc sv sa va) Z A s σ H locs) (hf : Cond.fieldLink own idx "LazyForge$Tree" "parts" "[I" ∈ uG) (hd : decode cc pc = .ok (.getfield idx, 3))
    (k : W p l e R s m args below meth c H locs cells slots Q (F0 m (pc + 3) ls (.ref (ad 35) :: rest))) : W p l e R s m args below meth c H locs cells slots Q (F0 m pc ls (.ref (ad 7) :: rest)) := by
  obtain ⟨hx, hb, hml, hown, hu⟩ := S
  obtain ⟨hK, hP, hD, hS, hA⟩ := X
  exact va_get (D := (dC, dI)) (ci := 12) (v := .ref (ad 35)) (C := RX9) (T := TX9) (N := 9) hx hb hu iuX9 hown hK hP 7 rfl rfl 6 (by decide) (hu _ hf) (fun _ h9 => h9) rfl hd k
theorem wfgR_7_7 {idx : Nat} (S : CallFix p m c cc nL s args uG own) (X : gX (dC, dI) (tF kc) (wF x q9 ad kc sv sa va) Z A s σ H locs) (hf : Cond.fieldLink own idx "LazyForge$Tree" "used" "[J" ∈ uG) (hd : decode cc pc = .ok (.getfield idx, 3))
    (k : W p l e R s m args below meth c H locs cells slots Q (F0 m (pc + 3) ls (.ref (ad 36) :: rest))) : W p l e R s m args below meth c H locs cells slots Q (F0 m pc ls (.ref (ad 7) :: rest)) := by
  obtain ⟨hx, hb, hml, hown, hu⟩ := S
  obtain ⟨hK, hP, hD, hS, hA⟩ := X
  exact va_get (D := (dC, dI)) (ci := 12) (v := .ref (ad 36)) (C := RX9) (T := TX9) (N := 9) hx hb hu iuX9 hown hK hP 7 rfl rfl 7 (by decide) (hu _ hf) (fun _ h9 => h9) rfl hd k
theorem wfgI_8 {idx : Nat} (S : CallFix p m c cc nL s args uG own) (X : gX (dC, dI) (tF kc) (wF x q9 ad kc sv sa va) Z A s σ H locs) (hf : Cond.fieldLink own idx "LazyForge$Tree" "count" "I" ∈ uG) {v : Int32} (hv : gI σ 8 = v) (hd : decode cc pc = .ok (.getfield idx, 3))
    (k : W p l e R s m args below meth c H locs cells slots Q (F0 m (pc + 3) ls (.int v :: rest))) : W p l e R s m args below meth c H locs cells slots Q (F0 m pc ls (.ref (ad 7) :: rest)) := by
  subst hv
  obtain ⟨hx, hb, hml, hown, hu⟩ := S
  obtain ⟨hK, hP, hD, hS, hA⟩ := X
  exact va_get (D := (dC, dI)) (ci := 12) (v := .int (gI σ 8)) (C := RX9) (T := TX9) (N := 9) hx hb hu iuX9 hown hK hP 7 rfl rfl 8 (by decide) (hu _ hf) (fun _ h9 => h9) rfl hd k
theorem wfpI_8 {idx : Nat} {v : Int32} (S : CallFix p m c cc nL s args uG own) (X : gX (dC, dI) (tF kc) (wF x q9 ad kc sv sa va) Z A s σ H locs) (hf : Cond.fieldLink own idx "LazyForge$Tree" "count" "I" ∈ uG) (hd : decode cc pc = .ok (.putfield idx, 3))
    (k : ∀ (H : Heap) (locs : List Loc), gX (dC, dI) (tF kc) (wF x q9 ad kc sv sa va) Z A s (pI σ 8 v) H locs → W p l e R s m args below meth c H locs cells slots Q (F0 m (pc + 3) ls (rest))) : W p l e R s m args below meth c H locs cells slots Q (F0 m pc ls (.int v :: .ref (ad 7) :: rest)) := by
  obtain ⟨hx, hb, hml, hown, hu⟩ := S
  obtain ⟨hK, hP, hD, hS, hA⟩ := X
  exact va_put (D := (dC, dI)) (ci := 12) (v := .int v) (ty := (tyX9 8)) (C := RX9) (T := TX9) (N := 9) hx hb hu iuX9 tyX9 tyX9_ok nmX9 hown hK hP hD hS 7 rfl rfl 8 (by decide) (hu _ hf) (fun _ h9 => h9) rfl (by decide +kernel) (rfl) (rfl) (Nat.le_of_ble_eq_true rfl) hd (fun H1 locs1 hP1 hD1 hS1 => k H1 locs1 ⟨hK, hP1, hD1, hS1, hA⟩)
theorem wfgR_8_0 {idx : Nat} (S : CallFix p m c cc nL s args uG own) (X : gX (dC, dI) (tF kc) (wF x q9 ad kc sv sa va) Z A s σ H locs) (hf : Cond.fieldLink own idx "LazyForge$Scopes" "name" "[J" ∈ uG) (hd : decode cc pc = .ok (.getfield idx, 3))
    (k : W p l e R s m args below meth c H locs cells slots Q (F0 m (pc + 3) ls (.ref (ad 37) :: rest))) : W p l e R s m args below meth c H locs cells slots Q (F0 m pc ls (.ref (ad 8) :: rest)) := by
  obtain ⟨hx, hb, hml, hown, hu⟩ := S
  obtain ⟨hK, hP, hD, hS, hA⟩ := X
  exact va_get (D := (dC, dI)) (ci := 9) (v := .ref (ad 37)) (C := RX6) (T := TX6) (N := 15) hx hb hu iuX6 hown hK hP 8 rfl rfl 0 (by decide) (hu _ hf) (fun _ h9 => h9) rfl hd k
theorem wfgR_8_1 {idx : Nat} (S : CallFix p m c cc nL s args uG own) (X : gX (dC, dI) (tF kc) (wF x q9 ad kc sv sa va) Z A s σ H locs) (hf : Cond.fieldLink own idx "LazyForge$Scopes" "names" "[I" ∈ uG) (hd : decode cc pc = .ok (.getfield idx, 3))
    (k : W p l e R s m args below meth c H locs cells slots Q (F0 m (pc + 3) ls (.ref (ad 38) :: rest))) : W p l e R s m args below meth c H locs cells slots Q (F0 m pc ls (.ref (ad 8) :: rest)) := by
  obtain ⟨hx, hb, hml, hown, hu⟩ := S
  obtain ⟨hK, hP, hD, hS, hA⟩ := X
  exact va_get (D := (dC, dI)) (ci := 9) (v := .ref (ad 38)) (C := RX6) (T := TX6) (N := 15) hx hb hu iuX6 hown hK hP 8 rfl rfl 1 (by decide) (hu _ hf) (fun _ h9 => h9) rfl hd k
theorem wfgR_8_2 {idx : Nat} (S : CallFix p m c cc nL s args uG own) (X : gX (dC, dI) (tF kc) (wF x q9 ad kc sv sa va) Z A s σ H locs) (hf : Cond.fieldLink own idx "LazyForge$Scopes" "parent" "[I" ∈ uG) (hd : decode cc pc = .ok (.getfield idx, 3))
    (k : W p l e R s m args below meth c H locs cells slots Q (F0 m (pc + 3) ls (.ref (ad 39) :: rest))) : W p l e R s m args below meth c H locs cells slots Q (F0 m pc ls (.ref (ad 8) :: rest)) := by
  obtain ⟨hx, hb, hml, hown, hu⟩ := S
  obtain ⟨hK, hP, hD, hS, hA⟩ := X
  exact va_get (D := (dC, dI)) (ci := 9) (v := .ref (ad 39)) (C := RX6) (T := TX6) (N := 15) hx hb hu iuX6 hown hK hP 8 rfl rfl 2 (by decide) (hu _ hf) (fun _ h9 => h9) rfl hd k
theorem wfgR_8_3 {idx : Nat} (S : CallFix p m c cc nL s args uG own) (X : gX (dC, dI) (tF kc) (wF x q9 ad kc sv sa va) Z A s σ H locs) (hf : Cond.fieldLink own idx "LazyForge$Scopes" "owner" "[I" ∈ uG) (hd : decode cc pc = .ok (.getfield idx, 3))
    (k : W p l e R s m args below meth c H locs cells slots Q (F0 m (pc + 3) ls (.ref (ad 40) :: rest))) : W p l e R s m args below meth c H locs cells slots Q (F0 m pc ls (.ref (ad 8) :: rest)) := by
  obtain ⟨hx, hb, hml, hown, hu⟩ := S
  obtain ⟨hK, hP, hD, hS, hA⟩ := X
  exact va_get (D := (dC, dI)) (ci := 9) (v := .ref (ad 40)) (C := RX6) (T := TX6) (N := 15) hx hb hu iuX6 hown hK hP 8 rfl rfl 3 (by decide) (hu _ hf) (fun _ h9 => h9) rfl hd k
theorem wfgR_8_4 {idx : Nat} (S : CallFix p m c cc nL s args uG own) (X : gX (dC, dI) (tF kc) (wF x q9 ad kc sv sa va) Z A s σ H locs) (hf : Cond.fieldLink own idx "LazyForge$Scopes" "root" "[I" ∈ uG) (hd : decode cc pc = .ok (.getfield idx, 3))
    (k : W p l e R s m args below meth c H locs cells slots Q (F0 m (pc + 3) ls (.ref (ad 41) :: rest))) : W p l e R s m args below meth c H locs cells slots Q (F0 m pc ls (.ref (ad 8) :: rest)) := by
  obtain ⟨hx, hb, hml, hown, hu⟩ := S
  obtain ⟨hK, hP, hD, hS, hA⟩ := X
  exact va_get (D := (dC, dI)) (ci := 9) (v := .ref (ad 41)) (C := RX6) (T := TX6) (N := 15) hx hb hu iuX6 hown hK hP 8 rfl rfl 4 (by decide) (hu _ hf) (fun _ h9 => h9) rfl hd k
theorem wfgR_8_5 {idx : Nat} (S : CallFix p m c cc nL s args uG own) (X : gX (dC, dI) (tF kc) (wF x q9 ad kc sv sa va) Z A s σ H locs) (hf : Cond.fieldLink own idx "LazyForge$Scopes" "place" "[I" ∈ uG) (hd : decode cc pc = .ok (.getfield idx, 3))
    (k : W p l e R s m args below meth c H locs cells slots Q (F0 m (pc + 3) ls (.ref (ad 42) :: rest))) : W p l e R s m args below meth c H locs cells slots Q (F0 m pc ls (.ref (ad 8) :: rest)) := by
  obtain ⟨hx, hb, hml, hown, hu⟩ := S
  obtain ⟨hK, hP, hD, hS, hA⟩ := X
  exact va_get (D := (dC, dI)) (ci := 9) (v := .ref (ad 42)) (C := RX6) (T := TX6) (N := 15) hx hb hu iuX6 hown hK hP 8 rfl rfl 5 (by decide) (hu _ hf) (fun _ h9 => h9) rfl hd k
theorem wfgR_8_6 {idx : Nat} (S : CallFix p m c cc nL s args uG own) (X : gX (dC, dI) (tF kc) (wF x q9 ad kc sv sa va) Z A s σ H locs) (hf : Cond.fieldLink own idx "LazyForge$Scopes" "base" "[I" ∈ uG) (hd : decode cc pc = .ok (.getfield idx, 3))
    (k : W p l e R s m args below meth c H locs cells slots Q (F0 m (pc + 3) ls (.ref (ad 43) :: rest))) : W p l e R s m args below meth c H locs cells slots Q (F0 m pc ls (.ref (ad 8) :: rest)) := by
  obtain ⟨hx, hb, hml, hown, hu⟩ := S
  obtain ⟨hK, hP, hD, hS, hA⟩ := X
  exact va_get (D := (dC, dI)) (ci := 9) (v := .ref (ad 43)) (C := RX6) (T := TX6) (N := 15) hx hb hu iuX6 hown hK hP 8 rfl rfl 6 (by decide) (hu _ hf) (fun _ h9 => h9) rfl hd k
theorem wfgR_8_7 {idx : Nat} (S : CallFix p m c cc nL s args uG own) (X : gX (dC, dI) (tF kc) (wF x q9 ad kc sv sa va) Z A s σ H locs) (hf : Cond.fieldLink own idx "LazyForge$Scopes" "number" "[I" ∈ uG) (hd : decode cc pc = .ok (.getfield idx, 3))
    (k : W p l e R s m args below meth c H locs cells slots Q (F0 m (pc + 3) ls (.ref (ad 44) :: rest))) : W p l e R s m args below meth c H locs cells slots Q (F0 m pc ls (.ref (ad 8) :: rest)) := by
  obtain ⟨hx, hb, hml, hown, hu⟩ := S
  obtain ⟨hK, hP, hD, hS, hA⟩ := X
  exact va_get (D := (dC, dI)) (ci := 9) (v := .ref (ad 44)) (C := RX6) (T := TX6) (N := 15) hx hb hu iuX6 hown hK hP 8 rfl rfl 7 (by decide) (hu _ hf) (fun _ h9 => h9) rfl hd k
theorem wfgI_9 {idx : Nat} (S : CallFix p m c cc nL s args uG own) (X : gX (dC, dI) (tF kc) (wF x q9 ad kc sv sa va) Z A s σ H locs) (hf : Cond.fieldLink own idx "LazyForge$Scopes" "count" "I" ∈ uG) {v : Int32} (hv : gI σ 9 = v) (hd : decode cc pc = .ok (.getfield idx, 3))
    (k : W p l e R s m args below meth c H locs cells slots Q (F0 m (pc + 3) ls (.int v :: rest))) : W p l e R s m args below meth c H locs cells slots Q (F0 m pc ls (.ref (ad 8) :: rest)) := by
  subst hv
  obtain ⟨hx, hb, hml, hown, hu⟩ := S
  obtain ⟨hK, hP, hD, hS, hA⟩ := X
  exact va_get (D := (dC, dI)) (ci := 9) (v := .int (gI σ 9)) (C := RX6) (T := TX6) (N := 15) hx hb hu iuX6 hown hK hP 8 rfl rfl 8 (by decide) (hu _ hf) (fun _ h9 => h9) rfl hd k
theorem wfpI_9 {idx : Nat} {v : Int32} (S : CallFix p m c cc nL s args uG own) (X : gX (dC, dI) (tF kc) (wF x q9 ad kc sv sa va) Z A s σ H locs) (hf : Cond.fieldLink own idx "LazyForge$Scopes" "count" "I" ∈ uG) (hd : decode cc pc = .ok (.putfield idx, 3))
    (k : ∀ (H : Heap) (locs : List Loc), gX (dC, dI) (tF kc) (wF x q9 ad kc sv sa va) Z A s (pI σ 9 v) H locs → W p l e R s m args below meth c H locs cells slots Q (F0 m (pc + 3) ls (rest))) : W p l e R s m args below meth c H locs cells slots Q (F0 m pc ls (.int v :: .ref (ad 8) :: rest)) := by
  obtain ⟨hx, hb, hml, hown, hu⟩ := S
  obtain ⟨hK, hP, hD, hS, hA⟩ := X
  exact va_put (D := (dC, dI)) (ci := 9) (v := .int v) (ty := (tyX6 8)) (C := RX6) (T := TX6) (N := 15) hx hb hu iuX6 tyX6 tyX6_ok nmX6 hown hK hP hD hS 8 rfl rfl 8 (by decide) (hu _ hf) (fun _ h9 => h9) rfl (by decide +kernel) (rfl) (rfl) (Nat.le_of_ble_eq_true rfl) hd (fun H1 locs1 hP1 hD1 hS1 => k H1 locs1 ⟨hK, hP1, hD1, hS1, hA⟩)
theorem wfgR_8_9 {idx : Nat} (S : CallFix p m c cc nL s args uG own) (X : gX (dC, dI) (tF kc) (wF x q9 ad kc sv sa va) Z A s σ H locs) (hf : Cond.fieldLink own idx "LazyForge$Scopes" "useName" "[J" ∈ uG) (hd : decode cc pc = .ok (.getfield idx, 3))
    (k : W p l e R s m args below meth c H locs cells slots Q (F0 m (pc + 3) ls (.ref (ad 45) :: rest))) : W p l e R s m args below meth c H locs cells slots Q (F0 m pc ls (.ref (ad 8) :: rest)) := by
  obtain ⟨hx, hb, hml, hown, hu⟩ := S
  obtain ⟨hK, hP, hD, hS, hA⟩ := X
  exact va_get (D := (dC, dI)) (ci := 9) (v := .ref (ad 45)) (C := RX6) (T := TX6) (N := 15) hx hb hu iuX6 hown hK hP 8 rfl rfl 9 (by decide) (hu _ hf) (fun _ h9 => h9) rfl hd k
theorem wfgR_8_10 {idx : Nat} (S : CallFix p m c cc nL s args uG own) (X : gX (dC, dI) (tF kc) (wF x q9 ad kc sv sa va) Z A s σ H locs) (hf : Cond.fieldLink own idx "LazyForge$Scopes" "useScope" "[I" ∈ uG) (hd : decode cc pc = .ok (.getfield idx, 3))
    (k : W p l e R s m args below meth c H locs cells slots Q (F0 m (pc + 3) ls (.ref (ad 46) :: rest))) : W p l e R s m args below meth c H locs cells slots Q (F0 m pc ls (.ref (ad 8) :: rest)) := by
  obtain ⟨hx, hb, hml, hown, hu⟩ := S
  obtain ⟨hK, hP, hD, hS, hA⟩ := X
  exact va_get (D := (dC, dI)) (ci := 9) (v := .ref (ad 46)) (C := RX6) (T := TX6) (N := 15) hx hb hu iuX6 hown hK hP 8 rfl rfl 10 (by decide) (hu _ hf) (fun _ h9 => h9) rfl hd k
theorem wfgR_8_11 {idx : Nat} (S : CallFix p m c cc nL s args uG own) (X : gX (dC, dI) (tF kc) (wF x q9 ad kc sv sa va) Z A s σ H locs) (hf : Cond.fieldLink own idx "LazyForge$Scopes" "usePlace" "[I" ∈ uG) (hd : decode cc pc = .ok (.getfield idx, 3))
    (k : W p l e R s m args below meth c H locs cells slots Q (F0 m (pc + 3) ls (.ref (ad 47) :: rest))) : W p l e R s m args below meth c H locs cells slots Q (F0 m pc ls (.ref (ad 8) :: rest)) := by
  obtain ⟨hx, hb, hml, hown, hu⟩ := S
  obtain ⟨hK, hP, hD, hS, hA⟩ := X
  exact va_get (D := (dC, dI)) (ci := 9) (v := .ref (ad 47)) (C := RX6) (T := TX6) (N := 15) hx hb hu iuX6 hown hK hP 8 rfl rfl 11 (by decide) (hu _ hf) (fun _ h9 => h9) rfl hd k
theorem wfgR_8_12 {idx : Nat} (S : CallFix p m c cc nL s args uG own) (X : gX (dC, dI) (tF kc) (wF x q9 ad kc sv sa va) Z A s σ H locs) (hf : Cond.fieldLink own idx "LazyForge$Scopes" "useNode" "[I" ∈ uG) (hd : decode cc pc = .ok (.getfield idx, 3))
    (k : W p l e R s m args below meth c H locs cells slots Q (F0 m (pc + 3) ls (.ref (ad 48) :: rest))) : W p l e R s m args below meth c H locs cells slots Q (F0 m pc ls (.ref (ad 8) :: rest)) := by
  obtain ⟨hx, hb, hml, hown, hu⟩ := S
  obtain ⟨hK, hP, hD, hS, hA⟩ := X
  exact va_get (D := (dC, dI)) (ci := 9) (v := .ref (ad 48)) (C := RX6) (T := TX6) (N := 15) hx hb hu iuX6 hown hK hP 8 rfl rfl 12 (by decide) (hu _ hf) (fun _ h9 => h9) rfl hd k
theorem wfgR_8_13 {idx : Nat} (S : CallFix p m c cc nL s args uG own) (X : gX (dC, dI) (tF kc) (wF x q9 ad kc sv sa va) Z A s σ H locs) (hf : Cond.fieldLink own idx "LazyForge$Scopes" "useTarget" "[I" ∈ uG) (hd : decode cc pc = .ok (.getfield idx, 3))
    (k : W p l e R s m args below meth c H locs cells slots Q (F0 m (pc + 3) ls (.ref (ad 49) :: rest))) : W p l e R s m args below meth c H locs cells slots Q (F0 m pc ls (.ref (ad 8) :: rest)) := by
  obtain ⟨hx, hb, hml, hown, hu⟩ := S
  obtain ⟨hK, hP, hD, hS, hA⟩ := X
  exact va_get (D := (dC, dI)) (ci := 9) (v := .ref (ad 49)) (C := RX6) (T := TX6) (N := 15) hx hb hu iuX6 hown hK hP 8 rfl rfl 13 (by decide) (hu _ hf) (fun _ h9 => h9) rfl hd k
theorem wfgI_10 {idx : Nat} (S : CallFix p m c cc nL s args uG own) (X : gX (dC, dI) (tF kc) (wF x q9 ad kc sv sa va) Z A s σ H locs) (hf : Cond.fieldLink own idx "LazyForge$Scopes" "uses" "I" ∈ uG) {v : Int32} (hv : gI σ 10 = v) (hd : decode cc pc = .ok (.getfield idx, 3))
    (k : W p l e R s m args below meth c H locs cells slots Q (F0 m (pc + 3) ls (.int v :: rest))) : W p l e R s m args below meth c H locs cells slots Q (F0 m pc ls (.ref (ad 8) :: rest)) := by
  subst hv
  obtain ⟨hx, hb, hml, hown, hu⟩ := S
  obtain ⟨hK, hP, hD, hS, hA⟩ := X
  exact va_get (D := (dC, dI)) (ci := 9) (v := .int (gI σ 10)) (C := RX6) (T := TX6) (N := 15) hx hb hu iuX6 hown hK hP 8 rfl rfl 14 (by decide) (hu _ hf) (fun _ h9 => h9) rfl hd k
theorem wfpI_10 {idx : Nat} {v : Int32} (S : CallFix p m c cc nL s args uG own) (X : gX (dC, dI) (tF kc) (wF x q9 ad kc sv sa va) Z A s σ H locs) (hf : Cond.fieldLink own idx "LazyForge$Scopes" "uses" "I" ∈ uG) (hd : decode cc pc = .ok (.putfield idx, 3))
    (k : ∀ (H : Heap) (locs : List Loc), gX (dC, dI) (tF kc) (wF x q9 ad kc sv sa va) Z A s (pI σ 10 v) H locs → W p l e R s m args below meth c H locs cells slots Q (F0 m (pc + 3) ls (rest))) : W p l e R s m args below meth c H locs cells slots Q (F0 m pc ls (.int v :: .ref (ad 8) :: rest)) := by
  obtain ⟨hx, hb, hml, hown, hu⟩ := S
  obtain ⟨hK, hP, hD, hS, hA⟩ := X
  exact va_put (D := (dC, dI)) (ci := 9) (v := .int v) (ty := (tyX6 14)) (C := RX6) (T := TX6) (N := 15) hx hb hu iuX6 tyX6 tyX6_ok nmX6 hown hK hP hD hS 8 rfl rfl 14 (by decide) (hu _ hf) (fun _ h9 => h9) rfl (by decide +kernel) (rfl) (rfl) (Nat.le_of_ble_eq_true rfl) hd (fun H1 locs1 hP1 hD1 hS1 => k H1 locs1 ⟨hK, hP1, hD1, hS1, hA⟩)
theorem wfgR_9_0 {idx : Nat} (S : CallFix p m c cc nL s args uG own) (X : gX (dC, dI) (tF kc) (wF x q9 ad kc sv sa va) Z A s σ H locs) (hf : Cond.fieldLink own idx "LazyForge$Reader" "words" "LLazyForge$Words;" ∈ uG) (hd : decode cc pc = .ok (.getfield idx, 3))
    (k : W p l e R s m args below meth c H locs cells slots Q (F0 m (pc + 3) ls (.ref (ad 10) :: rest))) : W p l e R s m args below meth c H locs cells slots Q (F0 m pc ls (.ref (ad 9) :: rest)) := by
  obtain ⟨hx, hb, hml, hown, hu⟩ := S
  obtain ⟨hK, hP, hD, hS, hA⟩ := X
  exact va_get (D := (dC, dI)) (ci := 8) (v := .ref (ad 10)) (C := RX5) (T := TX5) (N := 9) hx hb hu iuX5 hown hK hP 9 rfl rfl 0 (by decide) (hu _ hf) (fun _ h9 => h9) rfl hd k
theorem wfgR_9_1 {idx : Nat} (S : CallFix p m c cc nL s args uG own) (X : gX (dC, dI) (tF kc) (wF x q9 ad kc sv sa va) Z A s σ H locs) (hf : Cond.fieldLink own idx "LazyForge$Reader" "tree" "LLazyForge$Tree;" ∈ uG) (hd : decode cc pc = .ok (.getfield idx, 3))
    (k : W p l e R s m args below meth c H locs cells slots Q (F0 m (pc + 3) ls (.ref (ad 7) :: rest))) : W p l e R s m args below meth c H locs cells slots Q (F0 m pc ls (.ref (ad 9) :: rest)) := by
  obtain ⟨hx, hb, hml, hown, hu⟩ := S
  obtain ⟨hK, hP, hD, hS, hA⟩ := X
  exact va_get (D := (dC, dI)) (ci := 8) (v := .ref (ad 7)) (C := RX5) (T := TX5) (N := 9) hx hb hu iuX5 hown hK hP 9 rfl rfl 1 (by decide) (hu _ hf) (fun _ h9 => h9) rfl hd k
theorem wfgR_9_2 {idx : Nat} (S : CallFix p m c cc nL s args uG own) (X : gX (dC, dI) (tF kc) (wF x q9 ad kc sv sa va) Z A s σ H locs) (hf : Cond.fieldLink own idx "LazyForge$Reader" "program" "LLazyForge$Program;" ∈ uG) (hd : decode cc pc = .ok (.getfield idx, 3))
    (k : W p l e R s m args below meth c H locs cells slots Q (F0 m (pc + 3) ls (.ref (ad 6) :: rest))) : W p l e R s m args below meth c H locs cells slots Q (F0 m pc ls (.ref (ad 9) :: rest)) := by
  obtain ⟨hx, hb, hml, hown, hu⟩ := S
  obtain ⟨hK, hP, hD, hS, hA⟩ := X
  exact va_get (D := (dC, dI)) (ci := 8) (v := .ref (ad 6)) (C := RX5) (T := TX5) (N := 9) hx hb hu iuX5 hown hK hP 9 rfl rfl 2 (by decide) (hu _ hf) (fun _ h9 => h9) rfl hd k
theorem wfgR_9_3 {idx : Nat} (S : CallFix p m c cc nL s args uG own) (X : gX (dC, dI) (tF kc) (wF x q9 ad kc sv sa va) Z A s σ H locs) (hf : Cond.fieldLink own idx "LazyForge$Reader" "scopes" "LLazyForge$Scopes;" ∈ uG) (hd : decode cc pc = .ok (.getfield idx, 3))
    (k : W p l e R s m args below meth c H locs cells slots Q (F0 m (pc + 3) ls (.ref (ad 8) :: rest))) : W p l e R s m args below meth c H locs cells slots Q (F0 m pc ls (.ref (ad 9) :: rest)) := by
  obtain ⟨hx, hb, hml, hown, hu⟩ := S
  obtain ⟨hK, hP, hD, hS, hA⟩ := X
  exact va_get (D := (dC, dI)) (ci := 8) (v := .ref (ad 8)) (C := RX5) (T := TX5) (N := 9) hx hb hu iuX5 hown hK hP 9 rfl rfl 3 (by decide) (hu _ hf) (fun _ h9 => h9) rfl hd k
theorem wfgI_11 {idx : Nat} (S : CallFix p m c cc nL s args uG own) (X : gX (dC, dI) (tF kc) (wF x q9 ad kc sv sa va) Z A s σ H locs) (hf : Cond.fieldLink own idx "LazyForge$Reader" "faultKind" "I" ∈ uG) {v : Int32} (hv : gI σ 11 = v) (hd : decode cc pc = .ok (.getfield idx, 3))
    (k : W p l e R s m args below meth c H locs cells slots Q (F0 m (pc + 3) ls (.int v :: rest))) : W p l e R s m args below meth c H locs cells slots Q (F0 m pc ls (.ref (ad 9) :: rest)) := by
  subst hv
  obtain ⟨hx, hb, hml, hown, hu⟩ := S
  obtain ⟨hK, hP, hD, hS, hA⟩ := X
  exact va_get (D := (dC, dI)) (ci := 8) (v := .int (gI σ 11)) (C := RX5) (T := TX5) (N := 9) hx hb hu iuX5 hown hK hP 9 rfl rfl 4 (by decide) (hu _ hf) (fun _ h9 => h9) rfl hd k
theorem wfpI_11 {idx : Nat} {v : Int32} (S : CallFix p m c cc nL s args uG own) (X : gX (dC, dI) (tF kc) (wF x q9 ad kc sv sa va) Z A s σ H locs) (hf : Cond.fieldLink own idx "LazyForge$Reader" "faultKind" "I" ∈ uG) (hd : decode cc pc = .ok (.putfield idx, 3))
    (k : ∀ (H : Heap) (locs : List Loc), gX (dC, dI) (tF kc) (wF x q9 ad kc sv sa va) Z A s (pI σ 11 v) H locs → W p l e R s m args below meth c H locs cells slots Q (F0 m (pc + 3) ls (rest))) : W p l e R s m args below meth c H locs cells slots Q (F0 m pc ls (.int v :: .ref (ad 9) :: rest)) := by
  obtain ⟨hx, hb, hml, hown, hu⟩ := S
  obtain ⟨hK, hP, hD, hS, hA⟩ := X
  exact va_put (D := (dC, dI)) (ci := 8) (v := .int v) (ty := (tyX5 4)) (C := RX5) (T := TX5) (N := 9) hx hb hu iuX5 tyX5 tyX5_ok nmX5 hown hK hP hD hS 9 rfl rfl 4 (by decide) (hu _ hf) (fun _ h9 => h9) rfl (by decide +kernel) (rfl) (rfl) (Nat.le_of_ble_eq_true rfl) hd (fun H1 locs1 hP1 hD1 hS1 => k H1 locs1 ⟨hK, hP1, hD1, hS1, hA⟩)
theorem wfgI_12 {idx : Nat} (S : CallFix p m c cc nL s args uG own) (X : gX (dC, dI) (tF kc) (wF x q9 ad kc sv sa va) Z A s σ H locs) (hf : Cond.fieldLink own idx "LazyForge$Reader" "faultPlace" "I" ∈ uG) {v : Int32} (hv : gI σ 12 = v) (hd : decode cc pc = .ok (.getfield idx, 3))
    (k : W p l e R s m args below meth c H locs cells slots Q (F0 m (pc + 3) ls (.int v :: rest))) : W p l e R s m args below meth c H locs cells slots Q (F0 m pc ls (.ref (ad 9) :: rest)) := by
  subst hv
  obtain ⟨hx, hb, hml, hown, hu⟩ := S
  obtain ⟨hK, hP, hD, hS, hA⟩ := X
  exact va_get (D := (dC, dI)) (ci := 8) (v := .int (gI σ 12)) (C := RX5) (T := TX5) (N := 9) hx hb hu iuX5 hown hK hP 9 rfl rfl 5 (by decide) (hu _ hf) (fun _ h9 => h9) rfl hd k
theorem wfpI_12 {idx : Nat} {v : Int32} (S : CallFix p m c cc nL s args uG own) (X : gX (dC, dI) (tF kc) (wF x q9 ad kc sv sa va) Z A s σ H locs) (hf : Cond.fieldLink own idx "LazyForge$Reader" "faultPlace" "I" ∈ uG) (hd : decode cc pc = .ok (.putfield idx, 3))
    (k : ∀ (H : Heap) (locs : List Loc), gX (dC, dI) (tF kc) (wF x q9 ad kc sv sa va) Z A s (pI σ 12 v) H locs → W p l e R s m args below meth c H locs cells slots Q (F0 m (pc + 3) ls (rest))) : W p l e R s m args below meth c H locs cells slots Q (F0 m pc ls (.int v :: .ref (ad 9) :: rest)) := by
  obtain ⟨hx, hb, hml, hown, hu⟩ := S
  obtain ⟨hK, hP, hD, hS, hA⟩ := X
  exact va_put (D := (dC, dI)) (ci := 8) (v := .int v) (ty := (tyX5 5)) (C := RX5) (T := TX5) (N := 9) hx hb hu iuX5 tyX5 tyX5_ok nmX5 hown hK hP hD hS 9 rfl rfl 5 (by decide) (hu _ hf) (fun _ h9 => h9) rfl (by decide +kernel) (rfl) (rfl) (Nat.le_of_ble_eq_true rfl) hd (fun H1 locs1 hP1 hD1 hS1 => k H1 locs1 ⟨hK, hP1, hD1, hS1, hA⟩)
theorem wfgI_13 {idx : Nat} (S : CallFix p m c cc nL s args uG own) (X : gX (dC, dI) (tF kc) (wF x q9 ad kc sv sa va) Z A s σ H locs) (hf : Cond.fieldLink own idx "LazyForge$Reader" "parts" "I" ∈ uG) {v : Int32} (hv : gI σ 13 = v) (hd : decode cc pc = .ok (.getfield idx, 3))
    (k : W p l e R s m args below meth c H locs cells slots Q (F0 m (pc + 3) ls (.int v :: rest))) : W p l e R s m args below meth c H locs cells slots Q (F0 m pc ls (.ref (ad 9) :: rest)) := by
  subst hv
  obtain ⟨hx, hb, hml, hown, hu⟩ := S
  obtain ⟨hK, hP, hD, hS, hA⟩ := X
  exact va_get (D := (dC, dI)) (ci := 8) (v := .int (gI σ 13)) (C := RX5) (T := TX5) (N := 9) hx hb hu iuX5 hown hK hP 9 rfl rfl 6 (by decide) (hu _ hf) (fun _ h9 => h9) rfl hd k
theorem wfpI_13 {idx : Nat} {v : Int32} (S : CallFix p m c cc nL s args uG own) (X : gX (dC, dI) (tF kc) (wF x q9 ad kc sv sa va) Z A s σ H locs) (hf : Cond.fieldLink own idx "LazyForge$Reader" "parts" "I" ∈ uG) (hd : decode cc pc = .ok (.putfield idx, 3))
    (k : ∀ (H : Heap) (locs : List Loc), gX (dC, dI) (tF kc) (wF x q9 ad kc sv sa va) Z A s (pI σ 13 v) H locs → W p l e R s m args below meth c H locs cells slots Q (F0 m (pc + 3) ls (rest))) : W p l e R s m args below meth c H locs cells slots Q (F0 m pc ls (.int v :: .ref (ad 9) :: rest)) := by
  obtain ⟨hx, hb, hml, hown, hu⟩ := S
  obtain ⟨hK, hP, hD, hS, hA⟩ := X
  exact va_put (D := (dC, dI)) (ci := 8) (v := .int v) (ty := (tyX5 6)) (C := RX5) (T := TX5) (N := 9) hx hb hu iuX5 tyX5 tyX5_ok nmX5 hown hK hP hD hS 9 rfl rfl 6 (by decide) (hu _ hf) (fun _ h9 => h9) rfl (by decide +kernel) (rfl) (rfl) (Nat.le_of_ble_eq_true rfl) hd (fun H1 locs1 hP1 hD1 hS1 => k H1 locs1 ⟨hK, hP1, hD1, hS1, hA⟩)
theorem wfgI_14 {idx : Nat} (S : CallFix p m c cc nL s args uG own) (X : gX (dC, dI) (tF kc) (wF x q9 ad kc sv sa va) Z A s σ H locs) (hf : Cond.fieldLink own idx "LazyForge$Reader" "open" "I" ∈ uG) {v : Int32} (hv : gI σ 14 = v) (hd : decode cc pc = .ok (.getfield idx, 3))
    (k : W p l e R s m args below meth c H locs cells slots Q (F0 m (pc + 3) ls (.int v :: rest))) : W p l e R s m args below meth c H locs cells slots Q (F0 m pc ls (.ref (ad 9) :: rest)) := by
  subst hv
  obtain ⟨hx, hb, hml, hown, hu⟩ := S
  obtain ⟨hK, hP, hD, hS, hA⟩ := X
  exact va_get (D := (dC, dI)) (ci := 8) (v := .int (gI σ 14)) (C := RX5) (T := TX5) (N := 9) hx hb hu iuX5 hown hK hP 9 rfl rfl 7 (by decide) (hu _ hf) (fun _ h9 => h9) rfl hd k
theorem wfpI_14 {idx : Nat} {v : Int32} (S : CallFix p m c cc nL s args uG own) (X : gX (dC, dI) (tF kc) (wF x q9 ad kc sv sa va) Z A s σ H locs) (hf : Cond.fieldLink own idx "LazyForge$Reader" "open" "I" ∈ uG) (hd : decode cc pc = .ok (.putfield idx, 3))
    (k : ∀ (H : Heap) (locs : List Loc), gX (dC, dI) (tF kc) (wF x q9 ad kc sv sa va) Z A s (pI σ 14 v) H locs → W p l e R s m args below meth c H locs cells slots Q (F0 m (pc + 3) ls (rest))) : W p l e R s m args below meth c H locs cells slots Q (F0 m pc ls (.int v :: .ref (ad 9) :: rest)) := by
  obtain ⟨hx, hb, hml, hown, hu⟩ := S
  obtain ⟨hK, hP, hD, hS, hA⟩ := X
  exact va_put (D := (dC, dI)) (ci := 8) (v := .int v) (ty := (tyX5 7)) (C := RX5) (T := TX5) (N := 9) hx hb hu iuX5 tyX5 tyX5_ok nmX5 hown hK hP hD hS 9 rfl rfl 7 (by decide) (hu _ hf) (fun _ h9 => h9) rfl (by decide +kernel) (rfl) (rfl) (Nat.le_of_ble_eq_true rfl) hd (fun H1 locs1 hP1 hD1 hS1 => k H1 locs1 ⟨hK, hP1, hD1, hS1, hA⟩)
theorem wfgI_15 {idx : Nat} (S : CallFix p m c cc nL s args uG own) (X : gX (dC, dI) (tF kc) (wF x q9 ad kc sv sa va) Z A s σ H locs) (hf : Cond.fieldLink own idx "LazyForge$Reader" "here" "I" ∈ uG) {v : Int32} (hv : gI σ 15 = v) (hd : decode cc pc = .ok (.getfield idx, 3))
    (k : W p l e R s m args below meth c H locs cells slots Q (F0 m (pc + 3) ls (.int v :: rest))) : W p l e R s m args below meth c H locs cells slots Q (F0 m pc ls (.ref (ad 9) :: rest)) := by
  subst hv
  obtain ⟨hx, hb, hml, hown, hu⟩ := S
  obtain ⟨hK, hP, hD, hS, hA⟩ := X
  exact va_get (D := (dC, dI)) (ci := 8) (v := .int (gI σ 15)) (C := RX5) (T := TX5) (N := 9) hx hb hu iuX5 hown hK hP 9 rfl rfl 8 (by decide) (hu _ hf) (fun _ h9 => h9) rfl hd k
theorem wfpI_15 {idx : Nat} {v : Int32} (S : CallFix p m c cc nL s args uG own) (X : gX (dC, dI) (tF kc) (wF x q9 ad kc sv sa va) Z A s σ H locs) (hf : Cond.fieldLink own idx "LazyForge$Reader" "here" "I" ∈ uG) (hd : decode cc pc = .ok (.putfield idx, 3))
    (k : ∀ (H : Heap) (locs : List Loc), gX (dC, dI) (tF kc) (wF x q9 ad kc sv sa va) Z A s (pI σ 15 v) H locs → W p l e R s m args below meth c H locs cells slots Q (F0 m (pc + 3) ls (rest))) : W p l e R s m args below meth c H locs cells slots Q (F0 m pc ls (.int v :: .ref (ad 9) :: rest)) := by
  obtain ⟨hx, hb, hml, hown, hu⟩ := S
  obtain ⟨hK, hP, hD, hS, hA⟩ := X
  exact va_put (D := (dC, dI)) (ci := 8) (v := .int v) (ty := (tyX5 8)) (C := RX5) (T := TX5) (N := 9) hx hb hu iuX5 tyX5 tyX5_ok nmX5 hown hK hP hD hS 9 rfl rfl 8 (by decide) (hu _ hf) (fun _ h9 => h9) rfl (by decide +kernel) (rfl) (rfl) (Nat.le_of_ble_eq_true rfl) hd (fun H1 locs1 hP1 hD1 hS1 => k H1 locs1 ⟨hK, hP1, hD1, hS1, hA⟩)
theorem wfgR_10_0 {idx : Nat} (S : CallFix p m c cc nL s args uG own) (X : gX (dC, dI) (tF kc) (wF x q9 ad kc sv sa va) Z A s σ H locs) (hf : Cond.fieldLink own idx "LazyForge$Words" "text" "LLazyForge$Signs;" ∈ uG) (hd : decode cc pc = .ok (.getfield idx, 3))
    (k : W p l e R s m args below meth c H locs cells slots Q (F0 m (pc + 3) ls (.ref (ad 4) :: rest))) : W p l e R s m args below meth c H locs cells slots Q (F0 m pc ls (.ref (ad 10) :: rest)) := by
  obtain ⟨hx, hb, hml, hown, hu⟩ := S
  obtain ⟨hK, hP, hD, hS, hA⟩ := X
  exact va_get (D := (dC, dI)) (ci := 13) (v := .ref (ad 4)) (C := RX10) (T := TX10) (N := 6) hx hb hu iuX10 hown hK hP 10 rfl rfl 0 (by decide) (hu _ hf) (fun _ h9 => h9) rfl hd k
theorem wfgI_16 {idx : Nat} (S : CallFix p m c cc nL s args uG own) (X : gX (dC, dI) (tF kc) (wF x q9 ad kc sv sa va) Z A s σ H locs) (hf : Cond.fieldLink own idx "LazyForge$Words" "at" "I" ∈ uG) {v : Int32} (hv : gI σ 16 = v) (hd : decode cc pc = .ok (.getfield idx, 3))
    (k : W p l e R s m args below meth c H locs cells slots Q (F0 m (pc + 3) ls (.int v :: rest))) : W p l e R s m args below meth c H locs cells slots Q (F0 m pc ls (.ref (ad 10) :: rest)) := by
  subst hv
  obtain ⟨hx, hb, hml, hown, hu⟩ := S
  obtain ⟨hK, hP, hD, hS, hA⟩ := X
  exact va_get (D := (dC, dI)) (ci := 13) (v := .int (gI σ 16)) (C := RX10) (T := TX10) (N := 6) hx hb hu iuX10 hown hK hP 10 rfl rfl 1 (by decide) (hu _ hf) (fun _ h9 => h9) rfl hd k
theorem wfpI_16 {idx : Nat} {v : Int32} (S : CallFix p m c cc nL s args uG own) (X : gX (dC, dI) (tF kc) (wF x q9 ad kc sv sa va) Z A s σ H locs) (hf : Cond.fieldLink own idx "LazyForge$Words" "at" "I" ∈ uG) (hd : decode cc pc = .ok (.putfield idx, 3))
    (k : ∀ (H : Heap) (locs : List Loc), gX (dC, dI) (tF kc) (wF x q9 ad kc sv sa va) Z A s (pI σ 16 v) H locs → W p l e R s m args below meth c H locs cells slots Q (F0 m (pc + 3) ls (rest))) : W p l e R s m args below meth c H locs cells slots Q (F0 m pc ls (.int v :: .ref (ad 10) :: rest)) := by
  obtain ⟨hx, hb, hml, hown, hu⟩ := S
  obtain ⟨hK, hP, hD, hS, hA⟩ := X
  exact va_put (D := (dC, dI)) (ci := 13) (v := .int v) (ty := (tyX10 1)) (C := RX10) (T := TX10) (N := 6) hx hb hu iuX10 tyX10 tyX10_ok nmX10 hown hK hP hD hS 10 rfl rfl 1 (by decide) (hu _ hf) (fun _ h9 => h9) rfl (by decide +kernel) (rfl) (rfl) (Nat.le_of_ble_eq_true rfl) hd (fun H1 locs1 hP1 hD1 hS1 => k H1 locs1 ⟨hK, hP1, hD1, hS1, hA⟩)
theorem wfgI_17 {idx : Nat} (S : CallFix p m c cc nL s args uG own) (X : gX (dC, dI) (tF kc) (wF x q9 ad kc sv sa va) Z A s σ H locs) (hf : Cond.fieldLink own idx "LazyForge$Words" "kind" "I" ∈ uG) {v : Int32} (hv : gI σ 17 = v) (hd : decode cc pc = .ok (.getfield idx, 3))
    (k : W p l e R s m args below meth c H locs cells slots Q (F0 m (pc + 3) ls (.int v :: rest))) : W p l e R s m args below meth c H locs cells slots Q (F0 m pc ls (.ref (ad 10) :: rest)) := by
  subst hv
  obtain ⟨hx, hb, hml, hown, hu⟩ := S
  obtain ⟨hK, hP, hD, hS, hA⟩ := X
  exact va_get (D := (dC, dI)) (ci := 13) (v := .int (gI σ 17)) (C := RX10) (T := TX10) (N := 6) hx hb hu iuX10 hown hK hP 10 rfl rfl 2 (by decide) (hu _ hf) (fun _ h9 => h9) rfl hd k
theorem wfpI_17 {idx : Nat} {v : Int32} (S : CallFix p m c cc nL s args uG own) (X : gX (dC, dI) (tF kc) (wF x q9 ad kc sv sa va) Z A s σ H locs) (hf : Cond.fieldLink own idx "LazyForge$Words" "kind" "I" ∈ uG) (hd : decode cc pc = .ok (.putfield idx, 3))
    (k : ∀ (H : Heap) (locs : List Loc), gX (dC, dI) (tF kc) (wF x q9 ad kc sv sa va) Z A s (pI σ 17 v) H locs → W p l e R s m args below meth c H locs cells slots Q (F0 m (pc + 3) ls (rest))) : W p l e R s m args below meth c H locs cells slots Q (F0 m pc ls (.int v :: .ref (ad 10) :: rest)) := by
  obtain ⟨hx, hb, hml, hown, hu⟩ := S
  obtain ⟨hK, hP, hD, hS, hA⟩ := X
  exact va_put (D := (dC, dI)) (ci := 13) (v := .int v) (ty := (tyX10 2)) (C := RX10) (T := TX10) (N := 6) hx hb hu iuX10 tyX10 tyX10_ok nmX10 hown hK hP hD hS 10 rfl rfl 2 (by decide) (hu _ hf) (fun _ h9 => h9) rfl (by decide +kernel) (rfl) (rfl) (Nat.le_of_ble_eq_true rfl) hd (fun H1 locs1 hP1 hD1 hS1 => k H1 locs1 ⟨hK, hP1, hD1, hS1, hA⟩)
theorem wfgI_18 {idx : Nat} (S : CallFix p m c cc nL s args uG own) (X : gX (dC, dI) (tF kc) (wF x q9 ad kc sv sa va) Z A s σ H locs) (hf : Cond.fieldLink own idx "LazyForge$Words" "place" "I" ∈ uG) {v : Int32} (hv : gI σ 18 = v) (hd : decode cc pc = .ok (.getfield idx, 3))
    (k : W p l e R s m args below meth c H locs cells slots Q (F0 m (pc + 3) ls (.int v :: rest))) : W p l e R s m args below meth c H locs cells slots Q (F0 m pc ls (.ref (ad 10) :: rest)) := by
  subst hv
  obtain ⟨hx, hb, hml, hown, hu⟩ := S
  obtain ⟨hK, hP, hD, hS, hA⟩ := X
  exact va_get (D := (dC, dI)) (ci := 13) (v := .int (gI σ 18)) (C := RX10) (T := TX10) (N := 6) hx hb hu iuX10 hown hK hP 10 rfl rfl 3 (by decide) (hu _ hf) (fun _ h9 => h9) rfl hd k
theorem wfpI_18 {idx : Nat} {v : Int32} (S : CallFix p m c cc nL s args uG own) (X : gX (dC, dI) (tF kc) (wF x q9 ad kc sv sa va) Z A s σ H locs) (hf : Cond.fieldLink own idx "LazyForge$Words" "place" "I" ∈ uG) (hd : decode cc pc = .ok (.putfield idx, 3))
    (k : ∀ (H : Heap) (locs : List Loc), gX (dC, dI) (tF kc) (wF x q9 ad kc sv sa va) Z A s (pI σ 18 v) H locs → W p l e R s m args below meth c H locs cells slots Q (F0 m (pc + 3) ls (rest))) : W p l e R s m args below meth c H locs cells slots Q (F0 m pc ls (.int v :: .ref (ad 10) :: rest)) := by
  obtain ⟨hx, hb, hml, hown, hu⟩ := S
  obtain ⟨hK, hP, hD, hS, hA⟩ := X
  exact va_put (D := (dC, dI)) (ci := 13) (v := .int v) (ty := (tyX10 3)) (C := RX10) (T := TX10) (N := 6) hx hb hu iuX10 tyX10 tyX10_ok nmX10 hown hK hP hD hS 10 rfl rfl 3 (by decide) (hu _ hf) (fun _ h9 => h9) rfl (by decide +kernel) (rfl) (rfl) (Nat.le_of_ble_eq_true rfl) hd (fun H1 locs1 hP1 hD1 hS1 => k H1 locs1 ⟨hK, hP1, hD1, hS1, hA⟩)
theorem wfgI_19 {idx : Nat} (S : CallFix p m c cc nL s args uG own) (X : gX (dC, dI) (tF kc) (wF x q9 ad kc sv sa va) Z A s σ H locs) (hf : Cond.fieldLink own idx "LazyForge$Words" "number" "I" ∈ uG) {v : Int32} (hv : gI σ 19 = v) (hd : decode cc pc = .ok (.getfield idx, 3))
    (k : W p l e R s m args below meth c H locs cells slots Q (F0 m (pc + 3) ls (.int v :: rest))) : W p l e R s m args below meth c H locs cells slots Q (F0 m pc ls (.ref (ad 10) :: rest)) := by
  subst hv
  obtain ⟨hx, hb, hml, hown, hu⟩ := S
  obtain ⟨hK, hP, hD, hS, hA⟩ := X
  exact va_get (D := (dC, dI)) (ci := 13) (v := .int (gI σ 19)) (C := RX10) (T := TX10) (N := 6) hx hb hu iuX10 hown hK hP 10 rfl rfl 4 (by decide) (hu _ hf) (fun _ h9 => h9) rfl hd k
theorem wfpI_19 {idx : Nat} {v : Int32} (S : CallFix p m c cc nL s args uG own) (X : gX (dC, dI) (tF kc) (wF x q9 ad kc sv sa va) Z A s σ H locs) (hf : Cond.fieldLink own idx "LazyForge$Words" "number" "I" ∈ uG) (hd : decode cc pc = .ok (.putfield idx, 3))
    (k : ∀ (H : Heap) (locs : List Loc), gX (dC, dI) (tF kc) (wF x q9 ad kc sv sa va) Z A s (pI σ 19 v) H locs → W p l e R s m args below meth c H locs cells slots Q (F0 m (pc + 3) ls (rest))) : W p l e R s m args below meth c H locs cells slots Q (F0 m pc ls (.int v :: .ref (ad 10) :: rest)) := by
  obtain ⟨hx, hb, hml, hown, hu⟩ := S
  obtain ⟨hK, hP, hD, hS, hA⟩ := X
  exact va_put (D := (dC, dI)) (ci := 13) (v := .int v) (ty := (tyX10 4)) (C := RX10) (T := TX10) (N := 6) hx hb hu iuX10 tyX10 tyX10_ok nmX10 hown hK hP hD hS 10 rfl rfl 4 (by decide) (hu _ hf) (fun _ h9 => h9) rfl (by decide +kernel) (rfl) (rfl) (Nat.le_of_ble_eq_true rfl) hd (fun H1 locs1 hP1 hD1 hS1 => k H1 locs1 ⟨hK, hP1, hD1, hS1, hA⟩)
theorem wfgJ_0 {idx : Nat} (S : CallFix p m c cc nL s args uG own) (X : gX (dC, dI) (tF kc) (wF x q9 ad kc sv sa va) Z A s σ H locs) (hf : Cond.fieldLink own idx "LazyForge$Words" "name" "J" ∈ uG) {v : Int64} (hv : gJ σ 0 = v) (hd : decode cc pc = .ok (.getfield idx, 3))
    (k : W p l e R s m args below meth c H locs cells slots Q (F0 m (pc + 3) ls (.long v :: rest))) : W p l e R s m args below meth c H locs cells slots Q (F0 m pc ls (.ref (ad 10) :: rest)) := by
  subst hv
  obtain ⟨hx, hb, hml, hown, hu⟩ := S
  obtain ⟨hK, hP, hD, hS, hA⟩ := X
  exact va_get (D := (dC, dI)) (ci := 13) (v := .long (gJ σ 0)) (C := RX10) (T := TX10) (N := 6) hx hb hu iuX10 hown hK hP 10 rfl rfl 5 (by decide) (hu _ hf) (fun _ h9 => h9) rfl hd k
theorem wfpJ_0 {idx : Nat} {v : Int64} (S : CallFix p m c cc nL s args uG own) (X : gX (dC, dI) (tF kc) (wF x q9 ad kc sv sa va) Z A s σ H locs) (hf : Cond.fieldLink own idx "LazyForge$Words" "name" "J" ∈ uG) (hd : decode cc pc = .ok (.putfield idx, 3))
    (k : ∀ (H : Heap) (locs : List Loc), gX (dC, dI) (tF kc) (wF x q9 ad kc sv sa va) Z A s (pJ σ 0 v) H locs → W p l e R s m args below meth c H locs cells slots Q (F0 m (pc + 3) ls (rest))) : W p l e R s m args below meth c H locs cells slots Q (F0 m pc ls (.long v :: .ref (ad 10) :: rest)) := by
  obtain ⟨hx, hb, hml, hown, hu⟩ := S
  obtain ⟨hK, hP, hD, hS, hA⟩ := X
  exact va_put (D := (dC, dI)) (ci := 13) (v := .long v) (ty := (tyX10 5)) (C := RX10) (T := TX10) (N := 6) hx hb hu iuX10 tyX10 tyX10_ok nmX10 hown hK hP hD hS 10 rfl rfl 5 (by decide) (hu _ hf) (fun _ h9 => h9) rfl (by decide +kernel) (rfl) (rfl) (Nat.le_of_ble_eq_true rfl) hd (fun H1 locs1 hP1 hD1 hS1 => k H1 locs1 ⟨hK, hP1, hD1, hS1, hA⟩)
theorem wfgR_11_0 {idx : Nat} (S : CallFix p m c cc nL s args uG own) (X : gX (dC, dI) (tF kc) (wF x q9 ad kc sv sa va) Z A s σ H locs) (hf : Cond.fieldLink own idx "LazyForge$Lifter" "tree" "LLazyForge$Tree;" ∈ uG) (hd : decode cc pc = .ok (.getfield idx, 3))
    (k : W p l e R s m args below meth c H locs cells slots Q (F0 m (pc + 3) ls (.ref (ad 7) :: rest))) : W p l e R s m args below meth c H locs cells slots Q (F0 m pc ls (.ref (ad 11) :: rest)) := by
  obtain ⟨hx, hb, hml, hown, hu⟩ := S
  obtain ⟨hK, hP, hD, hS, hA⟩ := X
  exact va_get (D := (dC, dI)) (ci := 5) (v := .ref (ad 7)) (C := RX2) (T := TX2) (N := 5) hx hb hu iuX2 hown hK hP 11 rfl rfl 0 (by decide) (hu _ hf) (fun _ h9 => h9) rfl hd k
theorem wfgR_11_1 {idx : Nat} (S : CallFix p m c cc nL s args uG own) (X : gX (dC, dI) (tF kc) (wF x q9 ad kc sv sa va) Z A s σ H locs) (hf : Cond.fieldLink own idx "LazyForge$Lifter" "program" "LLazyForge$Program;" ∈ uG) (hd : decode cc pc = .ok (.getfield idx, 3))
    (k : W p l e R s m args below meth c H locs cells slots Q (F0 m (pc + 3) ls (.ref (ad 6) :: rest))) : W p l e R s m args below meth c H locs cells slots Q (F0 m pc ls (.ref (ad 11) :: rest)) := by
  obtain ⟨hx, hb, hml, hown, hu⟩ := S
  obtain ⟨hK, hP, hD, hS, hA⟩ := X
  exact va_get (D := (dC, dI)) (ci := 5) (v := .ref (ad 6)) (C := RX2) (T := TX2) (N := 5) hx hb hu iuX2 hown hK hP 11 rfl rfl 1 (by decide) (hu _ hf) (fun _ h9 => h9) rfl hd k
theorem wfgR_11_2 {idx : Nat} (S : CallFix p m c cc nL s args uG own) (X : gX (dC, dI) (tF kc) (wF x q9 ad kc sv sa va) Z A s σ H locs) (hf : Cond.fieldLink own idx "LazyForge$Lifter" "scopes" "LLazyForge$Scopes;" ∈ uG) (hd : decode cc pc = .ok (.getfield idx, 3))
    (k : W p l e R s m args below meth c H locs cells slots Q (F0 m (pc + 3) ls (.ref (ad 8) :: rest))) : W p l e R s m args below meth c H locs cells slots Q (F0 m pc ls (.ref (ad 11) :: rest)) := by
  obtain ⟨hx, hb, hml, hown, hu⟩ := S
  obtain ⟨hK, hP, hD, hS, hA⟩ := X
  exact va_get (D := (dC, dI)) (ci := 5) (v := .ref (ad 8)) (C := RX2) (T := TX2) (N := 5) hx hb hu iuX2 hown hK hP 11 rfl rfl 2 (by decide) (hu _ hf) (fun _ h9 => h9) rfl hd k
theorem wfgI_20 {idx : Nat} (S : CallFix p m c cc nL s args uG own) (X : gX (dC, dI) (tF kc) (wF x q9 ad kc sv sa va) Z A s σ H locs) (hf : Cond.fieldLink own idx "LazyForge$Lifter" "faultKind" "I" ∈ uG) {v : Int32} (hv : gI σ 20 = v) (hd : decode cc pc = .ok (.getfield idx, 3))
    (k : W p l e R s m args below meth c H locs cells slots Q (F0 m (pc + 3) ls (.int v :: rest))) : W p l e R s m args below meth c H locs cells slots Q (F0 m pc ls (.ref (ad 11) :: rest)) := by
  subst hv
  obtain ⟨hx, hb, hml, hown, hu⟩ := S
  obtain ⟨hK, hP, hD, hS, hA⟩ := X
  exact va_get (D := (dC, dI)) (ci := 5) (v := .int (gI σ 20)) (C := RX2) (T := TX2) (N := 5) hx hb hu iuX2 hown hK hP 11 rfl rfl 3 (by decide) (hu _ hf) (fun _ h9 => h9) rfl hd k
theorem wfpI_20 {idx : Nat} {v : Int32} (S : CallFix p m c cc nL s args uG own) (X : gX (dC, dI) (tF kc) (wF x q9 ad kc sv sa va) Z A s σ H locs) (hf : Cond.fieldLink own idx "LazyForge$Lifter" "faultKind" "I" ∈ uG) (hd : decode cc pc = .ok (.putfield idx, 3))
    (k : ∀ (H : Heap) (locs : List Loc), gX (dC, dI) (tF kc) (wF x q9 ad kc sv sa va) Z A s (pI σ 20 v) H locs → W p l e R s m args below meth c H locs cells slots Q (F0 m (pc + 3) ls (rest))) : W p l e R s m args below meth c H locs cells slots Q (F0 m pc ls (.int v :: .ref (ad 11) :: rest)) := by
  obtain ⟨hx, hb, hml, hown, hu⟩ := S
  obtain ⟨hK, hP, hD, hS, hA⟩ := X
  exact va_put (D := (dC, dI)) (ci := 5) (v := .int v) (ty := (tyX2 3)) (C := RX2) (T := TX2) (N := 5) hx hb hu iuX2 tyX2 tyX2_ok nmX2 hown hK hP hD hS 11 rfl rfl 3 (by decide) (hu _ hf) (fun _ h9 => h9) rfl (by decide +kernel) (rfl) (rfl) (Nat.le_of_ble_eq_true rfl) hd (fun H1 locs1 hP1 hD1 hS1 => k H1 locs1 ⟨hK, hP1, hD1, hS1, hA⟩)
theorem wfgI_21 {idx : Nat} (S : CallFix p m c cc nL s args uG own) (X : gX (dC, dI) (tF kc) (wF x q9 ad kc sv sa va) Z A s σ H locs) (hf : Cond.fieldLink own idx "LazyForge$Lifter" "faultPlace" "I" ∈ uG) {v : Int32} (hv : gI σ 21 = v) (hd : decode cc pc = .ok (.getfield idx, 3))
    (k : W p l e R s m args below meth c H locs cells slots Q (F0 m (pc + 3) ls (.int v :: rest))) : W p l e R s m args below meth c H locs cells slots Q (F0 m pc ls (.ref (ad 11) :: rest)) := by
  subst hv
  obtain ⟨hx, hb, hml, hown, hu⟩ := S
  obtain ⟨hK, hP, hD, hS, hA⟩ := X
  exact va_get (D := (dC, dI)) (ci := 5) (v := .int (gI σ 21)) (C := RX2) (T := TX2) (N := 5) hx hb hu iuX2 hown hK hP 11 rfl rfl 4 (by decide) (hu _ hf) (fun _ h9 => h9) rfl hd k
theorem wfpI_21 {idx : Nat} {v : Int32} (S : CallFix p m c cc nL s args uG own) (X : gX (dC, dI) (tF kc) (wF x q9 ad kc sv sa va) Z A s σ H locs) (hf : Cond.fieldLink own idx "LazyForge$Lifter" "faultPlace" "I" ∈ uG) (hd : decode cc pc = .ok (.putfield idx, 3))
    (k : ∀ (H : Heap) (locs : List Loc), gX (dC, dI) (tF kc) (wF x q9 ad kc sv sa va) Z A s (pI σ 21 v) H locs → W p l e R s m args below meth c H locs cells slots Q (F0 m (pc + 3) ls (rest))) : W p l e R s m args below meth c H locs cells slots Q (F0 m pc ls (.int v :: .ref (ad 11) :: rest)) := by
  obtain ⟨hx, hb, hml, hown, hu⟩ := S
  obtain ⟨hK, hP, hD, hS, hA⟩ := X
  exact va_put (D := (dC, dI)) (ci := 5) (v := .int v) (ty := (tyX2 4)) (C := RX2) (T := TX2) (N := 5) hx hb hu iuX2 tyX2 tyX2_ok nmX2 hown hK hP hD hS 11 rfl rfl 4 (by decide) (hu _ hf) (fun _ h9 => h9) rfl (by decide +kernel) (rfl) (rfl) (Nat.le_of_ble_eq_true rfl) hd (fun H1 locs1 hP1 hD1 hS1 => k H1 locs1 ⟨hK, hP1, hD1, hS1, hA⟩)
theorem wfgR_12_0 {idx : Nat} (S : CallFix p m c cc nL s args uG own) (X : gX (dC, dI) (tF kc) (wF x q9 ad kc sv sa va) Z A s σ H locs) (hf : Cond.fieldLink own idx "LazyForge$Demand" "tree" "LLazyForge$Tree;" ∈ uG) (hd : decode cc pc = .ok (.getfield idx, 3))
    (k : W p l e R s m args below meth c H locs cells slots Q (F0 m (pc + 3) ls (.ref (ad 7) :: rest))) : W p l e R s m args below meth c H locs cells slots Q (F0 m pc ls (.ref (ad 12) :: rest)) := by
  obtain ⟨hx, hb, hml, hown, hu⟩ := S
  obtain ⟨hK, hP, hD, hS, hA⟩ := X
  exact va_get (D := (dC, dI)) (ci := 4) (v := .ref (ad 7)) (C := RX1) (T := TX1) (N := 8) hx hb hu iuX1 hown hK hP 12 rfl rfl 0 (by decide) (hu _ hf) (fun _ h9 => h9) rfl hd k
theorem wfgR_12_1 {idx : Nat} (S : CallFix p m c cc nL s args uG own) (X : gX (dC, dI) (tF kc) (wF x q9 ad kc sv sa va) Z A s σ H locs) (hf : Cond.fieldLink own idx "LazyForge$Demand" "program" "LLazyForge$Program;" ∈ uG) (hd : decode cc pc = .ok (.getfield idx, 3))
    (k : W p l e R s m args below meth c H locs cells slots Q (F0 m (pc + 3) ls (.ref (ad 6) :: rest))) : W p l e R s m args below meth c H locs cells slots Q (F0 m pc ls (.ref (ad 12) :: rest)) := by
  obtain ⟨hx, hb, hml, hown, hu⟩ := S
  obtain ⟨hK, hP, hD, hS, hA⟩ := X
  exact va_get (D := (dC, dI)) (ci := 4) (v := .ref (ad 6)) (C := RX1) (T := TX1) (N := 8) hx hb hu iuX1 hown hK hP 12 rfl rfl 1 (by decide) (hu _ hf) (fun _ h9 => h9) rfl hd k
theorem wfgR_12_2 {idx : Nat} (S : CallFix p m c cc nL s args uG own) (X : gX (dC, dI) (tF kc) (wF x q9 ad kc sv sa va) Z A s σ H locs) (hf : Cond.fieldLink own idx "LazyForge$Demand" "table" "[J" ∈ uG) (hd : decode cc pc = .ok (.getfield idx, 3))
    (k : W p l e R s m args below meth c H locs cells slots Q (F0 m (pc + 3) ls (.ref (ad 50) :: rest))) : W p l e R s m args below meth c H locs cells slots Q (F0 m pc ls (.ref (ad 12) :: rest)) := by
  obtain ⟨hx, hb, hml, hown, hu⟩ := S
  obtain ⟨hK, hP, hD, hS, hA⟩ := X
  exact va_get (D := (dC, dI)) (ci := 4) (v := .ref (ad 50)) (C := RX1) (T := TX1) (N := 8) hx hb hu iuX1 hown hK hP 12 rfl rfl 2 (by decide) (hu _ hf) (fun _ h9 => h9) rfl hd k
theorem wfgR_12_3 {idx : Nat} (S : CallFix p m c cc nL s args uG own) (X : gX (dC, dI) (tF kc) (wF x q9 ad kc sv sa va) Z A s σ H locs) (hf : Cond.fieldLink own idx "LazyForge$Demand" "bits" "[J" ∈ uG) (hd : decode cc pc = .ok (.getfield idx, 3))
    (k : W p l e R s m args below meth c H locs cells slots Q (F0 m (pc + 3) ls (.ref (ad 51) :: rest))) : W p l e R s m args below meth c H locs cells slots Q (F0 m pc ls (.ref (ad 12) :: rest)) := by
  obtain ⟨hx, hb, hml, hown, hu⟩ := S
  obtain ⟨hK, hP, hD, hS, hA⟩ := X
  exact va_get (D := (dC, dI)) (ci := 4) (v := .ref (ad 51)) (C := RX1) (T := TX1) (N := 8) hx hb hu iuX1 hown hK hP 12 rfl rfl 3 (by decide) (hu _ hf) (fun _ h9 => h9) rfl hd k
theorem wfgR_12_4 {idx : Nat} (S : CallFix p m c cc nL s args uG own) (X : gX (dC, dI) (tF kc) (wF x q9 ad kc sv sa va) Z A s σ H locs) (hf : Cond.fieldLink own idx "LazyForge$Demand" "given" "[J" ∈ uG) (hd : decode cc pc = .ok (.getfield idx, 3))
    (k : W p l e R s m args below meth c H locs cells slots Q (F0 m (pc + 3) ls (.ref (ad 52) :: rest))) : W p l e R s m args below meth c H locs cells slots Q (F0 m pc ls (.ref (ad 12) :: rest)) := by
  obtain ⟨hx, hb, hml, hown, hu⟩ := S
  obtain ⟨hK, hP, hD, hS, hA⟩ := X
  exact va_get (D := (dC, dI)) (ci := 4) (v := .ref (ad 52)) (C := RX1) (T := TX1) (N := 8) hx hb hu iuX1 hown hK hP 12 rfl rfl 4 (by decide) (hu _ hf) (fun _ h9 => h9) rfl hd k
theorem wfgI_22 {idx : Nat} (S : CallFix p m c cc nL s args uG own) (X : gX (dC, dI) (tF kc) (wF x q9 ad kc sv sa va) Z A s σ H locs) (hf : Cond.fieldLink own idx "LazyForge$Demand" "givens" "I" ∈ uG) {v : Int32} (hv : gI σ 22 = v) (hd : decode cc pc = .ok (.getfield idx, 3))
    (k : W p l e R s m args below meth c H locs cells slots Q (F0 m (pc + 3) ls (.int v :: rest))) : W p l e R s m args below meth c H locs cells slots Q (F0 m pc ls (.ref (ad 12) :: rest)) := by
  subst hv
  obtain ⟨hx, hb, hml, hown, hu⟩ := S
  obtain ⟨hK, hP, hD, hS, hA⟩ := X
  exact va_get (D := (dC, dI)) (ci := 4) (v := .int (gI σ 22)) (C := RX1) (T := TX1) (N := 8) hx hb hu iuX1 hown hK hP 12 rfl rfl 5 (by decide) (hu _ hf) (fun _ h9 => h9) rfl hd k
theorem wfpI_22 {idx : Nat} {v : Int32} (S : CallFix p m c cc nL s args uG own) (X : gX (dC, dI) (tF kc) (wF x q9 ad kc sv sa va) Z A s σ H locs) (hf : Cond.fieldLink own idx "LazyForge$Demand" "givens" "I" ∈ uG) (hd : decode cc pc = .ok (.putfield idx, 3))
    (k : ∀ (H : Heap) (locs : List Loc), gX (dC, dI) (tF kc) (wF x q9 ad kc sv sa va) Z A s (pI σ 22 v) H locs → W p l e R s m args below meth c H locs cells slots Q (F0 m (pc + 3) ls (rest))) : W p l e R s m args below meth c H locs cells slots Q (F0 m pc ls (.int v :: .ref (ad 12) :: rest)) := by
  obtain ⟨hx, hb, hml, hown, hu⟩ := S
  obtain ⟨hK, hP, hD, hS, hA⟩ := X
  exact va_put (D := (dC, dI)) (ci := 4) (v := .int v) (ty := (tyX1 5)) (C := RX1) (T := TX1) (N := 8) hx hb hu iuX1 tyX1 tyX1_ok nmX1 hown hK hP hD hS 12 rfl rfl 5 (by decide) (hu _ hf) (fun _ h9 => h9) rfl (by decide +kernel) (rfl) (rfl) (Nat.le_of_ble_eq_true rfl) hd (fun H1 locs1 hP1 hD1 hS1 => k H1 locs1 ⟨hK, hP1, hD1, hS1, hA⟩)
theorem wfgI_23 {idx : Nat} (S : CallFix p m c cc nL s args uG own) (X : gX (dC, dI) (tF kc) (wF x q9 ad kc sv sa va) Z A s σ H locs) (hf : Cond.fieldLink own idx "LazyForge$Demand" "lanes" "I" ∈ uG) {v : Int32} (hv : gI σ 23 = v) (hd : decode cc pc = .ok (.getfield idx, 3))
    (k : W p l e R s m args below meth c H locs cells slots Q (F0 m (pc + 3) ls (.int v :: rest))) : W p l e R s m args below meth c H locs cells slots Q (F0 m pc ls (.ref (ad 12) :: rest)) := by
  subst hv
  obtain ⟨hx, hb, hml, hown, hu⟩ := S
  obtain ⟨hK, hP, hD, hS, hA⟩ := X
  exact va_get (D := (dC, dI)) (ci := 4) (v := .int (gI σ 23)) (C := RX1) (T := TX1) (N := 8) hx hb hu iuX1 hown hK hP 12 rfl rfl 6 (by decide) (hu _ hf) (fun _ h9 => h9) rfl hd k
theorem wfpI_23 {idx : Nat} {v : Int32} (S : CallFix p m c cc nL s args uG own) (X : gX (dC, dI) (tF kc) (wF x q9 ad kc sv sa va) Z A s σ H locs) (hf : Cond.fieldLink own idx "LazyForge$Demand" "lanes" "I" ∈ uG) (hd : decode cc pc = .ok (.putfield idx, 3))
    (k : ∀ (H : Heap) (locs : List Loc), gX (dC, dI) (tF kc) (wF x q9 ad kc sv sa va) Z A s (pI σ 23 v) H locs → W p l e R s m args below meth c H locs cells slots Q (F0 m (pc + 3) ls (rest))) : W p l e R s m args below meth c H locs cells slots Q (F0 m pc ls (.int v :: .ref (ad 12) :: rest)) := by
  obtain ⟨hx, hb, hml, hown, hu⟩ := S
  obtain ⟨hK, hP, hD, hS, hA⟩ := X
  exact va_put (D := (dC, dI)) (ci := 4) (v := .int v) (ty := (tyX1 6)) (C := RX1) (T := TX1) (N := 8) hx hb hu iuX1 tyX1 tyX1_ok nmX1 hown hK hP hD hS 12 rfl rfl 6 (by decide) (hu _ hf) (fun _ h9 => h9) rfl (by decide +kernel) (rfl) (rfl) (Nat.le_of_ble_eq_true rfl) hd (fun H1 locs1 hP1 hD1 hS1 => k H1 locs1 ⟨hK, hP1, hD1, hS1, hA⟩)
theorem wfgI_24 {idx : Nat} (S : CallFix p m c cc nL s args uG own) (X : gX (dC, dI) (tF kc) (wF x q9 ad kc sv sa va) Z A s σ H locs) (hf : Cond.fieldLink own idx "LazyForge$Demand" "grown" "Z" ∈ uG) {v : Int32} (hv : gI σ 24 = v) (hd : decode cc pc = .ok (.getfield idx, 3))
    (k : W p l e R s m args below meth c H locs cells slots Q (F0 m (pc + 3) ls (.int v :: rest))) : W p l e R s m args below meth c H locs cells slots Q (F0 m pc ls (.ref (ad 12) :: rest)) := by
  subst hv
  obtain ⟨hx, hb, hml, hown, hu⟩ := S
  obtain ⟨hK, hP, hD, hS, hA⟩ := X
  exact va_get (D := (dC, dI)) (ci := 4) (v := .int (gI σ 24)) (C := RX1) (T := TX1) (N := 8) hx hb hu iuX1 hown hK hP 12 rfl rfl 7 (by decide) (hu _ hf) (fun _ h9 => h9) rfl hd k
theorem wfpI_24 {idx : Nat} {v : Int32} (S : CallFix p m c cc nL s args uG own) (X : gX (dC, dI) (tF kc) (wF x q9 ad kc sv sa va) Z A s σ H locs) (hf : Cond.fieldLink own idx "LazyForge$Demand" "grown" "Z" ∈ uG) (hn : v = 0 ∨ v = 1) (hd : decode cc pc = .ok (.putfield idx, 3))
    (k : ∀ (H : Heap) (locs : List Loc), gX (dC, dI) (tF kc) (wF x q9 ad kc sv sa va) Z A s (pI σ 24 v) H locs → W p l e R s m args below meth c H locs cells slots Q (F0 m (pc + 3) ls (rest))) : W p l e R s m args below meth c H locs cells slots Q (F0 m pc ls (.int v :: .ref (ad 12) :: rest)) := by
  obtain ⟨hx, hb, hml, hown, hu⟩ := S
  obtain ⟨hK, hP, hD, hS, hA⟩ := X
  exact va_put (D := (dC, dI)) (ci := 4) (v := .int v) (ty := (tyX1 7)) (C := RX1) (T := TX1) (N := 8) hx hb hu iuX1 tyX1 tyX1_ok nmX1 hown hK hP hD hS 12 rfl rfl 7 (by decide) (hu _ hf) (fun _ h9 => h9) rfl (by decide +kernel) (by rcases hn with rfl | rfl <;> rfl) (by rcases hn with rfl | rfl <;> rfl) (Nat.le_of_ble_eq_true rfl) hd (fun H1 locs1 hP1 hD1 hS1 => k H1 locs1 ⟨hK, hP1, hD1, hS1, hA⟩)
theorem wfgR_13_0 {idx : Nat} (S : CallFix p m c cc nL s args uG own) (X : gX (dC, dI) (tF kc) (wF x q9 ad kc sv sa va) Z A s σ H locs) (hf : Cond.fieldLink own idx "LazyForge$Scribe" "tree" "LLazyForge$Tree;" ∈ uG) (hd : decode cc pc = .ok (.getfield idx, 3))
    (k : W p l e R s m args below meth c H locs cells slots Q (F0 m (pc + 3) ls (.ref (ad 7) :: rest))) : W p l e R s m args below meth c H locs cells slots Q (F0 m pc ls (.ref (ad 13) :: rest)) := by
  obtain ⟨hx, hb, hml, hown, hu⟩ := S
  obtain ⟨hK, hP, hD, hS, hA⟩ := X
  exact va_get (D := (dC, dI)) (ci := 10) (v := .ref (ad 7)) (C := RX7) (T := TX7) (N := 3) hx hb hu iuX7 hown hK hP 13 rfl rfl 0 (by decide) (hu _ hf) (fun _ h9 => h9) rfl hd k
theorem wfgR_13_1 {idx : Nat} (S : CallFix p m c cc nL s args uG own) (X : gX (dC, dI) (tF kc) (wF x q9 ad kc sv sa va) Z A s σ H locs) (hf : Cond.fieldLink own idx "LazyForge$Scribe" "program" "LLazyForge$Program;" ∈ uG) (hd : decode cc pc = .ok (.getfield idx, 3))
    (k : W p l e R s m args below meth c H locs cells slots Q (F0 m (pc + 3) ls (.ref (ad 6) :: rest))) : W p l e R s m args below meth c H locs cells slots Q (F0 m pc ls (.ref (ad 13) :: rest)) := by
  obtain ⟨hx, hb, hml, hown, hu⟩ := S
  obtain ⟨hK, hP, hD, hS, hA⟩ := X
  exact va_get (D := (dC, dI)) (ci := 10) (v := .ref (ad 6)) (C := RX7) (T := TX7) (N := 3) hx hb hu iuX7 hown hK hP 13 rfl rfl 1 (by decide) (hu _ hf) (fun _ h9 => h9) rfl hd k
theorem wfgR_13_2 {idx : Nat} (S : CallFix p m c cc nL s args uG own) (X : gX (dC, dI) (tF kc) (wF x q9 ad kc sv sa va) Z A s σ H locs) (hf : Cond.fieldLink own idx "LazyForge$Scribe" "sheet" "LLazyForge$Signs;" ∈ uG) (hv : gN σ 9 = 1) (hd : decode cc pc = .ok (.getfield idx, 3))
    (k : W p l e R s m args below meth c H locs cells slots Q (F0 m (pc + 3) ls (.ref (ad 5) :: rest))) : W p l e R s m args below meth c H locs cells slots Q (F0 m pc ls (.ref (ad 13) :: rest)) := by
  obtain ⟨hx, hb, hml, hown, hu⟩ := S
  obtain ⟨hK, hP, hD, hS, hA⟩ := X
  exact va_get (D := (dC, dI)) (ci := 10) (v := .ref (ad 5)) (C := RX7) (T := TX7) (N := 3) hx hb hu iuX7 hown hK hP 13 rfl rfl 2 (by decide) (hu _ hf) (fun _ h9 => h9) (show some (cond (Nat.beq (gN σ 9) 1) (.ref (ad 5)) sv) = some (.ref (ad 5)) by rw [hv]; rfl) hd k
theorem wfpN_9 {idx : Nat} (S : CallFix p m c cc nL s args uG own) (X : gX (dC, dI) (tF kc) (wF x q9 ad kc sv sa va) Z A s σ H locs) (hf : Cond.fieldLink own idx "LazyForge$Scribe" "sheet" "LLazyForge$Signs;" ∈ uG) (hd : decode cc pc = .ok (.putfield idx, 3))
    (k : ∀ (H : Heap) (locs : List Loc), gX (dC, dI) (tF kc) (wF x q9 ad kc sv sa va) Z A s (pN σ 9 1) H locs → W p l e R s m args below meth c H locs cells slots Q (F0 m (pc + 3) ls (rest))) : W p l e R s m args below meth c H locs cells slots Q (F0 m pc ls (.ref (ad 5) :: .ref (ad 13) :: rest)) := by
  obtain ⟨hx, hb, hml, hown, hu⟩ := S
  obtain ⟨hK, hP, hD, hS, hA⟩ := X
  exact va_put (D := (dC, dI)) (ci := 10) (v := .ref (ad 5)) (ty := (tyX7 2)) (C := RX7) (T := TX7) (N := 3) hx hb hu iuX7 tyX7 tyX7_ok nmX7 hown hK hP hD hS 13 rfl rfl 2 (by decide) (hu _ hf) (fun _ h9 => h9) rfl (by decide +kernel) (rfl) (rfl) (Nat.le_of_ble_eq_true rfl) hd (fun H1 locs1 hP1 hD1 hS1 => k H1 locs1 ⟨hK, hP1, hD1, hS1, hA⟩)
theorem wflA_0 {i : Int32} {v : Int32} (S : CallFix p m c cc nL s args uG own) (X : gX (dC, dI) (tF kc) (wF x q9 ad kc sv sa va) Z A s σ H locs) (hi : vp_in i 3000) (hv : xA σ 0 i = v) (hd : decode cc pc = .ok (.baload, 1))
    (k : W p l e R s m args below meth c H locs cells slots Q (F0 m (pc + 1) ls (.int v :: rest))) : W p l e R s m args below meth c H locs cells slots Q (F0 m pc ls (.int i :: .ref (ad 14) :: rest)) := by
  subst hv
  obtain ⟨hx, hb, hml, hown, hu⟩ := S
  obtain ⟨hK, hP, hD, hS, hA⟩ := X
  exact va_bald hx hb hK hP 14 2 rfl rfl hi hd k
theorem wfsA_0 {i : Int32} {v : Int32} (S : CallFix p m c cc nL s args uG own) (X : gX (dC, dI) (tF kc) (wF x q9 ad kc sv sa va) Z A s σ H locs) (hi : vp_in i 3000) (hd : decode cc pc = .ok (.bastore, 1))
    (k : ∀ (H : Heap) (locs : List Loc), gX (dC, dI) (tF kc) (wF x q9 ad kc sv sa va) Z A s (pA σ 0 i (vp_nar .byte v)) H locs → W p l e R s m args below meth c H locs cells slots Q (F0 m (pc + 1) ls (rest))) : W p l e R s m args below meth c H locs cells slots Q (F0 m pc ls (.int v :: .int i :: .ref (ad 14) :: rest)) := by
  obtain ⟨hx, hb, hml, hown, hu⟩ := S
  obtain ⟨hK, hP, hD, hS, hA⟩ := X
  exact va_bast hx hb hK hP hD hS 14 2 rfl rfl hi hd (fun H1 locs1 hP1 hD1 hS1 => k H1 locs1 ⟨hK, hP1, hD1, hS1, hA⟩)
theorem wfnA_0 (S : CallFix p m c cc nL s args uG own) (X : gX (dC, dI) (tF kc) (wF x q9 ad kc sv sa va) Z A s σ H locs) (hd : decode cc pc = .ok (.arraylength, 1))
    (k : W p l e R s m args below meth c H locs cells slots Q (F0 m (pc + 1) ls (.int 3000 :: rest))) : W p l e R s m args below meth c H locs cells slots Q (F0 m pc ls (.ref (ad 14) :: rest)) := by
  obtain ⟨hx, hb, hml, hown, hu⟩ := S
  obtain ⟨hK, hP, hD, hS, hA⟩ := X
  exact va_alen (v := 3000) hx hb hK hP 14 2 rfl rfl (show Int32.ofNat 3000 = 3000 by decide) hd k
theorem wflA_1 {i : Int32} {v : Int32} (S : CallFix p m c cc nL s args uG own) (X : gX (dC, dI) (tF kc) (wF x q9 ad kc sv sa va) Z A s σ H locs) (hi : vp_in i 12000) (hv : xA σ 1 i = v) (hd : decode cc pc = .ok (.baload, 1))
    (k : W p l e R s m args below meth c H locs cells slots Q (F0 m (pc + 1) ls (.int v :: rest))) : W p l e R s m args below meth c H locs cells slots Q (F0 m pc ls (.int i :: .ref (ad 15) :: rest)) := by
  subst hv
  obtain ⟨hx, hb, hml, hown, hu⟩ := S
  obtain ⟨hK, hP, hD, hS, hA⟩ := X
  exact va_bald hx hb hK hP 15 3 rfl rfl hi hd k
theorem wfsA_1 {i : Int32} {v : Int32} (S : CallFix p m c cc nL s args uG own) (X : gX (dC, dI) (tF kc) (wF x q9 ad kc sv sa va) Z A s σ H locs) (hi : vp_in i 12000) (hd : decode cc pc = .ok (.bastore, 1))
    (k : ∀ (H : Heap) (locs : List Loc), gX (dC, dI) (tF kc) (wF x q9 ad kc sv sa va) Z A s (pA σ 1 i (vp_nar .byte v)) H locs → W p l e R s m args below meth c H locs cells slots Q (F0 m (pc + 1) ls (rest))) : W p l e R s m args below meth c H locs cells slots Q (F0 m pc ls (.int v :: .int i :: .ref (ad 15) :: rest)) := by
  obtain ⟨hx, hb, hml, hown, hu⟩ := S
  obtain ⟨hK, hP, hD, hS, hA⟩ := X
  exact va_bast hx hb hK hP hD hS 15 3 rfl rfl hi hd (fun H1 locs1 hP1 hD1 hS1 => k H1 locs1 ⟨hK, hP1, hD1, hS1, hA⟩)
theorem wfnA_1 (S : CallFix p m c cc nL s args uG own) (X : gX (dC, dI) (tF kc) (wF x q9 ad kc sv sa va) Z A s σ H locs) (hd : decode cc pc = .ok (.arraylength, 1))
    (k : W p l e R s m args below meth c H locs cells slots Q (F0 m (pc + 1) ls (.int 12000 :: rest))) : W p l e R s m args below meth c H locs cells slots Q (F0 m pc ls (.ref (ad 15) :: rest)) := by
  obtain ⟨hx, hb, hml, hown, hu⟩ := S
  obtain ⟨hK, hP, hD, hS, hA⟩ := X
  exact va_alen (v := 12000) hx hb hK hP 15 3 rfl rfl (show Int32.ofNat 12000 = 12000 by decide) hd k
theorem wflB_0 {i : Int32} {v : Int64} (S : CallFix p m c cc nL s args uG own) (X : gX (dC, dI) (tF kc) (wF x q9 ad kc sv sa va) Z A s σ H locs) (hi : vp_in i 30) (hv : xB σ 0 i = v) (hd : decode cc pc = .ok (.laload, 1))
    (k : W p l e R s m args below meth c H locs cells slots Q (F0 m (pc + 1) ls (.long v :: rest))) : W p l e R s m args below meth c H locs cells slots Q (F0 m pc ls (.int i :: .ref (ad 16) :: rest)) := by
  subst hv
  obtain ⟨hx, hb, hml, hown, hu⟩ := S
  obtain ⟨hK, hP, hD, hS, hA⟩ := X
  exact va_lald hx hb hK hP 16 4 rfl rfl hi hd k
theorem wfsB_0 {i : Int32} {v : Int64} (S : CallFix p m c cc nL s args uG own) (X : gX (dC, dI) (tF kc) (wF x q9 ad kc sv sa va) Z A s σ H locs) (hi : vp_in i 30) (hd : decode cc pc = .ok (.lastore, 1))
    (k : ∀ (H : Heap) (locs : List Loc), gX (dC, dI) (tF kc) (wF x q9 ad kc sv sa va) Z A s (pB σ 0 i v) H locs → W p l e R s m args below meth c H locs cells slots Q (F0 m (pc + 1) ls (rest))) : W p l e R s m args below meth c H locs cells slots Q (F0 m pc ls (.long v :: .int i :: .ref (ad 16) :: rest)) := by
  obtain ⟨hx, hb, hml, hown, hu⟩ := S
  obtain ⟨hK, hP, hD, hS, hA⟩ := X
  exact va_last hx hb hK hP hD hS 16 4 rfl rfl hi hd (fun H1 locs1 hP1 hD1 hS1 => k H1 locs1 ⟨hK, hP1, hD1, hS1, hA⟩)
theorem wfnB_0 (S : CallFix p m c cc nL s args uG own) (X : gX (dC, dI) (tF kc) (wF x q9 ad kc sv sa va) Z A s σ H locs) (hd : decode cc pc = .ok (.arraylength, 1))
    (k : W p l e R s m args below meth c H locs cells slots Q (F0 m (pc + 1) ls (.int 30 :: rest))) : W p l e R s m args below meth c H locs cells slots Q (F0 m pc ls (.ref (ad 16) :: rest)) := by
  obtain ⟨hx, hb, hml, hown, hu⟩ := S
  obtain ⟨hK, hP, hD, hS, hA⟩ := X
  exact va_alen (v := 30) hx hb hK hP 16 4 rfl rfl (show Int32.ofNat 30 = 30 by decide) hd k
theorem wflA_2 {i : Int32} {v : Int32} (S : CallFix p m c cc nL s args uG own) (X : gX (dC, dI) (tF kc) (wF x q9 ad kc sv sa va) Z A s σ H locs) (hi : vp_in i 30) (hv : xA σ 2 i = v) (hd : decode cc pc = .ok (.iaload, 1))
    (k : W p l e R s m args below meth c H locs cells slots Q (F0 m (pc + 1) ls (.int v :: rest))) : W p l e R s m args below meth c H locs cells slots Q (F0 m pc ls (.int i :: .ref (ad 17) :: rest)) := by
  subst hv
  obtain ⟨hx, hb, hml, hown, hu⟩ := S
  obtain ⟨hK, hP, hD, hS, hA⟩ := X
  exact va_iald hx hb hK hP 17 5 rfl rfl hi hd k
theorem wfsA_2 {i : Int32} {v : Int32} (S : CallFix p m c cc nL s args uG own) (X : gX (dC, dI) (tF kc) (wF x q9 ad kc sv sa va) Z A s σ H locs) (hi : vp_in i 30) (hd : decode cc pc = .ok (.iastore, 1))
    (k : ∀ (H : Heap) (locs : List Loc), gX (dC, dI) (tF kc) (wF x q9 ad kc sv sa va) Z A s (pA σ 2 i v) H locs → W p l e R s m args below meth c H locs cells slots Q (F0 m (pc + 1) ls (rest))) : W p l e R s m args below meth c H locs cells slots Q (F0 m pc ls (.int v :: .int i :: .ref (ad 17) :: rest)) := by
  obtain ⟨hx, hb, hml, hown, hu⟩ := S
  obtain ⟨hK, hP, hD, hS, hA⟩ := X
  exact va_iast hx hb hK hP hD hS 17 5 rfl rfl hi hd (fun H1 locs1 hP1 hD1 hS1 => k H1 locs1 ⟨hK, hP1, hD1, hS1, hA⟩)
theorem wfnA_2 (S : CallFix p m c cc nL s args uG own) (X : gX (dC, dI) (tF kc) (wF x q9 ad kc sv sa va) Z A s σ H locs) (hd : decode cc pc = .ok (.arraylength, 1))
    (k : W p l e R s m args below meth c H locs cells slots Q (F0 m (pc + 1) ls (.int 30 :: rest))) : W p l e R s m args below meth c H locs cells slots Q (F0 m pc ls (.ref (ad 17) :: rest)) := by
  obtain ⟨hx, hb, hml, hown, hu⟩ := S
  obtain ⟨hK, hP, hD, hS, hA⟩ := X
  exact va_alen (v := 30) hx hb hK hP 17 5 rfl rfl (show Int32.ofNat 30 = 30 by decide) hd k
theorem wflB_1 {i : Int32} {v : Int64} (S : CallFix p m c cc nL s args uG own) (X : gX (dC, dI) (tF kc) (wF x q9 ad kc sv sa va) Z A s σ H locs) (hi : vp_in i 30) (hv : xB σ 1 i = v) (hd : decode cc pc = .ok (.laload, 1))
    (k : W p l e R s m args below meth c H locs cells slots Q (F0 m (pc + 1) ls (.long v :: rest))) : W p l e R s m args below meth c H locs cells slots Q (F0 m pc ls (.int i :: .ref (ad 18) :: rest)) := by
  subst hv
  obtain ⟨hx, hb, hml, hown, hu⟩ := S
  obtain ⟨hK, hP, hD, hS, hA⟩ := X
  exact va_lald hx hb hK hP 18 6 rfl rfl hi hd k
theorem wfsB_1 {i : Int32} {v : Int64} (S : CallFix p m c cc nL s args uG own) (X : gX (dC, dI) (tF kc) (wF x q9 ad kc sv sa va) Z A s σ H locs) (hi : vp_in i 30) (hd : decode cc pc = .ok (.lastore, 1))
    (k : ∀ (H : Heap) (locs : List Loc), gX (dC, dI) (tF kc) (wF x q9 ad kc sv sa va) Z A s (pB σ 1 i v) H locs → W p l e R s m args below meth c H locs cells slots Q (F0 m (pc + 1) ls (rest))) : W p l e R s m args below meth c H locs cells slots Q (F0 m pc ls (.long v :: .int i :: .ref (ad 18) :: rest)) := by
  obtain ⟨hx, hb, hml, hown, hu⟩ := S
  obtain ⟨hK, hP, hD, hS, hA⟩ := X
  exact va_last hx hb hK hP hD hS 18 6 rfl rfl hi hd (fun H1 locs1 hP1 hD1 hS1 => k H1 locs1 ⟨hK, hP1, hD1, hS1, hA⟩)
theorem wfnB_1 (S : CallFix p m c cc nL s args uG own) (X : gX (dC, dI) (tF kc) (wF x q9 ad kc sv sa va) Z A s σ H locs) (hd : decode cc pc = .ok (.arraylength, 1))
    (k : W p l e R s m args below meth c H locs cells slots Q (F0 m (pc + 1) ls (.int 30 :: rest))) : W p l e R s m args below meth c H locs cells slots Q (F0 m pc ls (.ref (ad 18) :: rest)) := by
  obtain ⟨hx, hb, hml, hown, hu⟩ := S
  obtain ⟨hK, hP, hD, hS, hA⟩ := X
  exact va_alen (v := 30) hx hb hK hP 18 6 rfl rfl (show Int32.ofNat 30 = 30 by decide) hd k
theorem wflA_3 {i : Int32} {v : Int32} (S : CallFix p m c cc nL s args uG own) (X : gX (dC, dI) (tF kc) (wF x q9 ad kc sv sa va) Z A s σ H locs) (hi : vp_in i 630) (hv : xA σ 3 i = v) (hd : decode cc pc = .ok (.iaload, 1))
    (k : W p l e R s m args below meth c H locs cells slots Q (F0 m (pc + 1) ls (.int v :: rest))) : W p l e R s m args below meth c H locs cells slots Q (F0 m pc ls (.int i :: .ref (ad 19) :: rest)) := by
  subst hv
  obtain ⟨hx, hb, hml, hown, hu⟩ := S
  obtain ⟨hK, hP, hD, hS, hA⟩ := X
  exact va_iald hx hb hK hP 19 7 rfl rfl hi hd k
theorem wfsA_3 {i : Int32} {v : Int32} (S : CallFix p m c cc nL s args uG own) (X : gX (dC, dI) (tF kc) (wF x q9 ad kc sv sa va) Z A s σ H locs) (hi : vp_in i 630) (hd : decode cc pc = .ok (.iastore, 1))
    (k : ∀ (H : Heap) (locs : List Loc), gX (dC, dI) (tF kc) (wF x q9 ad kc sv sa va) Z A s (pA σ 3 i v) H locs → W p l e R s m args below meth c H locs cells slots Q (F0 m (pc + 1) ls (rest))) : W p l e R s m args below meth c H locs cells slots Q (F0 m pc ls (.int v :: .int i :: .ref (ad 19) :: rest)) := by
  obtain ⟨hx, hb, hml, hown, hu⟩ := S
  obtain ⟨hK, hP, hD, hS, hA⟩ := X
  exact va_iast hx hb hK hP hD hS 19 7 rfl rfl hi hd (fun H1 locs1 hP1 hD1 hS1 => k H1 locs1 ⟨hK, hP1, hD1, hS1, hA⟩)
theorem wfnA_3 (S : CallFix p m c cc nL s args uG own) (X : gX (dC, dI) (tF kc) (wF x q9 ad kc sv sa va) Z A s σ H locs) (hd : decode cc pc = .ok (.arraylength, 1))
    (k : W p l e R s m args below meth c H locs cells slots Q (F0 m (pc + 1) ls (.int 630 :: rest))) : W p l e R s m args below meth c H locs cells slots Q (F0 m pc ls (.ref (ad 19) :: rest)) := by
  obtain ⟨hx, hb, hml, hown, hu⟩ := S
  obtain ⟨hK, hP, hD, hS, hA⟩ := X
  exact va_alen (v := 630) hx hb hK hP 19 7 rfl rfl (show Int32.ofNat 630 = 630 by decide) hd k
theorem wflA_4 {i : Int32} {v : Int32} (S : CallFix p m c cc nL s args uG own) (X : gX (dC, dI) (tF kc) (wF x q9 ad kc sv sa va) Z A s σ H locs) (hi : vp_in i 630) (hv : xA σ 4 i = v) (hd : decode cc pc = .ok (.iaload, 1))
    (k : W p l e R s m args below meth c H locs cells slots Q (F0 m (pc + 1) ls (.int v :: rest))) : W p l e R s m args below meth c H locs cells slots Q (F0 m pc ls (.int i :: .ref (ad 20) :: rest)) := by
  subst hv
  obtain ⟨hx, hb, hml, hown, hu⟩ := S
  obtain ⟨hK, hP, hD, hS, hA⟩ := X
  exact va_iald hx hb hK hP 20 8 rfl rfl hi hd k
theorem wfsA_4 {i : Int32} {v : Int32} (S : CallFix p m c cc nL s args uG own) (X : gX (dC, dI) (tF kc) (wF x q9 ad kc sv sa va) Z A s σ H locs) (hi : vp_in i 630) (hd : decode cc pc = .ok (.iastore, 1))
    (k : ∀ (H : Heap) (locs : List Loc), gX (dC, dI) (tF kc) (wF x q9 ad kc sv sa va) Z A s (pA σ 4 i v) H locs → W p l e R s m args below meth c H locs cells slots Q (F0 m (pc + 1) ls (rest))) : W p l e R s m args below meth c H locs cells slots Q (F0 m pc ls (.int v :: .int i :: .ref (ad 20) :: rest)) := by
  obtain ⟨hx, hb, hml, hown, hu⟩ := S
  obtain ⟨hK, hP, hD, hS, hA⟩ := X
  exact va_iast hx hb hK hP hD hS 20 8 rfl rfl hi hd (fun H1 locs1 hP1 hD1 hS1 => k H1 locs1 ⟨hK, hP1, hD1, hS1, hA⟩)
theorem wfnA_4 (S : CallFix p m c cc nL s args uG own) (X : gX (dC, dI) (tF kc) (wF x q9 ad kc sv sa va) Z A s σ H locs) (hd : decode cc pc = .ok (.arraylength, 1))
    (k : W p l e R s m args below meth c H locs cells slots Q (F0 m (pc + 1) ls (.int 630 :: rest))) : W p l e R s m args below meth c H locs cells slots Q (F0 m pc ls (.ref (ad 20) :: rest)) := by
  obtain ⟨hx, hb, hml, hown, hu⟩ := S
  obtain ⟨hK, hP, hD, hS, hA⟩ := X
  exact va_alen (v := 630) hx hb hK hP 20 8 rfl rfl (show Int32.ofNat 630 = 630 by decide) hd k
theorem wflA_5 {i : Int32} {v : Int32} (S : CallFix p m c cc nL s args uG own) (X : gX (dC, dI) (tF kc) (wF x q9 ad kc sv sa va) Z A s σ H locs) (hi : vp_in i 5040) (hv : xA σ 5 i = v) (hd : decode cc pc = .ok (.iaload, 1))
    (k : W p l e R s m args below meth c H locs cells slots Q (F0 m (pc + 1) ls (.int v :: rest))) : W p l e R s m args below meth c H locs cells slots Q (F0 m pc ls (.int i :: .ref (ad 21) :: rest)) := by
  subst hv
  obtain ⟨hx, hb, hml, hown, hu⟩ := S
  obtain ⟨hK, hP, hD, hS, hA⟩ := X
  exact va_iald hx hb hK hP 21 9 rfl rfl hi hd k
theorem wfsA_5 {i : Int32} {v : Int32} (S : CallFix p m c cc nL s args uG own) (X : gX (dC, dI) (tF kc) (wF x q9 ad kc sv sa va) Z A s σ H locs) (hi : vp_in i 5040) (hd : decode cc pc = .ok (.iastore, 1))
    (k : ∀ (H : Heap) (locs : List Loc), gX (dC, dI) (tF kc) (wF x q9 ad kc sv sa va) Z A s (pA σ 5 i v) H locs → W p l e R s m args below meth c H locs cells slots Q (F0 m (pc + 1) ls (rest))) : W p l e R s m args below meth c H locs cells slots Q (F0 m pc ls (.int v :: .int i :: .ref (ad 21) :: rest)) := by
  obtain ⟨hx, hb, hml, hown, hu⟩ := S
  obtain ⟨hK, hP, hD, hS, hA⟩ := X
  exact va_iast hx hb hK hP hD hS 21 9 rfl rfl hi hd (fun H1 locs1 hP1 hD1 hS1 => k H1 locs1 ⟨hK, hP1, hD1, hS1, hA⟩)
theorem wfnA_5 (S : CallFix p m c cc nL s args uG own) (X : gX (dC, dI) (tF kc) (wF x q9 ad kc sv sa va) Z A s σ H locs) (hd : decode cc pc = .ok (.arraylength, 1))
    (k : W p l e R s m args below meth c H locs cells slots Q (F0 m (pc + 1) ls (.int 5040 :: rest))) : W p l e R s m args below meth c H locs cells slots Q (F0 m pc ls (.ref (ad 21) :: rest)) := by
  obtain ⟨hx, hb, hml, hown, hu⟩ := S
  obtain ⟨hK, hP, hD, hS, hA⟩ := X
  exact va_alen (v := 5040) hx hb hK hP 21 9 rfl rfl (show Int32.ofNat 5040 = 5040 by decide) hd k
theorem wflA_6 {i : Int32} {v : Int32} (S : CallFix p m c cc nL s args uG own) (X : gX (dC, dI) (tF kc) (wF x q9 ad kc sv sa va) Z A s σ H locs) (hi : vp_in i 630) (hv : xA σ 6 i = v) (hd : decode cc pc = .ok (.iaload, 1))
    (k : W p l e R s m args below meth c H locs cells slots Q (F0 m (pc + 1) ls (.int v :: rest))) : W p l e R s m args below meth c H locs cells slots Q (F0 m pc ls (.int i :: .ref (ad 22) :: rest)) := by
  subst hv
  obtain ⟨hx, hb, hml, hown, hu⟩ := S
  obtain ⟨hK, hP, hD, hS, hA⟩ := X
  exact va_iald hx hb hK hP 22 10 rfl rfl hi hd k
theorem wfsA_6 {i : Int32} {v : Int32} (S : CallFix p m c cc nL s args uG own) (X : gX (dC, dI) (tF kc) (wF x q9 ad kc sv sa va) Z A s σ H locs) (hi : vp_in i 630) (hd : decode cc pc = .ok (.iastore, 1))
    (k : ∀ (H : Heap) (locs : List Loc), gX (dC, dI) (tF kc) (wF x q9 ad kc sv sa va) Z A s (pA σ 6 i v) H locs → W p l e R s m args below meth c H locs cells slots Q (F0 m (pc + 1) ls (rest))) : W p l e R s m args below meth c H locs cells slots Q (F0 m pc ls (.int v :: .int i :: .ref (ad 22) :: rest)) := by
  obtain ⟨hx, hb, hml, hown, hu⟩ := S
  obtain ⟨hK, hP, hD, hS, hA⟩ := X
  exact va_iast hx hb hK hP hD hS 22 10 rfl rfl hi hd (fun H1 locs1 hP1 hD1 hS1 => k H1 locs1 ⟨hK, hP1, hD1, hS1, hA⟩)
theorem wfnA_6 (S : CallFix p m c cc nL s args uG own) (X : gX (dC, dI) (tF kc) (wF x q9 ad kc sv sa va) Z A s σ H locs) (hd : decode cc pc = .ok (.arraylength, 1))
    (k : W p l e R s m args below meth c H locs cells slots Q (F0 m (pc + 1) ls (.int 630 :: rest))) : W p l e R s m args below meth c H locs cells slots Q (F0 m pc ls (.ref (ad 22) :: rest)) := by
  obtain ⟨hx, hb, hml, hown, hu⟩ := S
  obtain ⟨hK, hP, hD, hS, hA⟩ := X
  exact va_alen (v := 630) hx hb hK hP 22 10 rfl rfl (show Int32.ofNat 630 = 630 by decide) hd k
theorem wflA_7 {i : Int32} {v : Int32} (S : CallFix p m c cc nL s args uG own) (X : gX (dC, dI) (tF kc) (wF x q9 ad kc sv sa va) Z A s σ H locs) (hi : vp_in i 630) (hv : xA σ 7 i = v) (hd : decode cc pc = .ok (.iaload, 1))
    (k : W p l e R s m args below meth c H locs cells slots Q (F0 m (pc + 1) ls (.int v :: rest))) : W p l e R s m args below meth c H locs cells slots Q (F0 m pc ls (.int i :: .ref (ad 23) :: rest)) := by
  subst hv
  obtain ⟨hx, hb, hml, hown, hu⟩ := S
  obtain ⟨hK, hP, hD, hS, hA⟩ := X
  exact va_iald hx hb hK hP 23 11 rfl rfl hi hd k
theorem wfsA_7 {i : Int32} {v : Int32} (S : CallFix p m c cc nL s args uG own) (X : gX (dC, dI) (tF kc) (wF x q9 ad kc sv sa va) Z A s σ H locs) (hi : vp_in i 630) (hd : decode cc pc = .ok (.iastore, 1))
    (k : ∀ (H : Heap) (locs : List Loc), gX (dC, dI) (tF kc) (wF x q9 ad kc sv sa va) Z A s (pA σ 7 i v) H locs → W p l e R s m args below meth c H locs cells slots Q (F0 m (pc + 1) ls (rest))) : W p l e R s m args below meth c H locs cells slots Q (F0 m pc ls (.int v :: .int i :: .ref (ad 23) :: rest)) := by
  obtain ⟨hx, hb, hml, hown, hu⟩ := S
  obtain ⟨hK, hP, hD, hS, hA⟩ := X
  exact va_iast hx hb hK hP hD hS 23 11 rfl rfl hi hd (fun H1 locs1 hP1 hD1 hS1 => k H1 locs1 ⟨hK, hP1, hD1, hS1, hA⟩)
theorem wfnA_7 (S : CallFix p m c cc nL s args uG own) (X : gX (dC, dI) (tF kc) (wF x q9 ad kc sv sa va) Z A s σ H locs) (hd : decode cc pc = .ok (.arraylength, 1))
    (k : W p l e R s m args below meth c H locs cells slots Q (F0 m (pc + 1) ls (.int 630 :: rest))) : W p l e R s m args below meth c H locs cells slots Q (F0 m pc ls (.ref (ad 23) :: rest)) := by
  obtain ⟨hx, hb, hml, hown, hu⟩ := S
  obtain ⟨hK, hP, hD, hS, hA⟩ := X
  exact va_alen (v := 630) hx hb hK hP 23 11 rfl rfl (show Int32.ofNat 630 = 630 by decide) hd k
theorem wflA_8 {i : Int32} {v : Int32} (S : CallFix p m c cc nL s args uG own) (X : gX (dC, dI) (tF kc) (wF x q9 ad kc sv sa va) Z A s σ H locs) (hi : vp_in i 630) (hv : xA σ 8 i = v) (hd : decode cc pc = .ok (.iaload, 1))
    (k : W p l e R s m args below meth c H locs cells slots Q (F0 m (pc + 1) ls (.int v :: rest))) : W p l e R s m args below meth c H locs cells slots Q (F0 m pc ls (.int i :: .ref (ad 24) :: rest)) := by
  subst hv
  obtain ⟨hx, hb, hml, hown, hu⟩ := S
  obtain ⟨hK, hP, hD, hS, hA⟩ := X
  exact va_iald hx hb hK hP 24 12 rfl rfl hi hd k
theorem wfsA_8 {i : Int32} {v : Int32} (S : CallFix p m c cc nL s args uG own) (X : gX (dC, dI) (tF kc) (wF x q9 ad kc sv sa va) Z A s σ H locs) (hi : vp_in i 630) (hd : decode cc pc = .ok (.iastore, 1))
    (k : ∀ (H : Heap) (locs : List Loc), gX (dC, dI) (tF kc) (wF x q9 ad kc sv sa va) Z A s (pA σ 8 i v) H locs → W p l e R s m args below meth c H locs cells slots Q (F0 m (pc + 1) ls (rest))) : W p l e R s m args below meth c H locs cells slots Q (F0 m pc ls (.int v :: .int i :: .ref (ad 24) :: rest)) := by
  obtain ⟨hx, hb, hml, hown, hu⟩ := S
  obtain ⟨hK, hP, hD, hS, hA⟩ := X
  exact va_iast hx hb hK hP hD hS 24 12 rfl rfl hi hd (fun H1 locs1 hP1 hD1 hS1 => k H1 locs1 ⟨hK, hP1, hD1, hS1, hA⟩)
theorem wfnA_8 (S : CallFix p m c cc nL s args uG own) (X : gX (dC, dI) (tF kc) (wF x q9 ad kc sv sa va) Z A s σ H locs) (hd : decode cc pc = .ok (.arraylength, 1))
    (k : W p l e R s m args below meth c H locs cells slots Q (F0 m (pc + 1) ls (.int 630 :: rest))) : W p l e R s m args below meth c H locs cells slots Q (F0 m pc ls (.ref (ad 24) :: rest)) := by
  obtain ⟨hx, hb, hml, hown, hu⟩ := S
  obtain ⟨hK, hP, hD, hS, hA⟩ := X
  exact va_alen (v := 630) hx hb hK hP 24 12 rfl rfl (show Int32.ofNat 630 = 630 by decide) hd k
theorem wflA_9 {i : Int32} {v : Int32} (S : CallFix p m c cc nL s args uG own) (X : gX (dC, dI) (tF kc) (wF x q9 ad kc sv sa va) Z A s σ H locs) (hi : vp_in i 630) (hv : xA σ 9 i = v) (hd : decode cc pc = .ok (.iaload, 1))
    (k : W p l e R s m args below meth c H locs cells slots Q (F0 m (pc + 1) ls (.int v :: rest))) : W p l e R s m args below meth c H locs cells slots Q (F0 m pc ls (.int i :: .ref (ad 25) :: rest)) := by
  subst hv
  obtain ⟨hx, hb, hml, hown, hu⟩ := S
  obtain ⟨hK, hP, hD, hS, hA⟩ := X
  exact va_iald hx hb hK hP 25 13 rfl rfl hi hd k
theorem wfsA_9 {i : Int32} {v : Int32} (S : CallFix p m c cc nL s args uG own) (X : gX (dC, dI) (tF kc) (wF x q9 ad kc sv sa va) Z A s σ H locs) (hi : vp_in i 630) (hd : decode cc pc = .ok (.iastore, 1))
    (k : ∀ (H : Heap) (locs : List Loc), gX (dC, dI) (tF kc) (wF x q9 ad kc sv sa va) Z A s (pA σ 9 i v) H locs → W p l e R s m args below meth c H locs cells slots Q (F0 m (pc + 1) ls (rest))) : W p l e R s m args below meth c H locs cells slots Q (F0 m pc ls (.int v :: .int i :: .ref (ad 25) :: rest)) := by
  obtain ⟨hx, hb, hml, hown, hu⟩ := S
  obtain ⟨hK, hP, hD, hS, hA⟩ := X
  exact va_iast hx hb hK hP hD hS 25 13 rfl rfl hi hd (fun H1 locs1 hP1 hD1 hS1 => k H1 locs1 ⟨hK, hP1, hD1, hS1, hA⟩)
theorem wfnA_9 (S : CallFix p m c cc nL s args uG own) (X : gX (dC, dI) (tF kc) (wF x q9 ad kc sv sa va) Z A s σ H locs) (hd : decode cc pc = .ok (.arraylength, 1))
    (k : W p l e R s m args below meth c H locs cells slots Q (F0 m (pc + 1) ls (.int 630 :: rest))) : W p l e R s m args below meth c H locs cells slots Q (F0 m pc ls (.ref (ad 25) :: rest)) := by
  obtain ⟨hx, hb, hml, hown, hu⟩ := S
  obtain ⟨hK, hP, hD, hS, hA⟩ := X
  exact va_alen (v := 630) hx hb hK hP 25 13 rfl rfl (show Int32.ofNat 630 = 630 by decide) hd k
theorem wflA_10 {i : Int32} {v : Int32} (S : CallFix p m c cc nL s args uG own) (X : gX (dC, dI) (tF kc) (wF x q9 ad kc sv sa va) Z A s σ H locs) (hi : vp_in i 630) (hv : xA σ 10 i = v) (hd : decode cc pc = .ok (.iaload, 1))
    (k : W p l e R s m args below meth c H locs cells slots Q (F0 m (pc + 1) ls (.int v :: rest))) : W p l e R s m args below meth c H locs cells slots Q (F0 m pc ls (.int i :: .ref (ad 26) :: rest)) := by
  subst hv
  obtain ⟨hx, hb, hml, hown, hu⟩ := S
  obtain ⟨hK, hP, hD, hS, hA⟩ := X
  exact va_iald hx hb hK hP 26 14 rfl rfl hi hd k
theorem wfsA_10 {i : Int32} {v : Int32} (S : CallFix p m c cc nL s args uG own) (X : gX (dC, dI) (tF kc) (wF x q9 ad kc sv sa va) Z A s σ H locs) (hi : vp_in i 630) (hd : decode cc pc = .ok (.iastore, 1))
    (k : ∀ (H : Heap) (locs : List Loc), gX (dC, dI) (tF kc) (wF x q9 ad kc sv sa va) Z A s (pA σ 10 i v) H locs → W p l e R s m args below meth c H locs cells slots Q (F0 m (pc + 1) ls (rest))) : W p l e R s m args below meth c H locs cells slots Q (F0 m pc ls (.int v :: .int i :: .ref (ad 26) :: rest)) := by
  obtain ⟨hx, hb, hml, hown, hu⟩ := S
  obtain ⟨hK, hP, hD, hS, hA⟩ := X
  exact va_iast hx hb hK hP hD hS 26 14 rfl rfl hi hd (fun H1 locs1 hP1 hD1 hS1 => k H1 locs1 ⟨hK, hP1, hD1, hS1, hA⟩)
theorem wfnA_10 (S : CallFix p m c cc nL s args uG own) (X : gX (dC, dI) (tF kc) (wF x q9 ad kc sv sa va) Z A s σ H locs) (hd : decode cc pc = .ok (.arraylength, 1))
    (k : W p l e R s m args below meth c H locs cells slots Q (F0 m (pc + 1) ls (.int 630 :: rest))) : W p l e R s m args below meth c H locs cells slots Q (F0 m pc ls (.ref (ad 26) :: rest)) := by
  obtain ⟨hx, hb, hml, hown, hu⟩ := S
  obtain ⟨hK, hP, hD, hS, hA⟩ := X
  exact va_alen (v := 630) hx hb hK hP 26 14 rfl rfl (show Int32.ofNat 630 = 630 by decide) hd k
theorem wflA_11 {i : Int32} {v : Int32} (S : CallFix p m c cc nL s args uG own) (X : gX (dC, dI) (tF kc) (wF x q9 ad kc sv sa va) Z A s σ H locs) (hi : vp_in i 630) (hv : xA σ 11 i = v) (hd : decode cc pc = .ok (.iaload, 1))
    (k : W p l e R s m args below meth c H locs cells slots Q (F0 m (pc + 1) ls (.int v :: rest))) : W p l e R s m args below meth c H locs cells slots Q (F0 m pc ls (.int i :: .ref (ad 27) :: rest)) := by
  subst hv
  obtain ⟨hx, hb, hml, hown, hu⟩ := S
  obtain ⟨hK, hP, hD, hS, hA⟩ := X
  exact va_iald hx hb hK hP 27 15 rfl rfl hi hd k
theorem wfsA_11 {i : Int32} {v : Int32} (S : CallFix p m c cc nL s args uG own) (X : gX (dC, dI) (tF kc) (wF x q9 ad kc sv sa va) Z A s σ H locs) (hi : vp_in i 630) (hd : decode cc pc = .ok (.iastore, 1))
    (k : ∀ (H : Heap) (locs : List Loc), gX (dC, dI) (tF kc) (wF x q9 ad kc sv sa va) Z A s (pA σ 11 i v) H locs → W p l e R s m args below meth c H locs cells slots Q (F0 m (pc + 1) ls (rest))) : W p l e R s m args below meth c H locs cells slots Q (F0 m pc ls (.int v :: .int i :: .ref (ad 27) :: rest)) := by
  obtain ⟨hx, hb, hml, hown, hu⟩ := S
  obtain ⟨hK, hP, hD, hS, hA⟩ := X
  exact va_iast hx hb hK hP hD hS 27 15 rfl rfl hi hd (fun H1 locs1 hP1 hD1 hS1 => k H1 locs1 ⟨hK, hP1, hD1, hS1, hA⟩)
theorem wfnA_11 (S : CallFix p m c cc nL s args uG own) (X : gX (dC, dI) (tF kc) (wF x q9 ad kc sv sa va) Z A s σ H locs) (hd : decode cc pc = .ok (.arraylength, 1))
    (k : W p l e R s m args below meth c H locs cells slots Q (F0 m (pc + 1) ls (.int 630 :: rest))) : W p l e R s m args below meth c H locs cells slots Q (F0 m pc ls (.ref (ad 27) :: rest)) := by
  obtain ⟨hx, hb, hml, hown, hu⟩ := S
  obtain ⟨hK, hP, hD, hS, hA⟩ := X
  exact va_alen (v := 630) hx hb hK hP 27 15 rfl rfl (show Int32.ofNat 630 = 630 by decide) hd k
theorem wflA_12 {i : Int32} {v : Int32} (S : CallFix p m c cc nL s args uG own) (X : gX (dC, dI) (tF kc) (wF x q9 ad kc sv sa va) Z A s σ H locs) (hi : vp_in i 630) (hv : xA σ 12 i = v) (hd : decode cc pc = .ok (.iaload, 1))
    (k : W p l e R s m args below meth c H locs cells slots Q (F0 m (pc + 1) ls (.int v :: rest))) : W p l e R s m args below meth c H locs cells slots Q (F0 m pc ls (.int i :: .ref (ad 28) :: rest)) := by
  subst hv
  obtain ⟨hx, hb, hml, hown, hu⟩ := S
  obtain ⟨hK, hP, hD, hS, hA⟩ := X
  exact va_iald hx hb hK hP 28 16 rfl rfl hi hd k
theorem wfsA_12 {i : Int32} {v : Int32} (S : CallFix p m c cc nL s args uG own) (X : gX (dC, dI) (tF kc) (wF x q9 ad kc sv sa va) Z A s σ H locs) (hi : vp_in i 630) (hd : decode cc pc = .ok (.iastore, 1))
    (k : ∀ (H : Heap) (locs : List Loc), gX (dC, dI) (tF kc) (wF x q9 ad kc sv sa va) Z A s (pA σ 12 i v) H locs → W p l e R s m args below meth c H locs cells slots Q (F0 m (pc + 1) ls (rest))) : W p l e R s m args below meth c H locs cells slots Q (F0 m pc ls (.int v :: .int i :: .ref (ad 28) :: rest)) := by
  obtain ⟨hx, hb, hml, hown, hu⟩ := S
  obtain ⟨hK, hP, hD, hS, hA⟩ := X
  exact va_iast hx hb hK hP hD hS 28 16 rfl rfl hi hd (fun H1 locs1 hP1 hD1 hS1 => k H1 locs1 ⟨hK, hP1, hD1, hS1, hA⟩)
theorem wfnA_12 (S : CallFix p m c cc nL s args uG own) (X : gX (dC, dI) (tF kc) (wF x q9 ad kc sv sa va) Z A s σ H locs) (hd : decode cc pc = .ok (.arraylength, 1))
    (k : W p l e R s m args below meth c H locs cells slots Q (F0 m (pc + 1) ls (.int 630 :: rest))) : W p l e R s m args below meth c H locs cells slots Q (F0 m pc ls (.ref (ad 28) :: rest)) := by
  obtain ⟨hx, hb, hml, hown, hu⟩ := S
  obtain ⟨hK, hP, hD, hS, hA⟩ := X
  exact va_alen (v := 630) hx hb hK hP 28 16 rfl rfl (show Int32.ofNat 630 = 630 by decide) hd k
theorem wflA_13 {i : Int32} {v : Int32} (S : CallFix p m c cc nL s args uG own) (X : gX (dC, dI) (tF kc) (wF x q9 ad kc sv sa va) Z A s σ H locs) (hi : vp_in i 6200) (hv : xA σ 13 i = v) (hd : decode cc pc = .ok (.iaload, 1))
    (k : W p l e R s m args below meth c H locs cells slots Q (F0 m (pc + 1) ls (.int v :: rest))) : W p l e R s m args below meth c H locs cells slots Q (F0 m pc ls (.int i :: .ref (ad 29) :: rest)) := by
  subst hv
  obtain ⟨hx, hb, hml, hown, hu⟩ := S
  obtain ⟨hK, hP, hD, hS, hA⟩ := X
  exact va_iald hx hb hK hP 29 17 rfl rfl hi hd k
theorem wfsA_13 {i : Int32} {v : Int32} (S : CallFix p m c cc nL s args uG own) (X : gX (dC, dI) (tF kc) (wF x q9 ad kc sv sa va) Z A s σ H locs) (hi : vp_in i 6200) (hd : decode cc pc = .ok (.iastore, 1))
    (k : ∀ (H : Heap) (locs : List Loc), gX (dC, dI) (tF kc) (wF x q9 ad kc sv sa va) Z A s (pA σ 13 i v) H locs → W p l e R s m args below meth c H locs cells slots Q (F0 m (pc + 1) ls (rest))) : W p l e R s m args below meth c H locs cells slots Q (F0 m pc ls (.int v :: .int i :: .ref (ad 29) :: rest)) := by
  obtain ⟨hx, hb, hml, hown, hu⟩ := S
  obtain ⟨hK, hP, hD, hS, hA⟩ := X
  exact va_iast hx hb hK hP hD hS 29 17 rfl rfl hi hd (fun H1 locs1 hP1 hD1 hS1 => k H1 locs1 ⟨hK, hP1, hD1, hS1, hA⟩)
theorem wfnA_13 (S : CallFix p m c cc nL s args uG own) (X : gX (dC, dI) (tF kc) (wF x q9 ad kc sv sa va) Z A s σ H locs) (hd : decode cc pc = .ok (.arraylength, 1))
    (k : W p l e R s m args below meth c H locs cells slots Q (F0 m (pc + 1) ls (.int 6200 :: rest))) : W p l e R s m args below meth c H locs cells slots Q (F0 m pc ls (.ref (ad 29) :: rest)) := by
  obtain ⟨hx, hb, hml, hown, hu⟩ := S
  obtain ⟨hK, hP, hD, hS, hA⟩ := X
  exact va_alen (v := 6200) hx hb hK hP 29 17 rfl rfl (show Int32.ofNat 6200 = 6200 by decide) hd k
theorem wflA_14 {i : Int32} {v : Int32} (S : CallFix p m c cc nL s args uG own) (X : gX (dC, dI) (tF kc) (wF x q9 ad kc sv sa va) Z A s σ H locs) (hi : vp_in i 6200) (hv : xA σ 14 i = v) (hd : decode cc pc = .ok (.iaload, 1))
    (k : W p l e R s m args below meth c H locs cells slots Q (F0 m (pc + 1) ls (.int v :: rest))) : W p l e R s m args below meth c H locs cells slots Q (F0 m pc ls (.int i :: .ref (ad 30) :: rest)) := by
  subst hv
  obtain ⟨hx, hb, hml, hown, hu⟩ := S
  obtain ⟨hK, hP, hD, hS, hA⟩ := X
  exact va_iald hx hb hK hP 30 18 rfl rfl hi hd k
theorem wfsA_14 {i : Int32} {v : Int32} (S : CallFix p m c cc nL s args uG own) (X : gX (dC, dI) (tF kc) (wF x q9 ad kc sv sa va) Z A s σ H locs) (hi : vp_in i 6200) (hd : decode cc pc = .ok (.iastore, 1))
    (k : ∀ (H : Heap) (locs : List Loc), gX (dC, dI) (tF kc) (wF x q9 ad kc sv sa va) Z A s (pA σ 14 i v) H locs → W p l e R s m args below meth c H locs cells slots Q (F0 m (pc + 1) ls (rest))) : W p l e R s m args below meth c H locs cells slots Q (F0 m pc ls (.int v :: .int i :: .ref (ad 30) :: rest)) := by
  obtain ⟨hx, hb, hml, hown, hu⟩ := S
  obtain ⟨hK, hP, hD, hS, hA⟩ := X
  exact va_iast hx hb hK hP hD hS 30 18 rfl rfl hi hd (fun H1 locs1 hP1 hD1 hS1 => k H1 locs1 ⟨hK, hP1, hD1, hS1, hA⟩)
theorem wfnA_14 (S : CallFix p m c cc nL s args uG own) (X : gX (dC, dI) (tF kc) (wF x q9 ad kc sv sa va) Z A s σ H locs) (hd : decode cc pc = .ok (.arraylength, 1))
    (k : W p l e R s m args below meth c H locs cells slots Q (F0 m (pc + 1) ls (.int 6200 :: rest))) : W p l e R s m args below meth c H locs cells slots Q (F0 m pc ls (.ref (ad 30) :: rest)) := by
  obtain ⟨hx, hb, hml, hown, hu⟩ := S
  obtain ⟨hK, hP, hD, hS, hA⟩ := X
  exact va_alen (v := 6200) hx hb hK hP 30 18 rfl rfl (show Int32.ofNat 6200 = 6200 by decide) hd k
theorem wflA_15 {i : Int32} {v : Int32} (S : CallFix p m c cc nL s args uG own) (X : gX (dC, dI) (tF kc) (wF x q9 ad kc sv sa va) Z A s σ H locs) (hi : vp_in i 6200) (hv : xA σ 15 i = v) (hd : decode cc pc = .ok (.iaload, 1))
    (k : W p l e R s m args below meth c H locs cells slots Q (F0 m (pc + 1) ls (.int v :: rest))) : W p l e R s m args below meth c H locs cells slots Q (F0 m pc ls (.int i :: .ref (ad 31) :: rest)) := by
  subst hv
  obtain ⟨hx, hb, hml, hown, hu⟩ := S
  obtain ⟨hK, hP, hD, hS, hA⟩ := X
  exact va_iald hx hb hK hP 31 19 rfl rfl hi hd k
theorem wfsA_15 {i : Int32} {v : Int32} (S : CallFix p m c cc nL s args uG own) (X : gX (dC, dI) (tF kc) (wF x q9 ad kc sv sa va) Z A s σ H locs) (hi : vp_in i 6200) (hd : decode cc pc = .ok (.iastore, 1))
    (k : ∀ (H : Heap) (locs : List Loc), gX (dC, dI) (tF kc) (wF x q9 ad kc sv sa va) Z A s (pA σ 15 i v) H locs → W p l e R s m args below meth c H locs cells slots Q (F0 m (pc + 1) ls (rest))) : W p l e R s m args below meth c H locs cells slots Q (F0 m pc ls (.int v :: .int i :: .ref (ad 31) :: rest)) := by
  obtain ⟨hx, hb, hml, hown, hu⟩ := S
  obtain ⟨hK, hP, hD, hS, hA⟩ := X
  exact va_iast hx hb hK hP hD hS 31 19 rfl rfl hi hd (fun H1 locs1 hP1 hD1 hS1 => k H1 locs1 ⟨hK, hP1, hD1, hS1, hA⟩)
theorem wfnA_15 (S : CallFix p m c cc nL s args uG own) (X : gX (dC, dI) (tF kc) (wF x q9 ad kc sv sa va) Z A s σ H locs) (hd : decode cc pc = .ok (.arraylength, 1))
    (k : W p l e R s m args below meth c H locs cells slots Q (F0 m (pc + 1) ls (.int 6200 :: rest))) : W p l e R s m args below meth c H locs cells slots Q (F0 m pc ls (.ref (ad 31) :: rest)) := by
  obtain ⟨hx, hb, hml, hown, hu⟩ := S
  obtain ⟨hK, hP, hD, hS, hA⟩ := X
  exact va_alen (v := 6200) hx hb hK hP 31 19 rfl rfl (show Int32.ofNat 6200 = 6200 by decide) hd k
theorem wflA_16 {i : Int32} {v : Int32} (S : CallFix p m c cc nL s args uG own) (X : gX (dC, dI) (tF kc) (wF x q9 ad kc sv sa va) Z A s σ H locs) (hi : vp_in i 6200) (hv : xA σ 16 i = v) (hd : decode cc pc = .ok (.iaload, 1))
    (k : W p l e R s m args below meth c H locs cells slots Q (F0 m (pc + 1) ls (.int v :: rest))) : W p l e R s m args below meth c H locs cells slots Q (F0 m pc ls (.int i :: .ref (ad 32) :: rest)) := by
  subst hv
  obtain ⟨hx, hb, hml, hown, hu⟩ := S
  obtain ⟨hK, hP, hD, hS, hA⟩ := X
  exact va_iald hx hb hK hP 32 20 rfl rfl hi hd k
theorem wfsA_16 {i : Int32} {v : Int32} (S : CallFix p m c cc nL s args uG own) (X : gX (dC, dI) (tF kc) (wF x q9 ad kc sv sa va) Z A s σ H locs) (hi : vp_in i 6200) (hd : decode cc pc = .ok (.iastore, 1))
    (k : ∀ (H : Heap) (locs : List Loc), gX (dC, dI) (tF kc) (wF x q9 ad kc sv sa va) Z A s (pA σ 16 i v) H locs → W p l e R s m args below meth c H locs cells slots Q (F0 m (pc + 1) ls (rest))) : W p l e R s m args below meth c H locs cells slots Q (F0 m pc ls (.int v :: .int i :: .ref (ad 32) :: rest)) := by
  obtain ⟨hx, hb, hml, hown, hu⟩ := S
  obtain ⟨hK, hP, hD, hS, hA⟩ := X
  exact va_iast hx hb hK hP hD hS 32 20 rfl rfl hi hd (fun H1 locs1 hP1 hD1 hS1 => k H1 locs1 ⟨hK, hP1, hD1, hS1, hA⟩)
theorem wfnA_16 (S : CallFix p m c cc nL s args uG own) (X : gX (dC, dI) (tF kc) (wF x q9 ad kc sv sa va) Z A s σ H locs) (hd : decode cc pc = .ok (.arraylength, 1))
    (k : W p l e R s m args below meth c H locs cells slots Q (F0 m (pc + 1) ls (.int 6200 :: rest))) : W p l e R s m args below meth c H locs cells slots Q (F0 m pc ls (.ref (ad 32) :: rest)) := by
  obtain ⟨hx, hb, hml, hown, hu⟩ := S
  obtain ⟨hK, hP, hD, hS, hA⟩ := X
  exact va_alen (v := 6200) hx hb hK hP 32 20 rfl rfl (show Int32.ofNat 6200 = 6200 by decide) hd k
theorem wflA_17 {i : Int32} {v : Int32} (S : CallFix p m c cc nL s args uG own) (X : gX (dC, dI) (tF kc) (wF x q9 ad kc sv sa va) Z A s σ H locs) (hi : vp_in i 6200) (hv : xA σ 17 i = v) (hd : decode cc pc = .ok (.iaload, 1))
    (k : W p l e R s m args below meth c H locs cells slots Q (F0 m (pc + 1) ls (.int v :: rest))) : W p l e R s m args below meth c H locs cells slots Q (F0 m pc ls (.int i :: .ref (ad 33) :: rest)) := by
  subst hv
  obtain ⟨hx, hb, hml, hown, hu⟩ := S
  obtain ⟨hK, hP, hD, hS, hA⟩ := X
  exact va_iald hx hb hK hP 33 21 rfl rfl hi hd k
theorem wfsA_17 {i : Int32} {v : Int32} (S : CallFix p m c cc nL s args uG own) (X : gX (dC, dI) (tF kc) (wF x q9 ad kc sv sa va) Z A s σ H locs) (hi : vp_in i 6200) (hd : decode cc pc = .ok (.iastore, 1))
    (k : ∀ (H : Heap) (locs : List Loc), gX (dC, dI) (tF kc) (wF x q9 ad kc sv sa va) Z A s (pA σ 17 i v) H locs → W p l e R s m args below meth c H locs cells slots Q (F0 m (pc + 1) ls (rest))) : W p l e R s m args below meth c H locs cells slots Q (F0 m pc ls (.int v :: .int i :: .ref (ad 33) :: rest)) := by
  obtain ⟨hx, hb, hml, hown, hu⟩ := S
  obtain ⟨hK, hP, hD, hS, hA⟩ := X
  exact va_iast hx hb hK hP hD hS 33 21 rfl rfl hi hd (fun H1 locs1 hP1 hD1 hS1 => k H1 locs1 ⟨hK, hP1, hD1, hS1, hA⟩)
theorem wfnA_17 (S : CallFix p m c cc nL s args uG own) (X : gX (dC, dI) (tF kc) (wF x q9 ad kc sv sa va) Z A s σ H locs) (hd : decode cc pc = .ok (.arraylength, 1))
    (k : W p l e R s m args below meth c H locs cells slots Q (F0 m (pc + 1) ls (.int 6200 :: rest))) : W p l e R s m args below meth c H locs cells slots Q (F0 m pc ls (.ref (ad 33) :: rest)) := by
  obtain ⟨hx, hb, hml, hown, hu⟩ := S
  obtain ⟨hK, hP, hD, hS, hA⟩ := X
  exact va_alen (v := 6200) hx hb hK hP 33 21 rfl rfl (show Int32.ofNat 6200 = 6200 by decide) hd k
theorem wflA_18 {i : Int32} {v : Int32} (S : CallFix p m c cc nL s args uG own) (X : gX (dC, dI) (tF kc) (wF x q9 ad kc sv sa va) Z A s σ H locs) (hi : vp_in i 6200) (hv : xA σ 18 i = v) (hd : decode cc pc = .ok (.iaload, 1))
    (k : W p l e R s m args below meth c H locs cells slots Q (F0 m (pc + 1) ls (.int v :: rest))) : W p l e R s m args below meth c H locs cells slots Q (F0 m pc ls (.int i :: .ref (ad 34) :: rest)) := by
  subst hv
  obtain ⟨hx, hb, hml, hown, hu⟩ := S
  obtain ⟨hK, hP, hD, hS, hA⟩ := X
  exact va_iald hx hb hK hP 34 22 rfl rfl hi hd k
theorem wfsA_18 {i : Int32} {v : Int32} (S : CallFix p m c cc nL s args uG own) (X : gX (dC, dI) (tF kc) (wF x q9 ad kc sv sa va) Z A s σ H locs) (hi : vp_in i 6200) (hd : decode cc pc = .ok (.iastore, 1))
    (k : ∀ (H : Heap) (locs : List Loc), gX (dC, dI) (tF kc) (wF x q9 ad kc sv sa va) Z A s (pA σ 18 i v) H locs → W p l e R s m args below meth c H locs cells slots Q (F0 m (pc + 1) ls (rest))) : W p l e R s m args below meth c H locs cells slots Q (F0 m pc ls (.int v :: .int i :: .ref (ad 34) :: rest)) := by
  obtain ⟨hx, hb, hml, hown, hu⟩ := S
  obtain ⟨hK, hP, hD, hS, hA⟩ := X
  exact va_iast hx hb hK hP hD hS 34 22 rfl rfl hi hd (fun H1 locs1 hP1 hD1 hS1 => k H1 locs1 ⟨hK, hP1, hD1, hS1, hA⟩)
theorem wfnA_18 (S : CallFix p m c cc nL s args uG own) (X : gX (dC, dI) (tF kc) (wF x q9 ad kc sv sa va) Z A s σ H locs) (hd : decode cc pc = .ok (.arraylength, 1))
    (k : W p l e R s m args below meth c H locs cells slots Q (F0 m (pc + 1) ls (.int 6200 :: rest))) : W p l e R s m args below meth c H locs cells slots Q (F0 m pc ls (.ref (ad 34) :: rest)) := by
  obtain ⟨hx, hb, hml, hown, hu⟩ := S
  obtain ⟨hK, hP, hD, hS, hA⟩ := X
  exact va_alen (v := 6200) hx hb hK hP 34 22 rfl rfl (show Int32.ofNat 6200 = 6200 by decide) hd k
theorem wflA_19 {i : Int32} {v : Int32} (S : CallFix p m c cc nL s args uG own) (X : gX (dC, dI) (tF kc) (wF x q9 ad kc sv sa va) Z A s σ H locs) (hi : vp_in i 6200) (hv : xA σ 19 i = v) (hd : decode cc pc = .ok (.iaload, 1))
    (k : W p l e R s m args below meth c H locs cells slots Q (F0 m (pc + 1) ls (.int v :: rest))) : W p l e R s m args below meth c H locs cells slots Q (F0 m pc ls (.int i :: .ref (ad 35) :: rest)) := by
  subst hv
  obtain ⟨hx, hb, hml, hown, hu⟩ := S
  obtain ⟨hK, hP, hD, hS, hA⟩ := X
  exact va_iald hx hb hK hP 35 23 rfl rfl hi hd k
theorem wfsA_19 {i : Int32} {v : Int32} (S : CallFix p m c cc nL s args uG own) (X : gX (dC, dI) (tF kc) (wF x q9 ad kc sv sa va) Z A s σ H locs) (hi : vp_in i 6200) (hd : decode cc pc = .ok (.iastore, 1))
    (k : ∀ (H : Heap) (locs : List Loc), gX (dC, dI) (tF kc) (wF x q9 ad kc sv sa va) Z A s (pA σ 19 i v) H locs → W p l e R s m args below meth c H locs cells slots Q (F0 m (pc + 1) ls (rest))) : W p l e R s m args below meth c H locs cells slots Q (F0 m pc ls (.int v :: .int i :: .ref (ad 35) :: rest)) := by
  obtain ⟨hx, hb, hml, hown, hu⟩ := S
  obtain ⟨hK, hP, hD, hS, hA⟩ := X
  exact va_iast hx hb hK hP hD hS 35 23 rfl rfl hi hd (fun H1 locs1 hP1 hD1 hS1 => k H1 locs1 ⟨hK, hP1, hD1, hS1, hA⟩)
theorem wfnA_19 (S : CallFix p m c cc nL s args uG own) (X : gX (dC, dI) (tF kc) (wF x q9 ad kc sv sa va) Z A s σ H locs) (hd : decode cc pc = .ok (.arraylength, 1))
    (k : W p l e R s m args below meth c H locs cells slots Q (F0 m (pc + 1) ls (.int 6200 :: rest))) : W p l e R s m args below meth c H locs cells slots Q (F0 m pc ls (.ref (ad 35) :: rest)) := by
  obtain ⟨hx, hb, hml, hown, hu⟩ := S
  obtain ⟨hK, hP, hD, hS, hA⟩ := X
  exact va_alen (v := 6200) hx hb hK hP 35 23 rfl rfl (show Int32.ofNat 6200 = 6200 by decide) hd k
theorem wflB_2 {i : Int32} {v : Int64} (S : CallFix p m c cc nL s args uG own) (X : gX (dC, dI) (tF kc) (wF x q9 ad kc sv sa va) Z A s σ H locs) (hi : vp_in i 6200) (hv : xB σ 2 i = v) (hd : decode cc pc = .ok (.laload, 1))
    (k : W p l e R s m args below meth c H locs cells slots Q (F0 m (pc + 1) ls (.long v :: rest))) : W p l e R s m args below meth c H locs cells slots Q (F0 m pc ls (.int i :: .ref (ad 36) :: rest)) := by
  subst hv
  obtain ⟨hx, hb, hml, hown, hu⟩ := S
  obtain ⟨hK, hP, hD, hS, hA⟩ := X
  exact va_lald hx hb hK hP 36 24 rfl rfl hi hd k
theorem wfsB_2 {i : Int32} {v : Int64} (S : CallFix p m c cc nL s args uG own) (X : gX (dC, dI) (tF kc) (wF x q9 ad kc sv sa va) Z A s σ H locs) (hi : vp_in i 6200) (hd : decode cc pc = .ok (.lastore, 1))
    (k : ∀ (H : Heap) (locs : List Loc), gX (dC, dI) (tF kc) (wF x q9 ad kc sv sa va) Z A s (pB σ 2 i v) H locs → W p l e R s m args below meth c H locs cells slots Q (F0 m (pc + 1) ls (rest))) : W p l e R s m args below meth c H locs cells slots Q (F0 m pc ls (.long v :: .int i :: .ref (ad 36) :: rest)) := by
  obtain ⟨hx, hb, hml, hown, hu⟩ := S
  obtain ⟨hK, hP, hD, hS, hA⟩ := X
  exact va_last hx hb hK hP hD hS 36 24 rfl rfl hi hd (fun H1 locs1 hP1 hD1 hS1 => k H1 locs1 ⟨hK, hP1, hD1, hS1, hA⟩)
theorem wfnB_2 (S : CallFix p m c cc nL s args uG own) (X : gX (dC, dI) (tF kc) (wF x q9 ad kc sv sa va) Z A s σ H locs) (hd : decode cc pc = .ok (.arraylength, 1))
    (k : W p l e R s m args below meth c H locs cells slots Q (F0 m (pc + 1) ls (.int 6200 :: rest))) : W p l e R s m args below meth c H locs cells slots Q (F0 m pc ls (.ref (ad 36) :: rest)) := by
  obtain ⟨hx, hb, hml, hown, hu⟩ := S
  obtain ⟨hK, hP, hD, hS, hA⟩ := X
  exact va_alen (v := 6200) hx hb hK hP 36 24 rfl rfl (show Int32.ofNat 6200 = 6200 by decide) hd k
theorem wflB_3 {i : Int32} {v : Int64} (S : CallFix p m c cc nL s args uG own) (X : gX (dC, dI) (tF kc) (wF x q9 ad kc sv sa va) Z A s σ H locs) (hi : vp_in i 3500) (hv : xB σ 3 i = v) (hd : decode cc pc = .ok (.laload, 1))
    (k : W p l e R s m args below meth c H locs cells slots Q (F0 m (pc + 1) ls (.long v :: rest))) : W p l e R s m args below meth c H locs cells slots Q (F0 m pc ls (.int i :: .ref (ad 37) :: rest)) := by
  subst hv
  obtain ⟨hx, hb, hml, hown, hu⟩ := S
  obtain ⟨hK, hP, hD, hS, hA⟩ := X
  exact va_lald hx hb hK hP 37 25 rfl rfl hi hd k
theorem wfsB_3 {i : Int32} {v : Int64} (S : CallFix p m c cc nL s args uG own) (X : gX (dC, dI) (tF kc) (wF x q9 ad kc sv sa va) Z A s σ H locs) (hi : vp_in i 3500) (hd : decode cc pc = .ok (.lastore, 1))
    (k : ∀ (H : Heap) (locs : List Loc), gX (dC, dI) (tF kc) (wF x q9 ad kc sv sa va) Z A s (pB σ 3 i v) H locs → W p l e R s m args below meth c H locs cells slots Q (F0 m (pc + 1) ls (rest))) : W p l e R s m args below meth c H locs cells slots Q (F0 m pc ls (.long v :: .int i :: .ref (ad 37) :: rest)) := by
  obtain ⟨hx, hb, hml, hown, hu⟩ := S
  obtain ⟨hK, hP, hD, hS, hA⟩ := X
  exact va_last hx hb hK hP hD hS 37 25 rfl rfl hi hd (fun H1 locs1 hP1 hD1 hS1 => k H1 locs1 ⟨hK, hP1, hD1, hS1, hA⟩)
theorem wfnB_3 (S : CallFix p m c cc nL s args uG own) (X : gX (dC, dI) (tF kc) (wF x q9 ad kc sv sa va) Z A s σ H locs) (hd : decode cc pc = .ok (.arraylength, 1))
    (k : W p l e R s m args below meth c H locs cells slots Q (F0 m (pc + 1) ls (.int 3500 :: rest))) : W p l e R s m args below meth c H locs cells slots Q (F0 m pc ls (.ref (ad 37) :: rest)) := by
  obtain ⟨hx, hb, hml, hown, hu⟩ := S
  obtain ⟨hK, hP, hD, hS, hA⟩ := X
  exact va_alen (v := 3500) hx hb hK hP 37 25 rfl rfl (show Int32.ofNat 3500 = 3500 by decide) hd k
theorem wflA_20 {i : Int32} {v : Int32} (S : CallFix p m c cc nL s args uG own) (X : gX (dC, dI) (tF kc) (wF x q9 ad kc sv sa va) Z A s σ H locs) (hi : vp_in i 700) (hv : xA σ 20 i = v) (hd : decode cc pc = .ok (.iaload, 1))
    (k : W p l e R s m args below meth c H locs cells slots Q (F0 m (pc + 1) ls (.int v :: rest))) : W p l e R s m args below meth c H locs cells slots Q (F0 m pc ls (.int i :: .ref (ad 38) :: rest)) := by
  subst hv
  obtain ⟨hx, hb, hml, hown, hu⟩ := S
  obtain ⟨hK, hP, hD, hS, hA⟩ := X
  exact va_iald hx hb hK hP 38 26 rfl rfl hi hd k
theorem wfsA_20 {i : Int32} {v : Int32} (S : CallFix p m c cc nL s args uG own) (X : gX (dC, dI) (tF kc) (wF x q9 ad kc sv sa va) Z A s σ H locs) (hi : vp_in i 700) (hd : decode cc pc = .ok (.iastore, 1))
    (k : ∀ (H : Heap) (locs : List Loc), gX (dC, dI) (tF kc) (wF x q9 ad kc sv sa va) Z A s (pA σ 20 i v) H locs → W p l e R s m args below meth c H locs cells slots Q (F0 m (pc + 1) ls (rest))) : W p l e R s m args below meth c H locs cells slots Q (F0 m pc ls (.int v :: .int i :: .ref (ad 38) :: rest)) := by
  obtain ⟨hx, hb, hml, hown, hu⟩ := S
  obtain ⟨hK, hP, hD, hS, hA⟩ := X
  exact va_iast hx hb hK hP hD hS 38 26 rfl rfl hi hd (fun H1 locs1 hP1 hD1 hS1 => k H1 locs1 ⟨hK, hP1, hD1, hS1, hA⟩)
theorem wfnA_20 (S : CallFix p m c cc nL s args uG own) (X : gX (dC, dI) (tF kc) (wF x q9 ad kc sv sa va) Z A s σ H locs) (hd : decode cc pc = .ok (.arraylength, 1))
    (k : W p l e R s m args below meth c H locs cells slots Q (F0 m (pc + 1) ls (.int 700 :: rest))) : W p l e R s m args below meth c H locs cells slots Q (F0 m pc ls (.ref (ad 38) :: rest)) := by
  obtain ⟨hx, hb, hml, hown, hu⟩ := S
  obtain ⟨hK, hP, hD, hS, hA⟩ := X
  exact va_alen (v := 700) hx hb hK hP 38 26 rfl rfl (show Int32.ofNat 700 = 700 by decide) hd k
theorem wflA_21 {i : Int32} {v : Int32} (S : CallFix p m c cc nL s args uG own) (X : gX (dC, dI) (tF kc) (wF x q9 ad kc sv sa va) Z A s σ H locs) (hi : vp_in i 700) (hv : xA σ 21 i = v) (hd : decode cc pc = .ok (.iaload, 1))
    (k : W p l e R s m args below meth c H locs cells slots Q (F0 m (pc + 1) ls (.int v :: rest))) : W p l e R s m args below meth c H locs cells slots Q (F0 m pc ls (.int i :: .ref (ad 39) :: rest)) := by
  subst hv
  obtain ⟨hx, hb, hml, hown, hu⟩ := S
  obtain ⟨hK, hP, hD, hS, hA⟩ := X
  exact va_iald hx hb hK hP 39 27 rfl rfl hi hd k
theorem wfsA_21 {i : Int32} {v : Int32} (S : CallFix p m c cc nL s args uG own) (X : gX (dC, dI) (tF kc) (wF x q9 ad kc sv sa va) Z A s σ H locs) (hi : vp_in i 700) (hd : decode cc pc = .ok (.iastore, 1))
    (k : ∀ (H : Heap) (locs : List Loc), gX (dC, dI) (tF kc) (wF x q9 ad kc sv sa va) Z A s (pA σ 21 i v) H locs → W p l e R s m args below meth c H locs cells slots Q (F0 m (pc + 1) ls (rest))) : W p l e R s m args below meth c H locs cells slots Q (F0 m pc ls (.int v :: .int i :: .ref (ad 39) :: rest)) := by
  obtain ⟨hx, hb, hml, hown, hu⟩ := S
  obtain ⟨hK, hP, hD, hS, hA⟩ := X
  exact va_iast hx hb hK hP hD hS 39 27 rfl rfl hi hd (fun H1 locs1 hP1 hD1 hS1 => k H1 locs1 ⟨hK, hP1, hD1, hS1, hA⟩)
theorem wfnA_21 (S : CallFix p m c cc nL s args uG own) (X : gX (dC, dI) (tF kc) (wF x q9 ad kc sv sa va) Z A s σ H locs) (hd : decode cc pc = .ok (.arraylength, 1))
    (k : W p l e R s m args below meth c H locs cells slots Q (F0 m (pc + 1) ls (.int 700 :: rest))) : W p l e R s m args below meth c H locs cells slots Q (F0 m pc ls (.ref (ad 39) :: rest)) := by
  obtain ⟨hx, hb, hml, hown, hu⟩ := S
  obtain ⟨hK, hP, hD, hS, hA⟩ := X
  exact va_alen (v := 700) hx hb hK hP 39 27 rfl rfl (show Int32.ofNat 700 = 700 by decide) hd k
theorem wflA_22 {i : Int32} {v : Int32} (S : CallFix p m c cc nL s args uG own) (X : gX (dC, dI) (tF kc) (wF x q9 ad kc sv sa va) Z A s σ H locs) (hi : vp_in i 700) (hv : xA σ 22 i = v) (hd : decode cc pc = .ok (.iaload, 1))
    (k : W p l e R s m args below meth c H locs cells slots Q (F0 m (pc + 1) ls (.int v :: rest))) : W p l e R s m args below meth c H locs cells slots Q (F0 m pc ls (.int i :: .ref (ad 40) :: rest)) := by
  subst hv
  obtain ⟨hx, hb, hml, hown, hu⟩ := S
  obtain ⟨hK, hP, hD, hS, hA⟩ := X
  exact va_iald hx hb hK hP 40 28 rfl rfl hi hd k
theorem wfsA_22 {i : Int32} {v : Int32} (S : CallFix p m c cc nL s args uG own) (X : gX (dC, dI) (tF kc) (wF x q9 ad kc sv sa va) Z A s σ H locs) (hi : vp_in i 700) (hd : decode cc pc = .ok (.iastore, 1))
    (k : ∀ (H : Heap) (locs : List Loc), gX (dC, dI) (tF kc) (wF x q9 ad kc sv sa va) Z A s (pA σ 22 i v) H locs → W p l e R s m args below meth c H locs cells slots Q (F0 m (pc + 1) ls (rest))) : W p l e R s m args below meth c H locs cells slots Q (F0 m pc ls (.int v :: .int i :: .ref (ad 40) :: rest)) := by
  obtain ⟨hx, hb, hml, hown, hu⟩ := S
  obtain ⟨hK, hP, hD, hS, hA⟩ := X
  exact va_iast hx hb hK hP hD hS 40 28 rfl rfl hi hd (fun H1 locs1 hP1 hD1 hS1 => k H1 locs1 ⟨hK, hP1, hD1, hS1, hA⟩)
theorem wfnA_22 (S : CallFix p m c cc nL s args uG own) (X : gX (dC, dI) (tF kc) (wF x q9 ad kc sv sa va) Z A s σ H locs) (hd : decode cc pc = .ok (.arraylength, 1))
    (k : W p l e R s m args below meth c H locs cells slots Q (F0 m (pc + 1) ls (.int 700 :: rest))) : W p l e R s m args below meth c H locs cells slots Q (F0 m pc ls (.ref (ad 40) :: rest)) := by
  obtain ⟨hx, hb, hml, hown, hu⟩ := S
  obtain ⟨hK, hP, hD, hS, hA⟩ := X
  exact va_alen (v := 700) hx hb hK hP 40 28 rfl rfl (show Int32.ofNat 700 = 700 by decide) hd k
theorem wflA_23 {i : Int32} {v : Int32} (S : CallFix p m c cc nL s args uG own) (X : gX (dC, dI) (tF kc) (wF x q9 ad kc sv sa va) Z A s σ H locs) (hi : vp_in i 700) (hv : xA σ 23 i = v) (hd : decode cc pc = .ok (.iaload, 1))
    (k : W p l e R s m args below meth c H locs cells slots Q (F0 m (pc + 1) ls (.int v :: rest))) : W p l e R s m args below meth c H locs cells slots Q (F0 m pc ls (.int i :: .ref (ad 41) :: rest)) := by
  subst hv
  obtain ⟨hx, hb, hml, hown, hu⟩ := S
  obtain ⟨hK, hP, hD, hS, hA⟩ := X
  exact va_iald hx hb hK hP 41 29 rfl rfl hi hd k
theorem wfsA_23 {i : Int32} {v : Int32} (S : CallFix p m c cc nL s args uG own) (X : gX (dC, dI) (tF kc) (wF x q9 ad kc sv sa va) Z A s σ H locs) (hi : vp_in i 700) (hd : decode cc pc = .ok (.iastore, 1))
    (k : ∀ (H : Heap) (locs : List Loc), gX (dC, dI) (tF kc) (wF x q9 ad kc sv sa va) Z A s (pA σ 23 i v) H locs → W p l e R s m args below meth c H locs cells slots Q (F0 m (pc + 1) ls (rest))) : W p l e R s m args below meth c H locs cells slots Q (F0 m pc ls (.int v :: .int i :: .ref (ad 41) :: rest)) := by
  obtain ⟨hx, hb, hml, hown, hu⟩ := S
  obtain ⟨hK, hP, hD, hS, hA⟩ := X
  exact va_iast hx hb hK hP hD hS 41 29 rfl rfl hi hd (fun H1 locs1 hP1 hD1 hS1 => k H1 locs1 ⟨hK, hP1, hD1, hS1, hA⟩)
theorem wfnA_23 (S : CallFix p m c cc nL s args uG own) (X : gX (dC, dI) (tF kc) (wF x q9 ad kc sv sa va) Z A s σ H locs) (hd : decode cc pc = .ok (.arraylength, 1))
    (k : W p l e R s m args below meth c H locs cells slots Q (F0 m (pc + 1) ls (.int 700 :: rest))) : W p l e R s m args below meth c H locs cells slots Q (F0 m pc ls (.ref (ad 41) :: rest)) := by
  obtain ⟨hx, hb, hml, hown, hu⟩ := S
  obtain ⟨hK, hP, hD, hS, hA⟩ := X
  exact va_alen (v := 700) hx hb hK hP 41 29 rfl rfl (show Int32.ofNat 700 = 700 by decide) hd k
theorem wflA_24 {i : Int32} {v : Int32} (S : CallFix p m c cc nL s args uG own) (X : gX (dC, dI) (tF kc) (wF x q9 ad kc sv sa va) Z A s σ H locs) (hi : vp_in i 700) (hv : xA σ 24 i = v) (hd : decode cc pc = .ok (.iaload, 1))
    (k : W p l e R s m args below meth c H locs cells slots Q (F0 m (pc + 1) ls (.int v :: rest))) : W p l e R s m args below meth c H locs cells slots Q (F0 m pc ls (.int i :: .ref (ad 42) :: rest)) := by
  subst hv
  obtain ⟨hx, hb, hml, hown, hu⟩ := S
  obtain ⟨hK, hP, hD, hS, hA⟩ := X
  exact va_iald hx hb hK hP 42 30 rfl rfl hi hd k
theorem wfsA_24 {i : Int32} {v : Int32} (S : CallFix p m c cc nL s args uG own) (X : gX (dC, dI) (tF kc) (wF x q9 ad kc sv sa va) Z A s σ H locs) (hi : vp_in i 700) (hd : decode cc pc = .ok (.iastore, 1))
    (k : ∀ (H : Heap) (locs : List Loc), gX (dC, dI) (tF kc) (wF x q9 ad kc sv sa va) Z A s (pA σ 24 i v) H locs → W p l e R s m args below meth c H locs cells slots Q (F0 m (pc + 1) ls (rest))) : W p l e R s m args below meth c H locs cells slots Q (F0 m pc ls (.int v :: .int i :: .ref (ad 42) :: rest)) := by
  obtain ⟨hx, hb, hml, hown, hu⟩ := S
  obtain ⟨hK, hP, hD, hS, hA⟩ := X
  exact va_iast hx hb hK hP hD hS 42 30 rfl rfl hi hd (fun H1 locs1 hP1 hD1 hS1 => k H1 locs1 ⟨hK, hP1, hD1, hS1, hA⟩)
theorem wfnA_24 (S : CallFix p m c cc nL s args uG own) (X : gX (dC, dI) (tF kc) (wF x q9 ad kc sv sa va) Z A s σ H locs) (hd : decode cc pc = .ok (.arraylength, 1))
    (k : W p l e R s m args below meth c H locs cells slots Q (F0 m (pc + 1) ls (.int 700 :: rest))) : W p l e R s m args below meth c H locs cells slots Q (F0 m pc ls (.ref (ad 42) :: rest)) := by
  obtain ⟨hx, hb, hml, hown, hu⟩ := S
  obtain ⟨hK, hP, hD, hS, hA⟩ := X
  exact va_alen (v := 700) hx hb hK hP 42 30 rfl rfl (show Int32.ofNat 700 = 700 by decide) hd k
theorem wflA_25 {i : Int32} {v : Int32} (S : CallFix p m c cc nL s args uG own) (X : gX (dC, dI) (tF kc) (wF x q9 ad kc sv sa va) Z A s σ H locs) (hi : vp_in i 700) (hv : xA σ 25 i = v) (hd : decode cc pc = .ok (.iaload, 1))
    (k : W p l e R s m args below meth c H locs cells slots Q (F0 m (pc + 1) ls (.int v :: rest))) : W p l e R s m args below meth c H locs cells slots Q (F0 m pc ls (.int i :: .ref (ad 43) :: rest)) := by
  subst hv
  obtain ⟨hx, hb, hml, hown, hu⟩ := S
  obtain ⟨hK, hP, hD, hS, hA⟩ := X
  exact va_iald hx hb hK hP 43 31 rfl rfl hi hd k
theorem wfsA_25 {i : Int32} {v : Int32} (S : CallFix p m c cc nL s args uG own) (X : gX (dC, dI) (tF kc) (wF x q9 ad kc sv sa va) Z A s σ H locs) (hi : vp_in i 700) (hd : decode cc pc = .ok (.iastore, 1))
    (k : ∀ (H : Heap) (locs : List Loc), gX (dC, dI) (tF kc) (wF x q9 ad kc sv sa va) Z A s (pA σ 25 i v) H locs → W p l e R s m args below meth c H locs cells slots Q (F0 m (pc + 1) ls (rest))) : W p l e R s m args below meth c H locs cells slots Q (F0 m pc ls (.int v :: .int i :: .ref (ad 43) :: rest)) := by
  obtain ⟨hx, hb, hml, hown, hu⟩ := S
  obtain ⟨hK, hP, hD, hS, hA⟩ := X
  exact va_iast hx hb hK hP hD hS 43 31 rfl rfl hi hd (fun H1 locs1 hP1 hD1 hS1 => k H1 locs1 ⟨hK, hP1, hD1, hS1, hA⟩)
theorem wfnA_25 (S : CallFix p m c cc nL s args uG own) (X : gX (dC, dI) (tF kc) (wF x q9 ad kc sv sa va) Z A s σ H locs) (hd : decode cc pc = .ok (.arraylength, 1))
    (k : W p l e R s m args below meth c H locs cells slots Q (F0 m (pc + 1) ls (.int 700 :: rest))) : W p l e R s m args below meth c H locs cells slots Q (F0 m pc ls (.ref (ad 43) :: rest)) := by
  obtain ⟨hx, hb, hml, hown, hu⟩ := S
  obtain ⟨hK, hP, hD, hS, hA⟩ := X
  exact va_alen (v := 700) hx hb hK hP 43 31 rfl rfl (show Int32.ofNat 700 = 700 by decide) hd k
theorem wflA_26 {i : Int32} {v : Int32} (S : CallFix p m c cc nL s args uG own) (X : gX (dC, dI) (tF kc) (wF x q9 ad kc sv sa va) Z A s σ H locs) (hi : vp_in i 700) (hv : xA σ 26 i = v) (hd : decode cc pc = .ok (.iaload, 1))
    (k : W p l e R s m args below meth c H locs cells slots Q (F0 m (pc + 1) ls (.int v :: rest))) : W p l e R s m args below meth c H locs cells slots Q (F0 m pc ls (.int i :: .ref (ad 44) :: rest)) := by
  subst hv
  obtain ⟨hx, hb, hml, hown, hu⟩ := S
  obtain ⟨hK, hP, hD, hS, hA⟩ := X
  exact va_iald hx hb hK hP 44 32 rfl rfl hi hd k
theorem wfsA_26 {i : Int32} {v : Int32} (S : CallFix p m c cc nL s args uG own) (X : gX (dC, dI) (tF kc) (wF x q9 ad kc sv sa va) Z A s σ H locs) (hi : vp_in i 700) (hd : decode cc pc = .ok (.iastore, 1))
    (k : ∀ (H : Heap) (locs : List Loc), gX (dC, dI) (tF kc) (wF x q9 ad kc sv sa va) Z A s (pA σ 26 i v) H locs → W p l e R s m args below meth c H locs cells slots Q (F0 m (pc + 1) ls (rest))) : W p l e R s m args below meth c H locs cells slots Q (F0 m pc ls (.int v :: .int i :: .ref (ad 44) :: rest)) := by
  obtain ⟨hx, hb, hml, hown, hu⟩ := S
  obtain ⟨hK, hP, hD, hS, hA⟩ := X
  exact va_iast hx hb hK hP hD hS 44 32 rfl rfl hi hd (fun H1 locs1 hP1 hD1 hS1 => k H1 locs1 ⟨hK, hP1, hD1, hS1, hA⟩)
theorem wfnA_26 (S : CallFix p m c cc nL s args uG own) (X : gX (dC, dI) (tF kc) (wF x q9 ad kc sv sa va) Z A s σ H locs) (hd : decode cc pc = .ok (.arraylength, 1))
    (k : W p l e R s m args below meth c H locs cells slots Q (F0 m (pc + 1) ls (.int 700 :: rest))) : W p l e R s m args below meth c H locs cells slots Q (F0 m pc ls (.ref (ad 44) :: rest)) := by
  obtain ⟨hx, hb, hml, hown, hu⟩ := S
  obtain ⟨hK, hP, hD, hS, hA⟩ := X
  exact va_alen (v := 700) hx hb hK hP 44 32 rfl rfl (show Int32.ofNat 700 = 700 by decide) hd k
theorem wflB_4 {i : Int32} {v : Int64} (S : CallFix p m c cc nL s args uG own) (X : gX (dC, dI) (tF kc) (wF x q9 ad kc sv sa va) Z A s σ H locs) (hi : vp_in i 600) (hv : xB σ 4 i = v) (hd : decode cc pc = .ok (.laload, 1))
    (k : W p l e R s m args below meth c H locs cells slots Q (F0 m (pc + 1) ls (.long v :: rest))) : W p l e R s m args below meth c H locs cells slots Q (F0 m pc ls (.int i :: .ref (ad 45) :: rest)) := by
  subst hv
  obtain ⟨hx, hb, hml, hown, hu⟩ := S
  obtain ⟨hK, hP, hD, hS, hA⟩ := X
  exact va_lald hx hb hK hP 45 33 rfl rfl hi hd k
theorem wfsB_4 {i : Int32} {v : Int64} (S : CallFix p m c cc nL s args uG own) (X : gX (dC, dI) (tF kc) (wF x q9 ad kc sv sa va) Z A s σ H locs) (hi : vp_in i 600) (hd : decode cc pc = .ok (.lastore, 1))
    (k : ∀ (H : Heap) (locs : List Loc), gX (dC, dI) (tF kc) (wF x q9 ad kc sv sa va) Z A s (pB σ 4 i v) H locs → W p l e R s m args below meth c H locs cells slots Q (F0 m (pc + 1) ls (rest))) : W p l e R s m args below meth c H locs cells slots Q (F0 m pc ls (.long v :: .int i :: .ref (ad 45) :: rest)) := by
  obtain ⟨hx, hb, hml, hown, hu⟩ := S
  obtain ⟨hK, hP, hD, hS, hA⟩ := X
  exact va_last hx hb hK hP hD hS 45 33 rfl rfl hi hd (fun H1 locs1 hP1 hD1 hS1 => k H1 locs1 ⟨hK, hP1, hD1, hS1, hA⟩)
theorem wfnB_4 (S : CallFix p m c cc nL s args uG own) (X : gX (dC, dI) (tF kc) (wF x q9 ad kc sv sa va) Z A s σ H locs) (hd : decode cc pc = .ok (.arraylength, 1))
    (k : W p l e R s m args below meth c H locs cells slots Q (F0 m (pc + 1) ls (.int 600 :: rest))) : W p l e R s m args below meth c H locs cells slots Q (F0 m pc ls (.ref (ad 45) :: rest)) := by
  obtain ⟨hx, hb, hml, hown, hu⟩ := S
  obtain ⟨hK, hP, hD, hS, hA⟩ := X
  exact va_alen (v := 600) hx hb hK hP 45 33 rfl rfl (show Int32.ofNat 600 = 600 by decide) hd k
theorem wflA_27 {i : Int32} {v : Int32} (S : CallFix p m c cc nL s args uG own) (X : gX (dC, dI) (tF kc) (wF x q9 ad kc sv sa va) Z A s σ H locs) (hi : vp_in i 600) (hv : xA σ 27 i = v) (hd : decode cc pc = .ok (.iaload, 1))
    (k : W p l e R s m args below meth c H locs cells slots Q (F0 m (pc + 1) ls (.int v :: rest))) : W p l e R s m args below meth c H locs cells slots Q (F0 m pc ls (.int i :: .ref (ad 46) :: rest)) := by
  subst hv
  obtain ⟨hx, hb, hml, hown, hu⟩ := S
  obtain ⟨hK, hP, hD, hS, hA⟩ := X
  exact va_iald hx hb hK hP 46 34 rfl rfl hi hd k
theorem wfsA_27 {i : Int32} {v : Int32} (S : CallFix p m c cc nL s args uG own) (X : gX (dC, dI) (tF kc) (wF x q9 ad kc sv sa va) Z A s σ H locs) (hi : vp_in i 600) (hd : decode cc pc = .ok (.iastore, 1))
    (k : ∀ (H : Heap) (locs : List Loc), gX (dC, dI) (tF kc) (wF x q9 ad kc sv sa va) Z A s (pA σ 27 i v) H locs → W p l e R s m args below meth c H locs cells slots Q (F0 m (pc + 1) ls (rest))) : W p l e R s m args below meth c H locs cells slots Q (F0 m pc ls (.int v :: .int i :: .ref (ad 46) :: rest)) := by
  obtain ⟨hx, hb, hml, hown, hu⟩ := S
  obtain ⟨hK, hP, hD, hS, hA⟩ := X
  exact va_iast hx hb hK hP hD hS 46 34 rfl rfl hi hd (fun H1 locs1 hP1 hD1 hS1 => k H1 locs1 ⟨hK, hP1, hD1, hS1, hA⟩)
theorem wfnA_27 (S : CallFix p m c cc nL s args uG own) (X : gX (dC, dI) (tF kc) (wF x q9 ad kc sv sa va) Z A s σ H locs) (hd : decode cc pc = .ok (.arraylength, 1))
    (k : W p l e R s m args below meth c H locs cells slots Q (F0 m (pc + 1) ls (.int 600 :: rest))) : W p l e R s m args below meth c H locs cells slots Q (F0 m pc ls (.ref (ad 46) :: rest)) := by
  obtain ⟨hx, hb, hml, hown, hu⟩ := S
  obtain ⟨hK, hP, hD, hS, hA⟩ := X
  exact va_alen (v := 600) hx hb hK hP 46 34 rfl rfl (show Int32.ofNat 600 = 600 by decide) hd k
theorem wflA_28 {i : Int32} {v : Int32} (S : CallFix p m c cc nL s args uG own) (X : gX (dC, dI) (tF kc) (wF x q9 ad kc sv sa va) Z A s σ H locs) (hi : vp_in i 600) (hv : xA σ 28 i = v) (hd : decode cc pc = .ok (.iaload, 1))
    (k : W p l e R s m args below meth c H locs cells slots Q (F0 m (pc + 1) ls (.int v :: rest))) : W p l e R s m args below meth c H locs cells slots Q (F0 m pc ls (.int i :: .ref (ad 47) :: rest)) := by
  subst hv
  obtain ⟨hx, hb, hml, hown, hu⟩ := S
  obtain ⟨hK, hP, hD, hS, hA⟩ := X
  exact va_iald hx hb hK hP 47 35 rfl rfl hi hd k
theorem wfsA_28 {i : Int32} {v : Int32} (S : CallFix p m c cc nL s args uG own) (X : gX (dC, dI) (tF kc) (wF x q9 ad kc sv sa va) Z A s σ H locs) (hi : vp_in i 600) (hd : decode cc pc = .ok (.iastore, 1))
    (k : ∀ (H : Heap) (locs : List Loc), gX (dC, dI) (tF kc) (wF x q9 ad kc sv sa va) Z A s (pA σ 28 i v) H locs → W p l e R s m args below meth c H locs cells slots Q (F0 m (pc + 1) ls (rest))) : W p l e R s m args below meth c H locs cells slots Q (F0 m pc ls (.int v :: .int i :: .ref (ad 47) :: rest)) := by
  obtain ⟨hx, hb, hml, hown, hu⟩ := S
  obtain ⟨hK, hP, hD, hS, hA⟩ := X
  exact va_iast hx hb hK hP hD hS 47 35 rfl rfl hi hd (fun H1 locs1 hP1 hD1 hS1 => k H1 locs1 ⟨hK, hP1, hD1, hS1, hA⟩)
theorem wfnA_28 (S : CallFix p m c cc nL s args uG own) (X : gX (dC, dI) (tF kc) (wF x q9 ad kc sv sa va) Z A s σ H locs) (hd : decode cc pc = .ok (.arraylength, 1))
    (k : W p l e R s m args below meth c H locs cells slots Q (F0 m (pc + 1) ls (.int 600 :: rest))) : W p l e R s m args below meth c H locs cells slots Q (F0 m pc ls (.ref (ad 47) :: rest)) := by
  obtain ⟨hx, hb, hml, hown, hu⟩ := S
  obtain ⟨hK, hP, hD, hS, hA⟩ := X
  exact va_alen (v := 600) hx hb hK hP 47 35 rfl rfl (show Int32.ofNat 600 = 600 by decide) hd k
theorem wflA_29 {i : Int32} {v : Int32} (S : CallFix p m c cc nL s args uG own) (X : gX (dC, dI) (tF kc) (wF x q9 ad kc sv sa va) Z A s σ H locs) (hi : vp_in i 600) (hv : xA σ 29 i = v) (hd : decode cc pc = .ok (.iaload, 1))
    (k : W p l e R s m args below meth c H locs cells slots Q (F0 m (pc + 1) ls (.int v :: rest))) : W p l e R s m args below meth c H locs cells slots Q (F0 m pc ls (.int i :: .ref (ad 48) :: rest)) := by
  subst hv
  obtain ⟨hx, hb, hml, hown, hu⟩ := S
  obtain ⟨hK, hP, hD, hS, hA⟩ := X
  exact va_iald hx hb hK hP 48 36 rfl rfl hi hd k
theorem wfsA_29 {i : Int32} {v : Int32} (S : CallFix p m c cc nL s args uG own) (X : gX (dC, dI) (tF kc) (wF x q9 ad kc sv sa va) Z A s σ H locs) (hi : vp_in i 600) (hd : decode cc pc = .ok (.iastore, 1))
    (k : ∀ (H : Heap) (locs : List Loc), gX (dC, dI) (tF kc) (wF x q9 ad kc sv sa va) Z A s (pA σ 29 i v) H locs → W p l e R s m args below meth c H locs cells slots Q (F0 m (pc + 1) ls (rest))) : W p l e R s m args below meth c H locs cells slots Q (F0 m pc ls (.int v :: .int i :: .ref (ad 48) :: rest)) := by
  obtain ⟨hx, hb, hml, hown, hu⟩ := S
  obtain ⟨hK, hP, hD, hS, hA⟩ := X
  exact va_iast hx hb hK hP hD hS 48 36 rfl rfl hi hd (fun H1 locs1 hP1 hD1 hS1 => k H1 locs1 ⟨hK, hP1, hD1, hS1, hA⟩)
theorem wfnA_29 (S : CallFix p m c cc nL s args uG own) (X : gX (dC, dI) (tF kc) (wF x q9 ad kc sv sa va) Z A s σ H locs) (hd : decode cc pc = .ok (.arraylength, 1))
    (k : W p l e R s m args below meth c H locs cells slots Q (F0 m (pc + 1) ls (.int 600 :: rest))) : W p l e R s m args below meth c H locs cells slots Q (F0 m pc ls (.ref (ad 48) :: rest)) := by
  obtain ⟨hx, hb, hml, hown, hu⟩ := S
  obtain ⟨hK, hP, hD, hS, hA⟩ := X
  exact va_alen (v := 600) hx hb hK hP 48 36 rfl rfl (show Int32.ofNat 600 = 600 by decide) hd k
theorem wflA_30 {i : Int32} {v : Int32} (S : CallFix p m c cc nL s args uG own) (X : gX (dC, dI) (tF kc) (wF x q9 ad kc sv sa va) Z A s σ H locs) (hi : vp_in i 600) (hv : xA σ 30 i = v) (hd : decode cc pc = .ok (.iaload, 1))
    (k : W p l e R s m args below meth c H locs cells slots Q (F0 m (pc + 1) ls (.int v :: rest))) : W p l e R s m args below meth c H locs cells slots Q (F0 m pc ls (.int i :: .ref (ad 49) :: rest)) := by
  subst hv
  obtain ⟨hx, hb, hml, hown, hu⟩ := S
  obtain ⟨hK, hP, hD, hS, hA⟩ := X
  exact va_iald hx hb hK hP 49 37 rfl rfl hi hd k
theorem wfsA_30 {i : Int32} {v : Int32} (S : CallFix p m c cc nL s args uG own) (X : gX (dC, dI) (tF kc) (wF x q9 ad kc sv sa va) Z A s σ H locs) (hi : vp_in i 600) (hd : decode cc pc = .ok (.iastore, 1))
    (k : ∀ (H : Heap) (locs : List Loc), gX (dC, dI) (tF kc) (wF x q9 ad kc sv sa va) Z A s (pA σ 30 i v) H locs → W p l e R s m args below meth c H locs cells slots Q (F0 m (pc + 1) ls (rest))) : W p l e R s m args below meth c H locs cells slots Q (F0 m pc ls (.int v :: .int i :: .ref (ad 49) :: rest)) := by
  obtain ⟨hx, hb, hml, hown, hu⟩ := S
  obtain ⟨hK, hP, hD, hS, hA⟩ := X
  exact va_iast hx hb hK hP hD hS 49 37 rfl rfl hi hd (fun H1 locs1 hP1 hD1 hS1 => k H1 locs1 ⟨hK, hP1, hD1, hS1, hA⟩)
theorem wfnA_30 (S : CallFix p m c cc nL s args uG own) (X : gX (dC, dI) (tF kc) (wF x q9 ad kc sv sa va) Z A s σ H locs) (hd : decode cc pc = .ok (.arraylength, 1))
    (k : W p l e R s m args below meth c H locs cells slots Q (F0 m (pc + 1) ls (.int 600 :: rest))) : W p l e R s m args below meth c H locs cells slots Q (F0 m pc ls (.ref (ad 49) :: rest)) := by
  obtain ⟨hx, hb, hml, hown, hu⟩ := S
  obtain ⟨hK, hP, hD, hS, hA⟩ := X
  exact va_alen (v := 600) hx hb hK hP 49 37 rfl rfl (show Int32.ofNat 600 = 600 by decide) hd k
theorem wflB_5 {i : Int32} {v : Int64} (S : CallFix p m c cc nL s args uG own) (X : gX (dC, dI) (tF kc) (wF x q9 ad kc sv sa va) Z A s σ H locs) (hi : vp_in i 2520) (hv : xB σ 5 i = v) (hd : decode cc pc = .ok (.laload, 1))
    (k : W p l e R s m args below meth c H locs cells slots Q (F0 m (pc + 1) ls (.long v :: rest))) : W p l e R s m args below meth c H locs cells slots Q (F0 m pc ls (.int i :: .ref (ad 50) :: rest)) := by
  subst hv
  obtain ⟨hx, hb, hml, hown, hu⟩ := S
  obtain ⟨hK, hP, hD, hS, hA⟩ := X
  exact va_lald hx hb hK hP 50 38 rfl rfl hi hd k
theorem wfsB_5 {i : Int32} {v : Int64} (S : CallFix p m c cc nL s args uG own) (X : gX (dC, dI) (tF kc) (wF x q9 ad kc sv sa va) Z A s σ H locs) (hi : vp_in i 2520) (hd : decode cc pc = .ok (.lastore, 1))
    (k : ∀ (H : Heap) (locs : List Loc), gX (dC, dI) (tF kc) (wF x q9 ad kc sv sa va) Z A s (pB σ 5 i v) H locs → W p l e R s m args below meth c H locs cells slots Q (F0 m (pc + 1) ls (rest))) : W p l e R s m args below meth c H locs cells slots Q (F0 m pc ls (.long v :: .int i :: .ref (ad 50) :: rest)) := by
  obtain ⟨hx, hb, hml, hown, hu⟩ := S
  obtain ⟨hK, hP, hD, hS, hA⟩ := X
  exact va_last hx hb hK hP hD hS 50 38 rfl rfl hi hd (fun H1 locs1 hP1 hD1 hS1 => k H1 locs1 ⟨hK, hP1, hD1, hS1, hA⟩)
theorem wfnB_5 (S : CallFix p m c cc nL s args uG own) (X : gX (dC, dI) (tF kc) (wF x q9 ad kc sv sa va) Z A s σ H locs) (hd : decode cc pc = .ok (.arraylength, 1))
    (k : W p l e R s m args below meth c H locs cells slots Q (F0 m (pc + 1) ls (.int 2520 :: rest))) : W p l e R s m args below meth c H locs cells slots Q (F0 m pc ls (.ref (ad 50) :: rest)) := by
  obtain ⟨hx, hb, hml, hown, hu⟩ := S
  obtain ⟨hK, hP, hD, hS, hA⟩ := X
  exact va_alen (v := 2520) hx hb hK hP 50 38 rfl rfl (show Int32.ofNat 2520 = 2520 by decide) hd k
theorem wflB_6 {i : Int32} {v : Int64} (S : CallFix p m c cc nL s args uG own) (X : gX (dC, dI) (tF kc) (wF x q9 ad kc sv sa va) Z A s σ H locs) (hi : vp_in i 40) (hv : xB σ 6 i = v) (hd : decode cc pc = .ok (.laload, 1))
    (k : W p l e R s m args below meth c H locs cells slots Q (F0 m (pc + 1) ls (.long v :: rest))) : W p l e R s m args below meth c H locs cells slots Q (F0 m pc ls (.int i :: .ref (ad 51) :: rest)) := by
  subst hv
  obtain ⟨hx, hb, hml, hown, hu⟩ := S
  obtain ⟨hK, hP, hD, hS, hA⟩ := X
  exact va_lald hx hb hK hP 51 39 rfl rfl hi hd k
theorem wfsB_6 {i : Int32} {v : Int64} (S : CallFix p m c cc nL s args uG own) (X : gX (dC, dI) (tF kc) (wF x q9 ad kc sv sa va) Z A s σ H locs) (hi : vp_in i 40) (hd : decode cc pc = .ok (.lastore, 1))
    (k : ∀ (H : Heap) (locs : List Loc), gX (dC, dI) (tF kc) (wF x q9 ad kc sv sa va) Z A s (pB σ 6 i v) H locs → W p l e R s m args below meth c H locs cells slots Q (F0 m (pc + 1) ls (rest))) : W p l e R s m args below meth c H locs cells slots Q (F0 m pc ls (.long v :: .int i :: .ref (ad 51) :: rest)) := by
  obtain ⟨hx, hb, hml, hown, hu⟩ := S
  obtain ⟨hK, hP, hD, hS, hA⟩ := X
  exact va_last hx hb hK hP hD hS 51 39 rfl rfl hi hd (fun H1 locs1 hP1 hD1 hS1 => k H1 locs1 ⟨hK, hP1, hD1, hS1, hA⟩)
theorem wfnB_6 (S : CallFix p m c cc nL s args uG own) (X : gX (dC, dI) (tF kc) (wF x q9 ad kc sv sa va) Z A s σ H locs) (hd : decode cc pc = .ok (.arraylength, 1))
    (k : W p l e R s m args below meth c H locs cells slots Q (F0 m (pc + 1) ls (.int 40 :: rest))) : W p l e R s m args below meth c H locs cells slots Q (F0 m pc ls (.ref (ad 51) :: rest)) := by
  obtain ⟨hx, hb, hml, hown, hu⟩ := S
  obtain ⟨hK, hP, hD, hS, hA⟩ := X
  exact va_alen (v := 40) hx hb hK hP 51 39 rfl rfl (show Int32.ofNat 40 = 40 by decide) hd k
theorem wflB_7 {i : Int32} {v : Int64} (S : CallFix p m c cc nL s args uG own) (X : gX (dC, dI) (tF kc) (wF x q9 ad kc sv sa va) Z A s σ H locs) (hi : vp_in i 328) (hv : xB σ 7 i = v) (hd : decode cc pc = .ok (.laload, 1))
    (k : W p l e R s m args below meth c H locs cells slots Q (F0 m (pc + 1) ls (.long v :: rest))) : W p l e R s m args below meth c H locs cells slots Q (F0 m pc ls (.int i :: .ref (ad 52) :: rest)) := by
  subst hv
  obtain ⟨hx, hb, hml, hown, hu⟩ := S
  obtain ⟨hK, hP, hD, hS, hA⟩ := X
  exact va_lald hx hb hK hP 52 40 rfl rfl hi hd k
theorem wfsB_7 {i : Int32} {v : Int64} (S : CallFix p m c cc nL s args uG own) (X : gX (dC, dI) (tF kc) (wF x q9 ad kc sv sa va) Z A s σ H locs) (hi : vp_in i 328) (hd : decode cc pc = .ok (.lastore, 1))
    (k : ∀ (H : Heap) (locs : List Loc), gX (dC, dI) (tF kc) (wF x q9 ad kc sv sa va) Z A s (pB σ 7 i v) H locs → W p l e R s m args below meth c H locs cells slots Q (F0 m (pc + 1) ls (rest))) : W p l e R s m args below meth c H locs cells slots Q (F0 m pc ls (.long v :: .int i :: .ref (ad 52) :: rest)) := by
  obtain ⟨hx, hb, hml, hown, hu⟩ := S
  obtain ⟨hK, hP, hD, hS, hA⟩ := X
  exact va_last hx hb hK hP hD hS 52 40 rfl rfl hi hd (fun H1 locs1 hP1 hD1 hS1 => k H1 locs1 ⟨hK, hP1, hD1, hS1, hA⟩)
theorem wfnB_7 (S : CallFix p m c cc nL s args uG own) (X : gX (dC, dI) (tF kc) (wF x q9 ad kc sv sa va) Z A s σ H locs) (hd : decode cc pc = .ok (.arraylength, 1))
    (k : W p l e R s m args below meth c H locs cells slots Q (F0 m (pc + 1) ls (.int 328 :: rest))) : W p l e R s m args below meth c H locs cells slots Q (F0 m pc ls (.ref (ad 52) :: rest)) := by
  obtain ⟨hx, hb, hml, hown, hu⟩ := S
  obtain ⟨hK, hP, hD, hS, hA⟩ := X
  exact va_alen (v := 328) hx hb hK hP 52 40 rfl rfl (show Int32.ofNat 328 = 328 by decide) hd k
theorem wfgR_53_0 {idx : Nat} (S : CallFix p m c cc nL s args uG own) (X : gX (dC, dI) (tF kc) (wF x q9 ad kc sv sa va) Z A s σ H locs) (hf : Cond.fieldLink own idx "LazyForge$Machine" "tree" "LLazyForge$Tree;" ∈ uG) (hd : decode cc pc = .ok (.getfield idx, 3))
    (k : W p l e R s m args below meth c H locs cells slots Q (F0 m (pc + 3) ls (.ref (ad 7) :: rest))) : W p l e R s m args below meth c H locs cells slots Q (F0 m pc ls (.ref (ad 53) :: rest)) := by
  obtain ⟨hx, hb, hml, hown, hu⟩ := S
  obtain ⟨hK, hP, hD, hS, hA⟩ := X
  exact va_get (D := (dC, dI)) (ci := 6) (v := .ref (ad 7)) (C := RX3) (T := TX3) (N := 18) hx hb hu iuX3 hown hK hP 53 rfl rfl 0 (by decide) (hu _ hf) (fun _ h9 => h9) rfl hd k
theorem wfgR_53_1 {idx : Nat} (S : CallFix p m c cc nL s args uG own) (X : gX (dC, dI) (tF kc) (wF x q9 ad kc sv sa va) Z A s σ H locs) (hf : Cond.fieldLink own idx "LazyForge$Machine" "program" "LLazyForge$Program;" ∈ uG) (hd : decode cc pc = .ok (.getfield idx, 3))
    (k : W p l e R s m args below meth c H locs cells slots Q (F0 m (pc + 3) ls (.ref (ad 6) :: rest))) : W p l e R s m args below meth c H locs cells slots Q (F0 m pc ls (.ref (ad 53) :: rest)) := by
  obtain ⟨hx, hb, hml, hown, hu⟩ := S
  obtain ⟨hK, hP, hD, hS, hA⟩ := X
  exact va_get (D := (dC, dI)) (ci := 6) (v := .ref (ad 6)) (C := RX3) (T := TX3) (N := 18) hx hb hu iuX3 hown hK hP 53 rfl rfl 1 (by decide) (hu _ hf) (fun _ h9 => h9) rfl hd k
theorem wfgR_53_2 {idx : Nat} (S : CallFix p m c cc nL s args uG own) (X : gX (dC, dI) (tF kc) (wF x q9 ad kc sv sa va) Z A s σ H locs) (hf : Cond.fieldLink own idx "LazyForge$Machine" "counts" "[I" ∈ uG) (hd : decode cc pc = .ok (.getfield idx, 3))
    (k : W p l e R s m args below meth c H locs cells slots Q (F0 m (pc + 3) ls (.ref (ad 55) :: rest))) : W p l e R s m args below meth c H locs cells slots Q (F0 m pc ls (.ref (ad 53) :: rest)) := by
  obtain ⟨hx, hb, hml, hown, hu⟩ := S
  obtain ⟨hK, hP, hD, hS, hA⟩ := X
  exact va_get (D := (dC, dI)) (ci := 6) (v := .ref (ad 55)) (C := RX3) (T := TX3) (N := 18) hx hb hu iuX3 hown hK hP 53 rfl rfl 2 (by decide) (hu _ hf) (fun _ h9 => h9) rfl hd k
theorem wfgR_53_3 {idx : Nat} (S : CallFix p m c cc nL s args uG own) (X : gX (dC, dI) (tF kc) (wF x q9 ad kc sv sa va) Z A s σ H locs) (hf : Cond.fieldLink own idx "LazyForge$Machine" "timesCalled" "[I" ∈ uG) (hd : decode cc pc = .ok (.getfield idx, 3))
    (k : W p l e R s m args below meth c H locs cells slots Q (F0 m (pc + 3) ls (.ref (ad 56) :: rest))) : W p l e R s m args below meth c H locs cells slots Q (F0 m pc ls (.ref (ad 53) :: rest)) := by
  obtain ⟨hx, hb, hml, hown, hu⟩ := S
  obtain ⟨hK, hP, hD, hS, hA⟩ := X
  exact va_get (D := (dC, dI)) (ci := 6) (v := .ref (ad 56)) (C := RX3) (T := TX3) (N := 18) hx hb hu iuX3 hown hK hP 53 rfl rfl 3 (by decide) (hu _ hf) (fun _ h9 => h9) rfl hd k
theorem wfgR_53_4 {idx : Nat} (S : CallFix p m c cc nL s args uG own) (X : gX (dC, dI) (tF kc) (wF x q9 ad kc sv sa va) Z A s σ H locs) (hf : Cond.fieldLink own idx "LazyForge$Machine" "row" "[I" ∈ uG) (hd : decode cc pc = .ok (.getfield idx, 3))
    (k : W p l e R s m args below meth c H locs cells slots Q (F0 m (pc + 3) ls (.ref (ad 57) :: rest))) : W p l e R s m args below meth c H locs cells slots Q (F0 m pc ls (.ref (ad 53) :: rest)) := by
  obtain ⟨hx, hb, hml, hown, hu⟩ := S
  obtain ⟨hK, hP, hD, hS, hA⟩ := X
  exact va_get (D := (dC, dI)) (ci := 6) (v := .ref (ad 57)) (C := RX3) (T := TX3) (N := 18) hx hb hu iuX3 hown hK hP 53 rfl rfl 4 (by decide) (hu _ hf) (fun _ h9 => h9) rfl hd k
theorem wfgR_53_5 {idx : Nat} (S : CallFix p m c cc nL s args uG own) (X : gX (dC, dI) (tF kc) (wF x q9 ad kc sv sa va) Z A s σ H locs) (hf : Cond.fieldLink own idx "LazyForge$Machine" "global" "[I" ∈ uG) (hd : decode cc pc = .ok (.getfield idx, 3))
    (k : W p l e R s m args below meth c H locs cells slots Q (F0 m (pc + 3) ls (.ref (ad 58) :: rest))) : W p l e R s m args below meth c H locs cells slots Q (F0 m pc ls (.ref (ad 53) :: rest)) := by
  obtain ⟨hx, hb, hml, hown, hu⟩ := S
  obtain ⟨hK, hP, hD, hS, hA⟩ := X
  exact va_get (D := (dC, dI)) (ci := 6) (v := .ref (ad 58)) (C := RX3) (T := TX3) (N := 18) hx hb hu iuX3 hown hK hP 53 rfl rfl 5 (by decide) (hu _ hf) (fun _ h9 => h9) rfl hd k
theorem wfgR_53_6 {idx : Nat} (S : CallFix p m c cc nL s args uG own) (X : gX (dC, dI) (tF kc) (wF x q9 ad kc sv sa va) Z A s σ H locs) (hf : Cond.fieldLink own idx "LazyForge$Machine" "cells" "LLazyForge$Cells;" ∈ uG) (hd : decode cc pc = .ok (.getfield idx, 3))
    (k : W p l e R s m args below meth c H locs cells slots Q (F0 m (pc + 3) ls (.ref (ad 54) :: rest))) : W p l e R s m args below meth c H locs cells slots Q (F0 m pc ls (.ref (ad 53) :: rest)) := by
  obtain ⟨hx, hb, hml, hown, hu⟩ := S
  obtain ⟨hK, hP, hD, hS, hA⟩ := X
  exact va_get (D := (dC, dI)) (ci := 6) (v := .ref (ad 54)) (C := RX3) (T := TX3) (N := 18) hx hb hu iuX3 hown hK hP 53 rfl rfl 6 (by decide) (hu _ hf) (fun _ h9 => h9) rfl hd k
theorem wfgR_53_7 {idx : Nat} (S : CallFix p m c cc nL s args uG own) (X : gX (dC, dI) (tF kc) (wF x q9 ad kc sv sa va) Z A s σ H locs) (hf : Cond.fieldLink own idx "LazyForge$Machine" "stack" "[J" ∈ uG) (hd : decode cc pc = .ok (.getfield idx, 3))
    (k : W p l e R s m args below meth c H locs cells slots Q (F0 m (pc + 3) ls (.ref sa :: rest))) : W p l e R s m args below meth c H locs cells slots Q (F0 m pc ls (.ref (ad 53) :: rest)) := by
  obtain ⟨hx, hb, hml, hown, hu⟩ := S
  obtain ⟨hK, hP, hD, hS, hA⟩ := X
  exact va_get (D := (dC, dI)) (ci := 6) (v := .ref sa) (C := RX3) (T := TX3) (N := 18) hx hb hu iuX3 hown hK hP 53 rfl rfl 7 (by decide) (hu _ hf) (fun _ h9 => h9) rfl hd k
theorem wfgI_40 {idx : Nat} (S : CallFix p m c cc nL s args uG own) (X : gX (dC, dI) (tF kc) (wF x q9 ad kc sv sa va) Z A s σ H locs) (hf : Cond.fieldLink own idx "LazyForge$Machine" "top" "I" ∈ uG) {v : Int32} (hv : gI σ 40 = v) (hd : decode cc pc = .ok (.getfield idx, 3))
    (k : W p l e R s m args below meth c H locs cells slots Q (F0 m (pc + 3) ls (.int v :: rest))) : W p l e R s m args below meth c H locs cells slots Q (F0 m pc ls (.ref (ad 53) :: rest)) := by
  subst hv
  obtain ⟨hx, hb, hml, hown, hu⟩ := S
  obtain ⟨hK, hP, hD, hS, hA⟩ := X
  exact va_get (D := (dC, dI)) (ci := 6) (v := .int (gI σ 40)) (C := RX3) (T := TX3) (N := 18) hx hb hu iuX3 hown hK hP 53 rfl rfl 8 (by decide) (hu _ hf) (fun _ h9 => h9) rfl hd k
theorem wfpI_40 {idx : Nat} {v : Int32} (S : CallFix p m c cc nL s args uG own) (X : gX (dC, dI) (tF kc) (wF x q9 ad kc sv sa va) Z A s σ H locs) (hf : Cond.fieldLink own idx "LazyForge$Machine" "top" "I" ∈ uG) (hd : decode cc pc = .ok (.putfield idx, 3))
    (k : ∀ (H : Heap) (locs : List Loc), gX (dC, dI) (tF kc) (wF x q9 ad kc sv sa va) Z A s (pI σ 40 v) H locs → W p l e R s m args below meth c H locs cells slots Q (F0 m (pc + 3) ls (rest))) : W p l e R s m args below meth c H locs cells slots Q (F0 m pc ls (.int v :: .ref (ad 53) :: rest)) := by
  obtain ⟨hx, hb, hml, hown, hu⟩ := S
  obtain ⟨hK, hP, hD, hS, hA⟩ := X
  exact va_put (D := (dC, dI)) (ci := 6) (v := .int v) (ty := (tyX3 8)) (C := RX3) (T := TX3) (N := 18) hx hb hu iuX3 tyX3 tyX3_ok nmX3 hown hK hP hD hS 53 rfl rfl 8 (by decide) (hu _ hf) (fun _ h9 => h9) rfl (by decide +kernel) (rfl) (rfl) (Nat.le_of_ble_eq_true rfl) hd (fun H1 locs1 hP1 hD1 hS1 => k H1 locs1 ⟨hK, hP1, hD1, hS1, hA⟩)
theorem wfgR_53_9 {idx : Nat} (S : CallFix p m c cc nL s args uG own) (X : gX (dC, dI) (tF kc) (wF x q9 ad kc sv sa va) Z A s σ H locs) (hf : Cond.fieldLink own idx "LazyForge$Machine" "variables" "[J" ∈ uG) (hd : decode cc pc = .ok (.getfield idx, 3))
    (k : W p l e R s m args below meth c H locs cells slots Q (F0 m (pc + 3) ls (.ref va :: rest))) : W p l e R s m args below meth c H locs cells slots Q (F0 m pc ls (.ref (ad 53) :: rest)) := by
  obtain ⟨hx, hb, hml, hown, hu⟩ := S
  obtain ⟨hK, hP, hD, hS, hA⟩ := X
  exact va_get (D := (dC, dI)) (ci := 6) (v := .ref va) (C := RX3) (T := TX3) (N := 18) hx hb hu iuX3 hown hK hP 53 rfl rfl 9 (by decide) (hu _ hf) (fun _ h9 => h9) rfl hd k
theorem wfgI_41 {idx : Nat} (S : CallFix p m c cc nL s args uG own) (X : gX (dC, dI) (tF kc) (wF x q9 ad kc sv sa va) Z A s σ H locs) (hf : Cond.fieldLink own idx "LazyForge$Machine" "base" "I" ∈ uG) {v : Int32} (hv : gI σ 41 = v) (hd : decode cc pc = .ok (.getfield idx, 3))
    (k : W p l e R s m args below meth c H locs cells slots Q (F0 m (pc + 3) ls (.int v :: rest))) : W p l e R s m args below meth c H locs cells slots Q (F0 m pc ls (.ref (ad 53) :: rest)) := by
  subst hv
  obtain ⟨hx, hb, hml, hown, hu⟩ := S
  obtain ⟨hK, hP, hD, hS, hA⟩ := X
  exact va_get (D := (dC, dI)) (ci := 6) (v := .int (gI σ 41)) (C := RX3) (T := TX3) (N := 18) hx hb hu iuX3 hown hK hP 53 rfl rfl 10 (by decide) (hu _ hf) (fun _ h9 => h9) rfl hd k
theorem wfpI_41 {idx : Nat} {v : Int32} (S : CallFix p m c cc nL s args uG own) (X : gX (dC, dI) (tF kc) (wF x q9 ad kc sv sa va) Z A s σ H locs) (hf : Cond.fieldLink own idx "LazyForge$Machine" "base" "I" ∈ uG) (hd : decode cc pc = .ok (.putfield idx, 3))
    (k : ∀ (H : Heap) (locs : List Loc), gX (dC, dI) (tF kc) (wF x q9 ad kc sv sa va) Z A s (pI σ 41 v) H locs → W p l e R s m args below meth c H locs cells slots Q (F0 m (pc + 3) ls (rest))) : W p l e R s m args below meth c H locs cells slots Q (F0 m pc ls (.int v :: .ref (ad 53) :: rest)) := by
  obtain ⟨hx, hb, hml, hown, hu⟩ := S
  obtain ⟨hK, hP, hD, hS, hA⟩ := X
  exact va_put (D := (dC, dI)) (ci := 6) (v := .int v) (ty := (tyX3 10)) (C := RX3) (T := TX3) (N := 18) hx hb hu iuX3 tyX3 tyX3_ok nmX3 hown hK hP hD hS 53 rfl rfl 10 (by decide) (hu _ hf) (fun _ h9 => h9) rfl (by decide +kernel) (rfl) (rfl) (Nat.le_of_ble_eq_true rfl) hd (fun H1 locs1 hP1 hD1 hS1 => k H1 locs1 ⟨hK, hP1, hD1, hS1, hA⟩)
theorem wfgI_42 {idx : Nat} (S : CallFix p m c cc nL s args uG own) (X : gX (dC, dI) (tF kc) (wF x q9 ad kc sv sa va) Z A s σ H locs) (hf : Cond.fieldLink own idx "LazyForge$Machine" "edge" "I" ∈ uG) {v : Int32} (hv : gI σ 42 = v) (hd : decode cc pc = .ok (.getfield idx, 3))
    (k : W p l e R s m args below meth c H locs cells slots Q (F0 m (pc + 3) ls (.int v :: rest))) : W p l e R s m args below meth c H locs cells slots Q (F0 m pc ls (.ref (ad 53) :: rest)) := by
  subst hv
  obtain ⟨hx, hb, hml, hown, hu⟩ := S
  obtain ⟨hK, hP, hD, hS, hA⟩ := X
  exact va_get (D := (dC, dI)) (ci := 6) (v := .int (gI σ 42)) (C := RX3) (T := TX3) (N := 18) hx hb hu iuX3 hown hK hP 53 rfl rfl 11 (by decide) (hu _ hf) (fun _ h9 => h9) rfl hd k
theorem wfpI_42 {idx : Nat} {v : Int32} (S : CallFix p m c cc nL s args uG own) (X : gX (dC, dI) (tF kc) (wF x q9 ad kc sv sa va) Z A s σ H locs) (hf : Cond.fieldLink own idx "LazyForge$Machine" "edge" "I" ∈ uG) (hd : decode cc pc = .ok (.putfield idx, 3))
    (k : ∀ (H : Heap) (locs : List Loc), gX (dC, dI) (tF kc) (wF x q9 ad kc sv sa va) Z A s (pI σ 42 v) H locs → W p l e R s m args below meth c H locs cells slots Q (F0 m (pc + 3) ls (rest))) : W p l e R s m args below meth c H locs cells slots Q (F0 m pc ls (.int v :: .ref (ad 53) :: rest)) := by
  obtain ⟨hx, hb, hml, hown, hu⟩ := S
  obtain ⟨hK, hP, hD, hS, hA⟩ := X
  exact va_put (D := (dC, dI)) (ci := 6) (v := .int v) (ty := (tyX3 11)) (C := RX3) (T := TX3) (N := 18) hx hb hu iuX3 tyX3 tyX3_ok nmX3 hown hK hP hD hS 53 rfl rfl 11 (by decide) (hu _ hf) (fun _ h9 => h9) rfl (by decide +kernel) (rfl) (rfl) (Nat.le_of_ble_eq_true rfl) hd (fun H1 locs1 hP1 hD1 hS1 => k H1 locs1 ⟨hK, hP1, hD1, hS1, hA⟩)
theorem wfgI_43 {idx : Nat} (S : CallFix p m c cc nL s args uG own) (X : gX (dC, dI) (tF kc) (wF x q9 ad kc sv sa va) Z A s σ H locs) (hf : Cond.fieldLink own idx "LazyForge$Machine" "function" "I" ∈ uG) {v : Int32} (hv : gI σ 43 = v) (hd : decode cc pc = .ok (.getfield idx, 3))
    (k : W p l e R s m args below meth c H locs cells slots Q (F0 m (pc + 3) ls (.int v :: rest))) : W p l e R s m args below meth c H locs cells slots Q (F0 m pc ls (.ref (ad 53) :: rest)) := by
  subst hv
  obtain ⟨hx, hb, hml, hown, hu⟩ := S
  obtain ⟨hK, hP, hD, hS, hA⟩ := X
  exact va_get (D := (dC, dI)) (ci := 6) (v := .int (gI σ 43)) (C := RX3) (T := TX3) (N := 18) hx hb hu iuX3 hown hK hP 53 rfl rfl 12 (by decide) (hu _ hf) (fun _ h9 => h9) rfl hd k
theorem wfpI_43 {idx : Nat} {v : Int32} (S : CallFix p m c cc nL s args uG own) (X : gX (dC, dI) (tF kc) (wF x q9 ad kc sv sa va) Z A s σ H locs) (hf : Cond.fieldLink own idx "LazyForge$Machine" "function" "I" ∈ uG) (hd : decode cc pc = .ok (.putfield idx, 3))
    (k : ∀ (H : Heap) (locs : List Loc), gX (dC, dI) (tF kc) (wF x q9 ad kc sv sa va) Z A s (pI σ 43 v) H locs → W p l e R s m args below meth c H locs cells slots Q (F0 m (pc + 3) ls (rest))) : W p l e R s m args below meth c H locs cells slots Q (F0 m pc ls (.int v :: .ref (ad 53) :: rest)) := by
  obtain ⟨hx, hb, hml, hown, hu⟩ := S
  obtain ⟨hK, hP, hD, hS, hA⟩ := X
  exact va_put (D := (dC, dI)) (ci := 6) (v := .int v) (ty := (tyX3 12)) (C := RX3) (T := TX3) (N := 18) hx hb hu iuX3 tyX3 tyX3_ok nmX3 hown hK hP hD hS 53 rfl rfl 12 (by decide) (hu _ hf) (fun _ h9 => h9) rfl (by decide +kernel) (rfl) (rfl) (Nat.le_of_ble_eq_true rfl) hd (fun H1 locs1 hP1 hD1 hS1 => k H1 locs1 ⟨hK, hP1, hD1, hS1, hA⟩)
theorem wfgI_44 {idx : Nat} (S : CallFix p m c cc nL s args uG own) (X : gX (dC, dI) (tF kc) (wF x q9 ad kc sv sa va) Z A s σ H locs) (hf : Cond.fieldLink own idx "LazyForge$Machine" "node" "I" ∈ uG) {v : Int32} (hv : gI σ 44 = v) (hd : decode cc pc = .ok (.getfield idx, 3))
    (k : W p l e R s m args below meth c H locs cells slots Q (F0 m (pc + 3) ls (.int v :: rest))) : W p l e R s m args below meth c H locs cells slots Q (F0 m pc ls (.ref (ad 53) :: rest)) := by
  subst hv
  obtain ⟨hx, hb, hml, hown, hu⟩ := S
  obtain ⟨hK, hP, hD, hS, hA⟩ := X
  exact va_get (D := (dC, dI)) (ci := 6) (v := .int (gI σ 44)) (C := RX3) (T := TX3) (N := 18) hx hb hu iuX3 hown hK hP 53 rfl rfl 13 (by decide) (hu _ hf) (fun _ h9 => h9) rfl hd k
theorem wfpI_44 {idx : Nat} {v : Int32} (S : CallFix p m c cc nL s args uG own) (X : gX (dC, dI) (tF kc) (wF x q9 ad kc sv sa va) Z A s σ H locs) (hf : Cond.fieldLink own idx "LazyForge$Machine" "node" "I" ∈ uG) (hd : decode cc pc = .ok (.putfield idx, 3))
    (k : ∀ (H : Heap) (locs : List Loc), gX (dC, dI) (tF kc) (wF x q9 ad kc sv sa va) Z A s (pI σ 44 v) H locs → W p l e R s m args below meth c H locs cells slots Q (F0 m (pc + 3) ls (rest))) : W p l e R s m args below meth c H locs cells slots Q (F0 m pc ls (.int v :: .ref (ad 53) :: rest)) := by
  obtain ⟨hx, hb, hml, hown, hu⟩ := S
  obtain ⟨hK, hP, hD, hS, hA⟩ := X
  exact va_put (D := (dC, dI)) (ci := 6) (v := .int v) (ty := (tyX3 13)) (C := RX3) (T := TX3) (N := 18) hx hb hu iuX3 tyX3 tyX3_ok nmX3 hown hK hP hD hS 53 rfl rfl 13 (by decide) (hu _ hf) (fun _ h9 => h9) rfl (by decide +kernel) (rfl) (rfl) (Nat.le_of_ble_eq_true rfl) hd (fun H1 locs1 hP1 hD1 hS1 => k H1 locs1 ⟨hK, hP1, hD1, hS1, hA⟩)
theorem wfgJ_5 {idx : Nat} (S : CallFix p m c cc nL s args uG own) (X : gX (dC, dI) (tF kc) (wF x q9 ad kc sv sa va) Z A s σ H locs) (hf : Cond.fieldLink own idx "LazyForge$Machine" "value" "J" ∈ uG) {v : Int64} (hv : gJ σ 5 = v) (hd : decode cc pc = .ok (.getfield idx, 3))
    (k : W p l e R s m args below meth c H locs cells slots Q (F0 m (pc + 3) ls (.long v :: rest))) : W p l e R s m args below meth c H locs cells slots Q (F0 m pc ls (.ref (ad 53) :: rest)) := by
  subst hv
  obtain ⟨hx, hb, hml, hown, hu⟩ := S
  obtain ⟨hK, hP, hD, hS, hA⟩ := X
  exact va_get (D := (dC, dI)) (ci := 6) (v := .long (gJ σ 5)) (C := RX3) (T := TX3) (N := 18) hx hb hu iuX3 hown hK hP 53 rfl rfl 14 (by decide) (hu _ hf) (fun _ h9 => h9) rfl hd k
theorem wfpJ_5 {idx : Nat} {v : Int64} (S : CallFix p m c cc nL s args uG own) (X : gX (dC, dI) (tF kc) (wF x q9 ad kc sv sa va) Z A s σ H locs) (hf : Cond.fieldLink own idx "LazyForge$Machine" "value" "J" ∈ uG) (hd : decode cc pc = .ok (.putfield idx, 3))
    (k : ∀ (H : Heap) (locs : List Loc), gX (dC, dI) (tF kc) (wF x q9 ad kc sv sa va) Z A s (pJ σ 5 v) H locs → W p l e R s m args below meth c H locs cells slots Q (F0 m (pc + 3) ls (rest))) : W p l e R s m args below meth c H locs cells slots Q (F0 m pc ls (.long v :: .ref (ad 53) :: rest)) := by
  obtain ⟨hx, hb, hml, hown, hu⟩ := S
  obtain ⟨hK, hP, hD, hS, hA⟩ := X
  exact va_put (D := (dC, dI)) (ci := 6) (v := .long v) (ty := (tyX3 14)) (C := RX3) (T := TX3) (N := 18) hx hb hu iuX3 tyX3 tyX3_ok nmX3 hown hK hP hD hS 53 rfl rfl 14 (by decide) (hu _ hf) (fun _ h9 => h9) rfl (by decide +kernel) (rfl) (rfl) (Nat.le_of_ble_eq_true rfl) hd (fun H1 locs1 hP1 hD1 hS1 => k H1 locs1 ⟨hK, hP1, hD1, hS1, hA⟩)
theorem wfgI_45 {idx : Nat} (S : CallFix p m c cc nL s args uG own) (X : gX (dC, dI) (tF kc) (wF x q9 ad kc sv sa va) Z A s σ H locs) (hf : Cond.fieldLink own idx "LazyForge$Machine" "working" "Z" ∈ uG) {v : Int32} (hv : gI σ 45 = v) (hd : decode cc pc = .ok (.getfield idx, 3))
    (k : W p l e R s m args below meth c H locs cells slots Q (F0 m (pc + 3) ls (.int v :: rest))) : W p l e R s m args below meth c H locs cells slots Q (F0 m pc ls (.ref (ad 53) :: rest)) := by
  subst hv
  obtain ⟨hx, hb, hml, hown, hu⟩ := S
  obtain ⟨hK, hP, hD, hS, hA⟩ := X
  exact va_get (D := (dC, dI)) (ci := 6) (v := .int (gI σ 45)) (C := RX3) (T := TX3) (N := 18) hx hb hu iuX3 hown hK hP 53 rfl rfl 15 (by decide) (hu _ hf) (fun _ h9 => h9) rfl hd k
theorem wfpI_45 {idx : Nat} {v : Int32} (S : CallFix p m c cc nL s args uG own) (X : gX (dC, dI) (tF kc) (wF x q9 ad kc sv sa va) Z A s σ H locs) (hf : Cond.fieldLink own idx "LazyForge$Machine" "working" "Z" ∈ uG) (hn : v = 0 ∨ v = 1) (hd : decode cc pc = .ok (.putfield idx, 3))
    (k : ∀ (H : Heap) (locs : List Loc), gX (dC, dI) (tF kc) (wF x q9 ad kc sv sa va) Z A s (pI σ 45 v) H locs → W p l e R s m args below meth c H locs cells slots Q (F0 m (pc + 3) ls (rest))) : W p l e R s m args below meth c H locs cells slots Q (F0 m pc ls (.int v :: .ref (ad 53) :: rest)) := by
  obtain ⟨hx, hb, hml, hown, hu⟩ := S
  obtain ⟨hK, hP, hD, hS, hA⟩ := X
  exact va_put (D := (dC, dI)) (ci := 6) (v := .int v) (ty := (tyX3 15)) (C := RX3) (T := TX3) (N := 18) hx hb hu iuX3 tyX3 tyX3_ok nmX3 hown hK hP hD hS 53 rfl rfl 15 (by decide) (hu _ hf) (fun _ h9 => h9) rfl (by decide +kernel) (by rcases hn with rfl | rfl <;> rfl) (by rcases hn with rfl | rfl <;> rfl) (Nat.le_of_ble_eq_true rfl) hd (fun H1 locs1 hP1 hD1 hS1 => k H1 locs1 ⟨hK, hP1, hD1, hS1, hA⟩)
theorem wfgI_46 {idx : Nat} (S : CallFix p m c cc nL s args uG own) (X : gX (dC, dI) (tF kc) (wF x q9 ad kc sv sa va) Z A s σ H locs) (hf : Cond.fieldLink own idx "LazyForge$Machine" "eager" "Z" ∈ uG) {v : Int32} (hv : gI σ 46 = v) (hd : decode cc pc = .ok (.getfield idx, 3))
    (k : W p l e R s m args below meth c H locs cells slots Q (F0 m (pc + 3) ls (.int v :: rest))) : W p l e R s m args below meth c H locs cells slots Q (F0 m pc ls (.ref (ad 53) :: rest)) := by
  subst hv
  obtain ⟨hx, hb, hml, hown, hu⟩ := S
  obtain ⟨hK, hP, hD, hS, hA⟩ := X
  exact va_get (D := (dC, dI)) (ci := 6) (v := .int (gI σ 46)) (C := RX3) (T := TX3) (N := 18) hx hb hu iuX3 hown hK hP 53 rfl rfl 16 (by decide) (hu _ hf) (fun _ h9 => h9) rfl hd k
theorem wfpI_46 {idx : Nat} {v : Int32} (S : CallFix p m c cc nL s args uG own) (X : gX (dC, dI) (tF kc) (wF x q9 ad kc sv sa va) Z A s σ H locs) (hf : Cond.fieldLink own idx "LazyForge$Machine" "eager" "Z" ∈ uG) (hn : v = 0 ∨ v = 1) (hd : decode cc pc = .ok (.putfield idx, 3))
    (k : ∀ (H : Heap) (locs : List Loc), gX (dC, dI) (tF kc) (wF x q9 ad kc sv sa va) Z A s (pI σ 46 v) H locs → W p l e R s m args below meth c H locs cells slots Q (F0 m (pc + 3) ls (rest))) : W p l e R s m args below meth c H locs cells slots Q (F0 m pc ls (.int v :: .ref (ad 53) :: rest)) := by
  obtain ⟨hx, hb, hml, hown, hu⟩ := S
  obtain ⟨hK, hP, hD, hS, hA⟩ := X
  exact va_put (D := (dC, dI)) (ci := 6) (v := .int v) (ty := (tyX3 16)) (C := RX3) (T := TX3) (N := 18) hx hb hu iuX3 tyX3 tyX3_ok nmX3 hown hK hP hD hS 53 rfl rfl 16 (by decide) (hu _ hf) (fun _ h9 => h9) rfl (by decide +kernel) (by rcases hn with rfl | rfl <;> rfl) (by rcases hn with rfl | rfl <;> rfl) (Nat.le_of_ble_eq_true rfl) hd (fun H1 locs1 hP1 hD1 hS1 => k H1 locs1 ⟨hK, hP1, hD1, hS1, hA⟩)
theorem wfgI_47 {idx : Nat} (S : CallFix p m c cc nL s args uG own) (X : gX (dC, dI) (tF kc) (wF x q9 ad kc sv sa va) Z A s σ H locs) (hf : Cond.fieldLink own idx "LazyForge$Machine" "callsMost" "I" ∈ uG) {v : Int32} (hv : gI σ 47 = v) (hd : decode cc pc = .ok (.getfield idx, 3))
    (k : W p l e R s m args below meth c H locs cells slots Q (F0 m (pc + 3) ls (.int v :: rest))) : W p l e R s m args below meth c H locs cells slots Q (F0 m pc ls (.ref (ad 53) :: rest)) := by
  subst hv
  obtain ⟨hx, hb, hml, hown, hu⟩ := S
  obtain ⟨hK, hP, hD, hS, hA⟩ := X
  exact va_get (D := (dC, dI)) (ci := 6) (v := .int (gI σ 47)) (C := RX3) (T := TX3) (N := 18) hx hb hu iuX3 hown hK hP 53 rfl rfl 17 (by decide) (hu _ hf) (fun _ h9 => h9) rfl hd k
theorem wfpI_47 {idx : Nat} {v : Int32} (S : CallFix p m c cc nL s args uG own) (X : gX (dC, dI) (tF kc) (wF x q9 ad kc sv sa va) Z A s σ H locs) (hf : Cond.fieldLink own idx "LazyForge$Machine" "callsMost" "I" ∈ uG) (hd : decode cc pc = .ok (.putfield idx, 3))
    (k : ∀ (H : Heap) (locs : List Loc), gX (dC, dI) (tF kc) (wF x q9 ad kc sv sa va) Z A s (pI σ 47 v) H locs → W p l e R s m args below meth c H locs cells slots Q (F0 m (pc + 3) ls (rest))) : W p l e R s m args below meth c H locs cells slots Q (F0 m pc ls (.int v :: .ref (ad 53) :: rest)) := by
  obtain ⟨hx, hb, hml, hown, hu⟩ := S
  obtain ⟨hK, hP, hD, hS, hA⟩ := X
  exact va_put (D := (dC, dI)) (ci := 6) (v := .int v) (ty := (tyX3 17)) (C := RX3) (T := TX3) (N := 18) hx hb hu iuX3 tyX3 tyX3_ok nmX3 hown hK hP hD hS 53 rfl rfl 17 (by decide) (hu _ hf) (fun _ h9 => h9) rfl (by decide +kernel) (rfl) (rfl) (Nat.le_of_ble_eq_true rfl) hd (fun H1 locs1 hP1 hD1 hS1 => k H1 locs1 ⟨hK, hP1, hD1, hS1, hA⟩)
theorem wfgR_54_0 {idx : Nat} (S : CallFix p m c cc nL s args uG own) (X : gX (dC, dI) (tF kc) (wF x q9 ad kc sv sa va) Z A s σ H locs) (hf : Cond.fieldLink own idx "LazyForge$Cells" "row" "[J" ∈ uG) (hd : decode cc pc = .ok (.getfield idx, 3))
    (k : W p l e R s m args below meth c H locs cells slots Q (F0 m (pc + 3) ls (.ref (ad 61) :: rest))) : W p l e R s m args below meth c H locs cells slots Q (F0 m pc ls (.ref (ad 54) :: rest)) := by
  obtain ⟨hx, hb, hml, hown, hu⟩ := S
  obtain ⟨hK, hP, hD, hS, hA⟩ := X
  exact va_get (D := (dC, dI)) (ci := 3) (v := .ref (ad 61)) (C := RX0) (T := TX0) (N := 2) hx hb hu iuX0 hown hK hP 54 rfl rfl 0 (by decide) (hu _ hf) (fun _ h9 => h9) rfl hd k
theorem wfgR_54_1 {idx : Nat} (S : CallFix p m c cc nL s args uG own) (X : gX (dC, dI) (tF kc) (wF x q9 ad kc sv sa va) Z A s σ H locs) (hf : Cond.fieldLink own idx "LazyForge$Cells" "counts" "[I" ∈ uG) (hd : decode cc pc = .ok (.getfield idx, 3))
    (k : W p l e R s m args below meth c H locs cells slots Q (F0 m (pc + 3) ls (.ref (ad 55) :: rest))) : W p l e R s m args below meth c H locs cells slots Q (F0 m pc ls (.ref (ad 54) :: rest)) := by
  obtain ⟨hx, hb, hml, hown, hu⟩ := S
  obtain ⟨hK, hP, hD, hS, hA⟩ := X
  exact va_get (D := (dC, dI)) (ci := 3) (v := .ref (ad 55)) (C := RX0) (T := TX0) (N := 2) hx hb hu iuX0 hown hK hP 54 rfl rfl 1 (by decide) (hu _ hf) (fun _ h9 => h9) rfl hd k
theorem wflA_40 {i : Int32} {v : Int32} (S : CallFix p m c cc nL s args uG own) (X : gX (dC, dI) (tF kc) (wF x q9 ad kc sv sa va) Z A s σ H locs) (hi : vp_in i 10) (hv : xA σ 40 i = v) (hd : decode cc pc = .ok (.iaload, 1))
    (k : W p l e R s m args below meth c H locs cells slots Q (F0 m (pc + 1) ls (.int v :: rest))) : W p l e R s m args below meth c H locs cells slots Q (F0 m pc ls (.int i :: .ref (ad 55) :: rest)) := by
  subst hv
  obtain ⟨hx, hb, hml, hown, hu⟩ := S
  obtain ⟨hK, hP, hD, hS, hA⟩ := X
  exact va_iald hx hb hK hP 55 41 rfl rfl hi hd k
theorem wfsA_40 {i : Int32} {v : Int32} (S : CallFix p m c cc nL s args uG own) (X : gX (dC, dI) (tF kc) (wF x q9 ad kc sv sa va) Z A s σ H locs) (hi : vp_in i 10) (hd : decode cc pc = .ok (.iastore, 1))
    (k : ∀ (H : Heap) (locs : List Loc), gX (dC, dI) (tF kc) (wF x q9 ad kc sv sa va) Z A s (pA σ 40 i v) H locs → W p l e R s m args below meth c H locs cells slots Q (F0 m (pc + 1) ls (rest))) : W p l e R s m args below meth c H locs cells slots Q (F0 m pc ls (.int v :: .int i :: .ref (ad 55) :: rest)) := by
  obtain ⟨hx, hb, hml, hown, hu⟩ := S
  obtain ⟨hK, hP, hD, hS, hA⟩ := X
  exact va_iast hx hb hK hP hD hS 55 41 rfl rfl hi hd (fun H1 locs1 hP1 hD1 hS1 => k H1 locs1 ⟨hK, hP1, hD1, hS1, hA⟩)
theorem wfnA_40 (S : CallFix p m c cc nL s args uG own) (X : gX (dC, dI) (tF kc) (wF x q9 ad kc sv sa va) Z A s σ H locs) (hd : decode cc pc = .ok (.arraylength, 1))
    (k : W p l e R s m args below meth c H locs cells slots Q (F0 m (pc + 1) ls (.int 10 :: rest))) : W p l e R s m args below meth c H locs cells slots Q (F0 m pc ls (.ref (ad 55) :: rest)) := by
  obtain ⟨hx, hb, hml, hown, hu⟩ := S
  obtain ⟨hK, hP, hD, hS, hA⟩ := X
  exact va_alen (v := 10) hx hb hK hP 55 41 rfl rfl (show Int32.ofNat 10 = 10 by decide) hd k
theorem wflA_41 {i : Int32} {v : Int32} (S : CallFix p m c cc nL s args uG own) (X : gX (dC, dI) (tF kc) (wF x q9 ad kc sv sa va) Z A s σ H locs) (hi : vp_in i 630) (hv : xA σ 41 i = v) (hd : decode cc pc = .ok (.iaload, 1))
    (k : W p l e R s m args below meth c H locs cells slots Q (F0 m (pc + 1) ls (.int v :: rest))) : W p l e R s m args below meth c H locs cells slots Q (F0 m pc ls (.int i :: .ref (ad 56) :: rest)) := by
  subst hv
  obtain ⟨hx, hb, hml, hown, hu⟩ := S
  obtain ⟨hK, hP, hD, hS, hA⟩ := X
  exact va_iald hx hb hK hP 56 42 rfl rfl hi hd k
theorem wfsA_41 {i : Int32} {v : Int32} (S : CallFix p m c cc nL s args uG own) (X : gX (dC, dI) (tF kc) (wF x q9 ad kc sv sa va) Z A s σ H locs) (hi : vp_in i 630) (hd : decode cc pc = .ok (.iastore, 1))
    (k : ∀ (H : Heap) (locs : List Loc), gX (dC, dI) (tF kc) (wF x q9 ad kc sv sa va) Z A s (pA σ 41 i v) H locs → W p l e R s m args below meth c H locs cells slots Q (F0 m (pc + 1) ls (rest))) : W p l e R s m args below meth c H locs cells slots Q (F0 m pc ls (.int v :: .int i :: .ref (ad 56) :: rest)) := by
  obtain ⟨hx, hb, hml, hown, hu⟩ := S
  obtain ⟨hK, hP, hD, hS, hA⟩ := X
  exact va_iast hx hb hK hP hD hS 56 42 rfl rfl hi hd (fun H1 locs1 hP1 hD1 hS1 => k H1 locs1 ⟨hK, hP1, hD1, hS1, hA⟩)
theorem wfnA_41 (S : CallFix p m c cc nL s args uG own) (X : gX (dC, dI) (tF kc) (wF x q9 ad kc sv sa va) Z A s σ H locs) (hd : decode cc pc = .ok (.arraylength, 1))
    (k : W p l e R s m args below meth c H locs cells slots Q (F0 m (pc + 1) ls (.int 630 :: rest))) : W p l e R s m args below meth c H locs cells slots Q (F0 m pc ls (.ref (ad 56) :: rest)) := by
  obtain ⟨hx, hb, hml, hown, hu⟩ := S
  obtain ⟨hK, hP, hD, hS, hA⟩ := X
  exact va_alen (v := 630) hx hb hK hP 56 42 rfl rfl (show Int32.ofNat 630 = 630 by decide) hd k
theorem wflA_42 {i : Int32} {v : Int32} (S : CallFix p m c cc nL s args uG own) (X : gX (dC, dI) (tF kc) (wF x q9 ad kc sv sa va) Z A s σ H locs) (hi : vp_in i 1000) (hv : xA σ 42 i = v) (hd : decode cc pc = .ok (.iaload, 1))
    (k : W p l e R s m args below meth c H locs cells slots Q (F0 m (pc + 1) ls (.int v :: rest))) : W p l e R s m args below meth c H locs cells slots Q (F0 m pc ls (.int i :: .ref (ad 57) :: rest)) := by
  subst hv
  obtain ⟨hx, hb, hml, hown, hu⟩ := S
  obtain ⟨hK, hP, hD, hS, hA⟩ := X
  exact va_iald hx hb hK hP 57 43 rfl rfl hi hd k
theorem wfsA_42 {i : Int32} {v : Int32} (S : CallFix p m c cc nL s args uG own) (X : gX (dC, dI) (tF kc) (wF x q9 ad kc sv sa va) Z A s σ H locs) (hi : vp_in i 1000) (hd : decode cc pc = .ok (.iastore, 1))
    (k : ∀ (H : Heap) (locs : List Loc), gX (dC, dI) (tF kc) (wF x q9 ad kc sv sa va) Z A s (pA σ 42 i v) H locs → W p l e R s m args below meth c H locs cells slots Q (F0 m (pc + 1) ls (rest))) : W p l e R s m args below meth c H locs cells slots Q (F0 m pc ls (.int v :: .int i :: .ref (ad 57) :: rest)) := by
  obtain ⟨hx, hb, hml, hown, hu⟩ := S
  obtain ⟨hK, hP, hD, hS, hA⟩ := X
  exact va_iast hx hb hK hP hD hS 57 43 rfl rfl hi hd (fun H1 locs1 hP1 hD1 hS1 => k H1 locs1 ⟨hK, hP1, hD1, hS1, hA⟩)
theorem wfnA_42 (S : CallFix p m c cc nL s args uG own) (X : gX (dC, dI) (tF kc) (wF x q9 ad kc sv sa va) Z A s σ H locs) (hd : decode cc pc = .ok (.arraylength, 1))
    (k : W p l e R s m args below meth c H locs cells slots Q (F0 m (pc + 1) ls (.int 1000 :: rest))) : W p l e R s m args below meth c H locs cells slots Q (F0 m pc ls (.ref (ad 57) :: rest)) := by
  obtain ⟨hx, hb, hml, hown, hu⟩ := S
  obtain ⟨hK, hP, hD, hS, hA⟩ := X
  exact va_alen (v := 1000) hx hb hK hP 57 43 rfl rfl (show Int32.ofNat 1000 = 1000 by decide) hd k
theorem wflA_43 {i : Int32} {v : Int32} (S : CallFix p m c cc nL s args uG own) (X : gX (dC, dI) (tF kc) (wF x q9 ad kc sv sa va) Z A s σ H locs) (hi : vp_in i 30) (hv : xA σ 43 i = v) (hd : decode cc pc = .ok (.iaload, 1))
    (k : W p l e R s m args below meth c H locs cells slots Q (F0 m (pc + 1) ls (.int v :: rest))) : W p l e R s m args below meth c H locs cells slots Q (F0 m pc ls (.int i :: .ref (ad 58) :: rest)) := by
  subst hv
  obtain ⟨hx, hb, hml, hown, hu⟩ := S
  obtain ⟨hK, hP, hD, hS, hA⟩ := X
  exact va_iald hx hb hK hP 58 44 rfl rfl hi hd k
theorem wfsA_43 {i : Int32} {v : Int32} (S : CallFix p m c cc nL s args uG own) (X : gX (dC, dI) (tF kc) (wF x q9 ad kc sv sa va) Z A s σ H locs) (hi : vp_in i 30) (hd : decode cc pc = .ok (.iastore, 1))
    (k : ∀ (H : Heap) (locs : List Loc), gX (dC, dI) (tF kc) (wF x q9 ad kc sv sa va) Z A s (pA σ 43 i v) H locs → W p l e R s m args below meth c H locs cells slots Q (F0 m (pc + 1) ls (rest))) : W p l e R s m args below meth c H locs cells slots Q (F0 m pc ls (.int v :: .int i :: .ref (ad 58) :: rest)) := by
  obtain ⟨hx, hb, hml, hown, hu⟩ := S
  obtain ⟨hK, hP, hD, hS, hA⟩ := X
  exact va_iast hx hb hK hP hD hS 58 44 rfl rfl hi hd (fun H1 locs1 hP1 hD1 hS1 => k H1 locs1 ⟨hK, hP1, hD1, hS1, hA⟩)
theorem wfnA_43 (S : CallFix p m c cc nL s args uG own) (X : gX (dC, dI) (tF kc) (wF x q9 ad kc sv sa va) Z A s σ H locs) (hd : decode cc pc = .ok (.arraylength, 1))
    (k : W p l e R s m args below meth c H locs cells slots Q (F0 m (pc + 1) ls (.int 30 :: rest))) : W p l e R s m args below meth c H locs cells slots Q (F0 m pc ls (.ref (ad 58) :: rest)) := by
  obtain ⟨hx, hb, hml, hown, hu⟩ := S
  obtain ⟨hK, hP, hD, hS, hA⟩ := X
  exact va_alen (v := 30) hx hb hK hP 58 44 rfl rfl (show Int32.ofNat 30 = 30 by decide) hd k
theorem wflB_12 {i : Int32} {v : Int64} (S : CallFix p m c cc nL s args uG own) (X : gX (dC, dI) (tF kc) (wF x q9 ad kc sv sa va) Z A s σ H locs) (hi : vp_in i (gN σ 1)) (hv : xB σ 12 i = v) (hd : decode cc pc = .ok (.laload, 1))
    (k : W p l e R s m args below meth c H locs cells slots Q (F0 m (pc + 1) ls (.long v :: rest))) : W p l e R s m args below meth c H locs cells slots Q (F0 m pc ls (.int i :: .ref sa :: rest)) := by
  subst hv
  obtain ⟨hx, hb, hml, hown, hu⟩ := S
  obtain ⟨hK, hP, hD, hS, hA⟩ := X
  exact va_lald hx hb hK hP 59 45 rfl rfl hi hd k
theorem wfsB_12 {i : Int32} {v : Int64} (S : CallFix p m c cc nL s args uG own) (X : gX (dC, dI) (tF kc) (wF x q9 ad kc sv sa va) Z A s σ H locs) (hi : vp_in i (gN σ 1)) (hd : decode cc pc = .ok (.lastore, 1))
    (k : ∀ (H : Heap) (locs : List Loc), gX (dC, dI) (tF kc) (wF x q9 ad kc sv sa va) Z A s (pB σ 12 i v) H locs → W p l e R s m args below meth c H locs cells slots Q (F0 m (pc + 1) ls (rest))) : W p l e R s m args below meth c H locs cells slots Q (F0 m pc ls (.long v :: .int i :: .ref sa :: rest)) := by
  obtain ⟨hx, hb, hml, hown, hu⟩ := S
  obtain ⟨hK, hP, hD, hS, hA⟩ := X
  exact va_last hx hb hK hP hD hS 59 45 rfl rfl hi hd (fun H1 locs1 hP1 hD1 hS1 => k H1 locs1 ⟨hK, hP1, hD1, hS1, hA⟩)
theorem wfnB_12 (S : CallFix p m c cc nL s args uG own) (X : gX (dC, dI) (tF kc) (wF x q9 ad kc sv sa va) Z A s σ H locs) (hd : decode cc pc = .ok (.arraylength, 1))
    (k : W p l e R s m args below meth c H locs cells slots Q (F0 m (pc + 1) ls (.int (Int32.ofNat (gN σ 1)) :: rest))) : W p l e R s m args below meth c H locs cells slots Q (F0 m pc ls (.ref sa :: rest)) := by
  obtain ⟨hx, hb, hml, hown, hu⟩ := S
  obtain ⟨hK, hP, hD, hS, hA⟩ := X
  exact va_alen (v := (Int32.ofNat (gN σ 1))) hx hb hK hP 59 45 rfl rfl (rfl) hd k
theorem wflB_13 {i : Int32} {v : Int64} (S : CallFix p m c cc nL s args uG own) (X : gX (dC, dI) (tF kc) (wF x q9 ad kc sv sa va) Z A s σ H locs) (hi : vp_in i (gN σ 3)) (hv : xB σ 13 i = v) (hd : decode cc pc = .ok (.laload, 1))
    (k : W p l e R s m args below meth c H locs cells slots Q (F0 m (pc + 1) ls (.long v :: rest))) : W p l e R s m args below meth c H locs cells slots Q (F0 m pc ls (.int i :: .ref va :: rest)) := by
  subst hv
  obtain ⟨hx, hb, hml, hown, hu⟩ := S
  obtain ⟨hK, hP, hD, hS, hA⟩ := X
  exact va_lald hx hb hK hP 60 46 rfl rfl hi hd k
theorem wfsB_13 {i : Int32} {v : Int64} (S : CallFix p m c cc nL s args uG own) (X : gX (dC, dI) (tF kc) (wF x q9 ad kc sv sa va) Z A s σ H locs) (hi : vp_in i (gN σ 3)) (hd : decode cc pc = .ok (.lastore, 1))
    (k : ∀ (H : Heap) (locs : List Loc), gX (dC, dI) (tF kc) (wF x q9 ad kc sv sa va) Z A s (pB σ 13 i v) H locs → W p l e R s m args below meth c H locs cells slots Q (F0 m (pc + 1) ls (rest))) : W p l e R s m args below meth c H locs cells slots Q (F0 m pc ls (.long v :: .int i :: .ref va :: rest)) := by
  obtain ⟨hx, hb, hml, hown, hu⟩ := S
  obtain ⟨hK, hP, hD, hS, hA⟩ := X
  exact va_last hx hb hK hP hD hS 60 46 rfl rfl hi hd (fun H1 locs1 hP1 hD1 hS1 => k H1 locs1 ⟨hK, hP1, hD1, hS1, hA⟩)
theorem wfnB_13 (S : CallFix p m c cc nL s args uG own) (X : gX (dC, dI) (tF kc) (wF x q9 ad kc sv sa va) Z A s σ H locs) (hd : decode cc pc = .ok (.arraylength, 1))
    (k : W p l e R s m args below meth c H locs cells slots Q (F0 m (pc + 1) ls (.int (Int32.ofNat (gN σ 3)) :: rest))) : W p l e R s m args below meth c H locs cells slots Q (F0 m pc ls (.ref va :: rest)) := by
  obtain ⟨hx, hb, hml, hown, hu⟩ := S
  obtain ⟨hK, hP, hD, hS, hA⟩ := X
  exact va_alen (v := (Int32.ofNat (gN σ 3))) hx hb hK hP 60 46 rfl rfl (rfl) hd k
theorem wflB_14 {i : Int32} {v : Int64} (S : CallFix p m c cc nL s args uG own) (X : gX (dC, dI) (tF kc) (wF x q9 ad kc sv sa va) Z A s σ H locs) (hi : vp_in i 4000) (hv : xB σ 14 i = v) (hd : decode cc pc = .ok (.laload, 1))
    (k : W p l e R s m args below meth c H locs cells slots Q (F0 m (pc + 1) ls (.long v :: rest))) : W p l e R s m args below meth c H locs cells slots Q (F0 m pc ls (.int i :: .ref (ad 61) :: rest)) := by
  subst hv
  obtain ⟨hx, hb, hml, hown, hu⟩ := S
  obtain ⟨hK, hP, hD, hS, hA⟩ := X
  exact va_lald hx hb hK hP 61 47 rfl rfl hi hd k
theorem wfsB_14 {i : Int32} {v : Int64} (S : CallFix p m c cc nL s args uG own) (X : gX (dC, dI) (tF kc) (wF x q9 ad kc sv sa va) Z A s σ H locs) (hi : vp_in i 4000) (hd : decode cc pc = .ok (.lastore, 1))
    (k : ∀ (H : Heap) (locs : List Loc), gX (dC, dI) (tF kc) (wF x q9 ad kc sv sa va) Z A s (pB σ 14 i v) H locs → W p l e R s m args below meth c H locs cells slots Q (F0 m (pc + 1) ls (rest))) : W p l e R s m args below meth c H locs cells slots Q (F0 m pc ls (.long v :: .int i :: .ref (ad 61) :: rest)) := by
  obtain ⟨hx, hb, hml, hown, hu⟩ := S
  obtain ⟨hK, hP, hD, hS, hA⟩ := X
  exact va_last hx hb hK hP hD hS 61 47 rfl rfl hi hd (fun H1 locs1 hP1 hD1 hS1 => k H1 locs1 ⟨hK, hP1, hD1, hS1, hA⟩)
theorem wfnB_14 (S : CallFix p m c cc nL s args uG own) (X : gX (dC, dI) (tF kc) (wF x q9 ad kc sv sa va) Z A s σ H locs) (hd : decode cc pc = .ok (.arraylength, 1))
    (k : W p l e R s m args below meth c H locs cells slots Q (F0 m (pc + 1) ls (.int 4000 :: rest))) : W p l e R s m args below meth c H locs cells slots Q (F0 m pc ls (.ref (ad 61) :: rest)) := by
  obtain ⟨hx, hb, hml, hown, hu⟩ := S
  obtain ⟨hK, hP, hD, hS, hA⟩ := X
  exact va_alen (v := 4000) hx hb hK hP 61 47 rfl rfl (show Int32.ofNat 4000 = 4000 by decide) hd k
end SEMF

