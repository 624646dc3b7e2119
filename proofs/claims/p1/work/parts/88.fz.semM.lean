


def wM (ad : Nat → Nat) (kc : Nat → ClassId) (σ : S5) : va_W := [(ad 0, .inr (15, [.int (gI σ 0), .ref (ad 1), .int (gI σ 1), .ref (ad 2), .int (gI σ 2), .int (gI σ 3), .int (gI σ 4), .int (gI σ 5), .long (gJ σ 0), .int (gI σ 6), .int (gI σ 7), .int (gI σ 8), .int (gI σ 9), .ref (ad 3), .ref (ad 4), .ref (ad 5), .ref (ad 6), .ref (ad 7), .ref (ad 8), .ref (ad 9), .ref (ad 10), .ref (ad 11), .ref (ad 12), .int (gI σ 10), .ref (ad 13), .int (gI σ 11), .int (gI σ 12), .int (gI σ 13), .ref (ad 14), .ref (ad 15), .ref (ad 16), .int (gI σ 14), .ref (ad 17), .ref (ad 18), .int (gI σ 15), .int (gI σ 16), .ref (ad 19), .ref (ad 20), .ref (ad 21), .ref (ad 22), .int (gI σ 17), .ref (ad 23), .int (gI σ 18), .int (gI σ 19), .int (gI σ 20), .int (gI σ 21), .int (gI σ 22), .ref (ad 24), .ref (ad 25), .ref (ad 26), .int (gI σ 23), .ref (ad 27), .ref (ad 28), .ref (ad 29), .ref (ad 30), .int (gI σ 24), .ref (ad 31), .ref (ad 32), .int (gI σ 25), .ref (ad 33), .ref (ad 34), .ref (ad 35), .ref (ad 36), .int (gI σ 26), .ref (ad 37), .ref (ad 38), .ref (ad 39), .ref (ad 40), .ref (ad 41), .ref (ad 42), .ref (ad 43), .ref (ad 44), .ref (ad 45), .int (gI σ 27), .ref (ad 46), .ref (ad 47), .ref (ad 48), .ref (ad 49), .ref (ad 50), .ref (ad 51), .ref (ad 52), .ref (ad 53), .ref (ad 54), .int (gI σ 28), .ref (ad 55), .ref (ad 56), .ref (ad 57), .ref (ad 58), .int (gI σ 29), .int (gI σ 30), .int (gI σ 31), .ref (ad 59), .ref (ad 60), .ref (ad 61), .ref (ad 62), .ref (ad 63), .ref (ad 64), .int (gI σ 32), .int (gI σ 33), .ref (ad 65), .int (gI σ 34), .int (gI σ 35), .int (gI σ 36), .int (gI σ 37), .int (gI σ 38), .int (gI σ 39), .int (gI σ 40), .int (gI σ 41), .int (gI σ 42), .int (gI σ 43), .ref (ad 66), .int (gI σ 44), .int (gI σ 45), .int (gI σ 46), .ref (ad 67), .int (gI σ 47), .int (gI σ 48), .ref (ad 68), .ref (ad 69), .ref (ad 70), .int (gI σ 49), .ref (ad 71), .int (gI σ 50), .int (gI σ 51), .ref (ad 72), .int (gI σ 52), .int (gI σ 53), .long (gJ σ 1), .int (gI σ 54), .ref (ad 73), .ref (ad 74), .ref (ad 75), .int (gI σ 55), .ref (ad 76), .int (gI σ 56), .ref (ad 77)])),
  (ad 1, .inl (kc 1, 3000, .inl (gA σ 0))),
  (ad 2, .inl (kc 2, 12000, .inl (gA σ 1))),
  (ad 3, .inl (kc 3, 3200, .inl (gA σ 2))),
  (ad 4, .inl (kc 4, 3200, .inl (gA σ 3))),
  (ad 5, .inl (kc 5, 3200, .inl (gA σ 4))),
  (ad 6, .inl (kc 6, 3200, .inl (gA σ 5))),
  (ad 7, .inl (kc 7, 3200, .inl (gA σ 6))),
  (ad 8, .inl (kc 8, 3200, .inl (gA σ 7))),
  (ad 9, .inl (kc 9, 3200, .inl (gA σ 8))),
  (ad 10, .inl (kc 10, 3200, .inr (.inl (gB σ 0)))),
  (ad 11, .inl (kc 11, 3200, .inl (gA σ 9))),
  (ad 12, .inl (kc 12, 3200, .inl (gA σ 10))),
  (ad 13, .inl (kc 13, 3200, .inr (.inl (gB σ 1)))),
  (ad 14, .inl (kc 14, 640, .inr (.inl (gB σ 2)))),
  (ad 15, .inl (kc 15, 640, .inl (gA σ 11))),
  (ad 16, .inl (kc 16, 640, .inl (gA σ 12))),
  (ad 17, .inl (kc 17, 30, .inr (.inl (gB σ 3)))),
  (ad 18, .inl (kc 18, 30, .inl (gA σ 13))),
  (ad 19, .inl (kc 19, 3200, .inl (gA σ 14))),
  (ad 20, .inl (kc 20, 3200, .inl (gA σ 15))),
  (ad 21, .inl (kc 21, 3200, .inl (gA σ 16))),
  (ad 22, .inl (kc 22, 3200, .inl (gA σ 17))),
  (ad 23, .inl (kc 23, 3200, .inl (gA σ 18))),
  (ad 24, .inl (kc 24, 3200, .inl (gA σ 19))),
  (ad 25, .inl (kc 25, 640, .inl (gA σ 20))),
  (ad 26, .inl (kc 26, 5760, .inl (gA σ 21))),
  (ad 27, .inl (kc 27, 3200, .inl (gA σ 22))),
  (ad 28, .inl (kc 28, 3200, .inl (gA σ 23))),
  (ad 29, .inl (kc 29, 640, .inl (gA σ 24))),
  (ad 30, .inl (kc 30, 3200, .inl (gA σ 25))),
  (ad 31, .inl (kc 31, 3200, .inr (.inl (gB σ 4)))),
  (ad 32, .inl (kc 32, 3200, .inl (gA σ 26))),
  (ad 33, .inl (kc 33, 64, .inl (gA σ 27))),
  (ad 34, .inl (kc 34, 3200, .inl (gA σ 28))),
  (ad 35, .inl (kc 35, 3200, .inl (gA σ 29))),
  (ad 36, .inl (kc 36, 3200, .inl (gA σ 30))),
  (ad 37, .inl (kc 37, 7000, .inl (gA σ 31))),
  (ad 38, .inl (kc 38, 7000, .inl (gA σ 32))),
  (ad 39, .inl (kc 39, 7000, .inl (gA σ 33))),
  (ad 40, .inl (kc 40, 7000, .inl (gA σ 34))),
  (ad 41, .inl (kc 41, 7000, .inl (gA σ 35))),
  (ad 42, .inl (kc 42, 7000, .inl (gA σ 36))),
  (ad 43, .inl (kc 43, 7000, .inl (gA σ 37))),
  (ad 44, .inl (kc 44, 7000, .inl (gA σ 38))),
  (ad 45, .inl (kc 45, 7000, .inr (.inl (gB σ 5)))),
  (ad 46, .inl (kc 46, 14000, .inl (gA σ 39))),
  (ad 47, .inl (kc 47, 14000, .inl (gA σ 40))),
  (ad 48, .inl (kc 48, 14000, .inl (gA σ 41))),
  (ad 49, .inl (kc 49, 14000, .inl (gA σ 42))),
  (ad 50, .inl (kc 50, 14000, .inl (gA σ 43))),
  (ad 51, .inl (kc 51, 640, .inl (gA σ 44))),
  (ad 52, .inl (kc 52, 640, .inl (gA σ 45))),
  (ad 53, .inl (kc 53, 640, .inl (gA σ 46))),
  (ad 54, .inl (kc 54, 640, .inl (gA σ 47))),
  (ad 55, .inl (kc 55, 7000, .inl (gA σ 48))),
  (ad 56, .inl (kc 56, 163840, .inl (gA σ 49))),
  (ad 57, .inl (kc 57, 7000, .inl (gA σ 50))),
  (ad 58, .inl (kc 58, 640, .inl (gA σ 51))),
  (ad 59, .inl (kc 59, 5120, .inl (gA σ 52))),
  (ad 60, .inl (kc 60, 4100, .inl (gA σ 53))),
  (ad 61, .inl (kc 61, 4100, .inl (gA σ 54))),
  (ad 62, .inl (kc 62, 4100, .inr (.inl (gB σ 6)))),
  (ad 63, .inl (kc 63, 4100, .inl (gA σ 55))),
  (ad 64, .inl (kc 64, 4100, .inl (gA σ 56))),
  (ad 65, .inl (kc 65, 4100, .inr (.inl (gB σ 7)))),
  (ad 66, .inl (kc 66, 640, .inl (gA σ 57))),
  (ad 67, .inl (kc 67, 1000, .inl (gA σ 58))),
  (ad 68, .inl (kc 68, 202000, .inl (gA σ 59))),
  (ad 69, .inl (kc 69, 202000, .inl (gA σ 60))),
  (ad 70, .inl (kc 70, 202000, .inl (gA σ 61))),
  (ad 71, .inl (kc 71, 580000, .inr (.inl (gB σ 8)))),
  (ad 72, .inl (kc 72, 193000, .inr (.inl (gB σ 9)))),
  (ad 73, .inl (kc 73, 8000, .inl (gA σ 62))),
  (ad 74, .inl (kc 74, 8000, .inl (gA σ 63))),
  (ad 75, .inl (kc 75, 640, .inl (gA σ 64))),
  (ad 76, .inl (kc 76, 4200, .inr (.inl (gB σ 10)))),
  (ad 77, .inl (kc 77, 12001, .inl (gA σ 65)))]
def tM (kc : Nat → ClassId) : List (ClassId × FieldType) := [(kc 1, .int), (kc 2, .int), (kc 3, .int), (kc 4, .int), (kc 5, .int), (kc 6, .int), (kc 7, .int), (kc 8, .int), (kc 9, .int), (kc 10, .long), (kc 11, .int), (kc 12, .int), (kc 13, .long), (kc 14, .long), (kc 15, .int), (kc 16, .int), (kc 17, .long), (kc 18, .int), (kc 19, .int), (kc 20, .int), (kc 21, .int), (kc 22, .int), (kc 23, .int), (kc 24, .int), (kc 25, .int), (kc 26, .int), (kc 27, .int), (kc 28, .int), (kc 29, .int), (kc 30, .int), (kc 31, .long), (kc 32, .int), (kc 33, .int), (kc 34, .int), (kc 35, .int), (kc 36, .int), (kc 37, .int), (kc 38, .int), (kc 39, .int), (kc 40, .int), (kc 41, .int), (kc 42, .boolean), (kc 43, .int), (kc 44, .int), (kc 45, .long), (kc 46, .int), (kc 47, .int), (kc 48, .int), (kc 49, .int), (kc 50, .int), (kc 51, .int), (kc 52, .int), (kc 53, .int), (kc 54, .int), (kc 55, .int), (kc 56, .boolean), (kc 57, .boolean), (kc 58, .boolean), (kc 59, .boolean), (kc 60, .int), (kc 61, .int), (kc 62, .long), (kc 63, .int), (kc 64, .int), (kc 65, .long), (kc 66, .int), (kc 67, .int), (kc 68, .int), (kc 69, .int), (kc 70, .int), (kc 71, .long), (kc 72, .long), (kc 73, .int), (kc 74, .int), (kc 75, .int), (kc 76, .long), (kc 77, .int)]
section SEMM
variable {p : Program} {l : Launch} {e : Env} {R : Room} {s : State} {m : MethodId} {args : Array Value} {below : List Frame} {meth : Method} {c : Code} {H : Heap} {locs : List Loc} {cells slots : Nat} {Q : State → Prop}
variable {cc : ByteArray} {nL pc : Nat} {own : String} {ls : Array Slot} {rest : List Value} {dC : Nat → ClassId} {dI : Nat → Nat → Nat} {Z : ZZ} {A : Nat → Prop} {σ : S5} {ad : Nat → Nat} {kc : Nat → ClassId}
theorem wmgI_0 {idx : Nat} (S : CallFix p m c cc nL s args uG own) (X : gX (dC, dI) (tM kc) (wM ad kc) Z A s σ H locs) (hf : Cond.fieldLink own idx "LazyForgeModel" "thrown" "I" ∈ uG) {v : Int32} (hv : gI σ 0 = v) (hd : decode cc pc = .ok (.getfield idx, 3))
    (k : W p l e R s m args below meth c H locs cells slots Q (F0 m (pc + 3) ls (.int v :: rest))) : W p l e R s m args below meth c H locs cells slots Q (F0 m pc ls (.ref (ad 0) :: rest)) := by
  subst hv
  obtain ⟨hx, hb, hml, hown, hu⟩ := S
  obtain ⟨hK, hP, hD, hS, hA⟩ := X
  exact va_get (D := (dC, dI)) (ci := 15) (v := .int (gI σ 0)) (C := RX12) (T := TX12) (N := 136) hx hb hu iuX12 hown hK hP 0 rfl rfl 0 (by decide) (hu _ hf) (fun _ h9 => h9) rfl hd k
theorem wmpI_0 {idx : Nat} {v : Int32} (S : CallFix p m c cc nL s args uG own) (X : gX (dC, dI) (tM kc) (wM ad kc) Z A s σ H locs) (hf : Cond.fieldLink own idx "LazyForgeModel" "thrown" "I" ∈ uG) (hd : decode cc pc = .ok (.putfield idx, 3))
    (k : ∀ (H : Heap) (locs : List Loc), gX (dC, dI) (tM kc) (wM ad kc) Z A s (pI σ 0 v) H locs → W p l e R s m args below meth c H locs cells slots Q (F0 m (pc + 3) ls (rest))) : W p l e R s m args below meth c H locs cells slots Q (F0 m pc ls (.int v :: .ref (ad 0) :: rest)) := by
  obtain ⟨hx, hb, hml, hown, hu⟩ := S
  obtain ⟨hK, hP, hD, hS, hA⟩ := X
  exact va_put (D := (dC, dI)) (ci := 15) (v := .int v) (ty := (tyX12 0)) (C := RX12) (T := TX12) (N := 136) hx hb hu iuX12 tyX12 tyX12_ok nmX12 hown hK hP hD hS 0 rfl rfl 0 (by decide) (hu _ hf) (fun _ h9 => h9) rfl (by decide +kernel) (rfl) (rfl) (Nat.le_of_ble_eq_true rfl) hd (fun H1 locs1 hP1 hD1 hS1 => k H1 locs1 ⟨hK, hP1, hD1, hS1, hA⟩)
theorem wmgR_0_1 {idx : Nat} (S : CallFix p m c cc nL s args uG own) (X : gX (dC, dI) (tM kc) (wM ad kc) Z A s σ H locs) (hf : Cond.fieldLink own idx "LazyForgeModel" "text" "[I" ∈ uG) (hd : decode cc pc = .ok (.getfield idx, 3))
    (k : W p l e R s m args below meth c H locs cells slots Q (F0 m (pc + 3) ls (.ref (ad 1) :: rest))) : W p l e R s m args below meth c H locs cells slots Q (F0 m pc ls (.ref (ad 0) :: rest)) := by
  obtain ⟨hx, hb, hml, hown, hu⟩ := S
  obtain ⟨hK, hP, hD, hS, hA⟩ := X
  exact va_get (D := (dC, dI)) (ci := 15) (v := .ref (ad 1)) (C := RX12) (T := TX12) (N := 136) hx hb hu iuX12 hown hK hP 0 rfl rfl 1 (by decide) (hu _ hf) (fun _ h9 => h9) rfl hd k
theorem wmgI_1 {idx : Nat} (S : CallFix p m c cc nL s args uG own) (X : gX (dC, dI) (tM kc) (wM ad kc) Z A s σ H locs) (hf : Cond.fieldLink own idx "LazyForgeModel" "size" "I" ∈ uG) {v : Int32} (hv : gI σ 1 = v) (hd : decode cc pc = .ok (.getfield idx, 3))
    (k : W p l e R s m args below meth c H locs cells slots Q (F0 m (pc + 3) ls (.int v :: rest))) : W p l e R s m args below meth c H locs cells slots Q (F0 m pc ls (.ref (ad 0) :: rest)) := by
  subst hv
  obtain ⟨hx, hb, hml, hown, hu⟩ := S
  obtain ⟨hK, hP, hD, hS, hA⟩ := X
  exact va_get (D := (dC, dI)) (ci := 15) (v := .int (gI σ 1)) (C := RX12) (T := TX12) (N := 136) hx hb hu iuX12 hown hK hP 0 rfl rfl 2 (by decide) (hu _ hf) (fun _ h9 => h9) rfl hd k
theorem wmpI_1 {idx : Nat} {v : Int32} (S : CallFix p m c cc nL s args uG own) (X : gX (dC, dI) (tM kc) (wM ad kc) Z A s σ H locs) (hf : Cond.fieldLink own idx "LazyForgeModel" "size" "I" ∈ uG) (hd : decode cc pc = .ok (.putfield idx, 3))
    (k : ∀ (H : Heap) (locs : List Loc), gX (dC, dI) (tM kc) (wM ad kc) Z A s (pI σ 1 v) H locs → W p l e R s m args below meth c H locs cells slots Q (F0 m (pc + 3) ls (rest))) : W p l e R s m args below meth c H locs cells slots Q (F0 m pc ls (.int v :: .ref (ad 0) :: rest)) := by
  obtain ⟨hx, hb, hml, hown, hu⟩ := S
  obtain ⟨hK, hP, hD, hS, hA⟩ := X
  exact va_put (D := (dC, dI)) (ci := 15) (v := .int v) (ty := (tyX12 2)) (C := RX12) (T := TX12) (N := 136) hx hb hu iuX12 tyX12 tyX12_ok nmX12 hown hK hP hD hS 0 rfl rfl 2 (by decide) (hu _ hf) (fun _ h9 => h9) rfl (by decide +kernel) (rfl) (rfl) (Nat.le_of_ble_eq_true rfl) hd (fun H1 locs1 hP1 hD1 hS1 => k H1 locs1 ⟨hK, hP1, hD1, hS1, hA⟩)
theorem wmgR_0_3 {idx : Nat} (S : CallFix p m c cc nL s args uG own) (X : gX (dC, dI) (tM kc) (wM ad kc) Z A s σ H locs) (hf : Cond.fieldLink own idx "LazyForgeModel" "out" "[I" ∈ uG) (hd : decode cc pc = .ok (.getfield idx, 3))
    (k : W p l e R s m args below meth c H locs cells slots Q (F0 m (pc + 3) ls (.ref (ad 2) :: rest))) : W p l e R s m args below meth c H locs cells slots Q (F0 m pc ls (.ref (ad 0) :: rest)) := by
  obtain ⟨hx, hb, hml, hown, hu⟩ := S
  obtain ⟨hK, hP, hD, hS, hA⟩ := X
  exact va_get (D := (dC, dI)) (ci := 15) (v := .ref (ad 2)) (C := RX12) (T := TX12) (N := 136) hx hb hu iuX12 hown hK hP 0 rfl rfl 3 (by decide) (hu _ hf) (fun _ h9 => h9) rfl hd k
theorem wmgI_2 {idx : Nat} (S : CallFix p m c cc nL s args uG own) (X : gX (dC, dI) (tM kc) (wM ad kc) Z A s σ H locs) (hf : Cond.fieldLink own idx "LazyForgeModel" "outSize" "I" ∈ uG) {v : Int32} (hv : gI σ 2 = v) (hd : decode cc pc = .ok (.getfield idx, 3))
    (k : W p l e R s m args below meth c H locs cells slots Q (F0 m (pc + 3) ls (.int v :: rest))) : W p l e R s m args below meth c H locs cells slots Q (F0 m pc ls (.ref (ad 0) :: rest)) := by
  subst hv
  obtain ⟨hx, hb, hml, hown, hu⟩ := S
  obtain ⟨hK, hP, hD, hS, hA⟩ := X
  exact va_get (D := (dC, dI)) (ci := 15) (v := .int (gI σ 2)) (C := RX12) (T := TX12) (N := 136) hx hb hu iuX12 hown hK hP 0 rfl rfl 4 (by decide) (hu _ hf) (fun _ h9 => h9) rfl hd k
theorem wmpI_2 {idx : Nat} {v : Int32} (S : CallFix p m c cc nL s args uG own) (X : gX (dC, dI) (tM kc) (wM ad kc) Z A s σ H locs) (hf : Cond.fieldLink own idx "LazyForgeModel" "outSize" "I" ∈ uG) (hd : decode cc pc = .ok (.putfield idx, 3))
    (k : ∀ (H : Heap) (locs : List Loc), gX (dC, dI) (tM kc) (wM ad kc) Z A s (pI σ 2 v) H locs → W p l e R s m args below meth c H locs cells slots Q (F0 m (pc + 3) ls (rest))) : W p l e R s m args below meth c H locs cells slots Q (F0 m pc ls (.int v :: .ref (ad 0) :: rest)) := by
  obtain ⟨hx, hb, hml, hown, hu⟩ := S
  obtain ⟨hK, hP, hD, hS, hA⟩ := X
  exact va_put (D := (dC, dI)) (ci := 15) (v := .int v) (ty := (tyX12 4)) (C := RX12) (T := TX12) (N := 136) hx hb hu iuX12 tyX12 tyX12_ok nmX12 hown hK hP hD hS 0 rfl rfl 4 (by decide) (hu _ hf) (fun _ h9 => h9) rfl (by decide +kernel) (rfl) (rfl) (Nat.le_of_ble_eq_true rfl) hd (fun H1 locs1 hP1 hD1 hS1 => k H1 locs1 ⟨hK, hP1, hD1, hS1, hA⟩)
theorem wmgI_3 {idx : Nat} (S : CallFix p m c cc nL s args uG own) (X : gX (dC, dI) (tM kc) (wM ad kc) Z A s σ H locs) (hf : Cond.fieldLink own idx "LazyForgeModel" "at" "I" ∈ uG) {v : Int32} (hv : gI σ 3 = v) (hd : decode cc pc = .ok (.getfield idx, 3))
    (k : W p l e R s m args below meth c H locs cells slots Q (F0 m (pc + 3) ls (.int v :: rest))) : W p l e R s m args below meth c H locs cells slots Q (F0 m pc ls (.ref (ad 0) :: rest)) := by
  subst hv
  obtain ⟨hx, hb, hml, hown, hu⟩ := S
  obtain ⟨hK, hP, hD, hS, hA⟩ := X
  exact va_get (D := (dC, dI)) (ci := 15) (v := .int (gI σ 3)) (C := RX12) (T := TX12) (N := 136) hx hb hu iuX12 hown hK hP 0 rfl rfl 5 (by decide) (hu _ hf) (fun _ h9 => h9) rfl hd k
theorem wmpI_3 {idx : Nat} {v : Int32} (S : CallFix p m c cc nL s args uG own) (X : gX (dC, dI) (tM kc) (wM ad kc) Z A s σ H locs) (hf : Cond.fieldLink own idx "LazyForgeModel" "at" "I" ∈ uG) (hd : decode cc pc = .ok (.putfield idx, 3))
    (k : ∀ (H : Heap) (locs : List Loc), gX (dC, dI) (tM kc) (wM ad kc) Z A s (pI σ 3 v) H locs → W p l e R s m args below meth c H locs cells slots Q (F0 m (pc + 3) ls (rest))) : W p l e R s m args below meth c H locs cells slots Q (F0 m pc ls (.int v :: .ref (ad 0) :: rest)) := by
  obtain ⟨hx, hb, hml, hown, hu⟩ := S
  obtain ⟨hK, hP, hD, hS, hA⟩ := X
  exact va_put (D := (dC, dI)) (ci := 15) (v := .int v) (ty := (tyX12 5)) (C := RX12) (T := TX12) (N := 136) hx hb hu iuX12 tyX12 tyX12_ok nmX12 hown hK hP hD hS 0 rfl rfl 5 (by decide) (hu _ hf) (fun _ h9 => h9) rfl (by decide +kernel) (rfl) (rfl) (Nat.le_of_ble_eq_true rfl) hd (fun H1 locs1 hP1 hD1 hS1 => k H1 locs1 ⟨hK, hP1, hD1, hS1, hA⟩)
theorem wmgI_4 {idx : Nat} (S : CallFix p m c cc nL s args uG own) (X : gX (dC, dI) (tM kc) (wM ad kc) Z A s σ H locs) (hf : Cond.fieldLink own idx "LazyForgeModel" "word" "I" ∈ uG) {v : Int32} (hv : gI σ 4 = v) (hd : decode cc pc = .ok (.getfield idx, 3))
    (k : W p l e R s m args below meth c H locs cells slots Q (F0 m (pc + 3) ls (.int v :: rest))) : W p l e R s m args below meth c H locs cells slots Q (F0 m pc ls (.ref (ad 0) :: rest)) := by
  subst hv
  obtain ⟨hx, hb, hml, hown, hu⟩ := S
  obtain ⟨hK, hP, hD, hS, hA⟩ := X
  exact va_get (D := (dC, dI)) (ci := 15) (v := .int (gI σ 4)) (C := RX12) (T := TX12) (N := 136) hx hb hu iuX12 hown hK hP 0 rfl rfl 6 (by decide) (hu _ hf) (fun _ h9 => h9) rfl hd k
theorem wmpI_4 {idx : Nat} {v : Int32} (S : CallFix p m c cc nL s args uG own) (X : gX (dC, dI) (tM kc) (wM ad kc) Z A s σ H locs) (hf : Cond.fieldLink own idx "LazyForgeModel" "word" "I" ∈ uG) (hd : decode cc pc = .ok (.putfield idx, 3))
    (k : ∀ (H : Heap) (locs : List Loc), gX (dC, dI) (tM kc) (wM ad kc) Z A s (pI σ 4 v) H locs → W p l e R s m args below meth c H locs cells slots Q (F0 m (pc + 3) ls (rest))) : W p l e R s m args below meth c H locs cells slots Q (F0 m pc ls (.int v :: .ref (ad 0) :: rest)) := by
  obtain ⟨hx, hb, hml, hown, hu⟩ := S
  obtain ⟨hK, hP, hD, hS, hA⟩ := X
  exact va_put (D := (dC, dI)) (ci := 15) (v := .int v) (ty := (tyX12 6)) (C := RX12) (T := TX12) (N := 136) hx hb hu iuX12 tyX12 tyX12_ok nmX12 hown hK hP hD hS 0 rfl rfl 6 (by decide) (hu _ hf) (fun _ h9 => h9) rfl (by decide +kernel) (rfl) (rfl) (Nat.le_of_ble_eq_true rfl) hd (fun H1 locs1 hP1 hD1 hS1 => k H1 locs1 ⟨hK, hP1, hD1, hS1, hA⟩)
theorem wmgI_5 {idx : Nat} (S : CallFix p m c cc nL s args uG own) (X : gX (dC, dI) (tM kc) (wM ad kc) Z A s σ H locs) (hf : Cond.fieldLink own idx "LazyForgeModel" "wordPlace" "I" ∈ uG) {v : Int32} (hv : gI σ 5 = v) (hd : decode cc pc = .ok (.getfield idx, 3))
    (k : W p l e R s m args below meth c H locs cells slots Q (F0 m (pc + 3) ls (.int v :: rest))) : W p l e R s m args below meth c H locs cells slots Q (F0 m pc ls (.ref (ad 0) :: rest)) := by
  subst hv
  obtain ⟨hx, hb, hml, hown, hu⟩ := S
  obtain ⟨hK, hP, hD, hS, hA⟩ := X
  exact va_get (D := (dC, dI)) (ci := 15) (v := .int (gI σ 5)) (C := RX12) (T := TX12) (N := 136) hx hb hu iuX12 hown hK hP 0 rfl rfl 7 (by decide) (hu _ hf) (fun _ h9 => h9) rfl hd k
theorem wmpI_5 {idx : Nat} {v : Int32} (S : CallFix p m c cc nL s args uG own) (X : gX (dC, dI) (tM kc) (wM ad kc) Z A s σ H locs) (hf : Cond.fieldLink own idx "LazyForgeModel" "wordPlace" "I" ∈ uG) (hd : decode cc pc = .ok (.putfield idx, 3))
    (k : ∀ (H : Heap) (locs : List Loc), gX (dC, dI) (tM kc) (wM ad kc) Z A s (pI σ 5 v) H locs → W p l e R s m args below meth c H locs cells slots Q (F0 m (pc + 3) ls (rest))) : W p l e R s m args below meth c H locs cells slots Q (F0 m pc ls (.int v :: .ref (ad 0) :: rest)) := by
  obtain ⟨hx, hb, hml, hown, hu⟩ := S
  obtain ⟨hK, hP, hD, hS, hA⟩ := X
  exact va_put (D := (dC, dI)) (ci := 15) (v := .int v) (ty := (tyX12 7)) (C := RX12) (T := TX12) (N := 136) hx hb hu iuX12 tyX12 tyX12_ok nmX12 hown hK hP hD hS 0 rfl rfl 7 (by decide) (hu _ hf) (fun _ h9 => h9) rfl (by decide +kernel) (rfl) (rfl) (Nat.le_of_ble_eq_true rfl) hd (fun H1 locs1 hP1 hD1 hS1 => k H1 locs1 ⟨hK, hP1, hD1, hS1, hA⟩)
theorem wmgJ_0 {idx : Nat} (S : CallFix p m c cc nL s args uG own) (X : gX (dC, dI) (tM kc) (wM ad kc) Z A s σ H locs) (hf : Cond.fieldLink own idx "LazyForgeModel" "wordName" "J" ∈ uG) {v : Int64} (hv : gJ σ 0 = v) (hd : decode cc pc = .ok (.getfield idx, 3))
    (k : W p l e R s m args below meth c H locs cells slots Q (F0 m (pc + 3) ls (.long v :: rest))) : W p l e R s m args below meth c H locs cells slots Q (F0 m pc ls (.ref (ad 0) :: rest)) := by
  subst hv
  obtain ⟨hx, hb, hml, hown, hu⟩ := S
  obtain ⟨hK, hP, hD, hS, hA⟩ := X
  exact va_get (D := (dC, dI)) (ci := 15) (v := .long (gJ σ 0)) (C := RX12) (T := TX12) (N := 136) hx hb hu iuX12 hown hK hP 0 rfl rfl 8 (by decide) (hu _ hf) (fun _ h9 => h9) rfl hd k
theorem wmpJ_0 {idx : Nat} {v : Int64} (S : CallFix p m c cc nL s args uG own) (X : gX (dC, dI) (tM kc) (wM ad kc) Z A s σ H locs) (hf : Cond.fieldLink own idx "LazyForgeModel" "wordName" "J" ∈ uG) (hd : decode cc pc = .ok (.putfield idx, 3))
    (k : ∀ (H : Heap) (locs : List Loc), gX (dC, dI) (tM kc) (wM ad kc) Z A s (pJ σ 0 v) H locs → W p l e R s m args below meth c H locs cells slots Q (F0 m (pc + 3) ls (rest))) : W p l e R s m args below meth c H locs cells slots Q (F0 m pc ls (.long v :: .ref (ad 0) :: rest)) := by
  obtain ⟨hx, hb, hml, hown, hu⟩ := S
  obtain ⟨hK, hP, hD, hS, hA⟩ := X
  exact va_put (D := (dC, dI)) (ci := 15) (v := .long v) (ty := (tyX12 8)) (C := RX12) (T := TX12) (N := 136) hx hb hu iuX12 tyX12 tyX12_ok nmX12 hown hK hP hD hS 0 rfl rfl 8 (by decide) (hu _ hf) (fun _ h9 => h9) rfl (by decide +kernel) (rfl) (rfl) (Nat.le_of_ble_eq_true rfl) hd (fun H1 locs1 hP1 hD1 hS1 => k H1 locs1 ⟨hK, hP1, hD1, hS1, hA⟩)
theorem wmgI_6 {idx : Nat} (S : CallFix p m c cc nL s args uG own) (X : gX (dC, dI) (tM kc) (wM ad kc) Z A s σ H locs) (hf : Cond.fieldLink own idx "LazyForgeModel" "wordNumber" "I" ∈ uG) {v : Int32} (hv : gI σ 6 = v) (hd : decode cc pc = .ok (.getfield idx, 3))
    (k : W p l e R s m args below meth c H locs cells slots Q (F0 m (pc + 3) ls (.int v :: rest))) : W p l e R s m args below meth c H locs cells slots Q (F0 m pc ls (.ref (ad 0) :: rest)) := by
  subst hv
  obtain ⟨hx, hb, hml, hown, hu⟩ := S
  obtain ⟨hK, hP, hD, hS, hA⟩ := X
  exact va_get (D := (dC, dI)) (ci := 15) (v := .int (gI σ 6)) (C := RX12) (T := TX12) (N := 136) hx hb hu iuX12 hown hK hP 0 rfl rfl 9 (by decide) (hu _ hf) (fun _ h9 => h9) rfl hd k
theorem wmpI_6 {idx : Nat} {v : Int32} (S : CallFix p m c cc nL s args uG own) (X : gX (dC, dI) (tM kc) (wM ad kc) Z A s σ H locs) (hf : Cond.fieldLink own idx "LazyForgeModel" "wordNumber" "I" ∈ uG) (hd : decode cc pc = .ok (.putfield idx, 3))
    (k : ∀ (H : Heap) (locs : List Loc), gX (dC, dI) (tM kc) (wM ad kc) Z A s (pI σ 6 v) H locs → W p l e R s m args below meth c H locs cells slots Q (F0 m (pc + 3) ls (rest))) : W p l e R s m args below meth c H locs cells slots Q (F0 m pc ls (.int v :: .ref (ad 0) :: rest)) := by
  obtain ⟨hx, hb, hml, hown, hu⟩ := S
  obtain ⟨hK, hP, hD, hS, hA⟩ := X
  exact va_put (D := (dC, dI)) (ci := 15) (v := .int v) (ty := (tyX12 9)) (C := RX12) (T := TX12) (N := 136) hx hb hu iuX12 tyX12 tyX12_ok nmX12 hown hK hP hD hS 0 rfl rfl 9 (by decide) (hu _ hf) (fun _ h9 => h9) rfl (by decide +kernel) (rfl) (rfl) (Nat.le_of_ble_eq_true rfl) hd (fun H1 locs1 hP1 hD1 hS1 => k H1 locs1 ⟨hK, hP1, hD1, hS1, hA⟩)
theorem wmgI_7 {idx : Nat} (S : CallFix p m c cc nL s args uG own) (X : gX (dC, dI) (tM kc) (wM ad kc) Z A s σ H locs) (hf : Cond.fieldLink own idx "LazyForgeModel" "fault" "I" ∈ uG) {v : Int32} (hv : gI σ 7 = v) (hd : decode cc pc = .ok (.getfield idx, 3))
    (k : W p l e R s m args below meth c H locs cells slots Q (F0 m (pc + 3) ls (.int v :: rest))) : W p l e R s m args below meth c H locs cells slots Q (F0 m pc ls (.ref (ad 0) :: rest)) := by
  subst hv
  obtain ⟨hx, hb, hml, hown, hu⟩ := S
  obtain ⟨hK, hP, hD, hS, hA⟩ := X
  exact va_get (D := (dC, dI)) (ci := 15) (v := .int (gI σ 7)) (C := RX12) (T := TX12) (N := 136) hx hb hu iuX12 hown hK hP 0 rfl rfl 10 (by decide) (hu _ hf) (fun _ h9 => h9) rfl hd k
theorem wmpI_7 {idx : Nat} {v : Int32} (S : CallFix p m c cc nL s args uG own) (X : gX (dC, dI) (tM kc) (wM ad kc) Z A s σ H locs) (hf : Cond.fieldLink own idx "LazyForgeModel" "fault" "I" ∈ uG) (hd : decode cc pc = .ok (.putfield idx, 3))
    (k : ∀ (H : Heap) (locs : List Loc), gX (dC, dI) (tM kc) (wM ad kc) Z A s (pI σ 7 v) H locs → W p l e R s m args below meth c H locs cells slots Q (F0 m (pc + 3) ls (rest))) : W p l e R s m args below meth c H locs cells slots Q (F0 m pc ls (.int v :: .ref (ad 0) :: rest)) := by
  obtain ⟨hx, hb, hml, hown, hu⟩ := S
  obtain ⟨hK, hP, hD, hS, hA⟩ := X
  exact va_put (D := (dC, dI)) (ci := 15) (v := .int v) (ty := (tyX12 10)) (C := RX12) (T := TX12) (N := 136) hx hb hu iuX12 tyX12 tyX12_ok nmX12 hown hK hP hD hS 0 rfl rfl 10 (by decide) (hu _ hf) (fun _ h9 => h9) rfl (by decide +kernel) (rfl) (rfl) (Nat.le_of_ble_eq_true rfl) hd (fun H1 locs1 hP1 hD1 hS1 => k H1 locs1 ⟨hK, hP1, hD1, hS1, hA⟩)
theorem wmgI_8 {idx : Nat} (S : CallFix p m c cc nL s args uG own) (X : gX (dC, dI) (tM kc) (wM ad kc) Z A s σ H locs) (hf : Cond.fieldLink own idx "LazyForgeModel" "faultPlace" "I" ∈ uG) {v : Int32} (hv : gI σ 8 = v) (hd : decode cc pc = .ok (.getfield idx, 3))
    (k : W p l e R s m args below meth c H locs cells slots Q (F0 m (pc + 3) ls (.int v :: rest))) : W p l e R s m args below meth c H locs cells slots Q (F0 m pc ls (.ref (ad 0) :: rest)) := by
  subst hv
  obtain ⟨hx, hb, hml, hown, hu⟩ := S
  obtain ⟨hK, hP, hD, hS, hA⟩ := X
  exact va_get (D := (dC, dI)) (ci := 15) (v := .int (gI σ 8)) (C := RX12) (T := TX12) (N := 136) hx hb hu iuX12 hown hK hP 0 rfl rfl 11 (by decide) (hu _ hf) (fun _ h9 => h9) rfl hd k
theorem wmpI_8 {idx : Nat} {v : Int32} (S : CallFix p m c cc nL s args uG own) (X : gX (dC, dI) (tM kc) (wM ad kc) Z A s σ H locs) (hf : Cond.fieldLink own idx "LazyForgeModel" "faultPlace" "I" ∈ uG) (hd : decode cc pc = .ok (.putfield idx, 3))
    (k : ∀ (H : Heap) (locs : List Loc), gX (dC, dI) (tM kc) (wM ad kc) Z A s (pI σ 8 v) H locs → W p l e R s m args below meth c H locs cells slots Q (F0 m (pc + 3) ls (rest))) : W p l e R s m args below meth c H locs cells slots Q (F0 m pc ls (.int v :: .ref (ad 0) :: rest)) := by
  obtain ⟨hx, hb, hml, hown, hu⟩ := S
  obtain ⟨hK, hP, hD, hS, hA⟩ := X
  exact va_put (D := (dC, dI)) (ci := 15) (v := .int v) (ty := (tyX12 11)) (C := RX12) (T := TX12) (N := 136) hx hb hu iuX12 tyX12 tyX12_ok nmX12 hown hK hP hD hS 0 rfl rfl 11 (by decide) (hu _ hf) (fun _ h9 => h9) rfl (by decide +kernel) (rfl) (rfl) (Nat.le_of_ble_eq_true rfl) hd (fun H1 locs1 hP1 hD1 hS1 => k H1 locs1 ⟨hK, hP1, hD1, hS1, hA⟩)
theorem wmgI_9 {idx : Nat} (S : CallFix p m c cc nL s args uG own) (X : gX (dC, dI) (tM kc) (wM ad kc) Z A s σ H locs) (hf : Cond.fieldLink own idx "LazyForgeModel" "nodes" "I" ∈ uG) {v : Int32} (hv : gI σ 9 = v) (hd : decode cc pc = .ok (.getfield idx, 3))
    (k : W p l e R s m args below meth c H locs cells slots Q (F0 m (pc + 3) ls (.int v :: rest))) : W p l e R s m args below meth c H locs cells slots Q (F0 m pc ls (.ref (ad 0) :: rest)) := by
  subst hv
  obtain ⟨hx, hb, hml, hown, hu⟩ := S
  obtain ⟨hK, hP, hD, hS, hA⟩ := X
  exact va_get (D := (dC, dI)) (ci := 15) (v := .int (gI σ 9)) (C := RX12) (T := TX12) (N := 136) hx hb hu iuX12 hown hK hP 0 rfl rfl 12 (by decide) (hu _ hf) (fun _ h9 => h9) rfl hd k
theorem wmpI_9 {idx : Nat} {v : Int32} (S : CallFix p m c cc nL s args uG own) (X : gX (dC, dI) (tM kc) (wM ad kc) Z A s σ H locs) (hf : Cond.fieldLink own idx "LazyForgeModel" "nodes" "I" ∈ uG) (hd : decode cc pc = .ok (.putfield idx, 3))
    (k : ∀ (H : Heap) (locs : List Loc), gX (dC, dI) (tM kc) (wM ad kc) Z A s (pI σ 9 v) H locs → W p l e R s m args below meth c H locs cells slots Q (F0 m (pc + 3) ls (rest))) : W p l e R s m args below meth c H locs cells slots Q (F0 m pc ls (.int v :: .ref (ad 0) :: rest)) := by
  obtain ⟨hx, hb, hml, hown, hu⟩ := S
  obtain ⟨hK, hP, hD, hS, hA⟩ := X
  exact va_put (D := (dC, dI)) (ci := 15) (v := .int v) (ty := (tyX12 12)) (C := RX12) (T := TX12) (N := 136) hx hb hu iuX12 tyX12 tyX12_ok nmX12 hown hK hP hD hS 0 rfl rfl 12 (by decide) (hu _ hf) (fun _ h9 => h9) rfl (by decide +kernel) (rfl) (rfl) (Nat.le_of_ble_eq_true rfl) hd (fun H1 locs1 hP1 hD1 hS1 => k H1 locs1 ⟨hK, hP1, hD1, hS1, hA⟩)
theorem wmgR_0_13 {idx : Nat} (S : CallFix p m c cc nL s args uG own) (X : gX (dC, dI) (tM kc) (wM ad kc) Z A s σ H locs) (hf : Cond.fieldLink own idx "LazyForgeModel" "kinds" "[I" ∈ uG) (hd : decode cc pc = .ok (.getfield idx, 3))
    (k : W p l e R s m args below meth c H locs cells slots Q (F0 m (pc + 3) ls (.ref (ad 3) :: rest))) : W p l e R s m args below meth c H locs cells slots Q (F0 m pc ls (.ref (ad 0) :: rest)) := by
  obtain ⟨hx, hb, hml, hown, hu⟩ := S
  obtain ⟨hK, hP, hD, hS, hA⟩ := X
  exact va_get (D := (dC, dI)) (ci := 15) (v := .ref (ad 3)) (C := RX12) (T := TX12) (N := 136) hx hb hu iuX12 hown hK hP 0 rfl rfl 13 (by decide) (hu _ hf) (fun _ h9 => h9) rfl hd k
theorem wmgR_0_14 {idx : Nat} (S : CallFix p m c cc nL s args uG own) (X : gX (dC, dI) (tM kc) (wM ad kc) Z A s σ H locs) (hf : Cond.fieldLink own idx "LazyForgeModel" "firsts" "[I" ∈ uG) (hd : decode cc pc = .ok (.getfield idx, 3))
    (k : W p l e R s m args below meth c H locs cells slots Q (F0 m (pc + 3) ls (.ref (ad 4) :: rest))) : W p l e R s m args below meth c H locs cells slots Q (F0 m pc ls (.ref (ad 0) :: rest)) := by
  obtain ⟨hx, hb, hml, hown, hu⟩ := S
  obtain ⟨hK, hP, hD, hS, hA⟩ := X
  exact va_get (D := (dC, dI)) (ci := 15) (v := .ref (ad 4)) (C := RX12) (T := TX12) (N := 136) hx hb hu iuX12 hown hK hP 0 rfl rfl 14 (by decide) (hu _ hf) (fun _ h9 => h9) rfl hd k
theorem wmgR_0_15 {idx : Nat} (S : CallFix p m c cc nL s args uG own) (X : gX (dC, dI) (tM kc) (wM ad kc) Z A s σ H locs) (hf : Cond.fieldLink own idx "LazyForgeModel" "seconds" "[I" ∈ uG) (hd : decode cc pc = .ok (.getfield idx, 3))
    (k : W p l e R s m args below meth c H locs cells slots Q (F0 m (pc + 3) ls (.ref (ad 5) :: rest))) : W p l e R s m args below meth c H locs cells slots Q (F0 m pc ls (.ref (ad 0) :: rest)) := by
  obtain ⟨hx, hb, hml, hown, hu⟩ := S
  obtain ⟨hK, hP, hD, hS, hA⟩ := X
  exact va_get (D := (dC, dI)) (ci := 15) (v := .ref (ad 5)) (C := RX12) (T := TX12) (N := 136) hx hb hu iuX12 hown hK hP 0 rfl rfl 15 (by decide) (hu _ hf) (fun _ h9 => h9) rfl hd k
theorem wmgR_0_16 {idx : Nat} (S : CallFix p m c cc nL s args uG own) (X : gX (dC, dI) (tM kc) (wM ad kc) Z A s σ H locs) (hf : Cond.fieldLink own idx "LazyForgeModel" "nexts" "[I" ∈ uG) (hd : decode cc pc = .ok (.getfield idx, 3))
    (k : W p l e R s m args below meth c H locs cells slots Q (F0 m (pc + 3) ls (.ref (ad 6) :: rest))) : W p l e R s m args below meth c H locs cells slots Q (F0 m pc ls (.ref (ad 0) :: rest)) := by
  obtain ⟨hx, hb, hml, hown, hu⟩ := S
  obtain ⟨hK, hP, hD, hS, hA⟩ := X
  exact va_get (D := (dC, dI)) (ci := 15) (v := .ref (ad 6)) (C := RX12) (T := TX12) (N := 136) hx hb hu iuX12 hown hK hP 0 rfl rfl 16 (by decide) (hu _ hf) (fun _ h9 => h9) rfl hd k
theorem wmgR_0_17 {idx : Nat} (S : CallFix p m c cc nL s args uG own) (X : gX (dC, dI) (tM kc) (wM ad kc) Z A s σ H locs) (hf : Cond.fieldLink own idx "LazyForgeModel" "places" "[I" ∈ uG) (hd : decode cc pc = .ok (.getfield idx, 3))
    (k : W p l e R s m args below meth c H locs cells slots Q (F0 m (pc + 3) ls (.ref (ad 7) :: rest))) : W p l e R s m args below meth c H locs cells slots Q (F0 m pc ls (.ref (ad 0) :: rest)) := by
  obtain ⟨hx, hb, hml, hown, hu⟩ := S
  obtain ⟨hK, hP, hD, hS, hA⟩ := X
  exact va_get (D := (dC, dI)) (ci := 15) (v := .ref (ad 7)) (C := RX12) (T := TX12) (N := 136) hx hb hu iuX12 hown hK hP 0 rfl rfl 17 (by decide) (hu _ hf) (fun _ h9 => h9) rfl hd k
theorem wmgR_0_18 {idx : Nat} (S : CallFix p m c cc nL s args uG own) (X : gX (dC, dI) (tM kc) (wM ad kc) Z A s σ H locs) (hf : Cond.fieldLink own idx "LazyForgeModel" "values" "[I" ∈ uG) (hd : decode cc pc = .ok (.getfield idx, 3))
    (k : W p l e R s m args below meth c H locs cells slots Q (F0 m (pc + 3) ls (.ref (ad 8) :: rest))) : W p l e R s m args below meth c H locs cells slots Q (F0 m pc ls (.ref (ad 0) :: rest)) := by
  obtain ⟨hx, hb, hml, hown, hu⟩ := S
  obtain ⟨hK, hP, hD, hS, hA⟩ := X
  exact va_get (D := (dC, dI)) (ci := 15) (v := .ref (ad 8)) (C := RX12) (T := TX12) (N := 136) hx hb hu iuX12 hown hK hP 0 rfl rfl 18 (by decide) (hu _ hf) (fun _ h9 => h9) rfl hd k
theorem wmgR_0_19 {idx : Nat} (S : CallFix p m c cc nL s args uG own) (X : gX (dC, dI) (tM kc) (wM ad kc) Z A s σ H locs) (hf : Cond.fieldLink own idx "LazyForgeModel" "sorts" "[I" ∈ uG) (hd : decode cc pc = .ok (.getfield idx, 3))
    (k : W p l e R s m args below meth c H locs cells slots Q (F0 m (pc + 3) ls (.ref (ad 9) :: rest))) : W p l e R s m args below meth c H locs cells slots Q (F0 m pc ls (.ref (ad 0) :: rest)) := by
  obtain ⟨hx, hb, hml, hown, hu⟩ := S
  obtain ⟨hK, hP, hD, hS, hA⟩ := X
  exact va_get (D := (dC, dI)) (ci := 15) (v := .ref (ad 9)) (C := RX12) (T := TX12) (N := 136) hx hb hu iuX12 hown hK hP 0 rfl rfl 19 (by decide) (hu _ hf) (fun _ h9 => h9) rfl hd k
theorem wmgR_0_20 {idx : Nat} (S : CallFix p m c cc nL s args uG own) (X : gX (dC, dI) (tM kc) (wM ad kc) Z A s σ H locs) (hf : Cond.fieldLink own idx "LazyForgeModel" "nodeNames" "[J" ∈ uG) (hd : decode cc pc = .ok (.getfield idx, 3))
    (k : W p l e R s m args below meth c H locs cells slots Q (F0 m (pc + 3) ls (.ref (ad 10) :: rest))) : W p l e R s m args below meth c H locs cells slots Q (F0 m pc ls (.ref (ad 0) :: rest)) := by
  obtain ⟨hx, hb, hml, hown, hu⟩ := S
  obtain ⟨hK, hP, hD, hS, hA⟩ := X
  exact va_get (D := (dC, dI)) (ci := 15) (v := .ref (ad 10)) (C := RX12) (T := TX12) (N := 136) hx hb hu iuX12 hown hK hP 0 rfl rfl 20 (by decide) (hu _ hf) (fun _ h9 => h9) rfl hd k
theorem wmgR_0_21 {idx : Nat} (S : CallFix p m c cc nL s args uG own) (X : gX (dC, dI) (tM kc) (wM ad kc) Z A s σ H locs) (hf : Cond.fieldLink own idx "LazyForgeModel" "giveBegins" "[I" ∈ uG) (hd : decode cc pc = .ok (.getfield idx, 3))
    (k : W p l e R s m args below meth c H locs cells slots Q (F0 m (pc + 3) ls (.ref (ad 11) :: rest))) : W p l e R s m args below meth c H locs cells slots Q (F0 m pc ls (.ref (ad 0) :: rest)) := by
  obtain ⟨hx, hb, hml, hown, hu⟩ := S
  obtain ⟨hK, hP, hD, hS, hA⟩ := X
  exact va_get (D := (dC, dI)) (ci := 15) (v := .ref (ad 11)) (C := RX12) (T := TX12) (N := 136) hx hb hu iuX12 hown hK hP 0 rfl rfl 21 (by decide) (hu _ hf) (fun _ h9 => h9) rfl hd k
theorem wmgR_0_22 {idx : Nat} (S : CallFix p m c cc nL s args uG own) (X : gX (dC, dI) (tM kc) (wM ad kc) Z A s σ H locs) (hf : Cond.fieldLink own idx "LazyForgeModel" "giveCounts" "[I" ∈ uG) (hd : decode cc pc = .ok (.getfield idx, 3))
    (k : W p l e R s m args below meth c H locs cells slots Q (F0 m (pc + 3) ls (.ref (ad 12) :: rest))) : W p l e R s m args below meth c H locs cells slots Q (F0 m pc ls (.ref (ad 0) :: rest)) := by
  obtain ⟨hx, hb, hml, hown, hu⟩ := S
  obtain ⟨hK, hP, hD, hS, hA⟩ := X
  exact va_get (D := (dC, dI)) (ci := 15) (v := .ref (ad 12)) (C := RX12) (T := TX12) (N := 136) hx hb hu iuX12 hown hK hP 0 rfl rfl 22 (by decide) (hu _ hf) (fun _ h9 => h9) rfl hd k
theorem wmgI_10 {idx : Nat} (S : CallFix p m c cc nL s args uG own) (X : gX (dC, dI) (tM kc) (wM ad kc) Z A s σ H locs) (hf : Cond.fieldLink own idx "LazyForgeModel" "gives" "I" ∈ uG) {v : Int32} (hv : gI σ 10 = v) (hd : decode cc pc = .ok (.getfield idx, 3))
    (k : W p l e R s m args below meth c H locs cells slots Q (F0 m (pc + 3) ls (.int v :: rest))) : W p l e R s m args below meth c H locs cells slots Q (F0 m pc ls (.ref (ad 0) :: rest)) := by
  subst hv
  obtain ⟨hx, hb, hml, hown, hu⟩ := S
  obtain ⟨hK, hP, hD, hS, hA⟩ := X
  exact va_get (D := (dC, dI)) (ci := 15) (v := .int (gI σ 10)) (C := RX12) (T := TX12) (N := 136) hx hb hu iuX12 hown hK hP 0 rfl rfl 23 (by decide) (hu _ hf) (fun _ h9 => h9) rfl hd k
theorem wmpI_10 {idx : Nat} {v : Int32} (S : CallFix p m c cc nL s args uG own) (X : gX (dC, dI) (tM kc) (wM ad kc) Z A s σ H locs) (hf : Cond.fieldLink own idx "LazyForgeModel" "gives" "I" ∈ uG) (hd : decode cc pc = .ok (.putfield idx, 3))
    (k : ∀ (H : Heap) (locs : List Loc), gX (dC, dI) (tM kc) (wM ad kc) Z A s (pI σ 10 v) H locs → W p l e R s m args below meth c H locs cells slots Q (F0 m (pc + 3) ls (rest))) : W p l e R s m args below meth c H locs cells slots Q (F0 m pc ls (.int v :: .ref (ad 0) :: rest)) := by
  obtain ⟨hx, hb, hml, hown, hu⟩ := S
  obtain ⟨hK, hP, hD, hS, hA⟩ := X
  exact va_put (D := (dC, dI)) (ci := 15) (v := .int v) (ty := (tyX12 23)) (C := RX12) (T := TX12) (N := 136) hx hb hu iuX12 tyX12 tyX12_ok nmX12 hown hK hP hD hS 0 rfl rfl 23 (by decide) (hu _ hf) (fun _ h9 => h9) rfl (by decide +kernel) (rfl) (rfl) (Nat.le_of_ble_eq_true rfl) hd (fun H1 locs1 hP1 hD1 hS1 => k H1 locs1 ⟨hK, hP1, hD1, hS1, hA⟩)
theorem wmgR_0_24 {idx : Nat} (S : CallFix p m c cc nL s args uG own) (X : gX (dC, dI) (tM kc) (wM ad kc) Z A s σ H locs) (hf : Cond.fieldLink own idx "LazyForgeModel" "given" "[J" ∈ uG) (hd : decode cc pc = .ok (.getfield idx, 3))
    (k : W p l e R s m args below meth c H locs cells slots Q (F0 m (pc + 3) ls (.ref (ad 13) :: rest))) : W p l e R s m args below meth c H locs cells slots Q (F0 m pc ls (.ref (ad 0) :: rest)) := by
  obtain ⟨hx, hb, hml, hown, hu⟩ := S
  obtain ⟨hK, hP, hD, hS, hA⟩ := X
  exact va_get (D := (dC, dI)) (ci := 15) (v := .ref (ad 13)) (C := RX12) (T := TX12) (N := 136) hx hb hu iuX12 hown hK hP 0 rfl rfl 24 (by decide) (hu _ hf) (fun _ h9 => h9) rfl hd k
theorem wmgI_11 {idx : Nat} (S : CallFix p m c cc nL s args uG own) (X : gX (dC, dI) (tM kc) (wM ad kc) Z A s σ H locs) (hf : Cond.fieldLink own idx "LazyForgeModel" "parts" "I" ∈ uG) {v : Int32} (hv : gI σ 11 = v) (hd : decode cc pc = .ok (.getfield idx, 3))
    (k : W p l e R s m args below meth c H locs cells slots Q (F0 m (pc + 3) ls (.int v :: rest))) : W p l e R s m args below meth c H locs cells slots Q (F0 m pc ls (.ref (ad 0) :: rest)) := by
  subst hv
  obtain ⟨hx, hb, hml, hown, hu⟩ := S
  obtain ⟨hK, hP, hD, hS, hA⟩ := X
  exact va_get (D := (dC, dI)) (ci := 15) (v := .int (gI σ 11)) (C := RX12) (T := TX12) (N := 136) hx hb hu iuX12 hown hK hP 0 rfl rfl 25 (by decide) (hu _ hf) (fun _ h9 => h9) rfl hd k
theorem wmpI_11 {idx : Nat} {v : Int32} (S : CallFix p m c cc nL s args uG own) (X : gX (dC, dI) (tM kc) (wM ad kc) Z A s σ H locs) (hf : Cond.fieldLink own idx "LazyForgeModel" "parts" "I" ∈ uG) (hd : decode cc pc = .ok (.putfield idx, 3))
    (k : ∀ (H : Heap) (locs : List Loc), gX (dC, dI) (tM kc) (wM ad kc) Z A s (pI σ 11 v) H locs → W p l e R s m args below meth c H locs cells slots Q (F0 m (pc + 3) ls (rest))) : W p l e R s m args below meth c H locs cells slots Q (F0 m pc ls (.int v :: .ref (ad 0) :: rest)) := by
  obtain ⟨hx, hb, hml, hown, hu⟩ := S
  obtain ⟨hK, hP, hD, hS, hA⟩ := X
  exact va_put (D := (dC, dI)) (ci := 15) (v := .int v) (ty := (tyX12 25)) (C := RX12) (T := TX12) (N := 136) hx hb hu iuX12 tyX12 tyX12_ok nmX12 hown hK hP hD hS 0 rfl rfl 25 (by decide) (hu _ hf) (fun _ h9 => h9) rfl (by decide +kernel) (rfl) (rfl) (Nat.le_of_ble_eq_true rfl) hd (fun H1 locs1 hP1 hD1 hS1 => k H1 locs1 ⟨hK, hP1, hD1, hS1, hA⟩)
theorem wmgI_12 {idx : Nat} (S : CallFix p m c cc nL s args uG own) (X : gX (dC, dI) (tM kc) (wM ad kc) Z A s σ H locs) (hf : Cond.fieldLink own idx "LazyForgeModel" "allParts" "I" ∈ uG) {v : Int32} (hv : gI σ 12 = v) (hd : decode cc pc = .ok (.getfield idx, 3))
    (k : W p l e R s m args below meth c H locs cells slots Q (F0 m (pc + 3) ls (.int v :: rest))) : W p l e R s m args below meth c H locs cells slots Q (F0 m pc ls (.ref (ad 0) :: rest)) := by
  subst hv
  obtain ⟨hx, hb, hml, hown, hu⟩ := S
  obtain ⟨hK, hP, hD, hS, hA⟩ := X
  exact va_get (D := (dC, dI)) (ci := 15) (v := .int (gI σ 12)) (C := RX12) (T := TX12) (N := 136) hx hb hu iuX12 hown hK hP 0 rfl rfl 26 (by decide) (hu _ hf) (fun _ h9 => h9) rfl hd k
theorem wmpI_12 {idx : Nat} {v : Int32} (S : CallFix p m c cc nL s args uG own) (X : gX (dC, dI) (tM kc) (wM ad kc) Z A s σ H locs) (hf : Cond.fieldLink own idx "LazyForgeModel" "allParts" "I" ∈ uG) (hd : decode cc pc = .ok (.putfield idx, 3))
    (k : ∀ (H : Heap) (locs : List Loc), gX (dC, dI) (tM kc) (wM ad kc) Z A s (pI σ 12 v) H locs → W p l e R s m args below meth c H locs cells slots Q (F0 m (pc + 3) ls (rest))) : W p l e R s m args below meth c H locs cells slots Q (F0 m pc ls (.int v :: .ref (ad 0) :: rest)) := by
  obtain ⟨hx, hb, hml, hown, hu⟩ := S
  obtain ⟨hK, hP, hD, hS, hA⟩ := X
  exact va_put (D := (dC, dI)) (ci := 15) (v := .int v) (ty := (tyX12 26)) (C := RX12) (T := TX12) (N := 136) hx hb hu iuX12 tyX12 tyX12_ok nmX12 hown hK hP hD hS 0 rfl rfl 26 (by decide) (hu _ hf) (fun _ h9 => h9) rfl (by decide +kernel) (rfl) (rfl) (Nat.le_of_ble_eq_true rfl) hd (fun H1 locs1 hP1 hD1 hS1 => k H1 locs1 ⟨hK, hP1, hD1, hS1, hA⟩)
theorem wmgI_13 {idx : Nat} (S : CallFix p m c cc nL s args uG own) (X : gX (dC, dI) (tM kc) (wM ad kc) Z A s σ H locs) (hf : Cond.fieldLink own idx "LazyForgeModel" "functions" "I" ∈ uG) {v : Int32} (hv : gI σ 13 = v) (hd : decode cc pc = .ok (.getfield idx, 3))
    (k : W p l e R s m args below meth c H locs cells slots Q (F0 m (pc + 3) ls (.int v :: rest))) : W p l e R s m args below meth c H locs cells slots Q (F0 m pc ls (.ref (ad 0) :: rest)) := by
  subst hv
  obtain ⟨hx, hb, hml, hown, hu⟩ := S
  obtain ⟨hK, hP, hD, hS, hA⟩ := X
  exact va_get (D := (dC, dI)) (ci := 15) (v := .int (gI σ 13)) (C := RX12) (T := TX12) (N := 136) hx hb hu iuX12 hown hK hP 0 rfl rfl 27 (by decide) (hu _ hf) (fun _ h9 => h9) rfl hd k
theorem wmpI_13 {idx : Nat} {v : Int32} (S : CallFix p m c cc nL s args uG own) (X : gX (dC, dI) (tM kc) (wM ad kc) Z A s σ H locs) (hf : Cond.fieldLink own idx "LazyForgeModel" "functions" "I" ∈ uG) (hd : decode cc pc = .ok (.putfield idx, 3))
    (k : ∀ (H : Heap) (locs : List Loc), gX (dC, dI) (tM kc) (wM ad kc) Z A s (pI σ 13 v) H locs → W p l e R s m args below meth c H locs cells slots Q (F0 m (pc + 3) ls (rest))) : W p l e R s m args below meth c H locs cells slots Q (F0 m pc ls (.int v :: .ref (ad 0) :: rest)) := by
  obtain ⟨hx, hb, hml, hown, hu⟩ := S
  obtain ⟨hK, hP, hD, hS, hA⟩ := X
  exact va_put (D := (dC, dI)) (ci := 15) (v := .int v) (ty := (tyX12 27)) (C := RX12) (T := TX12) (N := 136) hx hb hu iuX12 tyX12 tyX12_ok nmX12 hown hK hP hD hS 0 rfl rfl 27 (by decide) (hu _ hf) (fun _ h9 => h9) rfl (by decide +kernel) (rfl) (rfl) (Nat.le_of_ble_eq_true rfl) hd (fun H1 locs1 hP1 hD1 hS1 => k H1 locs1 ⟨hK, hP1, hD1, hS1, hA⟩)
theorem wmgR_0_28 {idx : Nat} (S : CallFix p m c cc nL s args uG own) (X : gX (dC, dI) (tM kc) (wM ad kc) Z A s σ H locs) (hf : Cond.fieldLink own idx "LazyForgeModel" "functionNames" "[J" ∈ uG) (hd : decode cc pc = .ok (.getfield idx, 3))
    (k : W p l e R s m args below meth c H locs cells slots Q (F0 m (pc + 3) ls (.ref (ad 14) :: rest))) : W p l e R s m args below meth c H locs cells slots Q (F0 m pc ls (.ref (ad 0) :: rest)) := by
  obtain ⟨hx, hb, hml, hown, hu⟩ := S
  obtain ⟨hK, hP, hD, hS, hA⟩ := X
  exact va_get (D := (dC, dI)) (ci := 15) (v := .ref (ad 14)) (C := RX12) (T := TX12) (N := 136) hx hb hu iuX12 hown hK hP 0 rfl rfl 28 (by decide) (hu _ hf) (fun _ h9 => h9) rfl hd k
theorem wmgR_0_29 {idx : Nat} (S : CallFix p m c cc nL s args uG own) (X : gX (dC, dI) (tM kc) (wM ad kc) Z A s σ H locs) (hf : Cond.fieldLink own idx "LazyForgeModel" "functionPlaces" "[I" ∈ uG) (hd : decode cc pc = .ok (.getfield idx, 3))
    (k : W p l e R s m args below meth c H locs cells slots Q (F0 m (pc + 3) ls (.ref (ad 15) :: rest))) : W p l e R s m args below meth c H locs cells slots Q (F0 m pc ls (.ref (ad 0) :: rest)) := by
  obtain ⟨hx, hb, hml, hown, hu⟩ := S
  obtain ⟨hK, hP, hD, hS, hA⟩ := X
  exact va_get (D := (dC, dI)) (ci := 15) (v := .ref (ad 15)) (C := RX12) (T := TX12) (N := 136) hx hb hu iuX12 hown hK hP 0 rfl rfl 29 (by decide) (hu _ hf) (fun _ h9 => h9) rfl hd k
theorem wmgR_0_30 {idx : Nat} (S : CallFix p m c cc nL s args uG own) (X : gX (dC, dI) (tM kc) (wM ad kc) Z A s σ H locs) (hf : Cond.fieldLink own idx "LazyForgeModel" "functionNodes" "[I" ∈ uG) (hd : decode cc pc = .ok (.getfield idx, 3))
    (k : W p l e R s m args below meth c H locs cells slots Q (F0 m (pc + 3) ls (.ref (ad 16) :: rest))) : W p l e R s m args below meth c H locs cells slots Q (F0 m pc ls (.ref (ad 0) :: rest)) := by
  obtain ⟨hx, hb, hml, hown, hu⟩ := S
  obtain ⟨hK, hP, hD, hS, hA⟩ := X
  exact va_get (D := (dC, dI)) (ci := 15) (v := .ref (ad 16)) (C := RX12) (T := TX12) (N := 136) hx hb hu iuX12 hown hK hP 0 rfl rfl 30 (by decide) (hu _ hf) (fun _ h9 => h9) rfl hd k
theorem wmgI_14 {idx : Nat} (S : CallFix p m c cc nL s args uG own) (X : gX (dC, dI) (tM kc) (wM ad kc) Z A s σ H locs) (hf : Cond.fieldLink own idx "LazyForgeModel" "constructors" "I" ∈ uG) {v : Int32} (hv : gI σ 14 = v) (hd : decode cc pc = .ok (.getfield idx, 3))
    (k : W p l e R s m args below meth c H locs cells slots Q (F0 m (pc + 3) ls (.int v :: rest))) : W p l e R s m args below meth c H locs cells slots Q (F0 m pc ls (.ref (ad 0) :: rest)) := by
  subst hv
  obtain ⟨hx, hb, hml, hown, hu⟩ := S
  obtain ⟨hK, hP, hD, hS, hA⟩ := X
  exact va_get (D := (dC, dI)) (ci := 15) (v := .int (gI σ 14)) (C := RX12) (T := TX12) (N := 136) hx hb hu iuX12 hown hK hP 0 rfl rfl 31 (by decide) (hu _ hf) (fun _ h9 => h9) rfl hd k
theorem wmpI_14 {idx : Nat} {v : Int32} (S : CallFix p m c cc nL s args uG own) (X : gX (dC, dI) (tM kc) (wM ad kc) Z A s σ H locs) (hf : Cond.fieldLink own idx "LazyForgeModel" "constructors" "I" ∈ uG) (hd : decode cc pc = .ok (.putfield idx, 3))
    (k : ∀ (H : Heap) (locs : List Loc), gX (dC, dI) (tM kc) (wM ad kc) Z A s (pI σ 14 v) H locs → W p l e R s m args below meth c H locs cells slots Q (F0 m (pc + 3) ls (rest))) : W p l e R s m args below meth c H locs cells slots Q (F0 m pc ls (.int v :: .ref (ad 0) :: rest)) := by
  obtain ⟨hx, hb, hml, hown, hu⟩ := S
  obtain ⟨hK, hP, hD, hS, hA⟩ := X
  exact va_put (D := (dC, dI)) (ci := 15) (v := .int v) (ty := (tyX12 31)) (C := RX12) (T := TX12) (N := 136) hx hb hu iuX12 tyX12 tyX12_ok nmX12 hown hK hP hD hS 0 rfl rfl 31 (by decide) (hu _ hf) (fun _ h9 => h9) rfl (by decide +kernel) (rfl) (rfl) (Nat.le_of_ble_eq_true rfl) hd (fun H1 locs1 hP1 hD1 hS1 => k H1 locs1 ⟨hK, hP1, hD1, hS1, hA⟩)
theorem wmgR_0_32 {idx : Nat} (S : CallFix p m c cc nL s args uG own) (X : gX (dC, dI) (tM kc) (wM ad kc) Z A s σ H locs) (hf : Cond.fieldLink own idx "LazyForgeModel" "constructorNames" "[J" ∈ uG) (hd : decode cc pc = .ok (.getfield idx, 3))
    (k : W p l e R s m args below meth c H locs cells slots Q (F0 m (pc + 3) ls (.ref (ad 17) :: rest))) : W p l e R s m args below meth c H locs cells slots Q (F0 m pc ls (.ref (ad 0) :: rest)) := by
  obtain ⟨hx, hb, hml, hown, hu⟩ := S
  obtain ⟨hK, hP, hD, hS, hA⟩ := X
  exact va_get (D := (dC, dI)) (ci := 15) (v := .ref (ad 17)) (C := RX12) (T := TX12) (N := 136) hx hb hu iuX12 hown hK hP 0 rfl rfl 32 (by decide) (hu _ hf) (fun _ h9 => h9) rfl hd k
theorem wmgR_0_33 {idx : Nat} (S : CallFix p m c cc nL s args uG own) (X : gX (dC, dI) (tM kc) (wM ad kc) Z A s σ H locs) (hf : Cond.fieldLink own idx "LazyForgeModel" "fieldCounts" "[I" ∈ uG) (hd : decode cc pc = .ok (.getfield idx, 3))
    (k : W p l e R s m args below meth c H locs cells slots Q (F0 m (pc + 3) ls (.ref (ad 18) :: rest))) : W p l e R s m args below meth c H locs cells slots Q (F0 m pc ls (.ref (ad 0) :: rest)) := by
  obtain ⟨hx, hb, hml, hown, hu⟩ := S
  obtain ⟨hK, hP, hD, hS, hA⟩ := X
  exact va_get (D := (dC, dI)) (ci := 15) (v := .ref (ad 18)) (C := RX12) (T := TX12) (N := 136) hx hb hu iuX12 hown hK hP 0 rfl rfl 33 (by decide) (hu _ hf) (fun _ h9 => h9) rfl hd k
theorem wmgI_15 {idx : Nat} (S : CallFix p m c cc nL s args uG own) (X : gX (dC, dI) (tM kc) (wM ad kc) Z A s σ H locs) (hf : Cond.fieldLink own idx "LazyForgeModel" "open" "I" ∈ uG) {v : Int32} (hv : gI σ 15 = v) (hd : decode cc pc = .ok (.getfield idx, 3))
    (k : W p l e R s m args below meth c H locs cells slots Q (F0 m (pc + 3) ls (.int v :: rest))) : W p l e R s m args below meth c H locs cells slots Q (F0 m pc ls (.ref (ad 0) :: rest)) := by
  subst hv
  obtain ⟨hx, hb, hml, hown, hu⟩ := S
  obtain ⟨hK, hP, hD, hS, hA⟩ := X
  exact va_get (D := (dC, dI)) (ci := 15) (v := .int (gI σ 15)) (C := RX12) (T := TX12) (N := 136) hx hb hu iuX12 hown hK hP 0 rfl rfl 34 (by decide) (hu _ hf) (fun _ h9 => h9) rfl hd k
theorem wmpI_15 {idx : Nat} {v : Int32} (S : CallFix p m c cc nL s args uG own) (X : gX (dC, dI) (tM kc) (wM ad kc) Z A s σ H locs) (hf : Cond.fieldLink own idx "LazyForgeModel" "open" "I" ∈ uG) (hd : decode cc pc = .ok (.putfield idx, 3))
    (k : ∀ (H : Heap) (locs : List Loc), gX (dC, dI) (tM kc) (wM ad kc) Z A s (pI σ 15 v) H locs → W p l e R s m args below meth c H locs cells slots Q (F0 m (pc + 3) ls (rest))) : W p l e R s m args below meth c H locs cells slots Q (F0 m pc ls (.int v :: .ref (ad 0) :: rest)) := by
  obtain ⟨hx, hb, hml, hown, hu⟩ := S
  obtain ⟨hK, hP, hD, hS, hA⟩ := X
  exact va_put (D := (dC, dI)) (ci := 15) (v := .int v) (ty := (tyX12 34)) (C := RX12) (T := TX12) (N := 136) hx hb hu iuX12 tyX12 tyX12_ok nmX12 hown hK hP hD hS 0 rfl rfl 34 (by decide) (hu _ hf) (fun _ h9 => h9) rfl (by decide +kernel) (rfl) (rfl) (Nat.le_of_ble_eq_true rfl) hd (fun H1 locs1 hP1 hD1 hS1 => k H1 locs1 ⟨hK, hP1, hD1, hS1, hA⟩)
theorem wmgI_16 {idx : Nat} (S : CallFix p m c cc nL s args uG own) (X : gX (dC, dI) (tM kc) (wM ad kc) Z A s σ H locs) (hf : Cond.fieldLink own idx "LazyForgeModel" "piled" "I" ∈ uG) {v : Int32} (hv : gI σ 16 = v) (hd : decode cc pc = .ok (.getfield idx, 3))
    (k : W p l e R s m args below meth c H locs cells slots Q (F0 m (pc + 3) ls (.int v :: rest))) : W p l e R s m args below meth c H locs cells slots Q (F0 m pc ls (.ref (ad 0) :: rest)) := by
  subst hv
  obtain ⟨hx, hb, hml, hown, hu⟩ := S
  obtain ⟨hK, hP, hD, hS, hA⟩ := X
  exact va_get (D := (dC, dI)) (ci := 15) (v := .int (gI σ 16)) (C := RX12) (T := TX12) (N := 136) hx hb hu iuX12 hown hK hP 0 rfl rfl 35 (by decide) (hu _ hf) (fun _ h9 => h9) rfl hd k
theorem wmpI_16 {idx : Nat} {v : Int32} (S : CallFix p m c cc nL s args uG own) (X : gX (dC, dI) (tM kc) (wM ad kc) Z A s σ H locs) (hf : Cond.fieldLink own idx "LazyForgeModel" "piled" "I" ∈ uG) (hd : decode cc pc = .ok (.putfield idx, 3))
    (k : ∀ (H : Heap) (locs : List Loc), gX (dC, dI) (tM kc) (wM ad kc) Z A s (pI σ 16 v) H locs → W p l e R s m args below meth c H locs cells slots Q (F0 m (pc + 3) ls (rest))) : W p l e R s m args below meth c H locs cells slots Q (F0 m pc ls (.int v :: .ref (ad 0) :: rest)) := by
  obtain ⟨hx, hb, hml, hown, hu⟩ := S
  obtain ⟨hK, hP, hD, hS, hA⟩ := X
  exact va_put (D := (dC, dI)) (ci := 15) (v := .int v) (ty := (tyX12 35)) (C := RX12) (T := TX12) (N := 136) hx hb hu iuX12 tyX12 tyX12_ok nmX12 hown hK hP hD hS 0 rfl rfl 35 (by decide) (hu _ hf) (fun _ h9 => h9) rfl (by decide +kernel) (rfl) (rfl) (Nat.le_of_ble_eq_true rfl) hd (fun H1 locs1 hP1 hD1 hS1 => k H1 locs1 ⟨hK, hP1, hD1, hS1, hA⟩)
theorem wmgR_0_36 {idx : Nat} (S : CallFix p m c cc nL s args uG own) (X : gX (dC, dI) (tM kc) (wM ad kc) Z A s σ H locs) (hf : Cond.fieldLink own idx "LazyForgeModel" "pileKinds" "[I" ∈ uG) (hd : decode cc pc = .ok (.getfield idx, 3))
    (k : W p l e R s m args below meth c H locs cells slots Q (F0 m (pc + 3) ls (.ref (ad 19) :: rest))) : W p l e R s m args below meth c H locs cells slots Q (F0 m pc ls (.ref (ad 0) :: rest)) := by
  obtain ⟨hx, hb, hml, hown, hu⟩ := S
  obtain ⟨hK, hP, hD, hS, hA⟩ := X
  exact va_get (D := (dC, dI)) (ci := 15) (v := .ref (ad 19)) (C := RX12) (T := TX12) (N := 136) hx hb hu iuX12 hown hK hP 0 rfl rfl 36 (by decide) (hu _ hf) (fun _ h9 => h9) rfl hd k
theorem wmgR_0_37 {idx : Nat} (S : CallFix p m c cc nL s args uG own) (X : gX (dC, dI) (tM kc) (wM ad kc) Z A s σ H locs) (hf : Cond.fieldLink own idx "LazyForgeModel" "pileNodes" "[I" ∈ uG) (hd : decode cc pc = .ok (.getfield idx, 3))
    (k : W p l e R s m args below meth c H locs cells slots Q (F0 m (pc + 3) ls (.ref (ad 20) :: rest))) : W p l e R s m args below meth c H locs cells slots Q (F0 m pc ls (.ref (ad 0) :: rest)) := by
  obtain ⟨hx, hb, hml, hown, hu⟩ := S
  obtain ⟨hK, hP, hD, hS, hA⟩ := X
  exact va_get (D := (dC, dI)) (ci := 15) (v := .ref (ad 20)) (C := RX12) (T := TX12) (N := 136) hx hb hu iuX12 hown hK hP 0 rfl rfl 37 (by decide) (hu _ hf) (fun _ h9 => h9) rfl hd k
theorem wmgR_0_38 {idx : Nat} (S : CallFix p m c cc nL s args uG own) (X : gX (dC, dI) (tM kc) (wM ad kc) Z A s σ H locs) (hf : Cond.fieldLink own idx "LazyForgeModel" "pileRanks" "[I" ∈ uG) (hd : decode cc pc = .ok (.getfield idx, 3))
    (k : W p l e R s m args below meth c H locs cells slots Q (F0 m (pc + 3) ls (.ref (ad 21) :: rest))) : W p l e R s m args below meth c H locs cells slots Q (F0 m pc ls (.ref (ad 0) :: rest)) := by
  obtain ⟨hx, hb, hml, hown, hu⟩ := S
  obtain ⟨hK, hP, hD, hS, hA⟩ := X
  exact va_get (D := (dC, dI)) (ci := 15) (v := .ref (ad 21)) (C := RX12) (T := TX12) (N := 136) hx hb hu iuX12 hown hK hP 0 rfl rfl 38 (by decide) (hu _ hf) (fun _ h9 => h9) rfl hd k
theorem wmgR_0_39 {idx : Nat} (S : CallFix p m c cc nL s args uG own) (X : gX (dC, dI) (tM kc) (wM ad kc) Z A s σ H locs) (hf : Cond.fieldLink own idx "LazyForgeModel" "pileCounts" "[I" ∈ uG) (hd : decode cc pc = .ok (.getfield idx, 3))
    (k : W p l e R s m args below meth c H locs cells slots Q (F0 m (pc + 3) ls (.ref (ad 22) :: rest))) : W p l e R s m args below meth c H locs cells slots Q (F0 m pc ls (.ref (ad 0) :: rest)) := by
  obtain ⟨hx, hb, hml, hown, hu⟩ := S
  obtain ⟨hK, hP, hD, hS, hA⟩ := X
  exact va_get (D := (dC, dI)) (ci := 15) (v := .ref (ad 22)) (C := RX12) (T := TX12) (N := 136) hx hb hu iuX12 hown hK hP 0 rfl rfl 39 (by decide) (hu _ hf) (fun _ h9 => h9) rfl hd k
theorem wmgI_17 {idx : Nat} (S : CallFix p m c cc nL s args uG own) (X : gX (dC, dI) (tM kc) (wM ad kc) Z A s σ H locs) (hf : Cond.fieldLink own idx "LazyForgeModel" "operands" "I" ∈ uG) {v : Int32} (hv : gI σ 17 = v) (hd : decode cc pc = .ok (.getfield idx, 3))
    (k : W p l e R s m args below meth c H locs cells slots Q (F0 m (pc + 3) ls (.int v :: rest))) : W p l e R s m args below meth c H locs cells slots Q (F0 m pc ls (.ref (ad 0) :: rest)) := by
  subst hv
  obtain ⟨hx, hb, hml, hown, hu⟩ := S
  obtain ⟨hK, hP, hD, hS, hA⟩ := X
  exact va_get (D := (dC, dI)) (ci := 15) (v := .int (gI σ 17)) (C := RX12) (T := TX12) (N := 136) hx hb hu iuX12 hown hK hP 0 rfl rfl 40 (by decide) (hu _ hf) (fun _ h9 => h9) rfl hd k
theorem wmpI_17 {idx : Nat} {v : Int32} (S : CallFix p m c cc nL s args uG own) (X : gX (dC, dI) (tM kc) (wM ad kc) Z A s σ H locs) (hf : Cond.fieldLink own idx "LazyForgeModel" "operands" "I" ∈ uG) (hd : decode cc pc = .ok (.putfield idx, 3))
    (k : ∀ (H : Heap) (locs : List Loc), gX (dC, dI) (tM kc) (wM ad kc) Z A s (pI σ 17 v) H locs → W p l e R s m args below meth c H locs cells slots Q (F0 m (pc + 3) ls (rest))) : W p l e R s m args below meth c H locs cells slots Q (F0 m pc ls (.int v :: .ref (ad 0) :: rest)) := by
  obtain ⟨hx, hb, hml, hown, hu⟩ := S
  obtain ⟨hK, hP, hD, hS, hA⟩ := X
  exact va_put (D := (dC, dI)) (ci := 15) (v := .int v) (ty := (tyX12 40)) (C := RX12) (T := TX12) (N := 136) hx hb hu iuX12 tyX12 tyX12_ok nmX12 hown hK hP hD hS 0 rfl rfl 40 (by decide) (hu _ hf) (fun _ h9 => h9) rfl (by decide +kernel) (rfl) (rfl) (Nat.le_of_ble_eq_true rfl) hd (fun H1 locs1 hP1 hD1 hS1 => k H1 locs1 ⟨hK, hP1, hD1, hS1, hA⟩)
theorem wmgR_0_41 {idx : Nat} (S : CallFix p m c cc nL s args uG own) (X : gX (dC, dI) (tM kc) (wM ad kc) Z A s σ H locs) (hf : Cond.fieldLink own idx "LazyForgeModel" "operandNodes" "[I" ∈ uG) (hd : decode cc pc = .ok (.getfield idx, 3))
    (k : W p l e R s m args below meth c H locs cells slots Q (F0 m (pc + 3) ls (.ref (ad 23) :: rest))) : W p l e R s m args below meth c H locs cells slots Q (F0 m pc ls (.ref (ad 0) :: rest)) := by
  obtain ⟨hx, hb, hml, hown, hu⟩ := S
  obtain ⟨hK, hP, hD, hS, hA⟩ := X
  exact va_get (D := (dC, dI)) (ci := 15) (v := .ref (ad 23)) (C := RX12) (T := TX12) (N := 136) hx hb hu iuX12 hown hK hP 0 rfl rfl 41 (by decide) (hu _ hf) (fun _ h9 => h9) rfl hd k
theorem wmgI_18 {idx : Nat} (S : CallFix p m c cc nL s args uG own) (X : gX (dC, dI) (tM kc) (wM ad kc) Z A s σ H locs) (hf : Cond.fieldLink own idx "LazyForgeModel" "startsE" "Z" ∈ uG) {v : Int32} (hv : gI σ 18 = v) (hd : decode cc pc = .ok (.getfield idx, 3))
    (k : W p l e R s m args below meth c H locs cells slots Q (F0 m (pc + 3) ls (.int v :: rest))) : W p l e R s m args below meth c H locs cells slots Q (F0 m pc ls (.ref (ad 0) :: rest)) := by
  subst hv
  obtain ⟨hx, hb, hml, hown, hu⟩ := S
  obtain ⟨hK, hP, hD, hS, hA⟩ := X
  exact va_get (D := (dC, dI)) (ci := 15) (v := .int (gI σ 18)) (C := RX12) (T := TX12) (N := 136) hx hb hu iuX12 hown hK hP 0 rfl rfl 42 (by decide) (hu _ hf) (fun _ h9 => h9) rfl hd k
theorem wmpI_18 {idx : Nat} {v : Int32} (S : CallFix p m c cc nL s args uG own) (X : gX (dC, dI) (tM kc) (wM ad kc) Z A s σ H locs) (hf : Cond.fieldLink own idx "LazyForgeModel" "startsE" "Z" ∈ uG) (hn : v = 0 ∨ v = 1) (hd : decode cc pc = .ok (.putfield idx, 3))
    (k : ∀ (H : Heap) (locs : List Loc), gX (dC, dI) (tM kc) (wM ad kc) Z A s (pI σ 18 v) H locs → W p l e R s m args below meth c H locs cells slots Q (F0 m (pc + 3) ls (rest))) : W p l e R s m args below meth c H locs cells slots Q (F0 m pc ls (.int v :: .ref (ad 0) :: rest)) := by
  obtain ⟨hx, hb, hml, hown, hu⟩ := S
  obtain ⟨hK, hP, hD, hS, hA⟩ := X
  exact va_put (D := (dC, dI)) (ci := 15) (v := .int v) (ty := (tyX12 42)) (C := RX12) (T := TX12) (N := 136) hx hb hu iuX12 tyX12 tyX12_ok nmX12 hown hK hP hD hS 0 rfl rfl 42 (by decide) (hu _ hf) (fun _ h9 => h9) rfl (by decide +kernel) (by rcases hn with rfl | rfl <;> rfl) (by rcases hn with rfl | rfl <;> rfl) (Nat.le_of_ble_eq_true rfl) hd (fun H1 locs1 hP1 hD1 hS1 => k H1 locs1 ⟨hK, hP1, hD1, hS1, hA⟩)
theorem wmgI_19 {idx : Nat} (S : CallFix p m c cc nL s args uG own) (X : gX (dC, dI) (tM kc) (wM ad kc) Z A s σ H locs) (hf : Cond.fieldLink own idx "LazyForgeModel" "wants" "Z" ∈ uG) {v : Int32} (hv : gI σ 19 = v) (hd : decode cc pc = .ok (.getfield idx, 3))
    (k : W p l e R s m args below meth c H locs cells slots Q (F0 m (pc + 3) ls (.int v :: rest))) : W p l e R s m args below meth c H locs cells slots Q (F0 m pc ls (.ref (ad 0) :: rest)) := by
  subst hv
  obtain ⟨hx, hb, hml, hown, hu⟩ := S
  obtain ⟨hK, hP, hD, hS, hA⟩ := X
  exact va_get (D := (dC, dI)) (ci := 15) (v := .int (gI σ 19)) (C := RX12) (T := TX12) (N := 136) hx hb hu iuX12 hown hK hP 0 rfl rfl 43 (by decide) (hu _ hf) (fun _ h9 => h9) rfl hd k
theorem wmpI_19 {idx : Nat} {v : Int32} (S : CallFix p m c cc nL s args uG own) (X : gX (dC, dI) (tM kc) (wM ad kc) Z A s σ H locs) (hf : Cond.fieldLink own idx "LazyForgeModel" "wants" "Z" ∈ uG) (hn : v = 0 ∨ v = 1) (hd : decode cc pc = .ok (.putfield idx, 3))
    (k : ∀ (H : Heap) (locs : List Loc), gX (dC, dI) (tM kc) (wM ad kc) Z A s (pI σ 19 v) H locs → W p l e R s m args below meth c H locs cells slots Q (F0 m (pc + 3) ls (rest))) : W p l e R s m args below meth c H locs cells slots Q (F0 m pc ls (.int v :: .ref (ad 0) :: rest)) := by
  obtain ⟨hx, hb, hml, hown, hu⟩ := S
  obtain ⟨hK, hP, hD, hS, hA⟩ := X
  exact va_put (D := (dC, dI)) (ci := 15) (v := .int v) (ty := (tyX12 43)) (C := RX12) (T := TX12) (N := 136) hx hb hu iuX12 tyX12 tyX12_ok nmX12 hown hK hP hD hS 0 rfl rfl 43 (by decide) (hu _ hf) (fun _ h9 => h9) rfl (by decide +kernel) (by rcases hn with rfl | rfl <;> rfl) (by rcases hn with rfl | rfl <;> rfl) (Nat.le_of_ble_eq_true rfl) hd (fun H1 locs1 hP1 hD1 hS1 => k H1 locs1 ⟨hK, hP1, hD1, hS1, hA⟩)
theorem wmgI_20 {idx : Nat} (S : CallFix p m c cc nL s args uG own) (X : gX (dC, dI) (tM kc) (wM ad kc) Z A s σ H locs) (hf : Cond.fieldLink own idx "LazyForgeModel" "isApplied" "Z" ∈ uG) {v : Int32} (hv : gI σ 20 = v) (hd : decode cc pc = .ok (.getfield idx, 3))
    (k : W p l e R s m args below meth c H locs cells slots Q (F0 m (pc + 3) ls (.int v :: rest))) : W p l e R s m args below meth c H locs cells slots Q (F0 m pc ls (.ref (ad 0) :: rest)) := by
  subst hv
  obtain ⟨hx, hb, hml, hown, hu⟩ := S
  obtain ⟨hK, hP, hD, hS, hA⟩ := X
  exact va_get (D := (dC, dI)) (ci := 15) (v := .int (gI σ 20)) (C := RX12) (T := TX12) (N := 136) hx hb hu iuX12 hown hK hP 0 rfl rfl 44 (by decide) (hu _ hf) (fun _ h9 => h9) rfl hd k
theorem wmpI_20 {idx : Nat} {v : Int32} (S : CallFix p m c cc nL s args uG own) (X : gX (dC, dI) (tM kc) (wM ad kc) Z A s σ H locs) (hf : Cond.fieldLink own idx "LazyForgeModel" "isApplied" "Z" ∈ uG) (hn : v = 0 ∨ v = 1) (hd : decode cc pc = .ok (.putfield idx, 3))
    (k : ∀ (H : Heap) (locs : List Loc), gX (dC, dI) (tM kc) (wM ad kc) Z A s (pI σ 20 v) H locs → W p l e R s m args below meth c H locs cells slots Q (F0 m (pc + 3) ls (rest))) : W p l e R s m args below meth c H locs cells slots Q (F0 m pc ls (.int v :: .ref (ad 0) :: rest)) := by
  obtain ⟨hx, hb, hml, hown, hu⟩ := S
  obtain ⟨hK, hP, hD, hS, hA⟩ := X
  exact va_put (D := (dC, dI)) (ci := 15) (v := .int v) (ty := (tyX12 44)) (C := RX12) (T := TX12) (N := 136) hx hb hu iuX12 tyX12 tyX12_ok nmX12 hown hK hP hD hS 0 rfl rfl 44 (by decide) (hu _ hf) (fun _ h9 => h9) rfl (by decide +kernel) (by rcases hn with rfl | rfl <;> rfl) (by rcases hn with rfl | rfl <;> rfl) (Nat.le_of_ble_eq_true rfl) hd (fun H1 locs1 hP1 hD1 hS1 => k H1 locs1 ⟨hK, hP1, hD1, hS1, hA⟩)
theorem wmgI_21 {idx : Nat} (S : CallFix p m c cc nL s args uG own) (X : gX (dC, dI) (tM kc) (wM ad kc) Z A s σ H locs) (hf : Cond.fieldLink own idx "LazyForgeModel" "isEnded" "Z" ∈ uG) {v : Int32} (hv : gI σ 21 = v) (hd : decode cc pc = .ok (.getfield idx, 3))
    (k : W p l e R s m args below meth c H locs cells slots Q (F0 m (pc + 3) ls (.int v :: rest))) : W p l e R s m args below meth c H locs cells slots Q (F0 m pc ls (.ref (ad 0) :: rest)) := by
  subst hv
  obtain ⟨hx, hb, hml, hown, hu⟩ := S
  obtain ⟨hK, hP, hD, hS, hA⟩ := X
  exact va_get (D := (dC, dI)) (ci := 15) (v := .int (gI σ 21)) (C := RX12) (T := TX12) (N := 136) hx hb hu iuX12 hown hK hP 0 rfl rfl 45 (by decide) (hu _ hf) (fun _ h9 => h9) rfl hd k
theorem wmpI_21 {idx : Nat} {v : Int32} (S : CallFix p m c cc nL s args uG own) (X : gX (dC, dI) (tM kc) (wM ad kc) Z A s σ H locs) (hf : Cond.fieldLink own idx "LazyForgeModel" "isEnded" "Z" ∈ uG) (hn : v = 0 ∨ v = 1) (hd : decode cc pc = .ok (.putfield idx, 3))
    (k : ∀ (H : Heap) (locs : List Loc), gX (dC, dI) (tM kc) (wM ad kc) Z A s (pI σ 21 v) H locs → W p l e R s m args below meth c H locs cells slots Q (F0 m (pc + 3) ls (rest))) : W p l e R s m args below meth c H locs cells slots Q (F0 m pc ls (.int v :: .ref (ad 0) :: rest)) := by
  obtain ⟨hx, hb, hml, hown, hu⟩ := S
  obtain ⟨hK, hP, hD, hS, hA⟩ := X
  exact va_put (D := (dC, dI)) (ci := 15) (v := .int v) (ty := (tyX12 45)) (C := RX12) (T := TX12) (N := 136) hx hb hu iuX12 tyX12 tyX12_ok nmX12 hown hK hP hD hS 0 rfl rfl 45 (by decide) (hu _ hf) (fun _ h9 => h9) rfl (by decide +kernel) (by rcases hn with rfl | rfl <;> rfl) (by rcases hn with rfl | rfl <;> rfl) (Nat.le_of_ble_eq_true rfl) hd (fun H1 locs1 hP1 hD1 hS1 => k H1 locs1 ⟨hK, hP1, hD1, hS1, hA⟩)
theorem wmgI_22 {idx : Nat} (S : CallFix p m c cc nL s args uG own) (X : gX (dC, dI) (tM kc) (wM ad kc) Z A s σ H locs) (hf : Cond.fieldLink own idx "LazyForgeModel" "named" "I" ∈ uG) {v : Int32} (hv : gI σ 22 = v) (hd : decode cc pc = .ok (.getfield idx, 3))
    (k : W p l e R s m args below meth c H locs cells slots Q (F0 m (pc + 3) ls (.int v :: rest))) : W p l e R s m args below meth c H locs cells slots Q (F0 m pc ls (.ref (ad 0) :: rest)) := by
  subst hv
  obtain ⟨hx, hb, hml, hown, hu⟩ := S
  obtain ⟨hK, hP, hD, hS, hA⟩ := X
  exact va_get (D := (dC, dI)) (ci := 15) (v := .int (gI σ 22)) (C := RX12) (T := TX12) (N := 136) hx hb hu iuX12 hown hK hP 0 rfl rfl 46 (by decide) (hu _ hf) (fun _ h9 => h9) rfl hd k
theorem wmpI_22 {idx : Nat} {v : Int32} (S : CallFix p m c cc nL s args uG own) (X : gX (dC, dI) (tM kc) (wM ad kc) Z A s σ H locs) (hf : Cond.fieldLink own idx "LazyForgeModel" "named" "I" ∈ uG) (hd : decode cc pc = .ok (.putfield idx, 3))
    (k : ∀ (H : Heap) (locs : List Loc), gX (dC, dI) (tM kc) (wM ad kc) Z A s (pI σ 22 v) H locs → W p l e R s m args below meth c H locs cells slots Q (F0 m (pc + 3) ls (rest))) : W p l e R s m args below meth c H locs cells slots Q (F0 m pc ls (.int v :: .ref (ad 0) :: rest)) := by
  obtain ⟨hx, hb, hml, hown, hu⟩ := S
  obtain ⟨hK, hP, hD, hS, hA⟩ := X
  exact va_put (D := (dC, dI)) (ci := 15) (v := .int v) (ty := (tyX12 46)) (C := RX12) (T := TX12) (N := 136) hx hb hu iuX12 tyX12 tyX12_ok nmX12 hown hK hP hD hS 0 rfl rfl 46 (by decide) (hu _ hf) (fun _ h9 => h9) rfl (by decide +kernel) (rfl) (rfl) (Nat.le_of_ble_eq_true rfl) hd (fun H1 locs1 hP1 hD1 hS1 => k H1 locs1 ⟨hK, hP1, hD1, hS1, hA⟩)
theorem wmgR_0_47 {idx : Nat} (S : CallFix p m c cc nL s args uG own) (X : gX (dC, dI) (tM kc) (wM ad kc) Z A s σ H locs) (hf : Cond.fieldLink own idx "LazyForgeModel" "functionOf" "[I" ∈ uG) (hd : decode cc pc = .ok (.getfield idx, 3))
    (k : W p l e R s m args below meth c H locs cells slots Q (F0 m (pc + 3) ls (.ref (ad 24) :: rest))) : W p l e R s m args below meth c H locs cells slots Q (F0 m pc ls (.ref (ad 0) :: rest)) := by
  obtain ⟨hx, hb, hml, hown, hu⟩ := S
  obtain ⟨hK, hP, hD, hS, hA⟩ := X
  exact va_get (D := (dC, dI)) (ci := 15) (v := .ref (ad 24)) (C := RX12) (T := TX12) (N := 136) hx hb hu iuX12 hown hK hP 0 rfl rfl 47 (by decide) (hu _ hf) (fun _ h9 => h9) rfl hd k
theorem wmgR_0_48 {idx : Nat} (S : CallFix p m c cc nL s args uG own) (X : gX (dC, dI) (tM kc) (wM ad kc) Z A s σ H locs) (hf : Cond.fieldLink own idx "LazyForgeModel" "freeCounts" "[I" ∈ uG) (hd : decode cc pc = .ok (.getfield idx, 3))
    (k : W p l e R s m args below meth c H locs cells slots Q (F0 m (pc + 3) ls (.ref (ad 25) :: rest))) : W p l e R s m args below meth c H locs cells slots Q (F0 m pc ls (.ref (ad 0) :: rest)) := by
  obtain ⟨hx, hb, hml, hown, hu⟩ := S
  obtain ⟨hK, hP, hD, hS, hA⟩ := X
  exact va_get (D := (dC, dI)) (ci := 15) (v := .ref (ad 25)) (C := RX12) (T := TX12) (N := 136) hx hb hu iuX12 hown hK hP 0 rfl rfl 48 (by decide) (hu _ hf) (fun _ h9 => h9) rfl hd k
theorem wmgR_0_49 {idx : Nat} (S : CallFix p m c cc nL s args uG own) (X : gX (dC, dI) (tM kc) (wM ad kc) Z A s σ H locs) (hf : Cond.fieldLink own idx "LazyForgeModel" "frees" "[I" ∈ uG) (hd : decode cc pc = .ok (.getfield idx, 3))
    (k : W p l e R s m args below meth c H locs cells slots Q (F0 m (pc + 3) ls (.ref (ad 26) :: rest))) : W p l e R s m args below meth c H locs cells slots Q (F0 m pc ls (.ref (ad 0) :: rest)) := by
  obtain ⟨hx, hb, hml, hown, hu⟩ := S
  obtain ⟨hK, hP, hD, hS, hA⟩ := X
  exact va_get (D := (dC, dI)) (ci := 15) (v := .ref (ad 26)) (C := RX12) (T := TX12) (N := 136) hx hb hu iuX12 hown hK hP 0 rfl rfl 49 (by decide) (hu _ hf) (fun _ h9 => h9) rfl hd k
theorem wmgI_23 {idx : Nat} (S : CallFix p m c cc nL s args uG own) (X : gX (dC, dI) (tM kc) (wM ad kc) Z A s σ H locs) (hf : Cond.fieldLink own idx "LazyForgeModel" "variables" "I" ∈ uG) {v : Int32} (hv : gI σ 23 = v) (hd : decode cc pc = .ok (.getfield idx, 3))
    (k : W p l e R s m args below meth c H locs cells slots Q (F0 m (pc + 3) ls (.int v :: rest))) : W p l e R s m args below meth c H locs cells slots Q (F0 m pc ls (.ref (ad 0) :: rest)) := by
  subst hv
  obtain ⟨hx, hb, hml, hown, hu⟩ := S
  obtain ⟨hK, hP, hD, hS, hA⟩ := X
  exact va_get (D := (dC, dI)) (ci := 15) (v := .int (gI σ 23)) (C := RX12) (T := TX12) (N := 136) hx hb hu iuX12 hown hK hP 0 rfl rfl 50 (by decide) (hu _ hf) (fun _ h9 => h9) rfl hd k
theorem wmpI_23 {idx : Nat} {v : Int32} (S : CallFix p m c cc nL s args uG own) (X : gX (dC, dI) (tM kc) (wM ad kc) Z A s σ H locs) (hf : Cond.fieldLink own idx "LazyForgeModel" "variables" "I" ∈ uG) (hd : decode cc pc = .ok (.putfield idx, 3))
    (k : ∀ (H : Heap) (locs : List Loc), gX (dC, dI) (tM kc) (wM ad kc) Z A s (pI σ 23 v) H locs → W p l e R s m args below meth c H locs cells slots Q (F0 m (pc + 3) ls (rest))) : W p l e R s m args below meth c H locs cells slots Q (F0 m pc ls (.int v :: .ref (ad 0) :: rest)) := by
  obtain ⟨hx, hb, hml, hown, hu⟩ := S
  obtain ⟨hK, hP, hD, hS, hA⟩ := X
  exact va_put (D := (dC, dI)) (ci := 15) (v := .int v) (ty := (tyX12 50)) (C := RX12) (T := TX12) (N := 136) hx hb hu iuX12 tyX12 tyX12_ok nmX12 hown hK hP hD hS 0 rfl rfl 50 (by decide) (hu _ hf) (fun _ h9 => h9) rfl (by decide +kernel) (rfl) (rfl) (Nat.le_of_ble_eq_true rfl) hd (fun H1 locs1 hP1 hD1 hS1 => k H1 locs1 ⟨hK, hP1, hD1, hS1, hA⟩)
theorem wmgR_0_51 {idx : Nat} (S : CallFix p m c cc nL s args uG own) (X : gX (dC, dI) (tM kc) (wM ad kc) Z A s σ H locs) (hf : Cond.fieldLink own idx "LazyForgeModel" "homes" "[I" ∈ uG) (hd : decode cc pc = .ok (.getfield idx, 3))
    (k : W p l e R s m args below meth c H locs cells slots Q (F0 m (pc + 3) ls (.ref (ad 27) :: rest))) : W p l e R s m args below meth c H locs cells slots Q (F0 m pc ls (.ref (ad 0) :: rest)) := by
  obtain ⟨hx, hb, hml, hown, hu⟩ := S
  obtain ⟨hK, hP, hD, hS, hA⟩ := X
  exact va_get (D := (dC, dI)) (ci := 15) (v := .ref (ad 27)) (C := RX12) (T := TX12) (N := 136) hx hb hu iuX12 hown hK hP 0 rfl rfl 51 (by decide) (hu _ hf) (fun _ h9 => h9) rfl hd k
theorem wmgR_0_52 {idx : Nat} (S : CallFix p m c cc nL s args uG own) (X : gX (dC, dI) (tM kc) (wM ad kc) Z A s σ H locs) (hf : Cond.fieldLink own idx "LazyForgeModel" "owns" "[I" ∈ uG) (hd : decode cc pc = .ok (.getfield idx, 3))
    (k : W p l e R s m args below meth c H locs cells slots Q (F0 m (pc + 3) ls (.ref (ad 28) :: rest))) : W p l e R s m args below meth c H locs cells slots Q (F0 m pc ls (.ref (ad 0) :: rest)) := by
  obtain ⟨hx, hb, hml, hown, hu⟩ := S
  obtain ⟨hK, hP, hD, hS, hA⟩ := X
  exact va_get (D := (dC, dI)) (ci := 15) (v := .ref (ad 28)) (C := RX12) (T := TX12) (N := 136) hx hb hu iuX12 hown hK hP 0 rfl rfl 52 (by decide) (hu _ hf) (fun _ h9 => h9) rfl hd k
theorem wmgR_0_53 {idx : Nat} (S : CallFix p m c cc nL s args uG own) (X : gX (dC, dI) (tM kc) (wM ad kc) Z A s σ H locs) (hf : Cond.fieldLink own idx "LazyForgeModel" "ownCounts" "[I" ∈ uG) (hd : decode cc pc = .ok (.getfield idx, 3))
    (k : W p l e R s m args below meth c H locs cells slots Q (F0 m (pc + 3) ls (.ref (ad 29) :: rest))) : W p l e R s m args below meth c H locs cells slots Q (F0 m pc ls (.ref (ad 0) :: rest)) := by
  obtain ⟨hx, hb, hml, hown, hu⟩ := S
  obtain ⟨hK, hP, hD, hS, hA⟩ := X
  exact va_get (D := (dC, dI)) (ci := 15) (v := .ref (ad 29)) (C := RX12) (T := TX12) (N := 136) hx hb hu iuX12 hown hK hP 0 rfl rfl 53 (by decide) (hu _ hf) (fun _ h9 => h9) rfl hd k
theorem wmgR_0_54 {idx : Nat} (S : CallFix p m c cc nL s args uG own) (X : gX (dC, dI) (tM kc) (wM ad kc) Z A s σ H locs) (hf : Cond.fieldLink own idx "LazyForgeModel" "firstVariables" "[I" ∈ uG) (hd : decode cc pc = .ok (.getfield idx, 3))
    (k : W p l e R s m args below meth c H locs cells slots Q (F0 m (pc + 3) ls (.ref (ad 30) :: rest))) : W p l e R s m args below meth c H locs cells slots Q (F0 m pc ls (.ref (ad 0) :: rest)) := by
  obtain ⟨hx, hb, hml, hown, hu⟩ := S
  obtain ⟨hK, hP, hD, hS, hA⟩ := X
  exact va_get (D := (dC, dI)) (ci := 15) (v := .ref (ad 30)) (C := RX12) (T := TX12) (N := 136) hx hb hu iuX12 hown hK hP 0 rfl rfl 54 (by decide) (hu _ hf) (fun _ h9 => h9) rfl hd k
theorem wmgI_24 {idx : Nat} (S : CallFix p m c cc nL s args uG own) (X : gX (dC, dI) (tM kc) (wM ad kc) Z A s σ H locs) (hf : Cond.fieldLink own idx "LazyForgeModel" "seen" "I" ∈ uG) {v : Int32} (hv : gI σ 24 = v) (hd : decode cc pc = .ok (.getfield idx, 3))
    (k : W p l e R s m args below meth c H locs cells slots Q (F0 m (pc + 3) ls (.int v :: rest))) : W p l e R s m args below meth c H locs cells slots Q (F0 m pc ls (.ref (ad 0) :: rest)) := by
  subst hv
  obtain ⟨hx, hb, hml, hown, hu⟩ := S
  obtain ⟨hK, hP, hD, hS, hA⟩ := X
  exact va_get (D := (dC, dI)) (ci := 15) (v := .int (gI σ 24)) (C := RX12) (T := TX12) (N := 136) hx hb hu iuX12 hown hK hP 0 rfl rfl 55 (by decide) (hu _ hf) (fun _ h9 => h9) rfl hd k
theorem wmpI_24 {idx : Nat} {v : Int32} (S : CallFix p m c cc nL s args uG own) (X : gX (dC, dI) (tM kc) (wM ad kc) Z A s σ H locs) (hf : Cond.fieldLink own idx "LazyForgeModel" "seen" "I" ∈ uG) (hd : decode cc pc = .ok (.putfield idx, 3))
    (k : ∀ (H : Heap) (locs : List Loc), gX (dC, dI) (tM kc) (wM ad kc) Z A s (pI σ 24 v) H locs → W p l e R s m args below meth c H locs cells slots Q (F0 m (pc + 3) ls (rest))) : W p l e R s m args below meth c H locs cells slots Q (F0 m pc ls (.int v :: .ref (ad 0) :: rest)) := by
  obtain ⟨hx, hb, hml, hown, hu⟩ := S
  obtain ⟨hK, hP, hD, hS, hA⟩ := X
  exact va_put (D := (dC, dI)) (ci := 15) (v := .int v) (ty := (tyX12 55)) (C := RX12) (T := TX12) (N := 136) hx hb hu iuX12 tyX12 tyX12_ok nmX12 hown hK hP hD hS 0 rfl rfl 55 (by decide) (hu _ hf) (fun _ h9 => h9) rfl (by decide +kernel) (rfl) (rfl) (Nat.le_of_ble_eq_true rfl) hd (fun H1 locs1 hP1 hD1 hS1 => k H1 locs1 ⟨hK, hP1, hD1, hS1, hA⟩)
theorem wmgR_0_56 {idx : Nat} (S : CallFix p m c cc nL s args uG own) (X : gX (dC, dI) (tM kc) (wM ad kc) Z A s σ H locs) (hf : Cond.fieldLink own idx "LazyForgeModel" "seenNames" "[J" ∈ uG) (hd : decode cc pc = .ok (.getfield idx, 3))
    (k : W p l e R s m args below meth c H locs cells slots Q (F0 m (pc + 3) ls (.ref (ad 31) :: rest))) : W p l e R s m args below meth c H locs cells slots Q (F0 m pc ls (.ref (ad 0) :: rest)) := by
  obtain ⟨hx, hb, hml, hown, hu⟩ := S
  obtain ⟨hK, hP, hD, hS, hA⟩ := X
  exact va_get (D := (dC, dI)) (ci := 15) (v := .ref (ad 31)) (C := RX12) (T := TX12) (N := 136) hx hb hu iuX12 hown hK hP 0 rfl rfl 56 (by decide) (hu _ hf) (fun _ h9 => h9) rfl hd k
theorem wmgR_0_57 {idx : Nat} (S : CallFix p m c cc nL s args uG own) (X : gX (dC, dI) (tM kc) (wM ad kc) Z A s σ H locs) (hf : Cond.fieldLink own idx "LazyForgeModel" "seenVariables" "[I" ∈ uG) (hd : decode cc pc = .ok (.getfield idx, 3))
    (k : W p l e R s m args below meth c H locs cells slots Q (F0 m (pc + 3) ls (.ref (ad 32) :: rest))) : W p l e R s m args below meth c H locs cells slots Q (F0 m pc ls (.ref (ad 0) :: rest)) := by
  obtain ⟨hx, hb, hml, hown, hu⟩ := S
  obtain ⟨hK, hP, hD, hS, hA⟩ := X
  exact va_get (D := (dC, dI)) (ci := 15) (v := .ref (ad 32)) (C := RX12) (T := TX12) (N := 136) hx hb hu iuX12 hown hK hP 0 rfl rfl 57 (by decide) (hu _ hf) (fun _ h9 => h9) rfl hd k
theorem wmgI_25 {idx : Nat} (S : CallFix p m c cc nL s args uG own) (X : gX (dC, dI) (tM kc) (wM ad kc) Z A s σ H locs) (hf : Cond.fieldLink own idx "LazyForgeModel" "around" "I" ∈ uG) {v : Int32} (hv : gI σ 25 = v) (hd : decode cc pc = .ok (.getfield idx, 3))
    (k : W p l e R s m args below meth c H locs cells slots Q (F0 m (pc + 3) ls (.int v :: rest))) : W p l e R s m args below meth c H locs cells slots Q (F0 m pc ls (.ref (ad 0) :: rest)) := by
  subst hv
  obtain ⟨hx, hb, hml, hown, hu⟩ := S
  obtain ⟨hK, hP, hD, hS, hA⟩ := X
  exact va_get (D := (dC, dI)) (ci := 15) (v := .int (gI σ 25)) (C := RX12) (T := TX12) (N := 136) hx hb hu iuX12 hown hK hP 0 rfl rfl 58 (by decide) (hu _ hf) (fun _ h9 => h9) rfl hd k
theorem wmpI_25 {idx : Nat} {v : Int32} (S : CallFix p m c cc nL s args uG own) (X : gX (dC, dI) (tM kc) (wM ad kc) Z A s σ H locs) (hf : Cond.fieldLink own idx "LazyForgeModel" "around" "I" ∈ uG) (hd : decode cc pc = .ok (.putfield idx, 3))
    (k : ∀ (H : Heap) (locs : List Loc), gX (dC, dI) (tM kc) (wM ad kc) Z A s (pI σ 25 v) H locs → W p l e R s m args below meth c H locs cells slots Q (F0 m (pc + 3) ls (rest))) : W p l e R s m args below meth c H locs cells slots Q (F0 m pc ls (.int v :: .ref (ad 0) :: rest)) := by
  obtain ⟨hx, hb, hml, hown, hu⟩ := S
  obtain ⟨hK, hP, hD, hS, hA⟩ := X
  exact va_put (D := (dC, dI)) (ci := 15) (v := .int v) (ty := (tyX12 58)) (C := RX12) (T := TX12) (N := 136) hx hb hu iuX12 tyX12 tyX12_ok nmX12 hown hK hP hD hS 0 rfl rfl 58 (by decide) (hu _ hf) (fun _ h9 => h9) rfl (by decide +kernel) (rfl) (rfl) (Nat.le_of_ble_eq_true rfl) hd (fun H1 locs1 hP1 hD1 hS1 => k H1 locs1 ⟨hK, hP1, hD1, hS1, hA⟩)
theorem wmgR_0_59 {idx : Nat} (S : CallFix p m c cc nL s args uG own) (X : gX (dC, dI) (tM kc) (wM ad kc) Z A s σ H locs) (hf : Cond.fieldLink own idx "LazyForgeModel" "arounds" "[I" ∈ uG) (hd : decode cc pc = .ok (.getfield idx, 3))
    (k : W p l e R s m args below meth c H locs cells slots Q (F0 m (pc + 3) ls (.ref (ad 33) :: rest))) : W p l e R s m args below meth c H locs cells slots Q (F0 m pc ls (.ref (ad 0) :: rest)) := by
  obtain ⟨hx, hb, hml, hown, hu⟩ := S
  obtain ⟨hK, hP, hD, hS, hA⟩ := X
  exact va_get (D := (dC, dI)) (ci := 15) (v := .ref (ad 33)) (C := RX12) (T := TX12) (N := 136) hx hb hu iuX12 hown hK hP 0 rfl rfl 59 (by decide) (hu _ hf) (fun _ h9 => h9) rfl hd k
theorem wmgR_0_60 {idx : Nat} (S : CallFix p m c cc nL s args uG own) (X : gX (dC, dI) (tM kc) (wM ad kc) Z A s σ H locs) (hf : Cond.fieldLink own idx "LazyForgeModel" "walk" "[I" ∈ uG) (hd : decode cc pc = .ok (.getfield idx, 3))
    (k : W p l e R s m args below meth c H locs cells slots Q (F0 m (pc + 3) ls (.ref (ad 34) :: rest))) : W p l e R s m args below meth c H locs cells slots Q (F0 m pc ls (.ref (ad 0) :: rest)) := by
  obtain ⟨hx, hb, hml, hown, hu⟩ := S
  obtain ⟨hK, hP, hD, hS, hA⟩ := X
  exact va_get (D := (dC, dI)) (ci := 15) (v := .ref (ad 34)) (C := RX12) (T := TX12) (N := 136) hx hb hu iuX12 hown hK hP 0 rfl rfl 60 (by decide) (hu _ hf) (fun _ h9 => h9) rfl hd k
theorem wmgR_0_61 {idx : Nat} (S : CallFix p m c cc nL s args uG own) (X : gX (dC, dI) (tM kc) (wM ad kc) Z A s σ H locs) (hf : Cond.fieldLink own idx "LazyForgeModel" "walkStages" "[I" ∈ uG) (hd : decode cc pc = .ok (.getfield idx, 3))
    (k : W p l e R s m args below meth c H locs cells slots Q (F0 m (pc + 3) ls (.ref (ad 35) :: rest))) : W p l e R s m args below meth c H locs cells slots Q (F0 m pc ls (.ref (ad 0) :: rest)) := by
  obtain ⟨hx, hb, hml, hown, hu⟩ := S
  obtain ⟨hK, hP, hD, hS, hA⟩ := X
  exact va_get (D := (dC, dI)) (ci := 15) (v := .ref (ad 35)) (C := RX12) (T := TX12) (N := 136) hx hb hu iuX12 hown hK hP 0 rfl rfl 61 (by decide) (hu _ hf) (fun _ h9 => h9) rfl hd k
theorem wmgR_0_62 {idx : Nat} (S : CallFix p m c cc nL s args uG own) (X : gX (dC, dI) (tM kc) (wM ad kc) Z A s σ H locs) (hf : Cond.fieldLink own idx "LazyForgeModel" "walkChildren" "[I" ∈ uG) (hd : decode cc pc = .ok (.getfield idx, 3))
    (k : W p l e R s m args below meth c H locs cells slots Q (F0 m (pc + 3) ls (.ref (ad 36) :: rest))) : W p l e R s m args below meth c H locs cells slots Q (F0 m pc ls (.ref (ad 0) :: rest)) := by
  obtain ⟨hx, hb, hml, hown, hu⟩ := S
  obtain ⟨hK, hP, hD, hS, hA⟩ := X
  exact va_get (D := (dC, dI)) (ci := 15) (v := .ref (ad 36)) (C := RX12) (T := TX12) (N := 136) hx hb hu iuX12 hown hK hP 0 rfl rfl 62 (by decide) (hu _ hf) (fun _ h9 => h9) rfl hd k
theorem wmgI_26 {idx : Nat} (S : CallFix p m c cc nL s args uG own) (X : gX (dC, dI) (tM kc) (wM ad kc) Z A s σ H locs) (hf : Cond.fieldLink own idx "LazyForgeModel" "lifted" "I" ∈ uG) {v : Int32} (hv : gI σ 26 = v) (hd : decode cc pc = .ok (.getfield idx, 3))
    (k : W p l e R s m args below meth c H locs cells slots Q (F0 m (pc + 3) ls (.int v :: rest))) : W p l e R s m args below meth c H locs cells slots Q (F0 m pc ls (.ref (ad 0) :: rest)) := by
  subst hv
  obtain ⟨hx, hb, hml, hown, hu⟩ := S
  obtain ⟨hK, hP, hD, hS, hA⟩ := X
  exact va_get (D := (dC, dI)) (ci := 15) (v := .int (gI σ 26)) (C := RX12) (T := TX12) (N := 136) hx hb hu iuX12 hown hK hP 0 rfl rfl 63 (by decide) (hu _ hf) (fun _ h9 => h9) rfl hd k
theorem wmpI_26 {idx : Nat} {v : Int32} (S : CallFix p m c cc nL s args uG own) (X : gX (dC, dI) (tM kc) (wM ad kc) Z A s σ H locs) (hf : Cond.fieldLink own idx "LazyForgeModel" "lifted" "I" ∈ uG) (hd : decode cc pc = .ok (.putfield idx, 3))
    (k : ∀ (H : Heap) (locs : List Loc), gX (dC, dI) (tM kc) (wM ad kc) Z A s (pI σ 26 v) H locs → W p l e R s m args below meth c H locs cells slots Q (F0 m (pc + 3) ls (rest))) : W p l e R s m args below meth c H locs cells slots Q (F0 m pc ls (.int v :: .ref (ad 0) :: rest)) := by
  obtain ⟨hx, hb, hml, hown, hu⟩ := S
  obtain ⟨hK, hP, hD, hS, hA⟩ := X
  exact va_put (D := (dC, dI)) (ci := 15) (v := .int v) (ty := (tyX12 63)) (C := RX12) (T := TX12) (N := 136) hx hb hu iuX12 tyX12 tyX12_ok nmX12 hown hK hP hD hS 0 rfl rfl 63 (by decide) (hu _ hf) (fun _ h9 => h9) rfl (by decide +kernel) (rfl) (rfl) (Nat.le_of_ble_eq_true rfl) hd (fun H1 locs1 hP1 hD1 hS1 => k H1 locs1 ⟨hK, hP1, hD1, hS1, hA⟩)
theorem wmgR_0_64 {idx : Nat} (S : CallFix p m c cc nL s args uG own) (X : gX (dC, dI) (tM kc) (wM ad kc) Z A s σ H locs) (hf : Cond.fieldLink own idx "LazyForgeModel" "liftKinds" "[I" ∈ uG) (hd : decode cc pc = .ok (.getfield idx, 3))
    (k : W p l e R s m args below meth c H locs cells slots Q (F0 m (pc + 3) ls (.ref (ad 37) :: rest))) : W p l e R s m args below meth c H locs cells slots Q (F0 m pc ls (.ref (ad 0) :: rest)) := by
  obtain ⟨hx, hb, hml, hown, hu⟩ := S
  obtain ⟨hK, hP, hD, hS, hA⟩ := X
  exact va_get (D := (dC, dI)) (ci := 15) (v := .ref (ad 37)) (C := RX12) (T := TX12) (N := 136) hx hb hu iuX12 hown hK hP 0 rfl rfl 64 (by decide) (hu _ hf) (fun _ h9 => h9) rfl hd k
theorem wmgR_0_65 {idx : Nat} (S : CallFix p m c cc nL s args uG own) (X : gX (dC, dI) (tM kc) (wM ad kc) Z A s σ H locs) (hf : Cond.fieldLink own idx "LazyForgeModel" "liftValues" "[I" ∈ uG) (hd : decode cc pc = .ok (.getfield idx, 3))
    (k : W p l e R s m args below meth c H locs cells slots Q (F0 m (pc + 3) ls (.ref (ad 38) :: rest))) : W p l e R s m args below meth c H locs cells slots Q (F0 m pc ls (.ref (ad 0) :: rest)) := by
  obtain ⟨hx, hb, hml, hown, hu⟩ := S
  obtain ⟨hK, hP, hD, hS, hA⟩ := X
  exact va_get (D := (dC, dI)) (ci := 15) (v := .ref (ad 38)) (C := RX12) (T := TX12) (N := 136) hx hb hu iuX12 hown hK hP 0 rfl rfl 65 (by decide) (hu _ hf) (fun _ h9 => h9) rfl hd k
theorem wmgR_0_66 {idx : Nat} (S : CallFix p m c cc nL s args uG own) (X : gX (dC, dI) (tM kc) (wM ad kc) Z A s σ H locs) (hf : Cond.fieldLink own idx "LazyForgeModel" "liftBegins" "[I" ∈ uG) (hd : decode cc pc = .ok (.getfield idx, 3))
    (k : W p l e R s m args below meth c H locs cells slots Q (F0 m (pc + 3) ls (.ref (ad 39) :: rest))) : W p l e R s m args below meth c H locs cells slots Q (F0 m pc ls (.ref (ad 0) :: rest)) := by
  obtain ⟨hx, hb, hml, hown, hu⟩ := S
  obtain ⟨hK, hP, hD, hS, hA⟩ := X
  exact va_get (D := (dC, dI)) (ci := 15) (v := .ref (ad 39)) (C := RX12) (T := TX12) (N := 136) hx hb hu iuX12 hown hK hP 0 rfl rfl 66 (by decide) (hu _ hf) (fun _ h9 => h9) rfl hd k
theorem wmgR_0_67 {idx : Nat} (S : CallFix p m c cc nL s args uG own) (X : gX (dC, dI) (tM kc) (wM ad kc) Z A s σ H locs) (hf : Cond.fieldLink own idx "LazyForgeModel" "liftCounts" "[I" ∈ uG) (hd : decode cc pc = .ok (.getfield idx, 3))
    (k : W p l e R s m args below meth c H locs cells slots Q (F0 m (pc + 3) ls (.ref (ad 40) :: rest))) : W p l e R s m args below meth c H locs cells slots Q (F0 m pc ls (.ref (ad 0) :: rest)) := by
  obtain ⟨hx, hb, hml, hown, hu⟩ := S
  obtain ⟨hK, hP, hD, hS, hA⟩ := X
  exact va_get (D := (dC, dI)) (ci := 15) (v := .ref (ad 40)) (C := RX12) (T := TX12) (N := 136) hx hb hu iuX12 hown hK hP 0 rfl rfl 67 (by decide) (hu _ hf) (fun _ h9 => h9) rfl hd k
theorem wmgR_0_68 {idx : Nat} (S : CallFix p m c cc nL s args uG own) (X : gX (dC, dI) (tM kc) (wM ad kc) Z A s σ H locs) (hf : Cond.fieldLink own idx "LazyForgeModel" "liftVariables" "[I" ∈ uG) (hd : decode cc pc = .ok (.getfield idx, 3))
    (k : W p l e R s m args below meth c H locs cells slots Q (F0 m (pc + 3) ls (.ref (ad 41) :: rest))) : W p l e R s m args below meth c H locs cells slots Q (F0 m pc ls (.ref (ad 0) :: rest)) := by
  obtain ⟨hx, hb, hml, hown, hu⟩ := S
  obtain ⟨hK, hP, hD, hS, hA⟩ := X
  exact va_get (D := (dC, dI)) (ci := 15) (v := .ref (ad 41)) (C := RX12) (T := TX12) (N := 136) hx hb hu iuX12 hown hK hP 0 rfl rfl 68 (by decide) (hu _ hf) (fun _ h9 => h9) rfl hd k
theorem wmgR_0_69 {idx : Nat} (S : CallFix p m c cc nL s args uG own) (X : gX (dC, dI) (tM kc) (wM ad kc) Z A s σ H locs) (hf : Cond.fieldLink own idx "LazyForgeModel" "liftNeeds" "[Z" ∈ uG) (hd : decode cc pc = .ok (.getfield idx, 3))
    (k : W p l e R s m args below meth c H locs cells slots Q (F0 m (pc + 3) ls (.ref (ad 42) :: rest))) : W p l e R s m args below meth c H locs cells slots Q (F0 m pc ls (.ref (ad 0) :: rest)) := by
  obtain ⟨hx, hb, hml, hown, hu⟩ := S
  obtain ⟨hK, hP, hD, hS, hA⟩ := X
  exact va_get (D := (dC, dI)) (ci := 15) (v := .ref (ad 42)) (C := RX12) (T := TX12) (N := 136) hx hb hu iuX12 hown hK hP 0 rfl rfl 69 (by decide) (hu _ hf) (fun _ h9 => h9) rfl hd k
theorem wmgR_0_70 {idx : Nat} (S : CallFix p m c cc nL s args uG own) (X : gX (dC, dI) (tM kc) (wM ad kc) Z A s σ H locs) (hf : Cond.fieldLink own idx "LazyForgeModel" "heights" "[I" ∈ uG) (hd : decode cc pc = .ok (.getfield idx, 3))
    (k : W p l e R s m args below meth c H locs cells slots Q (F0 m (pc + 3) ls (.ref (ad 43) :: rest))) : W p l e R s m args below meth c H locs cells slots Q (F0 m pc ls (.ref (ad 0) :: rest)) := by
  obtain ⟨hx, hb, hml, hown, hu⟩ := S
  obtain ⟨hK, hP, hD, hS, hA⟩ := X
  exact va_get (D := (dC, dI)) (ci := 15) (v := .ref (ad 43)) (C := RX12) (T := TX12) (N := 136) hx hb hu iuX12 hown hK hP 0 rfl rfl 70 (by decide) (hu _ hf) (fun _ h9 => h9) rfl hd k
theorem wmgR_0_71 {idx : Nat} (S : CallFix p m c cc nL s args uG own) (X : gX (dC, dI) (tM kc) (wM ad kc) Z A s σ H locs) (hf : Cond.fieldLink own idx "LazyForgeModel" "liftFunctions" "[I" ∈ uG) (hd : decode cc pc = .ok (.getfield idx, 3))
    (k : W p l e R s m args below meth c H locs cells slots Q (F0 m (pc + 3) ls (.ref (ad 44) :: rest))) : W p l e R s m args below meth c H locs cells slots Q (F0 m pc ls (.ref (ad 0) :: rest)) := by
  obtain ⟨hx, hb, hml, hown, hu⟩ := S
  obtain ⟨hK, hP, hD, hS, hA⟩ := X
  exact va_get (D := (dC, dI)) (ci := 15) (v := .ref (ad 44)) (C := RX12) (T := TX12) (N := 136) hx hb hu iuX12 hown hK hP 0 rfl rfl 71 (by decide) (hu _ hf) (fun _ h9 => h9) rfl hd k
theorem wmgR_0_72 {idx : Nat} (S : CallFix p m c cc nL s args uG own) (X : gX (dC, dI) (tM kc) (wM ad kc) Z A s σ H locs) (hf : Cond.fieldLink own idx "LazyForgeModel" "outside" "[J" ∈ uG) (hd : decode cc pc = .ok (.getfield idx, 3))
    (k : W p l e R s m args below meth c H locs cells slots Q (F0 m (pc + 3) ls (.ref (ad 45) :: rest))) : W p l e R s m args below meth c H locs cells slots Q (F0 m pc ls (.ref (ad 0) :: rest)) := by
  obtain ⟨hx, hb, hml, hown, hu⟩ := S
  obtain ⟨hK, hP, hD, hS, hA⟩ := X
  exact va_get (D := (dC, dI)) (ci := 15) (v := .ref (ad 45)) (C := RX12) (T := TX12) (N := 136) hx hb hu iuX12 hown hK hP 0 rfl rfl 72 (by decide) (hu _ hf) (fun _ h9 => h9) rfl hd k
theorem wmgI_27 {idx : Nat} (S : CallFix p m c cc nL s args uG own) (X : gX (dC, dI) (tM kc) (wM ad kc) Z A s σ H locs) (hf : Cond.fieldLink own idx "LazyForgeModel" "childTop" "I" ∈ uG) {v : Int32} (hv : gI σ 27 = v) (hd : decode cc pc = .ok (.getfield idx, 3))
    (k : W p l e R s m args below meth c H locs cells slots Q (F0 m (pc + 3) ls (.int v :: rest))) : W p l e R s m args below meth c H locs cells slots Q (F0 m pc ls (.ref (ad 0) :: rest)) := by
  subst hv
  obtain ⟨hx, hb, hml, hown, hu⟩ := S
  obtain ⟨hK, hP, hD, hS, hA⟩ := X
  exact va_get (D := (dC, dI)) (ci := 15) (v := .int (gI σ 27)) (C := RX12) (T := TX12) (N := 136) hx hb hu iuX12 hown hK hP 0 rfl rfl 73 (by decide) (hu _ hf) (fun _ h9 => h9) rfl hd k
theorem wmpI_27 {idx : Nat} {v : Int32} (S : CallFix p m c cc nL s args uG own) (X : gX (dC, dI) (tM kc) (wM ad kc) Z A s σ H locs) (hf : Cond.fieldLink own idx "LazyForgeModel" "childTop" "I" ∈ uG) (hd : decode cc pc = .ok (.putfield idx, 3))
    (k : ∀ (H : Heap) (locs : List Loc), gX (dC, dI) (tM kc) (wM ad kc) Z A s (pI σ 27 v) H locs → W p l e R s m args below meth c H locs cells slots Q (F0 m (pc + 3) ls (rest))) : W p l e R s m args below meth c H locs cells slots Q (F0 m pc ls (.int v :: .ref (ad 0) :: rest)) := by
  obtain ⟨hx, hb, hml, hown, hu⟩ := S
  obtain ⟨hK, hP, hD, hS, hA⟩ := X
  exact va_put (D := (dC, dI)) (ci := 15) (v := .int v) (ty := (tyX12 73)) (C := RX12) (T := TX12) (N := 136) hx hb hu iuX12 tyX12 tyX12_ok nmX12 hown hK hP hD hS 0 rfl rfl 73 (by decide) (hu _ hf) (fun _ h9 => h9) rfl (by decide +kernel) (rfl) (rfl) (Nat.le_of_ble_eq_true rfl) hd (fun H1 locs1 hP1 hD1 hS1 => k H1 locs1 ⟨hK, hP1, hD1, hS1, hA⟩)
theorem wmgR_0_74 {idx : Nat} (S : CallFix p m c cc nL s args uG own) (X : gX (dC, dI) (tM kc) (wM ad kc) Z A s σ H locs) (hf : Cond.fieldLink own idx "LazyForgeModel" "liftChildren" "[I" ∈ uG) (hd : decode cc pc = .ok (.getfield idx, 3))
    (k : W p l e R s m args below meth c H locs cells slots Q (F0 m (pc + 3) ls (.ref (ad 46) :: rest))) : W p l e R s m args below meth c H locs cells slots Q (F0 m pc ls (.ref (ad 0) :: rest)) := by
  obtain ⟨hx, hb, hml, hown, hu⟩ := S
  obtain ⟨hK, hP, hD, hS, hA⟩ := X
  exact va_get (D := (dC, dI)) (ci := 15) (v := .ref (ad 46)) (C := RX12) (T := TX12) (N := 136) hx hb hu iuX12 hown hK hP 0 rfl rfl 74 (by decide) (hu _ hf) (fun _ h9 => h9) rfl hd k
theorem wmgR_0_75 {idx : Nat} (S : CallFix p m c cc nL s args uG own) (X : gX (dC, dI) (tM kc) (wM ad kc) Z A s σ H locs) (hf : Cond.fieldLink own idx "LazyForgeModel" "branchSorts" "[I" ∈ uG) (hd : decode cc pc = .ok (.getfield idx, 3))
    (k : W p l e R s m args below meth c H locs cells slots Q (F0 m (pc + 3) ls (.ref (ad 47) :: rest))) : W p l e R s m args below meth c H locs cells slots Q (F0 m pc ls (.ref (ad 0) :: rest)) := by
  obtain ⟨hx, hb, hml, hown, hu⟩ := S
  obtain ⟨hK, hP, hD, hS, hA⟩ := X
  exact va_get (D := (dC, dI)) (ci := 15) (v := .ref (ad 47)) (C := RX12) (T := TX12) (N := 136) hx hb hu iuX12 hown hK hP 0 rfl rfl 75 (by decide) (hu _ hf) (fun _ h9 => h9) rfl hd k
theorem wmgR_0_76 {idx : Nat} (S : CallFix p m c cc nL s args uG own) (X : gX (dC, dI) (tM kc) (wM ad kc) Z A s σ H locs) (hf : Cond.fieldLink own idx "LazyForgeModel" "branchValues" "[I" ∈ uG) (hd : decode cc pc = .ok (.getfield idx, 3))
    (k : W p l e R s m args below meth c H locs cells slots Q (F0 m (pc + 3) ls (.ref (ad 48) :: rest))) : W p l e R s m args below meth c H locs cells slots Q (F0 m pc ls (.ref (ad 0) :: rest)) := by
  obtain ⟨hx, hb, hml, hown, hu⟩ := S
  obtain ⟨hK, hP, hD, hS, hA⟩ := X
  exact va_get (D := (dC, dI)) (ci := 15) (v := .ref (ad 48)) (C := RX12) (T := TX12) (N := 136) hx hb hu iuX12 hown hK hP 0 rfl rfl 76 (by decide) (hu _ hf) (fun _ h9 => h9) rfl hd k
theorem wmgR_0_77 {idx : Nat} (S : CallFix p m c cc nL s args uG own) (X : gX (dC, dI) (tM kc) (wM ad kc) Z A s σ H locs) (hf : Cond.fieldLink own idx "LazyForgeModel" "branchVariables" "[I" ∈ uG) (hd : decode cc pc = .ok (.getfield idx, 3))
    (k : W p l e R s m args below meth c H locs cells slots Q (F0 m (pc + 3) ls (.ref (ad 49) :: rest))) : W p l e R s m args below meth c H locs cells slots Q (F0 m pc ls (.ref (ad 0) :: rest)) := by
  obtain ⟨hx, hb, hml, hown, hu⟩ := S
  obtain ⟨hK, hP, hD, hS, hA⟩ := X
  exact va_get (D := (dC, dI)) (ci := 15) (v := .ref (ad 49)) (C := RX12) (T := TX12) (N := 136) hx hb hu iuX12 hown hK hP 0 rfl rfl 77 (by decide) (hu _ hf) (fun _ h9 => h9) rfl hd k
theorem wmgR_0_78 {idx : Nat} (S : CallFix p m c cc nL s args uG own) (X : gX (dC, dI) (tM kc) (wM ad kc) Z A s σ H locs) (hf : Cond.fieldLink own idx "LazyForgeModel" "branchCounts" "[I" ∈ uG) (hd : decode cc pc = .ok (.getfield idx, 3))
    (k : W p l e R s m args below meth c H locs cells slots Q (F0 m (pc + 3) ls (.ref (ad 50) :: rest))) : W p l e R s m args below meth c H locs cells slots Q (F0 m pc ls (.ref (ad 0) :: rest)) := by
  obtain ⟨hx, hb, hml, hown, hu⟩ := S
  obtain ⟨hK, hP, hD, hS, hA⟩ := X
  exact va_get (D := (dC, dI)) (ci := 15) (v := .ref (ad 50)) (C := RX12) (T := TX12) (N := 136) hx hb hu iuX12 hown hK hP 0 rfl rfl 78 (by decide) (hu _ hf) (fun _ h9 => h9) rfl hd k
theorem wmgR_0_79 {idx : Nat} (S : CallFix p m c cc nL s args uG own) (X : gX (dC, dI) (tM kc) (wM ad kc) Z A s σ H locs) (hf : Cond.fieldLink own idx "LazyForgeModel" "begins" "[I" ∈ uG) (hd : decode cc pc = .ok (.getfield idx, 3))
    (k : W p l e R s m args below meth c H locs cells slots Q (F0 m (pc + 3) ls (.ref (ad 51) :: rest))) : W p l e R s m args below meth c H locs cells slots Q (F0 m pc ls (.ref (ad 0) :: rest)) := by
  obtain ⟨hx, hb, hml, hown, hu⟩ := S
  obtain ⟨hK, hP, hD, hS, hA⟩ := X
  exact va_get (D := (dC, dI)) (ci := 15) (v := .ref (ad 51)) (C := RX12) (T := TX12) (N := 136) hx hb hu iuX12 hown hK hP 0 rfl rfl 79 (by decide) (hu _ hf) (fun _ h9 => h9) rfl hd k
theorem wmgR_0_80 {idx : Nat} (S : CallFix p m c cc nL s args uG own) (X : gX (dC, dI) (tM kc) (wM ad kc) Z A s σ H locs) (hf : Cond.fieldLink own idx "LazyForgeModel" "roots" "[I" ∈ uG) (hd : decode cc pc = .ok (.getfield idx, 3))
    (k : W p l e R s m args below meth c H locs cells slots Q (F0 m (pc + 3) ls (.ref (ad 52) :: rest))) : W p l e R s m args below meth c H locs cells slots Q (F0 m pc ls (.ref (ad 0) :: rest)) := by
  obtain ⟨hx, hb, hml, hown, hu⟩ := S
  obtain ⟨hK, hP, hD, hS, hA⟩ := X
  exact va_get (D := (dC, dI)) (ci := 15) (v := .ref (ad 52)) (C := RX12) (T := TX12) (N := 136) hx hb hu iuX12 hown hK hP 0 rfl rfl 80 (by decide) (hu _ hf) (fun _ h9 => h9) rfl hd k
theorem wmgR_0_81 {idx : Nat} (S : CallFix p m c cc nL s args uG own) (X : gX (dC, dI) (tM kc) (wM ad kc) Z A s σ H locs) (hf : Cond.fieldLink own idx "LazyForgeModel" "variableCounts" "[I" ∈ uG) (hd : decode cc pc = .ok (.getfield idx, 3))
    (k : W p l e R s m args below meth c H locs cells slots Q (F0 m (pc + 3) ls (.ref (ad 53) :: rest))) : W p l e R s m args below meth c H locs cells slots Q (F0 m pc ls (.ref (ad 0) :: rest)) := by
  obtain ⟨hx, hb, hml, hown, hu⟩ := S
  obtain ⟨hK, hP, hD, hS, hA⟩ := X
  exact va_get (D := (dC, dI)) (ci := 15) (v := .ref (ad 53)) (C := RX12) (T := TX12) (N := 136) hx hb hu iuX12 hown hK hP 0 rfl rfl 81 (by decide) (hu _ hf) (fun _ h9 => h9) rfl hd k
theorem wmgR_0_82 {idx : Nat} (S : CallFix p m c cc nL s args uG own) (X : gX (dC, dI) (tM kc) (wM ad kc) Z A s σ H locs) (hf : Cond.fieldLink own idx "LazyForgeModel" "parameterCounts" "[I" ∈ uG) (hd : decode cc pc = .ok (.getfield idx, 3))
    (k : W p l e R s m args below meth c H locs cells slots Q (F0 m (pc + 3) ls (.ref (ad 54) :: rest))) : W p l e R s m args below meth c H locs cells slots Q (F0 m pc ls (.ref (ad 0) :: rest)) := by
  obtain ⟨hx, hb, hml, hown, hu⟩ := S
  obtain ⟨hK, hP, hD, hS, hA⟩ := X
  exact va_get (D := (dC, dI)) (ci := 15) (v := .ref (ad 54)) (C := RX12) (T := TX12) (N := 136) hx hb hu iuX12 hown hK hP 0 rfl rfl 82 (by decide) (hu _ hf) (fun _ h9 => h9) rfl hd k
theorem wmgI_28 {idx : Nat} (S : CallFix p m c cc nL s args uG own) (X : gX (dC, dI) (tM kc) (wM ad kc) Z A s σ H locs) (hf : Cond.fieldLink own idx "LazyForgeModel" "held" "I" ∈ uG) {v : Int32} (hv : gI σ 28 = v) (hd : decode cc pc = .ok (.getfield idx, 3))
    (k : W p l e R s m args below meth c H locs cells slots Q (F0 m (pc + 3) ls (.int v :: rest))) : W p l e R s m args below meth c H locs cells slots Q (F0 m pc ls (.ref (ad 0) :: rest)) := by
  subst hv
  obtain ⟨hx, hb, hml, hown, hu⟩ := S
  obtain ⟨hK, hP, hD, hS, hA⟩ := X
  exact va_get (D := (dC, dI)) (ci := 15) (v := .int (gI σ 28)) (C := RX12) (T := TX12) (N := 136) hx hb hu iuX12 hown hK hP 0 rfl rfl 83 (by decide) (hu _ hf) (fun _ h9 => h9) rfl hd k
theorem wmpI_28 {idx : Nat} {v : Int32} (S : CallFix p m c cc nL s args uG own) (X : gX (dC, dI) (tM kc) (wM ad kc) Z A s σ H locs) (hf : Cond.fieldLink own idx "LazyForgeModel" "held" "I" ∈ uG) (hd : decode cc pc = .ok (.putfield idx, 3))
    (k : ∀ (H : Heap) (locs : List Loc), gX (dC, dI) (tM kc) (wM ad kc) Z A s (pI σ 28 v) H locs → W p l e R s m args below meth c H locs cells slots Q (F0 m (pc + 3) ls (rest))) : W p l e R s m args below meth c H locs cells slots Q (F0 m pc ls (.int v :: .ref (ad 0) :: rest)) := by
  obtain ⟨hx, hb, hml, hown, hu⟩ := S
  obtain ⟨hK, hP, hD, hS, hA⟩ := X
  exact va_put (D := (dC, dI)) (ci := 15) (v := .int v) (ty := (tyX12 83)) (C := RX12) (T := TX12) (N := 136) hx hb hu iuX12 tyX12 tyX12_ok nmX12 hown hK hP hD hS 0 rfl rfl 83 (by decide) (hu _ hf) (fun _ h9 => h9) rfl (by decide +kernel) (rfl) (rfl) (Nat.le_of_ble_eq_true rfl) hd (fun H1 locs1 hP1 hD1 hS1 => k H1 locs1 ⟨hK, hP1, hD1, hS1, hA⟩)
theorem wmgR_0_84 {idx : Nat} (S : CallFix p m c cc nL s args uG own) (X : gX (dC, dI) (tM kc) (wM ad kc) Z A s σ H locs) (hf : Cond.fieldLink own idx "LazyForgeModel" "heldNodes" "[I" ∈ uG) (hd : decode cc pc = .ok (.getfield idx, 3))
    (k : W p l e R s m args below meth c H locs cells slots Q (F0 m (pc + 3) ls (.ref (ad 55) :: rest))) : W p l e R s m args below meth c H locs cells slots Q (F0 m pc ls (.ref (ad 0) :: rest)) := by
  obtain ⟨hx, hb, hml, hown, hu⟩ := S
  obtain ⟨hK, hP, hD, hS, hA⟩ := X
  exact va_get (D := (dC, dI)) (ci := 15) (v := .ref (ad 55)) (C := RX12) (T := TX12) (N := 136) hx hb hu iuX12 hown hK hP 0 rfl rfl 84 (by decide) (hu _ hf) (fun _ h9 => h9) rfl hd k
theorem wmgR_0_85 {idx : Nat} (S : CallFix p m c cc nL s args uG own) (X : gX (dC, dI) (tM kc) (wM ad kc) Z A s σ H locs) (hf : Cond.fieldLink own idx "LazyForgeModel" "tables" "[Z" ∈ uG) (hd : decode cc pc = .ok (.getfield idx, 3))
    (k : W p l e R s m args below meth c H locs cells slots Q (F0 m (pc + 3) ls (.ref (ad 56) :: rest))) : W p l e R s m args below meth c H locs cells slots Q (F0 m pc ls (.ref (ad 0) :: rest)) := by
  obtain ⟨hx, hb, hml, hown, hu⟩ := S
  obtain ⟨hK, hP, hD, hS, hA⟩ := X
  exact va_get (D := (dC, dI)) (ci := 15) (v := .ref (ad 56)) (C := RX12) (T := TX12) (N := 136) hx hb hu iuX12 hown hK hP 0 rfl rfl 85 (by decide) (hu _ hf) (fun _ h9 => h9) rfl hd k
theorem wmgR_0_86 {idx : Nat} (S : CallFix p m c cc nL s args uG own) (X : gX (dC, dI) (tM kc) (wM ad kc) Z A s σ H locs) (hf : Cond.fieldLink own idx "LazyForgeModel" "bitOf" "[Z" ∈ uG) (hd : decode cc pc = .ok (.getfield idx, 3))
    (k : W p l e R s m args below meth c H locs cells slots Q (F0 m (pc + 3) ls (.ref (ad 57) :: rest))) : W p l e R s m args below meth c H locs cells slots Q (F0 m pc ls (.ref (ad 0) :: rest)) := by
  obtain ⟨hx, hb, hml, hown, hu⟩ := S
  obtain ⟨hK, hP, hD, hS, hA⟩ := X
  exact va_get (D := (dC, dI)) (ci := 15) (v := .ref (ad 57)) (C := RX12) (T := TX12) (N := 136) hx hb hu iuX12 hown hK hP 0 rfl rfl 86 (by decide) (hu _ hf) (fun _ h9 => h9) rfl hd k
theorem wmgR_0_87 {idx : Nat} (S : CallFix p m c cc nL s args uG own) (X : gX (dC, dI) (tM kc) (wM ad kc) Z A s σ H locs) (hf : Cond.fieldLink own idx "LazyForgeModel" "has" "[Z" ∈ uG) (hd : decode cc pc = .ok (.getfield idx, 3))
    (k : W p l e R s m args below meth c H locs cells slots Q (F0 m (pc + 3) ls (.ref (ad 58) :: rest))) : W p l e R s m args below meth c H locs cells slots Q (F0 m pc ls (.ref (ad 0) :: rest)) := by
  obtain ⟨hx, hb, hml, hown, hu⟩ := S
  obtain ⟨hK, hP, hD, hS, hA⟩ := X
  exact va_get (D := (dC, dI)) (ci := 15) (v := .ref (ad 58)) (C := RX12) (T := TX12) (N := 136) hx hb hu iuX12 hown hK hP 0 rfl rfl 87 (by decide) (hu _ hf) (fun _ h9 => h9) rfl hd k
theorem wmgI_29 {idx : Nat} (S : CallFix p m c cc nL s args uG own) (X : gX (dC, dI) (tM kc) (wM ad kc) Z A s σ H locs) (hf : Cond.fieldLink own idx "LazyForgeModel" "hasProgram" "Z" ∈ uG) {v : Int32} (hv : gI σ 29 = v) (hd : decode cc pc = .ok (.getfield idx, 3))
    (k : W p l e R s m args below meth c H locs cells slots Q (F0 m (pc + 3) ls (.int v :: rest))) : W p l e R s m args below meth c H locs cells slots Q (F0 m pc ls (.ref (ad 0) :: rest)) := by
  subst hv
  obtain ⟨hx, hb, hml, hown, hu⟩ := S
  obtain ⟨hK, hP, hD, hS, hA⟩ := X
  exact va_get (D := (dC, dI)) (ci := 15) (v := .int (gI σ 29)) (C := RX12) (T := TX12) (N := 136) hx hb hu iuX12 hown hK hP 0 rfl rfl 88 (by decide) (hu _ hf) (fun _ h9 => h9) rfl hd k
theorem wmpI_29 {idx : Nat} {v : Int32} (S : CallFix p m c cc nL s args uG own) (X : gX (dC, dI) (tM kc) (wM ad kc) Z A s σ H locs) (hf : Cond.fieldLink own idx "LazyForgeModel" "hasProgram" "Z" ∈ uG) (hn : v = 0 ∨ v = 1) (hd : decode cc pc = .ok (.putfield idx, 3))
    (k : ∀ (H : Heap) (locs : List Loc), gX (dC, dI) (tM kc) (wM ad kc) Z A s (pI σ 29 v) H locs → W p l e R s m args below meth c H locs cells slots Q (F0 m (pc + 3) ls (rest))) : W p l e R s m args below meth c H locs cells slots Q (F0 m pc ls (.int v :: .ref (ad 0) :: rest)) := by
  obtain ⟨hx, hb, hml, hown, hu⟩ := S
  obtain ⟨hK, hP, hD, hS, hA⟩ := X
  exact va_put (D := (dC, dI)) (ci := 15) (v := .int v) (ty := (tyX12 88)) (C := RX12) (T := TX12) (N := 136) hx hb hu iuX12 tyX12 tyX12_ok nmX12 hown hK hP hD hS 0 rfl rfl 88 (by decide) (hu _ hf) (fun _ h9 => h9) rfl (by decide +kernel) (by rcases hn with rfl | rfl <;> rfl) (by rcases hn with rfl | rfl <;> rfl) (Nat.le_of_ble_eq_true rfl) hd (fun H1 locs1 hP1 hD1 hS1 => k H1 locs1 ⟨hK, hP1, hD1, hS1, hA⟩)
theorem wmgI_30 {idx : Nat} (S : CallFix p m c cc nL s args uG own) (X : gX (dC, dI) (tM kc) (wM ad kc) Z A s σ H locs) (hf : Cond.fieldLink own idx "LazyForgeModel" "lastFault" "I" ∈ uG) {v : Int32} (hv : gI σ 30 = v) (hd : decode cc pc = .ok (.getfield idx, 3))
    (k : W p l e R s m args below meth c H locs cells slots Q (F0 m (pc + 3) ls (.int v :: rest))) : W p l e R s m args below meth c H locs cells slots Q (F0 m pc ls (.ref (ad 0) :: rest)) := by
  subst hv
  obtain ⟨hx, hb, hml, hown, hu⟩ := S
  obtain ⟨hK, hP, hD, hS, hA⟩ := X
  exact va_get (D := (dC, dI)) (ci := 15) (v := .int (gI σ 30)) (C := RX12) (T := TX12) (N := 136) hx hb hu iuX12 hown hK hP 0 rfl rfl 89 (by decide) (hu _ hf) (fun _ h9 => h9) rfl hd k
theorem wmpI_30 {idx : Nat} {v : Int32} (S : CallFix p m c cc nL s args uG own) (X : gX (dC, dI) (tM kc) (wM ad kc) Z A s σ H locs) (hf : Cond.fieldLink own idx "LazyForgeModel" "lastFault" "I" ∈ uG) (hd : decode cc pc = .ok (.putfield idx, 3))
    (k : ∀ (H : Heap) (locs : List Loc), gX (dC, dI) (tM kc) (wM ad kc) Z A s (pI σ 30 v) H locs → W p l e R s m args below meth c H locs cells slots Q (F0 m (pc + 3) ls (rest))) : W p l e R s m args below meth c H locs cells slots Q (F0 m pc ls (.int v :: .ref (ad 0) :: rest)) := by
  obtain ⟨hx, hb, hml, hown, hu⟩ := S
  obtain ⟨hK, hP, hD, hS, hA⟩ := X
  exact va_put (D := (dC, dI)) (ci := 15) (v := .int v) (ty := (tyX12 89)) (C := RX12) (T := TX12) (N := 136) hx hb hu iuX12 tyX12 tyX12_ok nmX12 hown hK hP hD hS 0 rfl rfl 89 (by decide) (hu _ hf) (fun _ h9 => h9) rfl (by decide +kernel) (rfl) (rfl) (Nat.le_of_ble_eq_true rfl) hd (fun H1 locs1 hP1 hD1 hS1 => k H1 locs1 ⟨hK, hP1, hD1, hS1, hA⟩)
theorem wmgI_31 {idx : Nat} (S : CallFix p m c cc nL s args uG own) (X : gX (dC, dI) (tM kc) (wM ad kc) Z A s σ H locs) (hf : Cond.fieldLink own idx "LazyForgeModel" "lastPlace" "I" ∈ uG) {v : Int32} (hv : gI σ 31 = v) (hd : decode cc pc = .ok (.getfield idx, 3))
    (k : W p l e R s m args below meth c H locs cells slots Q (F0 m (pc + 3) ls (.int v :: rest))) : W p l e R s m args below meth c H locs cells slots Q (F0 m pc ls (.ref (ad 0) :: rest)) := by
  subst hv
  obtain ⟨hx, hb, hml, hown, hu⟩ := S
  obtain ⟨hK, hP, hD, hS, hA⟩ := X
  exact va_get (D := (dC, dI)) (ci := 15) (v := .int (gI σ 31)) (C := RX12) (T := TX12) (N := 136) hx hb hu iuX12 hown hK hP 0 rfl rfl 90 (by decide) (hu _ hf) (fun _ h9 => h9) rfl hd k
theorem wmpI_31 {idx : Nat} {v : Int32} (S : CallFix p m c cc nL s args uG own) (X : gX (dC, dI) (tM kc) (wM ad kc) Z A s σ H locs) (hf : Cond.fieldLink own idx "LazyForgeModel" "lastPlace" "I" ∈ uG) (hd : decode cc pc = .ok (.putfield idx, 3))
    (k : ∀ (H : Heap) (locs : List Loc), gX (dC, dI) (tM kc) (wM ad kc) Z A s (pI σ 31 v) H locs → W p l e R s m args below meth c H locs cells slots Q (F0 m (pc + 3) ls (rest))) : W p l e R s m args below meth c H locs cells slots Q (F0 m pc ls (.int v :: .ref (ad 0) :: rest)) := by
  obtain ⟨hx, hb, hml, hown, hu⟩ := S
  obtain ⟨hK, hP, hD, hS, hA⟩ := X
  exact va_put (D := (dC, dI)) (ci := 15) (v := .int v) (ty := (tyX12 90)) (C := RX12) (T := TX12) (N := 136) hx hb hu iuX12 tyX12 tyX12_ok nmX12 hown hK hP hD hS 0 rfl rfl 90 (by decide) (hu _ hf) (fun _ h9 => h9) rfl (by decide +kernel) (rfl) (rfl) (Nat.le_of_ble_eq_true rfl) hd (fun H1 locs1 hP1 hD1 hS1 => k H1 locs1 ⟨hK, hP1, hD1, hS1, hA⟩)
theorem wmgR_0_91 {idx : Nat} (S : CallFix p m c cc nL s args uG own) (X : gX (dC, dI) (tM kc) (wM ad kc) Z A s σ H locs) (hf : Cond.fieldLink own idx "LazyForgeModel" "needed" "[Z" ∈ uG) (hd : decode cc pc = .ok (.getfield idx, 3))
    (k : W p l e R s m args below meth c H locs cells slots Q (F0 m (pc + 3) ls (.ref (ad 59) :: rest))) : W p l e R s m args below meth c H locs cells slots Q (F0 m pc ls (.ref (ad 0) :: rest)) := by
  obtain ⟨hx, hb, hml, hown, hu⟩ := S
  obtain ⟨hK, hP, hD, hS, hA⟩ := X
  exact va_get (D := (dC, dI)) (ci := 15) (v := .ref (ad 59)) (C := RX12) (T := TX12) (N := 136) hx hb hu iuX12 hown hK hP 0 rfl rfl 91 (by decide) (hu _ hf) (fun _ h9 => h9) rfl hd k
theorem wmgR_0_92 {idx : Nat} (S : CallFix p m c cc nL s args uG own) (X : gX (dC, dI) (tM kc) (wM ad kc) Z A s σ H locs) (hf : Cond.fieldLink own idx "LazyForgeModel" "cellSorts" "[I" ∈ uG) (hd : decode cc pc = .ok (.getfield idx, 3))
    (k : W p l e R s m args below meth c H locs cells slots Q (F0 m (pc + 3) ls (.ref (ad 60) :: rest))) : W p l e R s m args below meth c H locs cells slots Q (F0 m pc ls (.ref (ad 0) :: rest)) := by
  obtain ⟨hx, hb, hml, hown, hu⟩ := S
  obtain ⟨hK, hP, hD, hS, hA⟩ := X
  exact va_get (D := (dC, dI)) (ci := 15) (v := .ref (ad 60)) (C := RX12) (T := TX12) (N := 136) hx hb hu iuX12 hown hK hP 0 rfl rfl 92 (by decide) (hu _ hf) (fun _ h9 => h9) rfl hd k
theorem wmgR_0_93 {idx : Nat} (S : CallFix p m c cc nL s args uG own) (X : gX (dC, dI) (tM kc) (wM ad kc) Z A s σ H locs) (hf : Cond.fieldLink own idx "LazyForgeModel" "cellValues" "[I" ∈ uG) (hd : decode cc pc = .ok (.getfield idx, 3))
    (k : W p l e R s m args below meth c H locs cells slots Q (F0 m (pc + 3) ls (.ref (ad 61) :: rest))) : W p l e R s m args below meth c H locs cells slots Q (F0 m pc ls (.ref (ad 0) :: rest)) := by
  obtain ⟨hx, hb, hml, hown, hu⟩ := S
  obtain ⟨hK, hP, hD, hS, hA⟩ := X
  exact va_get (D := (dC, dI)) (ci := 15) (v := .ref (ad 61)) (C := RX12) (T := TX12) (N := 136) hx hb hu iuX12 hown hK hP 0 rfl rfl 93 (by decide) (hu _ hf) (fun _ h9 => h9) rfl hd k
theorem wmgR_0_94 {idx : Nat} (S : CallFix p m c cc nL s args uG own) (X : gX (dC, dI) (tM kc) (wM ad kc) Z A s σ H locs) (hf : Cond.fieldLink own idx "LazyForgeModel" "cellDone" "[J" ∈ uG) (hd : decode cc pc = .ok (.getfield idx, 3))
    (k : W p l e R s m args below meth c H locs cells slots Q (F0 m (pc + 3) ls (.ref (ad 62) :: rest))) : W p l e R s m args below meth c H locs cells slots Q (F0 m pc ls (.ref (ad 0) :: rest)) := by
  obtain ⟨hx, hb, hml, hown, hu⟩ := S
  obtain ⟨hK, hP, hD, hS, hA⟩ := X
  exact va_get (D := (dC, dI)) (ci := 15) (v := .ref (ad 62)) (C := RX12) (T := TX12) (N := 136) hx hb hu iuX12 hown hK hP 0 rfl rfl 94 (by decide) (hu _ hf) (fun _ h9 => h9) rfl hd k
theorem wmgR_0_95 {idx : Nat} (S : CallFix p m c cc nL s args uG own) (X : gX (dC, dI) (tM kc) (wM ad kc) Z A s σ H locs) (hf : Cond.fieldLink own idx "LazyForgeModel" "cellBegins" "[I" ∈ uG) (hd : decode cc pc = .ok (.getfield idx, 3))
    (k : W p l e R s m args below meth c H locs cells slots Q (F0 m (pc + 3) ls (.ref (ad 63) :: rest))) : W p l e R s m args below meth c H locs cells slots Q (F0 m pc ls (.ref (ad 0) :: rest)) := by
  obtain ⟨hx, hb, hml, hown, hu⟩ := S
  obtain ⟨hK, hP, hD, hS, hA⟩ := X
  exact va_get (D := (dC, dI)) (ci := 15) (v := .ref (ad 63)) (C := RX12) (T := TX12) (N := 136) hx hb hu iuX12 hown hK hP 0 rfl rfl 95 (by decide) (hu _ hf) (fun _ h9 => h9) rfl hd k
theorem wmgR_0_96 {idx : Nat} (S : CallFix p m c cc nL s args uG own) (X : gX (dC, dI) (tM kc) (wM ad kc) Z A s σ H locs) (hf : Cond.fieldLink own idx "LazyForgeModel" "cellCounts" "[I" ∈ uG) (hd : decode cc pc = .ok (.getfield idx, 3))
    (k : W p l e R s m args below meth c H locs cells slots Q (F0 m (pc + 3) ls (.ref (ad 64) :: rest))) : W p l e R s m args below meth c H locs cells slots Q (F0 m pc ls (.ref (ad 0) :: rest)) := by
  obtain ⟨hx, hb, hml, hown, hu⟩ := S
  obtain ⟨hK, hP, hD, hS, hA⟩ := X
  exact va_get (D := (dC, dI)) (ci := 15) (v := .ref (ad 64)) (C := RX12) (T := TX12) (N := 136) hx hb hu iuX12 hown hK hP 0 rfl rfl 96 (by decide) (hu _ hf) (fun _ h9 => h9) rfl hd k
theorem wmgI_32 {idx : Nat} (S : CallFix p m c cc nL s args uG own) (X : gX (dC, dI) (tM kc) (wM ad kc) Z A s σ H locs) (hf : Cond.fieldLink own idx "LazyForgeModel" "cellsMade" "I" ∈ uG) {v : Int32} (hv : gI σ 32 = v) (hd : decode cc pc = .ok (.getfield idx, 3))
    (k : W p l e R s m args below meth c H locs cells slots Q (F0 m (pc + 3) ls (.int v :: rest))) : W p l e R s m args below meth c H locs cells slots Q (F0 m pc ls (.ref (ad 0) :: rest)) := by
  subst hv
  obtain ⟨hx, hb, hml, hown, hu⟩ := S
  obtain ⟨hK, hP, hD, hS, hA⟩ := X
  exact va_get (D := (dC, dI)) (ci := 15) (v := .int (gI σ 32)) (C := RX12) (T := TX12) (N := 136) hx hb hu iuX12 hown hK hP 0 rfl rfl 97 (by decide) (hu _ hf) (fun _ h9 => h9) rfl hd k
theorem wmpI_32 {idx : Nat} {v : Int32} (S : CallFix p m c cc nL s args uG own) (X : gX (dC, dI) (tM kc) (wM ad kc) Z A s σ H locs) (hf : Cond.fieldLink own idx "LazyForgeModel" "cellsMade" "I" ∈ uG) (hd : decode cc pc = .ok (.putfield idx, 3))
    (k : ∀ (H : Heap) (locs : List Loc), gX (dC, dI) (tM kc) (wM ad kc) Z A s (pI σ 32 v) H locs → W p l e R s m args below meth c H locs cells slots Q (F0 m (pc + 3) ls (rest))) : W p l e R s m args below meth c H locs cells slots Q (F0 m pc ls (.int v :: .ref (ad 0) :: rest)) := by
  obtain ⟨hx, hb, hml, hown, hu⟩ := S
  obtain ⟨hK, hP, hD, hS, hA⟩ := X
  exact va_put (D := (dC, dI)) (ci := 15) (v := .int v) (ty := (tyX12 97)) (C := RX12) (T := TX12) (N := 136) hx hb hu iuX12 tyX12 tyX12_ok nmX12 hown hK hP hD hS 0 rfl rfl 97 (by decide) (hu _ hf) (fun _ h9 => h9) rfl (by decide +kernel) (rfl) (rfl) (Nat.le_of_ble_eq_true rfl) hd (fun H1 locs1 hP1 hD1 hS1 => k H1 locs1 ⟨hK, hP1, hD1, hS1, hA⟩)
theorem wmgI_33 {idx : Nat} (S : CallFix p m c cc nL s args uG own) (X : gX (dC, dI) (tM kc) (wM ad kc) Z A s σ H locs) (hf : Cond.fieldLink own idx "LazyForgeModel" "fieldTop" "I" ∈ uG) {v : Int32} (hv : gI σ 33 = v) (hd : decode cc pc = .ok (.getfield idx, 3))
    (k : W p l e R s m args below meth c H locs cells slots Q (F0 m (pc + 3) ls (.int v :: rest))) : W p l e R s m args below meth c H locs cells slots Q (F0 m pc ls (.ref (ad 0) :: rest)) := by
  subst hv
  obtain ⟨hx, hb, hml, hown, hu⟩ := S
  obtain ⟨hK, hP, hD, hS, hA⟩ := X
  exact va_get (D := (dC, dI)) (ci := 15) (v := .int (gI σ 33)) (C := RX12) (T := TX12) (N := 136) hx hb hu iuX12 hown hK hP 0 rfl rfl 98 (by decide) (hu _ hf) (fun _ h9 => h9) rfl hd k
theorem wmpI_33 {idx : Nat} {v : Int32} (S : CallFix p m c cc nL s args uG own) (X : gX (dC, dI) (tM kc) (wM ad kc) Z A s σ H locs) (hf : Cond.fieldLink own idx "LazyForgeModel" "fieldTop" "I" ∈ uG) (hd : decode cc pc = .ok (.putfield idx, 3))
    (k : ∀ (H : Heap) (locs : List Loc), gX (dC, dI) (tM kc) (wM ad kc) Z A s (pI σ 33 v) H locs → W p l e R s m args below meth c H locs cells slots Q (F0 m (pc + 3) ls (rest))) : W p l e R s m args below meth c H locs cells slots Q (F0 m pc ls (.int v :: .ref (ad 0) :: rest)) := by
  obtain ⟨hx, hb, hml, hown, hu⟩ := S
  obtain ⟨hK, hP, hD, hS, hA⟩ := X
  exact va_put (D := (dC, dI)) (ci := 15) (v := .int v) (ty := (tyX12 98)) (C := RX12) (T := TX12) (N := 136) hx hb hu iuX12 tyX12 tyX12_ok nmX12 hown hK hP hD hS 0 rfl rfl 98 (by decide) (hu _ hf) (fun _ h9 => h9) rfl (by decide +kernel) (rfl) (rfl) (Nat.le_of_ble_eq_true rfl) hd (fun H1 locs1 hP1 hD1 hS1 => k H1 locs1 ⟨hK, hP1, hD1, hS1, hA⟩)
theorem wmgR_0_99 {idx : Nat} (S : CallFix p m c cc nL s args uG own) (X : gX (dC, dI) (tM kc) (wM ad kc) Z A s σ H locs) (hf : Cond.fieldLink own idx "LazyForgeModel" "fields" "[J" ∈ uG) (hd : decode cc pc = .ok (.getfield idx, 3))
    (k : W p l e R s m args below meth c H locs cells slots Q (F0 m (pc + 3) ls (.ref (ad 65) :: rest))) : W p l e R s m args below meth c H locs cells slots Q (F0 m pc ls (.ref (ad 0) :: rest)) := by
  obtain ⟨hx, hb, hml, hown, hu⟩ := S
  obtain ⟨hK, hP, hD, hS, hA⟩ := X
  exact va_get (D := (dC, dI)) (ci := 15) (v := .ref (ad 65)) (C := RX12) (T := TX12) (N := 136) hx hb hu iuX12 hown hK hP 0 rfl rfl 99 (by decide) (hu _ hf) (fun _ h9 => h9) rfl hd k
theorem wmgI_34 {idx : Nat} (S : CallFix p m c cc nL s args uG own) (X : gX (dC, dI) (tM kc) (wM ad kc) Z A s σ H locs) (hf : Cond.fieldLink own idx "LazyForgeModel" "cells" "I" ∈ uG) {v : Int32} (hv : gI σ 34 = v) (hd : decode cc pc = .ok (.getfield idx, 3))
    (k : W p l e R s m args below meth c H locs cells slots Q (F0 m (pc + 3) ls (.int v :: rest))) : W p l e R s m args below meth c H locs cells slots Q (F0 m pc ls (.ref (ad 0) :: rest)) := by
  subst hv
  obtain ⟨hx, hb, hml, hown, hu⟩ := S
  obtain ⟨hK, hP, hD, hS, hA⟩ := X
  exact va_get (D := (dC, dI)) (ci := 15) (v := .int (gI σ 34)) (C := RX12) (T := TX12) (N := 136) hx hb hu iuX12 hown hK hP 0 rfl rfl 100 (by decide) (hu _ hf) (fun _ h9 => h9) rfl hd k
theorem wmpI_34 {idx : Nat} {v : Int32} (S : CallFix p m c cc nL s args uG own) (X : gX (dC, dI) (tM kc) (wM ad kc) Z A s σ H locs) (hf : Cond.fieldLink own idx "LazyForgeModel" "cells" "I" ∈ uG) (hd : decode cc pc = .ok (.putfield idx, 3))
    (k : ∀ (H : Heap) (locs : List Loc), gX (dC, dI) (tM kc) (wM ad kc) Z A s (pI σ 34 v) H locs → W p l e R s m args below meth c H locs cells slots Q (F0 m (pc + 3) ls (rest))) : W p l e R s m args below meth c H locs cells slots Q (F0 m pc ls (.int v :: .ref (ad 0) :: rest)) := by
  obtain ⟨hx, hb, hml, hown, hu⟩ := S
  obtain ⟨hK, hP, hD, hS, hA⟩ := X
  exact va_put (D := (dC, dI)) (ci := 15) (v := .int v) (ty := (tyX12 100)) (C := RX12) (T := TX12) (N := 136) hx hb hu iuX12 tyX12 tyX12_ok nmX12 hown hK hP hD hS 0 rfl rfl 100 (by decide) (hu _ hf) (fun _ h9 => h9) rfl (by decide +kernel) (rfl) (rfl) (Nat.le_of_ble_eq_true rfl) hd (fun H1 locs1 hP1 hD1 hS1 => k H1 locs1 ⟨hK, hP1, hD1, hS1, hA⟩)
theorem wmgI_35 {idx : Nat} (S : CallFix p m c cc nL s args uG own) (X : gX (dC, dI) (tM kc) (wM ad kc) Z A s σ H locs) (hf : Cond.fieldLink own idx "LazyForgeModel" "allCells" "I" ∈ uG) {v : Int32} (hv : gI σ 35 = v) (hd : decode cc pc = .ok (.getfield idx, 3))
    (k : W p l e R s m args below meth c H locs cells slots Q (F0 m (pc + 3) ls (.int v :: rest))) : W p l e R s m args below meth c H locs cells slots Q (F0 m pc ls (.ref (ad 0) :: rest)) := by
  subst hv
  obtain ⟨hx, hb, hml, hown, hu⟩ := S
  obtain ⟨hK, hP, hD, hS, hA⟩ := X
  exact va_get (D := (dC, dI)) (ci := 15) (v := .int (gI σ 35)) (C := RX12) (T := TX12) (N := 136) hx hb hu iuX12 hown hK hP 0 rfl rfl 101 (by decide) (hu _ hf) (fun _ h9 => h9) rfl hd k
theorem wmpI_35 {idx : Nat} {v : Int32} (S : CallFix p m c cc nL s args uG own) (X : gX (dC, dI) (tM kc) (wM ad kc) Z A s σ H locs) (hf : Cond.fieldLink own idx "LazyForgeModel" "allCells" "I" ∈ uG) (hd : decode cc pc = .ok (.putfield idx, 3))
    (k : ∀ (H : Heap) (locs : List Loc), gX (dC, dI) (tM kc) (wM ad kc) Z A s (pI σ 35 v) H locs → W p l e R s m args below meth c H locs cells slots Q (F0 m (pc + 3) ls (rest))) : W p l e R s m args below meth c H locs cells slots Q (F0 m pc ls (.int v :: .ref (ad 0) :: rest)) := by
  obtain ⟨hx, hb, hml, hown, hu⟩ := S
  obtain ⟨hK, hP, hD, hS, hA⟩ := X
  exact va_put (D := (dC, dI)) (ci := 15) (v := .int v) (ty := (tyX12 101)) (C := RX12) (T := TX12) (N := 136) hx hb hu iuX12 tyX12 tyX12_ok nmX12 hown hK hP hD hS 0 rfl rfl 101 (by decide) (hu _ hf) (fun _ h9 => h9) rfl (by decide +kernel) (rfl) (rfl) (Nat.le_of_ble_eq_true rfl) hd (fun H1 locs1 hP1 hD1 hS1 => k H1 locs1 ⟨hK, hP1, hD1, hS1, hA⟩)
theorem wmgI_36 {idx : Nat} (S : CallFix p m c cc nL s args uG own) (X : gX (dC, dI) (tM kc) (wM ad kc) Z A s σ H locs) (hf : Cond.fieldLink own idx "LazyForgeModel" "allCalls" "I" ∈ uG) {v : Int32} (hv : gI σ 36 = v) (hd : decode cc pc = .ok (.getfield idx, 3))
    (k : W p l e R s m args below meth c H locs cells slots Q (F0 m (pc + 3) ls (.int v :: rest))) : W p l e R s m args below meth c H locs cells slots Q (F0 m pc ls (.ref (ad 0) :: rest)) := by
  subst hv
  obtain ⟨hx, hb, hml, hown, hu⟩ := S
  obtain ⟨hK, hP, hD, hS, hA⟩ := X
  exact va_get (D := (dC, dI)) (ci := 15) (v := .int (gI σ 36)) (C := RX12) (T := TX12) (N := 136) hx hb hu iuX12 hown hK hP 0 rfl rfl 102 (by decide) (hu _ hf) (fun _ h9 => h9) rfl hd k
theorem wmpI_36 {idx : Nat} {v : Int32} (S : CallFix p m c cc nL s args uG own) (X : gX (dC, dI) (tM kc) (wM ad kc) Z A s σ H locs) (hf : Cond.fieldLink own idx "LazyForgeModel" "allCalls" "I" ∈ uG) (hd : decode cc pc = .ok (.putfield idx, 3))
    (k : ∀ (H : Heap) (locs : List Loc), gX (dC, dI) (tM kc) (wM ad kc) Z A s (pI σ 36 v) H locs → W p l e R s m args below meth c H locs cells slots Q (F0 m (pc + 3) ls (rest))) : W p l e R s m args below meth c H locs cells slots Q (F0 m pc ls (.int v :: .ref (ad 0) :: rest)) := by
  obtain ⟨hx, hb, hml, hown, hu⟩ := S
  obtain ⟨hK, hP, hD, hS, hA⟩ := X
  exact va_put (D := (dC, dI)) (ci := 15) (v := .int v) (ty := (tyX12 102)) (C := RX12) (T := TX12) (N := 136) hx hb hu iuX12 tyX12 tyX12_ok nmX12 hown hK hP hD hS 0 rfl rfl 102 (by decide) (hu _ hf) (fun _ h9 => h9) rfl (by decide +kernel) (rfl) (rfl) (Nat.le_of_ble_eq_true rfl) hd (fun H1 locs1 hP1 hD1 hS1 => k H1 locs1 ⟨hK, hP1, hD1, hS1, hA⟩)
theorem wmgI_37 {idx : Nat} (S : CallFix p m c cc nL s args uG own) (X : gX (dC, dI) (tM kc) (wM ad kc) Z A s σ H locs) (hf : Cond.fieldLink own idx "LazyForgeModel" "callsLeft" "I" ∈ uG) {v : Int32} (hv : gI σ 37 = v) (hd : decode cc pc = .ok (.getfield idx, 3))
    (k : W p l e R s m args below meth c H locs cells slots Q (F0 m (pc + 3) ls (.int v :: rest))) : W p l e R s m args below meth c H locs cells slots Q (F0 m pc ls (.ref (ad 0) :: rest)) := by
  subst hv
  obtain ⟨hx, hb, hml, hown, hu⟩ := S
  obtain ⟨hK, hP, hD, hS, hA⟩ := X
  exact va_get (D := (dC, dI)) (ci := 15) (v := .int (gI σ 37)) (C := RX12) (T := TX12) (N := 136) hx hb hu iuX12 hown hK hP 0 rfl rfl 103 (by decide) (hu _ hf) (fun _ h9 => h9) rfl hd k
theorem wmpI_37 {idx : Nat} {v : Int32} (S : CallFix p m c cc nL s args uG own) (X : gX (dC, dI) (tM kc) (wM ad kc) Z A s σ H locs) (hf : Cond.fieldLink own idx "LazyForgeModel" "callsLeft" "I" ∈ uG) (hd : decode cc pc = .ok (.putfield idx, 3))
    (k : ∀ (H : Heap) (locs : List Loc), gX (dC, dI) (tM kc) (wM ad kc) Z A s (pI σ 37 v) H locs → W p l e R s m args below meth c H locs cells slots Q (F0 m (pc + 3) ls (rest))) : W p l e R s m args below meth c H locs cells slots Q (F0 m pc ls (.int v :: .ref (ad 0) :: rest)) := by
  obtain ⟨hx, hb, hml, hown, hu⟩ := S
  obtain ⟨hK, hP, hD, hS, hA⟩ := X
  exact va_put (D := (dC, dI)) (ci := 15) (v := .int v) (ty := (tyX12 103)) (C := RX12) (T := TX12) (N := 136) hx hb hu iuX12 tyX12 tyX12_ok nmX12 hown hK hP hD hS 0 rfl rfl 103 (by decide) (hu _ hf) (fun _ h9 => h9) rfl (by decide +kernel) (rfl) (rfl) (Nat.le_of_ble_eq_true rfl) hd (fun H1 locs1 hP1 hD1 hS1 => k H1 locs1 ⟨hK, hP1, hD1, hS1, hA⟩)
theorem wmgI_38 {idx : Nat} (S : CallFix p m c cc nL s args uG own) (X : gX (dC, dI) (tM kc) (wM ad kc) Z A s σ H locs) (hf : Cond.fieldLink own idx "LazyForgeModel" "calls" "I" ∈ uG) {v : Int32} (hv : gI σ 38 = v) (hd : decode cc pc = .ok (.getfield idx, 3))
    (k : W p l e R s m args below meth c H locs cells slots Q (F0 m (pc + 3) ls (.int v :: rest))) : W p l e R s m args below meth c H locs cells slots Q (F0 m pc ls (.ref (ad 0) :: rest)) := by
  subst hv
  obtain ⟨hx, hb, hml, hown, hu⟩ := S
  obtain ⟨hK, hP, hD, hS, hA⟩ := X
  exact va_get (D := (dC, dI)) (ci := 15) (v := .int (gI σ 38)) (C := RX12) (T := TX12) (N := 136) hx hb hu iuX12 hown hK hP 0 rfl rfl 104 (by decide) (hu _ hf) (fun _ h9 => h9) rfl hd k
theorem wmpI_38 {idx : Nat} {v : Int32} (S : CallFix p m c cc nL s args uG own) (X : gX (dC, dI) (tM kc) (wM ad kc) Z A s σ H locs) (hf : Cond.fieldLink own idx "LazyForgeModel" "calls" "I" ∈ uG) (hd : decode cc pc = .ok (.putfield idx, 3))
    (k : ∀ (H : Heap) (locs : List Loc), gX (dC, dI) (tM kc) (wM ad kc) Z A s (pI σ 38 v) H locs → W p l e R s m args below meth c H locs cells slots Q (F0 m (pc + 3) ls (rest))) : W p l e R s m args below meth c H locs cells slots Q (F0 m pc ls (.int v :: .ref (ad 0) :: rest)) := by
  obtain ⟨hx, hb, hml, hown, hu⟩ := S
  obtain ⟨hK, hP, hD, hS, hA⟩ := X
  exact va_put (D := (dC, dI)) (ci := 15) (v := .int v) (ty := (tyX12 104)) (C := RX12) (T := TX12) (N := 136) hx hb hu iuX12 tyX12 tyX12_ok nmX12 hown hK hP hD hS 0 rfl rfl 104 (by decide) (hu _ hf) (fun _ h9 => h9) rfl (by decide +kernel) (rfl) (rfl) (Nat.le_of_ble_eq_true rfl) hd (fun H1 locs1 hP1 hD1 hS1 => k H1 locs1 ⟨hK, hP1, hD1, hS1, hA⟩)
theorem wmgI_39 {idx : Nat} (S : CallFix p m c cc nL s args uG own) (X : gX (dC, dI) (tM kc) (wM ad kc) Z A s σ H locs) (hf : Cond.fieldLink own idx "LazyForgeModel" "suspensions" "I" ∈ uG) {v : Int32} (hv : gI σ 39 = v) (hd : decode cc pc = .ok (.getfield idx, 3))
    (k : W p l e R s m args below meth c H locs cells slots Q (F0 m (pc + 3) ls (.int v :: rest))) : W p l e R s m args below meth c H locs cells slots Q (F0 m pc ls (.ref (ad 0) :: rest)) := by
  subst hv
  obtain ⟨hx, hb, hml, hown, hu⟩ := S
  obtain ⟨hK, hP, hD, hS, hA⟩ := X
  exact va_get (D := (dC, dI)) (ci := 15) (v := .int (gI σ 39)) (C := RX12) (T := TX12) (N := 136) hx hb hu iuX12 hown hK hP 0 rfl rfl 105 (by decide) (hu _ hf) (fun _ h9 => h9) rfl hd k
theorem wmpI_39 {idx : Nat} {v : Int32} (S : CallFix p m c cc nL s args uG own) (X : gX (dC, dI) (tM kc) (wM ad kc) Z A s σ H locs) (hf : Cond.fieldLink own idx "LazyForgeModel" "suspensions" "I" ∈ uG) (hd : decode cc pc = .ok (.putfield idx, 3))
    (k : ∀ (H : Heap) (locs : List Loc), gX (dC, dI) (tM kc) (wM ad kc) Z A s (pI σ 39 v) H locs → W p l e R s m args below meth c H locs cells slots Q (F0 m (pc + 3) ls (rest))) : W p l e R s m args below meth c H locs cells slots Q (F0 m pc ls (.int v :: .ref (ad 0) :: rest)) := by
  obtain ⟨hx, hb, hml, hown, hu⟩ := S
  obtain ⟨hK, hP, hD, hS, hA⟩ := X
  exact va_put (D := (dC, dI)) (ci := 15) (v := .int v) (ty := (tyX12 105)) (C := RX12) (T := TX12) (N := 136) hx hb hu iuX12 tyX12 tyX12_ok nmX12 hown hK hP hD hS 0 rfl rfl 105 (by decide) (hu _ hf) (fun _ h9 => h9) rfl (by decide +kernel) (rfl) (rfl) (Nat.le_of_ble_eq_true rfl) hd (fun H1 locs1 hP1 hD1 hS1 => k H1 locs1 ⟨hK, hP1, hD1, hS1, hA⟩)
theorem wmgI_40 {idx : Nat} (S : CallFix p m c cc nL s args uG own) (X : gX (dC, dI) (tM kc) (wM ad kc) Z A s σ H locs) (hf : Cond.fieldLink own idx "LazyForgeModel" "partials" "I" ∈ uG) {v : Int32} (hv : gI σ 40 = v) (hd : decode cc pc = .ok (.getfield idx, 3))
    (k : W p l e R s m args below meth c H locs cells slots Q (F0 m (pc + 3) ls (.int v :: rest))) : W p l e R s m args below meth c H locs cells slots Q (F0 m pc ls (.ref (ad 0) :: rest)) := by
  subst hv
  obtain ⟨hx, hb, hml, hown, hu⟩ := S
  obtain ⟨hK, hP, hD, hS, hA⟩ := X
  exact va_get (D := (dC, dI)) (ci := 15) (v := .int (gI σ 40)) (C := RX12) (T := TX12) (N := 136) hx hb hu iuX12 hown hK hP 0 rfl rfl 106 (by decide) (hu _ hf) (fun _ h9 => h9) rfl hd k
theorem wmpI_40 {idx : Nat} {v : Int32} (S : CallFix p m c cc nL s args uG own) (X : gX (dC, dI) (tM kc) (wM ad kc) Z A s σ H locs) (hf : Cond.fieldLink own idx "LazyForgeModel" "partials" "I" ∈ uG) (hd : decode cc pc = .ok (.putfield idx, 3))
    (k : ∀ (H : Heap) (locs : List Loc), gX (dC, dI) (tM kc) (wM ad kc) Z A s (pI σ 40 v) H locs → W p l e R s m args below meth c H locs cells slots Q (F0 m (pc + 3) ls (rest))) : W p l e R s m args below meth c H locs cells slots Q (F0 m pc ls (.int v :: .ref (ad 0) :: rest)) := by
  obtain ⟨hx, hb, hml, hown, hu⟩ := S
  obtain ⟨hK, hP, hD, hS, hA⟩ := X
  exact va_put (D := (dC, dI)) (ci := 15) (v := .int v) (ty := (tyX12 106)) (C := RX12) (T := TX12) (N := 136) hx hb hu iuX12 tyX12 tyX12_ok nmX12 hown hK hP hD hS 0 rfl rfl 106 (by decide) (hu _ hf) (fun _ h9 => h9) rfl (by decide +kernel) (rfl) (rfl) (Nat.le_of_ble_eq_true rfl) hd (fun H1 locs1 hP1 hD1 hS1 => k H1 locs1 ⟨hK, hP1, hD1, hS1, hA⟩)
theorem wmgI_41 {idx : Nat} (S : CallFix p m c cc nL s args uG own) (X : gX (dC, dI) (tM kc) (wM ad kc) Z A s σ H locs) (hf : Cond.fieldLink own idx "LazyForgeModel" "objects" "I" ∈ uG) {v : Int32} (hv : gI σ 41 = v) (hd : decode cc pc = .ok (.getfield idx, 3))
    (k : W p l e R s m args below meth c H locs cells slots Q (F0 m (pc + 3) ls (.int v :: rest))) : W p l e R s m args below meth c H locs cells slots Q (F0 m pc ls (.ref (ad 0) :: rest)) := by
  subst hv
  obtain ⟨hx, hb, hml, hown, hu⟩ := S
  obtain ⟨hK, hP, hD, hS, hA⟩ := X
  exact va_get (D := (dC, dI)) (ci := 15) (v := .int (gI σ 41)) (C := RX12) (T := TX12) (N := 136) hx hb hu iuX12 hown hK hP 0 rfl rfl 107 (by decide) (hu _ hf) (fun _ h9 => h9) rfl hd k
theorem wmpI_41 {idx : Nat} {v : Int32} (S : CallFix p m c cc nL s args uG own) (X : gX (dC, dI) (tM kc) (wM ad kc) Z A s σ H locs) (hf : Cond.fieldLink own idx "LazyForgeModel" "objects" "I" ∈ uG) (hd : decode cc pc = .ok (.putfield idx, 3))
    (k : ∀ (H : Heap) (locs : List Loc), gX (dC, dI) (tM kc) (wM ad kc) Z A s (pI σ 41 v) H locs → W p l e R s m args below meth c H locs cells slots Q (F0 m (pc + 3) ls (rest))) : W p l e R s m args below meth c H locs cells slots Q (F0 m pc ls (.int v :: .ref (ad 0) :: rest)) := by
  obtain ⟨hx, hb, hml, hown, hu⟩ := S
  obtain ⟨hK, hP, hD, hS, hA⟩ := X
  exact va_put (D := (dC, dI)) (ci := 15) (v := .int v) (ty := (tyX12 107)) (C := RX12) (T := TX12) (N := 136) hx hb hu iuX12 tyX12 tyX12_ok nmX12 hown hK hP hD hS 0 rfl rfl 107 (by decide) (hu _ hf) (fun _ h9 => h9) rfl (by decide +kernel) (rfl) (rfl) (Nat.le_of_ble_eq_true rfl) hd (fun H1 locs1 hP1 hD1 hS1 => k H1 locs1 ⟨hK, hP1, hD1, hS1, hA⟩)
theorem wmgI_42 {idx : Nat} (S : CallFix p m c cc nL s args uG own) (X : gX (dC, dI) (tM kc) (wM ad kc) Z A s σ H locs) (hf : Cond.fieldLink own idx "LazyForgeModel" "updates" "I" ∈ uG) {v : Int32} (hv : gI σ 42 = v) (hd : decode cc pc = .ok (.getfield idx, 3))
    (k : W p l e R s m args below meth c H locs cells slots Q (F0 m (pc + 3) ls (.int v :: rest))) : W p l e R s m args below meth c H locs cells slots Q (F0 m pc ls (.ref (ad 0) :: rest)) := by
  subst hv
  obtain ⟨hx, hb, hml, hown, hu⟩ := S
  obtain ⟨hK, hP, hD, hS, hA⟩ := X
  exact va_get (D := (dC, dI)) (ci := 15) (v := .int (gI σ 42)) (C := RX12) (T := TX12) (N := 136) hx hb hu iuX12 hown hK hP 0 rfl rfl 108 (by decide) (hu _ hf) (fun _ h9 => h9) rfl hd k
theorem wmpI_42 {idx : Nat} {v : Int32} (S : CallFix p m c cc nL s args uG own) (X : gX (dC, dI) (tM kc) (wM ad kc) Z A s σ H locs) (hf : Cond.fieldLink own idx "LazyForgeModel" "updates" "I" ∈ uG) (hd : decode cc pc = .ok (.putfield idx, 3))
    (k : ∀ (H : Heap) (locs : List Loc), gX (dC, dI) (tM kc) (wM ad kc) Z A s (pI σ 42 v) H locs → W p l e R s m args below meth c H locs cells slots Q (F0 m (pc + 3) ls (rest))) : W p l e R s m args below meth c H locs cells slots Q (F0 m pc ls (.int v :: .ref (ad 0) :: rest)) := by
  obtain ⟨hx, hb, hml, hown, hu⟩ := S
  obtain ⟨hK, hP, hD, hS, hA⟩ := X
  exact va_put (D := (dC, dI)) (ci := 15) (v := .int v) (ty := (tyX12 108)) (C := RX12) (T := TX12) (N := 136) hx hb hu iuX12 tyX12 tyX12_ok nmX12 hown hK hP hD hS 0 rfl rfl 108 (by decide) (hu _ hf) (fun _ h9 => h9) rfl (by decide +kernel) (rfl) (rfl) (Nat.le_of_ble_eq_true rfl) hd (fun H1 locs1 hP1 hD1 hS1 => k H1 locs1 ⟨hK, hP1, hD1, hS1, hA⟩)
theorem wmgI_43 {idx : Nat} (S : CallFix p m c cc nL s args uG own) (X : gX (dC, dI) (tM kc) (wM ad kc) Z A s σ H locs) (hf : Cond.fieldLink own idx "LazyForgeModel" "atOnce" "I" ∈ uG) {v : Int32} (hv : gI σ 43 = v) (hd : decode cc pc = .ok (.getfield idx, 3))
    (k : W p l e R s m args below meth c H locs cells slots Q (F0 m (pc + 3) ls (.int v :: rest))) : W p l e R s m args below meth c H locs cells slots Q (F0 m pc ls (.ref (ad 0) :: rest)) := by
  subst hv
  obtain ⟨hx, hb, hml, hown, hu⟩ := S
  obtain ⟨hK, hP, hD, hS, hA⟩ := X
  exact va_get (D := (dC, dI)) (ci := 15) (v := .int (gI σ 43)) (C := RX12) (T := TX12) (N := 136) hx hb hu iuX12 hown hK hP 0 rfl rfl 109 (by decide) (hu _ hf) (fun _ h9 => h9) rfl hd k
theorem wmpI_43 {idx : Nat} {v : Int32} (S : CallFix p m c cc nL s args uG own) (X : gX (dC, dI) (tM kc) (wM ad kc) Z A s σ H locs) (hf : Cond.fieldLink own idx "LazyForgeModel" "atOnce" "I" ∈ uG) (hd : decode cc pc = .ok (.putfield idx, 3))
    (k : ∀ (H : Heap) (locs : List Loc), gX (dC, dI) (tM kc) (wM ad kc) Z A s (pI σ 43 v) H locs → W p l e R s m args below meth c H locs cells slots Q (F0 m (pc + 3) ls (rest))) : W p l e R s m args below meth c H locs cells slots Q (F0 m pc ls (.int v :: .ref (ad 0) :: rest)) := by
  obtain ⟨hx, hb, hml, hown, hu⟩ := S
  obtain ⟨hK, hP, hD, hS, hA⟩ := X
  exact va_put (D := (dC, dI)) (ci := 15) (v := .int v) (ty := (tyX12 109)) (C := RX12) (T := TX12) (N := 136) hx hb hu iuX12 tyX12 tyX12_ok nmX12 hown hK hP hD hS 0 rfl rfl 109 (by decide) (hu _ hf) (fun _ h9 => h9) rfl (by decide +kernel) (rfl) (rfl) (Nat.le_of_ble_eq_true rfl) hd (fun H1 locs1 hP1 hD1 hS1 => k H1 locs1 ⟨hK, hP1, hD1, hS1, hA⟩)
theorem wmgR_0_110 {idx : Nat} (S : CallFix p m c cc nL s args uG own) (X : gX (dC, dI) (tM kc) (wM ad kc) Z A s σ H locs) (hf : Cond.fieldLink own idx "LazyForgeModel" "calledCounts" "[I" ∈ uG) (hd : decode cc pc = .ok (.getfield idx, 3))
    (k : W p l e R s m args below meth c H locs cells slots Q (F0 m (pc + 3) ls (.ref (ad 66) :: rest))) : W p l e R s m args below meth c H locs cells slots Q (F0 m pc ls (.ref (ad 0) :: rest)) := by
  obtain ⟨hx, hb, hml, hown, hu⟩ := S
  obtain ⟨hK, hP, hD, hS, hA⟩ := X
  exact va_get (D := (dC, dI)) (ci := 15) (v := .ref (ad 66)) (C := RX12) (T := TX12) (N := 136) hx hb hu iuX12 hown hK hP 0 rfl rfl 110 (by decide) (hu _ hf) (fun _ h9 => h9) rfl hd k
theorem wmgI_44 {idx : Nat} (S : CallFix p m c cc nL s args uG own) (X : gX (dC, dI) (tM kc) (wM ad kc) Z A s σ H locs) (hf : Cond.fieldLink own idx "LazyForgeModel" "how" "I" ∈ uG) {v : Int32} (hv : gI σ 44 = v) (hd : decode cc pc = .ok (.getfield idx, 3))
    (k : W p l e R s m args below meth c H locs cells slots Q (F0 m (pc + 3) ls (.int v :: rest))) : W p l e R s m args below meth c H locs cells slots Q (F0 m pc ls (.ref (ad 0) :: rest)) := by
  subst hv
  obtain ⟨hx, hb, hml, hown, hu⟩ := S
  obtain ⟨hK, hP, hD, hS, hA⟩ := X
  exact va_get (D := (dC, dI)) (ci := 15) (v := .int (gI σ 44)) (C := RX12) (T := TX12) (N := 136) hx hb hu iuX12 hown hK hP 0 rfl rfl 111 (by decide) (hu _ hf) (fun _ h9 => h9) rfl hd k
theorem wmpI_44 {idx : Nat} {v : Int32} (S : CallFix p m c cc nL s args uG own) (X : gX (dC, dI) (tM kc) (wM ad kc) Z A s σ H locs) (hf : Cond.fieldLink own idx "LazyForgeModel" "how" "I" ∈ uG) (hd : decode cc pc = .ok (.putfield idx, 3))
    (k : ∀ (H : Heap) (locs : List Loc), gX (dC, dI) (tM kc) (wM ad kc) Z A s (pI σ 44 v) H locs → W p l e R s m args below meth c H locs cells slots Q (F0 m (pc + 3) ls (rest))) : W p l e R s m args below meth c H locs cells slots Q (F0 m pc ls (.int v :: .ref (ad 0) :: rest)) := by
  obtain ⟨hx, hb, hml, hown, hu⟩ := S
  obtain ⟨hK, hP, hD, hS, hA⟩ := X
  exact va_put (D := (dC, dI)) (ci := 15) (v := .int v) (ty := (tyX12 111)) (C := RX12) (T := TX12) (N := 136) hx hb hu iuX12 tyX12 tyX12_ok nmX12 hown hK hP hD hS 0 rfl rfl 111 (by decide) (hu _ hf) (fun _ h9 => h9) rfl (by decide +kernel) (rfl) (rfl) (Nat.le_of_ble_eq_true rfl) hd (fun H1 locs1 hP1 hD1 hS1 => k H1 locs1 ⟨hK, hP1, hD1, hS1, hA⟩)
theorem wmgI_45 {idx : Nat} (S : CallFix p m c cc nL s args uG own) (X : gX (dC, dI) (tM kc) (wM ad kc) Z A s σ H locs) (hf : Cond.fieldLink own idx "LazyForgeModel" "why" "I" ∈ uG) {v : Int32} (hv : gI σ 45 = v) (hd : decode cc pc = .ok (.getfield idx, 3))
    (k : W p l e R s m args below meth c H locs cells slots Q (F0 m (pc + 3) ls (.int v :: rest))) : W p l e R s m args below meth c H locs cells slots Q (F0 m pc ls (.ref (ad 0) :: rest)) := by
  subst hv
  obtain ⟨hx, hb, hml, hown, hu⟩ := S
  obtain ⟨hK, hP, hD, hS, hA⟩ := X
  exact va_get (D := (dC, dI)) (ci := 15) (v := .int (gI σ 45)) (C := RX12) (T := TX12) (N := 136) hx hb hu iuX12 hown hK hP 0 rfl rfl 112 (by decide) (hu _ hf) (fun _ h9 => h9) rfl hd k
theorem wmpI_45 {idx : Nat} {v : Int32} (S : CallFix p m c cc nL s args uG own) (X : gX (dC, dI) (tM kc) (wM ad kc) Z A s σ H locs) (hf : Cond.fieldLink own idx "LazyForgeModel" "why" "I" ∈ uG) (hd : decode cc pc = .ok (.putfield idx, 3))
    (k : ∀ (H : Heap) (locs : List Loc), gX (dC, dI) (tM kc) (wM ad kc) Z A s (pI σ 45 v) H locs → W p l e R s m args below meth c H locs cells slots Q (F0 m (pc + 3) ls (rest))) : W p l e R s m args below meth c H locs cells slots Q (F0 m pc ls (.int v :: .ref (ad 0) :: rest)) := by
  obtain ⟨hx, hb, hml, hown, hu⟩ := S
  obtain ⟨hK, hP, hD, hS, hA⟩ := X
  exact va_put (D := (dC, dI)) (ci := 15) (v := .int v) (ty := (tyX12 112)) (C := RX12) (T := TX12) (N := 136) hx hb hu iuX12 tyX12 tyX12_ok nmX12 hown hK hP hD hS 0 rfl rfl 112 (by decide) (hu _ hf) (fun _ h9 => h9) rfl (by decide +kernel) (rfl) (rfl) (Nat.le_of_ble_eq_true rfl) hd (fun H1 locs1 hP1 hD1 hS1 => k H1 locs1 ⟨hK, hP1, hD1, hS1, hA⟩)
theorem wmgI_46 {idx : Nat} (S : CallFix p m c cc nL s args uG own) (X : gX (dC, dI) (tM kc) (wM ad kc) Z A s σ H locs) (hf : Cond.fieldLink own idx "LazyForgeModel" "rowCounted" "I" ∈ uG) {v : Int32} (hv : gI σ 46 = v) (hd : decode cc pc = .ok (.getfield idx, 3))
    (k : W p l e R s m args below meth c H locs cells slots Q (F0 m (pc + 3) ls (.int v :: rest))) : W p l e R s m args below meth c H locs cells slots Q (F0 m pc ls (.ref (ad 0) :: rest)) := by
  subst hv
  obtain ⟨hx, hb, hml, hown, hu⟩ := S
  obtain ⟨hK, hP, hD, hS, hA⟩ := X
  exact va_get (D := (dC, dI)) (ci := 15) (v := .int (gI σ 46)) (C := RX12) (T := TX12) (N := 136) hx hb hu iuX12 hown hK hP 0 rfl rfl 113 (by decide) (hu _ hf) (fun _ h9 => h9) rfl hd k
theorem wmpI_46 {idx : Nat} {v : Int32} (S : CallFix p m c cc nL s args uG own) (X : gX (dC, dI) (tM kc) (wM ad kc) Z A s σ H locs) (hf : Cond.fieldLink own idx "LazyForgeModel" "rowCounted" "I" ∈ uG) (hd : decode cc pc = .ok (.putfield idx, 3))
    (k : ∀ (H : Heap) (locs : List Loc), gX (dC, dI) (tM kc) (wM ad kc) Z A s (pI σ 46 v) H locs → W p l e R s m args below meth c H locs cells slots Q (F0 m (pc + 3) ls (rest))) : W p l e R s m args below meth c H locs cells slots Q (F0 m pc ls (.int v :: .ref (ad 0) :: rest)) := by
  obtain ⟨hx, hb, hml, hown, hu⟩ := S
  obtain ⟨hK, hP, hD, hS, hA⟩ := X
  exact va_put (D := (dC, dI)) (ci := 15) (v := .int v) (ty := (tyX12 113)) (C := RX12) (T := TX12) (N := 136) hx hb hu iuX12 tyX12 tyX12_ok nmX12 hown hK hP hD hS 0 rfl rfl 113 (by decide) (hu _ hf) (fun _ h9 => h9) rfl (by decide +kernel) (rfl) (rfl) (Nat.le_of_ble_eq_true rfl) hd (fun H1 locs1 hP1 hD1 hS1 => k H1 locs1 ⟨hK, hP1, hD1, hS1, hA⟩)
theorem wmgR_0_114 {idx : Nat} (S : CallFix p m c cc nL s args uG own) (X : gX (dC, dI) (tM kc) (wM ad kc) Z A s σ H locs) (hf : Cond.fieldLink own idx "LazyForgeModel" "row" "[I" ∈ uG) (hd : decode cc pc = .ok (.getfield idx, 3))
    (k : W p l e R s m args below meth c H locs cells slots Q (F0 m (pc + 3) ls (.ref (ad 67) :: rest))) : W p l e R s m args below meth c H locs cells slots Q (F0 m pc ls (.ref (ad 0) :: rest)) := by
  obtain ⟨hx, hb, hml, hown, hu⟩ := S
  obtain ⟨hK, hP, hD, hS, hA⟩ := X
  exact va_get (D := (dC, dI)) (ci := 15) (v := .ref (ad 67)) (C := RX12) (T := TX12) (N := 136) hx hb hu iuX12 hown hK hP 0 rfl rfl 114 (by decide) (hu _ hf) (fun _ h9 => h9) rfl hd k
theorem wmgI_47 {idx : Nat} (S : CallFix p m c cc nL s args uG own) (X : gX (dC, dI) (tM kc) (wM ad kc) Z A s σ H locs) (hf : Cond.fieldLink own idx "LazyForgeModel" "eager" "Z" ∈ uG) {v : Int32} (hv : gI σ 47 = v) (hd : decode cc pc = .ok (.getfield idx, 3))
    (k : W p l e R s m args below meth c H locs cells slots Q (F0 m (pc + 3) ls (.int v :: rest))) : W p l e R s m args below meth c H locs cells slots Q (F0 m pc ls (.ref (ad 0) :: rest)) := by
  subst hv
  obtain ⟨hx, hb, hml, hown, hu⟩ := S
  obtain ⟨hK, hP, hD, hS, hA⟩ := X
  exact va_get (D := (dC, dI)) (ci := 15) (v := .int (gI σ 47)) (C := RX12) (T := TX12) (N := 136) hx hb hu iuX12 hown hK hP 0 rfl rfl 115 (by decide) (hu _ hf) (fun _ h9 => h9) rfl hd k
theorem wmpI_47 {idx : Nat} {v : Int32} (S : CallFix p m c cc nL s args uG own) (X : gX (dC, dI) (tM kc) (wM ad kc) Z A s σ H locs) (hf : Cond.fieldLink own idx "LazyForgeModel" "eager" "Z" ∈ uG) (hn : v = 0 ∨ v = 1) (hd : decode cc pc = .ok (.putfield idx, 3))
    (k : ∀ (H : Heap) (locs : List Loc), gX (dC, dI) (tM kc) (wM ad kc) Z A s (pI σ 47 v) H locs → W p l e R s m args below meth c H locs cells slots Q (F0 m (pc + 3) ls (rest))) : W p l e R s m args below meth c H locs cells slots Q (F0 m pc ls (.int v :: .ref (ad 0) :: rest)) := by
  obtain ⟨hx, hb, hml, hown, hu⟩ := S
  obtain ⟨hK, hP, hD, hS, hA⟩ := X
  exact va_put (D := (dC, dI)) (ci := 15) (v := .int v) (ty := (tyX12 115)) (C := RX12) (T := TX12) (N := 136) hx hb hu iuX12 tyX12 tyX12_ok nmX12 hown hK hP hD hS 0 rfl rfl 115 (by decide) (hu _ hf) (fun _ h9 => h9) rfl (by decide +kernel) (by rcases hn with rfl | rfl <;> rfl) (by rcases hn with rfl | rfl <;> rfl) (Nat.le_of_ble_eq_true rfl) hd (fun H1 locs1 hP1 hD1 hS1 => k H1 locs1 ⟨hK, hP1, hD1, hS1, hA⟩)
theorem wmgI_48 {idx : Nat} (S : CallFix p m c cc nL s args uG own) (X : gX (dC, dI) (tM kc) (wM ad kc) Z A s σ H locs) (hf : Cond.fieldLink own idx "LazyForgeModel" "waiting" "I" ∈ uG) {v : Int32} (hv : gI σ 48 = v) (hd : decode cc pc = .ok (.getfield idx, 3))
    (k : W p l e R s m args below meth c H locs cells slots Q (F0 m (pc + 3) ls (.int v :: rest))) : W p l e R s m args below meth c H locs cells slots Q (F0 m pc ls (.ref (ad 0) :: rest)) := by
  subst hv
  obtain ⟨hx, hb, hml, hown, hu⟩ := S
  obtain ⟨hK, hP, hD, hS, hA⟩ := X
  exact va_get (D := (dC, dI)) (ci := 15) (v := .int (gI σ 48)) (C := RX12) (T := TX12) (N := 136) hx hb hu iuX12 hown hK hP 0 rfl rfl 116 (by decide) (hu _ hf) (fun _ h9 => h9) rfl hd k
theorem wmpI_48 {idx : Nat} {v : Int32} (S : CallFix p m c cc nL s args uG own) (X : gX (dC, dI) (tM kc) (wM ad kc) Z A s σ H locs) (hf : Cond.fieldLink own idx "LazyForgeModel" "waiting" "I" ∈ uG) (hd : decode cc pc = .ok (.putfield idx, 3))
    (k : ∀ (H : Heap) (locs : List Loc), gX (dC, dI) (tM kc) (wM ad kc) Z A s (pI σ 48 v) H locs → W p l e R s m args below meth c H locs cells slots Q (F0 m (pc + 3) ls (rest))) : W p l e R s m args below meth c H locs cells slots Q (F0 m pc ls (.int v :: .ref (ad 0) :: rest)) := by
  obtain ⟨hx, hb, hml, hown, hu⟩ := S
  obtain ⟨hK, hP, hD, hS, hA⟩ := X
  exact va_put (D := (dC, dI)) (ci := 15) (v := .int v) (ty := (tyX12 116)) (C := RX12) (T := TX12) (N := 136) hx hb hu iuX12 tyX12 tyX12_ok nmX12 hown hK hP hD hS 0 rfl rfl 116 (by decide) (hu _ hf) (fun _ h9 => h9) rfl (by decide +kernel) (rfl) (rfl) (Nat.le_of_ble_eq_true rfl) hd (fun H1 locs1 hP1 hD1 hS1 => k H1 locs1 ⟨hK, hP1, hD1, hS1, hA⟩)
theorem wmgR_0_117 {idx : Nat} (S : CallFix p m c cc nL s args uG own) (X : gX (dC, dI) (tM kc) (wM ad kc) Z A s σ H locs) (hf : Cond.fieldLink own idx "LazyForgeModel" "waitKinds" "[I" ∈ uG) (hd : decode cc pc = .ok (.getfield idx, 3))
    (k : W p l e R s m args below meth c H locs cells slots Q (F0 m (pc + 3) ls (.ref (ad 68) :: rest))) : W p l e R s m args below meth c H locs cells slots Q (F0 m pc ls (.ref (ad 0) :: rest)) := by
  obtain ⟨hx, hb, hml, hown, hu⟩ := S
  obtain ⟨hK, hP, hD, hS, hA⟩ := X
  exact va_get (D := (dC, dI)) (ci := 15) (v := .ref (ad 68)) (C := RX12) (T := TX12) (N := 136) hx hb hu iuX12 hown hK hP 0 rfl rfl 117 (by decide) (hu _ hf) (fun _ h9 => h9) rfl hd k
theorem wmgR_0_118 {idx : Nat} (S : CallFix p m c cc nL s args uG own) (X : gX (dC, dI) (tM kc) (wM ad kc) Z A s σ H locs) (hf : Cond.fieldLink own idx "LazyForgeModel" "waitBases" "[I" ∈ uG) (hd : decode cc pc = .ok (.getfield idx, 3))
    (k : W p l e R s m args below meth c H locs cells slots Q (F0 m (pc + 3) ls (.ref (ad 69) :: rest))) : W p l e R s m args below meth c H locs cells slots Q (F0 m pc ls (.ref (ad 0) :: rest)) := by
  obtain ⟨hx, hb, hml, hown, hu⟩ := S
  obtain ⟨hK, hP, hD, hS, hA⟩ := X
  exact va_get (D := (dC, dI)) (ci := 15) (v := .ref (ad 69)) (C := RX12) (T := TX12) (N := 136) hx hb hu iuX12 hown hK hP 0 rfl rfl 118 (by decide) (hu _ hf) (fun _ h9 => h9) rfl hd k
theorem wmgR_0_119 {idx : Nat} (S : CallFix p m c cc nL s args uG own) (X : gX (dC, dI) (tM kc) (wM ad kc) Z A s σ H locs) (hf : Cond.fieldLink own idx "LazyForgeModel" "waitMore" "[I" ∈ uG) (hd : decode cc pc = .ok (.getfield idx, 3))
    (k : W p l e R s m args below meth c H locs cells slots Q (F0 m (pc + 3) ls (.ref (ad 70) :: rest))) : W p l e R s m args below meth c H locs cells slots Q (F0 m pc ls (.ref (ad 0) :: rest)) := by
  obtain ⟨hx, hb, hml, hown, hu⟩ := S
  obtain ⟨hK, hP, hD, hS, hA⟩ := X
  exact va_get (D := (dC, dI)) (ci := 15) (v := .ref (ad 70)) (C := RX12) (T := TX12) (N := 136) hx hb hu iuX12 hown hK hP 0 rfl rfl 119 (by decide) (hu _ hf) (fun _ h9 => h9) rfl hd k
theorem wmgI_49 {idx : Nat} (S : CallFix p m c cc nL s args uG own) (X : gX (dC, dI) (tM kc) (wM ad kc) Z A s σ H locs) (hf : Cond.fieldLink own idx "LazyForgeModel" "top" "I" ∈ uG) {v : Int32} (hv : gI σ 49 = v) (hd : decode cc pc = .ok (.getfield idx, 3))
    (k : W p l e R s m args below meth c H locs cells slots Q (F0 m (pc + 3) ls (.int v :: rest))) : W p l e R s m args below meth c H locs cells slots Q (F0 m pc ls (.ref (ad 0) :: rest)) := by
  subst hv
  obtain ⟨hx, hb, hml, hown, hu⟩ := S
  obtain ⟨hK, hP, hD, hS, hA⟩ := X
  exact va_get (D := (dC, dI)) (ci := 15) (v := .int (gI σ 49)) (C := RX12) (T := TX12) (N := 136) hx hb hu iuX12 hown hK hP 0 rfl rfl 120 (by decide) (hu _ hf) (fun _ h9 => h9) rfl hd k
theorem wmpI_49 {idx : Nat} {v : Int32} (S : CallFix p m c cc nL s args uG own) (X : gX (dC, dI) (tM kc) (wM ad kc) Z A s σ H locs) (hf : Cond.fieldLink own idx "LazyForgeModel" "top" "I" ∈ uG) (hd : decode cc pc = .ok (.putfield idx, 3))
    (k : ∀ (H : Heap) (locs : List Loc), gX (dC, dI) (tM kc) (wM ad kc) Z A s (pI σ 49 v) H locs → W p l e R s m args below meth c H locs cells slots Q (F0 m (pc + 3) ls (rest))) : W p l e R s m args below meth c H locs cells slots Q (F0 m pc ls (.int v :: .ref (ad 0) :: rest)) := by
  obtain ⟨hx, hb, hml, hown, hu⟩ := S
  obtain ⟨hK, hP, hD, hS, hA⟩ := X
  exact va_put (D := (dC, dI)) (ci := 15) (v := .int v) (ty := (tyX12 120)) (C := RX12) (T := TX12) (N := 136) hx hb hu iuX12 tyX12 tyX12_ok nmX12 hown hK hP hD hS 0 rfl rfl 120 (by decide) (hu _ hf) (fun _ h9 => h9) rfl (by decide +kernel) (rfl) (rfl) (Nat.le_of_ble_eq_true rfl) hd (fun H1 locs1 hP1 hD1 hS1 => k H1 locs1 ⟨hK, hP1, hD1, hS1, hA⟩)
theorem wmgR_0_121 {idx : Nat} (S : CallFix p m c cc nL s args uG own) (X : gX (dC, dI) (tM kc) (wM ad kc) Z A s σ H locs) (hf : Cond.fieldLink own idx "LazyForgeModel" "stack" "[J" ∈ uG) (hd : decode cc pc = .ok (.getfield idx, 3))
    (k : W p l e R s m args below meth c H locs cells slots Q (F0 m (pc + 3) ls (.ref (ad 71) :: rest))) : W p l e R s m args below meth c H locs cells slots Q (F0 m pc ls (.ref (ad 0) :: rest)) := by
  obtain ⟨hx, hb, hml, hown, hu⟩ := S
  obtain ⟨hK, hP, hD, hS, hA⟩ := X
  exact va_get (D := (dC, dI)) (ci := 15) (v := .ref (ad 71)) (C := RX12) (T := TX12) (N := 136) hx hb hu iuX12 hown hK hP 0 rfl rfl 121 (by decide) (hu _ hf) (fun _ h9 => h9) rfl hd k
theorem wmgI_50 {idx : Nat} (S : CallFix p m c cc nL s args uG own) (X : gX (dC, dI) (tM kc) (wM ad kc) Z A s σ H locs) (hf : Cond.fieldLink own idx "LazyForgeModel" "base" "I" ∈ uG) {v : Int32} (hv : gI σ 50 = v) (hd : decode cc pc = .ok (.getfield idx, 3))
    (k : W p l e R s m args below meth c H locs cells slots Q (F0 m (pc + 3) ls (.int v :: rest))) : W p l e R s m args below meth c H locs cells slots Q (F0 m pc ls (.ref (ad 0) :: rest)) := by
  subst hv
  obtain ⟨hx, hb, hml, hown, hu⟩ := S
  obtain ⟨hK, hP, hD, hS, hA⟩ := X
  exact va_get (D := (dC, dI)) (ci := 15) (v := .int (gI σ 50)) (C := RX12) (T := TX12) (N := 136) hx hb hu iuX12 hown hK hP 0 rfl rfl 122 (by decide) (hu _ hf) (fun _ h9 => h9) rfl hd k
theorem wmpI_50 {idx : Nat} {v : Int32} (S : CallFix p m c cc nL s args uG own) (X : gX (dC, dI) (tM kc) (wM ad kc) Z A s σ H locs) (hf : Cond.fieldLink own idx "LazyForgeModel" "base" "I" ∈ uG) (hd : decode cc pc = .ok (.putfield idx, 3))
    (k : ∀ (H : Heap) (locs : List Loc), gX (dC, dI) (tM kc) (wM ad kc) Z A s (pI σ 50 v) H locs → W p l e R s m args below meth c H locs cells slots Q (F0 m (pc + 3) ls (rest))) : W p l e R s m args below meth c H locs cells slots Q (F0 m pc ls (.int v :: .ref (ad 0) :: rest)) := by
  obtain ⟨hx, hb, hml, hown, hu⟩ := S
  obtain ⟨hK, hP, hD, hS, hA⟩ := X
  exact va_put (D := (dC, dI)) (ci := 15) (v := .int v) (ty := (tyX12 122)) (C := RX12) (T := TX12) (N := 136) hx hb hu iuX12 tyX12 tyX12_ok nmX12 hown hK hP hD hS 0 rfl rfl 122 (by decide) (hu _ hf) (fun _ h9 => h9) rfl (by decide +kernel) (rfl) (rfl) (Nat.le_of_ble_eq_true rfl) hd (fun H1 locs1 hP1 hD1 hS1 => k H1 locs1 ⟨hK, hP1, hD1, hS1, hA⟩)
theorem wmgI_51 {idx : Nat} (S : CallFix p m c cc nL s args uG own) (X : gX (dC, dI) (tM kc) (wM ad kc) Z A s σ H locs) (hf : Cond.fieldLink own idx "LazyForgeModel" "localTop" "I" ∈ uG) {v : Int32} (hv : gI σ 51 = v) (hd : decode cc pc = .ok (.getfield idx, 3))
    (k : W p l e R s m args below meth c H locs cells slots Q (F0 m (pc + 3) ls (.int v :: rest))) : W p l e R s m args below meth c H locs cells slots Q (F0 m pc ls (.ref (ad 0) :: rest)) := by
  subst hv
  obtain ⟨hx, hb, hml, hown, hu⟩ := S
  obtain ⟨hK, hP, hD, hS, hA⟩ := X
  exact va_get (D := (dC, dI)) (ci := 15) (v := .int (gI σ 51)) (C := RX12) (T := TX12) (N := 136) hx hb hu iuX12 hown hK hP 0 rfl rfl 123 (by decide) (hu _ hf) (fun _ h9 => h9) rfl hd k
theorem wmpI_51 {idx : Nat} {v : Int32} (S : CallFix p m c cc nL s args uG own) (X : gX (dC, dI) (tM kc) (wM ad kc) Z A s σ H locs) (hf : Cond.fieldLink own idx "LazyForgeModel" "localTop" "I" ∈ uG) (hd : decode cc pc = .ok (.putfield idx, 3))
    (k : ∀ (H : Heap) (locs : List Loc), gX (dC, dI) (tM kc) (wM ad kc) Z A s (pI σ 51 v) H locs → W p l e R s m args below meth c H locs cells slots Q (F0 m (pc + 3) ls (rest))) : W p l e R s m args below meth c H locs cells slots Q (F0 m pc ls (.int v :: .ref (ad 0) :: rest)) := by
  obtain ⟨hx, hb, hml, hown, hu⟩ := S
  obtain ⟨hK, hP, hD, hS, hA⟩ := X
  exact va_put (D := (dC, dI)) (ci := 15) (v := .int v) (ty := (tyX12 123)) (C := RX12) (T := TX12) (N := 136) hx hb hu iuX12 tyX12 tyX12_ok nmX12 hown hK hP hD hS 0 rfl rfl 123 (by decide) (hu _ hf) (fun _ h9 => h9) rfl (by decide +kernel) (rfl) (rfl) (Nat.le_of_ble_eq_true rfl) hd (fun H1 locs1 hP1 hD1 hS1 => k H1 locs1 ⟨hK, hP1, hD1, hS1, hA⟩)
theorem wmgR_0_124 {idx : Nat} (S : CallFix p m c cc nL s args uG own) (X : gX (dC, dI) (tM kc) (wM ad kc) Z A s σ H locs) (hf : Cond.fieldLink own idx "LazyForgeModel" "locals" "[J" ∈ uG) (hd : decode cc pc = .ok (.getfield idx, 3))
    (k : W p l e R s m args below meth c H locs cells slots Q (F0 m (pc + 3) ls (.ref (ad 72) :: rest))) : W p l e R s m args below meth c H locs cells slots Q (F0 m pc ls (.ref (ad 0) :: rest)) := by
  obtain ⟨hx, hb, hml, hown, hu⟩ := S
  obtain ⟨hK, hP, hD, hS, hA⟩ := X
  exact va_get (D := (dC, dI)) (ci := 15) (v := .ref (ad 72)) (C := RX12) (T := TX12) (N := 136) hx hb hu iuX12 hown hK hP 0 rfl rfl 124 (by decide) (hu _ hf) (fun _ h9 => h9) rfl hd k
theorem wmgI_52 {idx : Nat} (S : CallFix p m c cc nL s args uG own) (X : gX (dC, dI) (tM kc) (wM ad kc) Z A s σ H locs) (hf : Cond.fieldLink own idx "LazyForgeModel" "current" "I" ∈ uG) {v : Int32} (hv : gI σ 52 = v) (hd : decode cc pc = .ok (.getfield idx, 3))
    (k : W p l e R s m args below meth c H locs cells slots Q (F0 m (pc + 3) ls (.int v :: rest))) : W p l e R s m args below meth c H locs cells slots Q (F0 m pc ls (.ref (ad 0) :: rest)) := by
  subst hv
  obtain ⟨hx, hb, hml, hown, hu⟩ := S
  obtain ⟨hK, hP, hD, hS, hA⟩ := X
  exact va_get (D := (dC, dI)) (ci := 15) (v := .int (gI σ 52)) (C := RX12) (T := TX12) (N := 136) hx hb hu iuX12 hown hK hP 0 rfl rfl 125 (by decide) (hu _ hf) (fun _ h9 => h9) rfl hd k
theorem wmpI_52 {idx : Nat} {v : Int32} (S : CallFix p m c cc nL s args uG own) (X : gX (dC, dI) (tM kc) (wM ad kc) Z A s σ H locs) (hf : Cond.fieldLink own idx "LazyForgeModel" "current" "I" ∈ uG) (hd : decode cc pc = .ok (.putfield idx, 3))
    (k : ∀ (H : Heap) (locs : List Loc), gX (dC, dI) (tM kc) (wM ad kc) Z A s (pI σ 52 v) H locs → W p l e R s m args below meth c H locs cells slots Q (F0 m (pc + 3) ls (rest))) : W p l e R s m args below meth c H locs cells slots Q (F0 m pc ls (.int v :: .ref (ad 0) :: rest)) := by
  obtain ⟨hx, hb, hml, hown, hu⟩ := S
  obtain ⟨hK, hP, hD, hS, hA⟩ := X
  exact va_put (D := (dC, dI)) (ci := 15) (v := .int v) (ty := (tyX12 125)) (C := RX12) (T := TX12) (N := 136) hx hb hu iuX12 tyX12 tyX12_ok nmX12 hown hK hP hD hS 0 rfl rfl 125 (by decide) (hu _ hf) (fun _ h9 => h9) rfl (by decide +kernel) (rfl) (rfl) (Nat.le_of_ble_eq_true rfl) hd (fun H1 locs1 hP1 hD1 hS1 => k H1 locs1 ⟨hK, hP1, hD1, hS1, hA⟩)
theorem wmgI_53 {idx : Nat} (S : CallFix p m c cc nL s args uG own) (X : gX (dC, dI) (tM kc) (wM ad kc) Z A s σ H locs) (hf : Cond.fieldLink own idx "LazyForgeModel" "has0" "Z" ∈ uG) {v : Int32} (hv : gI σ 53 = v) (hd : decode cc pc = .ok (.getfield idx, 3))
    (k : W p l e R s m args below meth c H locs cells slots Q (F0 m (pc + 3) ls (.int v :: rest))) : W p l e R s m args below meth c H locs cells slots Q (F0 m pc ls (.ref (ad 0) :: rest)) := by
  subst hv
  obtain ⟨hx, hb, hml, hown, hu⟩ := S
  obtain ⟨hK, hP, hD, hS, hA⟩ := X
  exact va_get (D := (dC, dI)) (ci := 15) (v := .int (gI σ 53)) (C := RX12) (T := TX12) (N := 136) hx hb hu iuX12 hown hK hP 0 rfl rfl 126 (by decide) (hu _ hf) (fun _ h9 => h9) rfl hd k
theorem wmpI_53 {idx : Nat} {v : Int32} (S : CallFix p m c cc nL s args uG own) (X : gX (dC, dI) (tM kc) (wM ad kc) Z A s σ H locs) (hf : Cond.fieldLink own idx "LazyForgeModel" "has0" "Z" ∈ uG) (hn : v = 0 ∨ v = 1) (hd : decode cc pc = .ok (.putfield idx, 3))
    (k : ∀ (H : Heap) (locs : List Loc), gX (dC, dI) (tM kc) (wM ad kc) Z A s (pI σ 53 v) H locs → W p l e R s m args below meth c H locs cells slots Q (F0 m (pc + 3) ls (rest))) : W p l e R s m args below meth c H locs cells slots Q (F0 m pc ls (.int v :: .ref (ad 0) :: rest)) := by
  obtain ⟨hx, hb, hml, hown, hu⟩ := S
  obtain ⟨hK, hP, hD, hS, hA⟩ := X
  exact va_put (D := (dC, dI)) (ci := 15) (v := .int v) (ty := (tyX12 126)) (C := RX12) (T := TX12) (N := 136) hx hb hu iuX12 tyX12 tyX12_ok nmX12 hown hK hP hD hS 0 rfl rfl 126 (by decide) (hu _ hf) (fun _ h9 => h9) rfl (by decide +kernel) (by rcases hn with rfl | rfl <;> rfl) (by rcases hn with rfl | rfl <;> rfl) (Nat.le_of_ble_eq_true rfl) hd (fun H1 locs1 hP1 hD1 hS1 => k H1 locs1 ⟨hK, hP1, hD1, hS1, hA⟩)
theorem wmgJ_1 {idx : Nat} (S : CallFix p m c cc nL s args uG own) (X : gX (dC, dI) (tM kc) (wM ad kc) Z A s σ H locs) (hf : Cond.fieldLink own idx "LazyForgeModel" "result" "J" ∈ uG) {v : Int64} (hv : gJ σ 1 = v) (hd : decode cc pc = .ok (.getfield idx, 3))
    (k : W p l e R s m args below meth c H locs cells slots Q (F0 m (pc + 3) ls (.long v :: rest))) : W p l e R s m args below meth c H locs cells slots Q (F0 m pc ls (.ref (ad 0) :: rest)) := by
  subst hv
  obtain ⟨hx, hb, hml, hown, hu⟩ := S
  obtain ⟨hK, hP, hD, hS, hA⟩ := X
  exact va_get (D := (dC, dI)) (ci := 15) (v := .long (gJ σ 1)) (C := RX12) (T := TX12) (N := 136) hx hb hu iuX12 hown hK hP 0 rfl rfl 127 (by decide) (hu _ hf) (fun _ h9 => h9) rfl hd k
theorem wmpJ_1 {idx : Nat} {v : Int64} (S : CallFix p m c cc nL s args uG own) (X : gX (dC, dI) (tM kc) (wM ad kc) Z A s σ H locs) (hf : Cond.fieldLink own idx "LazyForgeModel" "result" "J" ∈ uG) (hd : decode cc pc = .ok (.putfield idx, 3))
    (k : ∀ (H : Heap) (locs : List Loc), gX (dC, dI) (tM kc) (wM ad kc) Z A s (pJ σ 1 v) H locs → W p l e R s m args below meth c H locs cells slots Q (F0 m (pc + 3) ls (rest))) : W p l e R s m args below meth c H locs cells slots Q (F0 m pc ls (.long v :: .ref (ad 0) :: rest)) := by
  obtain ⟨hx, hb, hml, hown, hu⟩ := S
  obtain ⟨hK, hP, hD, hS, hA⟩ := X
  exact va_put (D := (dC, dI)) (ci := 15) (v := .long v) (ty := (tyX12 127)) (C := RX12) (T := TX12) (N := 136) hx hb hu iuX12 tyX12 tyX12_ok nmX12 hown hK hP hD hS 0 rfl rfl 127 (by decide) (hu _ hf) (fun _ h9 => h9) rfl (by decide +kernel) (rfl) (rfl) (Nat.le_of_ble_eq_true rfl) hd (fun H1 locs1 hP1 hD1 hS1 => k H1 locs1 ⟨hK, hP1, hD1, hS1, hA⟩)
theorem wmgI_54 {idx : Nat} (S : CallFix p m c cc nL s args uG own) (X : gX (dC, dI) (tM kc) (wM ad kc) Z A s σ H locs) (hf : Cond.fieldLink own idx "LazyForgeModel" "tasks" "I" ∈ uG) {v : Int32} (hv : gI σ 54 = v) (hd : decode cc pc = .ok (.getfield idx, 3))
    (k : W p l e R s m args below meth c H locs cells slots Q (F0 m (pc + 3) ls (.int v :: rest))) : W p l e R s m args below meth c H locs cells slots Q (F0 m pc ls (.ref (ad 0) :: rest)) := by
  subst hv
  obtain ⟨hx, hb, hml, hown, hu⟩ := S
  obtain ⟨hK, hP, hD, hS, hA⟩ := X
  exact va_get (D := (dC, dI)) (ci := 15) (v := .int (gI σ 54)) (C := RX12) (T := TX12) (N := 136) hx hb hu iuX12 hown hK hP 0 rfl rfl 128 (by decide) (hu _ hf) (fun _ h9 => h9) rfl hd k
theorem wmpI_54 {idx : Nat} {v : Int32} (S : CallFix p m c cc nL s args uG own) (X : gX (dC, dI) (tM kc) (wM ad kc) Z A s σ H locs) (hf : Cond.fieldLink own idx "LazyForgeModel" "tasks" "I" ∈ uG) (hd : decode cc pc = .ok (.putfield idx, 3))
    (k : ∀ (H : Heap) (locs : List Loc), gX (dC, dI) (tM kc) (wM ad kc) Z A s (pI σ 54 v) H locs → W p l e R s m args below meth c H locs cells slots Q (F0 m (pc + 3) ls (rest))) : W p l e R s m args below meth c H locs cells slots Q (F0 m pc ls (.int v :: .ref (ad 0) :: rest)) := by
  obtain ⟨hx, hb, hml, hown, hu⟩ := S
  obtain ⟨hK, hP, hD, hS, hA⟩ := X
  exact va_put (D := (dC, dI)) (ci := 15) (v := .int v) (ty := (tyX12 128)) (C := RX12) (T := TX12) (N := 136) hx hb hu iuX12 tyX12 tyX12_ok nmX12 hown hK hP hD hS 0 rfl rfl 128 (by decide) (hu _ hf) (fun _ h9 => h9) rfl (by decide +kernel) (rfl) (rfl) (Nat.le_of_ble_eq_true rfl) hd (fun H1 locs1 hP1 hD1 hS1 => k H1 locs1 ⟨hK, hP1, hD1, hS1, hA⟩)
theorem wmgR_0_129 {idx : Nat} (S : CallFix p m c cc nL s args uG own) (X : gX (dC, dI) (tM kc) (wM ad kc) Z A s σ H locs) (hf : Cond.fieldLink own idx "LazyForgeModel" "taskParts" "[I" ∈ uG) (hd : decode cc pc = .ok (.getfield idx, 3))
    (k : W p l e R s m args below meth c H locs cells slots Q (F0 m (pc + 3) ls (.ref (ad 73) :: rest))) : W p l e R s m args below meth c H locs cells slots Q (F0 m pc ls (.ref (ad 0) :: rest)) := by
  obtain ⟨hx, hb, hml, hown, hu⟩ := S
  obtain ⟨hK, hP, hD, hS, hA⟩ := X
  exact va_get (D := (dC, dI)) (ci := 15) (v := .ref (ad 73)) (C := RX12) (T := TX12) (N := 136) hx hb hu iuX12 hown hK hP 0 rfl rfl 129 (by decide) (hu _ hf) (fun _ h9 => h9) rfl hd k
theorem wmgR_0_130 {idx : Nat} (S : CallFix p m c cc nL s args uG own) (X : gX (dC, dI) (tM kc) (wM ad kc) Z A s σ H locs) (hf : Cond.fieldLink own idx "LazyForgeModel" "taskPlaces" "[I" ∈ uG) (hd : decode cc pc = .ok (.getfield idx, 3))
    (k : W p l e R s m args below meth c H locs cells slots Q (F0 m (pc + 3) ls (.ref (ad 74) :: rest))) : W p l e R s m args below meth c H locs cells slots Q (F0 m pc ls (.ref (ad 0) :: rest)) := by
  obtain ⟨hx, hb, hml, hown, hu⟩ := S
  obtain ⟨hK, hP, hD, hS, hA⟩ := X
  exact va_get (D := (dC, dI)) (ci := 15) (v := .ref (ad 74)) (C := RX12) (T := TX12) (N := 136) hx hb hu iuX12 hown hK hP 0 rfl rfl 130 (by decide) (hu _ hf) (fun _ h9 => h9) rfl hd k
theorem wmgR_0_131 {idx : Nat} (S : CallFix p m c cc nL s args uG own) (X : gX (dC, dI) (tM kc) (wM ad kc) Z A s σ H locs) (hf : Cond.fieldLink own idx "LazyForgeModel" "functionCells" "[I" ∈ uG) (hd : decode cc pc = .ok (.getfield idx, 3))
    (k : W p l e R s m args below meth c H locs cells slots Q (F0 m (pc + 3) ls (.ref (ad 75) :: rest))) : W p l e R s m args below meth c H locs cells slots Q (F0 m pc ls (.ref (ad 0) :: rest)) := by
  obtain ⟨hx, hb, hml, hown, hu⟩ := S
  obtain ⟨hK, hP, hD, hS, hA⟩ := X
  exact va_get (D := (dC, dI)) (ci := 15) (v := .ref (ad 75)) (C := RX12) (T := TX12) (N := 136) hx hb hu iuX12 hown hK hP 0 rfl rfl 131 (by decide) (hu _ hf) (fun _ h9 => h9) rfl hd k
theorem wmgI_55 {idx : Nat} (S : CallFix p m c cc nL s args uG own) (X : gX (dC, dI) (tM kc) (wM ad kc) Z A s σ H locs) (hf : Cond.fieldLink own idx "LazyForgeModel" "pending" "I" ∈ uG) {v : Int32} (hv : gI σ 55 = v) (hd : decode cc pc = .ok (.getfield idx, 3))
    (k : W p l e R s m args below meth c H locs cells slots Q (F0 m (pc + 3) ls (.int v :: rest))) : W p l e R s m args below meth c H locs cells slots Q (F0 m pc ls (.ref (ad 0) :: rest)) := by
  subst hv
  obtain ⟨hx, hb, hml, hown, hu⟩ := S
  obtain ⟨hK, hP, hD, hS, hA⟩ := X
  exact va_get (D := (dC, dI)) (ci := 15) (v := .int (gI σ 55)) (C := RX12) (T := TX12) (N := 136) hx hb hu iuX12 hown hK hP 0 rfl rfl 132 (by decide) (hu _ hf) (fun _ h9 => h9) rfl hd k
theorem wmpI_55 {idx : Nat} {v : Int32} (S : CallFix p m c cc nL s args uG own) (X : gX (dC, dI) (tM kc) (wM ad kc) Z A s σ H locs) (hf : Cond.fieldLink own idx "LazyForgeModel" "pending" "I" ∈ uG) (hd : decode cc pc = .ok (.putfield idx, 3))
    (k : ∀ (H : Heap) (locs : List Loc), gX (dC, dI) (tM kc) (wM ad kc) Z A s (pI σ 55 v) H locs → W p l e R s m args below meth c H locs cells slots Q (F0 m (pc + 3) ls (rest))) : W p l e R s m args below meth c H locs cells slots Q (F0 m pc ls (.int v :: .ref (ad 0) :: rest)) := by
  obtain ⟨hx, hb, hml, hown, hu⟩ := S
  obtain ⟨hK, hP, hD, hS, hA⟩ := X
  exact va_put (D := (dC, dI)) (ci := 15) (v := .int v) (ty := (tyX12 132)) (C := RX12) (T := TX12) (N := 136) hx hb hu iuX12 tyX12 tyX12_ok nmX12 hown hK hP hD hS 0 rfl rfl 132 (by decide) (hu _ hf) (fun _ h9 => h9) rfl (by decide +kernel) (rfl) (rfl) (Nat.le_of_ble_eq_true rfl) hd (fun H1 locs1 hP1 hD1 hS1 => k H1 locs1 ⟨hK, hP1, hD1, hS1, hA⟩)
theorem wmgR_0_133 {idx : Nat} (S : CallFix p m c cc nL s args uG own) (X : gX (dC, dI) (tM kc) (wM ad kc) Z A s σ H locs) (hf : Cond.fieldLink own idx "LazyForgeModel" "pendings" "[J" ∈ uG) (hd : decode cc pc = .ok (.getfield idx, 3))
    (k : W p l e R s m args below meth c H locs cells slots Q (F0 m (pc + 3) ls (.ref (ad 76) :: rest))) : W p l e R s m args below meth c H locs cells slots Q (F0 m pc ls (.ref (ad 0) :: rest)) := by
  obtain ⟨hx, hb, hml, hown, hu⟩ := S
  obtain ⟨hK, hP, hD, hS, hA⟩ := X
  exact va_get (D := (dC, dI)) (ci := 15) (v := .ref (ad 76)) (C := RX12) (T := TX12) (N := 136) hx hb hu iuX12 hown hK hP 0 rfl rfl 133 (by decide) (hu _ hf) (fun _ h9 => h9) rfl hd k
theorem wmgI_56 {idx : Nat} (S : CallFix p m c cc nL s args uG own) (X : gX (dC, dI) (tM kc) (wM ad kc) Z A s σ H locs) (hf : Cond.fieldLink own idx "LazyForgeModel" "drafted" "I" ∈ uG) {v : Int32} (hv : gI σ 56 = v) (hd : decode cc pc = .ok (.getfield idx, 3))
    (k : W p l e R s m args below meth c H locs cells slots Q (F0 m (pc + 3) ls (.int v :: rest))) : W p l e R s m args below meth c H locs cells slots Q (F0 m pc ls (.ref (ad 0) :: rest)) := by
  subst hv
  obtain ⟨hx, hb, hml, hown, hu⟩ := S
  obtain ⟨hK, hP, hD, hS, hA⟩ := X
  exact va_get (D := (dC, dI)) (ci := 15) (v := .int (gI σ 56)) (C := RX12) (T := TX12) (N := 136) hx hb hu iuX12 hown hK hP 0 rfl rfl 134 (by decide) (hu _ hf) (fun _ h9 => h9) rfl hd k
theorem wmpI_56 {idx : Nat} {v : Int32} (S : CallFix p m c cc nL s args uG own) (X : gX (dC, dI) (tM kc) (wM ad kc) Z A s σ H locs) (hf : Cond.fieldLink own idx "LazyForgeModel" "drafted" "I" ∈ uG) (hd : decode cc pc = .ok (.putfield idx, 3))
    (k : ∀ (H : Heap) (locs : List Loc), gX (dC, dI) (tM kc) (wM ad kc) Z A s (pI σ 56 v) H locs → W p l e R s m args below meth c H locs cells slots Q (F0 m (pc + 3) ls (rest))) : W p l e R s m args below meth c H locs cells slots Q (F0 m pc ls (.int v :: .ref (ad 0) :: rest)) := by
  obtain ⟨hx, hb, hml, hown, hu⟩ := S
  obtain ⟨hK, hP, hD, hS, hA⟩ := X
  exact va_put (D := (dC, dI)) (ci := 15) (v := .int v) (ty := (tyX12 134)) (C := RX12) (T := TX12) (N := 136) hx hb hu iuX12 tyX12 tyX12_ok nmX12 hown hK hP hD hS 0 rfl rfl 134 (by decide) (hu _ hf) (fun _ h9 => h9) rfl (by decide +kernel) (rfl) (rfl) (Nat.le_of_ble_eq_true rfl) hd (fun H1 locs1 hP1 hD1 hS1 => k H1 locs1 ⟨hK, hP1, hD1, hS1, hA⟩)
theorem wmgR_0_135 {idx : Nat} (S : CallFix p m c cc nL s args uG own) (X : gX (dC, dI) (tM kc) (wM ad kc) Z A s σ H locs) (hf : Cond.fieldLink own idx "LazyForgeModel" "draft" "[I" ∈ uG) (hd : decode cc pc = .ok (.getfield idx, 3))
    (k : W p l e R s m args below meth c H locs cells slots Q (F0 m (pc + 3) ls (.ref (ad 77) :: rest))) : W p l e R s m args below meth c H locs cells slots Q (F0 m pc ls (.ref (ad 0) :: rest)) := by
  obtain ⟨hx, hb, hml, hown, hu⟩ := S
  obtain ⟨hK, hP, hD, hS, hA⟩ := X
  exact va_get (D := (dC, dI)) (ci := 15) (v := .ref (ad 77)) (C := RX12) (T := TX12) (N := 136) hx hb hu iuX12 hown hK hP 0 rfl rfl 135 (by decide) (hu _ hf) (fun _ h9 => h9) rfl hd k
theorem wmlA_0 {i : Int32} {v : Int32} (S : CallFix p m c cc nL s args uG own) (X : gX (dC, dI) (tM kc) (wM ad kc) Z A s σ H locs) (hi : vp_in i 3000) (hv : xA σ 0 i = v) (hd : decode cc pc = .ok (.iaload, 1))
    (k : W p l e R s m args below meth c H locs cells slots Q (F0 m (pc + 1) ls (.int v :: rest))) : W p l e R s m args below meth c H locs cells slots Q (F0 m pc ls (.int i :: .ref (ad 1) :: rest)) := by
  subst hv
  obtain ⟨hx, hb, hml, hown, hu⟩ := S
  obtain ⟨hK, hP, hD, hS, hA⟩ := X
  exact va_iald hx hb hK hP 1 0 rfl rfl hi hd k
theorem wmsA_0 {i : Int32} {v : Int32} (S : CallFix p m c cc nL s args uG own) (X : gX (dC, dI) (tM kc) (wM ad kc) Z A s σ H locs) (hi : vp_in i 3000) (hd : decode cc pc = .ok (.iastore, 1))
    (k : ∀ (H : Heap) (locs : List Loc), gX (dC, dI) (tM kc) (wM ad kc) Z A s (pA σ 0 i v) H locs → W p l e R s m args below meth c H locs cells slots Q (F0 m (pc + 1) ls (rest))) : W p l e R s m args below meth c H locs cells slots Q (F0 m pc ls (.int v :: .int i :: .ref (ad 1) :: rest)) := by
  obtain ⟨hx, hb, hml, hown, hu⟩ := S
  obtain ⟨hK, hP, hD, hS, hA⟩ := X
  exact va_iast hx hb hK hP hD hS 1 0 rfl rfl hi hd (fun H1 locs1 hP1 hD1 hS1 => k H1 locs1 ⟨hK, hP1, hD1, hS1, hA⟩)
theorem wmnA_0 (S : CallFix p m c cc nL s args uG own) (X : gX (dC, dI) (tM kc) (wM ad kc) Z A s σ H locs) (hd : decode cc pc = .ok (.arraylength, 1))
    (k : W p l e R s m args below meth c H locs cells slots Q (F0 m (pc + 1) ls (.int 3000 :: rest))) : W p l e R s m args below meth c H locs cells slots Q (F0 m pc ls (.ref (ad 1) :: rest)) := by
  obtain ⟨hx, hb, hml, hown, hu⟩ := S
  obtain ⟨hK, hP, hD, hS, hA⟩ := X
  exact va_alen (v := 3000) hx hb hK hP 1 0 rfl rfl (show Int32.ofNat 3000 = 3000 by decide) hd k
theorem wmlA_1 {i : Int32} {v : Int32} (S : CallFix p m c cc nL s args uG own) (X : gX (dC, dI) (tM kc) (wM ad kc) Z A s σ H locs) (hi : vp_in i 12000) (hv : xA σ 1 i = v) (hd : decode cc pc = .ok (.iaload, 1))
    (k : W p l e R s m args below meth c H locs cells slots Q (F0 m (pc + 1) ls (.int v :: rest))) : W p l e R s m args below meth c H locs cells slots Q (F0 m pc ls (.int i :: .ref (ad 2) :: rest)) := by
  subst hv
  obtain ⟨hx, hb, hml, hown, hu⟩ := S
  obtain ⟨hK, hP, hD, hS, hA⟩ := X
  exact va_iald hx hb hK hP 2 1 rfl rfl hi hd k
theorem wmsA_1 {i : Int32} {v : Int32} (S : CallFix p m c cc nL s args uG own) (X : gX (dC, dI) (tM kc) (wM ad kc) Z A s σ H locs) (hi : vp_in i 12000) (hd : decode cc pc = .ok (.iastore, 1))
    (k : ∀ (H : Heap) (locs : List Loc), gX (dC, dI) (tM kc) (wM ad kc) Z A s (pA σ 1 i v) H locs → W p l e R s m args below meth c H locs cells slots Q (F0 m (pc + 1) ls (rest))) : W p l e R s m args below meth c H locs cells slots Q (F0 m pc ls (.int v :: .int i :: .ref (ad 2) :: rest)) := by
  obtain ⟨hx, hb, hml, hown, hu⟩ := S
  obtain ⟨hK, hP, hD, hS, hA⟩ := X
  exact va_iast hx hb hK hP hD hS 2 1 rfl rfl hi hd (fun H1 locs1 hP1 hD1 hS1 => k H1 locs1 ⟨hK, hP1, hD1, hS1, hA⟩)
theorem wmnA_1 (S : CallFix p m c cc nL s args uG own) (X : gX (dC, dI) (tM kc) (wM ad kc) Z A s σ H locs) (hd : decode cc pc = .ok (.arraylength, 1))
    (k : W p l e R s m args below meth c H locs cells slots Q (F0 m (pc + 1) ls (.int 12000 :: rest))) : W p l e R s m args below meth c H locs cells slots Q (F0 m pc ls (.ref (ad 2) :: rest)) := by
  obtain ⟨hx, hb, hml, hown, hu⟩ := S
  obtain ⟨hK, hP, hD, hS, hA⟩ := X
  exact va_alen (v := 12000) hx hb hK hP 2 1 rfl rfl (show Int32.ofNat 12000 = 12000 by decide) hd k
theorem wmlA_2 {i : Int32} {v : Int32} (S : CallFix p m c cc nL s args uG own) (X : gX (dC, dI) (tM kc) (wM ad kc) Z A s σ H locs) (hi : vp_in i 3200) (hv : xA σ 2 i = v) (hd : decode cc pc = .ok (.iaload, 1))
    (k : W p l e R s m args below meth c H locs cells slots Q (F0 m (pc + 1) ls (.int v :: rest))) : W p l e R s m args below meth c H locs cells slots Q (F0 m pc ls (.int i :: .ref (ad 3) :: rest)) := by
  subst hv
  obtain ⟨hx, hb, hml, hown, hu⟩ := S
  obtain ⟨hK, hP, hD, hS, hA⟩ := X
  exact va_iald hx hb hK hP 3 2 rfl rfl hi hd k
theorem wmsA_2 {i : Int32} {v : Int32} (S : CallFix p m c cc nL s args uG own) (X : gX (dC, dI) (tM kc) (wM ad kc) Z A s σ H locs) (hi : vp_in i 3200) (hd : decode cc pc = .ok (.iastore, 1))
    (k : ∀ (H : Heap) (locs : List Loc), gX (dC, dI) (tM kc) (wM ad kc) Z A s (pA σ 2 i v) H locs → W p l e R s m args below meth c H locs cells slots Q (F0 m (pc + 1) ls (rest))) : W p l e R s m args below meth c H locs cells slots Q (F0 m pc ls (.int v :: .int i :: .ref (ad 3) :: rest)) := by
  obtain ⟨hx, hb, hml, hown, hu⟩ := S
  obtain ⟨hK, hP, hD, hS, hA⟩ := X
  exact va_iast hx hb hK hP hD hS 3 2 rfl rfl hi hd (fun H1 locs1 hP1 hD1 hS1 => k H1 locs1 ⟨hK, hP1, hD1, hS1, hA⟩)
theorem wmnA_2 (S : CallFix p m c cc nL s args uG own) (X : gX (dC, dI) (tM kc) (wM ad kc) Z A s σ H locs) (hd : decode cc pc = .ok (.arraylength, 1))
    (k : W p l e R s m args below meth c H locs cells slots Q (F0 m (pc + 1) ls (.int 3200 :: rest))) : W p l e R s m args below meth c H locs cells slots Q (F0 m pc ls (.ref (ad 3) :: rest)) := by
  obtain ⟨hx, hb, hml, hown, hu⟩ := S
  obtain ⟨hK, hP, hD, hS, hA⟩ := X
  exact va_alen (v := 3200) hx hb hK hP 3 2 rfl rfl (show Int32.ofNat 3200 = 3200 by decide) hd k
theorem wmlA_3 {i : Int32} {v : Int32} (S : CallFix p m c cc nL s args uG own) (X : gX (dC, dI) (tM kc) (wM ad kc) Z A s σ H locs) (hi : vp_in i 3200) (hv : xA σ 3 i = v) (hd : decode cc pc = .ok (.iaload, 1))
    (k : W p l e R s m args below meth c H locs cells slots Q (F0 m (pc + 1) ls (.int v :: rest))) : W p l e R s m args below meth c H locs cells slots Q (F0 m pc ls (.int i :: .ref (ad 4) :: rest)) := by
  subst hv
  obtain ⟨hx, hb, hml, hown, hu⟩ := S
  obtain ⟨hK, hP, hD, hS, hA⟩ := X
  exact va_iald hx hb hK hP 4 3 rfl rfl hi hd k
theorem wmsA_3 {i : Int32} {v : Int32} (S : CallFix p m c cc nL s args uG own) (X : gX (dC, dI) (tM kc) (wM ad kc) Z A s σ H locs) (hi : vp_in i 3200) (hd : decode cc pc = .ok (.iastore, 1))
    (k : ∀ (H : Heap) (locs : List Loc), gX (dC, dI) (tM kc) (wM ad kc) Z A s (pA σ 3 i v) H locs → W p l e R s m args below meth c H locs cells slots Q (F0 m (pc + 1) ls (rest))) : W p l e R s m args below meth c H locs cells slots Q (F0 m pc ls (.int v :: .int i :: .ref (ad 4) :: rest)) := by
  obtain ⟨hx, hb, hml, hown, hu⟩ := S
  obtain ⟨hK, hP, hD, hS, hA⟩ := X
  exact va_iast hx hb hK hP hD hS 4 3 rfl rfl hi hd (fun H1 locs1 hP1 hD1 hS1 => k H1 locs1 ⟨hK, hP1, hD1, hS1, hA⟩)
theorem wmnA_3 (S : CallFix p m c cc nL s args uG own) (X : gX (dC, dI) (tM kc) (wM ad kc) Z A s σ H locs) (hd : decode cc pc = .ok (.arraylength, 1))
    (k : W p l e R s m args below meth c H locs cells slots Q (F0 m (pc + 1) ls (.int 3200 :: rest))) : W p l e R s m args below meth c H locs cells slots Q (F0 m pc ls (.ref (ad 4) :: rest)) := by
  obtain ⟨hx, hb, hml, hown, hu⟩ := S
  obtain ⟨hK, hP, hD, hS, hA⟩ := X
  exact va_alen (v := 3200) hx hb hK hP 4 3 rfl rfl (show Int32.ofNat 3200 = 3200 by decide) hd k
theorem wmlA_4 {i : Int32} {v : Int32} (S : CallFix p m c cc nL s args uG own) (X : gX (dC, dI) (tM kc) (wM ad kc) Z A s σ H locs) (hi : vp_in i 3200) (hv : xA σ 4 i = v) (hd : decode cc pc = .ok (.iaload, 1))
    (k : W p l e R s m args below meth c H locs cells slots Q (F0 m (pc + 1) ls (.int v :: rest))) : W p l e R s m args below meth c H locs cells slots Q (F0 m pc ls (.int i :: .ref (ad 5) :: rest)) := by
  subst hv
  obtain ⟨hx, hb, hml, hown, hu⟩ := S
  obtain ⟨hK, hP, hD, hS, hA⟩ := X
  exact va_iald hx hb hK hP 5 4 rfl rfl hi hd k
theorem wmsA_4 {i : Int32} {v : Int32} (S : CallFix p m c cc nL s args uG own) (X : gX (dC, dI) (tM kc) (wM ad kc) Z A s σ H locs) (hi : vp_in i 3200) (hd : decode cc pc = .ok (.iastore, 1))
    (k : ∀ (H : Heap) (locs : List Loc), gX (dC, dI) (tM kc) (wM ad kc) Z A s (pA σ 4 i v) H locs → W p l e R s m args below meth c H locs cells slots Q (F0 m (pc + 1) ls (rest))) : W p l e R s m args below meth c H locs cells slots Q (F0 m pc ls (.int v :: .int i :: .ref (ad 5) :: rest)) := by
  obtain ⟨hx, hb, hml, hown, hu⟩ := S
  obtain ⟨hK, hP, hD, hS, hA⟩ := X
  exact va_iast hx hb hK hP hD hS 5 4 rfl rfl hi hd (fun H1 locs1 hP1 hD1 hS1 => k H1 locs1 ⟨hK, hP1, hD1, hS1, hA⟩)
theorem wmnA_4 (S : CallFix p m c cc nL s args uG own) (X : gX (dC, dI) (tM kc) (wM ad kc) Z A s σ H locs) (hd : decode cc pc = .ok (.arraylength, 1))
    (k : W p l e R s m args below meth c H locs cells slots Q (F0 m (pc + 1) ls (.int 3200 :: rest))) : W p l e R s m args below meth c H locs cells slots Q (F0 m pc ls (.ref (ad 5) :: rest)) := by
  obtain ⟨hx, hb, hml, hown, hu⟩ := S
  obtain ⟨hK, hP, hD, hS, hA⟩ := X
  exact va_alen (v := 3200) hx hb hK hP 5 4 rfl rfl (show Int32.ofNat 3200 = 3200 by decide) hd k
theorem wmlA_5 {i : Int32} {v : Int32} (S : CallFix p m c cc nL s args uG own) (X : gX (dC, dI) (tM kc) (wM ad kc) Z A s σ H locs) (hi : vp_in i 3200) (hv : xA σ 5 i = v) (hd : decode cc pc = .ok (.iaload, 1))
    (k : W p l e R s m args below meth c H locs cells slots Q (F0 m (pc + 1) ls (.int v :: rest))) : W p l e R s m args below meth c H locs cells slots Q (F0 m pc ls (.int i :: .ref (ad 6) :: rest)) := by
  subst hv
  obtain ⟨hx, hb, hml, hown, hu⟩ := S
  obtain ⟨hK, hP, hD, hS, hA⟩ := X
  exact va_iald hx hb hK hP 6 5 rfl rfl hi hd k
theorem wmsA_5 {i : Int32} {v : Int32} (S : CallFix p m c cc nL s args uG own) (X : gX (dC, dI) (tM kc) (wM ad kc) Z A s σ H locs) (hi : vp_in i 3200) (hd : decode cc pc = .ok (.iastore, 1))
    (k : ∀ (H : Heap) (locs : List Loc), gX (dC, dI) (tM kc) (wM ad kc) Z A s (pA σ 5 i v) H locs → W p l e R s m args below meth c H locs cells slots Q (F0 m (pc + 1) ls (rest))) : W p l e R s m args below meth c H locs cells slots Q (F0 m pc ls (.int v :: .int i :: .ref (ad 6) :: rest)) := by
  obtain ⟨hx, hb, hml, hown, hu⟩ := S
  obtain ⟨hK, hP, hD, hS, hA⟩ := X
  exact va_iast hx hb hK hP hD hS 6 5 rfl rfl hi hd (fun H1 locs1 hP1 hD1 hS1 => k H1 locs1 ⟨hK, hP1, hD1, hS1, hA⟩)
theorem wmnA_5 (S : CallFix p m c cc nL s args uG own) (X : gX (dC, dI) (tM kc) (wM ad kc) Z A s σ H locs) (hd : decode cc pc = .ok (.arraylength, 1))
    (k : W p l e R s m args below meth c H locs cells slots Q (F0 m (pc + 1) ls (.int 3200 :: rest))) : W p l e R s m args below meth c H locs cells slots Q (F0 m pc ls (.ref (ad 6) :: rest)) := by
  obtain ⟨hx, hb, hml, hown, hu⟩ := S
  obtain ⟨hK, hP, hD, hS, hA⟩ := X
  exact va_alen (v := 3200) hx hb hK hP 6 5 rfl rfl (show Int32.ofNat 3200 = 3200 by decide) hd k
theorem wmlA_6 {i : Int32} {v : Int32} (S : CallFix p m c cc nL s args uG own) (X : gX (dC, dI) (tM kc) (wM ad kc) Z A s σ H locs) (hi : vp_in i 3200) (hv : xA σ 6 i = v) (hd : decode cc pc = .ok (.iaload, 1))
    (k : W p l e R s m args below meth c H locs cells slots Q (F0 m (pc + 1) ls (.int v :: rest))) : W p l e R s m args below meth c H locs cells slots Q (F0 m pc ls (.int i :: .ref (ad 7) :: rest)) := by
  subst hv
  obtain ⟨hx, hb, hml, hown, hu⟩ := S
  obtain ⟨hK, hP, hD, hS, hA⟩ := X
  exact va_iald hx hb hK hP 7 6 rfl rfl hi hd k
theorem wmsA_6 {i : Int32} {v : Int32} (S : CallFix p m c cc nL s args uG own) (X : gX (dC, dI) (tM kc) (wM ad kc) Z A s σ H locs) (hi : vp_in i 3200) (hd : decode cc pc = .ok (.iastore, 1))
    (k : ∀ (H : Heap) (locs : List Loc), gX (dC, dI) (tM kc) (wM ad kc) Z A s (pA σ 6 i v) H locs → W p l e R s m args below meth c H locs cells slots Q (F0 m (pc + 1) ls (rest))) : W p l e R s m args below meth c H locs cells slots Q (F0 m pc ls (.int v :: .int i :: .ref (ad 7) :: rest)) := by
  obtain ⟨hx, hb, hml, hown, hu⟩ := S
  obtain ⟨hK, hP, hD, hS, hA⟩ := X
  exact va_iast hx hb hK hP hD hS 7 6 rfl rfl hi hd (fun H1 locs1 hP1 hD1 hS1 => k H1 locs1 ⟨hK, hP1, hD1, hS1, hA⟩)
theorem wmnA_6 (S : CallFix p m c cc nL s args uG own) (X : gX (dC, dI) (tM kc) (wM ad kc) Z A s σ H locs) (hd : decode cc pc = .ok (.arraylength, 1))
    (k : W p l e R s m args below meth c H locs cells slots Q (F0 m (pc + 1) ls (.int 3200 :: rest))) : W p l e R s m args below meth c H locs cells slots Q (F0 m pc ls (.ref (ad 7) :: rest)) := by
  obtain ⟨hx, hb, hml, hown, hu⟩ := S
  obtain ⟨hK, hP, hD, hS, hA⟩ := X
  exact va_alen (v := 3200) hx hb hK hP 7 6 rfl rfl (show Int32.ofNat 3200 = 3200 by decide) hd k
theorem wmlA_7 {i : Int32} {v : Int32} (S : CallFix p m c cc nL s args uG own) (X : gX (dC, dI) (tM kc) (wM ad kc) Z A s σ H locs) (hi : vp_in i 3200) (hv : xA σ 7 i = v) (hd : decode cc pc = .ok (.iaload, 1))
    (k : W p l e R s m args below meth c H locs cells slots Q (F0 m (pc + 1) ls (.int v :: rest))) : W p l e R s m args below meth c H locs cells slots Q (F0 m pc ls (.int i :: .ref (ad 8) :: rest)) := by
  subst hv
  obtain ⟨hx, hb, hml, hown, hu⟩ := S
  obtain ⟨hK, hP, hD, hS, hA⟩ := X
  exact va_iald hx hb hK hP 8 7 rfl rfl hi hd k
theorem wmsA_7 {i : Int32} {v : Int32} (S : CallFix p m c cc nL s args uG own) (X : gX (dC, dI) (tM kc) (wM ad kc) Z A s σ H locs) (hi : vp_in i 3200) (hd : decode cc pc = .ok (.iastore, 1))
    (k : ∀ (H : Heap) (locs : List Loc), gX (dC, dI) (tM kc) (wM ad kc) Z A s (pA σ 7 i v) H locs → W p l e R s m args below meth c H locs cells slots Q (F0 m (pc + 1) ls (rest))) : W p l e R s m args below meth c H locs cells slots Q (F0 m pc ls (.int v :: .int i :: .ref (ad 8) :: rest)) := by
  obtain ⟨hx, hb, hml, hown, hu⟩ := S
  obtain ⟨hK, hP, hD, hS, hA⟩ := X
  exact va_iast hx hb hK hP hD hS 8 7 rfl rfl hi hd (fun H1 locs1 hP1 hD1 hS1 => k H1 locs1 ⟨hK, hP1, hD1, hS1, hA⟩)
theorem wmnA_7 (S : CallFix p m c cc nL s args uG own) (X : gX (dC, dI) (tM kc) (wM ad kc) Z A s σ H locs) (hd : decode cc pc = .ok (.arraylength, 1))
    (k : W p l e R s m args below meth c H locs cells slots Q (F0 m (pc + 1) ls (.int 3200 :: rest))) : W p l e R s m args below meth c H locs cells slots Q (F0 m pc ls (.ref (ad 8) :: rest)) := by
  obtain ⟨hx, hb, hml, hown, hu⟩ := S
  obtain ⟨hK, hP, hD, hS, hA⟩ := X
  exact va_alen (v := 3200) hx hb hK hP 8 7 rfl rfl (show Int32.ofNat 3200 = 3200 by decide) hd k
theorem wmlA_8 {i : Int32} {v : Int32} (S : CallFix p m c cc nL s args uG own) (X : gX (dC, dI) (tM kc) (wM ad kc) Z A s σ H locs) (hi : vp_in i 3200) (hv : xA σ 8 i = v) (hd : decode cc pc = .ok (.iaload, 1))
    (k : W p l e R s m args below meth c H locs cells slots Q (F0 m (pc + 1) ls (.int v :: rest))) : W p l e R s m args below meth c H locs cells slots Q (F0 m pc ls (.int i :: .ref (ad 9) :: rest)) := by
  subst hv
  obtain ⟨hx, hb, hml, hown, hu⟩ := S
  obtain ⟨hK, hP, hD, hS, hA⟩ := X
  exact va_iald hx hb hK hP 9 8 rfl rfl hi hd k
theorem wmsA_8 {i : Int32} {v : Int32} (S : CallFix p m c cc nL s args uG own) (X : gX (dC, dI) (tM kc) (wM ad kc) Z A s σ H locs) (hi : vp_in i 3200) (hd : decode cc pc = .ok (.iastore, 1))
    (k : ∀ (H : Heap) (locs : List Loc), gX (dC, dI) (tM kc) (wM ad kc) Z A s (pA σ 8 i v) H locs → W p l e R s m args below meth c H locs cells slots Q (F0 m (pc + 1) ls (rest))) : W p l e R s m args below meth c H locs cells slots Q (F0 m pc ls (.int v :: .int i :: .ref (ad 9) :: rest)) := by
  obtain ⟨hx, hb, hml, hown, hu⟩ := S
  obtain ⟨hK, hP, hD, hS, hA⟩ := X
  exact va_iast hx hb hK hP hD hS 9 8 rfl rfl hi hd (fun H1 locs1 hP1 hD1 hS1 => k H1 locs1 ⟨hK, hP1, hD1, hS1, hA⟩)
theorem wmnA_8 (S : CallFix p m c cc nL s args uG own) (X : gX (dC, dI) (tM kc) (wM ad kc) Z A s σ H locs) (hd : decode cc pc = .ok (.arraylength, 1))
    (k : W p l e R s m args below meth c H locs cells slots Q (F0 m (pc + 1) ls (.int 3200 :: rest))) : W p l e R s m args below meth c H locs cells slots Q (F0 m pc ls (.ref (ad 9) :: rest)) := by
  obtain ⟨hx, hb, hml, hown, hu⟩ := S
  obtain ⟨hK, hP, hD, hS, hA⟩ := X
  exact va_alen (v := 3200) hx hb hK hP 9 8 rfl rfl (show Int32.ofNat 3200 = 3200 by decide) hd k
theorem wmlB_0 {i : Int32} {v : Int64} (S : CallFix p m c cc nL s args uG own) (X : gX (dC, dI) (tM kc) (wM ad kc) Z A s σ H locs) (hi : vp_in i 3200) (hv : xB σ 0 i = v) (hd : decode cc pc = .ok (.laload, 1))
    (k : W p l e R s m args below meth c H locs cells slots Q (F0 m (pc + 1) ls (.long v :: rest))) : W p l e R s m args below meth c H locs cells slots Q (F0 m pc ls (.int i :: .ref (ad 10) :: rest)) := by
  subst hv
  obtain ⟨hx, hb, hml, hown, hu⟩ := S
  obtain ⟨hK, hP, hD, hS, hA⟩ := X
  exact va_lald hx hb hK hP 10 9 rfl rfl hi hd k
theorem wmsB_0 {i : Int32} {v : Int64} (S : CallFix p m c cc nL s args uG own) (X : gX (dC, dI) (tM kc) (wM ad kc) Z A s σ H locs) (hi : vp_in i 3200) (hd : decode cc pc = .ok (.lastore, 1))
    (k : ∀ (H : Heap) (locs : List Loc), gX (dC, dI) (tM kc) (wM ad kc) Z A s (pB σ 0 i v) H locs → W p l e R s m args below meth c H locs cells slots Q (F0 m (pc + 1) ls (rest))) : W p l e R s m args below meth c H locs cells slots Q (F0 m pc ls (.long v :: .int i :: .ref (ad 10) :: rest)) := by
  obtain ⟨hx, hb, hml, hown, hu⟩ := S
  obtain ⟨hK, hP, hD, hS, hA⟩ := X
  exact va_last hx hb hK hP hD hS 10 9 rfl rfl hi hd (fun H1 locs1 hP1 hD1 hS1 => k H1 locs1 ⟨hK, hP1, hD1, hS1, hA⟩)
theorem wmnB_0 (S : CallFix p m c cc nL s args uG own) (X : gX (dC, dI) (tM kc) (wM ad kc) Z A s σ H locs) (hd : decode cc pc = .ok (.arraylength, 1))
    (k : W p l e R s m args below meth c H locs cells slots Q (F0 m (pc + 1) ls (.int 3200 :: rest))) : W p l e R s m args below meth c H locs cells slots Q (F0 m pc ls (.ref (ad 10) :: rest)) := by
  obtain ⟨hx, hb, hml, hown, hu⟩ := S
  obtain ⟨hK, hP, hD, hS, hA⟩ := X
  exact va_alen (v := 3200) hx hb hK hP 10 9 rfl rfl (show Int32.ofNat 3200 = 3200 by decide) hd k
theorem wmlA_9 {i : Int32} {v : Int32} (S : CallFix p m c cc nL s args uG own) (X : gX (dC, dI) (tM kc) (wM ad kc) Z A s σ H locs) (hi : vp_in i 3200) (hv : xA σ 9 i = v) (hd : decode cc pc = .ok (.iaload, 1))
    (k : W p l e R s m args below meth c H locs cells slots Q (F0 m (pc + 1) ls (.int v :: rest))) : W p l e R s m args below meth c H locs cells slots Q (F0 m pc ls (.int i :: .ref (ad 11) :: rest)) := by
  subst hv
  obtain ⟨hx, hb, hml, hown, hu⟩ := S
  obtain ⟨hK, hP, hD, hS, hA⟩ := X
  exact va_iald hx hb hK hP 11 10 rfl rfl hi hd k
theorem wmsA_9 {i : Int32} {v : Int32} (S : CallFix p m c cc nL s args uG own) (X : gX (dC, dI) (tM kc) (wM ad kc) Z A s σ H locs) (hi : vp_in i 3200) (hd : decode cc pc = .ok (.iastore, 1))
    (k : ∀ (H : Heap) (locs : List Loc), gX (dC, dI) (tM kc) (wM ad kc) Z A s (pA σ 9 i v) H locs → W p l e R s m args below meth c H locs cells slots Q (F0 m (pc + 1) ls (rest))) : W p l e R s m args below meth c H locs cells slots Q (F0 m pc ls (.int v :: .int i :: .ref (ad 11) :: rest)) := by
  obtain ⟨hx, hb, hml, hown, hu⟩ := S
  obtain ⟨hK, hP, hD, hS, hA⟩ := X
  exact va_iast hx hb hK hP hD hS 11 10 rfl rfl hi hd (fun H1 locs1 hP1 hD1 hS1 => k H1 locs1 ⟨hK, hP1, hD1, hS1, hA⟩)
theorem wmnA_9 (S : CallFix p m c cc nL s args uG own) (X : gX (dC, dI) (tM kc) (wM ad kc) Z A s σ H locs) (hd : decode cc pc = .ok (.arraylength, 1))
    (k : W p l e R s m args below meth c H locs cells slots Q (F0 m (pc + 1) ls (.int 3200 :: rest))) : W p l e R s m args below meth c H locs cells slots Q (F0 m pc ls (.ref (ad 11) :: rest)) := by
  obtain ⟨hx, hb, hml, hown, hu⟩ := S
  obtain ⟨hK, hP, hD, hS, hA⟩ := X
  exact va_alen (v := 3200) hx hb hK hP 11 10 rfl rfl (show Int32.ofNat 3200 = 3200 by decide) hd k
theorem wmlA_10 {i : Int32} {v : Int32} (S : CallFix p m c cc nL s args uG own) (X : gX (dC, dI) (tM kc) (wM ad kc) Z A s σ H locs) (hi : vp_in i 3200) (hv : xA σ 10 i = v) (hd : decode cc pc = .ok (.iaload, 1))
    (k : W p l e R s m args below meth c H locs cells slots Q (F0 m (pc + 1) ls (.int v :: rest))) : W p l e R s m args below meth c H locs cells slots Q (F0 m pc ls (.int i :: .ref (ad 12) :: rest)) := by
  subst hv
  obtain ⟨hx, hb, hml, hown, hu⟩ := S
  obtain ⟨hK, hP, hD, hS, hA⟩ := X
  exact va_iald hx hb hK hP 12 11 rfl rfl hi hd k
theorem wmsA_10 {i : Int32} {v : Int32} (S : CallFix p m c cc nL s args uG own) (X : gX (dC, dI) (tM kc) (wM ad kc) Z A s σ H locs) (hi : vp_in i 3200) (hd : decode cc pc = .ok (.iastore, 1))
    (k : ∀ (H : Heap) (locs : List Loc), gX (dC, dI) (tM kc) (wM ad kc) Z A s (pA σ 10 i v) H locs → W p l e R s m args below meth c H locs cells slots Q (F0 m (pc + 1) ls (rest))) : W p l e R s m args below meth c H locs cells slots Q (F0 m pc ls (.int v :: .int i :: .ref (ad 12) :: rest)) := by
  obtain ⟨hx, hb, hml, hown, hu⟩ := S
  obtain ⟨hK, hP, hD, hS, hA⟩ := X
  exact va_iast hx hb hK hP hD hS 12 11 rfl rfl hi hd (fun H1 locs1 hP1 hD1 hS1 => k H1 locs1 ⟨hK, hP1, hD1, hS1, hA⟩)
theorem wmnA_10 (S : CallFix p m c cc nL s args uG own) (X : gX (dC, dI) (tM kc) (wM ad kc) Z A s σ H locs) (hd : decode cc pc = .ok (.arraylength, 1))
    (k : W p l e R s m args below meth c H locs cells slots Q (F0 m (pc + 1) ls (.int 3200 :: rest))) : W p l e R s m args below meth c H locs cells slots Q (F0 m pc ls (.ref (ad 12) :: rest)) := by
  obtain ⟨hx, hb, hml, hown, hu⟩ := S
  obtain ⟨hK, hP, hD, hS, hA⟩ := X
  exact va_alen (v := 3200) hx hb hK hP 12 11 rfl rfl (show Int32.ofNat 3200 = 3200 by decide) hd k
theorem wmlB_1 {i : Int32} {v : Int64} (S : CallFix p m c cc nL s args uG own) (X : gX (dC, dI) (tM kc) (wM ad kc) Z A s σ H locs) (hi : vp_in i 3200) (hv : xB σ 1 i = v) (hd : decode cc pc = .ok (.laload, 1))
    (k : W p l e R s m args below meth c H locs cells slots Q (F0 m (pc + 1) ls (.long v :: rest))) : W p l e R s m args below meth c H locs cells slots Q (F0 m pc ls (.int i :: .ref (ad 13) :: rest)) := by
  subst hv
  obtain ⟨hx, hb, hml, hown, hu⟩ := S
  obtain ⟨hK, hP, hD, hS, hA⟩ := X
  exact va_lald hx hb hK hP 13 12 rfl rfl hi hd k
theorem wmsB_1 {i : Int32} {v : Int64} (S : CallFix p m c cc nL s args uG own) (X : gX (dC, dI) (tM kc) (wM ad kc) Z A s σ H locs) (hi : vp_in i 3200) (hd : decode cc pc = .ok (.lastore, 1))
    (k : ∀ (H : Heap) (locs : List Loc), gX (dC, dI) (tM kc) (wM ad kc) Z A s (pB σ 1 i v) H locs → W p l e R s m args below meth c H locs cells slots Q (F0 m (pc + 1) ls (rest))) : W p l e R s m args below meth c H locs cells slots Q (F0 m pc ls (.long v :: .int i :: .ref (ad 13) :: rest)) := by
  obtain ⟨hx, hb, hml, hown, hu⟩ := S
  obtain ⟨hK, hP, hD, hS, hA⟩ := X
  exact va_last hx hb hK hP hD hS 13 12 rfl rfl hi hd (fun H1 locs1 hP1 hD1 hS1 => k H1 locs1 ⟨hK, hP1, hD1, hS1, hA⟩)
theorem wmnB_1 (S : CallFix p m c cc nL s args uG own) (X : gX (dC, dI) (tM kc) (wM ad kc) Z A s σ H locs) (hd : decode cc pc = .ok (.arraylength, 1))
    (k : W p l e R s m args below meth c H locs cells slots Q (F0 m (pc + 1) ls (.int 3200 :: rest))) : W p l e R s m args below meth c H locs cells slots Q (F0 m pc ls (.ref (ad 13) :: rest)) := by
  obtain ⟨hx, hb, hml, hown, hu⟩ := S
  obtain ⟨hK, hP, hD, hS, hA⟩ := X
  exact va_alen (v := 3200) hx hb hK hP 13 12 rfl rfl (show Int32.ofNat 3200 = 3200 by decide) hd k
theorem wmlB_2 {i : Int32} {v : Int64} (S : CallFix p m c cc nL s args uG own) (X : gX (dC, dI) (tM kc) (wM ad kc) Z A s σ H locs) (hi : vp_in i 640) (hv : xB σ 2 i = v) (hd : decode cc pc = .ok (.laload, 1))
    (k : W p l e R s m args below meth c H locs cells slots Q (F0 m (pc + 1) ls (.long v :: rest))) : W p l e R s m args below meth c H locs cells slots Q (F0 m pc ls (.int i :: .ref (ad 14) :: rest)) := by
  subst hv
  obtain ⟨hx, hb, hml, hown, hu⟩ := S
  obtain ⟨hK, hP, hD, hS, hA⟩ := X
  exact va_lald hx hb hK hP 14 13 rfl rfl hi hd k
theorem wmsB_2 {i : Int32} {v : Int64} (S : CallFix p m c cc nL s args uG own) (X : gX (dC, dI) (tM kc) (wM ad kc) Z A s σ H locs) (hi : vp_in i 640) (hd : decode cc pc = .ok (.lastore, 1))
    (k : ∀ (H : Heap) (locs : List Loc), gX (dC, dI) (tM kc) (wM ad kc) Z A s (pB σ 2 i v) H locs → W p l e R s m args below meth c H locs cells slots Q (F0 m (pc + 1) ls (rest))) : W p l e R s m args below meth c H locs cells slots Q (F0 m pc ls (.long v :: .int i :: .ref (ad 14) :: rest)) := by
  obtain ⟨hx, hb, hml, hown, hu⟩ := S
  obtain ⟨hK, hP, hD, hS, hA⟩ := X
  exact va_last hx hb hK hP hD hS 14 13 rfl rfl hi hd (fun H1 locs1 hP1 hD1 hS1 => k H1 locs1 ⟨hK, hP1, hD1, hS1, hA⟩)
theorem wmnB_2 (S : CallFix p m c cc nL s args uG own) (X : gX (dC, dI) (tM kc) (wM ad kc) Z A s σ H locs) (hd : decode cc pc = .ok (.arraylength, 1))
    (k : W p l e R s m args below meth c H locs cells slots Q (F0 m (pc + 1) ls (.int 640 :: rest))) : W p l e R s m args below meth c H locs cells slots Q (F0 m pc ls (.ref (ad 14) :: rest)) := by
  obtain ⟨hx, hb, hml, hown, hu⟩ := S
  obtain ⟨hK, hP, hD, hS, hA⟩ := X
  exact va_alen (v := 640) hx hb hK hP 14 13 rfl rfl (show Int32.ofNat 640 = 640 by decide) hd k
theorem wmlA_11 {i : Int32} {v : Int32} (S : CallFix p m c cc nL s args uG own) (X : gX (dC, dI) (tM kc) (wM ad kc) Z A s σ H locs) (hi : vp_in i 640) (hv : xA σ 11 i = v) (hd : decode cc pc = .ok (.iaload, 1))
    (k : W p l e R s m args below meth c H locs cells slots Q (F0 m (pc + 1) ls (.int v :: rest))) : W p l e R s m args below meth c H locs cells slots Q (F0 m pc ls (.int i :: .ref (ad 15) :: rest)) := by
  subst hv
  obtain ⟨hx, hb, hml, hown, hu⟩ := S
  obtain ⟨hK, hP, hD, hS, hA⟩ := X
  exact va_iald hx hb hK hP 15 14 rfl rfl hi hd k
theorem wmsA_11 {i : Int32} {v : Int32} (S : CallFix p m c cc nL s args uG own) (X : gX (dC, dI) (tM kc) (wM ad kc) Z A s σ H locs) (hi : vp_in i 640) (hd : decode cc pc = .ok (.iastore, 1))
    (k : ∀ (H : Heap) (locs : List Loc), gX (dC, dI) (tM kc) (wM ad kc) Z A s (pA σ 11 i v) H locs → W p l e R s m args below meth c H locs cells slots Q (F0 m (pc + 1) ls (rest))) : W p l e R s m args below meth c H locs cells slots Q (F0 m pc ls (.int v :: .int i :: .ref (ad 15) :: rest)) := by
  obtain ⟨hx, hb, hml, hown, hu⟩ := S
  obtain ⟨hK, hP, hD, hS, hA⟩ := X
  exact va_iast hx hb hK hP hD hS 15 14 rfl rfl hi hd (fun H1 locs1 hP1 hD1 hS1 => k H1 locs1 ⟨hK, hP1, hD1, hS1, hA⟩)
theorem wmnA_11 (S : CallFix p m c cc nL s args uG own) (X : gX (dC, dI) (tM kc) (wM ad kc) Z A s σ H locs) (hd : decode cc pc = .ok (.arraylength, 1))
    (k : W p l e R s m args below meth c H locs cells slots Q (F0 m (pc + 1) ls (.int 640 :: rest))) : W p l e R s m args below meth c H locs cells slots Q (F0 m pc ls (.ref (ad 15) :: rest)) := by
  obtain ⟨hx, hb, hml, hown, hu⟩ := S
  obtain ⟨hK, hP, hD, hS, hA⟩ := X
  exact va_alen (v := 640) hx hb hK hP 15 14 rfl rfl (show Int32.ofNat 640 = 640 by decide) hd k
theorem wmlA_12 {i : Int32} {v : Int32} (S : CallFix p m c cc nL s args uG own) (X : gX (dC, dI) (tM kc) (wM ad kc) Z A s σ H locs) (hi : vp_in i 640) (hv : xA σ 12 i = v) (hd : decode cc pc = .ok (.iaload, 1))
    (k : W p l e R s m args below meth c H locs cells slots Q (F0 m (pc + 1) ls (.int v :: rest))) : W p l e R s m args below meth c H locs cells slots Q (F0 m pc ls (.int i :: .ref (ad 16) :: rest)) := by
  subst hv
  obtain ⟨hx, hb, hml, hown, hu⟩ := S
  obtain ⟨hK, hP, hD, hS, hA⟩ := X
  exact va_iald hx hb hK hP 16 15 rfl rfl hi hd k
theorem wmsA_12 {i : Int32} {v : Int32} (S : CallFix p m c cc nL s args uG own) (X : gX (dC, dI) (tM kc) (wM ad kc) Z A s σ H locs) (hi : vp_in i 640) (hd : decode cc pc = .ok (.iastore, 1))
    (k : ∀ (H : Heap) (locs : List Loc), gX (dC, dI) (tM kc) (wM ad kc) Z A s (pA σ 12 i v) H locs → W p l e R s m args below meth c H locs cells slots Q (F0 m (pc + 1) ls (rest))) : W p l e R s m args below meth c H locs cells slots Q (F0 m pc ls (.int v :: .int i :: .ref (ad 16) :: rest)) := by
  obtain ⟨hx, hb, hml, hown, hu⟩ := S
  obtain ⟨hK, hP, hD, hS, hA⟩ := X
  exact va_iast hx hb hK hP hD hS 16 15 rfl rfl hi hd (fun H1 locs1 hP1 hD1 hS1 => k H1 locs1 ⟨hK, hP1, hD1, hS1, hA⟩)
theorem wmnA_12 (S : CallFix p m c cc nL s args uG own) (X : gX (dC, dI) (tM kc) (wM ad kc) Z A s σ H locs) (hd : decode cc pc = .ok (.arraylength, 1))
    (k : W p l e R s m args below meth c H locs cells slots Q (F0 m (pc + 1) ls (.int 640 :: rest))) : W p l e R s m args below meth c H locs cells slots Q (F0 m pc ls (.ref (ad 16) :: rest)) := by
  obtain ⟨hx, hb, hml, hown, hu⟩ := S
  obtain ⟨hK, hP, hD, hS, hA⟩ := X
  exact va_alen (v := 640) hx hb hK hP 16 15 rfl rfl (show Int32.ofNat 640 = 640 by decide) hd k
theorem wmlB_3 {i : Int32} {v : Int64} (S : CallFix p m c cc nL s args uG own) (X : gX (dC, dI) (tM kc) (wM ad kc) Z A s σ H locs) (hi : vp_in i 30) (hv : xB σ 3 i = v) (hd : decode cc pc = .ok (.laload, 1))
    (k : W p l e R s m args below meth c H locs cells slots Q (F0 m (pc + 1) ls (.long v :: rest))) : W p l e R s m args below meth c H locs cells slots Q (F0 m pc ls (.int i :: .ref (ad 17) :: rest)) := by
  subst hv
  obtain ⟨hx, hb, hml, hown, hu⟩ := S
  obtain ⟨hK, hP, hD, hS, hA⟩ := X
  exact va_lald hx hb hK hP 17 16 rfl rfl hi hd k
theorem wmsB_3 {i : Int32} {v : Int64} (S : CallFix p m c cc nL s args uG own) (X : gX (dC, dI) (tM kc) (wM ad kc) Z A s σ H locs) (hi : vp_in i 30) (hd : decode cc pc = .ok (.lastore, 1))
    (k : ∀ (H : Heap) (locs : List Loc), gX (dC, dI) (tM kc) (wM ad kc) Z A s (pB σ 3 i v) H locs → W p l e R s m args below meth c H locs cells slots Q (F0 m (pc + 1) ls (rest))) : W p l e R s m args below meth c H locs cells slots Q (F0 m pc ls (.long v :: .int i :: .ref (ad 17) :: rest)) := by
  obtain ⟨hx, hb, hml, hown, hu⟩ := S
  obtain ⟨hK, hP, hD, hS, hA⟩ := X
  exact va_last hx hb hK hP hD hS 17 16 rfl rfl hi hd (fun H1 locs1 hP1 hD1 hS1 => k H1 locs1 ⟨hK, hP1, hD1, hS1, hA⟩)
theorem wmnB_3 (S : CallFix p m c cc nL s args uG own) (X : gX (dC, dI) (tM kc) (wM ad kc) Z A s σ H locs) (hd : decode cc pc = .ok (.arraylength, 1))
    (k : W p l e R s m args below meth c H locs cells slots Q (F0 m (pc + 1) ls (.int 30 :: rest))) : W p l e R s m args below meth c H locs cells slots Q (F0 m pc ls (.ref (ad 17) :: rest)) := by
  obtain ⟨hx, hb, hml, hown, hu⟩ := S
  obtain ⟨hK, hP, hD, hS, hA⟩ := X
  exact va_alen (v := 30) hx hb hK hP 17 16 rfl rfl (show Int32.ofNat 30 = 30 by decide) hd k
theorem wmlA_13 {i : Int32} {v : Int32} (S : CallFix p m c cc nL s args uG own) (X : gX (dC, dI) (tM kc) (wM ad kc) Z A s σ H locs) (hi : vp_in i 30) (hv : xA σ 13 i = v) (hd : decode cc pc = .ok (.iaload, 1))
    (k : W p l e R s m args below meth c H locs cells slots Q (F0 m (pc + 1) ls (.int v :: rest))) : W p l e R s m args below meth c H locs cells slots Q (F0 m pc ls (.int i :: .ref (ad 18) :: rest)) := by
  subst hv
  obtain ⟨hx, hb, hml, hown, hu⟩ := S
  obtain ⟨hK, hP, hD, hS, hA⟩ := X
  exact va_iald hx hb hK hP 18 17 rfl rfl hi hd k
theorem wmsA_13 {i : Int32} {v : Int32} (S : CallFix p m c cc nL s args uG own) (X : gX (dC, dI) (tM kc) (wM ad kc) Z A s σ H locs) (hi : vp_in i 30) (hd : decode cc pc = .ok (.iastore, 1))
    (k : ∀ (H : Heap) (locs : List Loc), gX (dC, dI) (tM kc) (wM ad kc) Z A s (pA σ 13 i v) H locs → W p l e R s m args below meth c H locs cells slots Q (F0 m (pc + 1) ls (rest))) : W p l e R s m args below meth c H locs cells slots Q (F0 m pc ls (.int v :: .int i :: .ref (ad 18) :: rest)) := by
  obtain ⟨hx, hb, hml, hown, hu⟩ := S
  obtain ⟨hK, hP, hD, hS, hA⟩ := X
  exact va_iast hx hb hK hP hD hS 18 17 rfl rfl hi hd (fun H1 locs1 hP1 hD1 hS1 => k H1 locs1 ⟨hK, hP1, hD1, hS1, hA⟩)
theorem wmnA_13 (S : CallFix p m c cc nL s args uG own) (X : gX (dC, dI) (tM kc) (wM ad kc) Z A s σ H locs) (hd : decode cc pc = .ok (.arraylength, 1))
    (k : W p l e R s m args below meth c H locs cells slots Q (F0 m (pc + 1) ls (.int 30 :: rest))) : W p l e R s m args below meth c H locs cells slots Q (F0 m pc ls (.ref (ad 18) :: rest)) := by
  obtain ⟨hx, hb, hml, hown, hu⟩ := S
  obtain ⟨hK, hP, hD, hS, hA⟩ := X
  exact va_alen (v := 30) hx hb hK hP 18 17 rfl rfl (show Int32.ofNat 30 = 30 by decide) hd k
theorem wmlA_14 {i : Int32} {v : Int32} (S : CallFix p m c cc nL s args uG own) (X : gX (dC, dI) (tM kc) (wM ad kc) Z A s σ H locs) (hi : vp_in i 3200) (hv : xA σ 14 i = v) (hd : decode cc pc = .ok (.iaload, 1))
    (k : W p l e R s m args below meth c H locs cells slots Q (F0 m (pc + 1) ls (.int v :: rest))) : W p l e R s m args below meth c H locs cells slots Q (F0 m pc ls (.int i :: .ref (ad 19) :: rest)) := by
  subst hv
  obtain ⟨hx, hb, hml, hown, hu⟩ := S
  obtain ⟨hK, hP, hD, hS, hA⟩ := X
  exact va_iald hx hb hK hP 19 18 rfl rfl hi hd k
theorem wmsA_14 {i : Int32} {v : Int32} (S : CallFix p m c cc nL s args uG own) (X : gX (dC, dI) (tM kc) (wM ad kc) Z A s σ H locs) (hi : vp_in i 3200) (hd : decode cc pc = .ok (.iastore, 1))
    (k : ∀ (H : Heap) (locs : List Loc), gX (dC, dI) (tM kc) (wM ad kc) Z A s (pA σ 14 i v) H locs → W p l e R s m args below meth c H locs cells slots Q (F0 m (pc + 1) ls (rest))) : W p l e R s m args below meth c H locs cells slots Q (F0 m pc ls (.int v :: .int i :: .ref (ad 19) :: rest)) := by
  obtain ⟨hx, hb, hml, hown, hu⟩ := S
  obtain ⟨hK, hP, hD, hS, hA⟩ := X
  exact va_iast hx hb hK hP hD hS 19 18 rfl rfl hi hd (fun H1 locs1 hP1 hD1 hS1 => k H1 locs1 ⟨hK, hP1, hD1, hS1, hA⟩)
theorem wmnA_14 (S : CallFix p m c cc nL s args uG own) (X : gX (dC, dI) (tM kc) (wM ad kc) Z A s σ H locs) (hd : decode cc pc = .ok (.arraylength, 1))
    (k : W p l e R s m args below meth c H locs cells slots Q (F0 m (pc + 1) ls (.int 3200 :: rest))) : W p l e R s m args below meth c H locs cells slots Q (F0 m pc ls (.ref (ad 19) :: rest)) := by
  obtain ⟨hx, hb, hml, hown, hu⟩ := S
  obtain ⟨hK, hP, hD, hS, hA⟩ := X
  exact va_alen (v := 3200) hx hb hK hP 19 18 rfl rfl (show Int32.ofNat 3200 = 3200 by decide) hd k
theorem wmlA_15 {i : Int32} {v : Int32} (S : CallFix p m c cc nL s args uG own) (X : gX (dC, dI) (tM kc) (wM ad kc) Z A s σ H locs) (hi : vp_in i 3200) (hv : xA σ 15 i = v) (hd : decode cc pc = .ok (.iaload, 1))
    (k : W p l e R s m args below meth c H locs cells slots Q (F0 m (pc + 1) ls (.int v :: rest))) : W p l e R s m args below meth c H locs cells slots Q (F0 m pc ls (.int i :: .ref (ad 20) :: rest)) := by
  subst hv
  obtain ⟨hx, hb, hml, hown, hu⟩ := S
  obtain ⟨hK, hP, hD, hS, hA⟩ := X
  exact va_iald hx hb hK hP 20 19 rfl rfl hi hd k
theorem wmsA_15 {i : Int32} {v : Int32} (S : CallFix p m c cc nL s args uG own) (X : gX (dC, dI) (tM kc) (wM ad kc) Z A s σ H locs) (hi : vp_in i 3200) (hd : decode cc pc = .ok (.iastore, 1))
    (k : ∀ (H : Heap) (locs : List Loc), gX (dC, dI) (tM kc) (wM ad kc) Z A s (pA σ 15 i v) H locs → W p l e R s m args below meth c H locs cells slots Q (F0 m (pc + 1) ls (rest))) : W p l e R s m args below meth c H locs cells slots Q (F0 m pc ls (.int v :: .int i :: .ref (ad 20) :: rest)) := by
  obtain ⟨hx, hb, hml, hown, hu⟩ := S
  obtain ⟨hK, hP, hD, hS, hA⟩ := X
  exact va_iast hx hb hK hP hD hS 20 19 rfl rfl hi hd (fun H1 locs1 hP1 hD1 hS1 => k H1 locs1 ⟨hK, hP1, hD1, hS1, hA⟩)
theorem wmnA_15 (S : CallFix p m c cc nL s args uG own) (X : gX (dC, dI) (tM kc) (wM ad kc) Z A s σ H locs) (hd : decode cc pc = .ok (.arraylength, 1))
    (k : W p l e R s m args below meth c H locs cells slots Q (F0 m (pc + 1) ls (.int 3200 :: rest))) : W p l e R s m args below meth c H locs cells slots Q (F0 m pc ls (.ref (ad 20) :: rest)) := by
  obtain ⟨hx, hb, hml, hown, hu⟩ := S
  obtain ⟨hK, hP, hD, hS, hA⟩ := X
  exact va_alen (v := 3200) hx hb hK hP 20 19 rfl rfl (show Int32.ofNat 3200 = 3200 by decide) hd k
theorem wmlA_16 {i : Int32} {v : Int32} (S : CallFix p m c cc nL s args uG own) (X : gX (dC, dI) (tM kc) (wM ad kc) Z A s σ H locs) (hi : vp_in i 3200) (hv : xA σ 16 i = v) (hd : decode cc pc = .ok (.iaload, 1))
    (k : W p l e R s m args below meth c H locs cells slots Q (F0 m (pc + 1) ls (.int v :: rest))) : W p l e R s m args below meth c H locs cells slots Q (F0 m pc ls (.int i :: .ref (ad 21) :: rest)) := by
  subst hv
  obtain ⟨hx, hb, hml, hown, hu⟩ := S
  obtain ⟨hK, hP, hD, hS, hA⟩ := X
  exact va_iald hx hb hK hP 21 20 rfl rfl hi hd k
theorem wmsA_16 {i : Int32} {v : Int32} (S : CallFix p m c cc nL s args uG own) (X : gX (dC, dI) (tM kc) (wM ad kc) Z A s σ H locs) (hi : vp_in i 3200) (hd : decode cc pc = .ok (.iastore, 1))
    (k : ∀ (H : Heap) (locs : List Loc), gX (dC, dI) (tM kc) (wM ad kc) Z A s (pA σ 16 i v) H locs → W p l e R s m args below meth c H locs cells slots Q (F0 m (pc + 1) ls (rest))) : W p l e R s m args below meth c H locs cells slots Q (F0 m pc ls (.int v :: .int i :: .ref (ad 21) :: rest)) := by
  obtain ⟨hx, hb, hml, hown, hu⟩ := S
  obtain ⟨hK, hP, hD, hS, hA⟩ := X
  exact va_iast hx hb hK hP hD hS 21 20 rfl rfl hi hd (fun H1 locs1 hP1 hD1 hS1 => k H1 locs1 ⟨hK, hP1, hD1, hS1, hA⟩)
theorem wmnA_16 (S : CallFix p m c cc nL s args uG own) (X : gX (dC, dI) (tM kc) (wM ad kc) Z A s σ H locs) (hd : decode cc pc = .ok (.arraylength, 1))
    (k : W p l e R s m args below meth c H locs cells slots Q (F0 m (pc + 1) ls (.int 3200 :: rest))) : W p l e R s m args below meth c H locs cells slots Q (F0 m pc ls (.ref (ad 21) :: rest)) := by
  obtain ⟨hx, hb, hml, hown, hu⟩ := S
  obtain ⟨hK, hP, hD, hS, hA⟩ := X
  exact va_alen (v := 3200) hx hb hK hP 21 20 rfl rfl (show Int32.ofNat 3200 = 3200 by decide) hd k
theorem wmlA_17 {i : Int32} {v : Int32} (S : CallFix p m c cc nL s args uG own) (X : gX (dC, dI) (tM kc) (wM ad kc) Z A s σ H locs) (hi : vp_in i 3200) (hv : xA σ 17 i = v) (hd : decode cc pc = .ok (.iaload, 1))
    (k : W p l e R s m args below meth c H locs cells slots Q (F0 m (pc + 1) ls (.int v :: rest))) : W p l e R s m args below meth c H locs cells slots Q (F0 m pc ls (.int i :: .ref (ad 22) :: rest)) := by
  subst hv
  obtain ⟨hx, hb, hml, hown, hu⟩ := S
  obtain ⟨hK, hP, hD, hS, hA⟩ := X
  exact va_iald hx hb hK hP 22 21 rfl rfl hi hd k
theorem wmsA_17 {i : Int32} {v : Int32} (S : CallFix p m c cc nL s args uG own) (X : gX (dC, dI) (tM kc) (wM ad kc) Z A s σ H locs) (hi : vp_in i 3200) (hd : decode cc pc = .ok (.iastore, 1))
    (k : ∀ (H : Heap) (locs : List Loc), gX (dC, dI) (tM kc) (wM ad kc) Z A s (pA σ 17 i v) H locs → W p l e R s m args below meth c H locs cells slots Q (F0 m (pc + 1) ls (rest))) : W p l e R s m args below meth c H locs cells slots Q (F0 m pc ls (.int v :: .int i :: .ref (ad 22) :: rest)) := by
  obtain ⟨hx, hb, hml, hown, hu⟩ := S
  obtain ⟨hK, hP, hD, hS, hA⟩ := X
  exact va_iast hx hb hK hP hD hS 22 21 rfl rfl hi hd (fun H1 locs1 hP1 hD1 hS1 => k H1 locs1 ⟨hK, hP1, hD1, hS1, hA⟩)
theorem wmnA_17 (S : CallFix p m c cc nL s args uG own) (X : gX (dC, dI) (tM kc) (wM ad kc) Z A s σ H locs) (hd : decode cc pc = .ok (.arraylength, 1))
    (k : W p l e R s m args below meth c H locs cells slots Q (F0 m (pc + 1) ls (.int 3200 :: rest))) : W p l e R s m args below meth c H locs cells slots Q (F0 m pc ls (.ref (ad 22) :: rest)) := by
  obtain ⟨hx, hb, hml, hown, hu⟩ := S
  obtain ⟨hK, hP, hD, hS, hA⟩ := X
  exact va_alen (v := 3200) hx hb hK hP 22 21 rfl rfl (show Int32.ofNat 3200 = 3200 by decide) hd k
theorem wmlA_18 {i : Int32} {v : Int32} (S : CallFix p m c cc nL s args uG own) (X : gX (dC, dI) (tM kc) (wM ad kc) Z A s σ H locs) (hi : vp_in i 3200) (hv : xA σ 18 i = v) (hd : decode cc pc = .ok (.iaload, 1))
    (k : W p l e R s m args below meth c H locs cells slots Q (F0 m (pc + 1) ls (.int v :: rest))) : W p l e R s m args below meth c H locs cells slots Q (F0 m pc ls (.int i :: .ref (ad 23) :: rest)) := by
  subst hv
  obtain ⟨hx, hb, hml, hown, hu⟩ := S
  obtain ⟨hK, hP, hD, hS, hA⟩ := X
  exact va_iald hx hb hK hP 23 22 rfl rfl hi hd k
theorem wmsA_18 {i : Int32} {v : Int32} (S : CallFix p m c cc nL s args uG own) (X : gX (dC, dI) (tM kc) (wM ad kc) Z A s σ H locs) (hi : vp_in i 3200) (hd : decode cc pc = .ok (.iastore, 1))
    (k : ∀ (H : Heap) (locs : List Loc), gX (dC, dI) (tM kc) (wM ad kc) Z A s (pA σ 18 i v) H locs → W p l e R s m args below meth c H locs cells slots Q (F0 m (pc + 1) ls (rest))) : W p l e R s m args below meth c H locs cells slots Q (F0 m pc ls (.int v :: .int i :: .ref (ad 23) :: rest)) := by
  obtain ⟨hx, hb, hml, hown, hu⟩ := S
  obtain ⟨hK, hP, hD, hS, hA⟩ := X
  exact va_iast hx hb hK hP hD hS 23 22 rfl rfl hi hd (fun H1 locs1 hP1 hD1 hS1 => k H1 locs1 ⟨hK, hP1, hD1, hS1, hA⟩)
theorem wmnA_18 (S : CallFix p m c cc nL s args uG own) (X : gX (dC, dI) (tM kc) (wM ad kc) Z A s σ H locs) (hd : decode cc pc = .ok (.arraylength, 1))
    (k : W p l e R s m args below meth c H locs cells slots Q (F0 m (pc + 1) ls (.int 3200 :: rest))) : W p l e R s m args below meth c H locs cells slots Q (F0 m pc ls (.ref (ad 23) :: rest)) := by
  obtain ⟨hx, hb, hml, hown, hu⟩ := S
  obtain ⟨hK, hP, hD, hS, hA⟩ := X
  exact va_alen (v := 3200) hx hb hK hP 23 22 rfl rfl (show Int32.ofNat 3200 = 3200 by decide) hd k
theorem wmlA_19 {i : Int32} {v : Int32} (S : CallFix p m c cc nL s args uG own) (X : gX (dC, dI) (tM kc) (wM ad kc) Z A s σ H locs) (hi : vp_in i 3200) (hv : xA σ 19 i = v) (hd : decode cc pc = .ok (.iaload, 1))
    (k : W p l e R s m args below meth c H locs cells slots Q (F0 m (pc + 1) ls (.int v :: rest))) : W p l e R s m args below meth c H locs cells slots Q (F0 m pc ls (.int i :: .ref (ad 24) :: rest)) := by
  subst hv
  obtain ⟨hx, hb, hml, hown, hu⟩ := S
  obtain ⟨hK, hP, hD, hS, hA⟩ := X
  exact va_iald hx hb hK hP 24 23 rfl rfl hi hd k
theorem wmsA_19 {i : Int32} {v : Int32} (S : CallFix p m c cc nL s args uG own) (X : gX (dC, dI) (tM kc) (wM ad kc) Z A s σ H locs) (hi : vp_in i 3200) (hd : decode cc pc = .ok (.iastore, 1))
    (k : ∀ (H : Heap) (locs : List Loc), gX (dC, dI) (tM kc) (wM ad kc) Z A s (pA σ 19 i v) H locs → W p l e R s m args below meth c H locs cells slots Q (F0 m (pc + 1) ls (rest))) : W p l e R s m args below meth c H locs cells slots Q (F0 m pc ls (.int v :: .int i :: .ref (ad 24) :: rest)) := by
  obtain ⟨hx, hb, hml, hown, hu⟩ := S
  obtain ⟨hK, hP, hD, hS, hA⟩ := X
  exact va_iast hx hb hK hP hD hS 24 23 rfl rfl hi hd (fun H1 locs1 hP1 hD1 hS1 => k H1 locs1 ⟨hK, hP1, hD1, hS1, hA⟩)
theorem wmnA_19 (S : CallFix p m c cc nL s args uG own) (X : gX (dC, dI) (tM kc) (wM ad kc) Z A s σ H locs) (hd : decode cc pc = .ok (.arraylength, 1))
    (k : W p l e R s m args below meth c H locs cells slots Q (F0 m (pc + 1) ls (.int 3200 :: rest))) : W p l e R s m args below meth c H locs cells slots Q (F0 m pc ls (.ref (ad 24) :: rest)) := by
  obtain ⟨hx, hb, hml, hown, hu⟩ := S
  obtain ⟨hK, hP, hD, hS, hA⟩ := X
  exact va_alen (v := 3200) hx hb hK hP 24 23 rfl rfl (show Int32.ofNat 3200 = 3200 by decide) hd k
theorem wmlA_20 {i : Int32} {v : Int32} (S : CallFix p m c cc nL s args uG own) (X : gX (dC, dI) (tM kc) (wM ad kc) Z A s σ H locs) (hi : vp_in i 640) (hv : xA σ 20 i = v) (hd : decode cc pc = .ok (.iaload, 1))
    (k : W p l e R s m args below meth c H locs cells slots Q (F0 m (pc + 1) ls (.int v :: rest))) : W p l e R s m args below meth c H locs cells slots Q (F0 m pc ls (.int i :: .ref (ad 25) :: rest)) := by
  subst hv
  obtain ⟨hx, hb, hml, hown, hu⟩ := S
  obtain ⟨hK, hP, hD, hS, hA⟩ := X
  exact va_iald hx hb hK hP 25 24 rfl rfl hi hd k
theorem wmsA_20 {i : Int32} {v : Int32} (S : CallFix p m c cc nL s args uG own) (X : gX (dC, dI) (tM kc) (wM ad kc) Z A s σ H locs) (hi : vp_in i 640) (hd : decode cc pc = .ok (.iastore, 1))
    (k : ∀ (H : Heap) (locs : List Loc), gX (dC, dI) (tM kc) (wM ad kc) Z A s (pA σ 20 i v) H locs → W p l e R s m args below meth c H locs cells slots Q (F0 m (pc + 1) ls (rest))) : W p l e R s m args below meth c H locs cells slots Q (F0 m pc ls (.int v :: .int i :: .ref (ad 25) :: rest)) := by
  obtain ⟨hx, hb, hml, hown, hu⟩ := S
  obtain ⟨hK, hP, hD, hS, hA⟩ := X
  exact va_iast hx hb hK hP hD hS 25 24 rfl rfl hi hd (fun H1 locs1 hP1 hD1 hS1 => k H1 locs1 ⟨hK, hP1, hD1, hS1, hA⟩)
theorem wmnA_20 (S : CallFix p m c cc nL s args uG own) (X : gX (dC, dI) (tM kc) (wM ad kc) Z A s σ H locs) (hd : decode cc pc = .ok (.arraylength, 1))
    (k : W p l e R s m args below meth c H locs cells slots Q (F0 m (pc + 1) ls (.int 640 :: rest))) : W p l e R s m args below meth c H locs cells slots Q (F0 m pc ls (.ref (ad 25) :: rest)) := by
  obtain ⟨hx, hb, hml, hown, hu⟩ := S
  obtain ⟨hK, hP, hD, hS, hA⟩ := X
  exact va_alen (v := 640) hx hb hK hP 25 24 rfl rfl (show Int32.ofNat 640 = 640 by decide) hd k
theorem wmlA_21 {i : Int32} {v : Int32} (S : CallFix p m c cc nL s args uG own) (X : gX (dC, dI) (tM kc) (wM ad kc) Z A s σ H locs) (hi : vp_in i 5760) (hv : xA σ 21 i = v) (hd : decode cc pc = .ok (.iaload, 1))
    (k : W p l e R s m args below meth c H locs cells slots Q (F0 m (pc + 1) ls (.int v :: rest))) : W p l e R s m args below meth c H locs cells slots Q (F0 m pc ls (.int i :: .ref (ad 26) :: rest)) := by
  subst hv
  obtain ⟨hx, hb, hml, hown, hu⟩ := S
  obtain ⟨hK, hP, hD, hS, hA⟩ := X
  exact va_iald hx hb hK hP 26 25 rfl rfl hi hd k
theorem wmsA_21 {i : Int32} {v : Int32} (S : CallFix p m c cc nL s args uG own) (X : gX (dC, dI) (tM kc) (wM ad kc) Z A s σ H locs) (hi : vp_in i 5760) (hd : decode cc pc = .ok (.iastore, 1))
    (k : ∀ (H : Heap) (locs : List Loc), gX (dC, dI) (tM kc) (wM ad kc) Z A s (pA σ 21 i v) H locs → W p l e R s m args below meth c H locs cells slots Q (F0 m (pc + 1) ls (rest))) : W p l e R s m args below meth c H locs cells slots Q (F0 m pc ls (.int v :: .int i :: .ref (ad 26) :: rest)) := by
  obtain ⟨hx, hb, hml, hown, hu⟩ := S
  obtain ⟨hK, hP, hD, hS, hA⟩ := X
  exact va_iast hx hb hK hP hD hS 26 25 rfl rfl hi hd (fun H1 locs1 hP1 hD1 hS1 => k H1 locs1 ⟨hK, hP1, hD1, hS1, hA⟩)
theorem wmnA_21 (S : CallFix p m c cc nL s args uG own) (X : gX (dC, dI) (tM kc) (wM ad kc) Z A s σ H locs) (hd : decode cc pc = .ok (.arraylength, 1))
    (k : W p l e R s m args below meth c H locs cells slots Q (F0 m (pc + 1) ls (.int 5760 :: rest))) : W p l e R s m args below meth c H locs cells slots Q (F0 m pc ls (.ref (ad 26) :: rest)) := by
  obtain ⟨hx, hb, hml, hown, hu⟩ := S
  obtain ⟨hK, hP, hD, hS, hA⟩ := X
  exact va_alen (v := 5760) hx hb hK hP 26 25 rfl rfl (show Int32.ofNat 5760 = 5760 by decide) hd k
theorem wmlA_22 {i : Int32} {v : Int32} (S : CallFix p m c cc nL s args uG own) (X : gX (dC, dI) (tM kc) (wM ad kc) Z A s σ H locs) (hi : vp_in i 3200) (hv : xA σ 22 i = v) (hd : decode cc pc = .ok (.iaload, 1))
    (k : W p l e R s m args below meth c H locs cells slots Q (F0 m (pc + 1) ls (.int v :: rest))) : W p l e R s m args below meth c H locs cells slots Q (F0 m pc ls (.int i :: .ref (ad 27) :: rest)) := by
  subst hv
  obtain ⟨hx, hb, hml, hown, hu⟩ := S
  obtain ⟨hK, hP, hD, hS, hA⟩ := X
  exact va_iald hx hb hK hP 27 26 rfl rfl hi hd k
theorem wmsA_22 {i : Int32} {v : Int32} (S : CallFix p m c cc nL s args uG own) (X : gX (dC, dI) (tM kc) (wM ad kc) Z A s σ H locs) (hi : vp_in i 3200) (hd : decode cc pc = .ok (.iastore, 1))
    (k : ∀ (H : Heap) (locs : List Loc), gX (dC, dI) (tM kc) (wM ad kc) Z A s (pA σ 22 i v) H locs → W p l e R s m args below meth c H locs cells slots Q (F0 m (pc + 1) ls (rest))) : W p l e R s m args below meth c H locs cells slots Q (F0 m pc ls (.int v :: .int i :: .ref (ad 27) :: rest)) := by
  obtain ⟨hx, hb, hml, hown, hu⟩ := S
  obtain ⟨hK, hP, hD, hS, hA⟩ := X
  exact va_iast hx hb hK hP hD hS 27 26 rfl rfl hi hd (fun H1 locs1 hP1 hD1 hS1 => k H1 locs1 ⟨hK, hP1, hD1, hS1, hA⟩)
theorem wmnA_22 (S : CallFix p m c cc nL s args uG own) (X : gX (dC, dI) (tM kc) (wM ad kc) Z A s σ H locs) (hd : decode cc pc = .ok (.arraylength, 1))
    (k : W p l e R s m args below meth c H locs cells slots Q (F0 m (pc + 1) ls (.int 3200 :: rest))) : W p l e R s m args below meth c H locs cells slots Q (F0 m pc ls (.ref (ad 27) :: rest)) := by
  obtain ⟨hx, hb, hml, hown, hu⟩ := S
  obtain ⟨hK, hP, hD, hS, hA⟩ := X
  exact va_alen (v := 3200) hx hb hK hP 27 26 rfl rfl (show Int32.ofNat 3200 = 3200 by decide) hd k
theorem wmlA_23 {i : Int32} {v : Int32} (S : CallFix p m c cc nL s args uG own) (X : gX (dC, dI) (tM kc) (wM ad kc) Z A s σ H locs) (hi : vp_in i 3200) (hv : xA σ 23 i = v) (hd : decode cc pc = .ok (.iaload, 1))
    (k : W p l e R s m args below meth c H locs cells slots Q (F0 m (pc + 1) ls (.int v :: rest))) : W p l e R s m args below meth c H locs cells slots Q (F0 m pc ls (.int i :: .ref (ad 28) :: rest)) := by
  subst hv
  obtain ⟨hx, hb, hml, hown, hu⟩ := S
  obtain ⟨hK, hP, hD, hS, hA⟩ := X
  exact va_iald hx hb hK hP 28 27 rfl rfl hi hd k
theorem wmsA_23 {i : Int32} {v : Int32} (S : CallFix p m c cc nL s args uG own) (X : gX (dC, dI) (tM kc) (wM ad kc) Z A s σ H locs) (hi : vp_in i 3200) (hd : decode cc pc = .ok (.iastore, 1))
    (k : ∀ (H : Heap) (locs : List Loc), gX (dC, dI) (tM kc) (wM ad kc) Z A s (pA σ 23 i v) H locs → W p l e R s m args below meth c H locs cells slots Q (F0 m (pc + 1) ls (rest))) : W p l e R s m args below meth c H locs cells slots Q (F0 m pc ls (.int v :: .int i :: .ref (ad 28) :: rest)) := by
  obtain ⟨hx, hb, hml, hown, hu⟩ := S
  obtain ⟨hK, hP, hD, hS, hA⟩ := X
  exact va_iast hx hb hK hP hD hS 28 27 rfl rfl hi hd (fun H1 locs1 hP1 hD1 hS1 => k H1 locs1 ⟨hK, hP1, hD1, hS1, hA⟩)
theorem wmnA_23 (S : CallFix p m c cc nL s args uG own) (X : gX (dC, dI) (tM kc) (wM ad kc) Z A s σ H locs) (hd : decode cc pc = .ok (.arraylength, 1))
    (k : W p l e R s m args below meth c H locs cells slots Q (F0 m (pc + 1) ls (.int 3200 :: rest))) : W p l e R s m args below meth c H locs cells slots Q (F0 m pc ls (.ref (ad 28) :: rest)) := by
  obtain ⟨hx, hb, hml, hown, hu⟩ := S
  obtain ⟨hK, hP, hD, hS, hA⟩ := X
  exact va_alen (v := 3200) hx hb hK hP 28 27 rfl rfl (show Int32.ofNat 3200 = 3200 by decide) hd k
theorem wmlA_24 {i : Int32} {v : Int32} (S : CallFix p m c cc nL s args uG own) (X : gX (dC, dI) (tM kc) (wM ad kc) Z A s σ H locs) (hi : vp_in i 640) (hv : xA σ 24 i = v) (hd : decode cc pc = .ok (.iaload, 1))
    (k : W p l e R s m args below meth c H locs cells slots Q (F0 m (pc + 1) ls (.int v :: rest))) : W p l e R s m args below meth c H locs cells slots Q (F0 m pc ls (.int i :: .ref (ad 29) :: rest)) := by
  subst hv
  obtain ⟨hx, hb, hml, hown, hu⟩ := S
  obtain ⟨hK, hP, hD, hS, hA⟩ := X
  exact va_iald hx hb hK hP 29 28 rfl rfl hi hd k
theorem wmsA_24 {i : Int32} {v : Int32} (S : CallFix p m c cc nL s args uG own) (X : gX (dC, dI) (tM kc) (wM ad kc) Z A s σ H locs) (hi : vp_in i 640) (hd : decode cc pc = .ok (.iastore, 1))
    (k : ∀ (H : Heap) (locs : List Loc), gX (dC, dI) (tM kc) (wM ad kc) Z A s (pA σ 24 i v) H locs → W p l e R s m args below meth c H locs cells slots Q (F0 m (pc + 1) ls (rest))) : W p l e R s m args below meth c H locs cells slots Q (F0 m pc ls (.int v :: .int i :: .ref (ad 29) :: rest)) := by
  obtain ⟨hx, hb, hml, hown, hu⟩ := S
  obtain ⟨hK, hP, hD, hS, hA⟩ := X
  exact va_iast hx hb hK hP hD hS 29 28 rfl rfl hi hd (fun H1 locs1 hP1 hD1 hS1 => k H1 locs1 ⟨hK, hP1, hD1, hS1, hA⟩)
theorem wmnA_24 (S : CallFix p m c cc nL s args uG own) (X : gX (dC, dI) (tM kc) (wM ad kc) Z A s σ H locs) (hd : decode cc pc = .ok (.arraylength, 1))
    (k : W p l e R s m args below meth c H locs cells slots Q (F0 m (pc + 1) ls (.int 640 :: rest))) : W p l e R s m args below meth c H locs cells slots Q (F0 m pc ls (.ref (ad 29) :: rest)) := by
  obtain ⟨hx, hb, hml, hown, hu⟩ := S
  obtain ⟨hK, hP, hD, hS, hA⟩ := X
  exact va_alen (v := 640) hx hb hK hP 29 28 rfl rfl (show Int32.ofNat 640 = 640 by decide) hd k
theorem wmlA_25 {i : Int32} {v : Int32} (S : CallFix p m c cc nL s args uG own) (X : gX (dC, dI) (tM kc) (wM ad kc) Z A s σ H locs) (hi : vp_in i 3200) (hv : xA σ 25 i = v) (hd : decode cc pc = .ok (.iaload, 1))
    (k : W p l e R s m args below meth c H locs cells slots Q (F0 m (pc + 1) ls (.int v :: rest))) : W p l e R s m args below meth c H locs cells slots Q (F0 m pc ls (.int i :: .ref (ad 30) :: rest)) := by
  subst hv
  obtain ⟨hx, hb, hml, hown, hu⟩ := S
  obtain ⟨hK, hP, hD, hS, hA⟩ := X
  exact va_iald hx hb hK hP 30 29 rfl rfl hi hd k
theorem wmsA_25 {i : Int32} {v : Int32} (S : CallFix p m c cc nL s args uG own) (X : gX (dC, dI) (tM kc) (wM ad kc) Z A s σ H locs) (hi : vp_in i 3200) (hd : decode cc pc = .ok (.iastore, 1))
    (k : ∀ (H : Heap) (locs : List Loc), gX (dC, dI) (tM kc) (wM ad kc) Z A s (pA σ 25 i v) H locs → W p l e R s m args below meth c H locs cells slots Q (F0 m (pc + 1) ls (rest))) : W p l e R s m args below meth c H locs cells slots Q (F0 m pc ls (.int v :: .int i :: .ref (ad 30) :: rest)) := by
  obtain ⟨hx, hb, hml, hown, hu⟩ := S
  obtain ⟨hK, hP, hD, hS, hA⟩ := X
  exact va_iast hx hb hK hP hD hS 30 29 rfl rfl hi hd (fun H1 locs1 hP1 hD1 hS1 => k H1 locs1 ⟨hK, hP1, hD1, hS1, hA⟩)
theorem wmnA_25 (S : CallFix p m c cc nL s args uG own) (X : gX (dC, dI) (tM kc) (wM ad kc) Z A s σ H locs) (hd : decode cc pc = .ok (.arraylength, 1))
    (k : W p l e R s m args below meth c H locs cells slots Q (F0 m (pc + 1) ls (.int 3200 :: rest))) : W p l e R s m args below meth c H locs cells slots Q (F0 m pc ls (.ref (ad 30) :: rest)) := by
  obtain ⟨hx, hb, hml, hown, hu⟩ := S
  obtain ⟨hK, hP, hD, hS, hA⟩ := X
  exact va_alen (v := 3200) hx hb hK hP 30 29 rfl rfl (show Int32.ofNat 3200 = 3200 by decide) hd k
theorem wmlB_4 {i : Int32} {v : Int64} (S : CallFix p m c cc nL s args uG own) (X : gX (dC, dI) (tM kc) (wM ad kc) Z A s σ H locs) (hi : vp_in i 3200) (hv : xB σ 4 i = v) (hd : decode cc pc = .ok (.laload, 1))
    (k : W p l e R s m args below meth c H locs cells slots Q (F0 m (pc + 1) ls (.long v :: rest))) : W p l e R s m args below meth c H locs cells slots Q (F0 m pc ls (.int i :: .ref (ad 31) :: rest)) := by
  subst hv
  obtain ⟨hx, hb, hml, hown, hu⟩ := S
  obtain ⟨hK, hP, hD, hS, hA⟩ := X
  exact va_lald hx hb hK hP 31 30 rfl rfl hi hd k
theorem wmsB_4 {i : Int32} {v : Int64} (S : CallFix p m c cc nL s args uG own) (X : gX (dC, dI) (tM kc) (wM ad kc) Z A s σ H locs) (hi : vp_in i 3200) (hd : decode cc pc = .ok (.lastore, 1))
    (k : ∀ (H : Heap) (locs : List Loc), gX (dC, dI) (tM kc) (wM ad kc) Z A s (pB σ 4 i v) H locs → W p l e R s m args below meth c H locs cells slots Q (F0 m (pc + 1) ls (rest))) : W p l e R s m args below meth c H locs cells slots Q (F0 m pc ls (.long v :: .int i :: .ref (ad 31) :: rest)) := by
  obtain ⟨hx, hb, hml, hown, hu⟩ := S
  obtain ⟨hK, hP, hD, hS, hA⟩ := X
  exact va_last hx hb hK hP hD hS 31 30 rfl rfl hi hd (fun H1 locs1 hP1 hD1 hS1 => k H1 locs1 ⟨hK, hP1, hD1, hS1, hA⟩)
theorem wmnB_4 (S : CallFix p m c cc nL s args uG own) (X : gX (dC, dI) (tM kc) (wM ad kc) Z A s σ H locs) (hd : decode cc pc = .ok (.arraylength, 1))
    (k : W p l e R s m args below meth c H locs cells slots Q (F0 m (pc + 1) ls (.int 3200 :: rest))) : W p l e R s m args below meth c H locs cells slots Q (F0 m pc ls (.ref (ad 31) :: rest)) := by
  obtain ⟨hx, hb, hml, hown, hu⟩ := S
  obtain ⟨hK, hP, hD, hS, hA⟩ := X
  exact va_alen (v := 3200) hx hb hK hP 31 30 rfl rfl (show Int32.ofNat 3200 = 3200 by decide) hd k
theorem wmlA_26 {i : Int32} {v : Int32} (S : CallFix p m c cc nL s args uG own) (X : gX (dC, dI) (tM kc) (wM ad kc) Z A s σ H locs) (hi : vp_in i 3200) (hv : xA σ 26 i = v) (hd : decode cc pc = .ok (.iaload, 1))
    (k : W p l e R s m args below meth c H locs cells slots Q (F0 m (pc + 1) ls (.int v :: rest))) : W p l e R s m args below meth c H locs cells slots Q (F0 m pc ls (.int i :: .ref (ad 32) :: rest)) := by
  subst hv
  obtain ⟨hx, hb, hml, hown, hu⟩ := S
  obtain ⟨hK, hP, hD, hS, hA⟩ := X
  exact va_iald hx hb hK hP 32 31 rfl rfl hi hd k
theorem wmsA_26 {i : Int32} {v : Int32} (S : CallFix p m c cc nL s args uG own) (X : gX (dC, dI) (tM kc) (wM ad kc) Z A s σ H locs) (hi : vp_in i 3200) (hd : decode cc pc = .ok (.iastore, 1))
    (k : ∀ (H : Heap) (locs : List Loc), gX (dC, dI) (tM kc) (wM ad kc) Z A s (pA σ 26 i v) H locs → W p l e R s m args below meth c H locs cells slots Q (F0 m (pc + 1) ls (rest))) : W p l e R s m args below meth c H locs cells slots Q (F0 m pc ls (.int v :: .int i :: .ref (ad 32) :: rest)) := by
  obtain ⟨hx, hb, hml, hown, hu⟩ := S
  obtain ⟨hK, hP, hD, hS, hA⟩ := X
  exact va_iast hx hb hK hP hD hS 32 31 rfl rfl hi hd (fun H1 locs1 hP1 hD1 hS1 => k H1 locs1 ⟨hK, hP1, hD1, hS1, hA⟩)
theorem wmnA_26 (S : CallFix p m c cc nL s args uG own) (X : gX (dC, dI) (tM kc) (wM ad kc) Z A s σ H locs) (hd : decode cc pc = .ok (.arraylength, 1))
    (k : W p l e R s m args below meth c H locs cells slots Q (F0 m (pc + 1) ls (.int 3200 :: rest))) : W p l e R s m args below meth c H locs cells slots Q (F0 m pc ls (.ref (ad 32) :: rest)) := by
  obtain ⟨hx, hb, hml, hown, hu⟩ := S
  obtain ⟨hK, hP, hD, hS, hA⟩ := X
  exact va_alen (v := 3200) hx hb hK hP 32 31 rfl rfl (show Int32.ofNat 3200 = 3200 by decide) hd k
theorem wmlA_27 {i : Int32} {v : Int32} (S : CallFix p m c cc nL s args uG own) (X : gX (dC, dI) (tM kc) (wM ad kc) Z A s σ H locs) (hi : vp_in i 64) (hv : xA σ 27 i = v) (hd : decode cc pc = .ok (.iaload, 1))
    (k : W p l e R s m args below meth c H locs cells slots Q (F0 m (pc + 1) ls (.int v :: rest))) : W p l e R s m args below meth c H locs cells slots Q (F0 m pc ls (.int i :: .ref (ad 33) :: rest)) := by
  subst hv
  obtain ⟨hx, hb, hml, hown, hu⟩ := S
  obtain ⟨hK, hP, hD, hS, hA⟩ := X
  exact va_iald hx hb hK hP 33 32 rfl rfl hi hd k
theorem wmsA_27 {i : Int32} {v : Int32} (S : CallFix p m c cc nL s args uG own) (X : gX (dC, dI) (tM kc) (wM ad kc) Z A s σ H locs) (hi : vp_in i 64) (hd : decode cc pc = .ok (.iastore, 1))
    (k : ∀ (H : Heap) (locs : List Loc), gX (dC, dI) (tM kc) (wM ad kc) Z A s (pA σ 27 i v) H locs → W p l e R s m args below meth c H locs cells slots Q (F0 m (pc + 1) ls (rest))) : W p l e R s m args below meth c H locs cells slots Q (F0 m pc ls (.int v :: .int i :: .ref (ad 33) :: rest)) := by
  obtain ⟨hx, hb, hml, hown, hu⟩ := S
  obtain ⟨hK, hP, hD, hS, hA⟩ := X
  exact va_iast hx hb hK hP hD hS 33 32 rfl rfl hi hd (fun H1 locs1 hP1 hD1 hS1 => k H1 locs1 ⟨hK, hP1, hD1, hS1, hA⟩)
theorem wmnA_27 (S : CallFix p m c cc nL s args uG own) (X : gX (dC, dI) (tM kc) (wM ad kc) Z A s σ H locs) (hd : decode cc pc = .ok (.arraylength, 1))
    (k : W p l e R s m args below meth c H locs cells slots Q (F0 m (pc + 1) ls (.int 64 :: rest))) : W p l e R s m args below meth c H locs cells slots Q (F0 m pc ls (.ref (ad 33) :: rest)) := by
  obtain ⟨hx, hb, hml, hown, hu⟩ := S
  obtain ⟨hK, hP, hD, hS, hA⟩ := X
  exact va_alen (v := 64) hx hb hK hP 33 32 rfl rfl (show Int32.ofNat 64 = 64 by decide) hd k
theorem wmlA_28 {i : Int32} {v : Int32} (S : CallFix p m c cc nL s args uG own) (X : gX (dC, dI) (tM kc) (wM ad kc) Z A s σ H locs) (hi : vp_in i 3200) (hv : xA σ 28 i = v) (hd : decode cc pc = .ok (.iaload, 1))
    (k : W p l e R s m args below meth c H locs cells slots Q (F0 m (pc + 1) ls (.int v :: rest))) : W p l e R s m args below meth c H locs cells slots Q (F0 m pc ls (.int i :: .ref (ad 34) :: rest)) := by
  subst hv
  obtain ⟨hx, hb, hml, hown, hu⟩ := S
  obtain ⟨hK, hP, hD, hS, hA⟩ := X
  exact va_iald hx hb hK hP 34 33 rfl rfl hi hd k
theorem wmsA_28 {i : Int32} {v : Int32} (S : CallFix p m c cc nL s args uG own) (X : gX (dC, dI) (tM kc) (wM ad kc) Z A s σ H locs) (hi : vp_in i 3200) (hd : decode cc pc = .ok (.iastore, 1))
    (k : ∀ (H : Heap) (locs : List Loc), gX (dC, dI) (tM kc) (wM ad kc) Z A s (pA σ 28 i v) H locs → W p l e R s m args below meth c H locs cells slots Q (F0 m (pc + 1) ls (rest))) : W p l e R s m args below meth c H locs cells slots Q (F0 m pc ls (.int v :: .int i :: .ref (ad 34) :: rest)) := by
  obtain ⟨hx, hb, hml, hown, hu⟩ := S
  obtain ⟨hK, hP, hD, hS, hA⟩ := X
  exact va_iast hx hb hK hP hD hS 34 33 rfl rfl hi hd (fun H1 locs1 hP1 hD1 hS1 => k H1 locs1 ⟨hK, hP1, hD1, hS1, hA⟩)
theorem wmnA_28 (S : CallFix p m c cc nL s args uG own) (X : gX (dC, dI) (tM kc) (wM ad kc) Z A s σ H locs) (hd : decode cc pc = .ok (.arraylength, 1))
    (k : W p l e R s m args below meth c H locs cells slots Q (F0 m (pc + 1) ls (.int 3200 :: rest))) : W p l e R s m args below meth c H locs cells slots Q (F0 m pc ls (.ref (ad 34) :: rest)) := by
  obtain ⟨hx, hb, hml, hown, hu⟩ := S
  obtain ⟨hK, hP, hD, hS, hA⟩ := X
  exact va_alen (v := 3200) hx hb hK hP 34 33 rfl rfl (show Int32.ofNat 3200 = 3200 by decide) hd k
theorem wmlA_29 {i : Int32} {v : Int32} (S : CallFix p m c cc nL s args uG own) (X : gX (dC, dI) (tM kc) (wM ad kc) Z A s σ H locs) (hi : vp_in i 3200) (hv : xA σ 29 i = v) (hd : decode cc pc = .ok (.iaload, 1))
    (k : W p l e R s m args below meth c H locs cells slots Q (F0 m (pc + 1) ls (.int v :: rest))) : W p l e R s m args below meth c H locs cells slots Q (F0 m pc ls (.int i :: .ref (ad 35) :: rest)) := by
  subst hv
  obtain ⟨hx, hb, hml, hown, hu⟩ := S
  obtain ⟨hK, hP, hD, hS, hA⟩ := X
  exact va_iald hx hb hK hP 35 34 rfl rfl hi hd k
theorem wmsA_29 {i : Int32} {v : Int32} (S : CallFix p m c cc nL s args uG own) (X : gX (dC, dI) (tM kc) (wM ad kc) Z A s σ H locs) (hi : vp_in i 3200) (hd : decode cc pc = .ok (.iastore, 1))
    (k : ∀ (H : Heap) (locs : List Loc), gX (dC, dI) (tM kc) (wM ad kc) Z A s (pA σ 29 i v) H locs → W p l e R s m args below meth c H locs cells slots Q (F0 m (pc + 1) ls (rest))) : W p l e R s m args below meth c H locs cells slots Q (F0 m pc ls (.int v :: .int i :: .ref (ad 35) :: rest)) := by
  obtain ⟨hx, hb, hml, hown, hu⟩ := S
  obtain ⟨hK, hP, hD, hS, hA⟩ := X
  exact va_iast hx hb hK hP hD hS 35 34 rfl rfl hi hd (fun H1 locs1 hP1 hD1 hS1 => k H1 locs1 ⟨hK, hP1, hD1, hS1, hA⟩)
theorem wmnA_29 (S : CallFix p m c cc nL s args uG own) (X : gX (dC, dI) (tM kc) (wM ad kc) Z A s σ H locs) (hd : decode cc pc = .ok (.arraylength, 1))
    (k : W p l e R s m args below meth c H locs cells slots Q (F0 m (pc + 1) ls (.int 3200 :: rest))) : W p l e R s m args below meth c H locs cells slots Q (F0 m pc ls (.ref (ad 35) :: rest)) := by
  obtain ⟨hx, hb, hml, hown, hu⟩ := S
  obtain ⟨hK, hP, hD, hS, hA⟩ := X
  exact va_alen (v := 3200) hx hb hK hP 35 34 rfl rfl (show Int32.ofNat 3200 = 3200 by decide) hd k
theorem wmlA_30 {i : Int32} {v : Int32} (S : CallFix p m c cc nL s args uG own) (X : gX (dC, dI) (tM kc) (wM ad kc) Z A s σ H locs) (hi : vp_in i 3200) (hv : xA σ 30 i = v) (hd : decode cc pc = .ok (.iaload, 1))
    (k : W p l e R s m args below meth c H locs cells slots Q (F0 m (pc + 1) ls (.int v :: rest))) : W p l e R s m args below meth c H locs cells slots Q (F0 m pc ls (.int i :: .ref (ad 36) :: rest)) := by
  subst hv
  obtain ⟨hx, hb, hml, hown, hu⟩ := S
  obtain ⟨hK, hP, hD, hS, hA⟩ := X
  exact va_iald hx hb hK hP 36 35 rfl rfl hi hd k
theorem wmsA_30 {i : Int32} {v : Int32} (S : CallFix p m c cc nL s args uG own) (X : gX (dC, dI) (tM kc) (wM ad kc) Z A s σ H locs) (hi : vp_in i 3200) (hd : decode cc pc = .ok (.iastore, 1))
    (k : ∀ (H : Heap) (locs : List Loc), gX (dC, dI) (tM kc) (wM ad kc) Z A s (pA σ 30 i v) H locs → W p l e R s m args below meth c H locs cells slots Q (F0 m (pc + 1) ls (rest))) : W p l e R s m args below meth c H locs cells slots Q (F0 m pc ls (.int v :: .int i :: .ref (ad 36) :: rest)) := by
  obtain ⟨hx, hb, hml, hown, hu⟩ := S
  obtain ⟨hK, hP, hD, hS, hA⟩ := X
  exact va_iast hx hb hK hP hD hS 36 35 rfl rfl hi hd (fun H1 locs1 hP1 hD1 hS1 => k H1 locs1 ⟨hK, hP1, hD1, hS1, hA⟩)
theorem wmnA_30 (S : CallFix p m c cc nL s args uG own) (X : gX (dC, dI) (tM kc) (wM ad kc) Z A s σ H locs) (hd : decode cc pc = .ok (.arraylength, 1))
    (k : W p l e R s m args below meth c H locs cells slots Q (F0 m (pc + 1) ls (.int 3200 :: rest))) : W p l e R s m args below meth c H locs cells slots Q (F0 m pc ls (.ref (ad 36) :: rest)) := by
  obtain ⟨hx, hb, hml, hown, hu⟩ := S
  obtain ⟨hK, hP, hD, hS, hA⟩ := X
  exact va_alen (v := 3200) hx hb hK hP 36 35 rfl rfl (show Int32.ofNat 3200 = 3200 by decide) hd k
theorem wmlA_31 {i : Int32} {v : Int32} (S : CallFix p m c cc nL s args uG own) (X : gX (dC, dI) (tM kc) (wM ad kc) Z A s σ H locs) (hi : vp_in i 7000) (hv : xA σ 31 i = v) (hd : decode cc pc = .ok (.iaload, 1))
    (k : W p l e R s m args below meth c H locs cells slots Q (F0 m (pc + 1) ls (.int v :: rest))) : W p l e R s m args below meth c H locs cells slots Q (F0 m pc ls (.int i :: .ref (ad 37) :: rest)) := by
  subst hv
  obtain ⟨hx, hb, hml, hown, hu⟩ := S
  obtain ⟨hK, hP, hD, hS, hA⟩ := X
  exact va_iald hx hb hK hP 37 36 rfl rfl hi hd k
theorem wmsA_31 {i : Int32} {v : Int32} (S : CallFix p m c cc nL s args uG own) (X : gX (dC, dI) (tM kc) (wM ad kc) Z A s σ H locs) (hi : vp_in i 7000) (hd : decode cc pc = .ok (.iastore, 1))
    (k : ∀ (H : Heap) (locs : List Loc), gX (dC, dI) (tM kc) (wM ad kc) Z A s (pA σ 31 i v) H locs → W p l e R s m args below meth c H locs cells slots Q (F0 m (pc + 1) ls (rest))) : W p l e R s m args below meth c H locs cells slots Q (F0 m pc ls (.int v :: .int i :: .ref (ad 37) :: rest)) := by
  obtain ⟨hx, hb, hml, hown, hu⟩ := S
  obtain ⟨hK, hP, hD, hS, hA⟩ := X
  exact va_iast hx hb hK hP hD hS 37 36 rfl rfl hi hd (fun H1 locs1 hP1 hD1 hS1 => k H1 locs1 ⟨hK, hP1, hD1, hS1, hA⟩)
theorem wmnA_31 (S : CallFix p m c cc nL s args uG own) (X : gX (dC, dI) (tM kc) (wM ad kc) Z A s σ H locs) (hd : decode cc pc = .ok (.arraylength, 1))
    (k : W p l e R s m args below meth c H locs cells slots Q (F0 m (pc + 1) ls (.int 7000 :: rest))) : W p l e R s m args below meth c H locs cells slots Q (F0 m pc ls (.ref (ad 37) :: rest)) := by
  obtain ⟨hx, hb, hml, hown, hu⟩ := S
  obtain ⟨hK, hP, hD, hS, hA⟩ := X
  exact va_alen (v := 7000) hx hb hK hP 37 36 rfl rfl (show Int32.ofNat 7000 = 7000 by decide) hd k
theorem wmlA_32 {i : Int32} {v : Int32} (S : CallFix p m c cc nL s args uG own) (X : gX (dC, dI) (tM kc) (wM ad kc) Z A s σ H locs) (hi : vp_in i 7000) (hv : xA σ 32 i = v) (hd : decode cc pc = .ok (.iaload, 1))
    (k : W p l e R s m args below meth c H locs cells slots Q (F0 m (pc + 1) ls (.int v :: rest))) : W p l e R s m args below meth c H locs cells slots Q (F0 m pc ls (.int i :: .ref (ad 38) :: rest)) := by
  subst hv
  obtain ⟨hx, hb, hml, hown, hu⟩ := S
  obtain ⟨hK, hP, hD, hS, hA⟩ := X
  exact va_iald hx hb hK hP 38 37 rfl rfl hi hd k
theorem wmsA_32 {i : Int32} {v : Int32} (S : CallFix p m c cc nL s args uG own) (X : gX (dC, dI) (tM kc) (wM ad kc) Z A s σ H locs) (hi : vp_in i 7000) (hd : decode cc pc = .ok (.iastore, 1))
    (k : ∀ (H : Heap) (locs : List Loc), gX (dC, dI) (tM kc) (wM ad kc) Z A s (pA σ 32 i v) H locs → W p l e R s m args below meth c H locs cells slots Q (F0 m (pc + 1) ls (rest))) : W p l e R s m args below meth c H locs cells slots Q (F0 m pc ls (.int v :: .int i :: .ref (ad 38) :: rest)) := by
  obtain ⟨hx, hb, hml, hown, hu⟩ := S
  obtain ⟨hK, hP, hD, hS, hA⟩ := X
  exact va_iast hx hb hK hP hD hS 38 37 rfl rfl hi hd (fun H1 locs1 hP1 hD1 hS1 => k H1 locs1 ⟨hK, hP1, hD1, hS1, hA⟩)
theorem wmnA_32 (S : CallFix p m c cc nL s args uG own) (X : gX (dC, dI) (tM kc) (wM ad kc) Z A s σ H locs) (hd : decode cc pc = .ok (.arraylength, 1))
    (k : W p l e R s m args below meth c H locs cells slots Q (F0 m (pc + 1) ls (.int 7000 :: rest))) : W p l e R s m args below meth c H locs cells slots Q (F0 m pc ls (.ref (ad 38) :: rest)) := by
  obtain ⟨hx, hb, hml, hown, hu⟩ := S
  obtain ⟨hK, hP, hD, hS, hA⟩ := X
  exact va_alen (v := 7000) hx hb hK hP 38 37 rfl rfl (show Int32.ofNat 7000 = 7000 by decide) hd k
theorem wmlA_33 {i : Int32} {v : Int32} (S : CallFix p m c cc nL s args uG own) (X : gX (dC, dI) (tM kc) (wM ad kc) Z A s σ H locs) (hi : vp_in i 7000) (hv : xA σ 33 i = v) (hd : decode cc pc = .ok (.iaload, 1))
    (k : W p l e R s m args below meth c H locs cells slots Q (F0 m (pc + 1) ls (.int v :: rest))) : W p l e R s m args below meth c H locs cells slots Q (F0 m pc ls (.int i :: .ref (ad 39) :: rest)) := by
  subst hv
  obtain ⟨hx, hb, hml, hown, hu⟩ := S
  obtain ⟨hK, hP, hD, hS, hA⟩ := X
  exact va_iald hx hb hK hP 39 38 rfl rfl hi hd k
theorem wmsA_33 {i : Int32} {v : Int32} (S : CallFix p m c cc nL s args uG own) (X : gX (dC, dI) (tM kc) (wM ad kc) Z A s σ H locs) (hi : vp_in i 7000) (hd : decode cc pc = .ok (.iastore, 1))
    (k : ∀ (H : Heap) (locs : List Loc), gX (dC, dI) (tM kc) (wM ad kc) Z A s (pA σ 33 i v) H locs → W p l e R s m args below meth c H locs cells slots Q (F0 m (pc + 1) ls (rest))) : W p l e R s m args below meth c H locs cells slots Q (F0 m pc ls (.int v :: .int i :: .ref (ad 39) :: rest)) := by
  obtain ⟨hx, hb, hml, hown, hu⟩ := S
  obtain ⟨hK, hP, hD, hS, hA⟩ := X
  exact va_iast hx hb hK hP hD hS 39 38 rfl rfl hi hd (fun H1 locs1 hP1 hD1 hS1 => k H1 locs1 ⟨hK, hP1, hD1, hS1, hA⟩)
theorem wmnA_33 (S : CallFix p m c cc nL s args uG own) (X : gX (dC, dI) (tM kc) (wM ad kc) Z A s σ H locs) (hd : decode cc pc = .ok (.arraylength, 1))
    (k : W p l e R s m args below meth c H locs cells slots Q (F0 m (pc + 1) ls (.int 7000 :: rest))) : W p l e R s m args below meth c H locs cells slots Q (F0 m pc ls (.ref (ad 39) :: rest)) := by
  obtain ⟨hx, hb, hml, hown, hu⟩ := S
  obtain ⟨hK, hP, hD, hS, hA⟩ := X
  exact va_alen (v := 7000) hx hb hK hP 39 38 rfl rfl (show Int32.ofNat 7000 = 7000 by decide) hd k
theorem wmlA_34 {i : Int32} {v : Int32} (S : CallFix p m c cc nL s args uG own) (X : gX (dC, dI) (tM kc) (wM ad kc) Z A s σ H locs) (hi : vp_in i 7000) (hv : xA σ 34 i = v) (hd : decode cc pc = .ok (.iaload, 1))
    (k : W p l e R s m args below meth c H locs cells slots Q (F0 m (pc + 1) ls (.int v :: rest))) : W p l e R s m args below meth c H locs cells slots Q (F0 m pc ls (.int i :: .ref (ad 40) :: rest)) := by
  subst hv
  obtain ⟨hx, hb, hml, hown, hu⟩ := S
  obtain ⟨hK, hP, hD, hS, hA⟩ := X
  exact va_iald hx hb hK hP 40 39 rfl rfl hi hd k
theorem wmsA_34 {i : Int32} {v : Int32} (S : CallFix p m c cc nL s args uG own) (X : gX (dC, dI) (tM kc) (wM ad kc) Z A s σ H locs) (hi : vp_in i 7000) (hd : decode cc pc = .ok (.iastore, 1))
    (k : ∀ (H : Heap) (locs : List Loc), gX (dC, dI) (tM kc) (wM ad kc) Z A s (pA σ 34 i v) H locs → W p l e R s m args below meth c H locs cells slots Q (F0 m (pc + 1) ls (rest))) : W p l e R s m args below meth c H locs cells slots Q (F0 m pc ls (.int v :: .int i :: .ref (ad 40) :: rest)) := by
  obtain ⟨hx, hb, hml, hown, hu⟩ := S
  obtain ⟨hK, hP, hD, hS, hA⟩ := X
  exact va_iast hx hb hK hP hD hS 40 39 rfl rfl hi hd (fun H1 locs1 hP1 hD1 hS1 => k H1 locs1 ⟨hK, hP1, hD1, hS1, hA⟩)
theorem wmnA_34 (S : CallFix p m c cc nL s args uG own) (X : gX (dC, dI) (tM kc) (wM ad kc) Z A s σ H locs) (hd : decode cc pc = .ok (.arraylength, 1))
    (k : W p l e R s m args below meth c H locs cells slots Q (F0 m (pc + 1) ls (.int 7000 :: rest))) : W p l e R s m args below meth c H locs cells slots Q (F0 m pc ls (.ref (ad 40) :: rest)) := by
  obtain ⟨hx, hb, hml, hown, hu⟩ := S
  obtain ⟨hK, hP, hD, hS, hA⟩ := X
  exact va_alen (v := 7000) hx hb hK hP 40 39 rfl rfl (show Int32.ofNat 7000 = 7000 by decide) hd k
theorem wmlA_35 {i : Int32} {v : Int32} (S : CallFix p m c cc nL s args uG own) (X : gX (dC, dI) (tM kc) (wM ad kc) Z A s σ H locs) (hi : vp_in i 7000) (hv : xA σ 35 i = v) (hd : decode cc pc = .ok (.iaload, 1))
    (k : W p l e R s m args below meth c H locs cells slots Q (F0 m (pc + 1) ls (.int v :: rest))) : W p l e R s m args below meth c H locs cells slots Q (F0 m pc ls (.int i :: .ref (ad 41) :: rest)) := by
  subst hv
  obtain ⟨hx, hb, hml, hown, hu⟩ := S
  obtain ⟨hK, hP, hD, hS, hA⟩ := X
  exact va_iald hx hb hK hP 41 40 rfl rfl hi hd k
theorem wmsA_35 {i : Int32} {v : Int32} (S : CallFix p m c cc nL s args uG own) (X : gX (dC, dI) (tM kc) (wM ad kc) Z A s σ H locs) (hi : vp_in i 7000) (hd : decode cc pc = .ok (.iastore, 1))
    (k : ∀ (H : Heap) (locs : List Loc), gX (dC, dI) (tM kc) (wM ad kc) Z A s (pA σ 35 i v) H locs → W p l e R s m args below meth c H locs cells slots Q (F0 m (pc + 1) ls (rest))) : W p l e R s m args below meth c H locs cells slots Q (F0 m pc ls (.int v :: .int i :: .ref (ad 41) :: rest)) := by
  obtain ⟨hx, hb, hml, hown, hu⟩ := S
  obtain ⟨hK, hP, hD, hS, hA⟩ := X
  exact va_iast hx hb hK hP hD hS 41 40 rfl rfl hi hd (fun H1 locs1 hP1 hD1 hS1 => k H1 locs1 ⟨hK, hP1, hD1, hS1, hA⟩)
theorem wmnA_35 (S : CallFix p m c cc nL s args uG own) (X : gX (dC, dI) (tM kc) (wM ad kc) Z A s σ H locs) (hd : decode cc pc = .ok (.arraylength, 1))
    (k : W p l e R s m args below meth c H locs cells slots Q (F0 m (pc + 1) ls (.int 7000 :: rest))) : W p l e R s m args below meth c H locs cells slots Q (F0 m pc ls (.ref (ad 41) :: rest)) := by
  obtain ⟨hx, hb, hml, hown, hu⟩ := S
  obtain ⟨hK, hP, hD, hS, hA⟩ := X
  exact va_alen (v := 7000) hx hb hK hP 41 40 rfl rfl (show Int32.ofNat 7000 = 7000 by decide) hd k
theorem wmlA_36 {i : Int32} {v : Int32} (S : CallFix p m c cc nL s args uG own) (X : gX (dC, dI) (tM kc) (wM ad kc) Z A s σ H locs) (hi : vp_in i 7000) (hv : xA σ 36 i = v) (hd : decode cc pc = .ok (.baload, 1))
    (k : W p l e R s m args below meth c H locs cells slots Q (F0 m (pc + 1) ls (.int v :: rest))) : W p l e R s m args below meth c H locs cells slots Q (F0 m pc ls (.int i :: .ref (ad 42) :: rest)) := by
  subst hv
  obtain ⟨hx, hb, hml, hown, hu⟩ := S
  obtain ⟨hK, hP, hD, hS, hA⟩ := X
  exact va_zald hx hb hK hP 42 41 rfl rfl hi hd k
theorem wmsA_36 {i : Int32} {v : Int32} (S : CallFix p m c cc nL s args uG own) (X : gX (dC, dI) (tM kc) (wM ad kc) Z A s σ H locs) (hi : vp_in i 7000) (hd : decode cc pc = .ok (.bastore, 1))
    (k : ∀ (H : Heap) (locs : List Loc), gX (dC, dI) (tM kc) (wM ad kc) Z A s (pA σ 36 i (vp_nar .boolean v)) H locs → W p l e R s m args below meth c H locs cells slots Q (F0 m (pc + 1) ls (rest))) : W p l e R s m args below meth c H locs cells slots Q (F0 m pc ls (.int v :: .int i :: .ref (ad 42) :: rest)) := by
  obtain ⟨hx, hb, hml, hown, hu⟩ := S
  obtain ⟨hK, hP, hD, hS, hA⟩ := X
  exact va_zast hx hb hK hP hD hS 42 41 rfl rfl hi hd (fun H1 locs1 hP1 hD1 hS1 => k H1 locs1 ⟨hK, hP1, hD1, hS1, hA⟩)
theorem wmnA_36 (S : CallFix p m c cc nL s args uG own) (X : gX (dC, dI) (tM kc) (wM ad kc) Z A s σ H locs) (hd : decode cc pc = .ok (.arraylength, 1))
    (k : W p l e R s m args below meth c H locs cells slots Q (F0 m (pc + 1) ls (.int 7000 :: rest))) : W p l e R s m args below meth c H locs cells slots Q (F0 m pc ls (.ref (ad 42) :: rest)) := by
  obtain ⟨hx, hb, hml, hown, hu⟩ := S
  obtain ⟨hK, hP, hD, hS, hA⟩ := X
  exact va_alen (v := 7000) hx hb hK hP 42 41 rfl rfl (show Int32.ofNat 7000 = 7000 by decide) hd k
theorem wmlA_37 {i : Int32} {v : Int32} (S : CallFix p m c cc nL s args uG own) (X : gX (dC, dI) (tM kc) (wM ad kc) Z A s σ H locs) (hi : vp_in i 7000) (hv : xA σ 37 i = v) (hd : decode cc pc = .ok (.iaload, 1))
    (k : W p l e R s m args below meth c H locs cells slots Q (F0 m (pc + 1) ls (.int v :: rest))) : W p l e R s m args below meth c H locs cells slots Q (F0 m pc ls (.int i :: .ref (ad 43) :: rest)) := by
  subst hv
  obtain ⟨hx, hb, hml, hown, hu⟩ := S
  obtain ⟨hK, hP, hD, hS, hA⟩ := X
  exact va_iald hx hb hK hP 43 42 rfl rfl hi hd k
theorem wmsA_37 {i : Int32} {v : Int32} (S : CallFix p m c cc nL s args uG own) (X : gX (dC, dI) (tM kc) (wM ad kc) Z A s σ H locs) (hi : vp_in i 7000) (hd : decode cc pc = .ok (.iastore, 1))
    (k : ∀ (H : Heap) (locs : List Loc), gX (dC, dI) (tM kc) (wM ad kc) Z A s (pA σ 37 i v) H locs → W p l e R s m args below meth c H locs cells slots Q (F0 m (pc + 1) ls (rest))) : W p l e R s m args below meth c H locs cells slots Q (F0 m pc ls (.int v :: .int i :: .ref (ad 43) :: rest)) := by
  obtain ⟨hx, hb, hml, hown, hu⟩ := S
  obtain ⟨hK, hP, hD, hS, hA⟩ := X
  exact va_iast hx hb hK hP hD hS 43 42 rfl rfl hi hd (fun H1 locs1 hP1 hD1 hS1 => k H1 locs1 ⟨hK, hP1, hD1, hS1, hA⟩)
theorem wmnA_37 (S : CallFix p m c cc nL s args uG own) (X : gX (dC, dI) (tM kc) (wM ad kc) Z A s σ H locs) (hd : decode cc pc = .ok (.arraylength, 1))
    (k : W p l e R s m args below meth c H locs cells slots Q (F0 m (pc + 1) ls (.int 7000 :: rest))) : W p l e R s m args below meth c H locs cells slots Q (F0 m pc ls (.ref (ad 43) :: rest)) := by
  obtain ⟨hx, hb, hml, hown, hu⟩ := S
  obtain ⟨hK, hP, hD, hS, hA⟩ := X
  exact va_alen (v := 7000) hx hb hK hP 43 42 rfl rfl (show Int32.ofNat 7000 = 7000 by decide) hd k
theorem wmlA_38 {i : Int32} {v : Int32} (S : CallFix p m c cc nL s args uG own) (X : gX (dC, dI) (tM kc) (wM ad kc) Z A s σ H locs) (hi : vp_in i 7000) (hv : xA σ 38 i = v) (hd : decode cc pc = .ok (.iaload, 1))
    (k : W p l e R s m args below meth c H locs cells slots Q (F0 m (pc + 1) ls (.int v :: rest))) : W p l e R s m args below meth c H locs cells slots Q (F0 m pc ls (.int i :: .ref (ad 44) :: rest)) := by
  subst hv
  obtain ⟨hx, hb, hml, hown, hu⟩ := S
  obtain ⟨hK, hP, hD, hS, hA⟩ := X
  exact va_iald hx hb hK hP 44 43 rfl rfl hi hd k
theorem wmsA_38 {i : Int32} {v : Int32} (S : CallFix p m c cc nL s args uG own) (X : gX (dC, dI) (tM kc) (wM ad kc) Z A s σ H locs) (hi : vp_in i 7000) (hd : decode cc pc = .ok (.iastore, 1))
    (k : ∀ (H : Heap) (locs : List Loc), gX (dC, dI) (tM kc) (wM ad kc) Z A s (pA σ 38 i v) H locs → W p l e R s m args below meth c H locs cells slots Q (F0 m (pc + 1) ls (rest))) : W p l e R s m args below meth c H locs cells slots Q (F0 m pc ls (.int v :: .int i :: .ref (ad 44) :: rest)) := by
  obtain ⟨hx, hb, hml, hown, hu⟩ := S
  obtain ⟨hK, hP, hD, hS, hA⟩ := X
  exact va_iast hx hb hK hP hD hS 44 43 rfl rfl hi hd (fun H1 locs1 hP1 hD1 hS1 => k H1 locs1 ⟨hK, hP1, hD1, hS1, hA⟩)
theorem wmnA_38 (S : CallFix p m c cc nL s args uG own) (X : gX (dC, dI) (tM kc) (wM ad kc) Z A s σ H locs) (hd : decode cc pc = .ok (.arraylength, 1))
    (k : W p l e R s m args below meth c H locs cells slots Q (F0 m (pc + 1) ls (.int 7000 :: rest))) : W p l e R s m args below meth c H locs cells slots Q (F0 m pc ls (.ref (ad 44) :: rest)) := by
  obtain ⟨hx, hb, hml, hown, hu⟩ := S
  obtain ⟨hK, hP, hD, hS, hA⟩ := X
  exact va_alen (v := 7000) hx hb hK hP 44 43 rfl rfl (show Int32.ofNat 7000 = 7000 by decide) hd k
theorem wmlB_5 {i : Int32} {v : Int64} (S : CallFix p m c cc nL s args uG own) (X : gX (dC, dI) (tM kc) (wM ad kc) Z A s σ H locs) (hi : vp_in i 7000) (hv : xB σ 5 i = v) (hd : decode cc pc = .ok (.laload, 1))
    (k : W p l e R s m args below meth c H locs cells slots Q (F0 m (pc + 1) ls (.long v :: rest))) : W p l e R s m args below meth c H locs cells slots Q (F0 m pc ls (.int i :: .ref (ad 45) :: rest)) := by
  subst hv
  obtain ⟨hx, hb, hml, hown, hu⟩ := S
  obtain ⟨hK, hP, hD, hS, hA⟩ := X
  exact va_lald hx hb hK hP 45 44 rfl rfl hi hd k
theorem wmsB_5 {i : Int32} {v : Int64} (S : CallFix p m c cc nL s args uG own) (X : gX (dC, dI) (tM kc) (wM ad kc) Z A s σ H locs) (hi : vp_in i 7000) (hd : decode cc pc = .ok (.lastore, 1))
    (k : ∀ (H : Heap) (locs : List Loc), gX (dC, dI) (tM kc) (wM ad kc) Z A s (pB σ 5 i v) H locs → W p l e R s m args below meth c H locs cells slots Q (F0 m (pc + 1) ls (rest))) : W p l e R s m args below meth c H locs cells slots Q (F0 m pc ls (.long v :: .int i :: .ref (ad 45) :: rest)) := by
  obtain ⟨hx, hb, hml, hown, hu⟩ := S
  obtain ⟨hK, hP, hD, hS, hA⟩ := X
  exact va_last hx hb hK hP hD hS 45 44 rfl rfl hi hd (fun H1 locs1 hP1 hD1 hS1 => k H1 locs1 ⟨hK, hP1, hD1, hS1, hA⟩)
theorem wmnB_5 (S : CallFix p m c cc nL s args uG own) (X : gX (dC, dI) (tM kc) (wM ad kc) Z A s σ H locs) (hd : decode cc pc = .ok (.arraylength, 1))
    (k : W p l e R s m args below meth c H locs cells slots Q (F0 m (pc + 1) ls (.int 7000 :: rest))) : W p l e R s m args below meth c H locs cells slots Q (F0 m pc ls (.ref (ad 45) :: rest)) := by
  obtain ⟨hx, hb, hml, hown, hu⟩ := S
  obtain ⟨hK, hP, hD, hS, hA⟩ := X
  exact va_alen (v := 7000) hx hb hK hP 45 44 rfl rfl (show Int32.ofNat 7000 = 7000 by decide) hd k
theorem wmlA_39 {i : Int32} {v : Int32} (S : CallFix p m c cc nL s args uG own) (X : gX (dC, dI) (tM kc) (wM ad kc) Z A s σ H locs) (hi : vp_in i 14000) (hv : xA σ 39 i = v) (hd : decode cc pc = .ok (.iaload, 1))
    (k : W p l e R s m args below meth c H locs cells slots Q (F0 m (pc + 1) ls (.int v :: rest))) : W p l e R s m args below meth c H locs cells slots Q (F0 m pc ls (.int i :: .ref (ad 46) :: rest)) := by
  subst hv
  obtain ⟨hx, hb, hml, hown, hu⟩ := S
  obtain ⟨hK, hP, hD, hS, hA⟩ := X
  exact va_iald hx hb hK hP 46 45 rfl rfl hi hd k
theorem wmsA_39 {i : Int32} {v : Int32} (S : CallFix p m c cc nL s args uG own) (X : gX (dC, dI) (tM kc) (wM ad kc) Z A s σ H locs) (hi : vp_in i 14000) (hd : decode cc pc = .ok (.iastore, 1))
    (k : ∀ (H : Heap) (locs : List Loc), gX (dC, dI) (tM kc) (wM ad kc) Z A s (pA σ 39 i v) H locs → W p l e R s m args below meth c H locs cells slots Q (F0 m (pc + 1) ls (rest))) : W p l e R s m args below meth c H locs cells slots Q (F0 m pc ls (.int v :: .int i :: .ref (ad 46) :: rest)) := by
  obtain ⟨hx, hb, hml, hown, hu⟩ := S
  obtain ⟨hK, hP, hD, hS, hA⟩ := X
  exact va_iast hx hb hK hP hD hS 46 45 rfl rfl hi hd (fun H1 locs1 hP1 hD1 hS1 => k H1 locs1 ⟨hK, hP1, hD1, hS1, hA⟩)
theorem wmnA_39 (S : CallFix p m c cc nL s args uG own) (X : gX (dC, dI) (tM kc) (wM ad kc) Z A s σ H locs) (hd : decode cc pc = .ok (.arraylength, 1))
    (k : W p l e R s m args below meth c H locs cells slots Q (F0 m (pc + 1) ls (.int 14000 :: rest))) : W p l e R s m args below meth c H locs cells slots Q (F0 m pc ls (.ref (ad 46) :: rest)) := by
  obtain ⟨hx, hb, hml, hown, hu⟩ := S
  obtain ⟨hK, hP, hD, hS, hA⟩ := X
  exact va_alen (v := 14000) hx hb hK hP 46 45 rfl rfl (show Int32.ofNat 14000 = 14000 by decide) hd k
theorem wmlA_40 {i : Int32} {v : Int32} (S : CallFix p m c cc nL s args uG own) (X : gX (dC, dI) (tM kc) (wM ad kc) Z A s σ H locs) (hi : vp_in i 14000) (hv : xA σ 40 i = v) (hd : decode cc pc = .ok (.iaload, 1))
    (k : W p l e R s m args below meth c H locs cells slots Q (F0 m (pc + 1) ls (.int v :: rest))) : W p l e R s m args below meth c H locs cells slots Q (F0 m pc ls (.int i :: .ref (ad 47) :: rest)) := by
  subst hv
  obtain ⟨hx, hb, hml, hown, hu⟩ := S
  obtain ⟨hK, hP, hD, hS, hA⟩ := X
  exact va_iald hx hb hK hP 47 46 rfl rfl hi hd k
theorem wmsA_40 {i : Int32} {v : Int32} (S : CallFix p m c cc nL s args uG own) (X : gX (dC, dI) (tM kc) (wM ad kc) Z A s σ H locs) (hi : vp_in i 14000) (hd : decode cc pc = .ok (.iastore, 1))
    (k : ∀ (H : Heap) (locs : List Loc), gX (dC, dI) (tM kc) (wM ad kc) Z A s (pA σ 40 i v) H locs → W p l e R s m args below meth c H locs cells slots Q (F0 m (pc + 1) ls (rest))) : W p l e R s m args below meth c H locs cells slots Q (F0 m pc ls (.int v :: .int i :: .ref (ad 47) :: rest)) := by
  obtain ⟨hx, hb, hml, hown, hu⟩ := S
  obtain ⟨hK, hP, hD, hS, hA⟩ := X
  exact va_iast hx hb hK hP hD hS 47 46 rfl rfl hi hd (fun H1 locs1 hP1 hD1 hS1 => k H1 locs1 ⟨hK, hP1, hD1, hS1, hA⟩)
theorem wmnA_40 (S : CallFix p m c cc nL s args uG own) (X : gX (dC, dI) (tM kc) (wM ad kc) Z A s σ H locs) (hd : decode cc pc = .ok (.arraylength, 1))
    (k : W p l e R s m args below meth c H locs cells slots Q (F0 m (pc + 1) ls (.int 14000 :: rest))) : W p l e R s m args below meth c H locs cells slots Q (F0 m pc ls (.ref (ad 47) :: rest)) := by
  obtain ⟨hx, hb, hml, hown, hu⟩ := S
  obtain ⟨hK, hP, hD, hS, hA⟩ := X
  exact va_alen (v := 14000) hx hb hK hP 47 46 rfl rfl (show Int32.ofNat 14000 = 14000 by decide) hd k
theorem wmlA_41 {i : Int32} {v : Int32} (S : CallFix p m c cc nL s args uG own) (X : gX (dC, dI) (tM kc) (wM ad kc) Z A s σ H locs) (hi : vp_in i 14000) (hv : xA σ 41 i = v) (hd : decode cc pc = .ok (.iaload, 1))
    (k : W p l e R s m args below meth c H locs cells slots Q (F0 m (pc + 1) ls (.int v :: rest))) : W p l e R s m args below meth c H locs cells slots Q (F0 m pc ls (.int i :: .ref (ad 48) :: rest)) := by
  subst hv
  obtain ⟨hx, hb, hml, hown, hu⟩ := S
  obtain ⟨hK, hP, hD, hS, hA⟩ := X
  exact va_iald hx hb hK hP 48 47 rfl rfl hi hd k
theorem wmsA_41 {i : Int32} {v : Int32} (S : CallFix p m c cc nL s args uG own) (X : gX (dC, dI) (tM kc) (wM ad kc) Z A s σ H locs) (hi : vp_in i 14000) (hd : decode cc pc = .ok (.iastore, 1))
    (k : ∀ (H : Heap) (locs : List Loc), gX (dC, dI) (tM kc) (wM ad kc) Z A s (pA σ 41 i v) H locs → W p l e R s m args below meth c H locs cells slots Q (F0 m (pc + 1) ls (rest))) : W p l e R s m args below meth c H locs cells slots Q (F0 m pc ls (.int v :: .int i :: .ref (ad 48) :: rest)) := by
  obtain ⟨hx, hb, hml, hown, hu⟩ := S
  obtain ⟨hK, hP, hD, hS, hA⟩ := X
  exact va_iast hx hb hK hP hD hS 48 47 rfl rfl hi hd (fun H1 locs1 hP1 hD1 hS1 => k H1 locs1 ⟨hK, hP1, hD1, hS1, hA⟩)
theorem wmnA_41 (S : CallFix p m c cc nL s args uG own) (X : gX (dC, dI) (tM kc) (wM ad kc) Z A s σ H locs) (hd : decode cc pc = .ok (.arraylength, 1))
    (k : W p l e R s m args below meth c H locs cells slots Q (F0 m (pc + 1) ls (.int 14000 :: rest))) : W p l e R s m args below meth c H locs cells slots Q (F0 m pc ls (.ref (ad 48) :: rest)) := by
  obtain ⟨hx, hb, hml, hown, hu⟩ := S
  obtain ⟨hK, hP, hD, hS, hA⟩ := X
  exact va_alen (v := 14000) hx hb hK hP 48 47 rfl rfl (show Int32.ofNat 14000 = 14000 by decide) hd k
theorem wmlA_42 {i : Int32} {v : Int32} (S : CallFix p m c cc nL s args uG own) (X : gX (dC, dI) (tM kc) (wM ad kc) Z A s σ H locs) (hi : vp_in i 14000) (hv : xA σ 42 i = v) (hd : decode cc pc = .ok (.iaload, 1))
    (k : W p l e R s m args below meth c H locs cells slots Q (F0 m (pc + 1) ls (.int v :: rest))) : W p l e R s m args below meth c H locs cells slots Q (F0 m pc ls (.int i :: .ref (ad 49) :: rest)) := by
  subst hv
  obtain ⟨hx, hb, hml, hown, hu⟩ := S
  obtain ⟨hK, hP, hD, hS, hA⟩ := X
  exact va_iald hx hb hK hP 49 48 rfl rfl hi hd k
theorem wmsA_42 {i : Int32} {v : Int32} (S : CallFix p m c cc nL s args uG own) (X : gX (dC, dI) (tM kc) (wM ad kc) Z A s σ H locs) (hi : vp_in i 14000) (hd : decode cc pc = .ok (.iastore, 1))
    (k : ∀ (H : Heap) (locs : List Loc), gX (dC, dI) (tM kc) (wM ad kc) Z A s (pA σ 42 i v) H locs → W p l e R s m args below meth c H locs cells slots Q (F0 m (pc + 1) ls (rest))) : W p l e R s m args below meth c H locs cells slots Q (F0 m pc ls (.int v :: .int i :: .ref (ad 49) :: rest)) := by
  obtain ⟨hx, hb, hml, hown, hu⟩ := S
  obtain ⟨hK, hP, hD, hS, hA⟩ := X
  exact va_iast hx hb hK hP hD hS 49 48 rfl rfl hi hd (fun H1 locs1 hP1 hD1 hS1 => k H1 locs1 ⟨hK, hP1, hD1, hS1, hA⟩)
theorem wmnA_42 (S : CallFix p m c cc nL s args uG own) (X : gX (dC, dI) (tM kc) (wM ad kc) Z A s σ H locs) (hd : decode cc pc = .ok (.arraylength, 1))
    (k : W p l e R s m args below meth c H locs cells slots Q (F0 m (pc + 1) ls (.int 14000 :: rest))) : W p l e R s m args below meth c H locs cells slots Q (F0 m pc ls (.ref (ad 49) :: rest)) := by
  obtain ⟨hx, hb, hml, hown, hu⟩ := S
  obtain ⟨hK, hP, hD, hS, hA⟩ := X
  exact va_alen (v := 14000) hx hb hK hP 49 48 rfl rfl (show Int32.ofNat 14000 = 14000 by decide) hd k
theorem wmlA_43 {i : Int32} {v : Int32} (S : CallFix p m c cc nL s args uG own) (X : gX (dC, dI) (tM kc) (wM ad kc) Z A s σ H locs) (hi : vp_in i 14000) (hv : xA σ 43 i = v) (hd : decode cc pc = .ok (.iaload, 1))
    (k : W p l e R s m args below meth c H locs cells slots Q (F0 m (pc + 1) ls (.int v :: rest))) : W p l e R s m args below meth c H locs cells slots Q (F0 m pc ls (.int i :: .ref (ad 50) :: rest)) := by
  subst hv
  obtain ⟨hx, hb, hml, hown, hu⟩ := S
  obtain ⟨hK, hP, hD, hS, hA⟩ := X
  exact va_iald hx hb hK hP 50 49 rfl rfl hi hd k
theorem wmsA_43 {i : Int32} {v : Int32} (S : CallFix p m c cc nL s args uG own) (X : gX (dC, dI) (tM kc) (wM ad kc) Z A s σ H locs) (hi : vp_in i 14000) (hd : decode cc pc = .ok (.iastore, 1))
    (k : ∀ (H : Heap) (locs : List Loc), gX (dC, dI) (tM kc) (wM ad kc) Z A s (pA σ 43 i v) H locs → W p l e R s m args below meth c H locs cells slots Q (F0 m (pc + 1) ls (rest))) : W p l e R s m args below meth c H locs cells slots Q (F0 m pc ls (.int v :: .int i :: .ref (ad 50) :: rest)) := by
  obtain ⟨hx, hb, hml, hown, hu⟩ := S
  obtain ⟨hK, hP, hD, hS, hA⟩ := X
  exact va_iast hx hb hK hP hD hS 50 49 rfl rfl hi hd (fun H1 locs1 hP1 hD1 hS1 => k H1 locs1 ⟨hK, hP1, hD1, hS1, hA⟩)
theorem wmnA_43 (S : CallFix p m c cc nL s args uG own) (X : gX (dC, dI) (tM kc) (wM ad kc) Z A s σ H locs) (hd : decode cc pc = .ok (.arraylength, 1))
    (k : W p l e R s m args below meth c H locs cells slots Q (F0 m (pc + 1) ls (.int 14000 :: rest))) : W p l e R s m args below meth c H locs cells slots Q (F0 m pc ls (.ref (ad 50) :: rest)) := by
  obtain ⟨hx, hb, hml, hown, hu⟩ := S
  obtain ⟨hK, hP, hD, hS, hA⟩ := X
  exact va_alen (v := 14000) hx hb hK hP 50 49 rfl rfl (show Int32.ofNat 14000 = 14000 by decide) hd k
theorem wmlA_44 {i : Int32} {v : Int32} (S : CallFix p m c cc nL s args uG own) (X : gX (dC, dI) (tM kc) (wM ad kc) Z A s σ H locs) (hi : vp_in i 640) (hv : xA σ 44 i = v) (hd : decode cc pc = .ok (.iaload, 1))
    (k : W p l e R s m args below meth c H locs cells slots Q (F0 m (pc + 1) ls (.int v :: rest))) : W p l e R s m args below meth c H locs cells slots Q (F0 m pc ls (.int i :: .ref (ad 51) :: rest)) := by
  subst hv
  obtain ⟨hx, hb, hml, hown, hu⟩ := S
  obtain ⟨hK, hP, hD, hS, hA⟩ := X
  exact va_iald hx hb hK hP 51 50 rfl rfl hi hd k
theorem wmsA_44 {i : Int32} {v : Int32} (S : CallFix p m c cc nL s args uG own) (X : gX (dC, dI) (tM kc) (wM ad kc) Z A s σ H locs) (hi : vp_in i 640) (hd : decode cc pc = .ok (.iastore, 1))
    (k : ∀ (H : Heap) (locs : List Loc), gX (dC, dI) (tM kc) (wM ad kc) Z A s (pA σ 44 i v) H locs → W p l e R s m args below meth c H locs cells slots Q (F0 m (pc + 1) ls (rest))) : W p l e R s m args below meth c H locs cells slots Q (F0 m pc ls (.int v :: .int i :: .ref (ad 51) :: rest)) := by
  obtain ⟨hx, hb, hml, hown, hu⟩ := S
  obtain ⟨hK, hP, hD, hS, hA⟩ := X
  exact va_iast hx hb hK hP hD hS 51 50 rfl rfl hi hd (fun H1 locs1 hP1 hD1 hS1 => k H1 locs1 ⟨hK, hP1, hD1, hS1, hA⟩)
theorem wmnA_44 (S : CallFix p m c cc nL s args uG own) (X : gX (dC, dI) (tM kc) (wM ad kc) Z A s σ H locs) (hd : decode cc pc = .ok (.arraylength, 1))
    (k : W p l e R s m args below meth c H locs cells slots Q (F0 m (pc + 1) ls (.int 640 :: rest))) : W p l e R s m args below meth c H locs cells slots Q (F0 m pc ls (.ref (ad 51) :: rest)) := by
  obtain ⟨hx, hb, hml, hown, hu⟩ := S
  obtain ⟨hK, hP, hD, hS, hA⟩ := X
  exact va_alen (v := 640) hx hb hK hP 51 50 rfl rfl (show Int32.ofNat 640 = 640 by decide) hd k
theorem wmlA_45 {i : Int32} {v : Int32} (S : CallFix p m c cc nL s args uG own) (X : gX (dC, dI) (tM kc) (wM ad kc) Z A s σ H locs) (hi : vp_in i 640) (hv : xA σ 45 i = v) (hd : decode cc pc = .ok (.iaload, 1))
    (k : W p l e R s m args below meth c H locs cells slots Q (F0 m (pc + 1) ls (.int v :: rest))) : W p l e R s m args below meth c H locs cells slots Q (F0 m pc ls (.int i :: .ref (ad 52) :: rest)) := by
  subst hv
  obtain ⟨hx, hb, hml, hown, hu⟩ := S
  obtain ⟨hK, hP, hD, hS, hA⟩ := X
  exact va_iald hx hb hK hP 52 51 rfl rfl hi hd k
theorem wmsA_45 {i : Int32} {v : Int32} (S : CallFix p m c cc nL s args uG own) (X : gX (dC, dI) (tM kc) (wM ad kc) Z A s σ H locs) (hi : vp_in i 640) (hd : decode cc pc = .ok (.iastore, 1))
    (k : ∀ (H : Heap) (locs : List Loc), gX (dC, dI) (tM kc) (wM ad kc) Z A s (pA σ 45 i v) H locs → W p l e R s m args below meth c H locs cells slots Q (F0 m (pc + 1) ls (rest))) : W p l e R s m args below meth c H locs cells slots Q (F0 m pc ls (.int v :: .int i :: .ref (ad 52) :: rest)) := by
  obtain ⟨hx, hb, hml, hown, hu⟩ := S
  obtain ⟨hK, hP, hD, hS, hA⟩ := X
  exact va_iast hx hb hK hP hD hS 52 51 rfl rfl hi hd (fun H1 locs1 hP1 hD1 hS1 => k H1 locs1 ⟨hK, hP1, hD1, hS1, hA⟩)
theorem wmnA_45 (S : CallFix p m c cc nL s args uG own) (X : gX (dC, dI) (tM kc) (wM ad kc) Z A s σ H locs) (hd : decode cc pc = .ok (.arraylength, 1))
    (k : W p l e R s m args below meth c H locs cells slots Q (F0 m (pc + 1) ls (.int 640 :: rest))) : W p l e R s m args below meth c H locs cells slots Q (F0 m pc ls (.ref (ad 52) :: rest)) := by
  obtain ⟨hx, hb, hml, hown, hu⟩ := S
  obtain ⟨hK, hP, hD, hS, hA⟩ := X
  exact va_alen (v := 640) hx hb hK hP 52 51 rfl rfl (show Int32.ofNat 640 = 640 by decide) hd k
theorem wmlA_46 {i : Int32} {v : Int32} (S : CallFix p m c cc nL s args uG own) (X : gX (dC, dI) (tM kc) (wM ad kc) Z A s σ H locs) (hi : vp_in i 640) (hv : xA σ 46 i = v) (hd : decode cc pc = .ok (.iaload, 1))
    (k : W p l e R s m args below meth c H locs cells slots Q (F0 m (pc + 1) ls (.int v :: rest))) : W p l e R s m args below meth c H locs cells slots Q (F0 m pc ls (.int i :: .ref (ad 53) :: rest)) := by
  subst hv
  obtain ⟨hx, hb, hml, hown, hu⟩ := S
  obtain ⟨hK, hP, hD, hS, hA⟩ := X
  exact va_iald hx hb hK hP 53 52 rfl rfl hi hd k
theorem wmsA_46 {i : Int32} {v : Int32} (S : CallFix p m c cc nL s args uG own) (X : gX (dC, dI) (tM kc) (wM ad kc) Z A s σ H locs) (hi : vp_in i 640) (hd : decode cc pc = .ok (.iastore, 1))
    (k : ∀ (H : Heap) (locs : List Loc), gX (dC, dI) (tM kc) (wM ad kc) Z A s (pA σ 46 i v) H locs → W p l e R s m args below meth c H locs cells slots Q (F0 m (pc + 1) ls (rest))) : W p l e R s m args below meth c H locs cells slots Q (F0 m pc ls (.int v :: .int i :: .ref (ad 53) :: rest)) := by
  obtain ⟨hx, hb, hml, hown, hu⟩ := S
  obtain ⟨hK, hP, hD, hS, hA⟩ := X
  exact va_iast hx hb hK hP hD hS 53 52 rfl rfl hi hd (fun H1 locs1 hP1 hD1 hS1 => k H1 locs1 ⟨hK, hP1, hD1, hS1, hA⟩)
theorem wmnA_46 (S : CallFix p m c cc nL s args uG own) (X : gX (dC, dI) (tM kc) (wM ad kc) Z A s σ H locs) (hd : decode cc pc = .ok (.arraylength, 1))
    (k : W p l e R s m args below meth c H locs cells slots Q (F0 m (pc + 1) ls (.int 640 :: rest))) : W p l e R s m args below meth c H locs cells slots Q (F0 m pc ls (.ref (ad 53) :: rest)) := by
  obtain ⟨hx, hb, hml, hown, hu⟩ := S
  obtain ⟨hK, hP, hD, hS, hA⟩ := X
  exact va_alen (v := 640) hx hb hK hP 53 52 rfl rfl (show Int32.ofNat 640 = 640 by decide) hd k
theorem wmlA_47 {i : Int32} {v : Int32} (S : CallFix p m c cc nL s args uG own) (X : gX (dC, dI) (tM kc) (wM ad kc) Z A s σ H locs) (hi : vp_in i 640) (hv : xA σ 47 i = v) (hd : decode cc pc = .ok (.iaload, 1))
    (k : W p l e R s m args below meth c H locs cells slots Q (F0 m (pc + 1) ls (.int v :: rest))) : W p l e R s m args below meth c H locs cells slots Q (F0 m pc ls (.int i :: .ref (ad 54) :: rest)) := by
  subst hv
  obtain ⟨hx, hb, hml, hown, hu⟩ := S
  obtain ⟨hK, hP, hD, hS, hA⟩ := X
  exact va_iald hx hb hK hP 54 53 rfl rfl hi hd k
theorem wmsA_47 {i : Int32} {v : Int32} (S : CallFix p m c cc nL s args uG own) (X : gX (dC, dI) (tM kc) (wM ad kc) Z A s σ H locs) (hi : vp_in i 640) (hd : decode cc pc = .ok (.iastore, 1))
    (k : ∀ (H : Heap) (locs : List Loc), gX (dC, dI) (tM kc) (wM ad kc) Z A s (pA σ 47 i v) H locs → W p l e R s m args below meth c H locs cells slots Q (F0 m (pc + 1) ls (rest))) : W p l e R s m args below meth c H locs cells slots Q (F0 m pc ls (.int v :: .int i :: .ref (ad 54) :: rest)) := by
  obtain ⟨hx, hb, hml, hown, hu⟩ := S
  obtain ⟨hK, hP, hD, hS, hA⟩ := X
  exact va_iast hx hb hK hP hD hS 54 53 rfl rfl hi hd (fun H1 locs1 hP1 hD1 hS1 => k H1 locs1 ⟨hK, hP1, hD1, hS1, hA⟩)
theorem wmnA_47 (S : CallFix p m c cc nL s args uG own) (X : gX (dC, dI) (tM kc) (wM ad kc) Z A s σ H locs) (hd : decode cc pc = .ok (.arraylength, 1))
    (k : W p l e R s m args below meth c H locs cells slots Q (F0 m (pc + 1) ls (.int 640 :: rest))) : W p l e R s m args below meth c H locs cells slots Q (F0 m pc ls (.ref (ad 54) :: rest)) := by
  obtain ⟨hx, hb, hml, hown, hu⟩ := S
  obtain ⟨hK, hP, hD, hS, hA⟩ := X
  exact va_alen (v := 640) hx hb hK hP 54 53 rfl rfl (show Int32.ofNat 640 = 640 by decide) hd k
theorem wmlA_48 {i : Int32} {v : Int32} (S : CallFix p m c cc nL s args uG own) (X : gX (dC, dI) (tM kc) (wM ad kc) Z A s σ H locs) (hi : vp_in i 7000) (hv : xA σ 48 i = v) (hd : decode cc pc = .ok (.iaload, 1))
    (k : W p l e R s m args below meth c H locs cells slots Q (F0 m (pc + 1) ls (.int v :: rest))) : W p l e R s m args below meth c H locs cells slots Q (F0 m pc ls (.int i :: .ref (ad 55) :: rest)) := by
  subst hv
  obtain ⟨hx, hb, hml, hown, hu⟩ := S
  obtain ⟨hK, hP, hD, hS, hA⟩ := X
  exact va_iald hx hb hK hP 55 54 rfl rfl hi hd k
theorem wmsA_48 {i : Int32} {v : Int32} (S : CallFix p m c cc nL s args uG own) (X : gX (dC, dI) (tM kc) (wM ad kc) Z A s σ H locs) (hi : vp_in i 7000) (hd : decode cc pc = .ok (.iastore, 1))
    (k : ∀ (H : Heap) (locs : List Loc), gX (dC, dI) (tM kc) (wM ad kc) Z A s (pA σ 48 i v) H locs → W p l e R s m args below meth c H locs cells slots Q (F0 m (pc + 1) ls (rest))) : W p l e R s m args below meth c H locs cells slots Q (F0 m pc ls (.int v :: .int i :: .ref (ad 55) :: rest)) := by
  obtain ⟨hx, hb, hml, hown, hu⟩ := S
  obtain ⟨hK, hP, hD, hS, hA⟩ := X
  exact va_iast hx hb hK hP hD hS 55 54 rfl rfl hi hd (fun H1 locs1 hP1 hD1 hS1 => k H1 locs1 ⟨hK, hP1, hD1, hS1, hA⟩)
theorem wmnA_48 (S : CallFix p m c cc nL s args uG own) (X : gX (dC, dI) (tM kc) (wM ad kc) Z A s σ H locs) (hd : decode cc pc = .ok (.arraylength, 1))
    (k : W p l e R s m args below meth c H locs cells slots Q (F0 m (pc + 1) ls (.int 7000 :: rest))) : W p l e R s m args below meth c H locs cells slots Q (F0 m pc ls (.ref (ad 55) :: rest)) := by
  obtain ⟨hx, hb, hml, hown, hu⟩ := S
  obtain ⟨hK, hP, hD, hS, hA⟩ := X
  exact va_alen (v := 7000) hx hb hK hP 55 54 rfl rfl (show Int32.ofNat 7000 = 7000 by decide) hd k
theorem wmlA_49 {i : Int32} {v : Int32} (S : CallFix p m c cc nL s args uG own) (X : gX (dC, dI) (tM kc) (wM ad kc) Z A s σ H locs) (hi : vp_in i 163840) (hv : xA σ 49 i = v) (hd : decode cc pc = .ok (.baload, 1))
    (k : W p l e R s m args below meth c H locs cells slots Q (F0 m (pc + 1) ls (.int v :: rest))) : W p l e R s m args below meth c H locs cells slots Q (F0 m pc ls (.int i :: .ref (ad 56) :: rest)) := by
  subst hv
  obtain ⟨hx, hb, hml, hown, hu⟩ := S
  obtain ⟨hK, hP, hD, hS, hA⟩ := X
  exact va_zald hx hb hK hP 56 55 rfl rfl hi hd k
theorem wmsA_49 {i : Int32} {v : Int32} (S : CallFix p m c cc nL s args uG own) (X : gX (dC, dI) (tM kc) (wM ad kc) Z A s σ H locs) (hi : vp_in i 163840) (hd : decode cc pc = .ok (.bastore, 1))
    (k : ∀ (H : Heap) (locs : List Loc), gX (dC, dI) (tM kc) (wM ad kc) Z A s (pA σ 49 i (vp_nar .boolean v)) H locs → W p l e R s m args below meth c H locs cells slots Q (F0 m (pc + 1) ls (rest))) : W p l e R s m args below meth c H locs cells slots Q (F0 m pc ls (.int v :: .int i :: .ref (ad 56) :: rest)) := by
  obtain ⟨hx, hb, hml, hown, hu⟩ := S
  obtain ⟨hK, hP, hD, hS, hA⟩ := X
  exact va_zast hx hb hK hP hD hS 56 55 rfl rfl hi hd (fun H1 locs1 hP1 hD1 hS1 => k H1 locs1 ⟨hK, hP1, hD1, hS1, hA⟩)
theorem wmnA_49 (S : CallFix p m c cc nL s args uG own) (X : gX (dC, dI) (tM kc) (wM ad kc) Z A s σ H locs) (hd : decode cc pc = .ok (.arraylength, 1))
    (k : W p l e R s m args below meth c H locs cells slots Q (F0 m (pc + 1) ls (.int 163840 :: rest))) : W p l e R s m args below meth c H locs cells slots Q (F0 m pc ls (.ref (ad 56) :: rest)) := by
  obtain ⟨hx, hb, hml, hown, hu⟩ := S
  obtain ⟨hK, hP, hD, hS, hA⟩ := X
  exact va_alen (v := 163840) hx hb hK hP 56 55 rfl rfl (show Int32.ofNat 163840 = 163840 by decide) hd k
theorem wmlA_50 {i : Int32} {v : Int32} (S : CallFix p m c cc nL s args uG own) (X : gX (dC, dI) (tM kc) (wM ad kc) Z A s σ H locs) (hi : vp_in i 7000) (hv : xA σ 50 i = v) (hd : decode cc pc = .ok (.baload, 1))
    (k : W p l e R s m args below meth c H locs cells slots Q (F0 m (pc + 1) ls (.int v :: rest))) : W p l e R s m args below meth c H locs cells slots Q (F0 m pc ls (.int i :: .ref (ad 57) :: rest)) := by
  subst hv
  obtain ⟨hx, hb, hml, hown, hu⟩ := S
  obtain ⟨hK, hP, hD, hS, hA⟩ := X
  exact va_zald hx hb hK hP 57 56 rfl rfl hi hd k
theorem wmsA_50 {i : Int32} {v : Int32} (S : CallFix p m c cc nL s args uG own) (X : gX (dC, dI) (tM kc) (wM ad kc) Z A s σ H locs) (hi : vp_in i 7000) (hd : decode cc pc = .ok (.bastore, 1))
    (k : ∀ (H : Heap) (locs : List Loc), gX (dC, dI) (tM kc) (wM ad kc) Z A s (pA σ 50 i (vp_nar .boolean v)) H locs → W p l e R s m args below meth c H locs cells slots Q (F0 m (pc + 1) ls (rest))) : W p l e R s m args below meth c H locs cells slots Q (F0 m pc ls (.int v :: .int i :: .ref (ad 57) :: rest)) := by
  obtain ⟨hx, hb, hml, hown, hu⟩ := S
  obtain ⟨hK, hP, hD, hS, hA⟩ := X
  exact va_zast hx hb hK hP hD hS 57 56 rfl rfl hi hd (fun H1 locs1 hP1 hD1 hS1 => k H1 locs1 ⟨hK, hP1, hD1, hS1, hA⟩)
theorem wmnA_50 (S : CallFix p m c cc nL s args uG own) (X : gX (dC, dI) (tM kc) (wM ad kc) Z A s σ H locs) (hd : decode cc pc = .ok (.arraylength, 1))
    (k : W p l e R s m args below meth c H locs cells slots Q (F0 m (pc + 1) ls (.int 7000 :: rest))) : W p l e R s m args below meth c H locs cells slots Q (F0 m pc ls (.ref (ad 57) :: rest)) := by
  obtain ⟨hx, hb, hml, hown, hu⟩ := S
  obtain ⟨hK, hP, hD, hS, hA⟩ := X
  exact va_alen (v := 7000) hx hb hK hP 57 56 rfl rfl (show Int32.ofNat 7000 = 7000 by decide) hd k
theorem wmlA_51 {i : Int32} {v : Int32} (S : CallFix p m c cc nL s args uG own) (X : gX (dC, dI) (tM kc) (wM ad kc) Z A s σ H locs) (hi : vp_in i 640) (hv : xA σ 51 i = v) (hd : decode cc pc = .ok (.baload, 1))
    (k : W p l e R s m args below meth c H locs cells slots Q (F0 m (pc + 1) ls (.int v :: rest))) : W p l e R s m args below meth c H locs cells slots Q (F0 m pc ls (.int i :: .ref (ad 58) :: rest)) := by
  subst hv
  obtain ⟨hx, hb, hml, hown, hu⟩ := S
  obtain ⟨hK, hP, hD, hS, hA⟩ := X
  exact va_zald hx hb hK hP 58 57 rfl rfl hi hd k
theorem wmsA_51 {i : Int32} {v : Int32} (S : CallFix p m c cc nL s args uG own) (X : gX (dC, dI) (tM kc) (wM ad kc) Z A s σ H locs) (hi : vp_in i 640) (hd : decode cc pc = .ok (.bastore, 1))
    (k : ∀ (H : Heap) (locs : List Loc), gX (dC, dI) (tM kc) (wM ad kc) Z A s (pA σ 51 i (vp_nar .boolean v)) H locs → W p l e R s m args below meth c H locs cells slots Q (F0 m (pc + 1) ls (rest))) : W p l e R s m args below meth c H locs cells slots Q (F0 m pc ls (.int v :: .int i :: .ref (ad 58) :: rest)) := by
  obtain ⟨hx, hb, hml, hown, hu⟩ := S
  obtain ⟨hK, hP, hD, hS, hA⟩ := X
  exact va_zast hx hb hK hP hD hS 58 57 rfl rfl hi hd (fun H1 locs1 hP1 hD1 hS1 => k H1 locs1 ⟨hK, hP1, hD1, hS1, hA⟩)
theorem wmnA_51 (S : CallFix p m c cc nL s args uG own) (X : gX (dC, dI) (tM kc) (wM ad kc) Z A s σ H locs) (hd : decode cc pc = .ok (.arraylength, 1))
    (k : W p l e R s m args below meth c H locs cells slots Q (F0 m (pc + 1) ls (.int 640 :: rest))) : W p l e R s m args below meth c H locs cells slots Q (F0 m pc ls (.ref (ad 58) :: rest)) := by
  obtain ⟨hx, hb, hml, hown, hu⟩ := S
  obtain ⟨hK, hP, hD, hS, hA⟩ := X
  exact va_alen (v := 640) hx hb hK hP 58 57 rfl rfl (show Int32.ofNat 640 = 640 by decide) hd k
theorem wmlA_52 {i : Int32} {v : Int32} (S : CallFix p m c cc nL s args uG own) (X : gX (dC, dI) (tM kc) (wM ad kc) Z A s σ H locs) (hi : vp_in i 5120) (hv : xA σ 52 i = v) (hd : decode cc pc = .ok (.baload, 1))
    (k : W p l e R s m args below meth c H locs cells slots Q (F0 m (pc + 1) ls (.int v :: rest))) : W p l e R s m args below meth c H locs cells slots Q (F0 m pc ls (.int i :: .ref (ad 59) :: rest)) := by
  subst hv
  obtain ⟨hx, hb, hml, hown, hu⟩ := S
  obtain ⟨hK, hP, hD, hS, hA⟩ := X
  exact va_zald hx hb hK hP 59 58 rfl rfl hi hd k
theorem wmsA_52 {i : Int32} {v : Int32} (S : CallFix p m c cc nL s args uG own) (X : gX (dC, dI) (tM kc) (wM ad kc) Z A s σ H locs) (hi : vp_in i 5120) (hd : decode cc pc = .ok (.bastore, 1))
    (k : ∀ (H : Heap) (locs : List Loc), gX (dC, dI) (tM kc) (wM ad kc) Z A s (pA σ 52 i (vp_nar .boolean v)) H locs → W p l e R s m args below meth c H locs cells slots Q (F0 m (pc + 1) ls (rest))) : W p l e R s m args below meth c H locs cells slots Q (F0 m pc ls (.int v :: .int i :: .ref (ad 59) :: rest)) := by
  obtain ⟨hx, hb, hml, hown, hu⟩ := S
  obtain ⟨hK, hP, hD, hS, hA⟩ := X
  exact va_zast hx hb hK hP hD hS 59 58 rfl rfl hi hd (fun H1 locs1 hP1 hD1 hS1 => k H1 locs1 ⟨hK, hP1, hD1, hS1, hA⟩)
theorem wmnA_52 (S : CallFix p m c cc nL s args uG own) (X : gX (dC, dI) (tM kc) (wM ad kc) Z A s σ H locs) (hd : decode cc pc = .ok (.arraylength, 1))
    (k : W p l e R s m args below meth c H locs cells slots Q (F0 m (pc + 1) ls (.int 5120 :: rest))) : W p l e R s m args below meth c H locs cells slots Q (F0 m pc ls (.ref (ad 59) :: rest)) := by
  obtain ⟨hx, hb, hml, hown, hu⟩ := S
  obtain ⟨hK, hP, hD, hS, hA⟩ := X
  exact va_alen (v := 5120) hx hb hK hP 59 58 rfl rfl (show Int32.ofNat 5120 = 5120 by decide) hd k
theorem wmlA_53 {i : Int32} {v : Int32} (S : CallFix p m c cc nL s args uG own) (X : gX (dC, dI) (tM kc) (wM ad kc) Z A s σ H locs) (hi : vp_in i 4100) (hv : xA σ 53 i = v) (hd : decode cc pc = .ok (.iaload, 1))
    (k : W p l e R s m args below meth c H locs cells slots Q (F0 m (pc + 1) ls (.int v :: rest))) : W p l e R s m args below meth c H locs cells slots Q (F0 m pc ls (.int i :: .ref (ad 60) :: rest)) := by
  subst hv
  obtain ⟨hx, hb, hml, hown, hu⟩ := S
  obtain ⟨hK, hP, hD, hS, hA⟩ := X
  exact va_iald hx hb hK hP 60 59 rfl rfl hi hd k
theorem wmsA_53 {i : Int32} {v : Int32} (S : CallFix p m c cc nL s args uG own) (X : gX (dC, dI) (tM kc) (wM ad kc) Z A s σ H locs) (hi : vp_in i 4100) (hd : decode cc pc = .ok (.iastore, 1))
    (k : ∀ (H : Heap) (locs : List Loc), gX (dC, dI) (tM kc) (wM ad kc) Z A s (pA σ 53 i v) H locs → W p l e R s m args below meth c H locs cells slots Q (F0 m (pc + 1) ls (rest))) : W p l e R s m args below meth c H locs cells slots Q (F0 m pc ls (.int v :: .int i :: .ref (ad 60) :: rest)) := by
  obtain ⟨hx, hb, hml, hown, hu⟩ := S
  obtain ⟨hK, hP, hD, hS, hA⟩ := X
  exact va_iast hx hb hK hP hD hS 60 59 rfl rfl hi hd (fun H1 locs1 hP1 hD1 hS1 => k H1 locs1 ⟨hK, hP1, hD1, hS1, hA⟩)
theorem wmnA_53 (S : CallFix p m c cc nL s args uG own) (X : gX (dC, dI) (tM kc) (wM ad kc) Z A s σ H locs) (hd : decode cc pc = .ok (.arraylength, 1))
    (k : W p l e R s m args below meth c H locs cells slots Q (F0 m (pc + 1) ls (.int 4100 :: rest))) : W p l e R s m args below meth c H locs cells slots Q (F0 m pc ls (.ref (ad 60) :: rest)) := by
  obtain ⟨hx, hb, hml, hown, hu⟩ := S
  obtain ⟨hK, hP, hD, hS, hA⟩ := X
  exact va_alen (v := 4100) hx hb hK hP 60 59 rfl rfl (show Int32.ofNat 4100 = 4100 by decide) hd k
theorem wmlA_54 {i : Int32} {v : Int32} (S : CallFix p m c cc nL s args uG own) (X : gX (dC, dI) (tM kc) (wM ad kc) Z A s σ H locs) (hi : vp_in i 4100) (hv : xA σ 54 i = v) (hd : decode cc pc = .ok (.iaload, 1))
    (k : W p l e R s m args below meth c H locs cells slots Q (F0 m (pc + 1) ls (.int v :: rest))) : W p l e R s m args below meth c H locs cells slots Q (F0 m pc ls (.int i :: .ref (ad 61) :: rest)) := by
  subst hv
  obtain ⟨hx, hb, hml, hown, hu⟩ := S
  obtain ⟨hK, hP, hD, hS, hA⟩ := X
  exact va_iald hx hb hK hP 61 60 rfl rfl hi hd k
theorem wmsA_54 {i : Int32} {v : Int32} (S : CallFix p m c cc nL s args uG own) (X : gX (dC, dI) (tM kc) (wM ad kc) Z A s σ H locs) (hi : vp_in i 4100) (hd : decode cc pc = .ok (.iastore, 1))
    (k : ∀ (H : Heap) (locs : List Loc), gX (dC, dI) (tM kc) (wM ad kc) Z A s (pA σ 54 i v) H locs → W p l e R s m args below meth c H locs cells slots Q (F0 m (pc + 1) ls (rest))) : W p l e R s m args below meth c H locs cells slots Q (F0 m pc ls (.int v :: .int i :: .ref (ad 61) :: rest)) := by
  obtain ⟨hx, hb, hml, hown, hu⟩ := S
  obtain ⟨hK, hP, hD, hS, hA⟩ := X
  exact va_iast hx hb hK hP hD hS 61 60 rfl rfl hi hd (fun H1 locs1 hP1 hD1 hS1 => k H1 locs1 ⟨hK, hP1, hD1, hS1, hA⟩)
theorem wmnA_54 (S : CallFix p m c cc nL s args uG own) (X : gX (dC, dI) (tM kc) (wM ad kc) Z A s σ H locs) (hd : decode cc pc = .ok (.arraylength, 1))
    (k : W p l e R s m args below meth c H locs cells slots Q (F0 m (pc + 1) ls (.int 4100 :: rest))) : W p l e R s m args below meth c H locs cells slots Q (F0 m pc ls (.ref (ad 61) :: rest)) := by
  obtain ⟨hx, hb, hml, hown, hu⟩ := S
  obtain ⟨hK, hP, hD, hS, hA⟩ := X
  exact va_alen (v := 4100) hx hb hK hP 61 60 rfl rfl (show Int32.ofNat 4100 = 4100 by decide) hd k
theorem wmlB_6 {i : Int32} {v : Int64} (S : CallFix p m c cc nL s args uG own) (X : gX (dC, dI) (tM kc) (wM ad kc) Z A s σ H locs) (hi : vp_in i 4100) (hv : xB σ 6 i = v) (hd : decode cc pc = .ok (.laload, 1))
    (k : W p l e R s m args below meth c H locs cells slots Q (F0 m (pc + 1) ls (.long v :: rest))) : W p l e R s m args below meth c H locs cells slots Q (F0 m pc ls (.int i :: .ref (ad 62) :: rest)) := by
  subst hv
  obtain ⟨hx, hb, hml, hown, hu⟩ := S
  obtain ⟨hK, hP, hD, hS, hA⟩ := X
  exact va_lald hx hb hK hP 62 61 rfl rfl hi hd k
theorem wmsB_6 {i : Int32} {v : Int64} (S : CallFix p m c cc nL s args uG own) (X : gX (dC, dI) (tM kc) (wM ad kc) Z A s σ H locs) (hi : vp_in i 4100) (hd : decode cc pc = .ok (.lastore, 1))
    (k : ∀ (H : Heap) (locs : List Loc), gX (dC, dI) (tM kc) (wM ad kc) Z A s (pB σ 6 i v) H locs → W p l e R s m args below meth c H locs cells slots Q (F0 m (pc + 1) ls (rest))) : W p l e R s m args below meth c H locs cells slots Q (F0 m pc ls (.long v :: .int i :: .ref (ad 62) :: rest)) := by
  obtain ⟨hx, hb, hml, hown, hu⟩ := S
  obtain ⟨hK, hP, hD, hS, hA⟩ := X
  exact va_last hx hb hK hP hD hS 62 61 rfl rfl hi hd (fun H1 locs1 hP1 hD1 hS1 => k H1 locs1 ⟨hK, hP1, hD1, hS1, hA⟩)
theorem wmnB_6 (S : CallFix p m c cc nL s args uG own) (X : gX (dC, dI) (tM kc) (wM ad kc) Z A s σ H locs) (hd : decode cc pc = .ok (.arraylength, 1))
    (k : W p l e R s m args below meth c H locs cells slots Q (F0 m (pc + 1) ls (.int 4100 :: rest))) : W p l e R s m args below meth c H locs cells slots Q (F0 m pc ls (.ref (ad 62) :: rest)) := by
  obtain ⟨hx, hb, hml, hown, hu⟩ := S
  obtain ⟨hK, hP, hD, hS, hA⟩ := X
  exact va_alen (v := 4100) hx hb hK hP 62 61 rfl rfl (show Int32.ofNat 4100 = 4100 by decide) hd k
theorem wmlA_55 {i : Int32} {v : Int32} (S : CallFix p m c cc nL s args uG own) (X : gX (dC, dI) (tM kc) (wM ad kc) Z A s σ H locs) (hi : vp_in i 4100) (hv : xA σ 55 i = v) (hd : decode cc pc = .ok (.iaload, 1))
    (k : W p l e R s m args below meth c H locs cells slots Q (F0 m (pc + 1) ls (.int v :: rest))) : W p l e R s m args below meth c H locs cells slots Q (F0 m pc ls (.int i :: .ref (ad 63) :: rest)) := by
  subst hv
  obtain ⟨hx, hb, hml, hown, hu⟩ := S
  obtain ⟨hK, hP, hD, hS, hA⟩ := X
  exact va_iald hx hb hK hP 63 62 rfl rfl hi hd k
theorem wmsA_55 {i : Int32} {v : Int32} (S : CallFix p m c cc nL s args uG own) (X : gX (dC, dI) (tM kc) (wM ad kc) Z A s σ H locs) (hi : vp_in i 4100) (hd : decode cc pc = .ok (.iastore, 1))
    (k : ∀ (H : Heap) (locs : List Loc), gX (dC, dI) (tM kc) (wM ad kc) Z A s (pA σ 55 i v) H locs → W p l e R s m args below meth c H locs cells slots Q (F0 m (pc + 1) ls (rest))) : W p l e R s m args below meth c H locs cells slots Q (F0 m pc ls (.int v :: .int i :: .ref (ad 63) :: rest)) := by
  obtain ⟨hx, hb, hml, hown, hu⟩ := S
  obtain ⟨hK, hP, hD, hS, hA⟩ := X
  exact va_iast hx hb hK hP hD hS 63 62 rfl rfl hi hd (fun H1 locs1 hP1 hD1 hS1 => k H1 locs1 ⟨hK, hP1, hD1, hS1, hA⟩)
theorem wmnA_55 (S : CallFix p m c cc nL s args uG own) (X : gX (dC, dI) (tM kc) (wM ad kc) Z A s σ H locs) (hd : decode cc pc = .ok (.arraylength, 1))
    (k : W p l e R s m args below meth c H locs cells slots Q (F0 m (pc + 1) ls (.int 4100 :: rest))) : W p l e R s m args below meth c H locs cells slots Q (F0 m pc ls (.ref (ad 63) :: rest)) := by
  obtain ⟨hx, hb, hml, hown, hu⟩ := S
  obtain ⟨hK, hP, hD, hS, hA⟩ := X
  exact va_alen (v := 4100) hx hb hK hP 63 62 rfl rfl (show Int32.ofNat 4100 = 4100 by decide) hd k
theorem wmlA_56 {i : Int32} {v : Int32} (S : CallFix p m c cc nL s args uG own) (X : gX (dC, dI) (tM kc) (wM ad kc) Z A s σ H locs) (hi : vp_in i 4100) (hv : xA σ 56 i = v) (hd : decode cc pc = .ok (.iaload, 1))
    (k : W p l e R s m args below meth c H locs cells slots Q (F0 m (pc + 1) ls (.int v :: rest))) : W p l e R s m args below meth c H locs cells slots Q (F0 m pc ls (.int i :: .ref (ad 64) :: rest)) := by
  subst hv
  obtain ⟨hx, hb, hml, hown, hu⟩ := S
  obtain ⟨hK, hP, hD, hS, hA⟩ := X
  exact va_iald hx hb hK hP 64 63 rfl rfl hi hd k
theorem wmsA_56 {i : Int32} {v : Int32} (S : CallFix p m c cc nL s args uG own) (X : gX (dC, dI) (tM kc) (wM ad kc) Z A s σ H locs) (hi : vp_in i 4100) (hd : decode cc pc = .ok (.iastore, 1))
    (k : ∀ (H : Heap) (locs : List Loc), gX (dC, dI) (tM kc) (wM ad kc) Z A s (pA σ 56 i v) H locs → W p l e R s m args below meth c H locs cells slots Q (F0 m (pc + 1) ls (rest))) : W p l e R s m args below meth c H locs cells slots Q (F0 m pc ls (.int v :: .int i :: .ref (ad 64) :: rest)) := by
  obtain ⟨hx, hb, hml, hown, hu⟩ := S
  obtain ⟨hK, hP, hD, hS, hA⟩ := X
  exact va_iast hx hb hK hP hD hS 64 63 rfl rfl hi hd (fun H1 locs1 hP1 hD1 hS1 => k H1 locs1 ⟨hK, hP1, hD1, hS1, hA⟩)
theorem wmnA_56 (S : CallFix p m c cc nL s args uG own) (X : gX (dC, dI) (tM kc) (wM ad kc) Z A s σ H locs) (hd : decode cc pc = .ok (.arraylength, 1))
    (k : W p l e R s m args below meth c H locs cells slots Q (F0 m (pc + 1) ls (.int 4100 :: rest))) : W p l e R s m args below meth c H locs cells slots Q (F0 m pc ls (.ref (ad 64) :: rest)) := by
  obtain ⟨hx, hb, hml, hown, hu⟩ := S
  obtain ⟨hK, hP, hD, hS, hA⟩ := X
  exact va_alen (v := 4100) hx hb hK hP 64 63 rfl rfl (show Int32.ofNat 4100 = 4100 by decide) hd k
theorem wmlB_7 {i : Int32} {v : Int64} (S : CallFix p m c cc nL s args uG own) (X : gX (dC, dI) (tM kc) (wM ad kc) Z A s σ H locs) (hi : vp_in i 4100) (hv : xB σ 7 i = v) (hd : decode cc pc = .ok (.laload, 1))
    (k : W p l e R s m args below meth c H locs cells slots Q (F0 m (pc + 1) ls (.long v :: rest))) : W p l e R s m args below meth c H locs cells slots Q (F0 m pc ls (.int i :: .ref (ad 65) :: rest)) := by
  subst hv
  obtain ⟨hx, hb, hml, hown, hu⟩ := S
  obtain ⟨hK, hP, hD, hS, hA⟩ := X
  exact va_lald hx hb hK hP 65 64 rfl rfl hi hd k
theorem wmsB_7 {i : Int32} {v : Int64} (S : CallFix p m c cc nL s args uG own) (X : gX (dC, dI) (tM kc) (wM ad kc) Z A s σ H locs) (hi : vp_in i 4100) (hd : decode cc pc = .ok (.lastore, 1))
    (k : ∀ (H : Heap) (locs : List Loc), gX (dC, dI) (tM kc) (wM ad kc) Z A s (pB σ 7 i v) H locs → W p l e R s m args below meth c H locs cells slots Q (F0 m (pc + 1) ls (rest))) : W p l e R s m args below meth c H locs cells slots Q (F0 m pc ls (.long v :: .int i :: .ref (ad 65) :: rest)) := by
  obtain ⟨hx, hb, hml, hown, hu⟩ := S
  obtain ⟨hK, hP, hD, hS, hA⟩ := X
  exact va_last hx hb hK hP hD hS 65 64 rfl rfl hi hd (fun H1 locs1 hP1 hD1 hS1 => k H1 locs1 ⟨hK, hP1, hD1, hS1, hA⟩)
theorem wmnB_7 (S : CallFix p m c cc nL s args uG own) (X : gX (dC, dI) (tM kc) (wM ad kc) Z A s σ H locs) (hd : decode cc pc = .ok (.arraylength, 1))
    (k : W p l e R s m args below meth c H locs cells slots Q (F0 m (pc + 1) ls (.int 4100 :: rest))) : W p l e R s m args below meth c H locs cells slots Q (F0 m pc ls (.ref (ad 65) :: rest)) := by
  obtain ⟨hx, hb, hml, hown, hu⟩ := S
  obtain ⟨hK, hP, hD, hS, hA⟩ := X
  exact va_alen (v := 4100) hx hb hK hP 65 64 rfl rfl (show Int32.ofNat 4100 = 4100 by decide) hd k
theorem wmlA_57 {i : Int32} {v : Int32} (S : CallFix p m c cc nL s args uG own) (X : gX (dC, dI) (tM kc) (wM ad kc) Z A s σ H locs) (hi : vp_in i 640) (hv : xA σ 57 i = v) (hd : decode cc pc = .ok (.iaload, 1))
    (k : W p l e R s m args below meth c H locs cells slots Q (F0 m (pc + 1) ls (.int v :: rest))) : W p l e R s m args below meth c H locs cells slots Q (F0 m pc ls (.int i :: .ref (ad 66) :: rest)) := by
  subst hv
  obtain ⟨hx, hb, hml, hown, hu⟩ := S
  obtain ⟨hK, hP, hD, hS, hA⟩ := X
  exact va_iald hx hb hK hP 66 65 rfl rfl hi hd k
theorem wmsA_57 {i : Int32} {v : Int32} (S : CallFix p m c cc nL s args uG own) (X : gX (dC, dI) (tM kc) (wM ad kc) Z A s σ H locs) (hi : vp_in i 640) (hd : decode cc pc = .ok (.iastore, 1))
    (k : ∀ (H : Heap) (locs : List Loc), gX (dC, dI) (tM kc) (wM ad kc) Z A s (pA σ 57 i v) H locs → W p l e R s m args below meth c H locs cells slots Q (F0 m (pc + 1) ls (rest))) : W p l e R s m args below meth c H locs cells slots Q (F0 m pc ls (.int v :: .int i :: .ref (ad 66) :: rest)) := by
  obtain ⟨hx, hb, hml, hown, hu⟩ := S
  obtain ⟨hK, hP, hD, hS, hA⟩ := X
  exact va_iast hx hb hK hP hD hS 66 65 rfl rfl hi hd (fun H1 locs1 hP1 hD1 hS1 => k H1 locs1 ⟨hK, hP1, hD1, hS1, hA⟩)
theorem wmnA_57 (S : CallFix p m c cc nL s args uG own) (X : gX (dC, dI) (tM kc) (wM ad kc) Z A s σ H locs) (hd : decode cc pc = .ok (.arraylength, 1))
    (k : W p l e R s m args below meth c H locs cells slots Q (F0 m (pc + 1) ls (.int 640 :: rest))) : W p l e R s m args below meth c H locs cells slots Q (F0 m pc ls (.ref (ad 66) :: rest)) := by
  obtain ⟨hx, hb, hml, hown, hu⟩ := S
  obtain ⟨hK, hP, hD, hS, hA⟩ := X
  exact va_alen (v := 640) hx hb hK hP 66 65 rfl rfl (show Int32.ofNat 640 = 640 by decide) hd k
theorem wmlA_58 {i : Int32} {v : Int32} (S : CallFix p m c cc nL s args uG own) (X : gX (dC, dI) (tM kc) (wM ad kc) Z A s σ H locs) (hi : vp_in i 1000) (hv : xA σ 58 i = v) (hd : decode cc pc = .ok (.iaload, 1))
    (k : W p l e R s m args below meth c H locs cells slots Q (F0 m (pc + 1) ls (.int v :: rest))) : W p l e R s m args below meth c H locs cells slots Q (F0 m pc ls (.int i :: .ref (ad 67) :: rest)) := by
  subst hv
  obtain ⟨hx, hb, hml, hown, hu⟩ := S
  obtain ⟨hK, hP, hD, hS, hA⟩ := X
  exact va_iald hx hb hK hP 67 66 rfl rfl hi hd k
theorem wmsA_58 {i : Int32} {v : Int32} (S : CallFix p m c cc nL s args uG own) (X : gX (dC, dI) (tM kc) (wM ad kc) Z A s σ H locs) (hi : vp_in i 1000) (hd : decode cc pc = .ok (.iastore, 1))
    (k : ∀ (H : Heap) (locs : List Loc), gX (dC, dI) (tM kc) (wM ad kc) Z A s (pA σ 58 i v) H locs → W p l e R s m args below meth c H locs cells slots Q (F0 m (pc + 1) ls (rest))) : W p l e R s m args below meth c H locs cells slots Q (F0 m pc ls (.int v :: .int i :: .ref (ad 67) :: rest)) := by
  obtain ⟨hx, hb, hml, hown, hu⟩ := S
  obtain ⟨hK, hP, hD, hS, hA⟩ := X
  exact va_iast hx hb hK hP hD hS 67 66 rfl rfl hi hd (fun H1 locs1 hP1 hD1 hS1 => k H1 locs1 ⟨hK, hP1, hD1, hS1, hA⟩)
theorem wmnA_58 (S : CallFix p m c cc nL s args uG own) (X : gX (dC, dI) (tM kc) (wM ad kc) Z A s σ H locs) (hd : decode cc pc = .ok (.arraylength, 1))
    (k : W p l e R s m args below meth c H locs cells slots Q (F0 m (pc + 1) ls (.int 1000 :: rest))) : W p l e R s m args below meth c H locs cells slots Q (F0 m pc ls (.ref (ad 67) :: rest)) := by
  obtain ⟨hx, hb, hml, hown, hu⟩ := S
  obtain ⟨hK, hP, hD, hS, hA⟩ := X
  exact va_alen (v := 1000) hx hb hK hP 67 66 rfl rfl (show Int32.ofNat 1000 = 1000 by decide) hd k
theorem wmlA_59 {i : Int32} {v : Int32} (S : CallFix p m c cc nL s args uG own) (X : gX (dC, dI) (tM kc) (wM ad kc) Z A s σ H locs) (hi : vp_in i 202000) (hv : xA σ 59 i = v) (hd : decode cc pc = .ok (.iaload, 1))
    (k : W p l e R s m args below meth c H locs cells slots Q (F0 m (pc + 1) ls (.int v :: rest))) : W p l e R s m args below meth c H locs cells slots Q (F0 m pc ls (.int i :: .ref (ad 68) :: rest)) := by
  subst hv
  obtain ⟨hx, hb, hml, hown, hu⟩ := S
  obtain ⟨hK, hP, hD, hS, hA⟩ := X
  exact va_iald hx hb hK hP 68 67 rfl rfl hi hd k
theorem wmsA_59 {i : Int32} {v : Int32} (S : CallFix p m c cc nL s args uG own) (X : gX (dC, dI) (tM kc) (wM ad kc) Z A s σ H locs) (hi : vp_in i 202000) (hd : decode cc pc = .ok (.iastore, 1))
    (k : ∀ (H : Heap) (locs : List Loc), gX (dC, dI) (tM kc) (wM ad kc) Z A s (pA σ 59 i v) H locs → W p l e R s m args below meth c H locs cells slots Q (F0 m (pc + 1) ls (rest))) : W p l e R s m args below meth c H locs cells slots Q (F0 m pc ls (.int v :: .int i :: .ref (ad 68) :: rest)) := by
  obtain ⟨hx, hb, hml, hown, hu⟩ := S
  obtain ⟨hK, hP, hD, hS, hA⟩ := X
  exact va_iast hx hb hK hP hD hS 68 67 rfl rfl hi hd (fun H1 locs1 hP1 hD1 hS1 => k H1 locs1 ⟨hK, hP1, hD1, hS1, hA⟩)
theorem wmnA_59 (S : CallFix p m c cc nL s args uG own) (X : gX (dC, dI) (tM kc) (wM ad kc) Z A s σ H locs) (hd : decode cc pc = .ok (.arraylength, 1))
    (k : W p l e R s m args below meth c H locs cells slots Q (F0 m (pc + 1) ls (.int 202000 :: rest))) : W p l e R s m args below meth c H locs cells slots Q (F0 m pc ls (.ref (ad 68) :: rest)) := by
  obtain ⟨hx, hb, hml, hown, hu⟩ := S
  obtain ⟨hK, hP, hD, hS, hA⟩ := X
  exact va_alen (v := 202000) hx hb hK hP 68 67 rfl rfl (show Int32.ofNat 202000 = 202000 by decide) hd k
theorem wmlA_60 {i : Int32} {v : Int32} (S : CallFix p m c cc nL s args uG own) (X : gX (dC, dI) (tM kc) (wM ad kc) Z A s σ H locs) (hi : vp_in i 202000) (hv : xA σ 60 i = v) (hd : decode cc pc = .ok (.iaload, 1))
    (k : W p l e R s m args below meth c H locs cells slots Q (F0 m (pc + 1) ls (.int v :: rest))) : W p l e R s m args below meth c H locs cells slots Q (F0 m pc ls (.int i :: .ref (ad 69) :: rest)) := by
  subst hv
  obtain ⟨hx, hb, hml, hown, hu⟩ := S
  obtain ⟨hK, hP, hD, hS, hA⟩ := X
  exact va_iald hx hb hK hP 69 68 rfl rfl hi hd k
theorem wmsA_60 {i : Int32} {v : Int32} (S : CallFix p m c cc nL s args uG own) (X : gX (dC, dI) (tM kc) (wM ad kc) Z A s σ H locs) (hi : vp_in i 202000) (hd : decode cc pc = .ok (.iastore, 1))
    (k : ∀ (H : Heap) (locs : List Loc), gX (dC, dI) (tM kc) (wM ad kc) Z A s (pA σ 60 i v) H locs → W p l e R s m args below meth c H locs cells slots Q (F0 m (pc + 1) ls (rest))) : W p l e R s m args below meth c H locs cells slots Q (F0 m pc ls (.int v :: .int i :: .ref (ad 69) :: rest)) := by
  obtain ⟨hx, hb, hml, hown, hu⟩ := S
  obtain ⟨hK, hP, hD, hS, hA⟩ := X
  exact va_iast hx hb hK hP hD hS 69 68 rfl rfl hi hd (fun H1 locs1 hP1 hD1 hS1 => k H1 locs1 ⟨hK, hP1, hD1, hS1, hA⟩)
theorem wmnA_60 (S : CallFix p m c cc nL s args uG own) (X : gX (dC, dI) (tM kc) (wM ad kc) Z A s σ H locs) (hd : decode cc pc = .ok (.arraylength, 1))
    (k : W p l e R s m args below meth c H locs cells slots Q (F0 m (pc + 1) ls (.int 202000 :: rest))) : W p l e R s m args below meth c H locs cells slots Q (F0 m pc ls (.ref (ad 69) :: rest)) := by
  obtain ⟨hx, hb, hml, hown, hu⟩ := S
  obtain ⟨hK, hP, hD, hS, hA⟩ := X
  exact va_alen (v := 202000) hx hb hK hP 69 68 rfl rfl (show Int32.ofNat 202000 = 202000 by decide) hd k
theorem wmlA_61 {i : Int32} {v : Int32} (S : CallFix p m c cc nL s args uG own) (X : gX (dC, dI) (tM kc) (wM ad kc) Z A s σ H locs) (hi : vp_in i 202000) (hv : xA σ 61 i = v) (hd : decode cc pc = .ok (.iaload, 1))
    (k : W p l e R s m args below meth c H locs cells slots Q (F0 m (pc + 1) ls (.int v :: rest))) : W p l e R s m args below meth c H locs cells slots Q (F0 m pc ls (.int i :: .ref (ad 70) :: rest)) := by
  subst hv
  obtain ⟨hx, hb, hml, hown, hu⟩ := S
  obtain ⟨hK, hP, hD, hS, hA⟩ := X
  exact va_iald hx hb hK hP 70 69 rfl rfl hi hd k
theorem wmsA_61 {i : Int32} {v : Int32} (S : CallFix p m c cc nL s args uG own) (X : gX (dC, dI) (tM kc) (wM ad kc) Z A s σ H locs) (hi : vp_in i 202000) (hd : decode cc pc = .ok (.iastore, 1))
    (k : ∀ (H : Heap) (locs : List Loc), gX (dC, dI) (tM kc) (wM ad kc) Z A s (pA σ 61 i v) H locs → W p l e R s m args below meth c H locs cells slots Q (F0 m (pc + 1) ls (rest))) : W p l e R s m args below meth c H locs cells slots Q (F0 m pc ls (.int v :: .int i :: .ref (ad 70) :: rest)) := by
  obtain ⟨hx, hb, hml, hown, hu⟩ := S
  obtain ⟨hK, hP, hD, hS, hA⟩ := X
  exact va_iast hx hb hK hP hD hS 70 69 rfl rfl hi hd (fun H1 locs1 hP1 hD1 hS1 => k H1 locs1 ⟨hK, hP1, hD1, hS1, hA⟩)
theorem wmnA_61 (S : CallFix p m c cc nL s args uG own) (X : gX (dC, dI) (tM kc) (wM ad kc) Z A s σ H locs) (hd : decode cc pc = .ok (.arraylength, 1))
    (k : W p l e R s m args below meth c H locs cells slots Q (F0 m (pc + 1) ls (.int 202000 :: rest))) : W p l e R s m args below meth c H locs cells slots Q (F0 m pc ls (.ref (ad 70) :: rest)) := by
  obtain ⟨hx, hb, hml, hown, hu⟩ := S
  obtain ⟨hK, hP, hD, hS, hA⟩ := X
  exact va_alen (v := 202000) hx hb hK hP 70 69 rfl rfl (show Int32.ofNat 202000 = 202000 by decide) hd k
theorem wmlB_8 {i : Int32} {v : Int64} (S : CallFix p m c cc nL s args uG own) (X : gX (dC, dI) (tM kc) (wM ad kc) Z A s σ H locs) (hi : vp_in i 580000) (hv : xB σ 8 i = v) (hd : decode cc pc = .ok (.laload, 1))
    (k : W p l e R s m args below meth c H locs cells slots Q (F0 m (pc + 1) ls (.long v :: rest))) : W p l e R s m args below meth c H locs cells slots Q (F0 m pc ls (.int i :: .ref (ad 71) :: rest)) := by
  subst hv
  obtain ⟨hx, hb, hml, hown, hu⟩ := S
  obtain ⟨hK, hP, hD, hS, hA⟩ := X
  exact va_lald hx hb hK hP 71 70 rfl rfl hi hd k
theorem wmsB_8 {i : Int32} {v : Int64} (S : CallFix p m c cc nL s args uG own) (X : gX (dC, dI) (tM kc) (wM ad kc) Z A s σ H locs) (hi : vp_in i 580000) (hd : decode cc pc = .ok (.lastore, 1))
    (k : ∀ (H : Heap) (locs : List Loc), gX (dC, dI) (tM kc) (wM ad kc) Z A s (pB σ 8 i v) H locs → W p l e R s m args below meth c H locs cells slots Q (F0 m (pc + 1) ls (rest))) : W p l e R s m args below meth c H locs cells slots Q (F0 m pc ls (.long v :: .int i :: .ref (ad 71) :: rest)) := by
  obtain ⟨hx, hb, hml, hown, hu⟩ := S
  obtain ⟨hK, hP, hD, hS, hA⟩ := X
  exact va_last hx hb hK hP hD hS 71 70 rfl rfl hi hd (fun H1 locs1 hP1 hD1 hS1 => k H1 locs1 ⟨hK, hP1, hD1, hS1, hA⟩)
theorem wmnB_8 (S : CallFix p m c cc nL s args uG own) (X : gX (dC, dI) (tM kc) (wM ad kc) Z A s σ H locs) (hd : decode cc pc = .ok (.arraylength, 1))
    (k : W p l e R s m args below meth c H locs cells slots Q (F0 m (pc + 1) ls (.int 580000 :: rest))) : W p l e R s m args below meth c H locs cells slots Q (F0 m pc ls (.ref (ad 71) :: rest)) := by
  obtain ⟨hx, hb, hml, hown, hu⟩ := S
  obtain ⟨hK, hP, hD, hS, hA⟩ := X
  exact va_alen (v := 580000) hx hb hK hP 71 70 rfl rfl (show Int32.ofNat 580000 = 580000 by decide) hd k
theorem wmlB_9 {i : Int32} {v : Int64} (S : CallFix p m c cc nL s args uG own) (X : gX (dC, dI) (tM kc) (wM ad kc) Z A s σ H locs) (hi : vp_in i 193000) (hv : xB σ 9 i = v) (hd : decode cc pc = .ok (.laload, 1))
    (k : W p l e R s m args below meth c H locs cells slots Q (F0 m (pc + 1) ls (.long v :: rest))) : W p l e R s m args below meth c H locs cells slots Q (F0 m pc ls (.int i :: .ref (ad 72) :: rest)) := by
  subst hv
  obtain ⟨hx, hb, hml, hown, hu⟩ := S
  obtain ⟨hK, hP, hD, hS, hA⟩ := X
  exact va_lald hx hb hK hP 72 71 rfl rfl hi hd k
theorem wmsB_9 {i : Int32} {v : Int64} (S : CallFix p m c cc nL s args uG own) (X : gX (dC, dI) (tM kc) (wM ad kc) Z A s σ H locs) (hi : vp_in i 193000) (hd : decode cc pc = .ok (.lastore, 1))
    (k : ∀ (H : Heap) (locs : List Loc), gX (dC, dI) (tM kc) (wM ad kc) Z A s (pB σ 9 i v) H locs → W p l e R s m args below meth c H locs cells slots Q (F0 m (pc + 1) ls (rest))) : W p l e R s m args below meth c H locs cells slots Q (F0 m pc ls (.long v :: .int i :: .ref (ad 72) :: rest)) := by
  obtain ⟨hx, hb, hml, hown, hu⟩ := S
  obtain ⟨hK, hP, hD, hS, hA⟩ := X
  exact va_last hx hb hK hP hD hS 72 71 rfl rfl hi hd (fun H1 locs1 hP1 hD1 hS1 => k H1 locs1 ⟨hK, hP1, hD1, hS1, hA⟩)
theorem wmnB_9 (S : CallFix p m c cc nL s args uG own) (X : gX (dC, dI) (tM kc) (wM ad kc) Z A s σ H locs) (hd : decode cc pc = .ok (.arraylength, 1))
    (k : W p l e R s m args below meth c H locs cells slots Q (F0 m (pc + 1) ls (.int 193000 :: rest))) : W p l e R s m args below meth c H locs cells slots Q (F0 m pc ls (.ref (ad 72) :: rest)) := by
  obtain ⟨hx, hb, hml, hown, hu⟩ := S
  obtain ⟨hK, hP, hD, hS, hA⟩ := X
  exact va_alen (v := 193000) hx hb hK hP 72 71 rfl rfl (show Int32.ofNat 193000 = 193000 by decide) hd k
theorem wmlA_62 {i : Int32} {v : Int32} (S : CallFix p m c cc nL s args uG own) (X : gX (dC, dI) (tM kc) (wM ad kc) Z A s σ H locs) (hi : vp_in i 8000) (hv : xA σ 62 i = v) (hd : decode cc pc = .ok (.iaload, 1))
    (k : W p l e R s m args below meth c H locs cells slots Q (F0 m (pc + 1) ls (.int v :: rest))) : W p l e R s m args below meth c H locs cells slots Q (F0 m pc ls (.int i :: .ref (ad 73) :: rest)) := by
  subst hv
  obtain ⟨hx, hb, hml, hown, hu⟩ := S
  obtain ⟨hK, hP, hD, hS, hA⟩ := X
  exact va_iald hx hb hK hP 73 72 rfl rfl hi hd k
theorem wmsA_62 {i : Int32} {v : Int32} (S : CallFix p m c cc nL s args uG own) (X : gX (dC, dI) (tM kc) (wM ad kc) Z A s σ H locs) (hi : vp_in i 8000) (hd : decode cc pc = .ok (.iastore, 1))
    (k : ∀ (H : Heap) (locs : List Loc), gX (dC, dI) (tM kc) (wM ad kc) Z A s (pA σ 62 i v) H locs → W p l e R s m args below meth c H locs cells slots Q (F0 m (pc + 1) ls (rest))) : W p l e R s m args below meth c H locs cells slots Q (F0 m pc ls (.int v :: .int i :: .ref (ad 73) :: rest)) := by
  obtain ⟨hx, hb, hml, hown, hu⟩ := S
  obtain ⟨hK, hP, hD, hS, hA⟩ := X
  exact va_iast hx hb hK hP hD hS 73 72 rfl rfl hi hd (fun H1 locs1 hP1 hD1 hS1 => k H1 locs1 ⟨hK, hP1, hD1, hS1, hA⟩)
theorem wmnA_62 (S : CallFix p m c cc nL s args uG own) (X : gX (dC, dI) (tM kc) (wM ad kc) Z A s σ H locs) (hd : decode cc pc = .ok (.arraylength, 1))
    (k : W p l e R s m args below meth c H locs cells slots Q (F0 m (pc + 1) ls (.int 8000 :: rest))) : W p l e R s m args below meth c H locs cells slots Q (F0 m pc ls (.ref (ad 73) :: rest)) := by
  obtain ⟨hx, hb, hml, hown, hu⟩ := S
  obtain ⟨hK, hP, hD, hS, hA⟩ := X
  exact va_alen (v := 8000) hx hb hK hP 73 72 rfl rfl (show Int32.ofNat 8000 = 8000 by decide) hd k
theorem wmlA_63 {i : Int32} {v : Int32} (S : CallFix p m c cc nL s args uG own) (X : gX (dC, dI) (tM kc) (wM ad kc) Z A s σ H locs) (hi : vp_in i 8000) (hv : xA σ 63 i = v) (hd : decode cc pc = .ok (.iaload, 1))
    (k : W p l e R s m args below meth c H locs cells slots Q (F0 m (pc + 1) ls (.int v :: rest))) : W p l e R s m args below meth c H locs cells slots Q (F0 m pc ls (.int i :: .ref (ad 74) :: rest)) := by
  subst hv
  obtain ⟨hx, hb, hml, hown, hu⟩ := S
  obtain ⟨hK, hP, hD, hS, hA⟩ := X
  exact va_iald hx hb hK hP 74 73 rfl rfl hi hd k
theorem wmsA_63 {i : Int32} {v : Int32} (S : CallFix p m c cc nL s args uG own) (X : gX (dC, dI) (tM kc) (wM ad kc) Z A s σ H locs) (hi : vp_in i 8000) (hd : decode cc pc = .ok (.iastore, 1))
    (k : ∀ (H : Heap) (locs : List Loc), gX (dC, dI) (tM kc) (wM ad kc) Z A s (pA σ 63 i v) H locs → W p l e R s m args below meth c H locs cells slots Q (F0 m (pc + 1) ls (rest))) : W p l e R s m args below meth c H locs cells slots Q (F0 m pc ls (.int v :: .int i :: .ref (ad 74) :: rest)) := by
  obtain ⟨hx, hb, hml, hown, hu⟩ := S
  obtain ⟨hK, hP, hD, hS, hA⟩ := X
  exact va_iast hx hb hK hP hD hS 74 73 rfl rfl hi hd (fun H1 locs1 hP1 hD1 hS1 => k H1 locs1 ⟨hK, hP1, hD1, hS1, hA⟩)
theorem wmnA_63 (S : CallFix p m c cc nL s args uG own) (X : gX (dC, dI) (tM kc) (wM ad kc) Z A s σ H locs) (hd : decode cc pc = .ok (.arraylength, 1))
    (k : W p l e R s m args below meth c H locs cells slots Q (F0 m (pc + 1) ls (.int 8000 :: rest))) : W p l e R s m args below meth c H locs cells slots Q (F0 m pc ls (.ref (ad 74) :: rest)) := by
  obtain ⟨hx, hb, hml, hown, hu⟩ := S
  obtain ⟨hK, hP, hD, hS, hA⟩ := X
  exact va_alen (v := 8000) hx hb hK hP 74 73 rfl rfl (show Int32.ofNat 8000 = 8000 by decide) hd k
theorem wmlA_64 {i : Int32} {v : Int32} (S : CallFix p m c cc nL s args uG own) (X : gX (dC, dI) (tM kc) (wM ad kc) Z A s σ H locs) (hi : vp_in i 640) (hv : xA σ 64 i = v) (hd : decode cc pc = .ok (.iaload, 1))
    (k : W p l e R s m args below meth c H locs cells slots Q (F0 m (pc + 1) ls (.int v :: rest))) : W p l e R s m args below meth c H locs cells slots Q (F0 m pc ls (.int i :: .ref (ad 75) :: rest)) := by
  subst hv
  obtain ⟨hx, hb, hml, hown, hu⟩ := S
  obtain ⟨hK, hP, hD, hS, hA⟩ := X
  exact va_iald hx hb hK hP 75 74 rfl rfl hi hd k
theorem wmsA_64 {i : Int32} {v : Int32} (S : CallFix p m c cc nL s args uG own) (X : gX (dC, dI) (tM kc) (wM ad kc) Z A s σ H locs) (hi : vp_in i 640) (hd : decode cc pc = .ok (.iastore, 1))
    (k : ∀ (H : Heap) (locs : List Loc), gX (dC, dI) (tM kc) (wM ad kc) Z A s (pA σ 64 i v) H locs → W p l e R s m args below meth c H locs cells slots Q (F0 m (pc + 1) ls (rest))) : W p l e R s m args below meth c H locs cells slots Q (F0 m pc ls (.int v :: .int i :: .ref (ad 75) :: rest)) := by
  obtain ⟨hx, hb, hml, hown, hu⟩ := S
  obtain ⟨hK, hP, hD, hS, hA⟩ := X
  exact va_iast hx hb hK hP hD hS 75 74 rfl rfl hi hd (fun H1 locs1 hP1 hD1 hS1 => k H1 locs1 ⟨hK, hP1, hD1, hS1, hA⟩)
theorem wmnA_64 (S : CallFix p m c cc nL s args uG own) (X : gX (dC, dI) (tM kc) (wM ad kc) Z A s σ H locs) (hd : decode cc pc = .ok (.arraylength, 1))
    (k : W p l e R s m args below meth c H locs cells slots Q (F0 m (pc + 1) ls (.int 640 :: rest))) : W p l e R s m args below meth c H locs cells slots Q (F0 m pc ls (.ref (ad 75) :: rest)) := by
  obtain ⟨hx, hb, hml, hown, hu⟩ := S
  obtain ⟨hK, hP, hD, hS, hA⟩ := X
  exact va_alen (v := 640) hx hb hK hP 75 74 rfl rfl (show Int32.ofNat 640 = 640 by decide) hd k
theorem wmlB_10 {i : Int32} {v : Int64} (S : CallFix p m c cc nL s args uG own) (X : gX (dC, dI) (tM kc) (wM ad kc) Z A s σ H locs) (hi : vp_in i 4200) (hv : xB σ 10 i = v) (hd : decode cc pc = .ok (.laload, 1))
    (k : W p l e R s m args below meth c H locs cells slots Q (F0 m (pc + 1) ls (.long v :: rest))) : W p l e R s m args below meth c H locs cells slots Q (F0 m pc ls (.int i :: .ref (ad 76) :: rest)) := by
  subst hv
  obtain ⟨hx, hb, hml, hown, hu⟩ := S
  obtain ⟨hK, hP, hD, hS, hA⟩ := X
  exact va_lald hx hb hK hP 76 75 rfl rfl hi hd k
theorem wmsB_10 {i : Int32} {v : Int64} (S : CallFix p m c cc nL s args uG own) (X : gX (dC, dI) (tM kc) (wM ad kc) Z A s σ H locs) (hi : vp_in i 4200) (hd : decode cc pc = .ok (.lastore, 1))
    (k : ∀ (H : Heap) (locs : List Loc), gX (dC, dI) (tM kc) (wM ad kc) Z A s (pB σ 10 i v) H locs → W p l e R s m args below meth c H locs cells slots Q (F0 m (pc + 1) ls (rest))) : W p l e R s m args below meth c H locs cells slots Q (F0 m pc ls (.long v :: .int i :: .ref (ad 76) :: rest)) := by
  obtain ⟨hx, hb, hml, hown, hu⟩ := S
  obtain ⟨hK, hP, hD, hS, hA⟩ := X
  exact va_last hx hb hK hP hD hS 76 75 rfl rfl hi hd (fun H1 locs1 hP1 hD1 hS1 => k H1 locs1 ⟨hK, hP1, hD1, hS1, hA⟩)
theorem wmnB_10 (S : CallFix p m c cc nL s args uG own) (X : gX (dC, dI) (tM kc) (wM ad kc) Z A s σ H locs) (hd : decode cc pc = .ok (.arraylength, 1))
    (k : W p l e R s m args below meth c H locs cells slots Q (F0 m (pc + 1) ls (.int 4200 :: rest))) : W p l e R s m args below meth c H locs cells slots Q (F0 m pc ls (.ref (ad 76) :: rest)) := by
  obtain ⟨hx, hb, hml, hown, hu⟩ := S
  obtain ⟨hK, hP, hD, hS, hA⟩ := X
  exact va_alen (v := 4200) hx hb hK hP 76 75 rfl rfl (show Int32.ofNat 4200 = 4200 by decide) hd k
theorem wmlA_65 {i : Int32} {v : Int32} (S : CallFix p m c cc nL s args uG own) (X : gX (dC, dI) (tM kc) (wM ad kc) Z A s σ H locs) (hi : vp_in i 12001) (hv : xA σ 65 i = v) (hd : decode cc pc = .ok (.iaload, 1))
    (k : W p l e R s m args below meth c H locs cells slots Q (F0 m (pc + 1) ls (.int v :: rest))) : W p l e R s m args below meth c H locs cells slots Q (F0 m pc ls (.int i :: .ref (ad 77) :: rest)) := by
  subst hv
  obtain ⟨hx, hb, hml, hown, hu⟩ := S
  obtain ⟨hK, hP, hD, hS, hA⟩ := X
  exact va_iald hx hb hK hP 77 76 rfl rfl hi hd k
theorem wmsA_65 {i : Int32} {v : Int32} (S : CallFix p m c cc nL s args uG own) (X : gX (dC, dI) (tM kc) (wM ad kc) Z A s σ H locs) (hi : vp_in i 12001) (hd : decode cc pc = .ok (.iastore, 1))
    (k : ∀ (H : Heap) (locs : List Loc), gX (dC, dI) (tM kc) (wM ad kc) Z A s (pA σ 65 i v) H locs → W p l e R s m args below meth c H locs cells slots Q (F0 m (pc + 1) ls (rest))) : W p l e R s m args below meth c H locs cells slots Q (F0 m pc ls (.int v :: .int i :: .ref (ad 77) :: rest)) := by
  obtain ⟨hx, hb, hml, hown, hu⟩ := S
  obtain ⟨hK, hP, hD, hS, hA⟩ := X
  exact va_iast hx hb hK hP hD hS 77 76 rfl rfl hi hd (fun H1 locs1 hP1 hD1 hS1 => k H1 locs1 ⟨hK, hP1, hD1, hS1, hA⟩)
theorem wmnA_65 (S : CallFix p m c cc nL s args uG own) (X : gX (dC, dI) (tM kc) (wM ad kc) Z A s σ H locs) (hd : decode cc pc = .ok (.arraylength, 1))
    (k : W p l e R s m args below meth c H locs cells slots Q (F0 m (pc + 1) ls (.int 12001 :: rest))) : W p l e R s m args below meth c H locs cells slots Q (F0 m pc ls (.ref (ad 77) :: rest)) := by
  obtain ⟨hx, hb, hml, hown, hu⟩ := S
  obtain ⟨hK, hP, hD, hS, hA⟩ := X
  exact va_alen (v := 12001) hx hb hK hP 77 76 rfl rfl (show Int32.ofNat 12001 = 12001 by decide) hd k
end SEMM

