


def swI (i : Nat) : Nat := cond (Nat.beq i 1) 5 (cond (Nat.beq i 5) 1 (cond (Nat.beq i 2) 15 (cond (Nat.beq i 15) 2 i)))
def sA (f : Nat → Nat) : Nat → Nat := fun i => f (swI i)
def sK (f : Nat → ClassId) : Nat → ClassId := fun i => f (swI i)
/-- out and draft change their places -/
def swS (σ : S5) : S5 := (fun k => cond (Nat.beq k 2) (σ.1 66) (cond (Nat.beq k 66) (σ.1 2) (cond (Nat.beq k 3) (σ.1 67) (cond (Nat.beq k 67) (σ.1 3) (σ.1 k)))), σ.2.1, fun k => cond (Nat.beq k 1) (σ.2.2.1 50) (cond (Nat.beq k 50) (σ.2.2.1 1) (σ.2.2.1 k)), σ.2.2.2.1, fun k => cond (Nat.beq k 9) 0 (σ.2.2.2.2 k))
set_option maxHeartbeats 4000000 in
set_option maxRecDepth 100000 in
theorem gw_swap {p : Program} {l : Launch} {e : Env} {R : Room} {s : State} {m : MethodId} {args : Array Value} {below : List Frame} {meth : Method} {c : Code} {H : Heap} {locs : List Loc} {cells slots : Nat} {Q : State → Prop} {cc : ByteArray} {nL pc i1 i2 sa va x q9 : Nat} {ls : Array Slot} {dC : Nat → ClassId} {dI : Nat → Nat → Nat} {Z : ZZ} {A : Nat → Prop} {σ : S5} {ad : Nat → Nat} {kc : Nat → ClassId} {sv : Value}
    (S : CallFix p m c cc nL s args uG RX11) (X : gX (dC, dI) (tF kc) (wF x q9 ad kc sv sa va) Z A s σ H locs) (hf1 : Cond.fieldLink RX11 i1 "LazyForge" "out" "LLazyForge$Signs;" ∈ uG) (hf2 : Cond.fieldLink RX11 i2 "LazyForge" "draft" "LLazyForge$Signs;" ∈ uG) (d0 : decode cc pc = .ok (.putfield i1, 3)) (d3 : decode cc (pc + 3) = .ok (.aload_n 0, 1)) (d4 : decode cc (pc + 4) = .ok (.aload_n 1, 1)) (d5 : decode cc (pc + 5) = .ok (.putfield i2, 3)) (h0 : ls[0]? = some (.val (.ref x))) (h1 : ls[1]? = some (.val (.ref (ad 1))))
    (kk : ∀ (H1 : Heap) (locs1 : List Loc), gX (dC, dI) (tF (sK kc)) (wF x q9 (sA ad) (sK kc) (cond (Nat.beq (gN σ 9) 1) (.ref (ad 5)) sv) sa va) Z A s (swS σ) H1 locs1 → W p l e R s m args below meth c H1 locs1 cells slots Q (F0 m (pc + 8) ls [])) : W p l e R s m args below meth c H locs cells slots Q (F0 m pc ls [.ref (ad 5), .ref x]) := by
  obtain ⟨hx, hb, hml, hown, hu⟩ := S
  obtain ⟨hK, hP, hD, hS, hA, hZ⟩ := X
  refine va_put (D := (dC, dI)) (ci := 14) (v := .ref (ad 5)) (ty := (tyX11 7)) (C := RX11) (T := TX11) (N := 15) hx hb hu iuX11 tyX11 tyX11_ok nmX11 hown hK hP hD hS 0 rfl rfl 7 (by decide) (hu _ hf1) (fun _ h9 => h9) rfl (by decide +kernel) (rfl) (rfl) (Nat.le_of_ble_eq_true rfl) d0 (fun H2 locs2 hP2 hD2 hS2 => ?_)
  refine lv_aload_n hx hb d3 rfl h0 ?_
  refine lv_aload_n hx hb d4 rfl h1 ?_
  refine va_put (D := (dC, dI)) (ci := 14) (v := .ref (ad 1)) (ty := (tyX11 8)) (C := RX11) (T := TX11) (N := 15) hx hb hu iuX11 tyX11 tyX11_ok nmX11 hown hK hP2 hD2 hS2 0 rfl rfl 8 (by decide) (hu _ hf2) (fun _ h9 => h9) rfl (by decide +kernel) (rfl) (rfl) (Nat.le_of_ble_eq_true rfl) d5 (fun H3 locs3 hP3 hD3 hS3 => ?_)
  exact kk H3 locs3 ⟨hK.sub [3, 1, 2, 0, 4, 5, 6, 7, 8, 9, 10, 11, 12, 13, 14, 15, 16, 17, 18, 19, 20, 21, 22, 23, 24, 25, 26, 27, 28, 29, 30, 31, 32, 33, 34, 35, 36, 37, 38, 39, 40, 41, 42, 43, 44, 45, 46, 47] rfl, hP3.sub [0, 5, 15, 3, 4, 1, 6, 7, 8, 9, 10, 11, 12, 13, 14, 2, 16, 17, 18, 19, 20, 21, 22, 23, 24, 25, 26, 27, 28, 29, 30, 31, 32, 33, 34, 35, 36, 37, 38, 39, 40, 41, 42, 43, 44, 45, 46, 47, 48, 49, 50, 51, 52, 53, 54, 55, 56, 57, 58, 59, 60, 61] rfl, hD3.sub [0, 5, 15, 3, 4, 1, 6, 7, 8, 9, 10, 11, 12, 13, 14, 2, 16, 17, 18, 19, 20, 21, 22, 23, 24, 25, 26, 27, 28, 29, 30, 31, 32, 33, 34, 35, 36, 37, 38, 39, 40, 41, 42, 43, 44, 45, 46, 47, 48, 49, 50, 51, 52, 53, 54, 55, 56, 57, 58, 59, 60, 61] (by decide) rfl, hS3, hA, hZ⟩

