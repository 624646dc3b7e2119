
theorem mG_772 : Cond.methodLink "LazyForge$Signs" 37 yX8_clear ∈ uG := uG_at 772 (by decide +kernel) (by decide +kernel)
theorem mG_773 : Cond.instanceMethod yX8_clear ∈ uG := uG_at 773 (by decide +kernel) (by decide +kernel)
theorem mG_774 : Cond.selects "LazyForge$Signs" yX8_clear yX8_clear ∈ uG := uG_at 774 (by decide +kernel) (by decide +kernel)
theorem mG_775 : Cond.code yX8_clear prog_10_method_2_code 1 none ∈ uG := uG_at 775 (by decide +kernel) (by decide +kernel)
theorem dX4_tell_0 : decode cX4_tell 0 = .ok (.iload_n 2, 1) := by decide +kernel
theorem dX4_tell_1 : decode cX4_tell 1 = .ok (.tableswitch 70 0 4 #[35, 42, 49, 56, 63], 35) := by decide +kernel
theorem dX4_tell_36 : decode cX4_tell 36 = .ok (.aload_n 0, 1) := by decide +kernel
theorem dX4_tell_37 : decode cX4_tell 37 = .ok (.getfield 22, 3) := by decide +kernel
theorem dX4_tell_40 : decode cX4_tell 40 = .ok (.iload_n 1, 1) := by decide +kernel
theorem dX4_tell_41 : decode cX4_tell 41 = .ok (.iaload, 1) := by decide +kernel
theorem dX4_tell_42 : decode cX4_tell 42 = .ok (.ireturn, 1) := by decide +kernel
theorem dX4_tell_43 : decode cX4_tell 43 = .ok (.aload_n 0, 1) := by decide +kernel
theorem dX4_tell_44 : decode cX4_tell 44 = .ok (.getfield 25, 3) := by decide +kernel
theorem dX4_tell_47 : decode cX4_tell 47 = .ok (.iload_n 1, 1) := by decide +kernel
theorem dX4_tell_48 : decode cX4_tell 48 = .ok (.iaload, 1) := by decide +kernel
theorem dX4_tell_49 : decode cX4_tell 49 = .ok (.ireturn, 1) := by decide +kernel
theorem dX4_tell_50 : decode cX4_tell 50 = .ok (.aload_n 0, 1) := by decide +kernel
theorem dX4_tell_51 : decode cX4_tell 51 = .ok (.getfield 31, 3) := by decide +kernel
theorem dX4_tell_54 : decode cX4_tell 54 = .ok (.iload_n 1, 1) := by decide +kernel
theorem dX4_tell_55 : decode cX4_tell 55 = .ok (.iaload, 1) := by decide +kernel
theorem dX4_tell_56 : decode cX4_tell 56 = .ok (.ireturn, 1) := by decide +kernel
theorem dX4_tell_57 : decode cX4_tell 57 = .ok (.aload_n 0, 1) := by decide +kernel
theorem dX4_tell_58 : decode cX4_tell 58 = .ok (.getfield 40, 3) := by decide +kernel
theorem dX4_tell_61 : decode cX4_tell 61 = .ok (.iload_n 1, 1) := by decide +kernel
theorem dX4_tell_62 : decode cX4_tell 62 = .ok (.iaload, 1) := by decide +kernel
theorem dX4_tell_63 : decode cX4_tell 63 = .ok (.ireturn, 1) := by decide +kernel
theorem dX4_tell_64 : decode cX4_tell 64 = .ok (.aload_n 0, 1) := by decide +kernel
theorem dX4_tell_65 : decode cX4_tell 65 = .ok (.getfield 46, 3) := by decide +kernel
theorem dX4_tell_68 : decode cX4_tell 68 = .ok (.iload_n 1, 1) := by decide +kernel
theorem dX4_tell_69 : decode cX4_tell 69 = .ok (.iaload, 1) := by decide +kernel
theorem dX4_tell_70 : decode cX4_tell 70 = .ok (.ireturn, 1) := by decide +kernel
theorem dX4_tell_71 : decode cX4_tell 71 = .ok (.aload_n 0, 1) := by decide +kernel
theorem dX4_tell_72 : decode cX4_tell 72 = .ok (.getfield 43, 3) := by decide +kernel
theorem dX4_tell_75 : decode cX4_tell 75 = .ok (.iload_n 1, 1) := by decide +kernel
theorem dX4_tell_76 : decode cX4_tell 76 = .ok (.iaload, 1) := by decide +kernel
theorem dX4_tell_77 : decode cX4_tell 77 = .ok (.ireturn, 1) := by decide +kernel
theorem dX8_copy_0 : decode cX8_copy 0 = .ok (.aload_n 0, 1) := by decide +kernel
theorem dX8_copy_1 : decode cX8_copy 1 = .ok (.invokevirtual 37, 3) := by decide +kernel
theorem dX8_copy_4 : decode cX8_copy 4 = .ok (.iconst 0, 1) := by decide +kernel
theorem dX8_copy_5 : decode cX8_copy 5 = .ok (.istore_n 2, 1) := by decide +kernel
theorem dX8_copy_6 : decode cX8_copy 6 = .ok (.iload_n 2, 1) := by decide +kernel
theorem dX8_copy_7 : decode cX8_copy 7 = .ok (.aload_n 1, 1) := by decide +kernel
theorem dX8_copy_8 : decode cX8_copy 8 = .ok (.getfield 15, 3) := by decide +kernel
theorem dX8_copy_11 : decode cX8_copy 11 = .ok (.if_icmp .ge 19, 3) := by decide +kernel
theorem dX8_copy_14 : decode cX8_copy 14 = .ok (.aload_n 0, 1) := by decide +kernel
theorem dX8_copy_15 : decode cX8_copy 15 = .ok (.aload_n 1, 1) := by decide +kernel
theorem dX8_copy_16 : decode cX8_copy 16 = .ok (.getfield 9, 3) := by decide +kernel
theorem dX8_copy_19 : decode cX8_copy 19 = .ok (.iload_n 2, 1) := by decide +kernel
theorem dX8_copy_20 : decode cX8_copy 20 = .ok (.baload, 1) := by decide +kernel
theorem dX8_copy_21 : decode cX8_copy 21 = .ok (.invokevirtual 33, 3) := by decide +kernel
theorem dX8_copy_24 : decode cX8_copy 24 = .ok (.iinc 2 1, 3) := by decide +kernel
theorem dX8_copy_27 : decode cX8_copy 27 = .ok (.goto (-21), 3) := by decide +kernel
theorem dX8_copy_30 : decode cX8_copy 30 = .ok (.return_, 1) := by decide +kernel
theorem cw_X8_clear : CWV yX8_clear cX8_clear 1 none RX8 0 := ⟨mG_775, mG_773, mG_774, mG_215, by decide +kernel⟩
section MX8_clear_text_F
variable {p : Program} {l : Launch} {e : Env} {R : Room} {s : State} {m : MethodId} {args : Array Value} {below : List Frame} {meth : Method} {c : Code} {dC : Nat → ClassId} {dI : Nat → Nat → Nat} {ak : Nat → Nat} {A : Nat → Prop} {x q9 : Nat} {ad : Nat → Nat} {kc : Nat → ClassId} {sv : Value} {sa va : Nat} {r : Unit} {τ : S5}
set_option maxHeartbeats 4000000 in
set_option maxRecDepth 100000 in
theorem w_X8_clear_text_F {σ : S5}  {H : Heap} {locs : List Loc} {ls : Array Slot} (S : CallFix p m c cX8_clear 1 s args uG RX8) (hr : meth.sig.returnType = none) (hk : meth.locks = false) (hR : 0 ≤ R.frames ∧ 0 ≤ R.locals)
    (X : gX (dC, dI) (tF kc) (wF x q9 ad kc sv sa va) (zF ak) A s σ H locs) (hl : lv_has ls 1 [(0, .ref (ad 4))]) (hg : f_X8_clear_text_F  σ = some (r, τ)) : W p l e R s m args below meth c H locs 0 0 (MQ below (gQv (dC, dI) (tF kc) (wF x q9 ad kc sv sa va) A r τ) args s 0 0 A) (F0 m 0 ls []) := by
  have hx := S.1
  have hb := S.2.1
  have hown := S.2.2.2.1
  have hu := S.2.2.2.2
  unfold f_X8_clear_text_F at hg
  refine lv_aload_n hx hb dX8_clear_0 rfl (lv_at hl 0 rfl) ?_
  refine lv_iconst (v := 0) hx hb dX8_clear_1 (by decide) ?_
  refine wfpI_0 S X mG_263 dX8_clear_2 (fun H locs X => ?_)
  refine lv_aload_n hx hb dX8_clear_5 rfl (lv_at hl 0 rfl) ?_
  refine lv_iconst (v := 0) hx hb dX8_clear_6 (by decide) ?_
  refine wfpI_1 S X mG_266 (Or.inl rfl) dX8_clear_7 (fun H locs X => ?_)
  obtain ⟨-, rfl⟩ := fin_some hg
  exact gr_v S hr hk X dX8_clear_10
end MX8_clear_text_F
set_option maxRecDepth 100000 in
theorem k2_X8_clear_text_F (l : Launch) (dC : Nat → ClassId) (dI : Nat → Nat → Nat) {ak : Nat → Nat} (x q9 : Nat) (ad : Nat → Nat) (kc : Nat → ClassId) (sv : Value) (sa va : Nat) {σ τ : S5}  {r : Unit} (hg : f_X8_clear_text_F  σ = some (r, τ)) (sz : Nat) : Met l yX8_clear (Cond.code yX8_clear cX8_clear 1 none :: uG) { frames := 0, cells := 0, slots := 0, locals := 0 } (gPc (dC, dI) (tF kc) (wF x q9 ad kc sv sa va) (zF ak) [.ref (ad 4)] σ sz) (gQv (dC, dI) (tF kc) (wF x q9 ad kc sv sa va) (va_A (wF x q9 ad kc sv sa va σ) sz) r τ) 0 0 (va_A (wF x q9 ad kc sv sa va σ) sz) :=
  g_start (by decide) (Nat.le_of_ble_eq_true rfl) (fun p e s m below meth c ls S hr hk X hl => w_X8_clear_text_F S hr hk ⟨Nat.le_refl _, Nat.le_refl _⟩ X hl hg)
section MX8_add_text_F
variable {p : Program} {l : Launch} {e : Env} {R : Room} {s : State} {m : MethodId} {args : Array Value} {below : List Frame} {meth : Method} {c : Code} {dC : Nat → ClassId} {dI : Nat → Nat → Nat} {ak : Nat → Nat} {A : Nat → Prop} {x q9 : Nat} {ad : Nat → Nat} {kc : Nat → ClassId} {sv : Value} {sa va : Nat} {r : Unit} {τ : S5}
set_option maxHeartbeats 4000000 in
set_option maxRecDepth 100000 in
theorem w_X8_add_text_F {σ : S5} {a1 : Int32} {H : Heap} {locs : List Loc} {ls : Array Slot} (S : CallFix p m c cX8_add 2 s args uG RX8) (hr : meth.sig.returnType = none) (hk : meth.locks = false) (hR : 0 ≤ R.frames ∧ 0 ≤ R.locals)
    (X : gX (dC, dI) (tF kc) (wF x q9 ad kc sv sa va) (zF ak) A s σ H locs) (hl : lv_has ls 2 [(0, .ref (ad 4)), (1, .int a1)]) (hg : f_X8_add_text_F a1 σ = some (r, τ)) : W p l e R s m args below meth c H locs 0 0 (MQ below (gQv (dC, dI) (tF kc) (wF x q9 ad kc sv sa va) A r τ) args s 0 0 A) (F0 m 0 ls []) := by
  have hx := S.1
  have hb := S.2.1
  have hown := S.2.2.2.1
  have hu := S.2.2.2.2
  unfold f_X8_add_text_F at hg
  refine lv_aload_n hx hb dX8_add_0 rfl (lv_at hl 0 rfl) ?_
  refine wfgI_0 (v := (gI σ 0)) S X mG_263 rfl dX8_add_1 ?_
  refine lv_aload_n hx hb dX8_add_4 rfl (lv_at hl 0 rfl) ?_
  refine wfgR_4_0 S X mG_262 dX8_add_5 ?_
  refine wfnA_0 S X dX8_add_8 ?_
  refine lv_icmp_lt (tgt := 18) hx hb dX8_add_9 (by decide) (fun c9 => ?_) (fun c9 => ?_)
  · have hg := (if_pos c9).symm.trans hg
    refine lv_aload_n hx hb dX8_add_18 rfl (lv_at hl 0 rfl) ?_
    refine wfgR_4_0 S X mG_262 dX8_add_19 ?_
    refine lv_aload_n hx hb dX8_add_22 rfl (lv_at hl 0 rfl) ?_
    refine wfgI_0 (v := (gI σ 0)) S X mG_263 rfl dX8_add_23 ?_
    refine lv_iload_n hx hb dX8_add_26 rfl (lv_at hl 1 rfl) ?_
    refine lv_i2b (v := ((a1).toInt8.toInt32)) hx hb dX8_add_27 rfl ?_
    obtain ⟨hi28, hg⟩ := gd_some hg
    refine wfsA_0 S X hi28 dX8_add_28 (fun H locs X => ?_)
    refine lv_aload_n hx hb dX8_add_29 rfl (lv_at hl 0 rfl) ?_
    refine lv_dup hx hb dX8_add_30 rfl ?_
    refine wfgI_0 (v := (gI σ 0)) S X mG_263 rfl dX8_add_31 ?_
    refine lv_iconst (v := 1) hx hb dX8_add_34 (by decide) ?_
    refine lv_iadd hx hb dX8_add_35 ?_
    refine wfpI_0 S X mG_263 dX8_add_36 (fun H locs X => ?_)
    obtain ⟨-, rfl⟩ := fin_some hg
    exact gr_v S hr hk X dX8_add_39
  · have hg := (if_neg c9).symm.trans hg
    refine lv_aload_n hx hb dX8_add_12 rfl (lv_at hl 0 rfl) ?_
    refine lv_iconst (v := 1) hx hb dX8_add_13 (by decide) ?_
    refine wfpI_1 S X mG_266 (Or.inr rfl) dX8_add_14 (fun H locs X => ?_)
    obtain ⟨-, rfl⟩ := fin_some hg
    exact gr_v S hr hk X dX8_add_17
end MX8_add_text_F
set_option maxRecDepth 100000 in
theorem k2_X8_add_text_F (l : Launch) (dC : Nat → ClassId) (dI : Nat → Nat → Nat) {ak : Nat → Nat} (x q9 : Nat) (ad : Nat → Nat) (kc : Nat → ClassId) (sv : Value) (sa va : Nat) {σ τ : S5} {a1 : Int32} {r : Unit} (hg : f_X8_add_text_F a1 σ = some (r, τ)) (sz : Nat) : Met l yX8_add (Cond.code yX8_add cX8_add 2 none :: uG) { frames := 0, cells := 0, slots := 0, locals := 0 } (gPc (dC, dI) (tF kc) (wF x q9 ad kc sv sa va) (zF ak) [.ref (ad 4), .int a1] σ sz) (gQv (dC, dI) (tF kc) (wF x q9 ad kc sv sa va) (va_A (wF x q9 ad kc sv sa va σ) sz) r τ) 0 0 (va_A (wF x q9 ad kc sv sa va σ) sz) :=
  g_start (by decide) (Nat.le_of_ble_eq_true rfl) (fun p e s m below meth c ls S hr hk X hl => w_X8_add_text_F S hr hk ⟨Nat.le_refl _, Nat.le_refl _⟩ X hl hg)
section MX8_copy_text_out_F
variable {p : Program} {l : Launch} {e : Env} {R : Room} {s : State} {m : MethodId} {args : Array Value} {below : List Frame} {meth : Method} {c : Code} {dC : Nat → ClassId} {dI : Nat → Nat → Nat} {ak : Nat → Nat} {A : Nat → Prop} {x q9 : Nat} {ad : Nat → Nat} {kc : Nat → ClassId} {sv : Value} {sa va : Nat} {r : Unit} {τ : S5}
set_option maxHeartbeats 4000000 in
set_option maxRecDepth 100000 in
theorem w_X8_copy_text_out_F_B6 {σ : S5} {rec6 : Int32 → S5 → Option (Unit × S5)} {v2 : Int32} {H : Heap} {locs : List Loc} {ls : Array Slot} (S : CallFix p m c cX8_copy 3 s args uG RX8) (hr : meth.sig.returnType = none) (hk : meth.locks = false) (hR : 1 ≤ R.frames ∧ 21 ≤ R.locals)
    (hrec6 : ∀ (v2 : Int32) (σ : S5) (H : Heap) (locs : List Loc) (ls : Array Slot), gX (dC, dI) (tF kc) (wF x q9 ad kc sv sa va) (zF ak) A s σ H locs → lv_has ls 3 [(0, .ref (ad 4)), (1, .ref (ad 1)), (2, .int v2)] → rec6 v2 σ = some (r, τ) → W p l e R s m args below meth c H locs 0 0 (MQ below (gQv (dC, dI) (tF kc) (wF x q9 ad kc sv sa va) A r τ) args s 0 0 A) (F0 m 6 ls []))
    (X : gX (dC, dI) (tF kc) (wF x q9 ad kc sv sa va) (zF ak) A s σ H locs) (hl : lv_has ls 3 [(0, .ref (ad 4)), (1, .ref (ad 1)), (2, .int v2)]) (hg : f_X8_copy_text_out_F_B6 rec6 v2 σ = some (r, τ)) : W p l e R s m args below meth c H locs 0 0 (MQ below (gQv (dC, dI) (tF kc) (wF x q9 ad kc sv sa va) A r τ) args s 0 0 A) (F0 m 6 ls []) := by
  have hx := S.1
  have hb := S.2.1
  have hown := S.2.2.2.1
  have hu := S.2.2.2.2
  unfold f_X8_copy_text_out_F_B6 at hg
  refine lv_iload_n hx hb dX8_copy_6 rfl (lv_at hl 2 rfl) ?_
  refine lv_aload_n hx hb dX8_copy_7 rfl (lv_at hl 1 rfl) ?_
  refine wfgI_66 (v := (gI σ 66)) S X mG_263 rfl dX8_copy_8 ?_
  refine lv_icmp_ge (tgt := 30) hx hb dX8_copy_11 (by decide) (fun c11 => ?_) (fun c11 => ?_)
  · have hg := (if_pos c11).symm.trans hg
    obtain ⟨-, rfl⟩ := fin_some hg
    exact gr_v S hr hk X dX8_copy_30
  · have hg := (if_neg c11).symm.trans hg
    refine lv_aload_n hx hb dX8_copy_14 rfl (lv_at hl 0 rfl) ?_
    refine lv_aload_n hx hb dX8_copy_15 rfl (lv_at hl 1 rfl) ?_
    refine wfgR_1_0 S X mG_262 dX8_copy_16 ?_
    refine lv_iload_n hx hb dX8_copy_19 rfl (lv_at hl 2 rfl) ?_
    obtain ⟨hi20, hg⟩ := gd_some hg
    refine wflA_50 (v := (xA σ 50 v2)) S X hi20 rfl dX8_copy_20 ?_
    obtain ⟨r21, τ21, hq21, hg⟩ := bd_some hg
    refine gc_Vv (As := [.int (xA σ 50 v2)]) (rest := []) (q0 := 4) (ci := 11) S X (k2_X8_add_text_F l dC dI x q9 ad kc sv sa va hq21 H.size) cw_X8_add mG_776 rfl rfl rfl rfl rfl hl.1 (Nat.le_of_ble_eq_true rfl) dX8_copy_21 ⟨by omega, by omega⟩ (fun H locs X => ?_)
    refine lv_iinc (v := (v2 + 1)) (lv' := [(2, .int (v2 + 1)), (0, .ref (ad 4)), (1, .ref (ad 1))]) hx hb dX8_copy_24 hl (k := 2) rfl (by rfl) (by decide) rfl (fun ls hl => ?_)
    refine lv_goto (tgt := 6) hx hb dX8_copy_27 (by decide) ?_
    exact hrec6 _ _ _ _ _ X (lv_sub hl [1, 2, 0] rfl) hg
set_option maxHeartbeats 4000000 in
set_option maxRecDepth 100000 in
theorem w_X8_copy_text_out_F_L6 (S : CallFix p m c cX8_copy 3 s args uG RX8) (hr : meth.sig.returnType = none) (hk : meth.locks = false) (hR : 1 ≤ R.frames ∧ 21 ≤ R.locals) : ∀ (n : Nat) (v2 : Int32) (σ : S5) (H : Heap) (locs : List Loc) (ls : Array Slot), gX (dC, dI) (tF kc) (wF x q9 ad kc sv sa va) (zF ak) A s σ H locs → lv_has ls 3 [(0, .ref (ad 4)), (1, .ref (ad 1)), (2, .int v2)] → f_X8_copy_text_out_F_L6  n v2 σ = some (r, τ) → W p l e R s m args below meth c H locs 0 0 (MQ below (gQv (dC, dI) (tF kc) (wF x q9 ad kc sv sa va) A r τ) args s 0 0 A) (F0 m 6 ls []) := by
  intro n
  induction n with
  | zero => intro v2 σ H locs ls X hl hg; cases hg
  | succ n ih => intro v2 σ H locs ls X hl hg; exact w_X8_copy_text_out_F_B6 S hr hk hR ih X hl hg
set_option maxHeartbeats 4000000 in
set_option maxRecDepth 100000 in
theorem w_X8_copy_text_out_F {σ : S5}  {H : Heap} {locs : List Loc} {ls : Array Slot} (S : CallFix p m c cX8_copy 3 s args uG RX8) (hr : meth.sig.returnType = none) (hk : meth.locks = false) (hR : 1 ≤ R.frames ∧ 21 ≤ R.locals)
    (X : gX (dC, dI) (tF kc) (wF x q9 ad kc sv sa va) (zF ak) A s σ H locs) (hl : lv_has ls 3 [(0, .ref (ad 4)), (1, .ref (ad 1))]) (hg : f_X8_copy_text_out_F  σ = some (r, τ)) : W p l e R s m args below meth c H locs 0 0 (MQ below (gQv (dC, dI) (tF kc) (wF x q9 ad kc sv sa va) A r τ) args s 0 0 A) (F0 m 0 ls []) := by
  have hx := S.1
  have hb := S.2.1
  have hown := S.2.2.2.1
  have hu := S.2.2.2.2
  unfold f_X8_copy_text_out_F at hg
  refine lv_aload_n hx hb dX8_copy_0 rfl (lv_at hl 0 rfl) ?_
  obtain ⟨r1, τ1, hq1, hg⟩ := bd_some hg
  refine gc_Vv (As := []) (rest := []) (q0 := 4) (ci := 11) S X (k2_X8_clear_text_F l dC dI x q9 ad kc sv sa va hq1 H.size) cw_X8_clear mG_772 rfl rfl rfl rfl rfl hl.1 (Nat.le_of_ble_eq_true rfl) dX8_copy_1 ⟨by omega, by omega⟩ (fun H locs X => ?_)
  refine lv_iconst (v := 0) hx hb dX8_copy_4 (by decide) ?_
  refine lv_istore_n (lv' := [(2, .int 0), (0, .ref (ad 4)), (1, .ref (ad 1))]) hx hb dX8_copy_5 rfl hl (by decide) rfl (fun ls hl => ?_)
  exact w_X8_copy_text_out_F_L6 S hr hk hR _ _ _ _ _ _ X (lv_sub hl [1, 2, 0] rfl) hg
end MX8_copy_text_out_F
set_option maxRecDepth 100000 in
theorem k2_X8_copy_text_out_F (l : Launch) (dC : Nat → ClassId) (dI : Nat → Nat → Nat) {ak : Nat → Nat} (x q9 : Nat) (ad : Nat → Nat) (kc : Nat → ClassId) (sv : Value) (sa va : Nat) {σ τ : S5}  {r : Unit} (hg : f_X8_copy_text_out_F  σ = some (r, τ)) (sz : Nat) : Met l yX8_copy (Cond.code yX8_copy cX8_copy 3 none :: uG) { frames := 1, cells := 0, slots := 0, locals := 21 } (gPc (dC, dI) (tF kc) (wF x q9 ad kc sv sa va) (zF ak) [.ref (ad 4), .ref (ad 1)] σ sz) (gQv (dC, dI) (tF kc) (wF x q9 ad kc sv sa va) (va_A (wF x q9 ad kc sv sa va σ) sz) r τ) 0 0 (va_A (wF x q9 ad kc sv sa va σ) sz) :=
  g_start (by decide) (Nat.le_of_ble_eq_true rfl) (fun p e s m below meth c ls S hr hk X hl => w_X8_copy_text_out_F S hr hk ⟨Nat.le_refl _, Nat.le_refl _⟩ X hl hg)
section MX8_signAt_out_F
variable {p : Program} {l : Launch} {e : Env} {R : Room} {s : State} {m : MethodId} {args : Array Value} {below : List Frame} {meth : Method} {c : Code} {dC : Nat → ClassId} {dI : Nat → Nat → Nat} {ak : Nat → Nat} {A : Nat → Prop} {x q9 : Nat} {ad : Nat → Nat} {kc : Nat → ClassId} {sv : Value} {sa va : Nat} {r : Int32} {τ : S5}
set_option maxHeartbeats 4000000 in
set_option maxRecDepth 100000 in
theorem w_X8_signAt_out_F {σ : S5} {a1 : Int32} {H : Heap} {locs : List Loc} {ls : Array Slot} (S : CallFix p m c cX8_signAt 2 s args uG RX8) (hr : meth.sig.returnType = (some .int)) (hk : meth.locks = false) (hR : 0 ≤ R.frames ∧ 0 ≤ R.locals)
    (X : gX (dC, dI) (tF kc) (wF x q9 ad kc sv sa va) (zF ak) A s σ H locs) (hl : lv_has ls 2 [(0, .ref (ad 1)), (1, .int a1)]) (hg : f_X8_signAt_out_F a1 σ = some (r, τ)) : W p l e R s m args below meth c H locs 0 0 (MQ below (gQi (dC, dI) (tF kc) (wF x q9 ad kc sv sa va) A r τ) args s 0 0 A) (F0 m 0 ls []) := by
  have hx := S.1
  have hb := S.2.1
  have hown := S.2.2.2.1
  have hu := S.2.2.2.2
  unfold f_X8_signAt_out_F at hg
  refine lv_iload_n hx hb dX8_signAt_0 rfl (lv_at hl 1 rfl) ?_
  refine lv_if_lt (tgt := 21) hx hb dX8_signAt_1 (by decide) (fun c1 => ?_) (fun c1 => ?_)
  · have hg := (if_pos c1).symm.trans hg
    refine lv_iconst (v := (-1)) hx hb dX8_signAt_21 (by decide) ?_
    obtain ⟨rfl, rfl⟩ := fin_some hg
    exact gr_i S hr hk X dX8_signAt_22
  · have hg := (if_neg c1).symm.trans hg
    refine lv_iload_n hx hb dX8_signAt_4 rfl (lv_at hl 1 rfl) ?_
    refine lv_aload_n hx hb dX8_signAt_5 rfl (lv_at hl 0 rfl) ?_
    refine wfgI_66 (v := (gI σ 66)) S X mG_263 rfl dX8_signAt_6 ?_
    refine lv_icmp_ge (tgt := 21) hx hb dX8_signAt_9 (by decide) (fun c9 => ?_) (fun c9 => ?_)
    · have hg := (if_pos c9).symm.trans hg
      refine lv_iconst (v := (-1)) hx hb dX8_signAt_21 (by decide) ?_
      obtain ⟨rfl, rfl⟩ := fin_some hg
      exact gr_i S hr hk X dX8_signAt_22
    · have hg := (if_neg c9).symm.trans hg
      refine lv_aload_n hx hb dX8_signAt_12 rfl (lv_at hl 0 rfl) ?_
      refine wfgR_1_0 S X mG_262 dX8_signAt_13 ?_
      refine lv_iload_n hx hb dX8_signAt_16 rfl (lv_at hl 1 rfl) ?_
      obtain ⟨hi17, hg⟩ := gd_some hg
      refine wflA_50 (v := (xA σ 50 a1)) S X hi17 rfl dX8_signAt_17 ?_
      refine lv_goto (tgt := 22) hx hb dX8_signAt_18 (by decide) ?_
      obtain ⟨rfl, rfl⟩ := fin_some hg
      exact gr_i S hr hk X dX8_signAt_22
end MX8_signAt_out_F
set_option maxRecDepth 100000 in
theorem k2_X8_signAt_out_F (l : Launch) (dC : Nat → ClassId) (dI : Nat → Nat → Nat) {ak : Nat → Nat} (x q9 : Nat) (ad : Nat → Nat) (kc : Nat → ClassId) (sv : Value) (sa va : Nat) {σ τ : S5} {a1 : Int32} {r : Int32} (hg : f_X8_signAt_out_F a1 σ = some (r, τ)) (sz : Nat) : Met l yX8_signAt (Cond.code yX8_signAt cX8_signAt 2 (some .int) :: uG) { frames := 0, cells := 0, slots := 0, locals := 0 } (gPc (dC, dI) (tF kc) (wF x q9 ad kc sv sa va) (zF ak) [.ref (ad 1), .int a1] σ sz) (gQi (dC, dI) (tF kc) (wF x q9 ad kc sv sa va) (va_A (wF x q9 ad kc sv sa va σ) sz) r τ) 0 0 (va_A (wF x q9 ad kc sv sa va σ) sz) :=
  g_start (by decide) (Nat.le_of_ble_eq_true rfl) (fun p e s m below meth c ls S hr hk X hl => w_X8_signAt_out_F S hr hk ⟨Nat.le_refl _, Nat.le_refl _⟩ X hl hg)
section MX4_tell_F
variable {p : Program} {l : Launch} {e : Env} {R : Room} {s : State} {m : MethodId} {args : Array Value} {below : List Frame} {meth : Method} {c : Code} {dC : Nat → ClassId} {dI : Nat → Nat → Nat} {ak : Nat → Nat} {A : Nat → Prop} {x q9 : Nat} {ad : Nat → Nat} {kc : Nat → ClassId} {sv : Value} {sa va : Nat} {r : Int32} {τ : S5}
set_option maxHeartbeats 4000000 in
set_option maxRecDepth 100000 in
theorem w_X4_tell_F {σ : S5} {a1 : Int32} {a2 : Int32} {H : Heap} {locs : List Loc} {ls : Array Slot} (S : CallFix p m c cX4_tell 3 s args uG RX4) (hr : meth.sig.returnType = (some .int)) (hk : meth.locks = false) (hR : 0 ≤ R.frames ∧ 0 ≤ R.locals)
    (X : gX (dC, dI) (tF kc) (wF x q9 ad kc sv sa va) (zF ak) A s σ H locs) (hl : lv_has ls 3 [(0, .ref (ad 6)), (1, .int a1), (2, .int a2)]) (hg : f_X4_tell_F a1 a2 σ = some (r, τ)) : W p l e R s m args below meth c H locs 0 0 (MQ below (gQi (dC, dI) (tF kc) (wF x q9 ad kc sv sa va) A r τ) args s 0 0 A) (F0 m 0 ls []) := by
  have hx := S.1
  have hb := S.2.1
  have hown := S.2.2.2.1
  have hu := S.2.2.2.2
  unfold f_X4_tell_F at hg
  refine lv_iload_n hx hb dX4_tell_0 rfl (lv_at hl 2 rfl) ?_
  rcases sw_0_4 (a2) with hsw | hsw | hsw | hsw | hsw | hsw
  · refine lv_tableOut (tgt := 71) hx hb dX4_tell_1 hsw (by decide) ?_
    obtain ⟨hs0, hs1, hs2, hs3, hs4⟩ := swo_0_4 hsw
    have hg := (if_neg hs0).symm.trans hg
    have hg := (if_neg hs1).symm.trans hg
    have hg := (if_neg hs2).symm.trans hg
    have hg := (if_neg hs3).symm.trans hg
    have hg := (if_neg hs4).symm.trans hg
    refine lv_aload_n hx hb dX4_tell_71 rfl (lv_at hl 0 rfl) ?_
    refine wfgR_6_14 S X mG_331 dX4_tell_72 ?_
    refine lv_iload_n hx hb dX4_tell_75 rfl (lv_at hl 1 rfl) ?_
    obtain ⟨hi76, hg⟩ := gd_some hg
    refine wflA_10 (v := (xA σ 10 a1)) S X hi76 rfl dX4_tell_76 ?_
    obtain ⟨rfl, rfl⟩ := fin_some hg
    exact gr_i S hr hk X dX4_tell_77
  · refine lv_tableIn (off := 35) (tgt := 36) hx hb dX4_tell_1 (by rw [hsw]; decide) (by rw [hsw]; decide) (by rw [hsw]; decide) (by decide) ?_
    have hg := (if_pos hsw).symm.trans hg
    refine lv_aload_n hx hb dX4_tell_36 rfl (lv_at hl 0 rfl) ?_
    refine wfgR_6_7 S X mG_308 dX4_tell_37 ?_
    refine lv_iload_n hx hb dX4_tell_40 rfl (lv_at hl 1 rfl) ?_
    obtain ⟨hi41, hg⟩ := gd_some hg
    refine wflA_3 (v := (xA σ 3 a1)) S X hi41 rfl dX4_tell_41 ?_
    obtain ⟨rfl, rfl⟩ := fin_some hg
    exact gr_i S hr hk X dX4_tell_42
  · refine lv_tableIn (off := 42) (tgt := 43) hx hb dX4_tell_1 (by rw [hsw]; decide) (by rw [hsw]; decide) (by rw [hsw]; decide) (by decide) ?_
    have hg := (if_neg (by rw [hsw]; decide)).symm.trans hg
    have hg := (if_pos hsw).symm.trans hg
    refine lv_aload_n hx hb dX4_tell_43 rfl (lv_at hl 0 rfl) ?_
    refine wfgR_6_8 S X mG_314 dX4_tell_44 ?_
    refine lv_iload_n hx hb dX4_tell_47 rfl (lv_at hl 1 rfl) ?_
    obtain ⟨hi48, hg⟩ := gd_some hg
    refine wflA_4 (v := (xA σ 4 a1)) S X hi48 rfl dX4_tell_48 ?_
    obtain ⟨rfl, rfl⟩ := fin_some hg
    exact gr_i S hr hk X dX4_tell_49
  · refine lv_tableIn (off := 49) (tgt := 50) hx hb dX4_tell_1 (by rw [hsw]; decide) (by rw [hsw]; decide) (by rw [hsw]; decide) (by decide) ?_
    have hg := (if_neg (by rw [hsw]; decide)).symm.trans hg
    have hg := (if_neg (by rw [hsw]; decide)).symm.trans hg
    have hg := (if_pos hsw).symm.trans hg
    refine lv_aload_n hx hb dX4_tell_50 rfl (lv_at hl 0 rfl) ?_
    refine wfgR_6_10 S X mG_318 dX4_tell_51 ?_
    refine lv_iload_n hx hb dX4_tell_54 rfl (lv_at hl 1 rfl) ?_
    obtain ⟨hi55, hg⟩ := gd_some hg
    refine wflA_6 (v := (xA σ 6 a1)) S X hi55 rfl dX4_tell_55 ?_
    obtain ⟨rfl, rfl⟩ := fin_some hg
    exact gr_i S hr hk X dX4_tell_56
  · refine lv_tableIn (off := 56) (tgt := 57) hx hb dX4_tell_1 (by rw [hsw]; decide) (by rw [hsw]; decide) (by rw [hsw]; decide) (by decide) ?_
    have hg := (if_neg (by rw [hsw]; decide)).symm.trans hg
    have hg := (if_neg (by rw [hsw]; decide)).symm.trans hg
    have hg := (if_neg (by rw [hsw]; decide)).symm.trans hg
    have hg := (if_pos hsw).symm.trans hg
    refine lv_aload_n hx hb dX4_tell_57 rfl (lv_at hl 0 rfl) ?_
    refine wfgR_6_13 S X mG_329 dX4_tell_58 ?_
    refine lv_iload_n hx hb dX4_tell_61 rfl (lv_at hl 1 rfl) ?_
    obtain ⟨hi62, hg⟩ := gd_some hg
    refine wflA_9 (v := (xA σ 9 a1)) S X hi62 rfl dX4_tell_62 ?_
    obtain ⟨rfl, rfl⟩ := fin_some hg
    exact gr_i S hr hk X dX4_tell_63
  · refine lv_tableIn (off := 63) (tgt := 64) hx hb dX4_tell_1 (by rw [hsw]; decide) (by rw [hsw]; decide) (by rw [hsw]; decide) (by decide) ?_
    have hg := (if_neg (by rw [hsw]; decide)).symm.trans hg
    have hg := (if_neg (by rw [hsw]; decide)).symm.trans hg
    have hg := (if_neg (by rw [hsw]; decide)).symm.trans hg
    have hg := (if_neg (by rw [hsw]; decide)).symm.trans hg
    have hg := (if_pos hsw).symm.trans hg
    refine lv_aload_n hx hb dX4_tell_64 rfl (lv_at hl 0 rfl) ?_
    refine wfgR_6_15 S X mG_333 dX4_tell_65 ?_
    refine lv_iload_n hx hb dX4_tell_68 rfl (lv_at hl 1 rfl) ?_
    obtain ⟨hi69, hg⟩ := gd_some hg
    refine wflA_11 (v := (xA σ 11 a1)) S X hi69 rfl dX4_tell_69 ?_
    obtain ⟨rfl, rfl⟩ := fin_some hg
    exact gr_i S hr hk X dX4_tell_70
end MX4_tell_F
set_option maxRecDepth 100000 in
theorem k2_X4_tell_F (l : Launch) (dC : Nat → ClassId) (dI : Nat → Nat → Nat) {ak : Nat → Nat} (x q9 : Nat) (ad : Nat → Nat) (kc : Nat → ClassId) (sv : Value) (sa va : Nat) {σ τ : S5} {a1 : Int32} {a2 : Int32} {r : Int32} (hg : f_X4_tell_F a1 a2 σ = some (r, τ)) (sz : Nat) : Met l yX4_tell (Cond.code yX4_tell cX4_tell 3 (some .int) :: uG) { frames := 0, cells := 0, slots := 0, locals := 0 } (gPc (dC, dI) (tF kc) (wF x q9 ad kc sv sa va) (zF ak) [.ref (ad 6), .int a1, .int a2] σ sz) (gQi (dC, dI) (tF kc) (wF x q9 ad kc sv sa va) (va_A (wF x q9 ad kc sv sa va σ) sz) r τ) 0 0 (va_A (wF x q9 ad kc sv sa va σ) sz) :=
  g_start (by decide) (Nat.le_of_ble_eq_true rfl) (fun p e s m below meth c ls S hr hk X hl => w_X4_tell_F S hr hk ⟨Nat.le_refl _, Nat.le_refl _⟩ X hl hg)
section MX4_needsParameter_F
variable {p : Program} {l : Launch} {e : Env} {R : Room} {s : State} {m : MethodId} {args : Array Value} {below : List Frame} {meth : Method} {c : Code} {dC : Nat → ClassId} {dI : Nat → Nat → Nat} {ak : Nat → Nat} {A : Nat → Prop} {x q9 : Nat} {ad : Nat → Nat} {kc : Nat → ClassId} {sv : Value} {sa va : Nat} {r : Int32} {τ : S5}
set_option maxHeartbeats 4000000 in
set_option maxRecDepth 100000 in
theorem w_X4_needsParameter_F {σ : S5} {a1 : Int32} {a2 : Int32} {H : Heap} {locs : List Loc} {ls : Array Slot} (S : CallFix p m c cX4_needsParameter 3 s args uG RX4) (hr : meth.sig.returnType = (some .boolean)) (hk : meth.locks = false) (hR : 0 ≤ R.frames ∧ 0 ≤ R.locals)
    (X : gX (dC, dI) (tF kc) (wF x q9 ad kc sv sa va) (zF ak) A s σ H locs) (hl : lv_has ls 3 [(0, .ref (ad 6)), (1, .int a1), (2, .int a2)]) (hg : f_X4_needsParameter_F a1 a2 σ = some (r, τ)) : W p l e R s m args below meth c H locs 0 0 (MQ below (gQi (dC, dI) (tF kc) (wF x q9 ad kc sv sa va) A r τ) args s 0 0 A) (F0 m 0 ls []) := by
  have hx := S.1
  have hb := S.2.1
  have hown := S.2.2.2.1
  have hu := S.2.2.2.2
  unfold f_X4_needsParameter_F at hg
  refine lv_aload_n hx hb dX4_needsParameter_0 rfl (lv_at hl 0 rfl) ?_
  refine wfgR_6_16 S X mG_335 dX4_needsParameter_1 ?_
  refine lv_iload_n hx hb dX4_needsParameter_4 rfl (lv_at hl 1 rfl) ?_
  obtain ⟨hi5, hg⟩ := gd_some hg
  refine wflA_12 (v := (xA σ 12 a1)) S X hi5 rfl dX4_needsParameter_5 ?_
  refine lv_iload_n hx hb dX4_needsParameter_6 rfl (lv_at hl 2 rfl) ?_
  refine lv_iushr (v := (j_iushr (xA σ 12 a1) a2)) hx hb dX4_needsParameter_7 rfl ?_
  refine lv_iconst (v := 1) hx hb dX4_needsParameter_8 (by decide) ?_
  refine lv_iand hx hb dX4_needsParameter_9 ?_
  refine lv_if_eq (tgt := 17) hx hb dX4_needsParameter_10 (by decide) (fun c10 => ?_) (fun c10 => ?_)
  · have hg := (if_pos c10).symm.trans hg
    refine lv_iconst (v := 0) hx hb dX4_needsParameter_17 (by decide) ?_
    obtain ⟨rfl, rfl⟩ := fin_some hg
    exact gr_z S hr hk X (Or.inl rfl) dX4_needsParameter_18
  · have hg := (if_neg c10).symm.trans hg
    refine lv_iconst (v := 1) hx hb dX4_needsParameter_13 (by decide) ?_
    refine lv_goto (tgt := 18) hx hb dX4_needsParameter_14 (by decide) ?_
    obtain ⟨rfl, rfl⟩ := fin_some hg
    exact gr_z S hr hk X (Or.inr rfl) dX4_needsParameter_18
end MX4_needsParameter_F
set_option maxRecDepth 100000 in
theorem k2_X4_needsParameter_F (l : Launch) (dC : Nat → ClassId) (dI : Nat → Nat → Nat) {ak : Nat → Nat} (x q9 : Nat) (ad : Nat → Nat) (kc : Nat → ClassId) (sv : Value) (sa va : Nat) {σ τ : S5} {a1 : Int32} {a2 : Int32} {r : Int32} (hg : f_X4_needsParameter_F a1 a2 σ = some (r, τ)) (sz : Nat) : Met l yX4_needsParameter (Cond.code yX4_needsParameter cX4_needsParameter 3 (some .boolean) :: uG) { frames := 0, cells := 0, slots := 0, locals := 0 } (gPc (dC, dI) (tF kc) (wF x q9 ad kc sv sa va) (zF ak) [.ref (ad 6), .int a1, .int a2] σ sz) (gQi (dC, dI) (tF kc) (wF x q9 ad kc sv sa va) (va_A (wF x q9 ad kc sv sa va σ) sz) r τ) 0 0 (va_A (wF x q9 ad kc sv sa va σ) sz) :=
  g_start (by decide) (Nat.le_of_ble_eq_true rfl) (fun p e s m below meth c ls S hr hk X hl => w_X4_needsParameter_F S hr hk ⟨Nat.le_refl _, Nat.le_refl _⟩ X hl hg)
section MX1_look_F
variable {p : Program} {l : Launch} {e : Env} {R : Room} {s : State} {m : MethodId} {args : Array Value} {below : List Frame} {meth : Method} {c : Code} {dC : Nat → ClassId} {dI : Nat → Nat → Nat} {ak : Nat → Nat} {A : Nat → Prop} {x q9 : Nat} {ad : Nat → Nat} {kc : Nat → ClassId} {sv : Value} {sa va : Nat} {r : Int32} {τ : S5}
set_option maxHeartbeats 4000000 in
set_option maxRecDepth 100000 in
theorem w_X1_look_F {σ : S5} {a1 : Int32} {a2 : Int32} {H : Heap} {locs : List Loc} {ls : Array Slot} (S : CallFix p m c cX1_look 3 s args uG RX1) (hr : meth.sig.returnType = (some .int)) (hk : meth.locks = false) (hR : 0 ≤ R.frames ∧ 0 ≤ R.locals)
    (X : gX (dC, dI) (tF kc) (wF x q9 ad kc sv sa va) (zF ak) A s σ H locs) (hl : lv_has ls 3 [(0, .ref (ad 12)), (1, .int a1), (2, .int a2)]) (hg : f_X1_look_F a1 a2 σ = some (r, τ)) : W p l e R s m args below meth c H locs 0 0 (MQ below (gQi (dC, dI) (tF kc) (wF x q9 ad kc sv sa va) A r τ) args s 0 0 A) (F0 m 0 ls []) := by
  have hx := S.1
  have hb := S.2.1
  have hown := S.2.2.2.1
  have hu := S.2.2.2.2
  unfold f_X1_look_F at hg
  refine lv_aload_n hx hb dX1_look_0 rfl (lv_at hl 0 rfl) ?_
  refine wfgR_12_2 S X mG_601 dX1_look_1 ?_
  refine lv_iload_n hx hb dX1_look_4 rfl (lv_at hl 1 rfl) ?_
  refine lv_iconst (v := 4) hx hb dX1_look_5 (by decide) ?_
  refine lv_imul hx hb dX1_look_6 ?_
  refine lv_iload_n hx hb dX1_look_7 rfl (lv_at hl 2 rfl) ?_
  refine lv_bipush (v := 6) hx hb dX1_look_8 (by decide) ?_
  refine lv_iushr (v := (j_iushr a2 6)) hx hb dX1_look_10 rfl ?_
  refine lv_iconst (v := 3) hx hb dX1_look_11 (by decide) ?_
  refine lv_iand hx hb dX1_look_12 ?_
  refine lv_iadd hx hb dX1_look_13 ?_
  obtain ⟨hi14, hg⟩ := gd_some hg
  refine wflB_5 (v := (xB σ 5 ((a1 * 4) + ((j_iushr a2 6) &&& 3)))) S X hi14 rfl dX1_look_14 ?_
  refine lv_iload_n hx hb dX1_look_15 rfl (lv_at hl 2 rfl) ?_
  refine lv_bipush (v := 63) hx hb dX1_look_16 (by decide) ?_
  refine lv_iand hx hb dX1_look_18 ?_
  refine lv_lushr (v := (j_lushr (xB σ 5 ((a1 * 4) + ((j_iushr a2 6) &&& 3))) (a2 &&& 63))) hx hb dX1_look_19 rfl ?_
  refine lv_l2i (v := (((j_lushr (xB σ 5 ((a1 * 4) + ((j_iushr a2 6) &&& 3))) (a2 &&& 63)) : Int64).toInt32)) hx hb dX1_look_20 rfl ?_
  refine lv_iconst (v := 1) hx hb dX1_look_21 (by decide) ?_
  refine lv_iand hx hb dX1_look_22 ?_
  obtain ⟨rfl, rfl⟩ := fin_some hg
  exact gr_i S hr hk X dX1_look_23
end MX1_look_F
set_option maxRecDepth 100000 in
theorem k2_X1_look_F (l : Launch) (dC : Nat → ClassId) (dI : Nat → Nat → Nat) {ak : Nat → Nat} (x q9 : Nat) (ad : Nat → Nat) (kc : Nat → ClassId) (sv : Value) (sa va : Nat) {σ τ : S5} {a1 : Int32} {a2 : Int32} {r : Int32} (hg : f_X1_look_F a1 a2 σ = some (r, τ)) (sz : Nat) : Met l yX1_look (Cond.code yX1_look cX1_look 3 (some .int) :: uG) { frames := 0, cells := 0, slots := 0, locals := 0 } (gPc (dC, dI) (tF kc) (wF x q9 ad kc sv sa va) (zF ak) [.ref (ad 12), .int a1, .int a2] σ sz) (gQi (dC, dI) (tF kc) (wF x q9 ad kc sv sa va) (va_A (wF x q9 ad kc sv sa va σ) sz) r τ) 0 0 (va_A (wF x q9 ad kc sv sa va σ) sz) :=
  g_start (by decide) (Nat.le_of_ble_eq_true rfl) (fun p e s m below meth c ls S hr hk X hl => w_X1_look_F S hr hk ⟨Nat.le_refl _, Nat.le_refl _⟩ X hl hg)

