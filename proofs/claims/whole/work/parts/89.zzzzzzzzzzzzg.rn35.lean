/-- the other enters a suspension that waits -/
theorem ent_m {μ : S5} {W V b e : Nat} (hM : MM μ W V b e) (hW : W + 2 < 202000) (he : e + 40 ≤ 193000) {c p g nvg p0 : Nat} {a : Int64} (hc : c < 4100) (hp : p < 7000) (hg : g < 640) (h53 : gA μ 53 c = 2) (h54 : gA μ 54 c = nI p) (h55 : gA μ 55 c = nI p0) (h56 : gA μ 56 c = nI (pcn (i64n a) 40)) (h38 : xA μ 38 (nI p) = nI g) (h46 : xA μ 46 (nI g) = nI nvg) (h5 : xB μ 5 (nI p) = a) (hp0 : p0 + pcn (i64n a) 40 ≤ 4100) : ∃ ν, f_X12_enter (vv 3 (nI c)) μ = some ((), pI (pI ν 52 (nI p)) 53 0) ∧ MM ν (W + 2) V e (e + nvg) ∧ FmM μ ν ∧ (∀ j, ¬ (48 ≤ j ∧ j ≤ 51) → gI ν j = gI μ j) ∧ (∀ j, ¬ j = 53 → ¬ (59 ≤ j ∧ j ≤ 61) → gA ν j = gA μ j) ∧ gA ν 53 = upd (gA μ 53) c 3 ∧ (∀ j, ¬ j = 9 → gB ν j = gB μ j) ∧ (gA ν 59 W = ((0 : Int32) <<< ((16 : Int32) &&& 31)) ||| 0 ∧ gA ν 61 W = nI c ∧ gA ν 59 (W + 1) = ((1 : Int32) <<< ((16 : Int32) &&& 31)) ||| 0 ∧ gA ν 60 (W + 1) = nI b ∧ gA ν 61 (W + 1) = nI e) ∧ (∀ j, j < W → gA ν 59 j = gA μ 59 j ∧ gA ν 60 j = gA μ 60 j ∧ gA ν 61 j = gA μ 61 j) ∧ (∀ y, y < 40 → ub a y = true → gB ν 9 (e + y) = gB μ 7 (p0 + pcn (i64n a) y)) ∧ ∀ j, j < e → gB ν 9 j = gB μ 9 j := by
  have hb := FU_big (n := 5000) (by decide)
  have hcc : (nI c).toNatClampNeg = c := nI_clamp (by omega)
  have x53 : xA μ 53 (nI c) = 2 := by
    show gA μ 53 (nI c).toNatClampNeg = _
    rw [hcc]; exact h53
  have x54 : xA μ 54 (nI c) = nI p := by
    show gA μ 54 (nI c).toNatClampNeg = _
    rw [hcc]; exact h54
  obtain ⟨μ1, e1⟩ : ∃ z, z = pA μ 53 (nI c) 3 := ⟨_, rfl⟩
  have hM1 : MM μ1 W V b e := by rw [e1]; exact hM
  have a53 : gA μ1 53 = upd (gA μ 53) c 3 := by
    rw [e1]
    show upd (gA μ 53) (nI c).toNatClampNeg 3 = _
    rw [hcc]
  have aO : ∀ j, ¬ j = 53 → gA μ1 j = gA μ j := fun j w => by rw [e1, gA_pA_ne w]
  have fI : ∀ j, gI μ1 j = gI μ j := fun j => by rw [e1]; rfl
  have fJ : ∀ j, gJ μ1 j = gJ μ j := fun j => by rw [e1]; rfl
  have fB : ∀ j, gB μ1 j = gB μ j := fun j => by rw [e1]; rfl
  have fN : μ1.2.2.2.2 = μ.2.2.2.2 := by rw [e1]; rfl
  obtain ⟨μ2, w1, w2, w3, w4, w5, w6⟩ := wait_m hM1 (by omega) 0 0 (nI c)
  have x38 : xA μ2 38 (nI p) = nI g := by
    rw [show xA μ2 38 (nI p) = gA μ 38 (nI p).toNatClampNeg by show gA μ2 38 _ = _; rw [w3.2.2.1 38 (by decide), aO 38 (by decide)]]
    exact h38
  obtain ⟨μ3, u1, u2, u3, u4, u5, u6⟩ := frame_m (f := g) (nvf := nvg) w2 (by omega) hg (by
    show gA μ2 46 _ = _
    rw [w3.2.2.1 46 (by decide), aO 46 (by decide)]
    exact h46)
  have A3 : ∀ j, ¬ j = 53 → ¬ (59 ≤ j ∧ j ≤ 61) → gA μ3 j = gA μ j := fun j v1 v2 => by rw [u3.2.2.1 j v2, w3.2.2.1 j v2, aO j v1]
  have B3 : ∀ j, gB μ3 j = gB μ j := fun j => by
    by_cases h8 : j = 8
    · rw [h8, u4, w4, fB]
    · rw [u3.2.2.2.1 j h8, w3.2.2.2.1 j h8, fB]
  have I3 : ∀ j, ¬ (48 ≤ j ∧ j ≤ 51) → gI μ3 j = gI μ j := fun j v => by rw [u3.1 j v, w3.1 j v, fI]
  obtain ⟨ν, r1, r2, r3, r4⟩ := ld_m (a := a) (c := c) (p := p) (base := e) (p0 := p0) hp hc he hp0 40 0 FU μ3 (by omega) (by omega) (by
    show gB μ3 5 _ = _
    rw [B3]
    exact h5) u2.2.2.1 (by
    show gA μ3 55 (nI c).toNatClampNeg = _
    rw [hcc, A3 55 (by decide) (by decide)]
    exact h55) (by
    show gA μ3 56 (nI c).toNatClampNeg = _
    rw [hcc, A3 56 (by decide) (by decide)]
    exact h56)
  have z0 : pcn (i64n a) 0 = 0 := rfl
  rw [z0] at r1
  refine ⟨ν, ?_, ⟨(r2.1 48).trans u2.1, (r2.1 49).trans u2.2.1, (r2.1 50).trans u2.2.2.1, (r2.1 51).trans u2.2.2.2⟩, ⟨fun j v v' => ?_, fun j _ => ?_, fun j v => ?_, fun j v => ?_, ?_⟩, fun j v => ?_, fun j v v' => ?_, ?_, fun j v => ?_, ⟨?_, ?_, ?_, ?_, ?_⟩, fun j hj => ?_, fun y y1 y2 => ?_, fun j hj => ?_⟩
  · unfold f_X12_enter f_X12_kindOf f_X12_of bd
    dsimp only
    rw [vv_kd, vv_of, if_pos rfl, gdn hc (by omega), x53, if_pos rfl, gdn hc (by omega), gdn hc (by omega), ← e1, w1]
    dsimp only
    rw [x54, gdn hp (by omega), x38, u1]
    exact r1
  · rw [r2.1 j, I3 j (by omega)]
  · rw [r2.2.1 j, u3.2.1 j, w3.2.1 j, fJ]
  · rw [r2.2.2.1 j, A3 j (by omega) (by omega)]
  · rw [r2.2.2.2.1 j (by omega), B3]
  · rw [r2.2.2.2.2, u3.2.2.2.2, w3.2.2.2.2, fN]
  · rw [r2.1 j, I3 j v]
  · rw [r2.2.2.1 j, A3 j v v']
  · rw [r2.2.2.1 53, u3.2.2.1 53 (by decide), w3.2.2.1 53 (by decide)]
    exact a53
  · rw [r2.2.2.2.1 j v, B3]
  · rw [r2.2.2.1 59, (u6 W (by omega)).1]
    exact w5.1
  · rw [r2.2.2.1 61, (u6 W (by omega)).2.2]
    exact w5.2.2
  · rw [r2.2.2.1 59]
    exact u5.1
  · rw [r2.2.2.1 60]
    exact u5.2.1
  · rw [r2.2.2.1 61]
    exact u5.2.2
  · rw [r2.2.2.1 59, r2.2.2.1 60, r2.2.2.1 61, (u6 j (by omega)).1, (u6 j (by omega)).2.1, (u6 j (by omega)).2.2, (w6 j hj).1, (w6 j hj).2.1, (w6 j hj).2.2, aO 59 (by decide), aO 60 (by decide), aO 61 (by decide)]
    exact ⟨rfl, rfl, rfl⟩
  · rw [r3 y (by omega) y1 y2, B3]
  · rw [r4 j (fun y _ _ _ => by omega), B3]
