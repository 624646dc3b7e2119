def sB (z i : Nat) : Int32 := (sByt.getD z []).getD i 0
theorem sB_ok : ∀ z, z < 16 → ∀ i, i < sLen.getD z 0 → (((sB z i &&& 255).toUInt32 % 65536).toInt32 = sB z i ∧ ((sB z i).toUInt32 % 65536).toInt32 = sB z i ∧ (sB z i = 10 ∨ (32 ≤ sB z i ∧ sB z i ≤ 126))) := by decide
theorem sLen_s : ∀ z, z < 16 → ((Int32.ofNat (sLen.getD z 0)) >>> ((0 : Int32) &&& 31)) = nI (sLen.getD z 0) ∧ sLen.getD z 0 ≤ 17 := by decide
theorem len_go {z : Nat} (hz : z < 16) (σ : S5) : f_J0_length_8abf5 z σ = some (nI (sLen.getD z 0), σ) := by
  have hs : z < sN := hz
  unfold f_J0_length_8abf5 f_J0_coder_7d493 gs
  rw [if_pos hs, if_pos hs, if_pos hs, bd_of, if_pos hs, (sLen_s z hz).1]
theorem chr_go {z i : Nat} (hz : z < 16) (hi : i < sLen.getD z 0) (σ : S5) : f_J0_charAt_5068e z (nI i) σ = some (sB z i, σ) := by
  have hs : z < sN := hz
  have hl := (sLen_s z hz).2
  obtain ⟨k1, k2, -⟩ := sB_ok z hz i hi
  have e : (nI i).toNatClampNeg = i := nI_clamp (by omega)
  have hlt : nI i < Int32.ofNat (sLen.getD z 0) := (nI_lt31 (b := sLen.getD z 0) (by omega) (by omega)).mpr hi
  have k1' : ((((sByt.getD z []).getD i 0) &&& 255).toUInt32 % 65536).toInt32 = sB z i := k1
  unfold f_J0_charAt_5068e f_J0_isLatin1_aae02 f_J1_charAt_3b067 f_J0_checkIndex_df160 f_J3_checkIndex_8e157 gs gc
  rw [if_pos hs, bd_of, if_pos hs, if_neg (by decide), if_pos hs, if_pos hs, if_neg (nI_nneg (by omega)), if_pos hlt, bd_of, bd_of, if_pos hs, gdn hi (by omega), e, k1', if_pos k2, bd_of, if_pos k2]
/-- a constant text -/
theorem cx_go {z : Nat} (hz : z < 16) : ∀ (m i N : Nat) (L : List Int32) (σ τ : S5), i + m = sLen.getD z 0 → m < N → L = (List.range m).map (fun k => sB z (i + k)) → LWc L σ τ → f_X8_addText_draft_L2 N z (nI i) σ = some ((), τ) := by
  intro m
  have hl := (sLen_s z hz).2
  have hs : z < sN := hz
  induction m with
  | zero =>
    intro i N L σ τ hi hN hL h
    obtain ⟨N, rfl⟩ : ∃ n, N = n + 1 := ⟨N - 1, by omega⟩
    rw [hL] at h
    cases h
    show f_X8_addText_draft_B2 _ _ _ _ = _
    unfold f_X8_addText_draft_B2 gs
    rw [len_go hz, bd_of, if_pos hs, if_pos (by rw [show i = sLen.getD z 0 by omega]; exact Int32.le_refl _)]
  | succ m ih =>
    intro i N L σ τ hi hN hL h
    obtain ⟨N, rfl⟩ : ∃ n, N = n + 1 := ⟨N - 1, by omega⟩
    rw [List.range_succ_eq_map, List.map_cons, List.map_map] at hL
    rw [hL] at h
    obtain ⟨ρ, h1, h2⟩ := h
    show f_X8_addText_draft_B2 _ _ _ _ = _
    unfold f_X8_addText_draft_B2 gs
    rw [len_go hz, bd_of, if_pos hs, if_neg (fun w => by have := (nI_le31 (a := sLen.getD z 0) (b := i) (by omega) (by omega)).mp w; omega), chr_go hz (by omega), bd_of, if_pos hs]
    rw [Nat.add_zero] at h1
    rw [h1, bd_of, nI_add1]
    refine ih (i + 1) N _ ρ τ (by omega) (by omega) ?_ h2
    refine List.map_congr_left (fun k _ => ?_)
    show sB z (i + (k + 1)) = sB z (i + 1 + k)
    rw [show i + (k + 1) = i + 1 + k by omega]
