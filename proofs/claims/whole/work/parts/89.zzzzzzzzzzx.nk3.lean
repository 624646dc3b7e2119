theorem NKs_mC {σ τ : S5} (h : NKs τ) : NKs (mC σ τ) := ⟨h.1, h.2⟩
/-- a new program: the names' signs are signs of a text -/
theorem nk_prog {σ : S5} (h : NKs σ) : Kd NKs (h_L_program σ) := by
  have hp : Kd NKs (f_X11_program σ) := by
    unfold f_X11_program
    refine kd_ite ?_ (kd_some h)
    obtain ⟨τ22, f1, fI, fJ, fA, fB, -⟩ := fo_go σ
    rw [f1, bd_of]
    have h1 : NKs (mK σ τ22) := ⟨h.1, fun i => by
      show okN (gB τ22 0 i)
      rw [fB 0]
      exact h.2 i⟩
    have hb : ∀ s, NKs s → Kd NKs (f_X11_program_b113 s) := by
      intro s hs
      have hb' : ∀ u, Kd NKs (f_X11_program_b126 u s) := by
        intro u
        unfold f_X11_program_b126
        refine kd_g_t (kd_ite (kd_some (NKs_pI _ _ _ trivial hs)) (kd_bd (knk_f_X1_solve _ (knk_f_wordE 64) _ (NKs_pI _ _ _ trivial hs)) (fun _ τ q => kd_some (NKs_mC q))))
      unfold f_X11_program_b113
      exact kd_ite (hb' 1) (hb' 0)
    refine kd_bd (knk_f_X5_readText _ (knk_f_readE 64) _ h1) (fun _ τ29 q => ?_)
    refine kd_bd (P := NKs) ?_ (fun _ τ52 q2 => ?_)
    · unfold f_X8_clear_text_F
      exact kd_some (NKs_pI _ _ _ trivial (NKs_pI _ _ _ trivial (NKs_pI _ _ _ trivial (NKs_mC q))))
    · exact kd_ite (kd_bd (knk_f_X2_lift _ (NKs_pI _ _ _ trivial (NKs_pI _ _ _ trivial q2))) (fun _ τ q3 => hb _ (NKs_pI _ _ _ trivial (NKs_pI _ _ _ trivial (NKs_mC q3))))) (hb _ (NKs_pI _ _ _ trivial (NKs_pI _ _ _ trivial q2)))
  unfold h_L_program
  exact kd_bd hp (fun cv τ q => kd_ite (kd_some (NKs_pB _ _ _ _ (by decide) q)) (kd_ite (kd_some q) kd_none))
theorem NKs.mv {σ τ : S5} (h : NKs σ) (hC : eqC σ τ) : NKs τ := ⟨by show okN (τ.2.1 0); rw [hC.2.1]; exact h.1, fun i => by show okN (τ.2.2.2.1 0 i); rw [hC.2.2.2.1 0 (by decide)]; exact h.2 i⟩
