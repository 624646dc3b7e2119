/-- a name's kind, as the class tells it, and as the reference does -/
def kwC (z : Int64) : Int32 := if (lg_cmp z 1684108385) = 0 then 6 else if (lg_cmp z 7103860) = 0 then 7 else if (lg_cmp z 26990) = 0 then 8 else if (lg_cmp z 1667330917) = 0 then 9 else if (lg_cmp z 28518) = 0 then 10 else if (lg_cmp z 1717660012) = 0 then 11 else 3
def kwM (z : Int64) : Int32 := if (lg_cmp z 1684108385) = 0 then 10 else if (lg_cmp z 7103860) = 0 then 11 else if (lg_cmp z 26990) = 0 then 12 else if (lg_cmp z 1667330917) = 0 then 13 else if (lg_cmp z 28518) = 0 then 14 else if (lg_cmp z 1717660012) = 0 then 15 else 3
theorem kw_rel (z : Int64) : kwM z = if kwC z = 3 then 3 else kwC z + 4 := by
  unfold kwM kwC
  by_cases c1 : (lg_cmp z 1684108385) = 0
  · rw [if_pos c1, if_pos c1]; decide
  rw [if_neg c1, if_neg c1]
  by_cases c2 : (lg_cmp z 7103860) = 0
  · rw [if_pos c2, if_pos c2]; decide
  rw [if_neg c2, if_neg c2]
  by_cases c3 : (lg_cmp z 26990) = 0
  · rw [if_pos c3, if_pos c3]; decide
  rw [if_neg c3, if_neg c3]
  by_cases c4 : (lg_cmp z 1667330917) = 0
  · rw [if_pos c4, if_pos c4]; decide
  rw [if_neg c4, if_neg c4]
  by_cases c5 : (lg_cmp z 28518) = 0
  · rw [if_pos c5, if_pos c5]; decide
  rw [if_neg c5, if_neg c5]
  by_cases c6 : (lg_cmp z 1717660012) = 0
  · rw [if_pos c6, if_pos c6]; decide
  rw [if_neg c6, if_neg c6]
  decide
theorem c_kw (σ : S5) : f_X10_kindOfName σ = some (kwC (gJ σ 0), σ) := by
  unfold f_X10_kindOfName kwC
  rw [ite_some, ite_some, ite_some, ite_some, ite_some, ite_some]
theorem m_pack5 {a b c d : Int32} (e : Int32) (μ : S5) (hb : ¬ b = 0) (hc : ¬ c = 0) (hd : ¬ d = 0) (he : ¬ e = 0) : f_X12_pack a b c d e μ = some (j_lshl (j_lshl (j_lshl (j_lshl a.toInt64 8 ||| b.toInt64) 8 ||| c.toInt64) 8 ||| d.toInt64) 8 ||| e.toInt64, μ) := by
  unfold f_X12_pack f_X12_pack_b21 f_X12_pack_b40 f_X12_pack_b59
  rw [if_neg hb, if_neg hc, if_neg hd, if_neg he]
theorem m_pack4 {a b c d : Int32} (μ : S5) (hb : ¬ b = 0) (hc : ¬ c = 0) (hd : ¬ d = 0) : f_X12_pack a b c d 0 μ = some (j_lshl (j_lshl (j_lshl a.toInt64 8 ||| b.toInt64) 8 ||| c.toInt64) 8 ||| d.toInt64, μ) := by
  unfold f_X12_pack f_X12_pack_b21 f_X12_pack_b40 f_X12_pack_b59
  rw [if_neg hb, if_neg hc, if_neg hd, if_pos rfl]
theorem m_pack3 {a b c : Int32} (μ : S5) (hb : ¬ b = 0) (hc : ¬ c = 0) : f_X12_pack a b c 0 0 μ = some (j_lshl (j_lshl a.toInt64 8 ||| b.toInt64) 8 ||| c.toInt64, μ) := by
  unfold f_X12_pack f_X12_pack_b21 f_X12_pack_b40 f_X12_pack_b59
  rw [if_neg hb, if_neg hc, if_pos rfl, if_pos rfl]
theorem m_pack2 {a b : Int32} (μ : S5) (hb : ¬ b = 0) : f_X12_pack a b 0 0 0 μ = some (j_lshl a.toInt64 8 ||| b.toInt64, μ) := by
  unfold f_X12_pack f_X12_pack_b21 f_X12_pack_b40 f_X12_pack_b59
  rw [if_neg hb, if_pos rfl, if_pos rfl, if_pos rfl]
theorem m_kw (z : Int64) (μ : S5) : f_X12_keyword z μ = some (kwM z, μ) := by
  unfold f_X12_keyword kwM
  rw [m_pack4 μ (by decide) (by decide) (by decide), bd_of, m_pack3 μ (by decide) (by decide), bd_of, m_pack2 μ (by decide), bd_of, m_pack4 μ (by decide) (by decide) (by decide), bd_of, m_pack2 μ (by decide), bd_of, m_pack4 μ (by decide) (by decide) (by decide), bd_of]
  rw [show j_lshl (j_lshl (j_lshl (100 : Int32).toInt64 8 ||| (97 : Int32).toInt64) 8 ||| (116 : Int32).toInt64) 8 ||| (97 : Int32).toInt64 = 1684108385 by decide, show j_lshl (j_lshl (108 : Int32).toInt64 8 ||| (101 : Int32).toInt64) 8 ||| (116 : Int32).toInt64 = 7103860 by decide, show j_lshl (105 : Int32).toInt64 8 ||| (110 : Int32).toInt64 = 26990 by decide, show j_lshl (j_lshl (j_lshl (99 : Int32).toInt64 8 ||| (97 : Int32).toInt64) 8 ||| (115 : Int32).toInt64) 8 ||| (101 : Int32).toInt64 = 1667330917 by decide, show j_lshl (111 : Int32).toInt64 8 ||| (102 : Int32).toInt64 = 28518 by decide, show j_lshl (j_lshl (j_lshl (102 : Int32).toInt64 8 ||| (97 : Int32).toInt64) 8 ||| (105 : Int32).toInt64) 8 ||| (108 : Int32).toInt64 = 1717660012 by decide]
  rw [ite_some, ite_some, ite_some, ite_some, ite_some, ite_some]
