def mOk (mo : Int32) : Prop := mo = 0 ∨ mo = 1 ∨ mo = 2 ∨ mo = 3
theorem m_round (mo fl : Int32) (row : Nat → Int64) (ba mr ex : Int32) (x1 : Int32) (hmo : mOk mo) : (fX0_round mo x1) = (fX1_round mo x1) ∧ (mOk mo → mOk (fX0_round mo x1).2) := by
  sorry
theorem m_mode (mo fl : Int32) (row : Nat → Int64) (ba mr ex : Int32) (hmo : mOk mo) : (fX0_mode mo) = (fX1_mode mo) := by
  sorry
theorem m_flags (mo fl : Int32) (row : Nat → Int64) (ba mr ex : Int32) (hmo : mOk mo) : (fX0_flags fl) = (fX1_flags fl) := by
  sorry
theorem m_clear (mo fl : Int32) (row : Nat → Int64) (ba mr ex : Int32) (hmo : mOk mo) : (fX0_clear fl).1 = (fX1_clear fl).1 ∧ (fX0_clear fl).2 = (fX1_clear fl).2 := by
  sorry
theorem m_add (mo fl : Int32) (row : Nat → Int64) (ba mr ex : Int32) (x1 x2 : Int32) (hmo : mOk mo) : (fX0_add mo fl x1 x2).1 = (fX1_add mo fl row ba mr ex x1 x2).1 ∧ (fX0_add mo fl x1 x2).2 = (fX1_add mo fl row ba mr ex x1 x2).2.1 := by
  sorry
theorem m_subtract (mo fl : Int32) (row : Nat → Int64) (ba mr ex : Int32) (x1 x2 : Int32) (hmo : mOk mo) : (fX0_subtract mo fl x1 x2).1 = (fX1_subtract mo fl row ba mr ex x1 x2).1 ∧ (fX0_subtract mo fl x1 x2).2 = (fX1_subtract mo fl row ba mr ex x1 x2).2.1 := by
  sorry
theorem m_multiply (mo fl : Int32) (row : Nat → Int64) (ba mr ex : Int32) (x1 x2 : Int32) (hmo : mOk mo) : (fX0_multiply mo fl x1 x2).1 = (fX1_multiply mo fl row ba mr ex x1 x2).1 ∧ (fX0_multiply mo fl x1 x2).2 = (fX1_multiply mo fl row ba mr ex x1 x2).2.1 := by
  sorry
theorem m_divide (mo fl : Int32) (row : Nat → Int64) (ba mr ex : Int32) (x1 x2 : Int32) (hmo : mOk mo) : (fX0_divide mo fl x1 x2).1 = (fX1_divide mo fl row ba mr ex x1 x2).1 ∧ (fX0_divide mo fl x1 x2).2 = (fX1_divide mo fl row ba mr ex x1 x2).2.1 := by
  sorry
theorem m_root (mo fl : Int32) (row : Nat → Int64) (ba mr ex : Int32) (x1 : Int32) (hmo : mOk mo) : (fX0_root mo fl x1).1 = (fX1_root mo fl row ba mr ex x1).1 ∧ (fX0_root mo fl x1).2 = (fX1_root mo fl row ba mr ex x1).2.1 := by
  sorry
theorem m_fused (mo fl : Int32) (row : Nat → Int64) (ba mr ex : Int32) (x1 x2 x3 : Int32) (hmo : mOk mo) : (fX0_fused mo fl x1 x2 x3).1 = (fX1_fused mo fl row ba mr ex x1 x2 x3).1 ∧ (fX0_fused mo fl x1 x2 x3).2 = (fX1_fused mo fl row ba mr ex x1 x2 x3).2.1 := by
  sorry
theorem m_scale (mo fl : Int32) (row : Nat → Int64) (ba mr ex : Int32) (x1 x2 : Int32) (hmo : mOk mo) : (fX0_scale mo fl x1 x2).1 = (fX1_scale mo fl row ba mr ex x1 x2).1 ∧ (fX0_scale mo fl x1 x2).2 = (fX1_scale mo fl row ba mr ex x1 x2).2.1 := by
  sorry
theorem m_whole (mo fl : Int32) (row : Nat → Int64) (ba mr ex : Int32) (x1 : Int32) (hmo : mOk mo) : (fX0_whole mo fl x1).1 = (fX1_whole mo fl row ba mr ex x1).1 ∧ (fX0_whole mo fl x1).2 = (fX1_whole mo fl row ba mr ex x1).2.1 := by
  sorry
theorem m_toInt (mo fl : Int32) (row : Nat → Int64) (ba mr ex : Int32) (x1 : Int32) (hmo : mOk mo) : (fX0_toInt mo fl x1).1 = (fX1_toInt mo fl row ba mr ex x1).1 ∧ (fX0_toInt mo fl x1).2 = (fX1_toInt mo fl row ba mr ex x1).2.1 := by
  sorry
theorem m_fromInt (mo fl : Int32) (row : Nat → Int64) (ba mr ex : Int32) (x1 : Int32) (hmo : mOk mo) : (fX0_fromInt mo fl x1).1 = (fX1_fromInt mo fl row ba mr ex x1).1 ∧ (fX0_fromInt mo fl x1).2 = (fX1_fromInt mo fl row ba mr ex x1).2.1 := by
  sorry
theorem m_compare (mo fl : Int32) (row : Nat → Int64) (ba mr ex : Int32) (x1 x2 : Int32) (hmo : mOk mo) : (fX0_compare fl x1 x2).1 = (fX1_compare fl x1 x2).1 ∧ (fX0_compare fl x1 x2).2 = (fX1_compare fl x1 x2).2 := by
  sorry
theorem m_next (mo fl : Int32) (row : Nat → Int64) (ba mr ex : Int32) (x1 : Int32) (hmo : mOk mo) : (fX0_next fl x1).1 = (fX1_next fl x1).1 ∧ (fX0_next fl x1).2 = (fX1_next fl x1).2 := by
  sorry
theorem m_kind (mo fl : Int32) (row : Nat → Int64) (ba mr ex : Int32) (x1 : Int32) (hmo : mOk mo) : (fX0_kind x1) = (fX1_kind x1) := by
  sorry
