theorem root_zero {mo fl x1 : Int32} (z1 : zerB x1 = true) : fX0_root_k35 x1 mo fl = (x1, fl) := by
  unfold fX0_root_k35
  rw [p0_inf, zer_inf z1]
  simp only [b2f, if_true]
  have hm1 : mX x1 = 0 := of_decide_eq_true z1
  have e1 : fX0_magnitudeOf x1 = 0 := Int64.toInt_inj.mp (by rw [p0_mag, hm1]; rfl)
  have hk : ∀ y2 : Int32, (fX0_magnitudeOf x1 <<< (Int32.toInt64 y2 &&& 63)) = 0 → fX0_root_k69 x1 y2 mo fl = (x1, fl) := by
    intro y2 h0
    unfold fX0_root_k69 fX0_root_k76
    rw [h0]
    have e3 : fX0_floorRoot 0 = 0 := by
      obtain ⟨R, f1, f2, f3⟩ := v0_floorRoot (x := 0) (S := 0) rfl (by decide)
      have hR : R = 0 := by
        rcases Nat.eq_zero_or_pos R with w | w
        · exact w
        · have := f2.1
          have : 1 * 1 ≤ R * R := Nat.mul_le_mul w w
          omega
      rw [hR] at f1
      exact Int64.toInt_inj.mp f1
    rw [e3]
    unfold fX0_root_k82
    rw [if_pos (by decide)]
    unfold fX0_root_k104 fX0_root_k118
    rw [rounded_0 (by decide), p0_sign, zero_pat z1]
  unfold fX0_root_k55
  have e62 : ((62 : Int32) - fX0_bitLength (fX0_magnitudeOf x1)) = 62 := by
    rw [e1]
    decide +kernel
  rw [e62]
  have h62 : (fX0_magnitudeOf x1 <<< (Int32.toInt64 62 &&& 63)) = 0 := by rw [e1]; decide +kernel
  have h61 : (fX0_magnitudeOf x1 <<< (Int32.toInt64 ((62 : Int32) + (-1)) &&& 63)) = 0 := by rw [e1]; decide +kernel
  rw [hk _ h62, hk _ h61]
  split <;> rfl
theorem m_root (mo fl : Int32) (row : Nat → Int64) (ba mr ex : Int32) (x1 : Int32) (hmo : mOk mo) : (fX0_root mo fl x1).1 = (fX1_root mo fl row ba mr ex x1).1 ∧ (fX0_root mo fl x1).2 = (fX1_root mo fl row ba mr ex x1).2.1 := by
  unfold fX0_root fX1_root
  rw [p0_none, p0_neg, p0_zero, p1_none, p1_zero, p1_neg, p1_inf]
  cases hn : nanB x1
  · simp only [b2f, if_true]
    cases hz : zerB x1
    · cases hg : ng x1
      · simp only [b2f, if_true]
        unfold fX0_root_k35
        rw [p0_inf]
        cases hi : infB x1
        · simp only [b2f, if_true]
          exact root_fin hmo hz hg
        · simp only [b2t, e10, if_false, and_self]
      · simp only [b2f, b2t, e10, if_true, if_false]
        exact ⟨rfl, rfl⟩
    · rw [root_zero hz]
      cases ng x1 <;> simp only [b2f, b2t, e10, if_true, if_false, and_self]
  · simp only [b2t, e10, if_false]
    unfold fX0_root_k15 fX1_root_k14
    rw [p0_loud, p0_noNumber, p1_nonef, loud0]
    cases loudB x1 <;> exact ⟨rfl, rfl⟩
