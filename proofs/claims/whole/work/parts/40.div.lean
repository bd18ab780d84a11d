/-! divide -/
theorem SR_as (Y t : Nat) : SR Y t = 2 * (Y / 2 ^ (t + 1)) + (if Y % 2 ^ (t + 1) = 0 then 0 else 1) := by
  have e1 : Y / 2 ^ (t + 1) = Y / 2 ^ t / 2 := by rw [Nat.pow_succ, ← Nat.div_div_eq_div_mul]
  have e2 := mod_pow_succ' Y t
  have hp : 0 < 2 ^ t := Nat.pow_pos (by decide)
  have hb : Y / 2 ^ t % 2 = 0 ∨ Y / 2 ^ t % 2 = 1 := by omega
  unfold SR
  rw [e1, e2]
  by_cases h : Y % 2 ^ t = 0
  · rw [if_pos h, h]
    rcases hb with w | w
    · rw [w, Nat.mul_zero, Nat.add_zero, if_pos rfl]
      omega
    · rw [w, Nat.mul_one, Nat.zero_add, if_neg (by omega)]
      omega
  · rw [if_neg h, if_neg (by omega)]
    omega
theorem withTrace_SR {x : Int64} {q r : Nat} (hx : x.toInt = q) (hq : q < 2 ^ 62) (z : Int32) (hz : z = b2 (!decide (r = 0))) : (fX0_withTrace x z).toInt = ((SR (2 * q + (if r = 0 then 0 else 1)) 1 : Nat) : Int) := by
  unfold fX0_withTrace
  subst hz
  by_cases h : r = 0
  · rw [decide_eq_true h, if_pos h]
    have : SR (2 * q + 0) 1 = q := by
      unfold SR
      rw [if_pos (by omega)]
      omega
    rw [this]
    exact hx
  · rw [decide_eq_false h, if_neg h]
    have e : SR (2 * q + 1) 1 = q / 2 * 2 + 1 := by
      unfold SR
      rw [if_neg (by omega)]
      omega
    rw [e]
    show (x ||| 1).toInt = _
    have h1 : x ||| 1 = lN (q / 2 * 2 + 1) := by
      rw [l_eq_lN hx]
      apply wb_inj
      apply BitVec.eq_of_toNat_eq
      rw [Int64.toBitVec_or, BitVec.toNat_or]
      show (lN q).toBitVec.toNat ||| (lN 1).toBitVec.toNat = (lN (q / 2 * 2 + 1)).toBitVec.toNat
      rw [wb_tn (by omega), wb_tn (by omega), wb_tn (by omega)]
      apply Nat.eq_of_testBit_eq
      intro i
      rw [Nat.testBit_or]
      cases i with
      | zero =>
        simp [Nat.testBit_zero]
      | succ i =>
        rw [Nat.testBit_succ, Nat.testBit_succ, Nat.testBit_succ]
        have a1 : (q / 2 * 2 + 1) / 2 = q / 2 := by omega
        rw [a1]
        simp
    rw [h1, pk_lT (by omega)]
/-- the class's number and the reference's, out of one quotient with a trace -/
theorem RND_q {mo fl : Int32} {neg : Bool} {Y t : Nat} (h1 : 2 ^ (t + 25) ≤ Y) (h2 : 2 ^ 26 ≤ Y) (e : Int) : RND mo fl neg (SR Y 1) (e + 1) = RND mo fl neg (2 * (Y / 2 ^ (t + 1)) + (if Y % 2 ^ (t + 1) = 0 then 0 else 1)) (e + t) := by
  rw [← SR_as, RND_SR mo fl neg h1 e]
  exact RND_SR mo fl neg (k := 1) h2 e
theorem gap_bl {m g : Nat} (h0 : m ≠ 0) (h1 : 2 ^ 23 ≤ m * 2 ^ g) (h2 : m * 2 ^ g < 2 ^ 24) : bl m + g = 24 := by
  have := bl_mul h0 g
  rw [bl_eq (k := 23) h1 h2] at this
  omega
theorem div_fin0 {mo fl : Int32} {x1 x2 : Int32} (z1 : zerB x1 = false) (z2 : zerB x2 = false) (neg : Bool) :
    ∃ (g t : Nat), g ≤ 23 ∧ t ≤ 23 ∧ (fX1_gap (fX1_units x1)).toInt = g ∧ (fX1_gap (fX1_units x2)).toInt = t ∧ 2 ^ 23 ≤ mX x1 * 2 ^ g ∧ mX x1 * 2 ^ g < 2 ^ 24 ∧ 2 ^ 23 ≤ mX x2 * 2 ^ t ∧ mX x2 * 2 ^ t < 2 ^ 24 ∧
    fX0_divide_k105 x1 x2 (sgn neg) (fX0_magnitudeOf x2) mo fl = RND mo fl neg (SR (2 * (mX x1 * 2 ^ g * 2 ^ 38 / mX x2) + (if mX x1 * 2 ^ g * 2 ^ 38 % mX x2 = 0 then 0 else 1)) 1) (pX x1 - (g + 38 : Nat) - pX x2) := by
  have hm1 := zer_not z1
  have hm2 := zer_not z2
  obtain ⟨g, g1, g2, g3, g4⟩ := v1_gap (v1_units x1) (Nat.pos_of_ne_zero hm1) (mX_lt x1)
  obtain ⟨t, t1, t2, t3, t4⟩ := v1_gap (v1_units x2) (Nat.pos_of_ne_zero hm2) (mX_lt x2)
  refine ⟨g, t, g2, t2, g1, t1, g3, g4, t3, t4, ?_⟩
  have hbl := gap_bl hm1 g3 g4
  have hml2 := mX_lt x2
  have q1 := pX_ge x1
  have q2 := pX_le x1
  have q3 := pX_ge x2
  have q4 := pX_le x2
  unfold fX0_divide_k105
  have hz : ¬ (lg_cmp (fX0_magnitudeOf x2) 0 = 0) := by
    rw [lg_cmp_eq, ← Int64.toInt_inj, p0_mag, show Int64.toInt 0 = 0 from rfl]
    omega
  rw [if_neg hz]
  have hb := v0_bitLength (p0_mag x1)
  have c62 : Int32.toInt 62 = 62 := by decide
  have s1 : ((62 : Int32) - fX0_bitLength (fX0_magnitudeOf x1)).toInt = ((g + 38 : Nat) : Int) := by
    rw [i_sub (by omega) (by omega), hb, c62]
    omega
  generalize ((62 : Int32) - fX0_bitLength (fX0_magnitudeOf x1)) = y6 at s1 ⊢
  unfold fX0_divide_k135 fX0_divide_k144
  have hD : mX x1 * 2 ^ g * 2 ^ 38 < 2 ^ 62 := by
    calc mX x1 * 2 ^ g * 2 ^ 38 < 2 ^ 24 * 2 ^ 38 := Nat.mul_lt_mul_of_pos_right g4 (by decide)
      _ = 2 ^ 62 := by decide
  have eD : (mX x1 : Int) * 2 ^ (g + 38) = ((mX x1 * 2 ^ g * 2 ^ 38 : Nat) : Int) := by
    rw [Int.pow_add, ← Int.mul_assoc]
    push_cast
    rfl
  have s2 : (fX0_magnitudeOf x1 <<< (Int32.toInt64 y6 &&& 63)).toInt = ((mX x1 * 2 ^ g * 2 ^ 38 : Nat) : Int) := by
    have hD' : ((mX x1 * 2 ^ g * 2 ^ 38 : Nat) : Int) < 2 ^ 62 := by exact_mod_cast hD
    have hD0 : (0 : Int) ≤ ((mX x1 * 2 ^ g * 2 ^ 38 : Nat) : Int) := Int.natCast_nonneg _
    rw [l_shl s1 (by omega)]
    · rw [p0_mag, eD]
    · rw [p0_mag, eD]; omega
    · rw [p0_mag, eD]; omega
  generalize (fX0_magnitudeOf x1 <<< (Int32.toInt64 y6 &&& 63)) = y7 at s2 ⊢
  generalize hDD : mX x1 * 2 ^ g * 2 ^ 38 = DD at hD s2 ⊢
  have hm2' := p0_mag x2
  have e7 : y7 = lN DD := l_eq_lN s2
  have e4 : fX0_magnitudeOf x2 = lN (mX x2) := l_eq_lN hm2'
  have hq : y7 / fX0_magnitudeOf x2 = lN (DD / mX x2) := by rw [e7, e4]; exact pk_lDiv (by omega) (Nat.pos_of_ne_zero hm2) (by omega)
  have hr : y7 - y7 / fX0_magnitudeOf x2 * fX0_magnitudeOf x2 = lN (DD % mX x2) := by rw [e7, e4]; exact pk_lRem (by omega) (Nat.pos_of_ne_zero hm2) (by omega)
  rw [hr, hq]
  have hle : DD / mX x2 ≤ DD := Nat.div_le_self _ _
  have hmod : DD % mX x2 < mX x2 := Nat.mod_lt _ (Nat.pos_of_ne_zero hm2)
  have hrc : (lg_cmp (lN (DD % mX x2)) 0 = 0) ↔ DD % mX x2 = 0 := by
    rw [lg_cmp_eq, ← Int64.toInt_inj, pk_lT (by omega), show Int64.toInt 0 = 0 from rfl]
    omega
  have hk : (if lg_cmp (lN (DD % mX x2)) 0 = 0 then fX0_divide_k164 x1 x2 (sgn neg) y6 (lN (DD / mX x2)) 0 mo fl else fX0_divide_k164 x1 x2 (sgn neg) y6 (lN (DD / mX x2)) 1 mo fl) = fX0_divide_k164 x1 x2 (sgn neg) y6 (lN (DD / mX x2)) (b2 (!decide (DD % mX x2 = 0))) mo fl := by
    simp only [hrc]
    by_cases h : DD % mX x2 = 0
    · simp only [h, if_true, decide_true, Bool.not_true, b2f]
    · simp only [h, if_false, decide_false, Bool.not_false, b2t]
  rw [hk]
  unfold fX0_divide_k164 fX0_divide_k169 fX0_divide_k188
  have w1 := withTrace_SR (x := lN (DD / mX x2)) (q := DD / mX x2) (r := DD % mX x2) (pk_lT (by omega)) (by omega) (b2 (!decide (DD % mX x2 = 0))) rfl
  have hu1 := p0_unit x1
  have hu2 := p0_unit x2
  have s3 : ((fX0_unitOf x1 - y6) - fX0_unitOf x2).toInt = pX x1 - (g + 38 : Nat) - pX x2 := by
    have a1 : (fX0_unitOf x1 - y6).toInt = pX x1 - (g + 38 : Nat) := by rw [i_sub (by omega) (by omega), hu1, s1]
    rw [i_sub (by omega) (by omega), a1, hu2]
  -- the quotient has at least 38 bits
  have hDlo : 2 ^ 61 ≤ DD := by
    rw [← hDD]
    calc 2 ^ 61 = 2 ^ 23 * 2 ^ 38 := by decide
      _ ≤ mX x1 * 2 ^ g * 2 ^ 38 := Nat.mul_le_mul_right _ g3
  have hqlo : 2 ^ 37 ≤ DD / mX x2 := by
    rw [Nat.le_div_iff_mul_le (Nat.pos_of_ne_zero hm2)]
    calc 2 ^ 37 * mX x2 ≤ 2 ^ 37 * 2 ^ 24 := Nat.mul_le_mul_left _ (by omega)
      _ = 2 ^ 61 := by decide
      _ ≤ DD := hDlo
  have hSRlo : 2 ^ 37 ≤ SR (2 * (DD / mX x2) + (if DD % mX x2 = 0 then 0 else 1)) 1 ∧ SR (2 * (DD / mX x2) + (if DD % mX x2 = 0 then 0 else 1)) 1 < 2 ^ 62 := by
    unfold SR
    have : DD / mX x2 < 2 ^ 62 := by omega
    split <;> split <;> omega
  rw [v0_rounded mo fl neg w1 (by omega) hSRlo.2 s3 (by omega) (by omega)]
