/-! divide -/
theorem SR_as (Y t : Nat) : SR Y t = 2 * (Y / 2 ^ (t + 1)) + (if Y % 2 ^ (t + 1) = 0 then 0 else 1) := by
  have e1 : Y / 2 ^ (t + 1) = Y / 2 ^ t / 2 := by rw [Nat.pow_succ, ← Nat.div_div_eq_div_mul]
  have e2 := mod_pow_succ' Y t
  have hp : 0 < 2 ^ t := Nat.pow_pos (by decide)
  have hb : Y / 2 ^ t % 2 = 0 ∨ Y / 2 ^ t % 2 = 1 := by omega
  unfold SR
  rw [e1, e2]
  by_cases h : Y % 2 ^ t = 0
  · rw [if_pos h, h]
    rcases hb with w | w
    · rw [w, Nat.mul_zero, Nat.add_zero, if_pos rfl]
      omega
    · rw [w, Nat.mul_one, Nat.zero_add, if_neg (by omega)]
      omega
  · rw [if_neg h, if_neg (by omega)]
    omega
theorem withTrace_SR {x : Int64} {q r : Nat} (hx : x.toInt = q) (hq : q < 2 ^ 62) (z : Int32) (hz : z = b2 (!decide (r = 0))) : (fX0_withTrace x z).toInt = ((SR (2 * q + (if r = 0 then 0 else 1)) 1 : Nat) : Int) := by
  unfold fX0_withTrace
  subst hz
  by_cases h : r = 0
  · rw [decide_eq_true h, if_pos h]
    have : SR (2 * q + 0) 1 = q := by
      unfold SR
      rw [if_pos (by omega)]
      omega
    rw [this]
    exact hx
  · rw [decide_eq_false h, if_neg h]
    have e : SR (2 * q + 1) 1 = q / 2 * 2 + 1 := by
      unfold SR
      rw [if_neg (by omega)]
      omega
    rw [e]
    show (x ||| 1).toInt = _
    have h1 : x ||| 1 = lN (q / 2 * 2 + 1) := by
      rw [l_eq_lN hx]
      apply wb_inj
      apply BitVec.eq_of_toNat_eq
      rw [Int64.toBitVec_or, BitVec.toNat_or]
      show (lN q).toBitVec.toNat ||| (lN 1).toBitVec.toNat = (lN (q / 2 * 2 + 1)).toBitVec.toNat
      rw [wb_tn (by omega), wb_tn (by omega), wb_tn (by omega)]
      apply Nat.eq_of_testBit_eq
      intro i
      rw [Nat.testBit_or]
      cases i with
      | zero =>
        simp [Nat.testBit_zero]
      | succ i =>
        rw [Nat.testBit_succ, Nat.testBit_succ, Nat.testBit_succ]
        have a1 : (q / 2 * 2 + 1) / 2 = q / 2 := by omega
        rw [a1]
        simp
    rw [h1, pk_lT (by omega)]
/-- the class's number and the reference's, out of one quotient with a trace -/
theorem RND_q {mo fl : Int32} {neg : Bool} {Y t : Nat} (h1 : 2 ^ (t + 25) ≤ Y) (h2 : 2 ^ 26 ≤ Y) (e : Int) : RND mo fl neg (SR Y 1) (e + 1) = RND mo fl neg (2 * (Y / 2 ^ (t + 1)) + (if Y % 2 ^ (t + 1) = 0 then 0 else 1)) (e + t) := by
  rw [← SR_as, RND_SR mo fl neg h1 e]
  exact RND_SR mo fl neg (k := 1) h2 e
theorem gap_bl {m g : Nat} (h0 : m ≠ 0) (h1 : 2 ^ 23 ≤ m * 2 ^ g) (h2 : m * 2 ^ g < 2 ^ 24) : bl m + g = 24 := by
  have := bl_mul h0 g
  rw [bl_eq (k := 23) h1 h2] at this
  omega
theorem unit3 (x1 x2 : Int32) {y6 : Int32} {g : Nat} (hg : g ≤ 62) (s1 : y6.toInt = (g : Int)) : ((fX0_unitOf x1 - y6) - fX0_unitOf x2).toInt = pX x1 - (g : Int) - pX x2 ∧ -1500 ≤ pX x1 - (g : Int) - pX x2 ∧ pX x1 - (g : Int) - pX x2 ≤ 1500 := by
  have q1 := pX_ge x1
  have q2 := pX_le x1
  have q3 := pX_ge x2
  have q4 := pX_le x2
  have hu1 := p0_unit x1
  have hu2 := p0_unit x2
  have a1 : (fX0_unitOf x1 - y6).toInt = pX x1 - (g : Int) := by rw [i_sub (by omega) (by omega), hu1, s1]
  refine ⟨?_, by omega, by omega⟩
  rw [i_sub (by omega) (by omega), a1, hu2]
theorem quo_lo {D m : Nat} (h : 2 ^ 61 ≤ D) (hm : m < 2 ^ 24) (hm0 : m ≠ 0) : 2 ^ 37 ≤ D / m := by
  rw [Nat.le_div_iff_mul_le (Nat.pos_of_ne_zero hm0)]
  calc 2 ^ 37 * m ≤ 2 ^ 37 * 2 ^ 24 := Nat.mul_le_mul_left _ (Nat.le_of_lt hm)
    _ = 2 ^ 61 := by decide
    _ ≤ D := h
theorem SR_rng {q b : Nat} (h1 : 2 ^ 28 ≤ q) (h2 : q < 2 ^ 62) (hb : b < 2) : SR (2 * q + b) 1 ≠ 0 ∧ SR (2 * q + b) 1 < 2 ^ 62 := by
  unfold SR
  split <;> omega
theorem ite01_lt {P : Prop} [Decidable P] : (if P then 0 else 1) < 2 := by split <;> decide
theorem len62 {x : Int32} {g : Nat} (h : bl (mX x) + g = 24) : ((62 : Int32) - fX0_bitLength (fX0_magnitudeOf x)).toInt = ((g + 38 : Nat) : Int) := by
  have hb := v0_bitLength (p0_mag x)
  have c62 : Int32.toInt 62 = 62 := by decide
  rw [i_sub (by omega) (by omega), hb, c62]
  omega
theorem shl_mag (x : Int32) {y : Int32} {k : Nat} (hy : y.toInt = (k : Int)) (hk : k < 64) (h : mX x * 2 ^ k < 2 ^ 62) : (fX0_magnitudeOf x <<< (Int32.toInt64 y &&& 63)).toInt = ((mX x * 2 ^ k : Nat) : Int) := by
  have e : (mX x : Int) * 2 ^ k = ((mX x * 2 ^ k : Nat) : Int) := by
    rw [Int.natCast_mul]
    congr 1
  generalize mX x * 2 ^ k = w at h e
  rw [l_shl hy hk] <;> rw [p0_mag, e] <;> omega
theorem lrem0 {r : Nat} (h : r < 2 ^ 62) : (lg_cmp (lN r) 0 = 0) ↔ r = 0 := by
  rw [lg_cmp_eq, ← Int64.toInt_inj, pk_lT (by omega), show Int64.toInt 0 = 0 from rfl]
  omega
theorem div_k144 {mo fl : Int32} {x1 x2 y6 : Int32} {y7 : Int64} (neg : Bool) {DD g : Nat} (s2 : y7.toInt = DD) (hD : DD < 2 ^ 62) (hDlo : 2 ^ 61 ≤ DD) (hm2 : mX x2 ≠ 0) (hg : g ≤ 62) (s1 : y6.toInt = (g : Int)) :
    fX0_divide_k144 x1 x2 (sgn neg) (fX0_magnitudeOf x2) y6 y7 mo fl = RND mo fl neg (SR (2 * (DD / mX x2) + (if DD % mX x2 = 0 then 0 else 1)) 1) (pX x1 - (g : Int) - pX x2) := by
  have hml2 := mX_lt x2
  obtain ⟨s3, b1, b2'⟩ := unit3 x1 x2 hg s1
  have e7 : y7 = lN DD := l_eq_lN s2
  have e4 : fX0_magnitudeOf x2 = lN (mX x2) := l_eq_lN (p0_mag x2)
  have hq : y7 / fX0_magnitudeOf x2 = lN (DD / mX x2) := by rw [e7, e4]; exact pk_lDiv (by omega) (Nat.pos_of_ne_zero hm2) (by omega)
  have hr : y7 - y7 / fX0_magnitudeOf x2 * fX0_magnitudeOf x2 = lN (DD % mX x2) := by rw [e7, e4]; exact pk_lRem (by omega) (Nat.pos_of_ne_zero hm2) (by omega)
  unfold fX0_divide_k144
  rw [hr, hq]
  have hle : DD / mX x2 ≤ DD := Nat.div_le_self _ _
  have hmod : DD % mX x2 < mX x2 := Nat.mod_lt _ (Nat.pos_of_ne_zero hm2)
  have hqlo := quo_lo hDlo hml2 hm2
  have hrc := lrem0 (r := DD % mX x2) (Nat.lt_trans hmod (Nat.lt_trans hml2 (by decide)))
  generalize DD / mX x2 = Q at hle hqlo ⊢
  generalize DD % mX x2 = Rm at hrc ⊢
  have hQ : Q < 2 ^ 62 := Nat.lt_of_le_of_lt hle hD
  have hk : (if lg_cmp (lN Rm) 0 = 0 then fX0_divide_k164 x1 x2 (sgn neg) y6 (lN Q) 0 mo fl else fX0_divide_k164 x1 x2 (sgn neg) y6 (lN Q) 1 mo fl) = fX0_divide_k164 x1 x2 (sgn neg) y6 (lN Q) (b2 (!decide (Rm = 0))) mo fl := by
    simp only [hrc]
    by_cases h : Rm = 0
    · simp only [h, if_true, decide_true, Bool.not_true, b2f]
    · simp only [h, if_false, decide_false, Bool.not_false, b2t]
  rw [hk]
  unfold fX0_divide_k164 fX0_divide_k169 fX0_divide_k188
  have w1 := withTrace_SR (x := lN Q) (q := Q) (r := Rm) (pk_lT (Nat.lt_trans hQ (by decide))) hQ (b2 (!decide (Rm = 0))) rfl
  obtain ⟨r1, r2⟩ := SR_rng (b := if Rm = 0 then 0 else 1) (Nat.le_trans (by decide) hqlo) hQ ite01_lt
  rw [v0_rounded mo fl neg w1 r1 r2 s3 b1 b2']
theorem div_fin0 {mo fl : Int32} {x1 x2 : Int32} (z1 : zerB x1 = false) (z2 : zerB x2 = false) (neg : Bool) {g : Nat} (hg : g ≤ 23) (g3 : 2 ^ 23 ≤ mX x1 * 2 ^ g) (g4 : mX x1 * 2 ^ g < 2 ^ 24) :
    fX0_divide_k105 x1 x2 (sgn neg) (fX0_magnitudeOf x2) mo fl = RND mo fl neg (SR (2 * (mX x1 * 2 ^ (g + 38) / mX x2) + (if mX x1 * 2 ^ (g + 38) % mX x2 = 0 then 0 else 1)) 1) (pX x1 - ((g + 38 : Nat) : Int) - pX x2) := by
  have hm1 := zer_not z1
  have hm2 := zer_not z2
  have hbl := gap_bl hm1 g3 g4
  have eN : mX x1 * 2 ^ (g + 38) = mX x1 * 2 ^ g * 2 ^ 38 := by rw [Nat.pow_add, Nat.mul_assoc]
  have hD : mX x1 * 2 ^ (g + 38) < 2 ^ 62 := by
    rw [eN]
    calc mX x1 * 2 ^ g * 2 ^ 38 < 2 ^ 24 * 2 ^ 38 := Nat.mul_lt_mul_of_pos_right g4 (by decide)
      _ = 2 ^ 62 := by decide
  have hDlo : 2 ^ 61 ≤ mX x1 * 2 ^ (g + 38) := by
    rw [eN]
    calc 2 ^ 61 = 2 ^ 23 * 2 ^ 38 := by decide
      _ ≤ mX x1 * 2 ^ g * 2 ^ 38 := Nat.mul_le_mul_right _ g3
  have s1 := len62 hbl
  unfold fX0_divide_k105
  have hz : ¬ (lg_cmp (fX0_magnitudeOf x2) 0 = 0) := by
    rw [lg_cmp_eq, ← Int64.toInt_inj, p0_mag, show Int64.toInt 0 = 0 from rfl]
    intro h
    exact hm2 (by exact_mod_cast h)
  rw [if_neg hz]
  unfold fX0_divide_k135
  exact div_k144 neg (shl_mag x1 s1 (by omega) hD) hD hDlo hm2 (by omega) s1
