theorem mul_A0 (mo fl x1 x2 : Int32) : fX0_multiply mo fl x1 x2 = (if nanB x1 = false then (if nanB x2 = false then (if ((zerB x1 && infB x2) || (infB x1 && zerB x2)) = false then (if (infB x1 || infB x2) = false then fX0_rounded mo fl (sgn (ng x1 ^^ ng x2)) (fX0_magnitudeOf x1 * fX0_magnitudeOf x2) (fX0_unitOf x1 + fX0_unitOf x2) else (sgn (ng x1 ^^ ng x2) ||| 2139095040, fl)) else (2143289344, fl ||| 16)) else (2143289344, if (loudB x1 || loudB x2) = true then fl ||| 16 else fl)) else (2143289344, if (loudB x1 || loudB x2) = true then fl ||| 16 else fl)) := by
  unfold fX0_multiply fX0_isZeroTimesInfinite fX0_isZeroTimesInfinite_k14
  rw [p0_none, p0_none, p0_zero, p0_zero, p0_inf, p0_inf, p0_sign, ng_xor]
  have hl : fX0_multiply_k14 x1 x2 mo fl = (2143289344, if (loudB x1 || loudB x2) = true then fl ||| 16 else fl) := by
    unfold fX0_multiply_k14
    rw [p0_loud, p0_loud]
    cases loudB x1 <;> cases loudB x2 <;> rfl
  have hk : fX0_multiply_k58 x1 x2 (sgn (ng x1 ^^ ng x2)) mo fl = (if (infB x1 || infB x2) = false then fX0_rounded mo fl (sgn (ng x1 ^^ ng x2)) (fX0_magnitudeOf x1 * fX0_magnitudeOf x2) (fX0_unitOf x1 + fX0_unitOf x2) else (sgn (ng x1 ^^ ng x2) ||| 2139095040, fl)) := by
    unfold fX0_multiply_k58 fX0_multiply_k100 fX0_multiply_k72
    rw [p0_inf, p0_inf]
    cases infB x1 <;> cases infB x2 <;> simp only [b2f, b2t, e10, Bool.or_false, Bool.or_true, Bool.false_or, Bool.true_or, Bool.and_false, Bool.and_true, Bool.false_and, Bool.true_and, Bool.true_eq_false, Bool.false_eq_true, if_true, if_false]
  rw [hl, hk]
  have hv : fX0_multiply_k50 (fX0_invalid fl).1 mo (fX0_invalid fl).2 = (2143289344, fl ||| 16) := rfl
  rw [hv]
  cases nanB x1 <;> cases nanB x2 <;> cases zerB x1 <;> cases infB x2 <;> cases infB x1 <;> cases zerB x2 <;> simp only [b2f, b2t, e10, Bool.or_false, Bool.or_true, Bool.false_or, Bool.true_or, Bool.and_false, Bool.and_true, Bool.false_and, Bool.true_and, Bool.true_eq_false, Bool.false_eq_true, if_true, if_false]
theorem mul_A1 (mo fl : Int32) (row : Nat → Int64) (ba mr ex x1 x2 : Int32) : fX1_multiply mo fl row ba mr ex x1 x2 = (if nanB x1 = false then (if nanB x2 = false then (if ((zerB x1 && infB x2) || (infB x1 && zerB x2)) = false then fX1_multiply_k71 x1 x2 (b2 (ng x1 ^^ ng x2)) mo fl row ba mr ex else (2143289344, fl ||| 16, row, ba, mr, ex)) else (2143289344, (if (loudB x1 || loudB x2) = true then fl ||| 16 else fl), row, ba, mr, ex)) else (2143289344, (if (loudB x1 || loudB x2) = true then fl ||| 16 else fl), row, ba, mr, ex)) := by
  unfold fX1_multiply fX1_multiply_k36
  rw [p1_none, p1_none, p1_zero, p1_zero, p1_inf, p1_inf]
  have hl : fX1_multiply_k14 x1 x2 mo fl row ba mr ex = (2143289344, (if (loudB x1 || loudB x2) = true then fl ||| 16 else fl), row, ba, mr, ex) := by
    unfold fX1_multiply_k14 fX1_multiply_k21
    rw [p1_nonef, loud0]
    cases loudB x1 <;> cases loudB x2 <;> rfl
  have hk : fX1_multiply_k55 x1 x2 mo fl row ba mr ex = fX1_multiply_k71 x1 x2 (b2 (ng x1 ^^ ng x2)) mo fl row ba mr ex := by
    unfold fX1_multiply_k55
    rw [p1_neg, p1_neg]
    simp only [ng_ne]
    cases (ng x1 ^^ ng x2) <;> simp only [b2f, b2t, e10, Bool.or_false, Bool.or_true, Bool.false_or, Bool.true_or, Bool.and_false, Bool.and_true, Bool.false_and, Bool.true_and, Bool.true_eq_false, Bool.false_eq_true, if_true, if_false]
  have hv : fX1_multiply_k50 mo fl row ba mr ex = (2143289344, fl ||| 16, row, ba, mr, ex) := rfl
  rw [hl, hk, hv]
  cases nanB x1 <;> cases nanB x2 <;> cases zerB x1 <;> cases infB x2 <;> cases infB x1 <;> cases zerB x2 <;> simp only [b2f, b2t, e10, Bool.or_false, Bool.or_true, Bool.false_or, Bool.true_or, Bool.and_false, Bool.and_true, Bool.false_and, Bool.true_and, Bool.true_eq_false, Bool.false_eq_true, if_true, if_false]
theorem m_multiply (mo fl : Int32) (row : Nat → Int64) (ba mr ex : Int32) (x1 x2 : Int32) (hmo : mOk mo) : (fX0_multiply mo fl x1 x2).1 = (fX1_multiply mo fl row ba mr ex x1 x2).1 ∧ (fX0_multiply mo fl x1 x2).2 = (fX1_multiply mo fl row ba mr ex x1 x2).2.1 := by
  rw [mul_A0, mul_A1]
  cases hn1 : nanB x1
  · cases hn2 : nanB x2
    · simp only [if_true]
      cases hq : ((zerB x1 && infB x2) || (infB x1 && zerB x2))
      · simp only [if_true]
        unfold fX1_multiply_k71
        rw [p1_inf, p1_inf, p1_zero, p1_zero]
        cases hi1 : infB x1
        · cases hi2 : infB x2
          · cases z1 : zerB x1
            · cases z2 : zerB x2
              · simp only [b2f, Bool.or_false, if_true]
                have g1 := pX_ge x1
                have g2 := pX_le x1
                have g3 := pX_ge x2
                have g4 := pX_le x2
                have hlt := (v1_prod x1 x2).2
                obtain ⟨f1, f2⟩ := mul_fin (mo := mo) (fl := fl) (row := row) (ba := ba) (mr := mr) (ex := ex) hmo z1 z2 (rfl : b2 (ng x1 ^^ ng x2) = b2 (ng x1 ^^ ng x2))
                rw [f1, f2, v0_rounded mo fl (ng x1 ^^ ng x2) (mag_mul x1 x2) (Nat.mul_ne_zero (zer_not z1) (zer_not z2)) (by omega) (unit_add x1 x2) (by omega) (by omega)]
                exact ⟨rfl, rfl⟩
              · have hp0 : lg_cmp (fX0_magnitudeOf x1 * fX0_magnitudeOf x2) 0 = 0 := by
                  rw [lg_cmp_eq, ← Int64.toInt_inj, mag_mul, of_decide_eq_true z2]
                  rfl
                rw [rounded_0 hp0]
                simp only [b2f, b2t, e10, Bool.or_false, if_true, if_false]
                unfold fX1_multiply_k107
                rw [sgnZero _ _ (b2_0 _)]
                exact ⟨rfl, rfl⟩
            · have hp0 : lg_cmp (fX0_magnitudeOf x1 * fX0_magnitudeOf x2) 0 = 0 := by
                rw [lg_cmp_eq, ← Int64.toInt_inj, mag_mul, of_decide_eq_true z1, Nat.zero_mul]
                rfl
              rw [rounded_0 hp0]
              simp only [b2f, b2t, e10, Bool.or_false, if_true, if_false]
              unfold fX1_multiply_k107
              rw [sgnZero _ _ (b2_0 _)]
              exact ⟨rfl, rfl⟩
          · simp only [b2f, b2t, e10, Bool.or_true, Bool.false_or, Bool.true_eq_false, if_true, if_false]
            unfold fX1_multiply_k86
            rw [sgnInf _ _ (b2_0 _)]
            exact ⟨rfl, rfl⟩
        · simp only [b2t, e10, Bool.true_or, Bool.true_eq_false, if_false]
          unfold fX1_multiply_k86
          rw [sgnInf _ _ (b2_0 _)]
          exact ⟨rfl, rfl⟩
      · simp only [Bool.true_eq_false, if_false, and_self]
    · simp only [Bool.true_eq_false, if_false, if_true, and_self]
  · simp only [Bool.true_eq_false, if_false, and_self]
