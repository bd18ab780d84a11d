/-! the reference's division, and divide -/
theorem c_finS (row : Nat → Int64) (ba mr lo ex : Int32) {v : Int64} {n k : Nat} (hv : v.toInt = n) (hn : n < 2 ^ k) (hk : k ≤ 600) (h0 : 2 ^ 24 ≤ n) (hlo1 : -800 ≤ lo.toInt) (hlo2 : lo.toInt ≤ 800) {mo : Int32} (hmo : mOk mo) (fl : Int32) :
    ∃ r, fX1_settle (fX1_put (fX1_empty row ba mr lo).1 (fX1_empty row ba mr lo).2.1 v (fX1_empty row ba mr lo).2.1 0) = (0, r) ∧ ∀ (mb neg : Bool) (w : Int32), ((w = 0) ↔ neg = false) → ∃ ex', fX1_finish mo fl r (fX1_empty row ba mr lo).2.1 (b2 mb) ex w = ((RND mo fl neg (2 * n + (if mb = true then 1 else 0)) (lo.toInt - 1)).1, (RND mo fl neg (2 * n + (if mb = true then 1 else 0)) (lo.toInt - 1)).2, ex') := by
  obtain ⟨e1, e2, -⟩ := c_empty row ba mr lo
  rw [e1]
  have hn0 : n ≠ 0 := fun w => by rw [w] at h0; exact absurd h0 (by decide)
  obtain ⟨r, s1, s2, s3⟩ := c_one row ba mr lo (at_ := lo) (b := false) (F := 0) hv hn hn0 (by simp) (by omega)
  rw [Nat.pow_zero, Nat.mul_one] at s2 s3
  refine ⟨r, s1, fun mb neg w hw => ?_⟩
  have hm : (b2 mb).toInt = ((if mb = true then 1 else 0 : Nat) : Int) := by cases mb <;> rfl
  exact v1_finish s2 s3 hn0 hmo fl hlo1 hlo2 (mr := b2 mb) (by cases mb <;> decide) hm (Or.inr h0) ex hw
theorem divs (D m t : Nat) : D / (m * 2 ^ t) = (2 * (D / m) + (if D % m = 0 then 0 else 1)) / 2 ^ (t + 1) := by
  rw [tw_div _ ite01_lt, Nat.div_div_eq_div_mul]
theorem mods (D m t : Nat) (hm : m ≠ 0) : (D % (m * 2 ^ t) = 0) ↔ ((2 * (D / m) + (if D % m = 0 then 0 else 1)) % 2 ^ (t + 1) = 0) := by
  rw [tw_mod0 _ ite01_lt, Nat.mod_mul]
  constructor
  · intro h
    have h1 : D % m = 0 := by omega
    have h2 : m * (D / m % 2 ^ t) = 0 := by omega
    rcases Nat.mul_eq_zero.mp h2 with w | w
    · exact absurd w hm
    · exact ⟨w, if_pos h1⟩
  · intro h
    have h1 : D % m = 0 := by
      by_cases w : D % m = 0
      · exact w
      · rw [if_neg w] at h
        exact absurd h.2 (by decide)
    rw [h1, h.1]
    simp
theorem place5 (x1 x2 : Int32) {y4 y5 : Int32} {g t : Nat} (h4 : y4.toInt = (g : Int)) (h5 : y5.toInt = (t : Int)) (hg : g ≤ 23) (ht : t ≤ 23) : ((((fX1_place x1 - y4) - fX1_place x2) + y5) - 38).toInt = pX x1 - g - pX x2 + t - 38 ∧ -800 ≤ pX x1 - g - pX x2 + t - 38 ∧ pX x1 - g - pX x2 + t - 38 ≤ 800 := by
  have q1 := pX_ge x1
  have q2 := pX_le x1
  have q3 := pX_ge x2
  have q4 := pX_le x2
  have u1 := v1_place x1
  have u2 := v1_place x2
  have c : Int32.toInt 38 = 38 := by decide
  have a1 : (fX1_place x1 - y4).toInt = pX x1 - g := by rw [i_sub (by omega) (by omega), u1, h4]
  have a2 : ((fX1_place x1 - y4) - fX1_place x2).toInt = pX x1 - g - pX x2 := by rw [i_sub (by omega) (by omega), a1, u2]
  have a3 : (((fX1_place x1 - y4) - fX1_place x2) + y5).toInt = pX x1 - g - pX x2 + t := by rw [i_add (by omega) (by omega), a2, h5]
  refine ⟨?_, by omega, by omega⟩
  rw [i_sub (by omega) (by omega), a3, c]
theorem add38 {y : Int32} {g : Nat} (h : y.toInt = (g : Int)) (hg : g ≤ 23) : (y + 38).toInt = ((g + 38 : Nat) : Int) := by
  have c : Int32.toInt 38 = 38 := by decide
  rw [i_add (by omega) (by omega), h, c]
  omega
theorem quo_lo2 {D m : Nat} (h : 2 ^ 61 ≤ D) (hm : m < 2 ^ 24) (hm0 : m ≠ 0) (hD : D < 2 ^ 62) (hlo : 2 ^ 23 ≤ m) : 2 ^ 37 ≤ D / m ∧ D / m < 2 ^ 39 := by
  refine ⟨quo_lo h hm hm0, ?_⟩
  rw [Nat.div_lt_iff_lt_mul (Nat.pos_of_ne_zero hm0)]
  calc D < 2 ^ 62 := hD
    _ = 2 ^ 39 * 2 ^ 23 := by decide
    _ ≤ 2 ^ 39 * m := Nat.mul_le_mul_left _ hlo
theorem div_k179 {mo fl : Int32} {row : Nat → Int64} {ba mr ex x1 x2 : Int32} (hmo : mOk mo) (neg : Bool) {y4 y5 : Int32} {y6 y8 : Int64} {g t U B : Nat} (h4 : y4.toInt = (g : Int)) (h5 : y5.toInt = (t : Int)) (hg : g ≤ 23) (ht : t ≤ 23) (h6 : y6.toInt = U) (h8 : y8.toInt = B) (hU1 : 2 ^ 61 ≤ U) (hU2 : U < 2 ^ 62) (hB1 : 2 ^ 23 ≤ B) (hB2 : B < 2 ^ 24) :
    (fX1_divide_k179 x1 x2 (b2 neg) y4 y5 y6 y8 mo fl row ba mr ex).1 = (RND mo fl neg (2 * (U / B) + (if U % B = 0 then 0 else 1)) (pX x1 - g - pX x2 + t - 38 - 1)).1 ∧ (fX1_divide_k179 x1 x2 (b2 neg) y4 y5 y6 y8 mo fl row ba mr ex).2.1 = (RND mo fl neg (2 * (U / B) + (if U % B = 0 then 0 else 1)) (pX x1 - g - pX x2 + t - 38 - 1)).2 := by
  obtain ⟨l1, l2, l3⟩ := place5 x1 x2 h4 h5 hg ht
  have hB0 : B ≠ 0 := fun w => by rw [w] at hB1; exact absurd hB1 (by decide)
  have e6 : y6 = lN U := l_eq_lN h6
  have e8 : y8 = lN B := l_eq_lN h8
  have hq : y6 / y8 = lN (U / B) := by rw [e6, e8]; exact pk_lDiv (Nat.lt_trans hU2 (by decide)) (Nat.pos_of_ne_zero hB0) (Nat.lt_trans hB2 (by decide))
  have hr : y6 - y6 / y8 * y8 = lN (U % B) := by rw [e6, e8]; exact pk_lRem (Nat.lt_trans hU2 (by decide)) (Nat.pos_of_ne_zero hB0) (Nat.lt_trans hB2 (by decide))
  obtain ⟨q1, q2⟩ := quo_lo2 hU1 hB2 hB0 hU2 hB1
  have hrc := lrem0 (r := U % B) (Nat.lt_trans (Nat.mod_lt _ (Nat.pos_of_ne_zero hB0)) (Nat.lt_trans hB2 (by decide)))
  unfold fX1_divide_k179
  generalize ((((fX1_place x1 - y4) - fX1_place x2) + y5) - 38) = lo at l1 ⊢
  unfold fX1_divide_k201 fX1_divide_k215
  rw [hr, hq]
  generalize U / B = Q at q1 q2 ⊢
  generalize U % B = Rm at hrc ⊢
  obtain ⟨r, t1, t2⟩ := c_finS row ba mr lo ex (v := lN Q) (n := Q) (k := 39) (pk_lT (Nat.lt_trans q2 (by decide))) q2 (by decide) (Nat.le_trans (by decide) q1) (by rw [l1]; exact l2) (by rw [l1]; exact l3) hmo fl
  obtain ⟨ex', t3⟩ := t2 (!decide (Rm = 0)) neg (b2 neg) (b2_0 neg)
  have e0 : (if (!decide (Rm = 0)) = true then 1 else 0) = (if Rm = 0 then 0 else 1) := by
    by_cases h : Rm = 0 <;> simp [h]
  rw [e0, l1] at t3
  have hk : (if lg_cmp (lN Rm) 0 = 0 then fX1_divide_k231 (b2 neg) 0 mo fl (fX1_put (fX1_empty row ba mr lo).1 (fX1_empty row ba mr lo).2.1 (lN Q) (fX1_empty row ba mr lo).2.1 0) (fX1_empty row ba mr lo).2.1 (fX1_empty row ba mr lo).2.2 ex else fX1_divide_k231 (b2 neg) 1 mo fl (fX1_put (fX1_empty row ba mr lo).1 (fX1_empty row ba mr lo).2.1 (lN Q) (fX1_empty row ba mr lo).2.1 0) (fX1_empty row ba mr lo).2.1 (fX1_empty row ba mr lo).2.2 ex) = fX1_divide_k231 (b2 neg) (b2 (!decide (Rm = 0))) mo fl (fX1_put (fX1_empty row ba mr lo).1 (fX1_empty row ba mr lo).2.1 (lN Q) (fX1_empty row ba mr lo).2.1 0) (fX1_empty row ba mr lo).2.1 (fX1_empty row ba mr lo).2.2 ex := by
    simp only [hrc]
    by_cases h : Rm = 0
    · simp only [h, if_true, decide_true, Bool.not_true, b2f]
    · simp only [h, if_false, decide_false, Bool.not_false, b2t]
  rw [hk]
  unfold fX1_divide_k231
  rw [t1]
  have hk2 : fX1_divide_k238 (b2 neg) 0 mo fl r (fX1_empty row ba mr lo).2.1 (b2 (!decide (Rm = 0))) ex = fX1_divide_k252 (b2 neg) mo fl r (fX1_empty row ba mr lo).2.1 (b2 (!decide (Rm = 0))) ex := by
    unfold fX1_divide_k238
    cases neg
    · simp only [b2f, if_true]
    · simp only [b2t, e10, if_false]
  show (fX1_divide_k238 (b2 neg) 0 mo fl r (fX1_empty row ba mr lo).2.1 (b2 (!decide (Rm = 0))) ex).1 = _ ∧ (fX1_divide_k238 (b2 neg) 0 mo fl r (fX1_empty row ba mr lo).2.1 (b2 (!decide (Rm = 0))) ex).2.1 = _
  rw [hk2]
  unfold fX1_divide_k252 fX1_divide_k255
  rw [t3]
  exact ⟨rfl, rfl⟩
theorem div_fin {mo fl : Int32} {row : Nat → Int64} {ba mr ex x1 x2 : Int32} (hmo : mOk mo) (z1 : zerB x1 = false) (z2 : zerB x2 = false) (neg : Bool) :
    (fX0_divide_k105 x1 x2 (sgn neg) (fX0_magnitudeOf x2) mo fl).1 = (fX1_divide_k147 x1 x2 (b2 neg) (fX1_gap (fX1_units x1)) mo fl row ba mr ex).1 ∧ (fX0_divide_k105 x1 x2 (sgn neg) (fX0_magnitudeOf x2) mo fl).2 = (fX1_divide_k147 x1 x2 (b2 neg) (fX1_gap (fX1_units x1)) mo fl row ba mr ex).2.1 := by
  have hm1 := zer_not z1
  have hm2 := zer_not z2
  obtain ⟨g, g1, g2, g3, g4⟩ := v1_gap (v1_units x1) (Nat.pos_of_ne_zero hm1) (mX_lt x1)
  obtain ⟨t, t1, t2, t3, t4⟩ := v1_gap (v1_units x2) (Nat.pos_of_ne_zero hm2) (mX_lt x2)
  rw [div_fin0 z1 z2 neg g2 g3 g4]
  unfold fX1_divide_k147 fX1_divide_k156 fX1_divide_k169
  obtain ⟨u1, u2⟩ := v1_shl (d := 38) (v1_units x1) (add38 g1 g2) g4 (by decide) g2
  obtain ⟨w1, w2⟩ := v1_shl (d := 0) (v1_units x2) (t := fX1_gap (fX1_units x2)) (g := t) (by rw [t1]; rfl) t4 (by decide) t2
  rw [Nat.pow_zero, Nat.mul_one] at w1
  have hU1 : 2 ^ 61 ≤ mX x1 * 2 ^ g * 2 ^ 38 := by
    calc 2 ^ 61 = 2 ^ 23 * 2 ^ 38 := by decide
      _ ≤ mX x1 * 2 ^ g * 2 ^ 38 := Nat.mul_le_mul_right _ g3
  obtain ⟨f1, f2⟩ := div_k179 (mo := mo) (fl := fl) (row := row) (ba := ba) (mr := mr) (ex := ex) (x1 := x1) (x2 := x2) hmo neg g1 t1 g2 t2 u1 w1 hU1 u2 t3 t4
  rw [f1, f2]
  have eN : mX x1 * 2 ^ (g + 38) = mX x1 * 2 ^ g * 2 ^ 38 := by rw [Nat.pow_add, Nat.mul_assoc]
  rw [eN]
  have hlo : 2 ^ 37 ≤ mX x1 * 2 ^ g * 2 ^ 38 / (mX x2 * 2 ^ t) := quo_lo hU1 t4 (fun w => by rw [w] at t3; exact absurd t3 (by decide))
  generalize mX x1 * 2 ^ g * 2 ^ 38 = D at hlo ⊢
  have hmod := mods D (mX x2) t hm2
  have hdv := divs D (mX x2) t
  generalize 2 * (D / mX x2) + (if D % mX x2 = 0 then 0 else 1) = Y at hmod hdv ⊢
  rw [hdv] at hlo ⊢
  simp only [hmod]
  have hY : 2 ^ 37 * 2 ^ (t + 1) ≤ Y := by
    rw [Nat.le_div_iff_mul_le (Nat.pow_pos (by decide))] at hlo
    exact hlo
  have hY1 : 2 ^ (t + 25) ≤ Y := by
    refine Nat.le_trans ?_ hY
    rw [← Nat.pow_add]
    exact Nat.pow_le_pow_right (by decide) (by omega)
  have hY2 : 2 ^ 26 ≤ Y := by
    refine Nat.le_trans ?_ hY
    rw [← Nat.pow_add]
    exact Nat.pow_le_pow_right (by decide) (by omega)
  have hR := RND_q (mo := mo) (fl := fl) (neg := neg) hY1 hY2 (pX x1 - ((g + 38 : Nat) : Int) - pX x2 - 1)
  have a1 : pX x1 - ((g + 38 : Nat) : Int) - pX x2 - 1 + 1 = pX x1 - ((g + 38 : Nat) : Int) - pX x2 := by omega
  have a2 : pX x1 - ((g + 38 : Nat) : Int) - pX x2 - 1 + (t : Int) = pX x1 - g - pX x2 + t - 38 - 1 := by omega
  rw [a1, a2] at hR
  rw [hR]
  exact ⟨rfl, rfl⟩
theorem div_A0 (mo fl x1 x2 : Int32) : fX0_divide mo fl x1 x2 = (if nanB x1 = false then (if nanB x2 = false then (if ((zerB x1 && zerB x2) || (infB x1 && infB x2)) = false then (if infB x1 = false then (if infB x2 = false then fX0_divide_k105 x1 x2 (sgn (ng x1 ^^ ng x2)) (fX0_magnitudeOf x2) mo fl else (sgn (ng x1 ^^ ng x2), fl)) else (sgn (ng x1 ^^ ng x2) ||| 2139095040, fl)) else (2143289344, fl ||| 16)) else (2143289344, if (loudB x1 || loudB x2) = true then fl ||| 16 else fl)) else (2143289344, if (loudB x1 || loudB x2) = true then fl ||| 16 else fl)) := by
  unfold fX0_divide fX0_divide_k52
  rw [p0_none, p0_none, p0_zero, p0_zero, p0_inf, p0_inf]
  have hl : fX0_divide_k14 x1 x2 mo fl = (2143289344, if (loudB x1 || loudB x2) = true then fl ||| 16 else fl) := by
    unfold fX0_divide_k14
    rw [p0_loud, p0_loud]
    cases loudB x1 <;> cases loudB x2 <;> rfl
  have hv : fX0_divide_k66 mo fl = (2143289344, fl ||| 16) := rfl
  have hk : fX0_divide_k71 x1 x2 mo fl = (if infB x1 = false then (if infB x2 = false then fX0_divide_k105 x1 x2 (sgn (ng x1 ^^ ng x2)) (fX0_magnitudeOf x2) mo fl else (sgn (ng x1 ^^ ng x2), fl)) else (sgn (ng x1 ^^ ng x2) ||| 2139095040, fl)) := by
    unfold fX0_divide_k71 fX0_divide_k78
    rw [p0_sign, ng_xor, p0_inf, p0_inf]
    cases infB x1 <;> cases infB x2 <;> simp only [b2f, b2t, e10, Bool.true_eq_false, if_true, if_false]
  rw [hl, hv, hk]
  cases nanB x1 <;> cases nanB x2 <;> cases zerB x1 <;> cases infB x2 <;> cases infB x1 <;> cases zerB x2 <;> simp only [b2f, b2t, e10, Bool.or_false, Bool.or_true, Bool.false_or, Bool.true_or, Bool.and_false, Bool.and_true, Bool.false_and, Bool.true_and, Bool.true_eq_false, Bool.false_eq_true, if_true, if_false]
theorem div_A1 (mo fl : Int32) (row : Nat → Int64) (ba mr ex x1 x2 : Int32) : fX1_divide mo fl row ba mr ex x1 x2 = (if nanB x1 = false then (if nanB x2 = false then (if ((zerB x1 && zerB x2) || (infB x1 && infB x2)) = false then fX1_divide_k71 x1 x2 (b2 (ng x1 ^^ ng x2)) mo fl row ba mr ex else (2143289344, fl ||| 16, row, ba, mr, ex)) else (2143289344, (if (loudB x1 || loudB x2) = true then fl ||| 16 else fl), row, ba, mr, ex)) else (2143289344, (if (loudB x1 || loudB x2) = true then fl ||| 16 else fl), row, ba, mr, ex)) := by
  unfold fX1_divide fX1_divide_k36
  rw [p1_none, p1_none, p1_zero, p1_zero, p1_inf, p1_inf]
  have hl : fX1_divide_k14 x1 x2 mo fl row ba mr ex = (2143289344, (if (loudB x1 || loudB x2) = true then fl ||| 16 else fl), row, ba, mr, ex) := by
    unfold fX1_divide_k14 fX1_divide_k21
    rw [p1_nonef, loud0]
    cases loudB x1 <;> cases loudB x2 <;> rfl
  have hk : fX1_divide_k55 x1 x2 mo fl row ba mr ex = fX1_divide_k71 x1 x2 (b2 (ng x1 ^^ ng x2)) mo fl row ba mr ex := by
    unfold fX1_divide_k55
    rw [p1_neg, p1_neg]
    simp only [ng_ne]
    cases (ng x1 ^^ ng x2) <;> simp only [b2f, b2t, Bool.true_eq_false, if_true, if_false]
  have hv : fX1_divide_k50 mo fl row ba mr ex = (2143289344, fl ||| 16, row, ba, mr, ex) := rfl
  rw [hl, hk, hv]
  cases nanB x1 <;> cases nanB x2 <;> cases zerB x1 <;> cases infB x2 <;> cases infB x1 <;> cases zerB x2 <;> simp only [b2f, b2t, e10, Bool.or_false, Bool.or_true, Bool.false_or, Bool.true_or, Bool.and_false, Bool.and_true, Bool.false_and, Bool.true_and, Bool.true_eq_false, Bool.false_eq_true, if_true, if_false]
theorem m_divide (mo fl : Int32) (row : Nat → Int64) (ba mr ex : Int32) (x1 x2 : Int32) (hmo : mOk mo) : (fX0_divide mo fl x1 x2).1 = (fX1_divide mo fl row ba mr ex x1 x2).1 ∧ (fX0_divide mo fl x1 x2).2 = (fX1_divide mo fl row ba mr ex x1 x2).2.1 := by
  rw [div_A0, div_A1]
  cases hn1 : nanB x1
  · cases hn2 : nanB x2
    · simp only [if_true]
      cases hq : ((zerB x1 && zerB x2) || (infB x1 && infB x2))
      · simp only [if_true]
        unfold fX1_divide_k71 fX1_divide_k97
        rw [p1_inf, p1_inf, p1_zero, p1_zero]
        cases hi1 : infB x1
        · cases hi2 : infB x2
          · cases z2 : zerB x2
            · cases z1 : zerB x1
              · simp only [b2f, if_true]
                exact div_fin hmo z1 z2 _
              · simp only [b2f, b2t, e10, if_true, if_false]
                unfold fX1_divide_k132
                rw [sgnZero _ _ (b2_0 _)]
                -- a zero by a number that is none
                have hz : ¬ (lg_cmp (fX0_magnitudeOf x2) 0 = 0) := by
                  rw [lg_cmp_eq, ← Int64.toInt_inj, p0_mag, show Int64.toInt 0 = 0 from rfl]
                  intro h
                  exact zer_not z2 (by exact_mod_cast h)
                have hm1 : mX x1 = 0 := of_decide_eq_true z1
                unfold fX0_divide_k105
                rw [if_neg hz]
                unfold fX0_divide_k135 fX0_divide_k144
                have e1 : fX0_magnitudeOf x1 = 0 := Int64.toInt_inj.mp (by rw [p0_mag, hm1]; rfl)
                rw [e1]
                have e2 : ((0 : Int64) <<< (Int32.toInt64 ((62 : Int32) - fX0_bitLength 0) &&& 63)) = 0 := by decide +kernel
                rw [e2]
                have e3 : (0 : Int64) / fX0_magnitudeOf x2 = 0 := by
                  rw [l_eq_lN (p0_mag x2)]
                  have hm2 := mX_lt x2
                  have := pk_lDiv (a := 0) (b := mX x2) (by decide) (Nat.pos_of_ne_zero (zer_not z2)) (by omega)
                  rw [Nat.zero_div] at this
                  exact this
                rw [e3]
                have e4 : (0 : Int64) - 0 * fX0_magnitudeOf x2 = 0 := by simp
                rw [e4]
                rw [if_pos (show lg_cmp 0 0 = 0 by decide)]
                unfold fX0_divide_k164 fX0_divide_k169 fX0_divide_k188
                have e5 : lg_cmp (fX0_withTrace 0 0) 0 = 0 := by decide
                rw [rounded_0 e5]
                exact ⟨rfl, rfl⟩
            · simp only [b2f, b2t, e10, if_true, if_false]
              unfold fX0_divide_k105 fX1_divide_k111
              have hz : lg_cmp (fX0_magnitudeOf x2) 0 = 0 := mag0 z2
              rw [if_pos hz, sgnInf _ _ (b2_0 _)]
              exact ⟨rfl, rfl⟩
          · simp only [b2f, b2t, e10, Bool.true_eq_false, if_true, if_false]
            rw [inf_zer hi2]
            simp only [b2f, if_true]
            unfold fX1_divide_k132
            rw [sgnZero _ _ (b2_0 _)]
            cases zerB x1 <;> simp only [b2f, b2t, e10, if_true, if_false, and_self]
        · simp only [b2t, e10, Bool.true_eq_false, if_false]
          unfold fX1_divide_k111
          rw [sgnInf _ _ (b2_0 _)]
          cases zerB x2 <;> simp only [b2f, b2t, e10, if_true, if_false, and_self]
      · simp only [Bool.true_eq_false, if_false, and_self]
    · simp only [Bool.true_eq_false, if_false, if_true, and_self]
  · simp only [Bool.true_eq_false, if_false, and_self]
