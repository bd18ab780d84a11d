theorem par_x0 {z : Int32} {v : Int} (hz : z.toInt = v) : (z &&& 1 = 0) ↔ v % 2 = 0 := by
  have h1 := uI_int z
  have h2 := uI_lt z
  rw [i_eq_iff, i_and_lo z 1 1 (by decide) (by decide), show Int32.toInt 0 = 0 from rfl]
  rw [hz] at h1
  split at h1 <;> omega
theorem half_x1 {y : Int32} {v : Int} (hy : y.toInt = v) : (y / 2).toInt = v.tdiv 2 := by
  rw [Int32.toInt_div_of_ne_right y 2 (by decide), hy]
  rfl
theorem tdiv2 (v : Int) : v - v.tdiv 2 * 2 = 0 ↔ v % 2 = 0 := by
  have h := Int.mul_tdiv_add_tmod v 2
  have h2 := Int.tmod_two_eq v
  constructor
  · intro h3
    omega
  · intro h3
    rcases h2 with w | w | w <;> omega
theorem par_x1 {y : Int32} {v : Int} (hy : y.toInt = v) (h1 : -2 ^ 29 < v) (h2 : v < 2 ^ 29) : (y - y / 2 * 2 = 0) ↔ v % 2 = 0 := by
  have a1 := half_x1 hy
  have h := Int.mul_tdiv_add_tmod v 2
  have h3 := Int.tmod_two_eq v
  have c2 : Int32.toInt 2 = 2 := by decide
  have a2 : (y / 2 * 2).toInt = v.tdiv 2 * 2 := by
    rw [Int32.toInt_mul, a1, c2]
    exact Int.bmod_eq_of_le (by omega) (by omega)
  rw [i_eq_iff, i_sub (by rw [hy, a2]; omega) (by rw [hy, a2]; omega), hy, a2, show Int32.toInt 0 = 0 from rfl]
  exact tdiv2 v
theorem isq_lo {S R k : Nat} (h : isq S R) (hS : 2 ^ k * 2 ^ k ≤ S) : 2 ^ k ≤ R := by
  rcases Nat.lt_or_ge R (2 ^ k) with w | w
  · have : (R + 1) * (R + 1) ≤ 2 ^ k * 2 ^ k := Nat.mul_le_mul w w
    have := h.2
    omega
  · exact w
theorem root_shl {x1 y2 : Int32} {k S : Nat} (h2 : y2.toInt = (k : Int)) (hk : k < 64) (hS : mX x1 * 2 ^ k = S) (hS2 : S < 2 ^ 62) : (fX0_magnitudeOf x1 <<< (Int32.toInt64 y2 &&& 63)).toInt = (S : Int) := by
  rw [shl_mag x1 h2 hk (by rw [hS]; exact hS2), hS]
theorem root_e {x1 y2 : Int32} {k : Nat} {e0 : Int} (h2 : y2.toInt = (k : Int)) (hk : k < 63) (he : pX x1 - k = 2 * e0) : ((fX0_unitOf x1 - y2) >>> ((1 : Int32) &&& 31)).toInt = e0 ∧ -1500 ≤ e0 ∧ e0 ≤ 1500 := by
  have q1 := pX_ge x1
  have q2 := pX_le x1
  have hu := p0_unit x1
  have s1 : (fX0_unitOf x1 - y2).toInt = 2 * e0 := by rw [i_sub (by omega) (by omega), hu, h2, he]
  refine ⟨?_, by omega, by omega⟩
  rw [i_shr (k := 1) (by decide) (by decide), s1]
  omega
theorem root0_k69 {mo fl x1 y2 : Int32} {S R : Nat} {e0 : Int} (sS : (fX0_magnitudeOf x1 <<< (Int32.toInt64 y2 &&& 63)).toInt = (S : Int)) (hS2 : S < 2 ^ 62) (hS1 : 2 ^ 30 * 2 ^ 30 ≤ S) (hR : isq S R) (he : ((fX0_unitOf x1 - y2) >>> ((1 : Int32) &&& 31)).toInt = e0 ∧ -1500 ≤ e0 ∧ e0 ≤ 1500) :
    fX0_root_k69 x1 y2 mo fl = RND mo fl (ng x1) (SR (2 * R + (if R * R = S then 0 else 1)) 1) e0 := by
  obtain ⟨s2, b1, b2'⟩ := he
  unfold fX0_root_k69 fX0_root_k76
  generalize (fX0_magnitudeOf x1 <<< (Int32.toInt64 y2 &&& 63)) = y3 at sS ⊢
  obtain ⟨R', f1, f2, f3⟩ := v0_floorRoot sS hS2
  have hRR := isq_uniq f2 hR
  subst hRR
  generalize fX0_floorRoot y3 = y5 at f1 ⊢
  unfold fX0_root_k82
  have hsq := sq_toInt f1 f3
  have hc : (lg_cmp (y5 * y5) y3 = 0) ↔ R' * R' = S := by
    rw [lg_cmp_eq, ← Int64.toInt_inj, hsq, sS]
    exact Int.natCast_inj
  rw [p0_sign]
  have hk2 : (if lg_cmp (y5 * y5) y3 = 0 then fX0_root_k104 x1 y2 (sgn (ng x1)) y5 0 mo fl else fX0_root_k104 x1 y2 (sgn (ng x1)) y5 1 mo fl) = fX0_root_k104 x1 y2 (sgn (ng x1)) y5 (b2 (!decide ((if R' * R' = S then 0 else 1) = 0))) mo fl := by
    simp only [hc]
    by_cases h : R' * R' = S
    · simp only [h, if_true, decide_true, Bool.not_true, b2f]
    · simp only [h, if_false, Nat.one_ne_zero, decide_false, Bool.not_false, b2t]
  rw [hk2]
  unfold fX0_root_k104 fX0_root_k118
  have w1 := withTrace_SR (x := y5) (q := R') (r := if R' * R' = S then 0 else 1) f1 (Nat.lt_trans f3 (by decide)) _ rfl
  have e1 : (if (if R' * R' = S then 0 else 1) = 0 then 0 else 1) = (if R' * R' = S then 0 else 1) := by
    by_cases h : R' * R' = S <;> simp [h]
  rw [e1] at w1
  have hlo := isq_lo hR hS1
  obtain ⟨r1, r2⟩ := SR_rng (b := if R' * R' = S then 0 else 1) (Nat.le_trans (by decide) hlo) (Nat.lt_trans f3 (by decide)) ite01_lt
  rw [v0_rounded mo fl (ng x1) w1 r1 r2 s2 b1 b2']
theorem root1_k93 {mo fl : Int32} {row : Nat → Int64} {ba mr ex y3 : Int32} {y4 : Int64} {w r : Nat} {b : Int} (hmo : mOk mo) (h3 : y3.toInt = 2 * b) (hb1 : -800 ≤ b) (hb2 : b ≤ 800) (h4 : y4.toInt = (w : Int)) (hw1 : 2 ^ 26 * 2 ^ 26 ≤ w) (hw2 : w < 2 ^ 58) (hr : isq w r) :
    (fX1_root_k93 y3 y4 mo fl row ba mr ex).1 = (RND mo fl false (2 * r + (if r * r = w then 0 else 1)) (b - 1)).1 ∧ (fX1_root_k93 y3 y4 mo fl row ba mr ex).2.1 = (RND mo fl false (2 * r + (if r * r = w then 0 else 1)) (b - 1)).2 := by
  unfold fX1_root_k93
  obtain ⟨q, R, l1, l2, l3, l4⟩ := v1_root_loop 30 y3 y4 0 28 mo fl row ba mr ex w 0 29 ⟨by decide, by decide, by decide⟩ (by decide) h4 rfl (Nat.zero_le _) (by
    have : (0 + 2 ^ 29) * (0 + 2 ^ 29) = 2 ^ 58 := by decide
    rw [this]
    exact hw2) (by decide)
  have hRR := isq_uniq l3 hr
  subst hRR
  rw [l1]
  unfold fX1_root_k135
  have hh : (y3 / 2).toInt = b := by
    rw [half_x1 h3]
    exact Int.mul_tdiv_cancel_left b (by decide)
  generalize (y3 / 2) = lo at hh ⊢
  unfold fX1_root_k142 fX1_root_k153
  have hlo := isq_lo l3 hw1
  obtain ⟨rr, t1, t2⟩ := c_finS row ba mr lo ex (v := q) (n := R) (k := 29) l2 l4 (by decide) (Nat.le_trans (by decide) hlo) (by omega) (by omega) hmo fl
  obtain ⟨ex', t3⟩ := t2 (!decide (R * R = w)) false 0 (by decide)
  have e0 : (if (!decide (R * R = w)) = true then 1 else 0) = (if R * R = w then 0 else 1) := by
    by_cases h : R * R = w <;> simp [h]
  rw [e0, hh] at t3
  have hsq := sq_toInt l2 (Nat.lt_trans l4 (by decide))
  have hc : (lg_cmp (q * q) y4 = 0) ↔ R * R = w := by
    rw [lg_cmp_eq, ← Int64.toInt_inj, hsq, h4]
    omega
  have hk : (if lg_cmp (q * q) y4 = 0 then fX1_root_k170 0 mo fl (fX1_put (fX1_empty row ba mr lo).1 (fX1_empty row ba mr lo).2.1 q (fX1_empty row ba mr lo).2.1 0) (fX1_empty row ba mr lo).2.1 (fX1_empty row ba mr lo).2.2 ex else fX1_root_k170 1 mo fl (fX1_put (fX1_empty row ba mr lo).1 (fX1_empty row ba mr lo).2.1 q (fX1_empty row ba mr lo).2.1 0) (fX1_empty row ba mr lo).2.1 (fX1_empty row ba mr lo).2.2 ex) = fX1_root_k170 (b2 (!decide (R * R = w))) mo fl (fX1_put (fX1_empty row ba mr lo).1 (fX1_empty row ba mr lo).2.1 q (fX1_empty row ba mr lo).2.1 0) (fX1_empty row ba mr lo).2.1 (fX1_empty row ba mr lo).2.2 ex := by
    simp only [hc]
    by_cases h : R * R = w
    · simp only [h, if_true, decide_true, Bool.not_true, b2f]
    · simp only [h, if_false, decide_false, Bool.not_false, b2t]
  rw [hk]
  unfold fX1_root_k170
  rw [t1]
  show (fX1_root_k177 0 mo fl rr (fX1_empty row ba mr lo).2.1 (b2 (!decide (R * R = w))) ex).1 = _ ∧ (fX1_root_k177 0 mo fl rr (fX1_empty row ba mr lo).2.1 (b2 (!decide (R * R = w))) ex).2.1 = _
  unfold fX1_root_k177 fX1_root_k185
  rw [t3]
  exact ⟨rfl, rfl⟩
