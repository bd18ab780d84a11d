/-! the reference's rounded and finish -/
set_option maxHeartbeats 4000000 in
theorem v1_k32 (y1 y2 q mo : Int32) (row : Nat → Int64) (mr ex : Int32) (hb rb od : Bool) (h1 : (fX1_bit row (y1 - 1) = 1) ↔ hb = true) (h2 : fX1_below row mr (y1 - 1) = if rb = true then 1 else 0) (h3 : (q - q / 2 * 2 = 1) ↔ od = true) :
    fX1_rounded_k32 y1 y2 q mo row mr ex = if hb = false ∧ rb = false then (q, 1) else (if (if mo = 0 then (hb && (rb || od)) else if y2 = 0 then decide (mo = 2) else decide (mo = 3)) = true then q + 1 else q, 0) := by
  unfold fX1_rounded_k32 fX1_rounded_k48 fX1_rounded_k59 fX1_rounded_k75 fX1_rounded_k156
  rw [h2]
  simp only [h1, h3]
  have e02 : ¬ ((0 : Int32) = 2) := by decide
  have e03 : ¬ ((0 : Int32) = 3) := by decide
  have e23 : ¬ ((2 : Int32) = 3) := by decide
  have e10 : ¬ ((1 : Int32) = 0) := by decide
  by_cases m0 : mo = 0
  · subst m0
    cases hb <;> cases rb <;> cases od <;> simp [e10]
  · by_cases m2 : mo = 2
    · subst m2
      cases hb <;> cases rb <;> by_cases y0 : y2 = 0 <;> simp [m0, e23, y0, e10]
    · by_cases m3 : mo = 3
      · subst m3
        cases hb <;> cases rb <;> by_cases y0 : y2 = 0 <;> simp [m0, m2, y0, e10]
      · cases hb <;> cases rb <;> by_cases y0 : y2 = 0 <;> simp [m0, m2, m3, y0, e10]
theorem tw_div (V : Nat) {m : Nat} (hm : m < 2) (c : Nat) : (2 * V + m) / 2 ^ (c + 1) = V / 2 ^ c := by
  rw [Nat.pow_succ, Nat.mul_comm (2 ^ c), ← Nat.div_div_eq_div_mul]
  congr 1
  omega
theorem tw_mod0 (V : Nat) {m : Nat} (hm : m < 2) (c : Nat) : ((2 * V + m) % 2 ^ (c + 1) = 0) ↔ (V % 2 ^ c = 0 ∧ m = 0) := by
  have e : (2 * V + m) % 2 ^ (c + 1) = (2 * V + m) % 2 + 2 * ((2 * V + m) / 2 % 2 ^ c) := by
    rw [Nat.pow_succ, Nat.mul_comm (2 ^ c), Nat.mod_mul]
  have e2 : (2 * V + m) / 2 = V := by omega
  rw [e, e2]
  omega
theorem i_odd {q : Int32} {n : Nat} (h : q.toInt = n) : (q - q / 2 * 2 = 1) ↔ n % 2 = 1 := by
  have hlt := Int32.toInt_lt q
  have e : q - q / 2 * 2 = nI (n % 2) := by
    rw [i_eq_nI h]
    exact pk_rem (by omega) (by decide) (by decide)
  rw [e, i_eq_iff, nI_toInt (by omega), show Int32.toInt 1 = 1 from rfl]
  omega
theorem v1_rounded {row : Nat → Int64} {V : Nat} (hR : RP row V) (hV : V < 2 ^ 600) (mo : Int32) {mr : Int32} {m : Nat} (hm : m < 2) (hmr : mr.toInt = m) (ex : Int32) {x1 x2 : Int32} (hl : -1000 ≤ x1.toInt) (hh : x1.toInt ≤ 1000) (hq : qb V x1.toInt < 2 ^ 24) (hc : 1 ≤ x1.toInt ∨ m = 0) {neg : Bool} (hneg : (x2 = 0) ↔ neg = false) :
    (fX1_rounded mo row mr ex x1 x2).1.toInt = ((rq mo neg (2 * V + m) (x1.toInt + 1) : Nat) : Int) ∧ (fX1_rounded mo row mr ex x1 x2).2 = if inx (2 * V + m) (x1.toInt + 1) = true then 0 else 1 := by
  obtain ⟨q, hq1, hq2⟩ := v1_q_loop 25 x1 x2 0 0 mo row mr ex V 0 hR hV hl hh (asc_init 24) rfl (by rw [Nat.pow_zero, Nat.mod_one]; rfl)
  rw [Nat.mod_eq_of_lt hq] at hq1
  have e0 : fX1_rounded mo row mr ex x1 x2 = fX1_rounded_k32 x1 x2 q mo row mr ex := hq2
  rw [e0]
  have hs : (x1 - 1).toInt = x1.toInt - 1 := by
    have h1 : Int32.toInt 1 = 1 := by decide
    rw [i_sub (by omega) (by omega), h1]
  have hq24 : (qb V x1.toInt : Int) < 2 ^ 24 := by exact_mod_cast hq
  have hq1' : (q + 1).toInt = q.toInt + 1 := i32_add1 (by omega)
  rcases Int.lt_or_le x1.toInt 1 with hx | hx
  · -- nothing is cut off
    have hm0 : m = 0 := by omega
    subst hm0
    have hmr0 : mr = 0 := Int32.toInt_inj.mp hmr
    have hb : ¬ fX1_bit row (x1 - 1) = 1 := by
      rw [v1_bit_neg (by omega)]
      decide
    have hbl : fX1_below row mr (x1 - 1) = if false = true then 1 else 0 := by
      rw [v1_below hR hV, show (x1 - 1).toInt.toNat = 0 by omega, Nat.pow_zero, Nat.mod_one, hmr0]
      rfl
    rw [v1_k32 x1 x2 q mo row mr ex false false (decide (qb V x1.toInt % 2 = 1)) (by simpa using hb) hbl (by rw [i_odd hq1]; simp), if_pos ⟨rfl, rfl⟩]
    have hi : inx (2 * V + 0) (x1.toInt + 1) = false := by
      unfold inx
      by_cases h0 : x1.toInt = 0
      · rw [h0]
        have : (2 * V + 0) % 2 ^ ((0 : Int) + 1).toNat = 0 := by
          show (2 * V + 0) % 2 ^ 1 = 0
          omega
        rw [this]
        rfl
      · have : ¬ (0 < x1.toInt + 1) := by omega
        simp [this]
    rw [hi]
    refine ⟨?_, rfl⟩
    rw [hq1]
    congr 1
    unfold qb
    by_cases h0 : x1.toInt = 0
    · rw [h0]
      have : rq mo neg (2 * V + 0) ((1 : Nat) : Int) = V := by
        rw [rq_pos _ _ _ (by decide)]
        have : stp mo neg (2 * V + 0) 1 = false := by
          unfold stp
          rw [if_pos (by omega)]
        rw [this]
        simp only [Bool.false_eq_true, if_false]
        omega
      rw [if_neg (by decide)]
      show V / 2 ^ 0 = rq mo neg (2 * V + 0) ((1 : Nat) : Int)
      rw [this, Nat.pow_zero, Nat.div_one]
    · rw [if_pos (by omega), rq_neg _ _ _ (by omega)]
      have : 2 ^ (-x1.toInt).toNat = 2 * 2 ^ (-(x1.toInt + 1)).toNat := by
        rw [Nat.mul_comm, ← Nat.pow_succ]
        congr 1
        omega
      rw [this, Nat.add_zero, Nat.mul_comm 2 V, Nat.mul_assoc]
  · obtain ⟨c, hcx⟩ : ∃ c : Nat, x1.toInt = ((c + 1 : Nat) : Int) := ⟨(x1.toInt - 1).toNat, by omega⟩
    have hqb : qb V x1.toInt = V / 2 ^ (c + 1) := by
      unfold qb
      rw [if_neg (by omega), hcx, Int.toNat_natCast]
    have hb : (fX1_bit row (x1 - 1) = 1) ↔ decide (V / 2 ^ c % 2 = 1) = true := by
      rw [i_eq_iff, v1_bitZ hR hV, if_neg (by omega), show (x1 - 1).toInt.toNat = c by omega, show Int32.toInt 1 = 1 from rfl, decide_eq_true_iff]
      generalize V / 2 ^ c % 2 = z
      omega
    have hbl : fX1_below row mr (x1 - 1) = if (!decide (V % 2 ^ c = 0) || decide (m = 1)) = true then 1 else 0 := by
      rw [v1_below hR hV, show (x1 - 1).toInt.toNat = c by omega]
      by_cases hz : V % 2 ^ c = 0
      · rw [if_pos hz]
        have : m = 0 ∨ m = 1 := by omega
        rcases this with rfl | rfl
        · simp [hz]
          exact Int32.toInt_inj.mp hmr
        · simp [hz]
          exact Int32.toInt_inj.mp hmr
      · rw [if_neg hz]
        simp [hz]
    rw [v1_k32 x1 x2 q mo row mr ex _ _ (decide (V / 2 ^ (c + 1) % 2 = 1)) hb hbl (by rw [i_odd hq1, hqb]; simp)]
    have hcd : x1.toInt + 1 = ((c + 2 : Nat) : Int) := by omega
    rw [hcd, rq_pos _ _ _ (by omega), tw_div V hm]
    have hms := mod_pow_succ' V c
    have hpc : 0 < 2 ^ c := Nat.pow_pos (by decide)
    have hN0 : ((2 * V + m) % 2 ^ (c + 2) = 0) ↔ (decide (V / 2 ^ c % 2 = 1) = false ∧ (!decide (V % 2 ^ c = 0) || decide (m = 1)) = false) := by
      rw [tw_mod0 V hm (c + 1), hms]
      have h2 : V / 2 ^ c % 2 = 0 ∨ V / 2 ^ c % 2 = 1 := by omega
      rcases h2 with h2 | h2
      · rw [h2]
        simp <;> omega
      · rw [h2]
        simp <;> omega
    have hix : inx (2 * V + m) ((c + 2 : Nat) : Int) = !decide ((2 * V + m) % 2 ^ (c + 2) = 0) := by
      unfold inx
      rw [Int.toNat_natCast]
      have : (0 : Int) < ((c + 2 : Nat) : Int) := by omega
      simp only [this, decide_true, Bool.true_and]
    rw [hix]
    unfold stp
    rw [tw_div V hm (c + 1), show c + 2 - 1 = c + 1 by omega, tw_div V hm c]
    by_cases hz : (2 * V + m) % 2 ^ (c + 2) = 0
    · rw [if_pos (hN0.mp hz)]
      simp only [hz, if_true, Bool.false_eq_true, if_false, Nat.add_zero, decide_true, Bool.not_true]
      exact ⟨by rw [hq1, hqb], trivial⟩
    · rw [if_neg (fun w => hz (hN0.mpr w))]
      simp only [hz, if_false, decide_false, Bool.not_false, if_true]
      refine ⟨?_, trivial⟩
      have hst : (if mo = 0 then (decide (V / 2 ^ c % 2 = 1) && ((!decide (V % 2 ^ c = 0) || decide (m = 1)) || decide (V / 2 ^ (c + 1) % 2 = 1))) else if x2 = 0 then decide (mo = 2) else decide (mo = 3)) = (if mo = 0 then (decide (V / 2 ^ c % 2 = 1) && (!decide ((2 * V + m) % 2 ^ (c + 1) = 0) || decide (V / 2 ^ (c + 1) % 2 = 1))) else if neg = true then decide (mo = 3) else decide (mo = 2)) := by
        by_cases m0 : mo = 0
        · rw [if_pos m0, if_pos m0]
          have h5 : decide ((2 * V + m) % 2 ^ (c + 1) = 0) = (decide (V % 2 ^ c = 0) && decide (m = 0)) := by
            simp only [tw_mod0 V hm c, Bool.decide_and]
          rw [h5]
          have h2 : decide (m = 1) = !decide (m = 0) := by
            have : m = 0 ∨ m = 1 := by omega
            rcases this with rfl | rfl <;> rfl
          rw [h2]
          cases decide (V % 2 ^ c = 0) <;> cases decide (m = 0) <;> rfl
        · rw [if_neg m0, if_neg m0]
          cases neg
          · rw [if_pos (hneg.mpr rfl)]
            rfl
          · rw [if_neg (fun w => by have := hneg.mp w; exact absurd this (by decide))]
            rfl
      rw [hst]
      generalize (if mo = 0 then (decide (V / 2 ^ c % 2 = 1) && (!decide ((2 * V + m) % 2 ^ (c + 1) = 0) || decide (V / 2 ^ (c + 1) % 2 = 1))) else if neg = true then decide (mo = 3) else decide (mo = 2)) = bb
      cases bb
      · show q.toInt = _
        rw [hq1, hqb]
        rfl
      · show (q + 1).toInt = _
        rw [hq1', hq1, hqb]
        rfl
