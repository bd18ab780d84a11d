/-! what a pattern is, in both classes -/
def b2 (b : Bool) : Int32 := if b = true then 1 else 0
theorem b2_0 (b : Bool) : (b2 b = 0) ↔ b = false := by cases b <;> decide
theorem b2_eq (a b : Bool) : (b2 a = b2 b) ↔ a = b := by cases a <;> cases b <;> decide
theorem b2_ite {P : Prop} [Decidable P] : (if P then (1 : Int32) else 0) = b2 (decide P) := by by_cases h : P <;> simp [h, b2]
theorem b2_ite' {P : Prop} [Decidable P] : (if P then (0 : Int32) else 1) = b2 (!decide P) := by by_cases h : P <;> simp [h, b2]
def nanB (x : Int32) : Bool := decide (eX x = 255) && !decide (fX x = 0)
def loudB (x : Int32) : Bool := nanB x && decide (fX x < 4194304)
def infB (x : Int32) : Bool := decide (eX x = 255) && decide (fX x = 0)
def zerB (x : Int32) : Bool := decide (mX x = 0)
def ng (x : Int32) : Bool := decide (x.toInt < 0)
theorem lo31 (x : Int32) : (x &&& (2147483647 : Int32)).toInt = ((eX x * 2 ^ 23 + fX x : Nat) : Int) := by
  rw [i_and_lo x 2147483647 31 (by decide) (by decide)]
  congr 1
  unfold eX fX
  omega
theorem lo31' (x : Int32) : eX x * 2 ^ 23 + fX x < 2 ^ 31 := by
  have h1 := eX_lt x
  have h2 := fX_lt x
  omega
theorem p1_none (x : Int32) : fX1_isNone x = b2 (nanB x) := by
  unfold fX1_isNone nanB
  have h1 : (fX1_exponent x = 255) ↔ eX x = 255 := by
    rw [i_eq_iff, v1_exponent, show Int32.toInt 255 = 255 from rfl]
    omega
  have h2 : (fX1_fraction x = 0) ↔ fX x = 0 := by
    rw [i_eq_iff, v1_fraction, show Int32.toInt 0 = 0 from rfl]
    omega
  simp only [h1, h2]
  by_cases a : eX x = 255 <;> by_cases b : fX x = 0 <;> simp [a, b, b2]
theorem p1_inf (x : Int32) : fX1_isInfinite x = b2 (infB x) := by
  unfold fX1_isInfinite infB
  have h1 : (fX1_exponent x = 255) ↔ eX x = 255 := by
    rw [i_eq_iff, v1_exponent, show Int32.toInt 255 = 255 from rfl]
    omega
  have h2 : (fX1_fraction x = 0) ↔ fX x = 0 := by
    rw [i_eq_iff, v1_fraction, show Int32.toInt 0 = 0 from rfl]
    omega
  simp only [h1, h2]
  by_cases a : eX x = 255 <;> by_cases b : fX x = 0 <;> simp [a, b, b2]
theorem p1_loud (x : Int32) : fX1_isLoud x = b2 (loudB x) := by
  unfold fX1_isLoud loudB
  rw [p1_none]
  simp only [b2_0]
  have h2 : ((4194304 : Int32) ≤ fX1_fraction x) ↔ ¬ fX x < 4194304 := by
    rw [Int32.le_iff_toInt_le, v1_fraction, show Int32.toInt 4194304 = 4194304 from rfl]
    omega
  simp only [h2]
  cases nanB x <;> by_cases b : fX x < 4194304 <;> simp [b, b2]
theorem p1_zero (x : Int32) : fX1_isZero x = b2 (zerB x) := by
  have h := v1_isZero x
  unfold zerB
  by_cases h1 : mX x = 0
  · have : ¬ fX1_isZero x = 0 := fun w => h.mp w h1
    unfold fX1_isZero at this ⊢
    split at this
    · rw [if_pos (by assumption)]
      simp [h1, b2]
    · exact absurd rfl this
  · rw [h.mpr h1]
    simp [h1, b2]
theorem p1_neg (x : Int32) : fX1_isNegative x = b2 (ng x) := by
  unfold fX1_isNegative ng
  have h : (0 ≤ x) ↔ ¬ x.toInt < 0 := by
    rw [Int32.le_iff_toInt_le, show Int32.toInt 0 = 0 from rfl]
    omega
  simp only [h]
  by_cases a : x.toInt < 0 <;> simp [a, b2]
theorem p0_zero (x : Int32) : fX0_isZero x = b2 (zerB x) := p1_zero x
theorem p0_neg (x : Int32) : fX0_isNegative x = b2 (ng x) := p1_neg x
theorem p0_none (x : Int32) : fX0_isNoNumber x = b2 (nanB x) := by
  unfold fX0_isNoNumber nanB
  have h1 := lo31 x
  have h2 := eX_lt x
  have h3 := fX_lt x
  have h : ((x &&& (2147483647 : Int32)) ≤ (2139095040 : Int32)) ↔ ¬ (eX x = 255 ∧ ¬ fX x = 0) := by
    rw [Int32.le_iff_toInt_le, h1, show Int32.toInt 2139095040 = 2139095040 from rfl]
    omega
  simp only [h]
  by_cases a : eX x = 255 <;> by_cases b : fX x = 0 <;> simp [a, b, b2]
theorem p0_inf (x : Int32) : fX0_isInfinite x = b2 (infB x) := by
  unfold fX0_isInfinite infB
  have h1 := lo31 x
  have h2 := eX_lt x
  have h3 := fX_lt x
  have h : ((x &&& (2147483647 : Int32)) = (2139095040 : Int32)) ↔ (eX x = 255 ∧ fX x = 0) := by
    rw [i_eq_iff, h1, show Int32.toInt 2139095040 = 2139095040 from rfl]
    omega
  simp only [h]
  by_cases a : eX x = 255 <;> by_cases b : fX x = 0 <;> simp [a, b, b2]
theorem p0_fin (x : Int32) : fX0_isFinite x = b2 (!nanB x && !infB x) := by
  unfold fX0_isFinite nanB infB
  have h1 := lo31 x
  have h2 := eX_lt x
  have h3 := fX_lt x
  have h : ((2139095040 : Int32) ≤ (x &&& (2147483647 : Int32))) ↔ eX x = 255 := by
    rw [Int32.le_iff_toInt_le, h1, show Int32.toInt 2139095040 = 2139095040 from rfl]
    omega
  simp only [h]
  by_cases a : eX x = 255 <;> by_cases b : fX x = 0 <;> simp [a, b, b2]
theorem p0_loud (x : Int32) : fX0_isLoud x = b2 (loudB x) := by
  unfold fX0_isLoud loudB
  rw [p0_none]
  simp only [b2_0]
  have h2 : ((4194304 : Int32) ≤ (x &&& (8388607 : Int32))) ↔ ¬ fX x < 4194304 := by
    have h1 : (x &&& (8388607 : Int32)).toInt = (fX x : Int) := v1_fraction x
    rw [Int32.le_iff_toInt_le, h1, show Int32.toInt 4194304 = 4194304 from rfl]
    omega
  simp only [h2]
  cases nanB x <;> by_cases b : fX x < 4194304 <;> simp [b, b2]
theorem p0_exp (x : Int32) : (fX0_exponentOf x).toInt = (eX x : Int) := by
  unfold fX0_exponentOf
  have h1 := lo31 x
  have h2 := fX_lt x
  rw [i_shr (k := 23) (by decide) (by decide), h1]
  omega
theorem p0_mag (x : Int32) : (fX0_magnitudeOf x).toInt = (mX x : Int) := by
  unfold fX0_magnitudeOf fX0_magnitudeOf_k5 mX
  have h1 : (x &&& (8388607 : Int32)).toInt = (fX x : Int) := v1_fraction x
  have h2 := fX_lt x
  have h : (fX0_exponentOf x = 0) ↔ eX x = 0 := by
    rw [i_eq_iff, p0_exp, show Int32.toInt 0 = 0 from rfl]
    omega
  simp only [h]
  split
  · rw [Int32.toInt_toInt64, h1]
  · have h3 : Int32.toInt 8388608 = 8388608 := by decide
    rw [Int32.toInt_toInt64, i_add (by omega) (by omega), h1, h3]
    omega
theorem p0_unit (x : Int32) : (fX0_unitOf x).toInt = pX x := by
  unfold fX0_unitOf pX
  have h1 := p0_exp x
  have h2 := eX_lt x
  have c1 : Int32.toInt 1 = 1 := by decide
  have c149 : Int32.toInt (-149) = -149 := by decide
  have h3 : (if fX0_exponentOf x < (1 : Int32) then (1 : Int32) else fX0_exponentOf x).toInt = if eX x = 0 then 1 else (eX x : Int) := by
    by_cases h : fX0_exponentOf x < 1
    · rw [if_pos h]
      rw [Int32.lt_iff_toInt_lt, h1, c1] at h
      rw [if_pos (by omega)]
      rfl
    · rw [if_neg h]
      rw [Int32.lt_iff_toInt_lt, h1, c1] at h
      rw [if_neg (by omega), h1]
  generalize (if fX0_exponentOf x < (1 : Int32) then (1 : Int32) else fX0_exponentOf x) = z at h3 ⊢
  have h4 : (z - 1).toInt = z.toInt - 1 := by
    rw [i_sub, c1] <;> rw [c1, h3] <;> split <;> omega
  rw [i_add] <;> rw [h4, c149, h3] <;> split <;> omega
theorem ng_bit (x : Int32) : ng x = (uI x).testBit 31 := by
  have h1 := uI_int x
  have h2 := uI_lt x
  unfold ng
  rw [Nat.testBit_eq_decide_div_mod_eq]
  apply decide_eq_decide.mpr
  rw [h1]
  split <;> omega
theorem uI_xor (x y : Int32) : uI (x ^^^ y) = uI x ^^^ uI y := by
  unfold uI
  rw [Int32.toBitVec_xor, BitVec.toNat_xor]
theorem ng_xor (x y : Int32) : ng (x ^^^ y) = (ng x ^^ ng y) := by
  rw [ng_bit, ng_bit, ng_bit, uI_xor, Nat.testBit_xor]
theorem p0_sign (x : Int32) : fX0_signOf x = sgn (ng x) := by
  unfold fX0_signOf
  apply uI_inj
  have h1 : uI (x &&& (-2147483648 : Int32)) = uI x &&& 2 ^ 31 := by
    unfold uI
    rw [Int32.toBitVec_and, BitVec.toNat_and]
    rfl
  rw [h1]
  apply Nat.eq_of_testBit_eq
  intro i
  rw [Nat.testBit_and, Nat.testBit_two_pow]
  by_cases h : 31 = i
  · subst h
    rw [← ng_bit]
    cases ng x <;> decide
  · have h2 : ∀ b : Bool, (uI (sgn b)).testBit i = false := fun b => by
      cases b
      · show (0 : Nat).testBit i = false
        exact Nat.zero_testBit i
      · show (2 ^ 31 : Nat).testBit i = false
        rw [Nat.testBit_two_pow]
        exact decide_eq_false h
    rw [h2]
    simp [h]
theorem uI_flip (x : Int32) : uI (x ^^^ (-2147483648 : Int32)) = (uI x + 2 ^ 31) % 2 ^ 32 := by
  have h2 := uI_lt x
  rw [uI_xor, show uI (-2147483648) = 2 ^ 31 from rfl]
  apply Nat.eq_of_testBit_eq
  intro i
  rw [Nat.testBit_xor, Nat.testBit_two_pow, Nat.testBit_mod_two_pow]
  rcases Nat.lt_trichotomy i 31 with h | h | h
  · have h3 : (uI x + 2 ^ 31).testBit i = (uI x).testBit i := by
      rw [Nat.add_comm, Nat.testBit_two_pow_add_gt h]
    rw [h3]
    have : ¬ (31 = i) := by omega
    have h4 : i < 32 := by omega
    simp [this, h4]
  · subst h
    rw [Nat.add_comm, Nat.testBit_two_pow_add_eq]
    simp
  · have h4 : (uI x).testBit i = false := Nat.testBit_lt_two_pow (Nat.lt_of_lt_of_le h2 (Nat.pow_le_pow_right (by decide) (by omega)))
    have h5 : ¬ (31 = i) := by omega
    have h6 : ¬ (i < 32) := by omega
    simp [h4, h5, h6]
theorem eX_flip (x : Int32) : eX (x ^^^ (-2147483648 : Int32)) = eX x := by
  unfold eX
  have := uI_lt x
  rw [uI_flip]
  omega
theorem fX_flip (x : Int32) : fX (x ^^^ (-2147483648 : Int32)) = fX x := by
  unfold fX
  have := uI_lt x
  rw [uI_flip]
  omega
theorem nanB_flip (x : Int32) : nanB (x ^^^ (-2147483648 : Int32)) = nanB x := by unfold nanB; rw [eX_flip, fX_flip]
theorem loudB_flip (x : Int32) : loudB (x ^^^ (-2147483648 : Int32)) = loudB x := by unfold loudB; rw [nanB_flip, fX_flip]
/-! results that are no number -/
theorem p0_noNumber (fl : Int32) (b : Bool) : fX0_noNumber fl (b2 b) = (2143289344, if b = true then fl ||| 16 else fl) := by
  cases b <;> rfl
theorem p0_invalid (fl : Int32) : fX0_invalid fl = (2143289344, fl ||| 16) := rfl
theorem p1_invalid (fl : Int32) : fX1_invalid fl = (2143289344, fl ||| 16) := rfl
theorem p1_nonef (fl x y z : Int32) : fX1_none fl x y z = (2143289344, if (loudB x || loudB y || loudB z) = true then fl ||| 16 else fl) := by
  unfold fX1_none fX1_none_k21
  rw [p1_loud, p1_loud, p1_loud]
  simp only [b2_0]
  cases loudB x <;> cases loudB y <;> cases loudB z <;> rfl
theorem loud0 : loudB 0 = false := by decide
/-! empty, put, settle together -/
theorem c_empty (row : Nat → Int64) (ba mr x : Int32) : (fX1_empty row ba mr x).2.1 = x ∧ (fX1_empty row ba mr x).2.2 = 0 ∧ ∀ k, k < 25 → (0 : Int) ≤ ((fX1_empty row ba mr x).1 k).toInt ∧ ((fX1_empty row ba mr x).1 k).toInt ≤ 0 := by
  obtain ⟨h1, h2⟩ := v1_empty row ba mr x
  rw [h1]
  refine ⟨rfl, rfl, fun k hk => ?_⟩
  rw [h2 k hk]
  decide
theorem c_zero (row : Nat → Int64) (ba mr x : Int32) : vs (fX1_empty row ba mr x).1 25 = 0 := vs_zero 25 (v1_empty row ba mr x).2
theorem pSg_b2 (b : Bool) : pSg (b2 b).toInt (if b = true then -1 else 1) (if b = true then 2 ^ 23 else 0) (if b = true then 0 else 2 ^ 23) := by
  cases b
  · exact Or.inl ⟨rfl, rfl, rfl, rfl⟩
  · exact Or.inr ⟨by decide, rfl, rfl, rfl⟩
/-- one put into an empty row, settled -/
theorem c_one (row : Nat → Int64) (ba mr lo : Int32) {v : Int64} {at_ : Int32} {b : Bool} {n k F : Nat} (hv : v.toInt = n) (hn : n < 2 ^ k) (h0 : n ≠ 0) (hF : (at_ - lo).toInt = F) (hFk : F + k ≤ 600) :
    ∃ r, fX1_settle (fX1_put (fX1_empty row ba mr lo).1 lo v at_ (b2 b)) = (b2 b, r) ∧ RP r (n * 2 ^ F) ∧ n * 2 ^ F < 2 ^ 600 := by
  obtain ⟨-, -, e3⟩ := c_empty row ba mr lo
  have hlt : n * 2 ^ F < 2 ^ 600 := by
    calc n * 2 ^ F < 2 ^ k * 2 ^ F := Nat.mul_lt_mul_of_pos_right hn (Nat.pow_pos (by decide))
      _ = 2 ^ (k + F) := (Nat.pow_add 2 _ _).symm
      _ ≤ 2 ^ 600 := Nat.pow_le_pow_right (by decide) (by omega)
  have hpos : n * 2 ^ F ≠ 0 := Nat.mul_ne_zero h0 (Nat.ne_of_gt (Nat.pow_pos (by decide)))
  obtain ⟨p1, p2⟩ := v1_put (row := (fX1_empty row ba mr lo).1) (ba := lo) (pSg_b2 b) hv hn hF hFk (lo := 0) (hi := 0) (by cases b <;> decide) (by cases b <;> decide) e3
  rw [c_zero, Int.zero_add] at p1
  have hab : (vs (fX1_put (fX1_empty row ba mr lo).1 lo v at_ (b2 b)) 25).natAbs = n * 2 ^ F := by
    rw [p1]
    cases b
    · simp only [Bool.false_eq_true, if_false, Int.one_mul]
      exact Int.natAbs_natCast _
    · simp only [if_true]
      rw [Int.neg_mul, Int.one_mul, Int.natAbs_neg]
      exact Int.natAbs_natCast _
  obtain ⟨r, s1, s2⟩ := v1_settle (row := fX1_put (fX1_empty row ba mr lo).1 lo v at_ (b2 b)) (fun k hk => by
    have := p2 k hk
    cases b
    · simp only [Bool.false_eq_true, if_false] at this
      omega
    · simp only [if_true] at this
      omega) (by rw [hab]; exact hlt)
  rw [hab] at s2
  refine ⟨r, ?_, s2, hlt⟩
  rw [s1, p1]
  have hp : (0 : Int) < ((n * 2 ^ F : Nat) : Int) := by omega
  generalize ((n * 2 ^ F : Nat) : Int) = w at hp
  have : (if (if b = true then (-1 : Int) else 1) * w < 0 then (1 : Int32) else 0) = b2 b := by
    cases b
    · simp only [Bool.false_eq_true, if_false, Int.one_mul]
      rw [if_neg (by omega)]
      rfl
    · simp only [if_true]
      rw [if_pos (by omega)]
      rfl
  rw [this]
