def pw (n : Nat) (e : Int) : Nat := n * 2 ^ (e + 298).toNat
theorem pw_0 (e : Int) : pw 0 e = 0 := Nat.zero_mul _
theorem RND_exact {mo fl x : Int32} (hn : nanB x = false) (hi : infB x = false) (hz : zerB x = false) : RND mo fl (ng x) (mX x) (pX x) = (x, fl) := by
  have h4 := eX_lt x
  have h5 := fX_lt x
  have hm := zer_not hz
  have he : eX x ≠ 255 := by
    intro h
    unfold nanB at hn
    unfold infB at hi
    rw [decide_eq_true h] at hn hi
    by_cases hf : fX x = 0
    · simp [hf] at hi
    · simp [hf] at hn
  have hhel : hel (mX x) (pX x) = pX x := by
    unfold hel fre
    by_cases h0 : eX x = 0
    · have e1 : mX x = fX x := by unfold mX; rw [if_pos h0]
      have e2 : pX x = -149 := by unfold pX; rw [if_pos h0]
      have hb : bl (mX x) ≤ 23 := bl_le_of (by rw [e1]; exact h5)
      rw [e2, if_pos (by omega)]
    · have e1 : mX x = 2 ^ 23 + fX x := by unfold mX; rw [if_neg h0]
      have e2 : pX x = (eX x : Int) - 150 := by unfold pX; rw [if_neg h0]
      have hb : bl (mX x) = 24 := bl_eq (k := 23) (by omega) (by omega)
      rw [hb, if_neg (by omega)]
      omega
  have hp : (pX x + 149) * 2 ^ 23 + ((mX x : Nat) : Int) = ((eX x * 2 ^ 23 + fX x : Nat) : Int) := by
    unfold pX mX
    split <;> omega
  have e0 : pX x - pX x = 0 := by omega
  have hrq : rq mo (ng x) (mX x) 0 = mX x := by
    rw [rq_neg _ _ _ (Int.le_refl _)]
    show mX x * 2 ^ 0 = _
    omega
  have hix : inx (mX x) 0 = false := rfl
  unfold RND
  rw [hhel, e0, hrq, hix]
  unfold COMP flx
  rw [hp, if_pos (by omega)]
  have hx := x_parts x
  have hv : (Int32.ofInt ((eX x * 2 ^ 23 + fX x : Nat) : Int)).toInt = ((eX x * 2 ^ 23 + fX x : Nat) : Int) := Int32.toInt_ofInt_of_le (by omega) (by omega)
  have h1 : sgn (ng x) ||| Int32.ofInt ((eX x * 2 ^ 23 + fX x : Nat) : Int) = x := by
    apply Int32.toInt_inj.mp
    rw [sgn_or hv (by omega), hx]
  rw [h1]
  simp
theorem SR_two (m k : Nat) : SR (2 * (m / 2 ^ k) + (if m % 2 ^ k = 0 then 0 else 1)) 1 = SR m k := by
  unfold SR
  by_cases h : m % 2 ^ k = 0
  · rw [if_pos h, if_pos (by omega), if_pos h]
    omega
  · rw [if_neg h, if_neg (by omega), if_neg h]
    omega
theorem v0_aligned {x : Int64} {m : Nat} (hx : x.toInt = (m : Int)) (hm : m < 2 ^ 62) {y : Int32} {d : Int} (hy : y.toInt = d) (hd1 : -2000 ≤ d) (hd2 : d ≤ 61) (hlt : AL m d < 2 ^ 61) : (fX0_aligned x y).toInt = ((AL m d : Nat) : Int) := by
  unfold fX0_aligned
  have c0 : Int32.toInt 0 = 0 := by decide
  by_cases h : y < 0
  · rw [if_pos h]
    rw [Int32.lt_iff_toInt_lt, hy, c0] at h
    obtain ⟨k, hk⟩ : ∃ k : Nat, -d = (k : Int) := ⟨(-d).toNat, by omega⟩
    have hny : (-y).toInt = (k : Int) := by rw [i_neg (by omega), hy, hk]
    have hal : AL m d = SR m k := by
      rw [AL_neg h]
      congr 1
      omega
    rw [hal, v0_isMultiple hx hny]
    have hs := v0_shr hx hny
    have hle : m / 2 ^ k ≤ m := Nat.div_le_self _ _
    have hw := withTrace_SR (x := fX0_shiftedRight x (-y)) (q := m / 2 ^ k) (r := m % 2 ^ k) hs (by omega) (b2 (!decide (m % 2 ^ k = 0))) rfl
    rw [SR_two] at hw
    have hi : inx m (k : Int) = !decide (m % 2 ^ k = 0) := by
      unfold inx
      rw [Int.toNat_natCast, decide_eq_true (show (0 : Int) < (k : Int) by omega), Bool.true_and]
    rw [hi]
    unfold fX0_aligned_k28
    by_cases hz : m % 2 ^ k = 0
    · simp only [hz, decide_true, Bool.not_true, Bool.false_eq_true, if_false, e10] at hw ⊢
      exact hw
    · simp only [hz, decide_false, Bool.not_false, if_true] at hw ⊢
      exact hw
  · rw [if_neg h]
    rw [Int32.lt_iff_toInt_lt, hy, c0] at h
    obtain ⟨k, hk⟩ : ∃ k : Nat, d = (k : Int) := ⟨d.toNat, by omega⟩
    have hal : AL m d = m * 2 ^ k := by
      rw [AL_pos (by omega), hk, Int.toNat_natCast]
    rw [hal] at hlt ⊢
    have e : (m : Int) * 2 ^ k = ((m * 2 ^ k : Nat) : Int) := by
      rw [Int.natCast_mul]
      congr 1
    generalize m * 2 ^ k = w at hlt e ⊢
    rw [l_shl (k := k) (by rw [hy, hk]) (by omega)] <;> rw [hx, e] <;> omega
theorem sg_mul_toInt {x : Int64} {a : Nat} (hx : x.toInt = (a : Int)) (ha : a < 2 ^ 61) (s : Bool) : (if s = true then -x else x).toInt = sg s * (a : Int) := by
  cases s
  · simp only [Bool.false_eq_true, if_false, sg, Int.one_mul]
    exact hx
  · simp only [if_true, sg]
    rw [l_neg (by omega), hx]
    omega
theorem sg_bound (s : Bool) {a : Nat} (ha : a < 2 ^ 61) : -2 ^ 61 < sg s * (a : Int) ∧ sg s * (a : Int) < 2 ^ 61 := by
  cases s
  · simp only [Bool.false_eq_true, if_false, sg, Int.one_mul]
    omega
  · simp only [if_true, sg]
    omega
theorem v0_zeroOfMode (mo : Int32) : fX0_zeroOfMode mo = sgn (decide (mo = 3)) := by
  unfold fX0_zeroOfMode sgn
  by_cases h : mo = 3 <;> simp [h]
