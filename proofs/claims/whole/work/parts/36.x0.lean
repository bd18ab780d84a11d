/-! the class: lengths, multiples, steps, rounded is RND -/
theorem wb_tb (n : Nat) : (lN n).toBitVec = BitVec.ofNat 64 n := rfl
theorem wb_inj {a b : Int64} (h : a.toBitVec = b.toBitVec) : a = b := Int64.toBitVec_inj.mp h
theorem wb_tn {n : Nat} (h : n < 2 ^ 64) : (lN n).toBitVec.toNat = n := by rw [wb_tb, BitVec.toNat_ofNat, Nat.mod_eq_of_lt h]
theorem wb_cu : ∀ k, k < 64 → ((nI k).toInt64.toUInt64 &&& Int64.toUInt64 63) = UInt64.ofNat k := by decide +kernel
theorem wb_shr {n k : Nat} (hn : n < 2 ^ 64) (hk : k < 64) : ((lN n).toUInt64 >>> ((nI k).toInt64.toUInt64 &&& Int64.toUInt64 63)).toInt64 = lN (n / 2 ^ k) := by
  rw [wb_cu k hk]
  apply wb_inj
  apply BitVec.eq_of_toNat_eq
  show ((lN n).toUInt64 >>> UInt64.ofNat k).toNat = (BitVec.ofNat 64 _).toNat
  have h1 : (UInt64.ofNat k).toNat = k := by
    show (BitVec.ofNat 64 k).toNat = k
    rw [BitVec.toNat_ofNat, Nat.mod_eq_of_lt (by omega)]
  have h2 : (lN n).toUInt64.toNat = n := wb_tn hn
  rw [UInt64.toNat_shiftRight, h1, h2, Nat.mod_eq_of_lt hk, Nat.shiftRight_eq_div_pow, BitVec.toNat_ofNat, Nat.mod_eq_of_lt (Nat.lt_of_le_of_lt (Nat.div_le_self _ _) hn)]
theorem v0_k73 {n : Nat} {y1 : Int32} {c : Int} (h0 : 0 < n) (h : n < 4) (hy : y1.toInt = c) (hc : 0 ≤ c) (hc2 : c ≤ 31) : (fJ6_numberOfLeadingZeros_0f7a4_k73 (nI n) y1).toInt = c + 1 - bl n := by
  unfold fJ6_numberOfLeadingZeros_0f7a4_k73
  rw [pk_ushrN (by omega) 1 1 (by decide)]
  have h1 : (nI (n / 2 ^ 1)).toInt = ((n / 2 ^ 1 : Nat) : Int) := nI_toInt (by omega)
  have hb : bl n = n / 2 + 1 := by
    have : n = 1 ∨ n = 2 ∨ n = 3 := by omega
    rcases this with rfl | rfl | rfl
    · exact bl_eq (k := 0) (by decide) (by decide)
    · exact bl_eq (k := 1) (by decide) (by decide)
    · exact bl_eq (k := 1) (by decide) (by decide)
  rw [i_sub (by omega) (by omega), hy, h1, hb]
  omega
theorem v0_k61 {n : Nat} {y1 : Int32} {c : Int} (h0 : 0 < n) (h : n < 16) (hy : y1.toInt = c) (hc : 2 ≤ c) (hc2 : c ≤ 31) : (fJ6_numberOfLeadingZeros_0f7a4_k61 (nI n) y1).toInt = c + 1 - bl n := by
  unfold fJ6_numberOfLeadingZeros_0f7a4_k61
  have c4 : Int32.toInt 4 = 4 := by decide
  have hn : (nI n).toInt = n := nI_toInt (by omega)
  by_cases ha : nI n < 4
  · rw [if_pos ha]
    rw [Int32.lt_iff_toInt_lt, hn, c4] at ha
    exact v0_k73 h0 (by omega) hy (by omega) hc2
  · rw [if_neg ha]
    rw [Int32.lt_iff_toInt_lt, hn, c4] at ha
    rw [pk_ushrN (by omega) 2 2 (by decide)]
    have c2 : Int32.toInt (-2) = -2 := by decide
    have s1 : (y1 + (-2)).toInt = c - 2 := by rw [i_add (by omega) (by omega), hy, c2]; omega
    have hb := bl_div (n := n) (k := 2) (by omega)
    rw [v0_k73 (c := c - 2) (by omega) (by omega) s1 (by omega) (by omega)]
    omega
theorem v0_k48 {n : Nat} {y1 : Int32} {c : Int} (h0 : 0 < n) (h : n < 256) (hy : y1.toInt = c) (hc : 6 ≤ c) (hc2 : c ≤ 31) : (fJ6_numberOfLeadingZeros_0f7a4_k48 (nI n) y1).toInt = c + 1 - bl n := by
  unfold fJ6_numberOfLeadingZeros_0f7a4_k48
  have c4 : Int32.toInt 16 = 16 := by decide
  have hn : (nI n).toInt = n := nI_toInt (by omega)
  by_cases ha : nI n < 16
  · rw [if_pos ha]
    rw [Int32.lt_iff_toInt_lt, hn, c4] at ha
    exact v0_k61 h0 (by omega) hy (by omega) hc2
  · rw [if_neg ha]
    rw [Int32.lt_iff_toInt_lt, hn, c4] at ha
    rw [pk_ushrN (by omega) 4 4 (by decide)]
    have c2 : Int32.toInt (-4) = -4 := by decide
    have s1 : (y1 + (-4)).toInt = c - 4 := by rw [i_add (by omega) (by omega), hy, c2]; omega
    have hb := bl_div (n := n) (k := 4) (by omega)
    rw [v0_k61 (c := c - 4) (by omega) (by omega) s1 (by omega) (by omega)]
    omega
theorem v0_k33 {n : Nat} {y1 : Int32} {c : Int} (h0 : 0 < n) (h : n < 65536) (hy : y1.toInt = c) (hc : 14 ≤ c) (hc2 : c ≤ 31) : (fJ6_numberOfLeadingZeros_0f7a4_k33 (nI n) y1).toInt = c + 1 - bl n := by
  unfold fJ6_numberOfLeadingZeros_0f7a4_k33
  have c4 : Int32.toInt 256 = 256 := by decide
  have hn : (nI n).toInt = n := nI_toInt (by omega)
  by_cases ha : nI n < 256
  · rw [if_pos ha]
    rw [Int32.lt_iff_toInt_lt, hn, c4] at ha
    exact v0_k48 h0 (by omega) hy (by omega) hc2
  · rw [if_neg ha]
    rw [Int32.lt_iff_toInt_lt, hn, c4] at ha
    rw [pk_ushrN (by omega) 8 8 (by decide)]
    have c2 : Int32.toInt (-8) = -8 := by decide
    have s1 : (y1 + (-8)).toInt = c - 8 := by rw [i_add (by omega) (by omega), hy, c2]; omega
    have hb := bl_div (n := n) (k := 8) (by omega)
    rw [v0_k48 (c := c - 8) (by omega) (by omega) s1 (by omega) (by omega)]
    omega
theorem uI_nI {n : Nat} (h : n < 2 ^ 32) : uI (nI n) = n := pk_tn h
theorem v0_nlz {n : Nat} (h : n < 2 ^ 32) : (fJ6_numberOfLeadingZeros_0f7a4 (nI n)).toInt = 32 - bl n := by
  unfold fJ6_numberOfLeadingZeros_0f7a4
  have hu := uI_int (nI n)
  rw [uI_nI h] at hu
  have c0 : Int32.toInt 0 = 0 := by decide
  by_cases ha : 0 < nI n
  · rw [if_pos ha]
    rw [Int32.lt_iff_toInt_lt, c0] at ha
    have hlt : n < 2 ^ 31 := by
      split at hu <;> omega
    rw [if_pos hlt] at hu
    have c4 : Int32.toInt 65536 = 65536 := by decide
    by_cases hb : nI n < 65536
    · rw [if_pos hb]
      rw [Int32.lt_iff_toInt_lt, hu, c4] at hb
      rw [v0_k33 (c := 31) (by omega) (by omega) (by decide) (by omega) (by omega)]
      omega
    · rw [if_neg hb]
      rw [Int32.lt_iff_toInt_lt, hu, c4] at hb
      rw [pk_ushrN h 16 16 (by decide)]
      have hbb := bl_div (n := n) (k := 16) (by omega)
      rw [v0_k33 (c := 15) (by omega) (by omega) (by decide) (by omega) (by omega)]
      omega
  · rw [if_neg ha]
    rw [Int32.lt_iff_toInt_lt, c0] at ha
    by_cases hz : nI n = 0
    · rw [if_pos hz]
      have : n = 0 := by
        have h2 := congrArg uI hz
        rw [uI_nI h] at h2
        exact h2
      subst this
      decide
    · rw [if_neg hz]
      have hge : 2 ^ 31 ≤ n := by
        rcases Nat.lt_or_ge n (2 ^ 31) with q | q
        · rw [if_pos q] at hu
          exfalso
          have hn0 : n = 0 := by omega
          exact hz (by rw [hn0]; rfl)
        · exact q
      have : bl n = 32 := bl_eq hge (by omega)
      rw [this]
      decide
theorem v0_bitLength {x : Int64} {n : Nat} (hx : x.toInt = n) : (fX0_bitLength x).toInt = bl n := by
  have hlt := Int64.toInt_lt x
  have hn : n < 2 ^ 63 := by omega
  rw [l_eq_lN hx]
  have hbl : bl n ≤ 63 := bl_le_of hn
  have hm : (fJ13_numberOfLeadingZeros_95d88 (lN n)).toInt = 64 - bl n := by
    unfold fJ13_numberOfLeadingZeros_95d88 fJ13_numberOfLeadingZeros_95d88_k6
    have e1 : ((Int64.toUInt64 (lN n) >>> ((Int32.toInt64 (32 : Int32)).toUInt64 &&& Int64.toUInt64 63)).toInt64) = lN (n / 2 ^ 32) := wb_shr (k := 32) (by omega) (by decide)
    rw [e1, lN_i, lN_i]
    have hh : (nI (n / 2 ^ 32)).toInt = ((n / 2 ^ 32 : Nat) : Int) := nI_toInt (by omega)
    by_cases hz : nI (n / 2 ^ 32) = 0
    · rw [if_pos hz]
      rw [hz] at hh
      have hz0 : n / 2 ^ 32 = 0 := by
        have : Int32.toInt 0 = 0 := by decide
        omega
      have hz2 : n < 2 ^ 32 := by omega
      have h32 : Int32.toInt 32 = 32 := by decide
      have hb2 : bl n ≤ 32 := bl_le_of hz2
      have hv := v0_nlz hz2
      rw [i_add (by omega) (by omega), hv, h32]
      omega
    · rw [if_neg hz]
      have hpos : n / 2 ^ 32 ≠ 0 := fun w => hz (by rw [w]; rfl)
      have hb := bl_div (n := n) (k := 32) (by omega)
      rw [v0_nlz (by omega)]
      omega
  unfold fX0_bitLength
  have h64 : Int32.toInt 64 = 64 := by decide
  rw [i_sub (by omega) (by omega), hm, h64]
  omega
theorem v0_shr {x : Int64} {n : Nat} (hx : x.toInt = n) {y : Int32} {k : Nat} (hy : y.toInt = k) : (fX0_shiftedRight x y).toInt = ((n / 2 ^ k : Nat) : Int) := by
  have hlt := Int64.toInt_lt x
  unfold fX0_shiftedRight
  have c : Int32.toInt 63 = 63 := by decide
  by_cases h : y ≤ 63
  · rw [if_pos h]
    rw [Int32.le_iff_toInt_le, hy, c] at h
    rw [l_shr hy (by omega), hx]
    norm_cast
  · rw [if_neg h]
    rw [Int32.le_iff_toInt_le, hy, c] at h
    have : 2 ^ 63 ≤ 2 ^ k := Nat.pow_le_pow_right (by decide) (by omega)
    rw [Nat.div_eq_of_lt (by omega)]
    rfl
theorem msk_c : ∀ k, k < 64 → 0 < k → (((1 : Int64) <<< ((nI k).toInt64 &&& 63)) - 1).toInt = 2 ^ k - 1 := by decide +kernel
theorem v0_isMultiple {x : Int64} {n : Nat} (hx : x.toInt = n) {y : Int32} {d : Int} (hy : y.toInt = d) : fX0_isMultiple x y = if inx n d = true then 0 else 1 := by
  have hlt := Int64.toInt_lt x
  unfold fX0_isMultiple inx
  have c : Int32.toInt 63 = 63 := by decide
  have c0 : Int32.toInt 0 = 0 := by decide
  have e0 : Int64.toInt 0 = 0 := by decide
  by_cases h0 : 0 < y
  · rw [if_pos h0]
    rw [Int32.lt_iff_toInt_lt, c0, hy] at h0
    obtain ⟨k, rfl⟩ : ∃ k : Nat, d = k := ⟨d.toNat, by omega⟩
    rw [Int.toNat_natCast, decide_eq_true h0, Bool.true_and]
    by_cases h : y ≤ 63
    · rw [if_pos h]
      rw [Int32.le_iff_toInt_le, hy, c] at h
      have hm : (x &&& ((((1 : Int64) <<< (Int32.toInt64 y &&& 63))) - (1 : Int64))).toInt = ((n % 2 ^ k : Nat) : Int) := by
        rw [l_and_lo x _ k (by omega) (by rw [i_eq_nI hy]; exact msk_c k (by omega) (by omega)), hx]
        norm_cast
      have hz : (lg_cmp (x &&& ((((1 : Int64) <<< (Int32.toInt64 y &&& 63))) - (1 : Int64))) 0 = 0) ↔ n % 2 ^ k = 0 := by
        rw [lg_cmp_eq, ← Int64.toInt_inj, hm, e0]
        omega
      simp only [hz]
      by_cases hq : n % 2 ^ k = 0 <;> simp [hq]
    · rw [if_neg h]
      rw [Int32.le_iff_toInt_le, hy, c] at h
      have : 2 ^ 63 ≤ 2 ^ k := Nat.pow_le_pow_right (by decide) (by omega)
      have hz : (lg_cmp x 0 = 0) ↔ n % 2 ^ k = 0 := by
        rw [lg_cmp_eq, ← Int64.toInt_inj, hx, e0, Nat.mod_eq_of_lt (by omega)]
        omega
      simp only [hz]
      by_cases hq : n % 2 ^ k = 0 <;> simp [hq]
  · rw [if_neg h0]
    rw [Int32.lt_iff_toInt_lt, c0, hy] at h0
    rw [decide_eq_false h0]
    rfl
theorem v0_bit {x : Int64} {n : Nat} (hx : x.toInt = n) {y : Int32} {k : Nat} (hy : y.toInt = k) : (lg_cmp (fX0_shiftedRight x y &&& 1) 0 = 0) ↔ n / 2 ^ k % 2 = 0 := by
  rw [lg_cmp_eq, ← Int64.toInt_inj, l_and_lo _ _ 1 (by decide) (by decide), v0_shr hx hy, show Int64.toInt 0 = 0 from rfl]
  omega
theorem v0_away (mo x1 : Int32) {neg : Bool} (hneg : (x1 = 0) ↔ neg = false) : fX0_isAwayFromZero mo x1 = if away mo neg = true then 1 else 0 := by
  unfold fX0_isAwayFromZero away
  cases neg
  · rw [if_pos (hneg.mpr rfl)]
    by_cases h : mo = 2 <;> simp [h]
  · rw [if_neg (fun w => by have := hneg.mp w; exact absurd this (by decide))]
    by_cases h : mo = 3 <;> simp [h]
set_option maxHeartbeats 4000000 in
theorem v0_isStepDue (mo x1 : Int32) {neg : Bool} (hneg : (x1 = 0) ↔ neg = false) {x : Int64} {n : Nat} (hx : x.toInt = n) {y : Int32} {d : Nat} (hy : y.toInt = d) (hd : 0 < d) : fX0_isStepDue mo x1 x y = if stp mo neg n d = true then 1 else 0 := by
  have hlt := Int32.toInt_lt y
  have c1 : Int32.toInt 1 = 1 := by decide
  have hy1 : (y - 1).toInt = ((d - 1 : Nat) : Int) := by rw [i_sub (by omega) (by omega), hy, c1]; omega
  unfold fX0_isStepDue fX0_isStepDue_k44 fX0_isStepDue_k67 fX0_isStepDue_k87
  rw [v0_isMultiple hx hy, v0_isMultiple hx hy1, v0_away mo x1 hneg]
  simp only [v0_bit hx hy, v0_bit hx hy1]
  have e10 : ¬ ((1 : Int32) = 0) := by decide
  have hi : inx n (d : Int) = !decide (n % 2 ^ d = 0) := by
    unfold inx
    rw [Int.toNat_natCast, decide_eq_true (show (0 : Int) < d by omega), Bool.true_and]
  rw [hi]
  unfold stp
  by_cases hz : n % 2 ^ d = 0
  · simp [hz, e10]
  · simp only [hz, decide_false, Bool.not_false, if_true, if_false]
    by_cases m0 : mo = 0
    · simp only [m0, if_true]
      have h1 : n / 2 ^ (d - 1) % 2 = 0 ∨ n / 2 ^ (d - 1) % 2 = 1 := by omega
      have h2 : n / 2 ^ d % 2 = 0 ∨ n / 2 ^ d % 2 = 1 := by omega
      have hi2 : inx n ((d - 1 : Nat) : Int) = true → ¬ n % 2 ^ (d - 1) = 0 := by
        unfold inx
        rw [Int.toNat_natCast]
        intro h
        simp at h
        exact h.2
      have hi3 : inx n ((d - 1 : Nat) : Int) = false → n % 2 ^ (d - 1) = 0 := by
        unfold inx
        rw [Int.toNat_natCast]
        intro h
        rcases Nat.eq_zero_or_pos (d - 1) with w | w
        · rw [w, Nat.pow_zero, Nat.mod_one]
        · rw [decide_eq_true (show (0 : Int) < ((d - 1 : Nat) : Int) by omega)] at h
          simp at h
          exact h
      cases hx3 : inx n ((d - 1 : Nat) : Int)
      · have := hi3 hx3
        rcases h1 with h1 | h1 <;> rcases h2 with h2 | h2 <;> simp [h1, h2, e10, this]
      · have := hi2 hx3
        rcases h1 with h1 | h1 <;> rcases h2 with h2 | h2 <;> simp [h1, h2, e10, this]
    · simp only [m0, if_false]
      unfold away
      cases neg <;> rfl
theorem v0_multiple (mo x1 : Int32) {neg : Bool} (hneg : (x1 = 0) ↔ neg = false) {x : Int64} {n : Nat} (hx : x.toInt = n) (hn : n < 2 ^ 62) {y : Int32} {d : Int} (hy : y.toInt = d) (hd : -63 ≤ d) (hsm : d ≤ 0 → n * 2 ^ (-d).toNat < 2 ^ 62) : (fX0_multiple mo x1 x y).toInt = ((rq mo neg n d : Nat) : Int) := by
  unfold fX0_multiple
  have c0 : Int32.toInt 0 = 0 := by decide
  by_cases h : 0 < y
  · rw [if_pos h]
    rw [Int32.lt_iff_toInt_lt, c0, hy] at h
    obtain ⟨k, rfl⟩ : ∃ k : Nat, d = k := ⟨d.toNat, by omega⟩
    unfold fX0_multiple_k19
    rw [v0_isStepDue mo x1 hneg hx hy (by omega), rq_pos _ _ _ (by omega)]
    have hs := v0_shr hx hy
    have hle : n / 2 ^ k ≤ n := Nat.div_le_self _ _
    have e1 : Int64.toInt 1 = 1 := by decide
    have e10 : ¬ ((1 : Int32) = 0) := by decide
    generalize n / 2 ^ k = w at hs hle ⊢
    cases stp mo neg n k
    · simp only [Bool.false_eq_true, if_false, if_true]
      rw [hs]
      rfl
    · simp only [if_true, e10, if_false]
      rw [l_add (by omega) (by omega), hs, e1]
      rfl
  · rw [if_neg h]
    rw [Int32.lt_iff_toInt_lt, c0, hy] at h
    have hsm' := hsm (by omega)
    have hny : (-y).toInt = (((-d).toNat : Nat) : Int) := by rw [i_neg (by omega), hy]; omega
    rw [rq_neg _ _ _ (by omega)]
    have e : (n : Int) * 2 ^ (-d).toNat = ((n * 2 ^ (-d).toNat : Nat) : Int) := by
      rw [Int.natCast_mul]
      congr 1
    rw [l_shl hny (by omega)]
    · rw [hx, e]
    · rw [hx, e]; omega
    · rw [hx, e]; omega
theorem sgn0 (neg : Bool) : (sgn neg = 0) ↔ neg = false := by cases neg <;> decide
theorem v0_over (mo fl : Int32) (neg : Bool) : fX0_overflowed mo fl (sgn neg) = (sgn neg ||| (if mo = 0 ∨ away mo neg = true then 2139095040 else 2139095039), fl ||| 5) := by
  unfold fX0_overflowed fX0_overflowed_k5 fX0_overflowed_k25 fX0_raise
  rw [v0_away mo (sgn neg) (sgn0 neg)]
  have e10 : ¬ ((1 : Int32) = 0) := by decide
  by_cases m0 : mo = 0
  · simp [m0, e10]
  · cases away mo neg <;> simp [m0, e10]
set_option maxHeartbeats 4000000 in
theorem v0_rounded (mo fl : Int32) (neg : Bool) {x : Int64} {n : Nat} (hx : x.toInt = n) (h0 : n ≠ 0) (hn : n < 2 ^ 62) {y : Int32} {e : Int} (hy : y.toInt = e) (he1 : -1500 ≤ e) (he2 : e ≤ 1500) : fX0_rounded mo fl (sgn neg) x y = RND mo fl neg n e := by
  have hb := v0_bitLength hx
  have hbl : bl n ≤ 62 := bl_le_of hn
  have hb1 := bl_pos1 h0
  have hbn := bl_lt n
  unfold fX0_rounded
  have hz : ¬ (lg_cmp x 0 = 0) := by
    rw [lg_cmp_eq, ← Int64.toInt_inj, hx, show Int64.toInt 0 = 0 from rfl]
    omega
  rw [if_neg hz]
  have c24 : Int32.toInt 24 = 24 := by decide
  have s0 : (y + fX0_bitLength x).toInt = e + bl n := by rw [i_add (by omega) (by omega), hy, hb]
  have s1 : ((y + fX0_bitLength x) - 24).toInt = fre n e := by
    unfold fre
    rw [i_sub (by omega) (by omega), s0, c24]
  generalize ((y + fX0_bitLength x) - 24) = y5 at s1 ⊢
  have hfre : fre n e = e + bl n - 24 := rfl
  unfold fX0_rounded_k20
  have c149 : Int32.toInt (-149) = -149 := by decide
  have s2 : (if y5 < (-149 : Int32) then (-149 : Int32) else y5).toInt = hel n e := by
    unfold hel
    by_cases h : y5 < -149
    · rw [if_pos h]
      rw [Int32.lt_iff_toInt_lt, s1, c149] at h
      rw [if_pos h, c149]
    · rw [if_neg h]
      rw [Int32.lt_iff_toInt_lt, s1, c149] at h
      rw [if_neg h, s1]
  generalize (if y5 < (-149 : Int32) then (-149 : Int32) else y5) = y6 at s2 ⊢
  have hhel1 : fre n e ≤ hel n e := by unfold hel; split <;> omega
  have hhel2 : -149 ≤ hel n e := by unfold hel; split <;> omega
  have hhel3 : hel n e ≤ 1600 := by unfold hel; split <;> omega
  have s3 : (y6 - y).toInt = hel n e - e := by rw [i_sub (by omega) (by omega), s2, hy]
  have s4 : (y5 - y).toInt = fre n e - e := by rw [i_sub (by omega) (by omega), s1, hy]
  have hsm : ∀ d : Int, (bl n : Int) - 24 ≤ d → d ≤ 0 → n * 2 ^ (-d).toNat < 2 ^ 62 := by
    intro d h1 h2
    calc n * 2 ^ (-d).toNat < 2 ^ bl n * 2 ^ (-d).toNat := Nat.mul_lt_mul_of_pos_right hbn (Nat.pow_pos (by decide))
      _ = 2 ^ (bl n + (-d).toNat) := (Nat.pow_add 2 _ _).symm
      _ ≤ 2 ^ 62 := Nat.pow_le_pow_right (by decide) (by omega)
  have hmu : (fX0_multiple mo (sgn neg) x (y6 - y)).toInt = ((rq mo neg n (hel n e - e) : Nat) : Int) := v0_multiple mo _ (sgn0 neg) hx hn s3 (by omega) (hsm _ (by omega))
  have hmf : (fX0_multiple mo (sgn neg) x (y5 - y)).toInt = ((rq mo neg n (fre n e - e) : Nat) : Int) := v0_multiple mo _ (sgn0 neg) hx hn s4 (by omega) (hsm _ (by omega))
  have hqle : rq mo neg n (hel n e - e) ≤ 2 ^ 24 := rq_le mo neg (by omega)
  -- the tail
  have htail : ∀ f : Int32, fX0_rounded_k71 (sgn neg) x y y6 mo f = (if (hel n e + 149) * 2 ^ 23 + ((rq mo neg n (hel n e - e) : Nat) : Int) < 2139095040 then (sgn neg ||| Int32.ofInt ((hel n e + 149) * 2 ^ 23 + ((rq mo neg n (hel n e - e) : Nat) : Int)), f) else (sgn neg ||| (if mo = 0 ∨ away mo neg = true then 2139095040 else 2139095039), f ||| 5)) := by
    intro f
    unfold fX0_rounded_k71 fX0_rounded_k80 fX0_rounded_k99 fX0_rounded_k121
    have t1 : (y6 - (-149)).toInt = hel n e + 149 := by rw [i_sub (by omega) (by omega), s2, c149]; omega
    have t2 : ((Int32.toInt64 (y6 - (-149 : Int32))) <<< (Int32.toInt64 (23 : Int32) &&& 63)).toInt = (hel n e + 149) * 2 ^ 23 := by
      rw [l_shl (k := 23) (by decide) (by decide)] <;> rw [Int32.toInt_toInt64, t1] <;> omega
    have t3 : (((Int32.toInt64 (y6 - (-149 : Int32))) <<< (Int32.toInt64 (23 : Int32) &&& 63)) + fX0_multiple mo (sgn neg) x (y6 - y)).toInt = (hel n e + 149) * 2 ^ 23 + ((rq mo neg n (hel n e - e) : Nat) : Int) := by
      rw [l_add] <;> rw [t2, hmu] <;> omega
    generalize (((Int32.toInt64 (y6 - (-149 : Int32))) <<< (Int32.toInt64 (23 : Int32) &&& 63)) + fX0_multiple mo (sgn neg) x (y6 - y)) = y9 at t3 ⊢
    have hc : (0 ≤ lg_cmp y9 2139095040) ↔ ¬ ((hel n e + 149) * 2 ^ 23 + ((rq mo neg n (hel n e - e) : Nat) : Int) < 2139095040) := by
      rw [lg_cmp_ge, Int64.le_iff_toInt_le, t3, show Int64.toInt 2139095040 = 2139095040 from rfl]
      omega
    by_cases hp : (hel n e + 149) * 2 ^ 23 + ((rq mo neg n (hel n e - e) : Nat) : Int) < 2139095040
    · rw [if_neg (fun w => hc.mp w hp), if_pos hp, ← t3, Int32.ofInt_int64ToInt]
    · rw [if_pos (hc.mpr hp), if_neg hp, v0_over]
  unfold fX0_rounded_k30 fX0_rounded_k47
  rw [v0_isMultiple hx s3, htail, htail, htail]
  have htiny : fX0_isTiny (fX0_multiple mo (sgn neg) x (y5 - y)) y5 = if decide (fre n e + bl (rq mo neg n (fre n e - e)) < -125) = true then 1 else 0 := by
    unfold fX0_isTiny
    have u1 := v0_bitLength hmf
    have u2 : bl (rq mo neg n (fre n e - e)) ≤ 63 := by
      have := rq_le mo neg (N := n) (d := fre n e - e) (by omega)
      exact bl_le_of (by omega)
    have u3 : (y5 + fX0_bitLength (fX0_multiple mo (sgn neg) x (y5 - y))).toInt = fre n e + bl (rq mo neg n (fre n e - e)) := by
      rw [i_add (by omega) (by omega), s1, u1]
    have u4 : ((-125 : Int32) ≤ (y5 + fX0_bitLength (fX0_multiple mo (sgn neg) x (y5 - y)))) ↔ ¬ (fre n e + bl (rq mo neg n (fre n e - e)) < -125) := by
      rw [Int32.le_iff_toInt_le, u3, show Int32.toInt (-125) = -125 from rfl]
      omega
    by_cases hp : fre n e + bl (rq mo neg n (fre n e - e)) < -125
    · rw [if_neg (fun w => u4.mp w hp), decide_eq_true hp]
      rfl
    · rw [if_pos (u4.mpr hp), decide_eq_false hp]
      rfl
  rw [htiny]
  unfold RND COMP flx fX0_raise
  have e10 : ¬ ((1 : Int32) = 0) := by decide
  cases inx n (hel n e - e) <;> cases decide (fre n e + bl (rq mo neg n (fre n e - e)) < -125) <;> simp [e10]
