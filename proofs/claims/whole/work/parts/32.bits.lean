/-! bit, top, below, rounded of the reference, over the digits of V -/
theorem v1_bit {row : Nat → Int64} {V : Nat} (hR : RP row V) {x : Int32} {i : Nat} (hx : x.toInt = i) (hi : i < 600) : (fX1_bit row x).toInt = ((V / 2 ^ i % 2 : Nat) : Int) := by
  unfold fX1_bit
  have h0 : ¬ x < 0 := by
    rw [Int32.lt_iff_toInt_lt, hx, show Int32.toInt 0 = 0 from rfl]
    omega
  have h1 : x < 600 := by
    rw [Int32.lt_iff_toInt_lt, hx, show Int32.toInt 600 = 600 from rfl]
    omega
  rw [if_neg h0, if_pos h1, i_clamp (i_div24 hx)]
  have h2 := hR (i / 24) (by omega)
  have h3 : ((row (i / 24)) >>> (Int32.toInt64 (x - x / (24 : Int32) * (24 : Int32)) &&& 63)).toInt = ((V / 2 ^ (24 * (i / 24)) % 2 ^ 24 / 2 ^ (i % 24) : Nat) : Int) := by
    rw [l_shr (i_rem24 hx) (by omega), h2]
    norm_cast
  have h4 : V / 2 ^ (24 * (i / 24)) % 2 ^ 24 / 2 ^ (i % 24) < 2 ^ 24 := Nat.lt_of_le_of_lt (Nat.div_le_self _ _) (Nat.mod_lt _ (by decide))
  generalize hg : V / 2 ^ (24 * (i / 24)) % 2 ^ 24 / 2 ^ (i % 24) = g at h3 h4
  have h5 : (Int64.toInt32 ((row (i / 24)) >>> (Int32.toInt64 (x - x / (24 : Int32) * (24 : Int32)) &&& 63))).toInt = (g : Int) := by
    rw [Int64.toInt_toInt32, h3]
    exact Int.bmod_eq_of_le (by omega) (by omega)
  have h6 : uI (Int64.toInt32 ((row (i / 24)) >>> (Int32.toInt64 (x - x / (24 : Int32) * (24 : Int32)) &&& 63))) = g := by
    have := uI_int (Int64.toInt32 ((row (i / 24)) >>> (Int32.toInt64 (x - x / (24 : Int32) * (24 : Int32)) &&& 63)))
    have h7 := uI_lt (Int64.toInt32 ((row (i / 24)) >>> (Int32.toInt64 (x - x / (24 : Int32) * (24 : Int32)) &&& 63)))
    rw [h5] at this
    split at this <;> omega
  rw [i_and_lo _ _ 1 (by decide) (by decide), h6, ← hg]
  congr 1
  have e1 : 2 ^ 24 = 2 ^ (i % 24) * (2 * 2 ^ (23 - i % 24)) := by
    rw [Nat.mul_comm 2, ← Nat.pow_succ, ← Nat.pow_add]
    congr 1
    omega
  have e2 : V / 2 ^ i = V / 2 ^ (24 * (i / 24)) / 2 ^ (i % 24) := by
    rw [Nat.div_div_eq_div_mul, ← Nat.pow_add]
    congr 2
    omega
  rw [e2, e1]
  generalize V / 2 ^ (24 * (i / 24)) = w
  rw [Nat.mod_mul_right_div_self, Nat.pow_one, Nat.mod_mul_right_mod]
theorem v1_bit_neg {row : Nat → Int64} {x : Int32} (hx : x.toInt < 0) : fX1_bit row x = 0 := by
  unfold fX1_bit
  rw [if_pos]
  rw [Int32.lt_iff_toInt_lt, show Int32.toInt 0 = 0 from rfl]
  exact hx
theorem v1_bit_big {row : Nat → Int64} {x : Int32} (hx : 600 ≤ x.toInt) : fX1_bit row x = 0 := by
  unfold fX1_bit
  rw [if_neg, if_neg]
  · rw [Int32.lt_iff_toInt_lt, show Int32.toInt 600 = 600 from rfl]
    omega
  · rw [Int32.lt_iff_toInt_lt, show Int32.toInt 0 = 0 from rfl]
    omega
/-- any place at all: the bit of V, below 0 none -/
theorem v1_bitZ {row : Nat → Int64} {V : Nat} (hR : RP row V) (hV : V < 2 ^ 600) (x : Int32) : (fX1_bit row x).toInt = if x.toInt < 0 then 0 else ((V / 2 ^ x.toInt.toNat % 2 : Nat) : Int) := by
  split
  · rw [v1_bit_neg (by assumption)]
    rfl
  · rename_i h
    rcases Int.lt_or_le x.toInt 600 with q | q
    · exact v1_bit hR (by omega) (by omega)
    · rw [v1_bit_big q, Nat.div_eq_of_lt (Nat.lt_of_lt_of_le hV (Nat.pow_le_pow_right (by decide) (by omega)))]
      rfl
theorem v1_top_loop (n : Nat) : ∀ (y1 : Int32) (row : Nat → Int64) (V : Nat), RP row V → 0 < V → dsc 600 y1 n → (V : Int) < 2 ^ (y1.toInt + 1).toNat → (fX1_top_k4 n y1 row).toInt = (V.log2 : Int) := by
  induction n with
  | zero => intro y1 row V _ _ h; exact absurd h dsc_0
  | succ n ih =>
    intro y1 row V hR h0 h hlt
    rw [fX1_top_k4_s]
    have hlt' : V < 2 ^ (y1.toInt + 1).toNat := by exact_mod_cast hlt
    have hy0 : 0 ≤ y1.toInt := by
      rcases Int.lt_or_le y1.toInt 0 with q | q
      · have := h.1
        have : (y1.toInt + 1).toNat = 0 := by omega
        rw [this] at hlt'
        omega
      · exact q
    obtain ⟨i, hi⟩ : ∃ i : Nat, y1.toInt = i := ⟨y1.toInt.toNat, by omega⟩
    have hi1 : (y1.toInt + 1).toNat = i + 1 := by omega
    rw [hi1] at hlt'
    have hn : ¬ y1 < 0 := by
      rw [Int32.lt_iff_toInt_lt, hi, show Int32.toInt 0 = 0 from rfl]
      omega
    rw [if_neg hn]
    have hb := v1_bit hR hi (by have := h.2.1; omega)
    have hd : V / 2 ^ i < 2 := by
      rw [Nat.div_lt_iff_lt_mul (Nat.pow_pos (by decide)), Nat.mul_comm, ← Nat.pow_succ]
      exact hlt'
    have hbe : (fX1_bit row y1 = 1) ↔ 2 ^ i ≤ V := by
      rw [i_eq_iff, hb, show Int32.toInt 1 = 1 from rfl, Nat.mod_eq_of_lt hd]
      constructor
      · intro h5
        have h6 : V / 2 ^ i = 1 := by exact_mod_cast h5
        have := Nat.div_mul_le_self V (2 ^ i)
        rw [h6] at this
        omega
      · intro h5
        have : 0 < V / 2 ^ i := Nat.div_pos h5 (Nat.pow_pos (by decide))
        have : V / 2 ^ i = 1 := by omega
        rw [this]
        rfl
    by_cases hc : 2 ^ i ≤ V
    · rw [if_pos (hbe.mpr hc), hi]
      congr 1
      have h1 : i ≤ V.log2 := (Nat.le_log2 (by omega)).mpr hc
      have h2 : V.log2 < i + 1 := (Nat.log2_lt (by omega)).mpr hlt'
      omega
    · rw [if_neg (fun q => hc (hbe.mp q))]
      have hs : (y1 + (-1)).toInt = y1.toInt - 1 := i32_sub1 (by omega)
      refine ih (y1 + (-1)) row V hR h0 (dsc_step h hy0) ?_
      rw [hs, hi]
      have : ((i : Int) - 1 + 1).toNat = i := by omega
      rw [this]
      exact_mod_cast (by omega : V < 2 ^ i)
theorem v1_top {row : Nat → Int64} {V : Nat} (hR : RP row V) (hV : V < 2 ^ 600) (h0 : 0 < V) : (fX1_top row).toInt = (V.log2 : Int) :=
  v1_top_loop 601 599 row V hR h0 ⟨by decide, by decide, by decide⟩ (by
    have : ((Int32.toInt 599) + 1).toNat = 600 := by decide
    rw [this]
    exact_mod_cast hV)
theorem v1_top0_loop (n : Nat) : ∀ (y1 : Int32) (row : Nat → Int64), RP row 0 → dsc 600 y1 n → fX1_top_k4 n y1 row = -1 := by
  induction n with
  | zero => intro y1 row _ h; exact absurd h dsc_0
  | succ n ih =>
    intro y1 row hR h
    rw [fX1_top_k4_s]
    by_cases hn : y1 < 0
    · rw [if_pos hn]
    · rw [if_neg hn]
      have hy0 := i32_nlt0 hn
      obtain ⟨i, hi⟩ : ∃ i : Nat, y1.toInt = i := ⟨y1.toInt.toNat, by omega⟩
      have hb := v1_bit hR hi (by have := h.2.1; omega)
      rw [if_neg, ih (y1 + (-1)) row hR (dsc_step h hy0)]
      rw [i_eq_iff, hb, Nat.zero_div]
      decide
theorem v1_top0 {row : Nat → Int64} (hR : RP row 0) : fX1_top row = -1 := v1_top0_loop 601 599 row hR ⟨by decide, by decide, by decide⟩
theorem mod_pow_succ' (V j : Nat) : V % 2 ^ (j + 1) = V % 2 ^ j + 2 ^ j * (V / 2 ^ j % 2) := by
  rw [Nat.pow_succ, Nat.mod_mul]
theorem v1_below_loop (n : Nat) : ∀ (y1 y2 : Int32) (row : Nat → Int64) (mr : Int32) (V j : Nat), RP row V → V < 2 ^ 600 → asc 600 y2 n → y2.toInt = j → V % 2 ^ j = 0 → (y1.toInt < j → V % 2 ^ y1.toInt.toNat = 0) → fX1_below_k2 n y1 y2 row mr = if V % 2 ^ y1.toInt.toNat = 0 then mr else 1 := by
  induction n with
  | zero => intro y1 y2 row mr V j _ _ h; exact absurd h asc_0
  | succ n ih =>
    intro y1 y2 row mr V j hR hV h hj hz hz2
    rw [fX1_below_k2_s]
    by_cases hc : y1 ≤ y2
    · rw [if_pos hc]
      rw [Int32.le_iff_toInt_le, hj] at hc
      rw [if_pos]
      rcases Int.lt_or_le y1.toInt j with q | q
      · exact hz2 q
      · have : y1.toInt.toNat = j := by omega
        rw [this]
        exact hz
    · rw [if_neg hc]
      rw [Int32.le_iff_toInt_le, hj] at hc
      by_cases h6 : (600 : Int32) ≤ y2
      · rw [if_pos h6]
        have hj6 : j = 600 := by
          have := h.2.1
          rw [Int32.le_iff_toInt_le, show Int32.toInt 600 = 600 from rfl] at h6
          omega
        subst hj6
        rw [Nat.mod_eq_of_lt hV] at hz
        subst hz
        rw [Nat.zero_mod, if_pos rfl]
      · rw [if_neg h6]
        have hjlt := asc_lt h (by decide) h6
        have hst := asc_step h (by decide) (by decide) h6
        have hj1 : (y2 + 1).toInt = ((j + 1 : Nat) : Int) := by
          rw [i32_add1 (by omega), hj]
          omega
        have hb := v1_bit hR hj (by omega)
        have hs := mod_pow_succ' V j
        by_cases hbit : V / 2 ^ j % 2 = 1
        · have : fX1_bit row y2 = 1 := by
            rw [i_eq_iff, hb, hbit]
            rfl
          rw [if_pos this, if_neg]
          intro hy
          have h7 : V % 2 ^ y1.toInt.toNat % 2 ^ (j + 1) = V % 2 ^ (j + 1) := Nat.mod_mod_of_dvd _ (Nat.pow_dvd_pow 2 (by omega))
          rw [hy, hs, hz, hbit, Nat.zero_mod] at h7
          have := Nat.pow_pos (n := j) (show 0 < 2 by decide)
          omega
        · have h0 : V / 2 ^ j % 2 = 0 := by omega
          have : ¬ fX1_bit row y2 = 1 := by
            rw [i_eq_iff, hb, h0]
            decide
          rw [if_neg this]
          refine ih y1 (y2 + 1) row mr V (j + 1) hR hV hst hj1 ?_ ?_
          · rw [hs, hz, h0]
            simp
          · intro hlt
            exact absurd hlt (by omega)
theorem v1_below {row : Nat → Int64} {V : Nat} (hR : RP row V) (hV : V < 2 ^ 600) (mr x : Int32) : fX1_below row mr x = if V % 2 ^ x.toInt.toNat = 0 then mr else 1 :=
  v1_below_loop 601 x 0 row mr V 0 hR hV (asc_init 600) rfl (Nat.mod_one V) (fun h => by
    have : x.toInt.toNat = 0 := by
      have : x.toInt < 0 := h
      omega
    rw [this]
    exact Nat.mod_one V)
/-- the 24 bits from cut on: V scaled -/
def qb (V : Nat) (cut : Int) : Nat := if cut < 0 then V * 2 ^ (-cut).toNat else V / 2 ^ cut.toNat
theorem qb_bit (V : Nat) (cut : Int) (j : Nat) (hj : cut + j < 0 → qb V cut / 2 ^ j % 2 = 0) : (if cut + j < 0 then 0 else V / 2 ^ (cut + j).toNat % 2) = qb V cut / 2 ^ j % 2 := by
  split
  · rename_i h
    exact (hj h).symm
  · rename_i h
    unfold qb
    split
    · have e1 : V * 2 ^ (-cut).toNat / 2 ^ j = V / 2 ^ (cut + j).toNat := by
        have e2 : 2 ^ j = 2 ^ (cut + j).toNat * 2 ^ (-cut).toNat := by
          rw [← Nat.pow_add]
          congr 1
          omega
        rw [e2, Nat.mul_div_mul_right _ _ (Nat.pow_pos (by decide))]
      rw [e1]
    · rw [Nat.div_div_eq_div_mul, ← Nat.pow_add]
      congr 3
      omega
theorem qb_low (V : Nat) (cut : Int) (j : Nat) (h : cut + j < 0) : qb V cut / 2 ^ j % 2 = 0 := by
  unfold qb
  rw [if_pos (by omega)]
  have e2 : 2 ^ (-cut).toNat = 2 ^ j * (2 * 2 ^ ((-cut).toNat - j - 1)) := by
    rw [Nat.mul_comm 2, ← Nat.pow_succ, ← Nat.pow_add]
    congr 1
    omega
  rw [e2, Nat.mul_left_comm, Nat.mul_div_cancel_left _ (Nat.pow_pos (by decide)), Nat.mul_left_comm, Nat.mul_mod_right]
theorem or_bit {x y : Int32} {a j : Nat} (hx : x.toInt = a) (ha : a < 2 ^ j) (hj : j < 24) {c : Nat} (hc : c < 2) (hy : y.toInt = ((2 ^ j * c : Nat) : Int)) : (x ||| y).toInt = ((a + 2 ^ j * c : Nat) : Int) := by
  have hp : 2 ^ j ≤ 2 ^ 23 := Nat.pow_le_pow_right (by decide) (by omega)
  have hle : 2 ^ j * c ≤ 2 ^ 23 := by
    have : c = 0 ∨ c = 1 := by omega
    rcases this with rfl | rfl <;> omega
  rw [i_eq_nI hx, i_eq_nI hy]
  have e : nI a ||| nI (2 ^ j * c) = nI (a + 2 ^ j * c) := by
    apply Int32.toBitVec_inj.mp
    apply BitVec.eq_of_toNat_eq
    rw [Int32.toBitVec_or, BitVec.toNat_or]
    show (nI a).toBitVec.toNat ||| (nI (2 ^ j * c)).toBitVec.toNat = (nI (a + 2 ^ j * c)).toBitVec.toNat
    rw [pk_tn (by omega), pk_tn (by omega), pk_tn (by omega), Nat.or_comm, Nat.add_comm, Nat.two_pow_add_eq_or_of_lt ha]
  rw [e, nI_toInt (by omega)]
/-- the loop of rounded: bits are gathered -/
theorem v1_q_loop (n : Nat) : ∀ (y1 y2 y3 y4 mo : Int32) (row : Nat → Int64) (mr ex : Int32) (V j : Nat), RP row V → V < 2 ^ 600 → -1000 ≤ y1.toInt → y1.toInt ≤ 1000 → asc 24 y4 n → y4.toInt = j → y3.toInt = ((qb V y1.toInt % 2 ^ j : Nat) : Int) →
    ∃ q : Int32, q.toInt = ((qb V y1.toInt % 2 ^ 24 : Nat) : Int) ∧ fX1_rounded_k5 n y1 y2 y3 y4 mo row mr ex = fX1_rounded_k32 y1 y2 q mo row mr ex := by
  induction n with
  | zero => intro y1 y2 y3 y4 mo row mr ex V j _ _ _ _ h; exact absurd h asc_0
  | succ n ih =>
    intro y1 y2 y3 y4 mo row mr ex V j hR hV hl hh h hj hq
    rw [fX1_rounded_k5_s]
    by_cases hc : (24 : Int32) ≤ y4
    · rw [if_pos hc]
      have hj24 : j = 24 := by
        have h1 := h.2.1
        rw [Int32.le_iff_toInt_le, show Int32.toInt 24 = 24 from rfl] at hc
        omega
      subst hj24
      exact ⟨y3, hq, rfl⟩
    · rw [if_neg hc]
      have hjlt := asc_lt h (by decide) hc
      have hst := asc_step h (by decide) (by decide) hc
      have hj1 : (y4 + 1).toInt = ((j + 1 : Nat) : Int) := by
        rw [i32_add1 (by omega), hj]
        omega
      have hs : (y1 + y4).toInt = y1.toInt + j := by rw [i_add (by omega) (by omega), hj]
      have hb : (fX1_bit row (y1 + y4)).toInt = ((qb V y1.toInt / 2 ^ j % 2 : Nat) : Int) := by
        rw [v1_bitZ hR hV, hs, ← qb_bit V y1.toInt j (fun h => qb_low V y1.toInt j h)]
        split <;> rfl
      have hc2 : qb V y1.toInt / 2 ^ j % 2 < 2 := Nat.mod_lt _ (by decide)
      have hp : 2 ^ j ≤ 2 ^ 23 := Nat.pow_le_pow_right (by decide) (by omega)
      have hsl : ((fX1_bit row (y1 + y4)) <<< (y4 &&& 31)).toInt = ((2 ^ j * (qb V y1.toInt / 2 ^ j % 2) : Nat) : Int) := by
        have hv : ((qb V y1.toInt / 2 ^ j % 2 : Nat) : Int) * 2 ^ j = ((2 ^ j * (qb V y1.toInt / 2 ^ j % 2) : Nat) : Int) := by
          rw [Nat.mul_comm, Int.natCast_mul]
          congr 1
        have hle : 2 ^ j * (qb V y1.toInt / 2 ^ j % 2) ≤ 2 ^ 23 := by
          have : qb V y1.toInt / 2 ^ j % 2 = 0 ∨ qb V y1.toInt / 2 ^ j % 2 = 1 := by omega
          rcases this with q | q <;> rw [q] <;> omega
        generalize 2 ^ j * (qb V y1.toInt / 2 ^ j % 2) = w at hv hle ⊢
        rw [i_shl hj (by omega)] <;> rw [hb, hv] <;> omega
      refine ih y1 y2 _ (y4 + 1) mo row mr ex V (j + 1) hR hV hl hh hst hj1 ?_
      rw [or_bit hq (Nat.mod_lt _ (Nat.pow_pos (by decide))) (by omega) hc2 hsl, ← mod_pow_succ']
