/-! a pattern's exponent, fraction, units and place -/
def eX (x : Int32) : Nat := uI x / 2 ^ 23 % 256
def fX (x : Int32) : Nat := uI x % 2 ^ 23
def mX (x : Int32) : Nat := if eX x = 0 then fX x else 2 ^ 23 + fX x
def pX (x : Int32) : Int := if eX x = 0 then -149 else (eX x : Int) - 150
theorem eX_lt (x : Int32) : eX x < 256 := Nat.mod_lt _ (by decide)
theorem fX_lt (x : Int32) : fX x < 2 ^ 23 := Nat.mod_lt _ (by decide)
theorem mX_lt (x : Int32) : mX x < 2 ^ 24 := by
  have := fX_lt x
  unfold mX
  split <;> omega
theorem pX_ge (x : Int32) : -149 ≤ pX x := by
  unfold pX
  split <;> omega
theorem pX_le (x : Int32) : pX x ≤ 105 := by
  have := eX_lt x
  unfold pX
  split <;> omega
theorem v1_exponent (x : Int32) : (fX1_exponent x).toInt = (eX x : Int) := by
  unfold fX1_exponent eX
  rw [i_and_lo _ _ 8 (by decide) (by decide)]
  have h1 : (x >>> ((23 : Int32) &&& 31)).toInt = x.toInt / 2 ^ 23 := i_shr (k := 23) (by decide) (by decide)
  have h2 := uI_int (x >>> ((23 : Int32) &&& 31))
  have h3 := uI_int x
  have h4 := uI_lt x
  have h5 := uI_lt (x >>> ((23 : Int32) &&& 31))
  rw [h1] at h2
  generalize uI (x >>> ((23 : Int32) &&& 31)) = u at *
  norm_cast
  split at h2 <;> split at h3 <;> omega
theorem v1_fraction (x : Int32) : (fX1_fraction x).toInt = (fX x : Int) := by
  unfold fX1_fraction fX
  rw [i_and_lo _ _ 23 (by decide) (by decide)]
theorem i_eq_iff {x y : Int32} : x = y ↔ x.toInt = y.toInt := Int32.toInt_inj.symm
theorem v1_exp0 (x : Int32) : fX1_exponent x = 0 ↔ eX x = 0 := by
  rw [i_eq_iff, v1_exponent]
  show (_ : Int) = 0 ↔ _
  omega
theorem v1_units (x : Int32) : (fX1_units x).toInt = (mX x : Int) := by
  have h1 := v1_fraction x
  have h2 := fX_lt x
  unfold fX1_units mX
  simp only [v1_exp0]
  split
  · exact h1
  · have h3 : Int32.toInt 8388608 = 8388608 := by decide
    rw [i_add (by omega) (by omega), h1, h3]
    omega
theorem v1_place (x : Int32) : (fX1_place x).toInt = pX x := by
  have h1 := v1_exponent x
  have h2 := eX_lt x
  unfold fX1_place pX
  simp only [v1_exp0]
  split
  · decide
  · have h3 : Int32.toInt 150 = 150 := by decide
    rw [i_sub (by omega) (by omega), h1, h3]
/-! put's places -/
theorem bit_lt {v : Int64} {n : Nat} {k : Int32} {j : Nat} (hk : k.toInt = j) (hj : j < 64) (h0 : 0 ≤ v.toInt) (hv : v.toInt < 2 ^ n) (hb : (v >>> (k.toInt64 &&& 63)) &&& 1 = 1) : j < n := by
  rcases Nat.lt_or_ge j n with h | h
  · exact h
  · exfalso
    have h1 := congrArg Int64.toInt hb
    rw [l_and_lo _ _ 1 (by decide) (by decide), l_shr hk hj] at h1
    have h2 : (2 : Int) ^ n ≤ 2 ^ j := by
      have := Nat.pow_le_pow_right (show 0 < 2 by decide) h
      exact_mod_cast this
    rw [Int.ediv_eq_zero_of_lt h0 (by omega)] at h1
    exact absurd h1 (by decide)
theorem putOk_of {v : Int64} {f : Int32} {n : Nat} (h0 : 0 ≤ v.toInt) (hv : v.toInt < 2 ^ n) (hf : 0 ≤ f.toInt) (hn : f.toInt + n ≤ 600) : putOk v f := by
  intro k h1 h2 hb
  obtain ⟨j, hj⟩ : ∃ j : Nat, k.toInt = j := ⟨k.toInt.toNat, by omega⟩
  have h3 := bit_lt hj (by omega) h0 hv hb
  have h4 : (f + k).toInt = f.toInt + j := by rw [i_add (by omega) (by omega), hj]
  refine in24 ?_ ?_
  · rw [Int32.lt_iff_toInt_lt, h4, show Int32.toInt 0 = 0 from rfl]
    omega
  · rw [Int32.lt_iff_toInt_lt, h4, show Int32.toInt 600 = 600 from rfl]
    omega
theorem putOk_self (v : Int64) (b : Int32) : putOk v (b - b) := by
  intro k h1 h2 _
  have h4 : (b - b + k) = k := by
    apply Int32.toInt_inj.mp
    rw [show b - b = 0 by simp]
    simp
  rw [h4]
  refine in24 ?_ ?_
  · rw [Int32.lt_iff_toInt_lt, show Int32.toInt 0 = 0 from rfl]
    omega
  · rw [Int32.lt_iff_toInt_lt, show Int32.toInt 600 = 600 from rfl]
    omega
theorem putOk_units (x : Int32) : putOk (Int32.toInt64 (fX1_units x)) (fX1_place x - (-298)) := by
  have h1 := v1_units x
  have h2 := mX_lt x
  have h3 := v1_place x
  have h4 := pX_ge x
  have h5 := pX_le x
  have h6 : Int32.toInt (-298) = -298 := by decide
  have h7 : (fX1_place x - (-298)).toInt = pX x + 298 := by
    rw [i_sub (by omega) (by omega), h3, h6]
    omega
  refine putOk_of (n := 24) ?_ ?_ ?_ ?_
  · rw [Int32.toInt_toInt64, h1]; omega
  · rw [Int32.toInt_toInt64, h1]; exact_mod_cast h2
  · omega
  · omega
theorem v1_prod (x y : Int32) : (Int32.toInt64 (fX1_units x) * Int32.toInt64 (fX1_units y)).toInt = ((mX x * mX y : Nat) : Int) ∧ mX x * mX y < 2 ^ 48 := by
  have h1 := v1_units x
  have h2 := v1_units y
  have h3 := mX_lt x
  have h4 := mX_lt y
  have h5 : mX x * mX y < 2 ^ 48 := by
    have : mX x * mX y ≤ (2 ^ 24 - 1) * (2 ^ 24 - 1) := Nat.mul_le_mul (by omega) (by omega)
    omega
  refine ⟨?_, h5⟩
  rw [l_mul, Int32.toInt_toInt64, Int32.toInt_toInt64, h1, h2]
  · norm_cast
  · rw [Int32.toInt_toInt64, Int32.toInt_toInt64, h1, h2]
    have : (0 : Int) ≤ ((mX x * mX y : Nat) : Int) := Int.natCast_nonneg _
    push_cast at this
    omega
  · rw [Int32.toInt_toInt64, Int32.toInt_toInt64, h1, h2]
    have : ((mX x * mX y : Nat) : Int) < 2 ^ 48 := by exact_mod_cast h5
    push_cast at this
    omega
theorem putOk_prod (x y : Int32) : putOk (Int32.toInt64 (fX1_units x) * Int32.toInt64 (fX1_units y)) (fX1_place x + fX1_place y - (-298)) := by
  obtain ⟨h1, h2⟩ := v1_prod x y
  have h3 := v1_place x
  have h4 := pX_ge x
  have h5 := pX_le x
  have h3' := v1_place y
  have h4' := pX_ge y
  have h5' := pX_le y
  have h6 : Int32.toInt (-298) = -298 := by decide
  have h8 : (fX1_place x + fX1_place y).toInt = pX x + pX y := by rw [i_add (by omega) (by omega), h3, h3']
  have h7 : (fX1_place x + fX1_place y - (-298)).toInt = pX x + pX y + 298 := by
    rw [i_sub (by omega) (by omega), h8, h6]
    omega
  refine putOk_of (n := 48) ?_ ?_ ?_ ?_
  · rw [h1]; omega
  · rw [h1]; exact_mod_cast h2
  · omega
  · omega
/-! empty -/
theorem v1_empty_loop (n : Nat) : ∀ (y1 y2 : Int32) (row : Nat → Int64) (ba mr : Int32), asc 25 y2 n → (fX1_empty_k2 n y1 y2 row ba mr).2 = (y1, 0) ∧ ∀ j : Nat, j < 25 → (j : Int) < y2.toInt ∨ True → (fX1_empty_k2 n y1 y2 row ba mr).1 j = if y2.toInt ≤ j then 0 else row j := by
  induction n with
  | zero => intro y1 y2 row ba mr h; exact absurd h asc_0
  | succ n ih =>
    intro y1 y2 row ba mr h
    rw [fX1_empty_k2_s]
    by_cases hc : (25 : Int32) ≤ y2
    · rw [if_pos hc]
      refine ⟨rfl, fun j hj _ => ?_⟩
      rw [Int32.le_iff_toInt_le, show Int32.toInt 25 = 25 from rfl] at hc
      rw [if_neg (by omega)]
      rfl
    · rw [if_neg hc]
      have h1 := asc_lt h (by decide) hc
      have h2 : (y2 + 1).toInt = y2.toInt + 1 := i32_add1 (by omega)
      obtain ⟨a1, a2⟩ := ih y1 (y2 + 1) (vp_updL row (Int32.toNatClampNeg y2) 0) ba mr (asc_step h (by decide) (by decide) hc)
      refine ⟨a1, fun j hj _ => ?_⟩
      rw [a2 j hj (Or.inr trivial), h2]
      have h3 : (Int32.toNatClampNeg y2 : Int) = y2.toInt := by
        show ((y2.toInt.toNat : Nat) : Int) = _
        omega
      unfold vp_updL
      by_cases h4 : y2.toInt ≤ j
      · rw [if_pos h4]
        split
        · rfl
        · rw [if_pos (by omega)]
      · rw [if_neg h4, if_neg (by omega), if_neg (by omega)]
theorem v1_empty (row : Nat → Int64) (ba mr x : Int32) : (fX1_empty row ba mr x).2 = (x, 0) ∧ ∀ j : Nat, j < 25 → (fX1_empty row ba mr x).1 j = 0 := by
  obtain ⟨h1, h2⟩ := v1_empty_loop 26 x 0 row ba mr (asc_init 25)
  refine ⟨h1, fun j hj => ?_⟩
  have := h2 j hj (Or.inr trivial)
  rw [show Int32.toInt 0 = 0 from rfl, if_pos (by omega)] at this
  exact this
theorem empty_ba {row r : Nat → Int64} {ba mr x b m : Int32} (hw : (r, b, m) = fX1_empty row ba mr x) : b = x := by
  have h := (v1_empty row ba mr x).1
  rw [← hw] at h
  exact congrArg Prod.fst h
/-! zero, gap -/
theorem uI_parts (x : Int32) : uI x = uI x / 2 ^ 31 * 2 ^ 31 + eX x * 2 ^ 23 + fX x := by
  unfold eX fX
  omega
theorem v1_isZero (x : Int32) : fX1_isZero x = 0 ↔ ¬ mX x = 0 := by
  unfold fX1_isZero
  have h1 : ((x &&& (2147483647 : Int32))).toInt = ((uI x % 2 ^ 31 : Nat) : Int) := i_and_lo x 2147483647 31 (by decide) (by decide)
  have h2 : ((x &&& (2147483647 : Int32)) = 0) ↔ mX x = 0 := by
    rw [i_eq_iff, h1, show Int32.toInt 0 = 0 from rfl]
    unfold mX eX fX
    split <;> omega
  simp only [h2]
  split
  · exact iff_of_false (by decide) (fun h => h (by assumption))
  · exact iff_of_true rfl (by assumption)
theorem v1_gap_loop (n : Nat) : ∀ (y0 y1 : Int32) (m j : Nat), asc 24 y1 n → y0.toInt = m → y1.toInt = j → 0 < m → m * 2 ^ j < 2 ^ 24 → ∃ g : Nat, (fX1_gap_k2 n y0 y1).toInt = g ∧ g ≤ 23 ∧ 2 ^ 23 ≤ m * 2 ^ g ∧ m * 2 ^ g < 2 ^ 24 := by
  induction n with
  | zero => intro y0 y1 m j h; exact absurd h asc_0
  | succ n ih =>
    intro y0 y1 m j h hm hj h0 hb
    rw [fX1_gap_k2_s]
    have hj24 : j < 24 := by
      rcases Nat.lt_or_ge j 24 with q | q
      · exact q
      · have h1 : 2 ^ 24 ≤ 2 ^ j := Nat.pow_le_pow_right (by decide) q
        have h2 : 1 * 2 ^ j ≤ m * 2 ^ j := Nat.mul_le_mul_right _ h0
        omega
    have hc : ¬ (24 : Int32) ≤ y1 := by
      rw [Int32.le_iff_toInt_le, hj, show Int32.toInt 24 = 24 from rfl]
      omega
    rw [if_neg hc]
    have hs : (y0 <<< (y1 &&& 31)).toInt = ((m * 2 ^ j : Nat) : Int) := by
      rw [i_shl hj (by omega), hm]
      · norm_cast
      · rw [hm]
        have : (0 : Int) ≤ ((m * 2 ^ j : Nat) : Int) := Int.natCast_nonneg _
        push_cast at this
        omega
      · rw [hm]
        have : ((m * 2 ^ j : Nat) : Int) < 2 ^ 24 := by exact_mod_cast hb
        push_cast at this
        omega
    have hle : ((8388608 : Int32) ≤ (y0 <<< (y1 &&& 31))) ↔ 2 ^ 23 ≤ m * 2 ^ j := by
      rw [Int32.le_iff_toInt_le, hs, show Int32.toInt 8388608 = 8388608 from rfl]
      omega
    by_cases hd : 2 ^ 23 ≤ m * 2 ^ j
    · rw [if_pos (hle.mpr hd)]
      exact ⟨j, hj, by omega, hd, hb⟩
    · rw [if_neg (fun q => hd (hle.mp q))]
      refine ih y0 (y1 + 1) m (j + 1) (asc_step h (by decide) (by decide) hc) hm ?_ h0 ?_
      · rw [i32_add1 (by omega), hj]
        norm_cast
      · rw [Nat.pow_succ, ← Nat.mul_assoc]
        omega
theorem v1_gap {x : Int32} {m : Nat} (hx : x.toInt = m) (h0 : 0 < m) (h : m < 2 ^ 24) : ∃ g : Nat, (fX1_gap x).toInt = g ∧ g ≤ 23 ∧ 2 ^ 23 ≤ m * 2 ^ g ∧ m * 2 ^ g < 2 ^ 24 :=
  v1_gap_loop 25 x 0 m 0 (asc_init 24) hx rfl h0 (by omega)
theorem v1_shl {x t : Int32} {m g d : Nat} (hx : x.toInt = m) (ht : t.toInt = ((g + d : Nat) : Int)) (hg : m * 2 ^ g < 2 ^ 24) (hd : d ≤ 38) (hgd : g ≤ 23) : (Int32.toInt64 x <<< (Int32.toInt64 t &&& 63)).toInt = ((m * 2 ^ g * 2 ^ d : Nat) : Int) ∧ m * 2 ^ g * 2 ^ d < 2 ^ 62 := by
  have h1 : m * 2 ^ g * 2 ^ d < 2 ^ 62 := by
    have a1 : 2 ^ d ≤ 2 ^ 38 := Nat.pow_le_pow_right (by decide) hd
    have a2 : 0 < 2 ^ d := Nat.pow_pos (by decide)
    calc m * 2 ^ g * 2 ^ d < 2 ^ 24 * 2 ^ d := Nat.mul_lt_mul_of_pos_right hg a2
      _ ≤ 2 ^ 24 * 2 ^ 38 := Nat.mul_le_mul_left _ a1
      _ = 2 ^ 62 := by decide
  refine ⟨?_, h1⟩
  have h2 : ((m : Int) * 2 ^ (g + d)) = ((m * 2 ^ g * 2 ^ d : Nat) : Int) := by
    push_cast
    rw [Int.mul_assoc, ← Int.pow_add]
  have h3 : (0 : Int) ≤ ((m * 2 ^ g * 2 ^ d : Nat) : Int) := Int.natCast_nonneg _
  have h4 : ((m * 2 ^ g * 2 ^ d : Nat) : Int) < 2 ^ 62 := by exact_mod_cast h1
  rw [l_shl ht (by omega)]
  · rw [Int32.toInt_toInt64, hx, h2]
  · rw [Int32.toInt_toInt64, hx, h2]; omega
  · rw [Int32.toInt_toInt64, hx, h2]; omega
theorem by_ne {x t : Int32} (h : fX1_isZero x = 0) (ht : t = fX1_gap (fX1_units x)) : ¬ (Int32.toInt64 (fX1_units x) <<< (Int32.toInt64 t &&& 63)) = 0 := by
  have h0 : 0 < mX x := Nat.pos_of_ne_zero ((v1_isZero x).mp h)
  obtain ⟨g, h1, h2, h3, h4⟩ := v1_gap (v1_units x) h0 (mX_lt x)
  obtain ⟨h5, h6⟩ := v1_shl (d := 0) (v1_units x) (t := t) (g := g) (by rw [ht, h1]; rfl) h4 (by decide) h2
  intro hz
  rw [hz, show Int64.toInt 0 = 0 from rfl] at h5
  have h7 : 0 = mX x * 2 ^ g * 2 ^ 0 := by exact_mod_cast h5
  omega
