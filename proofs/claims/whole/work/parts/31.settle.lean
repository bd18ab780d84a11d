/-! carry and settle -/
theorem pow24s (j : Nat) : (2 : Int) ^ (24 * (j + 1)) = 2 ^ 24 * 2 ^ (24 * j) := by
  rw [← Int.pow_add]
  congr 1
  omega
theorem v1_carry_loop (n : Nat) : ∀ (y1 : Int32) (row : Nat → Int64) (j : Nat), asc 24 y1 n → y1.toInt = j → (∀ k, k < j → 0 ≤ (row k).toInt ∧ (row k).toInt < 2 ^ 24) → (-2 ^ 41 ≤ (row j).toInt ∧ (row j).toInt ≤ 2 ^ 41) → (∀ k, j < k → k < 25 → -2 ^ 40 ≤ (row k).toInt ∧ (row k).toInt ≤ 2 ^ 40) →
    vs (fX1_carry_k2 n y1 row) 25 = vs row 25 ∧ (∀ k, k < 24 → 0 ≤ ((fX1_carry_k2 n y1 row) k).toInt ∧ ((fX1_carry_k2 n y1 row) k).toInt < 2 ^ 24) ∧ -2 ^ 41 ≤ ((fX1_carry_k2 n y1 row) 24).toInt ∧ ((fX1_carry_k2 n y1 row) 24).toInt ≤ 2 ^ 41 := by
  induction n with
  | zero => intro y1 row j h; exact absurd h asc_0
  | succ n ih =>
    intro y1 row j h hj hlow hmid hhigh
    rw [fX1_carry_k2_s]
    by_cases hc : (24 : Int32) ≤ y1
    · rw [if_pos hc]
      have hj24 : j = 24 := by
        have h1 := h.2.1
        rw [Int32.le_iff_toInt_le, show Int32.toInt 24 = 24 from rfl] at hc
        omega
      subst hj24
      exact ⟨rfl, hlow, hmid⟩
    · rw [if_neg hc]
      have hjlt := asc_lt h (by decide) hc
      have hst := asc_step h (by decide) (by decide) hc
      have hj1 : (y1 + 1).toInt = ((j + 1 : Nat) : Int) := by
        rw [i32_add1 (by omega), hj]
        omega
      rw [i_clamp hj, i_clamp hj1]
      have hsr : ((row j) >>> (Int32.toInt64 (24 : Int32) &&& 63)).toInt = (row j).toInt / 2 ^ 24 := l_shr (k := 24) (by decide) (by decide)
      have hj25 := hhigh (j + 1) (by omega) (by omega)
      have hx : (row (j + 1) + ((row j) >>> (Int32.toInt64 (24 : Int32) &&& 63))).toInt = (row (j + 1)).toInt + (row j).toInt / 2 ^ 24 := by
        rw [l_add, hsr] <;> rw [hsr] <;> omega
      generalize (row (j + 1) + ((row j) >>> (Int32.toInt64 (24 : Int32) &&& 63))) = x at hx ⊢
      rw [pk_uLn (f := row) (k := j + 1) (j := j) (x := x) (by omega)]
      have hy : ((row j) &&& (16777215 : Int64)).toInt = (row j).toInt % 2 ^ 24 := l_and_lo _ _ 24 (by decide) (by decide)
      generalize ((row j) &&& (16777215 : Int64)) = y at hy ⊢
      obtain ⟨a1, a2⟩ := ih (y1 + 1) (vp_updL (vp_updL row (j + 1) x) j y) (j + 1) hst hj1 (fun k hk => by
          by_cases hkj : k = j
          · subst hkj
            rw [pk_uLs, hy]
            omega
          · rw [pk_uLn hkj, pk_uLn (by omega)]
            exact hlow k (by omega)) (by
          rw [pk_uLn (by omega), pk_uLs, hx]
          omega) (fun k hk hk2 => by
          rw [pk_uLn (by omega), pk_uLn (by omega)]
          exact hhigh k (by omega) hk2)
      refine ⟨?_, a2⟩
      rw [a1, vs_upd, vs_upd, if_pos (by omega), if_pos (by omega), pk_uLn (f := row) (k := j + 1) (j := j) (x := x) (by omega), hx, hy, pow24s, ← Int.mul_assoc, Int.add_assoc, ← Int.add_mul]
      have : (((row (j + 1)).toInt + (row j).toInt / 2 ^ 24 - (row (j + 1)).toInt) * 2 ^ 24 + ((row j).toInt % 2 ^ 24 - (row j).toInt)) = 0 := by omega
      rw [this]
      simp
theorem v1_carry {row : Nat → Int64} (hb : ∀ k, k < 25 → -2 ^ 40 ≤ (row k).toInt ∧ (row k).toInt ≤ 2 ^ 40) :
    vs (fX1_carry row) 25 = vs row 25 ∧ (∀ k, k < 24 → 0 ≤ ((fX1_carry row) k).toInt ∧ ((fX1_carry row) k).toInt < 2 ^ 24) ∧ -2 ^ 41 ≤ ((fX1_carry row) 24).toInt ∧ ((fX1_carry row) 24).toInt ≤ 2 ^ 41 :=
  v1_carry_loop 25 0 row 0 (asc_init 24) rfl (fun k hk => absurd hk (by omega)) (by have := hb 0 (by decide); omega) (fun k _ hk => hb k hk)
theorem vs_range {row : Nat → Int64} : ∀ n : Nat, (∀ k, k < n → 0 ≤ (row k).toInt ∧ (row k).toInt < 2 ^ 24) → 0 ≤ vs row n ∧ vs row n < 2 ^ (24 * n)
  | 0, _ => ⟨Int.le_refl _, by show (0 : Int) < 1; decide⟩
  | n + 1, h => by
    obtain ⟨h1, h2⟩ := vs_range n (fun k hk => h k (by omega))
    obtain ⟨h3, h4⟩ := h n (by omega)
    have hp := pow_pos' (24 * n)
    have h5 : (row n).toInt * 2 ^ (24 * n) ≤ (2 ^ 24 - 1) * 2 ^ (24 * n) := Int.mul_le_mul_of_nonneg_right (by omega) (by omega)
    have h6 : 0 ≤ (row n).toInt * 2 ^ (24 * n) := Int.mul_nonneg h3 (by omega)
    show 0 ≤ vs row n + _ ∧ vs row n + _ < _
    rw [pow24s, Int.sub_mul] at *
    omega
/-- the limbs are the digits of V -/
def RP (row : Nat → Int64) (V : Nat) : Prop := ∀ k, k < 25 → (row k).toInt = ((V / 2 ^ (24 * k) % 2 ^ 24 : Nat) : Int)
theorem vs_dig {row : Nat → Int64} : ∀ (n V : Nat), (∀ k, k < n → 0 ≤ (row k).toInt ∧ (row k).toInt < 2 ^ 24) → vs row n = V → ∀ k, k < n → (row k).toInt = ((V / 2 ^ (24 * k) % 2 ^ 24 : Nat) : Int)
  | 0, _, _, _, k, hk => absurd hk (by omega)
  | n + 1, V, h, hV, k, hk => by
    obtain ⟨h1, h2⟩ := vs_range n (fun k hk => h k (by omega))
    obtain ⟨h3, h4⟩ := h n (by omega)
    obtain ⟨U, hU⟩ : ∃ U : Nat, vs row n = U := ⟨(vs row n).toNat, by omega⟩
    obtain ⟨d, hd⟩ : ∃ d : Nat, (row n).toInt = d := ⟨((row n).toInt).toNat, by omega⟩
    have hUlt : U < 2 ^ (24 * n) := by
      rw [hU] at h2
      exact_mod_cast h2
    have hVe : V = U + d * 2 ^ (24 * n) := by
      have : vs row n + (row n).toInt * 2 ^ (24 * n) = V := hV
      rw [hU, hd] at this
      exact_mod_cast this.symm
    have hpos : 0 < 2 ^ (24 * n) := Nat.pow_pos (by decide)
    rcases Nat.lt_or_ge k n with hkn | hkn
    · rw [vs_dig n U (fun k hk => h k (by omega)) hU k hkn, hVe]
      congr 1
      have e1 : 2 ^ (24 * n) = 2 ^ (24 * k) * (2 ^ 24 * 2 ^ (24 * (n - k - 1))) := by
        rw [← Nat.pow_add, ← Nat.pow_add]
        congr 1
        omega
      rw [e1, Nat.mul_comm d, Nat.mul_assoc, Nat.add_mul_div_left _ _ (Nat.pow_pos (by decide)), Nat.mul_assoc, Nat.add_mul_mod_self_left]
    · have : k = n := by omega
      subst this
      rw [hd, hVe, Nat.add_mul_div_right _ _ hpos, Nat.div_eq_of_lt hUlt, Nat.zero_add, Nat.mod_eq_of_lt (by omega)]
theorem vs_top {row : Nat → Int64} (h : ∀ k, k < 24 → 0 ≤ (row k).toInt ∧ (row k).toInt < 2 ^ 24) : vs row 25 = vs row 24 + (row 24).toInt * 2 ^ 576 ∧ 0 ≤ vs row 24 ∧ vs row 24 < 2 ^ 576 := ⟨rfl, vs_range 24 h⟩
theorem vs_neg {row : Nat → Int64} (h : ∀ k, k < 24 → 0 ≤ (row k).toInt ∧ (row k).toInt < 2 ^ 24) : (row 24).toInt < 0 ↔ vs row 25 < 0 := by
  obtain ⟨h1, h2, h3⟩ := vs_top h
  rw [h1]
  constructor
  · intro h4
    have : (row 24).toInt * 2 ^ 576 ≤ (-1) * 2 ^ 576 := Int.mul_le_mul_of_nonneg_right (by omega) (by decide)
    omega
  · intro h4
    rcases Int.lt_or_le (row 24).toInt 0 with q | q
    · exact q
    · have : 0 ≤ (row 24).toInt * 2 ^ 576 := Int.mul_nonneg q (by decide)
      omega
theorem vs_RP {row : Nat → Int64} {V : Nat} (h : ∀ k, k < 24 → 0 ≤ (row k).toInt ∧ (row k).toInt < 2 ^ 24) (hV : vs row 25 = V) (hlt : V < 2 ^ 600) : RP row V := by
  obtain ⟨h1, h2, h3⟩ := vs_top h
  have h4 : 0 ≤ (row 24).toInt := by
    rcases Int.lt_or_le (row 24).toInt 0 with q | q
    · have := (vs_neg h).mp q
      omega
    · exact q
  have h5 : (row 24).toInt < 2 ^ 24 := by
    rcases Int.lt_or_le (row 24).toInt (2 ^ 24) with q | q
    · exact q
    · exfalso
      have h6 : 2 ^ 24 * 2 ^ 576 ≤ (row 24).toInt * 2 ^ 576 := Int.mul_le_mul_of_nonneg_right q (by decide)
      have h7 : ((2 : Int) ^ 24 * 2 ^ 576) = 2 ^ 600 := by decide +kernel
      have h8 : (V : Int) < 2 ^ 600 := by exact_mod_cast hlt
      rw [h7] at h6
      omega
  exact vs_dig 25 V (fun k hk => by
    rcases Nat.lt_or_ge k 24 with q | q
    · exact h k q
    · have : k = 24 := by omega
      subst this
      exact ⟨h4, h5⟩) hV
theorem v1_neg_loop (n : Nat) : ∀ (y1 y2 : Int32) (row : Nat → Int64) (j : Nat), asc 25 y2 n → y2.toInt = j → (∀ k, k < 25 → -2 ^ 41 ≤ (row k).toInt ∧ (row k).toInt ≤ 2 ^ 41) →
    ∃ r : Nat → Int64, fX1_settle_k28 n y1 y2 row = (y1, fX1_carry r) ∧ ∀ k, k < 25 → (r k).toInt = if j ≤ k then -(row k).toInt else (row k).toInt := by
  induction n with
  | zero => intro y1 y2 row j h; exact absurd h asc_0
  | succ n ih =>
    intro y1 y2 row j h hj hb
    rw [fX1_settle_k28_s]
    by_cases hc : (25 : Int32) ≤ y2
    · rw [if_pos hc]
      refine ⟨row, rfl, fun k hk => ?_⟩
      have h1 := h.2.1
      rw [Int32.le_iff_toInt_le, show Int32.toInt 25 = 25 from rfl] at hc
      rw [if_neg (by omega)]
    · rw [if_neg hc]
      have hjlt := asc_lt h (by decide) hc
      have hst := asc_step h (by decide) (by decide) hc
      have hj1 : (y2 + 1).toInt = ((j + 1 : Nat) : Int) := by
        rw [i32_add1 (by omega), hj]
        omega
      rw [i_clamp hj]
      have hbj := hb j (by omega)
      have hng : (-(row j)).toInt = -(row j).toInt := l_neg (by omega)
      obtain ⟨r, a1, a2⟩ := ih y1 (y2 + 1) (vp_updL row j (-(row j))) (j + 1) hst hj1 (fun k hk => by
        by_cases hkj : k = j
        · subst hkj
          rw [pk_uLs, hng]
          omega
        · rw [pk_uLn hkj]
          exact hb k hk)
      refine ⟨r, a1, fun k hk => ?_⟩
      rw [a2 k hk]
      by_cases hkj : k = j
      · subst hkj
        rw [if_neg (by omega), if_pos (by omega), pk_uLs, hng]
      · rw [pk_uLn hkj]
        by_cases hjk : j ≤ k
        · rw [if_pos (by omega), if_pos hjk]
        · rw [if_neg (by omega), if_neg hjk]
theorem vs_negate {r row : Nat → Int64} : ∀ n : Nat, (∀ k, k < n → (r k).toInt = -(row k).toInt) → vs r n = -vs row n
  | 0, _ => rfl
  | n + 1, h => by
    show vs r n + _ = -(vs row n + _)
    rw [vs_negate n (fun k hk => h k (by omega)), h n (by omega), Int.neg_mul]
    omega
/-- settle: the sign, and the digits of the absolute value -/
theorem v1_settle {row : Nat → Int64} (hb : ∀ k, k < 25 → -2 ^ 40 ≤ (row k).toInt ∧ (row k).toInt ≤ 2 ^ 40) (hlt : (vs row 25).natAbs < 2 ^ 600) :
    ∃ r : Nat → Int64, fX1_settle row = (if vs row 25 < 0 then 1 else 0, r) ∧ RP r (vs row 25).natAbs := by
  obtain ⟨h1, h2, h3, h4⟩ := v1_carry hb
  have hcl : Int32.toNatClampNeg (24 : Int32) = 24 := by decide
  have hng : (0 ≤ lg_cmp ((fX1_carry row) 24) (0 : Int64)) ↔ ¬ vs row 25 < 0 := by
    rw [lg_cmp_ge, Int64.le_iff_toInt_le, ← h1, ← vs_neg h2, show Int64.toInt 0 = 0 from rfl]
    omega
  unfold fX1_settle fX1_settle_k4
  rw [hcl]
  by_cases hn : vs row 25 < 0
  · rw [if_neg (fun q => hng.mp q hn), if_pos hn]
    unfold fX1_settle_k21
    rw [if_neg (by decide)]
    obtain ⟨r, a1, a2⟩ := v1_neg_loop 26 1 0 (fX1_carry row) 0 (asc_init 25) rfl (fun k hk => by
      rcases Nat.lt_or_ge k 24 with q | q
      · have := h2 k q
        omega
      · have : k = 24 := by omega
        subst this
        exact ⟨h3, h4⟩)
    have a3 : vs r 25 = -vs row 25 := by
      rw [← h1]
      exact vs_negate 25 (fun k hk => by rw [a2 k hk, if_pos (by omega)])
    -- the last limb is near 0, because the number is small
    have h5 : -2 ^ 40 ≤ ((fX1_carry row) 24).toInt ∧ ((fX1_carry row) 24).toInt ≤ 2 ^ 40 := by
      obtain ⟨t1, t2, t3⟩ := vs_top h2
      rw [h1] at t1
      have t4 : -(2 : Int) ^ 600 < vs row 25 := by
        have : ((vs row 25).natAbs : Int) < 2 ^ 600 := by exact_mod_cast hlt
        omega
      constructor
      · rcases Int.lt_or_le ((fX1_carry row) 24).toInt (-2 ^ 40) with q | q
        · exfalso
          have : ((fX1_carry row) 24).toInt * 2 ^ 576 ≤ (-2 ^ 40 - 1) * 2 ^ 576 := Int.mul_le_mul_of_nonneg_right (by omega) (by decide)
          have e1 : ((-2 ^ 40 - 1 : Int) * 2 ^ 576) = -2 ^ 616 - 2 ^ 576 := by decide +kernel
          have e2 : ((2 : Int) ^ 600 ≤ 2 ^ 616) := by decide +kernel
          rw [e1] at this
          omega
        · exact q
      · have := (vs_neg h2).mpr (by rw [h1]; exact hn)
        omega
    obtain ⟨b1, b2, b3, b4⟩ := v1_carry (row := r) (fun k hk => by
      rw [a2 k hk, if_pos (by omega)]
      rcases Nat.lt_or_ge k 24 with q | q
      · have := h2 k q
        omega
      · have : k = 24 := by omega
        subst this
        omega)
    refine ⟨fX1_carry r, a1, ?_⟩
    refine vs_RP b2 ?_ hlt
    rw [b1, a3]
    omega
  · rw [if_pos (hng.mpr hn), if_neg hn]
    unfold fX1_settle_k21
    rw [if_pos rfl]
    refine ⟨fX1_carry row, rfl, vs_RP h2 ?_ hlt⟩
    rw [h1]
    omega
