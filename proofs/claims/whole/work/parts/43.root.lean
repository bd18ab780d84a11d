/-! root -/
def isq (S R : Nat) : Prop := R * R ≤ S ∧ S < (R + 1) * (R + 1)
theorem isq_uniq {S R Q : Nat} (h1 : isq S R) (h2 : isq S Q) : R = Q := by
  have a : ∀ {A B : Nat}, A * A ≤ S → S < (B + 1) * (B + 1) → A ≤ B := by
    intro A B h3 h4
    rcases Nat.lt_or_ge B A with w | w
    · have : (B + 1) * (B + 1) ≤ A * A := Nat.mul_le_mul w w
      omega
    · exact w
  exact Nat.le_antisymm (a h1.1 h2.2) (a h2.1 h1.2)
theorem or_pow {x y : Int64} {f j : Nat} (hx : x.toInt = f) (hf : f % 2 ^ (j + 1) = 0) (hj : j < 62) (hy : y.toInt = ((2 ^ j : Nat) : Int)) (hlt : f + 2 ^ j < 2 ^ 62) : (x ||| y).toInt = ((f + 2 ^ j : Nat) : Int) := by
  have hp : 2 ^ j < 2 ^ (j + 1) := Nat.pow_lt_pow_right (by decide) (by omega)
  obtain ⟨w, hw⟩ : ∃ w, f = 2 ^ (j + 1) * w := ⟨f / 2 ^ (j + 1), by
    have := Nat.div_add_mod f (2 ^ (j + 1))
    rw [hf, Nat.add_zero] at this
    exact this.symm⟩
  have e : x ||| y = lN (f + 2 ^ j) := by
    rw [l_eq_lN hx, l_eq_lN hy]
    apply wb_inj
    apply BitVec.eq_of_toNat_eq
    rw [Int64.toBitVec_or, BitVec.toNat_or, wb_tn (by omega), wb_tn (by omega), wb_tn (by omega), hw]
    exact (Nat.two_pow_add_eq_or_of_lt hp w).symm
  rw [e, pk_lT (by omega)]
theorem one_shl {y : Int32} {j : Nat} (hy : y.toInt = (j : Int)) (hj : j < 62) : ((1 : Int64) <<< (Int32.toInt64 y &&& 63)).toInt = ((2 ^ j : Nat) : Int) := by
  have hp : 2 ^ j ≤ 2 ^ 61 := Nat.pow_le_pow_right (by decide) (by omega)
  have e : (1 : Int) * 2 ^ j = ((2 ^ j : Nat) : Int) := by
    rw [Int.one_mul]
    exact (Int.natCast_pow 2 j).symm
  have c1 : Int64.toInt 1 = 1 := by decide
  have hp0 : 0 < 2 ^ j := Nat.pow_pos (by decide)
  generalize 2 ^ j = w at hp e hp0 ⊢
  rw [l_shl hy (by omega)] <;> rw [c1, e] <;> omega
theorem sq_lt {a b : Nat} (h : a < b) : a * a < b * b := Nat.mul_lt_mul_of_lt_of_lt h h
theorem sq_toInt {x : Int64} {a : Nat} (hx : x.toInt = (a : Int)) (ha : a < 2 ^ 31) : (x * x).toInt = ((a * a : Nat) : Int) := by
  have h : a * a < 2 ^ 31 * 2 ^ 31 := sq_lt ha
  have e : (a : Int) * (a : Int) = ((a * a : Nat) : Int) := (Int.natCast_mul a a).symm
  generalize a * a = w at h e ⊢
  rw [l_mul] <;> rw [hx, e] <;> omega
theorem v0_root_loop (n : Nat) : ∀ (y0 y2 : Int64) (y4 : Int32) (S f c : Nat), dsc 31 y4 n → y4.toInt = (c : Int) - 1 → y0.toInt = (S : Int) → y2.toInt = (f : Int) → f % 2 ^ c = 0 → f * f ≤ S → S < (f + 2 ^ c) * (f + 2 ^ c) → f + 2 ^ c ≤ 2 ^ 31 → ∃ R : Nat, (fX0_floorRoot_k6 n y0 y2 y4).toInt = (R : Int) ∧ isq S R ∧ R < 2 ^ 31 := by
  induction n with
  | zero => intro y0 y2 y4 S f c h; exact absurd h dsc_0
  | succ n ih =>
    intro y0 y2 y4 S f c h hc hS hf hm h1 h2 h3
    rw [fX0_floorRoot_k6_s]
    have c0 : Int32.toInt 0 = 0 := by decide
    cases c with
    | zero =>
      have hn : y4 < 0 := by
        rw [Int32.lt_iff_toInt_lt, hc, c0]
        omega
      rw [if_pos hn]
      rw [Nat.pow_zero] at h2 h3
      exact ⟨f, hf, ⟨h1, h2⟩, by omega⟩
    | succ j =>
      have hj : y4.toInt = (j : Int) := by omega
      have hn : ¬ y4 < 0 := by
        rw [Int32.lt_iff_toInt_lt, hc, c0]
        omega
      rw [if_neg hn]
      have hj31 : j < 31 := by have := h.2.1; omega
      have hp : 2 ^ (j + 1) = 2 ^ j + 2 ^ j := by rw [Nat.pow_succ]; omega
      have hp0 : 0 < 2 ^ j := Nat.pow_pos (by decide)
      have ht : (y2 ||| ((1 : Int64) <<< (Int32.toInt64 y4 &&& 63))).toInt = ((f + 2 ^ j : Nat) : Int) := or_pow hf hm (by omega) (one_shl hj (by omega)) (by omega)
      have hst := dsc_step h (by omega)
      have hs : (y4 + (-1)).toInt = (j : Int) - 1 := by rw [i32_sub1 (by omega), hj]
      have hmj : f % 2 ^ j = 0 := by
        have : f % 2 ^ (j + 1) % 2 ^ j = f % 2 ^ j := Nat.mod_mod_of_dvd _ (Nat.pow_dvd_pow 2 (by omega))
        rw [hm, Nat.zero_mod] at this
        exact this.symm
      generalize (y2 ||| ((1 : Int64) <<< (Int32.toInt64 y4 &&& 63))) = tr at ht ⊢
      have hsq := sq_toInt ht (by omega)
      have hcmp : (0 < lg_cmp (tr * tr) y0) ↔ S < (f + 2 ^ j) * (f + 2 ^ j) := by
        rw [lg_cmp_gt, Int64.lt_iff_toInt_lt, hsq, hS]
        omega
      by_cases hlt : S < (f + 2 ^ j) * (f + 2 ^ j)
      · rw [if_pos (hcmp.mpr hlt)]
        exact ih y0 y2 (y4 + (-1)) S f j hst hs hS hf hmj h1 hlt (by omega)
      · rw [if_neg (fun w => hlt (hcmp.mp w))]
        refine ih y0 tr (y4 + (-1)) S (f + 2 ^ j) j hst hs hS ht ?_ (by omega) ?_ (by omega)
        · rw [Nat.add_mod_right]
          exact hmj
        · rw [Nat.add_assoc, ← hp]
          exact h2
theorem v0_floorRoot {x : Int64} {S : Nat} (hx : x.toInt = (S : Int)) (hS : S < 2 ^ 62) : ∃ R : Nat, (fX0_floorRoot x).toInt = (R : Int) ∧ isq S R ∧ R < 2 ^ 31 :=
  v0_root_loop 32 x 0 30 S 0 31 ⟨by decide, by decide, by decide⟩ (by decide) hx rfl (Nat.zero_mod _) (Nat.zero_le _) (by
    have : (0 + 2 ^ 31) * (0 + 2 ^ 31) = 2 ^ 62 := by decide
    rw [this]
    exact hS) (by decide)
theorem v1_root_loop (n : Nat) : ∀ (y3 : Int32) (y4 y6 : Int64) (y8 mo fl : Int32) (row : Nat → Int64) (ba mr ex : Int32) (S f c : Nat), dsc 29 y8 n → y8.toInt = (c : Int) - 1 → y4.toInt = (S : Int) → y6.toInt = (f : Int) → f * f ≤ S → S < (f + 2 ^ c) * (f + 2 ^ c) → f + 2 ^ c ≤ 2 ^ 29 → ∃ (q : Int64) (R : Nat), fX1_root_k100 n y3 y4 y6 y8 mo fl row ba mr ex = fX1_root_k135 y3 y4 q mo fl row ba mr ex ∧ q.toInt = (R : Int) ∧ isq S R ∧ R < 2 ^ 29 := by
  induction n with
  | zero => intro y3 y4 y6 y8 mo fl row ba mr ex S f c h; exact absurd h dsc_0
  | succ n ih =>
    intro y3 y4 y6 y8 mo fl row ba mr ex S f c h hc hS hf h1 h2 h3
    rw [fX1_root_k100_s]
    have c0 : Int32.toInt 0 = 0 := by decide
    cases c with
    | zero =>
      have hn : y8 < 0 := by
        rw [Int32.lt_iff_toInt_lt, hc, c0]
        omega
      rw [if_pos hn]
      rw [Nat.pow_zero] at h2 h3
      exact ⟨y6, f, rfl, hf, ⟨h1, h2⟩, by omega⟩
    | succ j =>
      have hj : y8.toInt = (j : Int) := by omega
      have hn : ¬ y8 < 0 := by
        rw [Int32.lt_iff_toInt_lt, hc, c0]
        omega
      rw [if_neg hn]
      have hj31 : j < 29 := by have := h.2.1; omega
      have hp : 2 ^ (j + 1) = 2 ^ j + 2 ^ j := by rw [Nat.pow_succ]; omega
      have hp0 : 0 < 2 ^ j := Nat.pow_pos (by decide)
      have ho := one_shl hj (by omega)
      have ht : (y6 + ((1 : Int64) <<< (Int32.toInt64 y8 &&& 63))).toInt = ((f + 2 ^ j : Nat) : Int) := by
        generalize ((1 : Int64) <<< (Int32.toInt64 y8 &&& 63)) = o at ho ⊢
        rw [l_add (by omega) (by omega), hf, ho]
        exact (Int.natCast_add _ _).symm
      have hst := dsc_step h (by omega)
      have hs : (y8 + (-1)).toInt = (j : Int) - 1 := by rw [i32_sub1 (by omega), hj]
      generalize (y6 + ((1 : Int64) <<< (Int32.toInt64 y8 &&& 63))) = tr at ht ⊢
      have hsq := sq_toInt ht (by omega)
      have hcmp : (0 < lg_cmp (tr * tr) y4) ↔ S < (f + 2 ^ j) * (f + 2 ^ j) := by
        rw [lg_cmp_gt, Int64.lt_iff_toInt_lt, hsq, hS]
        omega
      by_cases hlt : S < (f + 2 ^ j) * (f + 2 ^ j)
      · rw [if_pos (hcmp.mpr hlt)]
        exact ih y3 y4 y6 (y8 + (-1)) mo fl row ba mr ex S f j hst hs hS hf h1 hlt (by omega)
      · rw [if_neg (fun w => hlt (hcmp.mp w))]
        refine ih y3 y4 tr (y8 + (-1)) mo fl row ba mr ex S (f + 2 ^ j) j hst hs hS ht (by omega) ?_ (by omega)
        rw [Nat.add_assoc, ← hp]
        exact h2
/-- the root of w * 4^j, and that of w -/
theorem sq_mul (q p : Nat) : q * p * (q * p) = q * q * (p * p) := by
  rw [Nat.mul_assoc, Nat.mul_left_comm p q p, ← Nat.mul_assoc]
theorem isq_scale {w R r p : Nat} (hp : 0 < p) (h0 : isq (w * (p * p)) R) (h1 : isq w r) : r = R / p := by
  refine isq_uniq h1 ⟨?_, ?_⟩
  · have a1 : R / p * p ≤ R := Nat.div_mul_le_self R p
    have a2 : R / p * p * (R / p * p) ≤ R * R := Nat.mul_le_mul a1 a1
    rw [sq_mul] at a2
    exact Nat.le_of_mul_le_mul_right (Nat.le_trans a2 h0.1) (Nat.mul_pos hp hp)
  · have a1 : R < (R / p + 1) * p := by
      have := Nat.lt_mul_div_succ R hp
      rw [Nat.mul_comm]
      exact this
    have a2 : (R + 1) * (R + 1) ≤ (R / p + 1) * p * ((R / p + 1) * p) := Nat.mul_le_mul a1 a1
    rw [sq_mul] at a2
    exact Nat.lt_of_mul_lt_mul_right (Nat.lt_of_lt_of_le h0.2 a2)
theorem isq_exact {w R r p : Nat} (hp : 0 < p) (h0 : isq (w * (p * p)) R) (h1 : isq w r) : (r * r = w) ↔ (R % p = 0 ∧ R * R = w * (p * p)) := by
  constructor
  · intro h
    have a1 : isq (w * (p * p)) (r * p) := by
      refine ⟨by rw [sq_mul, h]; exact Nat.le_refl _, ?_⟩
      have : w * (p * p) = r * p * (r * p) := by rw [sq_mul, h]
      rw [this]
      exact sq_lt (Nat.lt_succ_self _)
    have a2 := isq_uniq h0 a1
    rw [a2]
    exact ⟨Nat.mul_mod_left r p, by rw [sq_mul, h]⟩
  · intro ⟨h2, h3⟩
    have a1 := isq_scale hp h0 h1
    have a2 : R = r * p := by
      rw [a1]
      have := Nat.div_add_mod R p
      rw [h2, Nat.add_zero, Nat.mul_comm] at this
      exact this.symm
    rw [a2, sq_mul] at h3
    exact Nat.eq_of_mul_eq_mul_right (Nat.mul_pos hp hp) h3
