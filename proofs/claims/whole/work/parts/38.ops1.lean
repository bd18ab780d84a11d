/-! round, mode, flags, clear, kind, next, compare, scale, fromInt, multiply -/
theorem m_round (mo fl : Int32) (row : Nat → Int64) (ba mr ex : Int32) (x1 : Int32) (hmo : mOk mo) : (fX0_round mo x1) = (fX1_round mo x1) ∧ (mOk mo → mOk (fX0_round mo x1).2) := by
  refine ⟨rfl, fun _ => ?_⟩
  unfold fX0_round
  by_cases h1 : x1 < 0
  · rw [if_pos h1]
    exact hmo
  · rw [if_neg h1]
    by_cases h2 : x1 ≤ 3
    · rw [if_pos h2]
      obtain ⟨j, hj, rfl⟩ := nI_of2 (n := 3) (M := 3) (by decide) h1 h2
      show mOk (nI j)
      have : j = 0 ∨ j = 1 ∨ j = 2 ∨ j = 3 := by omega
      rcases this with rfl | rfl | rfl | rfl
      · exact Or.inl rfl
      · exact Or.inr (Or.inl rfl)
      · exact Or.inr (Or.inr (Or.inl rfl))
      · exact Or.inr (Or.inr (Or.inr rfl))
    · rw [if_neg h2]
      exact hmo
theorem m_mode (mo fl : Int32) (row : Nat → Int64) (ba mr ex : Int32) (hmo : mOk mo) : (fX0_mode mo) = (fX1_mode mo) := rfl
theorem m_flags (mo fl : Int32) (row : Nat → Int64) (ba mr ex : Int32) (hmo : mOk mo) : (fX0_flags fl) = (fX1_flags fl) := rfl
theorem m_clear (mo fl : Int32) (row : Nat → Int64) (ba mr ex : Int32) (hmo : mOk mo) : (fX0_clear fl).1 = (fX1_clear fl).1 ∧ (fX0_clear fl).2 = (fX1_clear fl).2 := ⟨rfl, rfl⟩
theorem m_kind (mo fl : Int32) (row : Nat → Int64) (ba mr ex : Int32) (x1 : Int32) (hmo : mOk mo) : (fX0_kind x1) = (fX1_kind x1) := by
  unfold fX0_kind fX0_kindWithoutSign fX1_kind fX1_kind_k56
  rw [p0_neg, p0_none, p0_inf, p0_zero, p0_loud, p1_neg, p1_none, p1_inf, p1_zero, p1_loud]
  have h : (fX0_exponentOf x1 = 0) ↔ (fX1_exponent x1 = 0) := by rw [i_eq_iff, i_eq_iff, p0_exp, v1_exponent]
  simp only [h, b2_0]
  have hl : nanB x1 = false → loudB x1 = false := fun h => by unfold loudB; rw [h]; rfl
  cases hn : nanB x1
  · rw [hl hn]
    by_cases he : fX1_exponent x1 = 0 <;> cases infB x1 <;> cases zerB x1 <;> cases ng x1 <;> simp [he]
  · cases loudB x1 <;> cases ng x1 <;> simp
theorem sgn_flip {x : Int32} {w : Int} (hx : x.toInt = w) (h0 : 0 ≤ w) : (x ||| (-2147483648 : Int32)).toInt = w - 2 ^ 31 := by
  have hlt := Int32.toInt_lt x
  obtain ⟨n, rfl⟩ : ∃ n : Nat, w = n := ⟨w.toNat, by omega⟩
  have hu : uI x = n := by
    have h1 := uI_int x
    have h2 := uI_lt x
    split at h1 <;> omega
  have h1 : uI (x ||| (-2147483648 : Int32)) = n + 2 ^ 31 := by
    have : uI (x ||| (-2147483648 : Int32)) = uI x ||| 2 ^ 31 := by
      unfold uI
      rw [Int32.toBitVec_or, BitVec.toNat_or]
      rfl
    rw [this, hu, Nat.or_comm, Nat.add_comm]
    have := Nat.two_pow_add_eq_or_of_lt (b := n) (i := 31) (by omega) 1
    rw [Nat.mul_one] at this
    exact this.symm
  rw [uI_int, h1, if_neg (by omega)]
  omega
theorem sgn_or {x : Int32} {w : Int} (hx : x.toInt = w) (h0 : 0 ≤ w) (b : Bool) : (sgn b ||| x).toInt = if b = true then w - 2 ^ 31 else w := by
  cases b
  · show ((0 : Int32) ||| x).toInt = w
    simp [hx]
  · show ((-2147483648 : Int32) ||| x).toInt = _
    rw [Int32.or_comm, sgn_flip hx h0]
    rfl
/-- a pattern by its parts -/
theorem x_parts (x : Int32) : x.toInt = if ng x = true then ((eX x * 2 ^ 23 + fX x : Nat) : Int) - 2 ^ 31 else ((eX x * 2 ^ 23 + fX x : Nat) : Int) := by
  have h1 := uI_int x
  have h2 := uI_lt x
  have h3 := uI_parts x
  have h4 := eX_lt x
  have h5 := fX_lt x
  unfold ng
  by_cases h : x.toInt < 0
  · rw [decide_eq_true h, if_pos rfl]
    split at h1 <;> omega
  · rw [decide_eq_false h, if_neg (by decide)]
    split at h1 <;> omega
theorem zer_parts {x : Int32} (h : zerB x = true) : eX x = 0 ∧ fX x = 0 := by
  unfold zerB mX at h
  have := of_decide_eq_true h
  split at this <;> omega
theorem zer_not {x : Int32} (h : zerB x = false) : mX x ≠ 0 := of_decide_eq_false h
theorem zero_pat {x : Int32} (h : zerB x = true) : sgn (ng x) = x := by
  obtain ⟨h1, h2⟩ := zer_parts h
  apply Int32.toInt_inj.mp
  rw [x_parts x, h1, h2]
  cases ng x <;> decide
theorem rank_place (x : Int32) : fX1_rank x = fX0_place x := by
  unfold fX1_rank fX0_place fX0_place_k5
  rw [p0_neg]
  simp only [b2_0]
  have h1 := x_parts x
  have h2 := lo31 x
  have hc : (0 ≤ x) ↔ ng x = false := by
    rw [Int32.le_iff_toInt_le, show Int32.toInt 0 = 0 from rfl]
    unfold ng
    rw [decide_eq_false_iff_not]
    omega
  simp only [hc]
  cases hn : ng x
  · rw [if_pos rfl, if_pos rfl]
    apply Int32.toInt_inj.mp
    rw [h2, h1, hn]
    rfl
  · rfl
theorem m_next (mo fl : Int32) (row : Nat → Int64) (ba mr ex : Int32) (x1 : Int32) (hmo : mOk mo) : (fX0_next fl x1).1 = (fX1_next fl x1).1 ∧ (fX0_next fl x1).2 = (fX1_next fl x1).2 := by
  unfold fX0_next fX1_next fX0_next_k15 fX1_next_k30 fX1_next_k14
  rw [p0_none, p0_zero, p0_neg, p0_loud, p1_none, p1_nonef, p0_noNumber, rank_place, loud0]
  simp only [b2_0]
  cases hn : nanB x1
  · simp only [if_true]
    by_cases hi : x1 = 2139095040
    · simp [hi]
    · simp only [hi, if_false]
      have h1 := x_parts x1
      have h2 := lo31 x1
      have h3 := lo31' x1
      have hcn : ¬ (eX x1 = 255 ∧ ¬ fX x1 = 0) := by
        unfold nanB at hn
        intro h
        simp [h.1, h.2] at hn
      have h4 := eX_lt x1
      have h5 := fX_lt x1
      have c1 : Int32.toInt 1 = 1 := by decide
      unfold fX0_place fX0_place_k5
      rw [p0_neg]
      simp only [b2_0]
      cases hz : zerB x1
      · simp only [if_true]
        have hz2 := zer_not hz
        have hpos : 0 < eX x1 * 2 ^ 23 + fX x1 := by
          unfold mX at hz2
          split at hz2 <;> omega
        cases hg : ng x1
        · simp only [if_true]
          rw [hg, if_neg (by decide)] at h1
          have hinf : eX x1 * 2 ^ 23 + fX x1 ≠ 2139095040 := fun w => hi (by
            apply Int32.toInt_inj.mp
            rw [h1, w]
            rfl)
          have s1 : ((x1 &&& (2147483647 : Int32)) + 1).toInt = ((eX x1 * 2 ^ 23 + fX x1 : Nat) : Int) + 1 := by
            rw [i_add (by omega) (by omega), h2, c1]
          have hle : ¬ ((x1 &&& (2147483647 : Int32)) + 1) ≤ 0 := by
            rw [Int32.le_iff_toInt_le, s1, show Int32.toInt 0 = 0 from rfl]
            omega
          rw [if_neg hle]
          refine ⟨?_, rfl⟩
          apply Int32.toInt_inj.mp
          show (x1 + 1).toInt = ((x1 &&& (2147483647 : Int32)) + 1).toInt
          rw [s1, i_add (by omega) (by omega), h1, c1]
        · simp only [Bool.true_eq_false, if_false]
          rw [hg, if_pos rfl] at h1
          have s0 : (-(x1 &&& (2147483647 : Int32))).toInt = -((eX x1 * 2 ^ 23 + fX x1 : Nat) : Int) := by
            rw [i_neg (by omega), h2]
          have s1 : (-(x1 &&& (2147483647 : Int32)) + 1).toInt = -((eX x1 * 2 ^ 23 + fX x1 : Nat) : Int) + 1 := by
            rw [i_add (by omega) (by omega), s0, c1]
          have hle : (-(x1 &&& (2147483647 : Int32)) + 1) ≤ 0 := by
            rw [Int32.le_iff_toInt_le, s1, show Int32.toInt 0 = 0 from rfl]
            omega
          rw [if_pos hle]
          refine ⟨?_, rfl⟩
          apply Int32.toInt_inj.mp
          show (x1 - 1).toInt = ((-(-(x1 &&& (2147483647 : Int32)) + 1)) ||| (-2147483648 : Int32)).toInt
          have s2 : (-(-(x1 &&& (2147483647 : Int32)) + 1)).toInt = ((eX x1 * 2 ^ 23 + fX x1 : Nat) : Int) - 1 := by
            rw [i_neg (by omega), s1]
            omega
          rw [sgn_flip s2 (by omega), i_sub (by omega) (by omega), h1, c1]
          omega
      · obtain ⟨z1, z2⟩ := zer_parts hz
        rw [z1, z2] at h2
        have e0 : (x1 &&& (2147483647 : Int32)) = 0 := by
          apply Int32.toInt_inj.mp
          rw [h2]
          rfl
        rw [e0]
        simp only [Bool.true_eq_false, if_false]
        cases ng x1 <;> exact ⟨rfl, rfl⟩
  · simp only [Bool.true_eq_false, if_false]
    cases loudB x1 <;> first | exact ⟨rfl, rfl⟩ | simp
theorem m_compare (mo fl : Int32) (row : Nat → Int64) (ba mr ex : Int32) (x1 x2 : Int32) (hmo : mOk mo) : (fX0_compare fl x1 x2).1 = (fX1_compare fl x1 x2).1 ∧ (fX0_compare fl x1 x2).2 = (fX1_compare fl x1 x2).2 := by
  unfold fX0_compare fX0_compare_k45 fX0_compare_k51 fX0_compare_k14 fX0_compare_k34 fX0_compare_k37 fX1_compare fX1_compare_k14 fX1_compare_k21
  rw [p0_none, p0_none, p1_none, p1_none, p0_loud, p0_loud, p1_nonef, rank_place, rank_place, loud0]
  simp only [b2_0]
  have hle : ∀ a b : Int32, (if a = b then ((0 : Int32), fl) else (if b ≤ a then ((1 : Int32), fl) else ((-1 : Int32), fl))) = (if b ≤ a then (if a ≤ b then ((0 : Int32), fl) else ((1 : Int32), fl)) else ((-1 : Int32), fl)) := by
    intro a b
    by_cases h : a = b
    · subst h
      have : a ≤ a := Int32.le_refl a
      simp [this]
    · rw [if_neg h]
      by_cases h2 : b ≤ a
      · rw [if_pos h2, if_pos h2, if_neg]
        intro h3
        apply h
        rw [Int32.le_iff_toInt_le] at h2 h3
        exact Int32.toInt_inj.mp (by omega)
      · rw [if_neg h2, if_neg h2]
  have e0 : fX0_noNumber fl 0 = (2143289344, fl) := rfl
  have e1 : fX0_noNumber fl 1 = (2143289344, fl ||| 16) := rfl
  rw [e0, e1]
  cases nanB x1 <;> cases nanB x2 <;> simp only [if_true, Bool.true_eq_false, if_false]
  · rw [hle]
    exact ⟨rfl, rfl⟩
  all_goals cases loudB x1 <;> cases loudB x2 <;> exact ⟨rfl, rfl⟩
theorem RND_two {mo fl : Int32} {neg : Bool} {n : Nat} (h0 : n ≠ 0) (b : Int) (F : Nat) : RND mo fl neg (2 * (n * 2 ^ F) + 0) (b - 1) = RND mo fl neg n (b + F) := by
  have h := RND_scale mo fl neg h0 (b + F) (F + 1)
  have e1 : n * 2 ^ (F + 1) = 2 * (n * 2 ^ F) + 0 := by
    rw [Nat.pow_succ, ← Nat.mul_assoc, Nat.mul_comm, Nat.add_zero]
  have e2 : b + (F : Int) - ((F + 1 : Nat) : Int) = b - 1 := by omega
  rw [e1, e2] at h
  exact h
/-- the reference: one number put at 'at' above 'lo', settled, finished -/
theorem c_fin (row : Nat → Int64) (ba mr lo ex : Int32) {v : Int64} {at_ : Int32} {b : Bool} {n k F : Nat} (hv : v.toInt = n) (hn : n < 2 ^ k) (h0 : n ≠ 0) (hF : (at_ - lo).toInt = F) (hFk : F + k ≤ 600) (hlo1 : -800 ≤ lo.toInt) (hlo2 : lo.toInt ≤ 800) {mo : Int32} (hmo : mOk mo) (fl : Int32) {w : Int32} {neg : Bool} (hw : (w = 0) ↔ neg = false) :
    ∃ r ex', fX1_settle (fX1_put (fX1_empty row ba mr lo).1 (fX1_empty row ba mr lo).2.1 v at_ (b2 b)) = (b2 b, r) ∧ fX1_finish mo fl r (fX1_empty row ba mr lo).2.1 (fX1_empty row ba mr lo).2.2 ex w = ((RND mo fl neg n (lo.toInt + F)).1, (RND mo fl neg n (lo.toInt + F)).2, ex') := by
  obtain ⟨e1, e2, -⟩ := c_empty row ba mr lo
  rw [e1, e2]
  obtain ⟨r, s1, s2, s3⟩ := c_one row ba mr lo (b := b) hv hn h0 hF hFk
  have hpos : n * 2 ^ F ≠ 0 := Nat.mul_ne_zero h0 (Nat.ne_of_gt (Nat.pow_pos (by decide)))
  obtain ⟨ex', f1⟩ := v1_finish s2 s3 hpos hmo fl hlo1 hlo2 (mr := 0) (m := 0) (by decide) rfl (Or.inl rfl) ex hw
  rw [RND_two h0] at f1
  exact ⟨r, ex', s1, f1⟩
theorem mag0 {x : Int32} (h : zerB x = true) : lg_cmp (fX0_magnitudeOf x) 0 = 0 := by
  rw [lg_cmp_eq, ← Int64.toInt_inj, p0_mag, show Int64.toInt 0 = 0 from rfl]
  have : mX x = 0 := of_decide_eq_true h
  omega
theorem rounded_0 {mo fl s : Int32} {x : Int64} {y : Int32} (h : lg_cmp x 0 = 0) : fX0_rounded mo fl s x y = (s, fl) := by
  unfold fX0_rounded
  rw [if_pos h]
theorem pair_eta {α β : Type} (p : α × β) : (p.1, p.2) = p := rfl
theorem clamp_eq (n : Int32) : (if (-400 : Int32) < (if n < (400 : Int32) then n else (400 : Int32)) then (if n < (400 : Int32) then n else (400 : Int32)) else (-400 : Int32)) = (if (-400 : Int32) ≤ n then (if n ≤ (400 : Int32) then n else (400 : Int32)) else (-400 : Int32)) := by
  have c1 : Int32.toInt 400 = 400 := by decide
  have c2 : Int32.toInt (-400) = -400 := by decide
  by_cases h1 : n < 400
  · rw [if_pos h1]
    rw [Int32.lt_iff_toInt_lt, c1] at h1
    by_cases h2 : -400 < n
    · rw [if_pos h2]
      rw [Int32.lt_iff_toInt_lt, c2] at h2
      rw [if_pos (by rw [Int32.le_iff_toInt_le, c2]; omega), if_pos (by rw [Int32.le_iff_toInt_le, c1]; omega)]
    · rw [if_neg h2]
      rw [Int32.lt_iff_toInt_lt, c2] at h2
      by_cases h3 : -400 ≤ n
      · rw [if_pos h3, if_pos (by rw [Int32.le_iff_toInt_le, c1]; omega)]
        rw [Int32.le_iff_toInt_le, c2] at h3
        exact Int32.toInt_inj.mp (by rw [c2]; omega)
      · rw [if_neg h3]
  · rw [if_neg h1]
    rw [Int32.lt_iff_toInt_lt, c1] at h1
    rw [if_pos (by decide), if_pos (by rw [Int32.le_iff_toInt_le, c2]; omega)]
    by_cases h2 : n ≤ 400
    · rw [if_pos h2]
      rw [Int32.le_iff_toInt_le, c1] at h2
      exact Int32.toInt_inj.mp (by rw [c1]; omega)
    · rw [if_neg h2]
theorem clamp_in (n : Int32) : -400 ≤ (if (-400 : Int32) ≤ n then (if n ≤ (400 : Int32) then n else (400 : Int32)) else (-400 : Int32)).toInt ∧ (if (-400 : Int32) ≤ n then (if n ≤ (400 : Int32) then n else (400 : Int32)) else (-400 : Int32)).toInt ≤ 400 := by
  have c1 : Int32.toInt 400 = 400 := by decide
  have c2 : Int32.toInt (-400) = -400 := by decide
  by_cases h1 : -400 ≤ n
  · rw [if_pos h1]
    rw [Int32.le_iff_toInt_le, c2] at h1
    by_cases h2 : n ≤ 400
    · rw [if_pos h2]
      rw [Int32.le_iff_toInt_le, c1] at h2
      omega
    · rw [if_neg h2]
      omega
  · rw [if_neg h1]
    omega
theorem m_scale (mo fl : Int32) (row : Nat → Int64) (ba mr ex : Int32) (x1 x2 : Int32) (hmo : mOk mo) : (fX0_scale mo fl x1 x2).1 = (fX1_scale mo fl row ba mr ex x1 x2).1 ∧ (fX0_scale mo fl x1 x2).2 = (fX1_scale mo fl row ba mr ex x1 x2).2.1 := by
  have hX1 : fX1_scale mo fl row ba mr ex x1 x2 = (if fX1_isNone x1 = 0 then (if fX1_isInfinite x1 = 0 then (if fX1_isZero x1 = 0 then fX1_scale_k58 x1 (if (-400 : Int32) ≤ x2 then (if x2 ≤ (400 : Int32) then x2 else (400 : Int32)) else (-400 : Int32)) mo fl row ba mr ex else (x1, fl, row, ba, mr, ex)) else (x1, fl, row, ba, mr, ex)) else fX1_scale_k14 ((fX1_none fl x1 (0 : Int32) (0 : Int32)).1) mo ((fX1_none fl x1 (0 : Int32) (0 : Int32)).2) row ba mr ex) := by
    unfold fX1_scale
    by_cases h1 : (-400 : Int32) ≤ x2 <;> by_cases h2 : x2 ≤ (400 : Int32) <;> simp [h1, h2]
  rw [hX1]
  unfold fX0_scale fX0_scale_k39 fX0_scale_k57 fX0_scale_k15 fX1_scale_k14
  rw [clamp_eq, p0_none, p0_inf, p1_none, p1_inf, p1_zero, p0_loud, p0_noNumber, p1_nonef, loud0]
  obtain ⟨k1, k2⟩ := clamp_in x2
  generalize (if (-400 : Int32) ≤ x2 then (if x2 ≤ (400 : Int32) then x2 else (400 : Int32)) else (-400 : Int32)) = by_ at k1 k2 ⊢
  simp only [b2_0]
  cases nanB x1
  · cases hin : infB x1
    · simp only [if_true]
      cases hz : zerB x1
      · simp only [if_true]
        have hm0 := zer_not hz
        have hmu := p0_unit x1
        have hp1 := pX_ge x1
        have hp2 := pX_le x1
        have hp := v1_place x1
        have s1 : (fX0_unitOf x1 + by_).toInt = pX x1 + by_.toInt := by rw [i_add (by omega) (by omega), hmu]
        have s2 : (fX1_place x1 + by_).toInt = pX x1 + by_.toInt := by rw [i_add (by omega) (by omega), hp]
        have hmlt := mX_lt x1
        rw [p0_sign, v0_rounded mo fl (ng x1) (p0_mag x1) hm0 (by omega) s1 (by omega) (by omega)]
        unfold fX1_scale_k58 fX1_scale_k69 fX1_scale_k86 fX1_scale_k90 fX1_scale_k98
        rw [p1_neg]
        have hsub : ((fX1_empty row ba mr (fX1_place x1 + by_)).2.1 - (fX1_place x1 + by_)).toInt = ((0 : Nat) : Int) := by
          rw [(c_empty row ba mr _).1]
          simp
        obtain ⟨r, ex', t1, t2⟩ := c_fin row ba mr (fX1_place x1 + by_) ex (v := Int32.toInt64 (fX1_units x1)) (b := ng x1) (by rw [Int32.toInt_toInt64]; exact v1_units x1) hmlt hm0 hsub (by omega) (by omega) (by omega) hmo fl (w := b2 (ng x1)) (b2_0 (ng x1))
        rw [t1]
        simp only
        rw [t2, s2]
        simp
      · simp only [Bool.true_eq_false, if_false]
        rw [rounded_0 (mag0 hz), p0_sign, zero_pat hz]
        exact ⟨rfl, rfl⟩
    · simp
  · simp only [Bool.true_eq_false, if_false]
    cases loudB x1 <;> first | exact ⟨rfl, rfl⟩ | simp
theorem m_fromInt (mo fl : Int32) (row : Nat → Int64) (ba mr ex : Int32) (x1 : Int32) (hmo : mOk mo) : (fX0_fromInt mo fl x1).1 = (fX1_fromInt mo fl row ba mr ex x1).1 ∧ (fX0_fromInt mo fl x1).2 = (fX1_fromInt mo fl row ba mr ex x1).2.1 := by
  unfold fX0_fromInt fX0_fromInt_k14 fX1_fromInt
  have hl := Int32.toInt_lt x1
  have hg := Int32.le_toInt x1
  have habs : (if 0 < Int32.toInt64 x1 then Int32.toInt64 x1 else -Int32.toInt64 x1).toInt = ((x1.toInt.natAbs : Nat) : Int) := by
    by_cases h : 0 < Int32.toInt64 x1
    · rw [if_pos h]
      rw [Int64.lt_iff_toInt_lt, Int32.toInt_toInt64, show Int64.toInt 0 = 0 from rfl] at h
      rw [Int32.toInt_toInt64]
      omega
    · rw [if_neg h]
      rw [Int64.lt_iff_toInt_lt, Int32.toInt_toInt64, show Int64.toInt 0 = 0 from rfl] at h
      rw [l_neg (by rw [Int32.toInt_toInt64]; omega), Int32.toInt_toInt64]
      omega
  generalize (if 0 < Int32.toInt64 x1 then Int32.toInt64 x1 else -Int32.toInt64 x1) = av at habs ⊢
  by_cases h0 : x1 = 0
  · rw [if_pos h0]
    have : lg_cmp av 0 = 0 := by
      rw [lg_cmp_eq, ← Int64.toInt_inj, habs, h0]
      rfl
    rw [rounded_0 this, h0]
    exact ⟨(by decide : fX0_signOf 0 = 0), rfl⟩
  · rw [if_neg h0]
    have hn0 : x1.toInt.natAbs ≠ 0 := fun w => h0 (Int32.toInt_inj.mp (by
      rw [show Int32.toInt 0 = 0 from rfl]
      omega))
    rw [p0_sign, v0_rounded mo fl (ng x1) habs hn0 (by omega) (show Int32.toInt 0 = 0 from rfl) (by decide) (by decide)]
    have hk : fX1_fromInt_k11 x1 mo fl (fX1_empty row ba mr 0).1 (fX1_empty row ba mr 0).2.1 (fX1_empty row ba mr 0).2.2 ex = fX1_fromInt_k34 (if 0 ≤ x1 then Int32.toInt64 x1 else -Int32.toInt64 x1) 0 (b2 (ng x1)) mo fl (fX1_empty row ba mr 0).1 (fX1_empty row ba mr 0).2.1 (fX1_empty row ba mr 0).2.2 ex := by
      rw [← p1_neg]
      unfold fX1_fromInt_k11 fX1_fromInt_k24 fX1_isNegative
      by_cases h : 0 ≤ x1 <;> simp [h]
    rw [hk]
    have hav : (if 0 ≤ x1 then Int32.toInt64 x1 else -Int32.toInt64 x1).toInt = ((x1.toInt.natAbs : Nat) : Int) := by
      by_cases h : 0 ≤ x1
      · rw [if_pos h]
        rw [Int32.le_iff_toInt_le, show Int32.toInt 0 = 0 from rfl] at h
        rw [Int32.toInt_toInt64]
        omega
      · rw [if_neg h]
        rw [Int32.le_iff_toInt_le, show Int32.toInt 0 = 0 from rfl] at h
        rw [l_neg (by rw [Int32.toInt_toInt64]; omega), Int32.toInt_toInt64]
        omega
    unfold fX1_fromInt_k34 fX1_fromInt_k37 fX1_fromInt_k41 fX1_fromInt_k47
    obtain ⟨r, ex', t1, t2⟩ := c_fin row ba mr 0 ex (at_ := 0) (b := ng x1) (k := 32) (F := 0) hav (by omega) hn0 (by decide) (by omega) (by decide) (by decide) hmo fl (w := b2 (ng x1)) (b2_0 (ng x1))
    rw [t1]
    simp only
    rw [t2]
    simp
theorem ng_ne (x y : Int32) : (b2 (ng x) = b2 (ng y)) ↔ (ng x ^^ ng y) = false := by
  rw [b2_eq]
  cases ng x <;> cases ng y <;> decide
theorem sgnInf (b : Bool) (y : Int32) (hy : (y = 0) ↔ b = false) : fX1_signed 2139095040 y = sgn b ||| 2139095040 := v1_signed _ _ hy
theorem sgnZero (b : Bool) (y : Int32) (hy : (y = 0) ↔ b = false) : fX1_signed 0 y = sgn b := by
  rw [v1_signed 0 y hy]
  simp
theorem mag_mul (x y : Int32) : (fX0_magnitudeOf x * fX0_magnitudeOf y).toInt = ((mX x * mX y : Nat) : Int) := by
  have h5 := (v1_prod x y).2
  have hx := p0_mag x
  have hy := p0_mag y
  have e : (mX x : Int) * (mX y : Int) = ((mX x * mX y : Nat) : Int) := by rw [Int.natCast_mul]
  rw [l_mul] <;> rw [hx, hy, e] <;> omega
theorem unit_add (x y : Int32) : (fX0_unitOf x + fX0_unitOf y).toInt = pX x + pX y := by
  have h1 := p0_unit x
  have h2 := p0_unit y
  have h3 := pX_ge x
  have h4 := pX_le x
  have h5 := pX_ge y
  have h6 := pX_le y
  rw [i_add (by omega) (by omega), h1, h2]
theorem place_add (x y : Int32) : (fX1_place x + fX1_place y).toInt = pX x + pX y := by
  have h1 := v1_place x
  have h2 := v1_place y
  have h3 := pX_ge x
  have h4 := pX_le x
  have h5 := pX_ge y
  have h6 := pX_le y
  rw [i_add (by omega) (by omega), h1, h2]
theorem place_sub {z : Int32} {w : Int} (hz : z.toInt = w) (h1 : -298 ≤ w) (h2 : w ≤ 1000) : (z - (-298)).toInt = (((w + 298).toNat : Nat) : Int) := by
  have c : Int32.toInt (-298) = -298 := by decide
  rw [i_sub (by omega) (by omega), hz, c]
  omega
theorem b2f : b2 false = 0 := rfl
theorem b2t : b2 true = 1 := rfl
theorem e10 : ((1 : Int32) = 0) = False := by decide
theorem e01 : ((0 : Int32) = 1) = False := by decide
theorem nn0 (fl : Int32) : fX0_noNumber fl 0 = (2143289344, fl) := rfl
theorem nn1 (fl : Int32) : fX0_noNumber fl 1 = (2143289344, fl ||| 16) := rfl
theorem hs0 : fX1_signed 2139095040 0 = sgn false ||| 2139095040 := by decide
theorem hs1 : fX1_signed 2139095040 1 = sgn true ||| 2139095040 := by decide
theorem hz0 : fX1_signed 0 0 = sgn false := by decide
theorem hz1 : fX1_signed 0 1 = sgn true := by decide
theorem inf_zer {x : Int32} (h : infB x = true) : zerB x = false := by
  unfold infB at h
  simp at h
  unfold zerB mX
  simp [h.1]
theorem inf_nan {x : Int32} (h : infB x = true) : nanB x = false := by
  unfold infB at h
  simp at h
  unfold nanB
  simp [h.1, h.2]
theorem zer_inf {x : Int32} (h : zerB x = true) : infB x = false := by
  obtain ⟨h1, h2⟩ := zer_parts h
  unfold infB
  simp [h1]
theorem mul_fin {mo fl : Int32} {row : Nat → Int64} {ba mr ex x1 x2 : Int32} (hmo : mOk mo) (h1 : zerB x1 = false) (h2 : zerB x2 = false) {y : Int32} {neg : Bool} (hy : y = b2 neg) :
    (fX1_multiply_k120 x1 x2 y mo fl (fX1_empty row ba mr (-298)).1 (fX1_empty row ba mr (-298)).2.1 (fX1_empty row ba mr (-298)).2.2 ex).1 = (RND mo fl neg (mX x1 * mX x2) (pX x1 + pX x2)).1 ∧ (fX1_multiply_k120 x1 x2 y mo fl (fX1_empty row ba mr (-298)).1 (fX1_empty row ba mr (-298)).2.1 (fX1_empty row ba mr (-298)).2.2 ex).2.1 = (RND mo fl neg (mX x1 * mX x2) (pX x1 + pX x2)).2 := by
  have hm1 := zer_not h1
  have hm2 := zer_not h2
  have hm12 : mX x1 * mX x2 ≠ 0 := Nat.mul_ne_zero hm1 hm2
  have hlt := (v1_prod x1 x2).2
  have g1 := pX_ge x1
  have g2 := pX_le x1
  have g3 := pX_ge x2
  have g4 := pX_le x2
  have hF := place_sub (place_add x1 x2) (by omega) (by omega)
  have c298 : Int32.toInt (-298) = -298 := by decide
  have hE : Int32.toInt (-298) + (((pX x1 + pX x2 + 298).toNat : Nat) : Int) = pX x1 + pX x2 := by omega
  obtain ⟨r, ex', t1, t2⟩ := c_fin row ba mr (-298) ex (b := false) (v1_prod x1 x2).1 hlt hm12 hF (by omega) (by decide) (by decide) hmo fl (w := b2 neg) (neg := neg) (b2_0 neg)
  rw [b2f] at t1
  rw [hE] at t2
  subst hy
  unfold fX1_multiply_k120 fX1_multiply_k145
  rw [t1]
  unfold fX1_multiply_k149
  cases neg
  · rw [b2f] at t2 ⊢
    simp only [if_true]
    unfold fX1_multiply_k163 fX1_multiply_k166
    rw [t2]
    exact ⟨rfl, rfl⟩
  · rw [b2t] at t2 ⊢
    simp only [e10, if_false]
    unfold fX1_multiply_k163 fX1_multiply_k166
    rw [t2]
    exact ⟨rfl, rfl⟩
