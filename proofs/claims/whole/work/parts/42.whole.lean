/-! whole, toInt -/
theorem vs_nonneg {row : Nat → Int64} : ∀ n : Nat, (∀ k, k < n → 0 ≤ (row k).toInt) → 0 ≤ vs row n
  | 0, _ => Int.le_refl _
  | n + 1, h => by
    have h1 := vs_nonneg n (fun k hk => h k (by omega))
    have h2 : 0 ≤ (row n).toInt * 2 ^ (24 * n) := Int.mul_nonneg (h n (by omega)) (Int.le_of_lt (pow_pos' _))
    show 0 ≤ vs row n + _
    omega
theorem vs_term {row : Nat → Int64} : ∀ n : Nat, (∀ k, k < n → 0 ≤ (row k).toInt) → ∀ k, k < n → (row k).toInt * 2 ^ (24 * k) ≤ vs row n
  | 0, _, k, hk => absurd hk (by omega)
  | n + 1, h, k, hk => by
    have h1 := vs_nonneg n (fun k hk => h k (by omega))
    have h2 : 0 ≤ (row n).toInt * 2 ^ (24 * n) := Int.mul_nonneg (h n (by omega)) (Int.le_of_lt (pow_pos' _))
    show _ ≤ vs row n + _
    rcases Nat.lt_or_ge k n with q | q
    · have := vs_term n (fun k hk => h k (by omega)) k q
      omega
    · have : k = n := by omega
      subst this
      omega
theorem RP_small {row : Nat → Int64} {n : Nat} (h : ∀ k, k < 25 → 0 ≤ (row k).toInt) (hv : vs row 25 = n) (hn : n < 2 ^ 24) : RP row n := by
  refine vs_dig 25 n (fun k hk => ⟨h k hk, ?_⟩) hv
  have h1 := vs_term 25 h k hk
  have h2 : (row k).toInt * 1 ≤ (row k).toInt * 2 ^ (24 * k) := Int.mul_le_mul_of_nonneg_left (by have := pow_pos' (24 * k); omega) (h k hk)
  rw [hv] at h1
  omega
theorem rq_two (mo : Int32) (neg : Bool) (V : Nat) {d : Nat} (hd : 0 < d) : rq mo neg (2 * V + 0) ((d : Int) + 1) = rq mo neg V (d : Int) := by
  have e : 2 * V + 0 = V * 2 ^ 1 := by omega
  rw [e, show (d : Int) + 1 = ((d + 1 : Nat) : Int) by omega, rq_pos _ _ _ (by omega), rq_pos _ _ _ hd, stp_shift _ _ _ _ _ hd, Nat.pow_add, Nat.mul_div_mul_right _ _ (by decide)]
theorem inx_two (V : Nat) {d : Nat} (hd : 0 < d) : inx (2 * V + 0) ((d : Int) + 1) = inx V (d : Int) := by
  unfold inx
  have e1 : ((d : Int) + 1).toNat = d + 1 := by omega
  rw [e1, Int.toNat_natCast, decide_eq_true (show (0 : Int) < (d : Int) + 1 by omega), decide_eq_true (show (0 : Int) < (d : Int) by omega)]
  have := tw_mod0 V (m := 0) (by decide) d
  simp only [this, and_true]
/-- the reference's nearest, below the units -/
theorem v1_nearestN (mo : Int32) (row : Nat → Int64) (ba mr ex x1 : Int32) (hp : pX x1 < 0) :
    (fX1_nearest mo row ba mr ex x1).1.toInt = ((rq mo (ng x1) (mX x1) (-(pX x1)) : Nat) : Int) ∧ (fX1_nearest mo row ba mr ex x1).2.2.2.2 = if inx (mX x1) (-(pX x1)) = true then 0 else 1 := by
  have hpl := v1_place x1
  have hge := pX_ge x1
  have hml := mX_lt x1
  unfold fX1_nearest fX1_nearest_k5
  have hlt : fX1_place x1 < 0 := by
    rw [Int32.lt_iff_toInt_lt, hpl, show Int32.toInt 0 = 0 from rfl]
    exact hp
  rw [if_pos hlt]
  unfold fX1_nearest_k38 fX1_nearest_k49 fX1_nearest_k59
  obtain ⟨e1, e2, e3⟩ := c_empty row ba mr (fX1_place x1)
  rw [e1, e2]
  have hv : (Int32.toInt64 (fX1_units x1)).toInt = (mX x1 : Int) := by rw [Int32.toInt_toInt64]; exact v1_units x1
  obtain ⟨p1, p2⟩ := v1_put (row := (fX1_empty row ba mr (fX1_place x1)).1) (ba := fX1_place x1) (x3 := fX1_place x1) (x4 := 0) (pSg_b2 false) hv hml (F := 0) (by simp) (by decide) (lo := 0) (hi := 0) (by decide) (by decide) e3
  rw [c_zero] at p1
  have p1' : vs (fX1_put (fX1_empty row ba mr (fX1_place x1)).1 (fX1_place x1) (Int32.toInt64 (fX1_units x1)) (fX1_place x1) 0) 25 = (mX x1 : Int) := by
    rw [p1]
    simp
  have hR : RP (fX1_put (fX1_empty row ba mr (fX1_place x1)).1 (fX1_place x1) (Int32.toInt64 (fX1_units x1)) (fX1_place x1) 0) (mX x1) := by
    refine RP_small (fun k hk => ?_) p1' hml
    have := (p2 k hk).1
    simp at this
    exact this
  have hV : mX x1 < 2 ^ 600 := Nat.lt_of_lt_of_le hml (Nat.pow_le_pow_right (by decide) (by decide))
  have hneg : (-(fX1_place x1)).toInt = -(pX x1) := by rw [i_neg (by omega), hpl]
  have hbl : bl (mX x1) ≤ 24 := bl_le_of hml
  obtain ⟨d, hd⟩ : ∃ d : Nat, -(pX x1) = d := ⟨(-(pX x1)).toNat, by omega⟩
  have hd0 : 0 < d := by omega
  obtain ⟨r1, r2⟩ := v1_rounded hR hV mo (mr := 0) (m := 0) (by decide) rfl ex (x1 := -(fX1_place x1)) (x2 := fX1_isNegative x1) (by omega) (by omega) (qb_lt (by omega)) (Or.inr rfl) (neg := ng x1) (by rw [p1_neg]; exact b2_0 _)
  rw [hneg, hd, rq_two _ _ _ hd0] at r1
  rw [hneg, hd, inx_two _ hd0] at r2
  rw [hd]
  exact ⟨by rw [Int32.toInt_toInt64]; exact r1, r2⟩
theorem unit_neg (x : Int32) : (-(fX0_unitOf x)).toInt = -(pX x) := by
  have h1 := p0_unit x
  have h2 := pX_ge x
  have h3 := pX_le x
  rw [i_neg (by omega), h1]
theorem mul_near (mo x : Int32) (hp : pX x < 0) : (fX0_multiple mo (sgn (ng x)) (fX0_magnitudeOf x) (-(fX0_unitOf x))).toInt = ((rq mo (ng x) (mX x) (-(pX x)) : Nat) : Int) := by
  have hml := mX_lt x
  exact v0_multiple mo _ (sgn0 _) (p0_mag x) (by omega) (unit_neg x) (by omega) (fun h => absurd h (by omega))
theorem rq_near_le (mo x : Int32) (hp : pX x < 0) : rq mo (ng x) (mX x) (-(pX x)) ≤ 2 ^ 24 := by
  have hbl : bl (mX x) ≤ 24 := bl_le_of (mX_lt x)
  exact rq_le mo _ (by omega)
theorem whole_k52 (mo fl x : Int32) (hp : pX x < 0) : fX0_whole_k52 x mo fl = if rq mo (ng x) (mX x) (-(pX x)) = 0 then (sgn (ng x), fl) else RND mo fl (ng x) (rq mo (ng x) (mX x) (-(pX x))) 0 := by
  unfold fX0_whole_k52 fX0_whole_k78
  rw [p0_sign]
  have h := mul_near mo x hp
  have hle := rq_near_le mo x hp
  generalize rq mo (ng x) (mX x) (-(pX x)) = q at h hle ⊢
  by_cases h0 : q = 0
  · rw [if_pos h0, rounded_0]
    rw [lg_cmp_eq, ← Int64.toInt_inj, h, h0]
    rfl
  · rw [if_neg h0, v0_rounded mo fl (ng x) h h0 (by omega) (show Int32.toInt 0 = 0 from rfl) (by decide) (by decide)]
theorem whole_k61 {mo fl : Int32} {row : Nat → Int64} {ba mr ex x : Int32} {v : Int64} {q : Nat} (hmo : mOk mo) (hv : v.toInt = (q : Int)) (hq : q ≤ 2 ^ 24) :
    (fX1_whole_k61 x v mo fl row ba mr ex).1 = (if q = 0 then (sgn (ng x), fl) else RND mo fl (ng x) q 0).1 ∧ (fX1_whole_k61 x v mo fl row ba mr ex).2.1 = (if q = 0 then (sgn (ng x), fl) else RND mo fl (ng x) q 0).2 := by
  unfold fX1_whole_k61
  have hc : (lg_cmp v 0 = 0) ↔ q = 0 := by
    rw [lg_cmp_eq, ← Int64.toInt_inj, hv, show Int64.toInt 0 = 0 from rfl]
    omega
  by_cases h0 : q = 0
  · rw [if_pos (hc.mpr h0), if_pos h0, p1_neg, sgnZero _ _ (b2_0 _)]
    exact ⟨rfl, rfl⟩
  · rw [if_neg (fun w => h0 (hc.mp w)), if_neg h0]
    unfold fX1_whole_k81 fX1_whole_k88
    obtain ⟨r, ex', t1, t2⟩ := c_fin row ba mr 0 ex (at_ := 0) (b := false) (k := 25) (F := 0) hv (by omega) h0 (by decide) (by decide) (by decide) (by decide) hmo fl (w := b2 (ng x)) (neg := ng x) (b2_0 _)
    rw [b2f] at t1
    rw [t1]
    have hk : fX1_whole_k92 x 0 mo fl r (fX1_empty row ba mr 0).2.1 (fX1_empty row ba mr 0).2.2 ex = fX1_whole_k109 (b2 (ng x)) mo fl r (fX1_empty row ba mr 0).2.1 (fX1_empty row ba mr 0).2.2 ex := by
      unfold fX1_whole_k92
      rw [p1_neg]
      cases ng x
      · simp only [b2f, if_true]
      · simp only [b2t, e10, if_false]
    show (fX1_whole_k92 x 0 mo fl r (fX1_empty row ba mr 0).2.1 (fX1_empty row ba mr 0).2.2 ex).1 = _ ∧ (fX1_whole_k92 x 0 mo fl r (fX1_empty row ba mr 0).2.1 (fX1_empty row ba mr 0).2.2 ex).2.1 = _
    rw [hk]
    unfold fX1_whole_k109 fX1_whole_k112
    rw [t2]
    exact ⟨rfl, rfl⟩
theorem m_whole (mo fl : Int32) (row : Nat → Int64) (ba mr ex : Int32) (x1 : Int32) (hmo : mOk mo) : (fX0_whole mo fl x1).1 = (fX1_whole mo fl row ba mr ex x1).1 ∧ (fX0_whole mo fl x1).2 = (fX1_whole mo fl row ba mr ex x1).2.1 := by
  unfold fX0_whole fX1_whole
  rw [p0_none, p0_inf, p1_none, p1_inf, p1_zero]
  have hu : (fX0_unitOf x1 < 0) ↔ pX x1 < 0 := by
    rw [Int32.lt_iff_toInt_lt, p0_unit, show Int32.toInt 0 = 0 from rfl]
  have hp : (fX1_place x1 < 0) ↔ pX x1 < 0 := by
    rw [Int32.lt_iff_toInt_lt, v1_place, show Int32.toInt 0 = 0 from rfl]
  cases hn : nanB x1
  · cases hi : infB x1
    · simp only [b2f, if_true, hu, hp]
      by_cases hneg : pX x1 < 0
      · simp only [hneg, if_true]
        rw [v0_isMultiple (p0_mag x1) (unit_neg x1), whole_k52 mo _ x1 hneg, whole_k52 mo _ x1 hneg]
        cases hz : zerB x1
        · simp only [b2f, if_true]
          obtain ⟨n1, n2⟩ := v1_nearestN mo row ba mr ex x1 hneg
          unfold fX1_whole_k43
          rw [n2]
          have hle := rq_near_le mo x1 hneg
          cases inx (mX x1) (-(pX x1))
          · simp only [Bool.false_eq_true, if_false, e10]
            obtain ⟨f1, f2⟩ := whole_k61 (mo := mo) (fl := fl) (row := (fX1_nearest mo row ba mr ex x1).2.1) (ba := (fX1_nearest mo row ba mr ex x1).2.2.1) (mr := (fX1_nearest mo row ba mr ex x1).2.2.2.1) (ex := 1) (x := x1) hmo n1 hle
            rw [f1, f2]
            exact ⟨rfl, rfl⟩
          · simp only [if_true]
            obtain ⟨f1, f2⟩ := whole_k61 (mo := mo) (fl := fl ||| 1) (row := (fX1_nearest mo row ba mr ex x1).2.1) (ba := (fX1_nearest mo row ba mr ex x1).2.2.1) (mr := (fX1_nearest mo row ba mr ex x1).2.2.2.1) (ex := 0) (x := x1) hmo n1 hle
            rw [f1, f2]
            exact ⟨rfl, rfl⟩
        · -- a zero stays
          simp only [b2t, e10, if_false]
          have hm : mX x1 = 0 := of_decide_eq_true hz
          have hi0 : inx (mX x1) (-(pX x1)) = false := by
            unfold inx
            rw [hm, Nat.zero_mod]
            simp
          have hr0 : rq mo (ng x1) (mX x1) (-(pX x1)) = 0 := by
            obtain ⟨d, hd⟩ : ∃ d : Nat, -(pX x1) = d := ⟨(-(pX x1)).toNat, by omega⟩
            rw [hd, rq_pos _ _ _ (by omega), hm, Nat.zero_div]
            have : stp mo (ng x1) 0 d = false := by
              unfold stp
              rw [Nat.zero_mod, if_pos rfl]
            rw [this]
            rfl
          rw [hi0, hr0]
          simp only [Bool.false_eq_true, if_false, if_true, e10]
          rw [zero_pat hz]
          exact ⟨rfl, trivial⟩
      · simp only [hneg, if_false]
        cases zerB x1 <;> simp only [b2f, b2t, e10, if_true, if_false, and_self]
    · simp only [b2f, b2t, e10, if_true, if_false, and_self]
  · simp only [b2t, e10, if_false]
    unfold fX0_whole_k15 fX1_whole_k14
    rw [p0_loud, p0_noNumber, p1_nonef, loud0]
    cases loudB x1 <;> exact ⟨rfl, rfl⟩
theorem v1_nearestP (mo : Int32) (row : Nat → Int64) (ba mr ex x1 : Int32) {p : Nat} (hp : pX x1 = (p : Int)) (h16 : p < 16) :
    (fX1_nearest mo row ba mr ex x1).1.toInt = ((mX x1 * 2 ^ p : Nat) : Int) ∧ (fX1_nearest mo row ba mr ex x1).2.2.2.2 = 1 := by
  have hpl := v1_place x1
  have hml := mX_lt x1
  unfold fX1_nearest fX1_nearest_k5
  have hlt : ¬ fX1_place x1 < 0 := by
    rw [Int32.lt_iff_toInt_lt, hpl, hp, show Int32.toInt 0 = 0 from rfl]
    omega
  have h16' : ¬ (16 : Int32) ≤ fX1_place x1 := by
    rw [Int32.le_iff_toInt_le, hpl, hp, show Int32.toInt 16 = 16 from rfl]
    omega
  rw [if_neg hlt, if_neg h16']
  refine ⟨?_, rfl⟩
  have e : (mX x1 : Int) * 2 ^ p = ((mX x1 * 2 ^ p : Nat) : Int) := by
    rw [Int.natCast_mul]
    congr 1
  have hb : mX x1 * 2 ^ p < 2 ^ 40 := by
    calc mX x1 * 2 ^ p < 2 ^ 24 * 2 ^ p := Nat.mul_lt_mul_of_pos_right hml (Nat.pow_pos (by decide))
      _ = 2 ^ (24 + p) := (Nat.pow_add 2 _ _).symm
      _ ≤ 2 ^ 40 := Nat.pow_le_pow_right (by decide) (by omega)
  have hu : (Int32.toInt64 (fX1_units x1)).toInt = (mX x1 : Int) := by rw [Int32.toInt_toInt64]; exact v1_units x1
  show (Int32.toInt64 (fX1_units x1) <<< (Int32.toInt64 (fX1_place x1) &&& 63)).toInt = _
  generalize mX x1 * 2 ^ p = w at e hb ⊢
  rw [l_shl (k := p) (by rw [hpl, hp]) (by omega)] <;> rw [hu, e] <;> omega
theorem near_eq (mo : Int32) (row : Nat → Int64) (ba mr ex x1 : Int32) (hp : pX x1 ≤ 8) :
    fX0_multiple mo (sgn (ng x1)) (fX0_magnitudeOf x1) (-(fX0_unitOf x1)) = (fX1_nearest mo row ba mr ex x1).1 ∧ (fX1_nearest mo row ba mr ex x1).2.2.2.2 = (if inx (mX x1) (-(pX x1)) = true then 0 else 1) := by
  rcases Int.lt_or_le (pX x1) 0 with h | h
  · obtain ⟨n1, n2⟩ := v1_nearestN mo row ba mr ex x1 h
    refine ⟨Int64.toInt_inj.mp ?_, n2⟩
    rw [n1, mul_near mo x1 h]
  · obtain ⟨p, hpp⟩ : ∃ p : Nat, pX x1 = (p : Int) := ⟨(pX x1).toNat, by omega⟩
    obtain ⟨n1, n2⟩ := v1_nearestP mo row ba mr ex x1 hpp (by omega)
    have hml := mX_lt x1
    have hb : mX x1 * 2 ^ p < 2 ^ 62 := by
      calc mX x1 * 2 ^ p < 2 ^ 24 * 2 ^ p := Nat.mul_lt_mul_of_pos_right hml (Nat.pow_pos (by decide))
        _ = 2 ^ (24 + p) := (Nat.pow_add 2 _ _).symm
        _ ≤ 2 ^ 62 := Nat.pow_le_pow_right (by decide) (by omega)
    have e1 : (-(-(pX x1))).toNat = p := by omega
    constructor
    · apply Int64.toInt_inj.mp
      rw [n1, v0_multiple mo _ (sgn0 (ng x1)) (p0_mag x1) (by omega) (unit_neg x1) (by omega) (fun _ => by rw [e1]; exact hb), rq_neg _ _ _ (by omega), e1]
    · rw [n2]
      have : inx (mX x1) (-(pX x1)) = false := by
        unfold inx
        rw [decide_eq_false (show ¬ (0 < -(pX x1)) by omega)]
        rfl
      rw [this]
      rfl
theorem toInt_inv (fl : Int32) : fX0_invalidInt fl = (-2147483648, fl ||| 16) := rfl
theorem toInt_k16 (mo fl : Int32) : fX0_toInt_k16 mo fl = (-2147483648, fl ||| 16) := rfl
theorem toInt_k72 (mo fl : Int32) : fX0_toInt_k72 mo fl = (-2147483648, fl ||| 16) := rfl
theorem near_nn (mo : Int32) (row : Nat → Int64) (ba mr ex x1 : Int32) (hp : pX x1 ≤ 15) : 0 ≤ (fX1_nearest mo row ba mr ex x1).1.toInt ∧ (fX1_nearest mo row ba mr ex x1).1.toInt < 2 ^ 41 ∧ (8 < pX x1 → 2 ^ 32 ≤ (fX1_nearest mo row ba mr ex x1).1.toInt) := by
  rcases Int.lt_or_le (pX x1) 0 with h | h
  · obtain ⟨n1, n2⟩ := v1_nearestN mo row ba mr ex x1 h
    have := rq_near_le mo x1 h
    rw [n1]
    omega
  · obtain ⟨p, hpp⟩ : ∃ p : Nat, pX x1 = (p : Int) := ⟨(pX x1).toNat, by omega⟩
    obtain ⟨n1, n2⟩ := v1_nearestP mo row ba mr ex x1 hpp (by omega)
    have hml := mX_lt x1
    have hb : mX x1 * 2 ^ p < 2 ^ 40 := by
      calc mX x1 * 2 ^ p < 2 ^ 24 * 2 ^ p := Nat.mul_lt_mul_of_pos_right hml (Nat.pow_pos (by decide))
        _ = 2 ^ (24 + p) := (Nat.pow_add 2 _ _).symm
        _ ≤ 2 ^ 40 := Nat.pow_le_pow_right (by decide) (by omega)
    have hlo : 8 < p → 2 ^ 32 ≤ mX x1 * 2 ^ p := fun h8 => by
      have hm : 2 ^ 23 ≤ mX x1 := by
        unfold pX at hpp
        unfold mX
        split at hpp
        · omega
        · rw [if_neg (by assumption)]
          omega
      calc 2 ^ 32 = 2 ^ 23 * 2 ^ 9 := by decide
        _ ≤ mX x1 * 2 ^ 9 := Nat.mul_le_mul_right _ hm
        _ ≤ mX x1 * 2 ^ p := Nat.mul_le_mul_left _ (Nat.pow_le_pow_right (by decide) (by omega))
    rw [n1]
    generalize mX x1 * 2 ^ p = w at hb hlo ⊢
    omega
theorem m_toInt (mo fl : Int32) (row : Nat → Int64) (ba mr ex : Int32) (x1 : Int32) (hmo : mOk mo) : (fX0_toInt mo fl x1).1 = (fX1_toInt mo fl row ba mr ex x1).1 ∧ (fX0_toInt mo fl x1).2 = (fX1_toInt mo fl row ba mr ex x1).2.1 := by
  unfold fX0_toInt fX1_toInt
  rw [p0_fin, toInt_k16]
  have heX : ((166 : Int32) ≤ fX1_exponent x1) ↔ 166 ≤ eX x1 := by
    rw [Int32.le_iff_toInt_le, v1_exponent, show Int32.toInt 166 = 166 from rfl]
    omega
  have hu : (fX0_unitOf x1 ≤ 8) ↔ pX x1 ≤ 8 := by
    rw [Int32.le_iff_toInt_le, p0_unit, show Int32.toInt 8 = 8 from rfl]
  by_cases h : 166 ≤ eX x1
  · rw [if_pos (heX.mpr h)]
    have hp : ¬ pX x1 ≤ 8 := by
      unfold pX
      rw [if_neg (by omega)]
      omega
    have e1 : fX1_toInt_k15 x1 0 mo fl row ba mr ex = (-2147483648, fl ||| 16, row, ba, mr, ex) := rfl
    rw [e1, if_neg (fun w => hp (hu.mp w))]
    cases (!nanB x1 && !infB x1) <;> simp only [b2f, b2t, e10, if_true, if_false, and_self]
  · rw [if_neg (fun w => h (heX.mp w))]
    have hn : nanB x1 = false := by
      unfold nanB
      have : ¬ (eX x1 = 255) := by omega
      simp [this]
    have hi : infB x1 = false := by
      unfold infB
      have : ¬ (eX x1 = 255) := by omega
      simp [this]
    rw [hn, hi]
    simp only [Bool.not_false, Bool.and_true, b2t, e10, if_false]
    have hp15 : pX x1 ≤ 15 := by
      unfold pX
      split <;> omega
    obtain ⟨nn1', nn2, nn3⟩ := near_nn mo row ba mr ex x1 hp15
    have hk : fX1_toInt_k15 x1 1 mo fl row ba mr ex = fX1_toInt_k29 x1 1 (fX1_nearest mo row ba mr ex x1).1 mo fl (fX1_nearest mo row ba mr ex x1).2.1 (fX1_nearest mo row ba mr ex x1).2.2.1 (fX1_nearest mo row ba mr ex x1).2.2.2.1 (fX1_nearest mo row ba mr ex x1).2.2.2.2 := by
      unfold fX1_toInt_k15 fX1_toInt_k25
      simp only [e10, if_false]
    rw [hk]
    unfold fX1_toInt_k29
    rw [p1_neg]
    simp only [e10, if_false]
    have c1 : ∀ z : Int64, (0 < lg_cmp z 2147483647) ↔ 2147483647 < z.toInt := fun z => by
      rw [lg_cmp_gt, Int64.lt_iff_toInt_lt, show Int64.toInt 2147483647 = 2147483647 from rfl]
    have c2 : ∀ z : Int64, (0 < lg_cmp z 2147483648) ↔ 2147483648 < z.toInt := fun z => by
      rw [lg_cmp_gt, Int64.lt_iff_toInt_lt, show Int64.toInt 2147483648 = 2147483648 from rfl]
    have c3 : ∀ z : Int64, (lg_cmp z (-2147483648) < 0) ↔ z.toInt < -2147483648 := fun z => by
      rw [lg_cmp_lt, Int64.lt_iff_toInt_lt, show Int64.toInt (-2147483648) = -2147483648 from rfl]
    have c4 : ∀ z : Int64, (lg_cmp z 2147483647 ≤ 0) ↔ z.toInt ≤ 2147483647 := fun z => by
      rw [lg_cmp_le, Int64.le_iff_toInt_le, show Int64.toInt 2147483647 = 2147483647 from rfl]
    simp only [c1, c2, hu]
    by_cases hp8 : pX x1 ≤ 8
    · simp only [hp8, if_true]
      obtain ⟨a1, a2⟩ := near_eq mo row ba mr ex x1 hp8
      rw [p0_sign, a1, a2]
      generalize (fX1_nearest mo row ba mr ex x1).1 = v at nn1' nn2 nn3 ⊢
      generalize (fX1_nearest mo row ba mr ex x1).2.1 = row'
      generalize (fX1_nearest mo row ba mr ex x1).2.2.1 = ba'
      generalize (fX1_nearest mo row ba mr ex x1).2.2.2.1 = mr'
      have hnv : (-v).toInt = -v.toInt := l_neg (by omega)
      unfold fX0_toInt_k39 fX0_toInt_k52 fX1_toInt_k65 fX1_toInt_k103 fX0_toInt_k97 fX0_raise
      rw [p0_neg, p1_neg, v0_isMultiple (p0_mag x1) (unit_neg x1), toInt_k72]
      simp only [c3, c4, hnv]
      cases hg : ng x1
      · simp only [b2f, if_true]
        have w1 : ¬ v.toInt < -2147483648 := by omega
        by_cases w2 : v.toInt ≤ 2147483647
        · have w3 : ¬ (2147483647 < v.toInt) := by omega
          cases inx (mX x1) (-(pX x1)) <;> simp only [w1, w2, w3, Bool.false_eq_true, if_true, if_false, e10, and_self]
        · have w3 : 2147483647 < v.toInt := by omega
          simp only [w1, w2, w3, if_true, if_false, and_self]
      · simp only [b2t, e10, if_false]
        have w1 : -v.toInt ≤ 2147483647 := by omega
        by_cases w2 : 2147483648 < v.toInt
        · have w3 : -v.toInt < -2147483648 := by omega
          simp only [w1, w2, w3, if_true, and_self]
        · have w3 : ¬ (-v.toInt < -2147483648) := by omega
          cases inx (mX x1) (-(pX x1)) <;> simp only [w1, w2, w3, Bool.false_eq_true, if_true, if_false, e10, and_self]
    · simp only [hp8, if_false]
      have hbig := nn3 (by omega)
      unfold fX1_toInt_k65
      cases ng x1
      · simp only [b2f, if_true]
        rw [if_pos (by omega)]
        exact ⟨rfl, rfl⟩
      · simp only [b2t, e10, if_false]
        rw [if_pos (by omega)]
        exact ⟨rfl, rfl⟩
