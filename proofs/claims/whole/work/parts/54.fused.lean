/-! the reference's sums; add, subtract, fused -/
theorem sgmul_bd (b : Bool) (n : Nat) : sg b * (n : Int) ≤ (n : Int) ∧ -(n : Int) ≤ sg b * (n : Int) := by
  cases b
  · simp only [Bool.false_eq_true, sg, if_false, Int.one_mul]
    omega
  · simp only [sg, if_true]
    omega
theorem ite_sg (b : Bool) : (if b = true then (-1 : Int) else 1) = sg b := rfl
/-- two puts into an empty row, settled -/
theorem c_two (row : Nat → Int64) (ba mr lo : Int32) {v1 v2 : Int64} {a1 a2 : Int32} {b1 b2_ : Bool} {n1 n2 k1 k2 F1 F2 : Nat} (hv1 : v1.toInt = (n1 : Int)) (hn1 : n1 < 2 ^ k1) (hF1 : (a1 - lo).toInt = (F1 : Int)) (hk1 : F1 + k1 ≤ 598) (hv2 : v2.toInt = (n2 : Int)) (hn2 : n2 < 2 ^ k2) (hF2 : (a2 - lo).toInt = (F2 : Int)) (hk2 : F2 + k2 ≤ 598) {S : Int} (hS : S = sg b1 * ((n1 * 2 ^ F1 : Nat) : Int) + sg b2_ * ((n2 * 2 ^ F2 : Nat) : Int)) :
    ∃ r, fX1_settle (fX1_put (fX1_put (fX1_empty row ba mr lo).1 lo v1 a1 (b2 b1)) lo v2 a2 (b2 b2_)) = (b2 (decide (S < 0)), r) ∧ RP r S.natAbs ∧ S.natAbs < 2 ^ 600 := by
  obtain ⟨-, -, e3⟩ := c_empty row ba mr lo
  have hlt : ∀ {n k F : Nat}, n < 2 ^ k → F + k ≤ 598 → n * 2 ^ F < 2 ^ 598 := by
    intro n k F h1 h2
    calc n * 2 ^ F < 2 ^ k * 2 ^ F := Nat.mul_lt_mul_of_pos_right h1 (Nat.pow_pos (by decide))
      _ = 2 ^ (k + F) := (Nat.pow_add 2 _ _).symm
      _ ≤ 2 ^ 598 := Nat.pow_le_pow_right (by decide) (by omega)
  have w1 := hlt hn1 hk1
  have w2 := hlt hn2 hk2
  obtain ⟨p1, p2⟩ := v1_put (row := (fX1_empty row ba mr lo).1) (ba := lo) (pSg_b2 b1) hv1 hn1 hF1 (by omega) (lo := 0) (hi := 0) (by cases b1 <;> decide) (by cases b1 <;> decide) e3
  rw [c_zero, Int.zero_add, ite_sg] at p1
  generalize fX1_put (fX1_empty row ba mr lo).1 lo v1 a1 (b2 b1) = row1 at p1 p2 ⊢
  have p2' : ∀ k, k < 25 → -(63 * 2 ^ 23) ≤ (row1 k).toInt ∧ (row1 k).toInt ≤ 63 * 2 ^ 23 := by
    intro k hk
    have := p2 k hk
    cases b1
    · simp only [Bool.false_eq_true, if_false] at this
      omega
    · simp only [if_true] at this
      omega
  obtain ⟨p3, p4⟩ := v1_put (row := row1) (ba := lo) (pSg_b2 b2_) hv2 hn2 hF2 (by omega) (lo := -(63 * 2 ^ 23)) (hi := 63 * 2 ^ 23) (by cases b2_ <;> decide) (by cases b2_ <;> decide) p2'
  rw [p1, ite_sg, ← hS] at p3
  generalize fX1_put row1 lo v2 a2 (b2 b2_) = row2 at p3 p4 ⊢
  have hab : S.natAbs < 2 ^ 600 := by
    have c1 := sgmul_bd b1 (n1 * 2 ^ F1)
    have c2 := sgmul_bd b2_ (n2 * 2 ^ F2)
    rw [hS]
    generalize sg b1 * ((n1 * 2 ^ F1 : Nat) : Int) = t1 at c1
    generalize sg b2_ * ((n2 * 2 ^ F2 : Nat) : Int) = t2 at c2
    have h598 : 2 ^ 598 + 2 ^ 598 ≤ 2 ^ 600 := by
      have : 2 ^ 600 = 2 ^ 598 * 4 := by rw [show 600 = 598 + 2 by rfl, Nat.pow_add]
      omega
    generalize n1 * 2 ^ F1 = u1 at w1 c1
    generalize n2 * 2 ^ F2 = u2 at w2 c2
    omega
  obtain ⟨r, s1, s2⟩ := v1_settle (row := row2) (fun k hk => by
    have := p4 k hk
    cases b2_
    · simp only [Bool.false_eq_true, if_false] at this
      omega
    · simp only [if_true] at this
      omega) (by rw [p3]; exact hab)
  rw [p3] at s1 s2
  refine ⟨r, ?_, s2, hab⟩
  rw [s1]
  by_cases h : S < 0
  · rw [if_pos h, decide_eq_true h, b2t]
  · rw [if_neg h, decide_eq_false h, b2f]
/-- the end of a sum: finished, or a zero -/
theorem c_sum {r : Nat → Int64} {S : Int} (hR : RP r S.natAbs) (hlt : S.natAbs < 2 ^ 600) {mo : Int32} (hmo : mOk mo) (fl ex : Int32) :
    ((0 ≤ fX1_top r) ↔ S ≠ 0) ∧ (S ≠ 0 → ∃ ex', fX1_finish mo fl r (-298) 0 ex (b2 (decide (S < 0))) = ((RND mo fl (decide (S < 0)) S.natAbs (-298)).1, (RND mo fl (decide (S < 0)) S.natAbs (-298)).2, ex')) := by
  constructor
  · constructor
    · intro h w
      rw [w, Int.natAbs_zero] at hR
      rw [v1_top0 hR] at h
      exact absurd h (by decide)
    · intro h
      rw [Int32.le_iff_toInt_le, v1_top hR hlt (Int.natAbs_pos.mpr h), show Int32.toInt 0 = 0 from rfl]
      omega
  · intro h
    have h0 : S.natAbs ≠ 0 := fun w => h (Int.natAbs_eq_zero.mp w)
    obtain ⟨ex', f1⟩ := v1_finish hR hlt h0 hmo fl (ba := -298) (by decide) (by decide) (mr := 0) (m := 0) (by decide) rfl (Or.inl rfl) ex (b2_0 (decide (S < 0)))
    have e := RND_two (mo := mo) (fl := fl) (neg := decide (S < 0)) h0 (Int32.toInt (-298)) 0
    rw [Nat.pow_zero, Nat.mul_one] at e
    rw [e] at f1
    exact ⟨ex', f1⟩
theorem v1_zero (mo : Int32) (z a b : Bool) : fX1_zero mo (b2 z) (b2 a) (b2 b) = (if (z && decide (a = b)) = true then sgn a else sgn (decide (mo = 3))) := by
  unfold fX1_zero fX1_zero_k15 fX1_zero_k29
  simp only [b2_0, b2_eq, hz0, hz1, sgnZero a (b2 a) (b2_0 a)]
  by_cases h3 : mo = 3 <;> cases z <;> by_cases hab : a = b <;> simp [h3, hab]
theorem pw_F (n : Nat) {e : Int} {F : Nat} (h : e + 298 = (F : Int)) : pw n e = n * 2 ^ F := by
  unfold pw
  rw [h, Int.toNat_natCast]
theorem place_F (x : Int32) : ∃ F : Nat, pX x + 298 = (F : Int) ∧ F + 24 ≤ 598 ∧ (fX1_place x - (-298)).toInt = (F : Int) := by
  have g1 := pX_ge x
  have g2 := pX_le x
  refine ⟨(pX x + 298).toNat, by omega, by omega, ?_⟩
  exact place_sub (v1_place x) (by omega) (by omega)
theorem place_F2 (x y : Int32) : ∃ F : Nat, pX x + pX y + 298 = (F : Int) ∧ F + 48 ≤ 598 ∧ ((fX1_place x + fX1_place y) - (-298)).toInt = (F : Int) := by
  have g1 := pX_ge x
  have g2 := pX_le x
  have g3 := pX_ge y
  have g4 := pX_le y
  refine ⟨(pX x + pX y + 298).toNat, by omega, by omega, ?_⟩
  exact place_sub (place_add x y) (by omega) (by omega)
theorem v64 (x : Int32) : (Int32.toInt64 (fX1_units x)).toInt = (mX x : Int) := by rw [Int32.toInt_toInt64]; exact v1_units x
/-- what a sum is, of a product P * 2^e with the sign s1, and the pattern c -/
def SS (s1 : Bool) (P : Nat) (e : Int) (c : Int32) : Int := sg s1 * ((pw P e : Nat) : Int) + sg (ng c) * ((pw (mX c) (pX c) : Nat) : Int)
def FS (mo fl : Int32) (s1 : Bool) (P : Nat) (e : Int) (c : Int32) : Int32 × Int32 := if SS s1 P e c = 0 then (if (decide (P = 0) && zerB c && decide (s1 = ng c)) = true then sgn s1 else sgn (decide (mo = 3)), fl) else RND mo fl (decide (SS s1 P e c < 0)) (SS s1 P e c).natAbs (-298)
theorem add_fin {mo fl : Int32} {row : Nat → Int64} {ba mr ex x1 x2 : Int32} (hmo : mOk mo) :
    (fX1_add_k77 x1 x2 mo fl (fX1_empty row ba mr (-298)).1 (fX1_empty row ba mr (-298)).2.1 (fX1_empty row ba mr (-298)).2.2 ex).1 = (FS mo fl (ng x1) (mX x1) (pX x1) x2).1 ∧ (fX1_add_k77 x1 x2 mo fl (fX1_empty row ba mr (-298)).1 (fX1_empty row ba mr (-298)).2.1 (fX1_empty row ba mr (-298)).2.2 ex).2.1 = (FS mo fl (ng x1) (mX x1) (pX x1) x2).2 := by
  obtain ⟨d1, d2, -⟩ := c_empty row ba mr (-298)
  obtain ⟨F1, f1, f2, f3⟩ := place_F x1
  obtain ⟨F2, g1, g2, g3⟩ := place_F x2
  have hS : SS (ng x1) (mX x1) (pX x1) x2 = sg (ng x1) * ((mX x1 * 2 ^ F1 : Nat) : Int) + sg (ng x2) * ((mX x2 * 2 ^ F2 : Nat) : Int) := by
    unfold SS
    rw [pw_F _ f1, pw_F _ g1]
  obtain ⟨r, t1, t2, t3⟩ := c_two row ba mr (-298) (b1 := ng x1) (b2_ := ng x2) (v64 x1) (mX_lt x1) f3 f2 (v64 x2) (mX_lt x2) g3 g2 hS
  unfold fX1_add_k77 fX1_add_k94 fX1_add_k111
  rw [d1, d2, p1_neg, p1_neg, t1]
  obtain ⟨u1, u2⟩ := c_sum t2 t3 hmo fl ex
  unfold FS
  show (fX1_add_k115 x1 x2 (b2 (decide (SS (ng x1) (mX x1) (pX x1) x2 < 0))) mo fl r (-298) 0 ex).1 = _ ∧ (fX1_add_k115 x1 x2 (b2 (decide (SS (ng x1) (mX x1) (pX x1) x2 < 0))) mo fl r (-298) 0 ex).2.1 = _
  generalize SS (ng x1) (mX x1) (pX x1) x2 = S at u1 u2 ⊢
  unfold fX1_add_k115
  by_cases h0 : S = 0
  · rw [if_neg (fun w => u1.mp w h0), if_pos h0, p1_zero, p1_zero]
    have hk : (if b2 (zerB x1) = 0 then fX1_add_k143 x1 x2 0 mo fl r (-298) 0 ex else if b2 (zerB x2) = 0 then fX1_add_k143 x1 x2 0 mo fl r (-298) 0 ex else fX1_add_k143 x1 x2 1 mo fl r (-298) 0 ex) = fX1_add_k143 x1 x2 (b2 (zerB x1 && zerB x2)) mo fl r (-298) 0 ex := by
      cases zerB x1 <;> cases zerB x2 <;> simp only [b2f, b2t, e10, Bool.and_false, Bool.and_true, if_true, if_false]
    rw [hk]
    unfold fX1_add_k143
    rw [p1_neg, p1_neg, v1_zero]
    have hz : decide (mX x1 = 0) = zerB x1 := rfl
    rw [hz]
    exact ⟨rfl, rfl⟩
  · rw [if_pos (u1.mpr h0), if_neg h0]
    obtain ⟨ex', v1⟩ := u2 h0
    unfold fX1_add_k162
    rw [v1]
    exact ⟨rfl, rfl⟩
theorem fused_fin {mo fl : Int32} {row : Nat → Int64} {ba mr ex x1 x2 x3 : Int32} (hmo : mOk mo) (s1 : Bool) :
    (fX1_fused_k173 x1 x2 x3 (b2 s1) mo fl (fX1_empty row ba mr (-298)).1 (fX1_empty row ba mr (-298)).2.1 (fX1_empty row ba mr (-298)).2.2 ex).1 = (FS mo fl s1 (mX x1 * mX x2) (pX x1 + pX x2) x3).1 ∧ (fX1_fused_k173 x1 x2 x3 (b2 s1) mo fl (fX1_empty row ba mr (-298)).1 (fX1_empty row ba mr (-298)).2.1 (fX1_empty row ba mr (-298)).2.2 ex).2.1 = (FS mo fl s1 (mX x1 * mX x2) (pX x1 + pX x2) x3).2 := by
  obtain ⟨d1, d2, -⟩ := c_empty row ba mr (-298)
  obtain ⟨F1, f1, f2, f3⟩ := place_F2 x1 x2
  obtain ⟨F2, g1, g2, g3⟩ := place_F x3
  obtain ⟨v1', v2'⟩ := v1_prod x1 x2
  have hS : SS s1 (mX x1 * mX x2) (pX x1 + pX x2) x3 = sg s1 * ((mX x1 * mX x2 * 2 ^ F1 : Nat) : Int) + sg (ng x3) * ((mX x3 * 2 ^ F2 : Nat) : Int) := by
    unfold SS
    rw [pw_F _ f1, pw_F _ g1]
  obtain ⟨r, t1, t2, t3⟩ := c_two row ba mr (-298) (b1 := s1) (b2_ := ng x3) v1' v2' f3 f2 (v64 x3) (mX_lt x3) g3 g2 hS
  unfold fX1_fused_k173 fX1_fused_k199
  rw [d1, d2, p1_neg]
  have hk : ∀ rw_ : Nat → Int64, fX1_fused_k216 x1 x2 x3 (b2 s1) mo fl rw_ (-298) 0 ex = fX1_fused_k242 x3 (b2 s1) (b2 ((zerB x1 || zerB x2) && zerB x3)) mo fl rw_ (-298) 0 ex := by
    intro rw_
    unfold fX1_fused_k216 fX1_fused_k230
    rw [p1_zero, p1_zero, p1_zero]
    cases zerB x1 <;> cases zerB x2 <;> cases zerB x3 <;> simp only [b2f, b2t, e10, Bool.or_false, Bool.or_true, Bool.and_false, Bool.and_true, if_true, if_false]
  rw [hk]
  unfold fX1_fused_k242
  rw [t1]
  obtain ⟨u1, u2⟩ := c_sum t2 t3 hmo fl ex
  unfold FS
  show (fX1_fused_k248 x3 (b2 s1) (b2 ((zerB x1 || zerB x2) && zerB x3)) (b2 (decide (SS s1 (mX x1 * mX x2) (pX x1 + pX x2) x3 < 0))) mo fl r (-298) 0 ex).1 = _ ∧ (fX1_fused_k248 x3 (b2 s1) (b2 ((zerB x1 || zerB x2) && zerB x3)) (b2 (decide (SS s1 (mX x1 * mX x2) (pX x1 + pX x2) x3 < 0))) mo fl r (-298) 0 ex).2.1 = _
  generalize SS s1 (mX x1 * mX x2) (pX x1 + pX x2) x3 = S at u1 u2 ⊢
  unfold fX1_fused_k248
  by_cases h0 : S = 0
  · rw [if_neg (fun w => u1.mp w h0), if_pos h0, p1_neg, v1_zero]
    have hz : decide (mX x1 * mX x2 = 0) = (zerB x1 || zerB x2) := by
      unfold zerB
      rw [← Bool.decide_or]
      exact decide_eq_decide.mpr Nat.mul_eq_zero
    rw [hz]
    exact ⟨rfl, rfl⟩
  · rw [if_pos (u1.mpr h0), if_neg h0]
    obtain ⟨ex', v1⟩ := u2 h0
    unfold fX1_fused_k278
    rw [v1]
    exact ⟨rfl, rfl⟩
