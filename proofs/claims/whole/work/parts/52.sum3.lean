theorem unit_sub (c : Int32) {y7 : Int32} {u : Int} (h7 : y7.toInt = u) (hu : -298 ≤ u) (hu2 : u ≤ 600) : (fX0_unitOf c - y7).toInt = pX c - u := by
  have g1 := pX_ge c
  have g2 := pX_le c
  have := p0_unit c
  rw [i_sub (by omega) (by omega), this, h7]
theorem sum_end {mo fl y7 : Int32} {y12 : Int64} {u S : Int} (hbd : -2 ^ 62 < y12.toInt ∧ y12.toInt < 2 ^ 62) (h7 : y7.toInt = u) (o9 : -1500 ≤ u) (o10 : u ≤ 1500) (hq : SUM mo fl y12.toInt S u) :
    fX0_finiteSum_k151 y7 y12 mo fl = if S = 0 then (sgn (decide (mo = 3)), fl) else RND mo fl (decide (S < 0)) S.natAbs (-298) := by
  obtain ⟨q1, q2, q3⟩ := hq
  unfold fX0_finiteSum_k151
  have hz : (lg_cmp y12 0 = 0) ↔ y12.toInt = 0 := by rw [lg_cmp_eq, ← Int64.toInt_inj]; rfl
  have hge : (0 ≤ lg_cmp y12 0) ↔ 0 ≤ y12.toInt := by rw [lg_cmp_ge, Int64.le_iff_toInt_le]; rfl
  by_cases h0 : y12.toInt = 0
  · rw [if_pos (hz.mpr h0), if_pos (q1.mp h0), v0_zeroOfMode]
  · have hS0 : S ≠ 0 := fun w => h0 (q1.mpr w)
    rw [if_neg (fun w => h0 (hz.mp w)), if_neg hS0]
    have habs : (if 0 < y12 then y12 else -y12).toInt = ((y12.toInt.natAbs : Nat) : Int) := by
      clear q1 q2 q3 hz hge h0 hS0
      by_cases hp : 0 < y12
      · rw [if_pos hp]
        rw [Int64.lt_iff_toInt_lt, show Int64.toInt 0 = 0 from rfl] at hp
        omega
      · rw [if_neg hp]
        rw [Int64.lt_iff_toInt_lt, show Int64.toInt 0 = 0 from rfl] at hp
        rw [l_neg (by omega)]
        omega
    have hk2 : (if 0 ≤ lg_cmp y12 0 then fX0_finiteSum_k177 y7 y12 0 mo fl else fX0_finiteSum_k177 y7 y12 (-2147483648) mo fl) = fX0_finiteSum_k177 y7 y12 (sgn (decide (S < 0))) mo fl := by
      by_cases hn : S < 0
      · have hng : ¬ (0 ≤ lg_cmp y12 0) := fun w => Int.not_le.mpr (q2.mpr hn) (hge.mp w)
        rw [if_neg hng, decide_eq_true hn]
        rfl
      · have hng : 0 ≤ lg_cmp y12 0 := hge.mpr (Int.not_lt.mp (fun w => hn (q2.mp w)))
        rw [if_pos hng, decide_eq_false hn]
        rfl
    rw [hk2]
    unfold fX0_finiteSum_k177 fX0_finiteSum_k187
    have n1 : y12.toInt.natAbs ≠ 0 := by clear q1 q2 q3 hz hge hS0 habs hk2; omega
    have n2 : y12.toInt.natAbs < 2 ^ 62 := by clear q1 q2 q3 hz hge hS0 habs hk2; omega
    rw [v0_rounded mo fl (decide (S < 0)) habs n1 n2 h7 o9 o10, q3 hS0]
theorem sum_tail {mo fl c y7 : Int32} {y8 y10 : Int64} {s1 : Bool} {a b : Nat} {u S : Int} (a1 : y8.toInt = (a : Int)) (a2 : y10.toInt = (b : Int)) (l1 : a < 2 ^ 61) (l2 : b < 2 ^ 61) (h7 : y7.toInt = u) (o9 : -1500 ≤ u) (o10 : u ≤ 1500) (hq : SUM mo fl (sg s1 * (a : Nat) + sg (ng c) * (b : Nat)) S u) :
    (if sgn s1 = 0 then fX0_finiteSum_k132 c y7 y10 y8 mo fl else fX0_finiteSum_k132 c y7 y10 (-y8) mo fl) = if S = 0 then (sgn (decide (mo = 3)), fl) else RND mo fl (decide (S < 0)) S.natAbs (-298) := by
  have b1 := sg_mul_toInt a1 l1 s1
  have b2' := sg_mul_toInt a2 l2 (ng c)
  have bb1 := sg_bound s1 l1
  have bb2 := sg_bound (ng c) l2
  have hk : (if sgn s1 = 0 then fX0_finiteSum_k132 c y7 y10 y8 mo fl else fX0_finiteSum_k132 c y7 y10 (-y8) mo fl) = fX0_finiteSum_k151 y7 ((if s1 = true then -y8 else y8) + (if ng c = true then -y10 else y10)) mo fl := by
    unfold fX0_finiteSum_k132 fX0_finiteSum_k148
    rw [p0_neg]
    simp only [sgn0, b2_0]
    cases s1 <;> cases ng c <;> simp only [Bool.true_eq_false, Bool.false_eq_true, if_true, if_false]
  rw [hk]
  generalize (if s1 = true then -y8 else y8) = z8 at b1 ⊢
  generalize (if ng c = true then -y10 else y10) = z10 at b2' ⊢
  rw [← b1, ← b2'] at hq
  rw [← b1] at bb1
  rw [← b2'] at bb2
  clear b1 b2' a1 a2 hk
  have hsum : (z8 + z10).toInt = z8.toInt + z10.toInt := l_add (by omega) (by omega)
  rw [← hsum] at hq
  exact sum_end (by rw [hsum]; omega) h7 o9 o10 hq
/-- the sum of two parts that aren't 0 -/
theorem sum_k91 {mo fl c y7 y4 : Int32} {y2 : Int64} {s1 : Bool} {P : Nat} {e u : Int} (h2 : y2.toInt = (P : Int)) (hP0 : P ≠ 0) (hM0 : mX c ≠ 0) (hP : P < 2 ^ 48) (h4 : y4.toInt = e) (h7 : y7.toInt = u) (he : -298 ≤ e) (he2 : e ≤ 400) (hu : -298 ≤ u) (hu2 : u ≤ 600) (ht1 : e + bl P ≤ u + 61) (ht2 : pX c + bl (mX c) ≤ u + 61) {S : Int} (hq : SUM mo fl (sg s1 * (AL P (e - u) : Nat) + sg (ng c) * (AL (mX c) (pX c - u) : Nat)) S u) :
    fX0_finiteSum_k91 (sgn s1) y2 y4 c y7 mo fl = if S = 0 then (sgn (decide (mo = 3)), fl) else RND mo fl (decide (S < 0)) S.natAbs (-298) := by
  have g1 := pX_ge c
  have g2 := pX_le c
  have hml := mX_lt c
  have hM : mX c < 2 ^ 48 := by omega
  have hb1 := bl_pos1 hP0
  have hb2 := bl_pos1 hM0
  have o1 : (bl P : Int) + (e - u) ≤ 61 := by omega
  have o2 : (bl (mX c) : Int) + (pX c - u) ≤ 61 := by omega
  have o3 : P < 2 ^ 62 := by omega
  have o4 : mX c < 2 ^ 62 := by omega
  have o5 : -2000 ≤ e - u := by omega
  have o6 : e - u ≤ 61 := by omega
  have o7 : -2000 ≤ pX c - u := by omega
  have o8 : pX c - u ≤ 61 := by omega
  have o9 : -1500 ≤ u := by omega
  have o10 : u ≤ 1500 := by omega
  have s1' : (y4 - y7).toInt = e - u := by rw [i_sub (by omega) (by omega), h4, h7]
  have s2' : (fX0_unitOf c - y7).toInt = pX c - u := unit_sub c h7 hu hu2
  clear ht1 ht2 he he2 hu hu2 g1 g2 hml hb1 hb2
  have l1 : AL P (e - u) < 2 ^ 61 := AL_lt hP o1
  have l2 : AL (mX c) (pX c - u) < 2 ^ 61 := AL_lt hM o2
  have a1 := v0_aligned h2 o3 s1' o5 o6 l1
  have a2 := v0_aligned (p0_mag c) o4 s2' o7 o8 l2
  unfold fX0_finiteSum_k91 fX0_finiteSum_k102 fX0_finiteSum_k120
  generalize fX0_aligned y2 (y4 - y7) = y8 at a1 ⊢
  generalize fX0_aligned (fX0_magnitudeOf c) (fX0_unitOf c - y7) = y10 at a2 ⊢
  exact sum_tail a1 a2 l1 l2 h7 o9 o10 hq
