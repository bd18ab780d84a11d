theorem sg_nz {s : Bool} {n : Nat} {g : Int} (h : n ≠ 0) : sg s * ((pw n g : Nat) : Int) ≠ 0 ∧ (sg s * ((pw n g : Nat) : Int) < 0 ↔ s = true) ∧ (sg s * ((pw n g : Nat) : Int)).natAbs = pw n g := by
  have : pw n g ≠ 0 := Nat.mul_ne_zero h (Nat.ne_of_gt (Nat.pow_pos (by decide)))
  generalize pw n g = w at this ⊢
  cases s
  · simp only [Bool.false_eq_true, sg, if_false, Int.one_mul]
    refine ⟨by omega, by first | (simp; done) | (simp; omega), by omega⟩
  · simp only [sg, if_true]
    refine ⟨by omega, by first | (simp; done) | (simp; omega), by omega⟩
theorem RND_one {mo fl : Int32} {neg : Bool} {n : Nat} (h : n ≠ 0) {e : Int} (he : -298 ≤ e) : RND mo fl neg (pw n e) (-298) = RND mo fl neg n e := by
  unfold pw
  have := RND_scale mo fl neg h e (e + 298).toNat
  rw [show e - ((e + 298).toNat : Int) = -298 by omega] at this
  exact this
theorem max_i {A B : Int32} {a b : Int} (t1 : A.toInt = a) (t2 : B.toInt = b) : ∃ tp : Int, (if A < B then B else A).toInt = tp ∧ a ≤ tp ∧ b ≤ tp ∧ (a = tp ∨ b = tp) := by
  by_cases h : A < B
  · rw [if_pos h]
    rw [Int32.lt_iff_toInt_lt, t1, t2] at h
    exact ⟨_, t2, by omega, by omega, Or.inr rfl⟩
  · rw [if_neg h]
    rw [Int32.lt_iff_toInt_lt, t1, t2] at h
    exact ⟨_, t1, by omega, by omega, Or.inl rfl⟩
theorem top_1 {x4 : Int32} {x2 : Int64} {P : Nat} {e : Int} (h2 : x2.toInt = (P : Int)) (hP : P < 2 ^ 48) (h4 : x4.toInt = e) (he : -298 ≤ e) (he2 : e ≤ 400) : (x4 + fX0_bitLength x2).toInt = e + bl P := by
  have hbP : bl P ≤ 48 := bl_le_of hP
  have vP := v0_bitLength h2
  generalize fX0_bitLength x2 = z at vP ⊢
  rw [i_add (by omega) (by omega), h4, vP]
theorem top_2 (c : Int32) : (fX0_unitOf c + fX0_bitLength (fX0_magnitudeOf c)).toInt = pX c + bl (mX c) := by
  exact top_1 (p0_mag c) (Nat.lt_trans (mX_lt c) (by decide)) (p0_unit c) (by have := pX_ge c; omega) (by have := pX_le c; omega)
theorem sub_61 {y6 : Int32} {tp : Int} (m1 : y6.toInt = tp) (h1 : -1000 ≤ tp) (h2 : tp ≤ 1000) : (y6 - 61).toInt = tp - 61 := by
  have c61 : Int32.toInt 61 = 61 := by decide
  rw [i_sub (by omega) (by omega), m1, c61]
theorem sum_both {mo fl c x4 : Int32} {x2 : Int64} {s1 : Bool} {P : Nat} {e : Int} (h2 : x2.toInt = (P : Int)) (hP : P < 2 ^ 48) (hP0 : P ≠ 0) (hM0 : mX c ≠ 0) (h4 : x4.toInt = e) (he : -298 ≤ e) (he2 : e ≤ 400) {S : Int} (hS : S = sg s1 * ((pw P e : Nat) : Int) + sg (ng c) * ((pw (mX c) (pX c) : Nat) : Int)) :
    fX0_finiteSum_k84 (sgn s1) x2 x4 c (if (x4 + fX0_bitLength x2) < (fX0_unitOf c + fX0_bitLength (fX0_magnitudeOf c)) then (fX0_unitOf c + fX0_bitLength (fX0_magnitudeOf c)) else (x4 + fX0_bitLength x2)) mo fl = if S = 0 then (sgn (decide (mo = 3)), fl) else RND mo fl (decide (S < 0)) S.natAbs (-298) := by
  obtain ⟨tp, m1, m2, m3, m4⟩ := max_i (top_1 h2 hP h4 he he2) (top_2 c)
  generalize (if (x4 + fX0_bitLength x2) < (fX0_unitOf c + fX0_bitLength (fX0_magnitudeOf c)) then (fX0_unitOf c + fX0_bitLength (fX0_magnitudeOf c)) else (x4 + fX0_bitLength x2)) = y6 at m1 ⊢
  have g1 := pX_ge c
  have g2 := pX_le c
  have hml := mX_lt c
  have hbP : bl P ≤ 48 := bl_le_of hP
  have hbM : bl (mX c) ≤ 24 := bl_le_of hml
  have hb1 := bl_pos1 hP0
  have hb2 := bl_pos1 hM0
  have p1 : -298 ≤ pX c := by omega
  have p2 : mX c < 2 ^ 48 := by omega
  have p3 : -298 ≤ tp - 61 := by omega
  have p4 : tp - 61 ≤ 600 := by omega
  have p5 : e + bl P ≤ tp - 61 + 61 := by omega
  have p6 : pX c + bl (mX c) ≤ tp - 61 + 61 := by omega
  have p7 : e + bl P = tp - 61 + 61 ∨ pX c + bl (mX c) = tp - 61 + 61 := by
    rcases m4 with w | w
    · exact Or.inl (by omega)
    · exact Or.inr (by omega)
  have s7 : (y6 - 61).toInt = tp - 61 := sub_61 m1 (by omega) (by omega)
  have hq : SUM mo fl (sg s1 * (AL P (e - (tp - 61)) : Nat) + sg (ng c) * (AL (mX c) (pX c - (tp - 61)) : Nat)) S (tp - 61) := by
    rw [hS]
    exact sum_RND hP0 hM0 hP p2 he p1 p3 p5 p6 p7
  unfold fX0_finiteSum_k84
  exact sum_k91 h2 hP0 hM0 hP h4 s7 he he2 p3 p4 p5 p6 hq
theorem v0_finiteSum {mo fl c x4 : Int32} {x2 : Int64} {s1 : Bool} {P : Nat} {e : Int} (h2 : x2.toInt = (P : Int)) (hP : P < 2 ^ 48) (h4 : x4.toInt = e) (he : -298 ≤ e) (he2 : e ≤ 400) (hn : nanB c = false) (hi : infB c = false) {S : Int} (hS : S = sg s1 * ((pw P e : Nat) : Int) + sg (ng c) * ((pw (mX c) (pX c) : Nat) : Int)) :
    fX0_finiteSum mo fl (sgn s1) x2 x4 c = if S = 0 then (if (decide (P = 0) && zerB c && decide (s1 = ng c)) = true then sgn s1 else sgn (decide (mo = 3)), fl) else RND mo fl (decide (S < 0)) S.natAbs (-298) := by
  have g1 : -298 ≤ pX c := by have := pX_ge c; omega
  have hP62 : P < 2 ^ 62 := by omega
  have hea : -1500 ≤ e := by omega
  have heb : e ≤ 1500 := by omega
  unfold fX0_finiteSum
  have hz : (lg_cmp x2 0 = 0) ↔ P = 0 := by
    rw [lg_cmp_eq, ← Int64.toInt_inj, h2, show Int64.toInt 0 = 0 from rfl]
    omega
  rw [p0_zero, p0_sign]
  by_cases hP0 : P = 0
  · rw [if_pos (hz.mpr hP0)]
    rw [hP0, pw_0] at hS
    have hS' : S = sg (ng c) * ((pw (mX c) (pX c) : Nat) : Int) := by rw [hS]; simp
    cases hzc : zerB c
    · have hM0 := zer_not hzc
      obtain ⟨z1, z2, z3⟩ := sg_nz (s := ng c) (g := pX c) hM0
      rw [← hS'] at z1 z2 z3
      simp only [b2f, if_true]
      unfold fX0_finiteSum_k32
      rw [if_pos (hz.mpr hP0), if_neg z1, z3, RND_one hM0 g1]
      have hd : decide (S < 0) = ng c := by
        cases hg : ng c
        · rw [hg] at z2
          exact decide_eq_false (fun w => absurd (z2.mp w) (by decide))
        · rw [hg] at z2
          exact decide_eq_true (z2.mpr rfl)
      rw [hd, RND_exact hn hi hzc]
    · have hm : mX c = 0 := of_decide_eq_true hzc
      rw [hm, pw_0] at hS'
      have hS0 : S = 0 := by rw [hS']; simp
      simp only [b2t, e10, if_false]
      rw [if_pos hS0, decide_eq_true hP0, v0_zeroOfMode]
      have hsg : (sgn s1 = sgn (ng c)) ↔ s1 = ng c := by cases s1 <;> cases ng c <;> decide
      simp only [hsg]
      by_cases hq : s1 = ng c <;> simp [hq]
  · rw [if_neg (fun w => hP0 (hz.mp w))]
    unfold fX0_finiteSum_k32
    rw [if_neg (fun w => hP0 (hz.mp w)), p0_zero]
    cases hzc : zerB c
    · have hM0 := zer_not hzc
      simp only [b2f, if_true]
      rw [sum_both h2 hP hP0 hM0 h4 he he2 hS, decide_eq_false hP0]
      simp only [Bool.false_and, Bool.false_eq_true, if_false]
    · have hm : mX c = 0 := of_decide_eq_true hzc
      rw [hm, pw_0] at hS
      have hS' : S = sg s1 * ((pw P e : Nat) : Int) := by rw [hS]; simp
      obtain ⟨z1, z2, z3⟩ := sg_nz (s := s1) (g := e) hP0
      rw [← hS'] at z1 z2 z3
      simp only [b2t, e10, if_false]
      unfold fX0_finiteSum_k57
      rw [if_neg z1, z3, RND_one hP0 he, v0_rounded mo fl s1 h2 hP0 hP62 h4 hea heb]
      have hd : decide (S < 0) = s1 := by
        cases hg : s1
        · rw [hg] at z2
          exact decide_eq_false (fun w => absurd (z2.mp w) (by decide))
        · rw [hg] at z2
          exact decide_eq_true (z2.mpr rfl)
      rw [hd]
