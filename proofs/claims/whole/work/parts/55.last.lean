theorem pp_fin {mo fl x1 x2 x3 : Int32} (s1 : Bool) (h3 : nanB x3 = false) (i3 : infB x3 = false) : fX0_finiteSum mo fl (sgn s1) (fX0_magnitudeOf x1 * fX0_magnitudeOf x2) (fX0_unitOf x1 + fX0_unitOf x2) x3 = FS mo fl s1 (mX x1 * mX x2) (pX x1 + pX x2) x3 := by
  have g1 := pX_ge x1
  have g2 := pX_le x1
  have g3 := pX_ge x2
  have g4 := pX_le x2
  exact v0_finiteSum (mag_mul x1 x2) (v1_prod x1 x2).2 (unit_add x1 x2) (by omega) (by omega) h3 i3 rfl
/-- a product and a sum, as both have it -/
def PP (mo fl : Int32) (x1 x2 x3 : Int32) : Int32 × Int32 :=
  if ((zerB x1 && infB x2) || (infB x1 && zerB x2)) = true then (2143289344, fl ||| 16) else
  if (nanB x1 || nanB x2 || nanB x3) = true then (2143289344, if (loudB x1 || loudB x2 || loudB x3) = true then fl ||| 16 else fl) else
  if (infB x1 || infB x2) = true then (if (infB x3 && ((ng x1 ^^ ng x2) ^^ ng x3)) = true then (2143289344, fl ||| 16) else (sgn (ng x1 ^^ ng x2) ||| 2139095040, fl)) else
  if infB x3 = true then (x3, fl) else FS mo fl (ng x1 ^^ ng x2) (mX x1 * mX x2) (pX x1 + pX x2) x3
theorem sgn_inj (a b : Bool) : (sgn a = sgn b) ↔ (b ^^ a) = false := by cases a <;> cases b <;> decide
theorem pp_k34 (mo fl x1 x2 x3 : Int32) : fX0_productPlus_k34 x1 x2 x3 mo fl = (2143289344, if (loudB x1 || loudB x2 || loudB x3) = true then fl ||| 16 else fl) := by
  unfold fX0_productPlus_k34
  rw [p0_loud, p0_loud, p0_loud]
  cases loudB x1 <;> cases loudB x2 <;> cases loudB x3 <;> rfl
theorem pp_k87 (mo fl x3 : Int32) (s : Bool) : fX0_productPlus_k87 x3 (sgn s) mo fl = (if (infB x3 && (s ^^ ng x3)) = true then (2143289344, fl ||| 16) else (sgn s ||| 2139095040, fl)) := by
  unfold fX0_productPlus_k87
  rw [p0_inf, p0_sign]
  have e0 : fX0_productPlus_k108 (sgn s) 0 mo fl = (sgn s ||| 2139095040, fl) := rfl
  have e1 : fX0_productPlus_k108 (sgn s) 1 mo fl = (2143289344, fl ||| 16) := rfl
  rw [e0, e1]
  simp only [sgn_inj]
  cases infB x3 <;> cases (s ^^ ng x3) <;> simp only [b2f, b2t, e10, Bool.false_and, Bool.true_and, Bool.true_eq_false, Bool.false_eq_true, if_true, if_false]
theorem pp_k73 (mo fl x1 x2 x3 : Int32) (s : Bool) (h3 : nanB x3 = false) : fX0_productPlus_k73 x1 x2 x3 (sgn s) mo fl = (if (infB x1 || infB x2) = true then (if (infB x3 && (s ^^ ng x3)) = true then (2143289344, fl ||| 16) else (sgn s ||| 2139095040, fl)) else if infB x3 = true then (x3, fl) else FS mo fl s (mX x1 * mX x2) (pX x1 + pX x2) x3) := by
  unfold fX0_productPlus_k73 fX0_productPlus_k162
  rw [p0_inf, p0_inf, p0_inf, pp_k87]
  cases hi3 : infB x3
  · rw [pp_fin s h3 hi3]
    cases infB x1 <;> cases infB x2 <;> simp only [b2f, b2t, e10, Bool.or_false, Bool.or_true, Bool.false_eq_true, if_true, if_false]
  · cases infB x1 <;> cases infB x2 <;> simp only [b2f, b2t, e10, Bool.or_false, Bool.or_true, Bool.false_eq_true, if_true, if_false]
theorem pp_A0 (mo fl x1 x2 x3 : Int32) : fX0_productPlus mo fl x1 x2 x3 = PP mo fl x1 x2 x3 := by
  have hzi : fX0_isZeroTimesInfinite x1 x2 = b2 ((zerB x1 && infB x2) || (infB x1 && zerB x2)) := by
    unfold fX0_isZeroTimesInfinite fX0_isZeroTimesInfinite_k14
    rw [p0_zero, p0_zero, p0_inf, p0_inf]
    cases zerB x1 <;> cases infB x2 <;> cases infB x1 <;> cases zerB x2 <;> rfl
  unfold fX0_productPlus PP
  rw [hzi, p0_none, p0_none, p0_none, pp_k34, p0_sign, ng_xor]
  have hv : fX0_productPlus_k12 (fX0_invalid fl).1 mo (fX0_invalid fl).2 = (2143289344, fl ||| 16) := rfl
  rw [hv]
  cases hq : ((zerB x1 && infB x2) || (infB x1 && zerB x2))
  · cases hn3 : nanB x3
    · rw [pp_k73 mo fl x1 x2 x3 _ hn3]
      cases nanB x1 <;> cases nanB x2 <;> simp only [b2f, b2t, e10, Bool.or_false, Bool.or_true, Bool.false_eq_true, if_true, if_false]
    · cases nanB x1 <;> cases nanB x2 <;> simp only [b2f, b2t, e10, Bool.or_false, Bool.or_true, Bool.false_eq_true, if_true, if_false]
  · simp only [b2t, e10, if_true, if_false]
theorem fu_k144 {mo fl : Int32} {row : Nat → Int64} {ba mr ex x1 x2 x3 : Int32} (hmo : mOk mo) (s i : Bool) :
    (fX1_fused_k144 x1 x2 x3 (b2 s) (b2 i) mo fl row ba mr ex).1 = (if i = true then (sgn s ||| 2139095040, fl) else if infB x3 = true then (x3, fl) else FS mo fl s (mX x1 * mX x2) (pX x1 + pX x2) x3).1 ∧ (fX1_fused_k144 x1 x2 x3 (b2 s) (b2 i) mo fl row ba mr ex).2.1 = (if i = true then (sgn s ||| 2139095040, fl) else if infB x3 = true then (x3, fl) else FS mo fl s (mX x1 * mX x2) (pX x1 + pX x2) x3).2 := by
  unfold fX1_fused_k144
  rw [p1_inf, sgnInf s (b2 s) (b2_0 s)]
  cases i
  · cases infB x3
    · simp only [b2f, Bool.false_eq_true, if_true, if_false]
      exact fused_fin hmo s
    · simp only [b2f, b2t, e10, Bool.false_eq_true, if_true, if_false, and_self]
  · simp only [b2t, e10, if_true, if_false, and_self]
theorem fu_k116 {mo fl : Int32} {row : Nat → Int64} {ba mr ex x1 x2 x3 : Int32} (s i : Bool) :
    fX1_fused_k116 x1 x2 x3 (b2 s) (b2 i) mo fl row ba mr ex = if (i && (infB x3 && (s ^^ ng x3))) = true then (2143289344, fl ||| 16, row, ba, mr, ex) else fX1_fused_k144 x1 x2 x3 (b2 s) (b2 i) mo fl row ba mr ex := by
  unfold fX1_fused_k116
  rw [p1_inf, p1_neg]
  have hv : fX1_fused_k143 (fX1_invalid fl).1 mo (fX1_invalid fl).2 row ba mr ex = (2143289344, fl ||| 16, row, ba, mr, ex) := rfl
  rw [hv]
  have hx : (b2 s = b2 (ng x3)) ↔ (s ^^ ng x3) = false := by
    rw [b2_eq]
    cases s <;> cases ng x3 <;> decide
  simp only [hx]
  cases i <;> cases infB x3 <;> cases (s ^^ ng x3) <;> simp only [b2f, b2t, e10, Bool.false_and, Bool.true_and, Bool.true_eq_false, Bool.false_eq_true, if_true, if_false]
theorem fu_k95 {mo fl : Int32} {row : Nat → Int64} {ba mr ex x1 x2 x3 : Int32} (hmo : mOk mo) (s : Bool) :
    (fX1_fused_k95 x1 x2 x3 (b2 s) mo fl row ba mr ex).1 = (if (infB x1 || infB x2) = true then (if (infB x3 && (s ^^ ng x3)) = true then ((2143289344 : Int32), fl ||| 16) else (sgn s ||| 2139095040, fl)) else if infB x3 = true then (x3, fl) else FS mo fl s (mX x1 * mX x2) (pX x1 + pX x2) x3).1 ∧ (fX1_fused_k95 x1 x2 x3 (b2 s) mo fl row ba mr ex).2.1 = (if (infB x1 || infB x2) = true then (if (infB x3 && (s ^^ ng x3)) = true then ((2143289344 : Int32), fl ||| 16) else (sgn s ||| 2139095040, fl)) else if infB x3 = true then (x3, fl) else FS mo fl s (mX x1 * mX x2) (pX x1 + pX x2) x3).2 := by
  have hk : fX1_fused_k95 x1 x2 x3 (b2 s) mo fl row ba mr ex = fX1_fused_k116 x1 x2 x3 (b2 s) (b2 (infB x1 || infB x2)) mo fl row ba mr ex := by
    unfold fX1_fused_k95
    rw [p1_inf, p1_inf]
    cases infB x1 <;> cases infB x2 <;> simp only [b2f, b2t, e10, Bool.or_false, Bool.or_true, if_true, if_false]
  rw [hk, fu_k116]
  generalize (infB x1 || infB x2) = i
  obtain ⟨f1, f2⟩ := fu_k144 (mo := mo) (fl := fl) (row := row) (ba := ba) (mr := mr) (ex := ex) (x1 := x1) (x2 := x2) (x3 := x3) hmo s i
  cases i
  · simp only [Bool.false_and, Bool.false_eq_true, if_false] at f1 f2 ⊢
    exact ⟨f1, f2⟩
  · simp only [Bool.true_and, if_true] at f1 f2 ⊢
    cases (infB x3 && (s ^^ ng x3))
    · simp only [Bool.false_eq_true, if_false]
      exact ⟨f1, f2⟩
    · simp only [if_true, and_self]
theorem m_fused (mo fl : Int32) (row : Nat → Int64) (ba mr ex : Int32) (x1 x2 x3 : Int32) (hmo : mOk mo) : (fX0_fused mo fl x1 x2 x3).1 = (fX1_fused mo fl row ba mr ex x1 x2 x3).1 ∧ (fX0_fused mo fl x1 x2 x3).2 = (fX1_fused mo fl row ba mr ex x1 x2 x3).2.1 := by
  have h0 : fX0_fused mo fl x1 x2 x3 = PP mo fl x1 x2 x3 := by
    unfold fX0_fused fX0_fused_k7
    rw [pp_A0]
  rw [h0]
  have hl : fX1_fused_k71 x1 x2 x3 mo fl row ba mr ex = (2143289344, (if (loudB x1 || loudB x2 || loudB x3) = true then fl ||| 16 else fl), row, ba, mr, ex) := by
    unfold fX1_fused_k71 fX1_fused_k78
    rw [p1_nonef]
  have hv : fX1_fused_k54 mo fl row ba mr ex = (2143289344, fl ||| 16, row, ba, mr, ex) := rfl
  have h59 : ∀ b : Bool, fX1_fused_k59 x1 x2 x3 (b2 b) mo fl row ba mr ex = if (!b || nanB x3) = true then (2143289344, (if (loudB x1 || loudB x2 || loudB x3) = true then fl ||| 16 else fl), row, ba, mr, ex) else fX1_fused_k95 x1 x2 x3 (b2 (ng x1 ^^ ng x2)) mo fl row ba mr ex := by
    intro b
    unfold fX1_fused_k59
    rw [hl, p1_none, p1_neg, p1_neg]
    simp only [ng_ne]
    cases b <;> cases nanB x3 <;> cases (ng x1 ^^ ng x2) <;> simp only [b2f, b2t, e10, Bool.not_false, Bool.not_true, Bool.or_false, Bool.or_true, Bool.true_eq_false, Bool.false_eq_true, if_true, if_false]
  have hA : fX1_fused mo fl row ba mr ex x1 x2 x3 = if ((!nanB x1 && !nanB x2) && ((zerB x1 && infB x2) || (infB x1 && zerB x2))) = true then (2143289344, fl ||| 16, row, ba, mr, ex) else if (nanB x1 || nanB x2 || nanB x3) = true then (2143289344, (if (loudB x1 || loudB x2 || loudB x3) = true then fl ||| 16 else fl), row, ba, mr, ex) else fX1_fused_k95 x1 x2 x3 (b2 (ng x1 ^^ ng x2)) mo fl row ba mr ex := by
    have hq : fX1_fused mo fl row ba mr ex x1 x2 x3 = fX1_fused_k19 x1 x2 x3 (b2 (!nanB x1 && !nanB x2)) mo fl row ba mr ex := by
      unfold fX1_fused
      rw [p1_none, p1_none]
      cases nanB x1 <;> cases nanB x2 <;> simp only [b2f, b2t, e10, Bool.not_false, Bool.not_true, Bool.and_false, Bool.and_true, if_true, if_false]
    rw [hq]
    unfold fX1_fused_k19 fX1_fused_k40
    rw [p1_zero, p1_zero, p1_inf, p1_inf, hv, h59]
    cases nanB x1 <;> cases nanB x2 <;> simp only [b2f, b2t, e10, Bool.not_false, Bool.not_true, Bool.and_false, Bool.and_true, Bool.false_and, Bool.true_and, Bool.or_false, Bool.or_true, Bool.false_or, Bool.true_or, Bool.false_eq_true, if_true, if_false]
    cases zerB x1 <;> cases infB x2 <;> cases infB x1 <;> cases zerB x2 <;> simp only [b2f, b2t, e10, Bool.not_false, Bool.not_true, Bool.and_false, Bool.and_true, Bool.false_and, Bool.true_and, Bool.or_false, Bool.or_true, Bool.false_or, Bool.true_or, Bool.false_eq_true, if_true, if_false]
  rw [hA]
  have hzn : ((zerB x1 && infB x2) || (infB x1 && zerB x2)) = true → (!nanB x1 && !nanB x2) = true := by
    intro h
    have hz : ∀ x : Int32, zerB x = true → nanB x = false := fun x h => by
      obtain ⟨h1, h2⟩ := zer_parts h
      unfold nanB
      simp [h1]
    cases h1 : nanB x1
    · cases h2 : nanB x2
      · rfl
      · exfalso
        have a1 : infB x2 = false := by
          cases w : infB x2
          · rfl
          · rw [inf_nan w] at h2
            exact absurd h2 (by decide)
        have a2 : zerB x2 = false := by
          cases w : zerB x2
          · rfl
          · rw [hz x2 w] at h2
            exact absurd h2 (by decide)
        rw [a1, a2] at h
        simp at h
    · exfalso
      have a1 : infB x1 = false := by
        cases w : infB x1
        · rfl
        · rw [inf_nan w] at h1
          exact absurd h1 (by decide)
      have a2 : zerB x1 = false := by
        cases w : zerB x1
        · rfl
        · rw [hz x1 w] at h1
          exact absurd h1 (by decide)
      rw [a1, a2] at h
      simp at h
  unfold PP
  obtain ⟨f1, f2⟩ := fu_k95 (mo := mo) (fl := fl) (row := row) (ba := ba) (mr := mr) (ex := ex) (x1 := x1) (x2 := x2) (x3 := x3) hmo (ng x1 ^^ ng x2)
  cases hq : ((zerB x1 && infB x2) || (infB x1 && zerB x2))
  · simp only [Bool.and_false, Bool.false_eq_true, if_false]
    cases (nanB x1 || nanB x2 || nanB x3)
    · simp only [Bool.false_eq_true, if_false]
      rw [f1, f2]
      exact ⟨rfl, rfl⟩
    · simp only [if_true, and_self]
  · rw [hzn hq]
    simp only [Bool.and_true, if_true, and_self]
theorem inf_pat {x : Int32} (h : infB x = true) : sgn (ng x) ||| 2139095040 = x := by
  have hx := x_parts x
  unfold infB at h
  simp at h
  rw [h.1, h.2] at hx
  apply Int32.toInt_inj.mp
  rw [sgn_or (w := 2139095040) (by decide) (by decide), hx]
  rfl
theorem one_parts : nanB 1065353216 = false ∧ infB 1065353216 = false ∧ zerB 1065353216 = false ∧ loudB 1065353216 = false ∧ ng 1065353216 = false ∧ mX 1065353216 = 2 ^ 23 ∧ pX 1065353216 = -23 := by decide +kernel
theorem SS_one (s : Bool) (m : Nat) {p : Int} (hp : -149 ≤ p) (c : Int32) : SS s (2 ^ 23 * m) (-23 + p) c = SS s m p c := by
  unfold SS
  have : pw (2 ^ 23 * m) (-23 + p) = pw m p := by
    unfold pw
    have e : (p + 298).toNat = 23 + (-23 + p + 298).toNat := by omega
    rw [e, Nat.pow_add, Nat.mul_comm (2 ^ 23) m, Nat.mul_assoc]
  rw [this]
theorem FS_one (mo fl : Int32) (s : Bool) (m : Nat) {p : Int} (hp : -149 ≤ p) (c : Int32) : FS mo fl s (2 ^ 23 * m) (-23 + p) c = FS mo fl s m p c := by
  unfold FS
  rw [SS_one s m hp c]
  have : decide (2 ^ 23 * m = 0) = decide (m = 0) := decide_eq_decide.mpr (by omega)
  rw [this]
theorem add_A0 (mo fl x1 x2 : Int32) : fX0_add mo fl x1 x2 = (if (nanB x1 || nanB x2) = true then (2143289344, if (loudB x1 || loudB x2) = true then fl ||| 16 else fl) else if infB x1 = true then (if (infB x2 && (ng x1 ^^ ng x2)) = true then (2143289344, fl ||| 16) else (x1, fl)) else if infB x2 = true then (x2, fl) else FS mo fl (ng x1) (mX x1) (pX x1) x2) := by
  unfold fX0_add fX0_add_k8
  rw [pp_A0]
  unfold PP
  obtain ⟨o1, o2, o3, o4, o5, o6, o7⟩ := one_parts
  rw [o1, o2, o3, o4, o5, o6, o7, FS_one mo fl _ (mX x1) (pX_ge x1) x2]
  cases hi : infB x1
  · simp only [Bool.false_xor, Bool.false_or, Bool.false_and, Bool.and_false, Bool.or_false, Bool.false_eq_true, if_true, if_false]
  · have hp : sgn (false ^^ ng x1) ||| 2139095040 = x1 := by
      rw [Bool.false_xor]
      exact inf_pat hi
    rw [hp]
    simp only [Bool.false_xor, Bool.false_or, Bool.false_and, Bool.or_false, Bool.false_eq_true, if_true, if_false]
theorem add_A1 {mo fl : Int32} {row : Nat → Int64} {ba mr ex x1 x2 : Int32} (hmo : mOk mo) : (fX1_add mo fl row ba mr ex x1 x2).1 = (if (nanB x1 || nanB x2) = true then ((2143289344 : Int32), if (loudB x1 || loudB x2) = true then fl ||| 16 else fl) else if infB x1 = true then (if (infB x2 && (ng x1 ^^ ng x2)) = true then (2143289344, fl ||| 16) else (x1, fl)) else if infB x2 = true then (x2, fl) else FS mo fl (ng x1) (mX x1) (pX x1) x2).1 ∧ (fX1_add mo fl row ba mr ex x1 x2).2.1 = (if (nanB x1 || nanB x2) = true then ((2143289344 : Int32), if (loudB x1 || loudB x2) = true then fl ||| 16 else fl) else if infB x1 = true then (if (infB x2 && (ng x1 ^^ ng x2)) = true then (2143289344, fl ||| 16) else (x1, fl)) else if infB x2 = true then (x2, fl) else FS mo fl (ng x1) (mX x1) (pX x1) x2).2 := by
  have hl : fX1_add_k14 x1 x2 mo fl row ba mr ex = (2143289344, (if (loudB x1 || loudB x2) = true then fl ||| 16 else fl), row, ba, mr, ex) := by
    unfold fX1_add_k14 fX1_add_k21
    rw [p1_nonef, loud0, Bool.or_false]
  have hv : fX1_add_k51 (fX1_invalid fl).1 mo (fX1_invalid fl).2 row ba mr ex = (2143289344, fl ||| 16, row, ba, mr, ex) := rfl
  unfold fX1_add
  rw [hl, hv, p1_none, p1_none, p1_inf, p1_inf, p1_neg, p1_neg]
  simp only [ng_ne]
  unfold fX1_add_k52
  rw [p1_inf, p1_inf]
  obtain ⟨f1, f2⟩ := add_fin (mo := mo) (fl := fl) (row := row) (ba := ba) (mr := mr) (ex := ex) (x1 := x1) (x2 := x2) hmo
  cases nanB x1
  · cases nanB x2
    · cases infB x1
      · cases infB x2
        · simp only [b2f, Bool.or_false, Bool.false_eq_true, if_true, if_false]
          exact ⟨f1, f2⟩
        · simp only [b2f, b2t, e10, Bool.or_false, Bool.false_eq_true, if_true, if_false, and_self]
      · cases infB x2
        · simp only [b2f, b2t, e10, Bool.or_false, Bool.false_and, Bool.false_eq_true, if_true, if_false, and_self]
        · cases (ng x1 ^^ ng x2) <;> simp only [b2f, b2t, e10, Bool.or_false, Bool.true_and, Bool.true_eq_false, Bool.false_eq_true, if_true, if_false, and_self]
    · simp only [b2f, b2t, e10, Bool.or_true, if_true, if_false, and_self]
  · simp only [b2t, e10, Bool.true_or, if_true, if_false, and_self]
theorem m_add (mo fl : Int32) (row : Nat → Int64) (ba mr ex : Int32) (x1 x2 : Int32) (hmo : mOk mo) : (fX0_add mo fl x1 x2).1 = (fX1_add mo fl row ba mr ex x1 x2).1 ∧ (fX0_add mo fl x1 x2).2 = (fX1_add mo fl row ba mr ex x1 x2).2.1 := by
  obtain ⟨f1, f2⟩ := add_A1 (mo := mo) (fl := fl) (row := row) (ba := ba) (mr := mr) (ex := ex) (x1 := x1) (x2 := x2) hmo
  rw [add_A0, f1, f2]
  exact ⟨rfl, rfl⟩
theorem m_subtract (mo fl : Int32) (row : Nat → Int64) (ba mr ex : Int32) (x1 x2 : Int32) (hmo : mOk mo) : (fX0_subtract mo fl x1 x2).1 = (fX1_subtract mo fl row ba mr ex x1 x2).1 ∧ (fX0_subtract mo fl x1 x2).2 = (fX1_subtract mo fl row ba mr ex x1 x2).2.1 := by
  have h0 : fX0_subtract mo fl x1 x2 = fX0_add mo fl x1 (x2 ^^^ (-2147483648 : Int32)) := by
    unfold fX0_subtract fX0_subtract_k11 fX0_add fX0_add_k8
    simp only
  rw [h0]
  unfold fX1_subtract
  rw [p1_none]
  cases hn : nanB x2
  · simp only [b2f, if_true]
    unfold fX1_subtract_k26
    exact m_add mo fl row ba mr ex x1 _ hmo
  · simp only [b2t, e10, if_false]
    unfold fX1_subtract_k14
    rw [p1_nonef, loud0, add_A0, nanB_flip, loudB_flip, hn]
    simp only [Bool.or_true, Bool.or_false, if_true, and_self]
