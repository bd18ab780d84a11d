/-- root of a number that isn't 0, the numbers given -/
theorem root_core {mo fl : Int32} {row : Nat → Int64} {ba mr ex x1 : Int32} (hmo : mOk mo) (hg : ng x1 = false) {y2 y3 : Int32} {y4 : Int64} {w : Nat} {z : Int} (sz : (fX0_unitOf x1 - y2).toInt = z - 8) (sa : y3.toInt = z) (hz1 : -400 ≤ z) (hz2 : z ≤ 400) (u1 : y4.toInt = (w : Int)) (hw2 : w < 2 ^ 54) (hw3 : 2 ^ 53 ≤ w)
    (k38 : (fX0_magnitudeOf x1 <<< (Int32.toInt64 y2 &&& 63)).toInt = ((w * (2 ^ 4 * 2 ^ 4) : Nat) : Int)) (k37 : (fX0_magnitudeOf x1 <<< (Int32.toInt64 (y2 + (-1)) &&& 63)).toInt = ((2 * w * (2 ^ 3 * 2 ^ 3) : Nat) : Int))
    (e38 : ∀ e0 : Int, z - 8 = 2 * e0 → ((fX0_unitOf x1 - y2) >>> ((1 : Int32) &&& 31)).toInt = e0 ∧ -1500 ≤ e0 ∧ e0 ≤ 1500) (e37 : ∀ e0 : Int, z - 7 = 2 * e0 → ((fX0_unitOf x1 - (y2 + (-1))) >>> ((1 : Int32) &&& 31)).toInt = e0 ∧ -1500 ≤ e0 ∧ e0 ≤ 1500) :
    (fX0_root_k55 x1 y2 mo fl).1 = (fX1_root_k75 y3 y4 mo fl row ba mr ex).1 ∧ (fX0_root_k55 x1 y2 mo fl).2 = (fX1_root_k75 y3 y4 mo fl row ba mr ex).2.1 := by
  have p0 := par_x0 sz
  have p1 := par_x1 sa (by omega) (by omega)
  unfold fX0_root_k55 fX1_root_k75
  by_cases hev : z % 2 = 0
  · rw [if_pos (p0.mpr (by omega)), if_pos (p1.mpr hev)]
    obtain ⟨b, hb⟩ : ∃ b : Int, z = 2 * b := ⟨z / 2, by omega⟩
    obtain ⟨R, hR⟩ := isq_exists (w * (2 ^ 4 * 2 ^ 4))
    obtain ⟨r, hr⟩ := isq_exists w
    have hS1 : 2 ^ 30 * 2 ^ 30 ≤ w * (2 ^ 4 * 2 ^ 4) := by omega
    rw [root0_k69 (e0 := b - 4) k38 (by omega) hS1 hR (e38 (b - 4) (by omega)), hg]
    obtain ⟨f1, f2⟩ := root1_k93 (mo := mo) (fl := fl) (row := row) (ba := ba) (mr := mr) (ex := ex) (y3 := y3) (b := b) hmo (by rw [sa, hb]) (by omega) (by omega) u1 (by omega) (by omega) hr
    rw [f1, f2]
    have := root_RND (mo := mo) (fl := fl) (w := w) (j := 4) (by decide) hR hr (isq_lo hR hS1) b
    have e4 : b - ((4 : Nat) : Int) = b - 4 := rfl
    rw [e4] at this
    rw [this]
    exact ⟨rfl, rfl⟩
  · rw [if_neg (fun q => hev (by have := p0.mp q; omega)), if_neg (fun q => hev (p1.mp q))]
    unfold fX1_root_k85
    obtain ⟨b, hb⟩ : ∃ b : Int, z - 1 = 2 * b := ⟨(z - 1) / 2, by omega⟩
    obtain ⟨R, hR⟩ := isq_exists (2 * w * (2 ^ 3 * 2 ^ 3))
    obtain ⟨r, hr⟩ := isq_exists (2 * w)
    have hS1 : 2 ^ 30 * 2 ^ 30 ≤ 2 * w * (2 ^ 3 * 2 ^ 3) := by omega
    rw [root0_k69 (e0 := b - 3) k37 (by omega) hS1 hR (e37 (b - 3) (by omega)), hg]
    have c1 : Int32.toInt 1 = 1 := by decide
    have sy : (y3 - 1).toInt = 2 * b := by rw [i_sub (by omega) (by omega), sa, c1, hb]
    have c2 : Int64.toInt 2 = 2 := by decide
    have sw : ((2 : Int64) * y4).toInt = ((2 * w : Nat) : Int) := by
      rw [l_mul] <;> rw [c2, u1] <;> omega
    obtain ⟨f1, f2⟩ := root1_k93 (mo := mo) (fl := fl) (row := row) (ba := ba) (mr := mr) (ex := ex) (y3 := y3 - 1) (b := b) hmo sy (by omega) (by omega) sw (by omega) (by omega) hr
    rw [f1, f2]
    have := root_RND (mo := mo) (fl := fl) (w := 2 * w) (j := 3) (by decide) hR hr (isq_lo hR hS1) b
    have e4 : b - ((3 : Nat) : Int) = b - 3 := rfl
    rw [e4] at this
    rw [this]
    exact ⟨rfl, rfl⟩
theorem root_y3 {x1 y : Int32} {g : Nat} (g1 : y.toInt = (g : Int)) (g2 : g ≤ 23) : ((fX1_place x1 - y) - 30).toInt = pX x1 - g - 30 ∧ -400 ≤ pX x1 - g - 30 ∧ pX x1 - g - 30 ≤ 400 := by
  have q1 := pX_ge x1
  have q2 := pX_le x1
  have hpl := v1_place x1
  have c30 : Int32.toInt 30 = 30 := by decide
  have a1 : (fX1_place x1 - y).toInt = pX x1 - g := by rw [i_sub (by omega) (by omega), hpl, g1]
  refine ⟨?_, by omega, by omega⟩
  rw [i_sub (by omega) (by omega), a1, c30]
theorem root_uz {x1 y2 : Int32} {g : Nat} (s1 : y2.toInt = ((g + 38 : Nat) : Int)) (g2 : g ≤ 23) : (fX0_unitOf x1 - y2).toInt = pX x1 - g - 30 - 8 := by
  have q1 := pX_ge x1
  have q2 := pX_le x1
  have hu := p0_unit x1
  rw [i_sub (by omega) (by omega), hu, s1]
  omega
theorem add30 {y : Int32} {g : Nat} (h : y.toInt = (g : Int)) (hg : g ≤ 23) : (y + 30).toInt = ((g + 30 : Nat) : Int) := by
  have c : Int32.toInt 30 = 30 := by decide
  rw [i_add (by omega) (by omega), h, c]
  omega
theorem sub38 {y2 : Int32} {g : Nat} (s1 : y2.toInt = ((g + 38 : Nat) : Int)) : (y2 + (-1)).toInt = ((g + 37 : Nat) : Int) := by
  rw [i32_sub1 (by omega), s1]
  omega
theorem pw38 (m g : Nat) : m * 2 ^ (g + 38) = m * 2 ^ g * 2 ^ 30 * (2 ^ 4 * 2 ^ 4) := by
  rw [Nat.pow_add 2 g 38, ← Nat.mul_assoc, Nat.mul_assoc (m * 2 ^ g) (2 ^ 30)]
theorem pw37 (m g : Nat) : m * 2 ^ (g + 37) = 2 * (m * 2 ^ g * 2 ^ 30) * (2 ^ 3 * 2 ^ 3) := by
  rw [Nat.pow_add 2 g 37, ← Nat.mul_assoc, Nat.mul_comm 2 (m * 2 ^ g * 2 ^ 30), Nat.mul_assoc (m * 2 ^ g) (2 ^ 30), Nat.mul_assoc (m * 2 ^ g)]
theorem lt_w4 {w : Nat} (h : w < 2 ^ 54) : w * (2 ^ 4 * 2 ^ 4) < 2 ^ 62 ∧ 2 * w * (2 ^ 3 * 2 ^ 3) < 2 ^ 62 := by omega
theorem root_fin {mo fl : Int32} {row : Nat → Int64} {ba mr ex x1 : Int32} (hmo : mOk mo) (z1 : zerB x1 = false) (hg : ng x1 = false) :
    (fX0_root_k55 x1 ((62 : Int32) - fX0_bitLength (fX0_magnitudeOf x1)) mo fl).1 = (fX1_root_k53 x1 (fX1_gap (fX1_units x1)) mo fl row ba mr ex).1 ∧ (fX0_root_k55 x1 ((62 : Int32) - fX0_bitLength (fX0_magnitudeOf x1)) mo fl).2 = (fX1_root_k53 x1 (fX1_gap (fX1_units x1)) mo fl row ba mr ex).2.1 := by
  have hm1 := zer_not z1
  obtain ⟨g, g1, g2, g3, g4⟩ := v1_gap (v1_units x1) (Nat.pos_of_ne_zero hm1) (mX_lt x1)
  have s1 := len62 (gap_bl hm1 g3 g4)
  generalize ((62 : Int32) - fX0_bitLength (fX0_magnitudeOf x1)) = y2 at s1 ⊢
  obtain ⟨u1, u2⟩ := v1_shl (d := 30) (v1_units x1) (add30 g1 g2) g4 (by decide) g2
  have hw2 : mX x1 * 2 ^ g * 2 ^ 30 < 2 ^ 54 := by
    calc mX x1 * 2 ^ g * 2 ^ 30 < 2 ^ 24 * 2 ^ 30 := Nat.mul_lt_mul_of_pos_right g4 (by decide)
      _ = 2 ^ 54 := by decide
  have hw3 : 2 ^ 53 ≤ mX x1 * 2 ^ g * 2 ^ 30 := by
    calc 2 ^ 53 = 2 ^ 23 * 2 ^ 30 := by decide
      _ ≤ mX x1 * 2 ^ g * 2 ^ 30 := Nat.mul_le_mul_right _ g3
  obtain ⟨y31, y32, y33⟩ := root_y3 (x1 := x1) g1 g2
  unfold fX1_root_k53 fX1_root_k63
  have hb1 : g + 38 < 63 := Nat.lt_of_le_of_lt (Nat.add_le_add_right g2 38) (by decide)
  have hb2 : g + 37 < 63 := Nat.lt_of_le_of_lt (Nat.add_le_add_right g2 37) (by decide)
  exact root_core hmo hg (root_uz s1 g2) y31 y32 y33 u1 hw2 hw3 (root_shl s1 (Nat.lt_succ_of_lt hb1) (pw38 _ _) (lt_w4 hw2).1) (root_shl (sub38 s1) (Nat.lt_succ_of_lt hb2) (pw37 _ _) (lt_w4 hw2).2)
    (fun e0 h => root_e s1 hb1 (by clear u1 u2 g3 g4 hw2 hw3; omega)) (fun e0 h => root_e (sub38 s1) hb2 (by clear u1 u2 g3 g4 hw2 hw3; omega))
