/-! the reference's finish is RND -/
def mOk (mo : Int32) : Prop := mo = 0 ∨ mo = 1 ∨ mo = 2 ∨ mo = 3
theorem rq_le (mo : Int32) (neg : Bool) {N : Nat} {d : Int} (hd : (bl N : Int) - 24 ≤ d) : rq mo neg N d ≤ 2 ^ 24 := by
  have h1 := bl_lt N
  rcases Int.lt_or_le 0 d with h | h
  · obtain ⟨k, rfl⟩ : ∃ k : Nat, d = k := ⟨d.toNat, by omega⟩
    rw [rq_pos _ _ _ (by omega)]
    have h2 : N / 2 ^ k < 2 ^ 24 := by
      rw [Nat.div_lt_iff_lt_mul (Nat.pow_pos (by decide)), ← Nat.pow_add]
      exact Nat.lt_of_lt_of_le h1 (Nat.pow_le_pow_right (by decide) (by omega))
    split <;> omega
  · rw [rq_neg _ _ _ h]
    have h2 : N * 2 ^ (-d).toNat < 2 ^ 24 := by
      calc N * 2 ^ (-d).toNat < 2 ^ bl N * 2 ^ (-d).toNat := Nat.mul_lt_mul_of_pos_right h1 (Nat.pow_pos (by decide))
        _ = 2 ^ (bl N + (-d).toNat) := (Nat.pow_add 2 _ _).symm
        _ ≤ 2 ^ 24 := Nat.pow_le_pow_right (by decide) (by omega)
    omega
theorem rq_ge (mo : Int32) (neg : Bool) {N : Nat} (h0 : N ≠ 0) {d : Int} (hd : d = (bl N : Int) - 24) : 2 ^ 23 ≤ rq mo neg N d := by
  have h1 := bl_ge h0
  have h2 := bl_pos1 h0
  rcases Int.lt_or_le 0 d with h | h
  · obtain ⟨k, rfl⟩ : ∃ k : Nat, d = k := ⟨d.toNat, by omega⟩
    rw [rq_pos _ _ _ (by omega)]
    have h3 : 2 ^ 23 ≤ N / 2 ^ k := by
      rw [Nat.le_div_iff_mul_le (Nat.pow_pos (by decide)), ← Nat.pow_add, show 23 + k = bl N - 1 by omega]
      exact h1
    omega
  · rw [rq_neg _ _ _ h]
    calc 2 ^ 23 = 2 ^ (bl N - 1 + (-d).toNat) := by congr 1; omega
      _ = 2 ^ (bl N - 1) * 2 ^ (-d).toNat := Nat.pow_add 2 _ _
      _ ≤ N * 2 ^ (-d).toNat := Nat.mul_le_mul_right _ h1
theorem qb_lt {V : Nat} {cut : Int} (h : (bl V : Int) ≤ cut + 24) : qb V cut < 2 ^ 24 := by
  have h1 := bl_lt V
  unfold qb
  split
  · calc V * 2 ^ (-cut).toNat < 2 ^ bl V * 2 ^ (-cut).toNat := Nat.mul_lt_mul_of_pos_right h1 (Nat.pow_pos (by decide))
      _ = 2 ^ (bl V + (-cut).toNat) := (Nat.pow_add 2 _ _).symm
      _ ≤ 2 ^ 24 := Nat.pow_le_pow_right (by decide) (by omega)
  · rw [Nat.div_lt_iff_lt_mul (Nat.pow_pos (by decide)), ← Nat.pow_add]
    exact Nat.lt_of_lt_of_le h1 (Nat.pow_le_pow_right (by decide) (by omega))
theorem v1_signed (z y : Int32) {neg : Bool} (hneg : (y = 0) ↔ neg = false) : fX1_signed z y = sgn neg ||| z := by
  unfold fX1_signed sgn
  cases neg
  · rw [if_pos (hneg.mpr rfl)]
    simp
  · rw [if_neg (fun w => by have := hneg.mp w; exact absurd this (by decide)), if_pos rfl, Int32.or_comm]
theorem or45 (f : Int32) : (f ||| 4) ||| 1 = f ||| 5 := by
  rw [Int32.or_assoc]
  rfl
set_option maxHeartbeats 4000000 in
theorem v1_k139 {mo : Int32} (hmo : mOk mo) (y1 f : Int32) (row : Nat → Int64) (ba mr ex : Int32) {neg : Bool} (hneg : (y1 = 0) ↔ neg = false) :
    fX1_finish_k139 y1 mo f row ba mr ex = (sgn neg ||| (if mo = 0 ∨ away mo neg = true then 2139095040 else 2139095039), f ||| 5, ex) := by
  unfold fX1_finish_k139 fX1_finish_k171 fX1_finish_k188 fX1_finish_k202
  simp only [v1_signed _ _ hneg, or45]
  have e10 : ¬ ((1 : Int32) = 0) := by decide
  have hy : (y1 = 0) = (neg = false) := propext hneg
  simp only [hy]
  rcases hmo with rfl | rfl | rfl | rfl <;> cases neg <;> simp [away]
theorem ofInt_eq {x : Int32} {p : Int} (h : x.toInt = p) : x = Int32.ofInt p := by rw [← h, Int32.ofInt_toInt]
theorem v1_k207 (mo y1 y3 y5 f : Int32) (row : Nat → Int64) (ba mr ex : Int32) {neg : Bool} (hneg : (y1 = 0) ↔ neg = false) {u : Int} {q : Nat} (hu : y3.toInt = u) (hq : y5.toInt = q) (h1 : -149 ≤ u) (h2 : -149 < u → 2 ^ 23 ≤ q) (h3 : q ≤ 2 ^ 24) (hp : (u + 149) * 2 ^ 23 + (q : Int) < 2139095040) :
    fX1_finish_k207 y1 y3 y5 mo f row ba mr ex = (sgn neg ||| Int32.ofInt ((u + 149) * 2 ^ 23 + (q : Int)), f, ex) := by
  unfold fX1_finish_k207 fX1_finish_k253
  simp only [v1_signed _ _ hneg]
  have c23 : Int32.toInt 23 = ((23 : Nat) : Int) := by decide
  by_cases ha : y5 = 16777216
  · rw [if_pos ha]
    have hq24 : q = 2 ^ 24 := by
      rw [ha] at hq
      have : Int32.toInt 16777216 = 16777216 := by decide
      omega
    subst hq24
    have c1 : Int32.toInt 151 = 151 := by decide
    have s1 : (y3 + 151).toInt = u + 151 := by rw [i_add (by omega) (by omega), hu, c1]
    have s2 : ((y3 + 151) <<< ((23 : Int32) &&& 31)).toInt = (u + 151) * 2 ^ 23 := by
      rw [i_shl c23 (by decide)] <;> rw [s1] <;> omega
    have e : (u + 149) * 2 ^ 23 + ((2 ^ 24 : Nat) : Int) = (u + 151) * 2 ^ 23 := by omega
    rw [ofInt_eq s2, e]
  · rw [if_neg ha]
    have hqn : q ≠ 2 ^ 24 := fun w => ha (by
      apply Int32.toInt_inj.mp
      rw [hq, w]
      rfl)
    have c8 : Int32.toInt 8388608 = 8388608 := by decide
    by_cases hb : (8388608 : Int32) ≤ y5
    · rw [if_pos hb]
      rw [Int32.le_iff_toInt_le, hq, c8] at hb
      have c1 : Int32.toInt 150 = 150 := by decide
      have s1 : (y3 + 150).toInt = u + 150 := by rw [i_add (by omega) (by omega), hu, c1]
      have s2 : ((y3 + 150) <<< ((23 : Int32) &&& 31)).toInt = (u + 150) * 2 ^ 23 := by
        rw [i_shl c23 (by decide)] <;> rw [s1] <;> omega
      have s3 : ((y3 + 150) <<< ((23 : Int32) &&& 31) + y5).toInt = (u + 150) * 2 ^ 23 + q := by
        rw [i_add] <;> rw [s2, hq] <;> omega
      have s4 : ((y3 + 150) <<< ((23 : Int32) &&& 31) + y5 - 8388608).toInt = (u + 149) * 2 ^ 23 + q := by
        rw [i_sub] <;> rw [s3, c8] <;> omega
      rw [ofInt_eq s4]
    · rw [if_neg hb]
      rw [Int32.le_iff_toInt_le, hq, c8] at hb
      have hu2 : u = -149 := by omega
      subst hu2
      have e : ((-149 : Int) + 149) * 2 ^ 23 + (q : Int) = q := by omega
      rw [e, ofInt_eq hq]
set_option maxHeartbeats 4000000 in
theorem v1_k79 {mo : Int32} (hmo : mOk mo) (fl y1 y3 y4 z0 : Int32) (row : Nat → Int64) (ba mr : Int32) {neg : Bool} (hneg : (y1 = 0) ↔ neg = false) {u : Int} {q : Nat} (hu : y3.toInt = u) (hq : z0.toInt = q) (h1 : -149 ≤ u) (h2 : -149 < u → 2 ^ 23 ≤ q) (h3 : q ≤ 2 ^ 24) (ix tn : Bool) (ht : (y4 = 0) ↔ tn = false) :
    ∃ ex' : Int32, fX1_finish_k79 y1 y3 y4 z0 mo fl row ba mr (if ix = true then 0 else 1) = ((COMP mo fl neg u q ix tn).1, (COMP mo fl neg u q ix tn).2, ex') := by
  have h120 : fX1_finish_k79 y1 y3 y4 z0 mo fl row ba mr (if ix = true then 0 else 1) = fX1_finish_k120 y1 y3 z0 mo (flx fl ix tn) row ba mr (if ix = true then 0 else 1) := by
    unfold fX1_finish_k79 fX1_finish_k98 flx
    have e10 : ¬ ((1 : Int32) = 0) := by decide
    have hy : (y4 = 0) = (tn = false) := propext ht
    simp only [hy]
    cases ix <;> cases tn <;> simp [e10]
  rw [h120]
  refine ⟨if ix = true then 0 else 1, ?_⟩
  generalize (if ix = true then (0 : Int32) else 1) = ex
  unfold fX1_finish_k120 COMP
  have c104 : Int32.toInt 104 = 104 := by decide
  have c24 : Int32.toInt 16777216 = 16777216 := by decide
  by_cases ha : (104 : Int32) < y3
  · rw [if_pos ha, v1_k139 hmo _ _ _ _ _ _ hneg]
    rw [Int32.lt_iff_toInt_lt, hu, c104] at ha
    have := h2 (by omega)
    have hp : ¬ ((u + 149) * 2 ^ 23 + (q : Int) < 2139095040) := by omega
    rw [if_neg hp]
  · rw [if_neg ha]
    rw [Int32.lt_iff_toInt_lt, hu, c104] at ha
    by_cases hb : y3 = 104
    · rw [if_pos hb]
      have hu4 : u = 104 := by rw [← hu, hb]; rfl
      by_cases hc : z0 = 16777216
      · rw [if_pos hc, v1_k139 hmo _ _ _ _ _ _ hneg]
        have : (q : Int) = 16777216 := by rw [← hq, hc]; rfl
        have hp : ¬ ((u + 149) * 2 ^ 23 + (q : Int) < 2139095040) := by omega
        rw [if_neg hp]
      · rw [if_neg hc]
        have : q ≠ 2 ^ 24 := fun w => hc (by
          apply Int32.toInt_inj.mp
          rw [hq, w]
          rfl)
        have hp : (u + 149) * 2 ^ 23 + (q : Int) < 2139095040 := by omega
        rw [v1_k207 mo y1 y3 z0 _ row ba mr ex hneg hu hq h1 h2 h3 hp, if_pos hp]
    · rw [if_neg hb]
      have : u ≠ 104 := fun w => hb (by
        apply Int32.toInt_inj.mp
        rw [hu, w]
        rfl)
      have hp : (u + 149) * 2 ^ 23 + (q : Int) < 2139095040 := by omega
      rw [v1_k207 mo y1 y3 z0 _ row ba mr ex hneg hu hq h1 h2 h3 hp, if_pos hp]
theorem v1_finish {row : Nat → Int64} {V : Nat} (hR : RP row V) (hV : V < 2 ^ 600) (h0 : V ≠ 0) {mo : Int32} (hmo : mOk mo) (fl : Int32) {ba : Int32} (hb1 : -800 ≤ ba.toInt) (hb2 : ba.toInt ≤ 800) {mr : Int32} {m : Nat} (hm : m < 2) (hmr : mr.toInt = m) (hc : m = 0 ∨ 2 ^ 24 ≤ V) (ex : Int32) {x1 : Int32} {neg : Bool} (hneg : (x1 = 0) ↔ neg = false) :
    ∃ ex' : Int32, fX1_finish mo fl row ba mr ex x1 = ((RND mo fl neg (2 * V + m) (ba.toInt - 1)).1, (RND mo fl neg (2 * V + m) (ba.toInt - 1)).2, ex') := by
  have hblV : bl V ≤ 600 := bl_le_of hV
  have hbl1 := bl_pos1 h0
  have hblN : bl (2 * V + m) = bl V + 1 := bl_two h0 hm
  have hN0 : 2 * V + m ≠ 0 := by omega
  have hcb : m = 0 ∨ 25 ≤ bl V := hc.imp id (fun h => bl_ge_of h)
  have hfr : fre (2 * V + m) (ba.toInt - 1) = ba.toInt + bl V - 24 := by unfold fre; omega
  have htop : (fX1_top row).toInt = (bl V : Int) - 1 := by
    rw [v1_top hR hV (Nat.pos_of_ne_zero h0), bl_pos h0]
    omega
  have c23 : Int32.toInt 23 = 23 := by decide
  have hy : ((fX1_top row + ba) - 23).toInt = ba.toInt + bl V - 24 := by
    have s1 : (fX1_top row + ba).toInt = (bl V : Int) - 1 + ba.toInt := by rw [i_add (by omega) (by omega), htop]
    rw [i_sub (by omega) (by omega), s1, c23]
    omega
  have hroun : ∀ (y ex : Int32) (c : Int), y.toInt = c → ba.toInt + bl V - 24 ≤ c → c ≤ 1400 → c - ba.toInt ≤ 1000 → (fX1_rounded mo row mr ex (y - ba) x1).1.toInt = ((rq mo neg (2 * V + m) (c - (ba.toInt - 1)) : Nat) : Int) ∧ (fX1_rounded mo row mr ex (y - ba) x1).2 = if inx (2 * V + m) (c - (ba.toInt - 1)) = true then 0 else 1 := by
    intro y ex c hyc h1 h2 h3
    have s1 : (y - ba).toInt = c - ba.toInt := by rw [i_sub (by omega) (by omega), hyc]
    have := v1_rounded hR hV mo hm hmr ex (x1 := y - ba) (x2 := x1) (by omega) (by omega) (qb_lt (by omega)) (by rcases hcb with h | h <;> omega) hneg
    rw [s1, show c - ba.toInt + 1 = c - (ba.toInt - 1) by omega] at this
    exact this
  unfold fX1_finish fX1_finish_k13 RND
  generalize ((fX1_top row + ba) - 23) = y2 at hy ⊢
  have c149 : Int32.toInt (-149) = -149 := by decide
  have c150 : Int32.toInt (-150) = -150 := by decide
  have c24 : Int32.toInt 16777216 = 16777216 := by decide
  have hqle : ∀ c : Int, ba.toInt + bl V - 24 ≤ c → rq mo neg (2 * V + m) (c - (ba.toInt - 1)) ≤ 2 ^ 24 := fun c h => rq_le mo neg (by omega)
  have hqge := rq_ge mo neg hN0 (d := ba.toInt + bl V - 24 - (ba.toInt - 1)) (by omega)
  by_cases hlow : (-149 : Int32) ≤ y2
  · rw [if_pos hlow]
    rw [Int32.le_iff_toInt_le, hy, c149] at hlow
    unfold fX1_finish_k27
    rw [if_pos (by rw [Int32.le_iff_toInt_le, hy, c149]; exact hlow)]
    have hhel : hel (2 * V + m) (ba.toInt - 1) = ba.toInt + bl V - 24 := by
      unfold hel
      rw [hfr, if_neg (by omega)]
    rw [hhel, hfr]
    obtain ⟨r1, r2⟩ := hroun y2 ex _ hy (Int.le_refl _) (by omega) (by omega)
    unfold fX1_finish_k68
    rw [r2]
    -- not tiny
    have htn : decide (ba.toInt + ↑(bl V) - 24 + ↑(bl (rq mo neg (2 * V + m) (ba.toInt + ↑(bl V) - 24 - (ba.toInt - 1)))) < -125) = false := by
      have := bl_ge_of hqge
      exact decide_eq_false (by omega)
    rw [htn]
    exact v1_k79 hmo fl x1 y2 0 _ row ba mr hneg hy r1 (by omega) (fun _ => hqge) (hqle _ (Int.le_refl _)) _ false (by simp)
  · rw [if_neg hlow]
    rw [Int32.le_iff_toInt_le, hy, c149] at hlow
    unfold fX1_finish_k27
    rw [if_neg (by rw [Int32.le_iff_toInt_le, hy, c149]; exact hlow)]
    have hhel : hel (2 * V + m) (ba.toInt - 1) = -149 := by
      unfold hel
      rw [hfr, if_pos (by omega)]
    rw [hhel, hfr]
    obtain ⟨r1, r2⟩ := hroun y2 ex _ hy (Int.le_refl _) (by omega) (by omega)
    generalize (fX1_rounded mo row mr ex (y2 - ba) x1).1 = qf at r1 ⊢
    generalize (fX1_rounded mo row mr ex (y2 - ba) x1).2 = ex1
    have hqf := hqle _ (Int.le_refl (ba.toInt + bl V - 24))
    obtain ⟨y4, hy4, hk⟩ : ∃ y4 : Int32, ((y4 = 0) ↔ decide (ba.toInt + ↑(bl V) - 24 + ↑(bl (rq mo neg (2 * V + m) (ba.toInt + ↑(bl V) - 24 - (ba.toInt - 1)))) < -125) = false) ∧ fX1_finish_k49 x1 y2 (-149) qf mo fl row ba mr ex1 = fX1_finish_k68 x1 (-149) y4 mo fl row ba mr ex1 := by
      unfold fX1_finish_k49 fX1_finish_k66
      generalize hQ : rq mo neg (2 * V + m) (ba.toInt + ↑(bl V) - 24 - (ba.toInt - 1)) = Q at hqf hqge r1 ⊢
      by_cases ha : qf < 16777216
      · rw [if_pos ha]
        rw [Int32.lt_iff_toInt_lt, r1, c24] at ha
        have hQb : bl Q = 24 := bl_eq hqge (by omega)
        refine ⟨1, ?_, rfl⟩
        rw [hQb]
        simp
        omega
      · rw [if_neg ha]
        rw [Int32.lt_iff_toInt_lt, r1, c24] at ha
        have hQe : Q = 2 ^ 24 := by omega
        have hQb : bl Q = 25 := by rw [hQe]; exact bl_eq (Nat.le_refl _) (by decide)
        rw [hQb]
        by_cases hb : (-150 : Int32) ≤ y2
        · rw [if_pos hb]
          rw [Int32.le_iff_toInt_le, hy, c150] at hb
          refine ⟨0, ?_, rfl⟩
          simp
          omega
        · rw [if_neg hb]
          rw [Int32.le_iff_toInt_le, hy, c150] at hb
          refine ⟨1, ?_, rfl⟩
          simp
          omega
    rw [hk]
    obtain ⟨t1, t2⟩ := hroun (-149) ex1 (-149) c149 (by omega) (by omega) (by omega)
    unfold fX1_finish_k68
    rw [t2]
    exact v1_k79 hmo fl x1 (-149) y4 _ row ba mr hneg c149 t1 (by omega) (fun h => absurd h (by omega)) (hqle _ (by omega)) _ _ hy4
