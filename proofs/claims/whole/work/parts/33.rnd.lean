/-! rounding, on whole numbers: N * 2^e is exact -/
def bl (n : Nat) : Nat := if n = 0 then 0 else n.log2 + 1
theorem bl_0 : bl 0 = 0 := rfl
theorem bl_pos {n : Nat} (h : n ≠ 0) : bl n = n.log2 + 1 := if_neg h
theorem bl_lt (n : Nat) : n < 2 ^ bl n := by
  by_cases h : n = 0
  · subst h; decide
  · rw [bl_pos h]
    exact Nat.lt_log2_self
theorem bl_ge {n : Nat} (h : n ≠ 0) : 2 ^ (bl n - 1) ≤ n := by
  rw [bl_pos h]
  exact Nat.log2_self_le h
theorem bl_eq {n k : Nat} (h1 : 2 ^ k ≤ n) (h2 : n < 2 ^ (k + 1)) : bl n = k + 1 := by
  have h0 : n ≠ 0 := by
    have := Nat.pow_pos (n := k) (show 0 < 2 by decide)
    omega
  rw [bl_pos h0]
  have a1 : k ≤ n.log2 := (Nat.le_log2 h0).mpr h1
  have a2 : n.log2 < k + 1 := (Nat.log2_lt h0).mpr h2
  omega
theorem bl_ge_of {n k : Nat} (h : 2 ^ k ≤ n) : k + 1 ≤ bl n := by
  have h0 : n ≠ 0 := by
    have := Nat.pow_pos (n := k) (show 0 < 2 by decide)
    omega
  rw [bl_pos h0]
  have a1 : k ≤ n.log2 := (Nat.le_log2 h0).mpr h
  omega
theorem bl_le_of {n k : Nat} (h : n < 2 ^ k) : bl n ≤ k := by
  by_cases h0 : n = 0
  · subst h0; rw [bl_0]; omega
  · rw [bl_pos h0]
    have a2 : n.log2 < k := (Nat.log2_lt h0).mpr h
    omega
theorem bl_pos1 {n : Nat} (h : n ≠ 0) : 1 ≤ bl n := by rw [bl_pos h]; omega
theorem bl_mul {n : Nat} (h : n ≠ 0) (k : Nat) : bl (n * 2 ^ k) = bl n + k := by
  have h1 := bl_ge h
  have h2 := bl_lt n
  have h3 := bl_pos1 h
  have hp : 0 < 2 ^ k := Nat.pow_pos (by decide)
  have e : bl n + k = (bl n - 1 + k) + 1 := by omega
  rw [e]
  apply bl_eq
  · rw [Nat.pow_add]
    exact Nat.mul_le_mul_right _ h1
  · rw [show bl n - 1 + k + 1 = bl n + k by omega, Nat.pow_add]
    exact Nat.mul_lt_mul_of_pos_right h2 hp
theorem bl_div {n k : Nat} (h : 2 ^ k ≤ n) : bl (n / 2 ^ k) + k = bl n := by
  have hp : 0 < 2 ^ k := Nat.pow_pos (by decide)
  have h0 : n ≠ 0 := by omega
  have h1 := bl_ge h0
  have h2 := bl_lt n
  have h3 := bl_ge_of h
  have e : bl (n / 2 ^ k) = (bl n - 1 - k) + 1 := by
    apply bl_eq
    · rw [Nat.le_div_iff_mul_le hp, ← Nat.pow_add]
      rw [show bl n - 1 - k + k = bl n - 1 by omega]
      exact h1
    · rw [Nat.div_lt_iff_lt_mul hp, ← Nat.pow_add]
      rw [show bl n - 1 - k + 1 + k = bl n by omega]
      exact h2
  omega
theorem bl_two {n b : Nat} (h : n ≠ 0) (hb : b < 2) : bl (2 * n + b) = bl n + 1 := by
  have e : (2 * n + b) / 2 ^ 1 = n := by omega
  have := bl_div (n := 2 * n + b) (k := 1) (by omega)
  rw [e] at this
  omega
/-- whether a step away from 0 is due, for N / 2^d -/
def stp (mo : Int32) (neg : Bool) (N d : Nat) : Bool :=
  if N % 2 ^ d = 0 then false else if mo = 0 then (decide (N / 2 ^ (d - 1) % 2 = 1) && (!decide (N % 2 ^ (d - 1) = 0) || decide (N / 2 ^ d % 2 = 1))) else if neg then decide (mo = 3) else decide (mo = 2)
def rq (mo : Int32) (neg : Bool) (N : Nat) (d : Int) : Nat := if d ≤ 0 then N * 2 ^ (-d).toNat else N / 2 ^ d.toNat + (if stp mo neg N d.toNat = true then 1 else 0)
theorem rq_pos (mo : Int32) (neg : Bool) (N : Nat) {d : Nat} (hd : 0 < d) : rq mo neg N (d : Int) = N / 2 ^ d + (if stp mo neg N d = true then 1 else 0) := by
  unfold rq
  rw [if_neg (show ¬ (d : Int) ≤ 0 by omega), Int.toNat_natCast]
theorem rq_neg (mo : Int32) (neg : Bool) (N : Nat) {d : Int} (hd : d ≤ 0) : rq mo neg N d = N * 2 ^ (-d).toNat := if_pos hd
def inx (N : Nat) (d : Int) : Bool := decide (0 < d) && !decide (N % 2 ^ d.toNat = 0)
def sgn (neg : Bool) : Int32 := if neg = true then -2147483648 else 0
def flx (fl : Int32) (ix tn : Bool) : Int32 := if ix = true then (if tn = true then (fl ||| 1) ||| 2 else fl ||| 1) else fl
def away (mo : Int32) (neg : Bool) : Bool := if neg = true then decide (mo = 3) else decide (mo = 2)
def COMP (mo fl : Int32) (neg : Bool) (u : Int) (q : Nat) (ix tn : Bool) : Int32 × Int32 :=
  if (u + 149) * 2 ^ 23 + (q : Int) < 2139095040 then (sgn neg ||| Int32.ofInt ((u + 149) * 2 ^ 23 + (q : Int)), flx fl ix tn)
  else (sgn neg ||| (if mo = 0 ∨ away mo neg = true then 2139095040 else 2139095039), flx fl ix tn ||| 5)
def fre (N : Nat) (e : Int) : Int := e + bl N - 24
def hel (N : Nat) (e : Int) : Int := if fre N e < -149 then -149 else fre N e
def RND (mo fl : Int32) (neg : Bool) (N : Nat) (e : Int) : Int32 × Int32 :=
  COMP mo fl neg (hel N e) (rq mo neg N (hel N e - e)) (inx N (hel N e - e)) (decide (fre N e + bl (rq mo neg N (fre N e - e)) < -125))
/-- two that round alike -/
theorem RND_same {mo fl : Int32} {neg : Bool} {N N' : Nat} {e e' : Int} (hf : fre N e = fre N' e') (h : ∀ c : Int, fre N e ≤ c → rq mo neg N (c - e) = rq mo neg N' (c - e') ∧ inx N (c - e) = inx N' (c - e')) : RND mo fl neg N e = RND mo fl neg N' e' := by
  have hh : hel N e = hel N' e' := by unfold hel; rw [hf]
  have h1 := h (fre N e) (Int.le_refl _)
  have h2 := h (hel N e) (by unfold hel; split <;> omega)
  unfold RND
  rw [← hh, ← hf, h1.1, h2.1, h2.2]
theorem stp_shift (mo : Int32) (neg : Bool) (N k d : Nat) (hd : 0 < d) : stp mo neg (N * 2 ^ k) (d + k) = stp mo neg N d := by
  have hp : 0 < 2 ^ k := Nat.pow_pos (by decide)
  have e1 : N * 2 ^ k % 2 ^ (d + k) = N % 2 ^ d * 2 ^ k := by rw [Nat.pow_add, Nat.mul_mod_mul_right]
  have e2 : N * 2 ^ k / 2 ^ (d + k) = N / 2 ^ d := by rw [Nat.pow_add, Nat.mul_div_mul_right _ _ hp]
  have e3 : N * 2 ^ k % 2 ^ (d + k - 1) = N % 2 ^ (d - 1) * 2 ^ k := by
    rw [show d + k - 1 = d - 1 + k by omega, Nat.pow_add, Nat.mul_mod_mul_right]
  have e4 : N * 2 ^ k / 2 ^ (d + k - 1) = N / 2 ^ (d - 1) := by
    rw [show d + k - 1 = d - 1 + k by omega, Nat.pow_add, Nat.mul_div_mul_right _ _ hp]
  have z : ∀ a : Nat, (a * 2 ^ k = 0) ↔ a = 0 := fun a => by
    constructor
    · intro h
      rcases Nat.mul_eq_zero.mp h with q | q
      · exact q
      · omega
    · intro h; rw [h, Nat.zero_mul]
  unfold stp
  rw [e1, e2, e3, e4]
  simp only [z]
/-- (R1) the same number with k zeros more -/
theorem RND_scale (mo fl : Int32) (neg : Bool) {N : Nat} (h0 : N ≠ 0) (e : Int) (k : Nat) : RND mo fl neg (N * 2 ^ k) (e - k) = RND mo fl neg N e := by
  have hp : 0 < 2 ^ k := Nat.pow_pos (by decide)
  refine RND_same (by unfold fre; rw [bl_mul h0]; omega) (fun c _ => ?_)
  have hz : ∀ d : Nat, 0 < d → ((N * 2 ^ k % 2 ^ (d + k) = 0) ↔ (N % 2 ^ d = 0)) := fun d _ => by
    rw [Nat.pow_add, Nat.mul_mod_mul_right]
    constructor
    · intro h
      rcases Nat.mul_eq_zero.mp h with q | q
      · exact q
      · omega
    · intro h; rw [h, Nat.zero_mul]
  have hed : c - (e - (k : Int)) = (c - e) + k := by omega
  rw [hed]
  generalize c - e = d
  rcases Int.lt_or_le 0 d with hd | hd
  · obtain ⟨m, rfl⟩ : ∃ m : Nat, d = m := ⟨d.toNat, by omega⟩
    have hm : 0 < m := by omega
    have t1 : ((m : Int) + (k : Int)).toNat = m + k := by omega
    constructor
    · rw [show (m : Int) + (k : Int) = ((m + k : Nat) : Int) by omega, rq_pos _ _ _ (by omega), rq_pos _ _ _ hm, stp_shift _ _ _ _ _ hm, Nat.pow_add, Nat.mul_div_mul_right _ _ hp]
    · unfold inx
      rw [t1, Int.toNat_natCast]
      simp only [hz m hm]
      congr 1
      exact decide_eq_decide.mpr (by omega)
  · rcases Int.lt_or_le 0 (d + k) with hdk | hdk
    · -- some zeros are cut off
      obtain ⟨m, hm⟩ : ∃ m : Nat, d + k = m := ⟨(d + k).toNat, by omega⟩
      have hmk : m ≤ k := by omega
      have hdv : N * 2 ^ k % 2 ^ m = 0 := by
        rw [show k = m + (k - m) by omega, Nat.pow_add, Nat.mul_left_comm, Nat.mul_mod_right]
      rw [hm]
      constructor
      · unfold rq
        rw [if_neg (by omega), if_pos hd, Int.toNat_natCast]
        have : stp mo neg (N * 2 ^ k) m = false := by unfold stp; rw [if_pos hdv]
        rw [this]
        simp only [Bool.false_eq_true, if_false, Nat.add_zero]
        have : 2 ^ k = 2 ^ (-d).toNat * 2 ^ m := by
          rw [← Nat.pow_add]
          congr 1
          omega
        rw [this, ← Nat.mul_assoc, Nat.mul_div_cancel _ (Nat.pow_pos (by decide))]
      · unfold inx
        rw [Int.toNat_natCast, hdv]
        have : ¬ (0 < d) := by omega
        simp [this]
    · constructor
      · unfold rq
        rw [if_pos hdk, if_pos hd, Nat.mul_assoc, ← Nat.pow_add]
        congr 2
        omega
      · unfold inx
        have a1 : ¬ (0 < d) := by omega
        have a2 : ¬ (0 < d + (k : Int)) := by omega
        simp [a1, a2]
/-- what is cut off below 2^k leaves a trace in the lowest bit -/
def SR (N k : Nat) : Nat := if N % 2 ^ k = 0 then N / 2 ^ k else N / 2 ^ k / 2 * 2 + 1
theorem SR_div (N k : Nat) {j : Nat} (hj : 1 ≤ j) : SR N k / 2 ^ j = N / 2 ^ (k + j) := by
  obtain ⟨i, rfl⟩ : ∃ i, j = 1 + i := ⟨j - 1, by omega⟩
  rw [Nat.pow_add 2 k, ← Nat.div_div_eq_div_mul, Nat.pow_add 2 1, ← Nat.div_div_eq_div_mul, ← Nat.div_div_eq_div_mul]
  congr 1
  unfold SR
  split <;> omega
theorem SR_mod0 (N k : Nat) {j : Nat} (hj : 1 ≤ j) : (SR N k % 2 ^ j = 0) ↔ (N % 2 ^ (k + j) = 0) := by
  have e : N % 2 ^ (k + j) = N % 2 ^ k + 2 ^ k * (N / 2 ^ k % 2 ^ j) := by rw [Nat.pow_add, Nat.mod_mul]
  have hp : 0 < 2 ^ k := Nat.pow_pos (by decide)
  have h2 : (2 : Nat) ^ j = 2 * 2 ^ (j - 1) := by
    rw [Nat.mul_comm, ← Nat.pow_succ]
    congr 1
    omega
  rw [e]
  unfold SR
  split
  · rename_i hz
    rw [hz, Nat.zero_add]
    constructor
    · intro h; rw [h, Nat.mul_zero]
    · intro h
      rcases Nat.mul_eq_zero.mp h with q | q
      · omega
      · exact q
  · rename_i hz
    have : (N / 2 ^ k / 2 * 2 + 1) % 2 ^ j % 2 = 1 := by
      rw [Nat.mod_mod_of_dvd _ ⟨2 ^ (j - 1), h2⟩]
      omega
    constructor
    · intro h; rw [h] at this; exact absurd this (by decide)
    · intro h; omega
theorem stp_SR (mo : Int32) (neg : Bool) (N k j : Nat) (hj : 2 ≤ j) : stp mo neg (SR N k) j = stp mo neg N (k + j) := by
  unfold stp
  rw [SR_div N k (j := j) (by omega), SR_div N k (j := j - 1) (by omega), show k + j - 1 = k + (j - 1) by omega]
  simp only [SR_mod0 N k (j := j) (by omega), SR_mod0 N k (j := j - 1) (by omega)]
theorem bl_SR {N k : Nat} (h : 2 ^ (k + 1) ≤ N) : bl (SR N k) + k = bl N := by
  have hp : 2 ^ k ≤ N := by
    have : 2 ^ k ≤ 2 ^ (k + 1) := Nat.pow_le_pow_right (by decide) (by omega)
    omega
  have h1 := bl_div h
  have h2 : SR N k / 2 ^ 1 = N / 2 ^ (k + 1) := SR_div N k (Nat.le_refl 1)
  have h3 : 1 ≤ N / 2 ^ (k + 1) := Nat.div_pos h (Nat.pow_pos (by decide))
  have h4 := bl_div (n := SR N k) (k := 1) (by omega)
  rw [h2] at h4
  omega
/-- (R2) a number whose low bits are replaced by a trace -/
theorem RND_SR (mo fl : Int32) (neg : Bool) {N k : Nat} (h : 2 ^ (k + 25) ≤ N) (e : Int) : RND mo fl neg (SR N k) (e + k) = RND mo fl neg N e := by
  have hk1 : 2 ^ (k + 1) ≤ N := by
    have : 2 ^ (k + 1) ≤ 2 ^ (k + 25) := Nat.pow_le_pow_right (by decide) (by omega)
    omega
  have hb := bl_SR hk1
  have hb2 := bl_ge_of h
  refine RND_same (by unfold fre; omega) (fun c hc => ?_)
  have hd : (k : Int) + 2 ≤ c - e := by unfold fre at hc; omega
  obtain ⟨j, hj⟩ : ∃ j : Nat, c - (e + k) = j := ⟨(c - (e + k)).toNat, by omega⟩
  have hj2 : 2 ≤ j := by omega
  have hcd : c - e = ((k + j : Nat) : Int) := by omega
  rw [hj, hcd]
  constructor
  · rw [rq_pos _ _ _ (by omega), rq_pos _ _ _ (by omega), SR_div N k (j := j) (by omega), stp_SR _ _ _ _ _ hj2]
  · unfold inx
    rw [Int.toNat_natCast, Int.toNat_natCast]
    simp only [SR_mod0 N k (j := j) (by omega)]
    congr 1
    exact decide_eq_decide.mpr (by omega)
