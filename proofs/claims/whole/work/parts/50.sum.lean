/-! sums -/
def sg (b : Bool) : Int := if b = true then -1 else 1
def AL (m : Nat) (d : Int) : Nat := if d < 0 then SR m (-d).toNat else m * 2 ^ d.toNat
theorem SR_le {B k : Nat} (hk : 1 ≤ k) : SR B k ≤ B := by
  have h1 : B / 2 ^ k ≤ B / 2 ^ 1 := Nat.div_le_div_left (Nat.pow_le_pow_right (by decide) hk) (by decide)
  unfold SR
  split
  · omega
  · rename_i h
    have : B ≠ 0 := fun w => h (by rw [w, Nat.zero_mod])
    omega
theorem cut_plus (A B k : Nat) (hA : A % 2 = 0) : SR (A * 2 ^ k + B) k = A + SR B k := by
  have hp : 0 < 2 ^ k := Nat.pow_pos (by decide)
  have e1 : (A * 2 ^ k + B) / 2 ^ k = A + B / 2 ^ k := by
    rw [Nat.add_comm, Nat.add_mul_div_right _ _ hp, Nat.add_comm]
  have e2 : (A * 2 ^ k + B) % 2 ^ k = B % 2 ^ k := by
    rw [Nat.add_comm, Nat.add_mul_mod_self_right]
  unfold SR
  rw [e1, e2]
  split <;> omega
theorem cut_minus (A B k : Nat) (hA : A % 2 = 0) (hB : B < A * 2 ^ k) : SR (A * 2 ^ k - B) k = A - SR B k ∧ SR B k ≤ A := by
  have hp : 0 < 2 ^ k := Nat.pow_pos (by decide)
  have hdm := Nat.div_add_mod B (2 ^ k)
  have hmod := Nat.mod_lt B hp
  have hq : B / 2 ^ k < A := by
    rw [Nat.div_lt_iff_lt_mul hp]
    exact hB
  by_cases hz : B % 2 ^ k = 0
  · have e0 : A * 2 ^ k - B = (A - B / 2 ^ k) * 2 ^ k := by
      rw [Nat.sub_mul, Nat.mul_comm (B / 2 ^ k)]
      omega
    have h1 : SR B k = B / 2 ^ k := by unfold SR; rw [if_pos hz]
    rw [h1, e0]
    have h2 : (A - B / 2 ^ k) * 2 ^ k % 2 ^ k = 0 := Nat.mul_mod_left _ _
    unfold SR
    rw [if_pos h2, Nat.mul_div_cancel _ hp]
    omega
  · have h1 : SR B k = B / 2 ^ k / 2 * 2 + 1 := by unfold SR; rw [if_neg hz]
    have e0 : A * 2 ^ k - B = (2 ^ k - B % 2 ^ k) + (A - B / 2 ^ k - 1) * 2 ^ k := by
      have : A * 2 ^ k = (A - B / 2 ^ k - 1) * 2 ^ k + (B / 2 ^ k) * 2 ^ k + 2 ^ k := by
        rw [← Nat.add_mul, ← Nat.succ_mul]
        congr 1
        omega
      rw [Nat.mul_comm (B / 2 ^ k)] at this
      omega
    have e1 : (A * 2 ^ k - B) / 2 ^ k = A - B / 2 ^ k - 1 := by
      rw [e0, Nat.add_mul_div_right _ _ hp, Nat.div_eq_of_lt (by omega), Nat.zero_add]
    have e2 : ¬ (A * 2 ^ k - B) % 2 ^ k = 0 := by
      rw [e0, Nat.add_mul_mod_self_right, Nat.mod_eq_of_lt (by omega)]
      omega
    rw [h1]
    unfold SR
    rw [if_neg e2, e1]
    omega
/-- one part is cut off: sign and rounding stay -/
theorem cut_RND {sA sB : Bool} {A B k : Nat} (hA : A % 2 = 0) (hA2 : 2 ^ 60 ≤ A) (hB : B < 2 ^ 48) (hk : 1 ≤ k) :
    ((sg sA * A + sg sB * (SR B k : Nat)) < 0 ↔ sA = true) ∧ ((sg sA * ((A * 2 ^ k : Nat) : Int) + sg sB * (B : Int)) < 0 ↔ sA = true) ∧ (sg sA * A + sg sB * (SR B k : Nat)) ≠ 0 ∧ (sg sA * ((A * 2 ^ k : Nat) : Int) + sg sB * (B : Int)) ≠ 0 ∧
    (sg sA * A + sg sB * (SR B k : Nat)).natAbs = SR (sg sA * ((A * 2 ^ k : Nat) : Int) + sg sB * (B : Int)).natAbs k ∧ 2 ^ (k + 25) ≤ (sg sA * ((A * 2 ^ k : Nat) : Int) + sg sB * (B : Int)).natAbs := by
  have hS := SR_le (B := B) hk
  have hp : 2 ≤ 2 ^ k := by
    calc 2 = 2 ^ 1 := rfl
      _ ≤ 2 ^ k := Nat.pow_le_pow_right (by decide) hk
  have hAk : A * 2 ≤ A * 2 ^ k := Nat.mul_le_mul_left _ hp
  have h59 : 2 ^ 59 * 2 ^ k ≤ A * 2 ^ k - 2 ^ 48 := by
    have : 2 ^ 60 * 2 ^ k ≤ A * 2 ^ k := Nat.mul_le_mul_right _ hA2
    have h3 : 2 ^ 60 * 2 ^ k = 2 ^ 59 * 2 ^ k + 2 ^ 59 * 2 ^ k := by
      rw [← Nat.add_mul]
    have h4 : 2 ^ 59 * 2 ≤ 2 ^ 59 * 2 ^ k := Nat.mul_le_mul_left _ hp
    omega
  have h25 : 2 ^ (k + 25) ≤ 2 ^ 59 * 2 ^ k := by
    rw [← Nat.pow_add]
    exact Nat.pow_le_pow_right (by decide) (by omega)
  have cp := cut_plus A B k hA
  have cm := cut_minus A B k hA (by omega)
  generalize A * 2 ^ k = X at hAk h59 cp cm ⊢
  generalize hs : SR B k = sb at hS cp cm ⊢
  generalize 2 ^ 59 * 2 ^ k = q59 at h59 h25
  generalize 2 ^ (k + 25) = q25 at h25 ⊢
  cases sA <;> cases sB <;> simp only [sg, Bool.false_eq_true, if_false, if_true, Int.one_mul, Int.neg_mul, iff_true, iff_false]
  · have e : ((X : Int) + (B : Int)).natAbs = X + B := by omega
    refine ⟨by omega, by omega, by omega, by omega, ?_, by omega⟩
    rw [e, cp]
    omega
  · have e : ((X : Int) + -(B : Int)).natAbs = X - B := by omega
    refine ⟨by omega, by omega, by omega, by omega, ?_, by omega⟩
    rw [e, cm.1]
    omega
  · have e : (-(X : Int) + (B : Int)).natAbs = X - B := by omega
    refine ⟨by omega, by omega, by omega, by omega, ?_, by omega⟩
    rw [e, cm.1]
    omega
  · have e : (-(X : Int) + -(B : Int)).natAbs = X + B := by omega
    refine ⟨by omega, by omega, by omega, by omega, ?_, by omega⟩
    rw [e, cp]
    omega
theorem natAbs_pow (T : Int) (g : Nat) : (T * ((2 ^ g : Nat) : Int)).natAbs = T.natAbs * 2 ^ g := by
  rw [Int.natAbs_mul, Int.natAbs_natCast]
theorem sign_pow (T : Int) (g : Nat) : (T * ((2 ^ g : Nat) : Int) < 0 ↔ T < 0) ∧ (T * ((2 ^ g : Nat) : Int) = 0 ↔ T = 0) := by
  have hp : (0 : Int) < ((2 ^ g : Nat) : Int) := by
    have : 0 < 2 ^ g := Nat.pow_pos (by decide)
    omega
  constructor
  · constructor
    · intro h
      rcases Int.lt_or_le T 0 with w | w
      · exact w
      · have := Int.mul_nonneg w (Int.le_of_lt hp)
        omega
    · intro h
      exact Int.mul_neg_of_neg_of_pos h hp
  · constructor
    · intro h
      rcases Int.mul_eq_zero.mp h with w | w
      · exact w
      · omega
    · intro h
      rw [h, Int.zero_mul]
theorem RND_up {mo fl : Int32} {neg : Bool} {T : Int} (h0 : T ≠ 0) (E : Int) {g : Nat} (hg : E + 298 = (g : Int)) : RND mo fl neg (T * ((2 ^ g : Nat) : Int)).natAbs (-298) = RND mo fl neg T.natAbs E := by
  rw [natAbs_pow]
  have := RND_scale mo fl neg (N := T.natAbs) (by omega) E g
  rw [show E - (g : Int) = -298 by omega] at this
  exact this
/-- what the two say of a sum -/
def SUM (mo fl : Int32) (sm S u : Int) : Prop := (sm = 0 ↔ S = 0) ∧ (sm < 0 ↔ S < 0) ∧ (S ≠ 0 → ∀ neg : Bool, RND mo fl neg sm.natAbs u = RND mo fl neg S.natAbs (-298))
theorem sum_cut {mo fl : Int32} {sA sB : Bool} {A B k : Nat} (hA : A % 2 = 0) (hA2 : 2 ^ 60 ≤ A) (hB : B < 2 ^ 48) (hk : 1 ≤ k) {u : Int} {g : Nat} (hg : u - k + 298 = (g : Int)) {S : Int} (hS : S = (sg sA * ((A * 2 ^ k : Nat) : Int) + sg sB * (B : Int)) * ((2 ^ g : Nat) : Int)) :
    SUM mo fl (sg sA * A + sg sB * (SR B k : Nat)) S u := by
  obtain ⟨c1, c2, c3, c4, c5, c6⟩ := cut_RND (sA := sA) (sB := sB) hA hA2 hB hk
  generalize (sg sA * ((A * 2 ^ k : Nat) : Int) + sg sB * (B : Int)) = T at c2 c4 c5 c6 hS
  generalize (sg sA * A + sg sB * (SR B k : Nat)) = sm at c1 c3 c5 ⊢
  obtain ⟨s1, s2⟩ := sign_pow T g
  subst hS
  refine ⟨⟨fun h => absurd h c3, fun h => absurd (s2.mp h) c4⟩, by rw [s1, c1, c2], fun _ neg => ?_⟩
  rw [RND_up c4 (u - k) hg, c5]
  have := RND_SR mo fl neg c6 (u - k)
  rw [show u - (k : Int) + k = u by omega] at this
  exact this
theorem AL_pos {m : Nat} {d : Int} (h : 0 ≤ d) : AL m d = m * 2 ^ d.toNat := by unfold AL; rw [if_neg (by omega)]
theorem AL_neg {m : Nat} {d : Int} (h : d < 0) : AL m d = SR m (-d).toNat := by unfold AL; rw [if_pos h]
theorem AL_top {m : Nat} (hm : m ≠ 0) (hb : bl m ≤ 48) {d : Int} (hd : d = 61 - bl m) : AL m d % 2 = 0 ∧ 2 ^ 60 ≤ AL m d := by
  have hb1 := bl_pos1 hm
  rw [AL_pos (by omega)]
  have e : 2 ^ d.toNat = 2 * 2 ^ (d.toNat - 1) := by
    rw [Nat.mul_comm, ← Nat.pow_succ]
    congr 1
    omega
  constructor
  · rw [e, Nat.mul_left_comm, Nat.mul_mod_right]
  · calc 2 ^ 60 = 2 ^ (bl m - 1 + d.toNat) := by congr 1; omega
      _ = 2 ^ (bl m - 1) * 2 ^ d.toNat := Nat.pow_add 2 _ _
      _ ≤ m * 2 ^ d.toNat := Nat.mul_le_mul_right _ (bl_ge hm)
theorem AL_lt {m : Nat} {d : Int} (hm : m < 2 ^ 48) (hd : (bl m : Int) + d ≤ 61) : AL m d < 2 ^ 61 := by
  rcases Int.lt_or_le d 0 with h | h
  · rw [AL_neg h]
    have := SR_le (B := m) (k := (-d).toNat) (by omega)
    omega
  · rw [AL_pos h]
    calc m * 2 ^ d.toNat < 2 ^ bl m * 2 ^ d.toNat := Nat.mul_lt_mul_of_pos_right (bl_lt m) (Nat.pow_pos (by decide))
      _ = 2 ^ (bl m + d.toNat) := (Nat.pow_add 2 _ _).symm
      _ ≤ 2 ^ 61 := Nat.pow_le_pow_right (by decide) (by omega)
theorem pw_split (m : Nat) {a b c : Nat} (h : c = a + b) : m * 2 ^ c = m * 2 ^ a * 2 ^ b := by rw [h, Nat.pow_add, Nat.mul_assoc]
theorem sum_RND {mo fl : Int32} {s1 s2 : Bool} {P M : Nat} {e pc u : Int} (hP0 : P ≠ 0) (hM0 : M ≠ 0) (hP : P < 2 ^ 48) (hM : M < 2 ^ 48) (he : -298 ≤ e) (hpc : -298 ≤ pc) (hu : -298 ≤ u) (ht1 : e + bl P ≤ u + 61) (ht2 : pc + bl M ≤ u + 61) (ht3 : e + bl P = u + 61 ∨ pc + bl M = u + 61) :
    SUM mo fl (sg s1 * (AL P (e - u) : Nat) + sg s2 * (AL M (pc - u) : Nat)) (sg s1 * ((P * 2 ^ (e + 298).toNat : Nat) : Int) + sg s2 * ((M * 2 ^ (pc + 298).toNat : Nat) : Int)) u := by
  have hbP : bl P ≤ 48 := bl_le_of hP
  have hbM : bl M ≤ 48 := bl_le_of hM
  rcases Int.lt_or_le e u with h1 | h1
  · -- the first is cut off
    have hk : pc + bl M = u + 61 := by omega
    obtain ⟨t1, t2⟩ := AL_top (d := pc - u) hM0 hbM (by omega)
    obtain ⟨k, hkk⟩ : ∃ k : Nat, u - e = (k : Int) := ⟨(u - e).toNat, by omega⟩
    have e1 : AL P (e - u) = SR P k := by
      rw [AL_neg (by omega)]
      congr 1
      omega
    rw [e1, Int.add_comm (sg s1 * _) (sg s2 * _), Int.add_comm (sg s1 * _) (sg s2 * _)]
    obtain ⟨g, hg⟩ : ∃ g : Nat, u - (k : Int) + 298 = (g : Int) := ⟨(u - (k : Int) + 298).toNat, by omega⟩
    refine sum_cut t1 t2 hP (by omega) hg ?_
    have f1 : P * 2 ^ (e + 298).toNat = P * 2 ^ g := by congr 2; omega
    have f2 : M * 2 ^ (pc + 298).toNat = AL M (pc - u) * 2 ^ k * 2 ^ g := by
      rw [AL_pos (by omega), ← pw_split M rfl, ← pw_split M rfl]
      congr 2
      omega
    rw [f1, f2, Int.natCast_mul (P) (2 ^ g), Int.natCast_mul (AL M (pc - u) * 2 ^ k) (2 ^ g), Int.add_mul, Int.mul_assoc, Int.mul_assoc]
  · rcases Int.lt_or_le pc u with h2 | h2
    · have hk : e + bl P = u + 61 := by omega
      obtain ⟨t1, t2⟩ := AL_top (d := e - u) hP0 hbP (by omega)
      obtain ⟨k, hkk⟩ : ∃ k : Nat, u - pc = (k : Int) := ⟨(u - pc).toNat, by omega⟩
      have e1 : AL M (pc - u) = SR M k := by
        rw [AL_neg (by omega)]
        congr 1
        omega
      rw [e1]
      obtain ⟨g, hg⟩ : ∃ g : Nat, u - (k : Int) + 298 = (g : Int) := ⟨(u - (k : Int) + 298).toNat, by omega⟩
      refine sum_cut t1 t2 hM (by omega) hg ?_
      have f1 : M * 2 ^ (pc + 298).toNat = M * 2 ^ g := by congr 2; omega
      have f2 : P * 2 ^ (e + 298).toNat = AL P (e - u) * 2 ^ k * 2 ^ g := by
        rw [AL_pos (by omega), ← pw_split P rfl, ← pw_split P rfl]
        congr 2
        omega
      rw [f1, f2, Int.natCast_mul (M) (2 ^ g), Int.natCast_mul (AL P (e - u) * 2 ^ k) (2 ^ g), Int.add_mul, Int.mul_assoc, Int.mul_assoc]
    · obtain ⟨g, hg⟩ : ∃ g : Nat, u + 298 = (g : Int) := ⟨(u + 298).toNat, by omega⟩
      have f1 : P * 2 ^ (e + 298).toNat = AL P (e - u) * 2 ^ g := by
        rw [AL_pos (by omega), ← pw_split P rfl]
        congr 2
        omega
      have f2 : M * 2 ^ (pc + 298).toNat = AL M (pc - u) * 2 ^ g := by
        rw [AL_pos (by omega), ← pw_split M rfl]
        congr 2
        omega
      rw [f1, f2, Int.natCast_mul (AL P (e - u)) (2 ^ g), Int.natCast_mul (AL M (pc - u)) (2 ^ g), ← Int.mul_assoc, ← Int.mul_assoc, ← Int.add_mul]
      generalize (sg s1 * (AL P (e - u) : Nat) + sg s2 * (AL M (pc - u) : Nat)) = T
      obtain ⟨q1, q2⟩ := sign_pow T g
      refine ⟨q2.symm, q1.symm, fun h neg => ?_⟩
      have hT : T ≠ 0 := fun w => h (q2.mpr w)
      exact (RND_up hT u hg).symm
