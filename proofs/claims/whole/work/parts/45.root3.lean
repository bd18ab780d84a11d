theorem isq_ex (S : Nat) : ∀ n, S < (n + 1) * (n + 1) → ∃ R, isq S R
  | 0, h => ⟨0, Nat.zero_le _, h⟩
  | n + 1, h => by
    rcases Nat.lt_or_ge S ((n + 1) * (n + 1)) with w | w
    · exact isq_ex S n w
    · exact ⟨n + 1, w, h⟩
theorem isq_exists (S : Nat) : ∃ R, isq S R := isq_ex S S (by
  have : (S + 1) * 1 ≤ (S + 1) * (S + 1) := Nat.mul_le_mul_left _ (by omega)
  omega)
/-- both roots round alike -/
theorem root_RND {mo fl : Int32} {w j : Nat} (hj : j ≤ 4) {R r : Nat} (h0 : isq (w * (2 ^ j * 2 ^ j)) R) (h1 : isq w r) (hR : 2 ^ 30 ≤ R) (b : Int) :
    RND mo fl false (SR (2 * R + (if R * R = w * (2 ^ j * 2 ^ j) then 0 else 1)) 1) (b - j) = RND mo fl false (2 * r + (if r * r = w then 0 else 1)) (b - 1) := by
  have hp : 0 < 2 ^ j := Nat.pow_pos (by decide)
  have a1 := isq_scale hp h0 h1
  have a2 := isq_exact hp h0 h1
  have hd := tw_div R (m := if R * R = w * (2 ^ j * 2 ^ j) then 0 else 1) ite01_lt j
  have hm := tw_mod0 R (m := if R * R = w * (2 ^ j * 2 ^ j) then 0 else 1) ite01_lt j
  have hY : 2 ^ 31 ≤ 2 * R + (if R * R = w * (2 ^ j * 2 ^ j) then 0 else 1) := by omega
  have h3 : ((if R * R = w * (2 ^ j * 2 ^ j) then 0 else 1) = 0) ↔ R * R = w * (2 ^ j * 2 ^ j) := by
    by_cases h : R * R = w * (2 ^ j * 2 ^ j) <;> simp [h]
  rw [h3] at hm
  generalize 2 * R + (if R * R = w * (2 ^ j * 2 ^ j) then 0 else 1) = Y at hd hm hY ⊢
  have hY1 : 2 ^ (j + 25) ≤ Y := Nat.le_trans (Nat.pow_le_pow_right (by decide) (by omega)) hY
  have hY2 : 2 ^ 26 ≤ Y := Nat.le_trans (by decide) hY
  have hq := RND_q (mo := mo) (fl := fl) (neg := false) hY1 hY2 (b - j - 1)
  have e1 : b - (j : Int) - 1 + 1 = b - j := by omega
  have e2 : b - (j : Int) - 1 + j = b - 1 := by omega
  rw [e1, e2, hd, ← a1] at hq
  rw [hq]
  have h4 : (Y % 2 ^ (j + 1) = 0) ↔ r * r = w := by rw [hm, a2]
  simp only [h4]
