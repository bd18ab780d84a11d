/-! the row of limbs as one whole number -/
def vs (row : Nat → Int64) : Nat → Int
  | 0 => 0
  | n + 1 => vs row n + (row n).toInt * 2 ^ (24 * n)
theorem vs_congr {r1 r2 : Nat → Int64} : ∀ n : Nat, (∀ k, k < n → r1 k = r2 k) → vs r1 n = vs r2 n
  | 0, _ => rfl
  | n + 1, h => by
    show vs r1 n + _ = vs r2 n + _
    rw [vs_congr n (fun k hk => h k (by omega)), h n (by omega)]
theorem vs_upd (row : Nat → Int64) (i : Nat) (x : Int64) : ∀ n : Nat, vs (vp_updL row i x) n = vs row n + (if i < n then (x.toInt - (row i).toInt) * 2 ^ (24 * i) else 0)
  | 0 => by simp [vs]
  | n + 1 => by
    show vs (vp_updL row i x) n + _ = vs row n + _ + _
    rw [vs_upd row i x n]
    rcases Nat.lt_trichotomy i n with h | h | h
    · rw [if_pos h, if_pos (by omega), pk_uLn (by omega)]
      omega
    · subst h
      rw [if_neg (by omega), if_pos (by omega), pk_uLs, Int.sub_mul]
      omega
    · rw [if_neg (by omega), if_neg (by omega), pk_uLn (by omega)]
      omega
theorem vs_zero {row : Nat → Int64} (n : Nat) (h : ∀ k, k < n → row k = 0) : vs row n = 0 := by
  induction n with
  | zero => rfl
  | succ n ih =>
    show vs row n + _ = 0
    rw [ih (fun k hk => h k (by omega)), h n (by omega)]
    simp
theorem i_clamp {x : Int32} {n : Nat} (h : x.toInt = n) : x.toNatClampNeg = n := by
  show x.toInt.toNat = n
  omega
theorem i_div24 {x : Int32} {n : Nat} (h : x.toInt = n) : (x / 24).toInt = ((n / 24 : Nat) : Int) := by
  have hlt := Int32.toInt_lt x
  rw [i_eq_nI h, show nI n / 24 = nI (n / 24) from pk_div (by omega) (by decide) (by decide), nI_toInt (by omega)]
theorem i_rem24 {x : Int32} {n : Nat} (h : x.toInt = n) : (x - x / 24 * 24).toInt = ((n % 24 : Nat) : Int) := by
  have hlt := Int32.toInt_lt x
  rw [i_eq_nI h, show nI n - nI n / 24 * 24 = nI (n % 24) from pk_rem (by omega) (by decide) (by decide), nI_toInt (by omega)]
theorem p24 {i : Nat} : (2 : Int) ^ (i % 24) * 2 ^ (24 * (i / 24)) = 2 ^ i := by
  rw [← Int.pow_add]
  congr 1
  omega
theorem pow_le23 {i : Nat} : (2 : Int) ^ (i % 24) ≤ 2 ^ 23 := by
  have : 2 ^ (i % 24) ≤ 2 ^ 23 := Nat.pow_le_pow_right (by decide) (by omega)
  exact_mod_cast this
theorem pow_pos' (i : Nat) : (0 : Int) < 2 ^ i := by
  have : 0 < 2 ^ i := Nat.pow_pos (by decide)
  exact_mod_cast this
/-- one limb changes by sg * 2^(i % 24) -/
theorem vs_step {row : Nat → Int64} {x : Int64} {i : Nat} (sg : Int) (hi : i < 600) (hx : x.toInt = (row (i / 24)).toInt + sg * 2 ^ (i % 24)) : vs (vp_updL row (i / 24) x) 25 = vs row 25 + sg * ((2 ^ i : Nat) : Int) := by
  rw [vs_upd, if_pos (by omega), hx]
  congr 1
  have h := p24 (i := i)
  push_cast
  rw [← h, ← Int.mul_assoc]
  congr 1
  omega
def pSg (y sg dn up : Int) : Prop := (y = 0 ∧ sg = 1 ∧ dn = 0 ∧ up = 2 ^ 23) ∨ (y ≠ 0 ∧ sg = -1 ∧ dn = 2 ^ 23 ∧ up = 0)
theorem put_main (v F j : Nat) : v / 2 ^ j * 2 ^ (F + j) = v / 2 ^ (j + 1) * 2 ^ (F + (j + 1)) + v / 2 ^ j % 2 * 2 ^ (F + j) := by
  have hdiv : v / 2 ^ j = v / 2 ^ (j + 1) * 2 + v / 2 ^ j % 2 := by
    rw [Nat.pow_succ, ← Nat.div_div_eq_div_mul]
    omega
  have hpow : 2 ^ (F + (j + 1)) = 2 * 2 ^ (F + j) := by
    rw [← Nat.add_assoc, Nat.pow_succ, Nat.mul_comm]
  rw [hpow, ← Nat.mul_assoc, ← Nat.add_mul, ← hdiv]
/-- put: the number v * 2^F is added or taken away -/
theorem v1_put_loop (nf : Nat) : ∀ (y1 : Int64) (y4 y5 y6 : Int32) (row : Nat → Int64) (ba : Int32) (v n F j : Nat) (sg dn up lo hi lo' hi' : Int), pSg y4.toInt sg dn up → asc 63 y6 nf → y1.toInt = v → v < 2 ^ n → y5.toInt = F → F + n ≤ 600 → y6.toInt = j →
    -2 ^ 40 ≤ lo' → hi' ≤ 2 ^ 40 → lo' ≤ lo - (63 - (j : Int)) * dn → hi + (63 - (j : Int)) * up ≤ hi' → (∀ k, k < 25 → lo ≤ (row k).toInt ∧ (row k).toInt ≤ hi) →
    vs (fX1_put_k11 nf y1 y4 y5 y6 row ba) 25 = vs row 25 + sg * ((v / 2 ^ j * 2 ^ (F + j) : Nat) : Int) ∧
    ∀ k, k < 25 → lo' ≤ ((fX1_put_k11 nf y1 y4 y5 y6 row ba) k).toInt ∧ ((fX1_put_k11 nf y1 y4 y5 y6 row ba) k).toInt ≤ hi' := by
  induction nf with
  | zero => intro y1 y4 y5 y6 row ba v n F j sg dn up lo hi lo' hi' _ h; exact absurd h asc_0
  | succ nf ih =>
    intro y1 y4 y5 y6 row ba v n F j sg dn up lo hi lo' hi' hsg h hv hvn hF hFn hj hlo' hhi' hlo hhi hrow
    rw [fX1_put_k11_s]
    have hv63 : v < 2 ^ 63 := by have := Int64.toInt_lt y1; omega
    have h4 : (y4 = 0) ↔ y4.toInt = 0 := by rw [i_eq_iff]; rfl
    by_cases hc : (63 : Int32) ≤ y6
    · rw [if_pos hc]
      have hj63 : j = 63 := by
        have h1 := h.2.1
        rw [Int32.le_iff_toInt_le, show Int32.toInt 63 = 63 from rfl] at hc
        omega
      subst hj63
      rw [Nat.div_eq_of_lt hv63]
      refine ⟨by simp, fun k hk => ?_⟩
      have := hrow k hk
      simp at hlo hhi
      omega
    · rw [if_neg hc]
      have hjlt := asc_lt h (by decide) hc
      have hst := asc_step h (by decide) (by decide) hc
      have hj1 : (y6 + 1).toInt = ((j + 1 : Nat) : Int) := by
        rw [i32_add1 (by omega), hj]
        omega
      have hbit : ((y1 >>> (Int32.toInt64 y6 &&& 63)) &&& (1 : Int64)).toInt = ((v / 2 ^ j % 2 : Nat) : Int) := by
        rw [l_and_lo _ _ 1 (by decide) (by decide), l_shr hj (by omega), hv]
        norm_cast
      have hlc : (lg_cmp ((y1 >>> (Int32.toInt64 y6 &&& 63)) &&& (1 : Int64)) (1 : Int64) = 0) ↔ v / 2 ^ j % 2 = 1 := by
        rw [lg_cmp_eq, ← Int64.toInt_inj, hbit, show Int64.toInt 1 = 1 from rfl]
        omega
      have hmain := put_main v F j
      have hdu : lo' ≤ lo - dn - (63 - ((j + 1 : Nat) : Int)) * dn ∧ hi + up + (63 - ((j + 1 : Nat) : Int)) * up ≤ hi' := by
        rcases hsg with ⟨-, -, rfl, rfl⟩ | ⟨-, -, rfl, rfl⟩ <;> constructor <;> omega
      have hpos : 0 ≤ dn ∧ 0 ≤ up ∧ 0 ≤ (63 - (j : Int)) * dn ∧ 0 ≤ (63 - (j : Int)) * up ∧ 0 ≤ (63 - ((j + 1 : Nat) : Int)) * dn ∧ 0 ≤ (63 - ((j + 1 : Nat) : Int)) * up := by
        rcases hsg with ⟨-, -, rfl, rfl⟩ | ⟨-, -, rfl, rfl⟩ <;> omega
      by_cases hb : v / 2 ^ j % 2 = 1
      · rw [if_pos (hlc.mpr hb)]
        have hjn : j < n := by
          rcases Nat.lt_or_ge j n with q | q
          · exact q
          · have h1 : 2 ^ n ≤ 2 ^ j := Nat.pow_le_pow_right (by decide) q
            rw [Nat.div_eq_of_lt (by omega)] at hb
            exact absurd hb (by decide)
        have hi5 : (y5 + y6).toInt = ((F + j : Nat) : Int) := by
          rw [i_add (by omega) (by omega), hF, hj]
          norm_cast
        have hci : Int32.toNatClampNeg ((y5 + y6) / (24 : Int32)) = (F + j) / 24 := i_clamp (i_div24 hi5)
        have hsh : ((1 : Int64) <<< (Int32.toInt64 ((y5 + y6) - (y5 + y6) / (24 : Int32) * (24 : Int32)) &&& 63)).toInt = 2 ^ ((F + j) % 24) := by
          have h1 := i_rem24 hi5
          have h2 := pow_le23 (i := F + j)
          have h3 := pow_pos' ((F + j) % 24)
          rw [l_shl h1 (by omega)] <;> rw [show Int64.toInt 1 = 1 from rfl] <;> omega
        generalize ((1 : Int64) <<< (Int32.toInt64 ((y5 + y6) - (y5 + y6) / (24 : Int32) * (24 : Int32)) &&& 63)) = one at hsh ⊢
        rw [hci]
        have hlim : (F + j) / 24 < 25 := by omega
        have hrl := hrow _ hlim
        have h2 := pow_le23 (i := F + j)
        have h3 := pow_pos' ((F + j) % 24)
        -- both ways: a new limb
        have hgo : ∀ x : Int64, x.toInt = (row ((F + j) / 24)).toInt + sg * 2 ^ ((F + j) % 24) → vs (fX1_put_k11 nf y1 y4 y5 (y6 + 1) (vp_updL row ((F + j) / 24) x) ba) 25 = vs row 25 + sg * ((v / 2 ^ j * 2 ^ (F + j) : Nat) : Int) ∧ ∀ k, k < 25 → lo' ≤ ((fX1_put_k11 nf y1 y4 y5 (y6 + 1) (vp_updL row ((F + j) / 24) x) ba) k).toInt ∧ ((fX1_put_k11 nf y1 y4 y5 (y6 + 1) (vp_updL row ((F + j) / 24) x) ba) k).toInt ≤ hi' := by
          intro x hx
          obtain ⟨a1, a2⟩ := ih y1 y4 y5 (y6 + 1) (vp_updL row ((F + j) / 24) x) ba v n F (j + 1) sg dn up (lo - dn) (hi + up) lo' hi' hsg hst hv hvn hF hFn hj1 hlo' hhi' hdu.1 hdu.2 (fun k hk => by
            have hk2 := hrow k hk
            by_cases hkk : k = (F + j) / 24
            · subst hkk
              rw [pk_uLs, hx]
              rcases hsg with ⟨-, rfl, rfl, rfl⟩ | ⟨-, rfl, rfl, rfl⟩ <;> constructor <;> omega
            · rw [pk_uLn hkk]
              constructor <;> omega)
          refine ⟨?_, a2⟩
          rw [a1, vs_step sg (by omega) hx, hmain, hb, Nat.one_mul]
          push_cast
          rw [Int.mul_add]
          omega
        by_cases hneg : y4 = 0
        · rw [if_pos hneg]
          refine hgo _ ?_
          rcases hsg with ⟨-, rfl, rfl, rfl⟩ | ⟨hn, -⟩
          · rw [Int64.one_mul, l_add (by omega) (by omega), hsh, Int.one_mul]
          · exact absurd (h4.mp hneg) hn
        · rw [if_neg hneg]
          refine hgo _ ?_
          rcases hsg with ⟨hn, -⟩ | ⟨-, rfl, rfl, rfl⟩
          · exact absurd (h4.mpr hn) hneg
          · have hm : ((-1 : Int64) * one).toInt = -2 ^ ((F + j) % 24) := by
              rw [l_mul] <;> rw [hsh, show Int64.toInt (-1) = -1 from rfl] <;> omega
            rw [l_add (by omega) (by omega), hm]
            omega
      · rw [if_neg (fun q => hb (hlc.mp q))]
        have hb0 : v / 2 ^ j % 2 = 0 := by omega
        obtain ⟨a1, a2⟩ := ih y1 y4 y5 (y6 + 1) row ba v n F (j + 1) sg dn up lo hi lo' hi' hsg hst hv hvn hF hFn hj1 hlo' hhi' (by omega) (by omega) hrow
        refine ⟨?_, a2⟩
        rw [a1, hmain, hb0]
        simp
/-- put, whole -/
theorem v1_put {row : Nat → Int64} {ba : Int32} {x1 : Int64} {x3 x4 : Int32} {v n F : Nat} {sg dn up lo hi : Int} (hsg : pSg x4.toInt sg dn up) (hv : x1.toInt = v) (hvn : v < 2 ^ n) (hF : (x3 - ba).toInt = F) (hFn : F + n ≤ 600) (h1 : -2 ^ 40 ≤ lo - 63 * dn) (h2 : hi + 63 * up ≤ 2 ^ 40) (hrow : ∀ k, k < 25 → lo ≤ (row k).toInt ∧ (row k).toInt ≤ hi) :
    vs (fX1_put row ba x1 x3 x4) 25 = vs row 25 + sg * ((v * 2 ^ F : Nat) : Int) ∧ ∀ k, k < 25 → lo - 63 * dn ≤ ((fX1_put row ba x1 x3 x4) k).toInt ∧ ((fX1_put row ba x1 x3 x4) k).toInt ≤ hi + 63 * up := by
  have := v1_put_loop 64 x1 x4 (x3 - ba) 0 row ba v n F 0 sg dn up lo hi (lo - 63 * dn) (hi + 63 * up) hsg (asc_init 63) hv hvn hF hFn rfl h1 h2 (by simp) (by simp) hrow
  rw [Nat.pow_zero, Nat.div_one, Nat.add_zero] at this
  exact this
