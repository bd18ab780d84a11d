/-! words of this proof: the two worlds, booleans, loops -/
def isB (x : Int32) : Prop := x = 0 ∨ x = 1
theorem isB_0 : isB 0 := Or.inl rfl
theorem isB_1 : isB 1 := Or.inr rfl
theorem isB_nar {x : Int32} (h : isB x) : narrow .boolean (.int x) = .int x := by
  rcases h with rfl | rfl <;> decide +kernel
theorem isB_fit {x : Int32} (h : isB x) : fits .boolean (.int x) = true := by
  rcases h with rfl | rfl <;> decide +kernel
abbrev bw0 (h0 : Nat) (mo fl : Int32) : va_W := [(h0, .inr (0, [.int mo, .int fl]))]
abbrev aw0 (h0 : Nat) : Nat → Prop := fun q => q = h0
def w0 (D : va_G) (h0 : Nat) (mo fl : Int32) (U : State) : Prop := va_P D vwCl (bw0 h0 mo fl) U.heap ∧ va_K D vwCl [] U
theorem dw0 {h0 : Nat} {mo fl : Int32} : va_D (aw0 h0) (bw0 h0 mo fl) := by
  refine ⟨fun i j p q hi hj _ => ?_, fun k q hk => ?_⟩
  · match i, j, hi, hj with
    | 0, 0, _, _ => rfl
    | 0, j + 1, _, hj => simp at hj
    | i + 1, _, hi, _ => simp at hi
  · match k, hk with
    | 0, hk => cases hk; rfl
    | k + 1, hk => simp at hk
abbrev bw1 (cJ : ClassId) (h0 h1 : Nat) (mo fl : Int32) (row : Nat → Int64) (ba mr ex : Int32) : va_W := [(h0, .inr (1, [.int mo, .int fl, .ref h1, .int ba, .int mr, .int ex])), (h1, .inl (cJ, 25, .inr (.inl row)))]
abbrev aw1 (h0 h1 : Nat) : Nat → Prop := fun q => q = h0 ∨ q = h1
def w1 (D : va_G) (cJ : ClassId) (h0 h1 : Nat) (mo fl : Int32) (row : Nat → Int64) (ba mr ex : Int32) (U : State) : Prop := va_P D vwCl (bw1 cJ h0 h1 mo fl row ba mr ex) U.heap ∧ va_K D vwCl [(cJ, .long)] U ∧ isB mr
theorem dw1 {cJ : ClassId} {h0 h1 : Nat} (hne : h0 ≠ h1) {mo fl : Int32} {row : Nat → Int64} {ba mr ex : Int32} : va_D (aw1 h0 h1) (bw1 cJ h0 h1 mo fl row ba mr ex) := by
  refine ⟨fun i j p q hi hj he => ?_, fun k q hk => ?_⟩
  · match i, j, hi, hj with
    | 0, 0, _, _ => rfl
    | 1, 1, _, _ => rfl
    | 0, 1, hi, hj => cases hi; cases hj; exact absurd he hne
    | 1, 0, hi, hj => cases hi; cases hj; exact absurd he.symm hne
    | i + 2, _, hi, _ => simp at hi
    | 0, j + 2, _, hj => simp at hj
    | 1, j + 2, _, hj => simp at hj
  · match k, hk with
    | 0, hk => cases hk; exact Or.inl rfl
    | 1, hk => cases hk; exact Or.inr rfl
    | k + 2, hk => simp at hk
theorem st_pre {s : State} {H : Heap} {As : List Value} : PreS s H (va_Pc As (fun _ => True)) As := ⟨fun _ _ _ _ q => q, fun _ _ _ => ⟨rfl, trivial⟩⟩
theorem w0_pre {s : State} {H : Heap} {D : va_G} {h0 : Nat} {mo fl : Int32} {As : List Value} (hK : va_K D vwCl [] s) (hP : va_P D vwCl (bw0 h0 mo fl) H) : PreV s H RX0 h0 (va_Pc (.ref h0 :: As) (w0 D h0 mo fl)) As :=
  ⟨fun a U g mk q => ⟨q.1, q.2.1, va_K.moved (u := U) (U := U.calling g mk a) (Vm.Alike.refl U.vm) q.2.2⟩, va_recv hK hP (ci := 0) (q0 := 0) rfl rfl, fun U hU hW => ⟨rfl, by rw [hU]; exact hP, va_K.moved hW.alike hK⟩⟩
theorem w1_pre {s : State} {H : Heap} {D : va_G} {cJ : ClassId} {h0 h1 : Nat} {mo fl : Int32} {row : Nat → Int64} {ba mr ex : Int32} {As : List Value} (hK : va_K D vwCl [(cJ, .long)] s) (hP : va_P D vwCl (bw1 cJ h0 h1 mo fl row ba mr ex) H) (hmr : isB mr) : PreV s H RX1 h0 (va_Pc (.ref h0 :: As) (w1 D cJ h0 h1 mo fl row ba mr ex)) As :=
  ⟨fun a U g mk q => ⟨q.1, q.2.1, va_K.moved (u := U) (U := U.calling g mk a) (Vm.Alike.refl U.vm) q.2.2.1, q.2.2.2⟩, va_recv hK hP (ci := 1) (q0 := 0) rfl rfl, fun U hU hW => ⟨rfl, by rw [hU]; exact hP, va_K.moved hW.alike hK, hmr⟩⟩
section KC
variable {p : Program} {l : Launch} {e : Env} {R : Room} {s : State} {m : MethodId} {args : Array Value} {below : List Frame} {meth : Method} {c : Code} {H : Heap} {locs : List Loc} {cells slots : Nat} {Q : State → Prop}
variable {pc : Nat} {ls : Array Slot} {rest st0 : List Value} {a : Array Value} {H0 : Heap} {D : va_G} {cJ : ClassId} {h0 h1 : Nat}
theorem sc_i {v : Int32} (hr : CallRun p l e R s m args below meth c H locs cells slots 0 0 (F0 m pc ls st0) rest (vp_Si (fun r => r = v) a) (fun _ => False))
    (kk : W p l e R s m args below meth c H locs cells slots Q (F0 m (pc + 3) ls (.int v :: rest))) : W p l e R s m args below meth c H locs cells slots Q (F0 m pc ls st0) := vp_callSi hr (fun r h => by rw [h]; exact kk)
theorem sc_l {v : Int64} (hr : CallRun p l e R s m args below meth c H locs cells slots 0 0 (F0 m pc ls st0) rest (vp_Sl (fun r => r = v) a) (fun _ => False))
    (kk : W p l e R s m args below meth c H locs cells slots Q (F0 m (pc + 3) ls (.long v :: rest))) : W p l e R s m args below meth c H locs cells slots Q (F0 m pc ls st0) := vp_callSl hr (fun r h => by rw [h]; exact kk)
theorem k0_calli {S : Type} {post : Int32 → S → Prop} {mo fl : S → Int32} (hr : va_Run p l e R s m args below meth c H locs cells slots 0 0 (F0 m pc ls st0) rest (va_Qi post (fun u t => w0 D h0 (mo u) (fl u) t) (aw0 h0) a) (aw0 h0)) (hS : va_S (aw0 h0) H0 H locs)
    (kk : ∀ (r : Int32) (u : S) (H1 : Heap) (locs1 : List Loc), post r u → va_P D vwCl (bw0 h0 (mo u) (fl u)) H1 → va_S (aw0 h0) H0 H1 locs1 → W p l e R s m args below meth c H1 locs1 cells slots Q (F0 m (pc + 3) ls (.int r :: rest))) : W p l e R s m args below meth c H locs cells slots Q (F0 m pc ls st0) :=
  va_calli hr hS (fun _ _ h => h) (fun _ h => h) (fun r u t H1 locs1 ht _ hp hB _ _ hS1 => kk r u H1 locs1 hp (by rw [← ht]; exact hB.1) hS1)
theorem k0_callv {S : Type} {post : S → Prop} {mo fl : S → Int32} (hr : va_Run p l e R s m args below meth c H locs cells slots 0 0 (F0 m pc ls st0) rest (va_Qv post (fun u t => w0 D h0 (mo u) (fl u) t) (aw0 h0) a) (aw0 h0)) (hS : va_S (aw0 h0) H0 H locs)
    (kk : ∀ (u : S) (H1 : Heap) (locs1 : List Loc), post u → va_P D vwCl (bw0 h0 (mo u) (fl u)) H1 → va_S (aw0 h0) H0 H1 locs1 → W p l e R s m args below meth c H1 locs1 cells slots Q (F0 m (pc + 3) ls rest)) : W p l e R s m args below meth c H locs cells slots Q (F0 m pc ls st0) :=
  va_callv hr hS (fun _ _ h => h) (fun _ h => h) (fun u t H1 locs1 ht _ hp hB _ _ hS1 => kk u H1 locs1 hp (by rw [← ht]; exact hB.1) hS1)
theorem k1_calli {S : Type} {post : Int32 → S → Prop} {mo fl ba mr ex : S → Int32} {row : S → Nat → Int64} (hr : va_Run p l e R s m args below meth c H locs cells slots 0 0 (F0 m pc ls st0) rest (va_Qi post (fun u t => w1 D cJ h0 h1 (mo u) (fl u) (row u) (ba u) (mr u) (ex u) t) (aw1 h0 h1) a) (aw1 h0 h1)) (hS : va_S (aw1 h0 h1) H0 H locs)
    (kk : ∀ (r : Int32) (u : S) (H1 : Heap) (locs1 : List Loc), post r u → va_P D vwCl (bw1 cJ h0 h1 (mo u) (fl u) (row u) (ba u) (mr u) (ex u)) H1 → isB (mr u) → va_S (aw1 h0 h1) H0 H1 locs1 → W p l e R s m args below meth c H1 locs1 cells slots Q (F0 m (pc + 3) ls (.int r :: rest))) : W p l e R s m args below meth c H locs cells slots Q (F0 m pc ls st0) :=
  va_calli hr hS (fun _ _ h => h) (fun _ h => h) (fun r u t H1 locs1 ht _ hp hB _ _ hS1 => kk r u H1 locs1 hp (by rw [← ht]; exact hB.1) hB.2.2 hS1)
theorem k1_calll {S : Type} {post : Int64 → S → Prop} {mo fl ba mr ex : S → Int32} {row : S → Nat → Int64} (hr : va_Run p l e R s m args below meth c H locs cells slots 0 0 (F0 m pc ls st0) rest (va_Ql post (fun u t => w1 D cJ h0 h1 (mo u) (fl u) (row u) (ba u) (mr u) (ex u) t) (aw1 h0 h1) a) (aw1 h0 h1)) (hS : va_S (aw1 h0 h1) H0 H locs)
    (kk : ∀ (r : Int64) (u : S) (H1 : Heap) (locs1 : List Loc), post r u → va_P D vwCl (bw1 cJ h0 h1 (mo u) (fl u) (row u) (ba u) (mr u) (ex u)) H1 → isB (mr u) → va_S (aw1 h0 h1) H0 H1 locs1 → W p l e R s m args below meth c H1 locs1 cells slots Q (F0 m (pc + 3) ls (.long r :: rest))) : W p l e R s m args below meth c H locs cells slots Q (F0 m pc ls st0) :=
  va_calll hr hS (fun _ _ h => h) (fun _ h => h) (fun r u t H1 locs1 ht _ hp hB _ _ hS1 => kk r u H1 locs1 hp (by rw [← ht]; exact hB.1) hB.2.2 hS1)
theorem k1_callv {S : Type} {post : S → Prop} {mo fl ba mr ex : S → Int32} {row : S → Nat → Int64} (hr : va_Run p l e R s m args below meth c H locs cells slots 0 0 (F0 m pc ls st0) rest (va_Qv post (fun u t => w1 D cJ h0 h1 (mo u) (fl u) (row u) (ba u) (mr u) (ex u) t) (aw1 h0 h1) a) (aw1 h0 h1)) (hS : va_S (aw1 h0 h1) H0 H locs)
    (kk : ∀ (u : S) (H1 : Heap) (locs1 : List Loc), post u → va_P D vwCl (bw1 cJ h0 h1 (mo u) (fl u) (row u) (ba u) (mr u) (ex u)) H1 → isB (mr u) → va_S (aw1 h0 h1) H0 H1 locs1 → W p l e R s m args below meth c H1 locs1 cells slots Q (F0 m (pc + 3) ls rest)) : W p l e R s m args below meth c H locs cells slots Q (F0 m pc ls st0) :=
  va_callv hr hS (fun _ _ h => h) (fun _ h => h) (fun u t H1 locs1 ht _ hp hB _ _ hS1 => kk u H1 locs1 hp (by rw [← ht]; exact hB.1) hB.2.2 hS1)
end KC
/-- a counter that goes up to N: n turns are enough -/
def asc (N : Nat) (x : Int32) (n : Nat) : Prop := 0 ≤ x.toInt ∧ x.toInt ≤ N ∧ (N : Int) < x.toInt + n
theorem asc_0 {N : Nat} {x : Int32} : ¬ asc N x 0 := fun h => by
  obtain ⟨h1, h2, h3⟩ := h
  simp at h3
  omega
theorem i32_add1 {x : Int32} (h : x.toInt < 2 ^ 31 - 1) : (x + 1).toInt = x.toInt + 1 := by
  have h2 := Int32.le_toInt x
  rw [Int32.toInt_add, show Int32.toInt 1 = 1 from rfl]
  exact Int.bmod_eq_of_le (by omega) (by omega)
theorem i32_sub1 {x : Int32} (h : -2 ^ 31 < x.toInt) : (x + (-1)).toInt = x.toInt - 1 := by
  have h2 := Int32.toInt_lt x
  rw [Int32.toInt_add, show Int32.toInt (-1) = -1 from rfl]
  exact Int.bmod_eq_of_le (by omega) (by omega)
theorem asc_step {N : Nat} {x M : Int32} {n : Nat} (h : asc N x (n + 1)) (hM : M.toInt = N) (hN : N < 2 ^ 31 - 1) (hc : ¬ M ≤ x) : asc N (x + 1) n := by
  obtain ⟨h1, h2, h3⟩ := h
  rw [Int32.le_iff_toInt_le, hM] at hc
  have h4 : (x + 1).toInt = x.toInt + 1 := i32_add1 (by omega)
  refine ⟨?_, ?_, ?_⟩ <;> rw [h4] <;> omega
theorem asc_lt {N : Nat} {x M : Int32} {n : Nat} (h : asc N x n) (hM : M.toInt = N) (hc : ¬ M ≤ x) : 0 ≤ x.toInt ∧ x.toInt < N := by
  rw [Int32.le_iff_toInt_le, hM] at hc
  exact ⟨h.1, by omega⟩
theorem asc_in {N : Nat} {x M : Int32} {n : Nat} (h : asc N x n) (hM : M.toInt = N) (hc : ¬ M ≤ x) : vp_in x N := vp_in_iff.mpr (asc_lt h hM hc)
theorem asc_init (N : Nat) : asc N 0 (N + 1) := ⟨by decide, by show (0 : Int) ≤ _; omega, by show (N : Int) < (0 : Int) + _; omega⟩
/-- a counter that goes down from N - 1 to 0 -/
def dsc (N : Nat) (x : Int32) (n : Nat) : Prop := -1 ≤ x.toInt ∧ x.toInt < N ∧ x.toInt + 1 < n
theorem dsc_0 {N : Nat} {x : Int32} : ¬ dsc N x 0 := fun h => by
  obtain ⟨h1, h2, h3⟩ := h
  simp at h3
  omega
theorem dsc_step {N : Nat} {x : Int32} {n : Nat} (h : dsc N x (n + 1)) (hc : 0 ≤ x.toInt) : dsc N (x + (-1)) n := by
  obtain ⟨h1, h2, h3⟩ := h
  have h4 : (x + (-1)).toInt = x.toInt - 1 := i32_sub1 (by omega)
  refine ⟨?_, ?_, ?_⟩ <;> rw [h4] <;> omega
theorem i32_nlt0 {x : Int32} (h : ¬ x < 0) : 0 ≤ x.toInt := by
  rw [Int32.lt_iff_toInt_lt] at h
  simpa using h
/-- a place in the row of 25 -/
theorem in24 {x : Int32} (h : ¬ x < 0) (h2 : x < 600) : vp_in (x / 24) 25 := by
  have h0 := i32_nlt0 h
  rw [Int32.lt_iff_toInt_lt] at h2
  obtain ⟨j, hj, rfl⟩ := nI_of h
  have hj2 : j < 600 := by
    rw [nI_toInt hj] at h2
    have : Int32.toInt 600 = 600 := by decide
    omega
  have : nI j / 24 = nI (j / 24) := pk_div hj (by decide) (by decide)
  rw [this]
  exact vp_in_nI (by omega) (by decide)
/-- what put needs: each bit of v that is set has its place in the row -/
def putOk (v : Int64) (f : Int32) : Prop := ∀ k : Int32, 0 ≤ k.toInt → k.toInt < 63 → (v >>> (k.toInt64 &&& 63)) &&& 1 = 1 → vp_in ((f + k) / 24) 25
theorem carry_in0 {x : Int32} (h : 0 ≤ x.toInt ∧ x.toInt < (24 : Nat)) : vp_in x 25 := vp_in_iff.mpr ⟨h.1, by have := h.2; omega⟩
theorem carry_in1 {x : Int32} (h : 0 ≤ x.toInt ∧ x.toInt < (24 : Nat)) : vp_in (x + 1) 25 := by
  refine vp_in_iff.mpr ?_
  rw [i32_add1 (by omega)]
  omega
theorem in_24 : vp_in 24 25 := vp_in_nI (n := 24) (by decide) (by decide)
