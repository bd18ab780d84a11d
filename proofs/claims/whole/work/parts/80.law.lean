def R_law : String := "RealBitsLaw"
def lw_P (b : Addr) (xs : List Int32) (args : Array Value) (s : State) : Prop := args = #[.ref b] ∧ s.IntsAt b xs ∧ xs.length ≤ 2048 ∧ (Jvm.Cond.and given_1 narrow_1).before args s = true
def lw_Q (_ : Array Value) (s : State) (o : Outcome) (t : State) : Prop := o = .returned (some (.int 1)) ∧ Framed s o t [] 3 33
def lw_Z (below : List Frame) (a : Array Value) (s : State) : State → Prop := fun t => ∃ o, t.status = .running ∧ Ended t below o ∧ lw_Q a s o t
/-- the law's own end, with 1 on the stack, nothing written that was there before, its room as the claim has it -/
theorem lw_ret {p : Program} {l : Launch} {e : Env} {s : State} {m : MethodId} {below : List Frame} {meth : Method} {c : Code} {b : Nat} (hx : p.tables.exec = Jvm.exec) (hb : c.code = code) (hr : meth.sig.returnType = ret) (hlocks : meth.locks = false) {pc : Nat} {H : Heap} {ls : Array Slot} (hdg : decode code pc = .ok (.ireturn, 1)) : W p l e room_1 s m #[Value.ref b] below meth c H [] 3 33 (lw_Z below #[Value.ref b] s) (F0 m pc ls [.int 1]) := by
  intro T hT X
  obtain ⟨fs, hret, hrun, hended, hW, hframe⟩ := X.leave (v := some (.int 1)) (hlocks := hlocks) (fun h => by rw [hr] at h; cases h)
  have hmeth' : T.vm.method? m = some meth := X.method'
  refine ⟨T.setFrames fs, ?_, .returned (some (.int 1)), hrun, hended, rfl, ⟨_, rfl⟩, hW, hframe⟩
  jvm_step X.here [X.here.top, hx, hb, hdg, hmeth', hr, ret, narrow_b1]
  (try refine ⟨rfl, ?_⟩); (try refine ⟨rfl, ?_⟩)
  first | (intro acts; rw [hret _ acts rfl rfl rfl]) | rw [hret _ _ rfl rfl rfl]
  exact Steps.refl _
/-- what holds at the law's entry: the machine, the code, the tables' words (any of lw_tbl by 'hts w (by decide +kernel)'), the script of L ints xs at the cell b, what the Statement gives of the start (any of its parts by flat_of_before) -/
def lw_At (p : Program) (s : State) (m : MethodId) (meth : Method) (c : Code) (b L : Nat) (xs : Nat → Int32) : Prop :=
  p.tables.exec = Jvm.exec ∧ c.code = code ∧ meth.sig.returnType = ret ∧ c.maxLocals = 4 ∧ s.vm.findClass R_law = some m.cls ∧ (∀ w ∈ lw_tbl, w.before #[Value.ref b] s = true) ∧ va_X b L xs s s.heap ∧ b < s.heap.size ∧ meth.locks = false ∧ (Jvm.Cond.and given_1 narrow_1).before #[Value.ref b] s = true
theorem va_P_kept {D : va_G} {cl : List vw_C} {ws : va_W} {H H1 : Heap} {A : Nat → Prop} (hP : va_P D cl ws H) (hA : ∀ (k : Nat) (q : Nat × va_E), ws[k]? = some q → ¬ A q.1) (hk : ∀ q : Nat, q < H.size → ¬ A q → H1[q]? = H[q]?) : va_P D cl ws H1 := fun k q h => (hP k q h).kept (hk q.1 (hP k q h).lt (hA k q h))
theorem ap0 {q0 q1 q2 : Nat} (h1 : q0 ≠ q1) (h2 : q0 ≠ q2) {mo fl : Int32} : ∀ (k : Nat) (q : Nat × va_E), (bw0 q0 mo fl)[k]? = some q → ¬ aw1 q1 q2 q.1 := fun k q hk => by
  match k, hk with
  | 0, hk => cases hk; exact fun h => h.elim h1 h2
  | k + 1, hk => simp at hk
theorem ap1 {cJ : ClassId} {q0 q1 q2 : Nat} (h1 : q0 ≠ q1) (h2 : q0 ≠ q2) {mo fl : Int32} {row : Nat → Int64} {ba mr ex : Int32} : ∀ (k : Nat) (q : Nat × va_E), (bw1 cJ q1 q2 mo fl row ba mr ex)[k]? = some q → ¬ aw0 q0 q.1 := fun k q hk => by
  match k, hk with
  | 0, hk => cases hk; exact fun h => h1 h.symm
  | 1, hk => cases hk; exact fun h => h2 h.symm
  | k + 2, hk => simp at hk
section LK
variable {p : Program} {l : Launch} {e : Env} {R : Room} {s : State} {m : MethodId} {args : Array Value} {below : List Frame} {meth : Method} {c : Code} {H : Heap} {locs : List Loc} {cells slots : Nat} {Q : State → Prop}
variable {pc : Nat} {ls : Array Slot} {rest st0 : List Value} {a : Array Value} {D : va_G} {cJ : ClassId} {h0 h1 : Nat}
abbrev aN (s : State) : Nat → Prop := fun q => s.heap.size ≤ q
theorem lk0i {S : Type} {post : Int32 → S → Prop} {mo fl : S → Int32} {ws : va_W} (hr : va_Run p l e R s m args below meth c H locs cells slots 0 0 (F0 m pc ls st0) rest (va_Qi post (fun u t => w0 D h0 (mo u) (fl u) t) (aw0 h0) a) (aw0 h0)) (hS : va_S (aN s) s.heap H locs) (hq : s.heap.size ≤ h0) (hP1 : va_P D vwCl ws H) (hA : ∀ (k : Nat) (q : Nat × va_E), ws[k]? = some q → ¬ aw0 h0 q.1)
    (kk : ∀ (r : Int32) (u : S) (H1 : Heap) (locs1 : List Loc), post r u → va_P D vwCl (bw0 h0 (mo u) (fl u)) H1 → va_P D vwCl ws H1 → va_S (aN s) s.heap H1 locs1 → W p l e R s m args below meth c H1 locs1 cells slots Q (F0 m (pc + 3) ls (.int r :: rest))) : W p l e R s m args below meth c H locs cells slots Q (F0 m pc ls st0) :=
  va_calli hr hS (fun _ _ h => by rw [h]; exact hq) (fun _ h => by rw [h]; exact hq) (fun r u t H1 locs1 ht _ hp hB _ hk hS1 => kk r u H1 locs1 hp (by rw [← ht]; exact hB.1) (va_P_kept hP1 hA hk) hS1)
theorem lk1i {S : Type} {post : Int32 → S → Prop} {mo fl ba mr ex : S → Int32} {row : S → Nat → Int64} {ws : va_W} (hr : va_Run p l e R s m args below meth c H locs cells slots 0 0 (F0 m pc ls st0) rest (va_Qi post (fun u t => w1 D cJ h0 h1 (mo u) (fl u) (row u) (ba u) (mr u) (ex u) t) (aw1 h0 h1) a) (aw1 h0 h1)) (hS : va_S (aN s) s.heap H locs) (hq : s.heap.size ≤ h0) (hq1 : s.heap.size ≤ h1) (hP1 : va_P D vwCl ws H) (hA : ∀ (k : Nat) (q : Nat × va_E), ws[k]? = some q → ¬ aw1 h0 h1 q.1)
    (kk : ∀ (r : Int32) (u : S) (H1 : Heap) (locs1 : List Loc), post r u → va_P D vwCl (bw1 cJ h0 h1 (mo u) (fl u) (row u) (ba u) (mr u) (ex u)) H1 → isB (mr u) → va_P D vwCl ws H1 → va_S (aN s) s.heap H1 locs1 → W p l e R s m args below meth c H1 locs1 cells slots Q (F0 m (pc + 3) ls (.int r :: rest))) : W p l e R s m args below meth c H locs cells slots Q (F0 m pc ls st0) :=
  va_calli hr hS (fun _ _ h => h.elim (fun h => by rw [h]; exact hq) (fun h => by rw [h]; exact hq1)) (fun _ h => h.elim (fun h => by rw [h]; exact hq) (fun h => by rw [h]; exact hq1)) (fun r u t H1 locs1 ht _ hp hB _ hk hS1 => kk r u H1 locs1 hp (by rw [← ht]; exact hB.1) hB.2.2 (va_P_kept hP1 hA hk) hS1)
end LK
/-- between two calls of the law: both objects hold one mode and one set of flags -/
def LI (s : State) (D : va_G) (cJ : ClassId) (q0 q1 q2 : Nat) (mo fl : Int32) (row : Nat → Int64) (ba mr ex : Int32) (H : Heap) (locs : List Loc) : Prop := va_P D vwCl (bw0 q0 mo fl) H ∧ va_P D vwCl (bw1 cJ q1 q2 mo fl row ba mr ex) H ∧ isB mr ∧ mOk mo ∧ va_S (aN s) s.heap H locs
/-- what doesn't change -/
def LC (s : State) (D : va_G) (cJ : ClassId) (q0 q1 q2 : Nat) : Prop := va_K D vwCl [(cJ, .long)] s ∧ q0 ≠ q1 ∧ q0 ≠ q2 ∧ q1 ≠ q2 ∧ s.heap.size ≤ q0 ∧ s.heap.size ≤ q1 ∧ s.heap.size ≤ q2
section LAWC
variable {p : Program} {l : Launch} {e : Env} {s : State} {m : MethodId} {below : List Frame} {meth : Method} {c : Code} {b L : Nat} {xs : Nat → Int32} {D : va_G} {cJ : ClassId} {q0 q1 q2 : Nat}
set_option maxHeartbeats 4000000 in
set_option maxRecDepth 100000 in
theorem law_round (C0 : lw_At p s m meth c b L xs) (K0 : LC s D cJ q0 q1 q2) {x3 : Int32} {ls : Array Slot} (hl : lv_has ls 4 [(0, .ref b), (1, .ref q0), (2, .ref q1), (3, .int x3)]) (hi1 : vp_in (x3 + 1) L) {mo fl : Int32} {row : Nat → Int64} {ba mr ex : Int32} {H : Heap} {locs : List Loc} (hI : LI s D cJ q0 q1 q2 mo fl row ba mr ex H locs) (kk : ∀ (mo fl : Int32) (row : Nat → Int64) (ba mr ex : Int32) (H : Heap) (locs : List Loc), LI s D cJ q0 q1 q2 mo fl row ba mr ex H locs → W p l e room_1 s m #[Value.ref b] below meth c H locs 3 33 (lw_Z below #[Value.ref b] s) (F0 m 557 ls [])) : W p l e room_1 s m #[Value.ref b] below meth c H locs 3 33 (lw_Z below #[Value.ref b] s) (F0 m 116 ls []) := by
  obtain ⟨hx, hb, hr, hml, hown, hts, hX, hbl, hlocks, hgv⟩ := C0
  have hts := fun w h => hts w (wsL_law_in w h)
  have hbA : ¬ aN s b := Nat.not_le.mpr hbl
  obtain ⟨hK1, n01, n02, n12, g0, g1, g2⟩ := K0
  have hK0 := hK1.sub (tys' := []) [] rfl
  obtain ⟨hP0, hP1, hmr, hmo, hS⟩ := hI
  refine lv_aload_n hx hb dL_law_116 rfl (lv_at hl 1 rfl) ?_
  refine lv_aload_n hx hb dL_law_117 rfl (lv_at hl 0 rfl) ?_
  refine lv_iload_n hx hb dL_law_118 rfl (lv_at hl 3 rfl) ?_
  refine lv_iconst (v := 1) hx hb dL_law_119 (by decide) ?_
  refine lv_iadd hx hb dL_law_120 ?_
  refine va_sld hx hb hX hbl hbA hS hi1 dL_law_121 ?_
  refine lk0i (va_runV (As := [.int (xs (Int32.toNatClampNeg (x3 + 1)))]) (rest := []) ⟨hx, hb, hml, hown, hts⟩ (ccX0_round l D q0 mo fl (xs (Int32.toNatClampNeg (x3 + 1)))) (cwV 1 hts gL_law_X0_round rfl rfl rfl (by decide +kernel) ⟨Nat.le_of_ble_eq_true rfl, Nat.le_of_ble_eq_true rfl⟩) (w0_pre hK0 hP0) rfl rfl hl.1 rfl (lv_room (Nat.le_of_ble_eq_true rfl)) dL_law_122 ⟨Nat.le_of_ble_eq_true rfl, Nat.le_of_ble_eq_true rfl⟩) hS g0 hP1 (ap1 n01 n02) (fun r1 u1 H locs hw1 hP0 hP1 hS => ?_)
  refine lv_aload_n hx hb dL_law_125 rfl (lv_at hl 2 rfl) ?_
  refine lv_aload_n hx hb dL_law_126 rfl (lv_at hl 0 rfl) ?_
  refine lv_iload_n hx hb dL_law_127 rfl (lv_at hl 3 rfl) ?_
  refine lv_iconst (v := 1) hx hb dL_law_128 (by decide) ?_
  refine lv_iadd hx hb dL_law_129 ?_
  refine va_sld hx hb hX hbl hbA hS hi1 dL_law_130 ?_
  refine lk1i (ws := (bw0 q0 u1 fl)) (va_runV (As := [.int (xs (Int32.toNatClampNeg (x3 + 1)))]) (rest := [.int r1]) ⟨hx, hb, hml, hown, hts⟩ (ccX1_round l D cJ q1 q2 n12 mo fl row ba mr ex (xs (Int32.toNatClampNeg (x3 + 1)))) (cwV 1 hts gL_law_X1_round rfl rfl rfl (by decide +kernel) ⟨Nat.le_of_ble_eq_true rfl, Nat.le_of_ble_eq_true rfl⟩) (w1_pre hK1 hP1 hmr) rfl rfl hl.1 rfl (lv_room (Nat.le_of_ble_eq_true rfl)) dL_law_131 ⟨Nat.le_of_ble_eq_true rfl, Nat.le_of_ble_eq_true rfl⟩) hS g1 g2 hP0 (ap0 n01 n02) (fun r2 u H locs hw2 hP1 hmr hP0 hS => ?_)
  have hm := m_round mo fl row ba mr ex (xs (Int32.toNatClampNeg (x3 + 1))) hmo
  rw [← hw1, ← hw2] at hm
  have hm1 : r1 = r2 := congrArg Prod.fst hm.1
  have hm2 : u1 = u := congrArg Prod.snd hm.1
  have hmo2 : mOk u1 := hm.2 hmo
  refine lv_icmp_eq (tgt := 557) hx hb dL_law_134 (by decide) (fun c_1 => ?_) (fun c_1 => ?_)
  · rw [hm2] at hP0 hmo2
    exact kk u fl row ba mr ex H locs ⟨hP0, hP1, hmr, hmo2, hS⟩
  · exact absurd hm1 c_1
set_option maxHeartbeats 4000000 in
set_option maxRecDepth 100000 in
theorem law_mode (C0 : lw_At p s m meth c b L xs) (K0 : LC s D cJ q0 q1 q2) {x3 : Int32} {ls : Array Slot} (hl : lv_has ls 4 [(0, .ref b), (1, .ref q0), (2, .ref q1), (3, .int x3)]) {mo fl : Int32} {row : Nat → Int64} {ba mr ex : Int32} {H : Heap} {locs : List Loc} (hI : LI s D cJ q0 q1 q2 mo fl row ba mr ex H locs) (kk : ∀ (mo fl : Int32) (row : Nat → Int64) (ba mr ex : Int32) (H : Heap) (locs : List Loc), LI s D cJ q0 q1 q2 mo fl row ba mr ex H locs → W p l e room_1 s m #[Value.ref b] below meth c H locs 3 33 (lw_Z below #[Value.ref b] s) (F0 m 557 ls [])) : W p l e room_1 s m #[Value.ref b] below meth c H locs 3 33 (lw_Z below #[Value.ref b] s) (F0 m 139 ls []) := by
  obtain ⟨hx, hb, hr, hml, hown, hts, hX, hbl, hlocks, hgv⟩ := C0
  have hts := fun w h => hts w (wsL_law_in w h)
  have hbA : ¬ aN s b := Nat.not_le.mpr hbl
  obtain ⟨hK1, n01, n02, n12, g0, g1, g2⟩ := K0
  have hK0 := hK1.sub (tys' := []) [] rfl
  obtain ⟨hP0, hP1, hmr, hmo, hS⟩ := hI
  refine lv_aload_n hx hb dL_law_139 rfl (lv_at hl 1 rfl) ?_
  refine sc_i (W.runV (As := []) (rest := []) ⟨hx, hb, hml, hown, hts⟩ (ccX0_mode l D q0 mo fl ) (cwV 0 hts gL_law_X0_mode rfl rfl rfl (by decide +kernel) ⟨Nat.le_of_ble_eq_true rfl, Nat.le_of_ble_eq_true rfl⟩) (w0_pre hK0 hP0) rfl rfl hl.1 rfl (lv_room (Nat.le_of_ble_eq_true rfl)) dL_law_140 ⟨Nat.le_of_ble_eq_true rfl, Nat.le_of_ble_eq_true rfl⟩) ?_
  refine lv_aload_n hx hb dL_law_143 rfl (lv_at hl 2 rfl) ?_
  refine sc_i (W.runV (As := []) (rest := [.int (fX0_mode mo)]) ⟨hx, hb, hml, hown, hts⟩ (ccX1_mode l D cJ q1 q2 n12 mo fl row ba mr ex ) (cwV 0 hts gL_law_X1_mode rfl rfl rfl (by decide +kernel) ⟨Nat.le_of_ble_eq_true rfl, Nat.le_of_ble_eq_true rfl⟩) (w1_pre hK1 hP1 hmr) rfl rfl hl.1 rfl (lv_room (Nat.le_of_ble_eq_true rfl)) dL_law_144 ⟨Nat.le_of_ble_eq_true rfl, Nat.le_of_ble_eq_true rfl⟩) ?_
  have hm := m_mode mo fl row ba mr ex  hmo
  refine lv_icmp_eq (tgt := 557) hx hb dL_law_147 (by decide) (fun c_1 => ?_) (fun c_1 => ?_)
  · exact kk mo fl row ba mr ex H locs ⟨hP0, hP1, hmr, hmo, hS⟩
  · exact absurd hm c_1
set_option maxHeartbeats 4000000 in
set_option maxRecDepth 100000 in
theorem law_flags (C0 : lw_At p s m meth c b L xs) (K0 : LC s D cJ q0 q1 q2) {x3 : Int32} {ls : Array Slot} (hl : lv_has ls 4 [(0, .ref b), (1, .ref q0), (2, .ref q1), (3, .int x3)]) {mo fl : Int32} {row : Nat → Int64} {ba mr ex : Int32} {H : Heap} {locs : List Loc} (hI : LI s D cJ q0 q1 q2 mo fl row ba mr ex H locs) (kk : ∀ (mo fl : Int32) (row : Nat → Int64) (ba mr ex : Int32) (H : Heap) (locs : List Loc), LI s D cJ q0 q1 q2 mo fl row ba mr ex H locs → W p l e room_1 s m #[Value.ref b] below meth c H locs 3 33 (lw_Z below #[Value.ref b] s) (F0 m 557 ls [])) : W p l e room_1 s m #[Value.ref b] below meth c H locs 3 33 (lw_Z below #[Value.ref b] s) (F0 m 152 ls []) := by
  obtain ⟨hx, hb, hr, hml, hown, hts, hX, hbl, hlocks, hgv⟩ := C0
  have hts := fun w h => hts w (wsL_law_in w h)
  have hbA : ¬ aN s b := Nat.not_le.mpr hbl
  obtain ⟨hK1, n01, n02, n12, g0, g1, g2⟩ := K0
  have hK0 := hK1.sub (tys' := []) [] rfl
  obtain ⟨hP0, hP1, hmr, hmo, hS⟩ := hI
  refine lv_aload_n hx hb dL_law_152 rfl (lv_at hl 1 rfl) ?_
  refine sc_i (W.runV (As := []) (rest := []) ⟨hx, hb, hml, hown, hts⟩ (ccX0_flags l D q0 mo fl ) (cwV 0 hts gL_law_X0_flags rfl rfl rfl (by decide +kernel) ⟨Nat.le_of_ble_eq_true rfl, Nat.le_of_ble_eq_true rfl⟩) (w0_pre hK0 hP0) rfl rfl hl.1 rfl (lv_room (Nat.le_of_ble_eq_true rfl)) dL_law_153 ⟨Nat.le_of_ble_eq_true rfl, Nat.le_of_ble_eq_true rfl⟩) ?_
  refine lv_aload_n hx hb dL_law_156 rfl (lv_at hl 2 rfl) ?_
  refine sc_i (W.runV (As := []) (rest := [.int (fX0_flags fl)]) ⟨hx, hb, hml, hown, hts⟩ (ccX1_flags l D cJ q1 q2 n12 mo fl row ba mr ex ) (cwV 0 hts gL_law_X1_flags rfl rfl rfl (by decide +kernel) ⟨Nat.le_of_ble_eq_true rfl, Nat.le_of_ble_eq_true rfl⟩) (w1_pre hK1 hP1 hmr) rfl rfl hl.1 rfl (lv_room (Nat.le_of_ble_eq_true rfl)) dL_law_157 ⟨Nat.le_of_ble_eq_true rfl, Nat.le_of_ble_eq_true rfl⟩) ?_
  have hm := m_flags mo fl row ba mr ex  hmo
  refine lv_icmp_eq (tgt := 557) hx hb dL_law_160 (by decide) (fun c_1 => ?_) (fun c_1 => ?_)
  · exact kk mo fl row ba mr ex H locs ⟨hP0, hP1, hmr, hmo, hS⟩
  · exact absurd hm c_1
set_option maxHeartbeats 4000000 in
set_option maxRecDepth 100000 in
theorem law_clear (C0 : lw_At p s m meth c b L xs) (K0 : LC s D cJ q0 q1 q2) {x3 : Int32} {ls : Array Slot} (hl : lv_has ls 4 [(0, .ref b), (1, .ref q0), (2, .ref q1), (3, .int x3)]) {mo fl : Int32} {row : Nat → Int64} {ba mr ex : Int32} {H : Heap} {locs : List Loc} (hI : LI s D cJ q0 q1 q2 mo fl row ba mr ex H locs) (kk : ∀ (mo fl : Int32) (row : Nat → Int64) (ba mr ex : Int32) (H : Heap) (locs : List Loc), LI s D cJ q0 q1 q2 mo fl row ba mr ex H locs → W p l e room_1 s m #[Value.ref b] below meth c H locs 3 33 (lw_Z below #[Value.ref b] s) (F0 m 557 ls [])) : W p l e room_1 s m #[Value.ref b] below meth c H locs 3 33 (lw_Z below #[Value.ref b] s) (F0 m 165 ls []) := by
  obtain ⟨hx, hb, hr, hml, hown, hts, hX, hbl, hlocks, hgv⟩ := C0
  have hts := fun w h => hts w (wsL_law_in w h)
  have hbA : ¬ aN s b := Nat.not_le.mpr hbl
  obtain ⟨hK1, n01, n02, n12, g0, g1, g2⟩ := K0
  have hK0 := hK1.sub (tys' := []) [] rfl
  obtain ⟨hP0, hP1, hmr, hmo, hS⟩ := hI
  refine lv_aload_n hx hb dL_law_165 rfl (lv_at hl 1 rfl) ?_
  refine lk0i (va_runV (As := []) (rest := []) ⟨hx, hb, hml, hown, hts⟩ (ccX0_clear l D q0 mo fl ) (cwV 0 hts gL_law_X0_clear rfl rfl rfl (by decide +kernel) ⟨Nat.le_of_ble_eq_true rfl, Nat.le_of_ble_eq_true rfl⟩) (w0_pre hK0 hP0) rfl rfl hl.1 rfl (lv_room (Nat.le_of_ble_eq_true rfl)) dL_law_166 ⟨Nat.le_of_ble_eq_true rfl, Nat.le_of_ble_eq_true rfl⟩) hS g0 hP1 (ap1 n01 n02) (fun r1 u1 H locs hw1 hP0 hP1 hS => ?_)
  refine lv_aload_n hx hb dL_law_169 rfl (lv_at hl 2 rfl) ?_
  refine lk1i (ws := (bw0 q0 mo u1)) (va_runV (As := []) (rest := [.int r1]) ⟨hx, hb, hml, hown, hts⟩ (ccX1_clear l D cJ q1 q2 n12 mo fl row ba mr ex ) (cwV 0 hts gL_law_X1_clear rfl rfl rfl (by decide +kernel) ⟨Nat.le_of_ble_eq_true rfl, Nat.le_of_ble_eq_true rfl⟩) (w1_pre hK1 hP1 hmr) rfl rfl hl.1 rfl (lv_room (Nat.le_of_ble_eq_true rfl)) dL_law_170 ⟨Nat.le_of_ble_eq_true rfl, Nat.le_of_ble_eq_true rfl⟩) hS g1 g2 hP0 (ap0 n01 n02) (fun r2 u H locs hw2 hP1 hmr hP0 hS => ?_)
  have hm := m_clear mo fl row ba mr ex  hmo
  rw [← hw1, ← hw2] at hm
  have hm1 : r1 = r2 := hm.1
  have hm2 : u1 = u := hm.2
  refine lv_icmp_eq (tgt := 557) hx hb dL_law_173 (by decide) (fun c_1 => ?_) (fun c_1 => ?_)
  · rw [hm2] at hP0
    exact kk (mo) (u) (row) (ba) (mr) (ex) H locs ⟨hP0, hP1, hmr, hmo, hS⟩
  · exact absurd hm1 c_1
set_option maxHeartbeats 4000000 in
set_option maxRecDepth 100000 in
theorem law_add (C0 : lw_At p s m meth c b L xs) (K0 : LC s D cJ q0 q1 q2) {x3 : Int32} {ls : Array Slot} (hl : lv_has ls 4 [(0, .ref b), (1, .ref q0), (2, .ref q1), (3, .int x3)]) (hi1 : vp_in (x3 + 1) L) (hi2 : vp_in (x3 + 2) L) {mo fl : Int32} {row : Nat → Int64} {ba mr ex : Int32} {H : Heap} {locs : List Loc} (hI : LI s D cJ q0 q1 q2 mo fl row ba mr ex H locs) (kk : ∀ (mo fl : Int32) (row : Nat → Int64) (ba mr ex : Int32) (H : Heap) (locs : List Loc), LI s D cJ q0 q1 q2 mo fl row ba mr ex H locs → W p l e room_1 s m #[Value.ref b] below meth c H locs 3 33 (lw_Z below #[Value.ref b] s) (F0 m 557 ls [])) : W p l e room_1 s m #[Value.ref b] below meth c H locs 3 33 (lw_Z below #[Value.ref b] s) (F0 m 178 ls []) := by
  obtain ⟨hx, hb, hr, hml, hown, hts, hX, hbl, hlocks, hgv⟩ := C0
  have hts := fun w h => hts w (wsL_law_in w h)
  have hbA : ¬ aN s b := Nat.not_le.mpr hbl
  obtain ⟨hK1, n01, n02, n12, g0, g1, g2⟩ := K0
  have hK0 := hK1.sub (tys' := []) [] rfl
  obtain ⟨hP0, hP1, hmr, hmo, hS⟩ := hI
  refine lv_aload_n hx hb dL_law_178 rfl (lv_at hl 1 rfl) ?_
  refine lv_aload_n hx hb dL_law_179 rfl (lv_at hl 0 rfl) ?_
  refine lv_iload_n hx hb dL_law_180 rfl (lv_at hl 3 rfl) ?_
  refine lv_iconst (v := 1) hx hb dL_law_181 (by decide) ?_
  refine lv_iadd hx hb dL_law_182 ?_
  refine va_sld hx hb hX hbl hbA hS hi1 dL_law_183 ?_
  refine lv_aload_n hx hb dL_law_184 rfl (lv_at hl 0 rfl) ?_
  refine lv_iload_n hx hb dL_law_185 rfl (lv_at hl 3 rfl) ?_
  refine lv_iconst (v := 2) hx hb dL_law_186 (by decide) ?_
  refine lv_iadd hx hb dL_law_187 ?_
  refine va_sld hx hb hX hbl hbA hS hi2 dL_law_188 ?_
  refine lk0i (va_runV (As := [.int (xs (Int32.toNatClampNeg (x3 + 1))), .int (xs (Int32.toNatClampNeg (x3 + 2)))]) (rest := []) ⟨hx, hb, hml, hown, hts⟩ (ccX0_add l D q0 mo fl (xs (Int32.toNatClampNeg (x3 + 1))) (xs (Int32.toNatClampNeg (x3 + 2)))) (cwV 2 hts gL_law_X0_add rfl rfl rfl (by decide +kernel) ⟨Nat.le_of_ble_eq_true rfl, Nat.le_of_ble_eq_true rfl⟩) (w0_pre hK0 hP0) rfl rfl hl.1 rfl (lv_room (Nat.le_of_ble_eq_true rfl)) dL_law_189 ⟨Nat.le_of_ble_eq_true rfl, Nat.le_of_ble_eq_true rfl⟩) hS g0 hP1 (ap1 n01 n02) (fun r1 u1 H locs hw1 hP0 hP1 hS => ?_)
  refine lv_aload_n hx hb dL_law_192 rfl (lv_at hl 2 rfl) ?_
  refine lv_aload_n hx hb dL_law_193 rfl (lv_at hl 0 rfl) ?_
  refine lv_iload_n hx hb dL_law_194 rfl (lv_at hl 3 rfl) ?_
  refine lv_iconst (v := 1) hx hb dL_law_195 (by decide) ?_
  refine lv_iadd hx hb dL_law_196 ?_
  refine va_sld hx hb hX hbl hbA hS hi1 dL_law_197 ?_
  refine lv_aload_n hx hb dL_law_198 rfl (lv_at hl 0 rfl) ?_
  refine lv_iload_n hx hb dL_law_199 rfl (lv_at hl 3 rfl) ?_
  refine lv_iconst (v := 2) hx hb dL_law_200 (by decide) ?_
  refine lv_iadd hx hb dL_law_201 ?_
  refine va_sld hx hb hX hbl hbA hS hi2 dL_law_202 ?_
  refine lk1i (ws := (bw0 q0 mo u1)) (va_runV (As := [.int (xs (Int32.toNatClampNeg (x3 + 1))), .int (xs (Int32.toNatClampNeg (x3 + 2)))]) (rest := [.int r1]) ⟨hx, hb, hml, hown, hts⟩ (ccX1_add l D cJ q1 q2 n12 mo fl row ba mr ex (xs (Int32.toNatClampNeg (x3 + 1))) (xs (Int32.toNatClampNeg (x3 + 2)))) (cwV 2 hts gL_law_X1_add rfl rfl rfl (by decide +kernel) ⟨Nat.le_of_ble_eq_true rfl, Nat.le_of_ble_eq_true rfl⟩) (w1_pre hK1 hP1 hmr) rfl rfl hl.1 rfl (lv_room (Nat.le_of_ble_eq_true rfl)) dL_law_203 ⟨Nat.le_of_ble_eq_true rfl, Nat.le_of_ble_eq_true rfl⟩) hS g1 g2 hP0 (ap0 n01 n02) (fun r2 u H locs hw2 hP1 hmr hP0 hS => ?_)
  have hm := m_add mo fl row ba mr ex (xs (Int32.toNatClampNeg (x3 + 1))) (xs (Int32.toNatClampNeg (x3 + 2))) hmo
  rw [← hw1, ← hw2] at hm
  have hm1 : r1 = r2 := hm.1
  have hm2 : u1 = u.1 := hm.2
  refine lv_icmp_eq (tgt := 557) hx hb dL_law_206 (by decide) (fun c_1 => ?_) (fun c_1 => ?_)
  · rw [hm2] at hP0
    exact kk (mo) (u.1) (u.2.1) (u.2.2.1) (u.2.2.2.1) (u.2.2.2.2) H locs ⟨hP0, hP1, hmr, hmo, hS⟩
  · exact absurd hm1 c_1
set_option maxHeartbeats 4000000 in
set_option maxRecDepth 100000 in
theorem law_subtract (C0 : lw_At p s m meth c b L xs) (K0 : LC s D cJ q0 q1 q2) {x3 : Int32} {ls : Array Slot} (hl : lv_has ls 4 [(0, .ref b), (1, .ref q0), (2, .ref q1), (3, .int x3)]) (hi1 : vp_in (x3 + 1) L) (hi2 : vp_in (x3 + 2) L) {mo fl : Int32} {row : Nat → Int64} {ba mr ex : Int32} {H : Heap} {locs : List Loc} (hI : LI s D cJ q0 q1 q2 mo fl row ba mr ex H locs) (kk : ∀ (mo fl : Int32) (row : Nat → Int64) (ba mr ex : Int32) (H : Heap) (locs : List Loc), LI s D cJ q0 q1 q2 mo fl row ba mr ex H locs → W p l e room_1 s m #[Value.ref b] below meth c H locs 3 33 (lw_Z below #[Value.ref b] s) (F0 m 557 ls [])) : W p l e room_1 s m #[Value.ref b] below meth c H locs 3 33 (lw_Z below #[Value.ref b] s) (F0 m 211 ls []) := by
  obtain ⟨hx, hb, hr, hml, hown, hts, hX, hbl, hlocks, hgv⟩ := C0
  have hts := fun w h => hts w (wsL_law_in w h)
  have hbA : ¬ aN s b := Nat.not_le.mpr hbl
  obtain ⟨hK1, n01, n02, n12, g0, g1, g2⟩ := K0
  have hK0 := hK1.sub (tys' := []) [] rfl
  obtain ⟨hP0, hP1, hmr, hmo, hS⟩ := hI
  refine lv_aload_n hx hb dL_law_211 rfl (lv_at hl 1 rfl) ?_
  refine lv_aload_n hx hb dL_law_212 rfl (lv_at hl 0 rfl) ?_
  refine lv_iload_n hx hb dL_law_213 rfl (lv_at hl 3 rfl) ?_
  refine lv_iconst (v := 1) hx hb dL_law_214 (by decide) ?_
  refine lv_iadd hx hb dL_law_215 ?_
  refine va_sld hx hb hX hbl hbA hS hi1 dL_law_216 ?_
  refine lv_aload_n hx hb dL_law_217 rfl (lv_at hl 0 rfl) ?_
  refine lv_iload_n hx hb dL_law_218 rfl (lv_at hl 3 rfl) ?_
  refine lv_iconst (v := 2) hx hb dL_law_219 (by decide) ?_
  refine lv_iadd hx hb dL_law_220 ?_
  refine va_sld hx hb hX hbl hbA hS hi2 dL_law_221 ?_
  refine lk0i (va_runV (As := [.int (xs (Int32.toNatClampNeg (x3 + 1))), .int (xs (Int32.toNatClampNeg (x3 + 2)))]) (rest := []) ⟨hx, hb, hml, hown, hts⟩ (ccX0_subtract l D q0 mo fl (xs (Int32.toNatClampNeg (x3 + 1))) (xs (Int32.toNatClampNeg (x3 + 2)))) (cwV 2 hts gL_law_X0_subtract rfl rfl rfl (by decide +kernel) ⟨Nat.le_of_ble_eq_true rfl, Nat.le_of_ble_eq_true rfl⟩) (w0_pre hK0 hP0) rfl rfl hl.1 rfl (lv_room (Nat.le_of_ble_eq_true rfl)) dL_law_222 ⟨Nat.le_of_ble_eq_true rfl, Nat.le_of_ble_eq_true rfl⟩) hS g0 hP1 (ap1 n01 n02) (fun r1 u1 H locs hw1 hP0 hP1 hS => ?_)
  refine lv_aload_n hx hb dL_law_225 rfl (lv_at hl 2 rfl) ?_
  refine lv_aload_n hx hb dL_law_226 rfl (lv_at hl 0 rfl) ?_
  refine lv_iload_n hx hb dL_law_227 rfl (lv_at hl 3 rfl) ?_
  refine lv_iconst (v := 1) hx hb dL_law_228 (by decide) ?_
  refine lv_iadd hx hb dL_law_229 ?_
  refine va_sld hx hb hX hbl hbA hS hi1 dL_law_230 ?_
  refine lv_aload_n hx hb dL_law_231 rfl (lv_at hl 0 rfl) ?_
  refine lv_iload_n hx hb dL_law_232 rfl (lv_at hl 3 rfl) ?_
  refine lv_iconst (v := 2) hx hb dL_law_233 (by decide) ?_
  refine lv_iadd hx hb dL_law_234 ?_
  refine va_sld hx hb hX hbl hbA hS hi2 dL_law_235 ?_
  refine lk1i (ws := (bw0 q0 mo u1)) (va_runV (As := [.int (xs (Int32.toNatClampNeg (x3 + 1))), .int (xs (Int32.toNatClampNeg (x3 + 2)))]) (rest := [.int r1]) ⟨hx, hb, hml, hown, hts⟩ (ccX1_subtract l D cJ q1 q2 n12 mo fl row ba mr ex (xs (Int32.toNatClampNeg (x3 + 1))) (xs (Int32.toNatClampNeg (x3 + 2)))) (cwV 2 hts gL_law_X1_subtract rfl rfl rfl (by decide +kernel) ⟨Nat.le_of_ble_eq_true rfl, Nat.le_of_ble_eq_true rfl⟩) (w1_pre hK1 hP1 hmr) rfl rfl hl.1 rfl (lv_room (Nat.le_of_ble_eq_true rfl)) dL_law_236 ⟨Nat.le_of_ble_eq_true rfl, Nat.le_of_ble_eq_true rfl⟩) hS g1 g2 hP0 (ap0 n01 n02) (fun r2 u H locs hw2 hP1 hmr hP0 hS => ?_)
  have hm := m_subtract mo fl row ba mr ex (xs (Int32.toNatClampNeg (x3 + 1))) (xs (Int32.toNatClampNeg (x3 + 2))) hmo
  rw [← hw1, ← hw2] at hm
  have hm1 : r1 = r2 := hm.1
  have hm2 : u1 = u.1 := hm.2
  refine lv_icmp_eq (tgt := 557) hx hb dL_law_239 (by decide) (fun c_1 => ?_) (fun c_1 => ?_)
  · rw [hm2] at hP0
    exact kk (mo) (u.1) (u.2.1) (u.2.2.1) (u.2.2.2.1) (u.2.2.2.2) H locs ⟨hP0, hP1, hmr, hmo, hS⟩
  · exact absurd hm1 c_1
set_option maxHeartbeats 4000000 in
set_option maxRecDepth 100000 in
theorem law_multiply (C0 : lw_At p s m meth c b L xs) (K0 : LC s D cJ q0 q1 q2) {x3 : Int32} {ls : Array Slot} (hl : lv_has ls 4 [(0, .ref b), (1, .ref q0), (2, .ref q1), (3, .int x3)]) (hi1 : vp_in (x3 + 1) L) (hi2 : vp_in (x3 + 2) L) {mo fl : Int32} {row : Nat → Int64} {ba mr ex : Int32} {H : Heap} {locs : List Loc} (hI : LI s D cJ q0 q1 q2 mo fl row ba mr ex H locs) (kk : ∀ (mo fl : Int32) (row : Nat → Int64) (ba mr ex : Int32) (H : Heap) (locs : List Loc), LI s D cJ q0 q1 q2 mo fl row ba mr ex H locs → W p l e room_1 s m #[Value.ref b] below meth c H locs 3 33 (lw_Z below #[Value.ref b] s) (F0 m 557 ls [])) : W p l e room_1 s m #[Value.ref b] below meth c H locs 3 33 (lw_Z below #[Value.ref b] s) (F0 m 244 ls []) := by
  obtain ⟨hx, hb, hr, hml, hown, hts, hX, hbl, hlocks, hgv⟩ := C0
  have hts := fun w h => hts w (wsL_law_in w h)
  have hbA : ¬ aN s b := Nat.not_le.mpr hbl
  obtain ⟨hK1, n01, n02, n12, g0, g1, g2⟩ := K0
  have hK0 := hK1.sub (tys' := []) [] rfl
  obtain ⟨hP0, hP1, hmr, hmo, hS⟩ := hI
  refine lv_aload_n hx hb dL_law_244 rfl (lv_at hl 1 rfl) ?_
  refine lv_aload_n hx hb dL_law_245 rfl (lv_at hl 0 rfl) ?_
  refine lv_iload_n hx hb dL_law_246 rfl (lv_at hl 3 rfl) ?_
  refine lv_iconst (v := 1) hx hb dL_law_247 (by decide) ?_
  refine lv_iadd hx hb dL_law_248 ?_
  refine va_sld hx hb hX hbl hbA hS hi1 dL_law_249 ?_
  refine lv_aload_n hx hb dL_law_250 rfl (lv_at hl 0 rfl) ?_
  refine lv_iload_n hx hb dL_law_251 rfl (lv_at hl 3 rfl) ?_
  refine lv_iconst (v := 2) hx hb dL_law_252 (by decide) ?_
  refine lv_iadd hx hb dL_law_253 ?_
  refine va_sld hx hb hX hbl hbA hS hi2 dL_law_254 ?_
  refine lk0i (va_runV (As := [.int (xs (Int32.toNatClampNeg (x3 + 1))), .int (xs (Int32.toNatClampNeg (x3 + 2)))]) (rest := []) ⟨hx, hb, hml, hown, hts⟩ (ccX0_multiply l D q0 mo fl (xs (Int32.toNatClampNeg (x3 + 1))) (xs (Int32.toNatClampNeg (x3 + 2)))) (cwV 2 hts gL_law_X0_multiply rfl rfl rfl (by decide +kernel) ⟨Nat.le_of_ble_eq_true rfl, Nat.le_of_ble_eq_true rfl⟩) (w0_pre hK0 hP0) rfl rfl hl.1 rfl (lv_room (Nat.le_of_ble_eq_true rfl)) dL_law_255 ⟨Nat.le_of_ble_eq_true rfl, Nat.le_of_ble_eq_true rfl⟩) hS g0 hP1 (ap1 n01 n02) (fun r1 u1 H locs hw1 hP0 hP1 hS => ?_)
  refine lv_aload_n hx hb dL_law_258 rfl (lv_at hl 2 rfl) ?_
  refine lv_aload_n hx hb dL_law_259 rfl (lv_at hl 0 rfl) ?_
  refine lv_iload_n hx hb dL_law_260 rfl (lv_at hl 3 rfl) ?_
  refine lv_iconst (v := 1) hx hb dL_law_261 (by decide) ?_
  refine lv_iadd hx hb dL_law_262 ?_
  refine va_sld hx hb hX hbl hbA hS hi1 dL_law_263 ?_
  refine lv_aload_n hx hb dL_law_264 rfl (lv_at hl 0 rfl) ?_
  refine lv_iload_n hx hb dL_law_265 rfl (lv_at hl 3 rfl) ?_
  refine lv_iconst (v := 2) hx hb dL_law_266 (by decide) ?_
  refine lv_iadd hx hb dL_law_267 ?_
  refine va_sld hx hb hX hbl hbA hS hi2 dL_law_268 ?_
  refine lk1i (ws := (bw0 q0 mo u1)) (va_runV (As := [.int (xs (Int32.toNatClampNeg (x3 + 1))), .int (xs (Int32.toNatClampNeg (x3 + 2)))]) (rest := [.int r1]) ⟨hx, hb, hml, hown, hts⟩ (ccX1_multiply l D cJ q1 q2 n12 mo fl row ba mr ex (xs (Int32.toNatClampNeg (x3 + 1))) (xs (Int32.toNatClampNeg (x3 + 2)))) (cwV 2 hts gL_law_X1_multiply rfl rfl rfl (by decide +kernel) ⟨Nat.le_of_ble_eq_true rfl, Nat.le_of_ble_eq_true rfl⟩) (w1_pre hK1 hP1 hmr) rfl rfl hl.1 rfl (lv_room (Nat.le_of_ble_eq_true rfl)) dL_law_269 ⟨Nat.le_of_ble_eq_true rfl, Nat.le_of_ble_eq_true rfl⟩) hS g1 g2 hP0 (ap0 n01 n02) (fun r2 u H locs hw2 hP1 hmr hP0 hS => ?_)
  have hm := m_multiply mo fl row ba mr ex (xs (Int32.toNatClampNeg (x3 + 1))) (xs (Int32.toNatClampNeg (x3 + 2))) hmo
  rw [← hw1, ← hw2] at hm
  have hm1 : r1 = r2 := hm.1
  have hm2 : u1 = u.1 := hm.2
  refine lv_icmp_eq (tgt := 557) hx hb dL_law_272 (by decide) (fun c_1 => ?_) (fun c_1 => ?_)
  · rw [hm2] at hP0
    exact kk (mo) (u.1) (u.2.1) (u.2.2.1) (u.2.2.2.1) (u.2.2.2.2) H locs ⟨hP0, hP1, hmr, hmo, hS⟩
  · exact absurd hm1 c_1
set_option maxHeartbeats 4000000 in
set_option maxRecDepth 100000 in
theorem law_divide (C0 : lw_At p s m meth c b L xs) (K0 : LC s D cJ q0 q1 q2) {x3 : Int32} {ls : Array Slot} (hl : lv_has ls 4 [(0, .ref b), (1, .ref q0), (2, .ref q1), (3, .int x3)]) (hi1 : vp_in (x3 + 1) L) (hi2 : vp_in (x3 + 2) L) {mo fl : Int32} {row : Nat → Int64} {ba mr ex : Int32} {H : Heap} {locs : List Loc} (hI : LI s D cJ q0 q1 q2 mo fl row ba mr ex H locs) (kk : ∀ (mo fl : Int32) (row : Nat → Int64) (ba mr ex : Int32) (H : Heap) (locs : List Loc), LI s D cJ q0 q1 q2 mo fl row ba mr ex H locs → W p l e room_1 s m #[Value.ref b] below meth c H locs 3 33 (lw_Z below #[Value.ref b] s) (F0 m 557 ls [])) : W p l e room_1 s m #[Value.ref b] below meth c H locs 3 33 (lw_Z below #[Value.ref b] s) (F0 m 277 ls []) := by
  obtain ⟨hx, hb, hr, hml, hown, hts, hX, hbl, hlocks, hgv⟩ := C0
  have hts := fun w h => hts w (wsL_law_in w h)
  have hbA : ¬ aN s b := Nat.not_le.mpr hbl
  obtain ⟨hK1, n01, n02, n12, g0, g1, g2⟩ := K0
  have hK0 := hK1.sub (tys' := []) [] rfl
  obtain ⟨hP0, hP1, hmr, hmo, hS⟩ := hI
  refine lv_aload_n hx hb dL_law_277 rfl (lv_at hl 1 rfl) ?_
  refine lv_aload_n hx hb dL_law_278 rfl (lv_at hl 0 rfl) ?_
  refine lv_iload_n hx hb dL_law_279 rfl (lv_at hl 3 rfl) ?_
  refine lv_iconst (v := 1) hx hb dL_law_280 (by decide) ?_
  refine lv_iadd hx hb dL_law_281 ?_
  refine va_sld hx hb hX hbl hbA hS hi1 dL_law_282 ?_
  refine lv_aload_n hx hb dL_law_283 rfl (lv_at hl 0 rfl) ?_
  refine lv_iload_n hx hb dL_law_284 rfl (lv_at hl 3 rfl) ?_
  refine lv_iconst (v := 2) hx hb dL_law_285 (by decide) ?_
  refine lv_iadd hx hb dL_law_286 ?_
  refine va_sld hx hb hX hbl hbA hS hi2 dL_law_287 ?_
  refine lk0i (va_runV (As := [.int (xs (Int32.toNatClampNeg (x3 + 1))), .int (xs (Int32.toNatClampNeg (x3 + 2)))]) (rest := []) ⟨hx, hb, hml, hown, hts⟩ (ccX0_divide l D q0 mo fl (xs (Int32.toNatClampNeg (x3 + 1))) (xs (Int32.toNatClampNeg (x3 + 2)))) (cwV 2 hts gL_law_X0_divide rfl rfl rfl (by decide +kernel) ⟨Nat.le_of_ble_eq_true rfl, Nat.le_of_ble_eq_true rfl⟩) (w0_pre hK0 hP0) rfl rfl hl.1 rfl (lv_room (Nat.le_of_ble_eq_true rfl)) dL_law_288 ⟨Nat.le_of_ble_eq_true rfl, Nat.le_of_ble_eq_true rfl⟩) hS g0 hP1 (ap1 n01 n02) (fun r1 u1 H locs hw1 hP0 hP1 hS => ?_)
  refine lv_aload_n hx hb dL_law_291 rfl (lv_at hl 2 rfl) ?_
  refine lv_aload_n hx hb dL_law_292 rfl (lv_at hl 0 rfl) ?_
  refine lv_iload_n hx hb dL_law_293 rfl (lv_at hl 3 rfl) ?_
  refine lv_iconst (v := 1) hx hb dL_law_294 (by decide) ?_
  refine lv_iadd hx hb dL_law_295 ?_
  refine va_sld hx hb hX hbl hbA hS hi1 dL_law_296 ?_
  refine lv_aload_n hx hb dL_law_297 rfl (lv_at hl 0 rfl) ?_
  refine lv_iload_n hx hb dL_law_298 rfl (lv_at hl 3 rfl) ?_
  refine lv_iconst (v := 2) hx hb dL_law_299 (by decide) ?_
  refine lv_iadd hx hb dL_law_300 ?_
  refine va_sld hx hb hX hbl hbA hS hi2 dL_law_301 ?_
  refine lk1i (ws := (bw0 q0 mo u1)) (va_runV (As := [.int (xs (Int32.toNatClampNeg (x3 + 1))), .int (xs (Int32.toNatClampNeg (x3 + 2)))]) (rest := [.int r1]) ⟨hx, hb, hml, hown, hts⟩ (ccX1_divide l D cJ q1 q2 n12 mo fl row ba mr ex (xs (Int32.toNatClampNeg (x3 + 1))) (xs (Int32.toNatClampNeg (x3 + 2)))) (cwV 2 hts gL_law_X1_divide rfl rfl rfl (by decide +kernel) ⟨Nat.le_of_ble_eq_true rfl, Nat.le_of_ble_eq_true rfl⟩) (w1_pre hK1 hP1 hmr) rfl rfl hl.1 rfl (lv_room (Nat.le_of_ble_eq_true rfl)) dL_law_302 ⟨Nat.le_of_ble_eq_true rfl, Nat.le_of_ble_eq_true rfl⟩) hS g1 g2 hP0 (ap0 n01 n02) (fun r2 u H locs hw2 hP1 hmr hP0 hS => ?_)
  have hm := m_divide mo fl row ba mr ex (xs (Int32.toNatClampNeg (x3 + 1))) (xs (Int32.toNatClampNeg (x3 + 2))) hmo
  rw [← hw1, ← hw2] at hm
  have hm1 : r1 = r2 := hm.1
  have hm2 : u1 = u.1 := hm.2
  refine lv_icmp_eq (tgt := 557) hx hb dL_law_305 (by decide) (fun c_1 => ?_) (fun c_1 => ?_)
  · rw [hm2] at hP0
    exact kk (mo) (u.1) (u.2.1) (u.2.2.1) (u.2.2.2.1) (u.2.2.2.2) H locs ⟨hP0, hP1, hmr, hmo, hS⟩
  · exact absurd hm1 c_1
set_option maxHeartbeats 4000000 in
set_option maxRecDepth 100000 in
theorem law_root (C0 : lw_At p s m meth c b L xs) (K0 : LC s D cJ q0 q1 q2) {x3 : Int32} {ls : Array Slot} (hl : lv_has ls 4 [(0, .ref b), (1, .ref q0), (2, .ref q1), (3, .int x3)]) (hi1 : vp_in (x3 + 1) L) {mo fl : Int32} {row : Nat → Int64} {ba mr ex : Int32} {H : Heap} {locs : List Loc} (hI : LI s D cJ q0 q1 q2 mo fl row ba mr ex H locs) (kk : ∀ (mo fl : Int32) (row : Nat → Int64) (ba mr ex : Int32) (H : Heap) (locs : List Loc), LI s D cJ q0 q1 q2 mo fl row ba mr ex H locs → W p l e room_1 s m #[Value.ref b] below meth c H locs 3 33 (lw_Z below #[Value.ref b] s) (F0 m 557 ls [])) : W p l e room_1 s m #[Value.ref b] below meth c H locs 3 33 (lw_Z below #[Value.ref b] s) (F0 m 310 ls []) := by
  obtain ⟨hx, hb, hr, hml, hown, hts, hX, hbl, hlocks, hgv⟩ := C0
  have hts := fun w h => hts w (wsL_law_in w h)
  have hbA : ¬ aN s b := Nat.not_le.mpr hbl
  obtain ⟨hK1, n01, n02, n12, g0, g1, g2⟩ := K0
  have hK0 := hK1.sub (tys' := []) [] rfl
  obtain ⟨hP0, hP1, hmr, hmo, hS⟩ := hI
  refine lv_aload_n hx hb dL_law_310 rfl (lv_at hl 1 rfl) ?_
  refine lv_aload_n hx hb dL_law_311 rfl (lv_at hl 0 rfl) ?_
  refine lv_iload_n hx hb dL_law_312 rfl (lv_at hl 3 rfl) ?_
  refine lv_iconst (v := 1) hx hb dL_law_313 (by decide) ?_
  refine lv_iadd hx hb dL_law_314 ?_
  refine va_sld hx hb hX hbl hbA hS hi1 dL_law_315 ?_
  refine lk0i (va_runV (As := [.int (xs (Int32.toNatClampNeg (x3 + 1)))]) (rest := []) ⟨hx, hb, hml, hown, hts⟩ (ccX0_root l D q0 mo fl (xs (Int32.toNatClampNeg (x3 + 1)))) (cwV 1 hts gL_law_X0_root rfl rfl rfl (by decide +kernel) ⟨Nat.le_of_ble_eq_true rfl, Nat.le_of_ble_eq_true rfl⟩) (w0_pre hK0 hP0) rfl rfl hl.1 rfl (lv_room (Nat.le_of_ble_eq_true rfl)) dL_law_316 ⟨Nat.le_of_ble_eq_true rfl, Nat.le_of_ble_eq_true rfl⟩) hS g0 hP1 (ap1 n01 n02) (fun r1 u1 H locs hw1 hP0 hP1 hS => ?_)
  refine lv_aload_n hx hb dL_law_319 rfl (lv_at hl 2 rfl) ?_
  refine lv_aload_n hx hb dL_law_320 rfl (lv_at hl 0 rfl) ?_
  refine lv_iload_n hx hb dL_law_321 rfl (lv_at hl 3 rfl) ?_
  refine lv_iconst (v := 1) hx hb dL_law_322 (by decide) ?_
  refine lv_iadd hx hb dL_law_323 ?_
  refine va_sld hx hb hX hbl hbA hS hi1 dL_law_324 ?_
  refine lk1i (ws := (bw0 q0 mo u1)) (va_runV (As := [.int (xs (Int32.toNatClampNeg (x3 + 1)))]) (rest := [.int r1]) ⟨hx, hb, hml, hown, hts⟩ (ccX1_root l D cJ q1 q2 n12 mo fl row ba mr ex (xs (Int32.toNatClampNeg (x3 + 1)))) (cwV 1 hts gL_law_X1_root rfl rfl rfl (by decide +kernel) ⟨Nat.le_of_ble_eq_true rfl, Nat.le_of_ble_eq_true rfl⟩) (w1_pre hK1 hP1 hmr) rfl rfl hl.1 rfl (lv_room (Nat.le_of_ble_eq_true rfl)) dL_law_325 ⟨Nat.le_of_ble_eq_true rfl, Nat.le_of_ble_eq_true rfl⟩) hS g1 g2 hP0 (ap0 n01 n02) (fun r2 u H locs hw2 hP1 hmr hP0 hS => ?_)
  have hm := m_root mo fl row ba mr ex (xs (Int32.toNatClampNeg (x3 + 1))) hmo
  rw [← hw1, ← hw2] at hm
  have hm1 : r1 = r2 := hm.1
  have hm2 : u1 = u.1 := hm.2
  refine lv_icmp_eq (tgt := 557) hx hb dL_law_328 (by decide) (fun c_1 => ?_) (fun c_1 => ?_)
  · rw [hm2] at hP0
    exact kk (mo) (u.1) (u.2.1) (u.2.2.1) (u.2.2.2.1) (u.2.2.2.2) H locs ⟨hP0, hP1, hmr, hmo, hS⟩
  · exact absurd hm1 c_1
set_option maxHeartbeats 4000000 in
set_option maxRecDepth 100000 in
theorem law_fused (C0 : lw_At p s m meth c b L xs) (K0 : LC s D cJ q0 q1 q2) {x3 : Int32} {ls : Array Slot} (hl : lv_has ls 4 [(0, .ref b), (1, .ref q0), (2, .ref q1), (3, .int x3)]) (hi1 : vp_in (x3 + 1) L) (hi2 : vp_in (x3 + 2) L) (hi3 : vp_in (x3 + 3) L) {mo fl : Int32} {row : Nat → Int64} {ba mr ex : Int32} {H : Heap} {locs : List Loc} (hI : LI s D cJ q0 q1 q2 mo fl row ba mr ex H locs) (kk : ∀ (mo fl : Int32) (row : Nat → Int64) (ba mr ex : Int32) (H : Heap) (locs : List Loc), LI s D cJ q0 q1 q2 mo fl row ba mr ex H locs → W p l e room_1 s m #[Value.ref b] below meth c H locs 3 33 (lw_Z below #[Value.ref b] s) (F0 m 557 ls [])) : W p l e room_1 s m #[Value.ref b] below meth c H locs 3 33 (lw_Z below #[Value.ref b] s) (F0 m 333 ls []) := by
  obtain ⟨hx, hb, hr, hml, hown, hts, hX, hbl, hlocks, hgv⟩ := C0
  have hts := fun w h => hts w (wsL_law_in w h)
  have hbA : ¬ aN s b := Nat.not_le.mpr hbl
  obtain ⟨hK1, n01, n02, n12, g0, g1, g2⟩ := K0
  have hK0 := hK1.sub (tys' := []) [] rfl
  obtain ⟨hP0, hP1, hmr, hmo, hS⟩ := hI
  refine lv_aload_n hx hb dL_law_333 rfl (lv_at hl 1 rfl) ?_
  refine lv_aload_n hx hb dL_law_334 rfl (lv_at hl 0 rfl) ?_
  refine lv_iload_n hx hb dL_law_335 rfl (lv_at hl 3 rfl) ?_
  refine lv_iconst (v := 1) hx hb dL_law_336 (by decide) ?_
  refine lv_iadd hx hb dL_law_337 ?_
  refine va_sld hx hb hX hbl hbA hS hi1 dL_law_338 ?_
  refine lv_aload_n hx hb dL_law_339 rfl (lv_at hl 0 rfl) ?_
  refine lv_iload_n hx hb dL_law_340 rfl (lv_at hl 3 rfl) ?_
  refine lv_iconst (v := 2) hx hb dL_law_341 (by decide) ?_
  refine lv_iadd hx hb dL_law_342 ?_
  refine va_sld hx hb hX hbl hbA hS hi2 dL_law_343 ?_
  refine lv_aload_n hx hb dL_law_344 rfl (lv_at hl 0 rfl) ?_
  refine lv_iload_n hx hb dL_law_345 rfl (lv_at hl 3 rfl) ?_
  refine lv_iconst (v := 3) hx hb dL_law_346 (by decide) ?_
  refine lv_iadd hx hb dL_law_347 ?_
  refine va_sld hx hb hX hbl hbA hS hi3 dL_law_348 ?_
  refine lk0i (va_runV (As := [.int (xs (Int32.toNatClampNeg (x3 + 1))), .int (xs (Int32.toNatClampNeg (x3 + 2))), .int (xs (Int32.toNatClampNeg (x3 + 3)))]) (rest := []) ⟨hx, hb, hml, hown, hts⟩ (ccX0_fused l D q0 mo fl (xs (Int32.toNatClampNeg (x3 + 1))) (xs (Int32.toNatClampNeg (x3 + 2))) (xs (Int32.toNatClampNeg (x3 + 3)))) (cwV 3 hts gL_law_X0_fused rfl rfl rfl (by decide +kernel) ⟨Nat.le_of_ble_eq_true rfl, Nat.le_of_ble_eq_true rfl⟩) (w0_pre hK0 hP0) rfl rfl hl.1 rfl (lv_room (Nat.le_of_ble_eq_true rfl)) dL_law_349 ⟨Nat.le_of_ble_eq_true rfl, Nat.le_of_ble_eq_true rfl⟩) hS g0 hP1 (ap1 n01 n02) (fun r1 u1 H locs hw1 hP0 hP1 hS => ?_)
  refine lv_aload_n hx hb dL_law_352 rfl (lv_at hl 2 rfl) ?_
  refine lv_aload_n hx hb dL_law_353 rfl (lv_at hl 0 rfl) ?_
  refine lv_iload_n hx hb dL_law_354 rfl (lv_at hl 3 rfl) ?_
  refine lv_iconst (v := 1) hx hb dL_law_355 (by decide) ?_
  refine lv_iadd hx hb dL_law_356 ?_
  refine va_sld hx hb hX hbl hbA hS hi1 dL_law_357 ?_
  refine lv_aload_n hx hb dL_law_358 rfl (lv_at hl 0 rfl) ?_
  refine lv_iload_n hx hb dL_law_359 rfl (lv_at hl 3 rfl) ?_
  refine lv_iconst (v := 2) hx hb dL_law_360 (by decide) ?_
  refine lv_iadd hx hb dL_law_361 ?_
  refine va_sld hx hb hX hbl hbA hS hi2 dL_law_362 ?_
  refine lv_aload_n hx hb dL_law_363 rfl (lv_at hl 0 rfl) ?_
  refine lv_iload_n hx hb dL_law_364 rfl (lv_at hl 3 rfl) ?_
  refine lv_iconst (v := 3) hx hb dL_law_365 (by decide) ?_
  refine lv_iadd hx hb dL_law_366 ?_
  refine va_sld hx hb hX hbl hbA hS hi3 dL_law_367 ?_
  refine lk1i (ws := (bw0 q0 mo u1)) (va_runV (As := [.int (xs (Int32.toNatClampNeg (x3 + 1))), .int (xs (Int32.toNatClampNeg (x3 + 2))), .int (xs (Int32.toNatClampNeg (x3 + 3)))]) (rest := [.int r1]) ⟨hx, hb, hml, hown, hts⟩ (ccX1_fused l D cJ q1 q2 n12 mo fl row ba mr ex (xs (Int32.toNatClampNeg (x3 + 1))) (xs (Int32.toNatClampNeg (x3 + 2))) (xs (Int32.toNatClampNeg (x3 + 3)))) (cwV 3 hts gL_law_X1_fused rfl rfl rfl (by decide +kernel) ⟨Nat.le_of_ble_eq_true rfl, Nat.le_of_ble_eq_true rfl⟩) (w1_pre hK1 hP1 hmr) rfl rfl hl.1 rfl (lv_room (Nat.le_of_ble_eq_true rfl)) dL_law_368 ⟨Nat.le_of_ble_eq_true rfl, Nat.le_of_ble_eq_true rfl⟩) hS g1 g2 hP0 (ap0 n01 n02) (fun r2 u H locs hw2 hP1 hmr hP0 hS => ?_)
  have hm := m_fused mo fl row ba mr ex (xs (Int32.toNatClampNeg (x3 + 1))) (xs (Int32.toNatClampNeg (x3 + 2))) (xs (Int32.toNatClampNeg (x3 + 3))) hmo
  rw [← hw1, ← hw2] at hm
  have hm1 : r1 = r2 := hm.1
  have hm2 : u1 = u.1 := hm.2
  refine lv_icmp_eq (tgt := 557) hx hb dL_law_371 (by decide) (fun c_1 => ?_) (fun c_1 => ?_)
  · rw [hm2] at hP0
    exact kk (mo) (u.1) (u.2.1) (u.2.2.1) (u.2.2.2.1) (u.2.2.2.2) H locs ⟨hP0, hP1, hmr, hmo, hS⟩
  · exact absurd hm1 c_1
set_option maxHeartbeats 4000000 in
set_option maxRecDepth 100000 in
theorem law_scale (C0 : lw_At p s m meth c b L xs) (K0 : LC s D cJ q0 q1 q2) {x3 : Int32} {ls : Array Slot} (hl : lv_has ls 4 [(0, .ref b), (1, .ref q0), (2, .ref q1), (3, .int x3)]) (hi1 : vp_in (x3 + 1) L) (hi2 : vp_in (x3 + 2) L) {mo fl : Int32} {row : Nat → Int64} {ba mr ex : Int32} {H : Heap} {locs : List Loc} (hI : LI s D cJ q0 q1 q2 mo fl row ba mr ex H locs) (kk : ∀ (mo fl : Int32) (row : Nat → Int64) (ba mr ex : Int32) (H : Heap) (locs : List Loc), LI s D cJ q0 q1 q2 mo fl row ba mr ex H locs → W p l e room_1 s m #[Value.ref b] below meth c H locs 3 33 (lw_Z below #[Value.ref b] s) (F0 m 557 ls [])) : W p l e room_1 s m #[Value.ref b] below meth c H locs 3 33 (lw_Z below #[Value.ref b] s) (F0 m 376 ls []) := by
  obtain ⟨hx, hb, hr, hml, hown, hts, hX, hbl, hlocks, hgv⟩ := C0
  have hts := fun w h => hts w (wsL_law_in w h)
  have hbA : ¬ aN s b := Nat.not_le.mpr hbl
  obtain ⟨hK1, n01, n02, n12, g0, g1, g2⟩ := K0
  have hK0 := hK1.sub (tys' := []) [] rfl
  obtain ⟨hP0, hP1, hmr, hmo, hS⟩ := hI
  refine lv_aload_n hx hb dL_law_376 rfl (lv_at hl 1 rfl) ?_
  refine lv_aload_n hx hb dL_law_377 rfl (lv_at hl 0 rfl) ?_
  refine lv_iload_n hx hb dL_law_378 rfl (lv_at hl 3 rfl) ?_
  refine lv_iconst (v := 1) hx hb dL_law_379 (by decide) ?_
  refine lv_iadd hx hb dL_law_380 ?_
  refine va_sld hx hb hX hbl hbA hS hi1 dL_law_381 ?_
  refine lv_aload_n hx hb dL_law_382 rfl (lv_at hl 0 rfl) ?_
  refine lv_iload_n hx hb dL_law_383 rfl (lv_at hl 3 rfl) ?_
  refine lv_iconst (v := 2) hx hb dL_law_384 (by decide) ?_
  refine lv_iadd hx hb dL_law_385 ?_
  refine va_sld hx hb hX hbl hbA hS hi2 dL_law_386 ?_
  refine lk0i (va_runV (As := [.int (xs (Int32.toNatClampNeg (x3 + 1))), .int (xs (Int32.toNatClampNeg (x3 + 2)))]) (rest := []) ⟨hx, hb, hml, hown, hts⟩ (ccX0_scale l D q0 mo fl (xs (Int32.toNatClampNeg (x3 + 1))) (xs (Int32.toNatClampNeg (x3 + 2)))) (cwV 2 hts gL_law_X0_scale rfl rfl rfl (by decide +kernel) ⟨Nat.le_of_ble_eq_true rfl, Nat.le_of_ble_eq_true rfl⟩) (w0_pre hK0 hP0) rfl rfl hl.1 rfl (lv_room (Nat.le_of_ble_eq_true rfl)) dL_law_387 ⟨Nat.le_of_ble_eq_true rfl, Nat.le_of_ble_eq_true rfl⟩) hS g0 hP1 (ap1 n01 n02) (fun r1 u1 H locs hw1 hP0 hP1 hS => ?_)
  refine lv_aload_n hx hb dL_law_390 rfl (lv_at hl 2 rfl) ?_
  refine lv_aload_n hx hb dL_law_391 rfl (lv_at hl 0 rfl) ?_
  refine lv_iload_n hx hb dL_law_392 rfl (lv_at hl 3 rfl) ?_
  refine lv_iconst (v := 1) hx hb dL_law_393 (by decide) ?_
  refine lv_iadd hx hb dL_law_394 ?_
  refine va_sld hx hb hX hbl hbA hS hi1 dL_law_395 ?_
  refine lv_aload_n hx hb dL_law_396 rfl (lv_at hl 0 rfl) ?_
  refine lv_iload_n hx hb dL_law_397 rfl (lv_at hl 3 rfl) ?_
  refine lv_iconst (v := 2) hx hb dL_law_398 (by decide) ?_
  refine lv_iadd hx hb dL_law_399 ?_
  refine va_sld hx hb hX hbl hbA hS hi2 dL_law_400 ?_
  refine lk1i (ws := (bw0 q0 mo u1)) (va_runV (As := [.int (xs (Int32.toNatClampNeg (x3 + 1))), .int (xs (Int32.toNatClampNeg (x3 + 2)))]) (rest := [.int r1]) ⟨hx, hb, hml, hown, hts⟩ (ccX1_scale l D cJ q1 q2 n12 mo fl row ba mr ex (xs (Int32.toNatClampNeg (x3 + 1))) (xs (Int32.toNatClampNeg (x3 + 2)))) (cwV 2 hts gL_law_X1_scale rfl rfl rfl (by decide +kernel) ⟨Nat.le_of_ble_eq_true rfl, Nat.le_of_ble_eq_true rfl⟩) (w1_pre hK1 hP1 hmr) rfl rfl hl.1 rfl (lv_room (Nat.le_of_ble_eq_true rfl)) dL_law_401 ⟨Nat.le_of_ble_eq_true rfl, Nat.le_of_ble_eq_true rfl⟩) hS g1 g2 hP0 (ap0 n01 n02) (fun r2 u H locs hw2 hP1 hmr hP0 hS => ?_)
  have hm := m_scale mo fl row ba mr ex (xs (Int32.toNatClampNeg (x3 + 1))) (xs (Int32.toNatClampNeg (x3 + 2))) hmo
  rw [← hw1, ← hw2] at hm
  have hm1 : r1 = r2 := hm.1
  have hm2 : u1 = u.1 := hm.2
  refine lv_icmp_eq (tgt := 557) hx hb dL_law_404 (by decide) (fun c_1 => ?_) (fun c_1 => ?_)
  · rw [hm2] at hP0
    exact kk (mo) (u.1) (u.2.1) (u.2.2.1) (u.2.2.2.1) (u.2.2.2.2) H locs ⟨hP0, hP1, hmr, hmo, hS⟩
  · exact absurd hm1 c_1
set_option maxHeartbeats 4000000 in
set_option maxRecDepth 100000 in
theorem law_whole (C0 : lw_At p s m meth c b L xs) (K0 : LC s D cJ q0 q1 q2) {x3 : Int32} {ls : Array Slot} (hl : lv_has ls 4 [(0, .ref b), (1, .ref q0), (2, .ref q1), (3, .int x3)]) (hi1 : vp_in (x3 + 1) L) {mo fl : Int32} {row : Nat → Int64} {ba mr ex : Int32} {H : Heap} {locs : List Loc} (hI : LI s D cJ q0 q1 q2 mo fl row ba mr ex H locs) (kk : ∀ (mo fl : Int32) (row : Nat → Int64) (ba mr ex : Int32) (H : Heap) (locs : List Loc), LI s D cJ q0 q1 q2 mo fl row ba mr ex H locs → W p l e room_1 s m #[Value.ref b] below meth c H locs 3 33 (lw_Z below #[Value.ref b] s) (F0 m 557 ls [])) : W p l e room_1 s m #[Value.ref b] below meth c H locs 3 33 (lw_Z below #[Value.ref b] s) (F0 m 409 ls []) := by
  obtain ⟨hx, hb, hr, hml, hown, hts, hX, hbl, hlocks, hgv⟩ := C0
  have hts := fun w h => hts w (wsL_law_in w h)
  have hbA : ¬ aN s b := Nat.not_le.mpr hbl
  obtain ⟨hK1, n01, n02, n12, g0, g1, g2⟩ := K0
  have hK0 := hK1.sub (tys' := []) [] rfl
  obtain ⟨hP0, hP1, hmr, hmo, hS⟩ := hI
  refine lv_aload_n hx hb dL_law_409 rfl (lv_at hl 1 rfl) ?_
  refine lv_aload_n hx hb dL_law_410 rfl (lv_at hl 0 rfl) ?_
  refine lv_iload_n hx hb dL_law_411 rfl (lv_at hl 3 rfl) ?_
  refine lv_iconst (v := 1) hx hb dL_law_412 (by decide) ?_
  refine lv_iadd hx hb dL_law_413 ?_
  refine va_sld hx hb hX hbl hbA hS hi1 dL_law_414 ?_
  refine lk0i (va_runV (As := [.int (xs (Int32.toNatClampNeg (x3 + 1)))]) (rest := []) ⟨hx, hb, hml, hown, hts⟩ (ccX0_whole l D q0 mo fl (xs (Int32.toNatClampNeg (x3 + 1)))) (cwV 1 hts gL_law_X0_whole rfl rfl rfl (by decide +kernel) ⟨Nat.le_of_ble_eq_true rfl, Nat.le_of_ble_eq_true rfl⟩) (w0_pre hK0 hP0) rfl rfl hl.1 rfl (lv_room (Nat.le_of_ble_eq_true rfl)) dL_law_415 ⟨Nat.le_of_ble_eq_true rfl, Nat.le_of_ble_eq_true rfl⟩) hS g0 hP1 (ap1 n01 n02) (fun r1 u1 H locs hw1 hP0 hP1 hS => ?_)
  refine lv_aload_n hx hb dL_law_418 rfl (lv_at hl 2 rfl) ?_
  refine lv_aload_n hx hb dL_law_419 rfl (lv_at hl 0 rfl) ?_
  refine lv_iload_n hx hb dL_law_420 rfl (lv_at hl 3 rfl) ?_
  refine lv_iconst (v := 1) hx hb dL_law_421 (by decide) ?_
  refine lv_iadd hx hb dL_law_422 ?_
  refine va_sld hx hb hX hbl hbA hS hi1 dL_law_423 ?_
  refine lk1i (ws := (bw0 q0 mo u1)) (va_runV (As := [.int (xs (Int32.toNatClampNeg (x3 + 1)))]) (rest := [.int r1]) ⟨hx, hb, hml, hown, hts⟩ (ccX1_whole l D cJ q1 q2 n12 mo fl row ba mr ex (xs (Int32.toNatClampNeg (x3 + 1)))) (cwV 1 hts gL_law_X1_whole rfl rfl rfl (by decide +kernel) ⟨Nat.le_of_ble_eq_true rfl, Nat.le_of_ble_eq_true rfl⟩) (w1_pre hK1 hP1 hmr) rfl rfl hl.1 rfl (lv_room (Nat.le_of_ble_eq_true rfl)) dL_law_424 ⟨Nat.le_of_ble_eq_true rfl, Nat.le_of_ble_eq_true rfl⟩) hS g1 g2 hP0 (ap0 n01 n02) (fun r2 u H locs hw2 hP1 hmr hP0 hS => ?_)
  have hm := m_whole mo fl row ba mr ex (xs (Int32.toNatClampNeg (x3 + 1))) hmo
  rw [← hw1, ← hw2] at hm
  have hm1 : r1 = r2 := hm.1
  have hm2 : u1 = u.1 := hm.2
  refine lv_icmp_eq (tgt := 557) hx hb dL_law_427 (by decide) (fun c_1 => ?_) (fun c_1 => ?_)
  · rw [hm2] at hP0
    exact kk (mo) (u.1) (u.2.1) (u.2.2.1) (u.2.2.2.1) (u.2.2.2.2) H locs ⟨hP0, hP1, hmr, hmo, hS⟩
  · exact absurd hm1 c_1
set_option maxHeartbeats 4000000 in
set_option maxRecDepth 100000 in
theorem law_toInt (C0 : lw_At p s m meth c b L xs) (K0 : LC s D cJ q0 q1 q2) {x3 : Int32} {ls : Array Slot} (hl : lv_has ls 4 [(0, .ref b), (1, .ref q0), (2, .ref q1), (3, .int x3)]) (hi1 : vp_in (x3 + 1) L) {mo fl : Int32} {row : Nat → Int64} {ba mr ex : Int32} {H : Heap} {locs : List Loc} (hI : LI s D cJ q0 q1 q2 mo fl row ba mr ex H locs) (kk : ∀ (mo fl : Int32) (row : Nat → Int64) (ba mr ex : Int32) (H : Heap) (locs : List Loc), LI s D cJ q0 q1 q2 mo fl row ba mr ex H locs → W p l e room_1 s m #[Value.ref b] below meth c H locs 3 33 (lw_Z below #[Value.ref b] s) (F0 m 557 ls [])) : W p l e room_1 s m #[Value.ref b] below meth c H locs 3 33 (lw_Z below #[Value.ref b] s) (F0 m 432 ls []) := by
  obtain ⟨hx, hb, hr, hml, hown, hts, hX, hbl, hlocks, hgv⟩ := C0
  have hts := fun w h => hts w (wsL_law_in w h)
  have hbA : ¬ aN s b := Nat.not_le.mpr hbl
  obtain ⟨hK1, n01, n02, n12, g0, g1, g2⟩ := K0
  have hK0 := hK1.sub (tys' := []) [] rfl
  obtain ⟨hP0, hP1, hmr, hmo, hS⟩ := hI
  refine lv_aload_n hx hb dL_law_432 rfl (lv_at hl 1 rfl) ?_
  refine lv_aload_n hx hb dL_law_433 rfl (lv_at hl 0 rfl) ?_
  refine lv_iload_n hx hb dL_law_434 rfl (lv_at hl 3 rfl) ?_
  refine lv_iconst (v := 1) hx hb dL_law_435 (by decide) ?_
  refine lv_iadd hx hb dL_law_436 ?_
  refine va_sld hx hb hX hbl hbA hS hi1 dL_law_437 ?_
  refine lk0i (va_runV (As := [.int (xs (Int32.toNatClampNeg (x3 + 1)))]) (rest := []) ⟨hx, hb, hml, hown, hts⟩ (ccX0_toInt l D q0 mo fl (xs (Int32.toNatClampNeg (x3 + 1)))) (cwV 1 hts gL_law_X0_toInt rfl rfl rfl (by decide +kernel) ⟨Nat.le_of_ble_eq_true rfl, Nat.le_of_ble_eq_true rfl⟩) (w0_pre hK0 hP0) rfl rfl hl.1 rfl (lv_room (Nat.le_of_ble_eq_true rfl)) dL_law_438 ⟨Nat.le_of_ble_eq_true rfl, Nat.le_of_ble_eq_true rfl⟩) hS g0 hP1 (ap1 n01 n02) (fun r1 u1 H locs hw1 hP0 hP1 hS => ?_)
  refine lv_aload_n hx hb dL_law_441 rfl (lv_at hl 2 rfl) ?_
  refine lv_aload_n hx hb dL_law_442 rfl (lv_at hl 0 rfl) ?_
  refine lv_iload_n hx hb dL_law_443 rfl (lv_at hl 3 rfl) ?_
  refine lv_iconst (v := 1) hx hb dL_law_444 (by decide) ?_
  refine lv_iadd hx hb dL_law_445 ?_
  refine va_sld hx hb hX hbl hbA hS hi1 dL_law_446 ?_
  refine lk1i (ws := (bw0 q0 mo u1)) (va_runV (As := [.int (xs (Int32.toNatClampNeg (x3 + 1)))]) (rest := [.int r1]) ⟨hx, hb, hml, hown, hts⟩ (ccX1_toInt l D cJ q1 q2 n12 mo fl row ba mr ex (xs (Int32.toNatClampNeg (x3 + 1)))) (cwV 1 hts gL_law_X1_toInt rfl rfl rfl (by decide +kernel) ⟨Nat.le_of_ble_eq_true rfl, Nat.le_of_ble_eq_true rfl⟩) (w1_pre hK1 hP1 hmr) rfl rfl hl.1 rfl (lv_room (Nat.le_of_ble_eq_true rfl)) dL_law_447 ⟨Nat.le_of_ble_eq_true rfl, Nat.le_of_ble_eq_true rfl⟩) hS g1 g2 hP0 (ap0 n01 n02) (fun r2 u H locs hw2 hP1 hmr hP0 hS => ?_)
  have hm := m_toInt mo fl row ba mr ex (xs (Int32.toNatClampNeg (x3 + 1))) hmo
  rw [← hw1, ← hw2] at hm
  have hm1 : r1 = r2 := hm.1
  have hm2 : u1 = u.1 := hm.2
  refine lv_icmp_eq (tgt := 557) hx hb dL_law_450 (by decide) (fun c_1 => ?_) (fun c_1 => ?_)
  · rw [hm2] at hP0
    exact kk (mo) (u.1) (u.2.1) (u.2.2.1) (u.2.2.2.1) (u.2.2.2.2) H locs ⟨hP0, hP1, hmr, hmo, hS⟩
  · exact absurd hm1 c_1
set_option maxHeartbeats 4000000 in
set_option maxRecDepth 100000 in
theorem law_fromInt (C0 : lw_At p s m meth c b L xs) (K0 : LC s D cJ q0 q1 q2) {x3 : Int32} {ls : Array Slot} (hl : lv_has ls 4 [(0, .ref b), (1, .ref q0), (2, .ref q1), (3, .int x3)]) (hi1 : vp_in (x3 + 1) L) {mo fl : Int32} {row : Nat → Int64} {ba mr ex : Int32} {H : Heap} {locs : List Loc} (hI : LI s D cJ q0 q1 q2 mo fl row ba mr ex H locs) (kk : ∀ (mo fl : Int32) (row : Nat → Int64) (ba mr ex : Int32) (H : Heap) (locs : List Loc), LI s D cJ q0 q1 q2 mo fl row ba mr ex H locs → W p l e room_1 s m #[Value.ref b] below meth c H locs 3 33 (lw_Z below #[Value.ref b] s) (F0 m 557 ls [])) : W p l e room_1 s m #[Value.ref b] below meth c H locs 3 33 (lw_Z below #[Value.ref b] s) (F0 m 455 ls []) := by
  obtain ⟨hx, hb, hr, hml, hown, hts, hX, hbl, hlocks, hgv⟩ := C0
  have hts := fun w h => hts w (wsL_law_in w h)
  have hbA : ¬ aN s b := Nat.not_le.mpr hbl
  obtain ⟨hK1, n01, n02, n12, g0, g1, g2⟩ := K0
  have hK0 := hK1.sub (tys' := []) [] rfl
  obtain ⟨hP0, hP1, hmr, hmo, hS⟩ := hI
  refine lv_aload_n hx hb dL_law_455 rfl (lv_at hl 1 rfl) ?_
  refine lv_aload_n hx hb dL_law_456 rfl (lv_at hl 0 rfl) ?_
  refine lv_iload_n hx hb dL_law_457 rfl (lv_at hl 3 rfl) ?_
  refine lv_iconst (v := 1) hx hb dL_law_458 (by decide) ?_
  refine lv_iadd hx hb dL_law_459 ?_
  refine va_sld hx hb hX hbl hbA hS hi1 dL_law_460 ?_
  refine lk0i (va_runV (As := [.int (xs (Int32.toNatClampNeg (x3 + 1)))]) (rest := []) ⟨hx, hb, hml, hown, hts⟩ (ccX0_fromInt l D q0 mo fl (xs (Int32.toNatClampNeg (x3 + 1)))) (cwV 1 hts gL_law_X0_fromInt rfl rfl rfl (by decide +kernel) ⟨Nat.le_of_ble_eq_true rfl, Nat.le_of_ble_eq_true rfl⟩) (w0_pre hK0 hP0) rfl rfl hl.1 rfl (lv_room (Nat.le_of_ble_eq_true rfl)) dL_law_461 ⟨Nat.le_of_ble_eq_true rfl, Nat.le_of_ble_eq_true rfl⟩) hS g0 hP1 (ap1 n01 n02) (fun r1 u1 H locs hw1 hP0 hP1 hS => ?_)
  refine lv_aload_n hx hb dL_law_464 rfl (lv_at hl 2 rfl) ?_
  refine lv_aload_n hx hb dL_law_465 rfl (lv_at hl 0 rfl) ?_
  refine lv_iload_n hx hb dL_law_466 rfl (lv_at hl 3 rfl) ?_
  refine lv_iconst (v := 1) hx hb dL_law_467 (by decide) ?_
  refine lv_iadd hx hb dL_law_468 ?_
  refine va_sld hx hb hX hbl hbA hS hi1 dL_law_469 ?_
  refine lk1i (ws := (bw0 q0 mo u1)) (va_runV (As := [.int (xs (Int32.toNatClampNeg (x3 + 1)))]) (rest := [.int r1]) ⟨hx, hb, hml, hown, hts⟩ (ccX1_fromInt l D cJ q1 q2 n12 mo fl row ba mr ex (xs (Int32.toNatClampNeg (x3 + 1)))) (cwV 1 hts gL_law_X1_fromInt rfl rfl rfl (by decide +kernel) ⟨Nat.le_of_ble_eq_true rfl, Nat.le_of_ble_eq_true rfl⟩) (w1_pre hK1 hP1 hmr) rfl rfl hl.1 rfl (lv_room (Nat.le_of_ble_eq_true rfl)) dL_law_470 ⟨Nat.le_of_ble_eq_true rfl, Nat.le_of_ble_eq_true rfl⟩) hS g1 g2 hP0 (ap0 n01 n02) (fun r2 u H locs hw2 hP1 hmr hP0 hS => ?_)
  have hm := m_fromInt mo fl row ba mr ex (xs (Int32.toNatClampNeg (x3 + 1))) hmo
  rw [← hw1, ← hw2] at hm
  have hm1 : r1 = r2 := hm.1
  have hm2 : u1 = u.1 := hm.2
  refine lv_icmp_eq (tgt := 557) hx hb dL_law_473 (by decide) (fun c_1 => ?_) (fun c_1 => ?_)
  · rw [hm2] at hP0
    exact kk (mo) (u.1) (u.2.1) (u.2.2.1) (u.2.2.2.1) (u.2.2.2.2) H locs ⟨hP0, hP1, hmr, hmo, hS⟩
  · exact absurd hm1 c_1
set_option maxHeartbeats 4000000 in
set_option maxRecDepth 100000 in
theorem law_compare (C0 : lw_At p s m meth c b L xs) (K0 : LC s D cJ q0 q1 q2) {x3 : Int32} {ls : Array Slot} (hl : lv_has ls 4 [(0, .ref b), (1, .ref q0), (2, .ref q1), (3, .int x3)]) (hi1 : vp_in (x3 + 1) L) (hi2 : vp_in (x3 + 2) L) {mo fl : Int32} {row : Nat → Int64} {ba mr ex : Int32} {H : Heap} {locs : List Loc} (hI : LI s D cJ q0 q1 q2 mo fl row ba mr ex H locs) (kk : ∀ (mo fl : Int32) (row : Nat → Int64) (ba mr ex : Int32) (H : Heap) (locs : List Loc), LI s D cJ q0 q1 q2 mo fl row ba mr ex H locs → W p l e room_1 s m #[Value.ref b] below meth c H locs 3 33 (lw_Z below #[Value.ref b] s) (F0 m 557 ls [])) : W p l e room_1 s m #[Value.ref b] below meth c H locs 3 33 (lw_Z below #[Value.ref b] s) (F0 m 478 ls []) := by
  obtain ⟨hx, hb, hr, hml, hown, hts, hX, hbl, hlocks, hgv⟩ := C0
  have hts := fun w h => hts w (wsL_law_in w h)
  have hbA : ¬ aN s b := Nat.not_le.mpr hbl
  obtain ⟨hK1, n01, n02, n12, g0, g1, g2⟩ := K0
  have hK0 := hK1.sub (tys' := []) [] rfl
  obtain ⟨hP0, hP1, hmr, hmo, hS⟩ := hI
  refine lv_aload_n hx hb dL_law_478 rfl (lv_at hl 1 rfl) ?_
  refine lv_aload_n hx hb dL_law_479 rfl (lv_at hl 0 rfl) ?_
  refine lv_iload_n hx hb dL_law_480 rfl (lv_at hl 3 rfl) ?_
  refine lv_iconst (v := 1) hx hb dL_law_481 (by decide) ?_
  refine lv_iadd hx hb dL_law_482 ?_
  refine va_sld hx hb hX hbl hbA hS hi1 dL_law_483 ?_
  refine lv_aload_n hx hb dL_law_484 rfl (lv_at hl 0 rfl) ?_
  refine lv_iload_n hx hb dL_law_485 rfl (lv_at hl 3 rfl) ?_
  refine lv_iconst (v := 2) hx hb dL_law_486 (by decide) ?_
  refine lv_iadd hx hb dL_law_487 ?_
  refine va_sld hx hb hX hbl hbA hS hi2 dL_law_488 ?_
  refine lk0i (va_runV (As := [.int (xs (Int32.toNatClampNeg (x3 + 1))), .int (xs (Int32.toNatClampNeg (x3 + 2)))]) (rest := []) ⟨hx, hb, hml, hown, hts⟩ (ccX0_compare l D q0 mo fl (xs (Int32.toNatClampNeg (x3 + 1))) (xs (Int32.toNatClampNeg (x3 + 2)))) (cwV 2 hts gL_law_X0_compare rfl rfl rfl (by decide +kernel) ⟨Nat.le_of_ble_eq_true rfl, Nat.le_of_ble_eq_true rfl⟩) (w0_pre hK0 hP0) rfl rfl hl.1 rfl (lv_room (Nat.le_of_ble_eq_true rfl)) dL_law_489 ⟨Nat.le_of_ble_eq_true rfl, Nat.le_of_ble_eq_true rfl⟩) hS g0 hP1 (ap1 n01 n02) (fun r1 u1 H locs hw1 hP0 hP1 hS => ?_)
  refine lv_aload_n hx hb dL_law_492 rfl (lv_at hl 2 rfl) ?_
  refine lv_aload_n hx hb dL_law_493 rfl (lv_at hl 0 rfl) ?_
  refine lv_iload_n hx hb dL_law_494 rfl (lv_at hl 3 rfl) ?_
  refine lv_iconst (v := 1) hx hb dL_law_495 (by decide) ?_
  refine lv_iadd hx hb dL_law_496 ?_
  refine va_sld hx hb hX hbl hbA hS hi1 dL_law_497 ?_
  refine lv_aload_n hx hb dL_law_498 rfl (lv_at hl 0 rfl) ?_
  refine lv_iload_n hx hb dL_law_499 rfl (lv_at hl 3 rfl) ?_
  refine lv_iconst (v := 2) hx hb dL_law_500 (by decide) ?_
  refine lv_iadd hx hb dL_law_501 ?_
  refine va_sld hx hb hX hbl hbA hS hi2 dL_law_502 ?_
  refine lk1i (ws := (bw0 q0 mo u1)) (va_runV (As := [.int (xs (Int32.toNatClampNeg (x3 + 1))), .int (xs (Int32.toNatClampNeg (x3 + 2)))]) (rest := [.int r1]) ⟨hx, hb, hml, hown, hts⟩ (ccX1_compare l D cJ q1 q2 n12 mo fl row ba mr ex (xs (Int32.toNatClampNeg (x3 + 1))) (xs (Int32.toNatClampNeg (x3 + 2)))) (cwV 2 hts gL_law_X1_compare rfl rfl rfl (by decide +kernel) ⟨Nat.le_of_ble_eq_true rfl, Nat.le_of_ble_eq_true rfl⟩) (w1_pre hK1 hP1 hmr) rfl rfl hl.1 rfl (lv_room (Nat.le_of_ble_eq_true rfl)) dL_law_503 ⟨Nat.le_of_ble_eq_true rfl, Nat.le_of_ble_eq_true rfl⟩) hS g1 g2 hP0 (ap0 n01 n02) (fun r2 u H locs hw2 hP1 hmr hP0 hS => ?_)
  have hm := m_compare mo fl row ba mr ex (xs (Int32.toNatClampNeg (x3 + 1))) (xs (Int32.toNatClampNeg (x3 + 2))) hmo
  rw [← hw1, ← hw2] at hm
  have hm1 : r1 = r2 := hm.1
  have hm2 : u1 = u := hm.2
  refine lv_icmp_eq (tgt := 557) hx hb dL_law_506 (by decide) (fun c_1 => ?_) (fun c_1 => ?_)
  · rw [hm2] at hP0
    exact kk (mo) (u) (row) (ba) (mr) (ex) H locs ⟨hP0, hP1, hmr, hmo, hS⟩
  · exact absurd hm1 c_1
set_option maxHeartbeats 4000000 in
set_option maxRecDepth 100000 in
theorem law_next (C0 : lw_At p s m meth c b L xs) (K0 : LC s D cJ q0 q1 q2) {x3 : Int32} {ls : Array Slot} (hl : lv_has ls 4 [(0, .ref b), (1, .ref q0), (2, .ref q1), (3, .int x3)]) (hi1 : vp_in (x3 + 1) L) {mo fl : Int32} {row : Nat → Int64} {ba mr ex : Int32} {H : Heap} {locs : List Loc} (hI : LI s D cJ q0 q1 q2 mo fl row ba mr ex H locs) (kk : ∀ (mo fl : Int32) (row : Nat → Int64) (ba mr ex : Int32) (H : Heap) (locs : List Loc), LI s D cJ q0 q1 q2 mo fl row ba mr ex H locs → W p l e room_1 s m #[Value.ref b] below meth c H locs 3 33 (lw_Z below #[Value.ref b] s) (F0 m 557 ls [])) : W p l e room_1 s m #[Value.ref b] below meth c H locs 3 33 (lw_Z below #[Value.ref b] s) (F0 m 511 ls []) := by
  obtain ⟨hx, hb, hr, hml, hown, hts, hX, hbl, hlocks, hgv⟩ := C0
  have hts := fun w h => hts w (wsL_law_in w h)
  have hbA : ¬ aN s b := Nat.not_le.mpr hbl
  obtain ⟨hK1, n01, n02, n12, g0, g1, g2⟩ := K0
  have hK0 := hK1.sub (tys' := []) [] rfl
  obtain ⟨hP0, hP1, hmr, hmo, hS⟩ := hI
  refine lv_aload_n hx hb dL_law_511 rfl (lv_at hl 1 rfl) ?_
  refine lv_aload_n hx hb dL_law_512 rfl (lv_at hl 0 rfl) ?_
  refine lv_iload_n hx hb dL_law_513 rfl (lv_at hl 3 rfl) ?_
  refine lv_iconst (v := 1) hx hb dL_law_514 (by decide) ?_
  refine lv_iadd hx hb dL_law_515 ?_
  refine va_sld hx hb hX hbl hbA hS hi1 dL_law_516 ?_
  refine lk0i (va_runV (As := [.int (xs (Int32.toNatClampNeg (x3 + 1)))]) (rest := []) ⟨hx, hb, hml, hown, hts⟩ (ccX0_next l D q0 mo fl (xs (Int32.toNatClampNeg (x3 + 1)))) (cwV 1 hts gL_law_X0_next rfl rfl rfl (by decide +kernel) ⟨Nat.le_of_ble_eq_true rfl, Nat.le_of_ble_eq_true rfl⟩) (w0_pre hK0 hP0) rfl rfl hl.1 rfl (lv_room (Nat.le_of_ble_eq_true rfl)) dL_law_517 ⟨Nat.le_of_ble_eq_true rfl, Nat.le_of_ble_eq_true rfl⟩) hS g0 hP1 (ap1 n01 n02) (fun r1 u1 H locs hw1 hP0 hP1 hS => ?_)
  refine lv_aload_n hx hb dL_law_520 rfl (lv_at hl 2 rfl) ?_
  refine lv_aload_n hx hb dL_law_521 rfl (lv_at hl 0 rfl) ?_
  refine lv_iload_n hx hb dL_law_522 rfl (lv_at hl 3 rfl) ?_
  refine lv_iconst (v := 1) hx hb dL_law_523 (by decide) ?_
  refine lv_iadd hx hb dL_law_524 ?_
  refine va_sld hx hb hX hbl hbA hS hi1 dL_law_525 ?_
  refine lk1i (ws := (bw0 q0 mo u1)) (va_runV (As := [.int (xs (Int32.toNatClampNeg (x3 + 1)))]) (rest := [.int r1]) ⟨hx, hb, hml, hown, hts⟩ (ccX1_next l D cJ q1 q2 n12 mo fl row ba mr ex (xs (Int32.toNatClampNeg (x3 + 1)))) (cwV 1 hts gL_law_X1_next rfl rfl rfl (by decide +kernel) ⟨Nat.le_of_ble_eq_true rfl, Nat.le_of_ble_eq_true rfl⟩) (w1_pre hK1 hP1 hmr) rfl rfl hl.1 rfl (lv_room (Nat.le_of_ble_eq_true rfl)) dL_law_526 ⟨Nat.le_of_ble_eq_true rfl, Nat.le_of_ble_eq_true rfl⟩) hS g1 g2 hP0 (ap0 n01 n02) (fun r2 u H locs hw2 hP1 hmr hP0 hS => ?_)
  have hm := m_next mo fl row ba mr ex (xs (Int32.toNatClampNeg (x3 + 1))) hmo
  rw [← hw1, ← hw2] at hm
  have hm1 : r1 = r2 := hm.1
  have hm2 : u1 = u := hm.2
  refine lv_icmp_eq (tgt := 557) hx hb dL_law_529 (by decide) (fun c_1 => ?_) (fun c_1 => ?_)
  · rw [hm2] at hP0
    exact kk (mo) (u) (row) (ba) (mr) (ex) H locs ⟨hP0, hP1, hmr, hmo, hS⟩
  · exact absurd hm1 c_1
set_option maxHeartbeats 4000000 in
set_option maxRecDepth 100000 in
theorem law_kind (C0 : lw_At p s m meth c b L xs) (K0 : LC s D cJ q0 q1 q2) {x3 : Int32} {ls : Array Slot} (hl : lv_has ls 4 [(0, .ref b), (1, .ref q0), (2, .ref q1), (3, .int x3)]) (hi1 : vp_in (x3 + 1) L) {mo fl : Int32} {row : Nat → Int64} {ba mr ex : Int32} {H : Heap} {locs : List Loc} (hI : LI s D cJ q0 q1 q2 mo fl row ba mr ex H locs) (kk : ∀ (mo fl : Int32) (row : Nat → Int64) (ba mr ex : Int32) (H : Heap) (locs : List Loc), LI s D cJ q0 q1 q2 mo fl row ba mr ex H locs → W p l e room_1 s m #[Value.ref b] below meth c H locs 3 33 (lw_Z below #[Value.ref b] s) (F0 m 557 ls [])) : W p l e room_1 s m #[Value.ref b] below meth c H locs 3 33 (lw_Z below #[Value.ref b] s) (F0 m 534 ls []) := by
  obtain ⟨hx, hb, hr, hml, hown, hts, hX, hbl, hlocks, hgv⟩ := C0
  have hts := fun w h => hts w (wsL_law_in w h)
  have hbA : ¬ aN s b := Nat.not_le.mpr hbl
  obtain ⟨hK1, n01, n02, n12, g0, g1, g2⟩ := K0
  have hK0 := hK1.sub (tys' := []) [] rfl
  obtain ⟨hP0, hP1, hmr, hmo, hS⟩ := hI
  refine lv_aload_n hx hb dL_law_534 rfl (lv_at hl 1 rfl) ?_
  refine lv_aload_n hx hb dL_law_535 rfl (lv_at hl 0 rfl) ?_
  refine lv_iload_n hx hb dL_law_536 rfl (lv_at hl 3 rfl) ?_
  refine lv_iconst (v := 1) hx hb dL_law_537 (by decide) ?_
  refine lv_iadd hx hb dL_law_538 ?_
  refine va_sld hx hb hX hbl hbA hS hi1 dL_law_539 ?_
  refine sc_i (W.runV (As := [.int (xs (Int32.toNatClampNeg (x3 + 1)))]) (rest := []) ⟨hx, hb, hml, hown, hts⟩ (ccX0_kind l D q0 mo fl (xs (Int32.toNatClampNeg (x3 + 1)))) (cwV 1 hts gL_law_X0_kind rfl rfl rfl (by decide +kernel) ⟨Nat.le_of_ble_eq_true rfl, Nat.le_of_ble_eq_true rfl⟩) (w0_pre hK0 hP0) rfl rfl hl.1 rfl (lv_room (Nat.le_of_ble_eq_true rfl)) dL_law_540 ⟨Nat.le_of_ble_eq_true rfl, Nat.le_of_ble_eq_true rfl⟩) ?_
  refine lv_aload_n hx hb dL_law_543 rfl (lv_at hl 2 rfl) ?_
  refine lv_aload_n hx hb dL_law_544 rfl (lv_at hl 0 rfl) ?_
  refine lv_iload_n hx hb dL_law_545 rfl (lv_at hl 3 rfl) ?_
  refine lv_iconst (v := 1) hx hb dL_law_546 (by decide) ?_
  refine lv_iadd hx hb dL_law_547 ?_
  refine va_sld hx hb hX hbl hbA hS hi1 dL_law_548 ?_
  refine sc_i (W.runV (As := [.int (xs (Int32.toNatClampNeg (x3 + 1)))]) (rest := [.int (fX0_kind (xs (Int32.toNatClampNeg (x3 + 1))))]) ⟨hx, hb, hml, hown, hts⟩ (ccX1_kind l D cJ q1 q2 n12 mo fl row ba mr ex (xs (Int32.toNatClampNeg (x3 + 1)))) (cwV 1 hts gL_law_X1_kind rfl rfl rfl (by decide +kernel) ⟨Nat.le_of_ble_eq_true rfl, Nat.le_of_ble_eq_true rfl⟩) (w1_pre hK1 hP1 hmr) rfl rfl hl.1 rfl (lv_room (Nat.le_of_ble_eq_true rfl)) dL_law_549 ⟨Nat.le_of_ble_eq_true rfl, Nat.le_of_ble_eq_true rfl⟩) ?_
  have hm := m_kind mo fl row ba mr ex (xs (Int32.toNatClampNeg (x3 + 1))) hmo
  refine lv_icmp_eq (tgt := 557) hx hb dL_law_552 (by decide) (fun c_1 => ?_) (fun c_1 => ?_)
  · exact kk mo fl row ba mr ex H locs ⟨hP0, hP1, hmr, hmo, hS⟩
  · exact absurd hm c_1
theorem sc_and31 (x : Int32) : 0 ≤ (x &&& 31).toInt ∧ (x &&& 31).toInt < 32 := by
  rw [i_and_lo x 31 5 (by decide) (by decide)]
  have : uI x % 2 ^ 5 < 2 ^ 5 := Nat.mod_lt _ (by decide)
  omega
set_option maxHeartbeats 4000000 in
set_option maxRecDepth 100000 in
theorem law_loop (hL : L ≤ 2048) (C0 : lw_At p s m meth c b L xs) (K0 : LC s D cJ q0 q1 q2) :
    ∀ (n i : Nat) (x3 : Int32), i ≤ L + 4 → L + 4 < i + 4 * n → x3 = nI i → ∀ (mo fl : Int32) (row : Nat → Int64) (ba mr ex : Int32) (H : Heap) (locs : List Loc), LI s D cJ q0 q1 q2 mo fl row ba mr ex H locs → ∀ (ls : Array Slot), lv_has ls 4 [(0, .ref b), (1, .ref q0), (2, .ref q1), (3, .int x3)] → W p l e room_1 s m #[Value.ref b] below meth c H locs 3 33 (lw_Z below #[Value.ref b] s) (F0 m 18 ls []) := by
  obtain ⟨hx, hb, hr, hml, hown, hts, hX, hbl, hlocks, hgv⟩ := id C0
  have hbA : ¬ aN s b := Nat.not_le.mpr hbl
  intro n
  induction n with
  | zero =>
    intro i x3 h1 h2
    exact absurd h2 (by omega)
  | succ n ih =>
    intro i x3 hi hin ex3 mo fl row ba mr ex H locs hI ls hl
    have hS := hI.2.2.2.2
    refine lv_iload_n hx hb dL_law_18 rfl (lv_at hl 3 rfl) ?_
    refine lv_aload_n hx hb dL_law_19 rfl (lv_at hl 0 rfl) ?_
    refine va_slen hx hb hX hbl hbA hS dL_law_20 ?_
    refine lv_iconst (v := 4) hx hb dL_law_21 (by decide) ?_
    refine lv_isub hx hb dL_law_22 ?_
    have hxi : x3.toInt = i := by rw [ex3, nI_toInt (by omega)]
    have hLi : (Int32.ofNat L - 4).toInt = (L : Int) - 4 := by
      have h1 : (Int32.ofNat L).toInt = L := nI_toInt (by omega)
      have h2 : Int32.toInt 4 = 4 := by decide
      rw [i_sub (by omega) (by omega), h1, h2]
    refine lv_icmp_gt (tgt := 563) hx hb dL_law_23 (by decide) (fun c_10 => ?_) (fun c_10 => ?_)
    · refine lv_iconst (v := 1) hx hb dL_law_563 (by decide) ?_
      refine va_forget (fun q hq => hS.2.2 q hq) ?_
      exact lw_ret hx hb hr hlocks dL_law_564
    · rw [Int32.lt_iff_toInt_lt, hLi, hxi] at c_10
      have hadd : ∀ k : Nat, k < 4 → x3 + nI k = nI (i + k) := fun k _ => by rw [ex3, nI_add]
      have hi0 : vp_in x3 L := by rw [ex3]; exact vp_in_nI (by omega) (by omega)
      have hi1 : vp_in (x3 + 1) L := by rw [show x3 + 1 = nI (i + 1) from hadd 1 (by decide)]; exact vp_in_nI (by omega) (by omega)
      have hi2 : vp_in (x3 + 2) L := by rw [show x3 + 2 = nI (i + 2) from hadd 2 (by decide)]; exact vp_in_nI (by omega) (by omega)
      have hi3 : vp_in (x3 + 3) L := by rw [show x3 + 3 = nI (i + 3) from hadd 3 (by decide)]; exact vp_in_nI (by omega) (by omega)
      have hnext : ∀ (mo fl : Int32) (row : Nat → Int64) (ba mr ex : Int32) (H : Heap) (locs : List Loc), LI s D cJ q0 q1 q2 mo fl row ba mr ex H locs → W p l e room_1 s m #[Value.ref b] below meth c H locs 3 33 (lw_Z below #[Value.ref b] s) (F0 m 557 ls []) := by
        intro mo fl row ba mr ex H locs hI
        refine lv_iinc (v := x3 + 4) (lv' := [(3, .int (x3 + 4)), (0, .ref b), (1, .ref q0), (2, .ref q1)]) hx hb dL_law_557 hl (k := 3) rfl rfl (by decide) rfl (fun ls hl => ?_)
        refine lv_goto (tgt := 18) hx hb dL_law_560 (by decide) ?_
        exact ih (i + 4) (x3 + 4) (by omega) (by omega) (by rw [ex3]; exact nI_add i 4) mo fl row ba mr ex H locs hI ls (lv_sub hl [1, 2, 3, 0] rfl)
      refine lv_aload_n hx hb dL_law_26 rfl (lv_at hl 0 rfl) ?_
      refine lv_iload_n hx hb dL_law_27 rfl (lv_at hl 3 rfl) ?_
      refine va_sld hx hb hX hbl hbA hS hi0 dL_law_28 ?_
      refine lv_bipush (v := 31) hx hb dL_law_29 (by decide) ?_
      refine lv_iand hx hb dL_law_31 ?_
      refine lv_topi (fun v ev => ?_)
      obtain ⟨v0, v1⟩ : 0 ≤ v.toInt ∧ v.toInt < 32 := by rw [ev]; exact sc_and31 _
      obtain ⟨k, hk⟩ : ∃ k : Nat, v.toInt = k := ⟨v.toInt.toNat, by omega⟩
      match k, hk with
      | 0, hk => exact lv_tableIn (off := 84) (tgt := 116) hx hb dL_law_32 (by omega) (by omega) (by rw [hk]; rfl) (by decide) (law_round C0 K0 hl hi1 hI hnext)
      | 1, hk => exact lv_tableIn (off := 107) (tgt := 139) hx hb dL_law_32 (by omega) (by omega) (by rw [hk]; rfl) (by decide) (law_mode C0 K0 hl  hI hnext)
      | 2, hk => exact lv_tableIn (off := 120) (tgt := 152) hx hb dL_law_32 (by omega) (by omega) (by rw [hk]; rfl) (by decide) (law_flags C0 K0 hl  hI hnext)
      | 3, hk => exact lv_tableIn (off := 133) (tgt := 165) hx hb dL_law_32 (by omega) (by omega) (by rw [hk]; rfl) (by decide) (law_clear C0 K0 hl  hI hnext)
      | 4, hk => exact lv_tableIn (off := 146) (tgt := 178) hx hb dL_law_32 (by omega) (by omega) (by rw [hk]; rfl) (by decide) (law_add C0 K0 hl hi1 hi2 hI hnext)
      | 5, hk => exact lv_tableIn (off := 179) (tgt := 211) hx hb dL_law_32 (by omega) (by omega) (by rw [hk]; rfl) (by decide) (law_subtract C0 K0 hl hi1 hi2 hI hnext)
      | 6, hk => exact lv_tableIn (off := 212) (tgt := 244) hx hb dL_law_32 (by omega) (by omega) (by rw [hk]; rfl) (by decide) (law_multiply C0 K0 hl hi1 hi2 hI hnext)
      | 7, hk => exact lv_tableIn (off := 245) (tgt := 277) hx hb dL_law_32 (by omega) (by omega) (by rw [hk]; rfl) (by decide) (law_divide C0 K0 hl hi1 hi2 hI hnext)
      | 8, hk => exact lv_tableIn (off := 278) (tgt := 310) hx hb dL_law_32 (by omega) (by omega) (by rw [hk]; rfl) (by decide) (law_root C0 K0 hl hi1 hI hnext)
      | 9, hk => exact lv_tableIn (off := 301) (tgt := 333) hx hb dL_law_32 (by omega) (by omega) (by rw [hk]; rfl) (by decide) (law_fused C0 K0 hl hi1 hi2 hi3 hI hnext)
      | 10, hk => exact lv_tableIn (off := 344) (tgt := 376) hx hb dL_law_32 (by omega) (by omega) (by rw [hk]; rfl) (by decide) (law_scale C0 K0 hl hi1 hi2 hI hnext)
      | 11, hk => exact lv_tableIn (off := 377) (tgt := 409) hx hb dL_law_32 (by omega) (by omega) (by rw [hk]; rfl) (by decide) (law_whole C0 K0 hl hi1 hI hnext)
      | 12, hk => exact lv_tableIn (off := 400) (tgt := 432) hx hb dL_law_32 (by omega) (by omega) (by rw [hk]; rfl) (by decide) (law_toInt C0 K0 hl hi1 hI hnext)
      | 13, hk => exact lv_tableIn (off := 423) (tgt := 455) hx hb dL_law_32 (by omega) (by omega) (by rw [hk]; rfl) (by decide) (law_fromInt C0 K0 hl hi1 hI hnext)
      | 14, hk => exact lv_tableIn (off := 446) (tgt := 478) hx hb dL_law_32 (by omega) (by omega) (by rw [hk]; rfl) (by decide) (law_compare C0 K0 hl hi1 hi2 hI hnext)
      | 15, hk => exact lv_tableIn (off := 479) (tgt := 511) hx hb dL_law_32 (by omega) (by omega) (by rw [hk]; rfl) (by decide) (law_next C0 K0 hl hi1 hI hnext)
      | 16, hk => exact lv_tableIn (off := 502) (tgt := 534) hx hb dL_law_32 (by omega) (by omega) (by rw [hk]; rfl) (by decide) (law_kind C0 K0 hl hi1 hI hnext)
      | k + 17, hk => exact lv_tableOut (tgt := 557) hx hb dL_law_32 (Or.inr (by omega)) (by decide) (hnext mo fl row ba mr ex H locs hI)
end LAWC
