/-! X1_finish -/
def fX1_finish_k253 (y1 : Int32) (z0 : Int32) (mo : Int32) (vfl : Int32) (row : (Nat → Int64)) (ba : Int32) (mr : Int32) (vex : Int32) : Int32 × Int32 × Int32 := ((fX1_signed z0 y1), vfl, vex)
def fX1_finish_k207 (y1 : Int32) (y3 : Int32) (y5 : Int32) (mo : Int32) (vfl : Int32) (row : (Nat → Int64)) (ba : Int32) (mr : Int32) (vex : Int32) : Int32 × Int32 × Int32 := (if y5 = (16777216 : Int32) then ((fX1_signed ((((y3 + (151 : Int32))) <<< ((23 : Int32) &&& 31))) y1), vfl, vex) else (if (8388608 : Int32) ≤ y5 then fX1_finish_k253 y1 ((((((((y3 + (150 : Int32))) <<< ((23 : Int32) &&& 31))) + y5)) - (8388608 : Int32))) mo vfl row ba mr vex else fX1_finish_k253 y1 y5 mo vfl row ba mr vex))
def fX1_finish_k202 (y1 : Int32) (z0 : Int32) (mo : Int32) (vfl : Int32) (row : (Nat → Int64)) (ba : Int32) (mr : Int32) (vex : Int32) : Int32 × Int32 × Int32 := ((fX1_signed z0 y1), vfl, vex)
def fX1_finish_k188 (y1 : Int32) (z0 : Int32) (mo : Int32) (vfl : Int32) (row : (Nat → Int64)) (ba : Int32) (mr : Int32) (vex : Int32) : Int32 × Int32 × Int32 := (if z0 = 0 then fX1_finish_k202 y1 (2139095040 : Int32) mo vfl row ba mr vex else fX1_finish_k202 y1 (2139095039 : Int32) mo vfl row ba mr vex)
def fX1_finish_k171 (y1 : Int32) (mo : Int32) (vfl : Int32) (row : (Nat → Int64)) (ba : Int32) (mr : Int32) (vex : Int32) : Int32 × Int32 × Int32 := (if mo = (3 : Int32) then (if y1 = 0 then fX1_finish_k188 y1 (1 : Int32) mo vfl row ba mr vex else fX1_finish_k188 y1 (0 : Int32) mo vfl row ba mr vex) else fX1_finish_k188 y1 (0 : Int32) mo vfl row ba mr vex)
def fX1_finish_k139 (y1 : Int32) (mo : Int32) (vfl : Int32) (row : (Nat → Int64)) (ba : Int32) (mr : Int32) (vex : Int32) : Int32 × Int32 × Int32 := (if mo = (1 : Int32) then fX1_finish_k188 y1 (1 : Int32) mo ((((vfl ||| (4 : Int32))) ||| (1 : Int32))) row ba mr vex else (if mo = (2 : Int32) then (if y1 = 0 then fX1_finish_k171 y1 mo ((((vfl ||| (4 : Int32))) ||| (1 : Int32))) row ba mr vex else fX1_finish_k188 y1 (1 : Int32) mo ((((vfl ||| (4 : Int32))) ||| (1 : Int32))) row ba mr vex) else fX1_finish_k171 y1 mo ((((vfl ||| (4 : Int32))) ||| (1 : Int32))) row ba mr vex))
def fX1_finish_k120 (y1 : Int32) (y3 : Int32) (y5 : Int32) (mo : Int32) (vfl : Int32) (row : (Nat → Int64)) (ba : Int32) (mr : Int32) (vex : Int32) : Int32 × Int32 × Int32 := (if (104 : Int32) < y3 then fX1_finish_k139 y1 mo vfl row ba mr vex else (if y3 = (104 : Int32) then (if y5 = (16777216 : Int32) then fX1_finish_k139 y1 mo vfl row ba mr vex else fX1_finish_k207 y1 y3 y5 mo vfl row ba mr vex) else fX1_finish_k207 y1 y3 y5 mo vfl row ba mr vex))
def fX1_finish_k98 (y1 : Int32) (y3 : Int32) (y4 : Int32) (y5 : Int32) (mo : Int32) (vfl : Int32) (row : (Nat → Int64)) (ba : Int32) (mr : Int32) (vex : Int32) : Int32 × Int32 × Int32 := (if vex = 0 then (if y4 = 0 then fX1_finish_k120 y1 y3 y5 mo vfl row ba mr vex else fX1_finish_k120 y1 y3 y5 mo ((vfl ||| (2 : Int32))) row ba mr vex) else fX1_finish_k120 y1 y3 y5 mo vfl row ba mr vex)
def fX1_finish_k79 (y1 : Int32) (y3 : Int32) (y4 : Int32) (z0 : Int32) (mo : Int32) (vfl : Int32) (row : (Nat → Int64)) (ba : Int32) (mr : Int32) (vex : Int32) : Int32 × Int32 × Int32 := (if vex = 0 then fX1_finish_k98 y1 y3 y4 z0 mo ((vfl ||| (1 : Int32))) row ba mr vex else fX1_finish_k98 y1 y3 y4 z0 mo vfl row ba mr vex)
def fX1_finish_k68 (y1 : Int32) (y3 : Int32) (y4 : Int32) (mo : Int32) (vfl : Int32) (row : (Nat → Int64)) (ba : Int32) (mr : Int32) (vex : Int32) : Int32 × Int32 × Int32 := fX1_finish_k79 y1 y3 y4 ((fX1_rounded mo row mr vex ((y3 - ba)) y1).1) mo vfl row ba mr ((fX1_rounded mo row mr vex ((y3 - ba)) y1).2)
def fX1_finish_k66 (y1 : Int32) (y3 : Int32) (z0 : Int32) (mo : Int32) (vfl : Int32) (row : (Nat → Int64)) (ba : Int32) (mr : Int32) (vex : Int32) : Int32 × Int32 × Int32 := fX1_finish_k68 y1 y3 z0 mo vfl row ba mr vex
def fX1_finish_k49 (y1 : Int32) (y2 : Int32) (y3 : Int32) (z0 : Int32) (mo : Int32) (vfl : Int32) (row : (Nat → Int64)) (ba : Int32) (mr : Int32) (vex : Int32) : Int32 × Int32 × Int32 := (if z0 < (16777216 : Int32) then fX1_finish_k66 y1 y3 (1 : Int32) mo vfl row ba mr vex else (if (-150 : Int32) ≤ y2 then fX1_finish_k66 y1 y3 (0 : Int32) mo vfl row ba mr vex else fX1_finish_k66 y1 y3 (1 : Int32) mo vfl row ba mr vex))
def fX1_finish_k27 (y1 : Int32) (y2 : Int32) (z0 : Int32) (mo : Int32) (vfl : Int32) (row : (Nat → Int64)) (ba : Int32) (mr : Int32) (vex : Int32) : Int32 × Int32 × Int32 := (if (-149 : Int32) ≤ y2 then fX1_finish_k68 y1 z0 (0 : Int32) mo vfl row ba mr vex else fX1_finish_k49 y1 y2 z0 ((fX1_rounded mo row mr vex ((y2 - ba)) y1).1) mo vfl row ba mr ((fX1_rounded mo row mr vex ((y2 - ba)) y1).2))
def fX1_finish_k13 (y1 : Int32) (y2 : Int32) (mo : Int32) (vfl : Int32) (row : (Nat → Int64)) (ba : Int32) (mr : Int32) (vex : Int32) : Int32 × Int32 × Int32 := (if (-149 : Int32) ≤ y2 then fX1_finish_k27 y1 y2 y2 mo vfl row ba mr vex else fX1_finish_k27 y1 y2 (-149 : Int32) mo vfl row ba mr vex)
def fX1_finish (mo : Int32) (fl : Int32) (row : (Nat → Int64)) (ba : Int32) (mr : Int32) (ex : Int32) (x1 : Int32) : Int32 × Int32 × Int32 := fX1_finish_k13 x1 ((((((fX1_top row)) + ba)) - (23 : Int32))) mo fl row ba mr ex
set_option maxHeartbeats 4000000 in
set_option maxRecDepth 100000 in
theorem ccX1_finish (l : Launch) (D : va_G) (cJ : ClassId) (h0 h1 : Nat) (hne : h0 ≠ h1) (mo fl : Int32) (row : Nat → Int64) (ba mr ex : Int32) (x1 : Int32)  : Met l yX1_finish wsX1_finish { frames := 3, cells := 0, slots := 0, locals := 69 } (va_Pc [.ref h0, .int x1] (w1 D cJ h0 h1 mo fl row ba mr ex)) (va_Qi (fun (r : Int32) (u : Int32 × Int32) => (r, u) = fX1_finish mo fl row ba mr ex x1) (fun u t => w1 D cJ h0 h1 mo u.1 row ba mr u.2 t) (aw1 h0 h1)) 0 0 (aw1 h0 h1) := by
  refine Met.ofW (cc := cX1_finish) (maxL := 7) (ret := (some .int)) (by decide) rfl ?_
  intro p e s m args below meth c s₁ B hml hv
  obtain ⟨rfl, hP, hK, hmr⟩ := hv
  have hx := B.exec
  have hb := B.bytes
  have hr := B.returns
  have hts := atoms_spec (ws := wsX1_finish) B.pre
  have hown : s.vm.findClass RX1 = some m.cls := findClass_of_methodNamed B.named
  have hlocks := B.notSynchronized
  have hin0 : ∀ w ∈ wsX10, w ∈ wsX1_finish := fun _ h => List.mem_cons_of_mem _ (List.mem_append_right _ h)
  have hS : va_S (aw1 h0 h1) s.heap s.heap [] := va_S.rf
  have hP : va_P D vwCl (bw1 cJ h0 h1 mo fl row ba mr ex) s.heap := hP
  have hl := lv_entry ([.ref h0, .int x1]) (n := 7) (Nat.le_of_ble_eq_true rfl)
  rw [lg_entry_eq]
  generalize (lg_sl ([.ref h0, .int x1]) ++ List.replicate (7 - (lg_sl ([.ref h0, .int x1])).length) Slot.unset).toArray = ls at hl ⊢
  have hl : lv_has ls 7 [(0, .ref h0), (1, .int x1)] := hl
  have j_253 : ∀ (y1 : Int32) (z0 : Int32) (vfl : Int32) (vex : Int32) (H : Heap) (locs : List Loc) (ls : Array Slot), va_P D vwCl (bw1 cJ h0 h1 mo vfl row ba mr vex) H → va_S (aw1 h0 h1) s.heap H locs → lv_has ls 7 [(1, .int y1)] → fX1_finish mo fl row ba mr ex x1 = fX1_finish_k253 y1 z0 mo vfl row ba mr vex → W p l e (headSpec wsX1_finish { frames := 3, cells := 0, slots := 0, locals := 69 }).room s m ([.ref h0, .int x1] : List Value).toArray below meth c H locs 0 0 (MQ below (va_Qi (fun (r : Int32) (u : Int32 × Int32) => (r, u) = fX1_finish mo fl row ba mr ex x1) (fun u t => w1 D cJ h0 h1 mo u.1 row ba mr u.2 t) (aw1 h0 h1)) ([.ref h0, .int x1] : List Value).toArray s 0 0 (aw1 h0 h1)) (F0 m 253 ls [.int z0]) := by
    intro y1 z0 vfl vex H locs ls hP hS hl hE
    refine lv_iload_n hx hb dX1_finish_253 rfl (lv_at hl 0 rfl) ?_
    refine sc_i (W.runS (As := [.int z0, .int y1]) (rest := []) ⟨hx, hb, hml, hown, hts⟩ (ccX1_signed l z0 y1 ) (va_cwS 2 hts gX1_finish_X1_signed rfl rfl rfl (by decide +kernel) ⟨Nat.le_of_ble_eq_true rfl, Nat.le_of_ble_eq_true rfl⟩) st_pre rfl rfl hl.1 rfl (lv_room (Nat.le_of_ble_eq_true rfl)) dX1_finish_254 ⟨Nat.zero_le _, Nat.zero_le _⟩) ?_
    exact W.iret hx hb hr (fun t ht hW => ⟨⟨_, (vfl, vex), rfl, hE.symm, by rw [ht]; exact hP, va_K.moved hW.alike hK, hmr⟩, hS.F ht⟩) hS.2.2 dX1_finish_257
  have j_207 : ∀ (y1 : Int32) (y3 : Int32) (y5 : Int32) (vfl : Int32) (vex : Int32) (H : Heap) (locs : List Loc) (ls : Array Slot), va_P D vwCl (bw1 cJ h0 h1 mo vfl row ba mr vex) H → va_S (aw1 h0 h1) s.heap H locs → lv_has ls 7 [(1, .int y1), (3, .int y3), (5, .int y5)] → fX1_finish mo fl row ba mr ex x1 = fX1_finish_k207 y1 y3 y5 mo vfl row ba mr vex → W p l e (headSpec wsX1_finish { frames := 3, cells := 0, slots := 0, locals := 69 }).room s m ([.ref h0, .int x1] : List Value).toArray below meth c H locs 0 0 (MQ below (va_Qi (fun (r : Int32) (u : Int32 × Int32) => (r, u) = fX1_finish mo fl row ba mr ex x1) (fun u t => w1 D cJ h0 h1 mo u.1 row ba mr u.2 t) (aw1 h0 h1)) ([.ref h0, .int x1] : List Value).toArray s 0 0 (aw1 h0 h1)) (F0 m 207 ls []) := by
    intro y1 y3 y5 vfl vex H locs ls hP hS hl hE
    refine lv_iload hx hb dX1_finish_207 (lv_at hl 2 rfl) ?_
    refine lv_ldc hx hb hown (hts (.constant RX1 71 (16777216)) (by decide +kernel)) dX1_finish_209 ?_
    refine lv_icmp_ne (tgt := 227) hx hb dX1_finish_211 (by decide) (fun c_211 => ?_) (fun c_211 => ?_)
    · replace hE := hE.trans (if_neg c_211)
      refine lv_iload hx hb dX1_finish_227 (lv_at hl 2 rfl) ?_
      refine lv_ldc hx hb hown (hts (.constant RX1 35 (8388608)) (by decide +kernel)) dX1_finish_229 ?_
      refine lv_icmp_ge (tgt := 239) hx hb dX1_finish_231 (by decide) (fun c_231 => ?_) (fun c_231 => ?_)
      · replace hE := hE.trans (if_pos c_231)
        refine lv_iload_n hx hb dX1_finish_239 rfl (lv_at hl 1 rfl) ?_
        refine lv_sipush (v := 150) hx hb dX1_finish_240 (by decide) ?_
        refine lv_iadd hx hb dX1_finish_243 ?_
        refine lv_bipush (v := 23) hx hb dX1_finish_244 (by decide) ?_
        refine lv_ishl hx hb dX1_finish_246 ?_
        refine lv_iload hx hb dX1_finish_247 (lv_at hl 2 rfl) ?_
        refine lv_iadd hx hb dX1_finish_249 ?_
        refine lv_ldc hx hb hown (hts (.constant RX1 35 (8388608)) (by decide +kernel)) dX1_finish_250 ?_
        refine lv_isub hx hb dX1_finish_252 ?_
        exact j_253 y1 ((((((((y3 + (150 : Int32))) <<< ((23 : Int32) &&& 31))) + y5)) - (8388608 : Int32))) vfl vex _ _ _ hP hS (lv_sub hl [0] rfl)  hE
      · replace hE := hE.trans (if_neg c_231)
        refine lv_iload hx hb dX1_finish_234 (lv_at hl 2 rfl) ?_
        refine lv_goto (tgt := 253) hx hb dX1_finish_236 (by decide) ?_
        exact j_253 y1 y5 vfl vex _ _ _ hP hS (lv_sub hl [0] rfl)  hE
    · replace hE := hE.trans (if_pos c_211)
      refine lv_iload_n hx hb dX1_finish_214 rfl (lv_at hl 1 rfl) ?_
      refine lv_sipush (v := 151) hx hb dX1_finish_215 (by decide) ?_
      refine lv_iadd hx hb dX1_finish_218 ?_
      refine lv_bipush (v := 23) hx hb dX1_finish_219 (by decide) ?_
      refine lv_ishl hx hb dX1_finish_221 ?_
      refine lv_iload_n hx hb dX1_finish_222 rfl (lv_at hl 0 rfl) ?_
      refine sc_i (W.runS (As := [.int (((y3 + (151 : Int32))) <<< ((23 : Int32) &&& 31)), .int y1]) (rest := []) ⟨hx, hb, hml, hown, hts⟩ (ccX1_signed l ((((y3 + (151 : Int32))) <<< ((23 : Int32) &&& 31))) y1 ) (va_cwS 2 hts gX1_finish_X1_signed rfl rfl rfl (by decide +kernel) ⟨Nat.le_of_ble_eq_true rfl, Nat.le_of_ble_eq_true rfl⟩) st_pre rfl rfl hl.1 rfl (lv_room (Nat.le_of_ble_eq_true rfl)) dX1_finish_223 ⟨Nat.zero_le _, Nat.zero_le _⟩) ?_
      exact W.iret hx hb hr (fun t ht hW => ⟨⟨_, (vfl, vex), rfl, hE.symm, by rw [ht]; exact hP, va_K.moved hW.alike hK, hmr⟩, hS.F ht⟩) hS.2.2 dX1_finish_226
  have j_202 : ∀ (y1 : Int32) (z0 : Int32) (vfl : Int32) (vex : Int32) (H : Heap) (locs : List Loc) (ls : Array Slot), va_P D vwCl (bw1 cJ h0 h1 mo vfl row ba mr vex) H → va_S (aw1 h0 h1) s.heap H locs → lv_has ls 7 [(1, .int y1)] → fX1_finish mo fl row ba mr ex x1 = fX1_finish_k202 y1 z0 mo vfl row ba mr vex → W p l e (headSpec wsX1_finish { frames := 3, cells := 0, slots := 0, locals := 69 }).room s m ([.ref h0, .int x1] : List Value).toArray below meth c H locs 0 0 (MQ below (va_Qi (fun (r : Int32) (u : Int32 × Int32) => (r, u) = fX1_finish mo fl row ba mr ex x1) (fun u t => w1 D cJ h0 h1 mo u.1 row ba mr u.2 t) (aw1 h0 h1)) ([.ref h0, .int x1] : List Value).toArray s 0 0 (aw1 h0 h1)) (F0 m 202 ls [.int z0]) := by
    intro y1 z0 vfl vex H locs ls hP hS hl hE
    refine lv_iload_n hx hb dX1_finish_202 rfl (lv_at hl 0 rfl) ?_
    refine sc_i (W.runS (As := [.int z0, .int y1]) (rest := []) ⟨hx, hb, hml, hown, hts⟩ (ccX1_signed l z0 y1 ) (va_cwS 2 hts gX1_finish_X1_signed rfl rfl rfl (by decide +kernel) ⟨Nat.le_of_ble_eq_true rfl, Nat.le_of_ble_eq_true rfl⟩) st_pre rfl rfl hl.1 rfl (lv_room (Nat.le_of_ble_eq_true rfl)) dX1_finish_203 ⟨Nat.zero_le _, Nat.zero_le _⟩) ?_
    exact W.iret hx hb hr (fun t ht hW => ⟨⟨_, (vfl, vex), rfl, hE.symm, by rw [ht]; exact hP, va_K.moved hW.alike hK, hmr⟩, hS.F ht⟩) hS.2.2 dX1_finish_206
  have j_188 : ∀ (y1 : Int32) (z0 : Int32) (vfl : Int32) (vex : Int32) (H : Heap) (locs : List Loc) (ls : Array Slot), va_P D vwCl (bw1 cJ h0 h1 mo vfl row ba mr vex) H → va_S (aw1 h0 h1) s.heap H locs → lv_has ls 7 [(1, .int y1)] → isB z0 → fX1_finish mo fl row ba mr ex x1 = fX1_finish_k188 y1 z0 mo vfl row ba mr vex → W p l e (headSpec wsX1_finish { frames := 3, cells := 0, slots := 0, locals := 69 }).room s m ([.ref h0, .int x1] : List Value).toArray below meth c H locs 0 0 (MQ below (va_Qi (fun (r : Int32) (u : Int32 × Int32) => (r, u) = fX1_finish mo fl row ba mr ex x1) (fun u t => w1 D cJ h0 h1 mo u.1 row ba mr u.2 t) (aw1 h0 h1)) ([.ref h0, .int x1] : List Value).toArray s 0 0 (aw1 h0 h1)) (F0 m 188 ls [.int z0]) := by
    intro y1 z0 vfl vex H locs ls hP hS hl b_z0 hE
    refine lv_istore (lv' := [(6, .int z0), (1, .int y1)]) hx hb dX1_finish_188 hl (by decide) rfl (fun ls hl => ?_)
    refine lv_iload hx hb dX1_finish_190 (lv_at hl 0 rfl) ?_
    refine lv_if_eq (tgt := 200) hx hb dX1_finish_192 (by decide) (fun c_192 => ?_) (fun c_192 => ?_)
    · replace hE := hE.trans (if_pos c_192)
      refine lv_ldc hx hb hown (hts (.constant RX1 73 (2139095040)) (by decide +kernel)) dX1_finish_200 ?_
      exact j_202 y1 (2139095040 : Int32) vfl vex _ _ _ hP hS (lv_sub hl [1] rfl)  hE
    · replace hE := hE.trans (if_neg c_192)
      refine lv_ldc hx hb hown (hts (.constant RX1 72 (2139095039)) (by decide +kernel)) dX1_finish_195 ?_
      refine lv_goto (tgt := 202) hx hb dX1_finish_197 (by decide) ?_
      exact j_202 y1 (2139095039 : Int32) vfl vex _ _ _ hP hS (lv_sub hl [1] rfl)  hE
  have j_171 : ∀ (y1 : Int32) (vfl : Int32) (vex : Int32) (H : Heap) (locs : List Loc) (ls : Array Slot), va_P D vwCl (bw1 cJ h0 h1 mo vfl row ba mr vex) H → va_S (aw1 h0 h1) s.heap H locs → lv_has ls 7 [(0, .ref h0), (1, .int y1)] → fX1_finish mo fl row ba mr ex x1 = fX1_finish_k171 y1 mo vfl row ba mr vex → W p l e (headSpec wsX1_finish { frames := 3, cells := 0, slots := 0, locals := 69 }).room s m ([.ref h0, .int x1] : List Value).toArray below meth c H locs 0 0 (MQ below (va_Qi (fun (r : Int32) (u : Int32 × Int32) => (r, u) = fX1_finish mo fl row ba mr ex x1) (fun u t => w1 D cJ h0 h1 mo u.1 row ba mr u.2 t) (aw1 h0 h1)) ([.ref h0, .int x1] : List Value).toArray s 0 0 (aw1 h0 h1)) (F0 m 171 ls []) := by
    intro y1 vfl vex H locs ls hP hS hl hE
    refine lv_aload_n hx hb dX1_finish_171 rfl (lv_at hl 0 rfl) ?_
    refine va_get (D := D) (ci := 1) (v := .int mo) (C := RX1) (T := TX1) (N := 6) hx hb hts hin0 hown hK hP 0 rfl rfl 0 (by decide) (hts (.fieldLink RX1 13 "RealBitsModel" "mode" "I") (by decide +kernel)) (fun _ h9 => h9) rfl dX1_finish_172 ?_
    refine lv_iconst (v := 3) hx hb dX1_finish_175 (by decide) ?_
    refine lv_icmp_ne (tgt := 187) hx hb dX1_finish_176 (by decide) (fun c_176 => ?_) (fun c_176 => ?_)
    · replace hE := hE.trans (if_neg c_176)
      refine lv_iconst (v := 0) hx hb dX1_finish_187 (by decide) ?_
      exact j_188 y1 (0 : Int32) vfl vex _ _ _ hP hS (lv_sub hl [1] rfl) isB_0 hE
    · replace hE := hE.trans (if_pos c_176)
      refine lv_iload_n hx hb dX1_finish_179 rfl (lv_at hl 1 rfl) ?_
      refine lv_if_ne (tgt := 187) hx hb dX1_finish_180 (by decide) (fun c_180 => ?_) (fun c_180 => ?_)
      · replace hE := hE.trans (if_neg c_180)
        refine lv_iconst (v := 0) hx hb dX1_finish_187 (by decide) ?_
        exact j_188 y1 (0 : Int32) vfl vex _ _ _ hP hS (lv_sub hl [1] rfl) isB_0 hE
      · replace hE := hE.trans (if_pos c_180)
        refine lv_iconst (v := 1) hx hb dX1_finish_183 (by decide) ?_
        refine lv_goto (tgt := 188) hx hb dX1_finish_184 (by decide) ?_
        exact j_188 y1 (1 : Int32) vfl vex _ _ _ hP hS (lv_sub hl [1] rfl) isB_1 hE
  have j_139 : ∀ (y1 : Int32) (vfl : Int32) (vex : Int32) (H : Heap) (locs : List Loc) (ls : Array Slot), va_P D vwCl (bw1 cJ h0 h1 mo vfl row ba mr vex) H → va_S (aw1 h0 h1) s.heap H locs → lv_has ls 7 [(0, .ref h0), (1, .int y1)] → fX1_finish mo fl row ba mr ex x1 = fX1_finish_k139 y1 mo vfl row ba mr vex → W p l e (headSpec wsX1_finish { frames := 3, cells := 0, slots := 0, locals := 69 }).room s m ([.ref h0, .int x1] : List Value).toArray below meth c H locs 0 0 (MQ below (va_Qi (fun (r : Int32) (u : Int32 × Int32) => (r, u) = fX1_finish mo fl row ba mr ex x1) (fun u t => w1 D cJ h0 h1 mo u.1 row ba mr u.2 t) (aw1 h0 h1)) ([.ref h0, .int x1] : List Value).toArray s 0 0 (aw1 h0 h1)) (F0 m 139 ls []) := by
    intro y1 vfl vex H locs ls hP hS hl hE
    refine lv_aload_n hx hb dX1_finish_139 rfl (lv_at hl 0 rfl) ?_
    refine lv_aload_n hx hb dX1_finish_140 rfl (lv_at hl 0 rfl) ?_
    refine va_get (D := D) (ci := 1) (v := .int vfl) (C := RX1) (T := TX1) (N := 6) hx hb hts hin0 hown hK hP 0 rfl rfl 1 (by decide) (hts (.fieldLink RX1 17 "RealBitsModel" "flags" "I") (by decide +kernel)) (fun _ h9 => h9) rfl dX1_finish_141 ?_
    refine lv_iconst (v := 4) hx hb dX1_finish_144 (by decide) ?_
    refine lv_ior hx hb dX1_finish_145 ?_
    refine lv_iconst (v := 1) hx hb dX1_finish_146 (by decide) ?_
    refine lv_ior hx hb dX1_finish_147 ?_
    refine va_put (D := D) (ci := 1) (v := .int (((vfl ||| (4 : Int32))) ||| (1 : Int32))) (ty := .int) (C := RX1) (T := TX1) (N := 6) hx hb hts hin0 tyX1 tyX1_ok nmX1 hown hK hP (dw1 hne) hS 0 rfl rfl 1 (by decide) (hts (.fieldLink RX1 17 "RealBitsModel" "flags" "I") (by decide +kernel)) (fun _ h9 => h9) rfl (by decide +kernel) rfl rfl (Nat.le_of_ble_eq_true rfl) dX1_finish_148 (fun H locs hP _ hS => ?_)
    have hP : va_P D vwCl (bw1 cJ h0 h1 mo ((((vfl ||| (4 : Int32))) ||| (1 : Int32))) row ba mr vex) H := hP
    refine lv_aload_n hx hb dX1_finish_151 rfl (lv_at hl 0 rfl) ?_
    refine va_get (D := D) (ci := 1) (v := .int mo) (C := RX1) (T := TX1) (N := 6) hx hb hts hin0 hown hK hP 0 rfl rfl 0 (by decide) (hts (.fieldLink RX1 13 "RealBitsModel" "mode" "I") (by decide +kernel)) (fun _ h9 => h9) rfl dX1_finish_152 ?_
    refine lv_iconst (v := 1) hx hb dX1_finish_155 (by decide) ?_
    refine lv_icmp_eq (tgt := 183) hx hb dX1_finish_156 (by decide) (fun c_156 => ?_) (fun c_156 => ?_)
    · replace hE := hE.trans (if_pos c_156)
      refine lv_iconst (v := 1) hx hb dX1_finish_183 (by decide) ?_
      refine lv_goto (tgt := 188) hx hb dX1_finish_184 (by decide) ?_
      exact j_188 y1 (1 : Int32) ((((vfl ||| (4 : Int32))) ||| (1 : Int32))) vex _ _ _ hP hS (lv_sub hl [1] rfl) isB_1 hE
    · replace hE := hE.trans (if_neg c_156)
      refine lv_aload_n hx hb dX1_finish_159 rfl (lv_at hl 0 rfl) ?_
      refine va_get (D := D) (ci := 1) (v := .int mo) (C := RX1) (T := TX1) (N := 6) hx hb hts hin0 hown hK hP 0 rfl rfl 0 (by decide) (hts (.fieldLink RX1 13 "RealBitsModel" "mode" "I") (by decide +kernel)) (fun _ h9 => h9) rfl dX1_finish_160 ?_
      refine lv_iconst (v := 2) hx hb dX1_finish_163 (by decide) ?_
      refine lv_icmp_ne (tgt := 171) hx hb dX1_finish_164 (by decide) (fun c_164 => ?_) (fun c_164 => ?_)
      · replace hE := hE.trans (if_neg c_164)
        exact j_171 y1 ((((vfl ||| (4 : Int32))) ||| (1 : Int32))) vex _ _ _ hP hS (lv_sub hl [0, 1] rfl)  hE
      · replace hE := hE.trans (if_pos c_164)
        refine lv_iload_n hx hb dX1_finish_167 rfl (lv_at hl 1 rfl) ?_
        refine lv_if_ne (tgt := 183) hx hb dX1_finish_168 (by decide) (fun c_168 => ?_) (fun c_168 => ?_)
        · replace hE := hE.trans (if_neg c_168)
          refine lv_iconst (v := 1) hx hb dX1_finish_183 (by decide) ?_
          refine lv_goto (tgt := 188) hx hb dX1_finish_184 (by decide) ?_
          exact j_188 y1 (1 : Int32) ((((vfl ||| (4 : Int32))) ||| (1 : Int32))) vex _ _ _ hP hS (lv_sub hl [1] rfl) isB_1 hE
        · replace hE := hE.trans (if_pos c_168)
          exact j_171 y1 ((((vfl ||| (4 : Int32))) ||| (1 : Int32))) vex _ _ _ hP hS (lv_sub hl [0, 1] rfl)  hE
  have j_120 : ∀ (y1 : Int32) (y3 : Int32) (y5 : Int32) (vfl : Int32) (vex : Int32) (H : Heap) (locs : List Loc) (ls : Array Slot), va_P D vwCl (bw1 cJ h0 h1 mo vfl row ba mr vex) H → va_S (aw1 h0 h1) s.heap H locs → lv_has ls 7 [(0, .ref h0), (1, .int y1), (3, .int y3), (5, .int y5)] → fX1_finish mo fl row ba mr ex x1 = fX1_finish_k120 y1 y3 y5 mo vfl row ba mr vex → W p l e (headSpec wsX1_finish { frames := 3, cells := 0, slots := 0, locals := 69 }).room s m ([.ref h0, .int x1] : List Value).toArray below meth c H locs 0 0 (MQ below (va_Qi (fun (r : Int32) (u : Int32 × Int32) => (r, u) = fX1_finish mo fl row ba mr ex x1) (fun u t => w1 D cJ h0 h1 mo u.1 row ba mr u.2 t) (aw1 h0 h1)) ([.ref h0, .int x1] : List Value).toArray s 0 0 (aw1 h0 h1)) (F0 m 120 ls []) := by
    intro y1 y3 y5 vfl vex H locs ls hP hS hl hE
    refine lv_iload_n hx hb dX1_finish_120 rfl (lv_at hl 2 rfl) ?_
    refine lv_bipush (v := 104) hx hb dX1_finish_121 (by decide) ?_
    refine lv_icmp_gt (tgt := 139) hx hb dX1_finish_123 (by decide) (fun c_123 => ?_) (fun c_123 => ?_)
    · replace hE := hE.trans (if_pos c_123)
      exact j_139 y1 vfl vex _ _ _ hP hS (lv_sub hl [0, 1] rfl)  hE
    · replace hE := hE.trans (if_neg c_123)
      refine lv_iload_n hx hb dX1_finish_126 rfl (lv_at hl 2 rfl) ?_
      refine lv_bipush (v := 104) hx hb dX1_finish_127 (by decide) ?_
      refine lv_icmp_ne (tgt := 207) hx hb dX1_finish_129 (by decide) (fun c_129 => ?_) (fun c_129 => ?_)
      · replace hE := hE.trans (if_neg c_129)
        exact j_207 y1 y3 y5 vfl vex _ _ _ hP hS (lv_sub hl [1, 2, 3] rfl)  hE
      · replace hE := hE.trans (if_pos c_129)
        refine lv_iload hx hb dX1_finish_132 (lv_at hl 3 rfl) ?_
        refine lv_ldc hx hb hown (hts (.constant RX1 71 (16777216)) (by decide +kernel)) dX1_finish_134 ?_
        refine lv_icmp_ne (tgt := 207) hx hb dX1_finish_136 (by decide) (fun c_136 => ?_) (fun c_136 => ?_)
        · replace hE := hE.trans (if_neg c_136)
          exact j_207 y1 y3 y5 vfl vex _ _ _ hP hS (lv_sub hl [1, 2, 3] rfl)  hE
        · replace hE := hE.trans (if_pos c_136)
          exact j_139 y1 vfl vex _ _ _ hP hS (lv_sub hl [0, 1] rfl)  hE
  have j_98 : ∀ (y1 : Int32) (y3 : Int32) (y4 : Int32) (y5 : Int32) (vfl : Int32) (vex : Int32) (H : Heap) (locs : List Loc) (ls : Array Slot), va_P D vwCl (bw1 cJ h0 h1 mo vfl row ba mr vex) H → va_S (aw1 h0 h1) s.heap H locs → lv_has ls 7 [(0, .ref h0), (1, .int y1), (3, .int y3), (4, .int y4), (5, .int y5)] → isB y4 → fX1_finish mo fl row ba mr ex x1 = fX1_finish_k98 y1 y3 y4 y5 mo vfl row ba mr vex → W p l e (headSpec wsX1_finish { frames := 3, cells := 0, slots := 0, locals := 69 }).room s m ([.ref h0, .int x1] : List Value).toArray below meth c H locs 0 0 (MQ below (va_Qi (fun (r : Int32) (u : Int32 × Int32) => (r, u) = fX1_finish mo fl row ba mr ex x1) (fun u t => w1 D cJ h0 h1 mo u.1 row ba mr u.2 t) (aw1 h0 h1)) ([.ref h0, .int x1] : List Value).toArray s 0 0 (aw1 h0 h1)) (F0 m 98 ls []) := by
    intro y1 y3 y4 y5 vfl vex H locs ls hP hS hl b_y4 hE
    refine lv_aload_n hx hb dX1_finish_98 rfl (lv_at hl 0 rfl) ?_
    refine va_get (D := D) (ci := 1) (v := .int vex) (C := RX1) (T := TX1) (N := 6) hx hb hts hin0 hown hK hP 0 rfl rfl 5 (by decide) (hts (.fieldLink RX1 60 "RealBitsModel" "exact" "Z") (by decide +kernel)) (fun _ h9 => h9) rfl dX1_finish_99 ?_
    refine lv_if_ne (tgt := 120) hx hb dX1_finish_102 (by decide) (fun c_102 => ?_) (fun c_102 => ?_)
    · replace hE := hE.trans (if_neg c_102)
      exact j_120 y1 y3 y5 vfl vex _ _ _ hP hS (lv_sub hl [0, 1, 2, 4] rfl)  hE
    · replace hE := hE.trans (if_pos c_102)
      refine lv_iload hx hb dX1_finish_105 (lv_at hl 3 rfl) ?_
      refine lv_if_eq (tgt := 120) hx hb dX1_finish_107 (by decide) (fun c_107 => ?_) (fun c_107 => ?_)
      · replace hE := hE.trans (if_pos c_107)
        exact j_120 y1 y3 y5 vfl vex _ _ _ hP hS (lv_sub hl [0, 1, 2, 4] rfl)  hE
      · replace hE := hE.trans (if_neg c_107)
        refine lv_aload_n hx hb dX1_finish_110 rfl (lv_at hl 0 rfl) ?_
        refine lv_aload_n hx hb dX1_finish_111 rfl (lv_at hl 0 rfl) ?_
        refine va_get (D := D) (ci := 1) (v := .int vfl) (C := RX1) (T := TX1) (N := 6) hx hb hts hin0 hown hK hP 0 rfl rfl 1 (by decide) (hts (.fieldLink RX1 17 "RealBitsModel" "flags" "I") (by decide +kernel)) (fun _ h9 => h9) rfl dX1_finish_112 ?_
        refine lv_iconst (v := 2) hx hb dX1_finish_115 (by decide) ?_
        refine lv_ior hx hb dX1_finish_116 ?_
        refine va_put (D := D) (ci := 1) (v := .int (vfl ||| (2 : Int32))) (ty := .int) (C := RX1) (T := TX1) (N := 6) hx hb hts hin0 tyX1 tyX1_ok nmX1 hown hK hP (dw1 hne) hS 0 rfl rfl 1 (by decide) (hts (.fieldLink RX1 17 "RealBitsModel" "flags" "I") (by decide +kernel)) (fun _ h9 => h9) rfl (by decide +kernel) rfl rfl (Nat.le_of_ble_eq_true rfl) dX1_finish_117 (fun H locs hP _ hS => ?_)
        have hP : va_P D vwCl (bw1 cJ h0 h1 mo ((vfl ||| (2 : Int32))) row ba mr vex) H := hP
        exact j_120 y1 y3 y5 ((vfl ||| (2 : Int32))) vex _ _ _ hP hS (lv_sub hl [0, 1, 2, 4] rfl)  hE
  have j_68 : ∀ (y1 : Int32) (y3 : Int32) (y4 : Int32) (vfl : Int32) (vex : Int32) (H : Heap) (locs : List Loc) (ls : Array Slot), va_P D vwCl (bw1 cJ h0 h1 mo vfl row ba mr vex) H → va_S (aw1 h0 h1) s.heap H locs → lv_has ls 7 [(0, .ref h0), (1, .int y1), (3, .int y3), (4, .int y4)] → isB y4 → fX1_finish mo fl row ba mr ex x1 = fX1_finish_k68 y1 y3 y4 mo vfl row ba mr vex → W p l e (headSpec wsX1_finish { frames := 3, cells := 0, slots := 0, locals := 69 }).room s m ([.ref h0, .int x1] : List Value).toArray below meth c H locs 0 0 (MQ below (va_Qi (fun (r : Int32) (u : Int32 × Int32) => (r, u) = fX1_finish mo fl row ba mr ex x1) (fun u t => w1 D cJ h0 h1 mo u.1 row ba mr u.2 t) (aw1 h0 h1)) ([.ref h0, .int x1] : List Value).toArray s 0 0 (aw1 h0 h1)) (F0 m 68 ls []) := by
    intro y1 y3 y4 vfl vex H locs ls hP hS hl b_y4 hE
    refine lv_aload_n hx hb dX1_finish_68 rfl (lv_at hl 0 rfl) ?_
    refine lv_iload_n hx hb dX1_finish_69 rfl (lv_at hl 2 rfl) ?_
    refine lv_aload_n hx hb dX1_finish_70 rfl (lv_at hl 0 rfl) ?_
    refine va_get (D := D) (ci := 1) (v := .int ba) (C := RX1) (T := TX1) (N := 6) hx hb hts hin0 hown hK hP 0 rfl rfl 3 (by decide) (hts (.fieldLink RX1 40 "RealBitsModel" "base" "I") (by decide +kernel)) (fun _ h9 => h9) rfl dX1_finish_71 ?_
    refine lv_isub hx hb dX1_finish_74 ?_
    refine lv_iload_n hx hb dX1_finish_75 rfl (lv_at hl 1 rfl) ?_
    refine k1_calli (va_runV (As := [.int (y3 - ba), .int y1]) (rest := []) ⟨hx, hb, hml, hown, hts⟩ (ccX1_rounded l D cJ h0 h1 hne mo vfl row ba mr vex ((y3 - ba)) y1 ) (cwV 2 hts gX1_finish_X1_rounded rfl rfl rfl (by decide +kernel) ⟨Nat.le_of_ble_eq_true rfl, Nat.le_of_ble_eq_true rfl⟩) (w1_pre hK hP hmr) rfl rfl hl.1 rfl (lv_room (Nat.le_of_ble_eq_true rfl)) dX1_finish_76 ⟨Nat.zero_le _, Nat.zero_le _⟩) hS (fun r_76 u H locs hw hP hmr hS => ?_)
    obtain ⟨ex_76, rfl⟩ : ∃ z, z = u := ⟨_, rfl⟩
    have hP : va_P D vwCl (bw1 cJ h0 h1 mo vfl row ba mr ex_76) H := hP
    replace hE : fX1_finish mo fl row ba mr ex x1 = fX1_finish_k79 y1 y3 y4 r_76 mo vfl row ba mr ex_76 := by have h : fX1_finish mo fl row ba mr ex x1 = fX1_finish_k79 y1 y3 y4 ((fX1_rounded mo row mr vex ((y3 - ba)) y1).1) mo vfl row ba mr ((fX1_rounded mo row mr vex ((y3 - ba)) y1).2) := hE; rw [← hw] at h; exact h
    refine lv_istore (lv' := [(5, .int r_76), (0, .ref h0), (1, .int y1), (3, .int y3), (4, .int y4)]) hx hb dX1_finish_79 hl (by decide) rfl (fun ls hl => ?_)
    refine lv_aload_n hx hb dX1_finish_81 rfl (lv_at hl 1 rfl) ?_
    refine va_get (D := D) (ci := 1) (v := .int ex_76) (C := RX1) (T := TX1) (N := 6) hx hb hts hin0 hown hK hP 0 rfl rfl 5 (by decide) (hts (.fieldLink RX1 60 "RealBitsModel" "exact" "Z") (by decide +kernel)) (fun _ h9 => h9) rfl dX1_finish_82 ?_
    refine lv_if_ne (tgt := 98) hx hb dX1_finish_85 (by decide) (fun c_85 => ?_) (fun c_85 => ?_)
    · replace hE := hE.trans (if_neg c_85)
      exact j_98 y1 y3 y4 r_76 vfl ex_76 _ _ _ hP hS (lv_sub hl [1, 2, 3, 4, 0] rfl) b_y4 hE
    · replace hE := hE.trans (if_pos c_85)
      refine lv_aload_n hx hb dX1_finish_88 rfl (lv_at hl 1 rfl) ?_
      refine lv_aload_n hx hb dX1_finish_89 rfl (lv_at hl 1 rfl) ?_
      refine va_get (D := D) (ci := 1) (v := .int vfl) (C := RX1) (T := TX1) (N := 6) hx hb hts hin0 hown hK hP 0 rfl rfl 1 (by decide) (hts (.fieldLink RX1 17 "RealBitsModel" "flags" "I") (by decide +kernel)) (fun _ h9 => h9) rfl dX1_finish_90 ?_
      refine lv_iconst (v := 1) hx hb dX1_finish_93 (by decide) ?_
      refine lv_ior hx hb dX1_finish_94 ?_
      refine va_put (D := D) (ci := 1) (v := .int (vfl ||| (1 : Int32))) (ty := .int) (C := RX1) (T := TX1) (N := 6) hx hb hts hin0 tyX1 tyX1_ok nmX1 hown hK hP (dw1 hne) hS 0 rfl rfl 1 (by decide) (hts (.fieldLink RX1 17 "RealBitsModel" "flags" "I") (by decide +kernel)) (fun _ h9 => h9) rfl (by decide +kernel) rfl rfl (Nat.le_of_ble_eq_true rfl) dX1_finish_95 (fun H locs hP _ hS => ?_)
      have hP : va_P D vwCl (bw1 cJ h0 h1 mo ((vfl ||| (1 : Int32))) row ba mr ex_76) H := hP
      exact j_98 y1 y3 y4 r_76 ((vfl ||| (1 : Int32))) ex_76 _ _ _ hP hS (lv_sub hl [1, 2, 3, 4, 0] rfl) b_y4 hE
  have j_66 : ∀ (y1 : Int32) (y3 : Int32) (z0 : Int32) (vfl : Int32) (vex : Int32) (H : Heap) (locs : List Loc) (ls : Array Slot), va_P D vwCl (bw1 cJ h0 h1 mo vfl row ba mr vex) H → va_S (aw1 h0 h1) s.heap H locs → lv_has ls 7 [(0, .ref h0), (1, .int y1), (3, .int y3)] → isB z0 → fX1_finish mo fl row ba mr ex x1 = fX1_finish_k66 y1 y3 z0 mo vfl row ba mr vex → W p l e (headSpec wsX1_finish { frames := 3, cells := 0, slots := 0, locals := 69 }).room s m ([.ref h0, .int x1] : List Value).toArray below meth c H locs 0 0 (MQ below (va_Qi (fun (r : Int32) (u : Int32 × Int32) => (r, u) = fX1_finish mo fl row ba mr ex x1) (fun u t => w1 D cJ h0 h1 mo u.1 row ba mr u.2 t) (aw1 h0 h1)) ([.ref h0, .int x1] : List Value).toArray s 0 0 (aw1 h0 h1)) (F0 m 66 ls [.int z0]) := by
    intro y1 y3 z0 vfl vex H locs ls hP hS hl b_z0 hE
    refine lv_istore (lv' := [(4, .int z0), (0, .ref h0), (1, .int y1), (3, .int y3)]) hx hb dX1_finish_66 hl (by decide) rfl (fun ls hl => ?_)
    exact j_68 y1 y3 z0 vfl vex _ _ _ hP hS (lv_sub hl [1, 2, 3, 0] rfl) b_z0 hE
  have j_27 : ∀ (y1 : Int32) (y2 : Int32) (z0 : Int32) (vfl : Int32) (vex : Int32) (H : Heap) (locs : List Loc) (ls : Array Slot), va_P D vwCl (bw1 cJ h0 h1 mo vfl row ba mr vex) H → va_S (aw1 h0 h1) s.heap H locs → lv_has ls 7 [(0, .ref h0), (1, .int y1), (2, .int y2)] → fX1_finish mo fl row ba mr ex x1 = fX1_finish_k27 y1 y2 z0 mo vfl row ba mr vex → W p l e (headSpec wsX1_finish { frames := 3, cells := 0, slots := 0, locals := 69 }).room s m ([.ref h0, .int x1] : List Value).toArray below meth c H locs 0 0 (MQ below (va_Qi (fun (r : Int32) (u : Int32 × Int32) => (r, u) = fX1_finish mo fl row ba mr ex x1) (fun u t => w1 D cJ h0 h1 mo u.1 row ba mr u.2 t) (aw1 h0 h1)) ([.ref h0, .int x1] : List Value).toArray s 0 0 (aw1 h0 h1)) (F0 m 27 ls [.int z0]) := by
    intro y1 y2 z0 vfl vex H locs ls hP hS hl hE
    refine lv_istore_n (lv' := [(3, .int z0), (0, .ref h0), (1, .int y1), (2, .int y2)]) hx hb dX1_finish_27 rfl hl (by decide) rfl (fun ls hl => ?_)
    refine lv_iconst (v := 0) hx hb dX1_finish_28 (by decide) ?_
    refine lv_istore (lv' := [(4, .int (0 : Int32)), (3, .int z0), (0, .ref h0), (1, .int y1), (2, .int y2)]) hx hb dX1_finish_29 hl (by decide) rfl (fun ls hl => ?_)
    refine lv_iload_n hx hb dX1_finish_31 rfl (lv_at hl 4 rfl) ?_
    refine lv_sipush (v := -149) hx hb dX1_finish_32 (by decide) ?_
    refine lv_icmp_ge (tgt := 68) hx hb dX1_finish_35 (by decide) (fun c_35 => ?_) (fun c_35 => ?_)
    · replace hE := hE.trans (if_pos c_35)
      exact j_68 y1 z0 (0 : Int32) vfl vex _ _ _ hP hS (lv_sub hl [2, 3, 1, 0] rfl) isB_0 hE
    · replace hE := hE.trans (if_neg c_35)
      refine lv_aload_n hx hb dX1_finish_38 rfl (lv_at hl 2 rfl) ?_
      refine lv_iload_n hx hb dX1_finish_39 rfl (lv_at hl 4 rfl) ?_
      refine lv_aload_n hx hb dX1_finish_40 rfl (lv_at hl 2 rfl) ?_
      refine va_get (D := D) (ci := 1) (v := .int ba) (C := RX1) (T := TX1) (N := 6) hx hb hts hin0 hown hK hP 0 rfl rfl 3 (by decide) (hts (.fieldLink RX1 40 "RealBitsModel" "base" "I") (by decide +kernel)) (fun _ h9 => h9) rfl dX1_finish_41 ?_
      refine lv_isub hx hb dX1_finish_44 ?_
      refine lv_iload_n hx hb dX1_finish_45 rfl (lv_at hl 3 rfl) ?_
      refine k1_calli (va_runV (As := [.int (y2 - ba), .int y1]) (rest := []) ⟨hx, hb, hml, hown, hts⟩ (ccX1_rounded l D cJ h0 h1 hne mo vfl row ba mr vex ((y2 - ba)) y1 ) (cwV 2 hts gX1_finish_X1_rounded rfl rfl rfl (by decide +kernel) ⟨Nat.le_of_ble_eq_true rfl, Nat.le_of_ble_eq_true rfl⟩) (w1_pre hK hP hmr) rfl rfl hl.1 rfl (lv_room (Nat.le_of_ble_eq_true rfl)) dX1_finish_46 ⟨Nat.zero_le _, Nat.zero_le _⟩) hS (fun r_46 u H locs hw hP hmr hS => ?_)
      obtain ⟨ex_46, rfl⟩ : ∃ z, z = u := ⟨_, rfl⟩
      have hP : va_P D vwCl (bw1 cJ h0 h1 mo vfl row ba mr ex_46) H := hP
      replace hE : fX1_finish mo fl row ba mr ex x1 = fX1_finish_k49 y1 y2 z0 r_46 mo vfl row ba mr ex_46 := by have h : fX1_finish mo fl row ba mr ex x1 = fX1_finish_k49 y1 y2 z0 ((fX1_rounded mo row mr vex ((y2 - ba)) y1).1) mo vfl row ba mr ((fX1_rounded mo row mr vex ((y2 - ba)) y1).2) := hE; rw [← hw] at h; exact h
      refine lv_ldc hx hb hown (hts (.constant RX1 71 (16777216)) (by decide +kernel)) dX1_finish_49 ?_
      refine lv_icmp_lt (tgt := 61) hx hb dX1_finish_51 (by decide) (fun c_51 => ?_) (fun c_51 => ?_)
      · replace hE := hE.trans (if_pos c_51)
        refine lv_iconst (v := 1) hx hb dX1_finish_61 (by decide) ?_
        refine lv_goto (tgt := 66) hx hb dX1_finish_62 (by decide) ?_
        exact j_66 y1 z0 (1 : Int32) vfl ex_46 _ _ _ hP hS (lv_sub hl [2, 3, 1] rfl) isB_1 hE
      · replace hE := hE.trans (if_neg c_51)
        refine lv_iload_n hx hb dX1_finish_54 rfl (lv_at hl 4 rfl) ?_
        refine lv_sipush (v := -150) hx hb dX1_finish_55 (by decide) ?_
        refine lv_icmp_ge (tgt := 65) hx hb dX1_finish_58 (by decide) (fun c_58 => ?_) (fun c_58 => ?_)
        · replace hE := hE.trans (if_pos c_58)
          refine lv_iconst (v := 0) hx hb dX1_finish_65 (by decide) ?_
          exact j_66 y1 z0 (0 : Int32) vfl ex_46 _ _ _ hP hS (lv_sub hl [2, 3, 1] rfl) isB_0 hE
        · replace hE := hE.trans (if_neg c_58)
          refine lv_iconst (v := 1) hx hb dX1_finish_61 (by decide) ?_
          refine lv_goto (tgt := 66) hx hb dX1_finish_62 (by decide) ?_
          exact j_66 y1 z0 (1 : Int32) vfl ex_46 _ _ _ hP hS (lv_sub hl [2, 3, 1] rfl) isB_1 hE
  have hE : fX1_finish mo fl row ba mr ex x1 = fX1_finish mo fl row ba mr ex x1 := rfl
  refine lv_aload_n hx hb dX1_finish_0 rfl (lv_at hl 0 rfl) ?_
  refine sc_i (W.runV (As := []) (rest := []) ⟨hx, hb, hml, hown, hts⟩ (ccX1_top l D cJ h0 h1 hne mo fl row ba mr ex  ) (cwV 0 hts gX1_finish_X1_top rfl rfl rfl (by decide +kernel) ⟨Nat.le_of_ble_eq_true rfl, Nat.le_of_ble_eq_true rfl⟩) (w1_pre hK hP hmr) rfl rfl hl.1 rfl (lv_room (Nat.le_of_ble_eq_true rfl)) dX1_finish_1 ⟨Nat.zero_le _, Nat.zero_le _⟩) ?_
  refine lv_aload_n hx hb dX1_finish_4 rfl (lv_at hl 0 rfl) ?_
  refine va_get (D := D) (ci := 1) (v := .int ba) (C := RX1) (T := TX1) (N := 6) hx hb hts hin0 hown hK hP 0 rfl rfl 3 (by decide) (hts (.fieldLink RX1 40 "RealBitsModel" "base" "I") (by decide +kernel)) (fun _ h9 => h9) rfl dX1_finish_5 ?_
  refine lv_iadd hx hb dX1_finish_8 ?_
  refine lv_bipush (v := 23) hx hb dX1_finish_9 (by decide) ?_
  refine lv_isub hx hb dX1_finish_11 ?_
  refine lv_topi (fun x2_12 e_12 => ?_)
  refine lv_istore_n (lv' := [(2, .int x2_12), (0, .ref h0), (1, .int x1)]) hx hb dX1_finish_12 rfl hl (by decide) rfl (fun ls hl => ?_)
  replace hE : fX1_finish mo fl row ba mr ex x1 = fX1_finish_k13 x1 x2_12 mo fl row ba mr ex := by rw [e_12]; exact hE
  refine lv_iload_n hx hb dX1_finish_13 rfl (lv_at hl 0 rfl) ?_
  refine lv_sipush (v := -149) hx hb dX1_finish_14 (by decide) ?_
  refine lv_icmp_ge (tgt := 26) hx hb dX1_finish_17 (by decide) (fun c_17 => ?_) (fun c_17 => ?_)
  · replace hE := hE.trans (if_pos c_17)
    refine lv_iload_n hx hb dX1_finish_26 rfl (lv_at hl 0 rfl) ?_
    exact j_27 x1 x2_12 x2_12 fl ex _ _ _ hP hS (lv_sub hl [1, 2, 0] rfl)  hE
  · replace hE := hE.trans (if_neg c_17)
    refine lv_sipush (v := -149) hx hb dX1_finish_20 (by decide) ?_
    refine lv_goto (tgt := 27) hx hb dX1_finish_23 (by decide) ?_
    exact j_27 x1 x2_12 (-149 : Int32) fl ex _ _ _ hP hS (lv_sub hl [1, 2, 0] rfl)  hE
