/-! X1_round -/
def fX1_round (mo : Int32) (x1 : Int32) : Int32 × Int32 := (if x1 < 0 then ((0 : Int32), mo) else (if x1 ≤ (3 : Int32) then ((1 : Int32), x1) else ((0 : Int32), mo)))
set_option maxHeartbeats 4000000 in
set_option maxRecDepth 100000 in
theorem ccX1_round (l : Launch) (D : va_G) (cJ : ClassId) (h0 h1 : Nat) (hne : h0 ≠ h1) (mo fl : Int32) (row : Nat → Int64) (ba mr ex : Int32) (x1 : Int32)  : Met l yX1_round wsX1_round { frames := 0, cells := 0, slots := 0, locals := 0 } (va_Pc [.ref h0, .int x1] (w1 D cJ h0 h1 mo fl row ba mr ex)) (va_Qi (fun (r : Int32) (u : Int32) => (r, u) = fX1_round mo x1) (fun u t => w1 D cJ h0 h1 u fl row ba mr ex t) (aw1 h0 h1)) 0 0 (aw1 h0 h1) := by
  refine Met.ofW (cc := cX1_round) (maxL := 2) (ret := (some .boolean)) (by decide) rfl ?_
  intro p e s m args below meth c s₁ B hml hv
  obtain ⟨rfl, hP, hK, hmr⟩ := hv
  have hx := B.exec
  have hb := B.bytes
  have hr := B.returns
  have hts := atoms_spec (ws := wsX1_round) B.pre
  have hown : s.vm.findClass RX1 = some m.cls := findClass_of_methodNamed B.named
  have hlocks := B.notSynchronized
  have hin0 : ∀ w ∈ wsX10, w ∈ wsX1_round := fun _ h => List.mem_cons_of_mem _ (List.mem_append_right _ h)
  have hS : va_S (aw1 h0 h1) s.heap s.heap [] := va_S.rf
  have hP : va_P D vwCl (bw1 cJ h0 h1 mo fl row ba mr ex) s.heap := hP
  have hl := lv_entry ([.ref h0, .int x1]) (n := 2) (Nat.le_of_ble_eq_true rfl)
  rw [lg_entry_eq]
  generalize (lg_sl ([.ref h0, .int x1]) ++ List.replicate (2 - (lg_sl ([.ref h0, .int x1])).length) Slot.unset).toArray = ls at hl ⊢
  have hl : lv_has ls 2 [(0, .ref h0), (1, .int x1)] := hl
  have hE : fX1_round mo x1 = fX1_round mo x1 := rfl
  refine lv_iload_n hx hb dX1_round_0 rfl (lv_at hl 1 rfl) ?_
  refine lv_if_lt (tgt := 9) hx hb dX1_round_1 (by decide) (fun c_1 => ?_) (fun c_1 => ?_)
  · replace hE := hE.trans (if_pos c_1)
    refine lv_iconst (v := 0) hx hb dX1_round_9 (by decide) ?_
    exact W.zret hx hb hr (isB_nar isB_0) (fun t ht hW => ⟨⟨_, mo, rfl, hE.symm, by rw [ht]; exact hP, va_K.moved hW.alike hK, hmr⟩, hS.F ht⟩) hS.2.2 dX1_round_10
  · replace hE := hE.trans (if_neg c_1)
    refine lv_iload_n hx hb dX1_round_4 rfl (lv_at hl 1 rfl) ?_
    refine lv_iconst (v := 3) hx hb dX1_round_5 (by decide) ?_
    refine lv_icmp_le (tgt := 11) hx hb dX1_round_6 (by decide) (fun c_6 => ?_) (fun c_6 => ?_)
    · replace hE := hE.trans (if_pos c_6)
      refine lv_aload_n hx hb dX1_round_11 rfl (lv_at hl 0 rfl) ?_
      refine lv_iload_n hx hb dX1_round_12 rfl (lv_at hl 1 rfl) ?_
      refine va_put (D := D) (ci := 1) (v := .int x1) (ty := .int) (C := RX1) (T := TX1) (N := 6) hx hb hts hin0 tyX1 tyX1_ok nmX1 hown hK hP (dw1 hne) hS 0 rfl rfl 0 (by decide) (hts (.fieldLink RX1 13 "RealBitsModel" "mode" "I") (by decide +kernel)) (fun _ h9 => h9) rfl (by decide +kernel) rfl rfl (Nat.le_of_ble_eq_true rfl) dX1_round_13 (fun H locs hP _ hS => ?_)
      have hP : va_P D vwCl (bw1 cJ h0 h1 x1 fl row ba mr ex) H := hP
      refine lv_iconst (v := 1) hx hb dX1_round_16 (by decide) ?_
      exact W.zret hx hb hr (isB_nar isB_1) (fun t ht hW => ⟨⟨_, x1, rfl, hE.symm, by rw [ht]; exact hP, va_K.moved hW.alike hK, hmr⟩, hS.F ht⟩) hS.2.2 dX1_round_17
    · replace hE := hE.trans (if_neg c_6)
      refine lv_iconst (v := 0) hx hb dX1_round_9 (by decide) ?_
      exact W.zret hx hb hr (isB_nar isB_0) (fun t ht hW => ⟨⟨_, mo, rfl, hE.symm, by rw [ht]; exact hP, va_K.moved hW.alike hK, hmr⟩, hS.F ht⟩) hS.2.2 dX1_round_10
/-! X1_mode -/
def fX1_mode (mo : Int32) : Int32 := mo
set_option maxHeartbeats 4000000 in
set_option maxRecDepth 100000 in
theorem ccX1_mode (l : Launch) (D : va_G) (cJ : ClassId) (h0 h1 : Nat) (hne : h0 ≠ h1) (mo fl : Int32) (row : Nat → Int64) (ba mr ex : Int32)   : Met l yX1_mode wsX1_mode { frames := 0, cells := 0, slots := 0, locals := 0 } (va_Pc [.ref h0] (w1 D cJ h0 h1 mo fl row ba mr ex)) (vp_Si (fun r => r = fX1_mode mo)) 0 0 (fun _ => False) := by
  refine Met.ofW (cc := cX1_mode) (maxL := 1) (ret := (some .int)) (by decide) rfl ?_
  intro p e s m args below meth c s₁ B hml hv
  obtain ⟨rfl, hP, hK, hmr⟩ := hv
  have hx := B.exec
  have hb := B.bytes
  have hr := B.returns
  have hts := atoms_spec (ws := wsX1_mode) B.pre
  have hown : s.vm.findClass RX1 = some m.cls := findClass_of_methodNamed B.named
  have hlocks := B.notSynchronized
  have hin0 : ∀ w ∈ wsX10, w ∈ wsX1_mode := fun _ h => List.mem_cons_of_mem _ (List.mem_append_right _ h)
  have hS : va_S (aw1 h0 h1) s.heap s.heap [] := va_S.rf
  have hP : va_P D vwCl (bw1 cJ h0 h1 mo fl row ba mr ex) s.heap := hP
  have hl := lv_entry ([.ref h0]) (n := 1) (Nat.le_of_ble_eq_true rfl)
  rw [lg_entry_eq]
  generalize (lg_sl ([.ref h0]) ++ List.replicate (1 - (lg_sl ([.ref h0])).length) Slot.unset).toArray = ls at hl ⊢
  have hl : lv_has ls 1 [(0, .ref h0)] := hl
  have hE : fX1_mode mo = fX1_mode mo := rfl
  refine lv_aload_n hx hb dX1_mode_0 rfl (lv_at hl 0 rfl) ?_
  refine va_get (D := D) (ci := 1) (v := .int mo) (C := RX1) (T := TX1) (N := 6) hx hb hts hin0 hown hK hP 0 rfl rfl 0 (by decide) (hts (.fieldLink RX1 13 "RealBitsModel" "mode" "I") (by decide +kernel)) (fun _ h9 => h9) rfl dX1_mode_1 ?_
  exact W.iret hx hb hr (fun t ht hW => ⟨_, rfl, hE.symm, ht⟩) (fun _ h => by cases h) dX1_mode_4
/-! X1_flags -/
def fX1_flags (fl : Int32) : Int32 := fl
set_option maxHeartbeats 4000000 in
set_option maxRecDepth 100000 in
theorem ccX1_flags (l : Launch) (D : va_G) (cJ : ClassId) (h0 h1 : Nat) (hne : h0 ≠ h1) (mo fl : Int32) (row : Nat → Int64) (ba mr ex : Int32)   : Met l yX1_flags wsX1_flags { frames := 0, cells := 0, slots := 0, locals := 0 } (va_Pc [.ref h0] (w1 D cJ h0 h1 mo fl row ba mr ex)) (vp_Si (fun r => r = fX1_flags fl)) 0 0 (fun _ => False) := by
  refine Met.ofW (cc := cX1_flags) (maxL := 1) (ret := (some .int)) (by decide) rfl ?_
  intro p e s m args below meth c s₁ B hml hv
  obtain ⟨rfl, hP, hK, hmr⟩ := hv
  have hx := B.exec
  have hb := B.bytes
  have hr := B.returns
  have hts := atoms_spec (ws := wsX1_flags) B.pre
  have hown : s.vm.findClass RX1 = some m.cls := findClass_of_methodNamed B.named
  have hlocks := B.notSynchronized
  have hin0 : ∀ w ∈ wsX10, w ∈ wsX1_flags := fun _ h => List.mem_cons_of_mem _ (List.mem_append_right _ h)
  have hS : va_S (aw1 h0 h1) s.heap s.heap [] := va_S.rf
  have hP : va_P D vwCl (bw1 cJ h0 h1 mo fl row ba mr ex) s.heap := hP
  have hl := lv_entry ([.ref h0]) (n := 1) (Nat.le_of_ble_eq_true rfl)
  rw [lg_entry_eq]
  generalize (lg_sl ([.ref h0]) ++ List.replicate (1 - (lg_sl ([.ref h0])).length) Slot.unset).toArray = ls at hl ⊢
  have hl : lv_has ls 1 [(0, .ref h0)] := hl
  have hE : fX1_flags fl = fX1_flags fl := rfl
  refine lv_aload_n hx hb dX1_flags_0 rfl (lv_at hl 0 rfl) ?_
  refine va_get (D := D) (ci := 1) (v := .int fl) (C := RX1) (T := TX1) (N := 6) hx hb hts hin0 hown hK hP 0 rfl rfl 1 (by decide) (hts (.fieldLink RX1 17 "RealBitsModel" "flags" "I") (by decide +kernel)) (fun _ h9 => h9) rfl dX1_flags_1 ?_
  exact W.iret hx hb hr (fun t ht hW => ⟨_, rfl, hE.symm, ht⟩) (fun _ h => by cases h) dX1_flags_4
/-! X1_clear -/
def fX1_clear (fl : Int32) : Int32 × Int32 := (fl, (0 : Int32))
set_option maxHeartbeats 4000000 in
set_option maxRecDepth 100000 in
theorem ccX1_clear (l : Launch) (D : va_G) (cJ : ClassId) (h0 h1 : Nat) (hne : h0 ≠ h1) (mo fl : Int32) (row : Nat → Int64) (ba mr ex : Int32)   : Met l yX1_clear wsX1_clear { frames := 0, cells := 0, slots := 0, locals := 0 } (va_Pc [.ref h0] (w1 D cJ h0 h1 mo fl row ba mr ex)) (va_Qi (fun (r : Int32) (u : Int32) => (r, u) = fX1_clear fl) (fun u t => w1 D cJ h0 h1 mo u row ba mr ex t) (aw1 h0 h1)) 0 0 (aw1 h0 h1) := by
  refine Met.ofW (cc := cX1_clear) (maxL := 2) (ret := (some .int)) (by decide) rfl ?_
  intro p e s m args below meth c s₁ B hml hv
  obtain ⟨rfl, hP, hK, hmr⟩ := hv
  have hx := B.exec
  have hb := B.bytes
  have hr := B.returns
  have hts := atoms_spec (ws := wsX1_clear) B.pre
  have hown : s.vm.findClass RX1 = some m.cls := findClass_of_methodNamed B.named
  have hlocks := B.notSynchronized
  have hin0 : ∀ w ∈ wsX10, w ∈ wsX1_clear := fun _ h => List.mem_cons_of_mem _ (List.mem_append_right _ h)
  have hS : va_S (aw1 h0 h1) s.heap s.heap [] := va_S.rf
  have hP : va_P D vwCl (bw1 cJ h0 h1 mo fl row ba mr ex) s.heap := hP
  have hl := lv_entry ([.ref h0]) (n := 2) (Nat.le_of_ble_eq_true rfl)
  rw [lg_entry_eq]
  generalize (lg_sl ([.ref h0]) ++ List.replicate (2 - (lg_sl ([.ref h0])).length) Slot.unset).toArray = ls at hl ⊢
  have hl : lv_has ls 2 [(0, .ref h0)] := hl
  have hE : fX1_clear fl = fX1_clear fl := rfl
  refine lv_aload_n hx hb dX1_clear_0 rfl (lv_at hl 0 rfl) ?_
  refine va_get (D := D) (ci := 1) (v := .int fl) (C := RX1) (T := TX1) (N := 6) hx hb hts hin0 hown hK hP 0 rfl rfl 1 (by decide) (hts (.fieldLink RX1 17 "RealBitsModel" "flags" "I") (by decide +kernel)) (fun _ h9 => h9) rfl dX1_clear_1 ?_
  refine lv_istore_n (lv' := [(1, .int fl), (0, .ref h0)]) hx hb dX1_clear_4 rfl hl (by decide) rfl (fun ls hl => ?_)
  refine lv_aload_n hx hb dX1_clear_5 rfl (lv_at hl 1 rfl) ?_
  refine lv_iconst (v := 0) hx hb dX1_clear_6 (by decide) ?_
  refine va_put (D := D) (ci := 1) (v := .int (0 : Int32)) (ty := .int) (C := RX1) (T := TX1) (N := 6) hx hb hts hin0 tyX1 tyX1_ok nmX1 hown hK hP (dw1 hne) hS 0 rfl rfl 1 (by decide) (hts (.fieldLink RX1 17 "RealBitsModel" "flags" "I") (by decide +kernel)) (fun _ h9 => h9) rfl (by decide +kernel) rfl rfl (Nat.le_of_ble_eq_true rfl) dX1_clear_7 (fun H locs hP _ hS => ?_)
  have hP : va_P D vwCl (bw1 cJ h0 h1 mo (0 : Int32) row ba mr ex) H := hP
  refine lv_iload_n hx hb dX1_clear_10 rfl (lv_at hl 0 rfl) ?_
  exact W.iret hx hb hr (fun t ht hW => ⟨⟨_, (0 : Int32), rfl, hE.symm, by rw [ht]; exact hP, va_K.moved hW.alike hK, hmr⟩, hS.F ht⟩) hS.2.2 dX1_clear_11
/-! X1_none -/
def fX1_none_k21 (vfl : Int32) : Int32 × Int32 := ((2143289344 : Int32), (vfl ||| (16 : Int32)))
def fX1_none (fl : Int32) (x1 : Int32) (x2 : Int32) (x3 : Int32) : Int32 × Int32 := (if ((fX1_isLoud x1)) = 0 then (if ((fX1_isLoud x2)) = 0 then (if ((fX1_isLoud x3)) = 0 then ((2143289344 : Int32), fl) else fX1_none_k21 fl) else fX1_none_k21 fl) else fX1_none_k21 fl)
set_option maxHeartbeats 4000000 in
set_option maxRecDepth 100000 in
theorem ccX1_none (l : Launch) (D : va_G) (cJ : ClassId) (h0 h1 : Nat) (hne : h0 ≠ h1) (mo fl : Int32) (row : Nat → Int64) (ba mr ex : Int32) (x1 : Int32) (x2 : Int32) (x3 : Int32)  : Met l yX1_none wsX1_none { frames := 3, cells := 0, slots := 0, locals := 60 } (va_Pc [.ref h0, .int x1, .int x2, .int x3] (w1 D cJ h0 h1 mo fl row ba mr ex)) (va_Qi (fun (r : Int32) (u : Int32) => (r, u) = fX1_none fl x1 x2 x3) (fun u t => w1 D cJ h0 h1 mo u row ba mr ex t) (aw1 h0 h1)) 0 0 (aw1 h0 h1) := by
  refine Met.ofW (cc := cX1_none) (maxL := 4) (ret := (some .int)) (by decide) rfl ?_
  intro p e s m args below meth c s₁ B hml hv
  obtain ⟨rfl, hP, hK, hmr⟩ := hv
  have hx := B.exec
  have hb := B.bytes
  have hr := B.returns
  have hts := atoms_spec (ws := wsX1_none) B.pre
  have hown : s.vm.findClass RX1 = some m.cls := findClass_of_methodNamed B.named
  have hlocks := B.notSynchronized
  have hin0 : ∀ w ∈ wsX10, w ∈ wsX1_none := fun _ h => List.mem_cons_of_mem _ (List.mem_append_right _ h)
  have hS : va_S (aw1 h0 h1) s.heap s.heap [] := va_S.rf
  have hP : va_P D vwCl (bw1 cJ h0 h1 mo fl row ba mr ex) s.heap := hP
  have hl := lv_entry ([.ref h0, .int x1, .int x2, .int x3]) (n := 4) (Nat.le_of_ble_eq_true rfl)
  rw [lg_entry_eq]
  generalize (lg_sl ([.ref h0, .int x1, .int x2, .int x3]) ++ List.replicate (4 - (lg_sl ([.ref h0, .int x1, .int x2, .int x3])).length) Slot.unset).toArray = ls at hl ⊢
  have hl : lv_has ls 4 [(0, .ref h0), (1, .int x1), (2, .int x2), (3, .int x3)] := hl
  have j_21 : ∀ (vfl : Int32) (H : Heap) (locs : List Loc) (ls : Array Slot), va_P D vwCl (bw1 cJ h0 h1 mo vfl row ba mr ex) H → va_S (aw1 h0 h1) s.heap H locs → lv_has ls 4 [(0, .ref h0)] → fX1_none fl x1 x2 x3 = fX1_none_k21 vfl → W p l e (headSpec wsX1_none { frames := 3, cells := 0, slots := 0, locals := 60 }).room s m ([.ref h0, .int x1, .int x2, .int x3] : List Value).toArray below meth c H locs 0 0 (MQ below (va_Qi (fun (r : Int32) (u : Int32) => (r, u) = fX1_none fl x1 x2 x3) (fun u t => w1 D cJ h0 h1 mo u row ba mr ex t) (aw1 h0 h1)) ([.ref h0, .int x1, .int x2, .int x3] : List Value).toArray s 0 0 (aw1 h0 h1)) (F0 m 21 ls []) := by
    intro vfl H locs ls hP hS hl hE
    refine lv_aload_n hx hb dX1_none_21 rfl (lv_at hl 0 rfl) ?_
    refine lv_aload_n hx hb dX1_none_22 rfl (lv_at hl 0 rfl) ?_
    refine va_get (D := D) (ci := 1) (v := .int vfl) (C := RX1) (T := TX1) (N := 6) hx hb hts hin0 hown hK hP 0 rfl rfl 1 (by decide) (hts (.fieldLink RX1 17 "RealBitsModel" "flags" "I") (by decide +kernel)) (fun _ h9 => h9) rfl dX1_none_23 ?_
    refine lv_bipush (v := 16) hx hb dX1_none_26 (by decide) ?_
    refine lv_ior hx hb dX1_none_28 ?_
    refine va_put (D := D) (ci := 1) (v := .int (vfl ||| (16 : Int32))) (ty := .int) (C := RX1) (T := TX1) (N := 6) hx hb hts hin0 tyX1 tyX1_ok nmX1 hown hK hP (dw1 hne) hS 0 rfl rfl 1 (by decide) (hts (.fieldLink RX1 17 "RealBitsModel" "flags" "I") (by decide +kernel)) (fun _ h9 => h9) rfl (by decide +kernel) rfl rfl (Nat.le_of_ble_eq_true rfl) dX1_none_29 (fun H locs hP _ hS => ?_)
    have hP : va_P D vwCl (bw1 cJ h0 h1 mo ((vfl ||| (16 : Int32))) row ba mr ex) H := hP
    refine lv_ldc hx hb hown (hts (.constant RX1 39 (2143289344)) (by decide +kernel)) dX1_none_32 ?_
    exact W.iret hx hb hr (fun t ht hW => ⟨⟨_, ((vfl ||| (16 : Int32))), rfl, hE.symm, by rw [ht]; exact hP, va_K.moved hW.alike hK, hmr⟩, hS.F ht⟩) hS.2.2 dX1_none_34
  have hE : fX1_none fl x1 x2 x3 = fX1_none fl x1 x2 x3 := rfl
  refine lv_iload_n hx hb dX1_none_0 rfl (lv_at hl 1 rfl) ?_
  refine sc_i (W.runS (As := [.int x1]) (rest := []) ⟨hx, hb, hml, hown, hts⟩ (ccX1_isLoud l x1 ) (va_cwS 1 hts gX1_none_X1_isLoud rfl rfl rfl (by decide +kernel) ⟨Nat.le_of_ble_eq_true rfl, Nat.le_of_ble_eq_true rfl⟩) st_pre rfl rfl hl.1 rfl (lv_room (Nat.le_of_ble_eq_true rfl)) dX1_none_1 ⟨Nat.zero_le _, Nat.zero_le _⟩) ?_
  refine lv_if_ne (tgt := 21) hx hb dX1_none_4 (by decide) (fun c_4 => ?_) (fun c_4 => ?_)
  · replace hE := hE.trans (if_neg c_4)
    exact j_21 fl _ _ _ hP hS (lv_sub hl [0] rfl)  hE
  · replace hE := hE.trans (if_pos c_4)
    refine lv_iload_n hx hb dX1_none_7 rfl (lv_at hl 2 rfl) ?_
    refine sc_i (W.runS (As := [.int x2]) (rest := []) ⟨hx, hb, hml, hown, hts⟩ (ccX1_isLoud l x2 ) (va_cwS 1 hts gX1_none_X1_isLoud rfl rfl rfl (by decide +kernel) ⟨Nat.le_of_ble_eq_true rfl, Nat.le_of_ble_eq_true rfl⟩) st_pre rfl rfl hl.1 rfl (lv_room (Nat.le_of_ble_eq_true rfl)) dX1_none_8 ⟨Nat.zero_le _, Nat.zero_le _⟩) ?_
    refine lv_if_ne (tgt := 21) hx hb dX1_none_11 (by decide) (fun c_11 => ?_) (fun c_11 => ?_)
    · replace hE := hE.trans (if_neg c_11)
      exact j_21 fl _ _ _ hP hS (lv_sub hl [0] rfl)  hE
    · replace hE := hE.trans (if_pos c_11)
      refine lv_iload_n hx hb dX1_none_14 rfl (lv_at hl 3 rfl) ?_
      refine sc_i (W.runS (As := [.int x3]) (rest := []) ⟨hx, hb, hml, hown, hts⟩ (ccX1_isLoud l x3 ) (va_cwS 1 hts gX1_none_X1_isLoud rfl rfl rfl (by decide +kernel) ⟨Nat.le_of_ble_eq_true rfl, Nat.le_of_ble_eq_true rfl⟩) st_pre rfl rfl hl.1 rfl (lv_room (Nat.le_of_ble_eq_true rfl)) dX1_none_15 ⟨Nat.zero_le _, Nat.zero_le _⟩) ?_
      refine lv_if_eq (tgt := 32) hx hb dX1_none_18 (by decide) (fun c_18 => ?_) (fun c_18 => ?_)
      · replace hE := hE.trans (if_pos c_18)
        refine lv_ldc hx hb hown (hts (.constant RX1 39 (2143289344)) (by decide +kernel)) dX1_none_32 ?_
        exact W.iret hx hb hr (fun t ht hW => ⟨⟨_, fl, rfl, hE.symm, by rw [ht]; exact hP, va_K.moved hW.alike hK, hmr⟩, hS.F ht⟩) hS.2.2 dX1_none_34
      · replace hE := hE.trans (if_neg c_18)
        exact j_21 fl _ _ _ hP hS (lv_sub hl [0] rfl)  hE
/-! X1_invalid -/
def fX1_invalid (fl : Int32) : Int32 × Int32 := ((2143289344 : Int32), (fl ||| (16 : Int32)))
set_option maxHeartbeats 4000000 in
set_option maxRecDepth 100000 in
theorem ccX1_invalid (l : Launch) (D : va_G) (cJ : ClassId) (h0 h1 : Nat) (hne : h0 ≠ h1) (mo fl : Int32) (row : Nat → Int64) (ba mr ex : Int32)   : Met l yX1_invalid wsX1_invalid { frames := 0, cells := 0, slots := 0, locals := 0 } (va_Pc [.ref h0] (w1 D cJ h0 h1 mo fl row ba mr ex)) (va_Qi (fun (r : Int32) (u : Int32) => (r, u) = fX1_invalid fl) (fun u t => w1 D cJ h0 h1 mo u row ba mr ex t) (aw1 h0 h1)) 0 0 (aw1 h0 h1) := by
  refine Met.ofW (cc := cX1_invalid) (maxL := 1) (ret := (some .int)) (by decide) rfl ?_
  intro p e s m args below meth c s₁ B hml hv
  obtain ⟨rfl, hP, hK, hmr⟩ := hv
  have hx := B.exec
  have hb := B.bytes
  have hr := B.returns
  have hts := atoms_spec (ws := wsX1_invalid) B.pre
  have hown : s.vm.findClass RX1 = some m.cls := findClass_of_methodNamed B.named
  have hlocks := B.notSynchronized
  have hin0 : ∀ w ∈ wsX10, w ∈ wsX1_invalid := fun _ h => List.mem_cons_of_mem _ (List.mem_append_right _ h)
  have hS : va_S (aw1 h0 h1) s.heap s.heap [] := va_S.rf
  have hP : va_P D vwCl (bw1 cJ h0 h1 mo fl row ba mr ex) s.heap := hP
  have hl := lv_entry ([.ref h0]) (n := 1) (Nat.le_of_ble_eq_true rfl)
  rw [lg_entry_eq]
  generalize (lg_sl ([.ref h0]) ++ List.replicate (1 - (lg_sl ([.ref h0])).length) Slot.unset).toArray = ls at hl ⊢
  have hl : lv_has ls 1 [(0, .ref h0)] := hl
  have hE : fX1_invalid fl = fX1_invalid fl := rfl
  refine lv_aload_n hx hb dX1_invalid_0 rfl (lv_at hl 0 rfl) ?_
  refine lv_aload_n hx hb dX1_invalid_1 rfl (lv_at hl 0 rfl) ?_
  refine va_get (D := D) (ci := 1) (v := .int fl) (C := RX1) (T := TX1) (N := 6) hx hb hts hin0 hown hK hP 0 rfl rfl 1 (by decide) (hts (.fieldLink RX1 17 "RealBitsModel" "flags" "I") (by decide +kernel)) (fun _ h9 => h9) rfl dX1_invalid_2 ?_
  refine lv_bipush (v := 16) hx hb dX1_invalid_5 (by decide) ?_
  refine lv_ior hx hb dX1_invalid_7 ?_
  refine va_put (D := D) (ci := 1) (v := .int (fl ||| (16 : Int32))) (ty := .int) (C := RX1) (T := TX1) (N := 6) hx hb hts hin0 tyX1 tyX1_ok nmX1 hown hK hP (dw1 hne) hS 0 rfl rfl 1 (by decide) (hts (.fieldLink RX1 17 "RealBitsModel" "flags" "I") (by decide +kernel)) (fun _ h9 => h9) rfl (by decide +kernel) rfl rfl (Nat.le_of_ble_eq_true rfl) dX1_invalid_8 (fun H locs hP _ hS => ?_)
  have hP : va_P D vwCl (bw1 cJ h0 h1 mo ((fl ||| (16 : Int32))) row ba mr ex) H := hP
  refine lv_ldc hx hb hown (hts (.constant RX1 39 (2143289344)) (by decide +kernel)) dX1_invalid_11 ?_
  exact W.iret hx hb hr (fun t ht hW => ⟨⟨_, ((fl ||| (16 : Int32))), rfl, hE.symm, by rw [ht]; exact hP, va_K.moved hW.alike hK, hmr⟩, hS.F ht⟩) hS.2.2 dX1_invalid_13
/-! X1_empty -/
def fX1_empty_k21 (y1 : Int32) (vrow : (Nat → Int64)) (vba : Int32) (vmr : Int32) : (Nat → Int64) × Int32 × Int32 := (vrow, y1, (0 : Int32))
def fX1_empty_k2 : Nat → Int32 → Int32 → (Nat → Int64) → Int32 → Int32 → (Nat → Int64) × Int32 × Int32
  | 0, _, _, _, _, _ => ((fun _ => 0), 0, 0)
  | n + 1, y1, y2, vrow, vba, vmr => (if (25 : Int32) ≤ y2 then fX1_empty_k21 y1 vrow vba vmr else fX1_empty_k2 n y1 ((y2 + (1 : Int32))) ((vp_updL vrow (Int32.toNatClampNeg y2) (0 : Int64))) vba vmr)
theorem fX1_empty_k2_s (n : Nat) (y1 : Int32) (y2 : Int32) (vrow : (Nat → Int64)) (vba : Int32) (vmr : Int32) : fX1_empty_k2 (n + 1) y1 y2 vrow vba vmr = (if (25 : Int32) ≤ y2 then fX1_empty_k21 y1 vrow vba vmr else fX1_empty_k2 n y1 ((y2 + (1 : Int32))) ((vp_updL vrow (Int32.toNatClampNeg y2) (0 : Int64))) vba vmr) := rfl
def fX1_empty (row : (Nat → Int64)) (ba : Int32) (mr : Int32) (x1 : Int32) : (Nat → Int64) × Int32 × Int32 := fX1_empty_k2 26 x1 (0 : Int32) row ba mr
set_option maxHeartbeats 4000000 in
set_option maxRecDepth 100000 in
theorem ccX1_empty (l : Launch) (D : va_G) (cJ : ClassId) (h0 h1 : Nat) (hne : h0 ≠ h1) (mo fl : Int32) (row : Nat → Int64) (ba mr ex : Int32) (x1 : Int32)  : Met l yX1_empty wsX1_empty { frames := 0, cells := 0, slots := 0, locals := 0 } (va_Pc [.ref h0, .int x1] (w1 D cJ h0 h1 mo fl row ba mr ex)) (va_Qv (fun u : (Nat → Int64) × Int32 × Int32 => u = fX1_empty row ba mr x1) (fun u t => w1 D cJ h0 h1 mo fl u.1 u.2.1 u.2.2 ex t) (aw1 h0 h1)) 0 0 (aw1 h0 h1) := by
  refine Met.ofW (cc := cX1_empty) (maxL := 3) (ret := none) (by decide) rfl ?_
  intro p e s m args below meth c s₁ B hml hv
  obtain ⟨rfl, hP, hK, hmr⟩ := hv
  have hx := B.exec
  have hb := B.bytes
  have hr := B.returns
  have hts := atoms_spec (ws := wsX1_empty) B.pre
  have hown : s.vm.findClass RX1 = some m.cls := findClass_of_methodNamed B.named
  have hlocks := B.notSynchronized
  have hin0 : ∀ w ∈ wsX10, w ∈ wsX1_empty := fun _ h => List.mem_cons_of_mem _ (List.mem_append_right _ h)
  have hS : va_S (aw1 h0 h1) s.heap s.heap [] := va_S.rf
  have hP : va_P D vwCl (bw1 cJ h0 h1 mo fl row ba mr ex) s.heap := hP
  have hl := lv_entry ([.ref h0, .int x1]) (n := 3) (Nat.le_of_ble_eq_true rfl)
  rw [lg_entry_eq]
  generalize (lg_sl ([.ref h0, .int x1]) ++ List.replicate (3 - (lg_sl ([.ref h0, .int x1])).length) Slot.unset).toArray = ls at hl ⊢
  have hl : lv_has ls 3 [(0, .ref h0), (1, .int x1)] := hl
  have j_21 : ∀ (y1 : Int32) (vrow : (Nat → Int64)) (vba : Int32) (vmr : Int32) (H : Heap) (locs : List Loc) (ls : Array Slot), va_P D vwCl (bw1 cJ h0 h1 mo fl vrow vba vmr ex) H → va_S (aw1 h0 h1) s.heap H locs → lv_has ls 3 [(0, .ref h0), (1, .int y1)] → isB vmr → fX1_empty row ba mr x1 = fX1_empty_k21 y1 vrow vba vmr → W p l e (headSpec wsX1_empty { frames := 0, cells := 0, slots := 0, locals := 0 }).room s m ([.ref h0, .int x1] : List Value).toArray below meth c H locs 0 0 (MQ below (va_Qv (fun u : (Nat → Int64) × Int32 × Int32 => u = fX1_empty row ba mr x1) (fun u t => w1 D cJ h0 h1 mo fl u.1 u.2.1 u.2.2 ex t) (aw1 h0 h1)) ([.ref h0, .int x1] : List Value).toArray s 0 0 (aw1 h0 h1)) (F0 m 21 ls []) := by
    intro y1 vrow vba vmr H locs ls hP hS hl hmr hE
    refine lv_aload_n hx hb dX1_empty_21 rfl (lv_at hl 0 rfl) ?_
    refine lv_iload_n hx hb dX1_empty_22 rfl (lv_at hl 1 rfl) ?_
    refine va_put (D := D) (ci := 1) (v := .int y1) (ty := .int) (C := RX1) (T := TX1) (N := 6) hx hb hts hin0 tyX1 tyX1_ok nmX1 hown hK hP (dw1 hne) hS 0 rfl rfl 3 (by decide) (hts (.fieldLink RX1 40 "RealBitsModel" "base" "I") (by decide +kernel)) (fun _ h9 => h9) rfl (by decide +kernel) rfl rfl (Nat.le_of_ble_eq_true rfl) dX1_empty_23 (fun H locs hP _ hS => ?_)
    have hP : va_P D vwCl (bw1 cJ h0 h1 mo fl vrow y1 vmr ex) H := hP
    refine lv_aload_n hx hb dX1_empty_26 rfl (lv_at hl 0 rfl) ?_
    refine lv_iconst (v := 0) hx hb dX1_empty_27 (by decide) ?_
    refine va_put (D := D) (ci := 1) (v := .int (0 : Int32)) (ty := .boolean) (C := RX1) (T := TX1) (N := 6) hx hb hts hin0 tyX1 tyX1_ok nmX1 hown hK hP (dw1 hne) hS 0 rfl rfl 4 (by decide) (hts (.fieldLink RX1 43 "RealBitsModel" "more" "Z") (by decide +kernel)) (fun _ h9 => h9) rfl (by decide +kernel) (isB_nar isB_0) (isB_fit isB_0) (Nat.le_of_ble_eq_true rfl) dX1_empty_28 (fun H locs hP _ hS => ?_)
    have hP : va_P D vwCl (bw1 cJ h0 h1 mo fl vrow y1 (0 : Int32) ex) H := hP
    exact W.vret hx hb hr (fun t ht hW => ⟨⟨(vrow, y1, (0 : Int32)), rfl, hE.symm, by rw [ht]; exact hP, va_K.moved hW.alike hK, isB_0⟩, hS.F ht⟩) hS.2.2 dX1_empty_31
  have j_2 : ∀ (n : Nat) (y1 : Int32) (y2 : Int32) (vrow : (Nat → Int64)) (vba : Int32) (vmr : Int32) (H : Heap) (locs : List Loc) (ls : Array Slot), va_P D vwCl (bw1 cJ h0 h1 mo fl vrow vba vmr ex) H → va_S (aw1 h0 h1) s.heap H locs → lv_has ls 3 [(0, .ref h0), (1, .int y1), (2, .int y2)] → isB vmr → asc 25 y2 n → fX1_empty row ba mr x1 = fX1_empty_k2 n y1 y2 vrow vba vmr → W p l e (headSpec wsX1_empty { frames := 0, cells := 0, slots := 0, locals := 0 }).room s m ([.ref h0, .int x1] : List Value).toArray below meth c H locs 0 0 (MQ below (va_Qv (fun u : (Nat → Int64) × Int32 × Int32 => u = fX1_empty row ba mr x1) (fun u t => w1 D cJ h0 h1 mo fl u.1 u.2.1 u.2.2 ex t) (aw1 h0 h1)) ([.ref h0, .int x1] : List Value).toArray s 0 0 (aw1 h0 h1)) (F0 m 2 ls []) := by
    intro n
    induction n with
    | zero =>
      intro y1 y2 vrow vba vmr H locs ls hP hS hl hmr hM hE
      exact absurd hM asc_0
    | succ n ih =>
      intro y1 y2 vrow vba vmr H locs ls hP hS hl hmr hM hE
      replace hE := hE.trans (fX1_empty_k2_s n y1 y2 vrow vba vmr)
      refine lv_iload_n hx hb dX1_empty_2 rfl (lv_at hl 2 rfl) ?_
      refine lv_bipush (v := 25) hx hb dX1_empty_3 (by decide) ?_
      refine lv_icmp_ge (tgt := 21) hx hb dX1_empty_5 (by decide) (fun c_5 => ?_) (fun c_5 => ?_)
      · replace hE := hE.trans (if_pos c_5)
        exact j_21 y1 vrow vba vmr _ _ _ hP hS (lv_sub hl [0, 1] rfl) hmr hE
      · replace hE := hE.trans (if_neg c_5)
        refine lv_aload_n hx hb dX1_empty_8 rfl (lv_at hl 0 rfl) ?_
        refine va_get (D := D) (ci := 1) (v := .ref h1) (C := RX1) (T := TX1) (N := 6) hx hb hts hin0 hown hK hP 0 rfl rfl 2 (by decide) (hts (.fieldLink RX1 7 "RealBitsModel" "row" "[J") (by decide +kernel)) (fun _ h9 => h9) rfl dX1_empty_9 ?_
        refine lv_iload_n hx hb dX1_empty_12 rfl (lv_at hl 2 rfl) ?_
        refine lv_lconst (v := 0) hx hb dX1_empty_13 (by decide) ?_
        refine va_last (D := D) hx hb hK hP (dw1 hne) hS 1 0 rfl rfl (i := y2) (x := (0 : Int64)) (asc_in hM (by decide) c_5) dX1_empty_14 (fun H locs hP _ hS => ?_)
        have hP : va_P D vwCl (bw1 cJ h0 h1 mo fl ((vp_updL vrow (Int32.toNatClampNeg y2) (0 : Int64))) vba vmr ex) H := hP
        refine lv_iinc (v := (y2 + (1 : Int32))) (lv' := [(2, .int (y2 + (1 : Int32))), (0, .ref h0), (1, .int y1)]) hx hb dX1_empty_15 hl (k := 2) rfl rfl (by decide) rfl (fun ls hl => ?_)
        refine lv_goto (tgt := 2) hx hb dX1_empty_18 (by decide) ?_
        exact ih y1 ((y2 + (1 : Int32))) ((vp_updL vrow (Int32.toNatClampNeg y2) (0 : Int64))) vba vmr _ _ _ hP hS (lv_sub hl [1, 2, 0] rfl) hmr (asc_step hM (by decide) (by decide) c_5) hE
  have hE : fX1_empty row ba mr x1 = fX1_empty row ba mr x1 := rfl
  refine lv_iconst (v := 0) hx hb dX1_empty_0 (by decide) ?_
  refine lv_istore_n (lv' := [(2, .int (0 : Int32)), (0, .ref h0), (1, .int x1)]) hx hb dX1_empty_1 rfl hl (by decide) rfl (fun ls hl => ?_)
  exact j_2 26 x1 (0 : Int32) row ba mr _ _ _ hP hS (lv_sub hl [1, 2, 0] rfl) hmr (asc_init 25) hE
/-! X1_put -/
def fX1_put_k11 : Nat → Int64 → Int32 → Int32 → Int32 → (Nat → Int64) → Int32 → (Nat → Int64)
  | 0, _, _, _, _, _, _ => (fun _ => 0)
  | n + 1, y1, y4, y5, y6, vrow, ba => (if (63 : Int32) ≤ y6 then vrow else (if ((lg_cmp ((((y1 >>> (Int32.toInt64 y6 &&& 63))) &&& (1 : Int64))) (1 : Int64))) = 0 then (if y4 = 0 then fX1_put_k11 n y1 y4 y5 ((y6 + (1 : Int32))) ((vp_updL vrow (Int32.toNatClampNeg ((((y5 + y6)) / (24 : Int32)))) ((((vrow (Int32.toNatClampNeg ((((y5 + y6)) / (24 : Int32)))))) + (((1 : Int64) * (((1 : Int64) <<< (Int32.toInt64 ((((y5 + y6)) - ((y5 + y6)) / (24 : Int32) * (24 : Int32))) &&& 63))))))))) ba else fX1_put_k11 n y1 y4 y5 ((y6 + (1 : Int32))) ((vp_updL vrow (Int32.toNatClampNeg ((((y5 + y6)) / (24 : Int32)))) ((((vrow (Int32.toNatClampNeg ((((y5 + y6)) / (24 : Int32)))))) + (((-1 : Int64) * (((1 : Int64) <<< (Int32.toInt64 ((((y5 + y6)) - ((y5 + y6)) / (24 : Int32) * (24 : Int32))) &&& 63))))))))) ba) else fX1_put_k11 n y1 y4 y5 ((y6 + (1 : Int32))) vrow ba))
theorem fX1_put_k11_s (n : Nat) (y1 : Int64) (y4 : Int32) (y5 : Int32) (y6 : Int32) (vrow : (Nat → Int64)) (ba : Int32) : fX1_put_k11 (n + 1) y1 y4 y5 y6 vrow ba = (if (63 : Int32) ≤ y6 then vrow else (if ((lg_cmp ((((y1 >>> (Int32.toInt64 y6 &&& 63))) &&& (1 : Int64))) (1 : Int64))) = 0 then (if y4 = 0 then fX1_put_k11 n y1 y4 y5 ((y6 + (1 : Int32))) ((vp_updL vrow (Int32.toNatClampNeg ((((y5 + y6)) / (24 : Int32)))) ((((vrow (Int32.toNatClampNeg ((((y5 + y6)) / (24 : Int32)))))) + (((1 : Int64) * (((1 : Int64) <<< (Int32.toInt64 ((((y5 + y6)) - ((y5 + y6)) / (24 : Int32) * (24 : Int32))) &&& 63))))))))) ba else fX1_put_k11 n y1 y4 y5 ((y6 + (1 : Int32))) ((vp_updL vrow (Int32.toNatClampNeg ((((y5 + y6)) / (24 : Int32)))) ((((vrow (Int32.toNatClampNeg ((((y5 + y6)) / (24 : Int32)))))) + (((-1 : Int64) * (((1 : Int64) <<< (Int32.toInt64 ((((y5 + y6)) - ((y5 + y6)) / (24 : Int32) * (24 : Int32))) &&& 63))))))))) ba) else fX1_put_k11 n y1 y4 y5 ((y6 + (1 : Int32))) vrow ba)) := rfl
def fX1_put_k8 (y1 : Int64) (y4 : Int32) (y5 : Int32) (vrow : (Nat → Int64)) (ba : Int32) : (Nat → Int64) := fX1_put_k11 64 y1 y4 y5 (0 : Int32) vrow ba
def fX1_put (row : (Nat → Int64)) (ba : Int32) (x1 : Int64) (x3 : Int32) (x4 : Int32) : (Nat → Int64) := fX1_put_k8 x1 x4 ((x3 - ba)) row ba
set_option maxHeartbeats 4000000 in
set_option maxRecDepth 100000 in
theorem ccX1_put (l : Launch) (D : va_G) (cJ : ClassId) (h0 h1 : Nat) (hne : h0 ≠ h1) (mo fl : Int32) (row : Nat → Int64) (ba mr ex : Int32) (x1 : Int64) (x3 : Int32) (x4 : Int32) (hput : putOk x1 (x3 - ba)) : Met l yX1_put wsX1_put { frames := 0, cells := 0, slots := 0, locals := 0 } (va_Pc [.ref h0, .long x1, .int x3, .int x4] (w1 D cJ h0 h1 mo fl row ba mr ex)) (va_Qv (fun u : (Nat → Int64) => u = fX1_put row ba x1 x3 x4) (fun u t => w1 D cJ h0 h1 mo fl u ba mr ex t) (aw1 h0 h1)) 0 0 (aw1 h0 h1) := by
  refine Met.ofW (cc := cX1_put) (maxL := 8) (ret := none) (by decide) rfl ?_
  intro p e s m args below meth c s₁ B hml hv
  obtain ⟨rfl, hP, hK, hmr⟩ := hv
  have hx := B.exec
  have hb := B.bytes
  have hr := B.returns
  have hts := atoms_spec (ws := wsX1_put) B.pre
  have hown : s.vm.findClass RX1 = some m.cls := findClass_of_methodNamed B.named
  have hlocks := B.notSynchronized
  have hin0 : ∀ w ∈ wsX10, w ∈ wsX1_put := fun _ h => List.mem_cons_of_mem _ (List.mem_append_right _ h)
  have hS : va_S (aw1 h0 h1) s.heap s.heap [] := va_S.rf
  have hP : va_P D vwCl (bw1 cJ h0 h1 mo fl row ba mr ex) s.heap := hP
  have hl := lv_entry ([.ref h0, .long x1, .int x3, .int x4]) (n := 8) (Nat.le_of_ble_eq_true rfl)
  rw [lg_entry_eq]
  generalize (lg_sl ([.ref h0, .long x1, .int x3, .int x4]) ++ List.replicate (8 - (lg_sl ([.ref h0, .long x1, .int x3, .int x4])).length) Slot.unset).toArray = ls at hl ⊢
  have hl : lv_has ls 8 [(0, .ref h0), (1, .long x1), (3, .int x3), (4, .int x4)] := hl
  have j_11 : ∀ (n : Nat) (y1 : Int64) (y4 : Int32) (y5 : Int32) (y6 : Int32) (vrow : (Nat → Int64)) (H : Heap) (locs : List Loc) (ls : Array Slot), va_P D vwCl (bw1 cJ h0 h1 mo fl vrow ba mr ex) H → va_S (aw1 h0 h1) s.heap H locs → lv_has ls 8 [(0, .ref h0), (1, .long y1), (4, .int y4), (5, .int y5), (6, .int y6)] → putOk y1 y5 → asc 63 y6 n → fX1_put row ba x1 x3 x4 = fX1_put_k11 n y1 y4 y5 y6 vrow ba → W p l e (headSpec wsX1_put { frames := 0, cells := 0, slots := 0, locals := 0 }).room s m ([.ref h0, .long x1, .int x3, .int x4] : List Value).toArray below meth c H locs 0 0 (MQ below (va_Qv (fun u : (Nat → Int64) => u = fX1_put row ba x1 x3 x4) (fun u t => w1 D cJ h0 h1 mo fl u ba mr ex t) (aw1 h0 h1)) ([.ref h0, .long x1, .int x3, .int x4] : List Value).toArray s 0 0 (aw1 h0 h1)) (F0 m 11 ls []) := by
    intro n
    induction n with
    | zero =>
      intro y1 y4 y5 y6 vrow H locs ls hP hS hl fp hM hE
      exact absurd hM asc_0
    | succ n ih =>
      intro y1 y4 y5 y6 vrow H locs ls hP hS hl fp hM hE
      replace hE := hE.trans (fX1_put_k11_s n y1 y4 y5 y6 vrow ba)
      refine lv_iload hx hb dX1_put_11 (lv_at hl 4 rfl) ?_
      refine lv_bipush (v := 63) hx hb dX1_put_13 (by decide) ?_
      refine lv_icmp_ge (tgt := 83) hx hb dX1_put_15 (by decide) (fun c_15 => ?_) (fun c_15 => ?_)
      · replace hE := hE.trans (if_pos c_15)
        exact W.vret hx hb hr (fun t ht hW => ⟨⟨vrow, rfl, hE.symm, by rw [ht]; exact hP, va_K.moved hW.alike hK, hmr⟩, hS.F ht⟩) hS.2.2 dX1_put_83
      · replace hE := hE.trans (if_neg c_15)
        refine lv_lload_n hx hb dX1_put_18 rfl (lv_at hl 1 rfl) ?_
        refine lv_iload hx hb dX1_put_19 (lv_at hl 4 rfl) ?_
        refine lv_lshr hx hb dX1_put_21 rfl ?_
        refine lv_lconst (v := 1) hx hb dX1_put_22 (by decide) ?_
        refine lv_land hx hb dX1_put_23 ?_
        refine lv_lconst (v := 1) hx hb dX1_put_24 (by decide) ?_
        refine W.lcmp hx hb dX1_put_25 ?_
        refine lv_if_ne (tgt := 77) hx hb dX1_put_26 (by decide) (fun c_26 => ?_) (fun c_26 => ?_)
        · replace hE := hE.trans (if_neg c_26)
          refine lv_iinc (v := (y6 + (1 : Int32))) (lv' := [(6, .int (y6 + (1 : Int32))), (0, .ref h0), (1, .long y1), (4, .int y4), (5, .int y5)]) hx hb dX1_put_77 hl (k := 4) rfl rfl (by decide) rfl (fun ls hl => ?_)
          refine lv_goto (tgt := 11) hx hb dX1_put_80 (by decide) ?_
          exact ih y1 y4 y5 ((y6 + (1 : Int32))) vrow _ _ _ hP hS (lv_sub hl [1, 2, 3, 4, 0] rfl) fp (asc_step hM (by decide) (by decide) c_15) hE
        · replace hE := hE.trans (if_pos c_26)
          refine lv_iload hx hb dX1_put_29 (lv_at hl 3 rfl) ?_
          refine lv_iload hx hb dX1_put_31 (lv_at hl 4 rfl) ?_
          refine lv_iadd hx hb dX1_put_33 ?_
          refine lv_istore (lv' := [(7, .int (y5 + y6)), (0, .ref h0), (1, .long y1), (4, .int y4), (5, .int y5), (6, .int y6)]) hx hb dX1_put_34 hl (by decide) rfl (fun ls hl => ?_)
          refine lv_aload_n hx hb dX1_put_36 rfl (lv_at hl 1 rfl) ?_
          refine va_get (D := D) (ci := 1) (v := .ref h1) (C := RX1) (T := TX1) (N := 6) hx hb hts hin0 hown hK hP 0 rfl rfl 2 (by decide) (hts (.fieldLink RX1 7 "RealBitsModel" "row" "[J") (by decide +kernel)) (fun _ h9 => h9) rfl dX1_put_37 ?_
          refine lv_iload hx hb dX1_put_40 (lv_at hl 0 rfl) ?_
          refine lv_bipush (v := 24) hx hb dX1_put_42 (by decide) ?_
          refine lv_idiv hx hb dX1_put_44 (by decide) ?_
          refine lv_aload_n hx hb dX1_put_45 rfl (lv_at hl 1 rfl) ?_
          refine va_get (D := D) (ci := 1) (v := .ref h1) (C := RX1) (T := TX1) (N := 6) hx hb hts hin0 hown hK hP 0 rfl rfl 2 (by decide) (hts (.fieldLink RX1 7 "RealBitsModel" "row" "[J") (by decide +kernel)) (fun _ h9 => h9) rfl dX1_put_46 ?_
          refine lv_iload hx hb dX1_put_49 (lv_at hl 0 rfl) ?_
          refine lv_bipush (v := 24) hx hb dX1_put_51 (by decide) ?_
          refine lv_idiv hx hb dX1_put_53 (by decide) ?_
          refine va_lald (D := D) hx hb hK hP 1 0 rfl rfl (i := ((((y5 + y6)) / (24 : Int32)))) (fp y6 (asc_lt hM (by decide) c_15).1 (asc_lt hM (by decide) c_15).2 ((lg_cmp_eq _ _).mp c_26)) dX1_put_54 ?_
          refine lv_iload hx hb dX1_put_55 (lv_at hl 3 rfl) ?_
          refine lv_if_eq (tgt := 66) hx hb dX1_put_57 (by decide) (fun c_57 => ?_) (fun c_57 => ?_)
          · replace hE := hE.trans (if_pos c_57)
            refine lv_lconst (v := 1) hx hb dX1_put_66 (by decide) ?_
            refine lv_lconst (v := 1) hx hb dX1_put_67 (by decide) ?_
            refine lv_iload hx hb dX1_put_68 (lv_at hl 0 rfl) ?_
            refine lv_bipush (v := 24) hx hb dX1_put_70 (by decide) ?_
            refine lv_irem hx hb dX1_put_72 (by decide) ?_
            refine lv_lshl hx hb dX1_put_73 rfl ?_
            refine lv_lmul hx hb dX1_put_74 ?_
            refine lv_ladd hx hb dX1_put_75 ?_
            refine va_last (D := D) hx hb hK hP (dw1 hne) hS 1 0 rfl rfl (i := ((((y5 + y6)) / (24 : Int32)))) (x := ((((vrow (Int32.toNatClampNeg ((((y5 + y6)) / (24 : Int32)))))) + (((1 : Int64) * (((1 : Int64) <<< (Int32.toInt64 ((((y5 + y6)) - ((y5 + y6)) / (24 : Int32) * (24 : Int32))) &&& 63)))))))) (fp y6 (asc_lt hM (by decide) c_15).1 (asc_lt hM (by decide) c_15).2 ((lg_cmp_eq _ _).mp c_26)) dX1_put_76 (fun H locs hP _ hS => ?_)
            have hP : va_P D vwCl (bw1 cJ h0 h1 mo fl ((vp_updL vrow (Int32.toNatClampNeg ((((y5 + y6)) / (24 : Int32)))) ((((vrow (Int32.toNatClampNeg ((((y5 + y6)) / (24 : Int32)))))) + (((1 : Int64) * (((1 : Int64) <<< (Int32.toInt64 ((((y5 + y6)) - ((y5 + y6)) / (24 : Int32) * (24 : Int32))) &&& 63))))))))) ba mr ex) H := hP
            refine lv_iinc (v := (y6 + (1 : Int32))) (lv' := [(6, .int (y6 + (1 : Int32))), (7, .int (y5 + y6)), (0, .ref h0), (1, .long y1), (4, .int y4), (5, .int y5)]) hx hb dX1_put_77 hl (k := 5) rfl rfl (by decide) rfl (fun ls hl => ?_)
            refine lv_goto (tgt := 11) hx hb dX1_put_80 (by decide) ?_
            exact ih y1 y4 y5 ((y6 + (1 : Int32))) ((vp_updL vrow (Int32.toNatClampNeg ((((y5 + y6)) / (24 : Int32)))) ((((vrow (Int32.toNatClampNeg ((((y5 + y6)) / (24 : Int32)))))) + (((1 : Int64) * (((1 : Int64) <<< (Int32.toInt64 ((((y5 + y6)) - ((y5 + y6)) / (24 : Int32) * (24 : Int32))) &&& 63))))))))) _ _ _ hP hS (lv_sub hl [2, 3, 4, 5, 0] rfl) fp (asc_step hM (by decide) (by decide) c_15) hE
          · replace hE := hE.trans (if_neg c_57)
            refine lv_ldc2 hx hb hown (hts (.constantLong RX1 47 (-1)) (by decide +kernel)) dX1_put_60 ?_
            refine lv_goto (tgt := 67) hx hb dX1_put_63 (by decide) ?_
            refine lv_lconst (v := 1) hx hb dX1_put_67 (by decide) ?_
            refine lv_iload hx hb dX1_put_68 (lv_at hl 0 rfl) ?_
            refine lv_bipush (v := 24) hx hb dX1_put_70 (by decide) ?_
            refine lv_irem hx hb dX1_put_72 (by decide) ?_
            refine lv_lshl hx hb dX1_put_73 rfl ?_
            refine lv_lmul hx hb dX1_put_74 ?_
            refine lv_ladd hx hb dX1_put_75 ?_
            refine va_last (D := D) hx hb hK hP (dw1 hne) hS 1 0 rfl rfl (i := ((((y5 + y6)) / (24 : Int32)))) (x := ((((vrow (Int32.toNatClampNeg ((((y5 + y6)) / (24 : Int32)))))) + (((-1 : Int64) * (((1 : Int64) <<< (Int32.toInt64 ((((y5 + y6)) - ((y5 + y6)) / (24 : Int32) * (24 : Int32))) &&& 63)))))))) (fp y6 (asc_lt hM (by decide) c_15).1 (asc_lt hM (by decide) c_15).2 ((lg_cmp_eq _ _).mp c_26)) dX1_put_76 (fun H locs hP _ hS => ?_)
            have hP : va_P D vwCl (bw1 cJ h0 h1 mo fl ((vp_updL vrow (Int32.toNatClampNeg ((((y5 + y6)) / (24 : Int32)))) ((((vrow (Int32.toNatClampNeg ((((y5 + y6)) / (24 : Int32)))))) + (((-1 : Int64) * (((1 : Int64) <<< (Int32.toInt64 ((((y5 + y6)) - ((y5 + y6)) / (24 : Int32) * (24 : Int32))) &&& 63))))))))) ba mr ex) H := hP
            refine lv_iinc (v := (y6 + (1 : Int32))) (lv' := [(6, .int (y6 + (1 : Int32))), (7, .int (y5 + y6)), (0, .ref h0), (1, .long y1), (4, .int y4), (5, .int y5)]) hx hb dX1_put_77 hl (k := 5) rfl rfl (by decide) rfl (fun ls hl => ?_)
            refine lv_goto (tgt := 11) hx hb dX1_put_80 (by decide) ?_
            exact ih y1 y4 y5 ((y6 + (1 : Int32))) ((vp_updL vrow (Int32.toNatClampNeg ((((y5 + y6)) / (24 : Int32)))) ((((vrow (Int32.toNatClampNeg ((((y5 + y6)) / (24 : Int32)))))) + (((-1 : Int64) * (((1 : Int64) <<< (Int32.toInt64 ((((y5 + y6)) - ((y5 + y6)) / (24 : Int32) * (24 : Int32))) &&& 63))))))))) _ _ _ hP hS (lv_sub hl [2, 3, 4, 5, 0] rfl) fp (asc_step hM (by decide) (by decide) c_15) hE
  have hE : fX1_put row ba x1 x3 x4 = fX1_put row ba x1 x3 x4 := rfl
  refine lv_iload_n hx hb dX1_put_0 rfl (lv_at hl 2 rfl) ?_
  refine lv_aload_n hx hb dX1_put_1 rfl (lv_at hl 0 rfl) ?_
  refine va_get (D := D) (ci := 1) (v := .int ba) (C := RX1) (T := TX1) (N := 6) hx hb hts hin0 hown hK hP 0 rfl rfl 3 (by decide) (hts (.fieldLink RX1 40 "RealBitsModel" "base" "I") (by decide +kernel)) (fun _ h9 => h9) rfl dX1_put_2 ?_
  refine lv_isub hx hb dX1_put_5 ?_
  refine lv_topi (fun x5_6 e_6 => ?_)
  refine lv_istore (lv' := [(5, .int x5_6), (0, .ref h0), (1, .long x1), (3, .int x3), (4, .int x4)]) hx hb dX1_put_6 hl (by decide) rfl (fun ls hl => ?_)
  replace hE : fX1_put row ba x1 x3 x4 = fX1_put_k8 x1 x4 x5_6 row ba := by rw [e_6]; exact hE
  refine lv_iconst (v := 0) hx hb dX1_put_8 (by decide) ?_
  refine lv_istore (lv' := [(6, .int (0 : Int32)), (5, .int x5_6), (0, .ref h0), (1, .long x1), (3, .int x3), (4, .int x4)]) hx hb dX1_put_9 hl (by decide) rfl (fun ls hl => ?_)
  exact j_11 64 x1 x4 x5_6 (0 : Int32) row _ _ _ hP hS (lv_sub hl [2, 3, 5, 1, 0] rfl) (by rw [e_6]; exact hput) (asc_init 63) hE
/-! X1_carry -/
def fX1_carry_k2 : Nat → Int32 → (Nat → Int64) → (Nat → Int64)
  | 0, _, _ => (fun _ => 0)
  | n + 1, y1, vrow => (if (24 : Int32) ≤ y1 then vrow else fX1_carry_k2 n ((y1 + (1 : Int32))) ((vp_updL ((vp_updL vrow (Int32.toNatClampNeg ((y1 + (1 : Int32)))) ((((vrow (Int32.toNatClampNeg ((y1 + (1 : Int32)))))) + ((((vrow (Int32.toNatClampNeg y1))) >>> (Int32.toInt64 (24 : Int32) &&& 63))))))) (Int32.toNatClampNeg y1) ((((((vp_updL vrow (Int32.toNatClampNeg ((y1 + (1 : Int32)))) ((((vrow (Int32.toNatClampNeg ((y1 + (1 : Int32)))))) + ((((vrow (Int32.toNatClampNeg y1))) >>> (Int32.toInt64 (24 : Int32) &&& 63))))))) (Int32.toNatClampNeg y1))) &&& (16777215 : Int64))))))
theorem fX1_carry_k2_s (n : Nat) (y1 : Int32) (vrow : (Nat → Int64)) : fX1_carry_k2 (n + 1) y1 vrow = (if (24 : Int32) ≤ y1 then vrow else fX1_carry_k2 n ((y1 + (1 : Int32))) ((vp_updL ((vp_updL vrow (Int32.toNatClampNeg ((y1 + (1 : Int32)))) ((((vrow (Int32.toNatClampNeg ((y1 + (1 : Int32)))))) + ((((vrow (Int32.toNatClampNeg y1))) >>> (Int32.toInt64 (24 : Int32) &&& 63))))))) (Int32.toNatClampNeg y1) ((((((vp_updL vrow (Int32.toNatClampNeg ((y1 + (1 : Int32)))) ((((vrow (Int32.toNatClampNeg ((y1 + (1 : Int32)))))) + ((((vrow (Int32.toNatClampNeg y1))) >>> (Int32.toInt64 (24 : Int32) &&& 63))))))) (Int32.toNatClampNeg y1))) &&& (16777215 : Int64)))))) := rfl
def fX1_carry (row : (Nat → Int64)) : (Nat → Int64) := fX1_carry_k2 25 (0 : Int32) row
set_option maxHeartbeats 4000000 in
set_option maxRecDepth 100000 in
theorem ccX1_carry (l : Launch) (D : va_G) (cJ : ClassId) (h0 h1 : Nat) (hne : h0 ≠ h1) (mo fl : Int32) (row : Nat → Int64) (ba mr ex : Int32)   : Met l yX1_carry wsX1_carry { frames := 0, cells := 0, slots := 0, locals := 0 } (va_Pc [.ref h0] (w1 D cJ h0 h1 mo fl row ba mr ex)) (va_Qv (fun u : (Nat → Int64) => u = fX1_carry row) (fun u t => w1 D cJ h0 h1 mo fl u ba mr ex t) (aw1 h0 h1)) 0 0 (aw1 h0 h1) := by
  refine Met.ofW (cc := cX1_carry) (maxL := 2) (ret := none) (by decide) rfl ?_
  intro p e s m args below meth c s₁ B hml hv
  obtain ⟨rfl, hP, hK, hmr⟩ := hv
  have hx := B.exec
  have hb := B.bytes
  have hr := B.returns
  have hts := atoms_spec (ws := wsX1_carry) B.pre
  have hown : s.vm.findClass RX1 = some m.cls := findClass_of_methodNamed B.named
  have hlocks := B.notSynchronized
  have hin0 : ∀ w ∈ wsX10, w ∈ wsX1_carry := fun _ h => List.mem_cons_of_mem _ (List.mem_append_right _ h)
  have hS : va_S (aw1 h0 h1) s.heap s.heap [] := va_S.rf
  have hP : va_P D vwCl (bw1 cJ h0 h1 mo fl row ba mr ex) s.heap := hP
  have hl := lv_entry ([.ref h0]) (n := 2) (Nat.le_of_ble_eq_true rfl)
  rw [lg_entry_eq]
  generalize (lg_sl ([.ref h0]) ++ List.replicate (2 - (lg_sl ([.ref h0])).length) Slot.unset).toArray = ls at hl ⊢
  have hl : lv_has ls 2 [(0, .ref h0)] := hl
  have j_2 : ∀ (n : Nat) (y1 : Int32) (vrow : (Nat → Int64)) (H : Heap) (locs : List Loc) (ls : Array Slot), va_P D vwCl (bw1 cJ h0 h1 mo fl vrow ba mr ex) H → va_S (aw1 h0 h1) s.heap H locs → lv_has ls 2 [(0, .ref h0), (1, .int y1)] → asc 24 y1 n → fX1_carry row = fX1_carry_k2 n y1 vrow → W p l e (headSpec wsX1_carry { frames := 0, cells := 0, slots := 0, locals := 0 }).room s m ([.ref h0] : List Value).toArray below meth c H locs 0 0 (MQ below (va_Qv (fun u : (Nat → Int64) => u = fX1_carry row) (fun u t => w1 D cJ h0 h1 mo fl u ba mr ex t) (aw1 h0 h1)) ([.ref h0] : List Value).toArray s 0 0 (aw1 h0 h1)) (F0 m 2 ls []) := by
    intro n
    induction n with
    | zero =>
      intro y1 vrow H locs ls hP hS hl hM hE
      exact absurd hM asc_0
    | succ n ih =>
      intro y1 vrow H locs ls hP hS hl hM hE
      replace hE := hE.trans (fX1_carry_k2_s n y1 vrow)
      refine lv_iload_n hx hb dX1_carry_2 rfl (lv_at hl 1 rfl) ?_
      refine lv_bipush (v := 24) hx hb dX1_carry_3 (by decide) ?_
      refine lv_icmp_ge (tgt := 56) hx hb dX1_carry_5 (by decide) (fun c_5 => ?_) (fun c_5 => ?_)
      · replace hE := hE.trans (if_pos c_5)
        exact W.vret hx hb hr (fun t ht hW => ⟨⟨vrow, rfl, hE.symm, by rw [ht]; exact hP, va_K.moved hW.alike hK, hmr⟩, hS.F ht⟩) hS.2.2 dX1_carry_56
      · replace hE := hE.trans (if_neg c_5)
        refine lv_aload_n hx hb dX1_carry_8 rfl (lv_at hl 0 rfl) ?_
        refine va_get (D := D) (ci := 1) (v := .ref h1) (C := RX1) (T := TX1) (N := 6) hx hb hts hin0 hown hK hP 0 rfl rfl 2 (by decide) (hts (.fieldLink RX1 7 "RealBitsModel" "row" "[J") (by decide +kernel)) (fun _ h9 => h9) rfl dX1_carry_9 ?_
        refine lv_iload_n hx hb dX1_carry_12 rfl (lv_at hl 1 rfl) ?_
        refine lv_iconst (v := 1) hx hb dX1_carry_13 (by decide) ?_
        refine lv_iadd hx hb dX1_carry_14 ?_
        refine lv_aload_n hx hb dX1_carry_15 rfl (lv_at hl 0 rfl) ?_
        refine va_get (D := D) (ci := 1) (v := .ref h1) (C := RX1) (T := TX1) (N := 6) hx hb hts hin0 hown hK hP 0 rfl rfl 2 (by decide) (hts (.fieldLink RX1 7 "RealBitsModel" "row" "[J") (by decide +kernel)) (fun _ h9 => h9) rfl dX1_carry_16 ?_
        refine lv_iload_n hx hb dX1_carry_19 rfl (lv_at hl 1 rfl) ?_
        refine lv_iconst (v := 1) hx hb dX1_carry_20 (by decide) ?_
        refine lv_iadd hx hb dX1_carry_21 ?_
        refine va_lald (D := D) hx hb hK hP 1 0 rfl rfl (i := ((y1 + (1 : Int32)))) (carry_in1 (asc_lt hM (by decide) c_5)) dX1_carry_22 ?_
        refine lv_aload_n hx hb dX1_carry_23 rfl (lv_at hl 0 rfl) ?_
        refine va_get (D := D) (ci := 1) (v := .ref h1) (C := RX1) (T := TX1) (N := 6) hx hb hts hin0 hown hK hP 0 rfl rfl 2 (by decide) (hts (.fieldLink RX1 7 "RealBitsModel" "row" "[J") (by decide +kernel)) (fun _ h9 => h9) rfl dX1_carry_24 ?_
        refine lv_iload_n hx hb dX1_carry_27 rfl (lv_at hl 1 rfl) ?_
        refine va_lald (D := D) hx hb hK hP 1 0 rfl rfl (i := y1) (carry_in0 (asc_lt hM (by decide) c_5)) dX1_carry_28 ?_
        refine lv_bipush (v := 24) hx hb dX1_carry_29 (by decide) ?_
        refine lv_lshr hx hb dX1_carry_31 rfl ?_
        refine lv_ladd hx hb dX1_carry_32 ?_
        refine va_last (D := D) hx hb hK hP (dw1 hne) hS 1 0 rfl rfl (i := ((y1 + (1 : Int32)))) (x := ((((vrow (Int32.toNatClampNeg ((y1 + (1 : Int32)))))) + ((((vrow (Int32.toNatClampNeg y1))) >>> (Int32.toInt64 (24 : Int32) &&& 63)))))) (carry_in1 (asc_lt hM (by decide) c_5)) dX1_carry_33 (fun H locs hP _ hS => ?_)
        have hP : va_P D vwCl (bw1 cJ h0 h1 mo fl ((vp_updL vrow (Int32.toNatClampNeg ((y1 + (1 : Int32)))) ((((vrow (Int32.toNatClampNeg ((y1 + (1 : Int32)))))) + ((((vrow (Int32.toNatClampNeg y1))) >>> (Int32.toInt64 (24 : Int32) &&& 63))))))) ba mr ex) H := hP
        refine lv_aload_n hx hb dX1_carry_34 rfl (lv_at hl 0 rfl) ?_
        refine va_get (D := D) (ci := 1) (v := .ref h1) (C := RX1) (T := TX1) (N := 6) hx hb hts hin0 hown hK hP 0 rfl rfl 2 (by decide) (hts (.fieldLink RX1 7 "RealBitsModel" "row" "[J") (by decide +kernel)) (fun _ h9 => h9) rfl dX1_carry_35 ?_
        refine lv_iload_n hx hb dX1_carry_38 rfl (lv_at hl 1 rfl) ?_
        refine lv_aload_n hx hb dX1_carry_39 rfl (lv_at hl 0 rfl) ?_
        refine va_get (D := D) (ci := 1) (v := .ref h1) (C := RX1) (T := TX1) (N := 6) hx hb hts hin0 hown hK hP 0 rfl rfl 2 (by decide) (hts (.fieldLink RX1 7 "RealBitsModel" "row" "[J") (by decide +kernel)) (fun _ h9 => h9) rfl dX1_carry_40 ?_
        refine lv_iload_n hx hb dX1_carry_43 rfl (lv_at hl 1 rfl) ?_
        refine va_lald (D := D) hx hb hK hP 1 0 rfl rfl (i := y1) (carry_in0 (asc_lt hM (by decide) c_5)) dX1_carry_44 ?_
        refine lv_ldc2 hx hb hown (hts (.constantLong RX1 52 (16777215)) (by decide +kernel)) dX1_carry_45 ?_
        refine lv_land hx hb dX1_carry_48 ?_
        refine va_last (D := D) hx hb hK hP (dw1 hne) hS 1 0 rfl rfl (i := y1) (x := ((((((vp_updL vrow (Int32.toNatClampNeg ((y1 + (1 : Int32)))) ((((vrow (Int32.toNatClampNeg ((y1 + (1 : Int32)))))) + ((((vrow (Int32.toNatClampNeg y1))) >>> (Int32.toInt64 (24 : Int32) &&& 63))))))) (Int32.toNatClampNeg y1))) &&& (16777215 : Int64)))) (carry_in0 (asc_lt hM (by decide) c_5)) dX1_carry_49 (fun H locs hP _ hS => ?_)
        have hP : va_P D vwCl (bw1 cJ h0 h1 mo fl ((vp_updL ((vp_updL vrow (Int32.toNatClampNeg ((y1 + (1 : Int32)))) ((((vrow (Int32.toNatClampNeg ((y1 + (1 : Int32)))))) + ((((vrow (Int32.toNatClampNeg y1))) >>> (Int32.toInt64 (24 : Int32) &&& 63))))))) (Int32.toNatClampNeg y1) ((((((vp_updL vrow (Int32.toNatClampNeg ((y1 + (1 : Int32)))) ((((vrow (Int32.toNatClampNeg ((y1 + (1 : Int32)))))) + ((((vrow (Int32.toNatClampNeg y1))) >>> (Int32.toInt64 (24 : Int32) &&& 63))))))) (Int32.toNatClampNeg y1))) &&& (16777215 : Int64))))) ba mr ex) H := hP
        refine lv_iinc (v := (y1 + (1 : Int32))) (lv' := [(1, .int (y1 + (1 : Int32))), (0, .ref h0)]) hx hb dX1_carry_50 hl (k := 1) rfl rfl (by decide) rfl (fun ls hl => ?_)
        refine lv_goto (tgt := 2) hx hb dX1_carry_53 (by decide) ?_
        exact ih ((y1 + (1 : Int32))) ((vp_updL ((vp_updL vrow (Int32.toNatClampNeg ((y1 + (1 : Int32)))) ((((vrow (Int32.toNatClampNeg ((y1 + (1 : Int32)))))) + ((((vrow (Int32.toNatClampNeg y1))) >>> (Int32.toInt64 (24 : Int32) &&& 63))))))) (Int32.toNatClampNeg y1) ((((((vp_updL vrow (Int32.toNatClampNeg ((y1 + (1 : Int32)))) ((((vrow (Int32.toNatClampNeg ((y1 + (1 : Int32)))))) + ((((vrow (Int32.toNatClampNeg y1))) >>> (Int32.toInt64 (24 : Int32) &&& 63))))))) (Int32.toNatClampNeg y1))) &&& (16777215 : Int64))))) _ _ _ hP hS (lv_sub hl [1, 0] rfl)  (asc_step hM (by decide) (by decide) c_5) hE
  have hE : fX1_carry row = fX1_carry row := rfl
  refine lv_iconst (v := 0) hx hb dX1_carry_0 (by decide) ?_
  refine lv_istore_n (lv' := [(1, .int (0 : Int32)), (0, .ref h0)]) hx hb dX1_carry_1 rfl hl (by decide) rfl (fun ls hl => ?_)
  exact j_2 25 (0 : Int32) row _ _ _ hP hS (lv_sub hl [1, 0] rfl)  (asc_init 24) hE
/-! X1_settle -/
def fX1_settle_k57 (y1 : Int32) (vrow : (Nat → Int64)) : Int32 × (Nat → Int64) := (y1, vrow)
def fX1_settle_k53 (y1 : Int32) (vrow : (Nat → Int64)) : Int32 × (Nat → Int64) := fX1_settle_k57 y1 ((fX1_carry vrow))
def fX1_settle_k28 : Nat → Int32 → Int32 → (Nat → Int64) → Int32 × (Nat → Int64)
  | 0, _, _, _ => (0, (fun _ => 0))
  | n + 1, y1, y2, vrow => (if (25 : Int32) ≤ y2 then fX1_settle_k53 y1 vrow else fX1_settle_k28 n y1 ((y2 + (1 : Int32))) ((vp_updL vrow (Int32.toNatClampNeg y2) ((-((vrow (Int32.toNatClampNeg y2))))))))
theorem fX1_settle_k28_s (n : Nat) (y1 : Int32) (y2 : Int32) (vrow : (Nat → Int64)) : fX1_settle_k28 (n + 1) y1 y2 vrow = (if (25 : Int32) ≤ y2 then fX1_settle_k53 y1 vrow else fX1_settle_k28 n y1 ((y2 + (1 : Int32))) ((vp_updL vrow (Int32.toNatClampNeg y2) ((-((vrow (Int32.toNatClampNeg y2)))))))) := rfl
def fX1_settle_k21 (z0 : Int32) (vrow : (Nat → Int64)) : Int32 × (Nat → Int64) := (if z0 = 0 then (z0, vrow) else fX1_settle_k28 26 z0 (0 : Int32) vrow)
def fX1_settle_k4 (vrow : (Nat → Int64)) : Int32 × (Nat → Int64) := (if 0 ≤ ((lg_cmp ((vrow (Int32.toNatClampNeg (24 : Int32)))) (0 : Int64))) then fX1_settle_k21 (0 : Int32) vrow else fX1_settle_k21 (1 : Int32) vrow)
def fX1_settle (row : (Nat → Int64)) : Int32 × (Nat → Int64) := fX1_settle_k4 ((fX1_carry row))
set_option maxHeartbeats 4000000 in
set_option maxRecDepth 100000 in
theorem ccX1_settle (l : Launch) (D : va_G) (cJ : ClassId) (h0 h1 : Nat) (hne : h0 ≠ h1) (mo fl : Int32) (row : Nat → Int64) (ba mr ex : Int32)   : Met l yX1_settle wsX1_settle { frames := 1, cells := 0, slots := 0, locals := 21 } (va_Pc [.ref h0] (w1 D cJ h0 h1 mo fl row ba mr ex)) (va_Qi (fun (r : Int32) (u : (Nat → Int64)) => (r, u) = fX1_settle row) (fun u t => w1 D cJ h0 h1 mo fl u ba mr ex t) (aw1 h0 h1)) 0 0 (aw1 h0 h1) := by
  refine Met.ofW (cc := cX1_settle) (maxL := 3) (ret := (some .boolean)) (by decide) rfl ?_
  intro p e s m args below meth c s₁ B hml hv
  obtain ⟨rfl, hP, hK, hmr⟩ := hv
  have hx := B.exec
  have hb := B.bytes
  have hr := B.returns
  have hts := atoms_spec (ws := wsX1_settle) B.pre
  have hown : s.vm.findClass RX1 = some m.cls := findClass_of_methodNamed B.named
  have hlocks := B.notSynchronized
  have hin0 : ∀ w ∈ wsX10, w ∈ wsX1_settle := fun _ h => List.mem_cons_of_mem _ (List.mem_append_right _ h)
  have hS : va_S (aw1 h0 h1) s.heap s.heap [] := va_S.rf
  have hP : va_P D vwCl (bw1 cJ h0 h1 mo fl row ba mr ex) s.heap := hP
  have hl := lv_entry ([.ref h0]) (n := 3) (Nat.le_of_ble_eq_true rfl)
  rw [lg_entry_eq]
  generalize (lg_sl ([.ref h0]) ++ List.replicate (3 - (lg_sl ([.ref h0])).length) Slot.unset).toArray = ls at hl ⊢
  have hl : lv_has ls 3 [(0, .ref h0)] := hl
  have j_53 : ∀ (y1 : Int32) (vrow : (Nat → Int64)) (H : Heap) (locs : List Loc) (ls : Array Slot), va_P D vwCl (bw1 cJ h0 h1 mo fl vrow ba mr ex) H → va_S (aw1 h0 h1) s.heap H locs → lv_has ls 3 [(0, .ref h0), (1, .int y1)] → isB y1 → fX1_settle row = fX1_settle_k53 y1 vrow → W p l e (headSpec wsX1_settle { frames := 1, cells := 0, slots := 0, locals := 21 }).room s m ([.ref h0] : List Value).toArray below meth c H locs 0 0 (MQ below (va_Qi (fun (r : Int32) (u : (Nat → Int64)) => (r, u) = fX1_settle row) (fun u t => w1 D cJ h0 h1 mo fl u ba mr ex t) (aw1 h0 h1)) ([.ref h0] : List Value).toArray s 0 0 (aw1 h0 h1)) (F0 m 53 ls []) := by
    intro y1 vrow H locs ls hP hS hl b_y1 hE
    refine lv_aload_n hx hb dX1_settle_53 rfl (lv_at hl 0 rfl) ?_
    refine k1_callv (va_runV (As := []) (rest := []) ⟨hx, hb, hml, hown, hts⟩ (ccX1_carry l D cJ h0 h1 hne mo fl vrow ba mr ex  ) (cwV 0 hts gX1_settle_X1_carry rfl rfl rfl (by decide +kernel) ⟨Nat.le_of_ble_eq_true rfl, Nat.le_of_ble_eq_true rfl⟩) (w1_pre hK hP hmr) rfl rfl hl.1 rfl (lv_room (Nat.le_of_ble_eq_true rfl)) dX1_settle_54 ⟨Nat.zero_le _, Nat.zero_le _⟩) hS (fun u H locs hw hP hmr hS => ?_)
    obtain ⟨row_54, rfl⟩ : ∃ z, z = u := ⟨_, rfl⟩
    have hP : va_P D vwCl (bw1 cJ h0 h1 mo fl row_54 ba mr ex) H := hP
    replace hE : fX1_settle row = fX1_settle_k57 y1 row_54 := by have h : fX1_settle row = fX1_settle_k57 y1 ((fX1_carry vrow)) := hE; rw [← hw] at h; exact h
    refine lv_iload_n hx hb dX1_settle_57 rfl (lv_at hl 1 rfl) ?_
    exact W.zret hx hb hr (isB_nar b_y1) (fun t ht hW => ⟨⟨_, row_54, rfl, hE.symm, by rw [ht]; exact hP, va_K.moved hW.alike hK, hmr⟩, hS.F ht⟩) hS.2.2 dX1_settle_58
  have j_28 : ∀ (n : Nat) (y1 : Int32) (y2 : Int32) (vrow : (Nat → Int64)) (H : Heap) (locs : List Loc) (ls : Array Slot), va_P D vwCl (bw1 cJ h0 h1 mo fl vrow ba mr ex) H → va_S (aw1 h0 h1) s.heap H locs → lv_has ls 3 [(0, .ref h0), (1, .int y1), (2, .int y2)] → isB y1 → asc 25 y2 n → fX1_settle row = fX1_settle_k28 n y1 y2 vrow → W p l e (headSpec wsX1_settle { frames := 1, cells := 0, slots := 0, locals := 21 }).room s m ([.ref h0] : List Value).toArray below meth c H locs 0 0 (MQ below (va_Qi (fun (r : Int32) (u : (Nat → Int64)) => (r, u) = fX1_settle row) (fun u t => w1 D cJ h0 h1 mo fl u ba mr ex t) (aw1 h0 h1)) ([.ref h0] : List Value).toArray s 0 0 (aw1 h0 h1)) (F0 m 28 ls []) := by
    intro n
    induction n with
    | zero =>
      intro y1 y2 vrow H locs ls hP hS hl b_y1 hM hE
      exact absurd hM asc_0
    | succ n ih =>
      intro y1 y2 vrow H locs ls hP hS hl b_y1 hM hE
      replace hE := hE.trans (fX1_settle_k28_s n y1 y2 vrow)
      refine lv_iload_n hx hb dX1_settle_28 rfl (lv_at hl 2 rfl) ?_
      refine lv_bipush (v := 25) hx hb dX1_settle_29 (by decide) ?_
      refine lv_icmp_ge (tgt := 53) hx hb dX1_settle_31 (by decide) (fun c_31 => ?_) (fun c_31 => ?_)
      · replace hE := hE.trans (if_pos c_31)
        exact j_53 y1 vrow _ _ _ hP hS (lv_sub hl [0, 1] rfl) b_y1 hE
      · replace hE := hE.trans (if_neg c_31)
        refine lv_aload_n hx hb dX1_settle_34 rfl (lv_at hl 0 rfl) ?_
        refine va_get (D := D) (ci := 1) (v := .ref h1) (C := RX1) (T := TX1) (N := 6) hx hb hts hin0 hown hK hP 0 rfl rfl 2 (by decide) (hts (.fieldLink RX1 7 "RealBitsModel" "row" "[J") (by decide +kernel)) (fun _ h9 => h9) rfl dX1_settle_35 ?_
        refine lv_iload_n hx hb dX1_settle_38 rfl (lv_at hl 2 rfl) ?_
        refine lv_aload_n hx hb dX1_settle_39 rfl (lv_at hl 0 rfl) ?_
        refine va_get (D := D) (ci := 1) (v := .ref h1) (C := RX1) (T := TX1) (N := 6) hx hb hts hin0 hown hK hP 0 rfl rfl 2 (by decide) (hts (.fieldLink RX1 7 "RealBitsModel" "row" "[J") (by decide +kernel)) (fun _ h9 => h9) rfl dX1_settle_40 ?_
        refine lv_iload_n hx hb dX1_settle_43 rfl (lv_at hl 2 rfl) ?_
        refine va_lald (D := D) hx hb hK hP 1 0 rfl rfl (i := y2) (asc_in hM (by decide) c_31) dX1_settle_44 ?_
        refine lv_lneg hx hb dX1_settle_45 ?_
        refine va_last (D := D) hx hb hK hP (dw1 hne) hS 1 0 rfl rfl (i := y2) (x := ((-((vrow (Int32.toNatClampNeg y2)))))) (asc_in hM (by decide) c_31) dX1_settle_46 (fun H locs hP _ hS => ?_)
        have hP : va_P D vwCl (bw1 cJ h0 h1 mo fl ((vp_updL vrow (Int32.toNatClampNeg y2) ((-((vrow (Int32.toNatClampNeg y2))))))) ba mr ex) H := hP
        refine lv_iinc (v := (y2 + (1 : Int32))) (lv' := [(2, .int (y2 + (1 : Int32))), (0, .ref h0), (1, .int y1)]) hx hb dX1_settle_47 hl (k := 2) rfl rfl (by decide) rfl (fun ls hl => ?_)
        refine lv_goto (tgt := 28) hx hb dX1_settle_50 (by decide) ?_
        exact ih y1 ((y2 + (1 : Int32))) ((vp_updL vrow (Int32.toNatClampNeg y2) ((-((vrow (Int32.toNatClampNeg y2))))))) _ _ _ hP hS (lv_sub hl [1, 2, 0] rfl) b_y1 (asc_step hM (by decide) (by decide) c_31) hE
  have j_21 : ∀ (z0 : Int32) (vrow : (Nat → Int64)) (H : Heap) (locs : List Loc) (ls : Array Slot), va_P D vwCl (bw1 cJ h0 h1 mo fl vrow ba mr ex) H → va_S (aw1 h0 h1) s.heap H locs → lv_has ls 3 [(0, .ref h0)] → isB z0 → fX1_settle row = fX1_settle_k21 z0 vrow → W p l e (headSpec wsX1_settle { frames := 1, cells := 0, slots := 0, locals := 21 }).room s m ([.ref h0] : List Value).toArray below meth c H locs 0 0 (MQ below (va_Qi (fun (r : Int32) (u : (Nat → Int64)) => (r, u) = fX1_settle row) (fun u t => w1 D cJ h0 h1 mo fl u ba mr ex t) (aw1 h0 h1)) ([.ref h0] : List Value).toArray s 0 0 (aw1 h0 h1)) (F0 m 21 ls [.int z0]) := by
    intro z0 vrow H locs ls hP hS hl b_z0 hE
    refine lv_istore_n (lv' := [(1, .int z0), (0, .ref h0)]) hx hb dX1_settle_21 rfl hl (by decide) rfl (fun ls hl => ?_)
    refine lv_iload_n hx hb dX1_settle_22 rfl (lv_at hl 0 rfl) ?_
    refine lv_if_eq (tgt := 57) hx hb dX1_settle_23 (by decide) (fun c_23 => ?_) (fun c_23 => ?_)
    · replace hE := hE.trans (if_pos c_23)
      refine lv_iload_n hx hb dX1_settle_57 rfl (lv_at hl 0 rfl) ?_
      exact W.zret hx hb hr (isB_nar b_z0) (fun t ht hW => ⟨⟨_, vrow, rfl, hE.symm, by rw [ht]; exact hP, va_K.moved hW.alike hK, hmr⟩, hS.F ht⟩) hS.2.2 dX1_settle_58
    · replace hE := hE.trans (if_neg c_23)
      refine lv_iconst (v := 0) hx hb dX1_settle_26 (by decide) ?_
      refine lv_istore_n (lv' := [(2, .int (0 : Int32)), (1, .int z0), (0, .ref h0)]) hx hb dX1_settle_27 rfl hl (by decide) rfl (fun ls hl => ?_)
      exact j_28 26 z0 (0 : Int32) vrow _ _ _ hP hS (lv_sub hl [2, 1, 0] rfl) b_z0 (asc_init 25) hE
  have hE : fX1_settle row = fX1_settle row := rfl
  refine lv_aload_n hx hb dX1_settle_0 rfl (lv_at hl 0 rfl) ?_
  refine k1_callv (va_runV (As := []) (rest := []) ⟨hx, hb, hml, hown, hts⟩ (ccX1_carry l D cJ h0 h1 hne mo fl row ba mr ex  ) (cwV 0 hts gX1_settle_X1_carry rfl rfl rfl (by decide +kernel) ⟨Nat.le_of_ble_eq_true rfl, Nat.le_of_ble_eq_true rfl⟩) (w1_pre hK hP hmr) rfl rfl hl.1 rfl (lv_room (Nat.le_of_ble_eq_true rfl)) dX1_settle_1 ⟨Nat.zero_le _, Nat.zero_le _⟩) hS (fun u H locs hw hP hmr hS => ?_)
  obtain ⟨row_1, rfl⟩ : ∃ z, z = u := ⟨_, rfl⟩
  have hP : va_P D vwCl (bw1 cJ h0 h1 mo fl row_1 ba mr ex) H := hP
  replace hE : fX1_settle row = fX1_settle_k4 row_1 := by have h : fX1_settle row = fX1_settle_k4 ((fX1_carry row)) := hE; rw [← hw] at h; exact h
  refine lv_aload_n hx hb dX1_settle_4 rfl (lv_at hl 0 rfl) ?_
  refine va_get (D := D) (ci := 1) (v := .ref h1) (C := RX1) (T := TX1) (N := 6) hx hb hts hin0 hown hK hP 0 rfl rfl 2 (by decide) (hts (.fieldLink RX1 7 "RealBitsModel" "row" "[J") (by decide +kernel)) (fun _ h9 => h9) rfl dX1_settle_5 ?_
  refine lv_bipush (v := 24) hx hb dX1_settle_8 (by decide) ?_
  refine va_lald (D := D) hx hb hK hP 1 0 rfl rfl (i := (24 : Int32)) in_24 dX1_settle_10 ?_
  refine lv_lconst (v := 0) hx hb dX1_settle_11 (by decide) ?_
  refine W.lcmp hx hb dX1_settle_12 ?_
  refine lv_if_ge (tgt := 20) hx hb dX1_settle_13 (by decide) (fun c_13 => ?_) (fun c_13 => ?_)
  · replace hE := hE.trans (if_pos c_13)
    refine lv_iconst (v := 0) hx hb dX1_settle_20 (by decide) ?_
    exact j_21 (0 : Int32) row_1 _ _ _ hP hS (lv_sub hl [0] rfl) isB_0 hE
  · replace hE := hE.trans (if_neg c_13)
    refine lv_iconst (v := 1) hx hb dX1_settle_16 (by decide) ?_
    refine lv_goto (tgt := 21) hx hb dX1_settle_17 (by decide) ?_
    exact j_21 (1 : Int32) row_1 _ _ _ hP hS (lv_sub hl [0] rfl) isB_1 hE
