/-! X0_isNegative -/
def fX0_isNegative (x0 : Int32) : Int32 := (if 0 ≤ x0 then (0 : Int32) else (1 : Int32))
set_option maxHeartbeats 4000000 in
set_option maxRecDepth 100000 in
theorem ccX0_isNegative (l : Launch) (x0 : Int32)  : Met l yX0_isNegative wsX0_isNegative { frames := 0, cells := 0, slots := 0, locals := 0 } (va_Pc [.int x0] (fun _ => True)) (vp_Si (fun r => r = fX0_isNegative x0)) 0 0 (fun _ => False) := by
  refine Met.ofW (cc := cX0_isNegative) (maxL := 1) (ret := (some .boolean)) (by decide) rfl ?_
  intro p e s m args below meth c s₁ B hml hv
  obtain ⟨rfl, -⟩ := hv
  have hx := B.exec
  have hb := B.bytes
  have hr := B.returns
  have hts := atoms_spec (ws := wsX0_isNegative) B.pre
  have hown : s.vm.findClass RX0 = some m.cls := findClass_of_methodNamed B.named
  have hlocks := B.notSynchronized
  have hl := lv_entry ([.int x0]) (n := 1) (Nat.le_of_ble_eq_true rfl)
  rw [lg_entry_eq]
  generalize (lg_sl ([.int x0]) ++ List.replicate (1 - (lg_sl ([.int x0])).length) Slot.unset).toArray = ls at hl ⊢
  have hl : lv_has ls 1 [(0, .int x0)] := hl
  have hE : fX0_isNegative x0 = fX0_isNegative x0 := rfl
  refine lv_iload_n hx hb dX0_isNegative_0 rfl (lv_at hl 0 rfl) ?_
  refine lv_if_ge (tgt := 8) hx hb dX0_isNegative_1 (by decide) (fun c_1 => ?_) (fun c_1 => ?_)
  · replace hE := hE.trans (if_pos c_1)
    refine lv_iconst (v := 0) hx hb dX0_isNegative_8 (by decide) ?_
    exact W.zret hx hb hr (isB_nar isB_0) (fun t ht hW => ⟨_, rfl, hE.symm, ht⟩) (fun _ h => by cases h) dX0_isNegative_9
  · replace hE := hE.trans (if_neg c_1)
    refine lv_iconst (v := 1) hx hb dX0_isNegative_4 (by decide) ?_
    refine lv_goto (tgt := 9) hx hb dX0_isNegative_5 (by decide) ?_
    exact W.zret hx hb hr (isB_nar isB_1) (fun t ht hW => ⟨_, rfl, hE.symm, ht⟩) (fun _ h => by cases h) dX0_isNegative_9
/-! X0_signOf -/
def fX0_signOf (x0 : Int32) : Int32 := (x0 &&& (-2147483648 : Int32))
set_option maxHeartbeats 4000000 in
set_option maxRecDepth 100000 in
theorem ccX0_signOf (l : Launch) (x0 : Int32)  : Met l yX0_signOf wsX0_signOf { frames := 0, cells := 0, slots := 0, locals := 0 } (va_Pc [.int x0] (fun _ => True)) (vp_Si (fun r => r = fX0_signOf x0)) 0 0 (fun _ => False) := by
  refine Met.ofW (cc := cX0_signOf) (maxL := 1) (ret := (some .int)) (by decide) rfl ?_
  intro p e s m args below meth c s₁ B hml hv
  obtain ⟨rfl, -⟩ := hv
  have hx := B.exec
  have hb := B.bytes
  have hr := B.returns
  have hts := atoms_spec (ws := wsX0_signOf) B.pre
  have hown : s.vm.findClass RX0 = some m.cls := findClass_of_methodNamed B.named
  have hlocks := B.notSynchronized
  have hl := lv_entry ([.int x0]) (n := 1) (Nat.le_of_ble_eq_true rfl)
  rw [lg_entry_eq]
  generalize (lg_sl ([.int x0]) ++ List.replicate (1 - (lg_sl ([.int x0])).length) Slot.unset).toArray = ls at hl ⊢
  have hl : lv_has ls 1 [(0, .int x0)] := hl
  have hE : fX0_signOf x0 = fX0_signOf x0 := rfl
  refine lv_iload_n hx hb dX0_signOf_0 rfl (lv_at hl 0 rfl) ?_
  refine lv_ldc hx hb hown (hts (.constant RX0 21 (-2147483648)) (by decide +kernel)) dX0_signOf_1 ?_
  refine lv_iand hx hb dX0_signOf_3 ?_
  exact W.iret hx hb hr (fun t ht hW => ⟨_, rfl, hE.symm, ht⟩) (fun _ h => by cases h) dX0_signOf_4
/-! X0_exponentOf -/
def fX0_exponentOf (x0 : Int32) : Int32 := (((x0 &&& (2147483647 : Int32))) >>> ((23 : Int32) &&& 31))
set_option maxHeartbeats 4000000 in
set_option maxRecDepth 100000 in
theorem ccX0_exponentOf (l : Launch) (x0 : Int32)  : Met l yX0_exponentOf wsX0_exponentOf { frames := 0, cells := 0, slots := 0, locals := 0 } (va_Pc [.int x0] (fun _ => True)) (vp_Si (fun r => r = fX0_exponentOf x0)) 0 0 (fun _ => False) := by
  refine Met.ofW (cc := cX0_exponentOf) (maxL := 1) (ret := (some .int)) (by decide) rfl ?_
  intro p e s m args below meth c s₁ B hml hv
  obtain ⟨rfl, -⟩ := hv
  have hx := B.exec
  have hb := B.bytes
  have hr := B.returns
  have hts := atoms_spec (ws := wsX0_exponentOf) B.pre
  have hown : s.vm.findClass RX0 = some m.cls := findClass_of_methodNamed B.named
  have hlocks := B.notSynchronized
  have hl := lv_entry ([.int x0]) (n := 1) (Nat.le_of_ble_eq_true rfl)
  rw [lg_entry_eq]
  generalize (lg_sl ([.int x0]) ++ List.replicate (1 - (lg_sl ([.int x0])).length) Slot.unset).toArray = ls at hl ⊢
  have hl : lv_has ls 1 [(0, .int x0)] := hl
  have hE : fX0_exponentOf x0 = fX0_exponentOf x0 := rfl
  refine lv_iload_n hx hb dX0_exponentOf_0 rfl (lv_at hl 0 rfl) ?_
  refine lv_ldc hx hb hown (hts (.constant RX0 121 (2147483647)) (by decide +kernel)) dX0_exponentOf_1 ?_
  refine lv_iand hx hb dX0_exponentOf_3 ?_
  refine lv_bipush (v := 23) hx hb dX0_exponentOf_4 (by decide) ?_
  refine lv_ishr hx hb dX0_exponentOf_6 ?_
  exact W.iret hx hb hr (fun t ht hW => ⟨_, rfl, hE.symm, ht⟩) (fun _ h => by cases h) dX0_exponentOf_7
/-! X0_isNoNumber -/
def fX0_isNoNumber (x0 : Int32) : Int32 := (if ((x0 &&& (2147483647 : Int32))) ≤ (2139095040 : Int32) then (0 : Int32) else (1 : Int32))
set_option maxHeartbeats 4000000 in
set_option maxRecDepth 100000 in
theorem ccX0_isNoNumber (l : Launch) (x0 : Int32)  : Met l yX0_isNoNumber wsX0_isNoNumber { frames := 0, cells := 0, slots := 0, locals := 0 } (va_Pc [.int x0] (fun _ => True)) (vp_Si (fun r => r = fX0_isNoNumber x0)) 0 0 (fun _ => False) := by
  refine Met.ofW (cc := cX0_isNoNumber) (maxL := 1) (ret := (some .boolean)) (by decide) rfl ?_
  intro p e s m args below meth c s₁ B hml hv
  obtain ⟨rfl, -⟩ := hv
  have hx := B.exec
  have hb := B.bytes
  have hr := B.returns
  have hts := atoms_spec (ws := wsX0_isNoNumber) B.pre
  have hown : s.vm.findClass RX0 = some m.cls := findClass_of_methodNamed B.named
  have hlocks := B.notSynchronized
  have hl := lv_entry ([.int x0]) (n := 1) (Nat.le_of_ble_eq_true rfl)
  rw [lg_entry_eq]
  generalize (lg_sl ([.int x0]) ++ List.replicate (1 - (lg_sl ([.int x0])).length) Slot.unset).toArray = ls at hl ⊢
  have hl : lv_has ls 1 [(0, .int x0)] := hl
  have hE : fX0_isNoNumber x0 = fX0_isNoNumber x0 := rfl
  refine lv_iload_n hx hb dX0_isNoNumber_0 rfl (lv_at hl 0 rfl) ?_
  refine lv_ldc hx hb hown (hts (.constant RX0 121 (2147483647)) (by decide +kernel)) dX0_isNoNumber_1 ?_
  refine lv_iand hx hb dX0_isNoNumber_3 ?_
  refine lv_ldc hx hb hown (hts (.constant RX0 48 (2139095040)) (by decide +kernel)) dX0_isNoNumber_4 ?_
  refine lv_icmp_le (tgt := 13) hx hb dX0_isNoNumber_6 (by decide) (fun c_6 => ?_) (fun c_6 => ?_)
  · replace hE := hE.trans (if_pos c_6)
    refine lv_iconst (v := 0) hx hb dX0_isNoNumber_13 (by decide) ?_
    exact W.zret hx hb hr (isB_nar isB_0) (fun t ht hW => ⟨_, rfl, hE.symm, ht⟩) (fun _ h => by cases h) dX0_isNoNumber_14
  · replace hE := hE.trans (if_neg c_6)
    refine lv_iconst (v := 1) hx hb dX0_isNoNumber_9 (by decide) ?_
    refine lv_goto (tgt := 14) hx hb dX0_isNoNumber_10 (by decide) ?_
    exact W.zret hx hb hr (isB_nar isB_1) (fun t ht hW => ⟨_, rfl, hE.symm, ht⟩) (fun _ h => by cases h) dX0_isNoNumber_14
/-! X0_isLoud -/
def fX0_isLoud (x0 : Int32) : Int32 := (if ((fX0_isNoNumber x0)) = 0 then (0 : Int32) else (if (4194304 : Int32) ≤ ((x0 &&& (8388607 : Int32))) then (0 : Int32) else (1 : Int32)))
set_option maxHeartbeats 4000000 in
set_option maxRecDepth 100000 in
theorem ccX0_isLoud (l : Launch) (x0 : Int32)  : Met l yX0_isLoud wsX0_isLoud { frames := 1, cells := 0, slots := 0, locals := 20 } (va_Pc [.int x0] (fun _ => True)) (vp_Si (fun r => r = fX0_isLoud x0)) 0 0 (fun _ => False) := by
  refine Met.ofW (cc := cX0_isLoud) (maxL := 1) (ret := (some .boolean)) (by decide) rfl ?_
  intro p e s m args below meth c s₁ B hml hv
  obtain ⟨rfl, -⟩ := hv
  have hx := B.exec
  have hb := B.bytes
  have hr := B.returns
  have hts := atoms_spec (ws := wsX0_isLoud) B.pre
  have hown : s.vm.findClass RX0 = some m.cls := findClass_of_methodNamed B.named
  have hlocks := B.notSynchronized
  have hl := lv_entry ([.int x0]) (n := 1) (Nat.le_of_ble_eq_true rfl)
  rw [lg_entry_eq]
  generalize (lg_sl ([.int x0]) ++ List.replicate (1 - (lg_sl ([.int x0])).length) Slot.unset).toArray = ls at hl ⊢
  have hl : lv_has ls 1 [(0, .int x0)] := hl
  have hE : fX0_isLoud x0 = fX0_isLoud x0 := rfl
  refine lv_iload_n hx hb dX0_isLoud_0 rfl (lv_at hl 0 rfl) ?_
  refine sc_i (W.runS (As := [.int x0]) (rest := []) ⟨hx, hb, hml, hown, hts⟩ (ccX0_isNoNumber l x0 ) (va_cwS 1 hts gX0_isLoud_X0_isNoNumber rfl rfl rfl (by decide +kernel) ⟨Nat.le_of_ble_eq_true rfl, Nat.le_of_ble_eq_true rfl⟩) st_pre rfl rfl hl.1 rfl (lv_room (Nat.le_of_ble_eq_true rfl)) dX0_isLoud_1 ⟨Nat.zero_le _, Nat.zero_le _⟩) ?_
  refine lv_if_eq (tgt := 20) hx hb dX0_isLoud_4 (by decide) (fun c_4 => ?_) (fun c_4 => ?_)
  · replace hE := hE.trans (if_pos c_4)
    refine lv_iconst (v := 0) hx hb dX0_isLoud_20 (by decide) ?_
    exact W.zret hx hb hr (isB_nar isB_0) (fun t ht hW => ⟨_, rfl, hE.symm, ht⟩) (fun _ h => by cases h) dX0_isLoud_21
  · replace hE := hE.trans (if_neg c_4)
    refine lv_iload_n hx hb dX0_isLoud_7 rfl (lv_at hl 0 rfl) ?_
    refine lv_ldc hx hb hown (hts (.constant RX0 122 (8388607)) (by decide +kernel)) dX0_isLoud_8 ?_
    refine lv_iand hx hb dX0_isLoud_10 ?_
    refine lv_ldc hx hb hown (hts (.constant RX0 123 (4194304)) (by decide +kernel)) dX0_isLoud_11 ?_
    refine lv_icmp_ge (tgt := 20) hx hb dX0_isLoud_13 (by decide) (fun c_13 => ?_) (fun c_13 => ?_)
    · replace hE := hE.trans (if_pos c_13)
      refine lv_iconst (v := 0) hx hb dX0_isLoud_20 (by decide) ?_
      exact W.zret hx hb hr (isB_nar isB_0) (fun t ht hW => ⟨_, rfl, hE.symm, ht⟩) (fun _ h => by cases h) dX0_isLoud_21
    · replace hE := hE.trans (if_neg c_13)
      refine lv_iconst (v := 1) hx hb dX0_isLoud_16 (by decide) ?_
      refine lv_goto (tgt := 21) hx hb dX0_isLoud_17 (by decide) ?_
      exact W.zret hx hb hr (isB_nar isB_1) (fun t ht hW => ⟨_, rfl, hE.symm, ht⟩) (fun _ h => by cases h) dX0_isLoud_21
/-! X0_isInfinite -/
def fX0_isInfinite (x0 : Int32) : Int32 := (if ((x0 &&& (2147483647 : Int32))) = (2139095040 : Int32) then (1 : Int32) else (0 : Int32))
set_option maxHeartbeats 4000000 in
set_option maxRecDepth 100000 in
theorem ccX0_isInfinite (l : Launch) (x0 : Int32)  : Met l yX0_isInfinite wsX0_isInfinite { frames := 0, cells := 0, slots := 0, locals := 0 } (va_Pc [.int x0] (fun _ => True)) (vp_Si (fun r => r = fX0_isInfinite x0)) 0 0 (fun _ => False) := by
  refine Met.ofW (cc := cX0_isInfinite) (maxL := 1) (ret := (some .boolean)) (by decide) rfl ?_
  intro p e s m args below meth c s₁ B hml hv
  obtain ⟨rfl, -⟩ := hv
  have hx := B.exec
  have hb := B.bytes
  have hr := B.returns
  have hts := atoms_spec (ws := wsX0_isInfinite) B.pre
  have hown : s.vm.findClass RX0 = some m.cls := findClass_of_methodNamed B.named
  have hlocks := B.notSynchronized
  have hl := lv_entry ([.int x0]) (n := 1) (Nat.le_of_ble_eq_true rfl)
  rw [lg_entry_eq]
  generalize (lg_sl ([.int x0]) ++ List.replicate (1 - (lg_sl ([.int x0])).length) Slot.unset).toArray = ls at hl ⊢
  have hl : lv_has ls 1 [(0, .int x0)] := hl
  have hE : fX0_isInfinite x0 = fX0_isInfinite x0 := rfl
  refine lv_iload_n hx hb dX0_isInfinite_0 rfl (lv_at hl 0 rfl) ?_
  refine lv_ldc hx hb hown (hts (.constant RX0 121 (2147483647)) (by decide +kernel)) dX0_isInfinite_1 ?_
  refine lv_iand hx hb dX0_isInfinite_3 ?_
  refine lv_ldc hx hb hown (hts (.constant RX0 48 (2139095040)) (by decide +kernel)) dX0_isInfinite_4 ?_
  refine lv_icmp_ne (tgt := 13) hx hb dX0_isInfinite_6 (by decide) (fun c_6 => ?_) (fun c_6 => ?_)
  · replace hE := hE.trans (if_neg c_6)
    refine lv_iconst (v := 0) hx hb dX0_isInfinite_13 (by decide) ?_
    exact W.zret hx hb hr (isB_nar isB_0) (fun t ht hW => ⟨_, rfl, hE.symm, ht⟩) (fun _ h => by cases h) dX0_isInfinite_14
  · replace hE := hE.trans (if_pos c_6)
    refine lv_iconst (v := 1) hx hb dX0_isInfinite_9 (by decide) ?_
    refine lv_goto (tgt := 14) hx hb dX0_isInfinite_10 (by decide) ?_
    exact W.zret hx hb hr (isB_nar isB_1) (fun t ht hW => ⟨_, rfl, hE.symm, ht⟩) (fun _ h => by cases h) dX0_isInfinite_14
/-! X0_isFinite -/
def fX0_isFinite (x0 : Int32) : Int32 := (if (2139095040 : Int32) ≤ ((x0 &&& (2147483647 : Int32))) then (0 : Int32) else (1 : Int32))
set_option maxHeartbeats 4000000 in
set_option maxRecDepth 100000 in
theorem ccX0_isFinite (l : Launch) (x0 : Int32)  : Met l yX0_isFinite wsX0_isFinite { frames := 0, cells := 0, slots := 0, locals := 0 } (va_Pc [.int x0] (fun _ => True)) (vp_Si (fun r => r = fX0_isFinite x0)) 0 0 (fun _ => False) := by
  refine Met.ofW (cc := cX0_isFinite) (maxL := 1) (ret := (some .boolean)) (by decide) rfl ?_
  intro p e s m args below meth c s₁ B hml hv
  obtain ⟨rfl, -⟩ := hv
  have hx := B.exec
  have hb := B.bytes
  have hr := B.returns
  have hts := atoms_spec (ws := wsX0_isFinite) B.pre
  have hown : s.vm.findClass RX0 = some m.cls := findClass_of_methodNamed B.named
  have hlocks := B.notSynchronized
  have hl := lv_entry ([.int x0]) (n := 1) (Nat.le_of_ble_eq_true rfl)
  rw [lg_entry_eq]
  generalize (lg_sl ([.int x0]) ++ List.replicate (1 - (lg_sl ([.int x0])).length) Slot.unset).toArray = ls at hl ⊢
  have hl : lv_has ls 1 [(0, .int x0)] := hl
  have hE : fX0_isFinite x0 = fX0_isFinite x0 := rfl
  refine lv_iload_n hx hb dX0_isFinite_0 rfl (lv_at hl 0 rfl) ?_
  refine lv_ldc hx hb hown (hts (.constant RX0 121 (2147483647)) (by decide +kernel)) dX0_isFinite_1 ?_
  refine lv_iand hx hb dX0_isFinite_3 ?_
  refine lv_ldc hx hb hown (hts (.constant RX0 48 (2139095040)) (by decide +kernel)) dX0_isFinite_4 ?_
  refine lv_icmp_ge (tgt := 13) hx hb dX0_isFinite_6 (by decide) (fun c_6 => ?_) (fun c_6 => ?_)
  · replace hE := hE.trans (if_pos c_6)
    refine lv_iconst (v := 0) hx hb dX0_isFinite_13 (by decide) ?_
    exact W.zret hx hb hr (isB_nar isB_0) (fun t ht hW => ⟨_, rfl, hE.symm, ht⟩) (fun _ h => by cases h) dX0_isFinite_14
  · replace hE := hE.trans (if_neg c_6)
    refine lv_iconst (v := 1) hx hb dX0_isFinite_9 (by decide) ?_
    refine lv_goto (tgt := 14) hx hb dX0_isFinite_10 (by decide) ?_
    exact W.zret hx hb hr (isB_nar isB_1) (fun t ht hW => ⟨_, rfl, hE.symm, ht⟩) (fun _ h => by cases h) dX0_isFinite_14
/-! X0_isZero -/
def fX0_isZero (x0 : Int32) : Int32 := (if ((x0 &&& (2147483647 : Int32))) = 0 then (1 : Int32) else (0 : Int32))
set_option maxHeartbeats 4000000 in
set_option maxRecDepth 100000 in
theorem ccX0_isZero (l : Launch) (x0 : Int32)  : Met l yX0_isZero wsX0_isZero { frames := 0, cells := 0, slots := 0, locals := 0 } (va_Pc [.int x0] (fun _ => True)) (vp_Si (fun r => r = fX0_isZero x0)) 0 0 (fun _ => False) := by
  refine Met.ofW (cc := cX0_isZero) (maxL := 1) (ret := (some .boolean)) (by decide) rfl ?_
  intro p e s m args below meth c s₁ B hml hv
  obtain ⟨rfl, -⟩ := hv
  have hx := B.exec
  have hb := B.bytes
  have hr := B.returns
  have hts := atoms_spec (ws := wsX0_isZero) B.pre
  have hown : s.vm.findClass RX0 = some m.cls := findClass_of_methodNamed B.named
  have hlocks := B.notSynchronized
  have hl := lv_entry ([.int x0]) (n := 1) (Nat.le_of_ble_eq_true rfl)
  rw [lg_entry_eq]
  generalize (lg_sl ([.int x0]) ++ List.replicate (1 - (lg_sl ([.int x0])).length) Slot.unset).toArray = ls at hl ⊢
  have hl : lv_has ls 1 [(0, .int x0)] := hl
  have hE : fX0_isZero x0 = fX0_isZero x0 := rfl
  refine lv_iload_n hx hb dX0_isZero_0 rfl (lv_at hl 0 rfl) ?_
  refine lv_ldc hx hb hown (hts (.constant RX0 121 (2147483647)) (by decide +kernel)) dX0_isZero_1 ?_
  refine lv_iand hx hb dX0_isZero_3 ?_
  refine lv_if_ne (tgt := 11) hx hb dX0_isZero_4 (by decide) (fun c_4 => ?_) (fun c_4 => ?_)
  · replace hE := hE.trans (if_neg c_4)
    refine lv_iconst (v := 0) hx hb dX0_isZero_11 (by decide) ?_
    exact W.zret hx hb hr (isB_nar isB_0) (fun t ht hW => ⟨_, rfl, hE.symm, ht⟩) (fun _ h => by cases h) dX0_isZero_12
  · replace hE := hE.trans (if_pos c_4)
    refine lv_iconst (v := 1) hx hb dX0_isZero_7 (by decide) ?_
    refine lv_goto (tgt := 12) hx hb dX0_isZero_8 (by decide) ?_
    exact W.zret hx hb hr (isB_nar isB_1) (fun t ht hW => ⟨_, rfl, hE.symm, ht⟩) (fun _ h => by cases h) dX0_isZero_12
/-! X0_isZeroTimesInfinite -/
def fX0_isZeroTimesInfinite_k14 (y0 : Int32) (y1 : Int32) : Int32 := (if ((fX0_isInfinite y0)) = 0 then (0 : Int32) else (if ((fX0_isZero y1)) = 0 then (0 : Int32) else (1 : Int32)))
def fX0_isZeroTimesInfinite (x0 : Int32) (x1 : Int32) : Int32 := (if ((fX0_isZero x0)) = 0 then fX0_isZeroTimesInfinite_k14 x0 x1 else (if ((fX0_isInfinite x1)) = 0 then fX0_isZeroTimesInfinite_k14 x0 x1 else (1 : Int32)))
set_option maxHeartbeats 4000000 in
set_option maxRecDepth 100000 in
theorem ccX0_isZeroTimesInfinite (l : Launch) (x0 : Int32) (x1 : Int32)  : Met l yX0_isZeroTimesInfinite wsX0_isZeroTimesInfinite { frames := 1, cells := 0, slots := 0, locals := 20 } (va_Pc [.int x0, .int x1] (fun _ => True)) (vp_Si (fun r => r = fX0_isZeroTimesInfinite x0 x1)) 0 0 (fun _ => False) := by
  refine Met.ofW (cc := cX0_isZeroTimesInfinite) (maxL := 2) (ret := (some .boolean)) (by decide) rfl ?_
  intro p e s m args below meth c s₁ B hml hv
  obtain ⟨rfl, -⟩ := hv
  have hx := B.exec
  have hb := B.bytes
  have hr := B.returns
  have hts := atoms_spec (ws := wsX0_isZeroTimesInfinite) B.pre
  have hown : s.vm.findClass RX0 = some m.cls := findClass_of_methodNamed B.named
  have hlocks := B.notSynchronized
  have hl := lv_entry ([.int x0, .int x1]) (n := 2) (Nat.le_of_ble_eq_true rfl)
  rw [lg_entry_eq]
  generalize (lg_sl ([.int x0, .int x1]) ++ List.replicate (2 - (lg_sl ([.int x0, .int x1])).length) Slot.unset).toArray = ls at hl ⊢
  have hl : lv_has ls 2 [(0, .int x0), (1, .int x1)] := hl
  have j_14 : ∀ (y0 : Int32) (y1 : Int32) (ls : Array Slot), lv_has ls 2 [(0, .int y0), (1, .int y1)] → fX0_isZeroTimesInfinite x0 x1 = fX0_isZeroTimesInfinite_k14 y0 y1 → W p l e (headSpec wsX0_isZeroTimesInfinite { frames := 1, cells := 0, slots := 0, locals := 20 }).room s m ([.int x0, .int x1] : List Value).toArray below meth c s.heap [] 0 0 (MQ below (vp_Si (fun r => r = fX0_isZeroTimesInfinite x0 x1)) ([.int x0, .int x1] : List Value).toArray s 0 0 (fun _ => False)) (F0 m 14 ls []) := by
    intro y0 y1 ls hl hE
    refine lv_iload_n hx hb dX0_isZeroTimesInfinite_14 rfl (lv_at hl 0 rfl) ?_
    refine sc_i (W.runS (As := [.int y0]) (rest := []) ⟨hx, hb, hml, hown, hts⟩ (ccX0_isInfinite l y0 ) (va_cwS 1 hts gX0_isZeroTimesInfinite_X0_isInfinite rfl rfl rfl (by decide +kernel) ⟨Nat.le_of_ble_eq_true rfl, Nat.le_of_ble_eq_true rfl⟩) st_pre rfl rfl hl.1 rfl (lv_room (Nat.le_of_ble_eq_true rfl)) dX0_isZeroTimesInfinite_15 ⟨Nat.zero_le _, Nat.zero_le _⟩) ?_
    refine lv_if_eq (tgt := 32) hx hb dX0_isZeroTimesInfinite_18 (by decide) (fun c_18 => ?_) (fun c_18 => ?_)
    · replace hE := hE.trans (if_pos c_18)
      refine lv_iconst (v := 0) hx hb dX0_isZeroTimesInfinite_32 (by decide) ?_
      exact W.zret hx hb hr (isB_nar isB_0) (fun t ht hW => ⟨_, rfl, hE.symm, ht⟩) (fun _ h => by cases h) dX0_isZeroTimesInfinite_33
    · replace hE := hE.trans (if_neg c_18)
      refine lv_iload_n hx hb dX0_isZeroTimesInfinite_21 rfl (lv_at hl 1 rfl) ?_
      refine sc_i (W.runS (As := [.int y1]) (rest := []) ⟨hx, hb, hml, hown, hts⟩ (ccX0_isZero l y1 ) (va_cwS 1 hts gX0_isZeroTimesInfinite_X0_isZero rfl rfl rfl (by decide +kernel) ⟨Nat.le_of_ble_eq_true rfl, Nat.le_of_ble_eq_true rfl⟩) st_pre rfl rfl hl.1 rfl (lv_room (Nat.le_of_ble_eq_true rfl)) dX0_isZeroTimesInfinite_22 ⟨Nat.zero_le _, Nat.zero_le _⟩) ?_
      refine lv_if_eq (tgt := 32) hx hb dX0_isZeroTimesInfinite_25 (by decide) (fun c_25 => ?_) (fun c_25 => ?_)
      · replace hE := hE.trans (if_pos c_25)
        refine lv_iconst (v := 0) hx hb dX0_isZeroTimesInfinite_32 (by decide) ?_
        exact W.zret hx hb hr (isB_nar isB_0) (fun t ht hW => ⟨_, rfl, hE.symm, ht⟩) (fun _ h => by cases h) dX0_isZeroTimesInfinite_33
      · replace hE := hE.trans (if_neg c_25)
        refine lv_iconst (v := 1) hx hb dX0_isZeroTimesInfinite_28 (by decide) ?_
        refine lv_goto (tgt := 33) hx hb dX0_isZeroTimesInfinite_29 (by decide) ?_
        exact W.zret hx hb hr (isB_nar isB_1) (fun t ht hW => ⟨_, rfl, hE.symm, ht⟩) (fun _ h => by cases h) dX0_isZeroTimesInfinite_33
  have hE : fX0_isZeroTimesInfinite x0 x1 = fX0_isZeroTimesInfinite x0 x1 := rfl
  refine lv_iload_n hx hb dX0_isZeroTimesInfinite_0 rfl (lv_at hl 0 rfl) ?_
  refine sc_i (W.runS (As := [.int x0]) (rest := []) ⟨hx, hb, hml, hown, hts⟩ (ccX0_isZero l x0 ) (va_cwS 1 hts gX0_isZeroTimesInfinite_X0_isZero rfl rfl rfl (by decide +kernel) ⟨Nat.le_of_ble_eq_true rfl, Nat.le_of_ble_eq_true rfl⟩) st_pre rfl rfl hl.1 rfl (lv_room (Nat.le_of_ble_eq_true rfl)) dX0_isZeroTimesInfinite_1 ⟨Nat.zero_le _, Nat.zero_le _⟩) ?_
  refine lv_if_eq (tgt := 14) hx hb dX0_isZeroTimesInfinite_4 (by decide) (fun c_4 => ?_) (fun c_4 => ?_)
  · replace hE := hE.trans (if_pos c_4)
    exact j_14 x0 x1 _ (lv_sub hl [0, 1] rfl)  hE
  · replace hE := hE.trans (if_neg c_4)
    refine lv_iload_n hx hb dX0_isZeroTimesInfinite_7 rfl (lv_at hl 1 rfl) ?_
    refine sc_i (W.runS (As := [.int x1]) (rest := []) ⟨hx, hb, hml, hown, hts⟩ (ccX0_isInfinite l x1 ) (va_cwS 1 hts gX0_isZeroTimesInfinite_X0_isInfinite rfl rfl rfl (by decide +kernel) ⟨Nat.le_of_ble_eq_true rfl, Nat.le_of_ble_eq_true rfl⟩) st_pre rfl rfl hl.1 rfl (lv_room (Nat.le_of_ble_eq_true rfl)) dX0_isZeroTimesInfinite_8 ⟨Nat.zero_le _, Nat.zero_le _⟩) ?_
    refine lv_if_ne (tgt := 28) hx hb dX0_isZeroTimesInfinite_11 (by decide) (fun c_11 => ?_) (fun c_11 => ?_)
    · replace hE := hE.trans (if_neg c_11)
      refine lv_iconst (v := 1) hx hb dX0_isZeroTimesInfinite_28 (by decide) ?_
      refine lv_goto (tgt := 33) hx hb dX0_isZeroTimesInfinite_29 (by decide) ?_
      exact W.zret hx hb hr (isB_nar isB_1) (fun t ht hW => ⟨_, rfl, hE.symm, ht⟩) (fun _ h => by cases h) dX0_isZeroTimesInfinite_33
    · replace hE := hE.trans (if_pos c_11)
      exact j_14 x0 x1 _ (lv_sub hl [0, 1] rfl)  hE
/-! X0_magnitudeOf -/
def fX0_magnitudeOf_k5 (y0 : Int32) (y1 : Int32) : Int64 := (if ((fX0_exponentOf y0)) = 0 then (Int32.toInt64 y1) else (Int32.toInt64 (((8388608 : Int32) + y1))))
def fX0_magnitudeOf (x0 : Int32) : Int64 := fX0_magnitudeOf_k5 x0 ((x0 &&& (8388607 : Int32)))
set_option maxHeartbeats 4000000 in
set_option maxRecDepth 100000 in
theorem ccX0_magnitudeOf (l : Launch) (x0 : Int32)  : Met l yX0_magnitudeOf wsX0_magnitudeOf { frames := 1, cells := 0, slots := 0, locals := 20 } (va_Pc [.int x0] (fun _ => True)) (vp_Sl (fun r => r = fX0_magnitudeOf x0)) 0 0 (fun _ => False) := by
  refine Met.ofW (cc := cX0_magnitudeOf) (maxL := 2) (ret := (some .long)) (by decide) rfl ?_
  intro p e s m args below meth c s₁ B hml hv
  obtain ⟨rfl, -⟩ := hv
  have hx := B.exec
  have hb := B.bytes
  have hr := B.returns
  have hts := atoms_spec (ws := wsX0_magnitudeOf) B.pre
  have hown : s.vm.findClass RX0 = some m.cls := findClass_of_methodNamed B.named
  have hlocks := B.notSynchronized
  have hl := lv_entry ([.int x0]) (n := 2) (Nat.le_of_ble_eq_true rfl)
  rw [lg_entry_eq]
  generalize (lg_sl ([.int x0]) ++ List.replicate (2 - (lg_sl ([.int x0])).length) Slot.unset).toArray = ls at hl ⊢
  have hl : lv_has ls 2 [(0, .int x0)] := hl
  have hE : fX0_magnitudeOf x0 = fX0_magnitudeOf x0 := rfl
  refine lv_iload_n hx hb dX0_magnitudeOf_0 rfl (lv_at hl 0 rfl) ?_
  refine lv_ldc hx hb hown (hts (.constant RX0 122 (8388607)) (by decide +kernel)) dX0_magnitudeOf_1 ?_
  refine lv_iand hx hb dX0_magnitudeOf_3 ?_
  refine lv_topi (fun x1_4 e_4 => ?_)
  refine lv_istore_n (lv' := [(1, .int x1_4), (0, .int x0)]) hx hb dX0_magnitudeOf_4 rfl hl (by decide) rfl (fun ls hl => ?_)
  replace hE : fX0_magnitudeOf x0 = fX0_magnitudeOf_k5 x0 x1_4 := by rw [e_4]; exact hE
  refine lv_iload_n hx hb dX0_magnitudeOf_5 rfl (lv_at hl 1 rfl) ?_
  refine sc_i (W.runS (As := [.int x0]) (rest := []) ⟨hx, hb, hml, hown, hts⟩ (ccX0_exponentOf l x0 ) (va_cwS 1 hts gX0_magnitudeOf_X0_exponentOf rfl rfl rfl (by decide +kernel) ⟨Nat.le_of_ble_eq_true rfl, Nat.le_of_ble_eq_true rfl⟩) st_pre rfl rfl hl.1 rfl (lv_room (Nat.le_of_ble_eq_true rfl)) dX0_magnitudeOf_6 ⟨Nat.zero_le _, Nat.zero_le _⟩) ?_
  refine lv_if_ne (tgt := 17) hx hb dX0_magnitudeOf_9 (by decide) (fun c_9 => ?_) (fun c_9 => ?_)
  · replace hE := hE.trans (if_neg c_9)
    refine lv_ldc hx hb hown (hts (.constant RX0 124 (8388608)) (by decide +kernel)) dX0_magnitudeOf_17 ?_
    refine lv_iload_n hx hb dX0_magnitudeOf_19 rfl (lv_at hl 0 rfl) ?_
    refine lv_iadd hx hb dX0_magnitudeOf_20 ?_
    refine lv_i2l hx hb dX0_magnitudeOf_21 rfl ?_
    exact W.lret hx hb hr (fun t ht hW => ⟨_, rfl, hE.symm, ht⟩) (fun _ h => by cases h) dX0_magnitudeOf_22
  · replace hE := hE.trans (if_pos c_9)
    refine lv_iload_n hx hb dX0_magnitudeOf_12 rfl (lv_at hl 0 rfl) ?_
    refine lv_i2l hx hb dX0_magnitudeOf_13 rfl ?_
    refine lv_goto (tgt := 22) hx hb dX0_magnitudeOf_14 (by decide) ?_
    exact W.lret hx hb hr (fun t ht hW => ⟨_, rfl, hE.symm, ht⟩) (fun _ h => by cases h) dX0_magnitudeOf_22
/-! X0_unitOf -/
def fX0_unitOf (x0 : Int32) : Int32 := (((((if ((fX0_exponentOf x0)) < (1 : Int32) then (1 : Int32) else ((fX0_exponentOf x0)))) - (1 : Int32))) + (-149 : Int32))
set_option maxHeartbeats 4000000 in
set_option maxRecDepth 100000 in
theorem ccX0_unitOf (l : Launch) (x0 : Int32)  : Met l yX0_unitOf wsX0_unitOf { frames := 1, cells := 0, slots := 0, locals := 21 } (va_Pc [.int x0] (fun _ => True)) (vp_Si (fun r => r = fX0_unitOf x0)) 0 0 (fun _ => False) := by
  refine Met.ofW (cc := cX0_unitOf) (maxL := 1) (ret := (some .int)) (by decide) rfl ?_
  intro p e s m args below meth c s₁ B hml hv
  obtain ⟨rfl, -⟩ := hv
  have hx := B.exec
  have hb := B.bytes
  have hr := B.returns
  have hts := atoms_spec (ws := wsX0_unitOf) B.pre
  have hown : s.vm.findClass RX0 = some m.cls := findClass_of_methodNamed B.named
  have hlocks := B.notSynchronized
  have hl := lv_entry ([.int x0]) (n := 1) (Nat.le_of_ble_eq_true rfl)
  rw [lg_entry_eq]
  generalize (lg_sl ([.int x0]) ++ List.replicate (1 - (lg_sl ([.int x0])).length) Slot.unset).toArray = ls at hl ⊢
  have hl : lv_has ls 1 [(0, .int x0)] := hl
  have hE : fX0_unitOf x0 = fX0_unitOf x0 := rfl
  refine lv_iload_n hx hb dX0_unitOf_0 rfl (lv_at hl 0 rfl) ?_
  refine sc_i (W.runS (As := [.int x0]) (rest := []) ⟨hx, hb, hml, hown, hts⟩ (ccX0_exponentOf l x0 ) (va_cwS 1 hts gX0_unitOf_X0_exponentOf rfl rfl rfl (by decide +kernel) ⟨Nat.le_of_ble_eq_true rfl, Nat.le_of_ble_eq_true rfl⟩) st_pre rfl rfl hl.1 rfl (lv_room (Nat.le_of_ble_eq_true rfl)) dX0_unitOf_1 ⟨Nat.zero_le _, Nat.zero_le _⟩) ?_
  refine lv_iconst (v := 1) hx hb dX0_unitOf_4 (by decide) ?_
  refine va_mmax hx hb (hml.trans hl.1.symm) hown (hts (.methodLink RX0 88 Lib.Math.max.name) (by decide +kernel)) (hts (.static Lib.Math.max.name) (by decide +kernel)) (hts (.initialized "java/lang/Math") (by decide +kernel)) (hts (.code Lib.Math.max.name Lib.Math.max.code 2 (some .int)) (by decide +kernel)) (Nat.le_of_ble_eq_true rfl) (Nat.le_of_ble_eq_true rfl) (Nat.zero_le _) (Nat.zero_le _) dX0_unitOf_5 ?_
  refine lv_iconst (v := 1) hx hb dX0_unitOf_8 (by decide) ?_
  refine lv_isub hx hb dX0_unitOf_9 ?_
  refine lv_sipush (v := -149) hx hb dX0_unitOf_10 (by decide) ?_
  refine lv_iadd hx hb dX0_unitOf_13 ?_
  exact W.iret hx hb hr (fun t ht hW => ⟨_, rfl, hE.symm, ht⟩) (fun _ h => by cases h) dX0_unitOf_14
/-! X0_place -/
def fX0_place_k5 (y0 : Int32) (y1 : Int32) : Int32 := (if ((fX0_isNegative y0)) = 0 then y1 else (-y1))
def fX0_place (x0 : Int32) : Int32 := fX0_place_k5 x0 ((x0 &&& (2147483647 : Int32)))
set_option maxHeartbeats 4000000 in
set_option maxRecDepth 100000 in
theorem ccX0_place (l : Launch) (x0 : Int32)  : Met l yX0_place wsX0_place { frames := 1, cells := 0, slots := 0, locals := 20 } (va_Pc [.int x0] (fun _ => True)) (vp_Si (fun r => r = fX0_place x0)) 0 0 (fun _ => False) := by
  refine Met.ofW (cc := cX0_place) (maxL := 2) (ret := (some .int)) (by decide) rfl ?_
  intro p e s m args below meth c s₁ B hml hv
  obtain ⟨rfl, -⟩ := hv
  have hx := B.exec
  have hb := B.bytes
  have hr := B.returns
  have hts := atoms_spec (ws := wsX0_place) B.pre
  have hown : s.vm.findClass RX0 = some m.cls := findClass_of_methodNamed B.named
  have hlocks := B.notSynchronized
  have hl := lv_entry ([.int x0]) (n := 2) (Nat.le_of_ble_eq_true rfl)
  rw [lg_entry_eq]
  generalize (lg_sl ([.int x0]) ++ List.replicate (2 - (lg_sl ([.int x0])).length) Slot.unset).toArray = ls at hl ⊢
  have hl : lv_has ls 2 [(0, .int x0)] := hl
  have hE : fX0_place x0 = fX0_place x0 := rfl
  refine lv_iload_n hx hb dX0_place_0 rfl (lv_at hl 0 rfl) ?_
  refine lv_ldc hx hb hown (hts (.constant RX0 121 (2147483647)) (by decide +kernel)) dX0_place_1 ?_
  refine lv_iand hx hb dX0_place_3 ?_
  refine lv_topi (fun x1_4 e_4 => ?_)
  refine lv_istore_n (lv' := [(1, .int x1_4), (0, .int x0)]) hx hb dX0_place_4 rfl hl (by decide) rfl (fun ls hl => ?_)
  replace hE : fX0_place x0 = fX0_place_k5 x0 x1_4 := by rw [e_4]; exact hE
  refine lv_iload_n hx hb dX0_place_5 rfl (lv_at hl 1 rfl) ?_
  refine sc_i (W.runS (As := [.int x0]) (rest := []) ⟨hx, hb, hml, hown, hts⟩ (ccX0_isNegative l x0 ) (va_cwS 1 hts gX0_place_X0_isNegative rfl rfl rfl (by decide +kernel) ⟨Nat.le_of_ble_eq_true rfl, Nat.le_of_ble_eq_true rfl⟩) st_pre rfl rfl hl.1 rfl (lv_room (Nat.le_of_ble_eq_true rfl)) dX0_place_6 ⟨Nat.zero_le _, Nat.zero_le _⟩) ?_
  refine lv_if_eq (tgt := 17) hx hb dX0_place_9 (by decide) (fun c_9 => ?_) (fun c_9 => ?_)
  · replace hE := hE.trans (if_pos c_9)
    refine lv_iload_n hx hb dX0_place_17 rfl (lv_at hl 0 rfl) ?_
    exact W.iret hx hb hr (fun t ht hW => ⟨_, rfl, hE.symm, ht⟩) (fun _ h => by cases h) dX0_place_18
  · replace hE := hE.trans (if_neg c_9)
    refine lv_iload_n hx hb dX0_place_12 rfl (lv_at hl 0 rfl) ?_
    refine lv_ineg hx hb dX0_place_13 ?_
    refine lv_goto (tgt := 18) hx hb dX0_place_14 (by decide) ?_
    exact W.iret hx hb hr (fun t ht hW => ⟨_, rfl, hE.symm, ht⟩) (fun _ h => by cases h) dX0_place_18
/-! X0_kindWithoutSign -/
def fX0_kindWithoutSign (x0 : Int32) : Int32 := (if ((fX0_isNoNumber x0)) = 0 then (if ((fX0_isInfinite x0)) = 0 then (if ((fX0_isZero x0)) = 0 then (if ((fX0_exponentOf x0)) = 0 then (4 : Int32) else (5 : Int32)) else (3 : Int32)) else (2 : Int32)) else (if ((fX0_isLoud x0)) = 0 then (1 : Int32) else (0 : Int32)))
set_option maxHeartbeats 4000000 in
set_option maxRecDepth 100000 in
theorem ccX0_kindWithoutSign (l : Launch) (x0 : Int32)  : Met l yX0_kindWithoutSign wsX0_kindWithoutSign { frames := 2, cells := 0, slots := 0, locals := 40 } (va_Pc [.int x0] (fun _ => True)) (vp_Si (fun r => r = fX0_kindWithoutSign x0)) 0 0 (fun _ => False) := by
  refine Met.ofW (cc := cX0_kindWithoutSign) (maxL := 1) (ret := (some .int)) (by decide) rfl ?_
  intro p e s m args below meth c s₁ B hml hv
  obtain ⟨rfl, -⟩ := hv
  have hx := B.exec
  have hb := B.bytes
  have hr := B.returns
  have hts := atoms_spec (ws := wsX0_kindWithoutSign) B.pre
  have hown : s.vm.findClass RX0 = some m.cls := findClass_of_methodNamed B.named
  have hlocks := B.notSynchronized
  have hl := lv_entry ([.int x0]) (n := 1) (Nat.le_of_ble_eq_true rfl)
  rw [lg_entry_eq]
  generalize (lg_sl ([.int x0]) ++ List.replicate (1 - (lg_sl ([.int x0])).length) Slot.unset).toArray = ls at hl ⊢
  have hl : lv_has ls 1 [(0, .int x0)] := hl
  have hE : fX0_kindWithoutSign x0 = fX0_kindWithoutSign x0 := rfl
  refine lv_iload_n hx hb dX0_kindWithoutSign_0 rfl (lv_at hl 0 rfl) ?_
  refine sc_i (W.runS (As := [.int x0]) (rest := []) ⟨hx, hb, hml, hown, hts⟩ (ccX0_isNoNumber l x0 ) (va_cwS 1 hts gX0_kindWithoutSign_X0_isNoNumber rfl rfl rfl (by decide +kernel) ⟨Nat.le_of_ble_eq_true rfl, Nat.le_of_ble_eq_true rfl⟩) st_pre rfl rfl hl.1 rfl (lv_room (Nat.le_of_ble_eq_true rfl)) dX0_kindWithoutSign_1 ⟨Nat.zero_le _, Nat.zero_le _⟩) ?_
  refine lv_if_eq (tgt := 20) hx hb dX0_kindWithoutSign_4 (by decide) (fun c_4 => ?_) (fun c_4 => ?_)
  · replace hE := hE.trans (if_pos c_4)
    refine lv_iload_n hx hb dX0_kindWithoutSign_20 rfl (lv_at hl 0 rfl) ?_
    refine sc_i (W.runS (As := [.int x0]) (rest := []) ⟨hx, hb, hml, hown, hts⟩ (ccX0_isInfinite l x0 ) (va_cwS 1 hts gX0_kindWithoutSign_X0_isInfinite rfl rfl rfl (by decide +kernel) ⟨Nat.le_of_ble_eq_true rfl, Nat.le_of_ble_eq_true rfl⟩) st_pre rfl rfl hl.1 rfl (lv_room (Nat.le_of_ble_eq_true rfl)) dX0_kindWithoutSign_21 ⟨Nat.zero_le _, Nat.zero_le _⟩) ?_
    refine lv_if_eq (tgt := 29) hx hb dX0_kindWithoutSign_24 (by decide) (fun c_24 => ?_) (fun c_24 => ?_)
    · replace hE := hE.trans (if_pos c_24)
      refine lv_iload_n hx hb dX0_kindWithoutSign_29 rfl (lv_at hl 0 rfl) ?_
      refine sc_i (W.runS (As := [.int x0]) (rest := []) ⟨hx, hb, hml, hown, hts⟩ (ccX0_isZero l x0 ) (va_cwS 1 hts gX0_kindWithoutSign_X0_isZero rfl rfl rfl (by decide +kernel) ⟨Nat.le_of_ble_eq_true rfl, Nat.le_of_ble_eq_true rfl⟩) st_pre rfl rfl hl.1 rfl (lv_room (Nat.le_of_ble_eq_true rfl)) dX0_kindWithoutSign_30 ⟨Nat.zero_le _, Nat.zero_le _⟩) ?_
      refine lv_if_eq (tgt := 38) hx hb dX0_kindWithoutSign_33 (by decide) (fun c_33 => ?_) (fun c_33 => ?_)
      · replace hE := hE.trans (if_pos c_33)
        refine lv_iload_n hx hb dX0_kindWithoutSign_38 rfl (lv_at hl 0 rfl) ?_
        refine sc_i (W.runS (As := [.int x0]) (rest := []) ⟨hx, hb, hml, hown, hts⟩ (ccX0_exponentOf l x0 ) (va_cwS 1 hts gX0_kindWithoutSign_X0_exponentOf rfl rfl rfl (by decide +kernel) ⟨Nat.le_of_ble_eq_true rfl, Nat.le_of_ble_eq_true rfl⟩) st_pre rfl rfl hl.1 rfl (lv_room (Nat.le_of_ble_eq_true rfl)) dX0_kindWithoutSign_39 ⟨Nat.zero_le _, Nat.zero_le _⟩) ?_
        refine lv_if_ne (tgt := 49) hx hb dX0_kindWithoutSign_42 (by decide) (fun c_42 => ?_) (fun c_42 => ?_)
        · replace hE := hE.trans (if_neg c_42)
          refine lv_iconst (v := 5) hx hb dX0_kindWithoutSign_49 (by decide) ?_
          exact W.iret hx hb hr (fun t ht hW => ⟨_, rfl, hE.symm, ht⟩) (fun _ h => by cases h) dX0_kindWithoutSign_50
        · replace hE := hE.trans (if_pos c_42)
          refine lv_iconst (v := 4) hx hb dX0_kindWithoutSign_45 (by decide) ?_
          refine lv_goto (tgt := 50) hx hb dX0_kindWithoutSign_46 (by decide) ?_
          exact W.iret hx hb hr (fun t ht hW => ⟨_, rfl, hE.symm, ht⟩) (fun _ h => by cases h) dX0_kindWithoutSign_50
      · replace hE := hE.trans (if_neg c_33)
        refine lv_iconst (v := 3) hx hb dX0_kindWithoutSign_36 (by decide) ?_
        exact W.iret hx hb hr (fun t ht hW => ⟨_, rfl, hE.symm, ht⟩) (fun _ h => by cases h) dX0_kindWithoutSign_37
    · replace hE := hE.trans (if_neg c_24)
      refine lv_iconst (v := 2) hx hb dX0_kindWithoutSign_27 (by decide) ?_
      exact W.iret hx hb hr (fun t ht hW => ⟨_, rfl, hE.symm, ht⟩) (fun _ h => by cases h) dX0_kindWithoutSign_28
  · replace hE := hE.trans (if_neg c_4)
    refine lv_iload_n hx hb dX0_kindWithoutSign_7 rfl (lv_at hl 0 rfl) ?_
    refine sc_i (W.runS (As := [.int x0]) (rest := []) ⟨hx, hb, hml, hown, hts⟩ (ccX0_isLoud l x0 ) (va_cwS 1 hts gX0_kindWithoutSign_X0_isLoud rfl rfl rfl (by decide +kernel) ⟨Nat.le_of_ble_eq_true rfl, Nat.le_of_ble_eq_true rfl⟩) st_pre rfl rfl hl.1 rfl (lv_room (Nat.le_of_ble_eq_true rfl)) dX0_kindWithoutSign_8 ⟨Nat.zero_le _, Nat.zero_le _⟩) ?_
    refine lv_if_eq (tgt := 18) hx hb dX0_kindWithoutSign_11 (by decide) (fun c_11 => ?_) (fun c_11 => ?_)
    · replace hE := hE.trans (if_pos c_11)
      refine lv_iconst (v := 1) hx hb dX0_kindWithoutSign_18 (by decide) ?_
      exact W.iret hx hb hr (fun t ht hW => ⟨_, rfl, hE.symm, ht⟩) (fun _ h => by cases h) dX0_kindWithoutSign_19
    · replace hE := hE.trans (if_neg c_11)
      refine lv_iconst (v := 0) hx hb dX0_kindWithoutSign_14 (by decide) ?_
      refine lv_goto (tgt := 19) hx hb dX0_kindWithoutSign_15 (by decide) ?_
      exact W.iret hx hb hr (fun t ht hW => ⟨_, rfl, hE.symm, ht⟩) (fun _ h => by cases h) dX0_kindWithoutSign_19
