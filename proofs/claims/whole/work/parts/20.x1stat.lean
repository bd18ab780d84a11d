/-! X1_exponent -/
def fX1_exponent (x0 : Int32) : Int32 := (((x0 >>> ((23 : Int32) &&& 31))) &&& (255 : Int32))
set_option maxHeartbeats 4000000 in
set_option maxRecDepth 100000 in
theorem ccX1_exponent (l : Launch) (x0 : Int32)  : Met l yX1_exponent wsX1_exponent { frames := 0, cells := 0, slots := 0, locals := 0 } (va_Pc [.int x0] (fun _ => True)) (vp_Si (fun r => r = fX1_exponent x0)) 0 0 (fun _ => False) := by
  refine Met.ofW (cc := cX1_exponent) (maxL := 1) (ret := (some .int)) (by decide) rfl ?_
  intro p e s m args below meth c s₁ B hml hv
  obtain ⟨rfl, -⟩ := hv
  have hx := B.exec
  have hb := B.bytes
  have hr := B.returns
  have hts := atoms_spec (ws := wsX1_exponent) B.pre
  have hown : s.vm.findClass RX1 = some m.cls := findClass_of_methodNamed B.named
  have hlocks := B.notSynchronized
  have hl := lv_entry ([.int x0]) (n := 1) (Nat.le_of_ble_eq_true rfl)
  rw [lg_entry_eq]
  generalize (lg_sl ([.int x0]) ++ List.replicate (1 - (lg_sl ([.int x0])).length) Slot.unset).toArray = ls at hl ⊢
  have hl : lv_has ls 1 [(0, .int x0)] := hl
  have hE : fX1_exponent x0 = fX1_exponent x0 := rfl
  refine lv_iload_n hx hb dX1_exponent_0 rfl (lv_at hl 0 rfl) ?_
  refine lv_bipush (v := 23) hx hb dX1_exponent_1 (by decide) ?_
  refine lv_ishr hx hb dX1_exponent_3 ?_
  refine lv_sipush (v := 255) hx hb dX1_exponent_4 (by decide) ?_
  refine lv_iand hx hb dX1_exponent_7 ?_
  exact W.iret hx hb hr (fun t ht hW => ⟨_, rfl, hE.symm, ht⟩) (fun _ h => by cases h) dX1_exponent_8
/-! X1_fraction -/
def fX1_fraction (x0 : Int32) : Int32 := (x0 &&& (8388607 : Int32))
set_option maxHeartbeats 4000000 in
set_option maxRecDepth 100000 in
theorem ccX1_fraction (l : Launch) (x0 : Int32)  : Met l yX1_fraction wsX1_fraction { frames := 0, cells := 0, slots := 0, locals := 0 } (va_Pc [.int x0] (fun _ => True)) (vp_Si (fun r => r = fX1_fraction x0)) 0 0 (fun _ => False) := by
  refine Met.ofW (cc := cX1_fraction) (maxL := 1) (ret := (some .int)) (by decide) rfl ?_
  intro p e s m args below meth c s₁ B hml hv
  obtain ⟨rfl, -⟩ := hv
  have hx := B.exec
  have hb := B.bytes
  have hr := B.returns
  have hts := atoms_spec (ws := wsX1_fraction) B.pre
  have hown : s.vm.findClass RX1 = some m.cls := findClass_of_methodNamed B.named
  have hlocks := B.notSynchronized
  have hl := lv_entry ([.int x0]) (n := 1) (Nat.le_of_ble_eq_true rfl)
  rw [lg_entry_eq]
  generalize (lg_sl ([.int x0]) ++ List.replicate (1 - (lg_sl ([.int x0])).length) Slot.unset).toArray = ls at hl ⊢
  have hl : lv_has ls 1 [(0, .int x0)] := hl
  have hE : fX1_fraction x0 = fX1_fraction x0 := rfl
  refine lv_iload_n hx hb dX1_fraction_0 rfl (lv_at hl 0 rfl) ?_
  refine lv_ldc hx hb hown (hts (.constant RX1 20 (8388607)) (by decide +kernel)) dX1_fraction_1 ?_
  refine lv_iand hx hb dX1_fraction_3 ?_
  exact W.iret hx hb hr (fun t ht hW => ⟨_, rfl, hE.symm, ht⟩) (fun _ h => by cases h) dX1_fraction_4
/-! X1_isNone -/
def fX1_isNone (x0 : Int32) : Int32 := (if ((fX1_exponent x0)) = (255 : Int32) then (if ((fX1_fraction x0)) = 0 then (0 : Int32) else (1 : Int32)) else (0 : Int32))
set_option maxHeartbeats 4000000 in
set_option maxRecDepth 100000 in
theorem ccX1_isNone (l : Launch) (x0 : Int32)  : Met l yX1_isNone wsX1_isNone { frames := 1, cells := 0, slots := 0, locals := 20 } (va_Pc [.int x0] (fun _ => True)) (vp_Si (fun r => r = fX1_isNone x0)) 0 0 (fun _ => False) := by
  refine Met.ofW (cc := cX1_isNone) (maxL := 1) (ret := (some .boolean)) (by decide) rfl ?_
  intro p e s m args below meth c s₁ B hml hv
  obtain ⟨rfl, -⟩ := hv
  have hx := B.exec
  have hb := B.bytes
  have hr := B.returns
  have hts := atoms_spec (ws := wsX1_isNone) B.pre
  have hown : s.vm.findClass RX1 = some m.cls := findClass_of_methodNamed B.named
  have hlocks := B.notSynchronized
  have hl := lv_entry ([.int x0]) (n := 1) (Nat.le_of_ble_eq_true rfl)
  rw [lg_entry_eq]
  generalize (lg_sl ([.int x0]) ++ List.replicate (1 - (lg_sl ([.int x0])).length) Slot.unset).toArray = ls at hl ⊢
  have hl : lv_has ls 1 [(0, .int x0)] := hl
  have hE : fX1_isNone x0 = fX1_isNone x0 := rfl
  refine lv_iload_n hx hb dX1_isNone_0 rfl (lv_at hl 0 rfl) ?_
  refine sc_i (W.runS (As := [.int x0]) (rest := []) ⟨hx, hb, hml, hown, hts⟩ (ccX1_exponent l x0 ) (va_cwS 1 hts gX1_isNone_X1_exponent rfl rfl rfl (by decide +kernel) ⟨Nat.le_of_ble_eq_true rfl, Nat.le_of_ble_eq_true rfl⟩) st_pre rfl rfl hl.1 rfl (lv_room (Nat.le_of_ble_eq_true rfl)) dX1_isNone_1 ⟨Nat.zero_le _, Nat.zero_le _⟩) ?_
  refine lv_sipush (v := 255) hx hb dX1_isNone_4 (by decide) ?_
  refine lv_icmp_ne (tgt := 21) hx hb dX1_isNone_7 (by decide) (fun c_7 => ?_) (fun c_7 => ?_)
  · replace hE := hE.trans (if_neg c_7)
    refine lv_iconst (v := 0) hx hb dX1_isNone_21 (by decide) ?_
    exact W.zret hx hb hr (isB_nar isB_0) (fun t ht hW => ⟨_, rfl, hE.symm, ht⟩) (fun _ h => by cases h) dX1_isNone_22
  · replace hE := hE.trans (if_pos c_7)
    refine lv_iload_n hx hb dX1_isNone_10 rfl (lv_at hl 0 rfl) ?_
    refine sc_i (W.runS (As := [.int x0]) (rest := []) ⟨hx, hb, hml, hown, hts⟩ (ccX1_fraction l x0 ) (va_cwS 1 hts gX1_isNone_X1_fraction rfl rfl rfl (by decide +kernel) ⟨Nat.le_of_ble_eq_true rfl, Nat.le_of_ble_eq_true rfl⟩) st_pre rfl rfl hl.1 rfl (lv_room (Nat.le_of_ble_eq_true rfl)) dX1_isNone_11 ⟨Nat.zero_le _, Nat.zero_le _⟩) ?_
    refine lv_if_eq (tgt := 21) hx hb dX1_isNone_14 (by decide) (fun c_14 => ?_) (fun c_14 => ?_)
    · replace hE := hE.trans (if_pos c_14)
      refine lv_iconst (v := 0) hx hb dX1_isNone_21 (by decide) ?_
      exact W.zret hx hb hr (isB_nar isB_0) (fun t ht hW => ⟨_, rfl, hE.symm, ht⟩) (fun _ h => by cases h) dX1_isNone_22
    · replace hE := hE.trans (if_neg c_14)
      refine lv_iconst (v := 1) hx hb dX1_isNone_17 (by decide) ?_
      refine lv_goto (tgt := 22) hx hb dX1_isNone_18 (by decide) ?_
      exact W.zret hx hb hr (isB_nar isB_1) (fun t ht hW => ⟨_, rfl, hE.symm, ht⟩) (fun _ h => by cases h) dX1_isNone_22
/-! X1_isLoud -/
def fX1_isLoud (x0 : Int32) : Int32 := (if ((fX1_isNone x0)) = 0 then (0 : Int32) else (if (4194304 : Int32) ≤ ((fX1_fraction x0)) then (0 : Int32) else (1 : Int32)))
set_option maxHeartbeats 4000000 in
set_option maxRecDepth 100000 in
theorem ccX1_isLoud (l : Launch) (x0 : Int32)  : Met l yX1_isLoud wsX1_isLoud { frames := 2, cells := 0, slots := 0, locals := 40 } (va_Pc [.int x0] (fun _ => True)) (vp_Si (fun r => r = fX1_isLoud x0)) 0 0 (fun _ => False) := by
  refine Met.ofW (cc := cX1_isLoud) (maxL := 1) (ret := (some .boolean)) (by decide) rfl ?_
  intro p e s m args below meth c s₁ B hml hv
  obtain ⟨rfl, -⟩ := hv
  have hx := B.exec
  have hb := B.bytes
  have hr := B.returns
  have hts := atoms_spec (ws := wsX1_isLoud) B.pre
  have hown : s.vm.findClass RX1 = some m.cls := findClass_of_methodNamed B.named
  have hlocks := B.notSynchronized
  have hl := lv_entry ([.int x0]) (n := 1) (Nat.le_of_ble_eq_true rfl)
  rw [lg_entry_eq]
  generalize (lg_sl ([.int x0]) ++ List.replicate (1 - (lg_sl ([.int x0])).length) Slot.unset).toArray = ls at hl ⊢
  have hl : lv_has ls 1 [(0, .int x0)] := hl
  have hE : fX1_isLoud x0 = fX1_isLoud x0 := rfl
  refine lv_iload_n hx hb dX1_isLoud_0 rfl (lv_at hl 0 rfl) ?_
  refine sc_i (W.runS (As := [.int x0]) (rest := []) ⟨hx, hb, hml, hown, hts⟩ (ccX1_isNone l x0 ) (va_cwS 1 hts gX1_isLoud_X1_isNone rfl rfl rfl (by decide +kernel) ⟨Nat.le_of_ble_eq_true rfl, Nat.le_of_ble_eq_true rfl⟩) st_pre rfl rfl hl.1 rfl (lv_room (Nat.le_of_ble_eq_true rfl)) dX1_isLoud_1 ⟨Nat.zero_le _, Nat.zero_le _⟩) ?_
  refine lv_if_eq (tgt := 20) hx hb dX1_isLoud_4 (by decide) (fun c_4 => ?_) (fun c_4 => ?_)
  · replace hE := hE.trans (if_pos c_4)
    refine lv_iconst (v := 0) hx hb dX1_isLoud_20 (by decide) ?_
    exact W.zret hx hb hr (isB_nar isB_0) (fun t ht hW => ⟨_, rfl, hE.symm, ht⟩) (fun _ h => by cases h) dX1_isLoud_21
  · replace hE := hE.trans (if_neg c_4)
    refine lv_iload_n hx hb dX1_isLoud_7 rfl (lv_at hl 0 rfl) ?_
    refine sc_i (W.runS (As := [.int x0]) (rest := []) ⟨hx, hb, hml, hown, hts⟩ (ccX1_fraction l x0 ) (va_cwS 1 hts gX1_isLoud_X1_fraction rfl rfl rfl (by decide +kernel) ⟨Nat.le_of_ble_eq_true rfl, Nat.le_of_ble_eq_true rfl⟩) st_pre rfl rfl hl.1 rfl (lv_room (Nat.le_of_ble_eq_true rfl)) dX1_isLoud_8 ⟨Nat.zero_le _, Nat.zero_le _⟩) ?_
    refine lv_ldc hx hb hown (hts (.constant RX1 32 (4194304)) (by decide +kernel)) dX1_isLoud_11 ?_
    refine lv_icmp_ge (tgt := 20) hx hb dX1_isLoud_13 (by decide) (fun c_13 => ?_) (fun c_13 => ?_)
    · replace hE := hE.trans (if_pos c_13)
      refine lv_iconst (v := 0) hx hb dX1_isLoud_20 (by decide) ?_
      exact W.zret hx hb hr (isB_nar isB_0) (fun t ht hW => ⟨_, rfl, hE.symm, ht⟩) (fun _ h => by cases h) dX1_isLoud_21
    · replace hE := hE.trans (if_neg c_13)
      refine lv_iconst (v := 1) hx hb dX1_isLoud_16 (by decide) ?_
      refine lv_goto (tgt := 21) hx hb dX1_isLoud_17 (by decide) ?_
      exact W.zret hx hb hr (isB_nar isB_1) (fun t ht hW => ⟨_, rfl, hE.symm, ht⟩) (fun _ h => by cases h) dX1_isLoud_21
/-! X1_isInfinite -/
def fX1_isInfinite (x0 : Int32) : Int32 := (if ((fX1_exponent x0)) = (255 : Int32) then (if ((fX1_fraction x0)) = 0 then (1 : Int32) else (0 : Int32)) else (0 : Int32))
set_option maxHeartbeats 4000000 in
set_option maxRecDepth 100000 in
theorem ccX1_isInfinite (l : Launch) (x0 : Int32)  : Met l yX1_isInfinite wsX1_isInfinite { frames := 1, cells := 0, slots := 0, locals := 20 } (va_Pc [.int x0] (fun _ => True)) (vp_Si (fun r => r = fX1_isInfinite x0)) 0 0 (fun _ => False) := by
  refine Met.ofW (cc := cX1_isInfinite) (maxL := 1) (ret := (some .boolean)) (by decide) rfl ?_
  intro p e s m args below meth c s₁ B hml hv
  obtain ⟨rfl, -⟩ := hv
  have hx := B.exec
  have hb := B.bytes
  have hr := B.returns
  have hts := atoms_spec (ws := wsX1_isInfinite) B.pre
  have hown : s.vm.findClass RX1 = some m.cls := findClass_of_methodNamed B.named
  have hlocks := B.notSynchronized
  have hl := lv_entry ([.int x0]) (n := 1) (Nat.le_of_ble_eq_true rfl)
  rw [lg_entry_eq]
  generalize (lg_sl ([.int x0]) ++ List.replicate (1 - (lg_sl ([.int x0])).length) Slot.unset).toArray = ls at hl ⊢
  have hl : lv_has ls 1 [(0, .int x0)] := hl
  have hE : fX1_isInfinite x0 = fX1_isInfinite x0 := rfl
  refine lv_iload_n hx hb dX1_isInfinite_0 rfl (lv_at hl 0 rfl) ?_
  refine sc_i (W.runS (As := [.int x0]) (rest := []) ⟨hx, hb, hml, hown, hts⟩ (ccX1_exponent l x0 ) (va_cwS 1 hts gX1_isInfinite_X1_exponent rfl rfl rfl (by decide +kernel) ⟨Nat.le_of_ble_eq_true rfl, Nat.le_of_ble_eq_true rfl⟩) st_pre rfl rfl hl.1 rfl (lv_room (Nat.le_of_ble_eq_true rfl)) dX1_isInfinite_1 ⟨Nat.zero_le _, Nat.zero_le _⟩) ?_
  refine lv_sipush (v := 255) hx hb dX1_isInfinite_4 (by decide) ?_
  refine lv_icmp_ne (tgt := 21) hx hb dX1_isInfinite_7 (by decide) (fun c_7 => ?_) (fun c_7 => ?_)
  · replace hE := hE.trans (if_neg c_7)
    refine lv_iconst (v := 0) hx hb dX1_isInfinite_21 (by decide) ?_
    exact W.zret hx hb hr (isB_nar isB_0) (fun t ht hW => ⟨_, rfl, hE.symm, ht⟩) (fun _ h => by cases h) dX1_isInfinite_22
  · replace hE := hE.trans (if_pos c_7)
    refine lv_iload_n hx hb dX1_isInfinite_10 rfl (lv_at hl 0 rfl) ?_
    refine sc_i (W.runS (As := [.int x0]) (rest := []) ⟨hx, hb, hml, hown, hts⟩ (ccX1_fraction l x0 ) (va_cwS 1 hts gX1_isInfinite_X1_fraction rfl rfl rfl (by decide +kernel) ⟨Nat.le_of_ble_eq_true rfl, Nat.le_of_ble_eq_true rfl⟩) st_pre rfl rfl hl.1 rfl (lv_room (Nat.le_of_ble_eq_true rfl)) dX1_isInfinite_11 ⟨Nat.zero_le _, Nat.zero_le _⟩) ?_
    refine lv_if_ne (tgt := 21) hx hb dX1_isInfinite_14 (by decide) (fun c_14 => ?_) (fun c_14 => ?_)
    · replace hE := hE.trans (if_neg c_14)
      refine lv_iconst (v := 0) hx hb dX1_isInfinite_21 (by decide) ?_
      exact W.zret hx hb hr (isB_nar isB_0) (fun t ht hW => ⟨_, rfl, hE.symm, ht⟩) (fun _ h => by cases h) dX1_isInfinite_22
    · replace hE := hE.trans (if_pos c_14)
      refine lv_iconst (v := 1) hx hb dX1_isInfinite_17 (by decide) ?_
      refine lv_goto (tgt := 22) hx hb dX1_isInfinite_18 (by decide) ?_
      exact W.zret hx hb hr (isB_nar isB_1) (fun t ht hW => ⟨_, rfl, hE.symm, ht⟩) (fun _ h => by cases h) dX1_isInfinite_22
/-! X1_isZero -/
def fX1_isZero (x0 : Int32) : Int32 := (if ((x0 &&& (2147483647 : Int32))) = 0 then (1 : Int32) else (0 : Int32))
set_option maxHeartbeats 4000000 in
set_option maxRecDepth 100000 in
theorem ccX1_isZero (l : Launch) (x0 : Int32)  : Met l yX1_isZero wsX1_isZero { frames := 0, cells := 0, slots := 0, locals := 0 } (va_Pc [.int x0] (fun _ => True)) (vp_Si (fun r => r = fX1_isZero x0)) 0 0 (fun _ => False) := by
  refine Met.ofW (cc := cX1_isZero) (maxL := 1) (ret := (some .boolean)) (by decide) rfl ?_
  intro p e s m args below meth c s₁ B hml hv
  obtain ⟨rfl, -⟩ := hv
  have hx := B.exec
  have hb := B.bytes
  have hr := B.returns
  have hts := atoms_spec (ws := wsX1_isZero) B.pre
  have hown : s.vm.findClass RX1 = some m.cls := findClass_of_methodNamed B.named
  have hlocks := B.notSynchronized
  have hl := lv_entry ([.int x0]) (n := 1) (Nat.le_of_ble_eq_true rfl)
  rw [lg_entry_eq]
  generalize (lg_sl ([.int x0]) ++ List.replicate (1 - (lg_sl ([.int x0])).length) Slot.unset).toArray = ls at hl ⊢
  have hl : lv_has ls 1 [(0, .int x0)] := hl
  have hE : fX1_isZero x0 = fX1_isZero x0 := rfl
  refine lv_iload_n hx hb dX1_isZero_0 rfl (lv_at hl 0 rfl) ?_
  refine lv_ldc hx hb hown (hts (.constant RX1 33 (2147483647)) (by decide +kernel)) dX1_isZero_1 ?_
  refine lv_iand hx hb dX1_isZero_3 ?_
  refine lv_if_ne (tgt := 11) hx hb dX1_isZero_4 (by decide) (fun c_4 => ?_) (fun c_4 => ?_)
  · replace hE := hE.trans (if_neg c_4)
    refine lv_iconst (v := 0) hx hb dX1_isZero_11 (by decide) ?_
    exact W.zret hx hb hr (isB_nar isB_0) (fun t ht hW => ⟨_, rfl, hE.symm, ht⟩) (fun _ h => by cases h) dX1_isZero_12
  · replace hE := hE.trans (if_pos c_4)
    refine lv_iconst (v := 1) hx hb dX1_isZero_7 (by decide) ?_
    refine lv_goto (tgt := 12) hx hb dX1_isZero_8 (by decide) ?_
    exact W.zret hx hb hr (isB_nar isB_1) (fun t ht hW => ⟨_, rfl, hE.symm, ht⟩) (fun _ h => by cases h) dX1_isZero_12
/-! X1_isNegative -/
def fX1_isNegative (x0 : Int32) : Int32 := (if 0 ≤ x0 then (0 : Int32) else (1 : Int32))
set_option maxHeartbeats 4000000 in
set_option maxRecDepth 100000 in
theorem ccX1_isNegative (l : Launch) (x0 : Int32)  : Met l yX1_isNegative wsX1_isNegative { frames := 0, cells := 0, slots := 0, locals := 0 } (va_Pc [.int x0] (fun _ => True)) (vp_Si (fun r => r = fX1_isNegative x0)) 0 0 (fun _ => False) := by
  refine Met.ofW (cc := cX1_isNegative) (maxL := 1) (ret := (some .boolean)) (by decide) rfl ?_
  intro p e s m args below meth c s₁ B hml hv
  obtain ⟨rfl, -⟩ := hv
  have hx := B.exec
  have hb := B.bytes
  have hr := B.returns
  have hts := atoms_spec (ws := wsX1_isNegative) B.pre
  have hown : s.vm.findClass RX1 = some m.cls := findClass_of_methodNamed B.named
  have hlocks := B.notSynchronized
  have hl := lv_entry ([.int x0]) (n := 1) (Nat.le_of_ble_eq_true rfl)
  rw [lg_entry_eq]
  generalize (lg_sl ([.int x0]) ++ List.replicate (1 - (lg_sl ([.int x0])).length) Slot.unset).toArray = ls at hl ⊢
  have hl : lv_has ls 1 [(0, .int x0)] := hl
  have hE : fX1_isNegative x0 = fX1_isNegative x0 := rfl
  refine lv_iload_n hx hb dX1_isNegative_0 rfl (lv_at hl 0 rfl) ?_
  refine lv_if_ge (tgt := 8) hx hb dX1_isNegative_1 (by decide) (fun c_1 => ?_) (fun c_1 => ?_)
  · replace hE := hE.trans (if_pos c_1)
    refine lv_iconst (v := 0) hx hb dX1_isNegative_8 (by decide) ?_
    exact W.zret hx hb hr (isB_nar isB_0) (fun t ht hW => ⟨_, rfl, hE.symm, ht⟩) (fun _ h => by cases h) dX1_isNegative_9
  · replace hE := hE.trans (if_neg c_1)
    refine lv_iconst (v := 1) hx hb dX1_isNegative_4 (by decide) ?_
    refine lv_goto (tgt := 9) hx hb dX1_isNegative_5 (by decide) ?_
    exact W.zret hx hb hr (isB_nar isB_1) (fun t ht hW => ⟨_, rfl, hE.symm, ht⟩) (fun _ h => by cases h) dX1_isNegative_9
/-! X1_signed -/
def fX1_signed (x0 : Int32) (x1 : Int32) : Int32 := (if x1 = 0 then x0 else (x0 ||| (-2147483648 : Int32)))
set_option maxHeartbeats 4000000 in
set_option maxRecDepth 100000 in
theorem ccX1_signed (l : Launch) (x0 : Int32) (x1 : Int32)  : Met l yX1_signed wsX1_signed { frames := 0, cells := 0, slots := 0, locals := 0 } (va_Pc [.int x0, .int x1] (fun _ => True)) (vp_Si (fun r => r = fX1_signed x0 x1)) 0 0 (fun _ => False) := by
  refine Met.ofW (cc := cX1_signed) (maxL := 2) (ret := (some .int)) (by decide) rfl ?_
  intro p e s m args below meth c s₁ B hml hv
  obtain ⟨rfl, -⟩ := hv
  have hx := B.exec
  have hb := B.bytes
  have hr := B.returns
  have hts := atoms_spec (ws := wsX1_signed) B.pre
  have hown : s.vm.findClass RX1 = some m.cls := findClass_of_methodNamed B.named
  have hlocks := B.notSynchronized
  have hl := lv_entry ([.int x0, .int x1]) (n := 2) (Nat.le_of_ble_eq_true rfl)
  rw [lg_entry_eq]
  generalize (lg_sl ([.int x0, .int x1]) ++ List.replicate (2 - (lg_sl ([.int x0, .int x1])).length) Slot.unset).toArray = ls at hl ⊢
  have hl : lv_has ls 2 [(0, .int x0), (1, .int x1)] := hl
  have hE : fX1_signed x0 x1 = fX1_signed x0 x1 := rfl
  refine lv_iload_n hx hb dX1_signed_0 rfl (lv_at hl 1 rfl) ?_
  refine lv_if_eq (tgt := 11) hx hb dX1_signed_1 (by decide) (fun c_1 => ?_) (fun c_1 => ?_)
  · replace hE := hE.trans (if_pos c_1)
    refine lv_iload_n hx hb dX1_signed_11 rfl (lv_at hl 0 rfl) ?_
    exact W.iret hx hb hr (fun t ht hW => ⟨_, rfl, hE.symm, ht⟩) (fun _ h => by cases h) dX1_signed_12
  · replace hE := hE.trans (if_neg c_1)
    refine lv_iload_n hx hb dX1_signed_4 rfl (lv_at hl 0 rfl) ?_
    refine lv_ldc hx hb hown (hts (.constant RX1 34 (-2147483648)) (by decide +kernel)) dX1_signed_5 ?_
    refine lv_ior hx hb dX1_signed_7 ?_
    refine lv_goto (tgt := 12) hx hb dX1_signed_8 (by decide) ?_
    exact W.iret hx hb hr (fun t ht hW => ⟨_, rfl, hE.symm, ht⟩) (fun _ h => by cases h) dX1_signed_12
/-! X1_units -/
def fX1_units (x0 : Int32) : Int32 := (if ((fX1_exponent x0)) = 0 then (fX1_fraction x0) else ((8388608 : Int32) + ((fX1_fraction x0))))
set_option maxHeartbeats 4000000 in
set_option maxRecDepth 100000 in
theorem ccX1_units (l : Launch) (x0 : Int32)  : Met l yX1_units wsX1_units { frames := 1, cells := 0, slots := 0, locals := 20 } (va_Pc [.int x0] (fun _ => True)) (vp_Si (fun r => r = fX1_units x0)) 0 0 (fun _ => False) := by
  refine Met.ofW (cc := cX1_units) (maxL := 1) (ret := (some .int)) (by decide) rfl ?_
  intro p e s m args below meth c s₁ B hml hv
  obtain ⟨rfl, -⟩ := hv
  have hx := B.exec
  have hb := B.bytes
  have hr := B.returns
  have hts := atoms_spec (ws := wsX1_units) B.pre
  have hown : s.vm.findClass RX1 = some m.cls := findClass_of_methodNamed B.named
  have hlocks := B.notSynchronized
  have hl := lv_entry ([.int x0]) (n := 1) (Nat.le_of_ble_eq_true rfl)
  rw [lg_entry_eq]
  generalize (lg_sl ([.int x0]) ++ List.replicate (1 - (lg_sl ([.int x0])).length) Slot.unset).toArray = ls at hl ⊢
  have hl : lv_has ls 1 [(0, .int x0)] := hl
  have hE : fX1_units x0 = fX1_units x0 := rfl
  refine lv_iload_n hx hb dX1_units_0 rfl (lv_at hl 0 rfl) ?_
  refine sc_i (W.runS (As := [.int x0]) (rest := []) ⟨hx, hb, hml, hown, hts⟩ (ccX1_exponent l x0 ) (va_cwS 1 hts gX1_units_X1_exponent rfl rfl rfl (by decide +kernel) ⟨Nat.le_of_ble_eq_true rfl, Nat.le_of_ble_eq_true rfl⟩) st_pre rfl rfl hl.1 rfl (lv_room (Nat.le_of_ble_eq_true rfl)) dX1_units_1 ⟨Nat.zero_le _, Nat.zero_le _⟩) ?_
  refine lv_if_ne (tgt := 14) hx hb dX1_units_4 (by decide) (fun c_4 => ?_) (fun c_4 => ?_)
  · replace hE := hE.trans (if_neg c_4)
    refine lv_ldc hx hb hown (hts (.constant RX1 35 (8388608)) (by decide +kernel)) dX1_units_14 ?_
    refine lv_iload_n hx hb dX1_units_16 rfl (lv_at hl 0 rfl) ?_
    refine sc_i (W.runS (As := [.int x0]) (rest := [.int (8388608 : Int32)]) ⟨hx, hb, hml, hown, hts⟩ (ccX1_fraction l x0 ) (va_cwS 1 hts gX1_units_X1_fraction rfl rfl rfl (by decide +kernel) ⟨Nat.le_of_ble_eq_true rfl, Nat.le_of_ble_eq_true rfl⟩) st_pre rfl rfl hl.1 rfl (lv_room (Nat.le_of_ble_eq_true rfl)) dX1_units_17 ⟨Nat.zero_le _, Nat.zero_le _⟩) ?_
    refine lv_iadd hx hb dX1_units_20 ?_
    exact W.iret hx hb hr (fun t ht hW => ⟨_, rfl, hE.symm, ht⟩) (fun _ h => by cases h) dX1_units_21
  · replace hE := hE.trans (if_pos c_4)
    refine lv_iload_n hx hb dX1_units_7 rfl (lv_at hl 0 rfl) ?_
    refine sc_i (W.runS (As := [.int x0]) (rest := []) ⟨hx, hb, hml, hown, hts⟩ (ccX1_fraction l x0 ) (va_cwS 1 hts gX1_units_X1_fraction rfl rfl rfl (by decide +kernel) ⟨Nat.le_of_ble_eq_true rfl, Nat.le_of_ble_eq_true rfl⟩) st_pre rfl rfl hl.1 rfl (lv_room (Nat.le_of_ble_eq_true rfl)) dX1_units_8 ⟨Nat.zero_le _, Nat.zero_le _⟩) ?_
    refine lv_goto (tgt := 21) hx hb dX1_units_11 (by decide) ?_
    exact W.iret hx hb hr (fun t ht hW => ⟨_, rfl, hE.symm, ht⟩) (fun _ h => by cases h) dX1_units_21
/-! X1_place -/
def fX1_place (x0 : Int32) : Int32 := (if ((fX1_exponent x0)) = 0 then (-149 : Int32) else (((fX1_exponent x0)) - (150 : Int32)))
set_option maxHeartbeats 4000000 in
set_option maxRecDepth 100000 in
theorem ccX1_place (l : Launch) (x0 : Int32)  : Met l yX1_place wsX1_place { frames := 1, cells := 0, slots := 0, locals := 20 } (va_Pc [.int x0] (fun _ => True)) (vp_Si (fun r => r = fX1_place x0)) 0 0 (fun _ => False) := by
  refine Met.ofW (cc := cX1_place) (maxL := 1) (ret := (some .int)) (by decide) rfl ?_
  intro p e s m args below meth c s₁ B hml hv
  obtain ⟨rfl, -⟩ := hv
  have hx := B.exec
  have hb := B.bytes
  have hr := B.returns
  have hts := atoms_spec (ws := wsX1_place) B.pre
  have hown : s.vm.findClass RX1 = some m.cls := findClass_of_methodNamed B.named
  have hlocks := B.notSynchronized
  have hl := lv_entry ([.int x0]) (n := 1) (Nat.le_of_ble_eq_true rfl)
  rw [lg_entry_eq]
  generalize (lg_sl ([.int x0]) ++ List.replicate (1 - (lg_sl ([.int x0])).length) Slot.unset).toArray = ls at hl ⊢
  have hl : lv_has ls 1 [(0, .int x0)] := hl
  have hE : fX1_place x0 = fX1_place x0 := rfl
  refine lv_iload_n hx hb dX1_place_0 rfl (lv_at hl 0 rfl) ?_
  refine sc_i (W.runS (As := [.int x0]) (rest := []) ⟨hx, hb, hml, hown, hts⟩ (ccX1_exponent l x0 ) (va_cwS 1 hts gX1_place_X1_exponent rfl rfl rfl (by decide +kernel) ⟨Nat.le_of_ble_eq_true rfl, Nat.le_of_ble_eq_true rfl⟩) st_pre rfl rfl hl.1 rfl (lv_room (Nat.le_of_ble_eq_true rfl)) dX1_place_1 ⟨Nat.zero_le _, Nat.zero_le _⟩) ?_
  refine lv_if_ne (tgt := 13) hx hb dX1_place_4 (by decide) (fun c_4 => ?_) (fun c_4 => ?_)
  · replace hE := hE.trans (if_neg c_4)
    refine lv_iload_n hx hb dX1_place_13 rfl (lv_at hl 0 rfl) ?_
    refine sc_i (W.runS (As := [.int x0]) (rest := []) ⟨hx, hb, hml, hown, hts⟩ (ccX1_exponent l x0 ) (va_cwS 1 hts gX1_place_X1_exponent rfl rfl rfl (by decide +kernel) ⟨Nat.le_of_ble_eq_true rfl, Nat.le_of_ble_eq_true rfl⟩) st_pre rfl rfl hl.1 rfl (lv_room (Nat.le_of_ble_eq_true rfl)) dX1_place_14 ⟨Nat.zero_le _, Nat.zero_le _⟩) ?_
    refine lv_sipush (v := 150) hx hb dX1_place_17 (by decide) ?_
    refine lv_isub hx hb dX1_place_20 ?_
    exact W.iret hx hb hr (fun t ht hW => ⟨_, rfl, hE.symm, ht⟩) (fun _ h => by cases h) dX1_place_21
  · replace hE := hE.trans (if_pos c_4)
    refine lv_sipush (v := -149) hx hb dX1_place_7 (by decide) ?_
    refine lv_goto (tgt := 21) hx hb dX1_place_10 (by decide) ?_
    exact W.iret hx hb hr (fun t ht hW => ⟨_, rfl, hE.symm, ht⟩) (fun _ h => by cases h) dX1_place_21
/-! X1_rank -/
def fX1_rank (x0 : Int32) : Int32 := (if 0 ≤ x0 then x0 else (-((x0 &&& (2147483647 : Int32)))))
set_option maxHeartbeats 4000000 in
set_option maxRecDepth 100000 in
theorem ccX1_rank (l : Launch) (x0 : Int32)  : Met l yX1_rank wsX1_rank { frames := 0, cells := 0, slots := 0, locals := 0 } (va_Pc [.int x0] (fun _ => True)) (vp_Si (fun r => r = fX1_rank x0)) 0 0 (fun _ => False) := by
  refine Met.ofW (cc := cX1_rank) (maxL := 1) (ret := (some .int)) (by decide) rfl ?_
  intro p e s m args below meth c s₁ B hml hv
  obtain ⟨rfl, -⟩ := hv
  have hx := B.exec
  have hb := B.bytes
  have hr := B.returns
  have hts := atoms_spec (ws := wsX1_rank) B.pre
  have hown : s.vm.findClass RX1 = some m.cls := findClass_of_methodNamed B.named
  have hlocks := B.notSynchronized
  have hl := lv_entry ([.int x0]) (n := 1) (Nat.le_of_ble_eq_true rfl)
  rw [lg_entry_eq]
  generalize (lg_sl ([.int x0]) ++ List.replicate (1 - (lg_sl ([.int x0])).length) Slot.unset).toArray = ls at hl ⊢
  have hl : lv_has ls 1 [(0, .int x0)] := hl
  have hE : fX1_rank x0 = fX1_rank x0 := rfl
  refine lv_iload_n hx hb dX1_rank_0 rfl (lv_at hl 0 rfl) ?_
  refine lv_if_ge (tgt := 12) hx hb dX1_rank_1 (by decide) (fun c_1 => ?_) (fun c_1 => ?_)
  · replace hE := hE.trans (if_pos c_1)
    refine lv_iload_n hx hb dX1_rank_12 rfl (lv_at hl 0 rfl) ?_
    exact W.iret hx hb hr (fun t ht hW => ⟨_, rfl, hE.symm, ht⟩) (fun _ h => by cases h) dX1_rank_13
  · replace hE := hE.trans (if_neg c_1)
    refine lv_iload_n hx hb dX1_rank_4 rfl (lv_at hl 0 rfl) ?_
    refine lv_ldc hx hb hown (hts (.constant RX1 33 (2147483647)) (by decide +kernel)) dX1_rank_5 ?_
    refine lv_iand hx hb dX1_rank_7 ?_
    refine lv_ineg hx hb dX1_rank_8 ?_
    refine lv_goto (tgt := 13) hx hb dX1_rank_9 (by decide) ?_
    exact W.iret hx hb hr (fun t ht hW => ⟨_, rfl, hE.symm, ht⟩) (fun _ h => by cases h) dX1_rank_13
/-! X1_gap -/
def fX1_gap_k2 : Nat → Int32 → Int32 → Int32
  | 0, _, _ => 0
  | n + 1, y0, y1 => (if (24 : Int32) ≤ y1 then y1 else (if (8388608 : Int32) ≤ ((y0 <<< (y1 &&& 31))) then y1 else fX1_gap_k2 n y0 ((y1 + (1 : Int32)))))
theorem fX1_gap_k2_s (n : Nat) (y0 : Int32) (y1 : Int32) : fX1_gap_k2 (n + 1) y0 y1 = (if (24 : Int32) ≤ y1 then y1 else (if (8388608 : Int32) ≤ ((y0 <<< (y1 &&& 31))) then y1 else fX1_gap_k2 n y0 ((y1 + (1 : Int32))))) := rfl
def fX1_gap (x0 : Int32) : Int32 := fX1_gap_k2 25 x0 (0 : Int32)
set_option maxHeartbeats 4000000 in
set_option maxRecDepth 100000 in
theorem ccX1_gap (l : Launch) (x0 : Int32)  : Met l yX1_gap wsX1_gap { frames := 0, cells := 0, slots := 0, locals := 0 } (va_Pc [.int x0] (fun _ => True)) (vp_Si (fun r => r = fX1_gap x0)) 0 0 (fun _ => False) := by
  refine Met.ofW (cc := cX1_gap) (maxL := 2) (ret := (some .int)) (by decide) rfl ?_
  intro p e s m args below meth c s₁ B hml hv
  obtain ⟨rfl, -⟩ := hv
  have hx := B.exec
  have hb := B.bytes
  have hr := B.returns
  have hts := atoms_spec (ws := wsX1_gap) B.pre
  have hown : s.vm.findClass RX1 = some m.cls := findClass_of_methodNamed B.named
  have hlocks := B.notSynchronized
  have hl := lv_entry ([.int x0]) (n := 2) (Nat.le_of_ble_eq_true rfl)
  rw [lg_entry_eq]
  generalize (lg_sl ([.int x0]) ++ List.replicate (2 - (lg_sl ([.int x0])).length) Slot.unset).toArray = ls at hl ⊢
  have hl : lv_has ls 2 [(0, .int x0)] := hl
  have j_2 : ∀ (n : Nat) (y0 : Int32) (y1 : Int32) (ls : Array Slot), lv_has ls 2 [(0, .int y0), (1, .int y1)] → asc 24 y1 n → fX1_gap x0 = fX1_gap_k2 n y0 y1 → W p l e (headSpec wsX1_gap { frames := 0, cells := 0, slots := 0, locals := 0 }).room s m ([.int x0] : List Value).toArray below meth c s.heap [] 0 0 (MQ below (vp_Si (fun r => r = fX1_gap x0)) ([.int x0] : List Value).toArray s 0 0 (fun _ => False)) (F0 m 2 ls []) := by
    intro n
    induction n with
    | zero =>
      intro y0 y1 ls hl hM hE
      exact absurd hM asc_0
    | succ n ih =>
      intro y0 y1 ls hl hM hE
      replace hE := hE.trans (fX1_gap_k2_s n y0 y1)
      refine lv_iload_n hx hb dX1_gap_2 rfl (lv_at hl 1 rfl) ?_
      refine lv_bipush (v := 24) hx hb dX1_gap_3 (by decide) ?_
      refine lv_icmp_ge (tgt := 23) hx hb dX1_gap_5 (by decide) (fun c_5 => ?_) (fun c_5 => ?_)
      · replace hE := hE.trans (if_pos c_5)
        refine lv_iload_n hx hb dX1_gap_23 rfl (lv_at hl 1 rfl) ?_
        exact W.iret hx hb hr (fun t ht hW => ⟨_, rfl, hE.symm, ht⟩) (fun _ h => by cases h) dX1_gap_24
      · replace hE := hE.trans (if_neg c_5)
        refine lv_iload_n hx hb dX1_gap_8 rfl (lv_at hl 0 rfl) ?_
        refine lv_iload_n hx hb dX1_gap_9 rfl (lv_at hl 1 rfl) ?_
        refine lv_ishl hx hb dX1_gap_10 ?_
        refine lv_ldc hx hb hown (hts (.constant RX1 35 (8388608)) (by decide +kernel)) dX1_gap_11 ?_
        refine lv_icmp_ge (tgt := 23) hx hb dX1_gap_13 (by decide) (fun c_13 => ?_) (fun c_13 => ?_)
        · replace hE := hE.trans (if_pos c_13)
          refine lv_iload_n hx hb dX1_gap_23 rfl (lv_at hl 1 rfl) ?_
          exact W.iret hx hb hr (fun t ht hW => ⟨_, rfl, hE.symm, ht⟩) (fun _ h => by cases h) dX1_gap_24
        · replace hE := hE.trans (if_neg c_13)
          refine lv_iload_n hx hb dX1_gap_16 rfl (lv_at hl 1 rfl) ?_
          refine lv_iconst (v := 1) hx hb dX1_gap_17 (by decide) ?_
          refine lv_iadd hx hb dX1_gap_18 ?_
          refine lv_istore_n (lv' := [(1, .int (y1 + (1 : Int32))), (0, .int y0)]) hx hb dX1_gap_19 rfl hl (by decide) rfl (fun ls hl => ?_)
          refine lv_goto (tgt := 2) hx hb dX1_gap_20 (by decide) ?_
          exact ih y0 ((y1 + (1 : Int32))) _ (lv_sub hl [1, 0] rfl)  (asc_step hM (by decide) (by decide) c_5) hE
  have hE : fX1_gap x0 = fX1_gap x0 := rfl
  refine lv_iconst (v := 0) hx hb dX1_gap_0 (by decide) ?_
  refine lv_istore_n (lv' := [(1, .int (0 : Int32)), (0, .int x0)]) hx hb dX1_gap_1 rfl hl (by decide) rfl (fun ls hl => ?_)
  exact j_2 25 x0 (0 : Int32) _ (lv_sub hl [1, 0] rfl)  (asc_init 24) hE
