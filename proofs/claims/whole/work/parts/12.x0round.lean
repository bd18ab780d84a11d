/-! X0_isAwayFromZero -/
def fX0_isAwayFromZero (mo : Int32) (x1 : Int32) : Int32 := (if x1 = 0 then (if mo = (2 : Int32) then (1 : Int32) else (0 : Int32)) else (if mo = (3 : Int32) then (1 : Int32) else (0 : Int32)))
theorem bfX0_isAwayFromZero (mo : Int32) (x1 : Int32) : isB (fX0_isAwayFromZero mo x1) := by
  unfold fX0_isAwayFromZero
  (repeat' split) <;> (try unfold isB) <;> first | exact Or.inl rfl | exact Or.inr rfl | skip
set_option maxHeartbeats 4000000 in
set_option maxRecDepth 100000 in
theorem ccX0_isAwayFromZero (l : Launch) (D : va_G) (h0 : Nat) (mo fl : Int32) (x1 : Int32)  : Met l yX0_isAwayFromZero wsX0_isAwayFromZero { frames := 0, cells := 0, slots := 0, locals := 0 } (va_Pc [.ref h0, .int x1] (w0 D h0 mo fl)) (vp_Si (fun r => r = fX0_isAwayFromZero mo x1)) 0 0 (fun _ => False) := by
  refine Met.ofW (cc := cX0_isAwayFromZero) (maxL := 2) (ret := (some .boolean)) (by decide) rfl ?_
  intro p e s m args below meth c s₁ B hml hv
  obtain ⟨rfl, hP, hK⟩ := hv
  have hx := B.exec
  have hb := B.bytes
  have hr := B.returns
  have hts := atoms_spec (ws := wsX0_isAwayFromZero) B.pre
  have hown : s.vm.findClass RX0 = some m.cls := findClass_of_methodNamed B.named
  have hlocks := B.notSynchronized
  have hin0 : ∀ w ∈ wsX00, w ∈ wsX0_isAwayFromZero := fun _ h => List.mem_cons_of_mem _ (List.mem_append_right _ h)
  have hS : va_S (aw0 h0) s.heap s.heap [] := va_S.rf
  have hP : va_P D vwCl (bw0 h0 mo fl) s.heap := hP
  have hl := lv_entry ([.ref h0, .int x1]) (n := 2) (Nat.le_of_ble_eq_true rfl)
  rw [lg_entry_eq]
  generalize (lg_sl ([.ref h0, .int x1]) ++ List.replicate (2 - (lg_sl ([.ref h0, .int x1])).length) Slot.unset).toArray = ls at hl ⊢
  have hl : lv_has ls 2 [(0, .ref h0), (1, .int x1)] := hl
  have hE : fX0_isAwayFromZero mo x1 = fX0_isAwayFromZero mo x1 := rfl
  refine lv_iload_n hx hb dX0_isAwayFromZero_0 rfl (lv_at hl 1 rfl) ?_
  refine lv_if_ne (tgt := 20) hx hb dX0_isAwayFromZero_1 (by decide) (fun c_1 => ?_) (fun c_1 => ?_)
  · replace hE := hE.trans (if_neg c_1)
    refine lv_aload_n hx hb dX0_isAwayFromZero_20 rfl (lv_at hl 0 rfl) ?_
    refine va_get (D := D) (ci := 0) (v := .int mo) (C := RX0) (T := TX0) (N := 2) hx hb hts hin0 hown hK hP 0 rfl rfl 0 (by decide) (hts (.fieldLink RX0 9 "RealBits" "currentMode" "I") (by decide +kernel)) (fun _ h9 => h9) rfl dX0_isAwayFromZero_21 ?_
    refine lv_iconst (v := 3) hx hb dX0_isAwayFromZero_24 (by decide) ?_
    refine lv_icmp_ne (tgt := 32) hx hb dX0_isAwayFromZero_25 (by decide) (fun c_25 => ?_) (fun c_25 => ?_)
    · replace hE := hE.trans (if_neg c_25)
      refine lv_iconst (v := 0) hx hb dX0_isAwayFromZero_32 (by decide) ?_
      exact W.zret hx hb hr (isB_nar isB_0) (fun t ht hW => ⟨_, rfl, hE.symm, ht⟩) (fun _ h => by cases h) dX0_isAwayFromZero_33
    · replace hE := hE.trans (if_pos c_25)
      refine lv_iconst (v := 1) hx hb dX0_isAwayFromZero_28 (by decide) ?_
      refine lv_goto (tgt := 33) hx hb dX0_isAwayFromZero_29 (by decide) ?_
      exact W.zret hx hb hr (isB_nar isB_1) (fun t ht hW => ⟨_, rfl, hE.symm, ht⟩) (fun _ h => by cases h) dX0_isAwayFromZero_33
  · replace hE := hE.trans (if_pos c_1)
    refine lv_aload_n hx hb dX0_isAwayFromZero_4 rfl (lv_at hl 0 rfl) ?_
    refine va_get (D := D) (ci := 0) (v := .int mo) (C := RX0) (T := TX0) (N := 2) hx hb hts hin0 hown hK hP 0 rfl rfl 0 (by decide) (hts (.fieldLink RX0 9 "RealBits" "currentMode" "I") (by decide +kernel)) (fun _ h9 => h9) rfl dX0_isAwayFromZero_5 ?_
    refine lv_iconst (v := 2) hx hb dX0_isAwayFromZero_8 (by decide) ?_
    refine lv_icmp_ne (tgt := 16) hx hb dX0_isAwayFromZero_9 (by decide) (fun c_9 => ?_) (fun c_9 => ?_)
    · replace hE := hE.trans (if_neg c_9)
      refine lv_iconst (v := 0) hx hb dX0_isAwayFromZero_16 (by decide) ?_
      refine lv_goto (tgt := 33) hx hb dX0_isAwayFromZero_17 (by decide) ?_
      exact W.zret hx hb hr (isB_nar isB_0) (fun t ht hW => ⟨_, rfl, hE.symm, ht⟩) (fun _ h => by cases h) dX0_isAwayFromZero_33
    · replace hE := hE.trans (if_pos c_9)
      refine lv_iconst (v := 1) hx hb dX0_isAwayFromZero_12 (by decide) ?_
      refine lv_goto (tgt := 33) hx hb dX0_isAwayFromZero_13 (by decide) ?_
      exact W.zret hx hb hr (isB_nar isB_1) (fun t ht hW => ⟨_, rfl, hE.symm, ht⟩) (fun _ h => by cases h) dX0_isAwayFromZero_33
/-! X0_isStepDue -/
def fX0_isStepDue_k87 (y5 : Int32) (y6 : Int32) (z0 : Int32) (mo : Int32) : Int32 := (if y6 = 0 then (if y5 = 0 then (0 : Int32) else (if z0 = 0 then (0 : Int32) else (1 : Int32))) else (1 : Int32))
def fX0_isStepDue_k67 (y2 : Int64) (y4 : Int32) (y5 : Int32) (z0 : Int32) (mo : Int32) : Int32 := (if ((lg_cmp ((((fX0_shiftedRight y2 y4)) &&& (1 : Int64))) (0 : Int64))) = 0 then fX0_isStepDue_k87 y5 z0 (0 : Int32) mo else fX0_isStepDue_k87 y5 z0 (1 : Int32) mo)
def fX0_isStepDue_k44 (y2 : Int64) (y4 : Int32) (z0 : Int32) (mo : Int32) : Int32 := (if z0 = 0 then fX0_isStepDue_k67 y2 y4 z0 (0 : Int32) mo else (if ((fX0_isMultiple y2 ((y4 - (1 : Int32))))) = 0 then fX0_isStepDue_k67 y2 y4 z0 (1 : Int32) mo else fX0_isStepDue_k67 y2 y4 z0 (0 : Int32) mo))
def fX0_isStepDue (mo : Int32) (x1 : Int32) (x2 : Int64) (x4 : Int32) : Int32 := (if ((fX0_isMultiple x2 x4)) = 0 then (if mo = 0 then (if ((lg_cmp ((((fX0_shiftedRight x2 ((x4 - (1 : Int32))))) &&& (1 : Int64))) (0 : Int64))) = 0 then fX0_isStepDue_k44 x2 x4 (0 : Int32) mo else fX0_isStepDue_k44 x2 x4 (1 : Int32) mo) else (fX0_isAwayFromZero mo x1)) else (0 : Int32))
set_option maxHeartbeats 4000000 in
set_option maxRecDepth 100000 in
theorem ccX0_isStepDue (l : Launch) (D : va_G) (h0 : Nat) (mo fl : Int32) (x1 : Int32) (x2 : Int64) (x4 : Int32)  : Met l yX0_isStepDue wsX0_isStepDue { frames := 1, cells := 0, slots := 0, locals := 22 } (va_Pc [.ref h0, .int x1, .long x2, .int x4] (w0 D h0 mo fl)) (vp_Si (fun r => r = fX0_isStepDue mo x1 x2 x4)) 0 0 (fun _ => False) := by
  refine Met.ofW (cc := cX0_isStepDue) (maxL := 8) (ret := (some .boolean)) (by decide) rfl ?_
  intro p e s m args below meth c s₁ B hml hv
  obtain ⟨rfl, hP, hK⟩ := hv
  have hx := B.exec
  have hb := B.bytes
  have hr := B.returns
  have hts := atoms_spec (ws := wsX0_isStepDue) B.pre
  have hown : s.vm.findClass RX0 = some m.cls := findClass_of_methodNamed B.named
  have hlocks := B.notSynchronized
  have hin0 : ∀ w ∈ wsX00, w ∈ wsX0_isStepDue := fun _ h => List.mem_cons_of_mem _ (List.mem_append_right _ h)
  have hS : va_S (aw0 h0) s.heap s.heap [] := va_S.rf
  have hP : va_P D vwCl (bw0 h0 mo fl) s.heap := hP
  have hl := lv_entry ([.ref h0, .int x1, .long x2, .int x4]) (n := 8) (Nat.le_of_ble_eq_true rfl)
  rw [lg_entry_eq]
  generalize (lg_sl ([.ref h0, .int x1, .long x2, .int x4]) ++ List.replicate (8 - (lg_sl ([.ref h0, .int x1, .long x2, .int x4])).length) Slot.unset).toArray = ls at hl ⊢
  have hl : lv_has ls 8 [(0, .ref h0), (1, .int x1), (2, .long x2), (4, .int x4)] := hl
  have j_87 : ∀ (y5 : Int32) (y6 : Int32) (z0 : Int32) (ls : Array Slot), lv_has ls 8 [(5, .int y5), (6, .int y6)] → isB y5 → isB y6 → isB z0 → fX0_isStepDue mo x1 x2 x4 = fX0_isStepDue_k87 y5 y6 z0 mo → W p l e (headSpec wsX0_isStepDue { frames := 1, cells := 0, slots := 0, locals := 22 }).room s m ([.ref h0, .int x1, .long x2, .int x4] : List Value).toArray below meth c s.heap [] 0 0 (MQ below (vp_Si (fun r => r = fX0_isStepDue mo x1 x2 x4)) ([.ref h0, .int x1, .long x2, .int x4] : List Value).toArray s 0 0 (fun _ => False)) (F0 m 87 ls [.int z0]) := by
    intro y5 y6 z0 ls hl b_y5 b_y6 b_z0 hE
    refine lv_istore (lv' := [(7, .int z0), (5, .int y5), (6, .int y6)]) hx hb dX0_isStepDue_87 hl (by decide) rfl (fun ls hl => ?_)
    refine lv_iload hx hb dX0_isStepDue_89 (lv_at hl 2 rfl) ?_
    refine lv_if_ne (tgt := 104) hx hb dX0_isStepDue_91 (by decide) (fun c_91 => ?_) (fun c_91 => ?_)
    · replace hE := hE.trans (if_neg c_91)
      refine lv_iconst (v := 1) hx hb dX0_isStepDue_104 (by decide) ?_
      refine lv_goto (tgt := 109) hx hb dX0_isStepDue_105 (by decide) ?_
      exact W.zret hx hb hr (isB_nar isB_1) (fun t ht hW => ⟨_, rfl, hE.symm, ht⟩) (fun _ h => by cases h) dX0_isStepDue_109
    · replace hE := hE.trans (if_pos c_91)
      refine lv_iload hx hb dX0_isStepDue_94 (lv_at hl 1 rfl) ?_
      refine lv_if_eq (tgt := 108) hx hb dX0_isStepDue_96 (by decide) (fun c_96 => ?_) (fun c_96 => ?_)
      · replace hE := hE.trans (if_pos c_96)
        refine lv_iconst (v := 0) hx hb dX0_isStepDue_108 (by decide) ?_
        exact W.zret hx hb hr (isB_nar isB_0) (fun t ht hW => ⟨_, rfl, hE.symm, ht⟩) (fun _ h => by cases h) dX0_isStepDue_109
      · replace hE := hE.trans (if_neg c_96)
        refine lv_iload hx hb dX0_isStepDue_99 (lv_at hl 0 rfl) ?_
        refine lv_if_eq (tgt := 108) hx hb dX0_isStepDue_101 (by decide) (fun c_101 => ?_) (fun c_101 => ?_)
        · replace hE := hE.trans (if_pos c_101)
          refine lv_iconst (v := 0) hx hb dX0_isStepDue_108 (by decide) ?_
          exact W.zret hx hb hr (isB_nar isB_0) (fun t ht hW => ⟨_, rfl, hE.symm, ht⟩) (fun _ h => by cases h) dX0_isStepDue_109
        · replace hE := hE.trans (if_neg c_101)
          refine lv_iconst (v := 1) hx hb dX0_isStepDue_104 (by decide) ?_
          refine lv_goto (tgt := 109) hx hb dX0_isStepDue_105 (by decide) ?_
          exact W.zret hx hb hr (isB_nar isB_1) (fun t ht hW => ⟨_, rfl, hE.symm, ht⟩) (fun _ h => by cases h) dX0_isStepDue_109
  have j_67 : ∀ (y2 : Int64) (y4 : Int32) (y5 : Int32) (z0 : Int32) (ls : Array Slot), lv_has ls 8 [(2, .long y2), (4, .int y4), (5, .int y5)] → isB y5 → isB z0 → fX0_isStepDue mo x1 x2 x4 = fX0_isStepDue_k67 y2 y4 y5 z0 mo → W p l e (headSpec wsX0_isStepDue { frames := 1, cells := 0, slots := 0, locals := 22 }).room s m ([.ref h0, .int x1, .long x2, .int x4] : List Value).toArray below meth c s.heap [] 0 0 (MQ below (vp_Si (fun r => r = fX0_isStepDue mo x1 x2 x4)) ([.ref h0, .int x1, .long x2, .int x4] : List Value).toArray s 0 0 (fun _ => False)) (F0 m 67 ls [.int z0]) := by
    intro y2 y4 y5 z0 ls hl b_y5 b_z0 hE
    refine lv_istore (lv' := [(6, .int z0), (2, .long y2), (4, .int y4), (5, .int y5)]) hx hb dX0_isStepDue_67 hl (by decide) rfl (fun ls hl => ?_)
    refine lv_lload_n hx hb dX0_isStepDue_69 rfl (lv_at hl 1 rfl) ?_
    refine lv_iload hx hb dX0_isStepDue_70 (lv_at hl 2 rfl) ?_
    refine sc_l (W.runS (As := [.long y2, .int y4]) (rest := []) ⟨hx, hb, hml, hown, hts⟩ (ccX0_shiftedRight l y2 y4 ) (va_cwS 2 hts gX0_isStepDue_X0_shiftedRight rfl rfl rfl (by decide +kernel) ⟨Nat.le_of_ble_eq_true rfl, Nat.le_of_ble_eq_true rfl⟩) st_pre rfl rfl hl.1 rfl (lv_room (Nat.le_of_ble_eq_true rfl)) dX0_isStepDue_72 ⟨Nat.zero_le _, Nat.zero_le _⟩) ?_
    refine lv_lconst (v := 1) hx hb dX0_isStepDue_75 (by decide) ?_
    refine lv_land hx hb dX0_isStepDue_76 ?_
    refine lv_lconst (v := 0) hx hb dX0_isStepDue_77 (by decide) ?_
    refine W.lcmp hx hb dX0_isStepDue_78 ?_
    refine lv_if_eq (tgt := 86) hx hb dX0_isStepDue_79 (by decide) (fun c_79 => ?_) (fun c_79 => ?_)
    · replace hE := hE.trans (if_pos c_79)
      refine lv_iconst (v := 0) hx hb dX0_isStepDue_86 (by decide) ?_
      exact j_87 y5 z0 (0 : Int32) _ (lv_sub hl [3, 0] rfl) b_y5 b_z0 isB_0 hE
    · replace hE := hE.trans (if_neg c_79)
      refine lv_iconst (v := 1) hx hb dX0_isStepDue_82 (by decide) ?_
      refine lv_goto (tgt := 87) hx hb dX0_isStepDue_83 (by decide) ?_
      exact j_87 y5 z0 (1 : Int32) _ (lv_sub hl [3, 0] rfl) b_y5 b_z0 isB_1 hE
  have j_44 : ∀ (y2 : Int64) (y4 : Int32) (z0 : Int32) (ls : Array Slot), lv_has ls 8 [(2, .long y2), (4, .int y4)] → isB z0 → fX0_isStepDue mo x1 x2 x4 = fX0_isStepDue_k44 y2 y4 z0 mo → W p l e (headSpec wsX0_isStepDue { frames := 1, cells := 0, slots := 0, locals := 22 }).room s m ([.ref h0, .int x1, .long x2, .int x4] : List Value).toArray below meth c s.heap [] 0 0 (MQ below (vp_Si (fun r => r = fX0_isStepDue mo x1 x2 x4)) ([.ref h0, .int x1, .long x2, .int x4] : List Value).toArray s 0 0 (fun _ => False)) (F0 m 44 ls [.int z0]) := by
    intro y2 y4 z0 ls hl b_z0 hE
    refine lv_istore (lv' := [(5, .int z0), (2, .long y2), (4, .int y4)]) hx hb dX0_isStepDue_44 hl (by decide) rfl (fun ls hl => ?_)
    refine lv_iload hx hb dX0_isStepDue_46 (lv_at hl 0 rfl) ?_
    refine lv_if_eq (tgt := 66) hx hb dX0_isStepDue_48 (by decide) (fun c_48 => ?_) (fun c_48 => ?_)
    · replace hE := hE.trans (if_pos c_48)
      refine lv_iconst (v := 0) hx hb dX0_isStepDue_66 (by decide) ?_
      exact j_67 y2 y4 z0 (0 : Int32) _ (lv_sub hl [1, 2, 0] rfl) b_z0 isB_0 hE
    · replace hE := hE.trans (if_neg c_48)
      refine lv_lload_n hx hb dX0_isStepDue_51 rfl (lv_at hl 1 rfl) ?_
      refine lv_iload hx hb dX0_isStepDue_52 (lv_at hl 2 rfl) ?_
      refine lv_iconst (v := 1) hx hb dX0_isStepDue_54 (by decide) ?_
      refine lv_isub hx hb dX0_isStepDue_55 ?_
      refine sc_i (W.runS (As := [.long y2, .int (y4 - (1 : Int32))]) (rest := []) ⟨hx, hb, hml, hown, hts⟩ (ccX0_isMultiple l y2 ((y4 - (1 : Int32))) ) (va_cwS 2 hts gX0_isStepDue_X0_isMultiple rfl rfl rfl (by decide +kernel) ⟨Nat.le_of_ble_eq_true rfl, Nat.le_of_ble_eq_true rfl⟩) st_pre rfl rfl hl.1 rfl (lv_room (Nat.le_of_ble_eq_true rfl)) dX0_isStepDue_56 ⟨Nat.zero_le _, Nat.zero_le _⟩) ?_
      refine lv_if_ne (tgt := 66) hx hb dX0_isStepDue_59 (by decide) (fun c_59 => ?_) (fun c_59 => ?_)
      · replace hE := hE.trans (if_neg c_59)
        refine lv_iconst (v := 0) hx hb dX0_isStepDue_66 (by decide) ?_
        exact j_67 y2 y4 z0 (0 : Int32) _ (lv_sub hl [1, 2, 0] rfl) b_z0 isB_0 hE
      · replace hE := hE.trans (if_pos c_59)
        refine lv_iconst (v := 1) hx hb dX0_isStepDue_62 (by decide) ?_
        refine lv_goto (tgt := 67) hx hb dX0_isStepDue_63 (by decide) ?_
        exact j_67 y2 y4 z0 (1 : Int32) _ (lv_sub hl [1, 2, 0] rfl) b_z0 isB_1 hE
  have hE : fX0_isStepDue mo x1 x2 x4 = fX0_isStepDue mo x1 x2 x4 := rfl
  refine lv_lload_n hx hb dX0_isStepDue_0 rfl (lv_at hl 2 rfl) ?_
  refine lv_iload hx hb dX0_isStepDue_1 (lv_at hl 3 rfl) ?_
  refine sc_i (W.runS (As := [.long x2, .int x4]) (rest := []) ⟨hx, hb, hml, hown, hts⟩ (ccX0_isMultiple l x2 x4 ) (va_cwS 2 hts gX0_isStepDue_X0_isMultiple rfl rfl rfl (by decide +kernel) ⟨Nat.le_of_ble_eq_true rfl, Nat.le_of_ble_eq_true rfl⟩) st_pre rfl rfl hl.1 rfl (lv_room (Nat.le_of_ble_eq_true rfl)) dX0_isStepDue_3 ⟨Nat.zero_le _, Nat.zero_le _⟩) ?_
  refine lv_if_eq (tgt := 11) hx hb dX0_isStepDue_6 (by decide) (fun c_6 => ?_) (fun c_6 => ?_)
  · replace hE := hE.trans (if_pos c_6)
    refine lv_aload_n hx hb dX0_isStepDue_11 rfl (lv_at hl 0 rfl) ?_
    refine va_get (D := D) (ci := 0) (v := .int mo) (C := RX0) (T := TX0) (N := 2) hx hb hts hin0 hown hK hP 0 rfl rfl 0 (by decide) (hts (.fieldLink RX0 9 "RealBits" "currentMode" "I") (by decide +kernel)) (fun _ h9 => h9) rfl dX0_isStepDue_12 ?_
    refine lv_if_eq (tgt := 24) hx hb dX0_isStepDue_15 (by decide) (fun c_15 => ?_) (fun c_15 => ?_)
    · replace hE := hE.trans (if_pos c_15)
      refine lv_lload_n hx hb dX0_isStepDue_24 rfl (lv_at hl 2 rfl) ?_
      refine lv_iload hx hb dX0_isStepDue_25 (lv_at hl 3 rfl) ?_
      refine lv_iconst (v := 1) hx hb dX0_isStepDue_27 (by decide) ?_
      refine lv_isub hx hb dX0_isStepDue_28 ?_
      refine sc_l (W.runS (As := [.long x2, .int (x4 - (1 : Int32))]) (rest := []) ⟨hx, hb, hml, hown, hts⟩ (ccX0_shiftedRight l x2 ((x4 - (1 : Int32))) ) (va_cwS 2 hts gX0_isStepDue_X0_shiftedRight rfl rfl rfl (by decide +kernel) ⟨Nat.le_of_ble_eq_true rfl, Nat.le_of_ble_eq_true rfl⟩) st_pre rfl rfl hl.1 rfl (lv_room (Nat.le_of_ble_eq_true rfl)) dX0_isStepDue_29 ⟨Nat.zero_le _, Nat.zero_le _⟩) ?_
      refine lv_lconst (v := 1) hx hb dX0_isStepDue_32 (by decide) ?_
      refine lv_land hx hb dX0_isStepDue_33 ?_
      refine lv_lconst (v := 0) hx hb dX0_isStepDue_34 (by decide) ?_
      refine W.lcmp hx hb dX0_isStepDue_35 ?_
      refine lv_if_eq (tgt := 43) hx hb dX0_isStepDue_36 (by decide) (fun c_36 => ?_) (fun c_36 => ?_)
      · replace hE := hE.trans (if_pos c_36)
        refine lv_iconst (v := 0) hx hb dX0_isStepDue_43 (by decide) ?_
        exact j_44 x2 x4 (0 : Int32) _ (lv_sub hl [2, 3] rfl) isB_0 hE
      · replace hE := hE.trans (if_neg c_36)
        refine lv_iconst (v := 1) hx hb dX0_isStepDue_39 (by decide) ?_
        refine lv_goto (tgt := 44) hx hb dX0_isStepDue_40 (by decide) ?_
        exact j_44 x2 x4 (1 : Int32) _ (lv_sub hl [2, 3] rfl) isB_1 hE
    · replace hE := hE.trans (if_neg c_15)
      refine lv_aload_n hx hb dX0_isStepDue_18 rfl (lv_at hl 0 rfl) ?_
      refine lv_iload_n hx hb dX0_isStepDue_19 rfl (lv_at hl 1 rfl) ?_
      refine sc_i (W.runV (As := [.int x1]) (rest := []) ⟨hx, hb, hml, hown, hts⟩ (ccX0_isAwayFromZero l D h0 mo fl x1 ) (cwV 1 hts gX0_isStepDue_X0_isAwayFromZero rfl rfl rfl (by decide +kernel) ⟨Nat.le_of_ble_eq_true rfl, Nat.le_of_ble_eq_true rfl⟩) (w0_pre hK hP) rfl rfl hl.1 rfl (lv_room (Nat.le_of_ble_eq_true rfl)) dX0_isStepDue_20 ⟨Nat.zero_le _, Nat.zero_le _⟩) ?_
      exact W.zret hx hb hr (isB_nar (bfX0_isAwayFromZero mo x1)) (fun t ht hW => ⟨_, rfl, hE.symm, ht⟩) (fun _ h => by cases h) dX0_isStepDue_23
  · replace hE := hE.trans (if_neg c_6)
    refine lv_iconst (v := 0) hx hb dX0_isStepDue_9 (by decide) ?_
    exact W.zret hx hb hr (isB_nar isB_0) (fun t ht hW => ⟨_, rfl, hE.symm, ht⟩) (fun _ h => by cases h) dX0_isStepDue_10
/-! X0_multiple -/
def fX0_multiple_k19 (y1 : Int32) (y2 : Int64) (y4 : Int32) (y5 : Int64) (mo : Int32) : Int64 := (if ((fX0_isStepDue mo y1 y2 y4)) = 0 then y5 else (y5 + (1 : Int64)))
def fX0_multiple (mo : Int32) (x1 : Int32) (x2 : Int64) (x4 : Int32) : Int64 := (if 0 < x4 then fX0_multiple_k19 x1 x2 x4 ((fX0_shiftedRight x2 x4)) mo else (x2 <<< (Int32.toInt64 ((-x4)) &&& 63)))
set_option maxHeartbeats 4000000 in
set_option maxRecDepth 100000 in
theorem ccX0_multiple (l : Launch) (D : va_G) (h0 : Nat) (mo fl : Int32) (x1 : Int32) (x2 : Int64) (x4 : Int32)  : Met l yX0_multiple wsX0_multiple { frames := 2, cells := 0, slots := 0, locals := 49 } (va_Pc [.ref h0, .int x1, .long x2, .int x4] (w0 D h0 mo fl)) (vp_Sl (fun r => r = fX0_multiple mo x1 x2 x4)) 0 0 (fun _ => False) := by
  refine Met.ofW (cc := cX0_multiple) (maxL := 7) (ret := (some .long)) (by decide) rfl ?_
  intro p e s m args below meth c s₁ B hml hv
  obtain ⟨rfl, hP, hK⟩ := hv
  have hx := B.exec
  have hb := B.bytes
  have hr := B.returns
  have hts := atoms_spec (ws := wsX0_multiple) B.pre
  have hown : s.vm.findClass RX0 = some m.cls := findClass_of_methodNamed B.named
  have hlocks := B.notSynchronized
  have hS : va_S (aw0 h0) s.heap s.heap [] := va_S.rf
  have hP : va_P D vwCl (bw0 h0 mo fl) s.heap := hP
  have hl := lv_entry ([.ref h0, .int x1, .long x2, .int x4]) (n := 7) (Nat.le_of_ble_eq_true rfl)
  rw [lg_entry_eq]
  generalize (lg_sl ([.ref h0, .int x1, .long x2, .int x4]) ++ List.replicate (7 - (lg_sl ([.ref h0, .int x1, .long x2, .int x4])).length) Slot.unset).toArray = ls at hl ⊢
  have hl : lv_has ls 7 [(0, .ref h0), (1, .int x1), (2, .long x2), (4, .int x4)] := hl
  have hE : fX0_multiple mo x1 x2 x4 = fX0_multiple mo x1 x2 x4 := rfl
  refine lv_iload hx hb dX0_multiple_0 (lv_at hl 3 rfl) ?_
  refine lv_if_gt (tgt := 11) hx hb dX0_multiple_2 (by decide) (fun c_2 => ?_) (fun c_2 => ?_)
  · replace hE := hE.trans (if_pos c_2)
    refine lv_lload_n hx hb dX0_multiple_11 rfl (lv_at hl 2 rfl) ?_
    refine lv_iload hx hb dX0_multiple_12 (lv_at hl 3 rfl) ?_
    refine sc_l (W.runS (As := [.long x2, .int x4]) (rest := []) ⟨hx, hb, hml, hown, hts⟩ (ccX0_shiftedRight l x2 x4 ) (va_cwS 2 hts gX0_multiple_X0_shiftedRight rfl rfl rfl (by decide +kernel) ⟨Nat.le_of_ble_eq_true rfl, Nat.le_of_ble_eq_true rfl⟩) st_pre rfl rfl hl.1 rfl (lv_room (Nat.le_of_ble_eq_true rfl)) dX0_multiple_14 ⟨Nat.zero_le _, Nat.zero_le _⟩) ?_
    refine lv_topl (fun x5_17 e_17 => ?_)
    refine lv_lstore (lv' := [(5, .long x5_17), (0, .ref h0), (1, .int x1), (2, .long x2), (4, .int x4)]) hx hb dX0_multiple_17 hl (by decide) rfl (fun ls hl => ?_)
    replace hE : fX0_multiple mo x1 x2 x4 = fX0_multiple_k19 x1 x2 x4 x5_17 mo := by rw [e_17]; exact hE
    refine lv_aload_n hx hb dX0_multiple_19 rfl (lv_at hl 1 rfl) ?_
    refine lv_iload_n hx hb dX0_multiple_20 rfl (lv_at hl 2 rfl) ?_
    refine lv_lload_n hx hb dX0_multiple_21 rfl (lv_at hl 3 rfl) ?_
    refine lv_iload hx hb dX0_multiple_22 (lv_at hl 4 rfl) ?_
    refine sc_i (W.runV (As := [.int x1, .long x2, .int x4]) (rest := []) ⟨hx, hb, hml, hown, hts⟩ (ccX0_isStepDue l D h0 mo fl x1 x2 x4 ) (cwV 3 hts gX0_multiple_X0_isStepDue rfl rfl rfl (by decide +kernel) ⟨Nat.le_of_ble_eq_true rfl, Nat.le_of_ble_eq_true rfl⟩) (w0_pre hK hP) rfl rfl hl.1 rfl (lv_room (Nat.le_of_ble_eq_true rfl)) dX0_multiple_24 ⟨Nat.zero_le _, Nat.zero_le _⟩) ?_
    refine lv_if_eq (tgt := 37) hx hb dX0_multiple_27 (by decide) (fun c_27 => ?_) (fun c_27 => ?_)
    · replace hE := hE.trans (if_pos c_27)
      refine lv_lload hx hb dX0_multiple_37 (lv_at hl 0 rfl) ?_
      exact W.lret hx hb hr (fun t ht hW => ⟨_, rfl, hE.symm, ht⟩) (fun _ h => by cases h) dX0_multiple_39
    · replace hE := hE.trans (if_neg c_27)
      refine lv_lload hx hb dX0_multiple_30 (lv_at hl 0 rfl) ?_
      refine lv_lconst (v := 1) hx hb dX0_multiple_32 (by decide) ?_
      refine lv_ladd hx hb dX0_multiple_33 ?_
      refine lv_goto (tgt := 39) hx hb dX0_multiple_34 (by decide) ?_
      exact W.lret hx hb hr (fun t ht hW => ⟨_, rfl, hE.symm, ht⟩) (fun _ h => by cases h) dX0_multiple_39
  · replace hE := hE.trans (if_neg c_2)
    refine lv_lload_n hx hb dX0_multiple_5 rfl (lv_at hl 2 rfl) ?_
    refine lv_iload hx hb dX0_multiple_6 (lv_at hl 3 rfl) ?_
    refine lv_ineg hx hb dX0_multiple_8 ?_
    refine lv_lshl hx hb dX0_multiple_9 rfl ?_
    exact W.lret hx hb hr (fun t ht hW => ⟨_, rfl, hE.symm, ht⟩) (fun _ h => by cases h) dX0_multiple_10
/-! X0_zeroOfMode -/
def fX0_zeroOfMode (mo : Int32) : Int32 := (if mo = (3 : Int32) then (-2147483648 : Int32) else (0 : Int32))
set_option maxHeartbeats 4000000 in
set_option maxRecDepth 100000 in
theorem ccX0_zeroOfMode (l : Launch) (D : va_G) (h0 : Nat) (mo fl : Int32)   : Met l yX0_zeroOfMode wsX0_zeroOfMode { frames := 0, cells := 0, slots := 0, locals := 0 } (va_Pc [.ref h0] (w0 D h0 mo fl)) (vp_Si (fun r => r = fX0_zeroOfMode mo)) 0 0 (fun _ => False) := by
  refine Met.ofW (cc := cX0_zeroOfMode) (maxL := 1) (ret := (some .int)) (by decide) rfl ?_
  intro p e s m args below meth c s₁ B hml hv
  obtain ⟨rfl, hP, hK⟩ := hv
  have hx := B.exec
  have hb := B.bytes
  have hr := B.returns
  have hts := atoms_spec (ws := wsX0_zeroOfMode) B.pre
  have hown : s.vm.findClass RX0 = some m.cls := findClass_of_methodNamed B.named
  have hlocks := B.notSynchronized
  have hin0 : ∀ w ∈ wsX00, w ∈ wsX0_zeroOfMode := fun _ h => List.mem_cons_of_mem _ (List.mem_append_right _ h)
  have hS : va_S (aw0 h0) s.heap s.heap [] := va_S.rf
  have hP : va_P D vwCl (bw0 h0 mo fl) s.heap := hP
  have hl := lv_entry ([.ref h0]) (n := 1) (Nat.le_of_ble_eq_true rfl)
  rw [lg_entry_eq]
  generalize (lg_sl ([.ref h0]) ++ List.replicate (1 - (lg_sl ([.ref h0])).length) Slot.unset).toArray = ls at hl ⊢
  have hl : lv_has ls 1 [(0, .ref h0)] := hl
  have hE : fX0_zeroOfMode mo = fX0_zeroOfMode mo := rfl
  refine lv_aload_n hx hb dX0_zeroOfMode_0 rfl (lv_at hl 0 rfl) ?_
  refine va_get (D := D) (ci := 0) (v := .int mo) (C := RX0) (T := TX0) (N := 2) hx hb hts hin0 hown hK hP 0 rfl rfl 0 (by decide) (hts (.fieldLink RX0 9 "RealBits" "currentMode" "I") (by decide +kernel)) (fun _ h9 => h9) rfl dX0_zeroOfMode_1 ?_
  refine lv_iconst (v := 3) hx hb dX0_zeroOfMode_4 (by decide) ?_
  refine lv_icmp_ne (tgt := 13) hx hb dX0_zeroOfMode_5 (by decide) (fun c_5 => ?_) (fun c_5 => ?_)
  · replace hE := hE.trans (if_neg c_5)
    refine lv_iconst (v := 0) hx hb dX0_zeroOfMode_13 (by decide) ?_
    exact W.iret hx hb hr (fun t ht hW => ⟨_, rfl, hE.symm, ht⟩) (fun _ h => by cases h) dX0_zeroOfMode_14
  · replace hE := hE.trans (if_pos c_5)
    refine lv_ldc hx hb hown (hts (.constant RX0 21 (-2147483648)) (by decide +kernel)) dX0_zeroOfMode_8 ?_
    refine lv_goto (tgt := 14) hx hb dX0_zeroOfMode_10 (by decide) ?_
    exact W.iret hx hb hr (fun t ht hW => ⟨_, rfl, hE.symm, ht⟩) (fun _ h => by cases h) dX0_zeroOfMode_14
/-! X0_raise -/
def fX0_raise (fl : Int32) (x1 : Int32) : Int32 := (fl ||| x1)
set_option maxHeartbeats 4000000 in
set_option maxRecDepth 100000 in
theorem ccX0_raise (l : Launch) (D : va_G) (h0 : Nat) (mo fl : Int32) (x1 : Int32)  : Met l yX0_raise wsX0_raise { frames := 0, cells := 0, slots := 0, locals := 0 } (va_Pc [.ref h0, .int x1] (w0 D h0 mo fl)) (va_Qv (fun u : Int32 => u = fX0_raise fl x1) (fun u t => w0 D h0 mo u t) (aw0 h0)) 0 0 (aw0 h0) := by
  refine Met.ofW (cc := cX0_raise) (maxL := 2) (ret := none) (by decide) rfl ?_
  intro p e s m args below meth c s₁ B hml hv
  obtain ⟨rfl, hP, hK⟩ := hv
  have hx := B.exec
  have hb := B.bytes
  have hr := B.returns
  have hts := atoms_spec (ws := wsX0_raise) B.pre
  have hown : s.vm.findClass RX0 = some m.cls := findClass_of_methodNamed B.named
  have hlocks := B.notSynchronized
  have hin0 : ∀ w ∈ wsX00, w ∈ wsX0_raise := fun _ h => List.mem_cons_of_mem _ (List.mem_append_right _ h)
  have hS : va_S (aw0 h0) s.heap s.heap [] := va_S.rf
  have hP : va_P D vwCl (bw0 h0 mo fl) s.heap := hP
  have hl := lv_entry ([.ref h0, .int x1]) (n := 2) (Nat.le_of_ble_eq_true rfl)
  rw [lg_entry_eq]
  generalize (lg_sl ([.ref h0, .int x1]) ++ List.replicate (2 - (lg_sl ([.ref h0, .int x1])).length) Slot.unset).toArray = ls at hl ⊢
  have hl : lv_has ls 2 [(0, .ref h0), (1, .int x1)] := hl
  have hE : fX0_raise fl x1 = fX0_raise fl x1 := rfl
  refine lv_aload_n hx hb dX0_raise_0 rfl (lv_at hl 0 rfl) ?_
  refine lv_dup hx hb dX0_raise_1 rfl ?_
  refine va_get (D := D) (ci := 0) (v := .int fl) (C := RX0) (T := TX0) (N := 2) hx hb hts hin0 hown hK hP 0 rfl rfl 1 (by decide) (hts (.fieldLink RX0 13 "RealBits" "raisedFlags" "I") (by decide +kernel)) (fun _ h9 => h9) rfl dX0_raise_2 ?_
  refine lv_iload_n hx hb dX0_raise_5 rfl (lv_at hl 1 rfl) ?_
  refine lv_ior hx hb dX0_raise_6 ?_
  refine va_put (D := D) (ci := 0) (v := .int (fl ||| x1)) (ty := .int) (C := RX0) (T := TX0) (N := 2) hx hb hts hin0 tyX0 tyX0_ok nmX0 hown hK hP dw0 hS 0 rfl rfl 1 (by decide) (hts (.fieldLink RX0 13 "RealBits" "raisedFlags" "I") (by decide +kernel)) (fun _ h9 => h9) rfl (by decide +kernel) rfl rfl (Nat.le_of_ble_eq_true rfl) dX0_raise_7 (fun H locs hP _ hS => ?_)
  have hP : va_P D vwCl (bw0 h0 mo ((fl ||| x1))) H := hP
  exact W.vret hx hb hr (fun t ht hW => ⟨⟨((fl ||| x1)), rfl, hE.symm, by rw [ht]; exact hP, va_K.moved hW.alike hK⟩, hS.F ht⟩) hS.2.2 dX0_raise_10
/-! X0_noNumber -/
def fX0_noNumber_k10 (vfl : Int32) : Int32 × Int32 := ((2143289344 : Int32), vfl)
def fX0_noNumber (fl : Int32) (x1 : Int32) : Int32 × Int32 := (if x1 = 0 then ((2143289344 : Int32), fl) else fX0_noNumber_k10 ((fX0_raise fl (16 : Int32))))
set_option maxHeartbeats 4000000 in
set_option maxRecDepth 100000 in
theorem ccX0_noNumber (l : Launch) (D : va_G) (h0 : Nat) (mo fl : Int32) (x1 : Int32)  : Met l yX0_noNumber wsX0_noNumber { frames := 1, cells := 0, slots := 0, locals := 21 } (va_Pc [.ref h0, .int x1] (w0 D h0 mo fl)) (va_Qi (fun (r : Int32) (u : Int32) => (r, u) = fX0_noNumber fl x1) (fun u t => w0 D h0 mo u t) (aw0 h0)) 0 0 (aw0 h0) := by
  refine Met.ofW (cc := cX0_noNumber) (maxL := 2) (ret := (some .int)) (by decide) rfl ?_
  intro p e s m args below meth c s₁ B hml hv
  obtain ⟨rfl, hP, hK⟩ := hv
  have hx := B.exec
  have hb := B.bytes
  have hr := B.returns
  have hts := atoms_spec (ws := wsX0_noNumber) B.pre
  have hown : s.vm.findClass RX0 = some m.cls := findClass_of_methodNamed B.named
  have hlocks := B.notSynchronized
  have hS : va_S (aw0 h0) s.heap s.heap [] := va_S.rf
  have hP : va_P D vwCl (bw0 h0 mo fl) s.heap := hP
  have hl := lv_entry ([.ref h0, .int x1]) (n := 2) (Nat.le_of_ble_eq_true rfl)
  rw [lg_entry_eq]
  generalize (lg_sl ([.ref h0, .int x1]) ++ List.replicate (2 - (lg_sl ([.ref h0, .int x1])).length) Slot.unset).toArray = ls at hl ⊢
  have hl : lv_has ls 2 [(0, .ref h0), (1, .int x1)] := hl
  have hE : fX0_noNumber fl x1 = fX0_noNumber fl x1 := rfl
  refine lv_iload_n hx hb dX0_noNumber_0 rfl (lv_at hl 1 rfl) ?_
  refine lv_if_eq (tgt := 10) hx hb dX0_noNumber_1 (by decide) (fun c_1 => ?_) (fun c_1 => ?_)
  · replace hE := hE.trans (if_pos c_1)
    refine lv_ldc hx hb hown (hts (.constant RX0 125 (2143289344)) (by decide +kernel)) dX0_noNumber_10 ?_
    exact W.iret hx hb hr (fun t ht hW => ⟨⟨_, fl, rfl, hE.symm, by rw [ht]; exact hP, va_K.moved hW.alike hK⟩, hS.F ht⟩) hS.2.2 dX0_noNumber_12
  · replace hE := hE.trans (if_neg c_1)
    refine lv_aload_n hx hb dX0_noNumber_4 rfl (lv_at hl 0 rfl) ?_
    refine lv_bipush (v := 16) hx hb dX0_noNumber_5 (by decide) ?_
    refine k0_callv (va_runV (As := [.int (16 : Int32)]) (rest := []) ⟨hx, hb, hml, hown, hts⟩ (ccX0_raise l D h0 mo fl (16 : Int32) ) (cwV 1 hts gX0_noNumber_X0_raise rfl rfl rfl (by decide +kernel) ⟨Nat.le_of_ble_eq_true rfl, Nat.le_of_ble_eq_true rfl⟩) (w0_pre hK hP) rfl rfl hl.1 rfl (lv_room (Nat.le_of_ble_eq_true rfl)) dX0_noNumber_7 ⟨Nat.zero_le _, Nat.zero_le _⟩) hS (fun u H locs hw hP hS => ?_)
    obtain ⟨fl_7, rfl⟩ : ∃ z, z = u := ⟨_, rfl⟩
    have hP : va_P D vwCl (bw0 h0 mo fl_7) H := hP
    replace hE : fX0_noNumber fl x1 = fX0_noNumber_k10 fl_7 := by have h : fX0_noNumber fl x1 = fX0_noNumber_k10 ((fX0_raise fl (16 : Int32))) := hE; rw [← hw] at h; exact h
    refine lv_ldc hx hb hown (hts (.constant RX0 125 (2143289344)) (by decide +kernel)) dX0_noNumber_10 ?_
    exact W.iret hx hb hr (fun t ht hW => ⟨⟨_, fl_7, rfl, hE.symm, by rw [ht]; exact hP, va_K.moved hW.alike hK⟩, hS.F ht⟩) hS.2.2 dX0_noNumber_12
/-! X0_invalid -/
def fX0_invalid_k6 (vfl : Int32) : Int32 × Int32 := ((2143289344 : Int32), vfl)
def fX0_invalid (fl : Int32) : Int32 × Int32 := fX0_invalid_k6 ((fX0_raise fl (16 : Int32)))
set_option maxHeartbeats 4000000 in
set_option maxRecDepth 100000 in
theorem ccX0_invalid (l : Launch) (D : va_G) (h0 : Nat) (mo fl : Int32)   : Met l yX0_invalid wsX0_invalid { frames := 1, cells := 0, slots := 0, locals := 21 } (va_Pc [.ref h0] (w0 D h0 mo fl)) (va_Qi (fun (r : Int32) (u : Int32) => (r, u) = fX0_invalid fl) (fun u t => w0 D h0 mo u t) (aw0 h0)) 0 0 (aw0 h0) := by
  refine Met.ofW (cc := cX0_invalid) (maxL := 1) (ret := (some .int)) (by decide) rfl ?_
  intro p e s m args below meth c s₁ B hml hv
  obtain ⟨rfl, hP, hK⟩ := hv
  have hx := B.exec
  have hb := B.bytes
  have hr := B.returns
  have hts := atoms_spec (ws := wsX0_invalid) B.pre
  have hown : s.vm.findClass RX0 = some m.cls := findClass_of_methodNamed B.named
  have hlocks := B.notSynchronized
  have hS : va_S (aw0 h0) s.heap s.heap [] := va_S.rf
  have hP : va_P D vwCl (bw0 h0 mo fl) s.heap := hP
  have hl := lv_entry ([.ref h0]) (n := 1) (Nat.le_of_ble_eq_true rfl)
  rw [lg_entry_eq]
  generalize (lg_sl ([.ref h0]) ++ List.replicate (1 - (lg_sl ([.ref h0])).length) Slot.unset).toArray = ls at hl ⊢
  have hl : lv_has ls 1 [(0, .ref h0)] := hl
  have hE : fX0_invalid fl = fX0_invalid fl := rfl
  refine lv_aload_n hx hb dX0_invalid_0 rfl (lv_at hl 0 rfl) ?_
  refine lv_bipush (v := 16) hx hb dX0_invalid_1 (by decide) ?_
  refine k0_callv (va_runV (As := [.int (16 : Int32)]) (rest := []) ⟨hx, hb, hml, hown, hts⟩ (ccX0_raise l D h0 mo fl (16 : Int32) ) (cwV 1 hts gX0_invalid_X0_raise rfl rfl rfl (by decide +kernel) ⟨Nat.le_of_ble_eq_true rfl, Nat.le_of_ble_eq_true rfl⟩) (w0_pre hK hP) rfl rfl hl.1 rfl (lv_room (Nat.le_of_ble_eq_true rfl)) dX0_invalid_3 ⟨Nat.zero_le _, Nat.zero_le _⟩) hS (fun u H locs hw hP hS => ?_)
  obtain ⟨fl_3, rfl⟩ : ∃ z, z = u := ⟨_, rfl⟩
  have hP : va_P D vwCl (bw0 h0 mo fl_3) H := hP
  replace hE : fX0_invalid fl = fX0_invalid_k6 fl_3 := by have h : fX0_invalid fl = fX0_invalid_k6 ((fX0_raise fl (16 : Int32))) := hE; rw [← hw] at h; exact h
  refine lv_ldc hx hb hown (hts (.constant RX0 125 (2143289344)) (by decide +kernel)) dX0_invalid_6 ?_
  exact W.iret hx hb hr (fun t ht hW => ⟨⟨_, fl_3, rfl, hE.symm, by rw [ht]; exact hP, va_K.moved hW.alike hK⟩, hS.F ht⟩) hS.2.2 dX0_invalid_8
/-! X0_invalidInt -/
def fX0_invalidInt_k6 (vfl : Int32) : Int32 × Int32 := ((-2147483648 : Int32), vfl)
def fX0_invalidInt (fl : Int32) : Int32 × Int32 := fX0_invalidInt_k6 ((fX0_raise fl (16 : Int32)))
set_option maxHeartbeats 4000000 in
set_option maxRecDepth 100000 in
theorem ccX0_invalidInt (l : Launch) (D : va_G) (h0 : Nat) (mo fl : Int32)   : Met l yX0_invalidInt wsX0_invalidInt { frames := 1, cells := 0, slots := 0, locals := 21 } (va_Pc [.ref h0] (w0 D h0 mo fl)) (va_Qi (fun (r : Int32) (u : Int32) => (r, u) = fX0_invalidInt fl) (fun u t => w0 D h0 mo u t) (aw0 h0)) 0 0 (aw0 h0) := by
  refine Met.ofW (cc := cX0_invalidInt) (maxL := 1) (ret := (some .int)) (by decide) rfl ?_
  intro p e s m args below meth c s₁ B hml hv
  obtain ⟨rfl, hP, hK⟩ := hv
  have hx := B.exec
  have hb := B.bytes
  have hr := B.returns
  have hts := atoms_spec (ws := wsX0_invalidInt) B.pre
  have hown : s.vm.findClass RX0 = some m.cls := findClass_of_methodNamed B.named
  have hlocks := B.notSynchronized
  have hS : va_S (aw0 h0) s.heap s.heap [] := va_S.rf
  have hP : va_P D vwCl (bw0 h0 mo fl) s.heap := hP
  have hl := lv_entry ([.ref h0]) (n := 1) (Nat.le_of_ble_eq_true rfl)
  rw [lg_entry_eq]
  generalize (lg_sl ([.ref h0]) ++ List.replicate (1 - (lg_sl ([.ref h0])).length) Slot.unset).toArray = ls at hl ⊢
  have hl : lv_has ls 1 [(0, .ref h0)] := hl
  have hE : fX0_invalidInt fl = fX0_invalidInt fl := rfl
  refine lv_aload_n hx hb dX0_invalidInt_0 rfl (lv_at hl 0 rfl) ?_
  refine lv_bipush (v := 16) hx hb dX0_invalidInt_1 (by decide) ?_
  refine k0_callv (va_runV (As := [.int (16 : Int32)]) (rest := []) ⟨hx, hb, hml, hown, hts⟩ (ccX0_raise l D h0 mo fl (16 : Int32) ) (cwV 1 hts gX0_invalidInt_X0_raise rfl rfl rfl (by decide +kernel) ⟨Nat.le_of_ble_eq_true rfl, Nat.le_of_ble_eq_true rfl⟩) (w0_pre hK hP) rfl rfl hl.1 rfl (lv_room (Nat.le_of_ble_eq_true rfl)) dX0_invalidInt_3 ⟨Nat.zero_le _, Nat.zero_le _⟩) hS (fun u H locs hw hP hS => ?_)
  obtain ⟨fl_3, rfl⟩ : ∃ z, z = u := ⟨_, rfl⟩
  have hP : va_P D vwCl (bw0 h0 mo fl_3) H := hP
  replace hE : fX0_invalidInt fl = fX0_invalidInt_k6 fl_3 := by have h : fX0_invalidInt fl = fX0_invalidInt_k6 ((fX0_raise fl (16 : Int32))) := hE; rw [← hw] at h; exact h
  refine lv_ldc hx hb hown (hts (.constant RX0 21 (-2147483648)) (by decide +kernel)) dX0_invalidInt_6 ?_
  exact W.iret hx hb hr (fun t ht hW => ⟨⟨_, fl_3, rfl, hE.symm, by rw [ht]; exact hP, va_K.moved hW.alike hK⟩, hS.F ht⟩) hS.2.2 dX0_invalidInt_8
/-! X0_overflowed -/
def fX0_overflowed_k25 (y1 : Int32) (z0 : Int32) (mo : Int32) (vfl : Int32) : Int32 × Int32 := (if z0 = 0 then ((y1 ||| (2139095039 : Int32)), vfl) else ((y1 ||| (2139095040 : Int32)), vfl))
def fX0_overflowed_k5 (y1 : Int32) (mo : Int32) (vfl : Int32) : Int32 × Int32 := (if mo = 0 then fX0_overflowed_k25 y1 (1 : Int32) mo vfl else (if ((fX0_isAwayFromZero mo y1)) = 0 then fX0_overflowed_k25 y1 (0 : Int32) mo vfl else fX0_overflowed_k25 y1 (1 : Int32) mo vfl))
def fX0_overflowed (mo : Int32) (fl : Int32) (x1 : Int32) : Int32 × Int32 := fX0_overflowed_k5 x1 mo ((fX0_raise fl (5 : Int32)))
set_option maxHeartbeats 4000000 in
set_option maxRecDepth 100000 in
theorem ccX0_overflowed (l : Launch) (D : va_G) (h0 : Nat) (mo fl : Int32) (x1 : Int32)  : Met l yX0_overflowed wsX0_overflowed { frames := 1, cells := 0, slots := 0, locals := 21 } (va_Pc [.ref h0, .int x1] (w0 D h0 mo fl)) (va_Qi (fun (r : Int32) (u : Int32) => (r, u) = fX0_overflowed mo fl x1) (fun u t => w0 D h0 mo u t) (aw0 h0)) 0 0 (aw0 h0) := by
  refine Met.ofW (cc := cX0_overflowed) (maxL := 3) (ret := (some .int)) (by decide) rfl ?_
  intro p e s m args below meth c s₁ B hml hv
  obtain ⟨rfl, hP, hK⟩ := hv
  have hx := B.exec
  have hb := B.bytes
  have hr := B.returns
  have hts := atoms_spec (ws := wsX0_overflowed) B.pre
  have hown : s.vm.findClass RX0 = some m.cls := findClass_of_methodNamed B.named
  have hlocks := B.notSynchronized
  have hin0 : ∀ w ∈ wsX00, w ∈ wsX0_overflowed := fun _ h => List.mem_cons_of_mem _ (List.mem_append_right _ h)
  have hS : va_S (aw0 h0) s.heap s.heap [] := va_S.rf
  have hP : va_P D vwCl (bw0 h0 mo fl) s.heap := hP
  have hl := lv_entry ([.ref h0, .int x1]) (n := 3) (Nat.le_of_ble_eq_true rfl)
  rw [lg_entry_eq]
  generalize (lg_sl ([.ref h0, .int x1]) ++ List.replicate (3 - (lg_sl ([.ref h0, .int x1])).length) Slot.unset).toArray = ls at hl ⊢
  have hl : lv_has ls 3 [(0, .ref h0), (1, .int x1)] := hl
  have j_25 : ∀ (y1 : Int32) (z0 : Int32) (vfl : Int32) (H : Heap) (locs : List Loc) (ls : Array Slot), va_P D vwCl (bw0 h0 mo vfl) H → va_S (aw0 h0) s.heap H locs → lv_has ls 3 [(1, .int y1)] → isB z0 → fX0_overflowed mo fl x1 = fX0_overflowed_k25 y1 z0 mo vfl → W p l e (headSpec wsX0_overflowed { frames := 1, cells := 0, slots := 0, locals := 21 }).room s m ([.ref h0, .int x1] : List Value).toArray below meth c H locs 0 0 (MQ below (va_Qi (fun (r : Int32) (u : Int32) => (r, u) = fX0_overflowed mo fl x1) (fun u t => w0 D h0 mo u t) (aw0 h0)) ([.ref h0, .int x1] : List Value).toArray s 0 0 (aw0 h0)) (F0 m 25 ls [.int z0]) := by
    intro y1 z0 vfl H locs ls hP hS hl b_z0 hE
    refine lv_istore_n (lv' := [(2, .int z0), (1, .int y1)]) hx hb dX0_overflowed_25 rfl hl (by decide) rfl (fun ls hl => ?_)
    refine lv_iload_n hx hb dX0_overflowed_26 rfl (lv_at hl 1 rfl) ?_
    refine lv_iload_n hx hb dX0_overflowed_27 rfl (lv_at hl 0 rfl) ?_
    refine lv_if_eq (tgt := 36) hx hb dX0_overflowed_28 (by decide) (fun c_28 => ?_) (fun c_28 => ?_)
    · replace hE := hE.trans (if_pos c_28)
      refine lv_ldc hx hb hown (hts (.constant RX0 151 (2139095039)) (by decide +kernel)) dX0_overflowed_36 ?_
      refine lv_ior hx hb dX0_overflowed_38 ?_
      exact W.iret hx hb hr (fun t ht hW => ⟨⟨_, vfl, rfl, hE.symm, by rw [ht]; exact hP, va_K.moved hW.alike hK⟩, hS.F ht⟩) hS.2.2 dX0_overflowed_39
    · replace hE := hE.trans (if_neg c_28)
      refine lv_ldc hx hb hown (hts (.constant RX0 48 (2139095040)) (by decide +kernel)) dX0_overflowed_31 ?_
      refine lv_goto (tgt := 38) hx hb dX0_overflowed_33 (by decide) ?_
      refine lv_ior hx hb dX0_overflowed_38 ?_
      exact W.iret hx hb hr (fun t ht hW => ⟨⟨_, vfl, rfl, hE.symm, by rw [ht]; exact hP, va_K.moved hW.alike hK⟩, hS.F ht⟩) hS.2.2 dX0_overflowed_39
  have hE : fX0_overflowed mo fl x1 = fX0_overflowed mo fl x1 := rfl
  refine lv_aload_n hx hb dX0_overflowed_0 rfl (lv_at hl 0 rfl) ?_
  refine lv_iconst (v := 5) hx hb dX0_overflowed_1 (by decide) ?_
  refine k0_callv (va_runV (As := [.int (5 : Int32)]) (rest := []) ⟨hx, hb, hml, hown, hts⟩ (ccX0_raise l D h0 mo fl (5 : Int32) ) (cwV 1 hts gX0_overflowed_X0_raise rfl rfl rfl (by decide +kernel) ⟨Nat.le_of_ble_eq_true rfl, Nat.le_of_ble_eq_true rfl⟩) (w0_pre hK hP) rfl rfl hl.1 rfl (lv_room (Nat.le_of_ble_eq_true rfl)) dX0_overflowed_2 ⟨Nat.zero_le _, Nat.zero_le _⟩) hS (fun u H locs hw hP hS => ?_)
  obtain ⟨fl_2, rfl⟩ : ∃ z, z = u := ⟨_, rfl⟩
  have hP : va_P D vwCl (bw0 h0 mo fl_2) H := hP
  replace hE : fX0_overflowed mo fl x1 = fX0_overflowed_k5 x1 mo fl_2 := by have h : fX0_overflowed mo fl x1 = fX0_overflowed_k5 x1 mo ((fX0_raise fl (5 : Int32))) := hE; rw [← hw] at h; exact h
  refine lv_aload_n hx hb dX0_overflowed_5 rfl (lv_at hl 0 rfl) ?_
  refine va_get (D := D) (ci := 0) (v := .int mo) (C := RX0) (T := TX0) (N := 2) hx hb hts hin0 hown hK hP 0 rfl rfl 0 (by decide) (hts (.fieldLink RX0 9 "RealBits" "currentMode" "I") (by decide +kernel)) (fun _ h9 => h9) rfl dX0_overflowed_6 ?_
  refine lv_if_eq (tgt := 20) hx hb dX0_overflowed_9 (by decide) (fun c_9 => ?_) (fun c_9 => ?_)
  · replace hE := hE.trans (if_pos c_9)
    refine lv_iconst (v := 1) hx hb dX0_overflowed_20 (by decide) ?_
    refine lv_goto (tgt := 25) hx hb dX0_overflowed_21 (by decide) ?_
    exact j_25 x1 (1 : Int32) fl_2 _ _ _ hP hS (lv_sub hl [1] rfl) isB_1 hE
  · replace hE := hE.trans (if_neg c_9)
    refine lv_aload_n hx hb dX0_overflowed_12 rfl (lv_at hl 0 rfl) ?_
    refine lv_iload_n hx hb dX0_overflowed_13 rfl (lv_at hl 1 rfl) ?_
    refine sc_i (W.runV (As := [.int x1]) (rest := []) ⟨hx, hb, hml, hown, hts⟩ (ccX0_isAwayFromZero l D h0 mo fl_2 x1 ) (cwV 1 hts gX0_overflowed_X0_isAwayFromZero rfl rfl rfl (by decide +kernel) ⟨Nat.le_of_ble_eq_true rfl, Nat.le_of_ble_eq_true rfl⟩) (w0_pre hK hP) rfl rfl hl.1 rfl (lv_room (Nat.le_of_ble_eq_true rfl)) dX0_overflowed_14 ⟨Nat.zero_le _, Nat.zero_le _⟩) ?_
    refine lv_if_eq (tgt := 24) hx hb dX0_overflowed_17 (by decide) (fun c_17 => ?_) (fun c_17 => ?_)
    · replace hE := hE.trans (if_pos c_17)
      refine lv_iconst (v := 0) hx hb dX0_overflowed_24 (by decide) ?_
      exact j_25 x1 (0 : Int32) fl_2 _ _ _ hP hS (lv_sub hl [1] rfl) isB_0 hE
    · replace hE := hE.trans (if_neg c_17)
      refine lv_iconst (v := 1) hx hb dX0_overflowed_20 (by decide) ?_
      refine lv_goto (tgt := 25) hx hb dX0_overflowed_21 (by decide) ?_
      exact j_25 x1 (1 : Int32) fl_2 _ _ _ hP hS (lv_sub hl [1] rfl) isB_1 hE
/-! X0_rounded -/
def fX0_rounded_k121 (z0 : Int32) (mo : Int32) (vfl : Int32) : Int32 × Int32 := (z0, vfl)
def fX0_rounded_k99 (y1 : Int32) (y9 : Int64) (mo : Int32) (vfl : Int32) : Int32 × Int32 := (if 0 ≤ ((lg_cmp y9 (2139095040 : Int64))) then fX0_rounded_k121 ((fX0_overflowed mo vfl y1).1) mo ((fX0_overflowed mo vfl y1).2) else ((y1 ||| ((Int64.toInt32 y9))), vfl))
def fX0_rounded_k80 (y1 : Int32) (y2 : Int64) (y4 : Int32) (y6 : Int32) (y7 : Int64) (mo : Int32) (vfl : Int32) : Int32 × Int32 := fX0_rounded_k99 y1 ((((y7 <<< (Int32.toInt64 (23 : Int32) &&& 63))) + ((fX0_multiple mo y1 y2 ((y6 - y4)))))) mo vfl
def fX0_rounded_k71 (y1 : Int32) (y2 : Int64) (y4 : Int32) (y6 : Int32) (mo : Int32) (vfl : Int32) : Int32 × Int32 := fX0_rounded_k80 y1 y2 y4 y6 ((Int32.toInt64 ((y6 - (-149 : Int32))))) mo vfl
def fX0_rounded_k47 (y1 : Int32) (y2 : Int64) (y4 : Int32) (y5 : Int32) (y6 : Int32) (mo : Int32) (vfl : Int32) : Int32 × Int32 := (if ((fX0_isTiny ((fX0_multiple mo y1 y2 ((y5 - y4)))) y5)) = 0 then fX0_rounded_k71 y1 y2 y4 y6 mo vfl else fX0_rounded_k71 y1 y2 y4 y6 mo ((fX0_raise vfl (2 : Int32))))
def fX0_rounded_k30 (y1 : Int32) (y2 : Int64) (y4 : Int32) (y5 : Int32) (y6 : Int32) (mo : Int32) (vfl : Int32) : Int32 × Int32 := (if ((fX0_isMultiple y2 ((y6 - y4)))) = 0 then fX0_rounded_k47 y1 y2 y4 y5 y6 mo ((fX0_raise vfl (1 : Int32))) else fX0_rounded_k71 y1 y2 y4 y6 mo vfl)
def fX0_rounded_k20 (y1 : Int32) (y2 : Int64) (y4 : Int32) (y5 : Int32) (mo : Int32) (vfl : Int32) : Int32 × Int32 := fX0_rounded_k30 y1 y2 y4 y5 ((if y5 < (-149 : Int32) then (-149 : Int32) else y5)) mo vfl
def fX0_rounded (mo : Int32) (fl : Int32) (x1 : Int32) (x2 : Int64) (x4 : Int32) : Int32 × Int32 := (if ((lg_cmp x2 (0 : Int64))) = 0 then (x1, fl) else fX0_rounded_k20 x1 x2 x4 ((((x4 + ((fX0_bitLength x2)))) - (24 : Int32))) mo fl)
set_option maxHeartbeats 4000000 in
set_option maxRecDepth 100000 in
theorem ccX0_rounded (l : Launch) (D : va_G) (h0 : Nat) (mo fl : Int32) (x1 : Int32) (x2 : Int64) (x4 : Int32)  : Met l yX0_rounded wsX0_rounded { frames := 4, cells := 0, slots := 0, locals := 86 } (va_Pc [.ref h0, .int x1, .long x2, .int x4] (w0 D h0 mo fl)) (va_Qi (fun (r : Int32) (u : Int32) => (r, u) = fX0_rounded mo fl x1 x2 x4) (fun u t => w0 D h0 mo u t) (aw0 h0)) 0 0 (aw0 h0) := by
  refine Met.ofW (cc := cX0_rounded) (maxL := 11) (ret := (some .int)) (by decide) rfl ?_
  intro p e s m args below meth c s₁ B hml hv
  obtain ⟨rfl, hP, hK⟩ := hv
  have hx := B.exec
  have hb := B.bytes
  have hr := B.returns
  have hts := atoms_spec (ws := wsX0_rounded) B.pre
  have hown : s.vm.findClass RX0 = some m.cls := findClass_of_methodNamed B.named
  have hlocks := B.notSynchronized
  have hS : va_S (aw0 h0) s.heap s.heap [] := va_S.rf
  have hP : va_P D vwCl (bw0 h0 mo fl) s.heap := hP
  have hl := lv_entry ([.ref h0, .int x1, .long x2, .int x4]) (n := 11) (Nat.le_of_ble_eq_true rfl)
  rw [lg_entry_eq]
  generalize (lg_sl ([.ref h0, .int x1, .long x2, .int x4]) ++ List.replicate (11 - (lg_sl ([.ref h0, .int x1, .long x2, .int x4])).length) Slot.unset).toArray = ls at hl ⊢
  have hl : lv_has ls 11 [(0, .ref h0), (1, .int x1), (2, .long x2), (4, .int x4)] := hl
  have j_71 : ∀ (y1 : Int32) (y2 : Int64) (y4 : Int32) (y6 : Int32) (vfl : Int32) (H : Heap) (locs : List Loc) (ls : Array Slot), va_P D vwCl (bw0 h0 mo vfl) H → va_S (aw0 h0) s.heap H locs → lv_has ls 11 [(0, .ref h0), (1, .int y1), (2, .long y2), (4, .int y4), (6, .int y6)] → fX0_rounded mo fl x1 x2 x4 = fX0_rounded_k71 y1 y2 y4 y6 mo vfl → W p l e (headSpec wsX0_rounded { frames := 4, cells := 0, slots := 0, locals := 86 }).room s m ([.ref h0, .int x1, .long x2, .int x4] : List Value).toArray below meth c H locs 0 0 (MQ below (va_Qi (fun (r : Int32) (u : Int32) => (r, u) = fX0_rounded mo fl x1 x2 x4) (fun u t => w0 D h0 mo u t) (aw0 h0)) ([.ref h0, .int x1, .long x2, .int x4] : List Value).toArray s 0 0 (aw0 h0)) (F0 m 71 ls []) := by
    intro y1 y2 y4 y6 vfl H locs ls hP hS hl hE
    refine lv_iload hx hb dX0_rounded_71 (lv_at hl 4 rfl) ?_
    refine lv_sipush (v := -149) hx hb dX0_rounded_73 (by decide) ?_
    refine lv_isub hx hb dX0_rounded_76 ?_
    refine lv_i2l hx hb dX0_rounded_77 rfl ?_
    refine lv_topl (fun x7_78 e_78 => ?_)
    refine lv_lstore (lv' := [(7, .long x7_78), (0, .ref h0), (1, .int y1), (2, .long y2), (4, .int y4), (6, .int y6)]) hx hb dX0_rounded_78 hl (by decide) rfl (fun ls hl => ?_)
    replace hE : fX0_rounded mo fl x1 x2 x4 = fX0_rounded_k80 y1 y2 y4 y6 x7_78 mo vfl := by rw [e_78]; exact hE
    refine lv_lload hx hb dX0_rounded_80 (lv_at hl 0 rfl) ?_
    refine lv_bipush (v := 23) hx hb dX0_rounded_82 (by decide) ?_
    refine lv_lshl hx hb dX0_rounded_84 rfl ?_
    refine lv_aload_n hx hb dX0_rounded_85 rfl (lv_at hl 1 rfl) ?_
    refine lv_iload_n hx hb dX0_rounded_86 rfl (lv_at hl 2 rfl) ?_
    refine lv_lload_n hx hb dX0_rounded_87 rfl (lv_at hl 3 rfl) ?_
    refine lv_iload hx hb dX0_rounded_88 (lv_at hl 5 rfl) ?_
    refine lv_iload hx hb dX0_rounded_90 (lv_at hl 4 rfl) ?_
    refine lv_isub hx hb dX0_rounded_92 ?_
    refine sc_l (W.runV (As := [.int y1, .long y2, .int (y6 - y4)]) (rest := [.long (x7_78 <<< (Int32.toInt64 (23 : Int32) &&& 63))]) ⟨hx, hb, hml, hown, hts⟩ (ccX0_multiple l D h0 mo vfl y1 y2 ((y6 - y4)) ) (cwV 3 hts gX0_rounded_X0_multiple rfl rfl rfl (by decide +kernel) ⟨Nat.le_of_ble_eq_true rfl, Nat.le_of_ble_eq_true rfl⟩) (w0_pre hK hP) rfl rfl hl.1 rfl (lv_room (Nat.le_of_ble_eq_true rfl)) dX0_rounded_93 ⟨Nat.zero_le _, Nat.zero_le _⟩) ?_
    refine lv_ladd hx hb dX0_rounded_96 ?_
    refine lv_topl (fun x9_97 e_97 => ?_)
    refine lv_lstore (lv' := [(9, .long x9_97), (7, .long x7_78), (0, .ref h0), (1, .int y1), (2, .long y2), (4, .int y4), (6, .int y6)]) hx hb dX0_rounded_97 hl (by decide) rfl (fun ls hl => ?_)
    replace hE : fX0_rounded mo fl x1 x2 x4 = fX0_rounded_k99 y1 x9_97 mo vfl := by rw [e_97]; exact hE
    refine lv_lload hx hb dX0_rounded_99 (lv_at hl 0 rfl) ?_
    refine lv_ldc2 hx hb hown (hts (.constantLong RX0 143 (2139095040)) (by decide +kernel)) dX0_rounded_101 ?_
    refine W.lcmp hx hb dX0_rounded_104 ?_
    refine lv_if_ge (tgt := 116) hx hb dX0_rounded_105 (by decide) (fun c_105 => ?_) (fun c_105 => ?_)
    · replace hE := hE.trans (if_pos c_105)
      refine lv_aload_n hx hb dX0_rounded_116 rfl (lv_at hl 2 rfl) ?_
      refine lv_iload_n hx hb dX0_rounded_117 rfl (lv_at hl 3 rfl) ?_
      refine k0_calli (va_runV (As := [.int y1]) (rest := []) ⟨hx, hb, hml, hown, hts⟩ (ccX0_overflowed l D h0 mo vfl y1 ) (cwV 1 hts gX0_rounded_X0_overflowed rfl rfl rfl (by decide +kernel) ⟨Nat.le_of_ble_eq_true rfl, Nat.le_of_ble_eq_true rfl⟩) (w0_pre hK hP) rfl rfl hl.1 rfl (lv_room (Nat.le_of_ble_eq_true rfl)) dX0_rounded_118 ⟨Nat.zero_le _, Nat.zero_le _⟩) hS (fun r_118 u H locs hw hP hS => ?_)
      obtain ⟨fl_118, rfl⟩ : ∃ z, z = u := ⟨_, rfl⟩
      have hP : va_P D vwCl (bw0 h0 mo fl_118) H := hP
      replace hE : fX0_rounded mo fl x1 x2 x4 = fX0_rounded_k121 r_118 mo fl_118 := by have h : fX0_rounded mo fl x1 x2 x4 = fX0_rounded_k121 ((fX0_overflowed mo vfl y1).1) mo ((fX0_overflowed mo vfl y1).2) := hE; rw [← hw] at h; exact h
      exact W.iret hx hb hr (fun t ht hW => ⟨⟨_, fl_118, rfl, hE.symm, by rw [ht]; exact hP, va_K.moved hW.alike hK⟩, hS.F ht⟩) hS.2.2 dX0_rounded_121
    · replace hE := hE.trans (if_neg c_105)
      refine lv_iload_n hx hb dX0_rounded_108 rfl (lv_at hl 3 rfl) ?_
      refine lv_lload hx hb dX0_rounded_109 (lv_at hl 0 rfl) ?_
      refine lv_l2i hx hb dX0_rounded_111 rfl ?_
      refine lv_ior hx hb dX0_rounded_112 ?_
      refine lv_goto (tgt := 121) hx hb dX0_rounded_113 (by decide) ?_
      exact W.iret hx hb hr (fun t ht hW => ⟨⟨_, vfl, rfl, hE.symm, by rw [ht]; exact hP, va_K.moved hW.alike hK⟩, hS.F ht⟩) hS.2.2 dX0_rounded_121
  have hE : fX0_rounded mo fl x1 x2 x4 = fX0_rounded mo fl x1 x2 x4 := rfl
  refine lv_lload_n hx hb dX0_rounded_0 rfl (lv_at hl 2 rfl) ?_
  refine lv_lconst (v := 0) hx hb dX0_rounded_1 (by decide) ?_
  refine W.lcmp hx hb dX0_rounded_2 ?_
  refine lv_if_ne (tgt := 8) hx hb dX0_rounded_3 (by decide) (fun c_3 => ?_) (fun c_3 => ?_)
  · replace hE := hE.trans (if_neg c_3)
    refine lv_iload hx hb dX0_rounded_8 (lv_at hl 3 rfl) ?_
    refine lv_lload_n hx hb dX0_rounded_10 rfl (lv_at hl 2 rfl) ?_
    refine sc_i (W.runS (As := [.long x2]) (rest := [.int x4]) ⟨hx, hb, hml, hown, hts⟩ (ccX0_bitLength l x2 ) (va_cwS 1 hts gX0_rounded_X0_bitLength rfl rfl rfl (by decide +kernel) ⟨Nat.le_of_ble_eq_true rfl, Nat.le_of_ble_eq_true rfl⟩) st_pre rfl rfl hl.1 rfl (lv_room (Nat.le_of_ble_eq_true rfl)) dX0_rounded_11 ⟨Nat.zero_le _, Nat.zero_le _⟩) ?_
    refine lv_iadd hx hb dX0_rounded_14 ?_
    refine lv_bipush (v := 24) hx hb dX0_rounded_15 (by decide) ?_
    refine lv_isub hx hb dX0_rounded_17 ?_
    refine lv_topi (fun x5_18 e_18 => ?_)
    refine lv_istore (lv' := [(5, .int x5_18), (0, .ref h0), (1, .int x1), (2, .long x2), (4, .int x4)]) hx hb dX0_rounded_18 hl (by decide) rfl (fun ls hl => ?_)
    replace hE : fX0_rounded mo fl x1 x2 x4 = fX0_rounded_k20 x1 x2 x4 x5_18 mo fl := by rw [e_18]; exact hE
    refine lv_iload hx hb dX0_rounded_20 (lv_at hl 0 rfl) ?_
    refine lv_sipush (v := -149) hx hb dX0_rounded_22 (by decide) ?_
    refine va_mmax hx hb (hml.trans hl.1.symm) hown (hts (.methodLink RX0 88 Lib.Math.max.name) (by decide +kernel)) (hts (.static Lib.Math.max.name) (by decide +kernel)) (hts (.initialized "java/lang/Math") (by decide +kernel)) (hts (.code Lib.Math.max.name Lib.Math.max.code 2 (some .int)) (by decide +kernel)) (Nat.le_of_ble_eq_true rfl) (Nat.le_of_ble_eq_true rfl) (Nat.zero_le _) (Nat.zero_le _) dX0_rounded_25 ?_
    refine lv_topi (fun x6_28 e_28 => ?_)
    refine lv_istore (lv' := [(6, .int x6_28), (5, .int x5_18), (0, .ref h0), (1, .int x1), (2, .long x2), (4, .int x4)]) hx hb dX0_rounded_28 hl (by decide) rfl (fun ls hl => ?_)
    replace hE : fX0_rounded mo fl x1 x2 x4 = fX0_rounded_k30 x1 x2 x4 x5_18 x6_28 mo fl := by rw [e_28]; exact hE
    refine lv_lload_n hx hb dX0_rounded_30 rfl (lv_at hl 4 rfl) ?_
    refine lv_iload hx hb dX0_rounded_31 (lv_at hl 0 rfl) ?_
    refine lv_iload hx hb dX0_rounded_33 (lv_at hl 5 rfl) ?_
    refine lv_isub hx hb dX0_rounded_35 ?_
    refine sc_i (W.runS (As := [.long x2, .int (x6_28 - x4)]) (rest := []) ⟨hx, hb, hml, hown, hts⟩ (ccX0_isMultiple l x2 ((x6_28 - x4)) ) (va_cwS 2 hts gX0_rounded_X0_isMultiple rfl rfl rfl (by decide +kernel) ⟨Nat.le_of_ble_eq_true rfl, Nat.le_of_ble_eq_true rfl⟩) st_pre rfl rfl hl.1 rfl (lv_room (Nat.le_of_ble_eq_true rfl)) dX0_rounded_36 ⟨Nat.zero_le _, Nat.zero_le _⟩) ?_
    refine lv_if_ne (tgt := 71) hx hb dX0_rounded_39 (by decide) (fun c_39 => ?_) (fun c_39 => ?_)
    · replace hE := hE.trans (if_neg c_39)
      exact j_71 x1 x2 x4 x6_28 fl _ _ _ hP hS (lv_sub hl [2, 3, 4, 5, 0] rfl)  hE
    · replace hE := hE.trans (if_pos c_39)
      refine lv_aload_n hx hb dX0_rounded_42 rfl (lv_at hl 2 rfl) ?_
      refine lv_iconst (v := 1) hx hb dX0_rounded_43 (by decide) ?_
      refine k0_callv (va_runV (As := [.int (1 : Int32)]) (rest := []) ⟨hx, hb, hml, hown, hts⟩ (ccX0_raise l D h0 mo fl (1 : Int32) ) (cwV 1 hts gX0_rounded_X0_raise rfl rfl rfl (by decide +kernel) ⟨Nat.le_of_ble_eq_true rfl, Nat.le_of_ble_eq_true rfl⟩) (w0_pre hK hP) rfl rfl hl.1 rfl (lv_room (Nat.le_of_ble_eq_true rfl)) dX0_rounded_44 ⟨Nat.zero_le _, Nat.zero_le _⟩) hS (fun u H locs hw hP hS => ?_)
      obtain ⟨fl_44, rfl⟩ : ∃ z, z = u := ⟨_, rfl⟩
      have hP : va_P D vwCl (bw0 h0 mo fl_44) H := hP
      replace hE : fX0_rounded mo fl x1 x2 x4 = fX0_rounded_k47 x1 x2 x4 x5_18 x6_28 mo fl_44 := by have h : fX0_rounded mo fl x1 x2 x4 = fX0_rounded_k47 x1 x2 x4 x5_18 x6_28 mo ((fX0_raise fl (1 : Int32))) := hE; rw [← hw] at h; exact h
      refine lv_aload_n hx hb dX0_rounded_47 rfl (lv_at hl 2 rfl) ?_
      refine lv_iload_n hx hb dX0_rounded_48 rfl (lv_at hl 3 rfl) ?_
      refine lv_lload_n hx hb dX0_rounded_49 rfl (lv_at hl 4 rfl) ?_
      refine lv_iload hx hb dX0_rounded_50 (lv_at hl 1 rfl) ?_
      refine lv_iload hx hb dX0_rounded_52 (lv_at hl 5 rfl) ?_
      refine lv_isub hx hb dX0_rounded_54 ?_
      refine sc_l (W.runV (As := [.int x1, .long x2, .int (x5_18 - x4)]) (rest := []) ⟨hx, hb, hml, hown, hts⟩ (ccX0_multiple l D h0 mo fl_44 x1 x2 ((x5_18 - x4)) ) (cwV 3 hts gX0_rounded_X0_multiple rfl rfl rfl (by decide +kernel) ⟨Nat.le_of_ble_eq_true rfl, Nat.le_of_ble_eq_true rfl⟩) (w0_pre hK hP) rfl rfl hl.1 rfl (lv_room (Nat.le_of_ble_eq_true rfl)) dX0_rounded_55 ⟨Nat.zero_le _, Nat.zero_le _⟩) ?_
      refine lv_iload hx hb dX0_rounded_58 (lv_at hl 1 rfl) ?_
      refine sc_i (W.runS (As := [.long (fX0_multiple mo x1 x2 ((x5_18 - x4))), .int x5_18]) (rest := []) ⟨hx, hb, hml, hown, hts⟩ (ccX0_isTiny l ((fX0_multiple mo x1 x2 ((x5_18 - x4)))) x5_18 ) (va_cwS 2 hts gX0_rounded_X0_isTiny rfl rfl rfl (by decide +kernel) ⟨Nat.le_of_ble_eq_true rfl, Nat.le_of_ble_eq_true rfl⟩) st_pre rfl rfl hl.1 rfl (lv_room (Nat.le_of_ble_eq_true rfl)) dX0_rounded_60 ⟨Nat.zero_le _, Nat.zero_le _⟩) ?_
      refine lv_if_eq (tgt := 71) hx hb dX0_rounded_63 (by decide) (fun c_63 => ?_) (fun c_63 => ?_)
      · replace hE := hE.trans (if_pos c_63)
        exact j_71 x1 x2 x4 x6_28 fl_44 _ _ _ hP hS (lv_sub hl [2, 3, 4, 5, 0] rfl)  hE
      · replace hE := hE.trans (if_neg c_63)
        refine lv_aload_n hx hb dX0_rounded_66 rfl (lv_at hl 2 rfl) ?_
        refine lv_iconst (v := 2) hx hb dX0_rounded_67 (by decide) ?_
        refine k0_callv (va_runV (As := [.int (2 : Int32)]) (rest := []) ⟨hx, hb, hml, hown, hts⟩ (ccX0_raise l D h0 mo fl_44 (2 : Int32) ) (cwV 1 hts gX0_rounded_X0_raise rfl rfl rfl (by decide +kernel) ⟨Nat.le_of_ble_eq_true rfl, Nat.le_of_ble_eq_true rfl⟩) (w0_pre hK hP) rfl rfl hl.1 rfl (lv_room (Nat.le_of_ble_eq_true rfl)) dX0_rounded_68 ⟨Nat.zero_le _, Nat.zero_le _⟩) hS (fun u H locs hw hP hS => ?_)
        obtain ⟨fl_68, rfl⟩ : ∃ z, z = u := ⟨_, rfl⟩
        have hP : va_P D vwCl (bw0 h0 mo fl_68) H := hP
        replace hE : fX0_rounded mo fl x1 x2 x4 = fX0_rounded_k71 x1 x2 x4 x6_28 mo fl_68 := by have h : fX0_rounded mo fl x1 x2 x4 = fX0_rounded_k71 x1 x2 x4 x6_28 mo ((fX0_raise fl_44 (2 : Int32))) := hE; rw [← hw] at h; exact h
        exact j_71 x1 x2 x4 x6_28 fl_68 _ _ _ hP hS (lv_sub hl [2, 3, 4, 5, 0] rfl)  hE
  · replace hE := hE.trans (if_pos c_3)
    refine lv_iload_n hx hb dX0_rounded_6 rfl (lv_at hl 1 rfl) ?_
    exact W.iret hx hb hr (fun t ht hW => ⟨⟨_, fl, rfl, hE.symm, by rw [ht]; exact hP, va_K.moved hW.alike hK⟩, hS.F ht⟩) hS.2.2 dX0_rounded_7
