/-! J6_numberOfLeadingZeros_0f7a4 -/
def fJ6_numberOfLeadingZeros_0f7a4_k73 (y0 : Int32) (y1 : Int32) : Int32 := (y1 - (((Int32.toUInt32 y0 >>> (Int32.toUInt32 (1 : Int32) &&& Int32.toUInt32 31)).toInt32)))
def fJ6_numberOfLeadingZeros_0f7a4_k61 (y0 : Int32) (y1 : Int32) : Int32 := (if y0 < (4 : Int32) then fJ6_numberOfLeadingZeros_0f7a4_k73 y0 y1 else fJ6_numberOfLeadingZeros_0f7a4_k73 (((Int32.toUInt32 y0 >>> (Int32.toUInt32 (2 : Int32) &&& Int32.toUInt32 31)).toInt32)) ((y1 + (-2 : Int32))))
def fJ6_numberOfLeadingZeros_0f7a4_k48 (y0 : Int32) (y1 : Int32) : Int32 := (if y0 < (16 : Int32) then fJ6_numberOfLeadingZeros_0f7a4_k61 y0 y1 else fJ6_numberOfLeadingZeros_0f7a4_k61 (((Int32.toUInt32 y0 >>> (Int32.toUInt32 (4 : Int32) &&& Int32.toUInt32 31)).toInt32)) ((y1 + (-4 : Int32))))
def fJ6_numberOfLeadingZeros_0f7a4_k33 (y0 : Int32) (y1 : Int32) : Int32 := (if y0 < (256 : Int32) then fJ6_numberOfLeadingZeros_0f7a4_k48 y0 y1 else fJ6_numberOfLeadingZeros_0f7a4_k48 (((Int32.toUInt32 y0 >>> (Int32.toUInt32 (8 : Int32) &&& Int32.toUInt32 31)).toInt32)) ((y1 + (-8 : Int32))))
def fJ6_numberOfLeadingZeros_0f7a4 (x0 : Int32) : Int32 := (if 0 < x0 then (if x0 < (65536 : Int32) then fJ6_numberOfLeadingZeros_0f7a4_k33 x0 (31 : Int32) else fJ6_numberOfLeadingZeros_0f7a4_k33 (((Int32.toUInt32 x0 >>> (Int32.toUInt32 (16 : Int32) &&& Int32.toUInt32 31)).toInt32)) (((31 : Int32) + (-16 : Int32)))) else (if x0 = 0 then (32 : Int32) else (0 : Int32)))
set_option maxHeartbeats 4000000 in
set_option maxRecDepth 100000 in
theorem ccJ6_numberOfLeadingZeros_0f7a4 (l : Launch) (x0 : Int32)  : Met l yJ6_numberOfLeadingZeros_0f7a4 wsJ6_numberOfLeadingZeros_0f7a4 { frames := 0, cells := 0, slots := 0, locals := 0 } (va_Pc [.int x0] (fun _ => True)) (vp_Si (fun r => r = fJ6_numberOfLeadingZeros_0f7a4 x0)) 0 0 (fun _ => False) := by
  refine Met.ofW (cc := cJ6_numberOfLeadingZeros_0f7a4) (maxL := 2) (ret := (some .int)) (by decide) rfl ?_
  intro p e s m args below meth c s₁ B hml hv
  obtain ⟨rfl, -⟩ := hv
  have hx := B.exec
  have hb := B.bytes
  have hr := B.returns
  have hts := atoms_spec (ws := wsJ6_numberOfLeadingZeros_0f7a4) B.pre
  have hown : s.vm.findClass RJ6 = some m.cls := findClass_of_methodNamed B.named
  have hlocks := B.notSynchronized
  have hl := lv_entry ([.int x0]) (n := 2) (Nat.le_of_ble_eq_true rfl)
  rw [lg_entry_eq]
  generalize (lg_sl ([.int x0]) ++ List.replicate (2 - (lg_sl ([.int x0])).length) Slot.unset).toArray = ls at hl ⊢
  have hl : lv_has ls 2 [(0, .int x0)] := hl
  have j_73 : ∀ (y0 : Int32) (y1 : Int32) (ls : Array Slot), lv_has ls 2 [(0, .int y0), (1, .int y1)] → fJ6_numberOfLeadingZeros_0f7a4 x0 = fJ6_numberOfLeadingZeros_0f7a4_k73 y0 y1 → W p l e (headSpec wsJ6_numberOfLeadingZeros_0f7a4 { frames := 0, cells := 0, slots := 0, locals := 0 }).room s m ([.int x0] : List Value).toArray below meth c s.heap [] 0 0 (MQ below (vp_Si (fun r => r = fJ6_numberOfLeadingZeros_0f7a4 x0)) ([.int x0] : List Value).toArray s 0 0 (fun _ => False)) (F0 m 73 ls []) := by
    intro y0 y1 ls hl hE
    refine lv_iload_n hx hb dJ6_numberOfLeadingZeros_0f7a4_73 rfl (lv_at hl 1 rfl) ?_
    refine lv_iload_n hx hb dJ6_numberOfLeadingZeros_0f7a4_74 rfl (lv_at hl 0 rfl) ?_
    refine lv_iconst (v := 1) hx hb dJ6_numberOfLeadingZeros_0f7a4_75 (by decide) ?_
    refine lv_iushr hx hb dJ6_numberOfLeadingZeros_0f7a4_76 rfl ?_
    refine lv_isub hx hb dJ6_numberOfLeadingZeros_0f7a4_77 ?_
    exact W.iret hx hb hr (fun t ht hW => ⟨_, rfl, hE.symm, ht⟩) (fun _ h => by cases h) dJ6_numberOfLeadingZeros_0f7a4_78
  have j_61 : ∀ (y0 : Int32) (y1 : Int32) (ls : Array Slot), lv_has ls 2 [(0, .int y0), (1, .int y1)] → fJ6_numberOfLeadingZeros_0f7a4 x0 = fJ6_numberOfLeadingZeros_0f7a4_k61 y0 y1 → W p l e (headSpec wsJ6_numberOfLeadingZeros_0f7a4 { frames := 0, cells := 0, slots := 0, locals := 0 }).room s m ([.int x0] : List Value).toArray below meth c s.heap [] 0 0 (MQ below (vp_Si (fun r => r = fJ6_numberOfLeadingZeros_0f7a4 x0)) ([.int x0] : List Value).toArray s 0 0 (fun _ => False)) (F0 m 61 ls []) := by
    intro y0 y1 ls hl hE
    refine lv_iload_n hx hb dJ6_numberOfLeadingZeros_0f7a4_61 rfl (lv_at hl 0 rfl) ?_
    refine lv_iconst (v := 4) hx hb dJ6_numberOfLeadingZeros_0f7a4_62 (by decide) ?_
    refine lv_icmp_lt (tgt := 73) hx hb dJ6_numberOfLeadingZeros_0f7a4_63 (by decide) (fun c_63 => ?_) (fun c_63 => ?_)
    · replace hE := hE.trans (if_pos c_63)
      exact j_73 y0 y1 _ (lv_sub hl [0, 1] rfl)  hE
    · replace hE := hE.trans (if_neg c_63)
      refine lv_iinc (v := (y1 + (-2 : Int32))) (lv' := [(1, .int (y1 + (-2 : Int32))), (0, .int y0)]) hx hb dJ6_numberOfLeadingZeros_0f7a4_66 hl (k := 1) rfl rfl (by decide) rfl (fun ls hl => ?_)
      refine lv_iload_n hx hb dJ6_numberOfLeadingZeros_0f7a4_69 rfl (lv_at hl 1 rfl) ?_
      refine lv_iconst (v := 2) hx hb dJ6_numberOfLeadingZeros_0f7a4_70 (by decide) ?_
      refine lv_iushr hx hb dJ6_numberOfLeadingZeros_0f7a4_71 rfl ?_
      refine lv_istore_n (lv' := [(0, .int ((Int32.toUInt32 y0 >>> (Int32.toUInt32 (2 : Int32) &&& Int32.toUInt32 31)).toInt32)), (1, .int (y1 + (-2 : Int32)))]) hx hb dJ6_numberOfLeadingZeros_0f7a4_72 rfl hl (by decide) rfl (fun ls hl => ?_)
      exact j_73 (((Int32.toUInt32 y0 >>> (Int32.toUInt32 (2 : Int32) &&& Int32.toUInt32 31)).toInt32)) ((y1 + (-2 : Int32))) _ (lv_sub hl [0, 1] rfl)  hE
  have j_48 : ∀ (y0 : Int32) (y1 : Int32) (ls : Array Slot), lv_has ls 2 [(0, .int y0), (1, .int y1)] → fJ6_numberOfLeadingZeros_0f7a4 x0 = fJ6_numberOfLeadingZeros_0f7a4_k48 y0 y1 → W p l e (headSpec wsJ6_numberOfLeadingZeros_0f7a4 { frames := 0, cells := 0, slots := 0, locals := 0 }).room s m ([.int x0] : List Value).toArray below meth c s.heap [] 0 0 (MQ below (vp_Si (fun r => r = fJ6_numberOfLeadingZeros_0f7a4 x0)) ([.int x0] : List Value).toArray s 0 0 (fun _ => False)) (F0 m 48 ls []) := by
    intro y0 y1 ls hl hE
    refine lv_iload_n hx hb dJ6_numberOfLeadingZeros_0f7a4_48 rfl (lv_at hl 0 rfl) ?_
    refine lv_bipush (v := 16) hx hb dJ6_numberOfLeadingZeros_0f7a4_49 (by decide) ?_
    refine lv_icmp_lt (tgt := 61) hx hb dJ6_numberOfLeadingZeros_0f7a4_51 (by decide) (fun c_51 => ?_) (fun c_51 => ?_)
    · replace hE := hE.trans (if_pos c_51)
      exact j_61 y0 y1 _ (lv_sub hl [0, 1] rfl)  hE
    · replace hE := hE.trans (if_neg c_51)
      refine lv_iinc (v := (y1 + (-4 : Int32))) (lv' := [(1, .int (y1 + (-4 : Int32))), (0, .int y0)]) hx hb dJ6_numberOfLeadingZeros_0f7a4_54 hl (k := 1) rfl rfl (by decide) rfl (fun ls hl => ?_)
      refine lv_iload_n hx hb dJ6_numberOfLeadingZeros_0f7a4_57 rfl (lv_at hl 1 rfl) ?_
      refine lv_iconst (v := 4) hx hb dJ6_numberOfLeadingZeros_0f7a4_58 (by decide) ?_
      refine lv_iushr hx hb dJ6_numberOfLeadingZeros_0f7a4_59 rfl ?_
      refine lv_istore_n (lv' := [(0, .int ((Int32.toUInt32 y0 >>> (Int32.toUInt32 (4 : Int32) &&& Int32.toUInt32 31)).toInt32)), (1, .int (y1 + (-4 : Int32)))]) hx hb dJ6_numberOfLeadingZeros_0f7a4_60 rfl hl (by decide) rfl (fun ls hl => ?_)
      exact j_61 (((Int32.toUInt32 y0 >>> (Int32.toUInt32 (4 : Int32) &&& Int32.toUInt32 31)).toInt32)) ((y1 + (-4 : Int32))) _ (lv_sub hl [0, 1] rfl)  hE
  have j_33 : ∀ (y0 : Int32) (y1 : Int32) (ls : Array Slot), lv_has ls 2 [(0, .int y0), (1, .int y1)] → fJ6_numberOfLeadingZeros_0f7a4 x0 = fJ6_numberOfLeadingZeros_0f7a4_k33 y0 y1 → W p l e (headSpec wsJ6_numberOfLeadingZeros_0f7a4 { frames := 0, cells := 0, slots := 0, locals := 0 }).room s m ([.int x0] : List Value).toArray below meth c s.heap [] 0 0 (MQ below (vp_Si (fun r => r = fJ6_numberOfLeadingZeros_0f7a4 x0)) ([.int x0] : List Value).toArray s 0 0 (fun _ => False)) (F0 m 33 ls []) := by
    intro y0 y1 ls hl hE
    refine lv_iload_n hx hb dJ6_numberOfLeadingZeros_0f7a4_33 rfl (lv_at hl 0 rfl) ?_
    refine lv_sipush (v := 256) hx hb dJ6_numberOfLeadingZeros_0f7a4_34 (by decide) ?_
    refine lv_icmp_lt (tgt := 48) hx hb dJ6_numberOfLeadingZeros_0f7a4_37 (by decide) (fun c_37 => ?_) (fun c_37 => ?_)
    · replace hE := hE.trans (if_pos c_37)
      exact j_48 y0 y1 _ (lv_sub hl [0, 1] rfl)  hE
    · replace hE := hE.trans (if_neg c_37)
      refine lv_iinc (v := (y1 + (-8 : Int32))) (lv' := [(1, .int (y1 + (-8 : Int32))), (0, .int y0)]) hx hb dJ6_numberOfLeadingZeros_0f7a4_40 hl (k := 1) rfl rfl (by decide) rfl (fun ls hl => ?_)
      refine lv_iload_n hx hb dJ6_numberOfLeadingZeros_0f7a4_43 rfl (lv_at hl 1 rfl) ?_
      refine lv_bipush (v := 8) hx hb dJ6_numberOfLeadingZeros_0f7a4_44 (by decide) ?_
      refine lv_iushr hx hb dJ6_numberOfLeadingZeros_0f7a4_46 rfl ?_
      refine lv_istore_n (lv' := [(0, .int ((Int32.toUInt32 y0 >>> (Int32.toUInt32 (8 : Int32) &&& Int32.toUInt32 31)).toInt32)), (1, .int (y1 + (-8 : Int32)))]) hx hb dJ6_numberOfLeadingZeros_0f7a4_47 rfl hl (by decide) rfl (fun ls hl => ?_)
      exact j_48 (((Int32.toUInt32 y0 >>> (Int32.toUInt32 (8 : Int32) &&& Int32.toUInt32 31)).toInt32)) ((y1 + (-8 : Int32))) _ (lv_sub hl [0, 1] rfl)  hE
  have hE : fJ6_numberOfLeadingZeros_0f7a4 x0 = fJ6_numberOfLeadingZeros_0f7a4 x0 := rfl
  refine lv_iload_n hx hb dJ6_numberOfLeadingZeros_0f7a4_0 rfl (lv_at hl 0 rfl) ?_
  refine lv_if_gt (tgt := 15) hx hb dJ6_numberOfLeadingZeros_0f7a4_1 (by decide) (fun c_1 => ?_) (fun c_1 => ?_)
  · replace hE := hE.trans (if_pos c_1)
    refine lv_bipush (v := 31) hx hb dJ6_numberOfLeadingZeros_0f7a4_15 (by decide) ?_
    refine lv_istore_n (lv' := [(1, .int (31 : Int32)), (0, .int x0)]) hx hb dJ6_numberOfLeadingZeros_0f7a4_17 rfl hl (by decide) rfl (fun ls hl => ?_)
    refine lv_iload_n hx hb dJ6_numberOfLeadingZeros_0f7a4_18 rfl (lv_at hl 1 rfl) ?_
    refine lv_ldcw hx hb hown (hts (.constant RJ6 264 (65536)) (by decide +kernel)) dJ6_numberOfLeadingZeros_0f7a4_19 ?_
    refine lv_icmp_lt (tgt := 33) hx hb dJ6_numberOfLeadingZeros_0f7a4_22 (by decide) (fun c_22 => ?_) (fun c_22 => ?_)
    · replace hE := hE.trans (if_pos c_22)
      exact j_33 x0 (31 : Int32) _ (lv_sub hl [1, 0] rfl)  hE
    · replace hE := hE.trans (if_neg c_22)
      refine lv_iinc (v := ((31 : Int32) + (-16 : Int32))) (lv' := [(1, .int ((31 : Int32) + (-16 : Int32))), (0, .int x0)]) hx hb dJ6_numberOfLeadingZeros_0f7a4_25 hl (k := 0) rfl rfl (by decide) rfl (fun ls hl => ?_)
      refine lv_iload_n hx hb dJ6_numberOfLeadingZeros_0f7a4_28 rfl (lv_at hl 1 rfl) ?_
      refine lv_bipush (v := 16) hx hb dJ6_numberOfLeadingZeros_0f7a4_29 (by decide) ?_
      refine lv_iushr hx hb dJ6_numberOfLeadingZeros_0f7a4_31 rfl ?_
      refine lv_istore_n (lv' := [(0, .int ((Int32.toUInt32 x0 >>> (Int32.toUInt32 (16 : Int32) &&& Int32.toUInt32 31)).toInt32)), (1, .int ((31 : Int32) + (-16 : Int32)))]) hx hb dJ6_numberOfLeadingZeros_0f7a4_32 rfl hl (by decide) rfl (fun ls hl => ?_)
      exact j_33 (((Int32.toUInt32 x0 >>> (Int32.toUInt32 (16 : Int32) &&& Int32.toUInt32 31)).toInt32)) (((31 : Int32) + (-16 : Int32))) _ (lv_sub hl [0, 1] rfl)  hE
  · replace hE := hE.trans (if_neg c_1)
    refine lv_iload_n hx hb dJ6_numberOfLeadingZeros_0f7a4_4 rfl (lv_at hl 0 rfl) ?_
    refine lv_if_ne (tgt := 13) hx hb dJ6_numberOfLeadingZeros_0f7a4_5 (by decide) (fun c_5 => ?_) (fun c_5 => ?_)
    · replace hE := hE.trans (if_neg c_5)
      refine lv_iconst (v := 0) hx hb dJ6_numberOfLeadingZeros_0f7a4_13 (by decide) ?_
      exact W.iret hx hb hr (fun t ht hW => ⟨_, rfl, hE.symm, ht⟩) (fun _ h => by cases h) dJ6_numberOfLeadingZeros_0f7a4_14
    · replace hE := hE.trans (if_pos c_5)
      refine lv_bipush (v := 32) hx hb dJ6_numberOfLeadingZeros_0f7a4_8 (by decide) ?_
      refine lv_goto (tgt := 14) hx hb dJ6_numberOfLeadingZeros_0f7a4_10 (by decide) ?_
      exact W.iret hx hb hr (fun t ht hW => ⟨_, rfl, hE.symm, ht⟩) (fun _ h => by cases h) dJ6_numberOfLeadingZeros_0f7a4_14
/-! J13_numberOfLeadingZeros_95d88 -/
def fJ13_numberOfLeadingZeros_95d88_k6 (y0 : Int64) (y2 : Int32) : Int32 := (if y2 = 0 then ((32 : Int32) + ((fJ6_numberOfLeadingZeros_0f7a4 ((Int64.toInt32 y0))))) else (fJ6_numberOfLeadingZeros_0f7a4 y2))
def fJ13_numberOfLeadingZeros_95d88 (x0 : Int64) : Int32 := fJ13_numberOfLeadingZeros_95d88_k6 x0 ((Int64.toInt32 (((Int64.toUInt64 x0 >>> ((Int32.toInt64 (32 : Int32)).toUInt64 &&& Int64.toUInt64 63)).toInt64))))
set_option maxHeartbeats 4000000 in
set_option maxRecDepth 100000 in
theorem ccJ13_numberOfLeadingZeros_95d88 (l : Launch) (x0 : Int64)  : Met l yJ13_numberOfLeadingZeros_95d88 wsJ13_numberOfLeadingZeros_95d88 { frames := 1, cells := 0, slots := 0, locals := 21 } (va_Pc [.long x0] (fun _ => True)) (vp_Si (fun r => r = fJ13_numberOfLeadingZeros_95d88 x0)) 0 0 (fun _ => False) := by
  refine Met.ofW (cc := cJ13_numberOfLeadingZeros_95d88) (maxL := 3) (ret := (some .int)) (by decide) rfl ?_
  intro p e s m args below meth c s₁ B hml hv
  obtain ⟨rfl, -⟩ := hv
  have hx := B.exec
  have hb := B.bytes
  have hr := B.returns
  have hts := atoms_spec (ws := wsJ13_numberOfLeadingZeros_95d88) B.pre
  have hown : s.vm.findClass RJ13 = some m.cls := findClass_of_methodNamed B.named
  have hlocks := B.notSynchronized
  have hl := lv_entry ([.long x0]) (n := 3) (Nat.le_of_ble_eq_true rfl)
  rw [lg_entry_eq]
  generalize (lg_sl ([.long x0]) ++ List.replicate (3 - (lg_sl ([.long x0])).length) Slot.unset).toArray = ls at hl ⊢
  have hl : lv_has ls 3 [(0, .long x0)] := hl
  have hE : fJ13_numberOfLeadingZeros_95d88 x0 = fJ13_numberOfLeadingZeros_95d88 x0 := rfl
  refine lv_lload_n hx hb dJ13_numberOfLeadingZeros_95d88_0 rfl (lv_at hl 0 rfl) ?_
  refine lv_bipush (v := 32) hx hb dJ13_numberOfLeadingZeros_95d88_1 (by decide) ?_
  refine lv_lushr hx hb dJ13_numberOfLeadingZeros_95d88_3 rfl ?_
  refine lv_l2i hx hb dJ13_numberOfLeadingZeros_95d88_4 rfl ?_
  refine lv_topi (fun x2_5 e_5 => ?_)
  refine lv_istore_n (lv' := [(2, .int x2_5), (0, .long x0)]) hx hb dJ13_numberOfLeadingZeros_95d88_5 rfl hl (by decide) rfl (fun ls hl => ?_)
  replace hE : fJ13_numberOfLeadingZeros_95d88 x0 = fJ13_numberOfLeadingZeros_95d88_k6 x0 x2_5 := by rw [e_5]; exact hE
  refine lv_iload_n hx hb dJ13_numberOfLeadingZeros_95d88_6 rfl (lv_at hl 0 rfl) ?_
  refine lv_if_ne (tgt := 21) hx hb dJ13_numberOfLeadingZeros_95d88_7 (by decide) (fun c_7 => ?_) (fun c_7 => ?_)
  · replace hE := hE.trans (if_neg c_7)
    refine lv_iload_n hx hb dJ13_numberOfLeadingZeros_95d88_21 rfl (lv_at hl 0 rfl) ?_
    refine sc_i (W.runS (As := [.int x2_5]) (rest := []) ⟨hx, hb, hml, hown, hts⟩ (ccJ6_numberOfLeadingZeros_0f7a4 l x2_5 ) (va_cwS 1 hts gJ13_numberOfLeadingZeros_95d88_J6_numberOfLeadingZeros_0f7a4 rfl rfl rfl (by decide +kernel) ⟨Nat.le_of_ble_eq_true rfl, Nat.le_of_ble_eq_true rfl⟩) st_pre rfl rfl hl.1 rfl (lv_room (Nat.le_of_ble_eq_true rfl)) dJ13_numberOfLeadingZeros_95d88_22 ⟨Nat.zero_le _, Nat.zero_le _⟩) ?_
    exact W.iret hx hb hr (fun t ht hW => ⟨_, rfl, hE.symm, ht⟩) (fun _ h => by cases h) dJ13_numberOfLeadingZeros_95d88_25
  · replace hE := hE.trans (if_pos c_7)
    refine lv_bipush (v := 32) hx hb dJ13_numberOfLeadingZeros_95d88_10 (by decide) ?_
    refine lv_lload_n hx hb dJ13_numberOfLeadingZeros_95d88_12 rfl (lv_at hl 1 rfl) ?_
    refine lv_l2i hx hb dJ13_numberOfLeadingZeros_95d88_13 rfl ?_
    refine sc_i (W.runS (As := [.int (Int64.toInt32 x0)]) (rest := [.int (32 : Int32)]) ⟨hx, hb, hml, hown, hts⟩ (ccJ6_numberOfLeadingZeros_0f7a4 l ((Int64.toInt32 x0)) ) (va_cwS 1 hts gJ13_numberOfLeadingZeros_95d88_J6_numberOfLeadingZeros_0f7a4 rfl rfl rfl (by decide +kernel) ⟨Nat.le_of_ble_eq_true rfl, Nat.le_of_ble_eq_true rfl⟩) st_pre rfl rfl hl.1 rfl (lv_room (Nat.le_of_ble_eq_true rfl)) dJ13_numberOfLeadingZeros_95d88_14 ⟨Nat.zero_le _, Nat.zero_le _⟩) ?_
    refine lv_iadd hx hb dJ13_numberOfLeadingZeros_95d88_17 ?_
    refine lv_goto (tgt := 25) hx hb dJ13_numberOfLeadingZeros_95d88_18 (by decide) ?_
    exact W.iret hx hb hr (fun t ht hW => ⟨_, rfl, hE.symm, ht⟩) (fun _ h => by cases h) dJ13_numberOfLeadingZeros_95d88_25
/-! X0_bitLength -/
def fX0_bitLength (x0 : Int64) : Int32 := ((64 : Int32) - ((fJ13_numberOfLeadingZeros_95d88 x0)))
set_option maxHeartbeats 4000000 in
set_option maxRecDepth 100000 in
theorem ccX0_bitLength (l : Launch) (x0 : Int64)  : Met l yX0_bitLength wsX0_bitLength { frames := 2, cells := 0, slots := 0, locals := 43 } (va_Pc [.long x0] (fun _ => True)) (vp_Si (fun r => r = fX0_bitLength x0)) 0 0 (fun _ => False) := by
  refine Met.ofW (cc := cX0_bitLength) (maxL := 2) (ret := (some .int)) (by decide) rfl ?_
  intro p e s m args below meth c s₁ B hml hv
  obtain ⟨rfl, -⟩ := hv
  have hx := B.exec
  have hb := B.bytes
  have hr := B.returns
  have hts := atoms_spec (ws := wsX0_bitLength) B.pre
  have hown : s.vm.findClass RX0 = some m.cls := findClass_of_methodNamed B.named
  have hlocks := B.notSynchronized
  have hl := lv_entry ([.long x0]) (n := 2) (Nat.le_of_ble_eq_true rfl)
  rw [lg_entry_eq]
  generalize (lg_sl ([.long x0]) ++ List.replicate (2 - (lg_sl ([.long x0])).length) Slot.unset).toArray = ls at hl ⊢
  have hl : lv_has ls 2 [(0, .long x0)] := hl
  have hE : fX0_bitLength x0 = fX0_bitLength x0 := rfl
  refine lv_bipush (v := 64) hx hb dX0_bitLength_0 (by decide) ?_
  refine lv_lload_n hx hb dX0_bitLength_2 rfl (lv_at hl 0 rfl) ?_
  refine sc_i (W.runS (As := [.long x0]) (rest := [.int (64 : Int32)]) ⟨hx, hb, hml, hown, hts⟩ (ccJ13_numberOfLeadingZeros_95d88 l x0 ) (va_cwS 1 hts gX0_bitLength_J13_numberOfLeadingZeros_95d88 rfl rfl rfl (by decide +kernel) ⟨Nat.le_of_ble_eq_true rfl, Nat.le_of_ble_eq_true rfl⟩) st_pre rfl rfl hl.1 rfl (lv_room (Nat.le_of_ble_eq_true rfl)) dX0_bitLength_3 ⟨Nat.zero_le _, Nat.zero_le _⟩) ?_
  refine lv_isub hx hb dX0_bitLength_6 ?_
  exact W.iret hx hb hr (fun t ht hW => ⟨_, rfl, hE.symm, ht⟩) (fun _ h => by cases h) dX0_bitLength_7
/-! X0_shiftedRight -/
def fX0_shiftedRight (x0 : Int64) (x2 : Int32) : Int64 := (if x2 ≤ (63 : Int32) then (x0 >>> (Int32.toInt64 x2 &&& 63)) else (0 : Int64))
set_option maxHeartbeats 4000000 in
set_option maxRecDepth 100000 in
theorem ccX0_shiftedRight (l : Launch) (x0 : Int64) (x2 : Int32)  : Met l yX0_shiftedRight wsX0_shiftedRight { frames := 0, cells := 0, slots := 0, locals := 0 } (va_Pc [.long x0, .int x2] (fun _ => True)) (vp_Sl (fun r => r = fX0_shiftedRight x0 x2)) 0 0 (fun _ => False) := by
  refine Met.ofW (cc := cX0_shiftedRight) (maxL := 3) (ret := (some .long)) (by decide) rfl ?_
  intro p e s m args below meth c s₁ B hml hv
  obtain ⟨rfl, -⟩ := hv
  have hx := B.exec
  have hb := B.bytes
  have hr := B.returns
  have hts := atoms_spec (ws := wsX0_shiftedRight) B.pre
  have hown : s.vm.findClass RX0 = some m.cls := findClass_of_methodNamed B.named
  have hlocks := B.notSynchronized
  have hl := lv_entry ([.long x0, .int x2]) (n := 3) (Nat.le_of_ble_eq_true rfl)
  rw [lg_entry_eq]
  generalize (lg_sl ([.long x0, .int x2]) ++ List.replicate (3 - (lg_sl ([.long x0, .int x2])).length) Slot.unset).toArray = ls at hl ⊢
  have hl : lv_has ls 3 [(0, .long x0), (2, .int x2)] := hl
  have hE : fX0_shiftedRight x0 x2 = fX0_shiftedRight x0 x2 := rfl
  refine lv_iload_n hx hb dX0_shiftedRight_0 rfl (lv_at hl 1 rfl) ?_
  refine lv_bipush (v := 63) hx hb dX0_shiftedRight_1 (by decide) ?_
  refine lv_icmp_le (tgt := 10) hx hb dX0_shiftedRight_3 (by decide) (fun c_3 => ?_) (fun c_3 => ?_)
  · replace hE := hE.trans (if_pos c_3)
    refine lv_lload_n hx hb dX0_shiftedRight_10 rfl (lv_at hl 0 rfl) ?_
    refine lv_iload_n hx hb dX0_shiftedRight_11 rfl (lv_at hl 1 rfl) ?_
    refine lv_lshr hx hb dX0_shiftedRight_12 rfl ?_
    exact W.lret hx hb hr (fun t ht hW => ⟨_, rfl, hE.symm, ht⟩) (fun _ h => by cases h) dX0_shiftedRight_13
  · replace hE := hE.trans (if_neg c_3)
    refine lv_lconst (v := 0) hx hb dX0_shiftedRight_6 (by decide) ?_
    refine lv_goto (tgt := 13) hx hb dX0_shiftedRight_7 (by decide) ?_
    exact W.lret hx hb hr (fun t ht hW => ⟨_, rfl, hE.symm, ht⟩) (fun _ h => by cases h) dX0_shiftedRight_13
/-! X0_isMultiple -/
def fX0_isMultiple (x0 : Int64) (x2 : Int32) : Int32 := (if 0 < x2 then (if x2 ≤ (63 : Int32) then (if ((lg_cmp ((x0 &&& (((((1 : Int64) <<< (Int32.toInt64 x2 &&& 63))) - (1 : Int64))))) (0 : Int64))) = 0 then (1 : Int32) else (0 : Int32)) else (if ((lg_cmp x0 (0 : Int64))) = 0 then (1 : Int32) else (0 : Int32))) else (1 : Int32))
set_option maxHeartbeats 4000000 in
set_option maxRecDepth 100000 in
theorem ccX0_isMultiple (l : Launch) (x0 : Int64) (x2 : Int32)  : Met l yX0_isMultiple wsX0_isMultiple { frames := 0, cells := 0, slots := 0, locals := 0 } (va_Pc [.long x0, .int x2] (fun _ => True)) (vp_Si (fun r => r = fX0_isMultiple x0 x2)) 0 0 (fun _ => False) := by
  refine Met.ofW (cc := cX0_isMultiple) (maxL := 3) (ret := (some .boolean)) (by decide) rfl ?_
  intro p e s m args below meth c s₁ B hml hv
  obtain ⟨rfl, -⟩ := hv
  have hx := B.exec
  have hb := B.bytes
  have hr := B.returns
  have hts := atoms_spec (ws := wsX0_isMultiple) B.pre
  have hown : s.vm.findClass RX0 = some m.cls := findClass_of_methodNamed B.named
  have hlocks := B.notSynchronized
  have hl := lv_entry ([.long x0, .int x2]) (n := 3) (Nat.le_of_ble_eq_true rfl)
  rw [lg_entry_eq]
  generalize (lg_sl ([.long x0, .int x2]) ++ List.replicate (3 - (lg_sl ([.long x0, .int x2])).length) Slot.unset).toArray = ls at hl ⊢
  have hl : lv_has ls 3 [(0, .long x0), (2, .int x2)] := hl
  have hE : fX0_isMultiple x0 x2 = fX0_isMultiple x0 x2 := rfl
  refine lv_iload_n hx hb dX0_isMultiple_0 rfl (lv_at hl 1 rfl) ?_
  refine lv_if_gt (tgt := 6) hx hb dX0_isMultiple_1 (by decide) (fun c_1 => ?_) (fun c_1 => ?_)
  · replace hE := hE.trans (if_pos c_1)
    refine lv_iload_n hx hb dX0_isMultiple_6 rfl (lv_at hl 1 rfl) ?_
    refine lv_bipush (v := 63) hx hb dX0_isMultiple_7 (by decide) ?_
    refine lv_icmp_le (tgt := 26) hx hb dX0_isMultiple_9 (by decide) (fun c_9 => ?_) (fun c_9 => ?_)
    · replace hE := hE.trans (if_pos c_9)
      refine lv_lload_n hx hb dX0_isMultiple_26 rfl (lv_at hl 0 rfl) ?_
      refine lv_lconst (v := 1) hx hb dX0_isMultiple_27 (by decide) ?_
      refine lv_iload_n hx hb dX0_isMultiple_28 rfl (lv_at hl 1 rfl) ?_
      refine lv_lshl hx hb dX0_isMultiple_29 rfl ?_
      refine lv_lconst (v := 1) hx hb dX0_isMultiple_30 (by decide) ?_
      refine lv_lsub hx hb dX0_isMultiple_31 ?_
      refine lv_land hx hb dX0_isMultiple_32 ?_
      refine lv_lconst (v := 0) hx hb dX0_isMultiple_33 (by decide) ?_
      refine W.lcmp hx hb dX0_isMultiple_34 ?_
      refine lv_if_ne (tgt := 42) hx hb dX0_isMultiple_35 (by decide) (fun c_35 => ?_) (fun c_35 => ?_)
      · replace hE := hE.trans (if_neg c_35)
        refine lv_iconst (v := 0) hx hb dX0_isMultiple_42 (by decide) ?_
        exact W.zret hx hb hr (isB_nar isB_0) (fun t ht hW => ⟨_, rfl, hE.symm, ht⟩) (fun _ h => by cases h) dX0_isMultiple_43
      · replace hE := hE.trans (if_pos c_35)
        refine lv_iconst (v := 1) hx hb dX0_isMultiple_38 (by decide) ?_
        refine lv_goto (tgt := 43) hx hb dX0_isMultiple_39 (by decide) ?_
        exact W.zret hx hb hr (isB_nar isB_1) (fun t ht hW => ⟨_, rfl, hE.symm, ht⟩) (fun _ h => by cases h) dX0_isMultiple_43
    · replace hE := hE.trans (if_neg c_9)
      refine lv_lload_n hx hb dX0_isMultiple_12 rfl (lv_at hl 0 rfl) ?_
      refine lv_lconst (v := 0) hx hb dX0_isMultiple_13 (by decide) ?_
      refine W.lcmp hx hb dX0_isMultiple_14 ?_
      refine lv_if_ne (tgt := 22) hx hb dX0_isMultiple_15 (by decide) (fun c_15 => ?_) (fun c_15 => ?_)
      · replace hE := hE.trans (if_neg c_15)
        refine lv_iconst (v := 0) hx hb dX0_isMultiple_22 (by decide) ?_
        refine lv_goto (tgt := 43) hx hb dX0_isMultiple_23 (by decide) ?_
        exact W.zret hx hb hr (isB_nar isB_0) (fun t ht hW => ⟨_, rfl, hE.symm, ht⟩) (fun _ h => by cases h) dX0_isMultiple_43
      · replace hE := hE.trans (if_pos c_15)
        refine lv_iconst (v := 1) hx hb dX0_isMultiple_18 (by decide) ?_
        refine lv_goto (tgt := 43) hx hb dX0_isMultiple_19 (by decide) ?_
        exact W.zret hx hb hr (isB_nar isB_1) (fun t ht hW => ⟨_, rfl, hE.symm, ht⟩) (fun _ h => by cases h) dX0_isMultiple_43
  · replace hE := hE.trans (if_neg c_1)
    refine lv_iconst (v := 1) hx hb dX0_isMultiple_4 (by decide) ?_
    exact W.zret hx hb hr (isB_nar isB_1) (fun t ht hW => ⟨_, rfl, hE.symm, ht⟩) (fun _ h => by cases h) dX0_isMultiple_5
/-! X0_withTrace -/
def fX0_withTrace (x0 : Int64) (x2 : Int32) : Int64 := (if x2 = 0 then x0 else (x0 ||| (1 : Int64)))
set_option maxHeartbeats 4000000 in
set_option maxRecDepth 100000 in
theorem ccX0_withTrace (l : Launch) (x0 : Int64) (x2 : Int32)  : Met l yX0_withTrace wsX0_withTrace { frames := 0, cells := 0, slots := 0, locals := 0 } (va_Pc [.long x0, .int x2] (fun _ => True)) (vp_Sl (fun r => r = fX0_withTrace x0 x2)) 0 0 (fun _ => False) := by
  refine Met.ofW (cc := cX0_withTrace) (maxL := 3) (ret := (some .long)) (by decide) rfl ?_
  intro p e s m args below meth c s₁ B hml hv
  obtain ⟨rfl, -⟩ := hv
  have hx := B.exec
  have hb := B.bytes
  have hr := B.returns
  have hts := atoms_spec (ws := wsX0_withTrace) B.pre
  have hown : s.vm.findClass RX0 = some m.cls := findClass_of_methodNamed B.named
  have hlocks := B.notSynchronized
  have hl := lv_entry ([.long x0, .int x2]) (n := 3) (Nat.le_of_ble_eq_true rfl)
  rw [lg_entry_eq]
  generalize (lg_sl ([.long x0, .int x2]) ++ List.replicate (3 - (lg_sl ([.long x0, .int x2])).length) Slot.unset).toArray = ls at hl ⊢
  have hl : lv_has ls 3 [(0, .long x0), (2, .int x2)] := hl
  have hE : fX0_withTrace x0 x2 = fX0_withTrace x0 x2 := rfl
  refine lv_iload_n hx hb dX0_withTrace_0 rfl (lv_at hl 1 rfl) ?_
  refine lv_if_eq (tgt := 10) hx hb dX0_withTrace_1 (by decide) (fun c_1 => ?_) (fun c_1 => ?_)
  · replace hE := hE.trans (if_pos c_1)
    refine lv_lload_n hx hb dX0_withTrace_10 rfl (lv_at hl 0 rfl) ?_
    exact W.lret hx hb hr (fun t ht hW => ⟨_, rfl, hE.symm, ht⟩) (fun _ h => by cases h) dX0_withTrace_11
  · replace hE := hE.trans (if_neg c_1)
    refine lv_lload_n hx hb dX0_withTrace_4 rfl (lv_at hl 0 rfl) ?_
    refine lv_lconst (v := 1) hx hb dX0_withTrace_5 (by decide) ?_
    refine lv_lor hx hb dX0_withTrace_6 ?_
    refine lv_goto (tgt := 11) hx hb dX0_withTrace_7 (by decide) ?_
    exact W.lret hx hb hr (fun t ht hW => ⟨_, rfl, hE.symm, ht⟩) (fun _ h => by cases h) dX0_withTrace_11
/-! X0_aligned -/
def fX0_aligned_k28 (z0 : Int64) (z1 : Int32) : Int64 := (fX0_withTrace z0 z1)
def fX0_aligned (x0 : Int64) (x2 : Int32) : Int64 := (if x2 < 0 then (if ((fX0_isMultiple x0 ((-x2)))) = 0 then fX0_aligned_k28 ((fX0_shiftedRight x0 ((-x2)))) (1 : Int32) else fX0_aligned_k28 ((fX0_shiftedRight x0 ((-x2)))) (0 : Int32)) else (x0 <<< (Int32.toInt64 x2 &&& 63)))
set_option maxHeartbeats 4000000 in
set_option maxRecDepth 100000 in
theorem ccX0_aligned (l : Launch) (x0 : Int64) (x2 : Int32)  : Met l yX0_aligned wsX0_aligned { frames := 1, cells := 0, slots := 0, locals := 22 } (va_Pc [.long x0, .int x2] (fun _ => True)) (vp_Sl (fun r => r = fX0_aligned x0 x2)) 0 0 (fun _ => False) := by
  refine Met.ofW (cc := cX0_aligned) (maxL := 3) (ret := (some .long)) (by decide) rfl ?_
  intro p e s m args below meth c s₁ B hml hv
  obtain ⟨rfl, -⟩ := hv
  have hx := B.exec
  have hb := B.bytes
  have hr := B.returns
  have hts := atoms_spec (ws := wsX0_aligned) B.pre
  have hown : s.vm.findClass RX0 = some m.cls := findClass_of_methodNamed B.named
  have hlocks := B.notSynchronized
  have hl := lv_entry ([.long x0, .int x2]) (n := 3) (Nat.le_of_ble_eq_true rfl)
  rw [lg_entry_eq]
  generalize (lg_sl ([.long x0, .int x2]) ++ List.replicate (3 - (lg_sl ([.long x0, .int x2])).length) Slot.unset).toArray = ls at hl ⊢
  have hl : lv_has ls 3 [(0, .long x0), (2, .int x2)] := hl
  have j_28 : ∀ (z0 : Int64) (z1 : Int32) (ls : Array Slot), lv_has ls 3 [] → isB z1 → fX0_aligned x0 x2 = fX0_aligned_k28 z0 z1 → W p l e (headSpec wsX0_aligned { frames := 1, cells := 0, slots := 0, locals := 22 }).room s m ([.long x0, .int x2] : List Value).toArray below meth c s.heap [] 0 0 (MQ below (vp_Sl (fun r => r = fX0_aligned x0 x2)) ([.long x0, .int x2] : List Value).toArray s 0 0 (fun _ => False)) (F0 m 28 ls [.int z1, .long z0]) := by
    intro z0 z1 ls hl b_z1 hE
    refine sc_l (W.runS (As := [.long z0, .int z1]) (rest := []) ⟨hx, hb, hml, hown, hts⟩ (ccX0_withTrace l z0 z1 ) (va_cwS 2 hts gX0_aligned_X0_withTrace rfl rfl rfl (by decide +kernel) ⟨Nat.le_of_ble_eq_true rfl, Nat.le_of_ble_eq_true rfl⟩) st_pre rfl rfl hl.1 rfl (lv_room (Nat.le_of_ble_eq_true rfl)) dX0_aligned_28 ⟨Nat.zero_le _, Nat.zero_le _⟩) ?_
    exact W.lret hx hb hr (fun t ht hW => ⟨_, rfl, hE.symm, ht⟩) (fun _ h => by cases h) dX0_aligned_31
  have hE : fX0_aligned x0 x2 = fX0_aligned x0 x2 := rfl
  refine lv_iload_n hx hb dX0_aligned_0 rfl (lv_at hl 1 rfl) ?_
  refine lv_if_lt (tgt := 8) hx hb dX0_aligned_1 (by decide) (fun c_1 => ?_) (fun c_1 => ?_)
  · replace hE := hE.trans (if_pos c_1)
    refine lv_lload_n hx hb dX0_aligned_8 rfl (lv_at hl 0 rfl) ?_
    refine lv_iload_n hx hb dX0_aligned_9 rfl (lv_at hl 1 rfl) ?_
    refine lv_ineg hx hb dX0_aligned_10 ?_
    refine sc_l (W.runS (As := [.long x0, .int (-x2)]) (rest := []) ⟨hx, hb, hml, hown, hts⟩ (ccX0_shiftedRight l x0 ((-x2)) ) (va_cwS 2 hts gX0_aligned_X0_shiftedRight rfl rfl rfl (by decide +kernel) ⟨Nat.le_of_ble_eq_true rfl, Nat.le_of_ble_eq_true rfl⟩) st_pre rfl rfl hl.1 rfl (lv_room (Nat.le_of_ble_eq_true rfl)) dX0_aligned_11 ⟨Nat.zero_le _, Nat.zero_le _⟩) ?_
    refine lv_lload_n hx hb dX0_aligned_14 rfl (lv_at hl 0 rfl) ?_
    refine lv_iload_n hx hb dX0_aligned_15 rfl (lv_at hl 1 rfl) ?_
    refine lv_ineg hx hb dX0_aligned_16 ?_
    refine sc_i (W.runS (As := [.long x0, .int (-x2)]) (rest := [.long (fX0_shiftedRight x0 ((-x2)))]) ⟨hx, hb, hml, hown, hts⟩ (ccX0_isMultiple l x0 ((-x2)) ) (va_cwS 2 hts gX0_aligned_X0_isMultiple rfl rfl rfl (by decide +kernel) ⟨Nat.le_of_ble_eq_true rfl, Nat.le_of_ble_eq_true rfl⟩) st_pre rfl rfl hl.1 rfl (lv_room (Nat.le_of_ble_eq_true rfl)) dX0_aligned_17 ⟨Nat.zero_le _, Nat.zero_le _⟩) ?_
    refine lv_if_ne (tgt := 27) hx hb dX0_aligned_20 (by decide) (fun c_20 => ?_) (fun c_20 => ?_)
    · replace hE := hE.trans (if_neg c_20)
      refine lv_iconst (v := 0) hx hb dX0_aligned_27 (by decide) ?_
      exact j_28 ((fX0_shiftedRight x0 ((-x2)))) (0 : Int32) _ (lv_sub hl [] rfl) isB_0 hE
    · replace hE := hE.trans (if_pos c_20)
      refine lv_iconst (v := 1) hx hb dX0_aligned_23 (by decide) ?_
      refine lv_goto (tgt := 28) hx hb dX0_aligned_24 (by decide) ?_
      exact j_28 ((fX0_shiftedRight x0 ((-x2)))) (1 : Int32) _ (lv_sub hl [] rfl) isB_1 hE
  · replace hE := hE.trans (if_neg c_1)
    refine lv_lload_n hx hb dX0_aligned_4 rfl (lv_at hl 0 rfl) ?_
    refine lv_iload_n hx hb dX0_aligned_5 rfl (lv_at hl 1 rfl) ?_
    refine lv_lshl hx hb dX0_aligned_6 rfl ?_
    exact W.lret hx hb hr (fun t ht hW => ⟨_, rfl, hE.symm, ht⟩) (fun _ h => by cases h) dX0_aligned_7
/-! X0_isTiny -/
def fX0_isTiny (x0 : Int64) (x2 : Int32) : Int32 := (if (-125 : Int32) ≤ ((x2 + ((fX0_bitLength x0)))) then (0 : Int32) else (1 : Int32))
set_option maxHeartbeats 4000000 in
set_option maxRecDepth 100000 in
theorem ccX0_isTiny (l : Launch) (x0 : Int64) (x2 : Int32)  : Met l yX0_isTiny wsX0_isTiny { frames := 3, cells := 0, slots := 0, locals := 64 } (va_Pc [.long x0, .int x2] (fun _ => True)) (vp_Si (fun r => r = fX0_isTiny x0 x2)) 0 0 (fun _ => False) := by
  refine Met.ofW (cc := cX0_isTiny) (maxL := 3) (ret := (some .boolean)) (by decide) rfl ?_
  intro p e s m args below meth c s₁ B hml hv
  obtain ⟨rfl, -⟩ := hv
  have hx := B.exec
  have hb := B.bytes
  have hr := B.returns
  have hts := atoms_spec (ws := wsX0_isTiny) B.pre
  have hown : s.vm.findClass RX0 = some m.cls := findClass_of_methodNamed B.named
  have hlocks := B.notSynchronized
  have hl := lv_entry ([.long x0, .int x2]) (n := 3) (Nat.le_of_ble_eq_true rfl)
  rw [lg_entry_eq]
  generalize (lg_sl ([.long x0, .int x2]) ++ List.replicate (3 - (lg_sl ([.long x0, .int x2])).length) Slot.unset).toArray = ls at hl ⊢
  have hl : lv_has ls 3 [(0, .long x0), (2, .int x2)] := hl
  have hE : fX0_isTiny x0 x2 = fX0_isTiny x0 x2 := rfl
  refine lv_iload_n hx hb dX0_isTiny_0 rfl (lv_at hl 1 rfl) ?_
  refine lv_lload_n hx hb dX0_isTiny_1 rfl (lv_at hl 0 rfl) ?_
  refine sc_i (W.runS (As := [.long x0]) (rest := [.int x2]) ⟨hx, hb, hml, hown, hts⟩ (ccX0_bitLength l x0 ) (va_cwS 1 hts gX0_isTiny_X0_bitLength rfl rfl rfl (by decide +kernel) ⟨Nat.le_of_ble_eq_true rfl, Nat.le_of_ble_eq_true rfl⟩) st_pre rfl rfl hl.1 rfl (lv_room (Nat.le_of_ble_eq_true rfl)) dX0_isTiny_2 ⟨Nat.zero_le _, Nat.zero_le _⟩) ?_
  refine lv_iadd hx hb dX0_isTiny_5 ?_
  refine lv_bipush (v := -125) hx hb dX0_isTiny_6 (by decide) ?_
  refine lv_icmp_ge (tgt := 15) hx hb dX0_isTiny_8 (by decide) (fun c_8 => ?_) (fun c_8 => ?_)
  · replace hE := hE.trans (if_pos c_8)
    refine lv_iconst (v := 0) hx hb dX0_isTiny_15 (by decide) ?_
    exact W.zret hx hb hr (isB_nar isB_0) (fun t ht hW => ⟨_, rfl, hE.symm, ht⟩) (fun _ h => by cases h) dX0_isTiny_16
  · replace hE := hE.trans (if_neg c_8)
    refine lv_iconst (v := 1) hx hb dX0_isTiny_11 (by decide) ?_
    refine lv_goto (tgt := 16) hx hb dX0_isTiny_12 (by decide) ?_
    exact W.zret hx hb hr (isB_nar isB_1) (fun t ht hW => ⟨_, rfl, hE.symm, ht⟩) (fun _ h => by cases h) dX0_isTiny_16
/-! X0_floorRoot -/
def fX0_floorRoot_k6 : Nat → Int64 → Int64 → Int32 → Int64
  | 0, _, _, _ => 0
  | n + 1, y0, y2, y4 => (if y4 < 0 then y2 else (if 0 < ((lg_cmp ((((y2 ||| (((1 : Int64) <<< (Int32.toInt64 y4 &&& 63))))) * ((y2 ||| (((1 : Int64) <<< (Int32.toInt64 y4 &&& 63))))))) y0)) then fX0_floorRoot_k6 n y0 y2 ((y4 + (-1 : Int32))) else fX0_floorRoot_k6 n y0 ((y2 ||| (((1 : Int64) <<< (Int32.toInt64 y4 &&& 63))))) ((y4 + (-1 : Int32)))))
theorem fX0_floorRoot_k6_s (n : Nat) (y0 : Int64) (y2 : Int64) (y4 : Int32) : fX0_floorRoot_k6 (n + 1) y0 y2 y4 = (if y4 < 0 then y2 else (if 0 < ((lg_cmp ((((y2 ||| (((1 : Int64) <<< (Int32.toInt64 y4 &&& 63))))) * ((y2 ||| (((1 : Int64) <<< (Int32.toInt64 y4 &&& 63))))))) y0)) then fX0_floorRoot_k6 n y0 y2 ((y4 + (-1 : Int32))) else fX0_floorRoot_k6 n y0 ((y2 ||| (((1 : Int64) <<< (Int32.toInt64 y4 &&& 63))))) ((y4 + (-1 : Int32))))) := rfl
def fX0_floorRoot (x0 : Int64) : Int64 := fX0_floorRoot_k6 32 x0 (0 : Int64) (30 : Int32)
set_option maxHeartbeats 4000000 in
set_option maxRecDepth 100000 in
theorem ccX0_floorRoot (l : Launch) (x0 : Int64)  : Met l yX0_floorRoot wsX0_floorRoot { frames := 0, cells := 0, slots := 0, locals := 0 } (va_Pc [.long x0] (fun _ => True)) (vp_Sl (fun r => r = fX0_floorRoot x0)) 0 0 (fun _ => False) := by
  refine Met.ofW (cc := cX0_floorRoot) (maxL := 7) (ret := (some .long)) (by decide) rfl ?_
  intro p e s m args below meth c s₁ B hml hv
  obtain ⟨rfl, -⟩ := hv
  have hx := B.exec
  have hb := B.bytes
  have hr := B.returns
  have hts := atoms_spec (ws := wsX0_floorRoot) B.pre
  have hown : s.vm.findClass RX0 = some m.cls := findClass_of_methodNamed B.named
  have hlocks := B.notSynchronized
  have hl := lv_entry ([.long x0]) (n := 7) (Nat.le_of_ble_eq_true rfl)
  rw [lg_entry_eq]
  generalize (lg_sl ([.long x0]) ++ List.replicate (7 - (lg_sl ([.long x0])).length) Slot.unset).toArray = ls at hl ⊢
  have hl : lv_has ls 7 [(0, .long x0)] := hl
  have j_6 : ∀ (n : Nat) (y0 : Int64) (y2 : Int64) (y4 : Int32) (ls : Array Slot), lv_has ls 7 [(0, .long y0), (2, .long y2), (4, .int y4)] → dsc 31 y4 n → fX0_floorRoot x0 = fX0_floorRoot_k6 n y0 y2 y4 → W p l e (headSpec wsX0_floorRoot { frames := 0, cells := 0, slots := 0, locals := 0 }).room s m ([.long x0] : List Value).toArray below meth c s.heap [] 0 0 (MQ below (vp_Sl (fun r => r = fX0_floorRoot x0)) ([.long x0] : List Value).toArray s 0 0 (fun _ => False)) (F0 m 6 ls []) := by
    intro n
    induction n with
    | zero =>
      intro y0 y2 y4 ls hl hM hE
      exact absurd hM dsc_0
    | succ n ih =>
      intro y0 y2 y4 ls hl hM hE
      replace hE := hE.trans (fX0_floorRoot_k6_s n y0 y2 y4)
      refine lv_iload hx hb dX0_floorRoot_6 (lv_at hl 2 rfl) ?_
      refine lv_if_lt (tgt := 38) hx hb dX0_floorRoot_8 (by decide) (fun c_8 => ?_) (fun c_8 => ?_)
      · replace hE := hE.trans (if_pos c_8)
        refine lv_lload_n hx hb dX0_floorRoot_38 rfl (lv_at hl 1 rfl) ?_
        exact W.lret hx hb hr (fun t ht hW => ⟨_, rfl, hE.symm, ht⟩) (fun _ h => by cases h) dX0_floorRoot_39
      · replace hE := hE.trans (if_neg c_8)
        refine lv_lload_n hx hb dX0_floorRoot_11 rfl (lv_at hl 1 rfl) ?_
        refine lv_lconst (v := 1) hx hb dX0_floorRoot_12 (by decide) ?_
        refine lv_iload hx hb dX0_floorRoot_13 (lv_at hl 2 rfl) ?_
        refine lv_lshl hx hb dX0_floorRoot_15 rfl ?_
        refine lv_lor hx hb dX0_floorRoot_16 ?_
        refine lv_lstore (lv' := [(5, .long (y2 ||| (((1 : Int64) <<< (Int32.toInt64 y4 &&& 63))))), (0, .long y0), (2, .long y2), (4, .int y4)]) hx hb dX0_floorRoot_17 hl (by decide) rfl (fun ls hl => ?_)
        refine lv_lload hx hb dX0_floorRoot_19 (lv_at hl 0 rfl) ?_
        refine lv_lload hx hb dX0_floorRoot_21 (lv_at hl 0 rfl) ?_
        refine lv_lmul hx hb dX0_floorRoot_23 ?_
        refine lv_lload_n hx hb dX0_floorRoot_24 rfl (lv_at hl 1 rfl) ?_
        refine W.lcmp hx hb dX0_floorRoot_25 ?_
        refine lv_if_gt (tgt := 32) hx hb dX0_floorRoot_26 (by decide) (fun c_26 => ?_) (fun c_26 => ?_)
        · replace hE := hE.trans (if_pos c_26)
          refine lv_iinc (v := (y4 + (-1 : Int32))) (lv' := [(4, .int (y4 + (-1 : Int32))), (5, .long (y2 ||| (((1 : Int64) <<< (Int32.toInt64 y4 &&& 63))))), (0, .long y0), (2, .long y2)]) hx hb dX0_floorRoot_32 hl (k := 3) rfl rfl (by decide) rfl (fun ls hl => ?_)
          refine lv_goto (tgt := 6) hx hb dX0_floorRoot_35 (by decide) ?_
          exact ih y0 y2 ((y4 + (-1 : Int32))) _ (lv_sub hl [2, 3, 0] rfl)  (dsc_step hM (i32_nlt0 c_8)) hE
        · replace hE := hE.trans (if_neg c_26)
          refine lv_lload hx hb dX0_floorRoot_29 (lv_at hl 0 rfl) ?_
          refine lv_lstore_n (lv' := [(2, .long (y2 ||| (((1 : Int64) <<< (Int32.toInt64 y4 &&& 63))))), (5, .long (y2 ||| (((1 : Int64) <<< (Int32.toInt64 y4 &&& 63))))), (0, .long y0), (4, .int y4)]) hx hb dX0_floorRoot_31 rfl hl (by decide) rfl (fun ls hl => ?_)
          refine lv_iinc (v := (y4 + (-1 : Int32))) (lv' := [(4, .int (y4 + (-1 : Int32))), (2, .long (y2 ||| (((1 : Int64) <<< (Int32.toInt64 y4 &&& 63))))), (5, .long (y2 ||| (((1 : Int64) <<< (Int32.toInt64 y4 &&& 63))))), (0, .long y0)]) hx hb dX0_floorRoot_32 hl (k := 3) rfl rfl (by decide) rfl (fun ls hl => ?_)
          refine lv_goto (tgt := 6) hx hb dX0_floorRoot_35 (by decide) ?_
          exact ih y0 ((y2 ||| (((1 : Int64) <<< (Int32.toInt64 y4 &&& 63))))) ((y4 + (-1 : Int32))) _ (lv_sub hl [3, 1, 0] rfl)  (dsc_step hM (i32_nlt0 c_8)) hE
  have hE : fX0_floorRoot x0 = fX0_floorRoot x0 := rfl
  refine lv_lconst (v := 0) hx hb dX0_floorRoot_0 (by decide) ?_
  refine lv_lstore_n (lv' := [(2, .long (0 : Int64)), (0, .long x0)]) hx hb dX0_floorRoot_1 rfl hl (by decide) rfl (fun ls hl => ?_)
  refine lv_bipush (v := 30) hx hb dX0_floorRoot_2 (by decide) ?_
  refine lv_istore (lv' := [(4, .int (30 : Int32)), (2, .long (0 : Int64)), (0, .long x0)]) hx hb dX0_floorRoot_4 hl (by decide) rfl (fun ls hl => ?_)
  exact j_6 32 x0 (0 : Int64) (30 : Int32) _ (lv_sub hl [2, 1, 0] rfl)  (⟨by decide, by decide, by decide⟩) hE
