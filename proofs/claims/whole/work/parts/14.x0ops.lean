/-! X0_multiply -/
def fX0_multiply_k100 (z0 : Int32) (mo : Int32) (vfl : Int32) : Int32 × Int32 := (z0, vfl)
def fX0_multiply_k72 (y3 : Int32) (mo : Int32) (vfl : Int32) : Int32 × Int32 := ((y3 ||| (2139095040 : Int32)), vfl)
def fX0_multiply_k58 (y1 : Int32) (y2 : Int32) (y3 : Int32) (mo : Int32) (vfl : Int32) : Int32 × Int32 := (if ((fX0_isInfinite y1)) = 0 then (if ((fX0_isInfinite y2)) = 0 then fX0_multiply_k100 ((fX0_rounded mo vfl y3 ((((fX0_magnitudeOf y1)) * ((fX0_magnitudeOf y2)))) ((((fX0_unitOf y1)) + ((fX0_unitOf y2))))).1) mo ((fX0_rounded mo vfl y3 ((((fX0_magnitudeOf y1)) * ((fX0_magnitudeOf y2)))) ((((fX0_unitOf y1)) + ((fX0_unitOf y2))))).2) else fX0_multiply_k72 y3 mo vfl) else fX0_multiply_k72 y3 mo vfl)
def fX0_multiply_k50 (z0 : Int32) (mo : Int32) (vfl : Int32) : Int32 × Int32 := (z0, vfl)
def fX0_multiply_k37 (z0 : Int32) (mo : Int32) (vfl : Int32) : Int32 × Int32 := (z0, vfl)
def fX0_multiply_k34 (z1 : Int32) (mo : Int32) (vfl : Int32) : Int32 × Int32 := fX0_multiply_k37 ((fX0_noNumber vfl z1).1) mo ((fX0_noNumber vfl z1).2)
def fX0_multiply_k14 (y1 : Int32) (y2 : Int32) (mo : Int32) (vfl : Int32) : Int32 × Int32 := (if ((fX0_isLoud y1)) = 0 then (if ((fX0_isLoud y2)) = 0 then fX0_multiply_k34 (0 : Int32) mo vfl else fX0_multiply_k34 (1 : Int32) mo vfl) else fX0_multiply_k34 (1 : Int32) mo vfl)
def fX0_multiply (mo : Int32) (fl : Int32) (x1 : Int32) (x2 : Int32) : Int32 × Int32 := (if ((fX0_isNoNumber x1)) = 0 then (if ((fX0_isNoNumber x2)) = 0 then (if ((fX0_isZeroTimesInfinite x1 x2)) = 0 then fX0_multiply_k58 x1 x2 ((fX0_signOf ((x1 ^^^ x2)))) mo fl else fX0_multiply_k50 ((fX0_invalid fl).1) mo ((fX0_invalid fl).2)) else fX0_multiply_k14 x1 x2 mo fl) else fX0_multiply_k14 x1 x2 mo fl)
set_option maxHeartbeats 4000000 in
set_option maxRecDepth 100000 in
theorem ccX0_multiply (l : Launch) (D : va_G) (h0 : Nat) (mo fl : Int32) (x1 : Int32) (x2 : Int32)  : Met l yX0_multiply wsX0_multiply { frames := 5, cells := 0, slots := 0, locals := 116 } (va_Pc [.ref h0, .int x1, .int x2] (w0 D h0 mo fl)) (va_Qi (fun (r : Int32) (u : Int32) => (r, u) = fX0_multiply mo fl x1 x2) (fun u t => w0 D h0 mo u t) (aw0 h0)) 0 0 (aw0 h0) := by
  refine Met.ofW (cc := cX0_multiply) (maxL := 4) (ret := (some .int)) (by decide) rfl ?_
  intro p e s m args below meth c s₁ B hml hv
  obtain ⟨rfl, hP, hK⟩ := hv
  have hx := B.exec
  have hb := B.bytes
  have hr := B.returns
  have hts := atoms_spec (ws := wsX0_multiply) B.pre
  have hown : s.vm.findClass RX0 = some m.cls := findClass_of_methodNamed B.named
  have hlocks := B.notSynchronized
  have hS : va_S (aw0 h0) s.heap s.heap [] := va_S.rf
  have hP : va_P D vwCl (bw0 h0 mo fl) s.heap := hP
  have hl := lv_entry ([.ref h0, .int x1, .int x2]) (n := 4) (Nat.le_of_ble_eq_true rfl)
  rw [lg_entry_eq]
  generalize (lg_sl ([.ref h0, .int x1, .int x2]) ++ List.replicate (4 - (lg_sl ([.ref h0, .int x1, .int x2])).length) Slot.unset).toArray = ls at hl ⊢
  have hl : lv_has ls 4 [(0, .ref h0), (1, .int x1), (2, .int x2)] := hl
  have j_72 : ∀ (y3 : Int32) (vfl : Int32) (H : Heap) (locs : List Loc) (ls : Array Slot), va_P D vwCl (bw0 h0 mo vfl) H → va_S (aw0 h0) s.heap H locs → lv_has ls 4 [(3, .int y3)] → fX0_multiply mo fl x1 x2 = fX0_multiply_k72 y3 mo vfl → W p l e (headSpec wsX0_multiply { frames := 5, cells := 0, slots := 0, locals := 116 }).room s m ([.ref h0, .int x1, .int x2] : List Value).toArray below meth c H locs 0 0 (MQ below (va_Qi (fun (r : Int32) (u : Int32) => (r, u) = fX0_multiply mo fl x1 x2) (fun u t => w0 D h0 mo u t) (aw0 h0)) ([.ref h0, .int x1, .int x2] : List Value).toArray s 0 0 (aw0 h0)) (F0 m 72 ls []) := by
    intro y3 vfl H locs ls hP hS hl hE
    refine lv_iload_n hx hb dX0_multiply_72 rfl (lv_at hl 0 rfl) ?_
    refine lv_ldc hx hb hown (hts (.constant RX0 48 (2139095040)) (by decide +kernel)) dX0_multiply_73 ?_
    refine lv_ior hx hb dX0_multiply_75 ?_
    exact W.iret hx hb hr (fun t ht hW => ⟨⟨_, vfl, rfl, hE.symm, by rw [ht]; exact hP, va_K.moved hW.alike hK⟩, hS.F ht⟩) hS.2.2 dX0_multiply_76
  have j_34 : ∀ (z1 : Int32) (vfl : Int32) (H : Heap) (locs : List Loc) (ls : Array Slot), va_P D vwCl (bw0 h0 mo vfl) H → va_S (aw0 h0) s.heap H locs → lv_has ls 4 [] → isB z1 → fX0_multiply mo fl x1 x2 = fX0_multiply_k34 z1 mo vfl → W p l e (headSpec wsX0_multiply { frames := 5, cells := 0, slots := 0, locals := 116 }).room s m ([.ref h0, .int x1, .int x2] : List Value).toArray below meth c H locs 0 0 (MQ below (va_Qi (fun (r : Int32) (u : Int32) => (r, u) = fX0_multiply mo fl x1 x2) (fun u t => w0 D h0 mo u t) (aw0 h0)) ([.ref h0, .int x1, .int x2] : List Value).toArray s 0 0 (aw0 h0)) (F0 m 34 ls [.int z1, .ref h0]) := by
    intro z1 vfl H locs ls hP hS hl b_z1 hE
    refine k0_calli (va_runV (As := [.int z1]) (rest := []) ⟨hx, hb, hml, hown, hts⟩ (ccX0_noNumber l D h0 mo vfl z1 ) (cwV 1 hts gX0_multiply_X0_noNumber rfl rfl rfl (by decide +kernel) ⟨Nat.le_of_ble_eq_true rfl, Nat.le_of_ble_eq_true rfl⟩) (w0_pre hK hP) rfl rfl hl.1 rfl (lv_room (Nat.le_of_ble_eq_true rfl)) dX0_multiply_34 ⟨Nat.zero_le _, Nat.zero_le _⟩) hS (fun r_34 u H locs hw hP hS => ?_)
    obtain ⟨fl_34, rfl⟩ : ∃ z, z = u := ⟨_, rfl⟩
    have hP : va_P D vwCl (bw0 h0 mo fl_34) H := hP
    replace hE : fX0_multiply mo fl x1 x2 = fX0_multiply_k37 r_34 mo fl_34 := by have h : fX0_multiply mo fl x1 x2 = fX0_multiply_k37 ((fX0_noNumber vfl z1).1) mo ((fX0_noNumber vfl z1).2) := hE; rw [← hw] at h; exact h
    exact W.iret hx hb hr (fun t ht hW => ⟨⟨_, fl_34, rfl, hE.symm, by rw [ht]; exact hP, va_K.moved hW.alike hK⟩, hS.F ht⟩) hS.2.2 dX0_multiply_37
  have j_14 : ∀ (y1 : Int32) (y2 : Int32) (vfl : Int32) (H : Heap) (locs : List Loc) (ls : Array Slot), va_P D vwCl (bw0 h0 mo vfl) H → va_S (aw0 h0) s.heap H locs → lv_has ls 4 [(0, .ref h0), (1, .int y1), (2, .int y2)] → fX0_multiply mo fl x1 x2 = fX0_multiply_k14 y1 y2 mo vfl → W p l e (headSpec wsX0_multiply { frames := 5, cells := 0, slots := 0, locals := 116 }).room s m ([.ref h0, .int x1, .int x2] : List Value).toArray below meth c H locs 0 0 (MQ below (va_Qi (fun (r : Int32) (u : Int32) => (r, u) = fX0_multiply mo fl x1 x2) (fun u t => w0 D h0 mo u t) (aw0 h0)) ([.ref h0, .int x1, .int x2] : List Value).toArray s 0 0 (aw0 h0)) (F0 m 14 ls []) := by
    intro y1 y2 vfl H locs ls hP hS hl hE
    refine lv_aload_n hx hb dX0_multiply_14 rfl (lv_at hl 0 rfl) ?_
    refine lv_iload_n hx hb dX0_multiply_15 rfl (lv_at hl 1 rfl) ?_
    refine sc_i (W.runS (As := [.int y1]) (rest := [.ref h0]) ⟨hx, hb, hml, hown, hts⟩ (ccX0_isLoud l y1 ) (va_cwS 1 hts gX0_multiply_X0_isLoud rfl rfl rfl (by decide +kernel) ⟨Nat.le_of_ble_eq_true rfl, Nat.le_of_ble_eq_true rfl⟩) st_pre rfl rfl hl.1 rfl (lv_room (Nat.le_of_ble_eq_true rfl)) dX0_multiply_16 ⟨Nat.zero_le _, Nat.zero_le _⟩) ?_
    refine lv_if_ne (tgt := 29) hx hb dX0_multiply_19 (by decide) (fun c_19 => ?_) (fun c_19 => ?_)
    · replace hE := hE.trans (if_neg c_19)
      refine lv_iconst (v := 1) hx hb dX0_multiply_29 (by decide) ?_
      refine lv_goto (tgt := 34) hx hb dX0_multiply_30 (by decide) ?_
      exact j_34 (1 : Int32) vfl _ _ _ hP hS (lv_sub hl [] rfl) isB_1 hE
    · replace hE := hE.trans (if_pos c_19)
      refine lv_iload_n hx hb dX0_multiply_22 rfl (lv_at hl 2 rfl) ?_
      refine sc_i (W.runS (As := [.int y2]) (rest := [.ref h0]) ⟨hx, hb, hml, hown, hts⟩ (ccX0_isLoud l y2 ) (va_cwS 1 hts gX0_multiply_X0_isLoud rfl rfl rfl (by decide +kernel) ⟨Nat.le_of_ble_eq_true rfl, Nat.le_of_ble_eq_true rfl⟩) st_pre rfl rfl hl.1 rfl (lv_room (Nat.le_of_ble_eq_true rfl)) dX0_multiply_23 ⟨Nat.zero_le _, Nat.zero_le _⟩) ?_
      refine lv_if_eq (tgt := 33) hx hb dX0_multiply_26 (by decide) (fun c_26 => ?_) (fun c_26 => ?_)
      · replace hE := hE.trans (if_pos c_26)
        refine lv_iconst (v := 0) hx hb dX0_multiply_33 (by decide) ?_
        exact j_34 (0 : Int32) vfl _ _ _ hP hS (lv_sub hl [] rfl) isB_0 hE
      · replace hE := hE.trans (if_neg c_26)
        refine lv_iconst (v := 1) hx hb dX0_multiply_29 (by decide) ?_
        refine lv_goto (tgt := 34) hx hb dX0_multiply_30 (by decide) ?_
        exact j_34 (1 : Int32) vfl _ _ _ hP hS (lv_sub hl [] rfl) isB_1 hE
  have hE : fX0_multiply mo fl x1 x2 = fX0_multiply mo fl x1 x2 := rfl
  refine lv_iload_n hx hb dX0_multiply_0 rfl (lv_at hl 1 rfl) ?_
  refine sc_i (W.runS (As := [.int x1]) (rest := []) ⟨hx, hb, hml, hown, hts⟩ (ccX0_isNoNumber l x1 ) (va_cwS 1 hts gX0_multiply_X0_isNoNumber rfl rfl rfl (by decide +kernel) ⟨Nat.le_of_ble_eq_true rfl, Nat.le_of_ble_eq_true rfl⟩) st_pre rfl rfl hl.1 rfl (lv_room (Nat.le_of_ble_eq_true rfl)) dX0_multiply_1 ⟨Nat.zero_le _, Nat.zero_le _⟩) ?_
  refine lv_if_ne (tgt := 14) hx hb dX0_multiply_4 (by decide) (fun c_4 => ?_) (fun c_4 => ?_)
  · replace hE := hE.trans (if_neg c_4)
    exact j_14 x1 x2 fl _ _ _ hP hS (lv_sub hl [0, 1, 2] rfl)  hE
  · replace hE := hE.trans (if_pos c_4)
    refine lv_iload_n hx hb dX0_multiply_7 rfl (lv_at hl 2 rfl) ?_
    refine sc_i (W.runS (As := [.int x2]) (rest := []) ⟨hx, hb, hml, hown, hts⟩ (ccX0_isNoNumber l x2 ) (va_cwS 1 hts gX0_multiply_X0_isNoNumber rfl rfl rfl (by decide +kernel) ⟨Nat.le_of_ble_eq_true rfl, Nat.le_of_ble_eq_true rfl⟩) st_pre rfl rfl hl.1 rfl (lv_room (Nat.le_of_ble_eq_true rfl)) dX0_multiply_8 ⟨Nat.zero_le _, Nat.zero_le _⟩) ?_
    refine lv_if_eq (tgt := 38) hx hb dX0_multiply_11 (by decide) (fun c_11 => ?_) (fun c_11 => ?_)
    · replace hE := hE.trans (if_pos c_11)
      refine lv_iload_n hx hb dX0_multiply_38 rfl (lv_at hl 1 rfl) ?_
      refine lv_iload_n hx hb dX0_multiply_39 rfl (lv_at hl 2 rfl) ?_
      refine sc_i (W.runS (As := [.int x1, .int x2]) (rest := []) ⟨hx, hb, hml, hown, hts⟩ (ccX0_isZeroTimesInfinite l x1 x2 ) (va_cwS 2 hts gX0_multiply_X0_isZeroTimesInfinite rfl rfl rfl (by decide +kernel) ⟨Nat.le_of_ble_eq_true rfl, Nat.le_of_ble_eq_true rfl⟩) st_pre rfl rfl hl.1 rfl (lv_room (Nat.le_of_ble_eq_true rfl)) dX0_multiply_40 ⟨Nat.zero_le _, Nat.zero_le _⟩) ?_
      refine lv_if_eq (tgt := 51) hx hb dX0_multiply_43 (by decide) (fun c_43 => ?_) (fun c_43 => ?_)
      · replace hE := hE.trans (if_pos c_43)
        refine lv_iload_n hx hb dX0_multiply_51 rfl (lv_at hl 1 rfl) ?_
        refine lv_iload_n hx hb dX0_multiply_52 rfl (lv_at hl 2 rfl) ?_
        refine lv_ixor hx hb dX0_multiply_53 ?_
        refine sc_i (W.runS (As := [.int (x1 ^^^ x2)]) (rest := []) ⟨hx, hb, hml, hown, hts⟩ (ccX0_signOf l ((x1 ^^^ x2)) ) (va_cwS 1 hts gX0_multiply_X0_signOf rfl rfl rfl (by decide +kernel) ⟨Nat.le_of_ble_eq_true rfl, Nat.le_of_ble_eq_true rfl⟩) st_pre rfl rfl hl.1 rfl (lv_room (Nat.le_of_ble_eq_true rfl)) dX0_multiply_54 ⟨Nat.zero_le _, Nat.zero_le _⟩) ?_
        refine lv_topi (fun x3_57 e_57 => ?_)
        refine lv_istore_n (lv' := [(3, .int x3_57), (0, .ref h0), (1, .int x1), (2, .int x2)]) hx hb dX0_multiply_57 rfl hl (by decide) rfl (fun ls hl => ?_)
        replace hE : fX0_multiply mo fl x1 x2 = fX0_multiply_k58 x1 x2 x3_57 mo fl := by rw [e_57]; exact hE
        refine lv_iload_n hx hb dX0_multiply_58 rfl (lv_at hl 2 rfl) ?_
        refine sc_i (W.runS (As := [.int x1]) (rest := []) ⟨hx, hb, hml, hown, hts⟩ (ccX0_isInfinite l x1 ) (va_cwS 1 hts gX0_multiply_X0_isInfinite rfl rfl rfl (by decide +kernel) ⟨Nat.le_of_ble_eq_true rfl, Nat.le_of_ble_eq_true rfl⟩) st_pre rfl rfl hl.1 rfl (lv_room (Nat.le_of_ble_eq_true rfl)) dX0_multiply_59 ⟨Nat.zero_le _, Nat.zero_le _⟩) ?_
        refine lv_if_ne (tgt := 72) hx hb dX0_multiply_62 (by decide) (fun c_62 => ?_) (fun c_62 => ?_)
        · replace hE := hE.trans (if_neg c_62)
          exact j_72 x3_57 fl _ _ _ hP hS (lv_sub hl [0] rfl)  hE
        · replace hE := hE.trans (if_pos c_62)
          refine lv_iload_n hx hb dX0_multiply_65 rfl (lv_at hl 3 rfl) ?_
          refine sc_i (W.runS (As := [.int x2]) (rest := []) ⟨hx, hb, hml, hown, hts⟩ (ccX0_isInfinite l x2 ) (va_cwS 1 hts gX0_multiply_X0_isInfinite rfl rfl rfl (by decide +kernel) ⟨Nat.le_of_ble_eq_true rfl, Nat.le_of_ble_eq_true rfl⟩) st_pre rfl rfl hl.1 rfl (lv_room (Nat.le_of_ble_eq_true rfl)) dX0_multiply_66 ⟨Nat.zero_le _, Nat.zero_le _⟩) ?_
          refine lv_if_eq (tgt := 77) hx hb dX0_multiply_69 (by decide) (fun c_69 => ?_) (fun c_69 => ?_)
          · replace hE := hE.trans (if_pos c_69)
            refine lv_aload_n hx hb dX0_multiply_77 rfl (lv_at hl 1 rfl) ?_
            refine lv_iload_n hx hb dX0_multiply_78 rfl (lv_at hl 0 rfl) ?_
            refine lv_iload_n hx hb dX0_multiply_79 rfl (lv_at hl 2 rfl) ?_
            refine sc_l (W.runS (As := [.int x1]) (rest := [.int x3_57, .ref h0]) ⟨hx, hb, hml, hown, hts⟩ (ccX0_magnitudeOf l x1 ) (va_cwS 1 hts gX0_multiply_X0_magnitudeOf rfl rfl rfl (by decide +kernel) ⟨Nat.le_of_ble_eq_true rfl, Nat.le_of_ble_eq_true rfl⟩) st_pre rfl rfl hl.1 rfl (lv_room (Nat.le_of_ble_eq_true rfl)) dX0_multiply_80 ⟨Nat.zero_le _, Nat.zero_le _⟩) ?_
            refine lv_iload_n hx hb dX0_multiply_83 rfl (lv_at hl 3 rfl) ?_
            refine sc_l (W.runS (As := [.int x2]) (rest := [.long (fX0_magnitudeOf x1), .int x3_57, .ref h0]) ⟨hx, hb, hml, hown, hts⟩ (ccX0_magnitudeOf l x2 ) (va_cwS 1 hts gX0_multiply_X0_magnitudeOf rfl rfl rfl (by decide +kernel) ⟨Nat.le_of_ble_eq_true rfl, Nat.le_of_ble_eq_true rfl⟩) st_pre rfl rfl hl.1 rfl (lv_room (Nat.le_of_ble_eq_true rfl)) dX0_multiply_84 ⟨Nat.zero_le _, Nat.zero_le _⟩) ?_
            refine lv_lmul hx hb dX0_multiply_87 ?_
            refine lv_iload_n hx hb dX0_multiply_88 rfl (lv_at hl 2 rfl) ?_
            refine sc_i (W.runS (As := [.int x1]) (rest := [.long (((fX0_magnitudeOf x1)) * ((fX0_magnitudeOf x2))), .int x3_57, .ref h0]) ⟨hx, hb, hml, hown, hts⟩ (ccX0_unitOf l x1 ) (va_cwS 1 hts gX0_multiply_X0_unitOf rfl rfl rfl (by decide +kernel) ⟨Nat.le_of_ble_eq_true rfl, Nat.le_of_ble_eq_true rfl⟩) st_pre rfl rfl hl.1 rfl (lv_room (Nat.le_of_ble_eq_true rfl)) dX0_multiply_89 ⟨Nat.zero_le _, Nat.zero_le _⟩) ?_
            refine lv_iload_n hx hb dX0_multiply_92 rfl (lv_at hl 3 rfl) ?_
            refine sc_i (W.runS (As := [.int x2]) (rest := [.int (fX0_unitOf x1), .long (((fX0_magnitudeOf x1)) * ((fX0_magnitudeOf x2))), .int x3_57, .ref h0]) ⟨hx, hb, hml, hown, hts⟩ (ccX0_unitOf l x2 ) (va_cwS 1 hts gX0_multiply_X0_unitOf rfl rfl rfl (by decide +kernel) ⟨Nat.le_of_ble_eq_true rfl, Nat.le_of_ble_eq_true rfl⟩) st_pre rfl rfl hl.1 rfl (lv_room (Nat.le_of_ble_eq_true rfl)) dX0_multiply_93 ⟨Nat.zero_le _, Nat.zero_le _⟩) ?_
            refine lv_iadd hx hb dX0_multiply_96 ?_
            refine k0_calli (va_runV (As := [.int x3_57, .long (((fX0_magnitudeOf x1)) * ((fX0_magnitudeOf x2))), .int (((fX0_unitOf x1)) + ((fX0_unitOf x2)))]) (rest := []) ⟨hx, hb, hml, hown, hts⟩ (ccX0_rounded l D h0 mo fl x3_57 ((((fX0_magnitudeOf x1)) * ((fX0_magnitudeOf x2)))) ((((fX0_unitOf x1)) + ((fX0_unitOf x2)))) ) (cwV 3 hts gX0_multiply_X0_rounded rfl rfl rfl (by decide +kernel) ⟨Nat.le_of_ble_eq_true rfl, Nat.le_of_ble_eq_true rfl⟩) (w0_pre hK hP) rfl rfl hl.1 rfl (lv_room (Nat.le_of_ble_eq_true rfl)) dX0_multiply_97 ⟨Nat.zero_le _, Nat.zero_le _⟩) hS (fun r_97 u H locs hw hP hS => ?_)
            obtain ⟨fl_97, rfl⟩ : ∃ z, z = u := ⟨_, rfl⟩
            have hP : va_P D vwCl (bw0 h0 mo fl_97) H := hP
            replace hE : fX0_multiply mo fl x1 x2 = fX0_multiply_k100 r_97 mo fl_97 := by have h : fX0_multiply mo fl x1 x2 = fX0_multiply_k100 ((fX0_rounded mo fl x3_57 ((((fX0_magnitudeOf x1)) * ((fX0_magnitudeOf x2)))) ((((fX0_unitOf x1)) + ((fX0_unitOf x2))))).1) mo ((fX0_rounded mo fl x3_57 ((((fX0_magnitudeOf x1)) * ((fX0_magnitudeOf x2)))) ((((fX0_unitOf x1)) + ((fX0_unitOf x2))))).2) := hE; rw [← hw] at h; exact h
            exact W.iret hx hb hr (fun t ht hW => ⟨⟨_, fl_97, rfl, hE.symm, by rw [ht]; exact hP, va_K.moved hW.alike hK⟩, hS.F ht⟩) hS.2.2 dX0_multiply_100
          · replace hE := hE.trans (if_neg c_69)
            exact j_72 x3_57 fl _ _ _ hP hS (lv_sub hl [0] rfl)  hE
      · replace hE := hE.trans (if_neg c_43)
        refine lv_aload_n hx hb dX0_multiply_46 rfl (lv_at hl 0 rfl) ?_
        refine k0_calli (va_runV (As := []) (rest := []) ⟨hx, hb, hml, hown, hts⟩ (ccX0_invalid l D h0 mo fl  ) (cwV 0 hts gX0_multiply_X0_invalid rfl rfl rfl (by decide +kernel) ⟨Nat.le_of_ble_eq_true rfl, Nat.le_of_ble_eq_true rfl⟩) (w0_pre hK hP) rfl rfl hl.1 rfl (lv_room (Nat.le_of_ble_eq_true rfl)) dX0_multiply_47 ⟨Nat.zero_le _, Nat.zero_le _⟩) hS (fun r_47 u H locs hw hP hS => ?_)
        obtain ⟨fl_47, rfl⟩ : ∃ z, z = u := ⟨_, rfl⟩
        have hP : va_P D vwCl (bw0 h0 mo fl_47) H := hP
        replace hE : fX0_multiply mo fl x1 x2 = fX0_multiply_k50 r_47 mo fl_47 := by have h : fX0_multiply mo fl x1 x2 = fX0_multiply_k50 ((fX0_invalid fl).1) mo ((fX0_invalid fl).2) := hE; rw [← hw] at h; exact h
        exact W.iret hx hb hr (fun t ht hW => ⟨⟨_, fl_47, rfl, hE.symm, by rw [ht]; exact hP, va_K.moved hW.alike hK⟩, hS.F ht⟩) hS.2.2 dX0_multiply_50
    · replace hE := hE.trans (if_neg c_11)
      exact j_14 x1 x2 fl _ _ _ hP hS (lv_sub hl [0, 1, 2] rfl)  hE
/-! X0_divide -/
def fX0_divide_k188 (z0 : Int32) (mo : Int32) (vfl : Int32) : Int32 × Int32 := (z0, vfl)
def fX0_divide_k169 (y1 : Int32) (y2 : Int32) (y3 : Int32) (y6 : Int32) (y9 : Int64) (mo : Int32) (vfl : Int32) : Int32 × Int32 := fX0_divide_k188 ((fX0_rounded mo vfl y3 y9 ((((((fX0_unitOf y1)) - y6)) - ((fX0_unitOf y2))))).1) mo ((fX0_rounded mo vfl y3 y9 ((((((fX0_unitOf y1)) - y6)) - ((fX0_unitOf y2))))).2)
def fX0_divide_k164 (y1 : Int32) (y2 : Int32) (y3 : Int32) (y6 : Int32) (z0 : Int64) (z1 : Int32) (mo : Int32) (vfl : Int32) : Int32 × Int32 := fX0_divide_k169 y1 y2 y3 y6 ((fX0_withTrace z0 z1)) mo vfl
def fX0_divide_k144 (y1 : Int32) (y2 : Int32) (y3 : Int32) (y4 : Int64) (y6 : Int32) (y7 : Int64) (mo : Int32) (vfl : Int32) : Int32 × Int32 := (if ((lg_cmp ((y7 - y7 / y4 * y4)) (0 : Int64))) = 0 then fX0_divide_k164 y1 y2 y3 y6 ((y7 / y4)) (0 : Int32) mo vfl else fX0_divide_k164 y1 y2 y3 y6 ((y7 / y4)) (1 : Int32) mo vfl)
def fX0_divide_k135 (y1 : Int32) (y2 : Int32) (y3 : Int32) (y4 : Int64) (y6 : Int32) (mo : Int32) (vfl : Int32) : Int32 × Int32 := fX0_divide_k144 y1 y2 y3 y4 y6 ((((fX0_magnitudeOf y1)) <<< (Int32.toInt64 y6 &&& 63))) mo vfl
def fX0_divide_k118 (y3 : Int32) (mo : Int32) (vfl : Int32) : Int32 × Int32 := ((y3 ||| (2139095040 : Int32)), vfl)
def fX0_divide_k105 (y1 : Int32) (y2 : Int32) (y3 : Int32) (y4 : Int64) (mo : Int32) (vfl : Int32) : Int32 × Int32 := (if ((lg_cmp y4 (0 : Int64))) = 0 then fX0_divide_k118 y3 mo ((fX0_raise vfl (8 : Int32))) else fX0_divide_k135 y1 y2 y3 y4 (((62 : Int32) - ((fX0_bitLength ((fX0_magnitudeOf y1)))))) mo vfl)
def fX0_divide_k78 (y1 : Int32) (y2 : Int32) (y3 : Int32) (mo : Int32) (vfl : Int32) : Int32 × Int32 := (if ((fX0_isInfinite y1)) = 0 then (if ((fX0_isInfinite y2)) = 0 then fX0_divide_k105 y1 y2 y3 ((fX0_magnitudeOf y2)) mo vfl else (y3, vfl)) else ((y3 ||| (2139095040 : Int32)), vfl))
def fX0_divide_k71 (y1 : Int32) (y2 : Int32) (mo : Int32) (vfl : Int32) : Int32 × Int32 := fX0_divide_k78 y1 y2 ((fX0_signOf ((y1 ^^^ y2)))) mo vfl
def fX0_divide_k70 (z0 : Int32) (mo : Int32) (vfl : Int32) : Int32 × Int32 := (z0, vfl)
def fX0_divide_k66 (mo : Int32) (vfl : Int32) : Int32 × Int32 := fX0_divide_k70 ((fX0_invalid vfl).1) mo ((fX0_invalid vfl).2)
def fX0_divide_k52 (y1 : Int32) (y2 : Int32) (mo : Int32) (vfl : Int32) : Int32 × Int32 := (if ((fX0_isInfinite y1)) = 0 then fX0_divide_k71 y1 y2 mo vfl else (if ((fX0_isInfinite y2)) = 0 then fX0_divide_k71 y1 y2 mo vfl else fX0_divide_k66 mo vfl))
def fX0_divide_k37 (z0 : Int32) (mo : Int32) (vfl : Int32) : Int32 × Int32 := (z0, vfl)
def fX0_divide_k34 (z1 : Int32) (mo : Int32) (vfl : Int32) : Int32 × Int32 := fX0_divide_k37 ((fX0_noNumber vfl z1).1) mo ((fX0_noNumber vfl z1).2)
def fX0_divide_k14 (y1 : Int32) (y2 : Int32) (mo : Int32) (vfl : Int32) : Int32 × Int32 := (if ((fX0_isLoud y1)) = 0 then (if ((fX0_isLoud y2)) = 0 then fX0_divide_k34 (0 : Int32) mo vfl else fX0_divide_k34 (1 : Int32) mo vfl) else fX0_divide_k34 (1 : Int32) mo vfl)
def fX0_divide (mo : Int32) (fl : Int32) (x1 : Int32) (x2 : Int32) : Int32 × Int32 := (if ((fX0_isNoNumber x1)) = 0 then (if ((fX0_isNoNumber x2)) = 0 then (if ((fX0_isZero x1)) = 0 then fX0_divide_k52 x1 x2 mo fl else (if ((fX0_isZero x2)) = 0 then fX0_divide_k52 x1 x2 mo fl else fX0_divide_k66 mo fl)) else fX0_divide_k14 x1 x2 mo fl) else fX0_divide_k14 x1 x2 mo fl)
set_option maxHeartbeats 4000000 in
set_option maxRecDepth 100000 in
theorem ccX0_divide (l : Launch) (D : va_G) (h0 : Nat) (mo fl : Int32) (x1 : Int32) (x2 : Int32)  : Met l yX0_divide wsX0_divide { frames := 5, cells := 0, slots := 0, locals := 116 } (va_Pc [.ref h0, .int x1, .int x2] (w0 D h0 mo fl)) (va_Qi (fun (r : Int32) (u : Int32) => (r, u) = fX0_divide mo fl x1 x2) (fun u t => w0 D h0 mo u t) (aw0 h0)) 0 0 (aw0 h0) := by
  refine Met.ofW (cc := cX0_divide) (maxL := 11) (ret := (some .int)) (by decide) rfl ?_
  intro p e s m args below meth c s₁ B hml hv
  obtain ⟨rfl, hP, hK⟩ := hv
  have hx := B.exec
  have hb := B.bytes
  have hr := B.returns
  have hts := atoms_spec (ws := wsX0_divide) B.pre
  have hown : s.vm.findClass RX0 = some m.cls := findClass_of_methodNamed B.named
  have hlocks := B.notSynchronized
  have hS : va_S (aw0 h0) s.heap s.heap [] := va_S.rf
  have hP : va_P D vwCl (bw0 h0 mo fl) s.heap := hP
  have hl := lv_entry ([.ref h0, .int x1, .int x2]) (n := 11) (Nat.le_of_ble_eq_true rfl)
  rw [lg_entry_eq]
  generalize (lg_sl ([.ref h0, .int x1, .int x2]) ++ List.replicate (11 - (lg_sl ([.ref h0, .int x1, .int x2])).length) Slot.unset).toArray = ls at hl ⊢
  have hl : lv_has ls 11 [(0, .ref h0), (1, .int x1), (2, .int x2)] := hl
  have j_164 : ∀ (y1 : Int32) (y2 : Int32) (y3 : Int32) (y6 : Int32) (z0 : Int64) (z1 : Int32) (vfl : Int32) (H : Heap) (locs : List Loc) (ls : Array Slot), va_P D vwCl (bw0 h0 mo vfl) H → va_S (aw0 h0) s.heap H locs → lv_has ls 11 [(0, .ref h0), (1, .int y1), (2, .int y2), (3, .int y3), (6, .int y6)] → isB z1 → fX0_divide mo fl x1 x2 = fX0_divide_k164 y1 y2 y3 y6 z0 z1 mo vfl → W p l e (headSpec wsX0_divide { frames := 5, cells := 0, slots := 0, locals := 116 }).room s m ([.ref h0, .int x1, .int x2] : List Value).toArray below meth c H locs 0 0 (MQ below (va_Qi (fun (r : Int32) (u : Int32) => (r, u) = fX0_divide mo fl x1 x2) (fun u t => w0 D h0 mo u t) (aw0 h0)) ([.ref h0, .int x1, .int x2] : List Value).toArray s 0 0 (aw0 h0)) (F0 m 164 ls [.int z1, .long z0]) := by
    intro y1 y2 y3 y6 z0 z1 vfl H locs ls hP hS hl b_z1 hE
    refine sc_l (W.runS (As := [.long z0, .int z1]) (rest := []) ⟨hx, hb, hml, hown, hts⟩ (ccX0_withTrace l z0 z1 ) (va_cwS 2 hts gX0_divide_X0_withTrace rfl rfl rfl (by decide +kernel) ⟨Nat.le_of_ble_eq_true rfl, Nat.le_of_ble_eq_true rfl⟩) st_pre rfl rfl hl.1 rfl (lv_room (Nat.le_of_ble_eq_true rfl)) dX0_divide_164 ⟨Nat.zero_le _, Nat.zero_le _⟩) ?_
    refine lv_topl (fun x9_167 e_167 => ?_)
    refine lv_lstore (lv' := [(9, .long x9_167), (0, .ref h0), (1, .int y1), (2, .int y2), (3, .int y3), (6, .int y6)]) hx hb dX0_divide_167 hl (by decide) rfl (fun ls hl => ?_)
    replace hE : fX0_divide mo fl x1 x2 = fX0_divide_k169 y1 y2 y3 y6 x9_167 mo vfl := by rw [e_167]; exact hE
    refine lv_aload_n hx hb dX0_divide_169 rfl (lv_at hl 1 rfl) ?_
    refine lv_iload_n hx hb dX0_divide_170 rfl (lv_at hl 4 rfl) ?_
    refine lv_lload hx hb dX0_divide_171 (lv_at hl 0 rfl) ?_
    refine lv_iload_n hx hb dX0_divide_173 rfl (lv_at hl 2 rfl) ?_
    refine sc_i (W.runS (As := [.int y1]) (rest := [.long x9_167, .int y3, .ref h0]) ⟨hx, hb, hml, hown, hts⟩ (ccX0_unitOf l y1 ) (va_cwS 1 hts gX0_divide_X0_unitOf rfl rfl rfl (by decide +kernel) ⟨Nat.le_of_ble_eq_true rfl, Nat.le_of_ble_eq_true rfl⟩) st_pre rfl rfl hl.1 rfl (lv_room (Nat.le_of_ble_eq_true rfl)) dX0_divide_174 ⟨Nat.zero_le _, Nat.zero_le _⟩) ?_
    refine lv_iload hx hb dX0_divide_177 (lv_at hl 5 rfl) ?_
    refine lv_isub hx hb dX0_divide_179 ?_
    refine lv_iload_n hx hb dX0_divide_180 rfl (lv_at hl 3 rfl) ?_
    refine sc_i (W.runS (As := [.int y2]) (rest := [.int (((fX0_unitOf y1)) - y6), .long x9_167, .int y3, .ref h0]) ⟨hx, hb, hml, hown, hts⟩ (ccX0_unitOf l y2 ) (va_cwS 1 hts gX0_divide_X0_unitOf rfl rfl rfl (by decide +kernel) ⟨Nat.le_of_ble_eq_true rfl, Nat.le_of_ble_eq_true rfl⟩) st_pre rfl rfl hl.1 rfl (lv_room (Nat.le_of_ble_eq_true rfl)) dX0_divide_181 ⟨Nat.zero_le _, Nat.zero_le _⟩) ?_
    refine lv_isub hx hb dX0_divide_184 ?_
    refine k0_calli (va_runV (As := [.int y3, .long x9_167, .int (((((fX0_unitOf y1)) - y6)) - ((fX0_unitOf y2)))]) (rest := []) ⟨hx, hb, hml, hown, hts⟩ (ccX0_rounded l D h0 mo vfl y3 x9_167 ((((((fX0_unitOf y1)) - y6)) - ((fX0_unitOf y2)))) ) (cwV 3 hts gX0_divide_X0_rounded rfl rfl rfl (by decide +kernel) ⟨Nat.le_of_ble_eq_true rfl, Nat.le_of_ble_eq_true rfl⟩) (w0_pre hK hP) rfl rfl hl.1 rfl (lv_room (Nat.le_of_ble_eq_true rfl)) dX0_divide_185 ⟨Nat.zero_le _, Nat.zero_le _⟩) hS (fun r_185 u H locs hw hP hS => ?_)
    obtain ⟨fl_185, rfl⟩ : ∃ z, z = u := ⟨_, rfl⟩
    have hP : va_P D vwCl (bw0 h0 mo fl_185) H := hP
    replace hE : fX0_divide mo fl x1 x2 = fX0_divide_k188 r_185 mo fl_185 := by have h : fX0_divide mo fl x1 x2 = fX0_divide_k188 ((fX0_rounded mo vfl y3 x9_167 ((((((fX0_unitOf y1)) - y6)) - ((fX0_unitOf y2))))).1) mo ((fX0_rounded mo vfl y3 x9_167 ((((((fX0_unitOf y1)) - y6)) - ((fX0_unitOf y2))))).2) := hE; rw [← hw] at h; exact h
    exact W.iret hx hb hr (fun t ht hW => ⟨⟨_, fl_185, rfl, hE.symm, by rw [ht]; exact hP, va_K.moved hW.alike hK⟩, hS.F ht⟩) hS.2.2 dX0_divide_188
  have j_71 : ∀ (y1 : Int32) (y2 : Int32) (vfl : Int32) (H : Heap) (locs : List Loc) (ls : Array Slot), va_P D vwCl (bw0 h0 mo vfl) H → va_S (aw0 h0) s.heap H locs → lv_has ls 11 [(0, .ref h0), (1, .int y1), (2, .int y2)] → fX0_divide mo fl x1 x2 = fX0_divide_k71 y1 y2 mo vfl → W p l e (headSpec wsX0_divide { frames := 5, cells := 0, slots := 0, locals := 116 }).room s m ([.ref h0, .int x1, .int x2] : List Value).toArray below meth c H locs 0 0 (MQ below (va_Qi (fun (r : Int32) (u : Int32) => (r, u) = fX0_divide mo fl x1 x2) (fun u t => w0 D h0 mo u t) (aw0 h0)) ([.ref h0, .int x1, .int x2] : List Value).toArray s 0 0 (aw0 h0)) (F0 m 71 ls []) := by
    intro y1 y2 vfl H locs ls hP hS hl hE
    refine lv_iload_n hx hb dX0_divide_71 rfl (lv_at hl 1 rfl) ?_
    refine lv_iload_n hx hb dX0_divide_72 rfl (lv_at hl 2 rfl) ?_
    refine lv_ixor hx hb dX0_divide_73 ?_
    refine sc_i (W.runS (As := [.int (y1 ^^^ y2)]) (rest := []) ⟨hx, hb, hml, hown, hts⟩ (ccX0_signOf l ((y1 ^^^ y2)) ) (va_cwS 1 hts gX0_divide_X0_signOf rfl rfl rfl (by decide +kernel) ⟨Nat.le_of_ble_eq_true rfl, Nat.le_of_ble_eq_true rfl⟩) st_pre rfl rfl hl.1 rfl (lv_room (Nat.le_of_ble_eq_true rfl)) dX0_divide_74 ⟨Nat.zero_le _, Nat.zero_le _⟩) ?_
    refine lv_topi (fun x3_77 e_77 => ?_)
    refine lv_istore_n (lv' := [(3, .int x3_77), (0, .ref h0), (1, .int y1), (2, .int y2)]) hx hb dX0_divide_77 rfl hl (by decide) rfl (fun ls hl => ?_)
    replace hE : fX0_divide mo fl x1 x2 = fX0_divide_k78 y1 y2 x3_77 mo vfl := by rw [e_77]; exact hE
    refine lv_iload_n hx hb dX0_divide_78 rfl (lv_at hl 2 rfl) ?_
    refine sc_i (W.runS (As := [.int y1]) (rest := []) ⟨hx, hb, hml, hown, hts⟩ (ccX0_isInfinite l y1 ) (va_cwS 1 hts gX0_divide_X0_isInfinite rfl rfl rfl (by decide +kernel) ⟨Nat.le_of_ble_eq_true rfl, Nat.le_of_ble_eq_true rfl⟩) st_pre rfl rfl hl.1 rfl (lv_room (Nat.le_of_ble_eq_true rfl)) dX0_divide_79 ⟨Nat.zero_le _, Nat.zero_le _⟩) ?_
    refine lv_if_eq (tgt := 90) hx hb dX0_divide_82 (by decide) (fun c_82 => ?_) (fun c_82 => ?_)
    · replace hE := hE.trans (if_pos c_82)
      refine lv_iload_n hx hb dX0_divide_90 rfl (lv_at hl 3 rfl) ?_
      refine sc_i (W.runS (As := [.int y2]) (rest := []) ⟨hx, hb, hml, hown, hts⟩ (ccX0_isInfinite l y2 ) (va_cwS 1 hts gX0_divide_X0_isInfinite rfl rfl rfl (by decide +kernel) ⟨Nat.le_of_ble_eq_true rfl, Nat.le_of_ble_eq_true rfl⟩) st_pre rfl rfl hl.1 rfl (lv_room (Nat.le_of_ble_eq_true rfl)) dX0_divide_91 ⟨Nat.zero_le _, Nat.zero_le _⟩) ?_
      refine lv_if_eq (tgt := 99) hx hb dX0_divide_94 (by decide) (fun c_94 => ?_) (fun c_94 => ?_)
      · replace hE := hE.trans (if_pos c_94)
        refine lv_iload_n hx hb dX0_divide_99 rfl (lv_at hl 3 rfl) ?_
        refine sc_l (W.runS (As := [.int y2]) (rest := []) ⟨hx, hb, hml, hown, hts⟩ (ccX0_magnitudeOf l y2 ) (va_cwS 1 hts gX0_divide_X0_magnitudeOf rfl rfl rfl (by decide +kernel) ⟨Nat.le_of_ble_eq_true rfl, Nat.le_of_ble_eq_true rfl⟩) st_pre rfl rfl hl.1 rfl (lv_room (Nat.le_of_ble_eq_true rfl)) dX0_divide_100 ⟨Nat.zero_le _, Nat.zero_le _⟩) ?_
        refine lv_topl (fun x4_103 e_103 => ?_)
        refine lv_lstore (lv' := [(4, .long x4_103), (3, .int x3_77), (0, .ref h0), (1, .int y1), (2, .int y2)]) hx hb dX0_divide_103 hl (by decide) rfl (fun ls hl => ?_)
        replace hE : fX0_divide mo fl x1 x2 = fX0_divide_k105 y1 y2 x3_77 x4_103 mo vfl := by rw [e_103]; exact hE
        refine lv_lload hx hb dX0_divide_105 (lv_at hl 0 rfl) ?_
        refine lv_lconst (v := 0) hx hb dX0_divide_107 (by decide) ?_
        refine W.lcmp hx hb dX0_divide_108 ?_
        refine lv_if_ne (tgt := 123) hx hb dX0_divide_109 (by decide) (fun c_109 => ?_) (fun c_109 => ?_)
        · replace hE := hE.trans (if_neg c_109)
          refine lv_bipush (v := 62) hx hb dX0_divide_123 (by decide) ?_
          refine lv_iload_n hx hb dX0_divide_125 rfl (lv_at hl 3 rfl) ?_
          refine sc_l (W.runS (As := [.int y1]) (rest := [.int (62 : Int32)]) ⟨hx, hb, hml, hown, hts⟩ (ccX0_magnitudeOf l y1 ) (va_cwS 1 hts gX0_divide_X0_magnitudeOf rfl rfl rfl (by decide +kernel) ⟨Nat.le_of_ble_eq_true rfl, Nat.le_of_ble_eq_true rfl⟩) st_pre rfl rfl hl.1 rfl (lv_room (Nat.le_of_ble_eq_true rfl)) dX0_divide_126 ⟨Nat.zero_le _, Nat.zero_le _⟩) ?_
          refine sc_i (W.runS (As := [.long (fX0_magnitudeOf y1)]) (rest := [.int (62 : Int32)]) ⟨hx, hb, hml, hown, hts⟩ (ccX0_bitLength l ((fX0_magnitudeOf y1)) ) (va_cwS 1 hts gX0_divide_X0_bitLength rfl rfl rfl (by decide +kernel) ⟨Nat.le_of_ble_eq_true rfl, Nat.le_of_ble_eq_true rfl⟩) st_pre rfl rfl hl.1 rfl (lv_room (Nat.le_of_ble_eq_true rfl)) dX0_divide_129 ⟨Nat.zero_le _, Nat.zero_le _⟩) ?_
          refine lv_isub hx hb dX0_divide_132 ?_
          refine lv_topi (fun x6_133 e_133 => ?_)
          refine lv_istore (lv' := [(6, .int x6_133), (4, .long x4_103), (3, .int x3_77), (0, .ref h0), (1, .int y1), (2, .int y2)]) hx hb dX0_divide_133 hl (by decide) rfl (fun ls hl => ?_)
          replace hE : fX0_divide mo fl x1 x2 = fX0_divide_k135 y1 y2 x3_77 x4_103 x6_133 mo vfl := by rw [e_133]; exact hE
          refine lv_iload_n hx hb dX0_divide_135 rfl (lv_at hl 4 rfl) ?_
          refine sc_l (W.runS (As := [.int y1]) (rest := []) ⟨hx, hb, hml, hown, hts⟩ (ccX0_magnitudeOf l y1 ) (va_cwS 1 hts gX0_divide_X0_magnitudeOf rfl rfl rfl (by decide +kernel) ⟨Nat.le_of_ble_eq_true rfl, Nat.le_of_ble_eq_true rfl⟩) st_pre rfl rfl hl.1 rfl (lv_room (Nat.le_of_ble_eq_true rfl)) dX0_divide_136 ⟨Nat.zero_le _, Nat.zero_le _⟩) ?_
          refine lv_iload hx hb dX0_divide_139 (lv_at hl 0 rfl) ?_
          refine lv_lshl hx hb dX0_divide_141 rfl ?_
          refine lv_topl (fun x7_142 e_142 => ?_)
          refine lv_lstore (lv' := [(7, .long x7_142), (6, .int x6_133), (4, .long x4_103), (3, .int x3_77), (0, .ref h0), (1, .int y1), (2, .int y2)]) hx hb dX0_divide_142 hl (by decide) rfl (fun ls hl => ?_)
          replace hE : fX0_divide mo fl x1 x2 = fX0_divide_k144 y1 y2 x3_77 x4_103 x6_133 x7_142 mo vfl := by rw [e_142]; exact hE
          refine lv_lload hx hb dX0_divide_144 (lv_at hl 0 rfl) ?_
          refine lv_lload hx hb dX0_divide_146 (lv_at hl 2 rfl) ?_
          refine lv_ldiv hx hb dX0_divide_148 (fun h => c_109 ((lg_cmp_eq _ _).mpr h)) ?_
          refine lv_lload hx hb dX0_divide_149 (lv_at hl 0 rfl) ?_
          refine lv_lload hx hb dX0_divide_151 (lv_at hl 2 rfl) ?_
          refine lv_lrem hx hb dX0_divide_153 (fun h => c_109 ((lg_cmp_eq _ _).mpr h)) ?_
          refine lv_lconst (v := 0) hx hb dX0_divide_154 (by decide) ?_
          refine W.lcmp hx hb dX0_divide_155 ?_
          refine lv_if_eq (tgt := 163) hx hb dX0_divide_156 (by decide) (fun c_156 => ?_) (fun c_156 => ?_)
          · replace hE := hE.trans (if_pos c_156)
            refine lv_iconst (v := 0) hx hb dX0_divide_163 (by decide) ?_
            exact j_164 y1 y2 x3_77 x6_133 ((x7_142 / x4_103)) (0 : Int32) vfl _ _ _ hP hS (lv_sub hl [4, 5, 6, 3, 1] rfl) isB_0 hE
          · replace hE := hE.trans (if_neg c_156)
            refine lv_iconst (v := 1) hx hb dX0_divide_159 (by decide) ?_
            refine lv_goto (tgt := 164) hx hb dX0_divide_160 (by decide) ?_
            exact j_164 y1 y2 x3_77 x6_133 ((x7_142 / x4_103)) (1 : Int32) vfl _ _ _ hP hS (lv_sub hl [4, 5, 6, 3, 1] rfl) isB_1 hE
        · replace hE := hE.trans (if_pos c_109)
          refine lv_aload_n hx hb dX0_divide_112 rfl (lv_at hl 2 rfl) ?_
          refine lv_bipush (v := 8) hx hb dX0_divide_113 (by decide) ?_
          refine k0_callv (va_runV (As := [.int (8 : Int32)]) (rest := []) ⟨hx, hb, hml, hown, hts⟩ (ccX0_raise l D h0 mo vfl (8 : Int32) ) (cwV 1 hts gX0_divide_X0_raise rfl rfl rfl (by decide +kernel) ⟨Nat.le_of_ble_eq_true rfl, Nat.le_of_ble_eq_true rfl⟩) (w0_pre hK hP) rfl rfl hl.1 rfl (lv_room (Nat.le_of_ble_eq_true rfl)) dX0_divide_115 ⟨Nat.zero_le _, Nat.zero_le _⟩) hS (fun u H locs hw hP hS => ?_)
          obtain ⟨fl_115, rfl⟩ : ∃ z, z = u := ⟨_, rfl⟩
          have hP : va_P D vwCl (bw0 h0 mo fl_115) H := hP
          replace hE : fX0_divide mo fl x1 x2 = fX0_divide_k118 x3_77 mo fl_115 := by have h : fX0_divide mo fl x1 x2 = fX0_divide_k118 x3_77 mo ((fX0_raise vfl (8 : Int32))) := hE; rw [← hw] at h; exact h
          refine lv_iload_n hx hb dX0_divide_118 rfl (lv_at hl 1 rfl) ?_
          refine lv_ldc hx hb hown (hts (.constant RX0 48 (2139095040)) (by decide +kernel)) dX0_divide_119 ?_
          refine lv_ior hx hb dX0_divide_121 ?_
          exact W.iret hx hb hr (fun t ht hW => ⟨⟨_, fl_115, rfl, hE.symm, by rw [ht]; exact hP, va_K.moved hW.alike hK⟩, hS.F ht⟩) hS.2.2 dX0_divide_122
      · replace hE := hE.trans (if_neg c_94)
        refine lv_iload_n hx hb dX0_divide_97 rfl (lv_at hl 0 rfl) ?_
        exact W.iret hx hb hr (fun t ht hW => ⟨⟨_, vfl, rfl, hE.symm, by rw [ht]; exact hP, va_K.moved hW.alike hK⟩, hS.F ht⟩) hS.2.2 dX0_divide_98
    · replace hE := hE.trans (if_neg c_82)
      refine lv_iload_n hx hb dX0_divide_85 rfl (lv_at hl 0 rfl) ?_
      refine lv_ldc hx hb hown (hts (.constant RX0 48 (2139095040)) (by decide +kernel)) dX0_divide_86 ?_
      refine lv_ior hx hb dX0_divide_88 ?_
      exact W.iret hx hb hr (fun t ht hW => ⟨⟨_, vfl, rfl, hE.symm, by rw [ht]; exact hP, va_K.moved hW.alike hK⟩, hS.F ht⟩) hS.2.2 dX0_divide_89
  have j_66 : ∀ (vfl : Int32) (H : Heap) (locs : List Loc) (ls : Array Slot), va_P D vwCl (bw0 h0 mo vfl) H → va_S (aw0 h0) s.heap H locs → lv_has ls 11 [(0, .ref h0)] → fX0_divide mo fl x1 x2 = fX0_divide_k66 mo vfl → W p l e (headSpec wsX0_divide { frames := 5, cells := 0, slots := 0, locals := 116 }).room s m ([.ref h0, .int x1, .int x2] : List Value).toArray below meth c H locs 0 0 (MQ below (va_Qi (fun (r : Int32) (u : Int32) => (r, u) = fX0_divide mo fl x1 x2) (fun u t => w0 D h0 mo u t) (aw0 h0)) ([.ref h0, .int x1, .int x2] : List Value).toArray s 0 0 (aw0 h0)) (F0 m 66 ls []) := by
    intro vfl H locs ls hP hS hl hE
    refine lv_aload_n hx hb dX0_divide_66 rfl (lv_at hl 0 rfl) ?_
    refine k0_calli (va_runV (As := []) (rest := []) ⟨hx, hb, hml, hown, hts⟩ (ccX0_invalid l D h0 mo vfl  ) (cwV 0 hts gX0_divide_X0_invalid rfl rfl rfl (by decide +kernel) ⟨Nat.le_of_ble_eq_true rfl, Nat.le_of_ble_eq_true rfl⟩) (w0_pre hK hP) rfl rfl hl.1 rfl (lv_room (Nat.le_of_ble_eq_true rfl)) dX0_divide_67 ⟨Nat.zero_le _, Nat.zero_le _⟩) hS (fun r_67 u H locs hw hP hS => ?_)
    obtain ⟨fl_67, rfl⟩ : ∃ z, z = u := ⟨_, rfl⟩
    have hP : va_P D vwCl (bw0 h0 mo fl_67) H := hP
    replace hE : fX0_divide mo fl x1 x2 = fX0_divide_k70 r_67 mo fl_67 := by have h : fX0_divide mo fl x1 x2 = fX0_divide_k70 ((fX0_invalid vfl).1) mo ((fX0_invalid vfl).2) := hE; rw [← hw] at h; exact h
    exact W.iret hx hb hr (fun t ht hW => ⟨⟨_, fl_67, rfl, hE.symm, by rw [ht]; exact hP, va_K.moved hW.alike hK⟩, hS.F ht⟩) hS.2.2 dX0_divide_70
  have j_52 : ∀ (y1 : Int32) (y2 : Int32) (vfl : Int32) (H : Heap) (locs : List Loc) (ls : Array Slot), va_P D vwCl (bw0 h0 mo vfl) H → va_S (aw0 h0) s.heap H locs → lv_has ls 11 [(0, .ref h0), (1, .int y1), (2, .int y2)] → fX0_divide mo fl x1 x2 = fX0_divide_k52 y1 y2 mo vfl → W p l e (headSpec wsX0_divide { frames := 5, cells := 0, slots := 0, locals := 116 }).room s m ([.ref h0, .int x1, .int x2] : List Value).toArray below meth c H locs 0 0 (MQ below (va_Qi (fun (r : Int32) (u : Int32) => (r, u) = fX0_divide mo fl x1 x2) (fun u t => w0 D h0 mo u t) (aw0 h0)) ([.ref h0, .int x1, .int x2] : List Value).toArray s 0 0 (aw0 h0)) (F0 m 52 ls []) := by
    intro y1 y2 vfl H locs ls hP hS hl hE
    refine lv_iload_n hx hb dX0_divide_52 rfl (lv_at hl 1 rfl) ?_
    refine sc_i (W.runS (As := [.int y1]) (rest := []) ⟨hx, hb, hml, hown, hts⟩ (ccX0_isInfinite l y1 ) (va_cwS 1 hts gX0_divide_X0_isInfinite rfl rfl rfl (by decide +kernel) ⟨Nat.le_of_ble_eq_true rfl, Nat.le_of_ble_eq_true rfl⟩) st_pre rfl rfl hl.1 rfl (lv_room (Nat.le_of_ble_eq_true rfl)) dX0_divide_53 ⟨Nat.zero_le _, Nat.zero_le _⟩) ?_
    refine lv_if_eq (tgt := 71) hx hb dX0_divide_56 (by decide) (fun c_56 => ?_) (fun c_56 => ?_)
    · replace hE := hE.trans (if_pos c_56)
      exact j_71 y1 y2 vfl _ _ _ hP hS (lv_sub hl [0, 1, 2] rfl)  hE
    · replace hE := hE.trans (if_neg c_56)
      refine lv_iload_n hx hb dX0_divide_59 rfl (lv_at hl 2 rfl) ?_
      refine sc_i (W.runS (As := [.int y2]) (rest := []) ⟨hx, hb, hml, hown, hts⟩ (ccX0_isInfinite l y2 ) (va_cwS 1 hts gX0_divide_X0_isInfinite rfl rfl rfl (by decide +kernel) ⟨Nat.le_of_ble_eq_true rfl, Nat.le_of_ble_eq_true rfl⟩) st_pre rfl rfl hl.1 rfl (lv_room (Nat.le_of_ble_eq_true rfl)) dX0_divide_60 ⟨Nat.zero_le _, Nat.zero_le _⟩) ?_
      refine lv_if_eq (tgt := 71) hx hb dX0_divide_63 (by decide) (fun c_63 => ?_) (fun c_63 => ?_)
      · replace hE := hE.trans (if_pos c_63)
        exact j_71 y1 y2 vfl _ _ _ hP hS (lv_sub hl [0, 1, 2] rfl)  hE
      · replace hE := hE.trans (if_neg c_63)
        exact j_66 vfl _ _ _ hP hS (lv_sub hl [0] rfl)  hE
  have j_34 : ∀ (z1 : Int32) (vfl : Int32) (H : Heap) (locs : List Loc) (ls : Array Slot), va_P D vwCl (bw0 h0 mo vfl) H → va_S (aw0 h0) s.heap H locs → lv_has ls 11 [] → isB z1 → fX0_divide mo fl x1 x2 = fX0_divide_k34 z1 mo vfl → W p l e (headSpec wsX0_divide { frames := 5, cells := 0, slots := 0, locals := 116 }).room s m ([.ref h0, .int x1, .int x2] : List Value).toArray below meth c H locs 0 0 (MQ below (va_Qi (fun (r : Int32) (u : Int32) => (r, u) = fX0_divide mo fl x1 x2) (fun u t => w0 D h0 mo u t) (aw0 h0)) ([.ref h0, .int x1, .int x2] : List Value).toArray s 0 0 (aw0 h0)) (F0 m 34 ls [.int z1, .ref h0]) := by
    intro z1 vfl H locs ls hP hS hl b_z1 hE
    refine k0_calli (va_runV (As := [.int z1]) (rest := []) ⟨hx, hb, hml, hown, hts⟩ (ccX0_noNumber l D h0 mo vfl z1 ) (cwV 1 hts gX0_divide_X0_noNumber rfl rfl rfl (by decide +kernel) ⟨Nat.le_of_ble_eq_true rfl, Nat.le_of_ble_eq_true rfl⟩) (w0_pre hK hP) rfl rfl hl.1 rfl (lv_room (Nat.le_of_ble_eq_true rfl)) dX0_divide_34 ⟨Nat.zero_le _, Nat.zero_le _⟩) hS (fun r_34 u H locs hw hP hS => ?_)
    obtain ⟨fl_34, rfl⟩ : ∃ z, z = u := ⟨_, rfl⟩
    have hP : va_P D vwCl (bw0 h0 mo fl_34) H := hP
    replace hE : fX0_divide mo fl x1 x2 = fX0_divide_k37 r_34 mo fl_34 := by have h : fX0_divide mo fl x1 x2 = fX0_divide_k37 ((fX0_noNumber vfl z1).1) mo ((fX0_noNumber vfl z1).2) := hE; rw [← hw] at h; exact h
    exact W.iret hx hb hr (fun t ht hW => ⟨⟨_, fl_34, rfl, hE.symm, by rw [ht]; exact hP, va_K.moved hW.alike hK⟩, hS.F ht⟩) hS.2.2 dX0_divide_37
  have j_14 : ∀ (y1 : Int32) (y2 : Int32) (vfl : Int32) (H : Heap) (locs : List Loc) (ls : Array Slot), va_P D vwCl (bw0 h0 mo vfl) H → va_S (aw0 h0) s.heap H locs → lv_has ls 11 [(0, .ref h0), (1, .int y1), (2, .int y2)] → fX0_divide mo fl x1 x2 = fX0_divide_k14 y1 y2 mo vfl → W p l e (headSpec wsX0_divide { frames := 5, cells := 0, slots := 0, locals := 116 }).room s m ([.ref h0, .int x1, .int x2] : List Value).toArray below meth c H locs 0 0 (MQ below (va_Qi (fun (r : Int32) (u : Int32) => (r, u) = fX0_divide mo fl x1 x2) (fun u t => w0 D h0 mo u t) (aw0 h0)) ([.ref h0, .int x1, .int x2] : List Value).toArray s 0 0 (aw0 h0)) (F0 m 14 ls []) := by
    intro y1 y2 vfl H locs ls hP hS hl hE
    refine lv_aload_n hx hb dX0_divide_14 rfl (lv_at hl 0 rfl) ?_
    refine lv_iload_n hx hb dX0_divide_15 rfl (lv_at hl 1 rfl) ?_
    refine sc_i (W.runS (As := [.int y1]) (rest := [.ref h0]) ⟨hx, hb, hml, hown, hts⟩ (ccX0_isLoud l y1 ) (va_cwS 1 hts gX0_divide_X0_isLoud rfl rfl rfl (by decide +kernel) ⟨Nat.le_of_ble_eq_true rfl, Nat.le_of_ble_eq_true rfl⟩) st_pre rfl rfl hl.1 rfl (lv_room (Nat.le_of_ble_eq_true rfl)) dX0_divide_16 ⟨Nat.zero_le _, Nat.zero_le _⟩) ?_
    refine lv_if_ne (tgt := 29) hx hb dX0_divide_19 (by decide) (fun c_19 => ?_) (fun c_19 => ?_)
    · replace hE := hE.trans (if_neg c_19)
      refine lv_iconst (v := 1) hx hb dX0_divide_29 (by decide) ?_
      refine lv_goto (tgt := 34) hx hb dX0_divide_30 (by decide) ?_
      exact j_34 (1 : Int32) vfl _ _ _ hP hS (lv_sub hl [] rfl) isB_1 hE
    · replace hE := hE.trans (if_pos c_19)
      refine lv_iload_n hx hb dX0_divide_22 rfl (lv_at hl 2 rfl) ?_
      refine sc_i (W.runS (As := [.int y2]) (rest := [.ref h0]) ⟨hx, hb, hml, hown, hts⟩ (ccX0_isLoud l y2 ) (va_cwS 1 hts gX0_divide_X0_isLoud rfl rfl rfl (by decide +kernel) ⟨Nat.le_of_ble_eq_true rfl, Nat.le_of_ble_eq_true rfl⟩) st_pre rfl rfl hl.1 rfl (lv_room (Nat.le_of_ble_eq_true rfl)) dX0_divide_23 ⟨Nat.zero_le _, Nat.zero_le _⟩) ?_
      refine lv_if_eq (tgt := 33) hx hb dX0_divide_26 (by decide) (fun c_26 => ?_) (fun c_26 => ?_)
      · replace hE := hE.trans (if_pos c_26)
        refine lv_iconst (v := 0) hx hb dX0_divide_33 (by decide) ?_
        exact j_34 (0 : Int32) vfl _ _ _ hP hS (lv_sub hl [] rfl) isB_0 hE
      · replace hE := hE.trans (if_neg c_26)
        refine lv_iconst (v := 1) hx hb dX0_divide_29 (by decide) ?_
        refine lv_goto (tgt := 34) hx hb dX0_divide_30 (by decide) ?_
        exact j_34 (1 : Int32) vfl _ _ _ hP hS (lv_sub hl [] rfl) isB_1 hE
  have hE : fX0_divide mo fl x1 x2 = fX0_divide mo fl x1 x2 := rfl
  refine lv_iload_n hx hb dX0_divide_0 rfl (lv_at hl 1 rfl) ?_
  refine sc_i (W.runS (As := [.int x1]) (rest := []) ⟨hx, hb, hml, hown, hts⟩ (ccX0_isNoNumber l x1 ) (va_cwS 1 hts gX0_divide_X0_isNoNumber rfl rfl rfl (by decide +kernel) ⟨Nat.le_of_ble_eq_true rfl, Nat.le_of_ble_eq_true rfl⟩) st_pre rfl rfl hl.1 rfl (lv_room (Nat.le_of_ble_eq_true rfl)) dX0_divide_1 ⟨Nat.zero_le _, Nat.zero_le _⟩) ?_
  refine lv_if_ne (tgt := 14) hx hb dX0_divide_4 (by decide) (fun c_4 => ?_) (fun c_4 => ?_)
  · replace hE := hE.trans (if_neg c_4)
    exact j_14 x1 x2 fl _ _ _ hP hS (lv_sub hl [0, 1, 2] rfl)  hE
  · replace hE := hE.trans (if_pos c_4)
    refine lv_iload_n hx hb dX0_divide_7 rfl (lv_at hl 2 rfl) ?_
    refine sc_i (W.runS (As := [.int x2]) (rest := []) ⟨hx, hb, hml, hown, hts⟩ (ccX0_isNoNumber l x2 ) (va_cwS 1 hts gX0_divide_X0_isNoNumber rfl rfl rfl (by decide +kernel) ⟨Nat.le_of_ble_eq_true rfl, Nat.le_of_ble_eq_true rfl⟩) st_pre rfl rfl hl.1 rfl (lv_room (Nat.le_of_ble_eq_true rfl)) dX0_divide_8 ⟨Nat.zero_le _, Nat.zero_le _⟩) ?_
    refine lv_if_eq (tgt := 38) hx hb dX0_divide_11 (by decide) (fun c_11 => ?_) (fun c_11 => ?_)
    · replace hE := hE.trans (if_pos c_11)
      refine lv_iload_n hx hb dX0_divide_38 rfl (lv_at hl 1 rfl) ?_
      refine sc_i (W.runS (As := [.int x1]) (rest := []) ⟨hx, hb, hml, hown, hts⟩ (ccX0_isZero l x1 ) (va_cwS 1 hts gX0_divide_X0_isZero rfl rfl rfl (by decide +kernel) ⟨Nat.le_of_ble_eq_true rfl, Nat.le_of_ble_eq_true rfl⟩) st_pre rfl rfl hl.1 rfl (lv_room (Nat.le_of_ble_eq_true rfl)) dX0_divide_39 ⟨Nat.zero_le _, Nat.zero_le _⟩) ?_
      refine lv_if_eq (tgt := 52) hx hb dX0_divide_42 (by decide) (fun c_42 => ?_) (fun c_42 => ?_)
      · replace hE := hE.trans (if_pos c_42)
        exact j_52 x1 x2 fl _ _ _ hP hS (lv_sub hl [0, 1, 2] rfl)  hE
      · replace hE := hE.trans (if_neg c_42)
        refine lv_iload_n hx hb dX0_divide_45 rfl (lv_at hl 2 rfl) ?_
        refine sc_i (W.runS (As := [.int x2]) (rest := []) ⟨hx, hb, hml, hown, hts⟩ (ccX0_isZero l x2 ) (va_cwS 1 hts gX0_divide_X0_isZero rfl rfl rfl (by decide +kernel) ⟨Nat.le_of_ble_eq_true rfl, Nat.le_of_ble_eq_true rfl⟩) st_pre rfl rfl hl.1 rfl (lv_room (Nat.le_of_ble_eq_true rfl)) dX0_divide_46 ⟨Nat.zero_le _, Nat.zero_le _⟩) ?_
        refine lv_if_ne (tgt := 66) hx hb dX0_divide_49 (by decide) (fun c_49 => ?_) (fun c_49 => ?_)
        · replace hE := hE.trans (if_neg c_49)
          exact j_66 fl _ _ _ hP hS (lv_sub hl [0] rfl)  hE
        · replace hE := hE.trans (if_pos c_49)
          exact j_52 x1 x2 fl _ _ _ hP hS (lv_sub hl [0, 1, 2] rfl)  hE
    · replace hE := hE.trans (if_neg c_11)
      exact j_14 x1 x2 fl _ _ _ hP hS (lv_sub hl [0, 1, 2] rfl)  hE
/-! X0_root -/
def fX0_root_k118 (z0 : Int32) (mo : Int32) (vfl : Int32) : Int32 × Int32 := (z0, vfl)
def fX0_root_k104 (y1 : Int32) (y2 : Int32) (z1 : Int32) (z2 : Int64) (z3 : Int32) (mo : Int32) (vfl : Int32) : Int32 × Int32 := fX0_root_k118 ((fX0_rounded mo vfl z1 ((fX0_withTrace z2 z3)) ((((((fX0_unitOf y1)) - y2)) >>> ((1 : Int32) &&& 31)))).1) mo ((fX0_rounded mo vfl z1 ((fX0_withTrace z2 z3)) ((((((fX0_unitOf y1)) - y2)) >>> ((1 : Int32) &&& 31)))).2)
def fX0_root_k82 (y1 : Int32) (y2 : Int32) (y3 : Int64) (y5 : Int64) (mo : Int32) (vfl : Int32) : Int32 × Int32 := (if ((lg_cmp ((y5 * y5)) y3)) = 0 then fX0_root_k104 y1 y2 ((fX0_signOf y1)) y5 (0 : Int32) mo vfl else fX0_root_k104 y1 y2 ((fX0_signOf y1)) y5 (1 : Int32) mo vfl)
def fX0_root_k76 (y1 : Int32) (y2 : Int32) (y3 : Int64) (mo : Int32) (vfl : Int32) : Int32 × Int32 := fX0_root_k82 y1 y2 y3 ((fX0_floorRoot y3)) mo vfl
def fX0_root_k69 (y1 : Int32) (y2 : Int32) (mo : Int32) (vfl : Int32) : Int32 × Int32 := fX0_root_k76 y1 y2 ((((fX0_magnitudeOf y1)) <<< (Int32.toInt64 y2 &&& 63))) mo vfl
def fX0_root_k55 (y1 : Int32) (y2 : Int32) (mo : Int32) (vfl : Int32) : Int32 × Int32 := (if ((((((fX0_unitOf y1)) - y2)) &&& (1 : Int32))) = 0 then fX0_root_k69 y1 y2 mo vfl else fX0_root_k69 y1 ((y2 + (-1 : Int32))) mo vfl)
def fX0_root_k35 (y1 : Int32) (mo : Int32) (vfl : Int32) : Int32 × Int32 := (if ((fX0_isInfinite y1)) = 0 then fX0_root_k55 y1 (((62 : Int32) - ((fX0_bitLength ((fX0_magnitudeOf y1)))))) mo vfl else (y1, vfl))
def fX0_root_k34 (z0 : Int32) (mo : Int32) (vfl : Int32) : Int32 × Int32 := (z0, vfl)
def fX0_root_k15 (z0 : Int32) (mo : Int32) (vfl : Int32) : Int32 × Int32 := (z0, vfl)
def fX0_root (mo : Int32) (fl : Int32) (x1 : Int32) : Int32 × Int32 := (if ((fX0_isNoNumber x1)) = 0 then (if ((fX0_isNegative x1)) = 0 then fX0_root_k35 x1 mo fl else (if ((fX0_isZero x1)) = 0 then fX0_root_k34 ((fX0_invalid fl).1) mo ((fX0_invalid fl).2) else fX0_root_k35 x1 mo fl)) else fX0_root_k15 ((fX0_noNumber fl ((fX0_isLoud x1))).1) mo ((fX0_noNumber fl ((fX0_isLoud x1))).2))
set_option maxHeartbeats 4000000 in
set_option maxRecDepth 100000 in
theorem ccX0_root (l : Launch) (D : va_G) (h0 : Nat) (mo fl : Int32) (x1 : Int32)  : Met l yX0_root wsX0_root { frames := 5, cells := 0, slots := 0, locals := 116 } (va_Pc [.ref h0, .int x1] (w0 D h0 mo fl)) (va_Qi (fun (r : Int32) (u : Int32) => (r, u) = fX0_root mo fl x1) (fun u t => w0 D h0 mo u t) (aw0 h0)) 0 0 (aw0 h0) := by
  refine Met.ofW (cc := cX0_root) (maxL := 7) (ret := (some .int)) (by decide) rfl ?_
  intro p e s m args below meth c s₁ B hml hv
  obtain ⟨rfl, hP, hK⟩ := hv
  have hx := B.exec
  have hb := B.bytes
  have hr := B.returns
  have hts := atoms_spec (ws := wsX0_root) B.pre
  have hown : s.vm.findClass RX0 = some m.cls := findClass_of_methodNamed B.named
  have hlocks := B.notSynchronized
  have hS : va_S (aw0 h0) s.heap s.heap [] := va_S.rf
  have hP : va_P D vwCl (bw0 h0 mo fl) s.heap := hP
  have hl := lv_entry ([.ref h0, .int x1]) (n := 7) (Nat.le_of_ble_eq_true rfl)
  rw [lg_entry_eq]
  generalize (lg_sl ([.ref h0, .int x1]) ++ List.replicate (7 - (lg_sl ([.ref h0, .int x1])).length) Slot.unset).toArray = ls at hl ⊢
  have hl : lv_has ls 7 [(0, .ref h0), (1, .int x1)] := hl
  have j_104 : ∀ (y1 : Int32) (y2 : Int32) (z1 : Int32) (z2 : Int64) (z3 : Int32) (vfl : Int32) (H : Heap) (locs : List Loc) (ls : Array Slot), va_P D vwCl (bw0 h0 mo vfl) H → va_S (aw0 h0) s.heap H locs → lv_has ls 7 [(1, .int y1), (2, .int y2)] → isB z3 → fX0_root mo fl x1 = fX0_root_k104 y1 y2 z1 z2 z3 mo vfl → W p l e (headSpec wsX0_root { frames := 5, cells := 0, slots := 0, locals := 116 }).room s m ([.ref h0, .int x1] : List Value).toArray below meth c H locs 0 0 (MQ below (va_Qi (fun (r : Int32) (u : Int32) => (r, u) = fX0_root mo fl x1) (fun u t => w0 D h0 mo u t) (aw0 h0)) ([.ref h0, .int x1] : List Value).toArray s 0 0 (aw0 h0)) (F0 m 104 ls [.int z3, .long z2, .int z1, .ref h0]) := by
    intro y1 y2 z1 z2 z3 vfl H locs ls hP hS hl b_z3 hE
    refine sc_l (W.runS (As := [.long z2, .int z3]) (rest := [.int z1, .ref h0]) ⟨hx, hb, hml, hown, hts⟩ (ccX0_withTrace l z2 z3 ) (va_cwS 2 hts gX0_root_X0_withTrace rfl rfl rfl (by decide +kernel) ⟨Nat.le_of_ble_eq_true rfl, Nat.le_of_ble_eq_true rfl⟩) st_pre rfl rfl hl.1 rfl (lv_room (Nat.le_of_ble_eq_true rfl)) dX0_root_104 ⟨Nat.zero_le _, Nat.zero_le _⟩) ?_
    refine lv_iload_n hx hb dX0_root_107 rfl (lv_at hl 0 rfl) ?_
    refine sc_i (W.runS (As := [.int y1]) (rest := [.long (fX0_withTrace z2 z3), .int z1, .ref h0]) ⟨hx, hb, hml, hown, hts⟩ (ccX0_unitOf l y1 ) (va_cwS 1 hts gX0_root_X0_unitOf rfl rfl rfl (by decide +kernel) ⟨Nat.le_of_ble_eq_true rfl, Nat.le_of_ble_eq_true rfl⟩) st_pre rfl rfl hl.1 rfl (lv_room (Nat.le_of_ble_eq_true rfl)) dX0_root_108 ⟨Nat.zero_le _, Nat.zero_le _⟩) ?_
    refine lv_iload_n hx hb dX0_root_111 rfl (lv_at hl 1 rfl) ?_
    refine lv_isub hx hb dX0_root_112 ?_
    refine lv_iconst (v := 1) hx hb dX0_root_113 (by decide) ?_
    refine lv_ishr hx hb dX0_root_114 ?_
    refine k0_calli (va_runV (As := [.int z1, .long (fX0_withTrace z2 z3), .int (((((fX0_unitOf y1)) - y2)) >>> ((1 : Int32) &&& 31))]) (rest := []) ⟨hx, hb, hml, hown, hts⟩ (ccX0_rounded l D h0 mo vfl z1 ((fX0_withTrace z2 z3)) ((((((fX0_unitOf y1)) - y2)) >>> ((1 : Int32) &&& 31))) ) (cwV 3 hts gX0_root_X0_rounded rfl rfl rfl (by decide +kernel) ⟨Nat.le_of_ble_eq_true rfl, Nat.le_of_ble_eq_true rfl⟩) (w0_pre hK hP) rfl rfl hl.1 rfl (lv_room (Nat.le_of_ble_eq_true rfl)) dX0_root_115 ⟨Nat.zero_le _, Nat.zero_le _⟩) hS (fun r_115 u H locs hw hP hS => ?_)
    obtain ⟨fl_115, rfl⟩ : ∃ z, z = u := ⟨_, rfl⟩
    have hP : va_P D vwCl (bw0 h0 mo fl_115) H := hP
    replace hE : fX0_root mo fl x1 = fX0_root_k118 r_115 mo fl_115 := by have h : fX0_root mo fl x1 = fX0_root_k118 ((fX0_rounded mo vfl z1 ((fX0_withTrace z2 z3)) ((((((fX0_unitOf y1)) - y2)) >>> ((1 : Int32) &&& 31)))).1) mo ((fX0_rounded mo vfl z1 ((fX0_withTrace z2 z3)) ((((((fX0_unitOf y1)) - y2)) >>> ((1 : Int32) &&& 31)))).2) := hE; rw [← hw] at h; exact h
    exact W.iret hx hb hr (fun t ht hW => ⟨⟨_, fl_115, rfl, hE.symm, by rw [ht]; exact hP, va_K.moved hW.alike hK⟩, hS.F ht⟩) hS.2.2 dX0_root_118
  have j_69 : ∀ (y1 : Int32) (y2 : Int32) (vfl : Int32) (H : Heap) (locs : List Loc) (ls : Array Slot), va_P D vwCl (bw0 h0 mo vfl) H → va_S (aw0 h0) s.heap H locs → lv_has ls 7 [(0, .ref h0), (1, .int y1), (2, .int y2)] → fX0_root mo fl x1 = fX0_root_k69 y1 y2 mo vfl → W p l e (headSpec wsX0_root { frames := 5, cells := 0, slots := 0, locals := 116 }).room s m ([.ref h0, .int x1] : List Value).toArray below meth c H locs 0 0 (MQ below (va_Qi (fun (r : Int32) (u : Int32) => (r, u) = fX0_root mo fl x1) (fun u t => w0 D h0 mo u t) (aw0 h0)) ([.ref h0, .int x1] : List Value).toArray s 0 0 (aw0 h0)) (F0 m 69 ls []) := by
    intro y1 y2 vfl H locs ls hP hS hl hE
    refine lv_iload_n hx hb dX0_root_69 rfl (lv_at hl 1 rfl) ?_
    refine sc_l (W.runS (As := [.int y1]) (rest := []) ⟨hx, hb, hml, hown, hts⟩ (ccX0_magnitudeOf l y1 ) (va_cwS 1 hts gX0_root_X0_magnitudeOf rfl rfl rfl (by decide +kernel) ⟨Nat.le_of_ble_eq_true rfl, Nat.le_of_ble_eq_true rfl⟩) st_pre rfl rfl hl.1 rfl (lv_room (Nat.le_of_ble_eq_true rfl)) dX0_root_70 ⟨Nat.zero_le _, Nat.zero_le _⟩) ?_
    refine lv_iload_n hx hb dX0_root_73 rfl (lv_at hl 2 rfl) ?_
    refine lv_lshl hx hb dX0_root_74 rfl ?_
    refine lv_topl (fun x3_75 e_75 => ?_)
    refine lv_lstore_n (lv' := [(3, .long x3_75), (0, .ref h0), (1, .int y1), (2, .int y2)]) hx hb dX0_root_75 rfl hl (by decide) rfl (fun ls hl => ?_)
    replace hE : fX0_root mo fl x1 = fX0_root_k76 y1 y2 x3_75 mo vfl := by rw [e_75]; exact hE
    refine lv_lload_n hx hb dX0_root_76 rfl (lv_at hl 0 rfl) ?_
    refine sc_l (W.runS (As := [.long x3_75]) (rest := []) ⟨hx, hb, hml, hown, hts⟩ (ccX0_floorRoot l x3_75 ) (va_cwS 1 hts gX0_root_X0_floorRoot rfl rfl rfl (by decide +kernel) ⟨Nat.le_of_ble_eq_true rfl, Nat.le_of_ble_eq_true rfl⟩) st_pre rfl rfl hl.1 rfl (lv_room (Nat.le_of_ble_eq_true rfl)) dX0_root_77 ⟨Nat.zero_le _, Nat.zero_le _⟩) ?_
    refine lv_topl (fun x5_80 e_80 => ?_)
    refine lv_lstore (lv' := [(5, .long x5_80), (3, .long x3_75), (0, .ref h0), (1, .int y1), (2, .int y2)]) hx hb dX0_root_80 hl (by decide) rfl (fun ls hl => ?_)
    replace hE : fX0_root mo fl x1 = fX0_root_k82 y1 y2 x3_75 x5_80 mo vfl := by rw [e_80]; exact hE
    refine lv_aload_n hx hb dX0_root_82 rfl (lv_at hl 2 rfl) ?_
    refine lv_iload_n hx hb dX0_root_83 rfl (lv_at hl 3 rfl) ?_
    refine sc_i (W.runS (As := [.int y1]) (rest := [.ref h0]) ⟨hx, hb, hml, hown, hts⟩ (ccX0_signOf l y1 ) (va_cwS 1 hts gX0_root_X0_signOf rfl rfl rfl (by decide +kernel) ⟨Nat.le_of_ble_eq_true rfl, Nat.le_of_ble_eq_true rfl⟩) st_pre rfl rfl hl.1 rfl (lv_room (Nat.le_of_ble_eq_true rfl)) dX0_root_84 ⟨Nat.zero_le _, Nat.zero_le _⟩) ?_
    refine lv_lload hx hb dX0_root_87 (lv_at hl 0 rfl) ?_
    refine lv_lload hx hb dX0_root_89 (lv_at hl 0 rfl) ?_
    refine lv_lload hx hb dX0_root_91 (lv_at hl 0 rfl) ?_
    refine lv_lmul hx hb dX0_root_93 ?_
    refine lv_lload_n hx hb dX0_root_94 rfl (lv_at hl 1 rfl) ?_
    refine W.lcmp hx hb dX0_root_95 ?_
    refine lv_if_eq (tgt := 103) hx hb dX0_root_96 (by decide) (fun c_96 => ?_) (fun c_96 => ?_)
    · replace hE := hE.trans (if_pos c_96)
      refine lv_iconst (v := 0) hx hb dX0_root_103 (by decide) ?_
      exact j_104 y1 y2 ((fX0_signOf y1)) x5_80 (0 : Int32) vfl _ _ _ hP hS (lv_sub hl [3, 4] rfl) isB_0 hE
    · replace hE := hE.trans (if_neg c_96)
      refine lv_iconst (v := 1) hx hb dX0_root_99 (by decide) ?_
      refine lv_goto (tgt := 104) hx hb dX0_root_100 (by decide) ?_
      exact j_104 y1 y2 ((fX0_signOf y1)) x5_80 (1 : Int32) vfl _ _ _ hP hS (lv_sub hl [3, 4] rfl) isB_1 hE
  have j_35 : ∀ (y1 : Int32) (vfl : Int32) (H : Heap) (locs : List Loc) (ls : Array Slot), va_P D vwCl (bw0 h0 mo vfl) H → va_S (aw0 h0) s.heap H locs → lv_has ls 7 [(0, .ref h0), (1, .int y1)] → fX0_root mo fl x1 = fX0_root_k35 y1 mo vfl → W p l e (headSpec wsX0_root { frames := 5, cells := 0, slots := 0, locals := 116 }).room s m ([.ref h0, .int x1] : List Value).toArray below meth c H locs 0 0 (MQ below (va_Qi (fun (r : Int32) (u : Int32) => (r, u) = fX0_root mo fl x1) (fun u t => w0 D h0 mo u t) (aw0 h0)) ([.ref h0, .int x1] : List Value).toArray s 0 0 (aw0 h0)) (F0 m 35 ls []) := by
    intro y1 vfl H locs ls hP hS hl hE
    refine lv_iload_n hx hb dX0_root_35 rfl (lv_at hl 1 rfl) ?_
    refine sc_i (W.runS (As := [.int y1]) (rest := []) ⟨hx, hb, hml, hown, hts⟩ (ccX0_isInfinite l y1 ) (va_cwS 1 hts gX0_root_X0_isInfinite rfl rfl rfl (by decide +kernel) ⟨Nat.le_of_ble_eq_true rfl, Nat.le_of_ble_eq_true rfl⟩) st_pre rfl rfl hl.1 rfl (lv_room (Nat.le_of_ble_eq_true rfl)) dX0_root_36 ⟨Nat.zero_le _, Nat.zero_le _⟩) ?_
    refine lv_if_eq (tgt := 44) hx hb dX0_root_39 (by decide) (fun c_39 => ?_) (fun c_39 => ?_)
    · replace hE := hE.trans (if_pos c_39)
      refine lv_bipush (v := 62) hx hb dX0_root_44 (by decide) ?_
      refine lv_iload_n hx hb dX0_root_46 rfl (lv_at hl 1 rfl) ?_
      refine sc_l (W.runS (As := [.int y1]) (rest := [.int (62 : Int32)]) ⟨hx, hb, hml, hown, hts⟩ (ccX0_magnitudeOf l y1 ) (va_cwS 1 hts gX0_root_X0_magnitudeOf rfl rfl rfl (by decide +kernel) ⟨Nat.le_of_ble_eq_true rfl, Nat.le_of_ble_eq_true rfl⟩) st_pre rfl rfl hl.1 rfl (lv_room (Nat.le_of_ble_eq_true rfl)) dX0_root_47 ⟨Nat.zero_le _, Nat.zero_le _⟩) ?_
      refine sc_i (W.runS (As := [.long (fX0_magnitudeOf y1)]) (rest := [.int (62 : Int32)]) ⟨hx, hb, hml, hown, hts⟩ (ccX0_bitLength l ((fX0_magnitudeOf y1)) ) (va_cwS 1 hts gX0_root_X0_bitLength rfl rfl rfl (by decide +kernel) ⟨Nat.le_of_ble_eq_true rfl, Nat.le_of_ble_eq_true rfl⟩) st_pre rfl rfl hl.1 rfl (lv_room (Nat.le_of_ble_eq_true rfl)) dX0_root_50 ⟨Nat.zero_le _, Nat.zero_le _⟩) ?_
      refine lv_isub hx hb dX0_root_53 ?_
      refine lv_topi (fun x2_54 e_54 => ?_)
      refine lv_istore_n (lv' := [(2, .int x2_54), (0, .ref h0), (1, .int y1)]) hx hb dX0_root_54 rfl hl (by decide) rfl (fun ls hl => ?_)
      replace hE : fX0_root mo fl x1 = fX0_root_k55 y1 x2_54 mo vfl := by rw [e_54]; exact hE
      refine lv_iload_n hx hb dX0_root_55 rfl (lv_at hl 2 rfl) ?_
      refine sc_i (W.runS (As := [.int y1]) (rest := []) ⟨hx, hb, hml, hown, hts⟩ (ccX0_unitOf l y1 ) (va_cwS 1 hts gX0_root_X0_unitOf rfl rfl rfl (by decide +kernel) ⟨Nat.le_of_ble_eq_true rfl, Nat.le_of_ble_eq_true rfl⟩) st_pre rfl rfl hl.1 rfl (lv_room (Nat.le_of_ble_eq_true rfl)) dX0_root_56 ⟨Nat.zero_le _, Nat.zero_le _⟩) ?_
      refine lv_iload_n hx hb dX0_root_59 rfl (lv_at hl 0 rfl) ?_
      refine lv_isub hx hb dX0_root_60 ?_
      refine lv_iconst (v := 1) hx hb dX0_root_61 (by decide) ?_
      refine lv_iand hx hb dX0_root_62 ?_
      refine lv_if_eq (tgt := 69) hx hb dX0_root_63 (by decide) (fun c_63 => ?_) (fun c_63 => ?_)
      · replace hE := hE.trans (if_pos c_63)
        exact j_69 y1 x2_54 vfl _ _ _ hP hS (lv_sub hl [1, 2, 0] rfl)  hE
      · replace hE := hE.trans (if_neg c_63)
        refine lv_iinc (v := (x2_54 + (-1 : Int32))) (lv' := [(2, .int (x2_54 + (-1 : Int32))), (0, .ref h0), (1, .int y1)]) hx hb dX0_root_66 hl (k := 0) rfl rfl (by decide) rfl (fun ls hl => ?_)
        exact j_69 y1 ((x2_54 + (-1 : Int32))) vfl _ _ _ hP hS (lv_sub hl [1, 2, 0] rfl)  hE
    · replace hE := hE.trans (if_neg c_39)
      refine lv_iload_n hx hb dX0_root_42 rfl (lv_at hl 1 rfl) ?_
      exact W.iret hx hb hr (fun t ht hW => ⟨⟨_, vfl, rfl, hE.symm, by rw [ht]; exact hP, va_K.moved hW.alike hK⟩, hS.F ht⟩) hS.2.2 dX0_root_43
  have hE : fX0_root mo fl x1 = fX0_root mo fl x1 := rfl
  refine lv_iload_n hx hb dX0_root_0 rfl (lv_at hl 1 rfl) ?_
  refine sc_i (W.runS (As := [.int x1]) (rest := []) ⟨hx, hb, hml, hown, hts⟩ (ccX0_isNoNumber l x1 ) (va_cwS 1 hts gX0_root_X0_isNoNumber rfl rfl rfl (by decide +kernel) ⟨Nat.le_of_ble_eq_true rfl, Nat.le_of_ble_eq_true rfl⟩) st_pre rfl rfl hl.1 rfl (lv_room (Nat.le_of_ble_eq_true rfl)) dX0_root_1 ⟨Nat.zero_le _, Nat.zero_le _⟩) ?_
  refine lv_if_eq (tgt := 16) hx hb dX0_root_4 (by decide) (fun c_4 => ?_) (fun c_4 => ?_)
  · replace hE := hE.trans (if_pos c_4)
    refine lv_iload_n hx hb dX0_root_16 rfl (lv_at hl 1 rfl) ?_
    refine sc_i (W.runS (As := [.int x1]) (rest := []) ⟨hx, hb, hml, hown, hts⟩ (ccX0_isNegative l x1 ) (va_cwS 1 hts gX0_root_X0_isNegative rfl rfl rfl (by decide +kernel) ⟨Nat.le_of_ble_eq_true rfl, Nat.le_of_ble_eq_true rfl⟩) st_pre rfl rfl hl.1 rfl (lv_room (Nat.le_of_ble_eq_true rfl)) dX0_root_17 ⟨Nat.zero_le _, Nat.zero_le _⟩) ?_
    refine lv_if_eq (tgt := 35) hx hb dX0_root_20 (by decide) (fun c_20 => ?_) (fun c_20 => ?_)
    · replace hE := hE.trans (if_pos c_20)
      exact j_35 x1 fl _ _ _ hP hS (lv_sub hl [0, 1] rfl)  hE
    · replace hE := hE.trans (if_neg c_20)
      refine lv_iload_n hx hb dX0_root_23 rfl (lv_at hl 1 rfl) ?_
      refine sc_i (W.runS (As := [.int x1]) (rest := []) ⟨hx, hb, hml, hown, hts⟩ (ccX0_isZero l x1 ) (va_cwS 1 hts gX0_root_X0_isZero rfl rfl rfl (by decide +kernel) ⟨Nat.le_of_ble_eq_true rfl, Nat.le_of_ble_eq_true rfl⟩) st_pre rfl rfl hl.1 rfl (lv_room (Nat.le_of_ble_eq_true rfl)) dX0_root_24 ⟨Nat.zero_le _, Nat.zero_le _⟩) ?_
      refine lv_if_ne (tgt := 35) hx hb dX0_root_27 (by decide) (fun c_27 => ?_) (fun c_27 => ?_)
      · replace hE := hE.trans (if_neg c_27)
        exact j_35 x1 fl _ _ _ hP hS (lv_sub hl [0, 1] rfl)  hE
      · replace hE := hE.trans (if_pos c_27)
        refine lv_aload_n hx hb dX0_root_30 rfl (lv_at hl 0 rfl) ?_
        refine k0_calli (va_runV (As := []) (rest := []) ⟨hx, hb, hml, hown, hts⟩ (ccX0_invalid l D h0 mo fl  ) (cwV 0 hts gX0_root_X0_invalid rfl rfl rfl (by decide +kernel) ⟨Nat.le_of_ble_eq_true rfl, Nat.le_of_ble_eq_true rfl⟩) (w0_pre hK hP) rfl rfl hl.1 rfl (lv_room (Nat.le_of_ble_eq_true rfl)) dX0_root_31 ⟨Nat.zero_le _, Nat.zero_le _⟩) hS (fun r_31 u H locs hw hP hS => ?_)
        obtain ⟨fl_31, rfl⟩ : ∃ z, z = u := ⟨_, rfl⟩
        have hP : va_P D vwCl (bw0 h0 mo fl_31) H := hP
        replace hE : fX0_root mo fl x1 = fX0_root_k34 r_31 mo fl_31 := by have h : fX0_root mo fl x1 = fX0_root_k34 ((fX0_invalid fl).1) mo ((fX0_invalid fl).2) := hE; rw [← hw] at h; exact h
        exact W.iret hx hb hr (fun t ht hW => ⟨⟨_, fl_31, rfl, hE.symm, by rw [ht]; exact hP, va_K.moved hW.alike hK⟩, hS.F ht⟩) hS.2.2 dX0_root_34
  · replace hE := hE.trans (if_neg c_4)
    refine lv_aload_n hx hb dX0_root_7 rfl (lv_at hl 0 rfl) ?_
    refine lv_iload_n hx hb dX0_root_8 rfl (lv_at hl 1 rfl) ?_
    refine sc_i (W.runS (As := [.int x1]) (rest := [.ref h0]) ⟨hx, hb, hml, hown, hts⟩ (ccX0_isLoud l x1 ) (va_cwS 1 hts gX0_root_X0_isLoud rfl rfl rfl (by decide +kernel) ⟨Nat.le_of_ble_eq_true rfl, Nat.le_of_ble_eq_true rfl⟩) st_pre rfl rfl hl.1 rfl (lv_room (Nat.le_of_ble_eq_true rfl)) dX0_root_9 ⟨Nat.zero_le _, Nat.zero_le _⟩) ?_
    refine k0_calli (va_runV (As := [.int (fX0_isLoud x1)]) (rest := []) ⟨hx, hb, hml, hown, hts⟩ (ccX0_noNumber l D h0 mo fl ((fX0_isLoud x1)) ) (cwV 1 hts gX0_root_X0_noNumber rfl rfl rfl (by decide +kernel) ⟨Nat.le_of_ble_eq_true rfl, Nat.le_of_ble_eq_true rfl⟩) (w0_pre hK hP) rfl rfl hl.1 rfl (lv_room (Nat.le_of_ble_eq_true rfl)) dX0_root_12 ⟨Nat.zero_le _, Nat.zero_le _⟩) hS (fun r_12 u H locs hw hP hS => ?_)
    obtain ⟨fl_12, rfl⟩ : ∃ z, z = u := ⟨_, rfl⟩
    have hP : va_P D vwCl (bw0 h0 mo fl_12) H := hP
    replace hE : fX0_root mo fl x1 = fX0_root_k15 r_12 mo fl_12 := by have h : fX0_root mo fl x1 = fX0_root_k15 ((fX0_noNumber fl ((fX0_isLoud x1))).1) mo ((fX0_noNumber fl ((fX0_isLoud x1))).2) := hE; rw [← hw] at h; exact h
    exact W.iret hx hb hr (fun t ht hW => ⟨⟨_, fl_12, rfl, hE.symm, by rw [ht]; exact hP, va_K.moved hW.alike hK⟩, hS.F ht⟩) hS.2.2 dX0_root_15
/-! X0_whole -/
def fX0_whole_k78 (z0 : Int32) (mo : Int32) (vfl : Int32) : Int32 × Int32 := (z0, vfl)
def fX0_whole_k52 (y1 : Int32) (mo : Int32) (vfl : Int32) : Int32 × Int32 := fX0_whole_k78 ((fX0_rounded mo vfl ((fX0_signOf y1)) ((fX0_multiple mo ((fX0_signOf y1)) ((fX0_magnitudeOf y1)) ((-((fX0_unitOf y1)))))) (0 : Int32)).1) mo ((fX0_rounded mo vfl ((fX0_signOf y1)) ((fX0_multiple mo ((fX0_signOf y1)) ((fX0_magnitudeOf y1)) ((-((fX0_unitOf y1)))))) (0 : Int32)).2)
def fX0_whole_k15 (z0 : Int32) (mo : Int32) (vfl : Int32) : Int32 × Int32 := (z0, vfl)
def fX0_whole (mo : Int32) (fl : Int32) (x1 : Int32) : Int32 × Int32 := (if ((fX0_isNoNumber x1)) = 0 then (if ((fX0_isInfinite x1)) = 0 then (if ((fX0_unitOf x1)) < 0 then (if ((fX0_isMultiple ((fX0_magnitudeOf x1)) ((-((fX0_unitOf x1)))))) = 0 then fX0_whole_k52 x1 mo ((fX0_raise fl (1 : Int32))) else fX0_whole_k52 x1 mo fl) else (x1, fl)) else (x1, fl)) else fX0_whole_k15 ((fX0_noNumber fl ((fX0_isLoud x1))).1) mo ((fX0_noNumber fl ((fX0_isLoud x1))).2))
set_option maxHeartbeats 4000000 in
set_option maxRecDepth 100000 in
theorem ccX0_whole (l : Launch) (D : va_G) (h0 : Nat) (mo fl : Int32) (x1 : Int32)  : Met l yX0_whole wsX0_whole { frames := 5, cells := 0, slots := 0, locals := 116 } (va_Pc [.ref h0, .int x1] (w0 D h0 mo fl)) (va_Qi (fun (r : Int32) (u : Int32) => (r, u) = fX0_whole mo fl x1) (fun u t => w0 D h0 mo u t) (aw0 h0)) 0 0 (aw0 h0) := by
  refine Met.ofW (cc := cX0_whole) (maxL := 2) (ret := (some .int)) (by decide) rfl ?_
  intro p e s m args below meth c s₁ B hml hv
  obtain ⟨rfl, hP, hK⟩ := hv
  have hx := B.exec
  have hb := B.bytes
  have hr := B.returns
  have hts := atoms_spec (ws := wsX0_whole) B.pre
  have hown : s.vm.findClass RX0 = some m.cls := findClass_of_methodNamed B.named
  have hlocks := B.notSynchronized
  have hS : va_S (aw0 h0) s.heap s.heap [] := va_S.rf
  have hP : va_P D vwCl (bw0 h0 mo fl) s.heap := hP
  have hl := lv_entry ([.ref h0, .int x1]) (n := 2) (Nat.le_of_ble_eq_true rfl)
  rw [lg_entry_eq]
  generalize (lg_sl ([.ref h0, .int x1]) ++ List.replicate (2 - (lg_sl ([.ref h0, .int x1])).length) Slot.unset).toArray = ls at hl ⊢
  have hl : lv_has ls 2 [(0, .ref h0), (1, .int x1)] := hl
  have j_52 : ∀ (y1 : Int32) (vfl : Int32) (H : Heap) (locs : List Loc) (ls : Array Slot), va_P D vwCl (bw0 h0 mo vfl) H → va_S (aw0 h0) s.heap H locs → lv_has ls 2 [(0, .ref h0), (1, .int y1)] → fX0_whole mo fl x1 = fX0_whole_k52 y1 mo vfl → W p l e (headSpec wsX0_whole { frames := 5, cells := 0, slots := 0, locals := 116 }).room s m ([.ref h0, .int x1] : List Value).toArray below meth c H locs 0 0 (MQ below (va_Qi (fun (r : Int32) (u : Int32) => (r, u) = fX0_whole mo fl x1) (fun u t => w0 D h0 mo u t) (aw0 h0)) ([.ref h0, .int x1] : List Value).toArray s 0 0 (aw0 h0)) (F0 m 52 ls []) := by
    intro y1 vfl H locs ls hP hS hl hE
    refine lv_aload_n hx hb dX0_whole_52 rfl (lv_at hl 0 rfl) ?_
    refine lv_iload_n hx hb dX0_whole_53 rfl (lv_at hl 1 rfl) ?_
    refine sc_i (W.runS (As := [.int y1]) (rest := [.ref h0]) ⟨hx, hb, hml, hown, hts⟩ (ccX0_signOf l y1 ) (va_cwS 1 hts gX0_whole_X0_signOf rfl rfl rfl (by decide +kernel) ⟨Nat.le_of_ble_eq_true rfl, Nat.le_of_ble_eq_true rfl⟩) st_pre rfl rfl hl.1 rfl (lv_room (Nat.le_of_ble_eq_true rfl)) dX0_whole_54 ⟨Nat.zero_le _, Nat.zero_le _⟩) ?_
    refine lv_aload_n hx hb dX0_whole_57 rfl (lv_at hl 0 rfl) ?_
    refine lv_iload_n hx hb dX0_whole_58 rfl (lv_at hl 1 rfl) ?_
    refine sc_i (W.runS (As := [.int y1]) (rest := [.ref h0, .int (fX0_signOf y1), .ref h0]) ⟨hx, hb, hml, hown, hts⟩ (ccX0_signOf l y1 ) (va_cwS 1 hts gX0_whole_X0_signOf rfl rfl rfl (by decide +kernel) ⟨Nat.le_of_ble_eq_true rfl, Nat.le_of_ble_eq_true rfl⟩) st_pre rfl rfl hl.1 rfl (lv_room (Nat.le_of_ble_eq_true rfl)) dX0_whole_59 ⟨Nat.zero_le _, Nat.zero_le _⟩) ?_
    refine lv_iload_n hx hb dX0_whole_62 rfl (lv_at hl 1 rfl) ?_
    refine sc_l (W.runS (As := [.int y1]) (rest := [.int (fX0_signOf y1), .ref h0, .int (fX0_signOf y1), .ref h0]) ⟨hx, hb, hml, hown, hts⟩ (ccX0_magnitudeOf l y1 ) (va_cwS 1 hts gX0_whole_X0_magnitudeOf rfl rfl rfl (by decide +kernel) ⟨Nat.le_of_ble_eq_true rfl, Nat.le_of_ble_eq_true rfl⟩) st_pre rfl rfl hl.1 rfl (lv_room (Nat.le_of_ble_eq_true rfl)) dX0_whole_63 ⟨Nat.zero_le _, Nat.zero_le _⟩) ?_
    refine lv_iload_n hx hb dX0_whole_66 rfl (lv_at hl 1 rfl) ?_
    refine sc_i (W.runS (As := [.int y1]) (rest := [.long (fX0_magnitudeOf y1), .int (fX0_signOf y1), .ref h0, .int (fX0_signOf y1), .ref h0]) ⟨hx, hb, hml, hown, hts⟩ (ccX0_unitOf l y1 ) (va_cwS 1 hts gX0_whole_X0_unitOf rfl rfl rfl (by decide +kernel) ⟨Nat.le_of_ble_eq_true rfl, Nat.le_of_ble_eq_true rfl⟩) st_pre rfl rfl hl.1 rfl (lv_room (Nat.le_of_ble_eq_true rfl)) dX0_whole_67 ⟨Nat.zero_le _, Nat.zero_le _⟩) ?_
    refine lv_ineg hx hb dX0_whole_70 ?_
    refine sc_l (W.runV (As := [.int (fX0_signOf y1), .long (fX0_magnitudeOf y1), .int (-((fX0_unitOf y1)))]) (rest := [.int (fX0_signOf y1), .ref h0]) ⟨hx, hb, hml, hown, hts⟩ (ccX0_multiple l D h0 mo vfl ((fX0_signOf y1)) ((fX0_magnitudeOf y1)) ((-((fX0_unitOf y1)))) ) (cwV 3 hts gX0_whole_X0_multiple rfl rfl rfl (by decide +kernel) ⟨Nat.le_of_ble_eq_true rfl, Nat.le_of_ble_eq_true rfl⟩) (w0_pre hK hP) rfl rfl hl.1 rfl (lv_room (Nat.le_of_ble_eq_true rfl)) dX0_whole_71 ⟨Nat.zero_le _, Nat.zero_le _⟩) ?_
    refine lv_iconst (v := 0) hx hb dX0_whole_74 (by decide) ?_
    refine k0_calli (va_runV (As := [.int (fX0_signOf y1), .long (fX0_multiple mo ((fX0_signOf y1)) ((fX0_magnitudeOf y1)) ((-((fX0_unitOf y1))))), .int (0 : Int32)]) (rest := []) ⟨hx, hb, hml, hown, hts⟩ (ccX0_rounded l D h0 mo vfl ((fX0_signOf y1)) ((fX0_multiple mo ((fX0_signOf y1)) ((fX0_magnitudeOf y1)) ((-((fX0_unitOf y1)))))) (0 : Int32) ) (cwV 3 hts gX0_whole_X0_rounded rfl rfl rfl (by decide +kernel) ⟨Nat.le_of_ble_eq_true rfl, Nat.le_of_ble_eq_true rfl⟩) (w0_pre hK hP) rfl rfl hl.1 rfl (lv_room (Nat.le_of_ble_eq_true rfl)) dX0_whole_75 ⟨Nat.zero_le _, Nat.zero_le _⟩) hS (fun r_75 u H locs hw hP hS => ?_)
    obtain ⟨fl_75, rfl⟩ : ∃ z, z = u := ⟨_, rfl⟩
    have hP : va_P D vwCl (bw0 h0 mo fl_75) H := hP
    replace hE : fX0_whole mo fl x1 = fX0_whole_k78 r_75 mo fl_75 := by have h : fX0_whole mo fl x1 = fX0_whole_k78 ((fX0_rounded mo vfl ((fX0_signOf y1)) ((fX0_multiple mo ((fX0_signOf y1)) ((fX0_magnitudeOf y1)) ((-((fX0_unitOf y1)))))) (0 : Int32)).1) mo ((fX0_rounded mo vfl ((fX0_signOf y1)) ((fX0_multiple mo ((fX0_signOf y1)) ((fX0_magnitudeOf y1)) ((-((fX0_unitOf y1)))))) (0 : Int32)).2) := hE; rw [← hw] at h; exact h
    exact W.iret hx hb hr (fun t ht hW => ⟨⟨_, fl_75, rfl, hE.symm, by rw [ht]; exact hP, va_K.moved hW.alike hK⟩, hS.F ht⟩) hS.2.2 dX0_whole_78
  have hE : fX0_whole mo fl x1 = fX0_whole mo fl x1 := rfl
  refine lv_iload_n hx hb dX0_whole_0 rfl (lv_at hl 1 rfl) ?_
  refine sc_i (W.runS (As := [.int x1]) (rest := []) ⟨hx, hb, hml, hown, hts⟩ (ccX0_isNoNumber l x1 ) (va_cwS 1 hts gX0_whole_X0_isNoNumber rfl rfl rfl (by decide +kernel) ⟨Nat.le_of_ble_eq_true rfl, Nat.le_of_ble_eq_true rfl⟩) st_pre rfl rfl hl.1 rfl (lv_room (Nat.le_of_ble_eq_true rfl)) dX0_whole_1 ⟨Nat.zero_le _, Nat.zero_le _⟩) ?_
  refine lv_if_eq (tgt := 16) hx hb dX0_whole_4 (by decide) (fun c_4 => ?_) (fun c_4 => ?_)
  · replace hE := hE.trans (if_pos c_4)
    refine lv_iload_n hx hb dX0_whole_16 rfl (lv_at hl 1 rfl) ?_
    refine sc_i (W.runS (As := [.int x1]) (rest := []) ⟨hx, hb, hml, hown, hts⟩ (ccX0_isInfinite l x1 ) (va_cwS 1 hts gX0_whole_X0_isInfinite rfl rfl rfl (by decide +kernel) ⟨Nat.le_of_ble_eq_true rfl, Nat.le_of_ble_eq_true rfl⟩) st_pre rfl rfl hl.1 rfl (lv_room (Nat.le_of_ble_eq_true rfl)) dX0_whole_17 ⟨Nat.zero_le _, Nat.zero_le _⟩) ?_
    refine lv_if_ne (tgt := 30) hx hb dX0_whole_20 (by decide) (fun c_20 => ?_) (fun c_20 => ?_)
    · replace hE := hE.trans (if_neg c_20)
      refine lv_iload_n hx hb dX0_whole_30 rfl (lv_at hl 1 rfl) ?_
      exact W.iret hx hb hr (fun t ht hW => ⟨⟨_, fl, rfl, hE.symm, by rw [ht]; exact hP, va_K.moved hW.alike hK⟩, hS.F ht⟩) hS.2.2 dX0_whole_31
    · replace hE := hE.trans (if_pos c_20)
      refine lv_iload_n hx hb dX0_whole_23 rfl (lv_at hl 1 rfl) ?_
      refine sc_i (W.runS (As := [.int x1]) (rest := []) ⟨hx, hb, hml, hown, hts⟩ (ccX0_unitOf l x1 ) (va_cwS 1 hts gX0_whole_X0_unitOf rfl rfl rfl (by decide +kernel) ⟨Nat.le_of_ble_eq_true rfl, Nat.le_of_ble_eq_true rfl⟩) st_pre rfl rfl hl.1 rfl (lv_room (Nat.le_of_ble_eq_true rfl)) dX0_whole_24 ⟨Nat.zero_le _, Nat.zero_le _⟩) ?_
      refine lv_if_lt (tgt := 32) hx hb dX0_whole_27 (by decide) (fun c_27 => ?_) (fun c_27 => ?_)
      · replace hE := hE.trans (if_pos c_27)
        refine lv_iload_n hx hb dX0_whole_32 rfl (lv_at hl 1 rfl) ?_
        refine sc_l (W.runS (As := [.int x1]) (rest := []) ⟨hx, hb, hml, hown, hts⟩ (ccX0_magnitudeOf l x1 ) (va_cwS 1 hts gX0_whole_X0_magnitudeOf rfl rfl rfl (by decide +kernel) ⟨Nat.le_of_ble_eq_true rfl, Nat.le_of_ble_eq_true rfl⟩) st_pre rfl rfl hl.1 rfl (lv_room (Nat.le_of_ble_eq_true rfl)) dX0_whole_33 ⟨Nat.zero_le _, Nat.zero_le _⟩) ?_
        refine lv_iload_n hx hb dX0_whole_36 rfl (lv_at hl 1 rfl) ?_
        refine sc_i (W.runS (As := [.int x1]) (rest := [.long (fX0_magnitudeOf x1)]) ⟨hx, hb, hml, hown, hts⟩ (ccX0_unitOf l x1 ) (va_cwS 1 hts gX0_whole_X0_unitOf rfl rfl rfl (by decide +kernel) ⟨Nat.le_of_ble_eq_true rfl, Nat.le_of_ble_eq_true rfl⟩) st_pre rfl rfl hl.1 rfl (lv_room (Nat.le_of_ble_eq_true rfl)) dX0_whole_37 ⟨Nat.zero_le _, Nat.zero_le _⟩) ?_
        refine lv_ineg hx hb dX0_whole_40 ?_
        refine sc_i (W.runS (As := [.long (fX0_magnitudeOf x1), .int (-((fX0_unitOf x1)))]) (rest := []) ⟨hx, hb, hml, hown, hts⟩ (ccX0_isMultiple l ((fX0_magnitudeOf x1)) ((-((fX0_unitOf x1)))) ) (va_cwS 2 hts gX0_whole_X0_isMultiple rfl rfl rfl (by decide +kernel) ⟨Nat.le_of_ble_eq_true rfl, Nat.le_of_ble_eq_true rfl⟩) st_pre rfl rfl hl.1 rfl (lv_room (Nat.le_of_ble_eq_true rfl)) dX0_whole_41 ⟨Nat.zero_le _, Nat.zero_le _⟩) ?_
        refine lv_if_ne (tgt := 52) hx hb dX0_whole_44 (by decide) (fun c_44 => ?_) (fun c_44 => ?_)
        · replace hE := hE.trans (if_neg c_44)
          exact j_52 x1 fl _ _ _ hP hS (lv_sub hl [0, 1] rfl)  hE
        · replace hE := hE.trans (if_pos c_44)
          refine lv_aload_n hx hb dX0_whole_47 rfl (lv_at hl 0 rfl) ?_
          refine lv_iconst (v := 1) hx hb dX0_whole_48 (by decide) ?_
          refine k0_callv (va_runV (As := [.int (1 : Int32)]) (rest := []) ⟨hx, hb, hml, hown, hts⟩ (ccX0_raise l D h0 mo fl (1 : Int32) ) (cwV 1 hts gX0_whole_X0_raise rfl rfl rfl (by decide +kernel) ⟨Nat.le_of_ble_eq_true rfl, Nat.le_of_ble_eq_true rfl⟩) (w0_pre hK hP) rfl rfl hl.1 rfl (lv_room (Nat.le_of_ble_eq_true rfl)) dX0_whole_49 ⟨Nat.zero_le _, Nat.zero_le _⟩) hS (fun u H locs hw hP hS => ?_)
          obtain ⟨fl_49, rfl⟩ : ∃ z, z = u := ⟨_, rfl⟩
          have hP : va_P D vwCl (bw0 h0 mo fl_49) H := hP
          replace hE : fX0_whole mo fl x1 = fX0_whole_k52 x1 mo fl_49 := by have h : fX0_whole mo fl x1 = fX0_whole_k52 x1 mo ((fX0_raise fl (1 : Int32))) := hE; rw [← hw] at h; exact h
          exact j_52 x1 fl_49 _ _ _ hP hS (lv_sub hl [0, 1] rfl)  hE
      · replace hE := hE.trans (if_neg c_27)
        refine lv_iload_n hx hb dX0_whole_30 rfl (lv_at hl 1 rfl) ?_
        exact W.iret hx hb hr (fun t ht hW => ⟨⟨_, fl, rfl, hE.symm, by rw [ht]; exact hP, va_K.moved hW.alike hK⟩, hS.F ht⟩) hS.2.2 dX0_whole_31
  · replace hE := hE.trans (if_neg c_4)
    refine lv_aload_n hx hb dX0_whole_7 rfl (lv_at hl 0 rfl) ?_
    refine lv_iload_n hx hb dX0_whole_8 rfl (lv_at hl 1 rfl) ?_
    refine sc_i (W.runS (As := [.int x1]) (rest := [.ref h0]) ⟨hx, hb, hml, hown, hts⟩ (ccX0_isLoud l x1 ) (va_cwS 1 hts gX0_whole_X0_isLoud rfl rfl rfl (by decide +kernel) ⟨Nat.le_of_ble_eq_true rfl, Nat.le_of_ble_eq_true rfl⟩) st_pre rfl rfl hl.1 rfl (lv_room (Nat.le_of_ble_eq_true rfl)) dX0_whole_9 ⟨Nat.zero_le _, Nat.zero_le _⟩) ?_
    refine k0_calli (va_runV (As := [.int (fX0_isLoud x1)]) (rest := []) ⟨hx, hb, hml, hown, hts⟩ (ccX0_noNumber l D h0 mo fl ((fX0_isLoud x1)) ) (cwV 1 hts gX0_whole_X0_noNumber rfl rfl rfl (by decide +kernel) ⟨Nat.le_of_ble_eq_true rfl, Nat.le_of_ble_eq_true rfl⟩) (w0_pre hK hP) rfl rfl hl.1 rfl (lv_room (Nat.le_of_ble_eq_true rfl)) dX0_whole_12 ⟨Nat.zero_le _, Nat.zero_le _⟩) hS (fun r_12 u H locs hw hP hS => ?_)
    obtain ⟨fl_12, rfl⟩ : ∃ z, z = u := ⟨_, rfl⟩
    have hP : va_P D vwCl (bw0 h0 mo fl_12) H := hP
    replace hE : fX0_whole mo fl x1 = fX0_whole_k15 r_12 mo fl_12 := by have h : fX0_whole mo fl x1 = fX0_whole_k15 ((fX0_noNumber fl ((fX0_isLoud x1))).1) mo ((fX0_noNumber fl ((fX0_isLoud x1))).2) := hE; rw [← hw] at h; exact h
    exact W.iret hx hb hr (fun t ht hW => ⟨⟨_, fl_12, rfl, hE.symm, by rw [ht]; exact hP, va_K.moved hW.alike hK⟩, hS.F ht⟩) hS.2.2 dX0_whole_15
/-! X0_toInt -/
def fX0_toInt_k97 (y4 : Int64) (mo : Int32) (vfl : Int32) : Int32 × Int32 := ((Int64.toInt32 y4), vfl)
def fX0_toInt_k76 (z0 : Int32) (mo : Int32) (vfl : Int32) : Int32 × Int32 := (z0, vfl)
def fX0_toInt_k72 (mo : Int32) (vfl : Int32) : Int32 × Int32 := fX0_toInt_k76 ((fX0_invalidInt vfl).1) mo ((fX0_invalidInt vfl).2)
def fX0_toInt_k52 (y1 : Int32) (z0 : Int64) (mo : Int32) (vfl : Int32) : Int32 × Int32 := (if ((lg_cmp z0 (-2147483648 : Int64))) < 0 then fX0_toInt_k72 mo vfl else (if ((lg_cmp z0 (2147483647 : Int64))) ≤ 0 then (if ((fX0_isMultiple ((fX0_magnitudeOf y1)) ((-((fX0_unitOf y1)))))) = 0 then fX0_toInt_k97 z0 mo ((fX0_raise vfl (1 : Int32))) else ((Int64.toInt32 z0), vfl)) else fX0_toInt_k72 mo vfl))
def fX0_toInt_k39 (y1 : Int32) (y2 : Int64) (mo : Int32) (vfl : Int32) : Int32 × Int32 := (if ((fX0_isNegative y1)) = 0 then fX0_toInt_k52 y1 y2 mo vfl else fX0_toInt_k52 y1 ((-y2)) mo vfl)
def fX0_toInt_k20 (z0 : Int32) (mo : Int32) (vfl : Int32) : Int32 × Int32 := (z0, vfl)
def fX0_toInt_k16 (mo : Int32) (vfl : Int32) : Int32 × Int32 := fX0_toInt_k20 ((fX0_invalidInt vfl).1) mo ((fX0_invalidInt vfl).2)
def fX0_toInt (mo : Int32) (fl : Int32) (x1 : Int32) : Int32 × Int32 := (if ((fX0_isFinite x1)) = 0 then fX0_toInt_k16 mo fl else (if ((fX0_unitOf x1)) ≤ (8 : Int32) then fX0_toInt_k39 x1 ((fX0_multiple mo ((fX0_signOf x1)) ((fX0_magnitudeOf x1)) ((-((fX0_unitOf x1)))))) mo fl else fX0_toInt_k16 mo fl))
set_option maxHeartbeats 4000000 in
set_option maxRecDepth 100000 in
theorem ccX0_toInt (l : Launch) (D : va_G) (h0 : Nat) (mo fl : Int32) (x1 : Int32)  : Met l yX0_toInt wsX0_toInt { frames := 3, cells := 0, slots := 0, locals := 75 } (va_Pc [.ref h0, .int x1] (w0 D h0 mo fl)) (va_Qi (fun (r : Int32) (u : Int32) => (r, u) = fX0_toInt mo fl x1) (fun u t => w0 D h0 mo u t) (aw0 h0)) 0 0 (aw0 h0) := by
  refine Met.ofW (cc := cX0_toInt) (maxL := 6) (ret := (some .int)) (by decide) rfl ?_
  intro p e s m args below meth c s₁ B hml hv
  obtain ⟨rfl, hP, hK⟩ := hv
  have hx := B.exec
  have hb := B.bytes
  have hr := B.returns
  have hts := atoms_spec (ws := wsX0_toInt) B.pre
  have hown : s.vm.findClass RX0 = some m.cls := findClass_of_methodNamed B.named
  have hlocks := B.notSynchronized
  have hS : va_S (aw0 h0) s.heap s.heap [] := va_S.rf
  have hP : va_P D vwCl (bw0 h0 mo fl) s.heap := hP
  have hl := lv_entry ([.ref h0, .int x1]) (n := 6) (Nat.le_of_ble_eq_true rfl)
  rw [lg_entry_eq]
  generalize (lg_sl ([.ref h0, .int x1]) ++ List.replicate (6 - (lg_sl ([.ref h0, .int x1])).length) Slot.unset).toArray = ls at hl ⊢
  have hl : lv_has ls 6 [(0, .ref h0), (1, .int x1)] := hl
  have j_72 : ∀ (vfl : Int32) (H : Heap) (locs : List Loc) (ls : Array Slot), va_P D vwCl (bw0 h0 mo vfl) H → va_S (aw0 h0) s.heap H locs → lv_has ls 6 [(0, .ref h0)] → fX0_toInt mo fl x1 = fX0_toInt_k72 mo vfl → W p l e (headSpec wsX0_toInt { frames := 3, cells := 0, slots := 0, locals := 75 }).room s m ([.ref h0, .int x1] : List Value).toArray below meth c H locs 0 0 (MQ below (va_Qi (fun (r : Int32) (u : Int32) => (r, u) = fX0_toInt mo fl x1) (fun u t => w0 D h0 mo u t) (aw0 h0)) ([.ref h0, .int x1] : List Value).toArray s 0 0 (aw0 h0)) (F0 m 72 ls []) := by
    intro vfl H locs ls hP hS hl hE
    refine lv_aload_n hx hb dX0_toInt_72 rfl (lv_at hl 0 rfl) ?_
    refine k0_calli (va_runV (As := []) (rest := []) ⟨hx, hb, hml, hown, hts⟩ (ccX0_invalidInt l D h0 mo vfl  ) (cwV 0 hts gX0_toInt_X0_invalidInt rfl rfl rfl (by decide +kernel) ⟨Nat.le_of_ble_eq_true rfl, Nat.le_of_ble_eq_true rfl⟩) (w0_pre hK hP) rfl rfl hl.1 rfl (lv_room (Nat.le_of_ble_eq_true rfl)) dX0_toInt_73 ⟨Nat.zero_le _, Nat.zero_le _⟩) hS (fun r_73 u H locs hw hP hS => ?_)
    obtain ⟨fl_73, rfl⟩ : ∃ z, z = u := ⟨_, rfl⟩
    have hP : va_P D vwCl (bw0 h0 mo fl_73) H := hP
    replace hE : fX0_toInt mo fl x1 = fX0_toInt_k76 r_73 mo fl_73 := by have h : fX0_toInt mo fl x1 = fX0_toInt_k76 ((fX0_invalidInt vfl).1) mo ((fX0_invalidInt vfl).2) := hE; rw [← hw] at h; exact h
    exact W.iret hx hb hr (fun t ht hW => ⟨⟨_, fl_73, rfl, hE.symm, by rw [ht]; exact hP, va_K.moved hW.alike hK⟩, hS.F ht⟩) hS.2.2 dX0_toInt_76
  have j_52 : ∀ (y1 : Int32) (z0 : Int64) (vfl : Int32) (H : Heap) (locs : List Loc) (ls : Array Slot), va_P D vwCl (bw0 h0 mo vfl) H → va_S (aw0 h0) s.heap H locs → lv_has ls 6 [(0, .ref h0), (1, .int y1)] → fX0_toInt mo fl x1 = fX0_toInt_k52 y1 z0 mo vfl → W p l e (headSpec wsX0_toInt { frames := 3, cells := 0, slots := 0, locals := 75 }).room s m ([.ref h0, .int x1] : List Value).toArray below meth c H locs 0 0 (MQ below (va_Qi (fun (r : Int32) (u : Int32) => (r, u) = fX0_toInt mo fl x1) (fun u t => w0 D h0 mo u t) (aw0 h0)) ([.ref h0, .int x1] : List Value).toArray s 0 0 (aw0 h0)) (F0 m 52 ls [.long z0]) := by
    intro y1 z0 vfl H locs ls hP hS hl hE
    refine lv_lstore (lv' := [(4, .long z0), (0, .ref h0), (1, .int y1)]) hx hb dX0_toInt_52 hl (by decide) rfl (fun ls hl => ?_)
    refine lv_lload hx hb dX0_toInt_54 (lv_at hl 0 rfl) ?_
    refine lv_ldc2 hx hb hown (hts (.constantLong RX0 105 (-2147483648)) (by decide +kernel)) dX0_toInt_56 ?_
    refine W.lcmp hx hb dX0_toInt_59 ?_
    refine lv_if_lt (tgt := 72) hx hb dX0_toInt_60 (by decide) (fun c_60 => ?_) (fun c_60 => ?_)
    · replace hE := hE.trans (if_pos c_60)
      exact j_72 vfl _ _ _ hP hS (lv_sub hl [1] rfl)  hE
    · replace hE := hE.trans (if_neg c_60)
      refine lv_lload hx hb dX0_toInt_63 (lv_at hl 0 rfl) ?_
      refine lv_ldc2 hx hb hown (hts (.constantLong RX0 107 (2147483647)) (by decide +kernel)) dX0_toInt_65 ?_
      refine W.lcmp hx hb dX0_toInt_68 ?_
      refine lv_if_le (tgt := 77) hx hb dX0_toInt_69 (by decide) (fun c_69 => ?_) (fun c_69 => ?_)
      · replace hE := hE.trans (if_pos c_69)
        refine lv_iload_n hx hb dX0_toInt_77 rfl (lv_at hl 2 rfl) ?_
        refine sc_l (W.runS (As := [.int y1]) (rest := []) ⟨hx, hb, hml, hown, hts⟩ (ccX0_magnitudeOf l y1 ) (va_cwS 1 hts gX0_toInt_X0_magnitudeOf rfl rfl rfl (by decide +kernel) ⟨Nat.le_of_ble_eq_true rfl, Nat.le_of_ble_eq_true rfl⟩) st_pre rfl rfl hl.1 rfl (lv_room (Nat.le_of_ble_eq_true rfl)) dX0_toInt_78 ⟨Nat.zero_le _, Nat.zero_le _⟩) ?_
        refine lv_iload_n hx hb dX0_toInt_81 rfl (lv_at hl 2 rfl) ?_
        refine sc_i (W.runS (As := [.int y1]) (rest := [.long (fX0_magnitudeOf y1)]) ⟨hx, hb, hml, hown, hts⟩ (ccX0_unitOf l y1 ) (va_cwS 1 hts gX0_toInt_X0_unitOf rfl rfl rfl (by decide +kernel) ⟨Nat.le_of_ble_eq_true rfl, Nat.le_of_ble_eq_true rfl⟩) st_pre rfl rfl hl.1 rfl (lv_room (Nat.le_of_ble_eq_true rfl)) dX0_toInt_82 ⟨Nat.zero_le _, Nat.zero_le _⟩) ?_
        refine lv_ineg hx hb dX0_toInt_85 ?_
        refine sc_i (W.runS (As := [.long (fX0_magnitudeOf y1), .int (-((fX0_unitOf y1)))]) (rest := []) ⟨hx, hb, hml, hown, hts⟩ (ccX0_isMultiple l ((fX0_magnitudeOf y1)) ((-((fX0_unitOf y1)))) ) (va_cwS 2 hts gX0_toInt_X0_isMultiple rfl rfl rfl (by decide +kernel) ⟨Nat.le_of_ble_eq_true rfl, Nat.le_of_ble_eq_true rfl⟩) st_pre rfl rfl hl.1 rfl (lv_room (Nat.le_of_ble_eq_true rfl)) dX0_toInt_86 ⟨Nat.zero_le _, Nat.zero_le _⟩) ?_
        refine lv_if_ne (tgt := 97) hx hb dX0_toInt_89 (by decide) (fun c_89 => ?_) (fun c_89 => ?_)
        · replace hE := hE.trans (if_neg c_89)
          refine lv_lload hx hb dX0_toInt_97 (lv_at hl 0 rfl) ?_
          refine lv_l2i hx hb dX0_toInt_99 rfl ?_
          exact W.iret hx hb hr (fun t ht hW => ⟨⟨_, vfl, rfl, hE.symm, by rw [ht]; exact hP, va_K.moved hW.alike hK⟩, hS.F ht⟩) hS.2.2 dX0_toInt_100
        · replace hE := hE.trans (if_pos c_89)
          refine lv_aload_n hx hb dX0_toInt_92 rfl (lv_at hl 1 rfl) ?_
          refine lv_iconst (v := 1) hx hb dX0_toInt_93 (by decide) ?_
          refine k0_callv (va_runV (As := [.int (1 : Int32)]) (rest := []) ⟨hx, hb, hml, hown, hts⟩ (ccX0_raise l D h0 mo vfl (1 : Int32) ) (cwV 1 hts gX0_toInt_X0_raise rfl rfl rfl (by decide +kernel) ⟨Nat.le_of_ble_eq_true rfl, Nat.le_of_ble_eq_true rfl⟩) (w0_pre hK hP) rfl rfl hl.1 rfl (lv_room (Nat.le_of_ble_eq_true rfl)) dX0_toInt_94 ⟨Nat.zero_le _, Nat.zero_le _⟩) hS (fun u H locs hw hP hS => ?_)
          obtain ⟨fl_94, rfl⟩ : ∃ z, z = u := ⟨_, rfl⟩
          have hP : va_P D vwCl (bw0 h0 mo fl_94) H := hP
          replace hE : fX0_toInt mo fl x1 = fX0_toInt_k97 z0 mo fl_94 := by have h : fX0_toInt mo fl x1 = fX0_toInt_k97 z0 mo ((fX0_raise vfl (1 : Int32))) := hE; rw [← hw] at h; exact h
          refine lv_lload hx hb dX0_toInt_97 (lv_at hl 0 rfl) ?_
          refine lv_l2i hx hb dX0_toInt_99 rfl ?_
          exact W.iret hx hb hr (fun t ht hW => ⟨⟨_, fl_94, rfl, hE.symm, by rw [ht]; exact hP, va_K.moved hW.alike hK⟩, hS.F ht⟩) hS.2.2 dX0_toInt_100
      · replace hE := hE.trans (if_neg c_69)
        exact j_72 vfl _ _ _ hP hS (lv_sub hl [1] rfl)  hE
  have j_16 : ∀ (vfl : Int32) (H : Heap) (locs : List Loc) (ls : Array Slot), va_P D vwCl (bw0 h0 mo vfl) H → va_S (aw0 h0) s.heap H locs → lv_has ls 6 [(0, .ref h0)] → fX0_toInt mo fl x1 = fX0_toInt_k16 mo vfl → W p l e (headSpec wsX0_toInt { frames := 3, cells := 0, slots := 0, locals := 75 }).room s m ([.ref h0, .int x1] : List Value).toArray below meth c H locs 0 0 (MQ below (va_Qi (fun (r : Int32) (u : Int32) => (r, u) = fX0_toInt mo fl x1) (fun u t => w0 D h0 mo u t) (aw0 h0)) ([.ref h0, .int x1] : List Value).toArray s 0 0 (aw0 h0)) (F0 m 16 ls []) := by
    intro vfl H locs ls hP hS hl hE
    refine lv_aload_n hx hb dX0_toInt_16 rfl (lv_at hl 0 rfl) ?_
    refine k0_calli (va_runV (As := []) (rest := []) ⟨hx, hb, hml, hown, hts⟩ (ccX0_invalidInt l D h0 mo vfl  ) (cwV 0 hts gX0_toInt_X0_invalidInt rfl rfl rfl (by decide +kernel) ⟨Nat.le_of_ble_eq_true rfl, Nat.le_of_ble_eq_true rfl⟩) (w0_pre hK hP) rfl rfl hl.1 rfl (lv_room (Nat.le_of_ble_eq_true rfl)) dX0_toInt_17 ⟨Nat.zero_le _, Nat.zero_le _⟩) hS (fun r_17 u H locs hw hP hS => ?_)
    obtain ⟨fl_17, rfl⟩ : ∃ z, z = u := ⟨_, rfl⟩
    have hP : va_P D vwCl (bw0 h0 mo fl_17) H := hP
    replace hE : fX0_toInt mo fl x1 = fX0_toInt_k20 r_17 mo fl_17 := by have h : fX0_toInt mo fl x1 = fX0_toInt_k20 ((fX0_invalidInt vfl).1) mo ((fX0_invalidInt vfl).2) := hE; rw [← hw] at h; exact h
    exact W.iret hx hb hr (fun t ht hW => ⟨⟨_, fl_17, rfl, hE.symm, by rw [ht]; exact hP, va_K.moved hW.alike hK⟩, hS.F ht⟩) hS.2.2 dX0_toInt_20
  have hE : fX0_toInt mo fl x1 = fX0_toInt mo fl x1 := rfl
  refine lv_iload_n hx hb dX0_toInt_0 rfl (lv_at hl 1 rfl) ?_
  refine sc_i (W.runS (As := [.int x1]) (rest := []) ⟨hx, hb, hml, hown, hts⟩ (ccX0_isFinite l x1 ) (va_cwS 1 hts gX0_toInt_X0_isFinite rfl rfl rfl (by decide +kernel) ⟨Nat.le_of_ble_eq_true rfl, Nat.le_of_ble_eq_true rfl⟩) st_pre rfl rfl hl.1 rfl (lv_room (Nat.le_of_ble_eq_true rfl)) dX0_toInt_1 ⟨Nat.zero_le _, Nat.zero_le _⟩) ?_
  refine lv_if_eq (tgt := 16) hx hb dX0_toInt_4 (by decide) (fun c_4 => ?_) (fun c_4 => ?_)
  · replace hE := hE.trans (if_pos c_4)
    exact j_16 fl _ _ _ hP hS (lv_sub hl [0] rfl)  hE
  · replace hE := hE.trans (if_neg c_4)
    refine lv_iload_n hx hb dX0_toInt_7 rfl (lv_at hl 1 rfl) ?_
    refine sc_i (W.runS (As := [.int x1]) (rest := []) ⟨hx, hb, hml, hown, hts⟩ (ccX0_unitOf l x1 ) (va_cwS 1 hts gX0_toInt_X0_unitOf rfl rfl rfl (by decide +kernel) ⟨Nat.le_of_ble_eq_true rfl, Nat.le_of_ble_eq_true rfl⟩) st_pre rfl rfl hl.1 rfl (lv_room (Nat.le_of_ble_eq_true rfl)) dX0_toInt_8 ⟨Nat.zero_le _, Nat.zero_le _⟩) ?_
    refine lv_bipush (v := 8) hx hb dX0_toInt_11 (by decide) ?_
    refine lv_icmp_le (tgt := 21) hx hb dX0_toInt_13 (by decide) (fun c_13 => ?_) (fun c_13 => ?_)
    · replace hE := hE.trans (if_pos c_13)
      refine lv_aload_n hx hb dX0_toInt_21 rfl (lv_at hl 0 rfl) ?_
      refine lv_iload_n hx hb dX0_toInt_22 rfl (lv_at hl 1 rfl) ?_
      refine sc_i (W.runS (As := [.int x1]) (rest := [.ref h0]) ⟨hx, hb, hml, hown, hts⟩ (ccX0_signOf l x1 ) (va_cwS 1 hts gX0_toInt_X0_signOf rfl rfl rfl (by decide +kernel) ⟨Nat.le_of_ble_eq_true rfl, Nat.le_of_ble_eq_true rfl⟩) st_pre rfl rfl hl.1 rfl (lv_room (Nat.le_of_ble_eq_true rfl)) dX0_toInt_23 ⟨Nat.zero_le _, Nat.zero_le _⟩) ?_
      refine lv_iload_n hx hb dX0_toInt_26 rfl (lv_at hl 1 rfl) ?_
      refine sc_l (W.runS (As := [.int x1]) (rest := [.int (fX0_signOf x1), .ref h0]) ⟨hx, hb, hml, hown, hts⟩ (ccX0_magnitudeOf l x1 ) (va_cwS 1 hts gX0_toInt_X0_magnitudeOf rfl rfl rfl (by decide +kernel) ⟨Nat.le_of_ble_eq_true rfl, Nat.le_of_ble_eq_true rfl⟩) st_pre rfl rfl hl.1 rfl (lv_room (Nat.le_of_ble_eq_true rfl)) dX0_toInt_27 ⟨Nat.zero_le _, Nat.zero_le _⟩) ?_
      refine lv_iload_n hx hb dX0_toInt_30 rfl (lv_at hl 1 rfl) ?_
      refine sc_i (W.runS (As := [.int x1]) (rest := [.long (fX0_magnitudeOf x1), .int (fX0_signOf x1), .ref h0]) ⟨hx, hb, hml, hown, hts⟩ (ccX0_unitOf l x1 ) (va_cwS 1 hts gX0_toInt_X0_unitOf rfl rfl rfl (by decide +kernel) ⟨Nat.le_of_ble_eq_true rfl, Nat.le_of_ble_eq_true rfl⟩) st_pre rfl rfl hl.1 rfl (lv_room (Nat.le_of_ble_eq_true rfl)) dX0_toInt_31 ⟨Nat.zero_le _, Nat.zero_le _⟩) ?_
      refine lv_ineg hx hb dX0_toInt_34 ?_
      refine sc_l (W.runV (As := [.int (fX0_signOf x1), .long (fX0_magnitudeOf x1), .int (-((fX0_unitOf x1)))]) (rest := []) ⟨hx, hb, hml, hown, hts⟩ (ccX0_multiple l D h0 mo fl ((fX0_signOf x1)) ((fX0_magnitudeOf x1)) ((-((fX0_unitOf x1)))) ) (cwV 3 hts gX0_toInt_X0_multiple rfl rfl rfl (by decide +kernel) ⟨Nat.le_of_ble_eq_true rfl, Nat.le_of_ble_eq_true rfl⟩) (w0_pre hK hP) rfl rfl hl.1 rfl (lv_room (Nat.le_of_ble_eq_true rfl)) dX0_toInt_35 ⟨Nat.zero_le _, Nat.zero_le _⟩) ?_
      refine lv_topl (fun x2_38 e_38 => ?_)
      refine lv_lstore_n (lv' := [(2, .long x2_38), (0, .ref h0), (1, .int x1)]) hx hb dX0_toInt_38 rfl hl (by decide) rfl (fun ls hl => ?_)
      replace hE : fX0_toInt mo fl x1 = fX0_toInt_k39 x1 x2_38 mo fl := by rw [e_38]; exact hE
      refine lv_iload_n hx hb dX0_toInt_39 rfl (lv_at hl 2 rfl) ?_
      refine sc_i (W.runS (As := [.int x1]) (rest := []) ⟨hx, hb, hml, hown, hts⟩ (ccX0_isNegative l x1 ) (va_cwS 1 hts gX0_toInt_X0_isNegative rfl rfl rfl (by decide +kernel) ⟨Nat.le_of_ble_eq_true rfl, Nat.le_of_ble_eq_true rfl⟩) st_pre rfl rfl hl.1 rfl (lv_room (Nat.le_of_ble_eq_true rfl)) dX0_toInt_40 ⟨Nat.zero_le _, Nat.zero_le _⟩) ?_
      refine lv_if_eq (tgt := 51) hx hb dX0_toInt_43 (by decide) (fun c_43 => ?_) (fun c_43 => ?_)
      · replace hE := hE.trans (if_pos c_43)
        refine lv_lload_n hx hb dX0_toInt_51 rfl (lv_at hl 0 rfl) ?_
        exact j_52 x1 x2_38 fl _ _ _ hP hS (lv_sub hl [1, 2] rfl)  hE
      · replace hE := hE.trans (if_neg c_43)
        refine lv_lload_n hx hb dX0_toInt_46 rfl (lv_at hl 0 rfl) ?_
        refine lv_lneg hx hb dX0_toInt_47 ?_
        refine lv_goto (tgt := 52) hx hb dX0_toInt_48 (by decide) ?_
        exact j_52 x1 ((-x2_38)) fl _ _ _ hP hS (lv_sub hl [1, 2] rfl)  hE
    · replace hE := hE.trans (if_neg c_13)
      exact j_16 fl _ _ _ hP hS (lv_sub hl [0] rfl)  hE
/-! X0_compare -/
def fX0_compare_k51 (y3 : Int32) (y4 : Int32) (vfl : Int32) : Int32 × Int32 := (if y3 = y4 then ((0 : Int32), vfl) else (if y4 ≤ y3 then ((1 : Int32), vfl) else ((-1 : Int32), vfl)))
def fX0_compare_k45 (y2 : Int32) (y3 : Int32) (vfl : Int32) : Int32 × Int32 := fX0_compare_k51 y3 ((fX0_place y2)) vfl
def fX0_compare_k37 (z0 : Int32) (vfl : Int32) : Int32 × Int32 := ((2 : Int32), vfl)
def fX0_compare_k34 (z1 : Int32) (vfl : Int32) : Int32 × Int32 := fX0_compare_k37 ((fX0_noNumber vfl z1).1) ((fX0_noNumber vfl z1).2)
def fX0_compare_k14 (y1 : Int32) (y2 : Int32) (vfl : Int32) : Int32 × Int32 := (if ((fX0_isLoud y1)) = 0 then (if ((fX0_isLoud y2)) = 0 then fX0_compare_k34 (0 : Int32) vfl else fX0_compare_k34 (1 : Int32) vfl) else fX0_compare_k34 (1 : Int32) vfl)
def fX0_compare (fl : Int32) (x1 : Int32) (x2 : Int32) : Int32 × Int32 := (if ((fX0_isNoNumber x1)) = 0 then (if ((fX0_isNoNumber x2)) = 0 then fX0_compare_k45 x2 ((fX0_place x1)) fl else fX0_compare_k14 x1 x2 fl) else fX0_compare_k14 x1 x2 fl)
set_option maxHeartbeats 4000000 in
set_option maxRecDepth 100000 in
theorem ccX0_compare (l : Launch) (D : va_G) (h0 : Nat) (mo fl : Int32) (x1 : Int32) (x2 : Int32)  : Met l yX0_compare wsX0_compare { frames := 2, cells := 0, slots := 0, locals := 42 } (va_Pc [.ref h0, .int x1, .int x2] (w0 D h0 mo fl)) (va_Qi (fun (r : Int32) (u : Int32) => (r, u) = fX0_compare fl x1 x2) (fun u t => w0 D h0 mo u t) (aw0 h0)) 0 0 (aw0 h0) := by
  refine Met.ofW (cc := cX0_compare) (maxL := 5) (ret := (some .int)) (by decide) rfl ?_
  intro p e s m args below meth c s₁ B hml hv
  obtain ⟨rfl, hP, hK⟩ := hv
  have hx := B.exec
  have hb := B.bytes
  have hr := B.returns
  have hts := atoms_spec (ws := wsX0_compare) B.pre
  have hown : s.vm.findClass RX0 = some m.cls := findClass_of_methodNamed B.named
  have hlocks := B.notSynchronized
  have hS : va_S (aw0 h0) s.heap s.heap [] := va_S.rf
  have hP : va_P D vwCl (bw0 h0 mo fl) s.heap := hP
  have hl := lv_entry ([.ref h0, .int x1, .int x2]) (n := 5) (Nat.le_of_ble_eq_true rfl)
  rw [lg_entry_eq]
  generalize (lg_sl ([.ref h0, .int x1, .int x2]) ++ List.replicate (5 - (lg_sl ([.ref h0, .int x1, .int x2])).length) Slot.unset).toArray = ls at hl ⊢
  have hl : lv_has ls 5 [(0, .ref h0), (1, .int x1), (2, .int x2)] := hl
  have j_34 : ∀ (z1 : Int32) (vfl : Int32) (H : Heap) (locs : List Loc) (ls : Array Slot), va_P D vwCl (bw0 h0 mo vfl) H → va_S (aw0 h0) s.heap H locs → lv_has ls 5 [] → isB z1 → fX0_compare fl x1 x2 = fX0_compare_k34 z1 vfl → W p l e (headSpec wsX0_compare { frames := 2, cells := 0, slots := 0, locals := 42 }).room s m ([.ref h0, .int x1, .int x2] : List Value).toArray below meth c H locs 0 0 (MQ below (va_Qi (fun (r : Int32) (u : Int32) => (r, u) = fX0_compare fl x1 x2) (fun u t => w0 D h0 mo u t) (aw0 h0)) ([.ref h0, .int x1, .int x2] : List Value).toArray s 0 0 (aw0 h0)) (F0 m 34 ls [.int z1, .ref h0]) := by
    intro z1 vfl H locs ls hP hS hl b_z1 hE
    refine k0_calli (va_runV (As := [.int z1]) (rest := []) ⟨hx, hb, hml, hown, hts⟩ (ccX0_noNumber l D h0 mo vfl z1 ) (cwV 1 hts gX0_compare_X0_noNumber rfl rfl rfl (by decide +kernel) ⟨Nat.le_of_ble_eq_true rfl, Nat.le_of_ble_eq_true rfl⟩) (w0_pre hK hP) rfl rfl hl.1 rfl (lv_room (Nat.le_of_ble_eq_true rfl)) dX0_compare_34 ⟨Nat.zero_le _, Nat.zero_le _⟩) hS (fun r_34 u H locs hw hP hS => ?_)
    obtain ⟨fl_34, rfl⟩ : ∃ z, z = u := ⟨_, rfl⟩
    have hP : va_P D vwCl (bw0 h0 mo fl_34) H := hP
    replace hE : fX0_compare fl x1 x2 = fX0_compare_k37 r_34 fl_34 := by have h : fX0_compare fl x1 x2 = fX0_compare_k37 ((fX0_noNumber vfl z1).1) ((fX0_noNumber vfl z1).2) := hE; rw [← hw] at h; exact h
    refine lv_pop hx hb dX0_compare_37 rfl ?_
    refine lv_iconst (v := 2) hx hb dX0_compare_38 (by decide) ?_
    exact W.iret hx hb hr (fun t ht hW => ⟨⟨_, fl_34, rfl, hE.symm, by rw [ht]; exact hP, va_K.moved hW.alike hK⟩, hS.F ht⟩) hS.2.2 dX0_compare_39
  have j_14 : ∀ (y1 : Int32) (y2 : Int32) (vfl : Int32) (H : Heap) (locs : List Loc) (ls : Array Slot), va_P D vwCl (bw0 h0 mo vfl) H → va_S (aw0 h0) s.heap H locs → lv_has ls 5 [(0, .ref h0), (1, .int y1), (2, .int y2)] → fX0_compare fl x1 x2 = fX0_compare_k14 y1 y2 vfl → W p l e (headSpec wsX0_compare { frames := 2, cells := 0, slots := 0, locals := 42 }).room s m ([.ref h0, .int x1, .int x2] : List Value).toArray below meth c H locs 0 0 (MQ below (va_Qi (fun (r : Int32) (u : Int32) => (r, u) = fX0_compare fl x1 x2) (fun u t => w0 D h0 mo u t) (aw0 h0)) ([.ref h0, .int x1, .int x2] : List Value).toArray s 0 0 (aw0 h0)) (F0 m 14 ls []) := by
    intro y1 y2 vfl H locs ls hP hS hl hE
    refine lv_aload_n hx hb dX0_compare_14 rfl (lv_at hl 0 rfl) ?_
    refine lv_iload_n hx hb dX0_compare_15 rfl (lv_at hl 1 rfl) ?_
    refine sc_i (W.runS (As := [.int y1]) (rest := [.ref h0]) ⟨hx, hb, hml, hown, hts⟩ (ccX0_isLoud l y1 ) (va_cwS 1 hts gX0_compare_X0_isLoud rfl rfl rfl (by decide +kernel) ⟨Nat.le_of_ble_eq_true rfl, Nat.le_of_ble_eq_true rfl⟩) st_pre rfl rfl hl.1 rfl (lv_room (Nat.le_of_ble_eq_true rfl)) dX0_compare_16 ⟨Nat.zero_le _, Nat.zero_le _⟩) ?_
    refine lv_if_ne (tgt := 29) hx hb dX0_compare_19 (by decide) (fun c_19 => ?_) (fun c_19 => ?_)
    · replace hE := hE.trans (if_neg c_19)
      refine lv_iconst (v := 1) hx hb dX0_compare_29 (by decide) ?_
      refine lv_goto (tgt := 34) hx hb dX0_compare_30 (by decide) ?_
      exact j_34 (1 : Int32) vfl _ _ _ hP hS (lv_sub hl [] rfl) isB_1 hE
    · replace hE := hE.trans (if_pos c_19)
      refine lv_iload_n hx hb dX0_compare_22 rfl (lv_at hl 2 rfl) ?_
      refine sc_i (W.runS (As := [.int y2]) (rest := [.ref h0]) ⟨hx, hb, hml, hown, hts⟩ (ccX0_isLoud l y2 ) (va_cwS 1 hts gX0_compare_X0_isLoud rfl rfl rfl (by decide +kernel) ⟨Nat.le_of_ble_eq_true rfl, Nat.le_of_ble_eq_true rfl⟩) st_pre rfl rfl hl.1 rfl (lv_room (Nat.le_of_ble_eq_true rfl)) dX0_compare_23 ⟨Nat.zero_le _, Nat.zero_le _⟩) ?_
      refine lv_if_eq (tgt := 33) hx hb dX0_compare_26 (by decide) (fun c_26 => ?_) (fun c_26 => ?_)
      · replace hE := hE.trans (if_pos c_26)
        refine lv_iconst (v := 0) hx hb dX0_compare_33 (by decide) ?_
        exact j_34 (0 : Int32) vfl _ _ _ hP hS (lv_sub hl [] rfl) isB_0 hE
      · replace hE := hE.trans (if_neg c_26)
        refine lv_iconst (v := 1) hx hb dX0_compare_29 (by decide) ?_
        refine lv_goto (tgt := 34) hx hb dX0_compare_30 (by decide) ?_
        exact j_34 (1 : Int32) vfl _ _ _ hP hS (lv_sub hl [] rfl) isB_1 hE
  have hE : fX0_compare fl x1 x2 = fX0_compare fl x1 x2 := rfl
  refine lv_iload_n hx hb dX0_compare_0 rfl (lv_at hl 1 rfl) ?_
  refine sc_i (W.runS (As := [.int x1]) (rest := []) ⟨hx, hb, hml, hown, hts⟩ (ccX0_isNoNumber l x1 ) (va_cwS 1 hts gX0_compare_X0_isNoNumber rfl rfl rfl (by decide +kernel) ⟨Nat.le_of_ble_eq_true rfl, Nat.le_of_ble_eq_true rfl⟩) st_pre rfl rfl hl.1 rfl (lv_room (Nat.le_of_ble_eq_true rfl)) dX0_compare_1 ⟨Nat.zero_le _, Nat.zero_le _⟩) ?_
  refine lv_if_ne (tgt := 14) hx hb dX0_compare_4 (by decide) (fun c_4 => ?_) (fun c_4 => ?_)
  · replace hE := hE.trans (if_neg c_4)
    exact j_14 x1 x2 fl _ _ _ hP hS (lv_sub hl [0, 1, 2] rfl)  hE
  · replace hE := hE.trans (if_pos c_4)
    refine lv_iload_n hx hb dX0_compare_7 rfl (lv_at hl 2 rfl) ?_
    refine sc_i (W.runS (As := [.int x2]) (rest := []) ⟨hx, hb, hml, hown, hts⟩ (ccX0_isNoNumber l x2 ) (va_cwS 1 hts gX0_compare_X0_isNoNumber rfl rfl rfl (by decide +kernel) ⟨Nat.le_of_ble_eq_true rfl, Nat.le_of_ble_eq_true rfl⟩) st_pre rfl rfl hl.1 rfl (lv_room (Nat.le_of_ble_eq_true rfl)) dX0_compare_8 ⟨Nat.zero_le _, Nat.zero_le _⟩) ?_
    refine lv_if_eq (tgt := 40) hx hb dX0_compare_11 (by decide) (fun c_11 => ?_) (fun c_11 => ?_)
    · replace hE := hE.trans (if_pos c_11)
      refine lv_iload_n hx hb dX0_compare_40 rfl (lv_at hl 1 rfl) ?_
      refine sc_i (W.runS (As := [.int x1]) (rest := []) ⟨hx, hb, hml, hown, hts⟩ (ccX0_place l x1 ) (va_cwS 1 hts gX0_compare_X0_place rfl rfl rfl (by decide +kernel) ⟨Nat.le_of_ble_eq_true rfl, Nat.le_of_ble_eq_true rfl⟩) st_pre rfl rfl hl.1 rfl (lv_room (Nat.le_of_ble_eq_true rfl)) dX0_compare_41 ⟨Nat.zero_le _, Nat.zero_le _⟩) ?_
      refine lv_topi (fun x3_44 e_44 => ?_)
      refine lv_istore_n (lv' := [(3, .int x3_44), (0, .ref h0), (1, .int x1), (2, .int x2)]) hx hb dX0_compare_44 rfl hl (by decide) rfl (fun ls hl => ?_)
      replace hE : fX0_compare fl x1 x2 = fX0_compare_k45 x2 x3_44 fl := by rw [e_44]; exact hE
      refine lv_iload_n hx hb dX0_compare_45 rfl (lv_at hl 3 rfl) ?_
      refine sc_i (W.runS (As := [.int x2]) (rest := []) ⟨hx, hb, hml, hown, hts⟩ (ccX0_place l x2 ) (va_cwS 1 hts gX0_compare_X0_place rfl rfl rfl (by decide +kernel) ⟨Nat.le_of_ble_eq_true rfl, Nat.le_of_ble_eq_true rfl⟩) st_pre rfl rfl hl.1 rfl (lv_room (Nat.le_of_ble_eq_true rfl)) dX0_compare_46 ⟨Nat.zero_le _, Nat.zero_le _⟩) ?_
      refine lv_topi (fun x4_49 e_49 => ?_)
      refine lv_istore (lv' := [(4, .int x4_49), (3, .int x3_44), (0, .ref h0), (1, .int x1), (2, .int x2)]) hx hb dX0_compare_49 hl (by decide) rfl (fun ls hl => ?_)
      replace hE : fX0_compare fl x1 x2 = fX0_compare_k51 x3_44 x4_49 fl := by rw [e_49]; exact hE
      refine lv_iload_n hx hb dX0_compare_51 rfl (lv_at hl 1 rfl) ?_
      refine lv_iload hx hb dX0_compare_52 (lv_at hl 0 rfl) ?_
      refine lv_icmp_ne (tgt := 59) hx hb dX0_compare_54 (by decide) (fun c_54 => ?_) (fun c_54 => ?_)
      · replace hE := hE.trans (if_neg c_54)
        refine lv_iload_n hx hb dX0_compare_59 rfl (lv_at hl 1 rfl) ?_
        refine lv_iload hx hb dX0_compare_60 (lv_at hl 0 rfl) ?_
        refine lv_icmp_ge (tgt := 69) hx hb dX0_compare_62 (by decide) (fun c_62 => ?_) (fun c_62 => ?_)
        · replace hE := hE.trans (if_pos c_62)
          refine lv_iconst (v := 1) hx hb dX0_compare_69 (by decide) ?_
          exact W.iret hx hb hr (fun t ht hW => ⟨⟨_, fl, rfl, hE.symm, by rw [ht]; exact hP, va_K.moved hW.alike hK⟩, hS.F ht⟩) hS.2.2 dX0_compare_70
        · replace hE := hE.trans (if_neg c_62)
          refine lv_iconst (v := -1) hx hb dX0_compare_65 (by decide) ?_
          refine lv_goto (tgt := 70) hx hb dX0_compare_66 (by decide) ?_
          exact W.iret hx hb hr (fun t ht hW => ⟨⟨_, fl, rfl, hE.symm, by rw [ht]; exact hP, va_K.moved hW.alike hK⟩, hS.F ht⟩) hS.2.2 dX0_compare_70
      · replace hE := hE.trans (if_pos c_54)
        refine lv_iconst (v := 0) hx hb dX0_compare_57 (by decide) ?_
        exact W.iret hx hb hr (fun t ht hW => ⟨⟨_, fl, rfl, hE.symm, by rw [ht]; exact hP, va_K.moved hW.alike hK⟩, hS.F ht⟩) hS.2.2 dX0_compare_58
    · replace hE := hE.trans (if_neg c_11)
      exact j_14 x1 x2 fl _ _ _ hP hS (lv_sub hl [0, 1, 2] rfl)  hE
