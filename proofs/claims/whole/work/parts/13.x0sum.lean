/-! X0_finiteSum -/
def fX0_finiteSum_k187 (z0 : Int32) (mo : Int32) (vfl : Int32) : Int32 × Int32 := (z0, vfl)
def fX0_finiteSum_k177 (y7 : Int32) (y12 : Int64) (z1 : Int32) (mo : Int32) (vfl : Int32) : Int32 × Int32 := fX0_finiteSum_k187 ((fX0_rounded mo vfl z1 ((if 0 < y12 then y12 else -y12)) y7).1) mo ((fX0_rounded mo vfl z1 ((if 0 < y12 then y12 else -y12)) y7).2)
def fX0_finiteSum_k151 (y7 : Int32) (y12 : Int64) (mo : Int32) (vfl : Int32) : Int32 × Int32 := (if ((lg_cmp y12 (0 : Int64))) = 0 then ((fX0_zeroOfMode mo), vfl) else (if 0 ≤ ((lg_cmp y12 (0 : Int64))) then fX0_finiteSum_k177 y7 y12 (0 : Int32) mo vfl else fX0_finiteSum_k177 y7 y12 (-2147483648 : Int32) mo vfl))
def fX0_finiteSum_k148 (y7 : Int32) (z0 : Int64) (z1 : Int64) (mo : Int32) (vfl : Int32) : Int32 × Int32 := fX0_finiteSum_k151 y7 ((z0 + z1)) mo vfl
def fX0_finiteSum_k132 (y5 : Int32) (y7 : Int32) (y10 : Int64) (z0 : Int64) (mo : Int32) (vfl : Int32) : Int32 × Int32 := (if ((fX0_isNegative y5)) = 0 then fX0_finiteSum_k148 y7 z0 y10 mo vfl else fX0_finiteSum_k148 y7 z0 ((-y10)) mo vfl)
def fX0_finiteSum_k120 (y1 : Int32) (y5 : Int32) (y7 : Int32) (y8 : Int64) (y10 : Int64) (mo : Int32) (vfl : Int32) : Int32 × Int32 := (if y1 = 0 then fX0_finiteSum_k132 y5 y7 y10 y8 mo vfl else fX0_finiteSum_k132 y5 y7 y10 ((-y8)) mo vfl)
def fX0_finiteSum_k102 (y1 : Int32) (y5 : Int32) (y7 : Int32) (y8 : Int64) (mo : Int32) (vfl : Int32) : Int32 × Int32 := fX0_finiteSum_k120 y1 y5 y7 y8 ((fX0_aligned ((fX0_magnitudeOf y5)) ((((fX0_unitOf y5)) - y7)))) mo vfl
def fX0_finiteSum_k91 (y1 : Int32) (y2 : Int64) (y4 : Int32) (y5 : Int32) (y7 : Int32) (mo : Int32) (vfl : Int32) : Int32 × Int32 := fX0_finiteSum_k102 y1 y5 y7 ((fX0_aligned y2 ((y4 - y7)))) mo vfl
def fX0_finiteSum_k84 (y1 : Int32) (y2 : Int64) (y4 : Int32) (y5 : Int32) (y6 : Int32) (mo : Int32) (vfl : Int32) : Int32 × Int32 := fX0_finiteSum_k91 y1 y2 y4 y5 ((y6 - (61 : Int32))) mo vfl
def fX0_finiteSum_k57 (z0 : Int32) (mo : Int32) (vfl : Int32) : Int32 × Int32 := (z0, vfl)
def fX0_finiteSum_k32 (y1 : Int32) (y2 : Int64) (y4 : Int32) (y5 : Int32) (mo : Int32) (vfl : Int32) : Int32 × Int32 := (if ((lg_cmp y2 (0 : Int64))) = 0 then (y5, vfl) else (if ((fX0_isZero y5)) = 0 then fX0_finiteSum_k84 y1 y2 y4 y5 ((if ((y4 + ((fX0_bitLength y2)))) < ((((fX0_unitOf y5)) + ((fX0_bitLength ((fX0_magnitudeOf y5)))))) then ((((fX0_unitOf y5)) + ((fX0_bitLength ((fX0_magnitudeOf y5)))))) else ((y4 + ((fX0_bitLength y2)))))) mo vfl else fX0_finiteSum_k57 ((fX0_rounded mo vfl y1 y2 y4).1) mo ((fX0_rounded mo vfl y1 y2 y4).2)))
def fX0_finiteSum (mo : Int32) (fl : Int32) (x1 : Int32) (x2 : Int64) (x4 : Int32) (x5 : Int32) : Int32 × Int32 := (if ((lg_cmp x2 (0 : Int64))) = 0 then (if ((fX0_isZero x5)) = 0 then fX0_finiteSum_k32 x1 x2 x4 x5 mo fl else (if x1 = ((fX0_signOf x5)) then (x1, fl) else ((fX0_zeroOfMode mo), fl))) else fX0_finiteSum_k32 x1 x2 x4 x5 mo fl)
set_option maxHeartbeats 4000000 in
set_option maxRecDepth 100000 in
theorem ccX0_finiteSum (l : Launch) (D : va_G) (h0 : Nat) (mo fl : Int32) (x1 : Int32) (x2 : Int64) (x4 : Int32) (x5 : Int32)  : Met l yX0_finiteSum wsX0_finiteSum { frames := 5, cells := 0, slots := 0, locals := 116 } (va_Pc [.ref h0, .int x1, .long x2, .int x4, .int x5] (w0 D h0 mo fl)) (va_Qi (fun (r : Int32) (u : Int32) => (r, u) = fX0_finiteSum mo fl x1 x2 x4 x5) (fun u t => w0 D h0 mo u t) (aw0 h0)) 0 0 (aw0 h0) := by
  refine Met.ofW (cc := cX0_finiteSum) (maxL := 14) (ret := (some .int)) (by decide) rfl ?_
  intro p e s m args below meth c s₁ B hml hv
  obtain ⟨rfl, hP, hK⟩ := hv
  have hx := B.exec
  have hb := B.bytes
  have hr := B.returns
  have hts := atoms_spec (ws := wsX0_finiteSum) B.pre
  have hown : s.vm.findClass RX0 = some m.cls := findClass_of_methodNamed B.named
  have hlocks := B.notSynchronized
  have hS : va_S (aw0 h0) s.heap s.heap [] := va_S.rf
  have hP : va_P D vwCl (bw0 h0 mo fl) s.heap := hP
  have hl := lv_entry ([.ref h0, .int x1, .long x2, .int x4, .int x5]) (n := 14) (Nat.le_of_ble_eq_true rfl)
  rw [lg_entry_eq]
  generalize (lg_sl ([.ref h0, .int x1, .long x2, .int x4, .int x5]) ++ List.replicate (14 - (lg_sl ([.ref h0, .int x1, .long x2, .int x4, .int x5])).length) Slot.unset).toArray = ls at hl ⊢
  have hl : lv_has ls 14 [(0, .ref h0), (1, .int x1), (2, .long x2), (4, .int x4), (5, .int x5)] := hl
  have j_177 : ∀ (y7 : Int32) (y12 : Int64) (z1 : Int32) (vfl : Int32) (H : Heap) (locs : List Loc) (ls : Array Slot), va_P D vwCl (bw0 h0 mo vfl) H → va_S (aw0 h0) s.heap H locs → lv_has ls 14 [(7, .int y7), (12, .long y12)] → fX0_finiteSum mo fl x1 x2 x4 x5 = fX0_finiteSum_k177 y7 y12 z1 mo vfl → W p l e (headSpec wsX0_finiteSum { frames := 5, cells := 0, slots := 0, locals := 116 }).room s m ([.ref h0, .int x1, .long x2, .int x4, .int x5] : List Value).toArray below meth c H locs 0 0 (MQ below (va_Qi (fun (r : Int32) (u : Int32) => (r, u) = fX0_finiteSum mo fl x1 x2 x4 x5) (fun u t => w0 D h0 mo u t) (aw0 h0)) ([.ref h0, .int x1, .long x2, .int x4, .int x5] : List Value).toArray s 0 0 (aw0 h0)) (F0 m 177 ls [.int z1, .ref h0]) := by
    intro y7 y12 z1 vfl H locs ls hP hS hl hE
    refine lv_lload hx hb dX0_finiteSum_177 (lv_at hl 1 rfl) ?_
    refine va_mabs_long hx hb (hml.trans hl.1.symm) hown (hts (.methodLink RX0 109 Lib.MathLoose.abs_long.x) (by decide +kernel)) (hts (.static Lib.MathLoose.abs_long.x) (by decide +kernel)) (hts (.initialized "java/lang/Math") (by decide +kernel)) (hts (.code Lib.MathLoose.abs_long.x Lib.MathLoose.abs_long.code 2 (some .long)) (by decide +kernel)) (Nat.le_of_ble_eq_true rfl) (Nat.le_of_ble_eq_true rfl) (Nat.zero_le _) (Nat.zero_le _) dX0_finiteSum_179 ?_
    refine lv_iload hx hb dX0_finiteSum_182 (lv_at hl 0 rfl) ?_
    refine k0_calli (va_runV (As := [.int z1, .long (if 0 < y12 then y12 else -y12), .int y7]) (rest := []) ⟨hx, hb, hml, hown, hts⟩ (ccX0_rounded l D h0 mo vfl z1 ((if 0 < y12 then y12 else -y12)) y7 ) (cwV 3 hts gX0_finiteSum_X0_rounded rfl rfl rfl (by decide +kernel) ⟨Nat.le_of_ble_eq_true rfl, Nat.le_of_ble_eq_true rfl⟩) (w0_pre hK hP) rfl rfl hl.1 rfl (lv_room (Nat.le_of_ble_eq_true rfl)) dX0_finiteSum_184 ⟨Nat.zero_le _, Nat.zero_le _⟩) hS (fun r_184 u H locs hw hP hS => ?_)
    obtain ⟨fl_184, rfl⟩ : ∃ z, z = u := ⟨_, rfl⟩
    have hP : va_P D vwCl (bw0 h0 mo fl_184) H := hP
    replace hE : fX0_finiteSum mo fl x1 x2 x4 x5 = fX0_finiteSum_k187 r_184 mo fl_184 := by have h : fX0_finiteSum mo fl x1 x2 x4 x5 = fX0_finiteSum_k187 ((fX0_rounded mo vfl z1 ((if 0 < y12 then y12 else -y12)) y7).1) mo ((fX0_rounded mo vfl z1 ((if 0 < y12 then y12 else -y12)) y7).2) := hE; rw [← hw] at h; exact h
    exact W.iret hx hb hr (fun t ht hW => ⟨⟨_, fl_184, rfl, hE.symm, by rw [ht]; exact hP, va_K.moved hW.alike hK⟩, hS.F ht⟩) hS.2.2 dX0_finiteSum_187
  have j_148 : ∀ (y7 : Int32) (z0 : Int64) (z1 : Int64) (vfl : Int32) (H : Heap) (locs : List Loc) (ls : Array Slot), va_P D vwCl (bw0 h0 mo vfl) H → va_S (aw0 h0) s.heap H locs → lv_has ls 14 [(0, .ref h0), (7, .int y7)] → fX0_finiteSum mo fl x1 x2 x4 x5 = fX0_finiteSum_k148 y7 z0 z1 mo vfl → W p l e (headSpec wsX0_finiteSum { frames := 5, cells := 0, slots := 0, locals := 116 }).room s m ([.ref h0, .int x1, .long x2, .int x4, .int x5] : List Value).toArray below meth c H locs 0 0 (MQ below (va_Qi (fun (r : Int32) (u : Int32) => (r, u) = fX0_finiteSum mo fl x1 x2 x4 x5) (fun u t => w0 D h0 mo u t) (aw0 h0)) ([.ref h0, .int x1, .long x2, .int x4, .int x5] : List Value).toArray s 0 0 (aw0 h0)) (F0 m 148 ls [.long z1, .long z0]) := by
    intro y7 z0 z1 vfl H locs ls hP hS hl hE
    refine lv_ladd hx hb dX0_finiteSum_148 ?_
    refine lv_topl (fun x12_149 e_149 => ?_)
    refine lv_lstore (lv' := [(12, .long x12_149), (0, .ref h0), (7, .int y7)]) hx hb dX0_finiteSum_149 hl (by decide) rfl (fun ls hl => ?_)
    replace hE : fX0_finiteSum mo fl x1 x2 x4 x5 = fX0_finiteSum_k151 y7 x12_149 mo vfl := by rw [e_149]; exact hE
    refine lv_lload hx hb dX0_finiteSum_151 (lv_at hl 0 rfl) ?_
    refine lv_lconst (v := 0) hx hb dX0_finiteSum_153 (by decide) ?_
    refine W.lcmp hx hb dX0_finiteSum_154 ?_
    refine lv_if_ne (tgt := 163) hx hb dX0_finiteSum_155 (by decide) (fun c_155 => ?_) (fun c_155 => ?_)
    · replace hE := hE.trans (if_neg c_155)
      refine lv_aload_n hx hb dX0_finiteSum_163 rfl (lv_at hl 1 rfl) ?_
      refine lv_lload hx hb dX0_finiteSum_164 (lv_at hl 0 rfl) ?_
      refine lv_lconst (v := 0) hx hb dX0_finiteSum_166 (by decide) ?_
      refine W.lcmp hx hb dX0_finiteSum_167 ?_
      refine lv_if_ge (tgt := 176) hx hb dX0_finiteSum_168 (by decide) (fun c_168 => ?_) (fun c_168 => ?_)
      · replace hE := hE.trans (if_pos c_168)
        refine lv_iconst (v := 0) hx hb dX0_finiteSum_176 (by decide) ?_
        exact j_177 y7 x12_149 (0 : Int32) vfl _ _ _ hP hS (lv_sub hl [2, 0] rfl)  hE
      · replace hE := hE.trans (if_neg c_168)
        refine lv_ldc hx hb hown (hts (.constant RX0 21 (-2147483648)) (by decide +kernel)) dX0_finiteSum_171 ?_
        refine lv_goto (tgt := 177) hx hb dX0_finiteSum_173 (by decide) ?_
        exact j_177 y7 x12_149 (-2147483648 : Int32) vfl _ _ _ hP hS (lv_sub hl [2, 0] rfl)  hE
    · replace hE := hE.trans (if_pos c_155)
      refine lv_aload_n hx hb dX0_finiteSum_158 rfl (lv_at hl 1 rfl) ?_
      refine sc_i (W.runV (As := []) (rest := []) ⟨hx, hb, hml, hown, hts⟩ (ccX0_zeroOfMode l D h0 mo vfl  ) (cwV 0 hts gX0_finiteSum_X0_zeroOfMode rfl rfl rfl (by decide +kernel) ⟨Nat.le_of_ble_eq_true rfl, Nat.le_of_ble_eq_true rfl⟩) (w0_pre hK hP) rfl rfl hl.1 rfl (lv_room (Nat.le_of_ble_eq_true rfl)) dX0_finiteSum_159 ⟨Nat.zero_le _, Nat.zero_le _⟩) ?_
      exact W.iret hx hb hr (fun t ht hW => ⟨⟨_, vfl, rfl, hE.symm, by rw [ht]; exact hP, va_K.moved hW.alike hK⟩, hS.F ht⟩) hS.2.2 dX0_finiteSum_162
  have j_132 : ∀ (y5 : Int32) (y7 : Int32) (y10 : Int64) (z0 : Int64) (vfl : Int32) (H : Heap) (locs : List Loc) (ls : Array Slot), va_P D vwCl (bw0 h0 mo vfl) H → va_S (aw0 h0) s.heap H locs → lv_has ls 14 [(0, .ref h0), (5, .int y5), (7, .int y7), (10, .long y10)] → fX0_finiteSum mo fl x1 x2 x4 x5 = fX0_finiteSum_k132 y5 y7 y10 z0 mo vfl → W p l e (headSpec wsX0_finiteSum { frames := 5, cells := 0, slots := 0, locals := 116 }).room s m ([.ref h0, .int x1, .long x2, .int x4, .int x5] : List Value).toArray below meth c H locs 0 0 (MQ below (va_Qi (fun (r : Int32) (u : Int32) => (r, u) = fX0_finiteSum mo fl x1 x2 x4 x5) (fun u t => w0 D h0 mo u t) (aw0 h0)) ([.ref h0, .int x1, .long x2, .int x4, .int x5] : List Value).toArray s 0 0 (aw0 h0)) (F0 m 132 ls [.long z0]) := by
    intro y5 y7 y10 z0 vfl H locs ls hP hS hl hE
    refine lv_iload hx hb dX0_finiteSum_132 (lv_at hl 1 rfl) ?_
    refine sc_i (W.runS (As := [.int y5]) (rest := [.long z0]) ⟨hx, hb, hml, hown, hts⟩ (ccX0_isNegative l y5 ) (va_cwS 1 hts gX0_finiteSum_X0_isNegative rfl rfl rfl (by decide +kernel) ⟨Nat.le_of_ble_eq_true rfl, Nat.le_of_ble_eq_true rfl⟩) st_pre rfl rfl hl.1 rfl (lv_room (Nat.le_of_ble_eq_true rfl)) dX0_finiteSum_134 ⟨Nat.zero_le _, Nat.zero_le _⟩) ?_
    refine lv_if_eq (tgt := 146) hx hb dX0_finiteSum_137 (by decide) (fun c_137 => ?_) (fun c_137 => ?_)
    · replace hE := hE.trans (if_pos c_137)
      refine lv_lload hx hb dX0_finiteSum_146 (lv_at hl 3 rfl) ?_
      exact j_148 y7 z0 y10 vfl _ _ _ hP hS (lv_sub hl [0, 2] rfl)  hE
    · replace hE := hE.trans (if_neg c_137)
      refine lv_lload hx hb dX0_finiteSum_140 (lv_at hl 3 rfl) ?_
      refine lv_lneg hx hb dX0_finiteSum_142 ?_
      refine lv_goto (tgt := 148) hx hb dX0_finiteSum_143 (by decide) ?_
      exact j_148 y7 z0 ((-y10)) vfl _ _ _ hP hS (lv_sub hl [0, 2] rfl)  hE
  have j_32 : ∀ (y1 : Int32) (y2 : Int64) (y4 : Int32) (y5 : Int32) (vfl : Int32) (H : Heap) (locs : List Loc) (ls : Array Slot), va_P D vwCl (bw0 h0 mo vfl) H → va_S (aw0 h0) s.heap H locs → lv_has ls 14 [(0, .ref h0), (1, .int y1), (2, .long y2), (4, .int y4), (5, .int y5)] → fX0_finiteSum mo fl x1 x2 x4 x5 = fX0_finiteSum_k32 y1 y2 y4 y5 mo vfl → W p l e (headSpec wsX0_finiteSum { frames := 5, cells := 0, slots := 0, locals := 116 }).room s m ([.ref h0, .int x1, .long x2, .int x4, .int x5] : List Value).toArray below meth c H locs 0 0 (MQ below (va_Qi (fun (r : Int32) (u : Int32) => (r, u) = fX0_finiteSum mo fl x1 x2 x4 x5) (fun u t => w0 D h0 mo u t) (aw0 h0)) ([.ref h0, .int x1, .long x2, .int x4, .int x5] : List Value).toArray s 0 0 (aw0 h0)) (F0 m 32 ls []) := by
    intro y1 y2 y4 y5 vfl H locs ls hP hS hl hE
    refine lv_lload_n hx hb dX0_finiteSum_32 rfl (lv_at hl 2 rfl) ?_
    refine lv_lconst (v := 0) hx hb dX0_finiteSum_33 (by decide) ?_
    refine W.lcmp hx hb dX0_finiteSum_34 ?_
    refine lv_if_ne (tgt := 41) hx hb dX0_finiteSum_35 (by decide) (fun c_35 => ?_) (fun c_35 => ?_)
    · replace hE := hE.trans (if_neg c_35)
      refine lv_iload hx hb dX0_finiteSum_41 (lv_at hl 4 rfl) ?_
      refine sc_i (W.runS (As := [.int y5]) (rest := []) ⟨hx, hb, hml, hown, hts⟩ (ccX0_isZero l y5 ) (va_cwS 1 hts gX0_finiteSum_X0_isZero rfl rfl rfl (by decide +kernel) ⟨Nat.le_of_ble_eq_true rfl, Nat.le_of_ble_eq_true rfl⟩) st_pre rfl rfl hl.1 rfl (lv_room (Nat.le_of_ble_eq_true rfl)) dX0_finiteSum_43 ⟨Nat.zero_le _, Nat.zero_le _⟩) ?_
      refine lv_if_eq (tgt := 58) hx hb dX0_finiteSum_46 (by decide) (fun c_46 => ?_) (fun c_46 => ?_)
      · replace hE := hE.trans (if_pos c_46)
        refine lv_iload hx hb dX0_finiteSum_58 (lv_at hl 3 rfl) ?_
        refine lv_lload_n hx hb dX0_finiteSum_60 rfl (lv_at hl 2 rfl) ?_
        refine sc_i (W.runS (As := [.long y2]) (rest := [.int y4]) ⟨hx, hb, hml, hown, hts⟩ (ccX0_bitLength l y2 ) (va_cwS 1 hts gX0_finiteSum_X0_bitLength rfl rfl rfl (by decide +kernel) ⟨Nat.le_of_ble_eq_true rfl, Nat.le_of_ble_eq_true rfl⟩) st_pre rfl rfl hl.1 rfl (lv_room (Nat.le_of_ble_eq_true rfl)) dX0_finiteSum_61 ⟨Nat.zero_le _, Nat.zero_le _⟩) ?_
        refine lv_iadd hx hb dX0_finiteSum_64 ?_
        refine lv_iload hx hb dX0_finiteSum_65 (lv_at hl 4 rfl) ?_
        refine sc_i (W.runS (As := [.int y5]) (rest := [.int (y4 + ((fX0_bitLength y2)))]) ⟨hx, hb, hml, hown, hts⟩ (ccX0_unitOf l y5 ) (va_cwS 1 hts gX0_finiteSum_X0_unitOf rfl rfl rfl (by decide +kernel) ⟨Nat.le_of_ble_eq_true rfl, Nat.le_of_ble_eq_true rfl⟩) st_pre rfl rfl hl.1 rfl (lv_room (Nat.le_of_ble_eq_true rfl)) dX0_finiteSum_67 ⟨Nat.zero_le _, Nat.zero_le _⟩) ?_
        refine lv_iload hx hb dX0_finiteSum_70 (lv_at hl 4 rfl) ?_
        refine sc_l (W.runS (As := [.int y5]) (rest := [.int (fX0_unitOf y5), .int (y4 + ((fX0_bitLength y2)))]) ⟨hx, hb, hml, hown, hts⟩ (ccX0_magnitudeOf l y5 ) (va_cwS 1 hts gX0_finiteSum_X0_magnitudeOf rfl rfl rfl (by decide +kernel) ⟨Nat.le_of_ble_eq_true rfl, Nat.le_of_ble_eq_true rfl⟩) st_pre rfl rfl hl.1 rfl (lv_room (Nat.le_of_ble_eq_true rfl)) dX0_finiteSum_72 ⟨Nat.zero_le _, Nat.zero_le _⟩) ?_
        refine sc_i (W.runS (As := [.long (fX0_magnitudeOf y5)]) (rest := [.int (fX0_unitOf y5), .int (y4 + ((fX0_bitLength y2)))]) ⟨hx, hb, hml, hown, hts⟩ (ccX0_bitLength l ((fX0_magnitudeOf y5)) ) (va_cwS 1 hts gX0_finiteSum_X0_bitLength rfl rfl rfl (by decide +kernel) ⟨Nat.le_of_ble_eq_true rfl, Nat.le_of_ble_eq_true rfl⟩) st_pre rfl rfl hl.1 rfl (lv_room (Nat.le_of_ble_eq_true rfl)) dX0_finiteSum_75 ⟨Nat.zero_le _, Nat.zero_le _⟩) ?_
        refine lv_iadd hx hb dX0_finiteSum_78 ?_
        refine va_mmax hx hb (hml.trans hl.1.symm) hown (hts (.methodLink RX0 88 Lib.Math.max.name) (by decide +kernel)) (hts (.static Lib.Math.max.name) (by decide +kernel)) (hts (.initialized "java/lang/Math") (by decide +kernel)) (hts (.code Lib.Math.max.name Lib.Math.max.code 2 (some .int)) (by decide +kernel)) (Nat.le_of_ble_eq_true rfl) (Nat.le_of_ble_eq_true rfl) (Nat.zero_le _) (Nat.zero_le _) dX0_finiteSum_79 ?_
        refine lv_topi (fun x6_82 e_82 => ?_)
        refine lv_istore (lv' := [(6, .int x6_82), (0, .ref h0), (1, .int y1), (2, .long y2), (4, .int y4), (5, .int y5)]) hx hb dX0_finiteSum_82 hl (by decide) rfl (fun ls hl => ?_)
        replace hE : fX0_finiteSum mo fl x1 x2 x4 x5 = fX0_finiteSum_k84 y1 y2 y4 y5 x6_82 mo vfl := by rw [e_82]; exact hE
        refine lv_iload hx hb dX0_finiteSum_84 (lv_at hl 0 rfl) ?_
        refine lv_bipush (v := 61) hx hb dX0_finiteSum_86 (by decide) ?_
        refine lv_isub hx hb dX0_finiteSum_88 ?_
        refine lv_topi (fun x7_89 e_89 => ?_)
        refine lv_istore (lv' := [(7, .int x7_89), (6, .int x6_82), (0, .ref h0), (1, .int y1), (2, .long y2), (4, .int y4), (5, .int y5)]) hx hb dX0_finiteSum_89 hl (by decide) rfl (fun ls hl => ?_)
        replace hE : fX0_finiteSum mo fl x1 x2 x4 x5 = fX0_finiteSum_k91 y1 y2 y4 y5 x7_89 mo vfl := by rw [e_89]; exact hE
        refine lv_lload_n hx hb dX0_finiteSum_91 rfl (lv_at hl 4 rfl) ?_
        refine lv_iload hx hb dX0_finiteSum_92 (lv_at hl 5 rfl) ?_
        refine lv_iload hx hb dX0_finiteSum_94 (lv_at hl 0 rfl) ?_
        refine lv_isub hx hb dX0_finiteSum_96 ?_
        refine sc_l (W.runS (As := [.long y2, .int (y4 - x7_89)]) (rest := []) ⟨hx, hb, hml, hown, hts⟩ (ccX0_aligned l y2 ((y4 - x7_89)) ) (va_cwS 2 hts gX0_finiteSum_X0_aligned rfl rfl rfl (by decide +kernel) ⟨Nat.le_of_ble_eq_true rfl, Nat.le_of_ble_eq_true rfl⟩) st_pre rfl rfl hl.1 rfl (lv_room (Nat.le_of_ble_eq_true rfl)) dX0_finiteSum_97 ⟨Nat.zero_le _, Nat.zero_le _⟩) ?_
        refine lv_topl (fun x8_100 e_100 => ?_)
        refine lv_lstore (lv' := [(8, .long x8_100), (7, .int x7_89), (6, .int x6_82), (0, .ref h0), (1, .int y1), (2, .long y2), (4, .int y4), (5, .int y5)]) hx hb dX0_finiteSum_100 hl (by decide) rfl (fun ls hl => ?_)
        replace hE : fX0_finiteSum mo fl x1 x2 x4 x5 = fX0_finiteSum_k102 y1 y5 x7_89 x8_100 mo vfl := by rw [e_100]; exact hE
        refine lv_iload hx hb dX0_finiteSum_102 (lv_at hl 7 rfl) ?_
        refine sc_l (W.runS (As := [.int y5]) (rest := []) ⟨hx, hb, hml, hown, hts⟩ (ccX0_magnitudeOf l y5 ) (va_cwS 1 hts gX0_finiteSum_X0_magnitudeOf rfl rfl rfl (by decide +kernel) ⟨Nat.le_of_ble_eq_true rfl, Nat.le_of_ble_eq_true rfl⟩) st_pre rfl rfl hl.1 rfl (lv_room (Nat.le_of_ble_eq_true rfl)) dX0_finiteSum_104 ⟨Nat.zero_le _, Nat.zero_le _⟩) ?_
        refine lv_iload hx hb dX0_finiteSum_107 (lv_at hl 7 rfl) ?_
        refine sc_i (W.runS (As := [.int y5]) (rest := [.long (fX0_magnitudeOf y5)]) ⟨hx, hb, hml, hown, hts⟩ (ccX0_unitOf l y5 ) (va_cwS 1 hts gX0_finiteSum_X0_unitOf rfl rfl rfl (by decide +kernel) ⟨Nat.le_of_ble_eq_true rfl, Nat.le_of_ble_eq_true rfl⟩) st_pre rfl rfl hl.1 rfl (lv_room (Nat.le_of_ble_eq_true rfl)) dX0_finiteSum_109 ⟨Nat.zero_le _, Nat.zero_le _⟩) ?_
        refine lv_iload hx hb dX0_finiteSum_112 (lv_at hl 1 rfl) ?_
        refine lv_isub hx hb dX0_finiteSum_114 ?_
        refine sc_l (W.runS (As := [.long (fX0_magnitudeOf y5), .int (((fX0_unitOf y5)) - x7_89)]) (rest := []) ⟨hx, hb, hml, hown, hts⟩ (ccX0_aligned l ((fX0_magnitudeOf y5)) ((((fX0_unitOf y5)) - x7_89)) ) (va_cwS 2 hts gX0_finiteSum_X0_aligned rfl rfl rfl (by decide +kernel) ⟨Nat.le_of_ble_eq_true rfl, Nat.le_of_ble_eq_true rfl⟩) st_pre rfl rfl hl.1 rfl (lv_room (Nat.le_of_ble_eq_true rfl)) dX0_finiteSum_115 ⟨Nat.zero_le _, Nat.zero_le _⟩) ?_
        refine lv_topl (fun x10_118 e_118 => ?_)
        refine lv_lstore (lv' := [(10, .long x10_118), (8, .long x8_100), (7, .int x7_89), (6, .int x6_82), (0, .ref h0), (1, .int y1), (2, .long y2), (4, .int y4), (5, .int y5)]) hx hb dX0_finiteSum_118 hl (by decide) rfl (fun ls hl => ?_)
        replace hE : fX0_finiteSum mo fl x1 x2 x4 x5 = fX0_finiteSum_k120 y1 y5 x7_89 x8_100 x10_118 mo vfl := by rw [e_118]; exact hE
        refine lv_iload_n hx hb dX0_finiteSum_120 rfl (lv_at hl 5 rfl) ?_
        refine lv_if_ne (tgt := 129) hx hb dX0_finiteSum_121 (by decide) (fun c_121 => ?_) (fun c_121 => ?_)
        · replace hE := hE.trans (if_neg c_121)
          refine lv_lload hx hb dX0_finiteSum_129 (lv_at hl 1 rfl) ?_
          refine lv_lneg hx hb dX0_finiteSum_131 ?_
          exact j_132 y5 x7_89 x10_118 ((-x8_100)) vfl _ _ _ hP hS (lv_sub hl [4, 8, 2, 0] rfl)  hE
        · replace hE := hE.trans (if_pos c_121)
          refine lv_lload hx hb dX0_finiteSum_124 (lv_at hl 1 rfl) ?_
          refine lv_goto (tgt := 132) hx hb dX0_finiteSum_126 (by decide) ?_
          exact j_132 y5 x7_89 x10_118 x8_100 vfl _ _ _ hP hS (lv_sub hl [4, 8, 2, 0] rfl)  hE
      · replace hE := hE.trans (if_neg c_46)
        refine lv_aload_n hx hb dX0_finiteSum_49 rfl (lv_at hl 0 rfl) ?_
        refine lv_iload_n hx hb dX0_finiteSum_50 rfl (lv_at hl 1 rfl) ?_
        refine lv_lload_n hx hb dX0_finiteSum_51 rfl (lv_at hl 2 rfl) ?_
        refine lv_iload hx hb dX0_finiteSum_52 (lv_at hl 3 rfl) ?_
        refine k0_calli (va_runV (As := [.int y1, .long y2, .int y4]) (rest := []) ⟨hx, hb, hml, hown, hts⟩ (ccX0_rounded l D h0 mo vfl y1 y2 y4 ) (cwV 3 hts gX0_finiteSum_X0_rounded rfl rfl rfl (by decide +kernel) ⟨Nat.le_of_ble_eq_true rfl, Nat.le_of_ble_eq_true rfl⟩) (w0_pre hK hP) rfl rfl hl.1 rfl (lv_room (Nat.le_of_ble_eq_true rfl)) dX0_finiteSum_54 ⟨Nat.zero_le _, Nat.zero_le _⟩) hS (fun r_54 u H locs hw hP hS => ?_)
        obtain ⟨fl_54, rfl⟩ : ∃ z, z = u := ⟨_, rfl⟩
        have hP : va_P D vwCl (bw0 h0 mo fl_54) H := hP
        replace hE : fX0_finiteSum mo fl x1 x2 x4 x5 = fX0_finiteSum_k57 r_54 mo fl_54 := by have h : fX0_finiteSum mo fl x1 x2 x4 x5 = fX0_finiteSum_k57 ((fX0_rounded mo vfl y1 y2 y4).1) mo ((fX0_rounded mo vfl y1 y2 y4).2) := hE; rw [← hw] at h; exact h
        exact W.iret hx hb hr (fun t ht hW => ⟨⟨_, fl_54, rfl, hE.symm, by rw [ht]; exact hP, va_K.moved hW.alike hK⟩, hS.F ht⟩) hS.2.2 dX0_finiteSum_57
    · replace hE := hE.trans (if_pos c_35)
      refine lv_iload hx hb dX0_finiteSum_38 (lv_at hl 4 rfl) ?_
      exact W.iret hx hb hr (fun t ht hW => ⟨⟨_, vfl, rfl, hE.symm, by rw [ht]; exact hP, va_K.moved hW.alike hK⟩, hS.F ht⟩) hS.2.2 dX0_finiteSum_40
  have hE : fX0_finiteSum mo fl x1 x2 x4 x5 = fX0_finiteSum mo fl x1 x2 x4 x5 := rfl
  refine lv_lload_n hx hb dX0_finiteSum_0 rfl (lv_at hl 2 rfl) ?_
  refine lv_lconst (v := 0) hx hb dX0_finiteSum_1 (by decide) ?_
  refine W.lcmp hx hb dX0_finiteSum_2 ?_
  refine lv_if_ne (tgt := 32) hx hb dX0_finiteSum_3 (by decide) (fun c_3 => ?_) (fun c_3 => ?_)
  · replace hE := hE.trans (if_neg c_3)
    exact j_32 x1 x2 x4 x5 fl _ _ _ hP hS (lv_sub hl [0, 1, 2, 3, 4] rfl)  hE
  · replace hE := hE.trans (if_pos c_3)
    refine lv_iload hx hb dX0_finiteSum_6 (lv_at hl 4 rfl) ?_
    refine sc_i (W.runS (As := [.int x5]) (rest := []) ⟨hx, hb, hml, hown, hts⟩ (ccX0_isZero l x5 ) (va_cwS 1 hts gX0_finiteSum_X0_isZero rfl rfl rfl (by decide +kernel) ⟨Nat.le_of_ble_eq_true rfl, Nat.le_of_ble_eq_true rfl⟩) st_pre rfl rfl hl.1 rfl (lv_room (Nat.le_of_ble_eq_true rfl)) dX0_finiteSum_8 ⟨Nat.zero_le _, Nat.zero_le _⟩) ?_
    refine lv_if_eq (tgt := 32) hx hb dX0_finiteSum_11 (by decide) (fun c_11 => ?_) (fun c_11 => ?_)
    · replace hE := hE.trans (if_pos c_11)
      exact j_32 x1 x2 x4 x5 fl _ _ _ hP hS (lv_sub hl [0, 1, 2, 3, 4] rfl)  hE
    · replace hE := hE.trans (if_neg c_11)
      refine lv_iload_n hx hb dX0_finiteSum_14 rfl (lv_at hl 1 rfl) ?_
      refine lv_iload hx hb dX0_finiteSum_15 (lv_at hl 4 rfl) ?_
      refine sc_i (W.runS (As := [.int x5]) (rest := [.int x1]) ⟨hx, hb, hml, hown, hts⟩ (ccX0_signOf l x5 ) (va_cwS 1 hts gX0_finiteSum_X0_signOf rfl rfl rfl (by decide +kernel) ⟨Nat.le_of_ble_eq_true rfl, Nat.le_of_ble_eq_true rfl⟩) st_pre rfl rfl hl.1 rfl (lv_room (Nat.le_of_ble_eq_true rfl)) dX0_finiteSum_17 ⟨Nat.zero_le _, Nat.zero_le _⟩) ?_
      refine lv_icmp_ne (tgt := 27) hx hb dX0_finiteSum_20 (by decide) (fun c_20 => ?_) (fun c_20 => ?_)
      · replace hE := hE.trans (if_neg c_20)
        refine lv_aload_n hx hb dX0_finiteSum_27 rfl (lv_at hl 0 rfl) ?_
        refine sc_i (W.runV (As := []) (rest := []) ⟨hx, hb, hml, hown, hts⟩ (ccX0_zeroOfMode l D h0 mo fl  ) (cwV 0 hts gX0_finiteSum_X0_zeroOfMode rfl rfl rfl (by decide +kernel) ⟨Nat.le_of_ble_eq_true rfl, Nat.le_of_ble_eq_true rfl⟩) (w0_pre hK hP) rfl rfl hl.1 rfl (lv_room (Nat.le_of_ble_eq_true rfl)) dX0_finiteSum_28 ⟨Nat.zero_le _, Nat.zero_le _⟩) ?_
        exact W.iret hx hb hr (fun t ht hW => ⟨⟨_, fl, rfl, hE.symm, by rw [ht]; exact hP, va_K.moved hW.alike hK⟩, hS.F ht⟩) hS.2.2 dX0_finiteSum_31
      · replace hE := hE.trans (if_pos c_20)
        refine lv_iload_n hx hb dX0_finiteSum_23 rfl (lv_at hl 1 rfl) ?_
        refine lv_goto (tgt := 31) hx hb dX0_finiteSum_24 (by decide) ?_
        exact W.iret hx hb hr (fun t ht hW => ⟨⟨_, fl, rfl, hE.symm, by rw [ht]; exact hP, va_K.moved hW.alike hK⟩, hS.F ht⟩) hS.2.2 dX0_finiteSum_31
/-! X0_productPlus -/
def fX0_productPlus_k162 (z0 : Int32) (mo : Int32) (vfl : Int32) : Int32 × Int32 := (z0, vfl)
def fX0_productPlus_k119 (z0 : Int32) (mo : Int32) (vfl : Int32) : Int32 × Int32 := (z0, vfl)
def fX0_productPlus_k108 (y4 : Int32) (z0 : Int32) (mo : Int32) (vfl : Int32) : Int32 × Int32 := (if z0 = 0 then ((y4 ||| (2139095040 : Int32)), vfl) else fX0_productPlus_k119 ((fX0_invalid vfl).1) mo ((fX0_invalid vfl).2))
def fX0_productPlus_k87 (y3 : Int32) (y4 : Int32) (mo : Int32) (vfl : Int32) : Int32 × Int32 := (if ((fX0_isInfinite y3)) = 0 then fX0_productPlus_k108 y4 (0 : Int32) mo vfl else (if ((fX0_signOf y3)) = y4 then fX0_productPlus_k108 y4 (0 : Int32) mo vfl else fX0_productPlus_k108 y4 (1 : Int32) mo vfl))
def fX0_productPlus_k73 (y1 : Int32) (y2 : Int32) (y3 : Int32) (y4 : Int32) (mo : Int32) (vfl : Int32) : Int32 × Int32 := (if ((fX0_isInfinite y1)) = 0 then (if ((fX0_isInfinite y2)) = 0 then (if ((fX0_isInfinite y3)) = 0 then fX0_productPlus_k162 ((fX0_finiteSum mo vfl y4 ((((fX0_magnitudeOf y1)) * ((fX0_magnitudeOf y2)))) ((((fX0_unitOf y1)) + ((fX0_unitOf y2)))) y3).1) mo ((fX0_finiteSum mo vfl y4 ((((fX0_magnitudeOf y1)) * ((fX0_magnitudeOf y2)))) ((((fX0_unitOf y1)) + ((fX0_unitOf y2)))) y3).2) else (y3, vfl)) else fX0_productPlus_k87 y3 y4 mo vfl) else fX0_productPlus_k87 y3 y4 mo vfl)
def fX0_productPlus_k64 (z0 : Int32) (mo : Int32) (vfl : Int32) : Int32 × Int32 := (z0, vfl)
def fX0_productPlus_k61 (z1 : Int32) (mo : Int32) (vfl : Int32) : Int32 × Int32 := fX0_productPlus_k64 ((fX0_noNumber vfl z1).1) mo ((fX0_noNumber vfl z1).2)
def fX0_productPlus_k34 (y1 : Int32) (y2 : Int32) (y3 : Int32) (mo : Int32) (vfl : Int32) : Int32 × Int32 := (if ((fX0_isLoud y1)) = 0 then (if ((fX0_isLoud y2)) = 0 then (if ((fX0_isLoud y3)) = 0 then fX0_productPlus_k61 (0 : Int32) mo vfl else fX0_productPlus_k61 (1 : Int32) mo vfl) else fX0_productPlus_k61 (1 : Int32) mo vfl) else fX0_productPlus_k61 (1 : Int32) mo vfl)
def fX0_productPlus_k12 (z0 : Int32) (mo : Int32) (vfl : Int32) : Int32 × Int32 := (z0, vfl)
def fX0_productPlus (mo : Int32) (fl : Int32) (x1 : Int32) (x2 : Int32) (x3 : Int32) : Int32 × Int32 := (if ((fX0_isZeroTimesInfinite x1 x2)) = 0 then (if ((fX0_isNoNumber x1)) = 0 then (if ((fX0_isNoNumber x2)) = 0 then (if ((fX0_isNoNumber x3)) = 0 then fX0_productPlus_k73 x1 x2 x3 ((fX0_signOf ((x1 ^^^ x2)))) mo fl else fX0_productPlus_k34 x1 x2 x3 mo fl) else fX0_productPlus_k34 x1 x2 x3 mo fl) else fX0_productPlus_k34 x1 x2 x3 mo fl) else fX0_productPlus_k12 ((fX0_invalid fl).1) mo ((fX0_invalid fl).2))
set_option maxHeartbeats 4000000 in
set_option maxRecDepth 100000 in
theorem ccX0_productPlus (l : Launch) (D : va_G) (h0 : Nat) (mo fl : Int32) (x1 : Int32) (x2 : Int32) (x3 : Int32)  : Met l yX0_productPlus wsX0_productPlus { frames := 6, cells := 0, slots := 0, locals := 149 } (va_Pc [.ref h0, .int x1, .int x2, .int x3] (w0 D h0 mo fl)) (va_Qi (fun (r : Int32) (u : Int32) => (r, u) = fX0_productPlus mo fl x1 x2 x3) (fun u t => w0 D h0 mo u t) (aw0 h0)) 0 0 (aw0 h0) := by
  refine Met.ofW (cc := cX0_productPlus) (maxL := 6) (ret := (some .int)) (by decide) rfl ?_
  intro p e s m args below meth c s₁ B hml hv
  obtain ⟨rfl, hP, hK⟩ := hv
  have hx := B.exec
  have hb := B.bytes
  have hr := B.returns
  have hts := atoms_spec (ws := wsX0_productPlus) B.pre
  have hown : s.vm.findClass RX0 = some m.cls := findClass_of_methodNamed B.named
  have hlocks := B.notSynchronized
  have hS : va_S (aw0 h0) s.heap s.heap [] := va_S.rf
  have hP : va_P D vwCl (bw0 h0 mo fl) s.heap := hP
  have hl := lv_entry ([.ref h0, .int x1, .int x2, .int x3]) (n := 6) (Nat.le_of_ble_eq_true rfl)
  rw [lg_entry_eq]
  generalize (lg_sl ([.ref h0, .int x1, .int x2, .int x3]) ++ List.replicate (6 - (lg_sl ([.ref h0, .int x1, .int x2, .int x3])).length) Slot.unset).toArray = ls at hl ⊢
  have hl : lv_has ls 6 [(0, .ref h0), (1, .int x1), (2, .int x2), (3, .int x3)] := hl
  have j_108 : ∀ (y4 : Int32) (z0 : Int32) (vfl : Int32) (H : Heap) (locs : List Loc) (ls : Array Slot), va_P D vwCl (bw0 h0 mo vfl) H → va_S (aw0 h0) s.heap H locs → lv_has ls 6 [(0, .ref h0), (4, .int y4)] → isB z0 → fX0_productPlus mo fl x1 x2 x3 = fX0_productPlus_k108 y4 z0 mo vfl → W p l e (headSpec wsX0_productPlus { frames := 6, cells := 0, slots := 0, locals := 149 }).room s m ([.ref h0, .int x1, .int x2, .int x3] : List Value).toArray below meth c H locs 0 0 (MQ below (va_Qi (fun (r : Int32) (u : Int32) => (r, u) = fX0_productPlus mo fl x1 x2 x3) (fun u t => w0 D h0 mo u t) (aw0 h0)) ([.ref h0, .int x1, .int x2, .int x3] : List Value).toArray s 0 0 (aw0 h0)) (F0 m 108 ls [.int z0]) := by
    intro y4 z0 vfl H locs ls hP hS hl b_z0 hE
    refine lv_istore (lv' := [(5, .int z0), (0, .ref h0), (4, .int y4)]) hx hb dX0_productPlus_108 hl (by decide) rfl (fun ls hl => ?_)
    refine lv_iload hx hb dX0_productPlus_110 (lv_at hl 0 rfl) ?_
    refine lv_if_eq (tgt := 122) hx hb dX0_productPlus_112 (by decide) (fun c_112 => ?_) (fun c_112 => ?_)
    · replace hE := hE.trans (if_pos c_112)
      refine lv_iload hx hb dX0_productPlus_122 (lv_at hl 2 rfl) ?_
      refine lv_ldc hx hb hown (hts (.constant RX0 48 (2139095040)) (by decide +kernel)) dX0_productPlus_124 ?_
      refine lv_ior hx hb dX0_productPlus_126 ?_
      exact W.iret hx hb hr (fun t ht hW => ⟨⟨_, vfl, rfl, hE.symm, by rw [ht]; exact hP, va_K.moved hW.alike hK⟩, hS.F ht⟩) hS.2.2 dX0_productPlus_127
    · replace hE := hE.trans (if_neg c_112)
      refine lv_aload_n hx hb dX0_productPlus_115 rfl (lv_at hl 1 rfl) ?_
      refine k0_calli (va_runV (As := []) (rest := []) ⟨hx, hb, hml, hown, hts⟩ (ccX0_invalid l D h0 mo vfl  ) (cwV 0 hts gX0_productPlus_X0_invalid rfl rfl rfl (by decide +kernel) ⟨Nat.le_of_ble_eq_true rfl, Nat.le_of_ble_eq_true rfl⟩) (w0_pre hK hP) rfl rfl hl.1 rfl (lv_room (Nat.le_of_ble_eq_true rfl)) dX0_productPlus_116 ⟨Nat.zero_le _, Nat.zero_le _⟩) hS (fun r_116 u H locs hw hP hS => ?_)
      obtain ⟨fl_116, rfl⟩ : ∃ z, z = u := ⟨_, rfl⟩
      have hP : va_P D vwCl (bw0 h0 mo fl_116) H := hP
      replace hE : fX0_productPlus mo fl x1 x2 x3 = fX0_productPlus_k119 r_116 mo fl_116 := by have h : fX0_productPlus mo fl x1 x2 x3 = fX0_productPlus_k119 ((fX0_invalid vfl).1) mo ((fX0_invalid vfl).2) := hE; rw [← hw] at h; exact h
      refine lv_goto (tgt := 127) hx hb dX0_productPlus_119 (by decide) ?_
      exact W.iret hx hb hr (fun t ht hW => ⟨⟨_, fl_116, rfl, hE.symm, by rw [ht]; exact hP, va_K.moved hW.alike hK⟩, hS.F ht⟩) hS.2.2 dX0_productPlus_127
  have j_87 : ∀ (y3 : Int32) (y4 : Int32) (vfl : Int32) (H : Heap) (locs : List Loc) (ls : Array Slot), va_P D vwCl (bw0 h0 mo vfl) H → va_S (aw0 h0) s.heap H locs → lv_has ls 6 [(0, .ref h0), (3, .int y3), (4, .int y4)] → fX0_productPlus mo fl x1 x2 x3 = fX0_productPlus_k87 y3 y4 mo vfl → W p l e (headSpec wsX0_productPlus { frames := 6, cells := 0, slots := 0, locals := 149 }).room s m ([.ref h0, .int x1, .int x2, .int x3] : List Value).toArray below meth c H locs 0 0 (MQ below (va_Qi (fun (r : Int32) (u : Int32) => (r, u) = fX0_productPlus mo fl x1 x2 x3) (fun u t => w0 D h0 mo u t) (aw0 h0)) ([.ref h0, .int x1, .int x2, .int x3] : List Value).toArray s 0 0 (aw0 h0)) (F0 m 87 ls []) := by
    intro y3 y4 vfl H locs ls hP hS hl hE
    refine lv_iload_n hx hb dX0_productPlus_87 rfl (lv_at hl 1 rfl) ?_
    refine sc_i (W.runS (As := [.int y3]) (rest := []) ⟨hx, hb, hml, hown, hts⟩ (ccX0_isInfinite l y3 ) (va_cwS 1 hts gX0_productPlus_X0_isInfinite rfl rfl rfl (by decide +kernel) ⟨Nat.le_of_ble_eq_true rfl, Nat.le_of_ble_eq_true rfl⟩) st_pre rfl rfl hl.1 rfl (lv_room (Nat.le_of_ble_eq_true rfl)) dX0_productPlus_88 ⟨Nat.zero_le _, Nat.zero_le _⟩) ?_
    refine lv_if_eq (tgt := 107) hx hb dX0_productPlus_91 (by decide) (fun c_91 => ?_) (fun c_91 => ?_)
    · replace hE := hE.trans (if_pos c_91)
      refine lv_iconst (v := 0) hx hb dX0_productPlus_107 (by decide) ?_
      exact j_108 y4 (0 : Int32) vfl _ _ _ hP hS (lv_sub hl [0, 2] rfl) isB_0 hE
    · replace hE := hE.trans (if_neg c_91)
      refine lv_iload_n hx hb dX0_productPlus_94 rfl (lv_at hl 1 rfl) ?_
      refine sc_i (W.runS (As := [.int y3]) (rest := []) ⟨hx, hb, hml, hown, hts⟩ (ccX0_signOf l y3 ) (va_cwS 1 hts gX0_productPlus_X0_signOf rfl rfl rfl (by decide +kernel) ⟨Nat.le_of_ble_eq_true rfl, Nat.le_of_ble_eq_true rfl⟩) st_pre rfl rfl hl.1 rfl (lv_room (Nat.le_of_ble_eq_true rfl)) dX0_productPlus_95 ⟨Nat.zero_le _, Nat.zero_le _⟩) ?_
      refine lv_iload hx hb dX0_productPlus_98 (lv_at hl 2 rfl) ?_
      refine lv_icmp_eq (tgt := 107) hx hb dX0_productPlus_100 (by decide) (fun c_100 => ?_) (fun c_100 => ?_)
      · replace hE := hE.trans (if_pos c_100)
        refine lv_iconst (v := 0) hx hb dX0_productPlus_107 (by decide) ?_
        exact j_108 y4 (0 : Int32) vfl _ _ _ hP hS (lv_sub hl [0, 2] rfl) isB_0 hE
      · replace hE := hE.trans (if_neg c_100)
        refine lv_iconst (v := 1) hx hb dX0_productPlus_103 (by decide) ?_
        refine lv_goto (tgt := 108) hx hb dX0_productPlus_104 (by decide) ?_
        exact j_108 y4 (1 : Int32) vfl _ _ _ hP hS (lv_sub hl [0, 2] rfl) isB_1 hE
  have j_61 : ∀ (z1 : Int32) (vfl : Int32) (H : Heap) (locs : List Loc) (ls : Array Slot), va_P D vwCl (bw0 h0 mo vfl) H → va_S (aw0 h0) s.heap H locs → lv_has ls 6 [] → isB z1 → fX0_productPlus mo fl x1 x2 x3 = fX0_productPlus_k61 z1 mo vfl → W p l e (headSpec wsX0_productPlus { frames := 6, cells := 0, slots := 0, locals := 149 }).room s m ([.ref h0, .int x1, .int x2, .int x3] : List Value).toArray below meth c H locs 0 0 (MQ below (va_Qi (fun (r : Int32) (u : Int32) => (r, u) = fX0_productPlus mo fl x1 x2 x3) (fun u t => w0 D h0 mo u t) (aw0 h0)) ([.ref h0, .int x1, .int x2, .int x3] : List Value).toArray s 0 0 (aw0 h0)) (F0 m 61 ls [.int z1, .ref h0]) := by
    intro z1 vfl H locs ls hP hS hl b_z1 hE
    refine k0_calli (va_runV (As := [.int z1]) (rest := []) ⟨hx, hb, hml, hown, hts⟩ (ccX0_noNumber l D h0 mo vfl z1 ) (cwV 1 hts gX0_productPlus_X0_noNumber rfl rfl rfl (by decide +kernel) ⟨Nat.le_of_ble_eq_true rfl, Nat.le_of_ble_eq_true rfl⟩) (w0_pre hK hP) rfl rfl hl.1 rfl (lv_room (Nat.le_of_ble_eq_true rfl)) dX0_productPlus_61 ⟨Nat.zero_le _, Nat.zero_le _⟩) hS (fun r_61 u H locs hw hP hS => ?_)
    obtain ⟨fl_61, rfl⟩ : ∃ z, z = u := ⟨_, rfl⟩
    have hP : va_P D vwCl (bw0 h0 mo fl_61) H := hP
    replace hE : fX0_productPlus mo fl x1 x2 x3 = fX0_productPlus_k64 r_61 mo fl_61 := by have h : fX0_productPlus mo fl x1 x2 x3 = fX0_productPlus_k64 ((fX0_noNumber vfl z1).1) mo ((fX0_noNumber vfl z1).2) := hE; rw [← hw] at h; exact h
    exact W.iret hx hb hr (fun t ht hW => ⟨⟨_, fl_61, rfl, hE.symm, by rw [ht]; exact hP, va_K.moved hW.alike hK⟩, hS.F ht⟩) hS.2.2 dX0_productPlus_64
  have j_34 : ∀ (y1 : Int32) (y2 : Int32) (y3 : Int32) (vfl : Int32) (H : Heap) (locs : List Loc) (ls : Array Slot), va_P D vwCl (bw0 h0 mo vfl) H → va_S (aw0 h0) s.heap H locs → lv_has ls 6 [(0, .ref h0), (1, .int y1), (2, .int y2), (3, .int y3)] → fX0_productPlus mo fl x1 x2 x3 = fX0_productPlus_k34 y1 y2 y3 mo vfl → W p l e (headSpec wsX0_productPlus { frames := 6, cells := 0, slots := 0, locals := 149 }).room s m ([.ref h0, .int x1, .int x2, .int x3] : List Value).toArray below meth c H locs 0 0 (MQ below (va_Qi (fun (r : Int32) (u : Int32) => (r, u) = fX0_productPlus mo fl x1 x2 x3) (fun u t => w0 D h0 mo u t) (aw0 h0)) ([.ref h0, .int x1, .int x2, .int x3] : List Value).toArray s 0 0 (aw0 h0)) (F0 m 34 ls []) := by
    intro y1 y2 y3 vfl H locs ls hP hS hl hE
    refine lv_aload_n hx hb dX0_productPlus_34 rfl (lv_at hl 0 rfl) ?_
    refine lv_iload_n hx hb dX0_productPlus_35 rfl (lv_at hl 1 rfl) ?_
    refine sc_i (W.runS (As := [.int y1]) (rest := [.ref h0]) ⟨hx, hb, hml, hown, hts⟩ (ccX0_isLoud l y1 ) (va_cwS 1 hts gX0_productPlus_X0_isLoud rfl rfl rfl (by decide +kernel) ⟨Nat.le_of_ble_eq_true rfl, Nat.le_of_ble_eq_true rfl⟩) st_pre rfl rfl hl.1 rfl (lv_room (Nat.le_of_ble_eq_true rfl)) dX0_productPlus_36 ⟨Nat.zero_le _, Nat.zero_le _⟩) ?_
    refine lv_if_ne (tgt := 56) hx hb dX0_productPlus_39 (by decide) (fun c_39 => ?_) (fun c_39 => ?_)
    · replace hE := hE.trans (if_neg c_39)
      refine lv_iconst (v := 1) hx hb dX0_productPlus_56 (by decide) ?_
      refine lv_goto (tgt := 61) hx hb dX0_productPlus_57 (by decide) ?_
      exact j_61 (1 : Int32) vfl _ _ _ hP hS (lv_sub hl [] rfl) isB_1 hE
    · replace hE := hE.trans (if_pos c_39)
      refine lv_iload_n hx hb dX0_productPlus_42 rfl (lv_at hl 2 rfl) ?_
      refine sc_i (W.runS (As := [.int y2]) (rest := [.ref h0]) ⟨hx, hb, hml, hown, hts⟩ (ccX0_isLoud l y2 ) (va_cwS 1 hts gX0_productPlus_X0_isLoud rfl rfl rfl (by decide +kernel) ⟨Nat.le_of_ble_eq_true rfl, Nat.le_of_ble_eq_true rfl⟩) st_pre rfl rfl hl.1 rfl (lv_room (Nat.le_of_ble_eq_true rfl)) dX0_productPlus_43 ⟨Nat.zero_le _, Nat.zero_le _⟩) ?_
      refine lv_if_ne (tgt := 56) hx hb dX0_productPlus_46 (by decide) (fun c_46 => ?_) (fun c_46 => ?_)
      · replace hE := hE.trans (if_neg c_46)
        refine lv_iconst (v := 1) hx hb dX0_productPlus_56 (by decide) ?_
        refine lv_goto (tgt := 61) hx hb dX0_productPlus_57 (by decide) ?_
        exact j_61 (1 : Int32) vfl _ _ _ hP hS (lv_sub hl [] rfl) isB_1 hE
      · replace hE := hE.trans (if_pos c_46)
        refine lv_iload_n hx hb dX0_productPlus_49 rfl (lv_at hl 3 rfl) ?_
        refine sc_i (W.runS (As := [.int y3]) (rest := [.ref h0]) ⟨hx, hb, hml, hown, hts⟩ (ccX0_isLoud l y3 ) (va_cwS 1 hts gX0_productPlus_X0_isLoud rfl rfl rfl (by decide +kernel) ⟨Nat.le_of_ble_eq_true rfl, Nat.le_of_ble_eq_true rfl⟩) st_pre rfl rfl hl.1 rfl (lv_room (Nat.le_of_ble_eq_true rfl)) dX0_productPlus_50 ⟨Nat.zero_le _, Nat.zero_le _⟩) ?_
        refine lv_if_eq (tgt := 60) hx hb dX0_productPlus_53 (by decide) (fun c_53 => ?_) (fun c_53 => ?_)
        · replace hE := hE.trans (if_pos c_53)
          refine lv_iconst (v := 0) hx hb dX0_productPlus_60 (by decide) ?_
          exact j_61 (0 : Int32) vfl _ _ _ hP hS (lv_sub hl [] rfl) isB_0 hE
        · replace hE := hE.trans (if_neg c_53)
          refine lv_iconst (v := 1) hx hb dX0_productPlus_56 (by decide) ?_
          refine lv_goto (tgt := 61) hx hb dX0_productPlus_57 (by decide) ?_
          exact j_61 (1 : Int32) vfl _ _ _ hP hS (lv_sub hl [] rfl) isB_1 hE
  have hE : fX0_productPlus mo fl x1 x2 x3 = fX0_productPlus mo fl x1 x2 x3 := rfl
  refine lv_iload_n hx hb dX0_productPlus_0 rfl (lv_at hl 1 rfl) ?_
  refine lv_iload_n hx hb dX0_productPlus_1 rfl (lv_at hl 2 rfl) ?_
  refine sc_i (W.runS (As := [.int x1, .int x2]) (rest := []) ⟨hx, hb, hml, hown, hts⟩ (ccX0_isZeroTimesInfinite l x1 x2 ) (va_cwS 2 hts gX0_productPlus_X0_isZeroTimesInfinite rfl rfl rfl (by decide +kernel) ⟨Nat.le_of_ble_eq_true rfl, Nat.le_of_ble_eq_true rfl⟩) st_pre rfl rfl hl.1 rfl (lv_room (Nat.le_of_ble_eq_true rfl)) dX0_productPlus_2 ⟨Nat.zero_le _, Nat.zero_le _⟩) ?_
  refine lv_if_eq (tgt := 13) hx hb dX0_productPlus_5 (by decide) (fun c_5 => ?_) (fun c_5 => ?_)
  · replace hE := hE.trans (if_pos c_5)
    refine lv_iload_n hx hb dX0_productPlus_13 rfl (lv_at hl 1 rfl) ?_
    refine sc_i (W.runS (As := [.int x1]) (rest := []) ⟨hx, hb, hml, hown, hts⟩ (ccX0_isNoNumber l x1 ) (va_cwS 1 hts gX0_productPlus_X0_isNoNumber rfl rfl rfl (by decide +kernel) ⟨Nat.le_of_ble_eq_true rfl, Nat.le_of_ble_eq_true rfl⟩) st_pre rfl rfl hl.1 rfl (lv_room (Nat.le_of_ble_eq_true rfl)) dX0_productPlus_14 ⟨Nat.zero_le _, Nat.zero_le _⟩) ?_
    refine lv_if_ne (tgt := 34) hx hb dX0_productPlus_17 (by decide) (fun c_17 => ?_) (fun c_17 => ?_)
    · replace hE := hE.trans (if_neg c_17)
      exact j_34 x1 x2 x3 fl _ _ _ hP hS (lv_sub hl [0, 1, 2, 3] rfl)  hE
    · replace hE := hE.trans (if_pos c_17)
      refine lv_iload_n hx hb dX0_productPlus_20 rfl (lv_at hl 2 rfl) ?_
      refine sc_i (W.runS (As := [.int x2]) (rest := []) ⟨hx, hb, hml, hown, hts⟩ (ccX0_isNoNumber l x2 ) (va_cwS 1 hts gX0_productPlus_X0_isNoNumber rfl rfl rfl (by decide +kernel) ⟨Nat.le_of_ble_eq_true rfl, Nat.le_of_ble_eq_true rfl⟩) st_pre rfl rfl hl.1 rfl (lv_room (Nat.le_of_ble_eq_true rfl)) dX0_productPlus_21 ⟨Nat.zero_le _, Nat.zero_le _⟩) ?_
      refine lv_if_ne (tgt := 34) hx hb dX0_productPlus_24 (by decide) (fun c_24 => ?_) (fun c_24 => ?_)
      · replace hE := hE.trans (if_neg c_24)
        exact j_34 x1 x2 x3 fl _ _ _ hP hS (lv_sub hl [0, 1, 2, 3] rfl)  hE
      · replace hE := hE.trans (if_pos c_24)
        refine lv_iload_n hx hb dX0_productPlus_27 rfl (lv_at hl 3 rfl) ?_
        refine sc_i (W.runS (As := [.int x3]) (rest := []) ⟨hx, hb, hml, hown, hts⟩ (ccX0_isNoNumber l x3 ) (va_cwS 1 hts gX0_productPlus_X0_isNoNumber rfl rfl rfl (by decide +kernel) ⟨Nat.le_of_ble_eq_true rfl, Nat.le_of_ble_eq_true rfl⟩) st_pre rfl rfl hl.1 rfl (lv_room (Nat.le_of_ble_eq_true rfl)) dX0_productPlus_28 ⟨Nat.zero_le _, Nat.zero_le _⟩) ?_
        refine lv_if_eq (tgt := 65) hx hb dX0_productPlus_31 (by decide) (fun c_31 => ?_) (fun c_31 => ?_)
        · replace hE := hE.trans (if_pos c_31)
          refine lv_iload_n hx hb dX0_productPlus_65 rfl (lv_at hl 1 rfl) ?_
          refine lv_iload_n hx hb dX0_productPlus_66 rfl (lv_at hl 2 rfl) ?_
          refine lv_ixor hx hb dX0_productPlus_67 ?_
          refine sc_i (W.runS (As := [.int (x1 ^^^ x2)]) (rest := []) ⟨hx, hb, hml, hown, hts⟩ (ccX0_signOf l ((x1 ^^^ x2)) ) (va_cwS 1 hts gX0_productPlus_X0_signOf rfl rfl rfl (by decide +kernel) ⟨Nat.le_of_ble_eq_true rfl, Nat.le_of_ble_eq_true rfl⟩) st_pre rfl rfl hl.1 rfl (lv_room (Nat.le_of_ble_eq_true rfl)) dX0_productPlus_68 ⟨Nat.zero_le _, Nat.zero_le _⟩) ?_
          refine lv_topi (fun x4_71 e_71 => ?_)
          refine lv_istore (lv' := [(4, .int x4_71), (0, .ref h0), (1, .int x1), (2, .int x2), (3, .int x3)]) hx hb dX0_productPlus_71 hl (by decide) rfl (fun ls hl => ?_)
          replace hE : fX0_productPlus mo fl x1 x2 x3 = fX0_productPlus_k73 x1 x2 x3 x4_71 mo fl := by rw [e_71]; exact hE
          refine lv_iload_n hx hb dX0_productPlus_73 rfl (lv_at hl 2 rfl) ?_
          refine sc_i (W.runS (As := [.int x1]) (rest := []) ⟨hx, hb, hml, hown, hts⟩ (ccX0_isInfinite l x1 ) (va_cwS 1 hts gX0_productPlus_X0_isInfinite rfl rfl rfl (by decide +kernel) ⟨Nat.le_of_ble_eq_true rfl, Nat.le_of_ble_eq_true rfl⟩) st_pre rfl rfl hl.1 rfl (lv_room (Nat.le_of_ble_eq_true rfl)) dX0_productPlus_74 ⟨Nat.zero_le _, Nat.zero_le _⟩) ?_
          refine lv_if_ne (tgt := 87) hx hb dX0_productPlus_77 (by decide) (fun c_77 => ?_) (fun c_77 => ?_)
          · replace hE := hE.trans (if_neg c_77)
            exact j_87 x3 x4_71 fl _ _ _ hP hS (lv_sub hl [1, 4, 0] rfl)  hE
          · replace hE := hE.trans (if_pos c_77)
            refine lv_iload_n hx hb dX0_productPlus_80 rfl (lv_at hl 3 rfl) ?_
            refine sc_i (W.runS (As := [.int x2]) (rest := []) ⟨hx, hb, hml, hown, hts⟩ (ccX0_isInfinite l x2 ) (va_cwS 1 hts gX0_productPlus_X0_isInfinite rfl rfl rfl (by decide +kernel) ⟨Nat.le_of_ble_eq_true rfl, Nat.le_of_ble_eq_true rfl⟩) st_pre rfl rfl hl.1 rfl (lv_room (Nat.le_of_ble_eq_true rfl)) dX0_productPlus_81 ⟨Nat.zero_le _, Nat.zero_le _⟩) ?_
            refine lv_if_eq (tgt := 128) hx hb dX0_productPlus_84 (by decide) (fun c_84 => ?_) (fun c_84 => ?_)
            · replace hE := hE.trans (if_pos c_84)
              refine lv_iload_n hx hb dX0_productPlus_128 rfl (lv_at hl 4 rfl) ?_
              refine sc_i (W.runS (As := [.int x3]) (rest := []) ⟨hx, hb, hml, hown, hts⟩ (ccX0_isInfinite l x3 ) (va_cwS 1 hts gX0_productPlus_X0_isInfinite rfl rfl rfl (by decide +kernel) ⟨Nat.le_of_ble_eq_true rfl, Nat.le_of_ble_eq_true rfl⟩) st_pre rfl rfl hl.1 rfl (lv_room (Nat.le_of_ble_eq_true rfl)) dX0_productPlus_129 ⟨Nat.zero_le _, Nat.zero_le _⟩) ?_
              refine lv_if_eq (tgt := 137) hx hb dX0_productPlus_132 (by decide) (fun c_132 => ?_) (fun c_132 => ?_)
              · replace hE := hE.trans (if_pos c_132)
                refine lv_aload_n hx hb dX0_productPlus_137 rfl (lv_at hl 1 rfl) ?_
                refine lv_iload hx hb dX0_productPlus_138 (lv_at hl 0 rfl) ?_
                refine lv_iload_n hx hb dX0_productPlus_140 rfl (lv_at hl 2 rfl) ?_
                refine sc_l (W.runS (As := [.int x1]) (rest := [.int x4_71, .ref h0]) ⟨hx, hb, hml, hown, hts⟩ (ccX0_magnitudeOf l x1 ) (va_cwS 1 hts gX0_productPlus_X0_magnitudeOf rfl rfl rfl (by decide +kernel) ⟨Nat.le_of_ble_eq_true rfl, Nat.le_of_ble_eq_true rfl⟩) st_pre rfl rfl hl.1 rfl (lv_room (Nat.le_of_ble_eq_true rfl)) dX0_productPlus_141 ⟨Nat.zero_le _, Nat.zero_le _⟩) ?_
                refine lv_iload_n hx hb dX0_productPlus_144 rfl (lv_at hl 3 rfl) ?_
                refine sc_l (W.runS (As := [.int x2]) (rest := [.long (fX0_magnitudeOf x1), .int x4_71, .ref h0]) ⟨hx, hb, hml, hown, hts⟩ (ccX0_magnitudeOf l x2 ) (va_cwS 1 hts gX0_productPlus_X0_magnitudeOf rfl rfl rfl (by decide +kernel) ⟨Nat.le_of_ble_eq_true rfl, Nat.le_of_ble_eq_true rfl⟩) st_pre rfl rfl hl.1 rfl (lv_room (Nat.le_of_ble_eq_true rfl)) dX0_productPlus_145 ⟨Nat.zero_le _, Nat.zero_le _⟩) ?_
                refine lv_lmul hx hb dX0_productPlus_148 ?_
                refine lv_iload_n hx hb dX0_productPlus_149 rfl (lv_at hl 2 rfl) ?_
                refine sc_i (W.runS (As := [.int x1]) (rest := [.long (((fX0_magnitudeOf x1)) * ((fX0_magnitudeOf x2))), .int x4_71, .ref h0]) ⟨hx, hb, hml, hown, hts⟩ (ccX0_unitOf l x1 ) (va_cwS 1 hts gX0_productPlus_X0_unitOf rfl rfl rfl (by decide +kernel) ⟨Nat.le_of_ble_eq_true rfl, Nat.le_of_ble_eq_true rfl⟩) st_pre rfl rfl hl.1 rfl (lv_room (Nat.le_of_ble_eq_true rfl)) dX0_productPlus_150 ⟨Nat.zero_le _, Nat.zero_le _⟩) ?_
                refine lv_iload_n hx hb dX0_productPlus_153 rfl (lv_at hl 3 rfl) ?_
                refine sc_i (W.runS (As := [.int x2]) (rest := [.int (fX0_unitOf x1), .long (((fX0_magnitudeOf x1)) * ((fX0_magnitudeOf x2))), .int x4_71, .ref h0]) ⟨hx, hb, hml, hown, hts⟩ (ccX0_unitOf l x2 ) (va_cwS 1 hts gX0_productPlus_X0_unitOf rfl rfl rfl (by decide +kernel) ⟨Nat.le_of_ble_eq_true rfl, Nat.le_of_ble_eq_true rfl⟩) st_pre rfl rfl hl.1 rfl (lv_room (Nat.le_of_ble_eq_true rfl)) dX0_productPlus_154 ⟨Nat.zero_le _, Nat.zero_le _⟩) ?_
                refine lv_iadd hx hb dX0_productPlus_157 ?_
                refine lv_iload_n hx hb dX0_productPlus_158 rfl (lv_at hl 4 rfl) ?_
                refine k0_calli (va_runV (As := [.int x4_71, .long (((fX0_magnitudeOf x1)) * ((fX0_magnitudeOf x2))), .int (((fX0_unitOf x1)) + ((fX0_unitOf x2))), .int x3]) (rest := []) ⟨hx, hb, hml, hown, hts⟩ (ccX0_finiteSum l D h0 mo fl x4_71 ((((fX0_magnitudeOf x1)) * ((fX0_magnitudeOf x2)))) ((((fX0_unitOf x1)) + ((fX0_unitOf x2)))) x3 ) (cwV 4 hts gX0_productPlus_X0_finiteSum rfl rfl rfl (by decide +kernel) ⟨Nat.le_of_ble_eq_true rfl, Nat.le_of_ble_eq_true rfl⟩) (w0_pre hK hP) rfl rfl hl.1 rfl (lv_room (Nat.le_of_ble_eq_true rfl)) dX0_productPlus_159 ⟨Nat.zero_le _, Nat.zero_le _⟩) hS (fun r_159 u H locs hw hP hS => ?_)
                obtain ⟨fl_159, rfl⟩ : ∃ z, z = u := ⟨_, rfl⟩
                have hP : va_P D vwCl (bw0 h0 mo fl_159) H := hP
                replace hE : fX0_productPlus mo fl x1 x2 x3 = fX0_productPlus_k162 r_159 mo fl_159 := by have h : fX0_productPlus mo fl x1 x2 x3 = fX0_productPlus_k162 ((fX0_finiteSum mo fl x4_71 ((((fX0_magnitudeOf x1)) * ((fX0_magnitudeOf x2)))) ((((fX0_unitOf x1)) + ((fX0_unitOf x2)))) x3).1) mo ((fX0_finiteSum mo fl x4_71 ((((fX0_magnitudeOf x1)) * ((fX0_magnitudeOf x2)))) ((((fX0_unitOf x1)) + ((fX0_unitOf x2)))) x3).2) := hE; rw [← hw] at h; exact h
                exact W.iret hx hb hr (fun t ht hW => ⟨⟨_, fl_159, rfl, hE.symm, by rw [ht]; exact hP, va_K.moved hW.alike hK⟩, hS.F ht⟩) hS.2.2 dX0_productPlus_162
              · replace hE := hE.trans (if_neg c_132)
                refine lv_iload_n hx hb dX0_productPlus_135 rfl (lv_at hl 4 rfl) ?_
                exact W.iret hx hb hr (fun t ht hW => ⟨⟨_, fl, rfl, hE.symm, by rw [ht]; exact hP, va_K.moved hW.alike hK⟩, hS.F ht⟩) hS.2.2 dX0_productPlus_136
            · replace hE := hE.trans (if_neg c_84)
              exact j_87 x3 x4_71 fl _ _ _ hP hS (lv_sub hl [1, 4, 0] rfl)  hE
        · replace hE := hE.trans (if_neg c_31)
          exact j_34 x1 x2 x3 fl _ _ _ hP hS (lv_sub hl [0, 1, 2, 3] rfl)  hE
  · replace hE := hE.trans (if_neg c_5)
    refine lv_aload_n hx hb dX0_productPlus_8 rfl (lv_at hl 0 rfl) ?_
    refine k0_calli (va_runV (As := []) (rest := []) ⟨hx, hb, hml, hown, hts⟩ (ccX0_invalid l D h0 mo fl  ) (cwV 0 hts gX0_productPlus_X0_invalid rfl rfl rfl (by decide +kernel) ⟨Nat.le_of_ble_eq_true rfl, Nat.le_of_ble_eq_true rfl⟩) (w0_pre hK hP) rfl rfl hl.1 rfl (lv_room (Nat.le_of_ble_eq_true rfl)) dX0_productPlus_9 ⟨Nat.zero_le _, Nat.zero_le _⟩) hS (fun r_9 u H locs hw hP hS => ?_)
    obtain ⟨fl_9, rfl⟩ : ∃ z, z = u := ⟨_, rfl⟩
    have hP : va_P D vwCl (bw0 h0 mo fl_9) H := hP
    replace hE : fX0_productPlus mo fl x1 x2 x3 = fX0_productPlus_k12 r_9 mo fl_9 := by have h : fX0_productPlus mo fl x1 x2 x3 = fX0_productPlus_k12 ((fX0_invalid fl).1) mo ((fX0_invalid fl).2) := hE; rw [← hw] at h; exact h
    exact W.iret hx hb hr (fun t ht hW => ⟨⟨_, fl_9, rfl, hE.symm, by rw [ht]; exact hP, va_K.moved hW.alike hK⟩, hS.F ht⟩) hS.2.2 dX0_productPlus_12
/-! X0_round -/
def fX0_round (mo : Int32) (x1 : Int32) : Int32 × Int32 := (if x1 < 0 then ((0 : Int32), mo) else (if x1 ≤ (3 : Int32) then ((1 : Int32), x1) else ((0 : Int32), mo)))
set_option maxHeartbeats 4000000 in
set_option maxRecDepth 100000 in
theorem ccX0_round (l : Launch) (D : va_G) (h0 : Nat) (mo fl : Int32) (x1 : Int32)  : Met l yX0_round wsX0_round { frames := 0, cells := 0, slots := 0, locals := 0 } (va_Pc [.ref h0, .int x1] (w0 D h0 mo fl)) (va_Qi (fun (r : Int32) (u : Int32) => (r, u) = fX0_round mo x1) (fun u t => w0 D h0 u fl t) (aw0 h0)) 0 0 (aw0 h0) := by
  refine Met.ofW (cc := cX0_round) (maxL := 2) (ret := (some .boolean)) (by decide) rfl ?_
  intro p e s m args below meth c s₁ B hml hv
  obtain ⟨rfl, hP, hK⟩ := hv
  have hx := B.exec
  have hb := B.bytes
  have hr := B.returns
  have hts := atoms_spec (ws := wsX0_round) B.pre
  have hown : s.vm.findClass RX0 = some m.cls := findClass_of_methodNamed B.named
  have hlocks := B.notSynchronized
  have hin0 : ∀ w ∈ wsX00, w ∈ wsX0_round := fun _ h => List.mem_cons_of_mem _ (List.mem_append_right _ h)
  have hS : va_S (aw0 h0) s.heap s.heap [] := va_S.rf
  have hP : va_P D vwCl (bw0 h0 mo fl) s.heap := hP
  have hl := lv_entry ([.ref h0, .int x1]) (n := 2) (Nat.le_of_ble_eq_true rfl)
  rw [lg_entry_eq]
  generalize (lg_sl ([.ref h0, .int x1]) ++ List.replicate (2 - (lg_sl ([.ref h0, .int x1])).length) Slot.unset).toArray = ls at hl ⊢
  have hl : lv_has ls 2 [(0, .ref h0), (1, .int x1)] := hl
  have hE : fX0_round mo x1 = fX0_round mo x1 := rfl
  refine lv_iload_n hx hb dX0_round_0 rfl (lv_at hl 1 rfl) ?_
  refine lv_if_lt (tgt := 9) hx hb dX0_round_1 (by decide) (fun c_1 => ?_) (fun c_1 => ?_)
  · replace hE := hE.trans (if_pos c_1)
    refine lv_iconst (v := 0) hx hb dX0_round_9 (by decide) ?_
    exact W.zret hx hb hr (isB_nar isB_0) (fun t ht hW => ⟨⟨_, mo, rfl, hE.symm, by rw [ht]; exact hP, va_K.moved hW.alike hK⟩, hS.F ht⟩) hS.2.2 dX0_round_10
  · replace hE := hE.trans (if_neg c_1)
    refine lv_iload_n hx hb dX0_round_4 rfl (lv_at hl 1 rfl) ?_
    refine lv_iconst (v := 3) hx hb dX0_round_5 (by decide) ?_
    refine lv_icmp_le (tgt := 11) hx hb dX0_round_6 (by decide) (fun c_6 => ?_) (fun c_6 => ?_)
    · replace hE := hE.trans (if_pos c_6)
      refine lv_aload_n hx hb dX0_round_11 rfl (lv_at hl 0 rfl) ?_
      refine lv_iload_n hx hb dX0_round_12 rfl (lv_at hl 1 rfl) ?_
      refine va_put (D := D) (ci := 0) (v := .int x1) (ty := .int) (C := RX0) (T := TX0) (N := 2) hx hb hts hin0 tyX0 tyX0_ok nmX0 hown hK hP dw0 hS 0 rfl rfl 0 (by decide) (hts (.fieldLink RX0 9 "RealBits" "currentMode" "I") (by decide +kernel)) (fun _ h9 => h9) rfl (by decide +kernel) rfl rfl (Nat.le_of_ble_eq_true rfl) dX0_round_13 (fun H locs hP _ hS => ?_)
      have hP : va_P D vwCl (bw0 h0 x1 fl) H := hP
      refine lv_iconst (v := 1) hx hb dX0_round_16 (by decide) ?_
      exact W.zret hx hb hr (isB_nar isB_1) (fun t ht hW => ⟨⟨_, x1, rfl, hE.symm, by rw [ht]; exact hP, va_K.moved hW.alike hK⟩, hS.F ht⟩) hS.2.2 dX0_round_17
    · replace hE := hE.trans (if_neg c_6)
      refine lv_iconst (v := 0) hx hb dX0_round_9 (by decide) ?_
      exact W.zret hx hb hr (isB_nar isB_0) (fun t ht hW => ⟨⟨_, mo, rfl, hE.symm, by rw [ht]; exact hP, va_K.moved hW.alike hK⟩, hS.F ht⟩) hS.2.2 dX0_round_10
/-! X0_mode -/
def fX0_mode (mo : Int32) : Int32 := mo
set_option maxHeartbeats 4000000 in
set_option maxRecDepth 100000 in
theorem ccX0_mode (l : Launch) (D : va_G) (h0 : Nat) (mo fl : Int32)   : Met l yX0_mode wsX0_mode { frames := 0, cells := 0, slots := 0, locals := 0 } (va_Pc [.ref h0] (w0 D h0 mo fl)) (vp_Si (fun r => r = fX0_mode mo)) 0 0 (fun _ => False) := by
  refine Met.ofW (cc := cX0_mode) (maxL := 1) (ret := (some .int)) (by decide) rfl ?_
  intro p e s m args below meth c s₁ B hml hv
  obtain ⟨rfl, hP, hK⟩ := hv
  have hx := B.exec
  have hb := B.bytes
  have hr := B.returns
  have hts := atoms_spec (ws := wsX0_mode) B.pre
  have hown : s.vm.findClass RX0 = some m.cls := findClass_of_methodNamed B.named
  have hlocks := B.notSynchronized
  have hin0 : ∀ w ∈ wsX00, w ∈ wsX0_mode := fun _ h => List.mem_cons_of_mem _ (List.mem_append_right _ h)
  have hS : va_S (aw0 h0) s.heap s.heap [] := va_S.rf
  have hP : va_P D vwCl (bw0 h0 mo fl) s.heap := hP
  have hl := lv_entry ([.ref h0]) (n := 1) (Nat.le_of_ble_eq_true rfl)
  rw [lg_entry_eq]
  generalize (lg_sl ([.ref h0]) ++ List.replicate (1 - (lg_sl ([.ref h0])).length) Slot.unset).toArray = ls at hl ⊢
  have hl : lv_has ls 1 [(0, .ref h0)] := hl
  have hE : fX0_mode mo = fX0_mode mo := rfl
  refine lv_aload_n hx hb dX0_mode_0 rfl (lv_at hl 0 rfl) ?_
  refine va_get (D := D) (ci := 0) (v := .int mo) (C := RX0) (T := TX0) (N := 2) hx hb hts hin0 hown hK hP 0 rfl rfl 0 (by decide) (hts (.fieldLink RX0 9 "RealBits" "currentMode" "I") (by decide +kernel)) (fun _ h9 => h9) rfl dX0_mode_1 ?_
  exact W.iret hx hb hr (fun t ht hW => ⟨_, rfl, hE.symm, ht⟩) (fun _ h => by cases h) dX0_mode_4
/-! X0_flags -/
def fX0_flags (fl : Int32) : Int32 := fl
set_option maxHeartbeats 4000000 in
set_option maxRecDepth 100000 in
theorem ccX0_flags (l : Launch) (D : va_G) (h0 : Nat) (mo fl : Int32)   : Met l yX0_flags wsX0_flags { frames := 0, cells := 0, slots := 0, locals := 0 } (va_Pc [.ref h0] (w0 D h0 mo fl)) (vp_Si (fun r => r = fX0_flags fl)) 0 0 (fun _ => False) := by
  refine Met.ofW (cc := cX0_flags) (maxL := 1) (ret := (some .int)) (by decide) rfl ?_
  intro p e s m args below meth c s₁ B hml hv
  obtain ⟨rfl, hP, hK⟩ := hv
  have hx := B.exec
  have hb := B.bytes
  have hr := B.returns
  have hts := atoms_spec (ws := wsX0_flags) B.pre
  have hown : s.vm.findClass RX0 = some m.cls := findClass_of_methodNamed B.named
  have hlocks := B.notSynchronized
  have hin0 : ∀ w ∈ wsX00, w ∈ wsX0_flags := fun _ h => List.mem_cons_of_mem _ (List.mem_append_right _ h)
  have hS : va_S (aw0 h0) s.heap s.heap [] := va_S.rf
  have hP : va_P D vwCl (bw0 h0 mo fl) s.heap := hP
  have hl := lv_entry ([.ref h0]) (n := 1) (Nat.le_of_ble_eq_true rfl)
  rw [lg_entry_eq]
  generalize (lg_sl ([.ref h0]) ++ List.replicate (1 - (lg_sl ([.ref h0])).length) Slot.unset).toArray = ls at hl ⊢
  have hl : lv_has ls 1 [(0, .ref h0)] := hl
  have hE : fX0_flags fl = fX0_flags fl := rfl
  refine lv_aload_n hx hb dX0_flags_0 rfl (lv_at hl 0 rfl) ?_
  refine va_get (D := D) (ci := 0) (v := .int fl) (C := RX0) (T := TX0) (N := 2) hx hb hts hin0 hown hK hP 0 rfl rfl 1 (by decide) (hts (.fieldLink RX0 13 "RealBits" "raisedFlags" "I") (by decide +kernel)) (fun _ h9 => h9) rfl dX0_flags_1 ?_
  exact W.iret hx hb hr (fun t ht hW => ⟨_, rfl, hE.symm, ht⟩) (fun _ h => by cases h) dX0_flags_4
/-! X0_clear -/
def fX0_clear (fl : Int32) : Int32 × Int32 := (fl, (0 : Int32))
set_option maxHeartbeats 4000000 in
set_option maxRecDepth 100000 in
theorem ccX0_clear (l : Launch) (D : va_G) (h0 : Nat) (mo fl : Int32)   : Met l yX0_clear wsX0_clear { frames := 0, cells := 0, slots := 0, locals := 0 } (va_Pc [.ref h0] (w0 D h0 mo fl)) (va_Qi (fun (r : Int32) (u : Int32) => (r, u) = fX0_clear fl) (fun u t => w0 D h0 mo u t) (aw0 h0)) 0 0 (aw0 h0) := by
  refine Met.ofW (cc := cX0_clear) (maxL := 2) (ret := (some .int)) (by decide) rfl ?_
  intro p e s m args below meth c s₁ B hml hv
  obtain ⟨rfl, hP, hK⟩ := hv
  have hx := B.exec
  have hb := B.bytes
  have hr := B.returns
  have hts := atoms_spec (ws := wsX0_clear) B.pre
  have hown : s.vm.findClass RX0 = some m.cls := findClass_of_methodNamed B.named
  have hlocks := B.notSynchronized
  have hin0 : ∀ w ∈ wsX00, w ∈ wsX0_clear := fun _ h => List.mem_cons_of_mem _ (List.mem_append_right _ h)
  have hS : va_S (aw0 h0) s.heap s.heap [] := va_S.rf
  have hP : va_P D vwCl (bw0 h0 mo fl) s.heap := hP
  have hl := lv_entry ([.ref h0]) (n := 2) (Nat.le_of_ble_eq_true rfl)
  rw [lg_entry_eq]
  generalize (lg_sl ([.ref h0]) ++ List.replicate (2 - (lg_sl ([.ref h0])).length) Slot.unset).toArray = ls at hl ⊢
  have hl : lv_has ls 2 [(0, .ref h0)] := hl
  have hE : fX0_clear fl = fX0_clear fl := rfl
  refine lv_aload_n hx hb dX0_clear_0 rfl (lv_at hl 0 rfl) ?_
  refine va_get (D := D) (ci := 0) (v := .int fl) (C := RX0) (T := TX0) (N := 2) hx hb hts hin0 hown hK hP 0 rfl rfl 1 (by decide) (hts (.fieldLink RX0 13 "RealBits" "raisedFlags" "I") (by decide +kernel)) (fun _ h9 => h9) rfl dX0_clear_1 ?_
  refine lv_istore_n (lv' := [(1, .int fl), (0, .ref h0)]) hx hb dX0_clear_4 rfl hl (by decide) rfl (fun ls hl => ?_)
  refine lv_aload_n hx hb dX0_clear_5 rfl (lv_at hl 1 rfl) ?_
  refine lv_iconst (v := 0) hx hb dX0_clear_6 (by decide) ?_
  refine va_put (D := D) (ci := 0) (v := .int (0 : Int32)) (ty := .int) (C := RX0) (T := TX0) (N := 2) hx hb hts hin0 tyX0 tyX0_ok nmX0 hown hK hP dw0 hS 0 rfl rfl 1 (by decide) (hts (.fieldLink RX0 13 "RealBits" "raisedFlags" "I") (by decide +kernel)) (fun _ h9 => h9) rfl (by decide +kernel) rfl rfl (Nat.le_of_ble_eq_true rfl) dX0_clear_7 (fun H locs hP _ hS => ?_)
  have hP : va_P D vwCl (bw0 h0 mo (0 : Int32)) H := hP
  refine lv_iload_n hx hb dX0_clear_10 rfl (lv_at hl 0 rfl) ?_
  exact W.iret hx hb hr (fun t ht hW => ⟨⟨_, (0 : Int32), rfl, hE.symm, by rw [ht]; exact hP, va_K.moved hW.alike hK⟩, hS.F ht⟩) hS.2.2 dX0_clear_11
/-! X0_add -/
def fX0_add_k8 (z0 : Int32) (mo : Int32) (vfl : Int32) : Int32 × Int32 := (z0, vfl)
def fX0_add (mo : Int32) (fl : Int32) (x1 : Int32) (x2 : Int32) : Int32 × Int32 := fX0_add_k8 ((fX0_productPlus mo fl (1065353216 : Int32) x1 x2).1) mo ((fX0_productPlus mo fl (1065353216 : Int32) x1 x2).2)
set_option maxHeartbeats 4000000 in
set_option maxRecDepth 100000 in
theorem ccX0_add (l : Launch) (D : va_G) (h0 : Nat) (mo fl : Int32) (x1 : Int32) (x2 : Int32)  : Met l yX0_add wsX0_add { frames := 7, cells := 0, slots := 0, locals := 174 } (va_Pc [.ref h0, .int x1, .int x2] (w0 D h0 mo fl)) (va_Qi (fun (r : Int32) (u : Int32) => (r, u) = fX0_add mo fl x1 x2) (fun u t => w0 D h0 mo u t) (aw0 h0)) 0 0 (aw0 h0) := by
  refine Met.ofW (cc := cX0_add) (maxL := 3) (ret := (some .int)) (by decide) rfl ?_
  intro p e s m args below meth c s₁ B hml hv
  obtain ⟨rfl, hP, hK⟩ := hv
  have hx := B.exec
  have hb := B.bytes
  have hr := B.returns
  have hts := atoms_spec (ws := wsX0_add) B.pre
  have hown : s.vm.findClass RX0 = some m.cls := findClass_of_methodNamed B.named
  have hlocks := B.notSynchronized
  have hS : va_S (aw0 h0) s.heap s.heap [] := va_S.rf
  have hP : va_P D vwCl (bw0 h0 mo fl) s.heap := hP
  have hl := lv_entry ([.ref h0, .int x1, .int x2]) (n := 3) (Nat.le_of_ble_eq_true rfl)
  rw [lg_entry_eq]
  generalize (lg_sl ([.ref h0, .int x1, .int x2]) ++ List.replicate (3 - (lg_sl ([.ref h0, .int x1, .int x2])).length) Slot.unset).toArray = ls at hl ⊢
  have hl : lv_has ls 3 [(0, .ref h0), (1, .int x1), (2, .int x2)] := hl
  have hE : fX0_add mo fl x1 x2 = fX0_add mo fl x1 x2 := rfl
  refine lv_aload_n hx hb dX0_add_0 rfl (lv_at hl 0 rfl) ?_
  refine lv_ldc hx hb hown (hts (.constant RX0 16 (1065353216)) (by decide +kernel)) dX0_add_1 ?_
  refine lv_iload_n hx hb dX0_add_3 rfl (lv_at hl 1 rfl) ?_
  refine lv_iload_n hx hb dX0_add_4 rfl (lv_at hl 2 rfl) ?_
  refine k0_calli (va_runV (As := [.int (1065353216 : Int32), .int x1, .int x2]) (rest := []) ⟨hx, hb, hml, hown, hts⟩ (ccX0_productPlus l D h0 mo fl (1065353216 : Int32) x1 x2 ) (cwV 3 hts gX0_add_X0_productPlus rfl rfl rfl (by decide +kernel) ⟨Nat.le_of_ble_eq_true rfl, Nat.le_of_ble_eq_true rfl⟩) (w0_pre hK hP) rfl rfl hl.1 rfl (lv_room (Nat.le_of_ble_eq_true rfl)) dX0_add_5 ⟨Nat.zero_le _, Nat.zero_le _⟩) hS (fun r_5 u H locs hw hP hS => ?_)
  obtain ⟨fl_5, rfl⟩ : ∃ z, z = u := ⟨_, rfl⟩
  have hP : va_P D vwCl (bw0 h0 mo fl_5) H := hP
  replace hE : fX0_add mo fl x1 x2 = fX0_add_k8 r_5 mo fl_5 := by have h : fX0_add mo fl x1 x2 = fX0_add_k8 ((fX0_productPlus mo fl (1065353216 : Int32) x1 x2).1) mo ((fX0_productPlus mo fl (1065353216 : Int32) x1 x2).2) := hE; rw [← hw] at h; exact h
  exact W.iret hx hb hr (fun t ht hW => ⟨⟨_, fl_5, rfl, hE.symm, by rw [ht]; exact hP, va_K.moved hW.alike hK⟩, hS.F ht⟩) hS.2.2 dX0_add_8
/-! X0_subtract -/
def fX0_subtract_k11 (z0 : Int32) (mo : Int32) (vfl : Int32) : Int32 × Int32 := (z0, vfl)
def fX0_subtract (mo : Int32) (fl : Int32) (x1 : Int32) (x2 : Int32) : Int32 × Int32 := fX0_subtract_k11 ((fX0_productPlus mo fl (1065353216 : Int32) x1 ((x2 ^^^ (-2147483648 : Int32)))).1) mo ((fX0_productPlus mo fl (1065353216 : Int32) x1 ((x2 ^^^ (-2147483648 : Int32)))).2)
set_option maxHeartbeats 4000000 in
set_option maxRecDepth 100000 in
theorem ccX0_subtract (l : Launch) (D : va_G) (h0 : Nat) (mo fl : Int32) (x1 : Int32) (x2 : Int32)  : Met l yX0_subtract wsX0_subtract { frames := 7, cells := 0, slots := 0, locals := 174 } (va_Pc [.ref h0, .int x1, .int x2] (w0 D h0 mo fl)) (va_Qi (fun (r : Int32) (u : Int32) => (r, u) = fX0_subtract mo fl x1 x2) (fun u t => w0 D h0 mo u t) (aw0 h0)) 0 0 (aw0 h0) := by
  refine Met.ofW (cc := cX0_subtract) (maxL := 3) (ret := (some .int)) (by decide) rfl ?_
  intro p e s m args below meth c s₁ B hml hv
  obtain ⟨rfl, hP, hK⟩ := hv
  have hx := B.exec
  have hb := B.bytes
  have hr := B.returns
  have hts := atoms_spec (ws := wsX0_subtract) B.pre
  have hown : s.vm.findClass RX0 = some m.cls := findClass_of_methodNamed B.named
  have hlocks := B.notSynchronized
  have hS : va_S (aw0 h0) s.heap s.heap [] := va_S.rf
  have hP : va_P D vwCl (bw0 h0 mo fl) s.heap := hP
  have hl := lv_entry ([.ref h0, .int x1, .int x2]) (n := 3) (Nat.le_of_ble_eq_true rfl)
  rw [lg_entry_eq]
  generalize (lg_sl ([.ref h0, .int x1, .int x2]) ++ List.replicate (3 - (lg_sl ([.ref h0, .int x1, .int x2])).length) Slot.unset).toArray = ls at hl ⊢
  have hl : lv_has ls 3 [(0, .ref h0), (1, .int x1), (2, .int x2)] := hl
  have hE : fX0_subtract mo fl x1 x2 = fX0_subtract mo fl x1 x2 := rfl
  refine lv_aload_n hx hb dX0_subtract_0 rfl (lv_at hl 0 rfl) ?_
  refine lv_ldc hx hb hown (hts (.constant RX0 16 (1065353216)) (by decide +kernel)) dX0_subtract_1 ?_
  refine lv_iload_n hx hb dX0_subtract_3 rfl (lv_at hl 1 rfl) ?_
  refine lv_iload_n hx hb dX0_subtract_4 rfl (lv_at hl 2 rfl) ?_
  refine lv_ldc hx hb hown (hts (.constant RX0 21 (-2147483648)) (by decide +kernel)) dX0_subtract_5 ?_
  refine lv_ixor hx hb dX0_subtract_7 ?_
  refine k0_calli (va_runV (As := [.int (1065353216 : Int32), .int x1, .int (x2 ^^^ (-2147483648 : Int32))]) (rest := []) ⟨hx, hb, hml, hown, hts⟩ (ccX0_productPlus l D h0 mo fl (1065353216 : Int32) x1 ((x2 ^^^ (-2147483648 : Int32))) ) (cwV 3 hts gX0_subtract_X0_productPlus rfl rfl rfl (by decide +kernel) ⟨Nat.le_of_ble_eq_true rfl, Nat.le_of_ble_eq_true rfl⟩) (w0_pre hK hP) rfl rfl hl.1 rfl (lv_room (Nat.le_of_ble_eq_true rfl)) dX0_subtract_8 ⟨Nat.zero_le _, Nat.zero_le _⟩) hS (fun r_8 u H locs hw hP hS => ?_)
  obtain ⟨fl_8, rfl⟩ : ∃ z, z = u := ⟨_, rfl⟩
  have hP : va_P D vwCl (bw0 h0 mo fl_8) H := hP
  replace hE : fX0_subtract mo fl x1 x2 = fX0_subtract_k11 r_8 mo fl_8 := by have h : fX0_subtract mo fl x1 x2 = fX0_subtract_k11 ((fX0_productPlus mo fl (1065353216 : Int32) x1 ((x2 ^^^ (-2147483648 : Int32)))).1) mo ((fX0_productPlus mo fl (1065353216 : Int32) x1 ((x2 ^^^ (-2147483648 : Int32)))).2) := hE; rw [← hw] at h; exact h
  exact W.iret hx hb hr (fun t ht hW => ⟨⟨_, fl_8, rfl, hE.symm, by rw [ht]; exact hP, va_K.moved hW.alike hK⟩, hS.F ht⟩) hS.2.2 dX0_subtract_11
/-! X0_fused -/
def fX0_fused_k7 (z0 : Int32) (mo : Int32) (vfl : Int32) : Int32 × Int32 := (z0, vfl)
def fX0_fused (mo : Int32) (fl : Int32) (x1 : Int32) (x2 : Int32) (x3 : Int32) : Int32 × Int32 := fX0_fused_k7 ((fX0_productPlus mo fl x1 x2 x3).1) mo ((fX0_productPlus mo fl x1 x2 x3).2)
set_option maxHeartbeats 4000000 in
set_option maxRecDepth 100000 in
theorem ccX0_fused (l : Launch) (D : va_G) (h0 : Nat) (mo fl : Int32) (x1 : Int32) (x2 : Int32) (x3 : Int32)  : Met l yX0_fused wsX0_fused { frames := 7, cells := 0, slots := 0, locals := 174 } (va_Pc [.ref h0, .int x1, .int x2, .int x3] (w0 D h0 mo fl)) (va_Qi (fun (r : Int32) (u : Int32) => (r, u) = fX0_fused mo fl x1 x2 x3) (fun u t => w0 D h0 mo u t) (aw0 h0)) 0 0 (aw0 h0) := by
  refine Met.ofW (cc := cX0_fused) (maxL := 4) (ret := (some .int)) (by decide) rfl ?_
  intro p e s m args below meth c s₁ B hml hv
  obtain ⟨rfl, hP, hK⟩ := hv
  have hx := B.exec
  have hb := B.bytes
  have hr := B.returns
  have hts := atoms_spec (ws := wsX0_fused) B.pre
  have hown : s.vm.findClass RX0 = some m.cls := findClass_of_methodNamed B.named
  have hlocks := B.notSynchronized
  have hS : va_S (aw0 h0) s.heap s.heap [] := va_S.rf
  have hP : va_P D vwCl (bw0 h0 mo fl) s.heap := hP
  have hl := lv_entry ([.ref h0, .int x1, .int x2, .int x3]) (n := 4) (Nat.le_of_ble_eq_true rfl)
  rw [lg_entry_eq]
  generalize (lg_sl ([.ref h0, .int x1, .int x2, .int x3]) ++ List.replicate (4 - (lg_sl ([.ref h0, .int x1, .int x2, .int x3])).length) Slot.unset).toArray = ls at hl ⊢
  have hl : lv_has ls 4 [(0, .ref h0), (1, .int x1), (2, .int x2), (3, .int x3)] := hl
  have hE : fX0_fused mo fl x1 x2 x3 = fX0_fused mo fl x1 x2 x3 := rfl
  refine lv_aload_n hx hb dX0_fused_0 rfl (lv_at hl 0 rfl) ?_
  refine lv_iload_n hx hb dX0_fused_1 rfl (lv_at hl 1 rfl) ?_
  refine lv_iload_n hx hb dX0_fused_2 rfl (lv_at hl 2 rfl) ?_
  refine lv_iload_n hx hb dX0_fused_3 rfl (lv_at hl 3 rfl) ?_
  refine k0_calli (va_runV (As := [.int x1, .int x2, .int x3]) (rest := []) ⟨hx, hb, hml, hown, hts⟩ (ccX0_productPlus l D h0 mo fl x1 x2 x3 ) (cwV 3 hts gX0_fused_X0_productPlus rfl rfl rfl (by decide +kernel) ⟨Nat.le_of_ble_eq_true rfl, Nat.le_of_ble_eq_true rfl⟩) (w0_pre hK hP) rfl rfl hl.1 rfl (lv_room (Nat.le_of_ble_eq_true rfl)) dX0_fused_4 ⟨Nat.zero_le _, Nat.zero_le _⟩) hS (fun r_4 u H locs hw hP hS => ?_)
  obtain ⟨fl_4, rfl⟩ : ∃ z, z = u := ⟨_, rfl⟩
  have hP : va_P D vwCl (bw0 h0 mo fl_4) H := hP
  replace hE : fX0_fused mo fl x1 x2 x3 = fX0_fused_k7 r_4 mo fl_4 := by have h : fX0_fused mo fl x1 x2 x3 = fX0_fused_k7 ((fX0_productPlus mo fl x1 x2 x3).1) mo ((fX0_productPlus mo fl x1 x2 x3).2) := hE; rw [← hw] at h; exact h
  exact W.iret hx hb hr (fun t ht hW => ⟨⟨_, fl_4, rfl, hE.symm, by rw [ht]; exact hP, va_K.moved hW.alike hK⟩, hS.F ht⟩) hS.2.2 dX0_fused_7
/-! X0_fromInt -/
def fX0_fromInt_k14 (z0 : Int32) (mo : Int32) (vfl : Int32) : Int32 × Int32 := (z0, vfl)
def fX0_fromInt (mo : Int32) (fl : Int32) (x1 : Int32) : Int32 × Int32 := fX0_fromInt_k14 ((fX0_rounded mo fl ((fX0_signOf x1)) ((if 0 < ((Int32.toInt64 x1)) then ((Int32.toInt64 x1)) else -((Int32.toInt64 x1)))) (0 : Int32)).1) mo ((fX0_rounded mo fl ((fX0_signOf x1)) ((if 0 < ((Int32.toInt64 x1)) then ((Int32.toInt64 x1)) else -((Int32.toInt64 x1)))) (0 : Int32)).2)
set_option maxHeartbeats 4000000 in
set_option maxRecDepth 100000 in
theorem ccX0_fromInt (l : Launch) (D : va_G) (h0 : Nat) (mo fl : Int32) (x1 : Int32)  : Met l yX0_fromInt wsX0_fromInt { frames := 5, cells := 0, slots := 0, locals := 116 } (va_Pc [.ref h0, .int x1] (w0 D h0 mo fl)) (va_Qi (fun (r : Int32) (u : Int32) => (r, u) = fX0_fromInt mo fl x1) (fun u t => w0 D h0 mo u t) (aw0 h0)) 0 0 (aw0 h0) := by
  refine Met.ofW (cc := cX0_fromInt) (maxL := 2) (ret := (some .int)) (by decide) rfl ?_
  intro p e s m args below meth c s₁ B hml hv
  obtain ⟨rfl, hP, hK⟩ := hv
  have hx := B.exec
  have hb := B.bytes
  have hr := B.returns
  have hts := atoms_spec (ws := wsX0_fromInt) B.pre
  have hown : s.vm.findClass RX0 = some m.cls := findClass_of_methodNamed B.named
  have hlocks := B.notSynchronized
  have hS : va_S (aw0 h0) s.heap s.heap [] := va_S.rf
  have hP : va_P D vwCl (bw0 h0 mo fl) s.heap := hP
  have hl := lv_entry ([.ref h0, .int x1]) (n := 2) (Nat.le_of_ble_eq_true rfl)
  rw [lg_entry_eq]
  generalize (lg_sl ([.ref h0, .int x1]) ++ List.replicate (2 - (lg_sl ([.ref h0, .int x1])).length) Slot.unset).toArray = ls at hl ⊢
  have hl : lv_has ls 2 [(0, .ref h0), (1, .int x1)] := hl
  have hE : fX0_fromInt mo fl x1 = fX0_fromInt mo fl x1 := rfl
  refine lv_aload_n hx hb dX0_fromInt_0 rfl (lv_at hl 0 rfl) ?_
  refine lv_iload_n hx hb dX0_fromInt_1 rfl (lv_at hl 1 rfl) ?_
  refine sc_i (W.runS (As := [.int x1]) (rest := [.ref h0]) ⟨hx, hb, hml, hown, hts⟩ (ccX0_signOf l x1 ) (va_cwS 1 hts gX0_fromInt_X0_signOf rfl rfl rfl (by decide +kernel) ⟨Nat.le_of_ble_eq_true rfl, Nat.le_of_ble_eq_true rfl⟩) st_pre rfl rfl hl.1 rfl (lv_room (Nat.le_of_ble_eq_true rfl)) dX0_fromInt_2 ⟨Nat.zero_le _, Nat.zero_le _⟩) ?_
  refine lv_iload_n hx hb dX0_fromInt_5 rfl (lv_at hl 1 rfl) ?_
  refine lv_i2l hx hb dX0_fromInt_6 rfl ?_
  refine va_mabs_long hx hb (hml.trans hl.1.symm) hown (hts (.methodLink RX0 109 Lib.MathLoose.abs_long.x) (by decide +kernel)) (hts (.static Lib.MathLoose.abs_long.x) (by decide +kernel)) (hts (.initialized "java/lang/Math") (by decide +kernel)) (hts (.code Lib.MathLoose.abs_long.x Lib.MathLoose.abs_long.code 2 (some .long)) (by decide +kernel)) (Nat.le_of_ble_eq_true rfl) (Nat.le_of_ble_eq_true rfl) (Nat.zero_le _) (Nat.zero_le _) dX0_fromInt_7 ?_
  refine lv_iconst (v := 0) hx hb dX0_fromInt_10 (by decide) ?_
  refine k0_calli (va_runV (As := [.int (fX0_signOf x1), .long (if 0 < ((Int32.toInt64 x1)) then ((Int32.toInt64 x1)) else -((Int32.toInt64 x1))), .int (0 : Int32)]) (rest := []) ⟨hx, hb, hml, hown, hts⟩ (ccX0_rounded l D h0 mo fl ((fX0_signOf x1)) ((if 0 < ((Int32.toInt64 x1)) then ((Int32.toInt64 x1)) else -((Int32.toInt64 x1)))) (0 : Int32) ) (cwV 3 hts gX0_fromInt_X0_rounded rfl rfl rfl (by decide +kernel) ⟨Nat.le_of_ble_eq_true rfl, Nat.le_of_ble_eq_true rfl⟩) (w0_pre hK hP) rfl rfl hl.1 rfl (lv_room (Nat.le_of_ble_eq_true rfl)) dX0_fromInt_11 ⟨Nat.zero_le _, Nat.zero_le _⟩) hS (fun r_11 u H locs hw hP hS => ?_)
  obtain ⟨fl_11, rfl⟩ : ∃ z, z = u := ⟨_, rfl⟩
  have hP : va_P D vwCl (bw0 h0 mo fl_11) H := hP
  replace hE : fX0_fromInt mo fl x1 = fX0_fromInt_k14 r_11 mo fl_11 := by have h : fX0_fromInt mo fl x1 = fX0_fromInt_k14 ((fX0_rounded mo fl ((fX0_signOf x1)) ((if 0 < ((Int32.toInt64 x1)) then ((Int32.toInt64 x1)) else -((Int32.toInt64 x1)))) (0 : Int32)).1) mo ((fX0_rounded mo fl ((fX0_signOf x1)) ((if 0 < ((Int32.toInt64 x1)) then ((Int32.toInt64 x1)) else -((Int32.toInt64 x1)))) (0 : Int32)).2) := hE; rw [← hw] at h; exact h
  exact W.iret hx hb hr (fun t ht hW => ⟨⟨_, fl_11, rfl, hE.symm, by rw [ht]; exact hP, va_K.moved hW.alike hK⟩, hS.F ht⟩) hS.2.2 dX0_fromInt_14
/-! X0_scale -/
def fX0_scale_k57 (z0 : Int32) (mo : Int32) (vfl : Int32) : Int32 × Int32 := (z0, vfl)
def fX0_scale_k39 (y1 : Int32) (y3 : Int32) (mo : Int32) (vfl : Int32) : Int32 × Int32 := fX0_scale_k57 ((fX0_rounded mo vfl ((fX0_signOf y1)) ((fX0_magnitudeOf y1)) ((((fX0_unitOf y1)) + y3))).1) mo ((fX0_rounded mo vfl ((fX0_signOf y1)) ((fX0_magnitudeOf y1)) ((((fX0_unitOf y1)) + y3))).2)
def fX0_scale_k15 (z0 : Int32) (mo : Int32) (vfl : Int32) : Int32 × Int32 := (z0, vfl)
def fX0_scale (mo : Int32) (fl : Int32) (x1 : Int32) (x2 : Int32) : Int32 × Int32 := (if ((fX0_isNoNumber x1)) = 0 then (if ((fX0_isInfinite x1)) = 0 then fX0_scale_k39 x1 ((if (-400 : Int32) < ((if x2 < (400 : Int32) then x2 else (400 : Int32))) then ((if x2 < (400 : Int32) then x2 else (400 : Int32))) else (-400 : Int32))) mo fl else (x1, fl)) else fX0_scale_k15 ((fX0_noNumber fl ((fX0_isLoud x1))).1) mo ((fX0_noNumber fl ((fX0_isLoud x1))).2))
set_option maxHeartbeats 4000000 in
set_option maxRecDepth 100000 in
theorem ccX0_scale (l : Launch) (D : va_G) (h0 : Nat) (mo fl : Int32) (x1 : Int32) (x2 : Int32)  : Met l yX0_scale wsX0_scale { frames := 5, cells := 0, slots := 0, locals := 116 } (va_Pc [.ref h0, .int x1, .int x2] (w0 D h0 mo fl)) (va_Qi (fun (r : Int32) (u : Int32) => (r, u) = fX0_scale mo fl x1 x2) (fun u t => w0 D h0 mo u t) (aw0 h0)) 0 0 (aw0 h0) := by
  refine Met.ofW (cc := cX0_scale) (maxL := 4) (ret := (some .int)) (by decide) rfl ?_
  intro p e s m args below meth c s₁ B hml hv
  obtain ⟨rfl, hP, hK⟩ := hv
  have hx := B.exec
  have hb := B.bytes
  have hr := B.returns
  have hts := atoms_spec (ws := wsX0_scale) B.pre
  have hown : s.vm.findClass RX0 = some m.cls := findClass_of_methodNamed B.named
  have hlocks := B.notSynchronized
  have hS : va_S (aw0 h0) s.heap s.heap [] := va_S.rf
  have hP : va_P D vwCl (bw0 h0 mo fl) s.heap := hP
  have hl := lv_entry ([.ref h0, .int x1, .int x2]) (n := 4) (Nat.le_of_ble_eq_true rfl)
  rw [lg_entry_eq]
  generalize (lg_sl ([.ref h0, .int x1, .int x2]) ++ List.replicate (4 - (lg_sl ([.ref h0, .int x1, .int x2])).length) Slot.unset).toArray = ls at hl ⊢
  have hl : lv_has ls 4 [(0, .ref h0), (1, .int x1), (2, .int x2)] := hl
  have hE : fX0_scale mo fl x1 x2 = fX0_scale mo fl x1 x2 := rfl
  refine lv_iload_n hx hb dX0_scale_0 rfl (lv_at hl 1 rfl) ?_
  refine sc_i (W.runS (As := [.int x1]) (rest := []) ⟨hx, hb, hml, hown, hts⟩ (ccX0_isNoNumber l x1 ) (va_cwS 1 hts gX0_scale_X0_isNoNumber rfl rfl rfl (by decide +kernel) ⟨Nat.le_of_ble_eq_true rfl, Nat.le_of_ble_eq_true rfl⟩) st_pre rfl rfl hl.1 rfl (lv_room (Nat.le_of_ble_eq_true rfl)) dX0_scale_1 ⟨Nat.zero_le _, Nat.zero_le _⟩) ?_
  refine lv_if_eq (tgt := 16) hx hb dX0_scale_4 (by decide) (fun c_4 => ?_) (fun c_4 => ?_)
  · replace hE := hE.trans (if_pos c_4)
    refine lv_iload_n hx hb dX0_scale_16 rfl (lv_at hl 1 rfl) ?_
    refine sc_i (W.runS (As := [.int x1]) (rest := []) ⟨hx, hb, hml, hown, hts⟩ (ccX0_isInfinite l x1 ) (va_cwS 1 hts gX0_scale_X0_isInfinite rfl rfl rfl (by decide +kernel) ⟨Nat.le_of_ble_eq_true rfl, Nat.le_of_ble_eq_true rfl⟩) st_pre rfl rfl hl.1 rfl (lv_room (Nat.le_of_ble_eq_true rfl)) dX0_scale_17 ⟨Nat.zero_le _, Nat.zero_le _⟩) ?_
    refine lv_if_eq (tgt := 25) hx hb dX0_scale_20 (by decide) (fun c_20 => ?_) (fun c_20 => ?_)
    · replace hE := hE.trans (if_pos c_20)
      refine lv_sipush (v := -400) hx hb dX0_scale_25 (by decide) ?_
      refine lv_sipush (v := 400) hx hb dX0_scale_28 (by decide) ?_
      refine lv_iload_n hx hb dX0_scale_31 rfl (lv_at hl 2 rfl) ?_
      refine va_mmin hx hb (hml.trans hl.1.symm) hown (hts (.methodLink RX0 82 Lib.Math.min.name) (by decide +kernel)) (hts (.static Lib.Math.min.name) (by decide +kernel)) (hts (.initialized "java/lang/Math") (by decide +kernel)) (hts (.code Lib.Math.min.name Lib.Math.min.code 2 (some .int)) (by decide +kernel)) (Nat.le_of_ble_eq_true rfl) (Nat.le_of_ble_eq_true rfl) (Nat.zero_le _) (Nat.zero_le _) dX0_scale_32 ?_
      refine va_mmax hx hb (hml.trans hl.1.symm) hown (hts (.methodLink RX0 88 Lib.Math.max.name) (by decide +kernel)) (hts (.static Lib.Math.max.name) (by decide +kernel)) (hts (.initialized "java/lang/Math") (by decide +kernel)) (hts (.code Lib.Math.max.name Lib.Math.max.code 2 (some .int)) (by decide +kernel)) (Nat.le_of_ble_eq_true rfl) (Nat.le_of_ble_eq_true rfl) (Nat.zero_le _) (Nat.zero_le _) dX0_scale_35 ?_
      refine lv_topi (fun x3_38 e_38 => ?_)
      refine lv_istore_n (lv' := [(3, .int x3_38), (0, .ref h0), (1, .int x1), (2, .int x2)]) hx hb dX0_scale_38 rfl hl (by decide) rfl (fun ls hl => ?_)
      replace hE : fX0_scale mo fl x1 x2 = fX0_scale_k39 x1 x3_38 mo fl := by rw [e_38]; exact hE
      refine lv_aload_n hx hb dX0_scale_39 rfl (lv_at hl 1 rfl) ?_
      refine lv_iload_n hx hb dX0_scale_40 rfl (lv_at hl 2 rfl) ?_
      refine sc_i (W.runS (As := [.int x1]) (rest := [.ref h0]) ⟨hx, hb, hml, hown, hts⟩ (ccX0_signOf l x1 ) (va_cwS 1 hts gX0_scale_X0_signOf rfl rfl rfl (by decide +kernel) ⟨Nat.le_of_ble_eq_true rfl, Nat.le_of_ble_eq_true rfl⟩) st_pre rfl rfl hl.1 rfl (lv_room (Nat.le_of_ble_eq_true rfl)) dX0_scale_41 ⟨Nat.zero_le _, Nat.zero_le _⟩) ?_
      refine lv_iload_n hx hb dX0_scale_44 rfl (lv_at hl 2 rfl) ?_
      refine sc_l (W.runS (As := [.int x1]) (rest := [.int (fX0_signOf x1), .ref h0]) ⟨hx, hb, hml, hown, hts⟩ (ccX0_magnitudeOf l x1 ) (va_cwS 1 hts gX0_scale_X0_magnitudeOf rfl rfl rfl (by decide +kernel) ⟨Nat.le_of_ble_eq_true rfl, Nat.le_of_ble_eq_true rfl⟩) st_pre rfl rfl hl.1 rfl (lv_room (Nat.le_of_ble_eq_true rfl)) dX0_scale_45 ⟨Nat.zero_le _, Nat.zero_le _⟩) ?_
      refine lv_iload_n hx hb dX0_scale_48 rfl (lv_at hl 2 rfl) ?_
      refine sc_i (W.runS (As := [.int x1]) (rest := [.long (fX0_magnitudeOf x1), .int (fX0_signOf x1), .ref h0]) ⟨hx, hb, hml, hown, hts⟩ (ccX0_unitOf l x1 ) (va_cwS 1 hts gX0_scale_X0_unitOf rfl rfl rfl (by decide +kernel) ⟨Nat.le_of_ble_eq_true rfl, Nat.le_of_ble_eq_true rfl⟩) st_pre rfl rfl hl.1 rfl (lv_room (Nat.le_of_ble_eq_true rfl)) dX0_scale_49 ⟨Nat.zero_le _, Nat.zero_le _⟩) ?_
      refine lv_iload_n hx hb dX0_scale_52 rfl (lv_at hl 0 rfl) ?_
      refine lv_iadd hx hb dX0_scale_53 ?_
      refine k0_calli (va_runV (As := [.int (fX0_signOf x1), .long (fX0_magnitudeOf x1), .int (((fX0_unitOf x1)) + x3_38)]) (rest := []) ⟨hx, hb, hml, hown, hts⟩ (ccX0_rounded l D h0 mo fl ((fX0_signOf x1)) ((fX0_magnitudeOf x1)) ((((fX0_unitOf x1)) + x3_38)) ) (cwV 3 hts gX0_scale_X0_rounded rfl rfl rfl (by decide +kernel) ⟨Nat.le_of_ble_eq_true rfl, Nat.le_of_ble_eq_true rfl⟩) (w0_pre hK hP) rfl rfl hl.1 rfl (lv_room (Nat.le_of_ble_eq_true rfl)) dX0_scale_54 ⟨Nat.zero_le _, Nat.zero_le _⟩) hS (fun r_54 u H locs hw hP hS => ?_)
      obtain ⟨fl_54, rfl⟩ : ∃ z, z = u := ⟨_, rfl⟩
      have hP : va_P D vwCl (bw0 h0 mo fl_54) H := hP
      replace hE : fX0_scale mo fl x1 x2 = fX0_scale_k57 r_54 mo fl_54 := by have h : fX0_scale mo fl x1 x2 = fX0_scale_k57 ((fX0_rounded mo fl ((fX0_signOf x1)) ((fX0_magnitudeOf x1)) ((((fX0_unitOf x1)) + x3_38))).1) mo ((fX0_rounded mo fl ((fX0_signOf x1)) ((fX0_magnitudeOf x1)) ((((fX0_unitOf x1)) + x3_38))).2) := hE; rw [← hw] at h; exact h
      exact W.iret hx hb hr (fun t ht hW => ⟨⟨_, fl_54, rfl, hE.symm, by rw [ht]; exact hP, va_K.moved hW.alike hK⟩, hS.F ht⟩) hS.2.2 dX0_scale_57
    · replace hE := hE.trans (if_neg c_20)
      refine lv_iload_n hx hb dX0_scale_23 rfl (lv_at hl 1 rfl) ?_
      exact W.iret hx hb hr (fun t ht hW => ⟨⟨_, fl, rfl, hE.symm, by rw [ht]; exact hP, va_K.moved hW.alike hK⟩, hS.F ht⟩) hS.2.2 dX0_scale_24
  · replace hE := hE.trans (if_neg c_4)
    refine lv_aload_n hx hb dX0_scale_7 rfl (lv_at hl 0 rfl) ?_
    refine lv_iload_n hx hb dX0_scale_8 rfl (lv_at hl 1 rfl) ?_
    refine sc_i (W.runS (As := [.int x1]) (rest := [.ref h0]) ⟨hx, hb, hml, hown, hts⟩ (ccX0_isLoud l x1 ) (va_cwS 1 hts gX0_scale_X0_isLoud rfl rfl rfl (by decide +kernel) ⟨Nat.le_of_ble_eq_true rfl, Nat.le_of_ble_eq_true rfl⟩) st_pre rfl rfl hl.1 rfl (lv_room (Nat.le_of_ble_eq_true rfl)) dX0_scale_9 ⟨Nat.zero_le _, Nat.zero_le _⟩) ?_
    refine k0_calli (va_runV (As := [.int (fX0_isLoud x1)]) (rest := []) ⟨hx, hb, hml, hown, hts⟩ (ccX0_noNumber l D h0 mo fl ((fX0_isLoud x1)) ) (cwV 1 hts gX0_scale_X0_noNumber rfl rfl rfl (by decide +kernel) ⟨Nat.le_of_ble_eq_true rfl, Nat.le_of_ble_eq_true rfl⟩) (w0_pre hK hP) rfl rfl hl.1 rfl (lv_room (Nat.le_of_ble_eq_true rfl)) dX0_scale_12 ⟨Nat.zero_le _, Nat.zero_le _⟩) hS (fun r_12 u H locs hw hP hS => ?_)
    obtain ⟨fl_12, rfl⟩ : ∃ z, z = u := ⟨_, rfl⟩
    have hP : va_P D vwCl (bw0 h0 mo fl_12) H := hP
    replace hE : fX0_scale mo fl x1 x2 = fX0_scale_k15 r_12 mo fl_12 := by have h : fX0_scale mo fl x1 x2 = fX0_scale_k15 ((fX0_noNumber fl ((fX0_isLoud x1))).1) mo ((fX0_noNumber fl ((fX0_isLoud x1))).2) := hE; rw [← hw] at h; exact h
    exact W.iret hx hb hr (fun t ht hW => ⟨⟨_, fl_12, rfl, hE.symm, by rw [ht]; exact hP, va_K.moved hW.alike hK⟩, hS.F ht⟩) hS.2.2 dX0_scale_15
/-! X0_kind -/
def fX0_kind (x1 : Int32) : Int32 := (if ((fX0_isNegative x1)) = 0 then (((fX0_kindWithoutSign x1)) + (0 : Int32)) else (((fX0_kindWithoutSign x1)) + (8 : Int32)))
set_option maxHeartbeats 4000000 in
set_option maxRecDepth 100000 in
theorem ccX0_kind (l : Launch) (D : va_G) (h0 : Nat) (mo fl : Int32) (x1 : Int32)  : Met l yX0_kind wsX0_kind { frames := 3, cells := 0, slots := 0, locals := 60 } (va_Pc [.ref h0, .int x1] (w0 D h0 mo fl)) (vp_Si (fun r => r = fX0_kind x1)) 0 0 (fun _ => False) := by
  refine Met.ofW (cc := cX0_kind) (maxL := 2) (ret := (some .int)) (by decide) rfl ?_
  intro p e s m args below meth c s₁ B hml hv
  obtain ⟨rfl, hP, hK⟩ := hv
  have hx := B.exec
  have hb := B.bytes
  have hr := B.returns
  have hts := atoms_spec (ws := wsX0_kind) B.pre
  have hown : s.vm.findClass RX0 = some m.cls := findClass_of_methodNamed B.named
  have hlocks := B.notSynchronized
  have hS : va_S (aw0 h0) s.heap s.heap [] := va_S.rf
  have hP : va_P D vwCl (bw0 h0 mo fl) s.heap := hP
  have hl := lv_entry ([.ref h0, .int x1]) (n := 2) (Nat.le_of_ble_eq_true rfl)
  rw [lg_entry_eq]
  generalize (lg_sl ([.ref h0, .int x1]) ++ List.replicate (2 - (lg_sl ([.ref h0, .int x1])).length) Slot.unset).toArray = ls at hl ⊢
  have hl : lv_has ls 2 [(0, .ref h0), (1, .int x1)] := hl
  have hE : fX0_kind x1 = fX0_kind x1 := rfl
  refine lv_iload_n hx hb dX0_kind_0 rfl (lv_at hl 1 rfl) ?_
  refine sc_i (W.runS (As := [.int x1]) (rest := []) ⟨hx, hb, hml, hown, hts⟩ (ccX0_kindWithoutSign l x1 ) (va_cwS 1 hts gX0_kind_X0_kindWithoutSign rfl rfl rfl (by decide +kernel) ⟨Nat.le_of_ble_eq_true rfl, Nat.le_of_ble_eq_true rfl⟩) st_pre rfl rfl hl.1 rfl (lv_room (Nat.le_of_ble_eq_true rfl)) dX0_kind_1 ⟨Nat.zero_le _, Nat.zero_le _⟩) ?_
  refine lv_iload_n hx hb dX0_kind_4 rfl (lv_at hl 1 rfl) ?_
  refine sc_i (W.runS (As := [.int x1]) (rest := [.int (fX0_kindWithoutSign x1)]) ⟨hx, hb, hml, hown, hts⟩ (ccX0_isNegative l x1 ) (va_cwS 1 hts gX0_kind_X0_isNegative rfl rfl rfl (by decide +kernel) ⟨Nat.le_of_ble_eq_true rfl, Nat.le_of_ble_eq_true rfl⟩) st_pre rfl rfl hl.1 rfl (lv_room (Nat.le_of_ble_eq_true rfl)) dX0_kind_5 ⟨Nat.zero_le _, Nat.zero_le _⟩) ?_
  refine lv_if_eq (tgt := 16) hx hb dX0_kind_8 (by decide) (fun c_8 => ?_) (fun c_8 => ?_)
  · replace hE := hE.trans (if_pos c_8)
    refine lv_iconst (v := 0) hx hb dX0_kind_16 (by decide) ?_
    refine lv_iadd hx hb dX0_kind_17 ?_
    exact W.iret hx hb hr (fun t ht hW => ⟨_, rfl, hE.symm, ht⟩) (fun _ h => by cases h) dX0_kind_18
  · replace hE := hE.trans (if_neg c_8)
    refine lv_bipush (v := 8) hx hb dX0_kind_11 (by decide) ?_
    refine lv_goto (tgt := 17) hx hb dX0_kind_13 (by decide) ?_
    refine lv_iadd hx hb dX0_kind_17 ?_
    exact W.iret hx hb hr (fun t ht hW => ⟨_, rfl, hE.symm, ht⟩) (fun _ h => by cases h) dX0_kind_18
/-! X0_next -/
def fX0_next_k15 (z0 : Int32) (vfl : Int32) : Int32 × Int32 := (z0, vfl)
def fX0_next (fl : Int32) (x1 : Int32) : Int32 × Int32 := (if ((fX0_isNoNumber x1)) = 0 then (if x1 = (2139095040 : Int32) then (x1, fl) else (if ((fX0_isZero x1)) = 0 then (if ((fX0_isNegative x1)) = 0 then ((x1 + (1 : Int32)), fl) else ((x1 - (1 : Int32)), fl)) else ((1 : Int32), fl))) else fX0_next_k15 ((fX0_noNumber fl ((fX0_isLoud x1))).1) ((fX0_noNumber fl ((fX0_isLoud x1))).2))
set_option maxHeartbeats 4000000 in
set_option maxRecDepth 100000 in
theorem ccX0_next (l : Launch) (D : va_G) (h0 : Nat) (mo fl : Int32) (x1 : Int32)  : Met l yX0_next wsX0_next { frames := 2, cells := 0, slots := 0, locals := 42 } (va_Pc [.ref h0, .int x1] (w0 D h0 mo fl)) (va_Qi (fun (r : Int32) (u : Int32) => (r, u) = fX0_next fl x1) (fun u t => w0 D h0 mo u t) (aw0 h0)) 0 0 (aw0 h0) := by
  refine Met.ofW (cc := cX0_next) (maxL := 2) (ret := (some .int)) (by decide) rfl ?_
  intro p e s m args below meth c s₁ B hml hv
  obtain ⟨rfl, hP, hK⟩ := hv
  have hx := B.exec
  have hb := B.bytes
  have hr := B.returns
  have hts := atoms_spec (ws := wsX0_next) B.pre
  have hown : s.vm.findClass RX0 = some m.cls := findClass_of_methodNamed B.named
  have hlocks := B.notSynchronized
  have hS : va_S (aw0 h0) s.heap s.heap [] := va_S.rf
  have hP : va_P D vwCl (bw0 h0 mo fl) s.heap := hP
  have hl := lv_entry ([.ref h0, .int x1]) (n := 2) (Nat.le_of_ble_eq_true rfl)
  rw [lg_entry_eq]
  generalize (lg_sl ([.ref h0, .int x1]) ++ List.replicate (2 - (lg_sl ([.ref h0, .int x1])).length) Slot.unset).toArray = ls at hl ⊢
  have hl : lv_has ls 2 [(0, .ref h0), (1, .int x1)] := hl
  have hE : fX0_next fl x1 = fX0_next fl x1 := rfl
  refine lv_iload_n hx hb dX0_next_0 rfl (lv_at hl 1 rfl) ?_
  refine sc_i (W.runS (As := [.int x1]) (rest := []) ⟨hx, hb, hml, hown, hts⟩ (ccX0_isNoNumber l x1 ) (va_cwS 1 hts gX0_next_X0_isNoNumber rfl rfl rfl (by decide +kernel) ⟨Nat.le_of_ble_eq_true rfl, Nat.le_of_ble_eq_true rfl⟩) st_pre rfl rfl hl.1 rfl (lv_room (Nat.le_of_ble_eq_true rfl)) dX0_next_1 ⟨Nat.zero_le _, Nat.zero_le _⟩) ?_
  refine lv_if_eq (tgt := 16) hx hb dX0_next_4 (by decide) (fun c_4 => ?_) (fun c_4 => ?_)
  · replace hE := hE.trans (if_pos c_4)
    refine lv_iload_n hx hb dX0_next_16 rfl (lv_at hl 1 rfl) ?_
    refine lv_ldc hx hb hown (hts (.constant RX0 48 (2139095040)) (by decide +kernel)) dX0_next_17 ?_
    refine lv_icmp_ne (tgt := 24) hx hb dX0_next_19 (by decide) (fun c_19 => ?_) (fun c_19 => ?_)
    · replace hE := hE.trans (if_neg c_19)
      refine lv_iload_n hx hb dX0_next_24 rfl (lv_at hl 1 rfl) ?_
      refine sc_i (W.runS (As := [.int x1]) (rest := []) ⟨hx, hb, hml, hown, hts⟩ (ccX0_isZero l x1 ) (va_cwS 1 hts gX0_next_X0_isZero rfl rfl rfl (by decide +kernel) ⟨Nat.le_of_ble_eq_true rfl, Nat.le_of_ble_eq_true rfl⟩) st_pre rfl rfl hl.1 rfl (lv_room (Nat.le_of_ble_eq_true rfl)) dX0_next_25 ⟨Nat.zero_le _, Nat.zero_le _⟩) ?_
      refine lv_if_eq (tgt := 33) hx hb dX0_next_28 (by decide) (fun c_28 => ?_) (fun c_28 => ?_)
      · replace hE := hE.trans (if_pos c_28)
        refine lv_iload_n hx hb dX0_next_33 rfl (lv_at hl 1 rfl) ?_
        refine sc_i (W.runS (As := [.int x1]) (rest := []) ⟨hx, hb, hml, hown, hts⟩ (ccX0_isNegative l x1 ) (va_cwS 1 hts gX0_next_X0_isNegative rfl rfl rfl (by decide +kernel) ⟨Nat.le_of_ble_eq_true rfl, Nat.le_of_ble_eq_true rfl⟩) st_pre rfl rfl hl.1 rfl (lv_room (Nat.le_of_ble_eq_true rfl)) dX0_next_34 ⟨Nat.zero_le _, Nat.zero_le _⟩) ?_
        refine lv_if_eq (tgt := 46) hx hb dX0_next_37 (by decide) (fun c_37 => ?_) (fun c_37 => ?_)
        · replace hE := hE.trans (if_pos c_37)
          refine lv_iload_n hx hb dX0_next_46 rfl (lv_at hl 1 rfl) ?_
          refine lv_iconst (v := 1) hx hb dX0_next_47 (by decide) ?_
          refine lv_iadd hx hb dX0_next_48 ?_
          exact W.iret hx hb hr (fun t ht hW => ⟨⟨_, fl, rfl, hE.symm, by rw [ht]; exact hP, va_K.moved hW.alike hK⟩, hS.F ht⟩) hS.2.2 dX0_next_49
        · replace hE := hE.trans (if_neg c_37)
          refine lv_iload_n hx hb dX0_next_40 rfl (lv_at hl 1 rfl) ?_
          refine lv_iconst (v := 1) hx hb dX0_next_41 (by decide) ?_
          refine lv_isub hx hb dX0_next_42 ?_
          refine lv_goto (tgt := 49) hx hb dX0_next_43 (by decide) ?_
          exact W.iret hx hb hr (fun t ht hW => ⟨⟨_, fl, rfl, hE.symm, by rw [ht]; exact hP, va_K.moved hW.alike hK⟩, hS.F ht⟩) hS.2.2 dX0_next_49
      · replace hE := hE.trans (if_neg c_28)
        refine lv_iconst (v := 1) hx hb dX0_next_31 (by decide) ?_
        exact W.iret hx hb hr (fun t ht hW => ⟨⟨_, fl, rfl, hE.symm, by rw [ht]; exact hP, va_K.moved hW.alike hK⟩, hS.F ht⟩) hS.2.2 dX0_next_32
    · replace hE := hE.trans (if_pos c_19)
      refine lv_iload_n hx hb dX0_next_22 rfl (lv_at hl 1 rfl) ?_
      exact W.iret hx hb hr (fun t ht hW => ⟨⟨_, fl, rfl, hE.symm, by rw [ht]; exact hP, va_K.moved hW.alike hK⟩, hS.F ht⟩) hS.2.2 dX0_next_23
  · replace hE := hE.trans (if_neg c_4)
    refine lv_aload_n hx hb dX0_next_7 rfl (lv_at hl 0 rfl) ?_
    refine lv_iload_n hx hb dX0_next_8 rfl (lv_at hl 1 rfl) ?_
    refine sc_i (W.runS (As := [.int x1]) (rest := [.ref h0]) ⟨hx, hb, hml, hown, hts⟩ (ccX0_isLoud l x1 ) (va_cwS 1 hts gX0_next_X0_isLoud rfl rfl rfl (by decide +kernel) ⟨Nat.le_of_ble_eq_true rfl, Nat.le_of_ble_eq_true rfl⟩) st_pre rfl rfl hl.1 rfl (lv_room (Nat.le_of_ble_eq_true rfl)) dX0_next_9 ⟨Nat.zero_le _, Nat.zero_le _⟩) ?_
    refine k0_calli (va_runV (As := [.int (fX0_isLoud x1)]) (rest := []) ⟨hx, hb, hml, hown, hts⟩ (ccX0_noNumber l D h0 mo fl ((fX0_isLoud x1)) ) (cwV 1 hts gX0_next_X0_noNumber rfl rfl rfl (by decide +kernel) ⟨Nat.le_of_ble_eq_true rfl, Nat.le_of_ble_eq_true rfl⟩) (w0_pre hK hP) rfl rfl hl.1 rfl (lv_room (Nat.le_of_ble_eq_true rfl)) dX0_next_12 ⟨Nat.zero_le _, Nat.zero_le _⟩) hS (fun r_12 u H locs hw hP hS => ?_)
    obtain ⟨fl_12, rfl⟩ : ∃ z, z = u := ⟨_, rfl⟩
    have hP : va_P D vwCl (bw0 h0 mo fl_12) H := hP
    replace hE : fX0_next fl x1 = fX0_next_k15 r_12 fl_12 := by have h : fX0_next fl x1 = fX0_next_k15 ((fX0_noNumber fl ((fX0_isLoud x1))).1) ((fX0_noNumber fl ((fX0_isLoud x1))).2) := hE; rw [← hw] at h; exact h
    exact W.iret hx hb hr (fun t ht hW => ⟨⟨_, fl_12, rfl, hE.symm, by rw [ht]; exact hP, va_K.moved hW.alike hK⟩, hS.F ht⟩) hS.2.2 dX0_next_15
