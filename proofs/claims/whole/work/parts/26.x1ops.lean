/-! X1_root -/
def fX1_root_k185 (z0 : Int32) (mo : Int32) (vfl : Int32) (vrow : (Nat → Int64)) (vba : Int32) (vmr : Int32) (vex : Int32) : Int32 × Int32 × (Nat → Int64) × Int32 × Int32 × Int32 := (z0, vfl, vrow, vba, vmr, vex)
def fX1_root_k177 (z0 : Int32) (mo : Int32) (vfl : Int32) (vrow : (Nat → Int64)) (vba : Int32) (vmr : Int32) (vex : Int32) : Int32 × Int32 × (Nat → Int64) × Int32 × Int32 × Int32 := fX1_root_k185 ((fX1_finish mo vfl vrow vba vmr vex z0).1) mo ((fX1_finish mo vfl vrow vba vmr vex z0).2.1) vrow vba vmr ((fX1_finish mo vfl vrow vba vmr vex z0).2.2)
def fX1_root_k170 (z1 : Int32) (mo : Int32) (vfl : Int32) (vrow : (Nat → Int64)) (vba : Int32) (vmr : Int32) (vex : Int32) : Int32 × Int32 × (Nat → Int64) × Int32 × Int32 × Int32 := fX1_root_k177 ((fX1_settle vrow).1) mo vfl ((fX1_settle vrow).2) vba z1 vex
def fX1_root_k153 (y4 : Int64) (y6 : Int64) (mo : Int32) (vfl : Int32) (vrow : (Nat → Int64)) (vba : Int32) (vmr : Int32) (vex : Int32) : Int32 × Int32 × (Nat → Int64) × Int32 × Int32 × Int32 := (if ((lg_cmp ((y6 * y6)) y4)) = 0 then fX1_root_k170 (0 : Int32) mo vfl vrow vba vmr vex else fX1_root_k170 (1 : Int32) mo vfl vrow vba vmr vex)
def fX1_root_k142 (y4 : Int64) (y6 : Int64) (mo : Int32) (vfl : Int32) (vrow : (Nat → Int64)) (vba : Int32) (vmr : Int32) (vex : Int32) : Int32 × Int32 × (Nat → Int64) × Int32 × Int32 × Int32 := fX1_root_k153 y4 y6 mo vfl ((fX1_put vrow vba y6 vba (0 : Int32))) vba vmr vex
def fX1_root_k135 (y3 : Int32) (y4 : Int64) (y6 : Int64) (mo : Int32) (vfl : Int32) (vrow : (Nat → Int64)) (vba : Int32) (vmr : Int32) (vex : Int32) : Int32 × Int32 × (Nat → Int64) × Int32 × Int32 × Int32 := fX1_root_k142 y4 y6 mo vfl ((fX1_empty vrow vba vmr ((y3 / (2 : Int32)))).1) ((fX1_empty vrow vba vmr ((y3 / (2 : Int32)))).2.1) ((fX1_empty vrow vba vmr ((y3 / (2 : Int32)))).2.2) vex
def fX1_root_k100 : Nat → Int32 → Int64 → Int64 → Int32 → Int32 → Int32 → (Nat → Int64) → Int32 → Int32 → Int32 → Int32 × Int32 × (Nat → Int64) × Int32 × Int32 × Int32
  | 0, _, _, _, _, _, _, _, _, _, _ => (0, 0, (fun _ => 0), 0, 0, 0)
  | n + 1, y3, y4, y6, y8, mo, vfl, vrow, vba, vmr, vex => (if y8 < 0 then fX1_root_k135 y3 y4 y6 mo vfl vrow vba vmr vex else (if 0 < ((lg_cmp ((((y6 + (((1 : Int64) <<< (Int32.toInt64 y8 &&& 63))))) * ((y6 + (((1 : Int64) <<< (Int32.toInt64 y8 &&& 63))))))) y4)) then fX1_root_k100 n y3 y4 y6 ((y8 + (-1 : Int32))) mo vfl vrow vba vmr vex else fX1_root_k100 n y3 y4 ((y6 + (((1 : Int64) <<< (Int32.toInt64 y8 &&& 63))))) ((y8 + (-1 : Int32))) mo vfl vrow vba vmr vex))
theorem fX1_root_k100_s (n : Nat) (y3 : Int32) (y4 : Int64) (y6 : Int64) (y8 : Int32) (mo : Int32) (vfl : Int32) (vrow : (Nat → Int64)) (vba : Int32) (vmr : Int32) (vex : Int32) : fX1_root_k100 (n + 1) y3 y4 y6 y8 mo vfl vrow vba vmr vex = (if y8 < 0 then fX1_root_k135 y3 y4 y6 mo vfl vrow vba vmr vex else (if 0 < ((lg_cmp ((((y6 + (((1 : Int64) <<< (Int32.toInt64 y8 &&& 63))))) * ((y6 + (((1 : Int64) <<< (Int32.toInt64 y8 &&& 63))))))) y4)) then fX1_root_k100 n y3 y4 y6 ((y8 + (-1 : Int32))) mo vfl vrow vba vmr vex else fX1_root_k100 n y3 y4 ((y6 + (((1 : Int64) <<< (Int32.toInt64 y8 &&& 63))))) ((y8 + (-1 : Int32))) mo vfl vrow vba vmr vex)) := rfl
def fX1_root_k93 (y3 : Int32) (y4 : Int64) (mo : Int32) (vfl : Int32) (vrow : (Nat → Int64)) (vba : Int32) (vmr : Int32) (vex : Int32) : Int32 × Int32 × (Nat → Int64) × Int32 × Int32 × Int32 := fX1_root_k100 30 y3 y4 (0 : Int64) (28 : Int32) mo vfl vrow vba vmr vex
def fX1_root_k85 (y3 : Int32) (y4 : Int64) (mo : Int32) (vfl : Int32) (vrow : (Nat → Int64)) (vba : Int32) (vmr : Int32) (vex : Int32) : Int32 × Int32 × (Nat → Int64) × Int32 × Int32 × Int32 := fX1_root_k93 y3 (((2 : Int64) * y4)) mo vfl vrow vba vmr vex
def fX1_root_k75 (y3 : Int32) (y4 : Int64) (mo : Int32) (vfl : Int32) (vrow : (Nat → Int64)) (vba : Int32) (vmr : Int32) (vex : Int32) : Int32 × Int32 × (Nat → Int64) × Int32 × Int32 × Int32 := (if ((y3 - y3 / (2 : Int32) * (2 : Int32))) = 0 then fX1_root_k93 y3 y4 mo vfl vrow vba vmr vex else fX1_root_k85 ((y3 - (1 : Int32))) y4 mo vfl vrow vba vmr vex)
def fX1_root_k63 (y1 : Int32) (y2 : Int32) (y3 : Int32) (mo : Int32) (vfl : Int32) (vrow : (Nat → Int64)) (vba : Int32) (vmr : Int32) (vex : Int32) : Int32 × Int32 × (Nat → Int64) × Int32 × Int32 × Int32 := fX1_root_k75 y3 ((((Int32.toInt64 ((fX1_units y1)))) <<< (Int32.toInt64 ((y2 + (30 : Int32))) &&& 63))) mo vfl vrow vba vmr vex
def fX1_root_k53 (y1 : Int32) (y2 : Int32) (mo : Int32) (vfl : Int32) (vrow : (Nat → Int64)) (vba : Int32) (vmr : Int32) (vex : Int32) : Int32 × Int32 × (Nat → Int64) × Int32 × Int32 × Int32 := fX1_root_k63 y1 y2 ((((((fX1_place y1)) - y2)) - (30 : Int32))) mo vfl vrow vba vmr vex
def fX1_root_k35 (z0 : Int32) (mo : Int32) (vfl : Int32) (vrow : (Nat → Int64)) (vba : Int32) (vmr : Int32) (vex : Int32) : Int32 × Int32 × (Nat → Int64) × Int32 × Int32 × Int32 := (z0, vfl, vrow, vba, vmr, vex)
def fX1_root_k14 (z0 : Int32) (mo : Int32) (vfl : Int32) (vrow : (Nat → Int64)) (vba : Int32) (vmr : Int32) (vex : Int32) : Int32 × Int32 × (Nat → Int64) × Int32 × Int32 × Int32 := (z0, vfl, vrow, vba, vmr, vex)
def fX1_root (mo : Int32) (fl : Int32) (row : (Nat → Int64)) (ba : Int32) (mr : Int32) (ex : Int32) (x1 : Int32) : Int32 × Int32 × (Nat → Int64) × Int32 × Int32 × Int32 := (if ((fX1_isNone x1)) = 0 then (if ((fX1_isZero x1)) = 0 then (if ((fX1_isNegative x1)) = 0 then (if ((fX1_isInfinite x1)) = 0 then fX1_root_k53 x1 ((fX1_gap ((fX1_units x1)))) mo fl row ba mr ex else (x1, fl, row, ba, mr, ex)) else fX1_root_k35 ((fX1_invalid fl).1) mo ((fX1_invalid fl).2) row ba mr ex) else (x1, fl, row, ba, mr, ex)) else fX1_root_k14 ((fX1_none fl x1 (0 : Int32) (0 : Int32)).1) mo ((fX1_none fl x1 (0 : Int32) (0 : Int32)).2) row ba mr ex)
set_option maxHeartbeats 4000000 in
set_option maxRecDepth 100000 in
theorem ccX1_root (l : Launch) (D : va_G) (cJ : ClassId) (h0 h1 : Nat) (hne : h0 ≠ h1) (mo fl : Int32) (row : Nat → Int64) (ba mr ex : Int32) (x1 : Int32)  : Met l yX1_root wsX1_root { frames := 4, cells := 0, slots := 0, locals := 95 } (va_Pc [.ref h0, .int x1] (w1 D cJ h0 h1 mo fl row ba mr ex)) (va_Qi (fun (r : Int32) (u : Int32 × (Nat → Int64) × Int32 × Int32 × Int32) => (r, u) = fX1_root mo fl row ba mr ex x1) (fun u t => w1 D cJ h0 h1 mo u.1 u.2.1 u.2.2.1 u.2.2.2.1 u.2.2.2.2 t) (aw1 h0 h1)) 0 0 (aw1 h0 h1) := by
  refine Met.ofW (cc := cX1_root) (maxL := 11) (ret := (some .int)) (by decide) rfl ?_
  intro p e s m args below meth c s₁ B hml hv
  obtain ⟨rfl, hP, hK, hmr⟩ := hv
  have hx := B.exec
  have hb := B.bytes
  have hr := B.returns
  have hts := atoms_spec (ws := wsX1_root) B.pre
  have hown : s.vm.findClass RX1 = some m.cls := findClass_of_methodNamed B.named
  have hlocks := B.notSynchronized
  have hin0 : ∀ w ∈ wsX10, w ∈ wsX1_root := fun _ h => List.mem_cons_of_mem _ (List.mem_append_right _ h)
  have hS : va_S (aw1 h0 h1) s.heap s.heap [] := va_S.rf
  have hP : va_P D vwCl (bw1 cJ h0 h1 mo fl row ba mr ex) s.heap := hP
  have hl := lv_entry ([.ref h0, .int x1]) (n := 11) (Nat.le_of_ble_eq_true rfl)
  rw [lg_entry_eq]
  generalize (lg_sl ([.ref h0, .int x1]) ++ List.replicate (11 - (lg_sl ([.ref h0, .int x1])).length) Slot.unset).toArray = ls at hl ⊢
  have hl : lv_has ls 11 [(0, .ref h0), (1, .int x1)] := hl
  have j_170 : ∀ (z1 : Int32) (vfl : Int32) (vrow : (Nat → Int64)) (vba : Int32) (vmr : Int32) (vex : Int32) (H : Heap) (locs : List Loc) (ls : Array Slot), va_P D vwCl (bw1 cJ h0 h1 mo vfl vrow vba vmr vex) H → va_S (aw1 h0 h1) s.heap H locs → lv_has ls 11 [(0, .ref h0)] → isB z1 → isB vmr → fX1_root mo fl row ba mr ex x1 = fX1_root_k170 z1 mo vfl vrow vba vmr vex → W p l e (headSpec wsX1_root { frames := 4, cells := 0, slots := 0, locals := 95 }).room s m ([.ref h0, .int x1] : List Value).toArray below meth c H locs 0 0 (MQ below (va_Qi (fun (r : Int32) (u : Int32 × (Nat → Int64) × Int32 × Int32 × Int32) => (r, u) = fX1_root mo fl row ba mr ex x1) (fun u t => w1 D cJ h0 h1 mo u.1 u.2.1 u.2.2.1 u.2.2.2.1 u.2.2.2.2 t) (aw1 h0 h1)) ([.ref h0, .int x1] : List Value).toArray s 0 0 (aw1 h0 h1)) (F0 m 170 ls [.int z1, .ref h0]) := by
    intro z1 vfl vrow vba vmr vex H locs ls hP hS hl b_z1 hmr hE
    refine va_put (D := D) (ci := 1) (v := .int z1) (ty := .boolean) (C := RX1) (T := TX1) (N := 6) hx hb hts hin0 tyX1 tyX1_ok nmX1 hown hK hP (dw1 hne) hS 0 rfl rfl 4 (by decide) (hts (.fieldLink RX1 43 "RealBitsModel" "more" "Z") (by decide +kernel)) (fun _ h9 => h9) rfl (by decide +kernel) (isB_nar b_z1) (isB_fit b_z1) (Nat.le_of_ble_eq_true rfl) dX1_root_170 (fun H locs hP _ hS => ?_)
    have hP : va_P D vwCl (bw1 cJ h0 h1 mo vfl vrow vba z1 vex) H := hP
    refine lv_aload_n hx hb dX1_root_173 rfl (lv_at hl 0 rfl) ?_
    refine k1_calli (va_runV (As := []) (rest := []) ⟨hx, hb, hml, hown, hts⟩ (ccX1_settle l D cJ h0 h1 hne mo vfl vrow vba z1 vex  ) (cwV 0 hts gX1_root_X1_settle rfl rfl rfl (by decide +kernel) ⟨Nat.le_of_ble_eq_true rfl, Nat.le_of_ble_eq_true rfl⟩) (w1_pre hK hP b_z1) rfl rfl hl.1 rfl (lv_room (Nat.le_of_ble_eq_true rfl)) dX1_root_174 ⟨Nat.zero_le _, Nat.zero_le _⟩) hS (fun r_174 u H locs hw hP hmr hS => ?_)
    obtain ⟨row_174, rfl⟩ : ∃ z, z = u := ⟨_, rfl⟩
    have hP : va_P D vwCl (bw1 cJ h0 h1 mo vfl row_174 vba z1 vex) H := hP
    replace hE : fX1_root mo fl row ba mr ex x1 = fX1_root_k177 r_174 mo vfl row_174 vba z1 vex := by have h : fX1_root mo fl row ba mr ex x1 = fX1_root_k177 ((fX1_settle vrow).1) mo vfl ((fX1_settle vrow).2) vba z1 vex := hE; rw [← hw] at h; exact h
    refine lv_istore (lv' := [(8, .int r_174), (0, .ref h0)]) hx hb dX1_root_177 hl (by decide) rfl (fun ls hl => ?_)
    refine lv_aload_n hx hb dX1_root_179 rfl (lv_at hl 1 rfl) ?_
    refine lv_iload hx hb dX1_root_180 (lv_at hl 0 rfl) ?_
    refine k1_calli (va_runV (As := [.int r_174]) (rest := []) ⟨hx, hb, hml, hown, hts⟩ (ccX1_finish l D cJ h0 h1 hne mo vfl row_174 vba z1 vex r_174 ) (cwV 1 hts gX1_root_X1_finish rfl rfl rfl (by decide +kernel) ⟨Nat.le_of_ble_eq_true rfl, Nat.le_of_ble_eq_true rfl⟩) (w1_pre hK hP hmr) rfl rfl hl.1 rfl (lv_room (Nat.le_of_ble_eq_true rfl)) dX1_root_182 ⟨Nat.zero_le _, Nat.zero_le _⟩) hS (fun r_182 u H locs hw hP hmr hS => ?_)
    obtain ⟨fl_182, ex_182⟩ := u
    have hP : va_P D vwCl (bw1 cJ h0 h1 mo fl_182 row_174 vba z1 ex_182) H := hP
    replace hE : fX1_root mo fl row ba mr ex x1 = fX1_root_k185 r_182 mo fl_182 row_174 vba z1 ex_182 := by have h : fX1_root mo fl row ba mr ex x1 = fX1_root_k185 ((fX1_finish mo vfl row_174 vba z1 vex r_174).1) mo ((fX1_finish mo vfl row_174 vba z1 vex r_174).2.1) row_174 vba z1 ((fX1_finish mo vfl row_174 vba z1 vex r_174).2.2) := hE; rw [← hw] at h; exact h
    exact W.iret hx hb hr (fun t ht hW => ⟨⟨_, (fl_182, row_174, vba, z1, ex_182), rfl, hE.symm, by rw [ht]; exact hP, va_K.moved hW.alike hK, hmr⟩, hS.F ht⟩) hS.2.2 dX1_root_185
  have j_135 : ∀ (y3 : Int32) (y4 : Int64) (y6 : Int64) (vfl : Int32) (vrow : (Nat → Int64)) (vba : Int32) (vmr : Int32) (vex : Int32) (H : Heap) (locs : List Loc) (ls : Array Slot), va_P D vwCl (bw1 cJ h0 h1 mo vfl vrow vba vmr vex) H → va_S (aw1 h0 h1) s.heap H locs → lv_has ls 11 [(0, .ref h0), (3, .int y3), (4, .long y4), (6, .long y6)] → isB vmr → fX1_root mo fl row ba mr ex x1 = fX1_root_k135 y3 y4 y6 mo vfl vrow vba vmr vex → W p l e (headSpec wsX1_root { frames := 4, cells := 0, slots := 0, locals := 95 }).room s m ([.ref h0, .int x1] : List Value).toArray below meth c H locs 0 0 (MQ below (va_Qi (fun (r : Int32) (u : Int32 × (Nat → Int64) × Int32 × Int32 × Int32) => (r, u) = fX1_root mo fl row ba mr ex x1) (fun u t => w1 D cJ h0 h1 mo u.1 u.2.1 u.2.2.1 u.2.2.2.1 u.2.2.2.2 t) (aw1 h0 h1)) ([.ref h0, .int x1] : List Value).toArray s 0 0 (aw1 h0 h1)) (F0 m 135 ls []) := by
    intro y3 y4 y6 vfl vrow vba vmr vex H locs ls hP hS hl hmr hE
    refine lv_aload_n hx hb dX1_root_135 rfl (lv_at hl 0 rfl) ?_
    refine lv_iload_n hx hb dX1_root_136 rfl (lv_at hl 1 rfl) ?_
    refine lv_iconst (v := 2) hx hb dX1_root_137 (by decide) ?_
    refine lv_idiv hx hb dX1_root_138 (by decide) ?_
    refine k1_callv (va_runV (As := [.int (y3 / (2 : Int32))]) (rest := []) ⟨hx, hb, hml, hown, hts⟩ (ccX1_empty l D cJ h0 h1 hne mo vfl vrow vba vmr vex ((y3 / (2 : Int32))) ) (cwV 1 hts gX1_root_X1_empty rfl rfl rfl (by decide +kernel) ⟨Nat.le_of_ble_eq_true rfl, Nat.le_of_ble_eq_true rfl⟩) (w1_pre hK hP hmr) rfl rfl hl.1 rfl (lv_room (Nat.le_of_ble_eq_true rfl)) dX1_root_139 ⟨Nat.zero_le _, Nat.zero_le _⟩) hS (fun u H locs hw hP hmr hS => ?_)
    obtain ⟨row_139, ba_139, mr_139⟩ := u
    have hP : va_P D vwCl (bw1 cJ h0 h1 mo vfl row_139 ba_139 mr_139 vex) H := hP
    replace hE : fX1_root mo fl row ba mr ex x1 = fX1_root_k142 y4 y6 mo vfl row_139 ba_139 mr_139 vex := by have h : fX1_root mo fl row ba mr ex x1 = fX1_root_k142 y4 y6 mo vfl ((fX1_empty vrow vba vmr ((y3 / (2 : Int32)))).1) ((fX1_empty vrow vba vmr ((y3 / (2 : Int32)))).2.1) ((fX1_empty vrow vba vmr ((y3 / (2 : Int32)))).2.2) vex := hE; rw [← hw] at h; exact h
    refine lv_aload_n hx hb dX1_root_142 rfl (lv_at hl 0 rfl) ?_
    refine lv_lload hx hb dX1_root_143 (lv_at hl 3 rfl) ?_
    refine lv_aload_n hx hb dX1_root_145 rfl (lv_at hl 0 rfl) ?_
    refine va_get (D := D) (ci := 1) (v := .int ba_139) (C := RX1) (T := TX1) (N := 6) hx hb hts hin0 hown hK hP 0 rfl rfl 3 (by decide) (hts (.fieldLink RX1 40 "RealBitsModel" "base" "I") (by decide +kernel)) (fun _ h9 => h9) rfl dX1_root_146 ?_
    refine lv_iconst (v := 0) hx hb dX1_root_149 (by decide) ?_
    refine k1_callv (va_runV (As := [.long y6, .int ba_139, .int (0 : Int32)]) (rest := []) ⟨hx, hb, hml, hown, hts⟩ (ccX1_put l D cJ h0 h1 hne mo vfl row_139 ba_139 mr_139 vex y6 ba_139 (0 : Int32) (putOk_self _ _)) (cwV 3 hts gX1_root_X1_put rfl rfl rfl (by decide +kernel) ⟨Nat.le_of_ble_eq_true rfl, Nat.le_of_ble_eq_true rfl⟩) (w1_pre hK hP hmr) rfl rfl hl.1 rfl (lv_room (Nat.le_of_ble_eq_true rfl)) dX1_root_150 ⟨Nat.zero_le _, Nat.zero_le _⟩) hS (fun u H locs hw hP hmr hS => ?_)
    obtain ⟨row_150, rfl⟩ : ∃ z, z = u := ⟨_, rfl⟩
    have hP : va_P D vwCl (bw1 cJ h0 h1 mo vfl row_150 ba_139 mr_139 vex) H := hP
    replace hE : fX1_root mo fl row ba mr ex x1 = fX1_root_k153 y4 y6 mo vfl row_150 ba_139 mr_139 vex := by have h : fX1_root mo fl row ba mr ex x1 = fX1_root_k153 y4 y6 mo vfl ((fX1_put row_139 ba_139 y6 ba_139 (0 : Int32))) ba_139 mr_139 vex := hE; rw [← hw] at h; exact h
    refine lv_aload_n hx hb dX1_root_153 rfl (lv_at hl 0 rfl) ?_
    refine lv_lload hx hb dX1_root_154 (lv_at hl 3 rfl) ?_
    refine lv_lload hx hb dX1_root_156 (lv_at hl 3 rfl) ?_
    refine lv_lmul hx hb dX1_root_158 ?_
    refine lv_lload hx hb dX1_root_159 (lv_at hl 2 rfl) ?_
    refine W.lcmp hx hb dX1_root_161 ?_
    refine lv_if_eq (tgt := 169) hx hb dX1_root_162 (by decide) (fun c_162 => ?_) (fun c_162 => ?_)
    · replace hE := hE.trans (if_pos c_162)
      refine lv_iconst (v := 0) hx hb dX1_root_169 (by decide) ?_
      exact j_170 (0 : Int32) vfl row_150 ba_139 mr_139 vex _ _ _ hP hS (lv_sub hl [0] rfl) isB_0 hmr hE
    · replace hE := hE.trans (if_neg c_162)
      refine lv_iconst (v := 1) hx hb dX1_root_165 (by decide) ?_
      refine lv_goto (tgt := 170) hx hb dX1_root_166 (by decide) ?_
      exact j_170 (1 : Int32) vfl row_150 ba_139 mr_139 vex _ _ _ hP hS (lv_sub hl [0] rfl) isB_1 hmr hE
  have j_100 : ∀ (n : Nat) (y3 : Int32) (y4 : Int64) (y6 : Int64) (y8 : Int32) (vfl : Int32) (vrow : (Nat → Int64)) (vba : Int32) (vmr : Int32) (vex : Int32) (H : Heap) (locs : List Loc) (ls : Array Slot), va_P D vwCl (bw1 cJ h0 h1 mo vfl vrow vba vmr vex) H → va_S (aw1 h0 h1) s.heap H locs → lv_has ls 11 [(0, .ref h0), (3, .int y3), (4, .long y4), (6, .long y6), (8, .int y8)] → isB vmr → dsc 29 y8 n → fX1_root mo fl row ba mr ex x1 = fX1_root_k100 n y3 y4 y6 y8 mo vfl vrow vba vmr vex → W p l e (headSpec wsX1_root { frames := 4, cells := 0, slots := 0, locals := 95 }).room s m ([.ref h0, .int x1] : List Value).toArray below meth c H locs 0 0 (MQ below (va_Qi (fun (r : Int32) (u : Int32 × (Nat → Int64) × Int32 × Int32 × Int32) => (r, u) = fX1_root mo fl row ba mr ex x1) (fun u t => w1 D cJ h0 h1 mo u.1 u.2.1 u.2.2.1 u.2.2.2.1 u.2.2.2.2 t) (aw1 h0 h1)) ([.ref h0, .int x1] : List Value).toArray s 0 0 (aw1 h0 h1)) (F0 m 100 ls []) := by
    intro n
    induction n with
    | zero =>
      intro y3 y4 y6 y8 vfl vrow vba vmr vex H locs ls hP hS hl hmr hM hE
      exact absurd hM dsc_0
    | succ n ih =>
      intro y3 y4 y6 y8 vfl vrow vba vmr vex H locs ls hP hS hl hmr hM hE
      replace hE := hE.trans (fX1_root_k100_s n y3 y4 y6 y8 mo vfl vrow vba vmr vex)
      refine lv_iload hx hb dX1_root_100 (lv_at hl 4 rfl) ?_
      refine lv_if_lt (tgt := 135) hx hb dX1_root_102 (by decide) (fun c_102 => ?_) (fun c_102 => ?_)
      · replace hE := hE.trans (if_pos c_102)
        exact j_135 y3 y4 y6 vfl vrow vba vmr vex _ _ _ hP hS (lv_sub hl [0, 1, 2, 3] rfl) hmr hE
      · replace hE := hE.trans (if_neg c_102)
        refine lv_lload hx hb dX1_root_105 (lv_at hl 3 rfl) ?_
        refine lv_lconst (v := 1) hx hb dX1_root_107 (by decide) ?_
        refine lv_iload hx hb dX1_root_108 (lv_at hl 4 rfl) ?_
        refine lv_lshl hx hb dX1_root_110 rfl ?_
        refine lv_ladd hx hb dX1_root_111 ?_
        refine lv_lstore (lv' := [(9, .long (y6 + (((1 : Int64) <<< (Int32.toInt64 y8 &&& 63))))), (0, .ref h0), (3, .int y3), (4, .long y4), (6, .long y6), (8, .int y8)]) hx hb dX1_root_112 hl (by decide) rfl (fun ls hl => ?_)
        refine lv_lload hx hb dX1_root_114 (lv_at hl 0 rfl) ?_
        refine lv_lload hx hb dX1_root_116 (lv_at hl 0 rfl) ?_
        refine lv_lmul hx hb dX1_root_118 ?_
        refine lv_lload hx hb dX1_root_119 (lv_at hl 3 rfl) ?_
        refine W.lcmp hx hb dX1_root_121 ?_
        refine lv_if_gt (tgt := 129) hx hb dX1_root_122 (by decide) (fun c_122 => ?_) (fun c_122 => ?_)
        · replace hE := hE.trans (if_pos c_122)
          refine lv_iinc (v := (y8 + (-1 : Int32))) (lv' := [(8, .int (y8 + (-1 : Int32))), (9, .long (y6 + (((1 : Int64) <<< (Int32.toInt64 y8 &&& 63))))), (0, .ref h0), (3, .int y3), (4, .long y4), (6, .long y6)]) hx hb dX1_root_129 hl (k := 5) rfl rfl (by decide) rfl (fun ls hl => ?_)
          refine lv_goto (tgt := 100) hx hb dX1_root_132 (by decide) ?_
          exact ih y3 y4 y6 ((y8 + (-1 : Int32))) vfl vrow vba vmr vex _ _ _ hP hS (lv_sub hl [2, 3, 4, 5, 0] rfl) hmr (dsc_step hM (i32_nlt0 c_102)) hE
        · replace hE := hE.trans (if_neg c_122)
          refine lv_lload hx hb dX1_root_125 (lv_at hl 0 rfl) ?_
          refine lv_lstore (lv' := [(6, .long (y6 + (((1 : Int64) <<< (Int32.toInt64 y8 &&& 63))))), (9, .long (y6 + (((1 : Int64) <<< (Int32.toInt64 y8 &&& 63))))), (0, .ref h0), (3, .int y3), (4, .long y4), (8, .int y8)]) hx hb dX1_root_127 hl (by decide) rfl (fun ls hl => ?_)
          refine lv_iinc (v := (y8 + (-1 : Int32))) (lv' := [(8, .int (y8 + (-1 : Int32))), (6, .long (y6 + (((1 : Int64) <<< (Int32.toInt64 y8 &&& 63))))), (9, .long (y6 + (((1 : Int64) <<< (Int32.toInt64 y8 &&& 63))))), (0, .ref h0), (3, .int y3), (4, .long y4)]) hx hb dX1_root_129 hl (k := 5) rfl rfl (by decide) rfl (fun ls hl => ?_)
          refine lv_goto (tgt := 100) hx hb dX1_root_132 (by decide) ?_
          exact ih y3 y4 ((y6 + (((1 : Int64) <<< (Int32.toInt64 y8 &&& 63))))) ((y8 + (-1 : Int32))) vfl vrow vba vmr vex _ _ _ hP hS (lv_sub hl [3, 4, 5, 1, 0] rfl) hmr (dsc_step hM (i32_nlt0 c_102)) hE
  have j_93 : ∀ (y3 : Int32) (y4 : Int64) (vfl : Int32) (vrow : (Nat → Int64)) (vba : Int32) (vmr : Int32) (vex : Int32) (H : Heap) (locs : List Loc) (ls : Array Slot), va_P D vwCl (bw1 cJ h0 h1 mo vfl vrow vba vmr vex) H → va_S (aw1 h0 h1) s.heap H locs → lv_has ls 11 [(0, .ref h0), (3, .int y3), (4, .long y4)] → isB vmr → fX1_root mo fl row ba mr ex x1 = fX1_root_k93 y3 y4 mo vfl vrow vba vmr vex → W p l e (headSpec wsX1_root { frames := 4, cells := 0, slots := 0, locals := 95 }).room s m ([.ref h0, .int x1] : List Value).toArray below meth c H locs 0 0 (MQ below (va_Qi (fun (r : Int32) (u : Int32 × (Nat → Int64) × Int32 × Int32 × Int32) => (r, u) = fX1_root mo fl row ba mr ex x1) (fun u t => w1 D cJ h0 h1 mo u.1 u.2.1 u.2.2.1 u.2.2.2.1 u.2.2.2.2 t) (aw1 h0 h1)) ([.ref h0, .int x1] : List Value).toArray s 0 0 (aw1 h0 h1)) (F0 m 93 ls []) := by
    intro y3 y4 vfl vrow vba vmr vex H locs ls hP hS hl hmr hE
    refine lv_lconst (v := 0) hx hb dX1_root_93 (by decide) ?_
    refine lv_lstore (lv' := [(6, .long (0 : Int64)), (0, .ref h0), (3, .int y3), (4, .long y4)]) hx hb dX1_root_94 hl (by decide) rfl (fun ls hl => ?_)
    refine lv_bipush (v := 28) hx hb dX1_root_96 (by decide) ?_
    refine lv_istore (lv' := [(8, .int (28 : Int32)), (6, .long (0 : Int64)), (0, .ref h0), (3, .int y3), (4, .long y4)]) hx hb dX1_root_98 hl (by decide) rfl (fun ls hl => ?_)
    exact j_100 30 y3 y4 (0 : Int64) (28 : Int32) vfl vrow vba vmr vex _ _ _ hP hS (lv_sub hl [2, 3, 4, 1, 0] rfl) hmr (⟨by decide, by decide, by decide⟩) hE
  have hE : fX1_root mo fl row ba mr ex x1 = fX1_root mo fl row ba mr ex x1 := rfl
  refine lv_iload_n hx hb dX1_root_0 rfl (lv_at hl 1 rfl) ?_
  refine sc_i (W.runS (As := [.int x1]) (rest := []) ⟨hx, hb, hml, hown, hts⟩ (ccX1_isNone l x1 ) (va_cwS 1 hts gX1_root_X1_isNone rfl rfl rfl (by decide +kernel) ⟨Nat.le_of_ble_eq_true rfl, Nat.le_of_ble_eq_true rfl⟩) st_pre rfl rfl hl.1 rfl (lv_room (Nat.le_of_ble_eq_true rfl)) dX1_root_1 ⟨Nat.zero_le _, Nat.zero_le _⟩) ?_
  refine lv_if_eq (tgt := 15) hx hb dX1_root_4 (by decide) (fun c_4 => ?_) (fun c_4 => ?_)
  · replace hE := hE.trans (if_pos c_4)
    refine lv_iload_n hx hb dX1_root_15 rfl (lv_at hl 1 rfl) ?_
    refine sc_i (W.runS (As := [.int x1]) (rest := []) ⟨hx, hb, hml, hown, hts⟩ (ccX1_isZero l x1 ) (va_cwS 1 hts gX1_root_X1_isZero rfl rfl rfl (by decide +kernel) ⟨Nat.le_of_ble_eq_true rfl, Nat.le_of_ble_eq_true rfl⟩) st_pre rfl rfl hl.1 rfl (lv_room (Nat.le_of_ble_eq_true rfl)) dX1_root_16 ⟨Nat.zero_le _, Nat.zero_le _⟩) ?_
    refine lv_if_eq (tgt := 24) hx hb dX1_root_19 (by decide) (fun c_19 => ?_) (fun c_19 => ?_)
    · replace hE := hE.trans (if_pos c_19)
      refine lv_iload_n hx hb dX1_root_24 rfl (lv_at hl 1 rfl) ?_
      refine sc_i (W.runS (As := [.int x1]) (rest := []) ⟨hx, hb, hml, hown, hts⟩ (ccX1_isNegative l x1 ) (va_cwS 1 hts gX1_root_X1_isNegative rfl rfl rfl (by decide +kernel) ⟨Nat.le_of_ble_eq_true rfl, Nat.le_of_ble_eq_true rfl⟩) st_pre rfl rfl hl.1 rfl (lv_room (Nat.le_of_ble_eq_true rfl)) dX1_root_25 ⟨Nat.zero_le _, Nat.zero_le _⟩) ?_
      refine lv_if_eq (tgt := 36) hx hb dX1_root_28 (by decide) (fun c_28 => ?_) (fun c_28 => ?_)
      · replace hE := hE.trans (if_pos c_28)
        refine lv_iload_n hx hb dX1_root_36 rfl (lv_at hl 1 rfl) ?_
        refine sc_i (W.runS (As := [.int x1]) (rest := []) ⟨hx, hb, hml, hown, hts⟩ (ccX1_isInfinite l x1 ) (va_cwS 1 hts gX1_root_X1_isInfinite rfl rfl rfl (by decide +kernel) ⟨Nat.le_of_ble_eq_true rfl, Nat.le_of_ble_eq_true rfl⟩) st_pre rfl rfl hl.1 rfl (lv_room (Nat.le_of_ble_eq_true rfl)) dX1_root_37 ⟨Nat.zero_le _, Nat.zero_le _⟩) ?_
        refine lv_if_eq (tgt := 45) hx hb dX1_root_40 (by decide) (fun c_40 => ?_) (fun c_40 => ?_)
        · replace hE := hE.trans (if_pos c_40)
          refine lv_iload_n hx hb dX1_root_45 rfl (lv_at hl 1 rfl) ?_
          refine sc_i (W.runS (As := [.int x1]) (rest := []) ⟨hx, hb, hml, hown, hts⟩ (ccX1_units l x1 ) (va_cwS 1 hts gX1_root_X1_units rfl rfl rfl (by decide +kernel) ⟨Nat.le_of_ble_eq_true rfl, Nat.le_of_ble_eq_true rfl⟩) st_pre rfl rfl hl.1 rfl (lv_room (Nat.le_of_ble_eq_true rfl)) dX1_root_46 ⟨Nat.zero_le _, Nat.zero_le _⟩) ?_
          refine sc_i (W.runS (As := [.int (fX1_units x1)]) (rest := []) ⟨hx, hb, hml, hown, hts⟩ (ccX1_gap l ((fX1_units x1)) ) (va_cwS 1 hts gX1_root_X1_gap rfl rfl rfl (by decide +kernel) ⟨Nat.le_of_ble_eq_true rfl, Nat.le_of_ble_eq_true rfl⟩) st_pre rfl rfl hl.1 rfl (lv_room (Nat.le_of_ble_eq_true rfl)) dX1_root_49 ⟨Nat.zero_le _, Nat.zero_le _⟩) ?_
          refine lv_topi (fun x2_52 e_52 => ?_)
          refine lv_istore_n (lv' := [(2, .int x2_52), (0, .ref h0), (1, .int x1)]) hx hb dX1_root_52 rfl hl (by decide) rfl (fun ls hl => ?_)
          replace hE : fX1_root mo fl row ba mr ex x1 = fX1_root_k53 x1 x2_52 mo fl row ba mr ex := by rw [e_52]; exact hE
          refine lv_iload_n hx hb dX1_root_53 rfl (lv_at hl 2 rfl) ?_
          refine sc_i (W.runS (As := [.int x1]) (rest := []) ⟨hx, hb, hml, hown, hts⟩ (ccX1_place l x1 ) (va_cwS 1 hts gX1_root_X1_place rfl rfl rfl (by decide +kernel) ⟨Nat.le_of_ble_eq_true rfl, Nat.le_of_ble_eq_true rfl⟩) st_pre rfl rfl hl.1 rfl (lv_room (Nat.le_of_ble_eq_true rfl)) dX1_root_54 ⟨Nat.zero_le _, Nat.zero_le _⟩) ?_
          refine lv_iload_n hx hb dX1_root_57 rfl (lv_at hl 0 rfl) ?_
          refine lv_isub hx hb dX1_root_58 ?_
          refine lv_bipush (v := 30) hx hb dX1_root_59 (by decide) ?_
          refine lv_isub hx hb dX1_root_61 ?_
          refine lv_topi (fun x3_62 e_62 => ?_)
          refine lv_istore_n (lv' := [(3, .int x3_62), (2, .int x2_52), (0, .ref h0), (1, .int x1)]) hx hb dX1_root_62 rfl hl (by decide) rfl (fun ls hl => ?_)
          replace hE : fX1_root mo fl row ba mr ex x1 = fX1_root_k63 x1 x2_52 x3_62 mo fl row ba mr ex := by rw [e_62]; exact hE
          refine lv_iload_n hx hb dX1_root_63 rfl (lv_at hl 3 rfl) ?_
          refine sc_i (W.runS (As := [.int x1]) (rest := []) ⟨hx, hb, hml, hown, hts⟩ (ccX1_units l x1 ) (va_cwS 1 hts gX1_root_X1_units rfl rfl rfl (by decide +kernel) ⟨Nat.le_of_ble_eq_true rfl, Nat.le_of_ble_eq_true rfl⟩) st_pre rfl rfl hl.1 rfl (lv_room (Nat.le_of_ble_eq_true rfl)) dX1_root_64 ⟨Nat.zero_le _, Nat.zero_le _⟩) ?_
          refine lv_i2l hx hb dX1_root_67 rfl ?_
          refine lv_iload_n hx hb dX1_root_68 rfl (lv_at hl 1 rfl) ?_
          refine lv_bipush (v := 30) hx hb dX1_root_69 (by decide) ?_
          refine lv_iadd hx hb dX1_root_71 ?_
          refine lv_lshl hx hb dX1_root_72 rfl ?_
          refine lv_topl (fun x4_73 e_73 => ?_)
          refine lv_lstore (lv' := [(4, .long x4_73), (3, .int x3_62), (2, .int x2_52), (0, .ref h0), (1, .int x1)]) hx hb dX1_root_73 hl (by decide) rfl (fun ls hl => ?_)
          replace hE : fX1_root mo fl row ba mr ex x1 = fX1_root_k75 x3_62 x4_73 mo fl row ba mr ex := by rw [e_73]; exact hE
          refine lv_iload_n hx hb dX1_root_75 rfl (lv_at hl 1 rfl) ?_
          refine lv_iconst (v := 2) hx hb dX1_root_76 (by decide) ?_
          refine lv_irem hx hb dX1_root_77 (by decide) ?_
          refine lv_if_eq (tgt := 93) hx hb dX1_root_78 (by decide) (fun c_78 => ?_) (fun c_78 => ?_)
          · replace hE := hE.trans (if_pos c_78)
            exact j_93 x3_62 x4_73 fl row ba mr ex _ _ _ hP hS (lv_sub hl [3, 1, 0] rfl) hmr hE
          · replace hE := hE.trans (if_neg c_78)
            refine lv_iload_n hx hb dX1_root_81 rfl (lv_at hl 1 rfl) ?_
            refine lv_iconst (v := 1) hx hb dX1_root_82 (by decide) ?_
            refine lv_isub hx hb dX1_root_83 ?_
            refine lv_topi (fun x3_84 e_84 => ?_)
            refine lv_istore_n (lv' := [(3, .int x3_84), (4, .long x4_73), (2, .int x2_52), (0, .ref h0), (1, .int x1)]) hx hb dX1_root_84 rfl hl (by decide) rfl (fun ls hl => ?_)
            replace hE : fX1_root mo fl row ba mr ex x1 = fX1_root_k85 x3_84 x4_73 mo fl row ba mr ex := by rw [e_84]; exact hE
            refine lv_ldc2 hx hb hown (hts (.constantLong RX1 126 (2)) (by decide +kernel)) dX1_root_85 ?_
            refine lv_lload hx hb dX1_root_88 (lv_at hl 1 rfl) ?_
            refine lv_lmul hx hb dX1_root_90 ?_
            refine lv_lstore (lv' := [(4, .long ((2 : Int64) * x4_73)), (3, .int x3_84), (2, .int x2_52), (0, .ref h0), (1, .int x1)]) hx hb dX1_root_91 hl (by decide) rfl (fun ls hl => ?_)
            exact j_93 x3_84 (((2 : Int64) * x4_73)) fl row ba mr ex _ _ _ hP hS (lv_sub hl [3, 1, 0] rfl) hmr hE
        · replace hE := hE.trans (if_neg c_40)
          refine lv_iload_n hx hb dX1_root_43 rfl (lv_at hl 1 rfl) ?_
          exact W.iret hx hb hr (fun t ht hW => ⟨⟨_, (fl, row, ba, mr, ex), rfl, hE.symm, by rw [ht]; exact hP, va_K.moved hW.alike hK, hmr⟩, hS.F ht⟩) hS.2.2 dX1_root_44
      · replace hE := hE.trans (if_neg c_28)
        refine lv_aload_n hx hb dX1_root_31 rfl (lv_at hl 0 rfl) ?_
        refine k1_calli (va_runV (As := []) (rest := []) ⟨hx, hb, hml, hown, hts⟩ (ccX1_invalid l D cJ h0 h1 hne mo fl row ba mr ex  ) (cwV 0 hts gX1_root_X1_invalid rfl rfl rfl (by decide +kernel) ⟨Nat.le_of_ble_eq_true rfl, Nat.le_of_ble_eq_true rfl⟩) (w1_pre hK hP hmr) rfl rfl hl.1 rfl (lv_room (Nat.le_of_ble_eq_true rfl)) dX1_root_32 ⟨Nat.zero_le _, Nat.zero_le _⟩) hS (fun r_32 u H locs hw hP hmr hS => ?_)
        obtain ⟨fl_32, rfl⟩ : ∃ z, z = u := ⟨_, rfl⟩
        have hP : va_P D vwCl (bw1 cJ h0 h1 mo fl_32 row ba mr ex) H := hP
        replace hE : fX1_root mo fl row ba mr ex x1 = fX1_root_k35 r_32 mo fl_32 row ba mr ex := by have h : fX1_root mo fl row ba mr ex x1 = fX1_root_k35 ((fX1_invalid fl).1) mo ((fX1_invalid fl).2) row ba mr ex := hE; rw [← hw] at h; exact h
        exact W.iret hx hb hr (fun t ht hW => ⟨⟨_, (fl_32, row, ba, mr, ex), rfl, hE.symm, by rw [ht]; exact hP, va_K.moved hW.alike hK, hmr⟩, hS.F ht⟩) hS.2.2 dX1_root_35
    · replace hE := hE.trans (if_neg c_19)
      refine lv_iload_n hx hb dX1_root_22 rfl (lv_at hl 1 rfl) ?_
      exact W.iret hx hb hr (fun t ht hW => ⟨⟨_, (fl, row, ba, mr, ex), rfl, hE.symm, by rw [ht]; exact hP, va_K.moved hW.alike hK, hmr⟩, hS.F ht⟩) hS.2.2 dX1_root_23
  · replace hE := hE.trans (if_neg c_4)
    refine lv_aload_n hx hb dX1_root_7 rfl (lv_at hl 0 rfl) ?_
    refine lv_iload_n hx hb dX1_root_8 rfl (lv_at hl 1 rfl) ?_
    refine lv_iconst (v := 0) hx hb dX1_root_9 (by decide) ?_
    refine lv_iconst (v := 0) hx hb dX1_root_10 (by decide) ?_
    refine k1_calli (va_runV (As := [.int x1, .int (0 : Int32), .int (0 : Int32)]) (rest := []) ⟨hx, hb, hml, hown, hts⟩ (ccX1_none l D cJ h0 h1 hne mo fl row ba mr ex x1 (0 : Int32) (0 : Int32) ) (cwV 3 hts gX1_root_X1_none rfl rfl rfl (by decide +kernel) ⟨Nat.le_of_ble_eq_true rfl, Nat.le_of_ble_eq_true rfl⟩) (w1_pre hK hP hmr) rfl rfl hl.1 rfl (lv_room (Nat.le_of_ble_eq_true rfl)) dX1_root_11 ⟨Nat.zero_le _, Nat.zero_le _⟩) hS (fun r_11 u H locs hw hP hmr hS => ?_)
    obtain ⟨fl_11, rfl⟩ : ∃ z, z = u := ⟨_, rfl⟩
    have hP : va_P D vwCl (bw1 cJ h0 h1 mo fl_11 row ba mr ex) H := hP
    replace hE : fX1_root mo fl row ba mr ex x1 = fX1_root_k14 r_11 mo fl_11 row ba mr ex := by have h : fX1_root mo fl row ba mr ex x1 = fX1_root_k14 ((fX1_none fl x1 (0 : Int32) (0 : Int32)).1) mo ((fX1_none fl x1 (0 : Int32) (0 : Int32)).2) row ba mr ex := hE; rw [← hw] at h; exact h
    exact W.iret hx hb hr (fun t ht hW => ⟨⟨_, (fl_11, row, ba, mr, ex), rfl, hE.symm, by rw [ht]; exact hP, va_K.moved hW.alike hK, hmr⟩, hS.F ht⟩) hS.2.2 dX1_root_14
/-! X1_scale -/
def fX1_scale_k98 (z0 : Int32) (mo : Int32) (vfl : Int32) (vrow : (Nat → Int64)) (vba : Int32) (vmr : Int32) (vex : Int32) : Int32 × Int32 × (Nat → Int64) × Int32 × Int32 × Int32 := (z0, vfl, vrow, vba, vmr, vex)
def fX1_scale_k90 (z0 : Int32) (mo : Int32) (vfl : Int32) (vrow : (Nat → Int64)) (vba : Int32) (vmr : Int32) (vex : Int32) : Int32 × Int32 × (Nat → Int64) × Int32 × Int32 × Int32 := fX1_scale_k98 ((fX1_finish mo vfl vrow vba vmr vex z0).1) mo ((fX1_finish mo vfl vrow vba vmr vex z0).2.1) vrow vba vmr ((fX1_finish mo vfl vrow vba vmr vex z0).2.2)
def fX1_scale_k86 (mo : Int32) (vfl : Int32) (vrow : (Nat → Int64)) (vba : Int32) (vmr : Int32) (vex : Int32) : Int32 × Int32 × (Nat → Int64) × Int32 × Int32 × Int32 := fX1_scale_k90 ((fX1_settle vrow).1) mo vfl ((fX1_settle vrow).2) vba vmr vex
def fX1_scale_k69 (y1 : Int32) (mo : Int32) (vfl : Int32) (vrow : (Nat → Int64)) (vba : Int32) (vmr : Int32) (vex : Int32) : Int32 × Int32 × (Nat → Int64) × Int32 × Int32 × Int32 := fX1_scale_k86 mo vfl ((fX1_put vrow vba ((Int32.toInt64 ((fX1_units y1)))) vba ((fX1_isNegative y1)))) vba vmr vex
def fX1_scale_k58 (y1 : Int32) (z0 : Int32) (mo : Int32) (vfl : Int32) (vrow : (Nat → Int64)) (vba : Int32) (vmr : Int32) (vex : Int32) : Int32 × Int32 × (Nat → Int64) × Int32 × Int32 × Int32 := fX1_scale_k69 y1 mo vfl ((fX1_empty vrow vba vmr ((((fX1_place y1)) + z0))).1) ((fX1_empty vrow vba vmr ((((fX1_place y1)) + z0))).2.1) ((fX1_empty vrow vba vmr ((((fX1_place y1)) + z0))).2.2) vex
def fX1_scale_k14 (z0 : Int32) (mo : Int32) (vfl : Int32) (vrow : (Nat → Int64)) (vba : Int32) (vmr : Int32) (vex : Int32) : Int32 × Int32 × (Nat → Int64) × Int32 × Int32 × Int32 := (z0, vfl, vrow, vba, vmr, vex)
def fX1_scale (mo : Int32) (fl : Int32) (row : (Nat → Int64)) (ba : Int32) (mr : Int32) (ex : Int32) (x1 : Int32) (x2 : Int32) : Int32 × Int32 × (Nat → Int64) × Int32 × Int32 × Int32 := (if ((fX1_isNone x1)) = 0 then (if ((fX1_isInfinite x1)) = 0 then (if ((fX1_isZero x1)) = 0 then (if (-400 : Int32) ≤ x2 then (if x2 ≤ (400 : Int32) then fX1_scale_k58 x1 x2 mo fl row ba mr ex else fX1_scale_k58 x1 (400 : Int32) mo fl row ba mr ex) else fX1_scale_k58 x1 (-400 : Int32) mo fl row ba mr ex) else (x1, fl, row, ba, mr, ex)) else (x1, fl, row, ba, mr, ex)) else fX1_scale_k14 ((fX1_none fl x1 (0 : Int32) (0 : Int32)).1) mo ((fX1_none fl x1 (0 : Int32) (0 : Int32)).2) row ba mr ex)
set_option maxHeartbeats 4000000 in
set_option maxRecDepth 100000 in
theorem ccX1_scale (l : Launch) (D : va_G) (cJ : ClassId) (h0 h1 : Nat) (hne : h0 ≠ h1) (mo fl : Int32) (row : Nat → Int64) (ba mr ex : Int32) (x1 : Int32) (x2 : Int32)  : Met l yX1_scale wsX1_scale { frames := 4, cells := 0, slots := 0, locals := 95 } (va_Pc [.ref h0, .int x1, .int x2] (w1 D cJ h0 h1 mo fl row ba mr ex)) (va_Qi (fun (r : Int32) (u : Int32 × (Nat → Int64) × Int32 × Int32 × Int32) => (r, u) = fX1_scale mo fl row ba mr ex x1 x2) (fun u t => w1 D cJ h0 h1 mo u.1 u.2.1 u.2.2.1 u.2.2.2.1 u.2.2.2.2 t) (aw1 h0 h1)) 0 0 (aw1 h0 h1) := by
  refine Met.ofW (cc := cX1_scale) (maxL := 5) (ret := (some .int)) (by decide) rfl ?_
  intro p e s m args below meth c s₁ B hml hv
  obtain ⟨rfl, hP, hK, hmr⟩ := hv
  have hx := B.exec
  have hb := B.bytes
  have hr := B.returns
  have hts := atoms_spec (ws := wsX1_scale) B.pre
  have hown : s.vm.findClass RX1 = some m.cls := findClass_of_methodNamed B.named
  have hlocks := B.notSynchronized
  have hin0 : ∀ w ∈ wsX10, w ∈ wsX1_scale := fun _ h => List.mem_cons_of_mem _ (List.mem_append_right _ h)
  have hS : va_S (aw1 h0 h1) s.heap s.heap [] := va_S.rf
  have hP : va_P D vwCl (bw1 cJ h0 h1 mo fl row ba mr ex) s.heap := hP
  have hl := lv_entry ([.ref h0, .int x1, .int x2]) (n := 5) (Nat.le_of_ble_eq_true rfl)
  rw [lg_entry_eq]
  generalize (lg_sl ([.ref h0, .int x1, .int x2]) ++ List.replicate (5 - (lg_sl ([.ref h0, .int x1, .int x2])).length) Slot.unset).toArray = ls at hl ⊢
  have hl : lv_has ls 5 [(0, .ref h0), (1, .int x1), (2, .int x2)] := hl
  have j_58 : ∀ (y1 : Int32) (z0 : Int32) (vfl : Int32) (vrow : (Nat → Int64)) (vba : Int32) (vmr : Int32) (vex : Int32) (H : Heap) (locs : List Loc) (ls : Array Slot), va_P D vwCl (bw1 cJ h0 h1 mo vfl vrow vba vmr vex) H → va_S (aw1 h0 h1) s.heap H locs → lv_has ls 5 [(0, .ref h0), (1, .int y1)] → isB vmr → fX1_scale mo fl row ba mr ex x1 x2 = fX1_scale_k58 y1 z0 mo vfl vrow vba vmr vex → W p l e (headSpec wsX1_scale { frames := 4, cells := 0, slots := 0, locals := 95 }).room s m ([.ref h0, .int x1, .int x2] : List Value).toArray below meth c H locs 0 0 (MQ below (va_Qi (fun (r : Int32) (u : Int32 × (Nat → Int64) × Int32 × Int32 × Int32) => (r, u) = fX1_scale mo fl row ba mr ex x1 x2) (fun u t => w1 D cJ h0 h1 mo u.1 u.2.1 u.2.2.1 u.2.2.2.1 u.2.2.2.2 t) (aw1 h0 h1)) ([.ref h0, .int x1, .int x2] : List Value).toArray s 0 0 (aw1 h0 h1)) (F0 m 58 ls [.int z0]) := by
    intro y1 z0 vfl vrow vba vmr vex H locs ls hP hS hl hmr hE
    refine lv_istore_n (lv' := [(3, .int z0), (0, .ref h0), (1, .int y1)]) hx hb dX1_scale_58 rfl hl (by decide) rfl (fun ls hl => ?_)
    refine lv_aload_n hx hb dX1_scale_59 rfl (lv_at hl 1 rfl) ?_
    refine lv_iload_n hx hb dX1_scale_60 rfl (lv_at hl 2 rfl) ?_
    refine sc_i (W.runS (As := [.int y1]) (rest := [.ref h0]) ⟨hx, hb, hml, hown, hts⟩ (ccX1_place l y1 ) (va_cwS 1 hts gX1_scale_X1_place rfl rfl rfl (by decide +kernel) ⟨Nat.le_of_ble_eq_true rfl, Nat.le_of_ble_eq_true rfl⟩) st_pre rfl rfl hl.1 rfl (lv_room (Nat.le_of_ble_eq_true rfl)) dX1_scale_61 ⟨Nat.zero_le _, Nat.zero_le _⟩) ?_
    refine lv_iload_n hx hb dX1_scale_64 rfl (lv_at hl 0 rfl) ?_
    refine lv_iadd hx hb dX1_scale_65 ?_
    refine k1_callv (va_runV (As := [.int (((fX1_place y1)) + z0)]) (rest := []) ⟨hx, hb, hml, hown, hts⟩ (ccX1_empty l D cJ h0 h1 hne mo vfl vrow vba vmr vex ((((fX1_place y1)) + z0)) ) (cwV 1 hts gX1_scale_X1_empty rfl rfl rfl (by decide +kernel) ⟨Nat.le_of_ble_eq_true rfl, Nat.le_of_ble_eq_true rfl⟩) (w1_pre hK hP hmr) rfl rfl hl.1 rfl (lv_room (Nat.le_of_ble_eq_true rfl)) dX1_scale_66 ⟨Nat.zero_le _, Nat.zero_le _⟩) hS (fun u H locs hw hP hmr hS => ?_)
    obtain ⟨row_66, ba_66, mr_66⟩ := u
    have hP : va_P D vwCl (bw1 cJ h0 h1 mo vfl row_66 ba_66 mr_66 vex) H := hP
    replace hE : fX1_scale mo fl row ba mr ex x1 x2 = fX1_scale_k69 y1 mo vfl row_66 ba_66 mr_66 vex := by have h : fX1_scale mo fl row ba mr ex x1 x2 = fX1_scale_k69 y1 mo vfl ((fX1_empty vrow vba vmr ((((fX1_place y1)) + z0))).1) ((fX1_empty vrow vba vmr ((((fX1_place y1)) + z0))).2.1) ((fX1_empty vrow vba vmr ((((fX1_place y1)) + z0))).2.2) vex := hE; rw [← hw] at h; exact h
    refine lv_aload_n hx hb dX1_scale_69 rfl (lv_at hl 1 rfl) ?_
    refine lv_iload_n hx hb dX1_scale_70 rfl (lv_at hl 2 rfl) ?_
    refine sc_i (W.runS (As := [.int y1]) (rest := [.ref h0]) ⟨hx, hb, hml, hown, hts⟩ (ccX1_units l y1 ) (va_cwS 1 hts gX1_scale_X1_units rfl rfl rfl (by decide +kernel) ⟨Nat.le_of_ble_eq_true rfl, Nat.le_of_ble_eq_true rfl⟩) st_pre rfl rfl hl.1 rfl (lv_room (Nat.le_of_ble_eq_true rfl)) dX1_scale_71 ⟨Nat.zero_le _, Nat.zero_le _⟩) ?_
    refine lv_i2l hx hb dX1_scale_74 rfl ?_
    refine lv_aload_n hx hb dX1_scale_75 rfl (lv_at hl 1 rfl) ?_
    refine va_get (D := D) (ci := 1) (v := .int ba_66) (C := RX1) (T := TX1) (N := 6) hx hb hts hin0 hown hK hP 0 rfl rfl 3 (by decide) (hts (.fieldLink RX1 40 "RealBitsModel" "base" "I") (by decide +kernel)) (fun _ h9 => h9) rfl dX1_scale_76 ?_
    refine lv_iload_n hx hb dX1_scale_79 rfl (lv_at hl 2 rfl) ?_
    refine sc_i (W.runS (As := [.int y1]) (rest := [.int ba_66, .long (Int32.toInt64 ((fX1_units y1))), .ref h0]) ⟨hx, hb, hml, hown, hts⟩ (ccX1_isNegative l y1 ) (va_cwS 1 hts gX1_scale_X1_isNegative rfl rfl rfl (by decide +kernel) ⟨Nat.le_of_ble_eq_true rfl, Nat.le_of_ble_eq_true rfl⟩) st_pre rfl rfl hl.1 rfl (lv_room (Nat.le_of_ble_eq_true rfl)) dX1_scale_80 ⟨Nat.zero_le _, Nat.zero_le _⟩) ?_
    refine k1_callv (va_runV (As := [.long (Int32.toInt64 ((fX1_units y1))), .int ba_66, .int (fX1_isNegative y1)]) (rest := []) ⟨hx, hb, hml, hown, hts⟩ (ccX1_put l D cJ h0 h1 hne mo vfl row_66 ba_66 mr_66 vex ((Int32.toInt64 ((fX1_units y1)))) ba_66 ((fX1_isNegative y1)) (putOk_self _ _)) (cwV 3 hts gX1_scale_X1_put rfl rfl rfl (by decide +kernel) ⟨Nat.le_of_ble_eq_true rfl, Nat.le_of_ble_eq_true rfl⟩) (w1_pre hK hP hmr) rfl rfl hl.1 rfl (lv_room (Nat.le_of_ble_eq_true rfl)) dX1_scale_83 ⟨Nat.zero_le _, Nat.zero_le _⟩) hS (fun u H locs hw hP hmr hS => ?_)
    obtain ⟨row_83, rfl⟩ : ∃ z, z = u := ⟨_, rfl⟩
    have hP : va_P D vwCl (bw1 cJ h0 h1 mo vfl row_83 ba_66 mr_66 vex) H := hP
    replace hE : fX1_scale mo fl row ba mr ex x1 x2 = fX1_scale_k86 mo vfl row_83 ba_66 mr_66 vex := by have h : fX1_scale mo fl row ba mr ex x1 x2 = fX1_scale_k86 mo vfl ((fX1_put row_66 ba_66 ((Int32.toInt64 ((fX1_units y1)))) ba_66 ((fX1_isNegative y1)))) ba_66 mr_66 vex := hE; rw [← hw] at h; exact h
    refine lv_aload_n hx hb dX1_scale_86 rfl (lv_at hl 1 rfl) ?_
    refine k1_calli (va_runV (As := []) (rest := []) ⟨hx, hb, hml, hown, hts⟩ (ccX1_settle l D cJ h0 h1 hne mo vfl row_83 ba_66 mr_66 vex  ) (cwV 0 hts gX1_scale_X1_settle rfl rfl rfl (by decide +kernel) ⟨Nat.le_of_ble_eq_true rfl, Nat.le_of_ble_eq_true rfl⟩) (w1_pre hK hP hmr) rfl rfl hl.1 rfl (lv_room (Nat.le_of_ble_eq_true rfl)) dX1_scale_87 ⟨Nat.zero_le _, Nat.zero_le _⟩) hS (fun r_87 u H locs hw hP hmr hS => ?_)
    obtain ⟨row_87, rfl⟩ : ∃ z, z = u := ⟨_, rfl⟩
    have hP : va_P D vwCl (bw1 cJ h0 h1 mo vfl row_87 ba_66 mr_66 vex) H := hP
    replace hE : fX1_scale mo fl row ba mr ex x1 x2 = fX1_scale_k90 r_87 mo vfl row_87 ba_66 mr_66 vex := by have h : fX1_scale mo fl row ba mr ex x1 x2 = fX1_scale_k90 ((fX1_settle row_83).1) mo vfl ((fX1_settle row_83).2) ba_66 mr_66 vex := hE; rw [← hw] at h; exact h
    refine lv_istore (lv' := [(4, .int r_87), (3, .int z0), (0, .ref h0), (1, .int y1)]) hx hb dX1_scale_90 hl (by decide) rfl (fun ls hl => ?_)
    refine lv_aload_n hx hb dX1_scale_92 rfl (lv_at hl 2 rfl) ?_
    refine lv_iload hx hb dX1_scale_93 (lv_at hl 0 rfl) ?_
    refine k1_calli (va_runV (As := [.int r_87]) (rest := []) ⟨hx, hb, hml, hown, hts⟩ (ccX1_finish l D cJ h0 h1 hne mo vfl row_87 ba_66 mr_66 vex r_87 ) (cwV 1 hts gX1_scale_X1_finish rfl rfl rfl (by decide +kernel) ⟨Nat.le_of_ble_eq_true rfl, Nat.le_of_ble_eq_true rfl⟩) (w1_pre hK hP hmr) rfl rfl hl.1 rfl (lv_room (Nat.le_of_ble_eq_true rfl)) dX1_scale_95 ⟨Nat.zero_le _, Nat.zero_le _⟩) hS (fun r_95 u H locs hw hP hmr hS => ?_)
    obtain ⟨fl_95, ex_95⟩ := u
    have hP : va_P D vwCl (bw1 cJ h0 h1 mo fl_95 row_87 ba_66 mr_66 ex_95) H := hP
    replace hE : fX1_scale mo fl row ba mr ex x1 x2 = fX1_scale_k98 r_95 mo fl_95 row_87 ba_66 mr_66 ex_95 := by have h : fX1_scale mo fl row ba mr ex x1 x2 = fX1_scale_k98 ((fX1_finish mo vfl row_87 ba_66 mr_66 vex r_87).1) mo ((fX1_finish mo vfl row_87 ba_66 mr_66 vex r_87).2.1) row_87 ba_66 mr_66 ((fX1_finish mo vfl row_87 ba_66 mr_66 vex r_87).2.2) := hE; rw [← hw] at h; exact h
    exact W.iret hx hb hr (fun t ht hW => ⟨⟨_, (fl_95, row_87, ba_66, mr_66, ex_95), rfl, hE.symm, by rw [ht]; exact hP, va_K.moved hW.alike hK, hmr⟩, hS.F ht⟩) hS.2.2 dX1_scale_98
  have hE : fX1_scale mo fl row ba mr ex x1 x2 = fX1_scale mo fl row ba mr ex x1 x2 := rfl
  refine lv_iload_n hx hb dX1_scale_0 rfl (lv_at hl 1 rfl) ?_
  refine sc_i (W.runS (As := [.int x1]) (rest := []) ⟨hx, hb, hml, hown, hts⟩ (ccX1_isNone l x1 ) (va_cwS 1 hts gX1_scale_X1_isNone rfl rfl rfl (by decide +kernel) ⟨Nat.le_of_ble_eq_true rfl, Nat.le_of_ble_eq_true rfl⟩) st_pre rfl rfl hl.1 rfl (lv_room (Nat.le_of_ble_eq_true rfl)) dX1_scale_1 ⟨Nat.zero_le _, Nat.zero_le _⟩) ?_
  refine lv_if_eq (tgt := 15) hx hb dX1_scale_4 (by decide) (fun c_4 => ?_) (fun c_4 => ?_)
  · replace hE := hE.trans (if_pos c_4)
    refine lv_iload_n hx hb dX1_scale_15 rfl (lv_at hl 1 rfl) ?_
    refine sc_i (W.runS (As := [.int x1]) (rest := []) ⟨hx, hb, hml, hown, hts⟩ (ccX1_isInfinite l x1 ) (va_cwS 1 hts gX1_scale_X1_isInfinite rfl rfl rfl (by decide +kernel) ⟨Nat.le_of_ble_eq_true rfl, Nat.le_of_ble_eq_true rfl⟩) st_pre rfl rfl hl.1 rfl (lv_room (Nat.le_of_ble_eq_true rfl)) dX1_scale_16 ⟨Nat.zero_le _, Nat.zero_le _⟩) ?_
    refine lv_if_ne (tgt := 29) hx hb dX1_scale_19 (by decide) (fun c_19 => ?_) (fun c_19 => ?_)
    · replace hE := hE.trans (if_neg c_19)
      refine lv_iload_n hx hb dX1_scale_29 rfl (lv_at hl 1 rfl) ?_
      exact W.iret hx hb hr (fun t ht hW => ⟨⟨_, (fl, row, ba, mr, ex), rfl, hE.symm, by rw [ht]; exact hP, va_K.moved hW.alike hK, hmr⟩, hS.F ht⟩) hS.2.2 dX1_scale_30
    · replace hE := hE.trans (if_pos c_19)
      refine lv_iload_n hx hb dX1_scale_22 rfl (lv_at hl 1 rfl) ?_
      refine sc_i (W.runS (As := [.int x1]) (rest := []) ⟨hx, hb, hml, hown, hts⟩ (ccX1_isZero l x1 ) (va_cwS 1 hts gX1_scale_X1_isZero rfl rfl rfl (by decide +kernel) ⟨Nat.le_of_ble_eq_true rfl, Nat.le_of_ble_eq_true rfl⟩) st_pre rfl rfl hl.1 rfl (lv_room (Nat.le_of_ble_eq_true rfl)) dX1_scale_23 ⟨Nat.zero_le _, Nat.zero_le _⟩) ?_
      refine lv_if_eq (tgt := 31) hx hb dX1_scale_26 (by decide) (fun c_26 => ?_) (fun c_26 => ?_)
      · replace hE := hE.trans (if_pos c_26)
        refine lv_iload_n hx hb dX1_scale_31 rfl (lv_at hl 2 rfl) ?_
        refine lv_sipush (v := -400) hx hb dX1_scale_32 (by decide) ?_
        refine lv_icmp_ge (tgt := 44) hx hb dX1_scale_35 (by decide) (fun c_35 => ?_) (fun c_35 => ?_)
        · replace hE := hE.trans (if_pos c_35)
          refine lv_iload_n hx hb dX1_scale_44 rfl (lv_at hl 2 rfl) ?_
          refine lv_sipush (v := 400) hx hb dX1_scale_45 (by decide) ?_
          refine lv_icmp_le (tgt := 57) hx hb dX1_scale_48 (by decide) (fun c_48 => ?_) (fun c_48 => ?_)
          · replace hE := hE.trans (if_pos c_48)
            refine lv_iload_n hx hb dX1_scale_57 rfl (lv_at hl 2 rfl) ?_
            exact j_58 x1 x2 fl row ba mr ex _ _ _ hP hS (lv_sub hl [0, 1] rfl) hmr hE
          · replace hE := hE.trans (if_neg c_48)
            refine lv_sipush (v := 400) hx hb dX1_scale_51 (by decide) ?_
            refine lv_goto (tgt := 58) hx hb dX1_scale_54 (by decide) ?_
            exact j_58 x1 (400 : Int32) fl row ba mr ex _ _ _ hP hS (lv_sub hl [0, 1] rfl) hmr hE
        · replace hE := hE.trans (if_neg c_35)
          refine lv_sipush (v := -400) hx hb dX1_scale_38 (by decide) ?_
          refine lv_goto (tgt := 58) hx hb dX1_scale_41 (by decide) ?_
          exact j_58 x1 (-400 : Int32) fl row ba mr ex _ _ _ hP hS (lv_sub hl [0, 1] rfl) hmr hE
      · replace hE := hE.trans (if_neg c_26)
        refine lv_iload_n hx hb dX1_scale_29 rfl (lv_at hl 1 rfl) ?_
        exact W.iret hx hb hr (fun t ht hW => ⟨⟨_, (fl, row, ba, mr, ex), rfl, hE.symm, by rw [ht]; exact hP, va_K.moved hW.alike hK, hmr⟩, hS.F ht⟩) hS.2.2 dX1_scale_30
  · replace hE := hE.trans (if_neg c_4)
    refine lv_aload_n hx hb dX1_scale_7 rfl (lv_at hl 0 rfl) ?_
    refine lv_iload_n hx hb dX1_scale_8 rfl (lv_at hl 1 rfl) ?_
    refine lv_iconst (v := 0) hx hb dX1_scale_9 (by decide) ?_
    refine lv_iconst (v := 0) hx hb dX1_scale_10 (by decide) ?_
    refine k1_calli (va_runV (As := [.int x1, .int (0 : Int32), .int (0 : Int32)]) (rest := []) ⟨hx, hb, hml, hown, hts⟩ (ccX1_none l D cJ h0 h1 hne mo fl row ba mr ex x1 (0 : Int32) (0 : Int32) ) (cwV 3 hts gX1_scale_X1_none rfl rfl rfl (by decide +kernel) ⟨Nat.le_of_ble_eq_true rfl, Nat.le_of_ble_eq_true rfl⟩) (w1_pre hK hP hmr) rfl rfl hl.1 rfl (lv_room (Nat.le_of_ble_eq_true rfl)) dX1_scale_11 ⟨Nat.zero_le _, Nat.zero_le _⟩) hS (fun r_11 u H locs hw hP hmr hS => ?_)
    obtain ⟨fl_11, rfl⟩ : ∃ z, z = u := ⟨_, rfl⟩
    have hP : va_P D vwCl (bw1 cJ h0 h1 mo fl_11 row ba mr ex) H := hP
    replace hE : fX1_scale mo fl row ba mr ex x1 x2 = fX1_scale_k14 r_11 mo fl_11 row ba mr ex := by have h : fX1_scale mo fl row ba mr ex x1 x2 = fX1_scale_k14 ((fX1_none fl x1 (0 : Int32) (0 : Int32)).1) mo ((fX1_none fl x1 (0 : Int32) (0 : Int32)).2) row ba mr ex := hE; rw [← hw] at h; exact h
    exact W.iret hx hb hr (fun t ht hW => ⟨⟨_, (fl_11, row, ba, mr, ex), rfl, hE.symm, by rw [ht]; exact hP, va_K.moved hW.alike hK, hmr⟩, hS.F ht⟩) hS.2.2 dX1_scale_14
/-! X1_nearest -/
def fX1_nearest_k59 (z0 : Int32) (mo : Int32) (vrow : (Nat → Int64)) (vba : Int32) (vmr : Int32) (vex : Int32) : Int64 × (Nat → Int64) × Int32 × Int32 × Int32 := ((Int32.toInt64 z0), vrow, vba, vmr, vex)
def fX1_nearest_k49 (y1 : Int32) (y2 : Int32) (mo : Int32) (vrow : (Nat → Int64)) (vba : Int32) (vmr : Int32) (vex : Int32) : Int64 × (Nat → Int64) × Int32 × Int32 × Int32 := fX1_nearest_k59 ((fX1_rounded mo vrow vmr vex ((-y2)) ((fX1_isNegative y1))).1) mo vrow vba vmr ((fX1_rounded mo vrow vmr vex ((-y2)) ((fX1_isNegative y1))).2)
def fX1_nearest_k38 (y1 : Int32) (y2 : Int32) (mo : Int32) (vrow : (Nat → Int64)) (vba : Int32) (vmr : Int32) (vex : Int32) : Int64 × (Nat → Int64) × Int32 × Int32 × Int32 := fX1_nearest_k49 y1 y2 mo ((fX1_put vrow vba ((Int32.toInt64 ((fX1_units y1)))) y2 (0 : Int32))) vba vmr vex
def fX1_nearest_k5 (y1 : Int32) (y2 : Int32) (mo : Int32) (vrow : (Nat → Int64)) (vba : Int32) (vmr : Int32) (vex : Int32) : Int64 × (Nat → Int64) × Int32 × Int32 × Int32 := (if y2 < 0 then fX1_nearest_k38 y1 y2 mo ((fX1_empty vrow vba vmr y2).1) ((fX1_empty vrow vba vmr y2).2.1) ((fX1_empty vrow vba vmr y2).2.2) vex else (if (16 : Int32) ≤ y2 then ((((Int32.toInt64 ((fX1_units y1)))) <<< (Int32.toInt64 (16 : Int32) &&& 63)), vrow, vba, vmr, (1 : Int32)) else ((((Int32.toInt64 ((fX1_units y1)))) <<< (Int32.toInt64 y2 &&& 63)), vrow, vba, vmr, (1 : Int32))))
def fX1_nearest (mo : Int32) (row : (Nat → Int64)) (ba : Int32) (mr : Int32) (ex : Int32) (x1 : Int32) : Int64 × (Nat → Int64) × Int32 × Int32 × Int32 := fX1_nearest_k5 x1 ((fX1_place x1)) mo row ba mr ex
set_option maxHeartbeats 4000000 in
set_option maxRecDepth 100000 in
theorem ccX1_nearest (l : Launch) (D : va_G) (cJ : ClassId) (h0 h1 : Nat) (hne : h0 ≠ h1) (mo fl : Int32) (row : Nat → Int64) (ba mr ex : Int32) (x1 : Int32)  : Met l yX1_nearest wsX1_nearest { frames := 3, cells := 0, slots := 0, locals := 69 } (va_Pc [.ref h0, .int x1] (w1 D cJ h0 h1 mo fl row ba mr ex)) (va_Ql (fun (r : Int64) (u : (Nat → Int64) × Int32 × Int32 × Int32) => (r, u) = fX1_nearest mo row ba mr ex x1) (fun u t => w1 D cJ h0 h1 mo fl u.1 u.2.1 u.2.2.1 u.2.2.2 t) (aw1 h0 h1)) 0 0 (aw1 h0 h1) := by
  refine Met.ofW (cc := cX1_nearest) (maxL := 3) (ret := (some .long)) (by decide) rfl ?_
  intro p e s m args below meth c s₁ B hml hv
  obtain ⟨rfl, hP, hK, hmr⟩ := hv
  have hx := B.exec
  have hb := B.bytes
  have hr := B.returns
  have hts := atoms_spec (ws := wsX1_nearest) B.pre
  have hown : s.vm.findClass RX1 = some m.cls := findClass_of_methodNamed B.named
  have hlocks := B.notSynchronized
  have hin0 : ∀ w ∈ wsX10, w ∈ wsX1_nearest := fun _ h => List.mem_cons_of_mem _ (List.mem_append_right _ h)
  have hS : va_S (aw1 h0 h1) s.heap s.heap [] := va_S.rf
  have hP : va_P D vwCl (bw1 cJ h0 h1 mo fl row ba mr ex) s.heap := hP
  have hl := lv_entry ([.ref h0, .int x1]) (n := 3) (Nat.le_of_ble_eq_true rfl)
  rw [lg_entry_eq]
  generalize (lg_sl ([.ref h0, .int x1]) ++ List.replicate (3 - (lg_sl ([.ref h0, .int x1])).length) Slot.unset).toArray = ls at hl ⊢
  have hl : lv_has ls 3 [(0, .ref h0), (1, .int x1)] := hl
  have hE : fX1_nearest mo row ba mr ex x1 = fX1_nearest mo row ba mr ex x1 := rfl
  refine lv_iload_n hx hb dX1_nearest_0 rfl (lv_at hl 1 rfl) ?_
  refine sc_i (W.runS (As := [.int x1]) (rest := []) ⟨hx, hb, hml, hown, hts⟩ (ccX1_place l x1 ) (va_cwS 1 hts gX1_nearest_X1_place rfl rfl rfl (by decide +kernel) ⟨Nat.le_of_ble_eq_true rfl, Nat.le_of_ble_eq_true rfl⟩) st_pre rfl rfl hl.1 rfl (lv_room (Nat.le_of_ble_eq_true rfl)) dX1_nearest_1 ⟨Nat.zero_le _, Nat.zero_le _⟩) ?_
  refine lv_topi (fun x2_4 e_4 => ?_)
  refine lv_istore_n (lv' := [(2, .int x2_4), (0, .ref h0), (1, .int x1)]) hx hb dX1_nearest_4 rfl hl (by decide) rfl (fun ls hl => ?_)
  replace hE : fX1_nearest mo row ba mr ex x1 = fX1_nearest_k5 x1 x2_4 mo row ba mr ex := by rw [e_4]; exact hE
  refine lv_iload_n hx hb dX1_nearest_5 rfl (lv_at hl 0 rfl) ?_
  refine lv_if_lt (tgt := 33) hx hb dX1_nearest_6 (by decide) (fun c_6 => ?_) (fun c_6 => ?_)
  · replace hE := hE.trans (if_pos c_6)
    refine lv_aload_n hx hb dX1_nearest_33 rfl (lv_at hl 1 rfl) ?_
    refine lv_iload_n hx hb dX1_nearest_34 rfl (lv_at hl 0 rfl) ?_
    refine k1_callv (va_runV (As := [.int x2_4]) (rest := []) ⟨hx, hb, hml, hown, hts⟩ (ccX1_empty l D cJ h0 h1 hne mo fl row ba mr ex x2_4 ) (cwV 1 hts gX1_nearest_X1_empty rfl rfl rfl (by decide +kernel) ⟨Nat.le_of_ble_eq_true rfl, Nat.le_of_ble_eq_true rfl⟩) (w1_pre hK hP hmr) rfl rfl hl.1 rfl (lv_room (Nat.le_of_ble_eq_true rfl)) dX1_nearest_35 ⟨Nat.zero_le _, Nat.zero_le _⟩) hS (fun u H locs hw hP hmr hS => ?_)
    obtain ⟨row_35, ba_35, mr_35⟩ := u
    have hP : va_P D vwCl (bw1 cJ h0 h1 mo fl row_35 ba_35 mr_35 ex) H := hP
    have hba := empty_ba hw
    replace hE : fX1_nearest mo row ba mr ex x1 = fX1_nearest_k38 x1 x2_4 mo row_35 ba_35 mr_35 ex := by have h : fX1_nearest mo row ba mr ex x1 = fX1_nearest_k38 x1 x2_4 mo ((fX1_empty row ba mr x2_4).1) ((fX1_empty row ba mr x2_4).2.1) ((fX1_empty row ba mr x2_4).2.2) ex := hE; rw [← hw] at h; exact h
    refine lv_aload_n hx hb dX1_nearest_38 rfl (lv_at hl 1 rfl) ?_
    refine lv_iload_n hx hb dX1_nearest_39 rfl (lv_at hl 2 rfl) ?_
    refine sc_i (W.runS (As := [.int x1]) (rest := [.ref h0]) ⟨hx, hb, hml, hown, hts⟩ (ccX1_units l x1 ) (va_cwS 1 hts gX1_nearest_X1_units rfl rfl rfl (by decide +kernel) ⟨Nat.le_of_ble_eq_true rfl, Nat.le_of_ble_eq_true rfl⟩) st_pre rfl rfl hl.1 rfl (lv_room (Nat.le_of_ble_eq_true rfl)) dX1_nearest_40 ⟨Nat.zero_le _, Nat.zero_le _⟩) ?_
    refine lv_i2l hx hb dX1_nearest_43 rfl ?_
    refine lv_iload_n hx hb dX1_nearest_44 rfl (lv_at hl 0 rfl) ?_
    refine lv_iconst (v := 0) hx hb dX1_nearest_45 (by decide) ?_
    refine k1_callv (va_runV (As := [.long (Int32.toInt64 ((fX1_units x1))), .int x2_4, .int (0 : Int32)]) (rest := []) ⟨hx, hb, hml, hown, hts⟩ (ccX1_put l D cJ h0 h1 hne mo fl row_35 ba_35 mr_35 ex ((Int32.toInt64 ((fX1_units x1)))) x2_4 (0 : Int32) (by rw [hba]; exact putOk_self _ _)) (cwV 3 hts gX1_nearest_X1_put rfl rfl rfl (by decide +kernel) ⟨Nat.le_of_ble_eq_true rfl, Nat.le_of_ble_eq_true rfl⟩) (w1_pre hK hP hmr) rfl rfl hl.1 rfl (lv_room (Nat.le_of_ble_eq_true rfl)) dX1_nearest_46 ⟨Nat.zero_le _, Nat.zero_le _⟩) hS (fun u H locs hw hP hmr hS => ?_)
    obtain ⟨row_46, rfl⟩ : ∃ z, z = u := ⟨_, rfl⟩
    have hP : va_P D vwCl (bw1 cJ h0 h1 mo fl row_46 ba_35 mr_35 ex) H := hP
    replace hE : fX1_nearest mo row ba mr ex x1 = fX1_nearest_k49 x1 x2_4 mo row_46 ba_35 mr_35 ex := by have h : fX1_nearest mo row ba mr ex x1 = fX1_nearest_k49 x1 x2_4 mo ((fX1_put row_35 ba_35 ((Int32.toInt64 ((fX1_units x1)))) x2_4 (0 : Int32))) ba_35 mr_35 ex := hE; rw [← hw] at h; exact h
    refine lv_aload_n hx hb dX1_nearest_49 rfl (lv_at hl 1 rfl) ?_
    refine lv_iload_n hx hb dX1_nearest_50 rfl (lv_at hl 0 rfl) ?_
    refine lv_ineg hx hb dX1_nearest_51 ?_
    refine lv_iload_n hx hb dX1_nearest_52 rfl (lv_at hl 2 rfl) ?_
    refine sc_i (W.runS (As := [.int x1]) (rest := [.int (-x2_4), .ref h0]) ⟨hx, hb, hml, hown, hts⟩ (ccX1_isNegative l x1 ) (va_cwS 1 hts gX1_nearest_X1_isNegative rfl rfl rfl (by decide +kernel) ⟨Nat.le_of_ble_eq_true rfl, Nat.le_of_ble_eq_true rfl⟩) st_pre rfl rfl hl.1 rfl (lv_room (Nat.le_of_ble_eq_true rfl)) dX1_nearest_53 ⟨Nat.zero_le _, Nat.zero_le _⟩) ?_
    refine k1_calli (va_runV (As := [.int (-x2_4), .int (fX1_isNegative x1)]) (rest := []) ⟨hx, hb, hml, hown, hts⟩ (ccX1_rounded l D cJ h0 h1 hne mo fl row_46 ba_35 mr_35 ex ((-x2_4)) ((fX1_isNegative x1)) ) (cwV 2 hts gX1_nearest_X1_rounded rfl rfl rfl (by decide +kernel) ⟨Nat.le_of_ble_eq_true rfl, Nat.le_of_ble_eq_true rfl⟩) (w1_pre hK hP hmr) rfl rfl hl.1 rfl (lv_room (Nat.le_of_ble_eq_true rfl)) dX1_nearest_56 ⟨Nat.zero_le _, Nat.zero_le _⟩) hS (fun r_56 u H locs hw hP hmr hS => ?_)
    obtain ⟨ex_56, rfl⟩ : ∃ z, z = u := ⟨_, rfl⟩
    have hP : va_P D vwCl (bw1 cJ h0 h1 mo fl row_46 ba_35 mr_35 ex_56) H := hP
    replace hE : fX1_nearest mo row ba mr ex x1 = fX1_nearest_k59 r_56 mo row_46 ba_35 mr_35 ex_56 := by have h : fX1_nearest mo row ba mr ex x1 = fX1_nearest_k59 ((fX1_rounded mo row_46 mr_35 ex ((-x2_4)) ((fX1_isNegative x1))).1) mo row_46 ba_35 mr_35 ((fX1_rounded mo row_46 mr_35 ex ((-x2_4)) ((fX1_isNegative x1))).2) := hE; rw [← hw] at h; exact h
    refine lv_i2l hx hb dX1_nearest_59 rfl ?_
    exact W.lret hx hb hr (fun t ht hW => ⟨⟨_, (row_46, ba_35, mr_35, ex_56), rfl, hE.symm, by rw [ht]; exact hP, va_K.moved hW.alike hK, hmr⟩, hS.F ht⟩) hS.2.2 dX1_nearest_60
  · replace hE := hE.trans (if_neg c_6)
    refine lv_aload_n hx hb dX1_nearest_9 rfl (lv_at hl 1 rfl) ?_
    refine lv_iconst (v := 1) hx hb dX1_nearest_10 (by decide) ?_
    refine va_put (D := D) (ci := 1) (v := .int (1 : Int32)) (ty := .boolean) (C := RX1) (T := TX1) (N := 6) hx hb hts hin0 tyX1 tyX1_ok nmX1 hown hK hP (dw1 hne) hS 0 rfl rfl 5 (by decide) (hts (.fieldLink RX1 60 "RealBitsModel" "exact" "Z") (by decide +kernel)) (fun _ h9 => h9) rfl (by decide +kernel) (isB_nar isB_1) (isB_fit isB_1) (Nat.le_of_ble_eq_true rfl) dX1_nearest_11 (fun H locs hP _ hS => ?_)
    have hP : va_P D vwCl (bw1 cJ h0 h1 mo fl row ba mr (1 : Int32)) H := hP
    refine lv_iload_n hx hb dX1_nearest_14 rfl (lv_at hl 2 rfl) ?_
    refine sc_i (W.runS (As := [.int x1]) (rest := []) ⟨hx, hb, hml, hown, hts⟩ (ccX1_units l x1 ) (va_cwS 1 hts gX1_nearest_X1_units rfl rfl rfl (by decide +kernel) ⟨Nat.le_of_ble_eq_true rfl, Nat.le_of_ble_eq_true rfl⟩) st_pre rfl rfl hl.1 rfl (lv_room (Nat.le_of_ble_eq_true rfl)) dX1_nearest_15 ⟨Nat.zero_le _, Nat.zero_le _⟩) ?_
    refine lv_i2l hx hb dX1_nearest_18 rfl ?_
    refine lv_iload_n hx hb dX1_nearest_19 rfl (lv_at hl 0 rfl) ?_
    refine lv_bipush (v := 16) hx hb dX1_nearest_20 (by decide) ?_
    refine lv_icmp_ge (tgt := 29) hx hb dX1_nearest_22 (by decide) (fun c_22 => ?_) (fun c_22 => ?_)
    · replace hE := hE.trans (if_pos c_22)
      refine lv_bipush (v := 16) hx hb dX1_nearest_29 (by decide) ?_
      refine lv_lshl hx hb dX1_nearest_31 rfl ?_
      exact W.lret hx hb hr (fun t ht hW => ⟨⟨_, (row, ba, mr, (1 : Int32)), rfl, hE.symm, by rw [ht]; exact hP, va_K.moved hW.alike hK, hmr⟩, hS.F ht⟩) hS.2.2 dX1_nearest_32
    · replace hE := hE.trans (if_neg c_22)
      refine lv_iload_n hx hb dX1_nearest_25 rfl (lv_at hl 0 rfl) ?_
      refine lv_goto (tgt := 31) hx hb dX1_nearest_26 (by decide) ?_
      refine lv_lshl hx hb dX1_nearest_31 rfl ?_
      exact W.lret hx hb hr (fun t ht hW => ⟨⟨_, (row, ba, mr, (1 : Int32)), rfl, hE.symm, by rw [ht]; exact hP, va_K.moved hW.alike hK, hmr⟩, hS.F ht⟩) hS.2.2 dX1_nearest_32
/-! X1_whole -/
def fX1_whole_k112 (z0 : Int32) (mo : Int32) (vfl : Int32) (vrow : (Nat → Int64)) (vba : Int32) (vmr : Int32) (vex : Int32) : Int32 × Int32 × (Nat → Int64) × Int32 × Int32 × Int32 := (z0, vfl, vrow, vba, vmr, vex)
def fX1_whole_k109 (z1 : Int32) (mo : Int32) (vfl : Int32) (vrow : (Nat → Int64)) (vba : Int32) (vmr : Int32) (vex : Int32) : Int32 × Int32 × (Nat → Int64) × Int32 × Int32 × Int32 := fX1_whole_k112 ((fX1_finish mo vfl vrow vba vmr vex z1).1) mo ((fX1_finish mo vfl vrow vba vmr vex z1).2.1) vrow vba vmr ((fX1_finish mo vfl vrow vba vmr vex z1).2.2)
def fX1_whole_k92 (y1 : Int32) (z0 : Int32) (mo : Int32) (vfl : Int32) (vrow : (Nat → Int64)) (vba : Int32) (vmr : Int32) (vex : Int32) : Int32 × Int32 × (Nat → Int64) × Int32 × Int32 × Int32 := (if ((fX1_isNegative y1)) = z0 then fX1_whole_k109 (0 : Int32) mo vfl vrow vba vmr vex else fX1_whole_k109 (1 : Int32) mo vfl vrow vba vmr vex)
def fX1_whole_k88 (y1 : Int32) (mo : Int32) (vfl : Int32) (vrow : (Nat → Int64)) (vba : Int32) (vmr : Int32) (vex : Int32) : Int32 × Int32 × (Nat → Int64) × Int32 × Int32 × Int32 := fX1_whole_k92 y1 ((fX1_settle vrow).1) mo vfl ((fX1_settle vrow).2) vba vmr vex
def fX1_whole_k81 (y1 : Int32) (y2 : Int64) (mo : Int32) (vfl : Int32) (vrow : (Nat → Int64)) (vba : Int32) (vmr : Int32) (vex : Int32) : Int32 × Int32 × (Nat → Int64) × Int32 × Int32 × Int32 := fX1_whole_k88 y1 mo vfl ((fX1_put vrow vba y2 (0 : Int32) (0 : Int32))) vba vmr vex
def fX1_whole_k61 (y1 : Int32) (y2 : Int64) (mo : Int32) (vfl : Int32) (vrow : (Nat → Int64)) (vba : Int32) (vmr : Int32) (vex : Int32) : Int32 × Int32 × (Nat → Int64) × Int32 × Int32 × Int32 := (if ((lg_cmp y2 (0 : Int64))) = 0 then ((fX1_signed (0 : Int32) ((fX1_isNegative y1))), vfl, vrow, vba, vmr, vex) else fX1_whole_k81 y1 y2 mo vfl ((fX1_empty vrow vba vmr (0 : Int32)).1) ((fX1_empty vrow vba vmr (0 : Int32)).2.1) ((fX1_empty vrow vba vmr (0 : Int32)).2.2) vex)
def fX1_whole_k43 (y1 : Int32) (z0 : Int64) (mo : Int32) (vfl : Int32) (vrow : (Nat → Int64)) (vba : Int32) (vmr : Int32) (vex : Int32) : Int32 × Int32 × (Nat → Int64) × Int32 × Int32 × Int32 := (if vex = 0 then fX1_whole_k61 y1 z0 mo ((vfl ||| (1 : Int32))) vrow vba vmr vex else fX1_whole_k61 y1 z0 mo vfl vrow vba vmr vex)
def fX1_whole_k14 (z0 : Int32) (mo : Int32) (vfl : Int32) (vrow : (Nat → Int64)) (vba : Int32) (vmr : Int32) (vex : Int32) : Int32 × Int32 × (Nat → Int64) × Int32 × Int32 × Int32 := (z0, vfl, vrow, vba, vmr, vex)
def fX1_whole (mo : Int32) (fl : Int32) (row : (Nat → Int64)) (ba : Int32) (mr : Int32) (ex : Int32) (x1 : Int32) : Int32 × Int32 × (Nat → Int64) × Int32 × Int32 × Int32 := (if ((fX1_isNone x1)) = 0 then (if ((fX1_isInfinite x1)) = 0 then (if ((fX1_isZero x1)) = 0 then (if ((fX1_place x1)) < 0 then fX1_whole_k43 x1 ((fX1_nearest mo row ba mr ex x1).1) mo fl ((fX1_nearest mo row ba mr ex x1).2.1) ((fX1_nearest mo row ba mr ex x1).2.2.1) ((fX1_nearest mo row ba mr ex x1).2.2.2.1) ((fX1_nearest mo row ba mr ex x1).2.2.2.2) else (x1, fl, row, ba, mr, ex)) else (x1, fl, row, ba, mr, ex)) else (x1, fl, row, ba, mr, ex)) else fX1_whole_k14 ((fX1_none fl x1 (0 : Int32) (0 : Int32)).1) mo ((fX1_none fl x1 (0 : Int32) (0 : Int32)).2) row ba mr ex)
set_option maxHeartbeats 4000000 in
set_option maxRecDepth 100000 in
theorem ccX1_whole (l : Launch) (D : va_G) (cJ : ClassId) (h0 h1 : Nat) (hne : h0 ≠ h1) (mo fl : Int32) (row : Nat → Int64) (ba mr ex : Int32) (x1 : Int32)  : Met l yX1_whole wsX1_whole { frames := 4, cells := 0, slots := 0, locals := 95 } (va_Pc [.ref h0, .int x1] (w1 D cJ h0 h1 mo fl row ba mr ex)) (va_Qi (fun (r : Int32) (u : Int32 × (Nat → Int64) × Int32 × Int32 × Int32) => (r, u) = fX1_whole mo fl row ba mr ex x1) (fun u t => w1 D cJ h0 h1 mo u.1 u.2.1 u.2.2.1 u.2.2.2.1 u.2.2.2.2 t) (aw1 h0 h1)) 0 0 (aw1 h0 h1) := by
  refine Met.ofW (cc := cX1_whole) (maxL := 5) (ret := (some .int)) (by decide) rfl ?_
  intro p e s m args below meth c s₁ B hml hv
  obtain ⟨rfl, hP, hK, hmr⟩ := hv
  have hx := B.exec
  have hb := B.bytes
  have hr := B.returns
  have hts := atoms_spec (ws := wsX1_whole) B.pre
  have hown : s.vm.findClass RX1 = some m.cls := findClass_of_methodNamed B.named
  have hlocks := B.notSynchronized
  have hin0 : ∀ w ∈ wsX10, w ∈ wsX1_whole := fun _ h => List.mem_cons_of_mem _ (List.mem_append_right _ h)
  have hS : va_S (aw1 h0 h1) s.heap s.heap [] := va_S.rf
  have hP : va_P D vwCl (bw1 cJ h0 h1 mo fl row ba mr ex) s.heap := hP
  have hl := lv_entry ([.ref h0, .int x1]) (n := 5) (Nat.le_of_ble_eq_true rfl)
  rw [lg_entry_eq]
  generalize (lg_sl ([.ref h0, .int x1]) ++ List.replicate (5 - (lg_sl ([.ref h0, .int x1])).length) Slot.unset).toArray = ls at hl ⊢
  have hl : lv_has ls 5 [(0, .ref h0), (1, .int x1)] := hl
  have j_109 : ∀ (z1 : Int32) (vfl : Int32) (vrow : (Nat → Int64)) (vba : Int32) (vmr : Int32) (vex : Int32) (H : Heap) (locs : List Loc) (ls : Array Slot), va_P D vwCl (bw1 cJ h0 h1 mo vfl vrow vba vmr vex) H → va_S (aw1 h0 h1) s.heap H locs → lv_has ls 5 [] → isB z1 → isB vmr → fX1_whole mo fl row ba mr ex x1 = fX1_whole_k109 z1 mo vfl vrow vba vmr vex → W p l e (headSpec wsX1_whole { frames := 4, cells := 0, slots := 0, locals := 95 }).room s m ([.ref h0, .int x1] : List Value).toArray below meth c H locs 0 0 (MQ below (va_Qi (fun (r : Int32) (u : Int32 × (Nat → Int64) × Int32 × Int32 × Int32) => (r, u) = fX1_whole mo fl row ba mr ex x1) (fun u t => w1 D cJ h0 h1 mo u.1 u.2.1 u.2.2.1 u.2.2.2.1 u.2.2.2.2 t) (aw1 h0 h1)) ([.ref h0, .int x1] : List Value).toArray s 0 0 (aw1 h0 h1)) (F0 m 109 ls [.int z1, .ref h0]) := by
    intro z1 vfl vrow vba vmr vex H locs ls hP hS hl b_z1 hmr hE
    refine k1_calli (va_runV (As := [.int z1]) (rest := []) ⟨hx, hb, hml, hown, hts⟩ (ccX1_finish l D cJ h0 h1 hne mo vfl vrow vba vmr vex z1 ) (cwV 1 hts gX1_whole_X1_finish rfl rfl rfl (by decide +kernel) ⟨Nat.le_of_ble_eq_true rfl, Nat.le_of_ble_eq_true rfl⟩) (w1_pre hK hP hmr) rfl rfl hl.1 rfl (lv_room (Nat.le_of_ble_eq_true rfl)) dX1_whole_109 ⟨Nat.zero_le _, Nat.zero_le _⟩) hS (fun r_109 u H locs hw hP hmr hS => ?_)
    obtain ⟨fl_109, ex_109⟩ := u
    have hP : va_P D vwCl (bw1 cJ h0 h1 mo fl_109 vrow vba vmr ex_109) H := hP
    replace hE : fX1_whole mo fl row ba mr ex x1 = fX1_whole_k112 r_109 mo fl_109 vrow vba vmr ex_109 := by have h : fX1_whole mo fl row ba mr ex x1 = fX1_whole_k112 ((fX1_finish mo vfl vrow vba vmr vex z1).1) mo ((fX1_finish mo vfl vrow vba vmr vex z1).2.1) vrow vba vmr ((fX1_finish mo vfl vrow vba vmr vex z1).2.2) := hE; rw [← hw] at h; exact h
    exact W.iret hx hb hr (fun t ht hW => ⟨⟨_, (fl_109, vrow, vba, vmr, ex_109), rfl, hE.symm, by rw [ht]; exact hP, va_K.moved hW.alike hK, hmr⟩, hS.F ht⟩) hS.2.2 dX1_whole_112
  have j_61 : ∀ (y1 : Int32) (y2 : Int64) (vfl : Int32) (vrow : (Nat → Int64)) (vba : Int32) (vmr : Int32) (vex : Int32) (H : Heap) (locs : List Loc) (ls : Array Slot), va_P D vwCl (bw1 cJ h0 h1 mo vfl vrow vba vmr vex) H → va_S (aw1 h0 h1) s.heap H locs → lv_has ls 5 [(0, .ref h0), (1, .int y1), (2, .long y2)] → isB vmr → fX1_whole mo fl row ba mr ex x1 = fX1_whole_k61 y1 y2 mo vfl vrow vba vmr vex → W p l e (headSpec wsX1_whole { frames := 4, cells := 0, slots := 0, locals := 95 }).room s m ([.ref h0, .int x1] : List Value).toArray below meth c H locs 0 0 (MQ below (va_Qi (fun (r : Int32) (u : Int32 × (Nat → Int64) × Int32 × Int32 × Int32) => (r, u) = fX1_whole mo fl row ba mr ex x1) (fun u t => w1 D cJ h0 h1 mo u.1 u.2.1 u.2.2.1 u.2.2.2.1 u.2.2.2.2 t) (aw1 h0 h1)) ([.ref h0, .int x1] : List Value).toArray s 0 0 (aw1 h0 h1)) (F0 m 61 ls []) := by
    intro y1 y2 vfl vrow vba vmr vex H locs ls hP hS hl hmr hE
    refine lv_lload_n hx hb dX1_whole_61 rfl (lv_at hl 2 rfl) ?_
    refine lv_lconst (v := 0) hx hb dX1_whole_62 (by decide) ?_
    refine W.lcmp hx hb dX1_whole_63 ?_
    refine lv_if_ne (tgt := 76) hx hb dX1_whole_64 (by decide) (fun c_64 => ?_) (fun c_64 => ?_)
    · replace hE := hE.trans (if_neg c_64)
      refine lv_aload_n hx hb dX1_whole_76 rfl (lv_at hl 0 rfl) ?_
      refine lv_iconst (v := 0) hx hb dX1_whole_77 (by decide) ?_
      refine k1_callv (va_runV (As := [.int (0 : Int32)]) (rest := []) ⟨hx, hb, hml, hown, hts⟩ (ccX1_empty l D cJ h0 h1 hne mo vfl vrow vba vmr vex (0 : Int32) ) (cwV 1 hts gX1_whole_X1_empty rfl rfl rfl (by decide +kernel) ⟨Nat.le_of_ble_eq_true rfl, Nat.le_of_ble_eq_true rfl⟩) (w1_pre hK hP hmr) rfl rfl hl.1 rfl (lv_room (Nat.le_of_ble_eq_true rfl)) dX1_whole_78 ⟨Nat.zero_le _, Nat.zero_le _⟩) hS (fun u H locs hw hP hmr hS => ?_)
      obtain ⟨row_78, ba_78, mr_78⟩ := u
      have hP : va_P D vwCl (bw1 cJ h0 h1 mo vfl row_78 ba_78 mr_78 vex) H := hP
      have hba := empty_ba hw
      replace hE : fX1_whole mo fl row ba mr ex x1 = fX1_whole_k81 y1 y2 mo vfl row_78 ba_78 mr_78 vex := by have h : fX1_whole mo fl row ba mr ex x1 = fX1_whole_k81 y1 y2 mo vfl ((fX1_empty vrow vba vmr (0 : Int32)).1) ((fX1_empty vrow vba vmr (0 : Int32)).2.1) ((fX1_empty vrow vba vmr (0 : Int32)).2.2) vex := hE; rw [← hw] at h; exact h
      refine lv_aload_n hx hb dX1_whole_81 rfl (lv_at hl 0 rfl) ?_
      refine lv_lload_n hx hb dX1_whole_82 rfl (lv_at hl 2 rfl) ?_
      refine lv_iconst (v := 0) hx hb dX1_whole_83 (by decide) ?_
      refine lv_iconst (v := 0) hx hb dX1_whole_84 (by decide) ?_
      refine k1_callv (va_runV (As := [.long y2, .int (0 : Int32), .int (0 : Int32)]) (rest := []) ⟨hx, hb, hml, hown, hts⟩ (ccX1_put l D cJ h0 h1 hne mo vfl row_78 ba_78 mr_78 vex y2 (0 : Int32) (0 : Int32) (by rw [hba]; exact putOk_self _ _)) (cwV 3 hts gX1_whole_X1_put rfl rfl rfl (by decide +kernel) ⟨Nat.le_of_ble_eq_true rfl, Nat.le_of_ble_eq_true rfl⟩) (w1_pre hK hP hmr) rfl rfl hl.1 rfl (lv_room (Nat.le_of_ble_eq_true rfl)) dX1_whole_85 ⟨Nat.zero_le _, Nat.zero_le _⟩) hS (fun u H locs hw hP hmr hS => ?_)
      obtain ⟨row_85, rfl⟩ : ∃ z, z = u := ⟨_, rfl⟩
      have hP : va_P D vwCl (bw1 cJ h0 h1 mo vfl row_85 ba_78 mr_78 vex) H := hP
      replace hE : fX1_whole mo fl row ba mr ex x1 = fX1_whole_k88 y1 mo vfl row_85 ba_78 mr_78 vex := by have h : fX1_whole mo fl row ba mr ex x1 = fX1_whole_k88 y1 mo vfl ((fX1_put row_78 ba_78 y2 (0 : Int32) (0 : Int32))) ba_78 mr_78 vex := hE; rw [← hw] at h; exact h
      refine lv_aload_n hx hb dX1_whole_88 rfl (lv_at hl 0 rfl) ?_
      refine k1_calli (va_runV (As := []) (rest := []) ⟨hx, hb, hml, hown, hts⟩ (ccX1_settle l D cJ h0 h1 hne mo vfl row_85 ba_78 mr_78 vex  ) (cwV 0 hts gX1_whole_X1_settle rfl rfl rfl (by decide +kernel) ⟨Nat.le_of_ble_eq_true rfl, Nat.le_of_ble_eq_true rfl⟩) (w1_pre hK hP hmr) rfl rfl hl.1 rfl (lv_room (Nat.le_of_ble_eq_true rfl)) dX1_whole_89 ⟨Nat.zero_le _, Nat.zero_le _⟩) hS (fun r_89 u H locs hw hP hmr hS => ?_)
      obtain ⟨row_89, rfl⟩ : ∃ z, z = u := ⟨_, rfl⟩
      have hP : va_P D vwCl (bw1 cJ h0 h1 mo vfl row_89 ba_78 mr_78 vex) H := hP
      replace hE : fX1_whole mo fl row ba mr ex x1 = fX1_whole_k92 y1 r_89 mo vfl row_89 ba_78 mr_78 vex := by have h : fX1_whole mo fl row ba mr ex x1 = fX1_whole_k92 y1 ((fX1_settle row_85).1) mo vfl ((fX1_settle row_85).2) ba_78 mr_78 vex := hE; rw [← hw] at h; exact h
      refine lv_istore (lv' := [(4, .int r_89), (0, .ref h0), (1, .int y1), (2, .long y2)]) hx hb dX1_whole_92 hl (by decide) rfl (fun ls hl => ?_)
      refine lv_aload_n hx hb dX1_whole_94 rfl (lv_at hl 1 rfl) ?_
      refine lv_iload_n hx hb dX1_whole_95 rfl (lv_at hl 2 rfl) ?_
      refine sc_i (W.runS (As := [.int y1]) (rest := [.ref h0]) ⟨hx, hb, hml, hown, hts⟩ (ccX1_isNegative l y1 ) (va_cwS 1 hts gX1_whole_X1_isNegative rfl rfl rfl (by decide +kernel) ⟨Nat.le_of_ble_eq_true rfl, Nat.le_of_ble_eq_true rfl⟩) st_pre rfl rfl hl.1 rfl (lv_room (Nat.le_of_ble_eq_true rfl)) dX1_whole_96 ⟨Nat.zero_le _, Nat.zero_le _⟩) ?_
      refine lv_iload hx hb dX1_whole_99 (lv_at hl 0 rfl) ?_
      refine lv_icmp_eq (tgt := 108) hx hb dX1_whole_101 (by decide) (fun c_101 => ?_) (fun c_101 => ?_)
      · replace hE := hE.trans (if_pos c_101)
        refine lv_iconst (v := 0) hx hb dX1_whole_108 (by decide) ?_
        exact j_109 (0 : Int32) vfl row_89 ba_78 mr_78 vex _ _ _ hP hS (lv_sub hl [] rfl) isB_0 hmr hE
      · replace hE := hE.trans (if_neg c_101)
        refine lv_iconst (v := 1) hx hb dX1_whole_104 (by decide) ?_
        refine lv_goto (tgt := 109) hx hb dX1_whole_105 (by decide) ?_
        exact j_109 (1 : Int32) vfl row_89 ba_78 mr_78 vex _ _ _ hP hS (lv_sub hl [] rfl) isB_1 hmr hE
    · replace hE := hE.trans (if_pos c_64)
      refine lv_iconst (v := 0) hx hb dX1_whole_67 (by decide) ?_
      refine lv_iload_n hx hb dX1_whole_68 rfl (lv_at hl 1 rfl) ?_
      refine sc_i (W.runS (As := [.int y1]) (rest := [.int (0 : Int32)]) ⟨hx, hb, hml, hown, hts⟩ (ccX1_isNegative l y1 ) (va_cwS 1 hts gX1_whole_X1_isNegative rfl rfl rfl (by decide +kernel) ⟨Nat.le_of_ble_eq_true rfl, Nat.le_of_ble_eq_true rfl⟩) st_pre rfl rfl hl.1 rfl (lv_room (Nat.le_of_ble_eq_true rfl)) dX1_whole_69 ⟨Nat.zero_le _, Nat.zero_le _⟩) ?_
      refine sc_i (W.runS (As := [.int (0 : Int32), .int (fX1_isNegative y1)]) (rest := []) ⟨hx, hb, hml, hown, hts⟩ (ccX1_signed l (0 : Int32) ((fX1_isNegative y1)) ) (va_cwS 2 hts gX1_whole_X1_signed rfl rfl rfl (by decide +kernel) ⟨Nat.le_of_ble_eq_true rfl, Nat.le_of_ble_eq_true rfl⟩) st_pre rfl rfl hl.1 rfl (lv_room (Nat.le_of_ble_eq_true rfl)) dX1_whole_72 ⟨Nat.zero_le _, Nat.zero_le _⟩) ?_
      exact W.iret hx hb hr (fun t ht hW => ⟨⟨_, (vfl, vrow, vba, vmr, vex), rfl, hE.symm, by rw [ht]; exact hP, va_K.moved hW.alike hK, hmr⟩, hS.F ht⟩) hS.2.2 dX1_whole_75
  have hE : fX1_whole mo fl row ba mr ex x1 = fX1_whole mo fl row ba mr ex x1 := rfl
  refine lv_iload_n hx hb dX1_whole_0 rfl (lv_at hl 1 rfl) ?_
  refine sc_i (W.runS (As := [.int x1]) (rest := []) ⟨hx, hb, hml, hown, hts⟩ (ccX1_isNone l x1 ) (va_cwS 1 hts gX1_whole_X1_isNone rfl rfl rfl (by decide +kernel) ⟨Nat.le_of_ble_eq_true rfl, Nat.le_of_ble_eq_true rfl⟩) st_pre rfl rfl hl.1 rfl (lv_room (Nat.le_of_ble_eq_true rfl)) dX1_whole_1 ⟨Nat.zero_le _, Nat.zero_le _⟩) ?_
  refine lv_if_eq (tgt := 15) hx hb dX1_whole_4 (by decide) (fun c_4 => ?_) (fun c_4 => ?_)
  · replace hE := hE.trans (if_pos c_4)
    refine lv_iload_n hx hb dX1_whole_15 rfl (lv_at hl 1 rfl) ?_
    refine sc_i (W.runS (As := [.int x1]) (rest := []) ⟨hx, hb, hml, hown, hts⟩ (ccX1_isInfinite l x1 ) (va_cwS 1 hts gX1_whole_X1_isInfinite rfl rfl rfl (by decide +kernel) ⟨Nat.le_of_ble_eq_true rfl, Nat.le_of_ble_eq_true rfl⟩) st_pre rfl rfl hl.1 rfl (lv_room (Nat.le_of_ble_eq_true rfl)) dX1_whole_16 ⟨Nat.zero_le _, Nat.zero_le _⟩) ?_
    refine lv_if_ne (tgt := 36) hx hb dX1_whole_19 (by decide) (fun c_19 => ?_) (fun c_19 => ?_)
    · replace hE := hE.trans (if_neg c_19)
      refine lv_iload_n hx hb dX1_whole_36 rfl (lv_at hl 1 rfl) ?_
      exact W.iret hx hb hr (fun t ht hW => ⟨⟨_, (fl, row, ba, mr, ex), rfl, hE.symm, by rw [ht]; exact hP, va_K.moved hW.alike hK, hmr⟩, hS.F ht⟩) hS.2.2 dX1_whole_37
    · replace hE := hE.trans (if_pos c_19)
      refine lv_iload_n hx hb dX1_whole_22 rfl (lv_at hl 1 rfl) ?_
      refine sc_i (W.runS (As := [.int x1]) (rest := []) ⟨hx, hb, hml, hown, hts⟩ (ccX1_isZero l x1 ) (va_cwS 1 hts gX1_whole_X1_isZero rfl rfl rfl (by decide +kernel) ⟨Nat.le_of_ble_eq_true rfl, Nat.le_of_ble_eq_true rfl⟩) st_pre rfl rfl hl.1 rfl (lv_room (Nat.le_of_ble_eq_true rfl)) dX1_whole_23 ⟨Nat.zero_le _, Nat.zero_le _⟩) ?_
      refine lv_if_ne (tgt := 36) hx hb dX1_whole_26 (by decide) (fun c_26 => ?_) (fun c_26 => ?_)
      · replace hE := hE.trans (if_neg c_26)
        refine lv_iload_n hx hb dX1_whole_36 rfl (lv_at hl 1 rfl) ?_
        exact W.iret hx hb hr (fun t ht hW => ⟨⟨_, (fl, row, ba, mr, ex), rfl, hE.symm, by rw [ht]; exact hP, va_K.moved hW.alike hK, hmr⟩, hS.F ht⟩) hS.2.2 dX1_whole_37
      · replace hE := hE.trans (if_pos c_26)
        refine lv_iload_n hx hb dX1_whole_29 rfl (lv_at hl 1 rfl) ?_
        refine sc_i (W.runS (As := [.int x1]) (rest := []) ⟨hx, hb, hml, hown, hts⟩ (ccX1_place l x1 ) (va_cwS 1 hts gX1_whole_X1_place rfl rfl rfl (by decide +kernel) ⟨Nat.le_of_ble_eq_true rfl, Nat.le_of_ble_eq_true rfl⟩) st_pre rfl rfl hl.1 rfl (lv_room (Nat.le_of_ble_eq_true rfl)) dX1_whole_30 ⟨Nat.zero_le _, Nat.zero_le _⟩) ?_
        refine lv_if_lt (tgt := 38) hx hb dX1_whole_33 (by decide) (fun c_33 => ?_) (fun c_33 => ?_)
        · replace hE := hE.trans (if_pos c_33)
          refine lv_aload_n hx hb dX1_whole_38 rfl (lv_at hl 0 rfl) ?_
          refine lv_iload_n hx hb dX1_whole_39 rfl (lv_at hl 1 rfl) ?_
          refine k1_calll (va_runV (As := [.int x1]) (rest := []) ⟨hx, hb, hml, hown, hts⟩ (ccX1_nearest l D cJ h0 h1 hne mo fl row ba mr ex x1 ) (cwV 1 hts gX1_whole_X1_nearest rfl rfl rfl (by decide +kernel) ⟨Nat.le_of_ble_eq_true rfl, Nat.le_of_ble_eq_true rfl⟩) (w1_pre hK hP hmr) rfl rfl hl.1 rfl (lv_room (Nat.le_of_ble_eq_true rfl)) dX1_whole_40 ⟨Nat.zero_le _, Nat.zero_le _⟩) hS (fun r_40 u H locs hw hP hmr hS => ?_)
          obtain ⟨row_40, ba_40, mr_40, ex_40⟩ := u
          have hP : va_P D vwCl (bw1 cJ h0 h1 mo fl row_40 ba_40 mr_40 ex_40) H := hP
          replace hE : fX1_whole mo fl row ba mr ex x1 = fX1_whole_k43 x1 r_40 mo fl row_40 ba_40 mr_40 ex_40 := by have h : fX1_whole mo fl row ba mr ex x1 = fX1_whole_k43 x1 ((fX1_nearest mo row ba mr ex x1).1) mo fl ((fX1_nearest mo row ba mr ex x1).2.1) ((fX1_nearest mo row ba mr ex x1).2.2.1) ((fX1_nearest mo row ba mr ex x1).2.2.2.1) ((fX1_nearest mo row ba mr ex x1).2.2.2.2) := hE; rw [← hw] at h; exact h
          refine lv_lstore_n (lv' := [(2, .long r_40), (0, .ref h0), (1, .int x1)]) hx hb dX1_whole_43 rfl hl (by decide) rfl (fun ls hl => ?_)
          refine lv_aload_n hx hb dX1_whole_44 rfl (lv_at hl 1 rfl) ?_
          refine va_get (D := D) (ci := 1) (v := .int ex_40) (C := RX1) (T := TX1) (N := 6) hx hb hts hin0 hown hK hP 0 rfl rfl 5 (by decide) (hts (.fieldLink RX1 60 "RealBitsModel" "exact" "Z") (by decide +kernel)) (fun _ h9 => h9) rfl dX1_whole_45 ?_
          refine lv_if_ne (tgt := 61) hx hb dX1_whole_48 (by decide) (fun c_48 => ?_) (fun c_48 => ?_)
          · replace hE := hE.trans (if_neg c_48)
            exact j_61 x1 r_40 fl row_40 ba_40 mr_40 ex_40 _ _ _ hP hS (lv_sub hl [1, 2, 0] rfl) hmr hE
          · replace hE := hE.trans (if_pos c_48)
            refine lv_aload_n hx hb dX1_whole_51 rfl (lv_at hl 1 rfl) ?_
            refine lv_aload_n hx hb dX1_whole_52 rfl (lv_at hl 1 rfl) ?_
            refine va_get (D := D) (ci := 1) (v := .int fl) (C := RX1) (T := TX1) (N := 6) hx hb hts hin0 hown hK hP 0 rfl rfl 1 (by decide) (hts (.fieldLink RX1 17 "RealBitsModel" "flags" "I") (by decide +kernel)) (fun _ h9 => h9) rfl dX1_whole_53 ?_
            refine lv_iconst (v := 1) hx hb dX1_whole_56 (by decide) ?_
            refine lv_ior hx hb dX1_whole_57 ?_
            refine va_put (D := D) (ci := 1) (v := .int (fl ||| (1 : Int32))) (ty := .int) (C := RX1) (T := TX1) (N := 6) hx hb hts hin0 tyX1 tyX1_ok nmX1 hown hK hP (dw1 hne) hS 0 rfl rfl 1 (by decide) (hts (.fieldLink RX1 17 "RealBitsModel" "flags" "I") (by decide +kernel)) (fun _ h9 => h9) rfl (by decide +kernel) rfl rfl (Nat.le_of_ble_eq_true rfl) dX1_whole_58 (fun H locs hP _ hS => ?_)
            have hP : va_P D vwCl (bw1 cJ h0 h1 mo ((fl ||| (1 : Int32))) row_40 ba_40 mr_40 ex_40) H := hP
            exact j_61 x1 r_40 ((fl ||| (1 : Int32))) row_40 ba_40 mr_40 ex_40 _ _ _ hP hS (lv_sub hl [1, 2, 0] rfl) hmr hE
        · replace hE := hE.trans (if_neg c_33)
          refine lv_iload_n hx hb dX1_whole_36 rfl (lv_at hl 1 rfl) ?_
          exact W.iret hx hb hr (fun t ht hW => ⟨⟨_, (fl, row, ba, mr, ex), rfl, hE.symm, by rw [ht]; exact hP, va_K.moved hW.alike hK, hmr⟩, hS.F ht⟩) hS.2.2 dX1_whole_37
  · replace hE := hE.trans (if_neg c_4)
    refine lv_aload_n hx hb dX1_whole_7 rfl (lv_at hl 0 rfl) ?_
    refine lv_iload_n hx hb dX1_whole_8 rfl (lv_at hl 1 rfl) ?_
    refine lv_iconst (v := 0) hx hb dX1_whole_9 (by decide) ?_
    refine lv_iconst (v := 0) hx hb dX1_whole_10 (by decide) ?_
    refine k1_calli (va_runV (As := [.int x1, .int (0 : Int32), .int (0 : Int32)]) (rest := []) ⟨hx, hb, hml, hown, hts⟩ (ccX1_none l D cJ h0 h1 hne mo fl row ba mr ex x1 (0 : Int32) (0 : Int32) ) (cwV 3 hts gX1_whole_X1_none rfl rfl rfl (by decide +kernel) ⟨Nat.le_of_ble_eq_true rfl, Nat.le_of_ble_eq_true rfl⟩) (w1_pre hK hP hmr) rfl rfl hl.1 rfl (lv_room (Nat.le_of_ble_eq_true rfl)) dX1_whole_11 ⟨Nat.zero_le _, Nat.zero_le _⟩) hS (fun r_11 u H locs hw hP hmr hS => ?_)
    obtain ⟨fl_11, rfl⟩ : ∃ z, z = u := ⟨_, rfl⟩
    have hP : va_P D vwCl (bw1 cJ h0 h1 mo fl_11 row ba mr ex) H := hP
    replace hE : fX1_whole mo fl row ba mr ex x1 = fX1_whole_k14 r_11 mo fl_11 row ba mr ex := by have h : fX1_whole mo fl row ba mr ex x1 = fX1_whole_k14 ((fX1_none fl x1 (0 : Int32) (0 : Int32)).1) mo ((fX1_none fl x1 (0 : Int32) (0 : Int32)).2) row ba mr ex := hE; rw [← hw] at h; exact h
    exact W.iret hx hb hr (fun t ht hW => ⟨⟨_, (fl_11, row, ba, mr, ex), rfl, hE.symm, by rw [ht]; exact hP, va_K.moved hW.alike hK, hmr⟩, hS.F ht⟩) hS.2.2 dX1_whole_14
/-! X1_toInt -/
def fX1_toInt_k103 (y1 : Int32) (y3 : Int64) (mo : Int32) (vfl : Int32) (vrow : (Nat → Int64)) (vba : Int32) (vmr : Int32) (vex : Int32) : Int32 × Int32 × (Nat → Int64) × Int32 × Int32 × Int32 := (if ((fX1_isNegative y1)) = 0 then ((Int64.toInt32 y3), vfl, vrow, vba, vmr, vex) else ((Int64.toInt32 ((-y3))), vfl, vrow, vba, vmr, vex))
def fX1_toInt_k65 (y1 : Int32) (y3 : Int64) (z0 : Int32) (mo : Int32) (vfl : Int32) (vrow : (Nat → Int64)) (vba : Int32) (vmr : Int32) (vex : Int32) : Int32 × Int32 × (Nat → Int64) × Int32 × Int32 × Int32 := (if z0 = 0 then ((-2147483648 : Int32), (vfl ||| (16 : Int32)), vrow, vba, vmr, vex) else (if vex = 0 then fX1_toInt_k103 y1 y3 mo ((vfl ||| (1 : Int32))) vrow vba vmr vex else fX1_toInt_k103 y1 y3 mo vfl vrow vba vmr vex))
def fX1_toInt_k29 (y1 : Int32) (y2 : Int32) (z0 : Int64) (mo : Int32) (vfl : Int32) (vrow : (Nat → Int64)) (vba : Int32) (vmr : Int32) (vex : Int32) : Int32 × Int32 × (Nat → Int64) × Int32 × Int32 × Int32 := (if y2 = 0 then fX1_toInt_k65 y1 z0 (0 : Int32) mo vfl vrow vba vmr vex else (if ((fX1_isNegative y1)) = 0 then (if 0 < ((lg_cmp z0 (2147483647 : Int64))) then fX1_toInt_k65 y1 z0 (0 : Int32) mo vfl vrow vba vmr vex else fX1_toInt_k65 y1 z0 (1 : Int32) mo vfl vrow vba vmr vex) else (if 0 < ((lg_cmp z0 (2147483648 : Int64))) then fX1_toInt_k65 y1 z0 (0 : Int32) mo vfl vrow vba vmr vex else fX1_toInt_k65 y1 z0 (1 : Int32) mo vfl vrow vba vmr vex)))
def fX1_toInt_k25 (y1 : Int32) (y2 : Int32) (z0 : Int64) (mo : Int32) (vfl : Int32) (vrow : (Nat → Int64)) (vba : Int32) (vmr : Int32) (vex : Int32) : Int32 × Int32 × (Nat → Int64) × Int32 × Int32 × Int32 := fX1_toInt_k29 y1 y2 z0 mo vfl vrow vba vmr vex
def fX1_toInt_k15 (y1 : Int32) (z0 : Int32) (mo : Int32) (vfl : Int32) (vrow : (Nat → Int64)) (vba : Int32) (vmr : Int32) (vex : Int32) : Int32 × Int32 × (Nat → Int64) × Int32 × Int32 × Int32 := (if z0 = 0 then fX1_toInt_k29 y1 z0 (0 : Int64) mo vfl vrow vba vmr vex else fX1_toInt_k25 y1 z0 ((fX1_nearest mo vrow vba vmr vex y1).1) mo vfl ((fX1_nearest mo vrow vba vmr vex y1).2.1) ((fX1_nearest mo vrow vba vmr vex y1).2.2.1) ((fX1_nearest mo vrow vba vmr vex y1).2.2.2.1) ((fX1_nearest mo vrow vba vmr vex y1).2.2.2.2))
def fX1_toInt (mo : Int32) (fl : Int32) (row : (Nat → Int64)) (ba : Int32) (mr : Int32) (ex : Int32) (x1 : Int32) : Int32 × Int32 × (Nat → Int64) × Int32 × Int32 × Int32 := (if (166 : Int32) ≤ ((fX1_exponent x1)) then fX1_toInt_k15 x1 (0 : Int32) mo fl row ba mr ex else fX1_toInt_k15 x1 (1 : Int32) mo fl row ba mr ex)
set_option maxHeartbeats 4000000 in
set_option maxRecDepth 100000 in
theorem ccX1_toInt (l : Launch) (D : va_G) (cJ : ClassId) (h0 h1 : Nat) (hne : h0 ≠ h1) (mo fl : Int32) (row : Nat → Int64) (ba mr ex : Int32) (x1 : Int32)  : Met l yX1_toInt wsX1_toInt { frames := 4, cells := 0, slots := 0, locals := 91 } (va_Pc [.ref h0, .int x1] (w1 D cJ h0 h1 mo fl row ba mr ex)) (va_Qi (fun (r : Int32) (u : Int32 × (Nat → Int64) × Int32 × Int32 × Int32) => (r, u) = fX1_toInt mo fl row ba mr ex x1) (fun u t => w1 D cJ h0 h1 mo u.1 u.2.1 u.2.2.1 u.2.2.2.1 u.2.2.2.2 t) (aw1 h0 h1)) 0 0 (aw1 h0 h1) := by
  refine Met.ofW (cc := cX1_toInt) (maxL := 6) (ret := (some .int)) (by decide) rfl ?_
  intro p e s m args below meth c s₁ B hml hv
  obtain ⟨rfl, hP, hK, hmr⟩ := hv
  have hx := B.exec
  have hb := B.bytes
  have hr := B.returns
  have hts := atoms_spec (ws := wsX1_toInt) B.pre
  have hown : s.vm.findClass RX1 = some m.cls := findClass_of_methodNamed B.named
  have hlocks := B.notSynchronized
  have hin0 : ∀ w ∈ wsX10, w ∈ wsX1_toInt := fun _ h => List.mem_cons_of_mem _ (List.mem_append_right _ h)
  have hS : va_S (aw1 h0 h1) s.heap s.heap [] := va_S.rf
  have hP : va_P D vwCl (bw1 cJ h0 h1 mo fl row ba mr ex) s.heap := hP
  have hl := lv_entry ([.ref h0, .int x1]) (n := 6) (Nat.le_of_ble_eq_true rfl)
  rw [lg_entry_eq]
  generalize (lg_sl ([.ref h0, .int x1]) ++ List.replicate (6 - (lg_sl ([.ref h0, .int x1])).length) Slot.unset).toArray = ls at hl ⊢
  have hl : lv_has ls 6 [(0, .ref h0), (1, .int x1)] := hl
  have j_103 : ∀ (y1 : Int32) (y3 : Int64) (vfl : Int32) (vrow : (Nat → Int64)) (vba : Int32) (vmr : Int32) (vex : Int32) (H : Heap) (locs : List Loc) (ls : Array Slot), va_P D vwCl (bw1 cJ h0 h1 mo vfl vrow vba vmr vex) H → va_S (aw1 h0 h1) s.heap H locs → lv_has ls 6 [(1, .int y1), (3, .long y3)] → isB vmr → fX1_toInt mo fl row ba mr ex x1 = fX1_toInt_k103 y1 y3 mo vfl vrow vba vmr vex → W p l e (headSpec wsX1_toInt { frames := 4, cells := 0, slots := 0, locals := 91 }).room s m ([.ref h0, .int x1] : List Value).toArray below meth c H locs 0 0 (MQ below (va_Qi (fun (r : Int32) (u : Int32 × (Nat → Int64) × Int32 × Int32 × Int32) => (r, u) = fX1_toInt mo fl row ba mr ex x1) (fun u t => w1 D cJ h0 h1 mo u.1 u.2.1 u.2.2.1 u.2.2.2.1 u.2.2.2.2 t) (aw1 h0 h1)) ([.ref h0, .int x1] : List Value).toArray s 0 0 (aw1 h0 h1)) (F0 m 103 ls []) := by
    intro y1 y3 vfl vrow vba vmr vex H locs ls hP hS hl hmr hE
    refine lv_iload_n hx hb dX1_toInt_103 rfl (lv_at hl 0 rfl) ?_
    refine sc_i (W.runS (As := [.int y1]) (rest := []) ⟨hx, hb, hml, hown, hts⟩ (ccX1_isNegative l y1 ) (va_cwS 1 hts gX1_toInt_X1_isNegative rfl rfl rfl (by decide +kernel) ⟨Nat.le_of_ble_eq_true rfl, Nat.le_of_ble_eq_true rfl⟩) st_pre rfl rfl hl.1 rfl (lv_room (Nat.le_of_ble_eq_true rfl)) dX1_toInt_104 ⟨Nat.zero_le _, Nat.zero_le _⟩) ?_
    refine lv_if_eq (tgt := 115) hx hb dX1_toInt_107 (by decide) (fun c_107 => ?_) (fun c_107 => ?_)
    · replace hE := hE.trans (if_pos c_107)
      refine lv_lload_n hx hb dX1_toInt_115 rfl (lv_at hl 1 rfl) ?_
      refine lv_l2i hx hb dX1_toInt_116 rfl ?_
      exact W.iret hx hb hr (fun t ht hW => ⟨⟨_, (vfl, vrow, vba, vmr, vex), rfl, hE.symm, by rw [ht]; exact hP, va_K.moved hW.alike hK, hmr⟩, hS.F ht⟩) hS.2.2 dX1_toInt_117
    · replace hE := hE.trans (if_neg c_107)
      refine lv_lload_n hx hb dX1_toInt_110 rfl (lv_at hl 1 rfl) ?_
      refine lv_lneg hx hb dX1_toInt_111 ?_
      refine lv_goto (tgt := 116) hx hb dX1_toInt_112 (by decide) ?_
      refine lv_l2i hx hb dX1_toInt_116 rfl ?_
      exact W.iret hx hb hr (fun t ht hW => ⟨⟨_, (vfl, vrow, vba, vmr, vex), rfl, hE.symm, by rw [ht]; exact hP, va_K.moved hW.alike hK, hmr⟩, hS.F ht⟩) hS.2.2 dX1_toInt_117
  have j_65 : ∀ (y1 : Int32) (y3 : Int64) (z0 : Int32) (vfl : Int32) (vrow : (Nat → Int64)) (vba : Int32) (vmr : Int32) (vex : Int32) (H : Heap) (locs : List Loc) (ls : Array Slot), va_P D vwCl (bw1 cJ h0 h1 mo vfl vrow vba vmr vex) H → va_S (aw1 h0 h1) s.heap H locs → lv_has ls 6 [(0, .ref h0), (1, .int y1), (3, .long y3)] → isB z0 → isB vmr → fX1_toInt mo fl row ba mr ex x1 = fX1_toInt_k65 y1 y3 z0 mo vfl vrow vba vmr vex → W p l e (headSpec wsX1_toInt { frames := 4, cells := 0, slots := 0, locals := 91 }).room s m ([.ref h0, .int x1] : List Value).toArray below meth c H locs 0 0 (MQ below (va_Qi (fun (r : Int32) (u : Int32 × (Nat → Int64) × Int32 × Int32 × Int32) => (r, u) = fX1_toInt mo fl row ba mr ex x1) (fun u t => w1 D cJ h0 h1 mo u.1 u.2.1 u.2.2.1 u.2.2.2.1 u.2.2.2.2 t) (aw1 h0 h1)) ([.ref h0, .int x1] : List Value).toArray s 0 0 (aw1 h0 h1)) (F0 m 65 ls [.int z0]) := by
    intro y1 y3 z0 vfl vrow vba vmr vex H locs ls hP hS hl b_z0 hmr hE
    refine lv_istore (lv' := [(5, .int z0), (0, .ref h0), (1, .int y1), (3, .long y3)]) hx hb dX1_toInt_65 hl (by decide) rfl (fun ls hl => ?_)
    refine lv_iload hx hb dX1_toInt_67 (lv_at hl 0 rfl) ?_
    refine lv_if_ne (tgt := 86) hx hb dX1_toInt_69 (by decide) (fun c_69 => ?_) (fun c_69 => ?_)
    · replace hE := hE.trans (if_neg c_69)
      refine lv_aload_n hx hb dX1_toInt_86 rfl (lv_at hl 1 rfl) ?_
      refine va_get (D := D) (ci := 1) (v := .int vex) (C := RX1) (T := TX1) (N := 6) hx hb hts hin0 hown hK hP 0 rfl rfl 5 (by decide) (hts (.fieldLink RX1 60 "RealBitsModel" "exact" "Z") (by decide +kernel)) (fun _ h9 => h9) rfl dX1_toInt_87 ?_
      refine lv_if_ne (tgt := 103) hx hb dX1_toInt_90 (by decide) (fun c_90 => ?_) (fun c_90 => ?_)
      · replace hE := hE.trans (if_neg c_90)
        exact j_103 y1 y3 vfl vrow vba vmr vex _ _ _ hP hS (lv_sub hl [2, 3] rfl) hmr hE
      · replace hE := hE.trans (if_pos c_90)
        refine lv_aload_n hx hb dX1_toInt_93 rfl (lv_at hl 1 rfl) ?_
        refine lv_aload_n hx hb dX1_toInt_94 rfl (lv_at hl 1 rfl) ?_
        refine va_get (D := D) (ci := 1) (v := .int vfl) (C := RX1) (T := TX1) (N := 6) hx hb hts hin0 hown hK hP 0 rfl rfl 1 (by decide) (hts (.fieldLink RX1 17 "RealBitsModel" "flags" "I") (by decide +kernel)) (fun _ h9 => h9) rfl dX1_toInt_95 ?_
        refine lv_iconst (v := 1) hx hb dX1_toInt_98 (by decide) ?_
        refine lv_ior hx hb dX1_toInt_99 ?_
        refine va_put (D := D) (ci := 1) (v := .int (vfl ||| (1 : Int32))) (ty := .int) (C := RX1) (T := TX1) (N := 6) hx hb hts hin0 tyX1 tyX1_ok nmX1 hown hK hP (dw1 hne) hS 0 rfl rfl 1 (by decide) (hts (.fieldLink RX1 17 "RealBitsModel" "flags" "I") (by decide +kernel)) (fun _ h9 => h9) rfl (by decide +kernel) rfl rfl (Nat.le_of_ble_eq_true rfl) dX1_toInt_100 (fun H locs hP _ hS => ?_)
        have hP : va_P D vwCl (bw1 cJ h0 h1 mo ((vfl ||| (1 : Int32))) vrow vba vmr vex) H := hP
        exact j_103 y1 y3 ((vfl ||| (1 : Int32))) vrow vba vmr vex _ _ _ hP hS (lv_sub hl [2, 3] rfl) hmr hE
    · replace hE := hE.trans (if_pos c_69)
      refine lv_aload_n hx hb dX1_toInt_72 rfl (lv_at hl 1 rfl) ?_
      refine lv_aload_n hx hb dX1_toInt_73 rfl (lv_at hl 1 rfl) ?_
      refine va_get (D := D) (ci := 1) (v := .int vfl) (C := RX1) (T := TX1) (N := 6) hx hb hts hin0 hown hK hP 0 rfl rfl 1 (by decide) (hts (.fieldLink RX1 17 "RealBitsModel" "flags" "I") (by decide +kernel)) (fun _ h9 => h9) rfl dX1_toInt_74 ?_
      refine lv_bipush (v := 16) hx hb dX1_toInt_77 (by decide) ?_
      refine lv_ior hx hb dX1_toInt_79 ?_
      refine va_put (D := D) (ci := 1) (v := .int (vfl ||| (16 : Int32))) (ty := .int) (C := RX1) (T := TX1) (N := 6) hx hb hts hin0 tyX1 tyX1_ok nmX1 hown hK hP (dw1 hne) hS 0 rfl rfl 1 (by decide) (hts (.fieldLink RX1 17 "RealBitsModel" "flags" "I") (by decide +kernel)) (fun _ h9 => h9) rfl (by decide +kernel) rfl rfl (Nat.le_of_ble_eq_true rfl) dX1_toInt_80 (fun H locs hP _ hS => ?_)
      have hP : va_P D vwCl (bw1 cJ h0 h1 mo ((vfl ||| (16 : Int32))) vrow vba vmr vex) H := hP
      refine lv_ldc hx hb hown (hts (.constant RX1 34 (-2147483648)) (by decide +kernel)) dX1_toInt_83 ?_
      exact W.iret hx hb hr (fun t ht hW => ⟨⟨_, (((vfl ||| (16 : Int32))), vrow, vba, vmr, vex), rfl, hE.symm, by rw [ht]; exact hP, va_K.moved hW.alike hK, hmr⟩, hS.F ht⟩) hS.2.2 dX1_toInt_85
  have j_29 : ∀ (y1 : Int32) (y2 : Int32) (z0 : Int64) (vfl : Int32) (vrow : (Nat → Int64)) (vba : Int32) (vmr : Int32) (vex : Int32) (H : Heap) (locs : List Loc) (ls : Array Slot), va_P D vwCl (bw1 cJ h0 h1 mo vfl vrow vba vmr vex) H → va_S (aw1 h0 h1) s.heap H locs → lv_has ls 6 [(0, .ref h0), (1, .int y1), (2, .int y2)] → isB y2 → isB vmr → fX1_toInt mo fl row ba mr ex x1 = fX1_toInt_k29 y1 y2 z0 mo vfl vrow vba vmr vex → W p l e (headSpec wsX1_toInt { frames := 4, cells := 0, slots := 0, locals := 91 }).room s m ([.ref h0, .int x1] : List Value).toArray below meth c H locs 0 0 (MQ below (va_Qi (fun (r : Int32) (u : Int32 × (Nat → Int64) × Int32 × Int32 × Int32) => (r, u) = fX1_toInt mo fl row ba mr ex x1) (fun u t => w1 D cJ h0 h1 mo u.1 u.2.1 u.2.2.1 u.2.2.2.1 u.2.2.2.2 t) (aw1 h0 h1)) ([.ref h0, .int x1] : List Value).toArray s 0 0 (aw1 h0 h1)) (F0 m 29 ls [.long z0]) := by
    intro y1 y2 z0 vfl vrow vba vmr vex H locs ls hP hS hl b_y2 hmr hE
    refine lv_lstore_n (lv' := [(3, .long z0), (0, .ref h0), (1, .int y1), (2, .int y2)]) hx hb dX1_toInt_29 rfl hl (by decide) rfl (fun ls hl => ?_)
    refine lv_iload_n hx hb dX1_toInt_30 rfl (lv_at hl 3 rfl) ?_
    refine lv_if_eq (tgt := 64) hx hb dX1_toInt_31 (by decide) (fun c_31 => ?_) (fun c_31 => ?_)
    · replace hE := hE.trans (if_pos c_31)
      refine lv_iconst (v := 0) hx hb dX1_toInt_64 (by decide) ?_
      exact j_65 y1 z0 (0 : Int32) vfl vrow vba vmr vex _ _ _ hP hS (lv_sub hl [1, 2, 0] rfl) isB_0 hmr hE
    · replace hE := hE.trans (if_neg c_31)
      refine lv_iload_n hx hb dX1_toInt_34 rfl (lv_at hl 2 rfl) ?_
      refine sc_i (W.runS (As := [.int y1]) (rest := []) ⟨hx, hb, hml, hown, hts⟩ (ccX1_isNegative l y1 ) (va_cwS 1 hts gX1_toInt_X1_isNegative rfl rfl rfl (by decide +kernel) ⟨Nat.le_of_ble_eq_true rfl, Nat.le_of_ble_eq_true rfl⟩) st_pre rfl rfl hl.1 rfl (lv_room (Nat.le_of_ble_eq_true rfl)) dX1_toInt_35 ⟨Nat.zero_le _, Nat.zero_le _⟩) ?_
      refine lv_if_eq (tgt := 52) hx hb dX1_toInt_38 (by decide) (fun c_38 => ?_) (fun c_38 => ?_)
      · replace hE := hE.trans (if_pos c_38)
        refine lv_lload_n hx hb dX1_toInt_52 rfl (lv_at hl 0 rfl) ?_
        refine lv_ldc2 hx hb hown (hts (.constantLong RX1 134 (2147483647)) (by decide +kernel)) dX1_toInt_53 ?_
        refine W.lcmp hx hb dX1_toInt_56 ?_
        refine lv_if_gt (tgt := 64) hx hb dX1_toInt_57 (by decide) (fun c_57 => ?_) (fun c_57 => ?_)
        · replace hE := hE.trans (if_pos c_57)
          refine lv_iconst (v := 0) hx hb dX1_toInt_64 (by decide) ?_
          exact j_65 y1 z0 (0 : Int32) vfl vrow vba vmr vex _ _ _ hP hS (lv_sub hl [1, 2, 0] rfl) isB_0 hmr hE
        · replace hE := hE.trans (if_neg c_57)
          refine lv_iconst (v := 1) hx hb dX1_toInt_60 (by decide) ?_
          refine lv_goto (tgt := 65) hx hb dX1_toInt_61 (by decide) ?_
          exact j_65 y1 z0 (1 : Int32) vfl vrow vba vmr vex _ _ _ hP hS (lv_sub hl [1, 2, 0] rfl) isB_1 hmr hE
      · replace hE := hE.trans (if_neg c_38)
        refine lv_lload_n hx hb dX1_toInt_41 rfl (lv_at hl 0 rfl) ?_
        refine lv_ldc2 hx hb hown (hts (.constantLong RX1 132 (2147483648)) (by decide +kernel)) dX1_toInt_42 ?_
        refine W.lcmp hx hb dX1_toInt_45 ?_
        refine lv_if_gt (tgt := 64) hx hb dX1_toInt_46 (by decide) (fun c_46 => ?_) (fun c_46 => ?_)
        · replace hE := hE.trans (if_pos c_46)
          refine lv_iconst (v := 0) hx hb dX1_toInt_64 (by decide) ?_
          exact j_65 y1 z0 (0 : Int32) vfl vrow vba vmr vex _ _ _ hP hS (lv_sub hl [1, 2, 0] rfl) isB_0 hmr hE
        · replace hE := hE.trans (if_neg c_46)
          refine lv_goto (tgt := 60) hx hb dX1_toInt_49 (by decide) ?_
          refine lv_iconst (v := 1) hx hb dX1_toInt_60 (by decide) ?_
          refine lv_goto (tgt := 65) hx hb dX1_toInt_61 (by decide) ?_
          exact j_65 y1 z0 (1 : Int32) vfl vrow vba vmr vex _ _ _ hP hS (lv_sub hl [1, 2, 0] rfl) isB_1 hmr hE
  have j_15 : ∀ (y1 : Int32) (z0 : Int32) (vfl : Int32) (vrow : (Nat → Int64)) (vba : Int32) (vmr : Int32) (vex : Int32) (H : Heap) (locs : List Loc) (ls : Array Slot), va_P D vwCl (bw1 cJ h0 h1 mo vfl vrow vba vmr vex) H → va_S (aw1 h0 h1) s.heap H locs → lv_has ls 6 [(0, .ref h0), (1, .int y1)] → isB z0 → isB vmr → fX1_toInt mo fl row ba mr ex x1 = fX1_toInt_k15 y1 z0 mo vfl vrow vba vmr vex → W p l e (headSpec wsX1_toInt { frames := 4, cells := 0, slots := 0, locals := 91 }).room s m ([.ref h0, .int x1] : List Value).toArray below meth c H locs 0 0 (MQ below (va_Qi (fun (r : Int32) (u : Int32 × (Nat → Int64) × Int32 × Int32 × Int32) => (r, u) = fX1_toInt mo fl row ba mr ex x1) (fun u t => w1 D cJ h0 h1 mo u.1 u.2.1 u.2.2.1 u.2.2.2.1 u.2.2.2.2 t) (aw1 h0 h1)) ([.ref h0, .int x1] : List Value).toArray s 0 0 (aw1 h0 h1)) (F0 m 15 ls [.int z0]) := by
    intro y1 z0 vfl vrow vba vmr vex H locs ls hP hS hl b_z0 hmr hE
    refine lv_istore_n (lv' := [(2, .int z0), (0, .ref h0), (1, .int y1)]) hx hb dX1_toInt_15 rfl hl (by decide) rfl (fun ls hl => ?_)
    refine lv_iload_n hx hb dX1_toInt_16 rfl (lv_at hl 0 rfl) ?_
    refine lv_if_eq (tgt := 28) hx hb dX1_toInt_17 (by decide) (fun c_17 => ?_) (fun c_17 => ?_)
    · replace hE := hE.trans (if_pos c_17)
      refine lv_lconst (v := 0) hx hb dX1_toInt_28 (by decide) ?_
      exact j_29 y1 z0 (0 : Int64) vfl vrow vba vmr vex _ _ _ hP hS (lv_sub hl [1, 2, 0] rfl) b_z0 hmr hE
    · replace hE := hE.trans (if_neg c_17)
      refine lv_aload_n hx hb dX1_toInt_20 rfl (lv_at hl 1 rfl) ?_
      refine lv_iload_n hx hb dX1_toInt_21 rfl (lv_at hl 2 rfl) ?_
      refine k1_calll (va_runV (As := [.int y1]) (rest := []) ⟨hx, hb, hml, hown, hts⟩ (ccX1_nearest l D cJ h0 h1 hne mo vfl vrow vba vmr vex y1 ) (cwV 1 hts gX1_toInt_X1_nearest rfl rfl rfl (by decide +kernel) ⟨Nat.le_of_ble_eq_true rfl, Nat.le_of_ble_eq_true rfl⟩) (w1_pre hK hP hmr) rfl rfl hl.1 rfl (lv_room (Nat.le_of_ble_eq_true rfl)) dX1_toInt_22 ⟨Nat.zero_le _, Nat.zero_le _⟩) hS (fun r_22 u H locs hw hP hmr hS => ?_)
      obtain ⟨row_22, ba_22, mr_22, ex_22⟩ := u
      have hP : va_P D vwCl (bw1 cJ h0 h1 mo vfl row_22 ba_22 mr_22 ex_22) H := hP
      replace hE : fX1_toInt mo fl row ba mr ex x1 = fX1_toInt_k25 y1 z0 r_22 mo vfl row_22 ba_22 mr_22 ex_22 := by have h : fX1_toInt mo fl row ba mr ex x1 = fX1_toInt_k25 y1 z0 ((fX1_nearest mo vrow vba vmr vex y1).1) mo vfl ((fX1_nearest mo vrow vba vmr vex y1).2.1) ((fX1_nearest mo vrow vba vmr vex y1).2.2.1) ((fX1_nearest mo vrow vba vmr vex y1).2.2.2.1) ((fX1_nearest mo vrow vba vmr vex y1).2.2.2.2) := hE; rw [← hw] at h; exact h
      refine lv_goto (tgt := 29) hx hb dX1_toInt_25 (by decide) ?_
      exact j_29 y1 z0 r_22 vfl row_22 ba_22 mr_22 ex_22 _ _ _ hP hS (lv_sub hl [1, 2, 0] rfl) b_z0 hmr hE
  have hE : fX1_toInt mo fl row ba mr ex x1 = fX1_toInt mo fl row ba mr ex x1 := rfl
  refine lv_iload_n hx hb dX1_toInt_0 rfl (lv_at hl 1 rfl) ?_
  refine sc_i (W.runS (As := [.int x1]) (rest := []) ⟨hx, hb, hml, hown, hts⟩ (ccX1_exponent l x1 ) (va_cwS 1 hts gX1_toInt_X1_exponent rfl rfl rfl (by decide +kernel) ⟨Nat.le_of_ble_eq_true rfl, Nat.le_of_ble_eq_true rfl⟩) st_pre rfl rfl hl.1 rfl (lv_room (Nat.le_of_ble_eq_true rfl)) dX1_toInt_1 ⟨Nat.zero_le _, Nat.zero_le _⟩) ?_
  refine lv_sipush (v := 166) hx hb dX1_toInt_4 (by decide) ?_
  refine lv_icmp_ge (tgt := 14) hx hb dX1_toInt_7 (by decide) (fun c_7 => ?_) (fun c_7 => ?_)
  · replace hE := hE.trans (if_pos c_7)
    refine lv_iconst (v := 0) hx hb dX1_toInt_14 (by decide) ?_
    exact j_15 x1 (0 : Int32) fl row ba mr ex _ _ _ hP hS (lv_sub hl [0, 1] rfl) isB_0 hmr hE
  · replace hE := hE.trans (if_neg c_7)
    refine lv_iconst (v := 1) hx hb dX1_toInt_10 (by decide) ?_
    refine lv_goto (tgt := 15) hx hb dX1_toInt_11 (by decide) ?_
    exact j_15 x1 (1 : Int32) fl row ba mr ex _ _ _ hP hS (lv_sub hl [0, 1] rfl) isB_1 hmr hE
/-! X1_fromInt -/
def fX1_fromInt_k47 (z0 : Int32) (mo : Int32) (vfl : Int32) (vrow : (Nat → Int64)) (vba : Int32) (vmr : Int32) (vex : Int32) : Int32 × Int32 × (Nat → Int64) × Int32 × Int32 × Int32 := (z0, vfl, vrow, vba, vmr, vex)
def fX1_fromInt_k41 (z0 : Int32) (mo : Int32) (vfl : Int32) (vrow : (Nat → Int64)) (vba : Int32) (vmr : Int32) (vex : Int32) : Int32 × Int32 × (Nat → Int64) × Int32 × Int32 × Int32 := fX1_fromInt_k47 ((fX1_finish mo vfl vrow vba vmr vex z0).1) mo ((fX1_finish mo vfl vrow vba vmr vex z0).2.1) vrow vba vmr ((fX1_finish mo vfl vrow vba vmr vex z0).2.2)
def fX1_fromInt_k37 (mo : Int32) (vfl : Int32) (vrow : (Nat → Int64)) (vba : Int32) (vmr : Int32) (vex : Int32) : Int32 × Int32 × (Nat → Int64) × Int32 × Int32 × Int32 := fX1_fromInt_k41 ((fX1_settle vrow).1) mo vfl ((fX1_settle vrow).2) vba vmr vex
def fX1_fromInt_k34 (z1 : Int64) (z2 : Int32) (z3 : Int32) (mo : Int32) (vfl : Int32) (vrow : (Nat → Int64)) (vba : Int32) (vmr : Int32) (vex : Int32) : Int32 × Int32 × (Nat → Int64) × Int32 × Int32 × Int32 := fX1_fromInt_k37 mo vfl ((fX1_put vrow vba z1 z2 z3)) vba vmr vex
def fX1_fromInt_k24 (y1 : Int32) (z1 : Int64) (mo : Int32) (vfl : Int32) (vrow : (Nat → Int64)) (vba : Int32) (vmr : Int32) (vex : Int32) : Int32 × Int32 × (Nat → Int64) × Int32 × Int32 × Int32 := (if 0 ≤ y1 then fX1_fromInt_k34 z1 (0 : Int32) (0 : Int32) mo vfl vrow vba vmr vex else fX1_fromInt_k34 z1 (0 : Int32) (1 : Int32) mo vfl vrow vba vmr vex)
def fX1_fromInt_k11 (y1 : Int32) (mo : Int32) (vfl : Int32) (vrow : (Nat → Int64)) (vba : Int32) (vmr : Int32) (vex : Int32) : Int32 × Int32 × (Nat → Int64) × Int32 × Int32 × Int32 := (if 0 ≤ y1 then fX1_fromInt_k24 y1 ((Int32.toInt64 y1)) mo vfl vrow vba vmr vex else fX1_fromInt_k24 y1 ((-((Int32.toInt64 y1)))) mo vfl vrow vba vmr vex)
def fX1_fromInt (mo : Int32) (fl : Int32) (row : (Nat → Int64)) (ba : Int32) (mr : Int32) (ex : Int32) (x1 : Int32) : Int32 × Int32 × (Nat → Int64) × Int32 × Int32 × Int32 := (if x1 = 0 then ((0 : Int32), fl, row, ba, mr, ex) else fX1_fromInt_k11 x1 mo fl ((fX1_empty row ba mr (0 : Int32)).1) ((fX1_empty row ba mr (0 : Int32)).2.1) ((fX1_empty row ba mr (0 : Int32)).2.2) ex)
set_option maxHeartbeats 4000000 in
set_option maxRecDepth 100000 in
theorem ccX1_fromInt (l : Launch) (D : va_G) (cJ : ClassId) (h0 h1 : Nat) (hne : h0 ≠ h1) (mo fl : Int32) (row : Nat → Int64) (ba mr ex : Int32) (x1 : Int32)  : Met l yX1_fromInt wsX1_fromInt { frames := 4, cells := 0, slots := 0, locals := 95 } (va_Pc [.ref h0, .int x1] (w1 D cJ h0 h1 mo fl row ba mr ex)) (va_Qi (fun (r : Int32) (u : Int32 × (Nat → Int64) × Int32 × Int32 × Int32) => (r, u) = fX1_fromInt mo fl row ba mr ex x1) (fun u t => w1 D cJ h0 h1 mo u.1 u.2.1 u.2.2.1 u.2.2.2.1 u.2.2.2.2 t) (aw1 h0 h1)) 0 0 (aw1 h0 h1) := by
  refine Met.ofW (cc := cX1_fromInt) (maxL := 3) (ret := (some .int)) (by decide) rfl ?_
  intro p e s m args below meth c s₁ B hml hv
  obtain ⟨rfl, hP, hK, hmr⟩ := hv
  have hx := B.exec
  have hb := B.bytes
  have hr := B.returns
  have hts := atoms_spec (ws := wsX1_fromInt) B.pre
  have hown : s.vm.findClass RX1 = some m.cls := findClass_of_methodNamed B.named
  have hlocks := B.notSynchronized
  have hS : va_S (aw1 h0 h1) s.heap s.heap [] := va_S.rf
  have hP : va_P D vwCl (bw1 cJ h0 h1 mo fl row ba mr ex) s.heap := hP
  have hl := lv_entry ([.ref h0, .int x1]) (n := 3) (Nat.le_of_ble_eq_true rfl)
  rw [lg_entry_eq]
  generalize (lg_sl ([.ref h0, .int x1]) ++ List.replicate (3 - (lg_sl ([.ref h0, .int x1])).length) Slot.unset).toArray = ls at hl ⊢
  have hl : lv_has ls 3 [(0, .ref h0), (1, .int x1)] := hl
  have j_34 : ∀ (z1 : Int64) (z2 : Int32) (z3 : Int32) (vfl : Int32) (vrow : (Nat → Int64)) (vba : Int32) (vmr : Int32) (vex : Int32) (H : Heap) (locs : List Loc) (ls : Array Slot), va_P D vwCl (bw1 cJ h0 h1 mo vfl vrow vba vmr vex) H → va_S (aw1 h0 h1) s.heap H locs → lv_has ls 3 [(0, .ref h0)] → isB z2 → isB z3 → isB vmr → vba = 0 → z2 = 0 → fX1_fromInt mo fl row ba mr ex x1 = fX1_fromInt_k34 z1 z2 z3 mo vfl vrow vba vmr vex → W p l e (headSpec wsX1_fromInt { frames := 4, cells := 0, slots := 0, locals := 95 }).room s m ([.ref h0, .int x1] : List Value).toArray below meth c H locs 0 0 (MQ below (va_Qi (fun (r : Int32) (u : Int32 × (Nat → Int64) × Int32 × Int32 × Int32) => (r, u) = fX1_fromInt mo fl row ba mr ex x1) (fun u t => w1 D cJ h0 h1 mo u.1 u.2.1 u.2.2.1 u.2.2.2.1 u.2.2.2.2 t) (aw1 h0 h1)) ([.ref h0, .int x1] : List Value).toArray s 0 0 (aw1 h0 h1)) (F0 m 34 ls [.int z3, .int z2, .long z1, .ref h0]) := by
    intro z1 z2 z3 vfl vrow vba vmr vex H locs ls hP hS hl b_z2 b_z3 hmr fb fz hE
    refine k1_callv (va_runV (As := [.long z1, .int z2, .int z3]) (rest := []) ⟨hx, hb, hml, hown, hts⟩ (ccX1_put l D cJ h0 h1 hne mo vfl vrow vba vmr vex z1 z2 z3 (by rw [fb, fz]; exact putOk_self _ _)) (cwV 3 hts gX1_fromInt_X1_put rfl rfl rfl (by decide +kernel) ⟨Nat.le_of_ble_eq_true rfl, Nat.le_of_ble_eq_true rfl⟩) (w1_pre hK hP hmr) rfl rfl hl.1 rfl (lv_room (Nat.le_of_ble_eq_true rfl)) dX1_fromInt_34 ⟨Nat.zero_le _, Nat.zero_le _⟩) hS (fun u H locs hw hP hmr hS => ?_)
    obtain ⟨row_34, rfl⟩ : ∃ z, z = u := ⟨_, rfl⟩
    have hP : va_P D vwCl (bw1 cJ h0 h1 mo vfl row_34 vba vmr vex) H := hP
    replace hE : fX1_fromInt mo fl row ba mr ex x1 = fX1_fromInt_k37 mo vfl row_34 vba vmr vex := by have h : fX1_fromInt mo fl row ba mr ex x1 = fX1_fromInt_k37 mo vfl ((fX1_put vrow vba z1 z2 z3)) vba vmr vex := hE; rw [← hw] at h; exact h
    refine lv_aload_n hx hb dX1_fromInt_37 rfl (lv_at hl 0 rfl) ?_
    refine k1_calli (va_runV (As := []) (rest := []) ⟨hx, hb, hml, hown, hts⟩ (ccX1_settle l D cJ h0 h1 hne mo vfl row_34 vba vmr vex  ) (cwV 0 hts gX1_fromInt_X1_settle rfl rfl rfl (by decide +kernel) ⟨Nat.le_of_ble_eq_true rfl, Nat.le_of_ble_eq_true rfl⟩) (w1_pre hK hP hmr) rfl rfl hl.1 rfl (lv_room (Nat.le_of_ble_eq_true rfl)) dX1_fromInt_38 ⟨Nat.zero_le _, Nat.zero_le _⟩) hS (fun r_38 u H locs hw hP hmr hS => ?_)
    obtain ⟨row_38, rfl⟩ : ∃ z, z = u := ⟨_, rfl⟩
    have hP : va_P D vwCl (bw1 cJ h0 h1 mo vfl row_38 vba vmr vex) H := hP
    replace hE : fX1_fromInt mo fl row ba mr ex x1 = fX1_fromInt_k41 r_38 mo vfl row_38 vba vmr vex := by have h : fX1_fromInt mo fl row ba mr ex x1 = fX1_fromInt_k41 ((fX1_settle row_34).1) mo vfl ((fX1_settle row_34).2) vba vmr vex := hE; rw [← hw] at h; exact h
    refine lv_istore_n (lv' := [(2, .int r_38), (0, .ref h0)]) hx hb dX1_fromInt_41 rfl hl (by decide) rfl (fun ls hl => ?_)
    refine lv_aload_n hx hb dX1_fromInt_42 rfl (lv_at hl 1 rfl) ?_
    refine lv_iload_n hx hb dX1_fromInt_43 rfl (lv_at hl 0 rfl) ?_
    refine k1_calli (va_runV (As := [.int r_38]) (rest := []) ⟨hx, hb, hml, hown, hts⟩ (ccX1_finish l D cJ h0 h1 hne mo vfl row_38 vba vmr vex r_38 ) (cwV 1 hts gX1_fromInt_X1_finish rfl rfl rfl (by decide +kernel) ⟨Nat.le_of_ble_eq_true rfl, Nat.le_of_ble_eq_true rfl⟩) (w1_pre hK hP hmr) rfl rfl hl.1 rfl (lv_room (Nat.le_of_ble_eq_true rfl)) dX1_fromInt_44 ⟨Nat.zero_le _, Nat.zero_le _⟩) hS (fun r_44 u H locs hw hP hmr hS => ?_)
    obtain ⟨fl_44, ex_44⟩ := u
    have hP : va_P D vwCl (bw1 cJ h0 h1 mo fl_44 row_38 vba vmr ex_44) H := hP
    replace hE : fX1_fromInt mo fl row ba mr ex x1 = fX1_fromInt_k47 r_44 mo fl_44 row_38 vba vmr ex_44 := by have h : fX1_fromInt mo fl row ba mr ex x1 = fX1_fromInt_k47 ((fX1_finish mo vfl row_38 vba vmr vex r_38).1) mo ((fX1_finish mo vfl row_38 vba vmr vex r_38).2.1) row_38 vba vmr ((fX1_finish mo vfl row_38 vba vmr vex r_38).2.2) := hE; rw [← hw] at h; exact h
    exact W.iret hx hb hr (fun t ht hW => ⟨⟨_, (fl_44, row_38, vba, vmr, ex_44), rfl, hE.symm, by rw [ht]; exact hP, va_K.moved hW.alike hK, hmr⟩, hS.F ht⟩) hS.2.2 dX1_fromInt_47
  have j_24 : ∀ (y1 : Int32) (z1 : Int64) (vfl : Int32) (vrow : (Nat → Int64)) (vba : Int32) (vmr : Int32) (vex : Int32) (H : Heap) (locs : List Loc) (ls : Array Slot), va_P D vwCl (bw1 cJ h0 h1 mo vfl vrow vba vmr vex) H → va_S (aw1 h0 h1) s.heap H locs → lv_has ls 3 [(0, .ref h0), (1, .int y1)] → isB vmr → vba = 0 → fX1_fromInt mo fl row ba mr ex x1 = fX1_fromInt_k24 y1 z1 mo vfl vrow vba vmr vex → W p l e (headSpec wsX1_fromInt { frames := 4, cells := 0, slots := 0, locals := 95 }).room s m ([.ref h0, .int x1] : List Value).toArray below meth c H locs 0 0 (MQ below (va_Qi (fun (r : Int32) (u : Int32 × (Nat → Int64) × Int32 × Int32 × Int32) => (r, u) = fX1_fromInt mo fl row ba mr ex x1) (fun u t => w1 D cJ h0 h1 mo u.1 u.2.1 u.2.2.1 u.2.2.2.1 u.2.2.2.2 t) (aw1 h0 h1)) ([.ref h0, .int x1] : List Value).toArray s 0 0 (aw1 h0 h1)) (F0 m 24 ls [.long z1, .ref h0]) := by
    intro y1 z1 vfl vrow vba vmr vex H locs ls hP hS hl hmr fb hE
    refine lv_iconst (v := 0) hx hb dX1_fromInt_24 (by decide) ?_
    refine lv_iload_n hx hb dX1_fromInt_25 rfl (lv_at hl 1 rfl) ?_
    refine lv_if_ge (tgt := 33) hx hb dX1_fromInt_26 (by decide) (fun c_26 => ?_) (fun c_26 => ?_)
    · replace hE := hE.trans (if_pos c_26)
      refine lv_iconst (v := 0) hx hb dX1_fromInt_33 (by decide) ?_
      exact j_34 z1 (0 : Int32) (0 : Int32) vfl vrow vba vmr vex _ _ _ hP hS (lv_sub hl [0] rfl) isB_0 isB_0 hmr fb rfl hE
    · replace hE := hE.trans (if_neg c_26)
      refine lv_iconst (v := 1) hx hb dX1_fromInt_29 (by decide) ?_
      refine lv_goto (tgt := 34) hx hb dX1_fromInt_30 (by decide) ?_
      exact j_34 z1 (0 : Int32) (1 : Int32) vfl vrow vba vmr vex _ _ _ hP hS (lv_sub hl [0] rfl) isB_0 isB_1 hmr fb rfl hE
  have hE : fX1_fromInt mo fl row ba mr ex x1 = fX1_fromInt mo fl row ba mr ex x1 := rfl
  refine lv_iload_n hx hb dX1_fromInt_0 rfl (lv_at hl 1 rfl) ?_
  refine lv_if_ne (tgt := 6) hx hb dX1_fromInt_1 (by decide) (fun c_1 => ?_) (fun c_1 => ?_)
  · replace hE := hE.trans (if_neg c_1)
    refine lv_aload_n hx hb dX1_fromInt_6 rfl (lv_at hl 0 rfl) ?_
    refine lv_iconst (v := 0) hx hb dX1_fromInt_7 (by decide) ?_
    refine k1_callv (va_runV (As := [.int (0 : Int32)]) (rest := []) ⟨hx, hb, hml, hown, hts⟩ (ccX1_empty l D cJ h0 h1 hne mo fl row ba mr ex (0 : Int32) ) (cwV 1 hts gX1_fromInt_X1_empty rfl rfl rfl (by decide +kernel) ⟨Nat.le_of_ble_eq_true rfl, Nat.le_of_ble_eq_true rfl⟩) (w1_pre hK hP hmr) rfl rfl hl.1 rfl (lv_room (Nat.le_of_ble_eq_true rfl)) dX1_fromInt_8 ⟨Nat.zero_le _, Nat.zero_le _⟩) hS (fun u H locs hw hP hmr hS => ?_)
    obtain ⟨row_8, ba_8, mr_8⟩ := u
    have hP : va_P D vwCl (bw1 cJ h0 h1 mo fl row_8 ba_8 mr_8 ex) H := hP
    have hba := empty_ba hw
    replace hE : fX1_fromInt mo fl row ba mr ex x1 = fX1_fromInt_k11 x1 mo fl row_8 ba_8 mr_8 ex := by have h : fX1_fromInt mo fl row ba mr ex x1 = fX1_fromInt_k11 x1 mo fl ((fX1_empty row ba mr (0 : Int32)).1) ((fX1_empty row ba mr (0 : Int32)).2.1) ((fX1_empty row ba mr (0 : Int32)).2.2) ex := hE; rw [← hw] at h; exact h
    refine lv_aload_n hx hb dX1_fromInt_11 rfl (lv_at hl 0 rfl) ?_
    refine lv_iload_n hx hb dX1_fromInt_12 rfl (lv_at hl 1 rfl) ?_
    refine lv_if_ge (tgt := 22) hx hb dX1_fromInt_13 (by decide) (fun c_13 => ?_) (fun c_13 => ?_)
    · replace hE := hE.trans (if_pos c_13)
      refine lv_iload_n hx hb dX1_fromInt_22 rfl (lv_at hl 1 rfl) ?_
      refine lv_i2l hx hb dX1_fromInt_23 rfl ?_
      exact j_24 x1 ((Int32.toInt64 x1)) fl row_8 ba_8 mr_8 ex _ _ _ hP hS (lv_sub hl [0, 1] rfl) hmr hba hE
    · replace hE := hE.trans (if_neg c_13)
      refine lv_iload_n hx hb dX1_fromInt_16 rfl (lv_at hl 1 rfl) ?_
      refine lv_i2l hx hb dX1_fromInt_17 rfl ?_
      refine lv_lneg hx hb dX1_fromInt_18 ?_
      refine lv_goto (tgt := 24) hx hb dX1_fromInt_19 (by decide) ?_
      exact j_24 x1 ((-((Int32.toInt64 x1)))) fl row_8 ba_8 mr_8 ex _ _ _ hP hS (lv_sub hl [0, 1] rfl) hmr hba hE
  · replace hE := hE.trans (if_pos c_1)
    refine lv_iconst (v := 0) hx hb dX1_fromInt_4 (by decide) ?_
    exact W.iret hx hb hr (fun t ht hW => ⟨⟨_, (fl, row, ba, mr, ex), rfl, hE.symm, by rw [ht]; exact hP, va_K.moved hW.alike hK, hmr⟩, hS.F ht⟩) hS.2.2 dX1_fromInt_5
/-! X1_compare -/
def fX1_compare_k21 (z0 : Int32) (vfl : Int32) : Int32 × Int32 := (if z0 = (2143289344 : Int32) then ((2 : Int32), vfl) else ((0 : Int32), vfl))
def fX1_compare_k14 (y1 : Int32) (y2 : Int32) (vfl : Int32) : Int32 × Int32 := fX1_compare_k21 ((fX1_none vfl y1 y2 (0 : Int32)).1) ((fX1_none vfl y1 y2 (0 : Int32)).2)
def fX1_compare (fl : Int32) (x1 : Int32) (x2 : Int32) : Int32 × Int32 := (if ((fX1_isNone x1)) = 0 then (if ((fX1_isNone x2)) = 0 then (if ((fX1_rank x2)) ≤ ((fX1_rank x1)) then (if ((fX1_rank x1)) ≤ ((fX1_rank x2)) then ((0 : Int32), fl) else ((1 : Int32), fl)) else ((-1 : Int32), fl)) else fX1_compare_k14 x1 x2 fl) else fX1_compare_k14 x1 x2 fl)
set_option maxHeartbeats 4000000 in
set_option maxRecDepth 100000 in
theorem ccX1_compare (l : Launch) (D : va_G) (cJ : ClassId) (h0 h1 : Nat) (hne : h0 ≠ h1) (mo fl : Int32) (row : Nat → Int64) (ba mr ex : Int32) (x1 : Int32) (x2 : Int32)  : Met l yX1_compare wsX1_compare { frames := 4, cells := 0, slots := 0, locals := 83 } (va_Pc [.ref h0, .int x1, .int x2] (w1 D cJ h0 h1 mo fl row ba mr ex)) (va_Qi (fun (r : Int32) (u : Int32) => (r, u) = fX1_compare fl x1 x2) (fun u t => w1 D cJ h0 h1 mo u row ba mr ex t) (aw1 h0 h1)) 0 0 (aw1 h0 h1) := by
  refine Met.ofW (cc := cX1_compare) (maxL := 4) (ret := (some .int)) (by decide) rfl ?_
  intro p e s m args below meth c s₁ B hml hv
  obtain ⟨rfl, hP, hK, hmr⟩ := hv
  have hx := B.exec
  have hb := B.bytes
  have hr := B.returns
  have hts := atoms_spec (ws := wsX1_compare) B.pre
  have hown : s.vm.findClass RX1 = some m.cls := findClass_of_methodNamed B.named
  have hlocks := B.notSynchronized
  have hS : va_S (aw1 h0 h1) s.heap s.heap [] := va_S.rf
  have hP : va_P D vwCl (bw1 cJ h0 h1 mo fl row ba mr ex) s.heap := hP
  have hl := lv_entry ([.ref h0, .int x1, .int x2]) (n := 4) (Nat.le_of_ble_eq_true rfl)
  rw [lg_entry_eq]
  generalize (lg_sl ([.ref h0, .int x1, .int x2]) ++ List.replicate (4 - (lg_sl ([.ref h0, .int x1, .int x2])).length) Slot.unset).toArray = ls at hl ⊢
  have hl : lv_has ls 4 [(0, .ref h0), (1, .int x1), (2, .int x2)] := hl
  have j_14 : ∀ (y1 : Int32) (y2 : Int32) (vfl : Int32) (H : Heap) (locs : List Loc) (ls : Array Slot), va_P D vwCl (bw1 cJ h0 h1 mo vfl row ba mr ex) H → va_S (aw1 h0 h1) s.heap H locs → lv_has ls 4 [(0, .ref h0), (1, .int y1), (2, .int y2)] → fX1_compare fl x1 x2 = fX1_compare_k14 y1 y2 vfl → W p l e (headSpec wsX1_compare { frames := 4, cells := 0, slots := 0, locals := 83 }).room s m ([.ref h0, .int x1, .int x2] : List Value).toArray below meth c H locs 0 0 (MQ below (va_Qi (fun (r : Int32) (u : Int32) => (r, u) = fX1_compare fl x1 x2) (fun u t => w1 D cJ h0 h1 mo u row ba mr ex t) (aw1 h0 h1)) ([.ref h0, .int x1, .int x2] : List Value).toArray s 0 0 (aw1 h0 h1)) (F0 m 14 ls []) := by
    intro y1 y2 vfl H locs ls hP hS hl hE
    refine lv_aload_n hx hb dX1_compare_14 rfl (lv_at hl 0 rfl) ?_
    refine lv_iload_n hx hb dX1_compare_15 rfl (lv_at hl 1 rfl) ?_
    refine lv_iload_n hx hb dX1_compare_16 rfl (lv_at hl 2 rfl) ?_
    refine lv_iconst (v := 0) hx hb dX1_compare_17 (by decide) ?_
    refine k1_calli (va_runV (As := [.int y1, .int y2, .int (0 : Int32)]) (rest := []) ⟨hx, hb, hml, hown, hts⟩ (ccX1_none l D cJ h0 h1 hne mo vfl row ba mr ex y1 y2 (0 : Int32) ) (cwV 3 hts gX1_compare_X1_none rfl rfl rfl (by decide +kernel) ⟨Nat.le_of_ble_eq_true rfl, Nat.le_of_ble_eq_true rfl⟩) (w1_pre hK hP hmr) rfl rfl hl.1 rfl (lv_room (Nat.le_of_ble_eq_true rfl)) dX1_compare_18 ⟨Nat.zero_le _, Nat.zero_le _⟩) hS (fun r_18 u H locs hw hP hmr hS => ?_)
    obtain ⟨fl_18, rfl⟩ : ∃ z, z = u := ⟨_, rfl⟩
    have hP : va_P D vwCl (bw1 cJ h0 h1 mo fl_18 row ba mr ex) H := hP
    replace hE : fX1_compare fl x1 x2 = fX1_compare_k21 r_18 fl_18 := by have h : fX1_compare fl x1 x2 = fX1_compare_k21 ((fX1_none vfl y1 y2 (0 : Int32)).1) ((fX1_none vfl y1 y2 (0 : Int32)).2) := hE; rw [← hw] at h; exact h
    refine lv_istore_n (lv' := [(3, .int r_18), (0, .ref h0), (1, .int y1), (2, .int y2)]) hx hb dX1_compare_21 rfl hl (by decide) rfl (fun ls hl => ?_)
    refine lv_iload_n hx hb dX1_compare_22 rfl (lv_at hl 0 rfl) ?_
    refine lv_ldc hx hb hown (hts (.constant RX1 39 (2143289344)) (by decide +kernel)) dX1_compare_23 ?_
    refine lv_icmp_ne (tgt := 32) hx hb dX1_compare_25 (by decide) (fun c_25 => ?_) (fun c_25 => ?_)
    · replace hE := hE.trans (if_neg c_25)
      refine lv_iconst (v := 0) hx hb dX1_compare_32 (by decide) ?_
      exact W.iret hx hb hr (fun t ht hW => ⟨⟨_, fl_18, rfl, hE.symm, by rw [ht]; exact hP, va_K.moved hW.alike hK, hmr⟩, hS.F ht⟩) hS.2.2 dX1_compare_33
    · replace hE := hE.trans (if_pos c_25)
      refine lv_iconst (v := 2) hx hb dX1_compare_28 (by decide) ?_
      refine lv_goto (tgt := 33) hx hb dX1_compare_29 (by decide) ?_
      exact W.iret hx hb hr (fun t ht hW => ⟨⟨_, fl_18, rfl, hE.symm, by rw [ht]; exact hP, va_K.moved hW.alike hK, hmr⟩, hS.F ht⟩) hS.2.2 dX1_compare_33
  have hE : fX1_compare fl x1 x2 = fX1_compare fl x1 x2 := rfl
  refine lv_iload_n hx hb dX1_compare_0 rfl (lv_at hl 1 rfl) ?_
  refine sc_i (W.runS (As := [.int x1]) (rest := []) ⟨hx, hb, hml, hown, hts⟩ (ccX1_isNone l x1 ) (va_cwS 1 hts gX1_compare_X1_isNone rfl rfl rfl (by decide +kernel) ⟨Nat.le_of_ble_eq_true rfl, Nat.le_of_ble_eq_true rfl⟩) st_pre rfl rfl hl.1 rfl (lv_room (Nat.le_of_ble_eq_true rfl)) dX1_compare_1 ⟨Nat.zero_le _, Nat.zero_le _⟩) ?_
  refine lv_if_ne (tgt := 14) hx hb dX1_compare_4 (by decide) (fun c_4 => ?_) (fun c_4 => ?_)
  · replace hE := hE.trans (if_neg c_4)
    exact j_14 x1 x2 fl _ _ _ hP hS (lv_sub hl [0, 1, 2] rfl)  hE
  · replace hE := hE.trans (if_pos c_4)
    refine lv_iload_n hx hb dX1_compare_7 rfl (lv_at hl 2 rfl) ?_
    refine sc_i (W.runS (As := [.int x2]) (rest := []) ⟨hx, hb, hml, hown, hts⟩ (ccX1_isNone l x2 ) (va_cwS 1 hts gX1_compare_X1_isNone rfl rfl rfl (by decide +kernel) ⟨Nat.le_of_ble_eq_true rfl, Nat.le_of_ble_eq_true rfl⟩) st_pre rfl rfl hl.1 rfl (lv_room (Nat.le_of_ble_eq_true rfl)) dX1_compare_8 ⟨Nat.zero_le _, Nat.zero_le _⟩) ?_
    refine lv_if_eq (tgt := 34) hx hb dX1_compare_11 (by decide) (fun c_11 => ?_) (fun c_11 => ?_)
    · replace hE := hE.trans (if_pos c_11)
      refine lv_iload_n hx hb dX1_compare_34 rfl (lv_at hl 1 rfl) ?_
      refine sc_i (W.runS (As := [.int x1]) (rest := []) ⟨hx, hb, hml, hown, hts⟩ (ccX1_rank l x1 ) (va_cwS 1 hts gX1_compare_X1_rank rfl rfl rfl (by decide +kernel) ⟨Nat.le_of_ble_eq_true rfl, Nat.le_of_ble_eq_true rfl⟩) st_pre rfl rfl hl.1 rfl (lv_room (Nat.le_of_ble_eq_true rfl)) dX1_compare_35 ⟨Nat.zero_le _, Nat.zero_le _⟩) ?_
      refine lv_iload_n hx hb dX1_compare_38 rfl (lv_at hl 2 rfl) ?_
      refine sc_i (W.runS (As := [.int x2]) (rest := [.int (fX1_rank x1)]) ⟨hx, hb, hml, hown, hts⟩ (ccX1_rank l x2 ) (va_cwS 1 hts gX1_compare_X1_rank rfl rfl rfl (by decide +kernel) ⟨Nat.le_of_ble_eq_true rfl, Nat.le_of_ble_eq_true rfl⟩) st_pre rfl rfl hl.1 rfl (lv_room (Nat.le_of_ble_eq_true rfl)) dX1_compare_39 ⟨Nat.zero_le _, Nat.zero_le _⟩) ?_
      refine lv_icmp_ge (tgt := 49) hx hb dX1_compare_42 (by decide) (fun c_42 => ?_) (fun c_42 => ?_)
      · replace hE := hE.trans (if_pos c_42)
        refine lv_iload_n hx hb dX1_compare_49 rfl (lv_at hl 1 rfl) ?_
        refine sc_i (W.runS (As := [.int x1]) (rest := []) ⟨hx, hb, hml, hown, hts⟩ (ccX1_rank l x1 ) (va_cwS 1 hts gX1_compare_X1_rank rfl rfl rfl (by decide +kernel) ⟨Nat.le_of_ble_eq_true rfl, Nat.le_of_ble_eq_true rfl⟩) st_pre rfl rfl hl.1 rfl (lv_room (Nat.le_of_ble_eq_true rfl)) dX1_compare_50 ⟨Nat.zero_le _, Nat.zero_le _⟩) ?_
        refine lv_iload_n hx hb dX1_compare_53 rfl (lv_at hl 2 rfl) ?_
        refine sc_i (W.runS (As := [.int x2]) (rest := [.int (fX1_rank x1)]) ⟨hx, hb, hml, hown, hts⟩ (ccX1_rank l x2 ) (va_cwS 1 hts gX1_compare_X1_rank rfl rfl rfl (by decide +kernel) ⟨Nat.le_of_ble_eq_true rfl, Nat.le_of_ble_eq_true rfl⟩) st_pre rfl rfl hl.1 rfl (lv_room (Nat.le_of_ble_eq_true rfl)) dX1_compare_54 ⟨Nat.zero_le _, Nat.zero_le _⟩) ?_
        refine lv_icmp_le (tgt := 64) hx hb dX1_compare_57 (by decide) (fun c_57 => ?_) (fun c_57 => ?_)
        · replace hE := hE.trans (if_pos c_57)
          refine lv_iconst (v := 0) hx hb dX1_compare_64 (by decide) ?_
          exact W.iret hx hb hr (fun t ht hW => ⟨⟨_, fl, rfl, hE.symm, by rw [ht]; exact hP, va_K.moved hW.alike hK, hmr⟩, hS.F ht⟩) hS.2.2 dX1_compare_65
        · replace hE := hE.trans (if_neg c_57)
          refine lv_iconst (v := 1) hx hb dX1_compare_60 (by decide) ?_
          refine lv_goto (tgt := 65) hx hb dX1_compare_61 (by decide) ?_
          exact W.iret hx hb hr (fun t ht hW => ⟨⟨_, fl, rfl, hE.symm, by rw [ht]; exact hP, va_K.moved hW.alike hK, hmr⟩, hS.F ht⟩) hS.2.2 dX1_compare_65
      · replace hE := hE.trans (if_neg c_42)
        refine lv_iconst (v := -1) hx hb dX1_compare_45 (by decide) ?_
        refine lv_goto (tgt := 65) hx hb dX1_compare_46 (by decide) ?_
        exact W.iret hx hb hr (fun t ht hW => ⟨⟨_, fl, rfl, hE.symm, by rw [ht]; exact hP, va_K.moved hW.alike hK, hmr⟩, hS.F ht⟩) hS.2.2 dX1_compare_65
    · replace hE := hE.trans (if_neg c_11)
      exact j_14 x1 x2 fl _ _ _ hP hS (lv_sub hl [0, 1, 2] rfl)  hE
/-! X1_next -/
def fX1_next_k30 (y2 : Int32) (vfl : Int32) : Int32 × Int32 := (if y2 ≤ 0 then ((((-y2)) ||| (-2147483648 : Int32)), vfl) else (y2, vfl))
def fX1_next_k14 (z0 : Int32) (vfl : Int32) : Int32 × Int32 := (z0, vfl)
def fX1_next (fl : Int32) (x1 : Int32) : Int32 × Int32 := (if ((fX1_isNone x1)) = 0 then (if x1 = (2139095040 : Int32) then (x1, fl) else fX1_next_k30 ((((fX1_rank x1)) + (1 : Int32))) fl) else fX1_next_k14 ((fX1_none fl x1 (0 : Int32) (0 : Int32)).1) ((fX1_none fl x1 (0 : Int32) (0 : Int32)).2))
set_option maxHeartbeats 4000000 in
set_option maxRecDepth 100000 in
theorem ccX1_next (l : Launch) (D : va_G) (cJ : ClassId) (h0 h1 : Nat) (hne : h0 ≠ h1) (mo fl : Int32) (row : Nat → Int64) (ba mr ex : Int32) (x1 : Int32)  : Met l yX1_next wsX1_next { frames := 4, cells := 0, slots := 0, locals := 83 } (va_Pc [.ref h0, .int x1] (w1 D cJ h0 h1 mo fl row ba mr ex)) (va_Qi (fun (r : Int32) (u : Int32) => (r, u) = fX1_next fl x1) (fun u t => w1 D cJ h0 h1 mo u row ba mr ex t) (aw1 h0 h1)) 0 0 (aw1 h0 h1) := by
  refine Met.ofW (cc := cX1_next) (maxL := 3) (ret := (some .int)) (by decide) rfl ?_
  intro p e s m args below meth c s₁ B hml hv
  obtain ⟨rfl, hP, hK, hmr⟩ := hv
  have hx := B.exec
  have hb := B.bytes
  have hr := B.returns
  have hts := atoms_spec (ws := wsX1_next) B.pre
  have hown : s.vm.findClass RX1 = some m.cls := findClass_of_methodNamed B.named
  have hlocks := B.notSynchronized
  have hS : va_S (aw1 h0 h1) s.heap s.heap [] := va_S.rf
  have hP : va_P D vwCl (bw1 cJ h0 h1 mo fl row ba mr ex) s.heap := hP
  have hl := lv_entry ([.ref h0, .int x1]) (n := 3) (Nat.le_of_ble_eq_true rfl)
  rw [lg_entry_eq]
  generalize (lg_sl ([.ref h0, .int x1]) ++ List.replicate (3 - (lg_sl ([.ref h0, .int x1])).length) Slot.unset).toArray = ls at hl ⊢
  have hl : lv_has ls 3 [(0, .ref h0), (1, .int x1)] := hl
  have hE : fX1_next fl x1 = fX1_next fl x1 := rfl
  refine lv_iload_n hx hb dX1_next_0 rfl (lv_at hl 1 rfl) ?_
  refine sc_i (W.runS (As := [.int x1]) (rest := []) ⟨hx, hb, hml, hown, hts⟩ (ccX1_isNone l x1 ) (va_cwS 1 hts gX1_next_X1_isNone rfl rfl rfl (by decide +kernel) ⟨Nat.le_of_ble_eq_true rfl, Nat.le_of_ble_eq_true rfl⟩) st_pre rfl rfl hl.1 rfl (lv_room (Nat.le_of_ble_eq_true rfl)) dX1_next_1 ⟨Nat.zero_le _, Nat.zero_le _⟩) ?_
  refine lv_if_eq (tgt := 15) hx hb dX1_next_4 (by decide) (fun c_4 => ?_) (fun c_4 => ?_)
  · replace hE := hE.trans (if_pos c_4)
    refine lv_iload_n hx hb dX1_next_15 rfl (lv_at hl 1 rfl) ?_
    refine lv_ldc hx hb hown (hts (.constant RX1 73 (2139095040)) (by decide +kernel)) dX1_next_16 ?_
    refine lv_icmp_ne (tgt := 23) hx hb dX1_next_18 (by decide) (fun c_18 => ?_) (fun c_18 => ?_)
    · replace hE := hE.trans (if_neg c_18)
      refine lv_iload_n hx hb dX1_next_23 rfl (lv_at hl 1 rfl) ?_
      refine sc_i (W.runS (As := [.int x1]) (rest := []) ⟨hx, hb, hml, hown, hts⟩ (ccX1_rank l x1 ) (va_cwS 1 hts gX1_next_X1_rank rfl rfl rfl (by decide +kernel) ⟨Nat.le_of_ble_eq_true rfl, Nat.le_of_ble_eq_true rfl⟩) st_pre rfl rfl hl.1 rfl (lv_room (Nat.le_of_ble_eq_true rfl)) dX1_next_24 ⟨Nat.zero_le _, Nat.zero_le _⟩) ?_
      refine lv_iconst (v := 1) hx hb dX1_next_27 (by decide) ?_
      refine lv_iadd hx hb dX1_next_28 ?_
      refine lv_topi (fun x2_29 e_29 => ?_)
      refine lv_istore_n (lv' := [(2, .int x2_29), (0, .ref h0), (1, .int x1)]) hx hb dX1_next_29 rfl hl (by decide) rfl (fun ls hl => ?_)
      replace hE : fX1_next fl x1 = fX1_next_k30 x2_29 fl := by rw [e_29]; exact hE
      refine lv_iload_n hx hb dX1_next_30 rfl (lv_at hl 0 rfl) ?_
      refine lv_if_le (tgt := 38) hx hb dX1_next_31 (by decide) (fun c_31 => ?_) (fun c_31 => ?_)
      · replace hE := hE.trans (if_pos c_31)
        refine lv_iload_n hx hb dX1_next_38 rfl (lv_at hl 0 rfl) ?_
        refine lv_ineg hx hb dX1_next_39 ?_
        refine lv_ldc hx hb hown (hts (.constant RX1 34 (-2147483648)) (by decide +kernel)) dX1_next_40 ?_
        refine lv_ior hx hb dX1_next_42 ?_
        exact W.iret hx hb hr (fun t ht hW => ⟨⟨_, fl, rfl, hE.symm, by rw [ht]; exact hP, va_K.moved hW.alike hK, hmr⟩, hS.F ht⟩) hS.2.2 dX1_next_43
      · replace hE := hE.trans (if_neg c_31)
        refine lv_iload_n hx hb dX1_next_34 rfl (lv_at hl 0 rfl) ?_
        refine lv_goto (tgt := 43) hx hb dX1_next_35 (by decide) ?_
        exact W.iret hx hb hr (fun t ht hW => ⟨⟨_, fl, rfl, hE.symm, by rw [ht]; exact hP, va_K.moved hW.alike hK, hmr⟩, hS.F ht⟩) hS.2.2 dX1_next_43
    · replace hE := hE.trans (if_pos c_18)
      refine lv_iload_n hx hb dX1_next_21 rfl (lv_at hl 1 rfl) ?_
      exact W.iret hx hb hr (fun t ht hW => ⟨⟨_, fl, rfl, hE.symm, by rw [ht]; exact hP, va_K.moved hW.alike hK, hmr⟩, hS.F ht⟩) hS.2.2 dX1_next_22
  · replace hE := hE.trans (if_neg c_4)
    refine lv_aload_n hx hb dX1_next_7 rfl (lv_at hl 0 rfl) ?_
    refine lv_iload_n hx hb dX1_next_8 rfl (lv_at hl 1 rfl) ?_
    refine lv_iconst (v := 0) hx hb dX1_next_9 (by decide) ?_
    refine lv_iconst (v := 0) hx hb dX1_next_10 (by decide) ?_
    refine k1_calli (va_runV (As := [.int x1, .int (0 : Int32), .int (0 : Int32)]) (rest := []) ⟨hx, hb, hml, hown, hts⟩ (ccX1_none l D cJ h0 h1 hne mo fl row ba mr ex x1 (0 : Int32) (0 : Int32) ) (cwV 3 hts gX1_next_X1_none rfl rfl rfl (by decide +kernel) ⟨Nat.le_of_ble_eq_true rfl, Nat.le_of_ble_eq_true rfl⟩) (w1_pre hK hP hmr) rfl rfl hl.1 rfl (lv_room (Nat.le_of_ble_eq_true rfl)) dX1_next_11 ⟨Nat.zero_le _, Nat.zero_le _⟩) hS (fun r_11 u H locs hw hP hmr hS => ?_)
    obtain ⟨fl_11, rfl⟩ : ∃ z, z = u := ⟨_, rfl⟩
    have hP : va_P D vwCl (bw1 cJ h0 h1 mo fl_11 row ba mr ex) H := hP
    replace hE : fX1_next fl x1 = fX1_next_k14 r_11 fl_11 := by have h : fX1_next fl x1 = fX1_next_k14 ((fX1_none fl x1 (0 : Int32) (0 : Int32)).1) ((fX1_none fl x1 (0 : Int32) (0 : Int32)).2) := hE; rw [← hw] at h; exact h
    exact W.iret hx hb hr (fun t ht hW => ⟨⟨_, fl_11, rfl, hE.symm, by rw [ht]; exact hP, va_K.moved hW.alike hK, hmr⟩, hS.F ht⟩) hS.2.2 dX1_next_14
/-! X1_kind -/
def fX1_kind_k56 (y1 : Int32) (z0 : Int32) : Int32 := (if ((fX1_isNegative y1)) = 0 then z0 else (z0 + (8 : Int32)))
def fX1_kind (x1 : Int32) : Int32 := (if ((fX1_isLoud x1)) = 0 then (if ((fX1_isNone x1)) = 0 then (if ((fX1_isInfinite x1)) = 0 then (if ((fX1_isZero x1)) = 0 then (if ((fX1_exponent x1)) = 0 then fX1_kind_k56 x1 (4 : Int32) else fX1_kind_k56 x1 (5 : Int32)) else fX1_kind_k56 x1 (3 : Int32)) else fX1_kind_k56 x1 (2 : Int32)) else fX1_kind_k56 x1 (1 : Int32)) else fX1_kind_k56 x1 (0 : Int32))
set_option maxHeartbeats 4000000 in
set_option maxRecDepth 100000 in
theorem ccX1_kind (l : Launch) (D : va_G) (cJ : ClassId) (h0 h1 : Nat) (hne : h0 ≠ h1) (mo fl : Int32) (row : Nat → Int64) (ba mr ex : Int32) (x1 : Int32)  : Met l yX1_kind wsX1_kind { frames := 3, cells := 0, slots := 0, locals := 60 } (va_Pc [.ref h0, .int x1] (w1 D cJ h0 h1 mo fl row ba mr ex)) (vp_Si (fun r => r = fX1_kind x1)) 0 0 (fun _ => False) := by
  refine Met.ofW (cc := cX1_kind) (maxL := 3) (ret := (some .int)) (by decide) rfl ?_
  intro p e s m args below meth c s₁ B hml hv
  obtain ⟨rfl, hP, hK, hmr⟩ := hv
  have hx := B.exec
  have hb := B.bytes
  have hr := B.returns
  have hts := atoms_spec (ws := wsX1_kind) B.pre
  have hown : s.vm.findClass RX1 = some m.cls := findClass_of_methodNamed B.named
  have hlocks := B.notSynchronized
  have hS : va_S (aw1 h0 h1) s.heap s.heap [] := va_S.rf
  have hP : va_P D vwCl (bw1 cJ h0 h1 mo fl row ba mr ex) s.heap := hP
  have hl := lv_entry ([.ref h0, .int x1]) (n := 3) (Nat.le_of_ble_eq_true rfl)
  rw [lg_entry_eq]
  generalize (lg_sl ([.ref h0, .int x1]) ++ List.replicate (3 - (lg_sl ([.ref h0, .int x1])).length) Slot.unset).toArray = ls at hl ⊢
  have hl : lv_has ls 3 [(0, .ref h0), (1, .int x1)] := hl
  have j_56 : ∀ (y1 : Int32) (z0 : Int32) (ls : Array Slot), lv_has ls 3 [(1, .int y1)] → fX1_kind x1 = fX1_kind_k56 y1 z0 → W p l e (headSpec wsX1_kind { frames := 3, cells := 0, slots := 0, locals := 60 }).room s m ([.ref h0, .int x1] : List Value).toArray below meth c s.heap [] 0 0 (MQ below (vp_Si (fun r => r = fX1_kind x1)) ([.ref h0, .int x1] : List Value).toArray s 0 0 (fun _ => False)) (F0 m 56 ls [.int z0]) := by
    intro y1 z0 ls hl hE
    refine lv_istore_n (lv' := [(2, .int z0), (1, .int y1)]) hx hb dX1_kind_56 rfl hl (by decide) rfl (fun ls hl => ?_)
    refine lv_iload_n hx hb dX1_kind_57 rfl (lv_at hl 1 rfl) ?_
    refine sc_i (W.runS (As := [.int y1]) (rest := []) ⟨hx, hb, hml, hown, hts⟩ (ccX1_isNegative l y1 ) (va_cwS 1 hts gX1_kind_X1_isNegative rfl rfl rfl (by decide +kernel) ⟨Nat.le_of_ble_eq_true rfl, Nat.le_of_ble_eq_true rfl⟩) st_pre rfl rfl hl.1 rfl (lv_room (Nat.le_of_ble_eq_true rfl)) dX1_kind_58 ⟨Nat.zero_le _, Nat.zero_le _⟩) ?_
    refine lv_if_eq (tgt := 71) hx hb dX1_kind_61 (by decide) (fun c_61 => ?_) (fun c_61 => ?_)
    · replace hE := hE.trans (if_pos c_61)
      refine lv_iload_n hx hb dX1_kind_71 rfl (lv_at hl 0 rfl) ?_
      exact W.iret hx hb hr (fun t ht hW => ⟨_, rfl, hE.symm, ht⟩) (fun _ h => by cases h) dX1_kind_72
    · replace hE := hE.trans (if_neg c_61)
      refine lv_iload_n hx hb dX1_kind_64 rfl (lv_at hl 0 rfl) ?_
      refine lv_bipush (v := 8) hx hb dX1_kind_65 (by decide) ?_
      refine lv_iadd hx hb dX1_kind_67 ?_
      refine lv_goto (tgt := 72) hx hb dX1_kind_68 (by decide) ?_
      exact W.iret hx hb hr (fun t ht hW => ⟨_, rfl, hE.symm, ht⟩) (fun _ h => by cases h) dX1_kind_72
  have hE : fX1_kind x1 = fX1_kind x1 := rfl
  refine lv_iload_n hx hb dX1_kind_0 rfl (lv_at hl 1 rfl) ?_
  refine sc_i (W.runS (As := [.int x1]) (rest := []) ⟨hx, hb, hml, hown, hts⟩ (ccX1_isLoud l x1 ) (va_cwS 1 hts gX1_kind_X1_isLoud rfl rfl rfl (by decide +kernel) ⟨Nat.le_of_ble_eq_true rfl, Nat.le_of_ble_eq_true rfl⟩) st_pre rfl rfl hl.1 rfl (lv_room (Nat.le_of_ble_eq_true rfl)) dX1_kind_1 ⟨Nat.zero_le _, Nat.zero_le _⟩) ?_
  refine lv_if_eq (tgt := 11) hx hb dX1_kind_4 (by decide) (fun c_4 => ?_) (fun c_4 => ?_)
  · replace hE := hE.trans (if_pos c_4)
    refine lv_iload_n hx hb dX1_kind_11 rfl (lv_at hl 1 rfl) ?_
    refine sc_i (W.runS (As := [.int x1]) (rest := []) ⟨hx, hb, hml, hown, hts⟩ (ccX1_isNone l x1 ) (va_cwS 1 hts gX1_kind_X1_isNone rfl rfl rfl (by decide +kernel) ⟨Nat.le_of_ble_eq_true rfl, Nat.le_of_ble_eq_true rfl⟩) st_pre rfl rfl hl.1 rfl (lv_room (Nat.le_of_ble_eq_true rfl)) dX1_kind_12 ⟨Nat.zero_le _, Nat.zero_le _⟩) ?_
    refine lv_if_eq (tgt := 22) hx hb dX1_kind_15 (by decide) (fun c_15 => ?_) (fun c_15 => ?_)
    · replace hE := hE.trans (if_pos c_15)
      refine lv_iload_n hx hb dX1_kind_22 rfl (lv_at hl 1 rfl) ?_
      refine sc_i (W.runS (As := [.int x1]) (rest := []) ⟨hx, hb, hml, hown, hts⟩ (ccX1_isInfinite l x1 ) (va_cwS 1 hts gX1_kind_X1_isInfinite rfl rfl rfl (by decide +kernel) ⟨Nat.le_of_ble_eq_true rfl, Nat.le_of_ble_eq_true rfl⟩) st_pre rfl rfl hl.1 rfl (lv_room (Nat.le_of_ble_eq_true rfl)) dX1_kind_23 ⟨Nat.zero_le _, Nat.zero_le _⟩) ?_
      refine lv_if_eq (tgt := 33) hx hb dX1_kind_26 (by decide) (fun c_26 => ?_) (fun c_26 => ?_)
      · replace hE := hE.trans (if_pos c_26)
        refine lv_iload_n hx hb dX1_kind_33 rfl (lv_at hl 1 rfl) ?_
        refine sc_i (W.runS (As := [.int x1]) (rest := []) ⟨hx, hb, hml, hown, hts⟩ (ccX1_isZero l x1 ) (va_cwS 1 hts gX1_kind_X1_isZero rfl rfl rfl (by decide +kernel) ⟨Nat.le_of_ble_eq_true rfl, Nat.le_of_ble_eq_true rfl⟩) st_pre rfl rfl hl.1 rfl (lv_room (Nat.le_of_ble_eq_true rfl)) dX1_kind_34 ⟨Nat.zero_le _, Nat.zero_le _⟩) ?_
        refine lv_if_eq (tgt := 44) hx hb dX1_kind_37 (by decide) (fun c_37 => ?_) (fun c_37 => ?_)
        · replace hE := hE.trans (if_pos c_37)
          refine lv_iload_n hx hb dX1_kind_44 rfl (lv_at hl 1 rfl) ?_
          refine sc_i (W.runS (As := [.int x1]) (rest := []) ⟨hx, hb, hml, hown, hts⟩ (ccX1_exponent l x1 ) (va_cwS 1 hts gX1_kind_X1_exponent rfl rfl rfl (by decide +kernel) ⟨Nat.le_of_ble_eq_true rfl, Nat.le_of_ble_eq_true rfl⟩) st_pre rfl rfl hl.1 rfl (lv_room (Nat.le_of_ble_eq_true rfl)) dX1_kind_45 ⟨Nat.zero_le _, Nat.zero_le _⟩) ?_
          refine lv_if_ne (tgt := 55) hx hb dX1_kind_48 (by decide) (fun c_48 => ?_) (fun c_48 => ?_)
          · replace hE := hE.trans (if_neg c_48)
            refine lv_iconst (v := 5) hx hb dX1_kind_55 (by decide) ?_
            exact j_56 x1 (5 : Int32) _ (lv_sub hl [1] rfl)  hE
          · replace hE := hE.trans (if_pos c_48)
            refine lv_iconst (v := 4) hx hb dX1_kind_51 (by decide) ?_
            refine lv_goto (tgt := 56) hx hb dX1_kind_52 (by decide) ?_
            exact j_56 x1 (4 : Int32) _ (lv_sub hl [1] rfl)  hE
        · replace hE := hE.trans (if_neg c_37)
          refine lv_iconst (v := 3) hx hb dX1_kind_40 (by decide) ?_
          refine lv_goto (tgt := 56) hx hb dX1_kind_41 (by decide) ?_
          exact j_56 x1 (3 : Int32) _ (lv_sub hl [1] rfl)  hE
      · replace hE := hE.trans (if_neg c_26)
        refine lv_iconst (v := 2) hx hb dX1_kind_29 (by decide) ?_
        refine lv_goto (tgt := 56) hx hb dX1_kind_30 (by decide) ?_
        exact j_56 x1 (2 : Int32) _ (lv_sub hl [1] rfl)  hE
    · replace hE := hE.trans (if_neg c_15)
      refine lv_iconst (v := 1) hx hb dX1_kind_18 (by decide) ?_
      refine lv_goto (tgt := 56) hx hb dX1_kind_19 (by decide) ?_
      exact j_56 x1 (1 : Int32) _ (lv_sub hl [1] rfl)  hE
  · replace hE := hE.trans (if_neg c_4)
    refine lv_iconst (v := 0) hx hb dX1_kind_7 (by decide) ?_
    refine lv_goto (tgt := 56) hx hb dX1_kind_8 (by decide) ?_
    exact j_56 x1 (0 : Int32) _ (lv_sub hl [1] rfl)  hE
