/-! X1_add -/
def fX1_add_k162 (z0 : Int32) (mo : Int32) (vfl : Int32) (vrow : (Nat → Int64)) (vba : Int32) (vmr : Int32) (vex : Int32) : Int32 × Int32 × (Nat → Int64) × Int32 × Int32 × Int32 := (z0, vfl, vrow, vba, vmr, vex)
def fX1_add_k143 (y1 : Int32) (y2 : Int32) (z1 : Int32) (mo : Int32) (vfl : Int32) (vrow : (Nat → Int64)) (vba : Int32) (vmr : Int32) (vex : Int32) : Int32 × Int32 × (Nat → Int64) × Int32 × Int32 × Int32 := ((fX1_zero mo z1 ((fX1_isNegative y1)) ((fX1_isNegative y2))), vfl, vrow, vba, vmr, vex)
def fX1_add_k115 (y1 : Int32) (y2 : Int32) (z0 : Int32) (mo : Int32) (vfl : Int32) (vrow : (Nat → Int64)) (vba : Int32) (vmr : Int32) (vex : Int32) : Int32 × Int32 × (Nat → Int64) × Int32 × Int32 × Int32 := (if 0 ≤ ((fX1_top vrow)) then fX1_add_k162 ((fX1_finish mo vfl vrow vba vmr vex z0).1) mo ((fX1_finish mo vfl vrow vba vmr vex z0).2.1) vrow vba vmr ((fX1_finish mo vfl vrow vba vmr vex z0).2.2) else (if ((fX1_isZero y1)) = 0 then fX1_add_k143 y1 y2 (0 : Int32) mo vfl vrow vba vmr vex else (if ((fX1_isZero y2)) = 0 then fX1_add_k143 y1 y2 (0 : Int32) mo vfl vrow vba vmr vex else fX1_add_k143 y1 y2 (1 : Int32) mo vfl vrow vba vmr vex)))
def fX1_add_k111 (y1 : Int32) (y2 : Int32) (mo : Int32) (vfl : Int32) (vrow : (Nat → Int64)) (vba : Int32) (vmr : Int32) (vex : Int32) : Int32 × Int32 × (Nat → Int64) × Int32 × Int32 × Int32 := fX1_add_k115 y1 y2 ((fX1_settle vrow).1) mo vfl ((fX1_settle vrow).2) vba vmr vex
def fX1_add_k94 (y1 : Int32) (y2 : Int32) (mo : Int32) (vfl : Int32) (vrow : (Nat → Int64)) (vba : Int32) (vmr : Int32) (vex : Int32) : Int32 × Int32 × (Nat → Int64) × Int32 × Int32 × Int32 := fX1_add_k111 y1 y2 mo vfl ((fX1_put vrow vba ((Int32.toInt64 ((fX1_units y2)))) ((fX1_place y2)) ((fX1_isNegative y2)))) vba vmr vex
def fX1_add_k77 (y1 : Int32) (y2 : Int32) (mo : Int32) (vfl : Int32) (vrow : (Nat → Int64)) (vba : Int32) (vmr : Int32) (vex : Int32) : Int32 × Int32 × (Nat → Int64) × Int32 × Int32 × Int32 := fX1_add_k94 y1 y2 mo vfl ((fX1_put vrow vba ((Int32.toInt64 ((fX1_units y1)))) ((fX1_place y1)) ((fX1_isNegative y1)))) vba vmr vex
def fX1_add_k52 (y1 : Int32) (y2 : Int32) (mo : Int32) (vfl : Int32) (vrow : (Nat → Int64)) (vba : Int32) (vmr : Int32) (vex : Int32) : Int32 × Int32 × (Nat → Int64) × Int32 × Int32 × Int32 := (if ((fX1_isInfinite y1)) = 0 then (if ((fX1_isInfinite y2)) = 0 then fX1_add_k77 y1 y2 mo vfl ((fX1_empty vrow vba vmr (-298 : Int32)).1) ((fX1_empty vrow vba vmr (-298 : Int32)).2.1) ((fX1_empty vrow vba vmr (-298 : Int32)).2.2) vex else (y2, vfl, vrow, vba, vmr, vex)) else (y1, vfl, vrow, vba, vmr, vex))
def fX1_add_k51 (z0 : Int32) (mo : Int32) (vfl : Int32) (vrow : (Nat → Int64)) (vba : Int32) (vmr : Int32) (vex : Int32) : Int32 × Int32 × (Nat → Int64) × Int32 × Int32 × Int32 := (z0, vfl, vrow, vba, vmr, vex)
def fX1_add_k21 (z0 : Int32) (mo : Int32) (vfl : Int32) (vrow : (Nat → Int64)) (vba : Int32) (vmr : Int32) (vex : Int32) : Int32 × Int32 × (Nat → Int64) × Int32 × Int32 × Int32 := (z0, vfl, vrow, vba, vmr, vex)
def fX1_add_k14 (y1 : Int32) (y2 : Int32) (mo : Int32) (vfl : Int32) (vrow : (Nat → Int64)) (vba : Int32) (vmr : Int32) (vex : Int32) : Int32 × Int32 × (Nat → Int64) × Int32 × Int32 × Int32 := fX1_add_k21 ((fX1_none vfl y1 y2 (0 : Int32)).1) mo ((fX1_none vfl y1 y2 (0 : Int32)).2) vrow vba vmr vex
def fX1_add (mo : Int32) (fl : Int32) (row : (Nat → Int64)) (ba : Int32) (mr : Int32) (ex : Int32) (x1 : Int32) (x2 : Int32) : Int32 × Int32 × (Nat → Int64) × Int32 × Int32 × Int32 := (if ((fX1_isNone x1)) = 0 then (if ((fX1_isNone x2)) = 0 then (if ((fX1_isInfinite x1)) = 0 then fX1_add_k52 x1 x2 mo fl row ba mr ex else (if ((fX1_isInfinite x2)) = 0 then fX1_add_k52 x1 x2 mo fl row ba mr ex else (if ((fX1_isNegative x1)) = ((fX1_isNegative x2)) then fX1_add_k52 x1 x2 mo fl row ba mr ex else fX1_add_k51 ((fX1_invalid fl).1) mo ((fX1_invalid fl).2) row ba mr ex))) else fX1_add_k14 x1 x2 mo fl row ba mr ex) else fX1_add_k14 x1 x2 mo fl row ba mr ex)
set_option maxHeartbeats 4000000 in
set_option maxRecDepth 100000 in
theorem ccX1_add (l : Launch) (D : va_G) (cJ : ClassId) (h0 h1 : Nat) (hne : h0 ≠ h1) (mo fl : Int32) (row : Nat → Int64) (ba mr ex : Int32) (x1 : Int32) (x2 : Int32)  : Met l yX1_add wsX1_add { frames := 4, cells := 0, slots := 0, locals := 95 } (va_Pc [.ref h0, .int x1, .int x2] (w1 D cJ h0 h1 mo fl row ba mr ex)) (va_Qi (fun (r : Int32) (u : Int32 × (Nat → Int64) × Int32 × Int32 × Int32) => (r, u) = fX1_add mo fl row ba mr ex x1 x2) (fun u t => w1 D cJ h0 h1 mo u.1 u.2.1 u.2.2.1 u.2.2.2.1 u.2.2.2.2 t) (aw1 h0 h1)) 0 0 (aw1 h0 h1) := by
  refine Met.ofW (cc := cX1_add) (maxL := 4) (ret := (some .int)) (by decide) rfl ?_
  intro p e s m args below meth c s₁ B hml hv
  obtain ⟨rfl, hP, hK, hmr⟩ := hv
  have hx := B.exec
  have hb := B.bytes
  have hr := B.returns
  have hts := atoms_spec (ws := wsX1_add) B.pre
  have hown : s.vm.findClass RX1 = some m.cls := findClass_of_methodNamed B.named
  have hlocks := B.notSynchronized
  have hS : va_S (aw1 h0 h1) s.heap s.heap [] := va_S.rf
  have hP : va_P D vwCl (bw1 cJ h0 h1 mo fl row ba mr ex) s.heap := hP
  have hl := lv_entry ([.ref h0, .int x1, .int x2]) (n := 4) (Nat.le_of_ble_eq_true rfl)
  rw [lg_entry_eq]
  generalize (lg_sl ([.ref h0, .int x1, .int x2]) ++ List.replicate (4 - (lg_sl ([.ref h0, .int x1, .int x2])).length) Slot.unset).toArray = ls at hl ⊢
  have hl : lv_has ls 4 [(0, .ref h0), (1, .int x1), (2, .int x2)] := hl
  have j_143 : ∀ (y1 : Int32) (y2 : Int32) (z1 : Int32) (vfl : Int32) (vrow : (Nat → Int64)) (vba : Int32) (vmr : Int32) (vex : Int32) (H : Heap) (locs : List Loc) (ls : Array Slot), va_P D vwCl (bw1 cJ h0 h1 mo vfl vrow vba vmr vex) H → va_S (aw1 h0 h1) s.heap H locs → lv_has ls 4 [(1, .int y1), (2, .int y2)] → isB z1 → isB vmr → fX1_add mo fl row ba mr ex x1 x2 = fX1_add_k143 y1 y2 z1 mo vfl vrow vba vmr vex → W p l e (headSpec wsX1_add { frames := 4, cells := 0, slots := 0, locals := 95 }).room s m ([.ref h0, .int x1, .int x2] : List Value).toArray below meth c H locs 0 0 (MQ below (va_Qi (fun (r : Int32) (u : Int32 × (Nat → Int64) × Int32 × Int32 × Int32) => (r, u) = fX1_add mo fl row ba mr ex x1 x2) (fun u t => w1 D cJ h0 h1 mo u.1 u.2.1 u.2.2.1 u.2.2.2.1 u.2.2.2.2 t) (aw1 h0 h1)) ([.ref h0, .int x1, .int x2] : List Value).toArray s 0 0 (aw1 h0 h1)) (F0 m 143 ls [.int z1, .ref h0]) := by
    intro y1 y2 z1 vfl vrow vba vmr vex H locs ls hP hS hl b_z1 hmr hE
    refine lv_iload_n hx hb dX1_add_143 rfl (lv_at hl 0 rfl) ?_
    refine sc_i (W.runS (As := [.int y1]) (rest := [.int z1, .ref h0]) ⟨hx, hb, hml, hown, hts⟩ (ccX1_isNegative l y1 ) (va_cwS 1 hts gX1_add_X1_isNegative rfl rfl rfl (by decide +kernel) ⟨Nat.le_of_ble_eq_true rfl, Nat.le_of_ble_eq_true rfl⟩) st_pre rfl rfl hl.1 rfl (lv_room (Nat.le_of_ble_eq_true rfl)) dX1_add_144 ⟨Nat.zero_le _, Nat.zero_le _⟩) ?_
    refine lv_iload_n hx hb dX1_add_147 rfl (lv_at hl 1 rfl) ?_
    refine sc_i (W.runS (As := [.int y2]) (rest := [.int (fX1_isNegative y1), .int z1, .ref h0]) ⟨hx, hb, hml, hown, hts⟩ (ccX1_isNegative l y2 ) (va_cwS 1 hts gX1_add_X1_isNegative rfl rfl rfl (by decide +kernel) ⟨Nat.le_of_ble_eq_true rfl, Nat.le_of_ble_eq_true rfl⟩) st_pre rfl rfl hl.1 rfl (lv_room (Nat.le_of_ble_eq_true rfl)) dX1_add_148 ⟨Nat.zero_le _, Nat.zero_le _⟩) ?_
    refine sc_i (W.runV (As := [.int z1, .int (fX1_isNegative y1), .int (fX1_isNegative y2)]) (rest := []) ⟨hx, hb, hml, hown, hts⟩ (ccX1_zero l D cJ h0 h1 hne mo vfl vrow vba vmr vex z1 ((fX1_isNegative y1)) ((fX1_isNegative y2)) ) (cwV 3 hts gX1_add_X1_zero rfl rfl rfl (by decide +kernel) ⟨Nat.le_of_ble_eq_true rfl, Nat.le_of_ble_eq_true rfl⟩) (w1_pre hK hP hmr) rfl rfl hl.1 rfl (lv_room (Nat.le_of_ble_eq_true rfl)) dX1_add_151 ⟨Nat.zero_le _, Nat.zero_le _⟩) ?_
    refine lv_goto (tgt := 162) hx hb dX1_add_154 (by decide) ?_
    exact W.iret hx hb hr (fun t ht hW => ⟨⟨_, (vfl, vrow, vba, vmr, vex), rfl, hE.symm, by rw [ht]; exact hP, va_K.moved hW.alike hK, hmr⟩, hS.F ht⟩) hS.2.2 dX1_add_162
  have j_52 : ∀ (y1 : Int32) (y2 : Int32) (vfl : Int32) (vrow : (Nat → Int64)) (vba : Int32) (vmr : Int32) (vex : Int32) (H : Heap) (locs : List Loc) (ls : Array Slot), va_P D vwCl (bw1 cJ h0 h1 mo vfl vrow vba vmr vex) H → va_S (aw1 h0 h1) s.heap H locs → lv_has ls 4 [(0, .ref h0), (1, .int y1), (2, .int y2)] → isB vmr → fX1_add mo fl row ba mr ex x1 x2 = fX1_add_k52 y1 y2 mo vfl vrow vba vmr vex → W p l e (headSpec wsX1_add { frames := 4, cells := 0, slots := 0, locals := 95 }).room s m ([.ref h0, .int x1, .int x2] : List Value).toArray below meth c H locs 0 0 (MQ below (va_Qi (fun (r : Int32) (u : Int32 × (Nat → Int64) × Int32 × Int32 × Int32) => (r, u) = fX1_add mo fl row ba mr ex x1 x2) (fun u t => w1 D cJ h0 h1 mo u.1 u.2.1 u.2.2.1 u.2.2.2.1 u.2.2.2.2 t) (aw1 h0 h1)) ([.ref h0, .int x1, .int x2] : List Value).toArray s 0 0 (aw1 h0 h1)) (F0 m 52 ls []) := by
    intro y1 y2 vfl vrow vba vmr vex H locs ls hP hS hl hmr hE
    refine lv_iload_n hx hb dX1_add_52 rfl (lv_at hl 1 rfl) ?_
    refine sc_i (W.runS (As := [.int y1]) (rest := []) ⟨hx, hb, hml, hown, hts⟩ (ccX1_isInfinite l y1 ) (va_cwS 1 hts gX1_add_X1_isInfinite rfl rfl rfl (by decide +kernel) ⟨Nat.le_of_ble_eq_true rfl, Nat.le_of_ble_eq_true rfl⟩) st_pre rfl rfl hl.1 rfl (lv_room (Nat.le_of_ble_eq_true rfl)) dX1_add_53 ⟨Nat.zero_le _, Nat.zero_le _⟩) ?_
    refine lv_if_eq (tgt := 61) hx hb dX1_add_56 (by decide) (fun c_56 => ?_) (fun c_56 => ?_)
    · replace hE := hE.trans (if_pos c_56)
      refine lv_iload_n hx hb dX1_add_61 rfl (lv_at hl 2 rfl) ?_
      refine sc_i (W.runS (As := [.int y2]) (rest := []) ⟨hx, hb, hml, hown, hts⟩ (ccX1_isInfinite l y2 ) (va_cwS 1 hts gX1_add_X1_isInfinite rfl rfl rfl (by decide +kernel) ⟨Nat.le_of_ble_eq_true rfl, Nat.le_of_ble_eq_true rfl⟩) st_pre rfl rfl hl.1 rfl (lv_room (Nat.le_of_ble_eq_true rfl)) dX1_add_62 ⟨Nat.zero_le _, Nat.zero_le _⟩) ?_
      refine lv_if_eq (tgt := 70) hx hb dX1_add_65 (by decide) (fun c_65 => ?_) (fun c_65 => ?_)
      · replace hE := hE.trans (if_pos c_65)
        refine lv_aload_n hx hb dX1_add_70 rfl (lv_at hl 0 rfl) ?_
        refine lv_sipush (v := -298) hx hb dX1_add_71 (by decide) ?_
        refine k1_callv (va_runV (As := [.int (-298 : Int32)]) (rest := []) ⟨hx, hb, hml, hown, hts⟩ (ccX1_empty l D cJ h0 h1 hne mo vfl vrow vba vmr vex (-298 : Int32) ) (cwV 1 hts gX1_add_X1_empty rfl rfl rfl (by decide +kernel) ⟨Nat.le_of_ble_eq_true rfl, Nat.le_of_ble_eq_true rfl⟩) (w1_pre hK hP hmr) rfl rfl hl.1 rfl (lv_room (Nat.le_of_ble_eq_true rfl)) dX1_add_74 ⟨Nat.zero_le _, Nat.zero_le _⟩) hS (fun u H locs hw hP hmr hS => ?_)
        obtain ⟨row_74, ba_74, mr_74⟩ := u
        have hP : va_P D vwCl (bw1 cJ h0 h1 mo vfl row_74 ba_74 mr_74 vex) H := hP
        have hba := empty_ba hw
        replace hE : fX1_add mo fl row ba mr ex x1 x2 = fX1_add_k77 y1 y2 mo vfl row_74 ba_74 mr_74 vex := by have h : fX1_add mo fl row ba mr ex x1 x2 = fX1_add_k77 y1 y2 mo vfl ((fX1_empty vrow vba vmr (-298 : Int32)).1) ((fX1_empty vrow vba vmr (-298 : Int32)).2.1) ((fX1_empty vrow vba vmr (-298 : Int32)).2.2) vex := hE; rw [← hw] at h; exact h
        refine lv_aload_n hx hb dX1_add_77 rfl (lv_at hl 0 rfl) ?_
        refine lv_iload_n hx hb dX1_add_78 rfl (lv_at hl 1 rfl) ?_
        refine sc_i (W.runS (As := [.int y1]) (rest := [.ref h0]) ⟨hx, hb, hml, hown, hts⟩ (ccX1_units l y1 ) (va_cwS 1 hts gX1_add_X1_units rfl rfl rfl (by decide +kernel) ⟨Nat.le_of_ble_eq_true rfl, Nat.le_of_ble_eq_true rfl⟩) st_pre rfl rfl hl.1 rfl (lv_room (Nat.le_of_ble_eq_true rfl)) dX1_add_79 ⟨Nat.zero_le _, Nat.zero_le _⟩) ?_
        refine lv_i2l hx hb dX1_add_82 rfl ?_
        refine lv_iload_n hx hb dX1_add_83 rfl (lv_at hl 1 rfl) ?_
        refine sc_i (W.runS (As := [.int y1]) (rest := [.long (Int32.toInt64 ((fX1_units y1))), .ref h0]) ⟨hx, hb, hml, hown, hts⟩ (ccX1_place l y1 ) (va_cwS 1 hts gX1_add_X1_place rfl rfl rfl (by decide +kernel) ⟨Nat.le_of_ble_eq_true rfl, Nat.le_of_ble_eq_true rfl⟩) st_pre rfl rfl hl.1 rfl (lv_room (Nat.le_of_ble_eq_true rfl)) dX1_add_84 ⟨Nat.zero_le _, Nat.zero_le _⟩) ?_
        refine lv_iload_n hx hb dX1_add_87 rfl (lv_at hl 1 rfl) ?_
        refine sc_i (W.runS (As := [.int y1]) (rest := [.int (fX1_place y1), .long (Int32.toInt64 ((fX1_units y1))), .ref h0]) ⟨hx, hb, hml, hown, hts⟩ (ccX1_isNegative l y1 ) (va_cwS 1 hts gX1_add_X1_isNegative rfl rfl rfl (by decide +kernel) ⟨Nat.le_of_ble_eq_true rfl, Nat.le_of_ble_eq_true rfl⟩) st_pre rfl rfl hl.1 rfl (lv_room (Nat.le_of_ble_eq_true rfl)) dX1_add_88 ⟨Nat.zero_le _, Nat.zero_le _⟩) ?_
        refine k1_callv (va_runV (As := [.long (Int32.toInt64 ((fX1_units y1))), .int (fX1_place y1), .int (fX1_isNegative y1)]) (rest := []) ⟨hx, hb, hml, hown, hts⟩ (ccX1_put l D cJ h0 h1 hne mo vfl row_74 ba_74 mr_74 vex ((Int32.toInt64 ((fX1_units y1)))) ((fX1_place y1)) ((fX1_isNegative y1)) (by rw [hba]; exact putOk_units _)) (cwV 3 hts gX1_add_X1_put rfl rfl rfl (by decide +kernel) ⟨Nat.le_of_ble_eq_true rfl, Nat.le_of_ble_eq_true rfl⟩) (w1_pre hK hP hmr) rfl rfl hl.1 rfl (lv_room (Nat.le_of_ble_eq_true rfl)) dX1_add_91 ⟨Nat.zero_le _, Nat.zero_le _⟩) hS (fun u H locs hw hP hmr hS => ?_)
        obtain ⟨row_91, rfl⟩ : ∃ z, z = u := ⟨_, rfl⟩
        have hP : va_P D vwCl (bw1 cJ h0 h1 mo vfl row_91 ba_74 mr_74 vex) H := hP
        replace hE : fX1_add mo fl row ba mr ex x1 x2 = fX1_add_k94 y1 y2 mo vfl row_91 ba_74 mr_74 vex := by have h : fX1_add mo fl row ba mr ex x1 x2 = fX1_add_k94 y1 y2 mo vfl ((fX1_put row_74 ba_74 ((Int32.toInt64 ((fX1_units y1)))) ((fX1_place y1)) ((fX1_isNegative y1)))) ba_74 mr_74 vex := hE; rw [← hw] at h; exact h
        refine lv_aload_n hx hb dX1_add_94 rfl (lv_at hl 0 rfl) ?_
        refine lv_iload_n hx hb dX1_add_95 rfl (lv_at hl 2 rfl) ?_
        refine sc_i (W.runS (As := [.int y2]) (rest := [.ref h0]) ⟨hx, hb, hml, hown, hts⟩ (ccX1_units l y2 ) (va_cwS 1 hts gX1_add_X1_units rfl rfl rfl (by decide +kernel) ⟨Nat.le_of_ble_eq_true rfl, Nat.le_of_ble_eq_true rfl⟩) st_pre rfl rfl hl.1 rfl (lv_room (Nat.le_of_ble_eq_true rfl)) dX1_add_96 ⟨Nat.zero_le _, Nat.zero_le _⟩) ?_
        refine lv_i2l hx hb dX1_add_99 rfl ?_
        refine lv_iload_n hx hb dX1_add_100 rfl (lv_at hl 2 rfl) ?_
        refine sc_i (W.runS (As := [.int y2]) (rest := [.long (Int32.toInt64 ((fX1_units y2))), .ref h0]) ⟨hx, hb, hml, hown, hts⟩ (ccX1_place l y2 ) (va_cwS 1 hts gX1_add_X1_place rfl rfl rfl (by decide +kernel) ⟨Nat.le_of_ble_eq_true rfl, Nat.le_of_ble_eq_true rfl⟩) st_pre rfl rfl hl.1 rfl (lv_room (Nat.le_of_ble_eq_true rfl)) dX1_add_101 ⟨Nat.zero_le _, Nat.zero_le _⟩) ?_
        refine lv_iload_n hx hb dX1_add_104 rfl (lv_at hl 2 rfl) ?_
        refine sc_i (W.runS (As := [.int y2]) (rest := [.int (fX1_place y2), .long (Int32.toInt64 ((fX1_units y2))), .ref h0]) ⟨hx, hb, hml, hown, hts⟩ (ccX1_isNegative l y2 ) (va_cwS 1 hts gX1_add_X1_isNegative rfl rfl rfl (by decide +kernel) ⟨Nat.le_of_ble_eq_true rfl, Nat.le_of_ble_eq_true rfl⟩) st_pre rfl rfl hl.1 rfl (lv_room (Nat.le_of_ble_eq_true rfl)) dX1_add_105 ⟨Nat.zero_le _, Nat.zero_le _⟩) ?_
        refine k1_callv (va_runV (As := [.long (Int32.toInt64 ((fX1_units y2))), .int (fX1_place y2), .int (fX1_isNegative y2)]) (rest := []) ⟨hx, hb, hml, hown, hts⟩ (ccX1_put l D cJ h0 h1 hne mo vfl row_91 ba_74 mr_74 vex ((Int32.toInt64 ((fX1_units y2)))) ((fX1_place y2)) ((fX1_isNegative y2)) (by rw [hba]; exact putOk_units _)) (cwV 3 hts gX1_add_X1_put rfl rfl rfl (by decide +kernel) ⟨Nat.le_of_ble_eq_true rfl, Nat.le_of_ble_eq_true rfl⟩) (w1_pre hK hP hmr) rfl rfl hl.1 rfl (lv_room (Nat.le_of_ble_eq_true rfl)) dX1_add_108 ⟨Nat.zero_le _, Nat.zero_le _⟩) hS (fun u H locs hw hP hmr hS => ?_)
        obtain ⟨row_108, rfl⟩ : ∃ z, z = u := ⟨_, rfl⟩
        have hP : va_P D vwCl (bw1 cJ h0 h1 mo vfl row_108 ba_74 mr_74 vex) H := hP
        replace hE : fX1_add mo fl row ba mr ex x1 x2 = fX1_add_k111 y1 y2 mo vfl row_108 ba_74 mr_74 vex := by have h : fX1_add mo fl row ba mr ex x1 x2 = fX1_add_k111 y1 y2 mo vfl ((fX1_put row_91 ba_74 ((Int32.toInt64 ((fX1_units y2)))) ((fX1_place y2)) ((fX1_isNegative y2)))) ba_74 mr_74 vex := hE; rw [← hw] at h; exact h
        refine lv_aload_n hx hb dX1_add_111 rfl (lv_at hl 0 rfl) ?_
        refine k1_calli (va_runV (As := []) (rest := []) ⟨hx, hb, hml, hown, hts⟩ (ccX1_settle l D cJ h0 h1 hne mo vfl row_108 ba_74 mr_74 vex  ) (cwV 0 hts gX1_add_X1_settle rfl rfl rfl (by decide +kernel) ⟨Nat.le_of_ble_eq_true rfl, Nat.le_of_ble_eq_true rfl⟩) (w1_pre hK hP hmr) rfl rfl hl.1 rfl (lv_room (Nat.le_of_ble_eq_true rfl)) dX1_add_112 ⟨Nat.zero_le _, Nat.zero_le _⟩) hS (fun r_112 u H locs hw hP hmr hS => ?_)
        obtain ⟨row_112, rfl⟩ : ∃ z, z = u := ⟨_, rfl⟩
        have hP : va_P D vwCl (bw1 cJ h0 h1 mo vfl row_112 ba_74 mr_74 vex) H := hP
        replace hE : fX1_add mo fl row ba mr ex x1 x2 = fX1_add_k115 y1 y2 r_112 mo vfl row_112 ba_74 mr_74 vex := by have h : fX1_add mo fl row ba mr ex x1 x2 = fX1_add_k115 y1 y2 ((fX1_settle row_108).1) mo vfl ((fX1_settle row_108).2) ba_74 mr_74 vex := hE; rw [← hw] at h; exact h
        refine lv_istore_n (lv' := [(3, .int r_112), (0, .ref h0), (1, .int y1), (2, .int y2)]) hx hb dX1_add_115 rfl hl (by decide) rfl (fun ls hl => ?_)
        refine lv_aload_n hx hb dX1_add_116 rfl (lv_at hl 1 rfl) ?_
        refine sc_i (W.runV (As := []) (rest := []) ⟨hx, hb, hml, hown, hts⟩ (ccX1_top l D cJ h0 h1 hne mo vfl row_112 ba_74 mr_74 vex  ) (cwV 0 hts gX1_add_X1_top rfl rfl rfl (by decide +kernel) ⟨Nat.le_of_ble_eq_true rfl, Nat.le_of_ble_eq_true rfl⟩) (w1_pre hK hP hmr) rfl rfl hl.1 rfl (lv_room (Nat.le_of_ble_eq_true rfl)) dX1_add_117 ⟨Nat.zero_le _, Nat.zero_le _⟩) ?_
        refine lv_if_ge (tgt := 157) hx hb dX1_add_120 (by decide) (fun c_120 => ?_) (fun c_120 => ?_)
        · replace hE := hE.trans (if_pos c_120)
          refine lv_aload_n hx hb dX1_add_157 rfl (lv_at hl 1 rfl) ?_
          refine lv_iload_n hx hb dX1_add_158 rfl (lv_at hl 0 rfl) ?_
          refine k1_calli (va_runV (As := [.int r_112]) (rest := []) ⟨hx, hb, hml, hown, hts⟩ (ccX1_finish l D cJ h0 h1 hne mo vfl row_112 ba_74 mr_74 vex r_112 ) (cwV 1 hts gX1_add_X1_finish rfl rfl rfl (by decide +kernel) ⟨Nat.le_of_ble_eq_true rfl, Nat.le_of_ble_eq_true rfl⟩) (w1_pre hK hP hmr) rfl rfl hl.1 rfl (lv_room (Nat.le_of_ble_eq_true rfl)) dX1_add_159 ⟨Nat.zero_le _, Nat.zero_le _⟩) hS (fun r_159 u H locs hw hP hmr hS => ?_)
          obtain ⟨fl_159, ex_159⟩ := u
          have hP : va_P D vwCl (bw1 cJ h0 h1 mo fl_159 row_112 ba_74 mr_74 ex_159) H := hP
          replace hE : fX1_add mo fl row ba mr ex x1 x2 = fX1_add_k162 r_159 mo fl_159 row_112 ba_74 mr_74 ex_159 := by have h : fX1_add mo fl row ba mr ex x1 x2 = fX1_add_k162 ((fX1_finish mo vfl row_112 ba_74 mr_74 vex r_112).1) mo ((fX1_finish mo vfl row_112 ba_74 mr_74 vex r_112).2.1) row_112 ba_74 mr_74 ((fX1_finish mo vfl row_112 ba_74 mr_74 vex r_112).2.2) := hE; rw [← hw] at h; exact h
          exact W.iret hx hb hr (fun t ht hW => ⟨⟨_, (fl_159, row_112, ba_74, mr_74, ex_159), rfl, hE.symm, by rw [ht]; exact hP, va_K.moved hW.alike hK, hmr⟩, hS.F ht⟩) hS.2.2 dX1_add_162
        · replace hE := hE.trans (if_neg c_120)
          refine lv_aload_n hx hb dX1_add_123 rfl (lv_at hl 1 rfl) ?_
          refine lv_iload_n hx hb dX1_add_124 rfl (lv_at hl 2 rfl) ?_
          refine sc_i (W.runS (As := [.int y1]) (rest := [.ref h0]) ⟨hx, hb, hml, hown, hts⟩ (ccX1_isZero l y1 ) (va_cwS 1 hts gX1_add_X1_isZero rfl rfl rfl (by decide +kernel) ⟨Nat.le_of_ble_eq_true rfl, Nat.le_of_ble_eq_true rfl⟩) st_pre rfl rfl hl.1 rfl (lv_room (Nat.le_of_ble_eq_true rfl)) dX1_add_125 ⟨Nat.zero_le _, Nat.zero_le _⟩) ?_
          refine lv_if_eq (tgt := 142) hx hb dX1_add_128 (by decide) (fun c_128 => ?_) (fun c_128 => ?_)
          · replace hE := hE.trans (if_pos c_128)
            refine lv_iconst (v := 0) hx hb dX1_add_142 (by decide) ?_
            exact j_143 y1 y2 (0 : Int32) vfl row_112 ba_74 mr_74 vex _ _ _ hP hS (lv_sub hl [2, 3] rfl) isB_0 hmr hE
          · replace hE := hE.trans (if_neg c_128)
            refine lv_iload_n hx hb dX1_add_131 rfl (lv_at hl 3 rfl) ?_
            refine sc_i (W.runS (As := [.int y2]) (rest := [.ref h0]) ⟨hx, hb, hml, hown, hts⟩ (ccX1_isZero l y2 ) (va_cwS 1 hts gX1_add_X1_isZero rfl rfl rfl (by decide +kernel) ⟨Nat.le_of_ble_eq_true rfl, Nat.le_of_ble_eq_true rfl⟩) st_pre rfl rfl hl.1 rfl (lv_room (Nat.le_of_ble_eq_true rfl)) dX1_add_132 ⟨Nat.zero_le _, Nat.zero_le _⟩) ?_
            refine lv_if_eq (tgt := 142) hx hb dX1_add_135 (by decide) (fun c_135 => ?_) (fun c_135 => ?_)
            · replace hE := hE.trans (if_pos c_135)
              refine lv_iconst (v := 0) hx hb dX1_add_142 (by decide) ?_
              exact j_143 y1 y2 (0 : Int32) vfl row_112 ba_74 mr_74 vex _ _ _ hP hS (lv_sub hl [2, 3] rfl) isB_0 hmr hE
            · replace hE := hE.trans (if_neg c_135)
              refine lv_iconst (v := 1) hx hb dX1_add_138 (by decide) ?_
              refine lv_goto (tgt := 143) hx hb dX1_add_139 (by decide) ?_
              exact j_143 y1 y2 (1 : Int32) vfl row_112 ba_74 mr_74 vex _ _ _ hP hS (lv_sub hl [2, 3] rfl) isB_1 hmr hE
      · replace hE := hE.trans (if_neg c_65)
        refine lv_iload_n hx hb dX1_add_68 rfl (lv_at hl 2 rfl) ?_
        exact W.iret hx hb hr (fun t ht hW => ⟨⟨_, (vfl, vrow, vba, vmr, vex), rfl, hE.symm, by rw [ht]; exact hP, va_K.moved hW.alike hK, hmr⟩, hS.F ht⟩) hS.2.2 dX1_add_69
    · replace hE := hE.trans (if_neg c_56)
      refine lv_iload_n hx hb dX1_add_59 rfl (lv_at hl 1 rfl) ?_
      exact W.iret hx hb hr (fun t ht hW => ⟨⟨_, (vfl, vrow, vba, vmr, vex), rfl, hE.symm, by rw [ht]; exact hP, va_K.moved hW.alike hK, hmr⟩, hS.F ht⟩) hS.2.2 dX1_add_60
  have j_14 : ∀ (y1 : Int32) (y2 : Int32) (vfl : Int32) (vrow : (Nat → Int64)) (vba : Int32) (vmr : Int32) (vex : Int32) (H : Heap) (locs : List Loc) (ls : Array Slot), va_P D vwCl (bw1 cJ h0 h1 mo vfl vrow vba vmr vex) H → va_S (aw1 h0 h1) s.heap H locs → lv_has ls 4 [(0, .ref h0), (1, .int y1), (2, .int y2)] → isB vmr → fX1_add mo fl row ba mr ex x1 x2 = fX1_add_k14 y1 y2 mo vfl vrow vba vmr vex → W p l e (headSpec wsX1_add { frames := 4, cells := 0, slots := 0, locals := 95 }).room s m ([.ref h0, .int x1, .int x2] : List Value).toArray below meth c H locs 0 0 (MQ below (va_Qi (fun (r : Int32) (u : Int32 × (Nat → Int64) × Int32 × Int32 × Int32) => (r, u) = fX1_add mo fl row ba mr ex x1 x2) (fun u t => w1 D cJ h0 h1 mo u.1 u.2.1 u.2.2.1 u.2.2.2.1 u.2.2.2.2 t) (aw1 h0 h1)) ([.ref h0, .int x1, .int x2] : List Value).toArray s 0 0 (aw1 h0 h1)) (F0 m 14 ls []) := by
    intro y1 y2 vfl vrow vba vmr vex H locs ls hP hS hl hmr hE
    refine lv_aload_n hx hb dX1_add_14 rfl (lv_at hl 0 rfl) ?_
    refine lv_iload_n hx hb dX1_add_15 rfl (lv_at hl 1 rfl) ?_
    refine lv_iload_n hx hb dX1_add_16 rfl (lv_at hl 2 rfl) ?_
    refine lv_iconst (v := 0) hx hb dX1_add_17 (by decide) ?_
    refine k1_calli (va_runV (As := [.int y1, .int y2, .int (0 : Int32)]) (rest := []) ⟨hx, hb, hml, hown, hts⟩ (ccX1_none l D cJ h0 h1 hne mo vfl vrow vba vmr vex y1 y2 (0 : Int32) ) (cwV 3 hts gX1_add_X1_none rfl rfl rfl (by decide +kernel) ⟨Nat.le_of_ble_eq_true rfl, Nat.le_of_ble_eq_true rfl⟩) (w1_pre hK hP hmr) rfl rfl hl.1 rfl (lv_room (Nat.le_of_ble_eq_true rfl)) dX1_add_18 ⟨Nat.zero_le _, Nat.zero_le _⟩) hS (fun r_18 u H locs hw hP hmr hS => ?_)
    obtain ⟨fl_18, rfl⟩ : ∃ z, z = u := ⟨_, rfl⟩
    have hP : va_P D vwCl (bw1 cJ h0 h1 mo fl_18 vrow vba vmr vex) H := hP
    replace hE : fX1_add mo fl row ba mr ex x1 x2 = fX1_add_k21 r_18 mo fl_18 vrow vba vmr vex := by have h : fX1_add mo fl row ba mr ex x1 x2 = fX1_add_k21 ((fX1_none vfl y1 y2 (0 : Int32)).1) mo ((fX1_none vfl y1 y2 (0 : Int32)).2) vrow vba vmr vex := hE; rw [← hw] at h; exact h
    exact W.iret hx hb hr (fun t ht hW => ⟨⟨_, (fl_18, vrow, vba, vmr, vex), rfl, hE.symm, by rw [ht]; exact hP, va_K.moved hW.alike hK, hmr⟩, hS.F ht⟩) hS.2.2 dX1_add_21
  have hE : fX1_add mo fl row ba mr ex x1 x2 = fX1_add mo fl row ba mr ex x1 x2 := rfl
  refine lv_iload_n hx hb dX1_add_0 rfl (lv_at hl 1 rfl) ?_
  refine sc_i (W.runS (As := [.int x1]) (rest := []) ⟨hx, hb, hml, hown, hts⟩ (ccX1_isNone l x1 ) (va_cwS 1 hts gX1_add_X1_isNone rfl rfl rfl (by decide +kernel) ⟨Nat.le_of_ble_eq_true rfl, Nat.le_of_ble_eq_true rfl⟩) st_pre rfl rfl hl.1 rfl (lv_room (Nat.le_of_ble_eq_true rfl)) dX1_add_1 ⟨Nat.zero_le _, Nat.zero_le _⟩) ?_
  refine lv_if_ne (tgt := 14) hx hb dX1_add_4 (by decide) (fun c_4 => ?_) (fun c_4 => ?_)
  · replace hE := hE.trans (if_neg c_4)
    exact j_14 x1 x2 fl row ba mr ex _ _ _ hP hS (lv_sub hl [0, 1, 2] rfl) hmr hE
  · replace hE := hE.trans (if_pos c_4)
    refine lv_iload_n hx hb dX1_add_7 rfl (lv_at hl 2 rfl) ?_
    refine sc_i (W.runS (As := [.int x2]) (rest := []) ⟨hx, hb, hml, hown, hts⟩ (ccX1_isNone l x2 ) (va_cwS 1 hts gX1_add_X1_isNone rfl rfl rfl (by decide +kernel) ⟨Nat.le_of_ble_eq_true rfl, Nat.le_of_ble_eq_true rfl⟩) st_pre rfl rfl hl.1 rfl (lv_room (Nat.le_of_ble_eq_true rfl)) dX1_add_8 ⟨Nat.zero_le _, Nat.zero_le _⟩) ?_
    refine lv_if_eq (tgt := 22) hx hb dX1_add_11 (by decide) (fun c_11 => ?_) (fun c_11 => ?_)
    · replace hE := hE.trans (if_pos c_11)
      refine lv_iload_n hx hb dX1_add_22 rfl (lv_at hl 1 rfl) ?_
      refine sc_i (W.runS (As := [.int x1]) (rest := []) ⟨hx, hb, hml, hown, hts⟩ (ccX1_isInfinite l x1 ) (va_cwS 1 hts gX1_add_X1_isInfinite rfl rfl rfl (by decide +kernel) ⟨Nat.le_of_ble_eq_true rfl, Nat.le_of_ble_eq_true rfl⟩) st_pre rfl rfl hl.1 rfl (lv_room (Nat.le_of_ble_eq_true rfl)) dX1_add_23 ⟨Nat.zero_le _, Nat.zero_le _⟩) ?_
      refine lv_if_eq (tgt := 52) hx hb dX1_add_26 (by decide) (fun c_26 => ?_) (fun c_26 => ?_)
      · replace hE := hE.trans (if_pos c_26)
        exact j_52 x1 x2 fl row ba mr ex _ _ _ hP hS (lv_sub hl [0, 1, 2] rfl) hmr hE
      · replace hE := hE.trans (if_neg c_26)
        refine lv_iload_n hx hb dX1_add_29 rfl (lv_at hl 2 rfl) ?_
        refine sc_i (W.runS (As := [.int x2]) (rest := []) ⟨hx, hb, hml, hown, hts⟩ (ccX1_isInfinite l x2 ) (va_cwS 1 hts gX1_add_X1_isInfinite rfl rfl rfl (by decide +kernel) ⟨Nat.le_of_ble_eq_true rfl, Nat.le_of_ble_eq_true rfl⟩) st_pre rfl rfl hl.1 rfl (lv_room (Nat.le_of_ble_eq_true rfl)) dX1_add_30 ⟨Nat.zero_le _, Nat.zero_le _⟩) ?_
        refine lv_if_eq (tgt := 52) hx hb dX1_add_33 (by decide) (fun c_33 => ?_) (fun c_33 => ?_)
        · replace hE := hE.trans (if_pos c_33)
          exact j_52 x1 x2 fl row ba mr ex _ _ _ hP hS (lv_sub hl [0, 1, 2] rfl) hmr hE
        · replace hE := hE.trans (if_neg c_33)
          refine lv_iload_n hx hb dX1_add_36 rfl (lv_at hl 1 rfl) ?_
          refine sc_i (W.runS (As := [.int x1]) (rest := []) ⟨hx, hb, hml, hown, hts⟩ (ccX1_isNegative l x1 ) (va_cwS 1 hts gX1_add_X1_isNegative rfl rfl rfl (by decide +kernel) ⟨Nat.le_of_ble_eq_true rfl, Nat.le_of_ble_eq_true rfl⟩) st_pre rfl rfl hl.1 rfl (lv_room (Nat.le_of_ble_eq_true rfl)) dX1_add_37 ⟨Nat.zero_le _, Nat.zero_le _⟩) ?_
          refine lv_iload_n hx hb dX1_add_40 rfl (lv_at hl 2 rfl) ?_
          refine sc_i (W.runS (As := [.int x2]) (rest := [.int (fX1_isNegative x1)]) ⟨hx, hb, hml, hown, hts⟩ (ccX1_isNegative l x2 ) (va_cwS 1 hts gX1_add_X1_isNegative rfl rfl rfl (by decide +kernel) ⟨Nat.le_of_ble_eq_true rfl, Nat.le_of_ble_eq_true rfl⟩) st_pre rfl rfl hl.1 rfl (lv_room (Nat.le_of_ble_eq_true rfl)) dX1_add_41 ⟨Nat.zero_le _, Nat.zero_le _⟩) ?_
          refine lv_icmp_eq (tgt := 52) hx hb dX1_add_44 (by decide) (fun c_44 => ?_) (fun c_44 => ?_)
          · replace hE := hE.trans (if_pos c_44)
            exact j_52 x1 x2 fl row ba mr ex _ _ _ hP hS (lv_sub hl [0, 1, 2] rfl) hmr hE
          · replace hE := hE.trans (if_neg c_44)
            refine lv_aload_n hx hb dX1_add_47 rfl (lv_at hl 0 rfl) ?_
            refine k1_calli (va_runV (As := []) (rest := []) ⟨hx, hb, hml, hown, hts⟩ (ccX1_invalid l D cJ h0 h1 hne mo fl row ba mr ex  ) (cwV 0 hts gX1_add_X1_invalid rfl rfl rfl (by decide +kernel) ⟨Nat.le_of_ble_eq_true rfl, Nat.le_of_ble_eq_true rfl⟩) (w1_pre hK hP hmr) rfl rfl hl.1 rfl (lv_room (Nat.le_of_ble_eq_true rfl)) dX1_add_48 ⟨Nat.zero_le _, Nat.zero_le _⟩) hS (fun r_48 u H locs hw hP hmr hS => ?_)
            obtain ⟨fl_48, rfl⟩ : ∃ z, z = u := ⟨_, rfl⟩
            have hP : va_P D vwCl (bw1 cJ h0 h1 mo fl_48 row ba mr ex) H := hP
            replace hE : fX1_add mo fl row ba mr ex x1 x2 = fX1_add_k51 r_48 mo fl_48 row ba mr ex := by have h : fX1_add mo fl row ba mr ex x1 x2 = fX1_add_k51 ((fX1_invalid fl).1) mo ((fX1_invalid fl).2) row ba mr ex := hE; rw [← hw] at h; exact h
            exact W.iret hx hb hr (fun t ht hW => ⟨⟨_, (fl_48, row, ba, mr, ex), rfl, hE.symm, by rw [ht]; exact hP, va_K.moved hW.alike hK, hmr⟩, hS.F ht⟩) hS.2.2 dX1_add_51
    · replace hE := hE.trans (if_neg c_11)
      exact j_14 x1 x2 fl row ba mr ex _ _ _ hP hS (lv_sub hl [0, 1, 2] rfl) hmr hE
/-! X1_subtract -/
def fX1_subtract_k26 (z0 : Int32) (mo : Int32) (vfl : Int32) (vrow : (Nat → Int64)) (vba : Int32) (vmr : Int32) (vex : Int32) : Int32 × Int32 × (Nat → Int64) × Int32 × Int32 × Int32 := (z0, vfl, vrow, vba, vmr, vex)
def fX1_subtract_k14 (z0 : Int32) (mo : Int32) (vfl : Int32) (vrow : (Nat → Int64)) (vba : Int32) (vmr : Int32) (vex : Int32) : Int32 × Int32 × (Nat → Int64) × Int32 × Int32 × Int32 := (z0, vfl, vrow, vba, vmr, vex)
def fX1_subtract (mo : Int32) (fl : Int32) (row : (Nat → Int64)) (ba : Int32) (mr : Int32) (ex : Int32) (x1 : Int32) (x2 : Int32) : Int32 × Int32 × (Nat → Int64) × Int32 × Int32 × Int32 := (if ((fX1_isNone x2)) = 0 then fX1_subtract_k26 ((fX1_add mo fl row ba mr ex x1 ((x2 ^^^ (-2147483648 : Int32)))).1) mo ((fX1_add mo fl row ba mr ex x1 ((x2 ^^^ (-2147483648 : Int32)))).2.1) ((fX1_add mo fl row ba mr ex x1 ((x2 ^^^ (-2147483648 : Int32)))).2.2.1) ((fX1_add mo fl row ba mr ex x1 ((x2 ^^^ (-2147483648 : Int32)))).2.2.2.1) ((fX1_add mo fl row ba mr ex x1 ((x2 ^^^ (-2147483648 : Int32)))).2.2.2.2.1) ((fX1_add mo fl row ba mr ex x1 ((x2 ^^^ (-2147483648 : Int32)))).2.2.2.2.2) else fX1_subtract_k14 ((fX1_none fl x1 x2 (0 : Int32)).1) mo ((fX1_none fl x1 x2 (0 : Int32)).2) row ba mr ex)
set_option maxHeartbeats 4000000 in
set_option maxRecDepth 100000 in
theorem ccX1_subtract (l : Launch) (D : va_G) (cJ : ClassId) (h0 h1 : Nat) (hne : h0 ≠ h1) (mo fl : Int32) (row : Nat → Int64) (ba mr ex : Int32) (x1 : Int32) (x2 : Int32)  : Met l yX1_subtract wsX1_subtract { frames := 5, cells := 0, slots := 0, locals := 118 } (va_Pc [.ref h0, .int x1, .int x2] (w1 D cJ h0 h1 mo fl row ba mr ex)) (va_Qi (fun (r : Int32) (u : Int32 × (Nat → Int64) × Int32 × Int32 × Int32) => (r, u) = fX1_subtract mo fl row ba mr ex x1 x2) (fun u t => w1 D cJ h0 h1 mo u.1 u.2.1 u.2.2.1 u.2.2.2.1 u.2.2.2.2 t) (aw1 h0 h1)) 0 0 (aw1 h0 h1) := by
  refine Met.ofW (cc := cX1_subtract) (maxL := 3) (ret := (some .int)) (by decide) rfl ?_
  intro p e s m args below meth c s₁ B hml hv
  obtain ⟨rfl, hP, hK, hmr⟩ := hv
  have hx := B.exec
  have hb := B.bytes
  have hr := B.returns
  have hts := atoms_spec (ws := wsX1_subtract) B.pre
  have hown : s.vm.findClass RX1 = some m.cls := findClass_of_methodNamed B.named
  have hlocks := B.notSynchronized
  have hS : va_S (aw1 h0 h1) s.heap s.heap [] := va_S.rf
  have hP : va_P D vwCl (bw1 cJ h0 h1 mo fl row ba mr ex) s.heap := hP
  have hl := lv_entry ([.ref h0, .int x1, .int x2]) (n := 3) (Nat.le_of_ble_eq_true rfl)
  rw [lg_entry_eq]
  generalize (lg_sl ([.ref h0, .int x1, .int x2]) ++ List.replicate (3 - (lg_sl ([.ref h0, .int x1, .int x2])).length) Slot.unset).toArray = ls at hl ⊢
  have hl : lv_has ls 3 [(0, .ref h0), (1, .int x1), (2, .int x2)] := hl
  have hE : fX1_subtract mo fl row ba mr ex x1 x2 = fX1_subtract mo fl row ba mr ex x1 x2 := rfl
  refine lv_iload_n hx hb dX1_subtract_0 rfl (lv_at hl 2 rfl) ?_
  refine sc_i (W.runS (As := [.int x2]) (rest := []) ⟨hx, hb, hml, hown, hts⟩ (ccX1_isNone l x2 ) (va_cwS 1 hts gX1_subtract_X1_isNone rfl rfl rfl (by decide +kernel) ⟨Nat.le_of_ble_eq_true rfl, Nat.le_of_ble_eq_true rfl⟩) st_pre rfl rfl hl.1 rfl (lv_room (Nat.le_of_ble_eq_true rfl)) dX1_subtract_1 ⟨Nat.zero_le _, Nat.zero_le _⟩) ?_
  refine lv_if_eq (tgt := 17) hx hb dX1_subtract_4 (by decide) (fun c_4 => ?_) (fun c_4 => ?_)
  · replace hE := hE.trans (if_pos c_4)
    refine lv_aload_n hx hb dX1_subtract_17 rfl (lv_at hl 0 rfl) ?_
    refine lv_iload_n hx hb dX1_subtract_18 rfl (lv_at hl 1 rfl) ?_
    refine lv_iload_n hx hb dX1_subtract_19 rfl (lv_at hl 2 rfl) ?_
    refine lv_ldc hx hb hown (hts (.constant RX1 34 (-2147483648)) (by decide +kernel)) dX1_subtract_20 ?_
    refine lv_ixor hx hb dX1_subtract_22 ?_
    refine k1_calli (va_runV (As := [.int x1, .int (x2 ^^^ (-2147483648 : Int32))]) (rest := []) ⟨hx, hb, hml, hown, hts⟩ (ccX1_add l D cJ h0 h1 hne mo fl row ba mr ex x1 ((x2 ^^^ (-2147483648 : Int32))) ) (cwV 2 hts gX1_subtract_X1_add rfl rfl rfl (by decide +kernel) ⟨Nat.le_of_ble_eq_true rfl, Nat.le_of_ble_eq_true rfl⟩) (w1_pre hK hP hmr) rfl rfl hl.1 rfl (lv_room (Nat.le_of_ble_eq_true rfl)) dX1_subtract_23 ⟨Nat.zero_le _, Nat.zero_le _⟩) hS (fun r_23 u H locs hw hP hmr hS => ?_)
    obtain ⟨fl_23, row_23, ba_23, mr_23, ex_23⟩ := u
    have hP : va_P D vwCl (bw1 cJ h0 h1 mo fl_23 row_23 ba_23 mr_23 ex_23) H := hP
    replace hE : fX1_subtract mo fl row ba mr ex x1 x2 = fX1_subtract_k26 r_23 mo fl_23 row_23 ba_23 mr_23 ex_23 := by have h : fX1_subtract mo fl row ba mr ex x1 x2 = fX1_subtract_k26 ((fX1_add mo fl row ba mr ex x1 ((x2 ^^^ (-2147483648 : Int32)))).1) mo ((fX1_add mo fl row ba mr ex x1 ((x2 ^^^ (-2147483648 : Int32)))).2.1) ((fX1_add mo fl row ba mr ex x1 ((x2 ^^^ (-2147483648 : Int32)))).2.2.1) ((fX1_add mo fl row ba mr ex x1 ((x2 ^^^ (-2147483648 : Int32)))).2.2.2.1) ((fX1_add mo fl row ba mr ex x1 ((x2 ^^^ (-2147483648 : Int32)))).2.2.2.2.1) ((fX1_add mo fl row ba mr ex x1 ((x2 ^^^ (-2147483648 : Int32)))).2.2.2.2.2) := hE; rw [← hw] at h; exact h
    exact W.iret hx hb hr (fun t ht hW => ⟨⟨_, (fl_23, row_23, ba_23, mr_23, ex_23), rfl, hE.symm, by rw [ht]; exact hP, va_K.moved hW.alike hK, hmr⟩, hS.F ht⟩) hS.2.2 dX1_subtract_26
  · replace hE := hE.trans (if_neg c_4)
    refine lv_aload_n hx hb dX1_subtract_7 rfl (lv_at hl 0 rfl) ?_
    refine lv_iload_n hx hb dX1_subtract_8 rfl (lv_at hl 1 rfl) ?_
    refine lv_iload_n hx hb dX1_subtract_9 rfl (lv_at hl 2 rfl) ?_
    refine lv_iconst (v := 0) hx hb dX1_subtract_10 (by decide) ?_
    refine k1_calli (va_runV (As := [.int x1, .int x2, .int (0 : Int32)]) (rest := []) ⟨hx, hb, hml, hown, hts⟩ (ccX1_none l D cJ h0 h1 hne mo fl row ba mr ex x1 x2 (0 : Int32) ) (cwV 3 hts gX1_subtract_X1_none rfl rfl rfl (by decide +kernel) ⟨Nat.le_of_ble_eq_true rfl, Nat.le_of_ble_eq_true rfl⟩) (w1_pre hK hP hmr) rfl rfl hl.1 rfl (lv_room (Nat.le_of_ble_eq_true rfl)) dX1_subtract_11 ⟨Nat.zero_le _, Nat.zero_le _⟩) hS (fun r_11 u H locs hw hP hmr hS => ?_)
    obtain ⟨fl_11, rfl⟩ : ∃ z, z = u := ⟨_, rfl⟩
    have hP : va_P D vwCl (bw1 cJ h0 h1 mo fl_11 row ba mr ex) H := hP
    replace hE : fX1_subtract mo fl row ba mr ex x1 x2 = fX1_subtract_k14 r_11 mo fl_11 row ba mr ex := by have h : fX1_subtract mo fl row ba mr ex x1 x2 = fX1_subtract_k14 ((fX1_none fl x1 x2 (0 : Int32)).1) mo ((fX1_none fl x1 x2 (0 : Int32)).2) row ba mr ex := hE; rw [← hw] at h; exact h
    refine lv_goto (tgt := 26) hx hb dX1_subtract_14 (by decide) ?_
    exact W.iret hx hb hr (fun t ht hW => ⟨⟨_, (fl_11, row, ba, mr, ex), rfl, hE.symm, by rw [ht]; exact hP, va_K.moved hW.alike hK, hmr⟩, hS.F ht⟩) hS.2.2 dX1_subtract_26
/-! X1_fused -/
def fX1_fused_k278 (z0 : Int32) (mo : Int32) (vfl : Int32) (vrow : (Nat → Int64)) (vba : Int32) (vmr : Int32) (vex : Int32) : Int32 × Int32 × (Nat → Int64) × Int32 × Int32 × Int32 := (z0, vfl, vrow, vba, vmr, vex)
def fX1_fused_k248 (y3 : Int32) (y5 : Int32) (y7 : Int32) (z0 : Int32) (mo : Int32) (vfl : Int32) (vrow : (Nat → Int64)) (vba : Int32) (vmr : Int32) (vex : Int32) : Int32 × Int32 × (Nat → Int64) × Int32 × Int32 × Int32 := (if 0 ≤ ((fX1_top vrow)) then fX1_fused_k278 ((fX1_finish mo vfl vrow vba vmr vex z0).1) mo ((fX1_finish mo vfl vrow vba vmr vex z0).2.1) vrow vba vmr ((fX1_finish mo vfl vrow vba vmr vex z0).2.2) else ((fX1_zero mo y7 y5 ((fX1_isNegative y3))), vfl, vrow, vba, vmr, vex))
def fX1_fused_k242 (y3 : Int32) (y5 : Int32) (z0 : Int32) (mo : Int32) (vfl : Int32) (vrow : (Nat → Int64)) (vba : Int32) (vmr : Int32) (vex : Int32) : Int32 × Int32 × (Nat → Int64) × Int32 × Int32 × Int32 := fX1_fused_k248 y3 y5 z0 ((fX1_settle vrow).1) mo vfl ((fX1_settle vrow).2) vba vmr vex
def fX1_fused_k230 (y3 : Int32) (y5 : Int32) (mo : Int32) (vfl : Int32) (vrow : (Nat → Int64)) (vba : Int32) (vmr : Int32) (vex : Int32) : Int32 × Int32 × (Nat → Int64) × Int32 × Int32 × Int32 := (if ((fX1_isZero y3)) = 0 then fX1_fused_k242 y3 y5 (0 : Int32) mo vfl vrow vba vmr vex else fX1_fused_k242 y3 y5 (1 : Int32) mo vfl vrow vba vmr vex)
def fX1_fused_k216 (y1 : Int32) (y2 : Int32) (y3 : Int32) (y5 : Int32) (mo : Int32) (vfl : Int32) (vrow : (Nat → Int64)) (vba : Int32) (vmr : Int32) (vex : Int32) : Int32 × Int32 × (Nat → Int64) × Int32 × Int32 × Int32 := (if ((fX1_isZero y1)) = 0 then (if ((fX1_isZero y2)) = 0 then fX1_fused_k242 y3 y5 (0 : Int32) mo vfl vrow vba vmr vex else fX1_fused_k230 y3 y5 mo vfl vrow vba vmr vex) else fX1_fused_k230 y3 y5 mo vfl vrow vba vmr vex)
def fX1_fused_k199 (y1 : Int32) (y2 : Int32) (y3 : Int32) (y5 : Int32) (mo : Int32) (vfl : Int32) (vrow : (Nat → Int64)) (vba : Int32) (vmr : Int32) (vex : Int32) : Int32 × Int32 × (Nat → Int64) × Int32 × Int32 × Int32 := fX1_fused_k216 y1 y2 y3 y5 mo vfl ((fX1_put vrow vba ((Int32.toInt64 ((fX1_units y3)))) ((fX1_place y3)) ((fX1_isNegative y3)))) vba vmr vex
def fX1_fused_k173 (y1 : Int32) (y2 : Int32) (y3 : Int32) (y5 : Int32) (mo : Int32) (vfl : Int32) (vrow : (Nat → Int64)) (vba : Int32) (vmr : Int32) (vex : Int32) : Int32 × Int32 × (Nat → Int64) × Int32 × Int32 × Int32 := fX1_fused_k199 y1 y2 y3 y5 mo vfl ((fX1_put vrow vba ((((Int32.toInt64 ((fX1_units y1)))) * ((Int32.toInt64 ((fX1_units y2)))))) ((((fX1_place y1)) + ((fX1_place y2)))) y5)) vba vmr vex
def fX1_fused_k144 (y1 : Int32) (y2 : Int32) (y3 : Int32) (y5 : Int32) (y6 : Int32) (mo : Int32) (vfl : Int32) (vrow : (Nat → Int64)) (vba : Int32) (vmr : Int32) (vex : Int32) : Int32 × Int32 × (Nat → Int64) × Int32 × Int32 × Int32 := (if y6 = 0 then (if ((fX1_isInfinite y3)) = 0 then fX1_fused_k173 y1 y2 y3 y5 mo vfl ((fX1_empty vrow vba vmr (-298 : Int32)).1) ((fX1_empty vrow vba vmr (-298 : Int32)).2.1) ((fX1_empty vrow vba vmr (-298 : Int32)).2.2) vex else (y3, vfl, vrow, vba, vmr, vex)) else ((fX1_signed (2139095040 : Int32) y5), vfl, vrow, vba, vmr, vex))
def fX1_fused_k143 (z0 : Int32) (mo : Int32) (vfl : Int32) (vrow : (Nat → Int64)) (vba : Int32) (vmr : Int32) (vex : Int32) : Int32 × Int32 × (Nat → Int64) × Int32 × Int32 × Int32 := (z0, vfl, vrow, vba, vmr, vex)
def fX1_fused_k116 (y1 : Int32) (y2 : Int32) (y3 : Int32) (y5 : Int32) (z0 : Int32) (mo : Int32) (vfl : Int32) (vrow : (Nat → Int64)) (vba : Int32) (vmr : Int32) (vex : Int32) : Int32 × Int32 × (Nat → Int64) × Int32 × Int32 × Int32 := (if z0 = 0 then fX1_fused_k144 y1 y2 y3 y5 z0 mo vfl vrow vba vmr vex else (if ((fX1_isInfinite y3)) = 0 then fX1_fused_k144 y1 y2 y3 y5 z0 mo vfl vrow vba vmr vex else (if y5 = ((fX1_isNegative y3)) then fX1_fused_k144 y1 y2 y3 y5 z0 mo vfl vrow vba vmr vex else fX1_fused_k143 ((fX1_invalid vfl).1) mo ((fX1_invalid vfl).2) vrow vba vmr vex)))
def fX1_fused_k95 (y1 : Int32) (y2 : Int32) (y3 : Int32) (z0 : Int32) (mo : Int32) (vfl : Int32) (vrow : (Nat → Int64)) (vba : Int32) (vmr : Int32) (vex : Int32) : Int32 × Int32 × (Nat → Int64) × Int32 × Int32 × Int32 := (if ((fX1_isInfinite y1)) = 0 then (if ((fX1_isInfinite y2)) = 0 then fX1_fused_k116 y1 y2 y3 z0 (0 : Int32) mo vfl vrow vba vmr vex else fX1_fused_k116 y1 y2 y3 z0 (1 : Int32) mo vfl vrow vba vmr vex) else fX1_fused_k116 y1 y2 y3 z0 (1 : Int32) mo vfl vrow vba vmr vex)
def fX1_fused_k78 (z0 : Int32) (mo : Int32) (vfl : Int32) (vrow : (Nat → Int64)) (vba : Int32) (vmr : Int32) (vex : Int32) : Int32 × Int32 × (Nat → Int64) × Int32 × Int32 × Int32 := (z0, vfl, vrow, vba, vmr, vex)
def fX1_fused_k71 (y1 : Int32) (y2 : Int32) (y3 : Int32) (mo : Int32) (vfl : Int32) (vrow : (Nat → Int64)) (vba : Int32) (vmr : Int32) (vex : Int32) : Int32 × Int32 × (Nat → Int64) × Int32 × Int32 × Int32 := fX1_fused_k78 ((fX1_none vfl y1 y2 y3).1) mo ((fX1_none vfl y1 y2 y3).2) vrow vba vmr vex
def fX1_fused_k59 (y1 : Int32) (y2 : Int32) (y3 : Int32) (y4 : Int32) (mo : Int32) (vfl : Int32) (vrow : (Nat → Int64)) (vba : Int32) (vmr : Int32) (vex : Int32) : Int32 × Int32 × (Nat → Int64) × Int32 × Int32 × Int32 := (if y4 = 0 then fX1_fused_k71 y1 y2 y3 mo vfl vrow vba vmr vex else (if ((fX1_isNone y3)) = 0 then (if ((fX1_isNegative y1)) = ((fX1_isNegative y2)) then fX1_fused_k95 y1 y2 y3 (0 : Int32) mo vfl vrow vba vmr vex else fX1_fused_k95 y1 y2 y3 (1 : Int32) mo vfl vrow vba vmr vex) else fX1_fused_k71 y1 y2 y3 mo vfl vrow vba vmr vex))
def fX1_fused_k58 (z0 : Int32) (mo : Int32) (vfl : Int32) (vrow : (Nat → Int64)) (vba : Int32) (vmr : Int32) (vex : Int32) : Int32 × Int32 × (Nat → Int64) × Int32 × Int32 × Int32 := (z0, vfl, vrow, vba, vmr, vex)
def fX1_fused_k54 (mo : Int32) (vfl : Int32) (vrow : (Nat → Int64)) (vba : Int32) (vmr : Int32) (vex : Int32) : Int32 × Int32 × (Nat → Int64) × Int32 × Int32 × Int32 := fX1_fused_k58 ((fX1_invalid vfl).1) mo ((fX1_invalid vfl).2) vrow vba vmr vex
def fX1_fused_k40 (y1 : Int32) (y2 : Int32) (y3 : Int32) (y4 : Int32) (mo : Int32) (vfl : Int32) (vrow : (Nat → Int64)) (vba : Int32) (vmr : Int32) (vex : Int32) : Int32 × Int32 × (Nat → Int64) × Int32 × Int32 × Int32 := (if ((fX1_isInfinite y1)) = 0 then fX1_fused_k59 y1 y2 y3 y4 mo vfl vrow vba vmr vex else (if ((fX1_isZero y2)) = 0 then fX1_fused_k59 y1 y2 y3 y4 mo vfl vrow vba vmr vex else fX1_fused_k54 mo vfl vrow vba vmr vex))
def fX1_fused_k19 (y1 : Int32) (y2 : Int32) (y3 : Int32) (z0 : Int32) (mo : Int32) (vfl : Int32) (vrow : (Nat → Int64)) (vba : Int32) (vmr : Int32) (vex : Int32) : Int32 × Int32 × (Nat → Int64) × Int32 × Int32 × Int32 := (if z0 = 0 then fX1_fused_k59 y1 y2 y3 z0 mo vfl vrow vba vmr vex else (if ((fX1_isZero y1)) = 0 then fX1_fused_k40 y1 y2 y3 z0 mo vfl vrow vba vmr vex else (if ((fX1_isInfinite y2)) = 0 then fX1_fused_k40 y1 y2 y3 z0 mo vfl vrow vba vmr vex else fX1_fused_k54 mo vfl vrow vba vmr vex)))
def fX1_fused (mo : Int32) (fl : Int32) (row : (Nat → Int64)) (ba : Int32) (mr : Int32) (ex : Int32) (x1 : Int32) (x2 : Int32) (x3 : Int32) : Int32 × Int32 × (Nat → Int64) × Int32 × Int32 × Int32 := (if ((fX1_isNone x1)) = 0 then (if ((fX1_isNone x2)) = 0 then fX1_fused_k19 x1 x2 x3 (1 : Int32) mo fl row ba mr ex else fX1_fused_k19 x1 x2 x3 (0 : Int32) mo fl row ba mr ex) else fX1_fused_k19 x1 x2 x3 (0 : Int32) mo fl row ba mr ex)
set_option maxHeartbeats 4000000 in
set_option maxRecDepth 100000 in
theorem ccX1_fused (l : Launch) (D : va_G) (cJ : ClassId) (h0 h1 : Nat) (hne : h0 ≠ h1) (mo fl : Int32) (row : Nat → Int64) (ba mr ex : Int32) (x1 : Int32) (x2 : Int32) (x3 : Int32)  : Met l yX1_fused wsX1_fused { frames := 4, cells := 0, slots := 0, locals := 95 } (va_Pc [.ref h0, .int x1, .int x2, .int x3] (w1 D cJ h0 h1 mo fl row ba mr ex)) (va_Qi (fun (r : Int32) (u : Int32 × (Nat → Int64) × Int32 × Int32 × Int32) => (r, u) = fX1_fused mo fl row ba mr ex x1 x2 x3) (fun u t => w1 D cJ h0 h1 mo u.1 u.2.1 u.2.2.1 u.2.2.2.1 u.2.2.2.2 t) (aw1 h0 h1)) 0 0 (aw1 h0 h1) := by
  refine Met.ofW (cc := cX1_fused) (maxL := 9) (ret := (some .int)) (by decide) rfl ?_
  intro p e s m args below meth c s₁ B hml hv
  obtain ⟨rfl, hP, hK, hmr⟩ := hv
  have hx := B.exec
  have hb := B.bytes
  have hr := B.returns
  have hts := atoms_spec (ws := wsX1_fused) B.pre
  have hown : s.vm.findClass RX1 = some m.cls := findClass_of_methodNamed B.named
  have hlocks := B.notSynchronized
  have hS : va_S (aw1 h0 h1) s.heap s.heap [] := va_S.rf
  have hP : va_P D vwCl (bw1 cJ h0 h1 mo fl row ba mr ex) s.heap := hP
  have hl := lv_entry ([.ref h0, .int x1, .int x2, .int x3]) (n := 9) (Nat.le_of_ble_eq_true rfl)
  rw [lg_entry_eq]
  generalize (lg_sl ([.ref h0, .int x1, .int x2, .int x3]) ++ List.replicate (9 - (lg_sl ([.ref h0, .int x1, .int x2, .int x3])).length) Slot.unset).toArray = ls at hl ⊢
  have hl : lv_has ls 9 [(0, .ref h0), (1, .int x1), (2, .int x2), (3, .int x3)] := hl
  have j_242 : ∀ (y3 : Int32) (y5 : Int32) (z0 : Int32) (vfl : Int32) (vrow : (Nat → Int64)) (vba : Int32) (vmr : Int32) (vex : Int32) (H : Heap) (locs : List Loc) (ls : Array Slot), va_P D vwCl (bw1 cJ h0 h1 mo vfl vrow vba vmr vex) H → va_S (aw1 h0 h1) s.heap H locs → lv_has ls 9 [(0, .ref h0), (3, .int y3), (5, .int y5)] → isB y5 → isB z0 → isB vmr → fX1_fused mo fl row ba mr ex x1 x2 x3 = fX1_fused_k242 y3 y5 z0 mo vfl vrow vba vmr vex → W p l e (headSpec wsX1_fused { frames := 4, cells := 0, slots := 0, locals := 95 }).room s m ([.ref h0, .int x1, .int x2, .int x3] : List Value).toArray below meth c H locs 0 0 (MQ below (va_Qi (fun (r : Int32) (u : Int32 × (Nat → Int64) × Int32 × Int32 × Int32) => (r, u) = fX1_fused mo fl row ba mr ex x1 x2 x3) (fun u t => w1 D cJ h0 h1 mo u.1 u.2.1 u.2.2.1 u.2.2.2.1 u.2.2.2.2 t) (aw1 h0 h1)) ([.ref h0, .int x1, .int x2, .int x3] : List Value).toArray s 0 0 (aw1 h0 h1)) (F0 m 242 ls [.int z0]) := by
    intro y3 y5 z0 vfl vrow vba vmr vex H locs ls hP hS hl b_y5 b_z0 hmr hE
    refine lv_istore (lv' := [(7, .int z0), (0, .ref h0), (3, .int y3), (5, .int y5)]) hx hb dX1_fused_242 hl (by decide) rfl (fun ls hl => ?_)
    refine lv_aload_n hx hb dX1_fused_244 rfl (lv_at hl 1 rfl) ?_
    refine k1_calli (va_runV (As := []) (rest := []) ⟨hx, hb, hml, hown, hts⟩ (ccX1_settle l D cJ h0 h1 hne mo vfl vrow vba vmr vex  ) (cwV 0 hts gX1_fused_X1_settle rfl rfl rfl (by decide +kernel) ⟨Nat.le_of_ble_eq_true rfl, Nat.le_of_ble_eq_true rfl⟩) (w1_pre hK hP hmr) rfl rfl hl.1 rfl (lv_room (Nat.le_of_ble_eq_true rfl)) dX1_fused_245 ⟨Nat.zero_le _, Nat.zero_le _⟩) hS (fun r_245 u H locs hw hP hmr hS => ?_)
    obtain ⟨row_245, rfl⟩ : ∃ z, z = u := ⟨_, rfl⟩
    have hP : va_P D vwCl (bw1 cJ h0 h1 mo vfl row_245 vba vmr vex) H := hP
    replace hE : fX1_fused mo fl row ba mr ex x1 x2 x3 = fX1_fused_k248 y3 y5 z0 r_245 mo vfl row_245 vba vmr vex := by have h : fX1_fused mo fl row ba mr ex x1 x2 x3 = fX1_fused_k248 y3 y5 z0 ((fX1_settle vrow).1) mo vfl ((fX1_settle vrow).2) vba vmr vex := hE; rw [← hw] at h; exact h
    refine lv_istore (lv' := [(8, .int r_245), (7, .int z0), (0, .ref h0), (3, .int y3), (5, .int y5)]) hx hb dX1_fused_248 hl (by decide) rfl (fun ls hl => ?_)
    refine lv_aload_n hx hb dX1_fused_250 rfl (lv_at hl 2 rfl) ?_
    refine sc_i (W.runV (As := []) (rest := []) ⟨hx, hb, hml, hown, hts⟩ (ccX1_top l D cJ h0 h1 hne mo vfl row_245 vba vmr vex  ) (cwV 0 hts gX1_fused_X1_top rfl rfl rfl (by decide +kernel) ⟨Nat.le_of_ble_eq_true rfl, Nat.le_of_ble_eq_true rfl⟩) (w1_pre hK hP hmr) rfl rfl hl.1 rfl (lv_room (Nat.le_of_ble_eq_true rfl)) dX1_fused_251 ⟨Nat.zero_le _, Nat.zero_le _⟩) ?_
    refine lv_if_ge (tgt := 272) hx hb dX1_fused_254 (by decide) (fun c_254 => ?_) (fun c_254 => ?_)
    · replace hE := hE.trans (if_pos c_254)
      refine lv_aload_n hx hb dX1_fused_272 rfl (lv_at hl 2 rfl) ?_
      refine lv_iload hx hb dX1_fused_273 (lv_at hl 0 rfl) ?_
      refine k1_calli (va_runV (As := [.int r_245]) (rest := []) ⟨hx, hb, hml, hown, hts⟩ (ccX1_finish l D cJ h0 h1 hne mo vfl row_245 vba vmr vex r_245 ) (cwV 1 hts gX1_fused_X1_finish rfl rfl rfl (by decide +kernel) ⟨Nat.le_of_ble_eq_true rfl, Nat.le_of_ble_eq_true rfl⟩) (w1_pre hK hP hmr) rfl rfl hl.1 rfl (lv_room (Nat.le_of_ble_eq_true rfl)) dX1_fused_275 ⟨Nat.zero_le _, Nat.zero_le _⟩) hS (fun r_275 u H locs hw hP hmr hS => ?_)
      obtain ⟨fl_275, ex_275⟩ := u
      have hP : va_P D vwCl (bw1 cJ h0 h1 mo fl_275 row_245 vba vmr ex_275) H := hP
      replace hE : fX1_fused mo fl row ba mr ex x1 x2 x3 = fX1_fused_k278 r_275 mo fl_275 row_245 vba vmr ex_275 := by have h : fX1_fused mo fl row ba mr ex x1 x2 x3 = fX1_fused_k278 ((fX1_finish mo vfl row_245 vba vmr vex r_245).1) mo ((fX1_finish mo vfl row_245 vba vmr vex r_245).2.1) row_245 vba vmr ((fX1_finish mo vfl row_245 vba vmr vex r_245).2.2) := hE; rw [← hw] at h; exact h
      exact W.iret hx hb hr (fun t ht hW => ⟨⟨_, (fl_275, row_245, vba, vmr, ex_275), rfl, hE.symm, by rw [ht]; exact hP, va_K.moved hW.alike hK, hmr⟩, hS.F ht⟩) hS.2.2 dX1_fused_278
    · replace hE := hE.trans (if_neg c_254)
      refine lv_aload_n hx hb dX1_fused_257 rfl (lv_at hl 2 rfl) ?_
      refine lv_iload hx hb dX1_fused_258 (lv_at hl 1 rfl) ?_
      refine lv_iload hx hb dX1_fused_260 (lv_at hl 4 rfl) ?_
      refine lv_iload_n hx hb dX1_fused_262 rfl (lv_at hl 3 rfl) ?_
      refine sc_i (W.runS (As := [.int y3]) (rest := [.int y5, .int z0, .ref h0]) ⟨hx, hb, hml, hown, hts⟩ (ccX1_isNegative l y3 ) (va_cwS 1 hts gX1_fused_X1_isNegative rfl rfl rfl (by decide +kernel) ⟨Nat.le_of_ble_eq_true rfl, Nat.le_of_ble_eq_true rfl⟩) st_pre rfl rfl hl.1 rfl (lv_room (Nat.le_of_ble_eq_true rfl)) dX1_fused_263 ⟨Nat.zero_le _, Nat.zero_le _⟩) ?_
      refine sc_i (W.runV (As := [.int z0, .int y5, .int (fX1_isNegative y3)]) (rest := []) ⟨hx, hb, hml, hown, hts⟩ (ccX1_zero l D cJ h0 h1 hne mo vfl row_245 vba vmr vex z0 y5 ((fX1_isNegative y3)) ) (cwV 3 hts gX1_fused_X1_zero rfl rfl rfl (by decide +kernel) ⟨Nat.le_of_ble_eq_true rfl, Nat.le_of_ble_eq_true rfl⟩) (w1_pre hK hP hmr) rfl rfl hl.1 rfl (lv_room (Nat.le_of_ble_eq_true rfl)) dX1_fused_266 ⟨Nat.zero_le _, Nat.zero_le _⟩) ?_
      refine lv_goto (tgt := 278) hx hb dX1_fused_269 (by decide) ?_
      exact W.iret hx hb hr (fun t ht hW => ⟨⟨_, (vfl, row_245, vba, vmr, vex), rfl, hE.symm, by rw [ht]; exact hP, va_K.moved hW.alike hK, hmr⟩, hS.F ht⟩) hS.2.2 dX1_fused_278
  have j_230 : ∀ (y3 : Int32) (y5 : Int32) (vfl : Int32) (vrow : (Nat → Int64)) (vba : Int32) (vmr : Int32) (vex : Int32) (H : Heap) (locs : List Loc) (ls : Array Slot), va_P D vwCl (bw1 cJ h0 h1 mo vfl vrow vba vmr vex) H → va_S (aw1 h0 h1) s.heap H locs → lv_has ls 9 [(0, .ref h0), (3, .int y3), (5, .int y5)] → isB y5 → isB vmr → fX1_fused mo fl row ba mr ex x1 x2 x3 = fX1_fused_k230 y3 y5 mo vfl vrow vba vmr vex → W p l e (headSpec wsX1_fused { frames := 4, cells := 0, slots := 0, locals := 95 }).room s m ([.ref h0, .int x1, .int x2, .int x3] : List Value).toArray below meth c H locs 0 0 (MQ below (va_Qi (fun (r : Int32) (u : Int32 × (Nat → Int64) × Int32 × Int32 × Int32) => (r, u) = fX1_fused mo fl row ba mr ex x1 x2 x3) (fun u t => w1 D cJ h0 h1 mo u.1 u.2.1 u.2.2.1 u.2.2.2.1 u.2.2.2.2 t) (aw1 h0 h1)) ([.ref h0, .int x1, .int x2, .int x3] : List Value).toArray s 0 0 (aw1 h0 h1)) (F0 m 230 ls []) := by
    intro y3 y5 vfl vrow vba vmr vex H locs ls hP hS hl b_y5 hmr hE
    refine lv_iload_n hx hb dX1_fused_230 rfl (lv_at hl 1 rfl) ?_
    refine sc_i (W.runS (As := [.int y3]) (rest := []) ⟨hx, hb, hml, hown, hts⟩ (ccX1_isZero l y3 ) (va_cwS 1 hts gX1_fused_X1_isZero rfl rfl rfl (by decide +kernel) ⟨Nat.le_of_ble_eq_true rfl, Nat.le_of_ble_eq_true rfl⟩) st_pre rfl rfl hl.1 rfl (lv_room (Nat.le_of_ble_eq_true rfl)) dX1_fused_231 ⟨Nat.zero_le _, Nat.zero_le _⟩) ?_
    refine lv_if_eq (tgt := 241) hx hb dX1_fused_234 (by decide) (fun c_234 => ?_) (fun c_234 => ?_)
    · replace hE := hE.trans (if_pos c_234)
      refine lv_iconst (v := 0) hx hb dX1_fused_241 (by decide) ?_
      exact j_242 y3 y5 (0 : Int32) vfl vrow vba vmr vex _ _ _ hP hS (lv_sub hl [0, 1, 2] rfl) b_y5 isB_0 hmr hE
    · replace hE := hE.trans (if_neg c_234)
      refine lv_iconst (v := 1) hx hb dX1_fused_237 (by decide) ?_
      refine lv_goto (tgt := 242) hx hb dX1_fused_238 (by decide) ?_
      exact j_242 y3 y5 (1 : Int32) vfl vrow vba vmr vex _ _ _ hP hS (lv_sub hl [0, 1, 2] rfl) b_y5 isB_1 hmr hE
  have j_144 : ∀ (y1 : Int32) (y2 : Int32) (y3 : Int32) (y5 : Int32) (y6 : Int32) (vfl : Int32) (vrow : (Nat → Int64)) (vba : Int32) (vmr : Int32) (vex : Int32) (H : Heap) (locs : List Loc) (ls : Array Slot), va_P D vwCl (bw1 cJ h0 h1 mo vfl vrow vba vmr vex) H → va_S (aw1 h0 h1) s.heap H locs → lv_has ls 9 [(0, .ref h0), (1, .int y1), (2, .int y2), (3, .int y3), (5, .int y5), (6, .int y6)] → isB y5 → isB y6 → isB vmr → fX1_fused mo fl row ba mr ex x1 x2 x3 = fX1_fused_k144 y1 y2 y3 y5 y6 mo vfl vrow vba vmr vex → W p l e (headSpec wsX1_fused { frames := 4, cells := 0, slots := 0, locals := 95 }).room s m ([.ref h0, .int x1, .int x2, .int x3] : List Value).toArray below meth c H locs 0 0 (MQ below (va_Qi (fun (r : Int32) (u : Int32 × (Nat → Int64) × Int32 × Int32 × Int32) => (r, u) = fX1_fused mo fl row ba mr ex x1 x2 x3) (fun u t => w1 D cJ h0 h1 mo u.1 u.2.1 u.2.2.1 u.2.2.2.1 u.2.2.2.2 t) (aw1 h0 h1)) ([.ref h0, .int x1, .int x2, .int x3] : List Value).toArray s 0 0 (aw1 h0 h1)) (F0 m 144 ls []) := by
    intro y1 y2 y3 y5 y6 vfl vrow vba vmr vex H locs ls hP hS hl b_y5 b_y6 hmr hE
    refine lv_iload hx hb dX1_fused_144 (lv_at hl 5 rfl) ?_
    refine lv_if_eq (tgt := 157) hx hb dX1_fused_146 (by decide) (fun c_146 => ?_) (fun c_146 => ?_)
    · replace hE := hE.trans (if_pos c_146)
      refine lv_iload_n hx hb dX1_fused_157 rfl (lv_at hl 3 rfl) ?_
      refine sc_i (W.runS (As := [.int y3]) (rest := []) ⟨hx, hb, hml, hown, hts⟩ (ccX1_isInfinite l y3 ) (va_cwS 1 hts gX1_fused_X1_isInfinite rfl rfl rfl (by decide +kernel) ⟨Nat.le_of_ble_eq_true rfl, Nat.le_of_ble_eq_true rfl⟩) st_pre rfl rfl hl.1 rfl (lv_room (Nat.le_of_ble_eq_true rfl)) dX1_fused_158 ⟨Nat.zero_le _, Nat.zero_le _⟩) ?_
      refine lv_if_eq (tgt := 166) hx hb dX1_fused_161 (by decide) (fun c_161 => ?_) (fun c_161 => ?_)
      · replace hE := hE.trans (if_pos c_161)
        refine lv_aload_n hx hb dX1_fused_166 rfl (lv_at hl 0 rfl) ?_
        refine lv_sipush (v := -298) hx hb dX1_fused_167 (by decide) ?_
        refine k1_callv (va_runV (As := [.int (-298 : Int32)]) (rest := []) ⟨hx, hb, hml, hown, hts⟩ (ccX1_empty l D cJ h0 h1 hne mo vfl vrow vba vmr vex (-298 : Int32) ) (cwV 1 hts gX1_fused_X1_empty rfl rfl rfl (by decide +kernel) ⟨Nat.le_of_ble_eq_true rfl, Nat.le_of_ble_eq_true rfl⟩) (w1_pre hK hP hmr) rfl rfl hl.1 rfl (lv_room (Nat.le_of_ble_eq_true rfl)) dX1_fused_170 ⟨Nat.zero_le _, Nat.zero_le _⟩) hS (fun u H locs hw hP hmr hS => ?_)
        obtain ⟨row_170, ba_170, mr_170⟩ := u
        have hP : va_P D vwCl (bw1 cJ h0 h1 mo vfl row_170 ba_170 mr_170 vex) H := hP
        have hba := empty_ba hw
        replace hE : fX1_fused mo fl row ba mr ex x1 x2 x3 = fX1_fused_k173 y1 y2 y3 y5 mo vfl row_170 ba_170 mr_170 vex := by have h : fX1_fused mo fl row ba mr ex x1 x2 x3 = fX1_fused_k173 y1 y2 y3 y5 mo vfl ((fX1_empty vrow vba vmr (-298 : Int32)).1) ((fX1_empty vrow vba vmr (-298 : Int32)).2.1) ((fX1_empty vrow vba vmr (-298 : Int32)).2.2) vex := hE; rw [← hw] at h; exact h
        refine lv_aload_n hx hb dX1_fused_173 rfl (lv_at hl 0 rfl) ?_
        refine lv_iload_n hx hb dX1_fused_174 rfl (lv_at hl 1 rfl) ?_
        refine sc_i (W.runS (As := [.int y1]) (rest := [.ref h0]) ⟨hx, hb, hml, hown, hts⟩ (ccX1_units l y1 ) (va_cwS 1 hts gX1_fused_X1_units rfl rfl rfl (by decide +kernel) ⟨Nat.le_of_ble_eq_true rfl, Nat.le_of_ble_eq_true rfl⟩) st_pre rfl rfl hl.1 rfl (lv_room (Nat.le_of_ble_eq_true rfl)) dX1_fused_175 ⟨Nat.zero_le _, Nat.zero_le _⟩) ?_
        refine lv_i2l hx hb dX1_fused_178 rfl ?_
        refine lv_iload_n hx hb dX1_fused_179 rfl (lv_at hl 2 rfl) ?_
        refine sc_i (W.runS (As := [.int y2]) (rest := [.long (Int32.toInt64 ((fX1_units y1))), .ref h0]) ⟨hx, hb, hml, hown, hts⟩ (ccX1_units l y2 ) (va_cwS 1 hts gX1_fused_X1_units rfl rfl rfl (by decide +kernel) ⟨Nat.le_of_ble_eq_true rfl, Nat.le_of_ble_eq_true rfl⟩) st_pre rfl rfl hl.1 rfl (lv_room (Nat.le_of_ble_eq_true rfl)) dX1_fused_180 ⟨Nat.zero_le _, Nat.zero_le _⟩) ?_
        refine lv_i2l hx hb dX1_fused_183 rfl ?_
        refine lv_lmul hx hb dX1_fused_184 ?_
        refine lv_iload_n hx hb dX1_fused_185 rfl (lv_at hl 1 rfl) ?_
        refine sc_i (W.runS (As := [.int y1]) (rest := [.long (((Int32.toInt64 ((fX1_units y1)))) * ((Int32.toInt64 ((fX1_units y2))))), .ref h0]) ⟨hx, hb, hml, hown, hts⟩ (ccX1_place l y1 ) (va_cwS 1 hts gX1_fused_X1_place rfl rfl rfl (by decide +kernel) ⟨Nat.le_of_ble_eq_true rfl, Nat.le_of_ble_eq_true rfl⟩) st_pre rfl rfl hl.1 rfl (lv_room (Nat.le_of_ble_eq_true rfl)) dX1_fused_186 ⟨Nat.zero_le _, Nat.zero_le _⟩) ?_
        refine lv_iload_n hx hb dX1_fused_189 rfl (lv_at hl 2 rfl) ?_
        refine sc_i (W.runS (As := [.int y2]) (rest := [.int (fX1_place y1), .long (((Int32.toInt64 ((fX1_units y1)))) * ((Int32.toInt64 ((fX1_units y2))))), .ref h0]) ⟨hx, hb, hml, hown, hts⟩ (ccX1_place l y2 ) (va_cwS 1 hts gX1_fused_X1_place rfl rfl rfl (by decide +kernel) ⟨Nat.le_of_ble_eq_true rfl, Nat.le_of_ble_eq_true rfl⟩) st_pre rfl rfl hl.1 rfl (lv_room (Nat.le_of_ble_eq_true rfl)) dX1_fused_190 ⟨Nat.zero_le _, Nat.zero_le _⟩) ?_
        refine lv_iadd hx hb dX1_fused_193 ?_
        refine lv_iload hx hb dX1_fused_194 (lv_at hl 4 rfl) ?_
        refine k1_callv (va_runV (As := [.long (((Int32.toInt64 ((fX1_units y1)))) * ((Int32.toInt64 ((fX1_units y2))))), .int (((fX1_place y1)) + ((fX1_place y2))), .int y5]) (rest := []) ⟨hx, hb, hml, hown, hts⟩ (ccX1_put l D cJ h0 h1 hne mo vfl row_170 ba_170 mr_170 vex ((((Int32.toInt64 ((fX1_units y1)))) * ((Int32.toInt64 ((fX1_units y2)))))) ((((fX1_place y1)) + ((fX1_place y2)))) y5 (by rw [hba]; exact putOk_prod _ _)) (cwV 3 hts gX1_fused_X1_put rfl rfl rfl (by decide +kernel) ⟨Nat.le_of_ble_eq_true rfl, Nat.le_of_ble_eq_true rfl⟩) (w1_pre hK hP hmr) rfl rfl hl.1 rfl (lv_room (Nat.le_of_ble_eq_true rfl)) dX1_fused_196 ⟨Nat.zero_le _, Nat.zero_le _⟩) hS (fun u H locs hw hP hmr hS => ?_)
        obtain ⟨row_196, rfl⟩ : ∃ z, z = u := ⟨_, rfl⟩
        have hP : va_P D vwCl (bw1 cJ h0 h1 mo vfl row_196 ba_170 mr_170 vex) H := hP
        replace hE : fX1_fused mo fl row ba mr ex x1 x2 x3 = fX1_fused_k199 y1 y2 y3 y5 mo vfl row_196 ba_170 mr_170 vex := by have h : fX1_fused mo fl row ba mr ex x1 x2 x3 = fX1_fused_k199 y1 y2 y3 y5 mo vfl ((fX1_put row_170 ba_170 ((((Int32.toInt64 ((fX1_units y1)))) * ((Int32.toInt64 ((fX1_units y2)))))) ((((fX1_place y1)) + ((fX1_place y2)))) y5)) ba_170 mr_170 vex := hE; rw [← hw] at h; exact h
        refine lv_aload_n hx hb dX1_fused_199 rfl (lv_at hl 0 rfl) ?_
        refine lv_iload_n hx hb dX1_fused_200 rfl (lv_at hl 3 rfl) ?_
        refine sc_i (W.runS (As := [.int y3]) (rest := [.ref h0]) ⟨hx, hb, hml, hown, hts⟩ (ccX1_units l y3 ) (va_cwS 1 hts gX1_fused_X1_units rfl rfl rfl (by decide +kernel) ⟨Nat.le_of_ble_eq_true rfl, Nat.le_of_ble_eq_true rfl⟩) st_pre rfl rfl hl.1 rfl (lv_room (Nat.le_of_ble_eq_true rfl)) dX1_fused_201 ⟨Nat.zero_le _, Nat.zero_le _⟩) ?_
        refine lv_i2l hx hb dX1_fused_204 rfl ?_
        refine lv_iload_n hx hb dX1_fused_205 rfl (lv_at hl 3 rfl) ?_
        refine sc_i (W.runS (As := [.int y3]) (rest := [.long (Int32.toInt64 ((fX1_units y3))), .ref h0]) ⟨hx, hb, hml, hown, hts⟩ (ccX1_place l y3 ) (va_cwS 1 hts gX1_fused_X1_place rfl rfl rfl (by decide +kernel) ⟨Nat.le_of_ble_eq_true rfl, Nat.le_of_ble_eq_true rfl⟩) st_pre rfl rfl hl.1 rfl (lv_room (Nat.le_of_ble_eq_true rfl)) dX1_fused_206 ⟨Nat.zero_le _, Nat.zero_le _⟩) ?_
        refine lv_iload_n hx hb dX1_fused_209 rfl (lv_at hl 3 rfl) ?_
        refine sc_i (W.runS (As := [.int y3]) (rest := [.int (fX1_place y3), .long (Int32.toInt64 ((fX1_units y3))), .ref h0]) ⟨hx, hb, hml, hown, hts⟩ (ccX1_isNegative l y3 ) (va_cwS 1 hts gX1_fused_X1_isNegative rfl rfl rfl (by decide +kernel) ⟨Nat.le_of_ble_eq_true rfl, Nat.le_of_ble_eq_true rfl⟩) st_pre rfl rfl hl.1 rfl (lv_room (Nat.le_of_ble_eq_true rfl)) dX1_fused_210 ⟨Nat.zero_le _, Nat.zero_le _⟩) ?_
        refine k1_callv (va_runV (As := [.long (Int32.toInt64 ((fX1_units y3))), .int (fX1_place y3), .int (fX1_isNegative y3)]) (rest := []) ⟨hx, hb, hml, hown, hts⟩ (ccX1_put l D cJ h0 h1 hne mo vfl row_196 ba_170 mr_170 vex ((Int32.toInt64 ((fX1_units y3)))) ((fX1_place y3)) ((fX1_isNegative y3)) (by rw [hba]; exact putOk_units _)) (cwV 3 hts gX1_fused_X1_put rfl rfl rfl (by decide +kernel) ⟨Nat.le_of_ble_eq_true rfl, Nat.le_of_ble_eq_true rfl⟩) (w1_pre hK hP hmr) rfl rfl hl.1 rfl (lv_room (Nat.le_of_ble_eq_true rfl)) dX1_fused_213 ⟨Nat.zero_le _, Nat.zero_le _⟩) hS (fun u H locs hw hP hmr hS => ?_)
        obtain ⟨row_213, rfl⟩ : ∃ z, z = u := ⟨_, rfl⟩
        have hP : va_P D vwCl (bw1 cJ h0 h1 mo vfl row_213 ba_170 mr_170 vex) H := hP
        replace hE : fX1_fused mo fl row ba mr ex x1 x2 x3 = fX1_fused_k216 y1 y2 y3 y5 mo vfl row_213 ba_170 mr_170 vex := by have h : fX1_fused mo fl row ba mr ex x1 x2 x3 = fX1_fused_k216 y1 y2 y3 y5 mo vfl ((fX1_put row_196 ba_170 ((Int32.toInt64 ((fX1_units y3)))) ((fX1_place y3)) ((fX1_isNegative y3)))) ba_170 mr_170 vex := hE; rw [← hw] at h; exact h
        refine lv_iload_n hx hb dX1_fused_216 rfl (lv_at hl 1 rfl) ?_
        refine sc_i (W.runS (As := [.int y1]) (rest := []) ⟨hx, hb, hml, hown, hts⟩ (ccX1_isZero l y1 ) (va_cwS 1 hts gX1_fused_X1_isZero rfl rfl rfl (by decide +kernel) ⟨Nat.le_of_ble_eq_true rfl, Nat.le_of_ble_eq_true rfl⟩) st_pre rfl rfl hl.1 rfl (lv_room (Nat.le_of_ble_eq_true rfl)) dX1_fused_217 ⟨Nat.zero_le _, Nat.zero_le _⟩) ?_
        refine lv_if_ne (tgt := 230) hx hb dX1_fused_220 (by decide) (fun c_220 => ?_) (fun c_220 => ?_)
        · replace hE := hE.trans (if_neg c_220)
          exact j_230 y3 y5 vfl row_213 ba_170 mr_170 vex _ _ _ hP hS (lv_sub hl [0, 3, 4] rfl) b_y5 hmr hE
        · replace hE := hE.trans (if_pos c_220)
          refine lv_iload_n hx hb dX1_fused_223 rfl (lv_at hl 2 rfl) ?_
          refine sc_i (W.runS (As := [.int y2]) (rest := []) ⟨hx, hb, hml, hown, hts⟩ (ccX1_isZero l y2 ) (va_cwS 1 hts gX1_fused_X1_isZero rfl rfl rfl (by decide +kernel) ⟨Nat.le_of_ble_eq_true rfl, Nat.le_of_ble_eq_true rfl⟩) st_pre rfl rfl hl.1 rfl (lv_room (Nat.le_of_ble_eq_true rfl)) dX1_fused_224 ⟨Nat.zero_le _, Nat.zero_le _⟩) ?_
          refine lv_if_eq (tgt := 241) hx hb dX1_fused_227 (by decide) (fun c_227 => ?_) (fun c_227 => ?_)
          · replace hE := hE.trans (if_pos c_227)
            refine lv_iconst (v := 0) hx hb dX1_fused_241 (by decide) ?_
            exact j_242 y3 y5 (0 : Int32) vfl row_213 ba_170 mr_170 vex _ _ _ hP hS (lv_sub hl [0, 3, 4] rfl) b_y5 isB_0 hmr hE
          · replace hE := hE.trans (if_neg c_227)
            exact j_230 y3 y5 vfl row_213 ba_170 mr_170 vex _ _ _ hP hS (lv_sub hl [0, 3, 4] rfl) b_y5 hmr hE
      · replace hE := hE.trans (if_neg c_161)
        refine lv_iload_n hx hb dX1_fused_164 rfl (lv_at hl 3 rfl) ?_
        exact W.iret hx hb hr (fun t ht hW => ⟨⟨_, (vfl, vrow, vba, vmr, vex), rfl, hE.symm, by rw [ht]; exact hP, va_K.moved hW.alike hK, hmr⟩, hS.F ht⟩) hS.2.2 dX1_fused_165
    · replace hE := hE.trans (if_neg c_146)
      refine lv_ldc hx hb hown (hts (.constant RX1 73 (2139095040)) (by decide +kernel)) dX1_fused_149 ?_
      refine lv_iload hx hb dX1_fused_151 (lv_at hl 4 rfl) ?_
      refine sc_i (W.runS (As := [.int (2139095040 : Int32), .int y5]) (rest := []) ⟨hx, hb, hml, hown, hts⟩ (ccX1_signed l (2139095040 : Int32) y5 ) (va_cwS 2 hts gX1_fused_X1_signed rfl rfl rfl (by decide +kernel) ⟨Nat.le_of_ble_eq_true rfl, Nat.le_of_ble_eq_true rfl⟩) st_pre rfl rfl hl.1 rfl (lv_room (Nat.le_of_ble_eq_true rfl)) dX1_fused_153 ⟨Nat.zero_le _, Nat.zero_le _⟩) ?_
      exact W.iret hx hb hr (fun t ht hW => ⟨⟨_, (vfl, vrow, vba, vmr, vex), rfl, hE.symm, by rw [ht]; exact hP, va_K.moved hW.alike hK, hmr⟩, hS.F ht⟩) hS.2.2 dX1_fused_156
  have j_116 : ∀ (y1 : Int32) (y2 : Int32) (y3 : Int32) (y5 : Int32) (z0 : Int32) (vfl : Int32) (vrow : (Nat → Int64)) (vba : Int32) (vmr : Int32) (vex : Int32) (H : Heap) (locs : List Loc) (ls : Array Slot), va_P D vwCl (bw1 cJ h0 h1 mo vfl vrow vba vmr vex) H → va_S (aw1 h0 h1) s.heap H locs → lv_has ls 9 [(0, .ref h0), (1, .int y1), (2, .int y2), (3, .int y3), (5, .int y5)] → isB y5 → isB z0 → isB vmr → fX1_fused mo fl row ba mr ex x1 x2 x3 = fX1_fused_k116 y1 y2 y3 y5 z0 mo vfl vrow vba vmr vex → W p l e (headSpec wsX1_fused { frames := 4, cells := 0, slots := 0, locals := 95 }).room s m ([.ref h0, .int x1, .int x2, .int x3] : List Value).toArray below meth c H locs 0 0 (MQ below (va_Qi (fun (r : Int32) (u : Int32 × (Nat → Int64) × Int32 × Int32 × Int32) => (r, u) = fX1_fused mo fl row ba mr ex x1 x2 x3) (fun u t => w1 D cJ h0 h1 mo u.1 u.2.1 u.2.2.1 u.2.2.2.1 u.2.2.2.2 t) (aw1 h0 h1)) ([.ref h0, .int x1, .int x2, .int x3] : List Value).toArray s 0 0 (aw1 h0 h1)) (F0 m 116 ls [.int z0]) := by
    intro y1 y2 y3 y5 z0 vfl vrow vba vmr vex H locs ls hP hS hl b_y5 b_z0 hmr hE
    refine lv_istore (lv' := [(6, .int z0), (0, .ref h0), (1, .int y1), (2, .int y2), (3, .int y3), (5, .int y5)]) hx hb dX1_fused_116 hl (by decide) rfl (fun ls hl => ?_)
    refine lv_iload hx hb dX1_fused_118 (lv_at hl 0 rfl) ?_
    refine lv_if_eq (tgt := 144) hx hb dX1_fused_120 (by decide) (fun c_120 => ?_) (fun c_120 => ?_)
    · replace hE := hE.trans (if_pos c_120)
      exact j_144 y1 y2 y3 y5 z0 vfl vrow vba vmr vex _ _ _ hP hS (lv_sub hl [1, 2, 3, 4, 5, 0] rfl) b_y5 b_z0 hmr hE
    · replace hE := hE.trans (if_neg c_120)
      refine lv_iload_n hx hb dX1_fused_123 rfl (lv_at hl 4 rfl) ?_
      refine sc_i (W.runS (As := [.int y3]) (rest := []) ⟨hx, hb, hml, hown, hts⟩ (ccX1_isInfinite l y3 ) (va_cwS 1 hts gX1_fused_X1_isInfinite rfl rfl rfl (by decide +kernel) ⟨Nat.le_of_ble_eq_true rfl, Nat.le_of_ble_eq_true rfl⟩) st_pre rfl rfl hl.1 rfl (lv_room (Nat.le_of_ble_eq_true rfl)) dX1_fused_124 ⟨Nat.zero_le _, Nat.zero_le _⟩) ?_
      refine lv_if_eq (tgt := 144) hx hb dX1_fused_127 (by decide) (fun c_127 => ?_) (fun c_127 => ?_)
      · replace hE := hE.trans (if_pos c_127)
        exact j_144 y1 y2 y3 y5 z0 vfl vrow vba vmr vex _ _ _ hP hS (lv_sub hl [1, 2, 3, 4, 5, 0] rfl) b_y5 b_z0 hmr hE
      · replace hE := hE.trans (if_neg c_127)
        refine lv_iload hx hb dX1_fused_130 (lv_at hl 5 rfl) ?_
        refine lv_iload_n hx hb dX1_fused_132 rfl (lv_at hl 4 rfl) ?_
        refine sc_i (W.runS (As := [.int y3]) (rest := [.int y5]) ⟨hx, hb, hml, hown, hts⟩ (ccX1_isNegative l y3 ) (va_cwS 1 hts gX1_fused_X1_isNegative rfl rfl rfl (by decide +kernel) ⟨Nat.le_of_ble_eq_true rfl, Nat.le_of_ble_eq_true rfl⟩) st_pre rfl rfl hl.1 rfl (lv_room (Nat.le_of_ble_eq_true rfl)) dX1_fused_133 ⟨Nat.zero_le _, Nat.zero_le _⟩) ?_
        refine lv_icmp_eq (tgt := 144) hx hb dX1_fused_136 (by decide) (fun c_136 => ?_) (fun c_136 => ?_)
        · replace hE := hE.trans (if_pos c_136)
          exact j_144 y1 y2 y3 y5 z0 vfl vrow vba vmr vex _ _ _ hP hS (lv_sub hl [1, 2, 3, 4, 5, 0] rfl) b_y5 b_z0 hmr hE
        · replace hE := hE.trans (if_neg c_136)
          refine lv_aload_n hx hb dX1_fused_139 rfl (lv_at hl 1 rfl) ?_
          refine k1_calli (va_runV (As := []) (rest := []) ⟨hx, hb, hml, hown, hts⟩ (ccX1_invalid l D cJ h0 h1 hne mo vfl vrow vba vmr vex  ) (cwV 0 hts gX1_fused_X1_invalid rfl rfl rfl (by decide +kernel) ⟨Nat.le_of_ble_eq_true rfl, Nat.le_of_ble_eq_true rfl⟩) (w1_pre hK hP hmr) rfl rfl hl.1 rfl (lv_room (Nat.le_of_ble_eq_true rfl)) dX1_fused_140 ⟨Nat.zero_le _, Nat.zero_le _⟩) hS (fun r_140 u H locs hw hP hmr hS => ?_)
          obtain ⟨fl_140, rfl⟩ : ∃ z, z = u := ⟨_, rfl⟩
          have hP : va_P D vwCl (bw1 cJ h0 h1 mo fl_140 vrow vba vmr vex) H := hP
          replace hE : fX1_fused mo fl row ba mr ex x1 x2 x3 = fX1_fused_k143 r_140 mo fl_140 vrow vba vmr vex := by have h : fX1_fused mo fl row ba mr ex x1 x2 x3 = fX1_fused_k143 ((fX1_invalid vfl).1) mo ((fX1_invalid vfl).2) vrow vba vmr vex := hE; rw [← hw] at h; exact h
          exact W.iret hx hb hr (fun t ht hW => ⟨⟨_, (fl_140, vrow, vba, vmr, vex), rfl, hE.symm, by rw [ht]; exact hP, va_K.moved hW.alike hK, hmr⟩, hS.F ht⟩) hS.2.2 dX1_fused_143
  have j_95 : ∀ (y1 : Int32) (y2 : Int32) (y3 : Int32) (z0 : Int32) (vfl : Int32) (vrow : (Nat → Int64)) (vba : Int32) (vmr : Int32) (vex : Int32) (H : Heap) (locs : List Loc) (ls : Array Slot), va_P D vwCl (bw1 cJ h0 h1 mo vfl vrow vba vmr vex) H → va_S (aw1 h0 h1) s.heap H locs → lv_has ls 9 [(0, .ref h0), (1, .int y1), (2, .int y2), (3, .int y3)] → isB z0 → isB vmr → fX1_fused mo fl row ba mr ex x1 x2 x3 = fX1_fused_k95 y1 y2 y3 z0 mo vfl vrow vba vmr vex → W p l e (headSpec wsX1_fused { frames := 4, cells := 0, slots := 0, locals := 95 }).room s m ([.ref h0, .int x1, .int x2, .int x3] : List Value).toArray below meth c H locs 0 0 (MQ below (va_Qi (fun (r : Int32) (u : Int32 × (Nat → Int64) × Int32 × Int32 × Int32) => (r, u) = fX1_fused mo fl row ba mr ex x1 x2 x3) (fun u t => w1 D cJ h0 h1 mo u.1 u.2.1 u.2.2.1 u.2.2.2.1 u.2.2.2.2 t) (aw1 h0 h1)) ([.ref h0, .int x1, .int x2, .int x3] : List Value).toArray s 0 0 (aw1 h0 h1)) (F0 m 95 ls [.int z0]) := by
    intro y1 y2 y3 z0 vfl vrow vba vmr vex H locs ls hP hS hl b_z0 hmr hE
    refine lv_istore (lv' := [(5, .int z0), (0, .ref h0), (1, .int y1), (2, .int y2), (3, .int y3)]) hx hb dX1_fused_95 hl (by decide) rfl (fun ls hl => ?_)
    refine lv_iload_n hx hb dX1_fused_97 rfl (lv_at hl 2 rfl) ?_
    refine sc_i (W.runS (As := [.int y1]) (rest := []) ⟨hx, hb, hml, hown, hts⟩ (ccX1_isInfinite l y1 ) (va_cwS 1 hts gX1_fused_X1_isInfinite rfl rfl rfl (by decide +kernel) ⟨Nat.le_of_ble_eq_true rfl, Nat.le_of_ble_eq_true rfl⟩) st_pre rfl rfl hl.1 rfl (lv_room (Nat.le_of_ble_eq_true rfl)) dX1_fused_98 ⟨Nat.zero_le _, Nat.zero_le _⟩) ?_
    refine lv_if_ne (tgt := 111) hx hb dX1_fused_101 (by decide) (fun c_101 => ?_) (fun c_101 => ?_)
    · replace hE := hE.trans (if_neg c_101)
      refine lv_iconst (v := 1) hx hb dX1_fused_111 (by decide) ?_
      refine lv_goto (tgt := 116) hx hb dX1_fused_112 (by decide) ?_
      exact j_116 y1 y2 y3 z0 (1 : Int32) vfl vrow vba vmr vex _ _ _ hP hS (lv_sub hl [1, 2, 3, 4, 0] rfl) b_z0 isB_1 hmr hE
    · replace hE := hE.trans (if_pos c_101)
      refine lv_iload_n hx hb dX1_fused_104 rfl (lv_at hl 3 rfl) ?_
      refine sc_i (W.runS (As := [.int y2]) (rest := []) ⟨hx, hb, hml, hown, hts⟩ (ccX1_isInfinite l y2 ) (va_cwS 1 hts gX1_fused_X1_isInfinite rfl rfl rfl (by decide +kernel) ⟨Nat.le_of_ble_eq_true rfl, Nat.le_of_ble_eq_true rfl⟩) st_pre rfl rfl hl.1 rfl (lv_room (Nat.le_of_ble_eq_true rfl)) dX1_fused_105 ⟨Nat.zero_le _, Nat.zero_le _⟩) ?_
      refine lv_if_eq (tgt := 115) hx hb dX1_fused_108 (by decide) (fun c_108 => ?_) (fun c_108 => ?_)
      · replace hE := hE.trans (if_pos c_108)
        refine lv_iconst (v := 0) hx hb dX1_fused_115 (by decide) ?_
        exact j_116 y1 y2 y3 z0 (0 : Int32) vfl vrow vba vmr vex _ _ _ hP hS (lv_sub hl [1, 2, 3, 4, 0] rfl) b_z0 isB_0 hmr hE
      · replace hE := hE.trans (if_neg c_108)
        refine lv_iconst (v := 1) hx hb dX1_fused_111 (by decide) ?_
        refine lv_goto (tgt := 116) hx hb dX1_fused_112 (by decide) ?_
        exact j_116 y1 y2 y3 z0 (1 : Int32) vfl vrow vba vmr vex _ _ _ hP hS (lv_sub hl [1, 2, 3, 4, 0] rfl) b_z0 isB_1 hmr hE
  have j_71 : ∀ (y1 : Int32) (y2 : Int32) (y3 : Int32) (vfl : Int32) (vrow : (Nat → Int64)) (vba : Int32) (vmr : Int32) (vex : Int32) (H : Heap) (locs : List Loc) (ls : Array Slot), va_P D vwCl (bw1 cJ h0 h1 mo vfl vrow vba vmr vex) H → va_S (aw1 h0 h1) s.heap H locs → lv_has ls 9 [(0, .ref h0), (1, .int y1), (2, .int y2), (3, .int y3)] → isB vmr → fX1_fused mo fl row ba mr ex x1 x2 x3 = fX1_fused_k71 y1 y2 y3 mo vfl vrow vba vmr vex → W p l e (headSpec wsX1_fused { frames := 4, cells := 0, slots := 0, locals := 95 }).room s m ([.ref h0, .int x1, .int x2, .int x3] : List Value).toArray below meth c H locs 0 0 (MQ below (va_Qi (fun (r : Int32) (u : Int32 × (Nat → Int64) × Int32 × Int32 × Int32) => (r, u) = fX1_fused mo fl row ba mr ex x1 x2 x3) (fun u t => w1 D cJ h0 h1 mo u.1 u.2.1 u.2.2.1 u.2.2.2.1 u.2.2.2.2 t) (aw1 h0 h1)) ([.ref h0, .int x1, .int x2, .int x3] : List Value).toArray s 0 0 (aw1 h0 h1)) (F0 m 71 ls []) := by
    intro y1 y2 y3 vfl vrow vba vmr vex H locs ls hP hS hl hmr hE
    refine lv_aload_n hx hb dX1_fused_71 rfl (lv_at hl 0 rfl) ?_
    refine lv_iload_n hx hb dX1_fused_72 rfl (lv_at hl 1 rfl) ?_
    refine lv_iload_n hx hb dX1_fused_73 rfl (lv_at hl 2 rfl) ?_
    refine lv_iload_n hx hb dX1_fused_74 rfl (lv_at hl 3 rfl) ?_
    refine k1_calli (va_runV (As := [.int y1, .int y2, .int y3]) (rest := []) ⟨hx, hb, hml, hown, hts⟩ (ccX1_none l D cJ h0 h1 hne mo vfl vrow vba vmr vex y1 y2 y3 ) (cwV 3 hts gX1_fused_X1_none rfl rfl rfl (by decide +kernel) ⟨Nat.le_of_ble_eq_true rfl, Nat.le_of_ble_eq_true rfl⟩) (w1_pre hK hP hmr) rfl rfl hl.1 rfl (lv_room (Nat.le_of_ble_eq_true rfl)) dX1_fused_75 ⟨Nat.zero_le _, Nat.zero_le _⟩) hS (fun r_75 u H locs hw hP hmr hS => ?_)
    obtain ⟨fl_75, rfl⟩ : ∃ z, z = u := ⟨_, rfl⟩
    have hP : va_P D vwCl (bw1 cJ h0 h1 mo fl_75 vrow vba vmr vex) H := hP
    replace hE : fX1_fused mo fl row ba mr ex x1 x2 x3 = fX1_fused_k78 r_75 mo fl_75 vrow vba vmr vex := by have h : fX1_fused mo fl row ba mr ex x1 x2 x3 = fX1_fused_k78 ((fX1_none vfl y1 y2 y3).1) mo ((fX1_none vfl y1 y2 y3).2) vrow vba vmr vex := hE; rw [← hw] at h; exact h
    exact W.iret hx hb hr (fun t ht hW => ⟨⟨_, (fl_75, vrow, vba, vmr, vex), rfl, hE.symm, by rw [ht]; exact hP, va_K.moved hW.alike hK, hmr⟩, hS.F ht⟩) hS.2.2 dX1_fused_78
  have j_59 : ∀ (y1 : Int32) (y2 : Int32) (y3 : Int32) (y4 : Int32) (vfl : Int32) (vrow : (Nat → Int64)) (vba : Int32) (vmr : Int32) (vex : Int32) (H : Heap) (locs : List Loc) (ls : Array Slot), va_P D vwCl (bw1 cJ h0 h1 mo vfl vrow vba vmr vex) H → va_S (aw1 h0 h1) s.heap H locs → lv_has ls 9 [(0, .ref h0), (1, .int y1), (2, .int y2), (3, .int y3), (4, .int y4)] → isB y4 → isB vmr → fX1_fused mo fl row ba mr ex x1 x2 x3 = fX1_fused_k59 y1 y2 y3 y4 mo vfl vrow vba vmr vex → W p l e (headSpec wsX1_fused { frames := 4, cells := 0, slots := 0, locals := 95 }).room s m ([.ref h0, .int x1, .int x2, .int x3] : List Value).toArray below meth c H locs 0 0 (MQ below (va_Qi (fun (r : Int32) (u : Int32 × (Nat → Int64) × Int32 × Int32 × Int32) => (r, u) = fX1_fused mo fl row ba mr ex x1 x2 x3) (fun u t => w1 D cJ h0 h1 mo u.1 u.2.1 u.2.2.1 u.2.2.2.1 u.2.2.2.2 t) (aw1 h0 h1)) ([.ref h0, .int x1, .int x2, .int x3] : List Value).toArray s 0 0 (aw1 h0 h1)) (F0 m 59 ls []) := by
    intro y1 y2 y3 y4 vfl vrow vba vmr vex H locs ls hP hS hl b_y4 hmr hE
    refine lv_iload hx hb dX1_fused_59 (lv_at hl 4 rfl) ?_
    refine lv_if_eq (tgt := 71) hx hb dX1_fused_61 (by decide) (fun c_61 => ?_) (fun c_61 => ?_)
    · replace hE := hE.trans (if_pos c_61)
      exact j_71 y1 y2 y3 vfl vrow vba vmr vex _ _ _ hP hS (lv_sub hl [0, 1, 2, 3] rfl) hmr hE
    · replace hE := hE.trans (if_neg c_61)
      refine lv_iload_n hx hb dX1_fused_64 rfl (lv_at hl 3 rfl) ?_
      refine sc_i (W.runS (As := [.int y3]) (rest := []) ⟨hx, hb, hml, hown, hts⟩ (ccX1_isNone l y3 ) (va_cwS 1 hts gX1_fused_X1_isNone rfl rfl rfl (by decide +kernel) ⟨Nat.le_of_ble_eq_true rfl, Nat.le_of_ble_eq_true rfl⟩) st_pre rfl rfl hl.1 rfl (lv_room (Nat.le_of_ble_eq_true rfl)) dX1_fused_65 ⟨Nat.zero_le _, Nat.zero_le _⟩) ?_
      refine lv_if_eq (tgt := 79) hx hb dX1_fused_68 (by decide) (fun c_68 => ?_) (fun c_68 => ?_)
      · replace hE := hE.trans (if_pos c_68)
        refine lv_iload_n hx hb dX1_fused_79 rfl (lv_at hl 1 rfl) ?_
        refine sc_i (W.runS (As := [.int y1]) (rest := []) ⟨hx, hb, hml, hown, hts⟩ (ccX1_isNegative l y1 ) (va_cwS 1 hts gX1_fused_X1_isNegative rfl rfl rfl (by decide +kernel) ⟨Nat.le_of_ble_eq_true rfl, Nat.le_of_ble_eq_true rfl⟩) st_pre rfl rfl hl.1 rfl (lv_room (Nat.le_of_ble_eq_true rfl)) dX1_fused_80 ⟨Nat.zero_le _, Nat.zero_le _⟩) ?_
        refine lv_iload_n hx hb dX1_fused_83 rfl (lv_at hl 2 rfl) ?_
        refine sc_i (W.runS (As := [.int y2]) (rest := [.int (fX1_isNegative y1)]) ⟨hx, hb, hml, hown, hts⟩ (ccX1_isNegative l y2 ) (va_cwS 1 hts gX1_fused_X1_isNegative rfl rfl rfl (by decide +kernel) ⟨Nat.le_of_ble_eq_true rfl, Nat.le_of_ble_eq_true rfl⟩) st_pre rfl rfl hl.1 rfl (lv_room (Nat.le_of_ble_eq_true rfl)) dX1_fused_84 ⟨Nat.zero_le _, Nat.zero_le _⟩) ?_
        refine lv_icmp_eq (tgt := 94) hx hb dX1_fused_87 (by decide) (fun c_87 => ?_) (fun c_87 => ?_)
        · replace hE := hE.trans (if_pos c_87)
          refine lv_iconst (v := 0) hx hb dX1_fused_94 (by decide) ?_
          exact j_95 y1 y2 y3 (0 : Int32) vfl vrow vba vmr vex _ _ _ hP hS (lv_sub hl [0, 1, 2, 3] rfl) isB_0 hmr hE
        · replace hE := hE.trans (if_neg c_87)
          refine lv_iconst (v := 1) hx hb dX1_fused_90 (by decide) ?_
          refine lv_goto (tgt := 95) hx hb dX1_fused_91 (by decide) ?_
          exact j_95 y1 y2 y3 (1 : Int32) vfl vrow vba vmr vex _ _ _ hP hS (lv_sub hl [0, 1, 2, 3] rfl) isB_1 hmr hE
      · replace hE := hE.trans (if_neg c_68)
        exact j_71 y1 y2 y3 vfl vrow vba vmr vex _ _ _ hP hS (lv_sub hl [0, 1, 2, 3] rfl) hmr hE
  have j_54 : ∀ (vfl : Int32) (vrow : (Nat → Int64)) (vba : Int32) (vmr : Int32) (vex : Int32) (H : Heap) (locs : List Loc) (ls : Array Slot), va_P D vwCl (bw1 cJ h0 h1 mo vfl vrow vba vmr vex) H → va_S (aw1 h0 h1) s.heap H locs → lv_has ls 9 [(0, .ref h0)] → isB vmr → fX1_fused mo fl row ba mr ex x1 x2 x3 = fX1_fused_k54 mo vfl vrow vba vmr vex → W p l e (headSpec wsX1_fused { frames := 4, cells := 0, slots := 0, locals := 95 }).room s m ([.ref h0, .int x1, .int x2, .int x3] : List Value).toArray below meth c H locs 0 0 (MQ below (va_Qi (fun (r : Int32) (u : Int32 × (Nat → Int64) × Int32 × Int32 × Int32) => (r, u) = fX1_fused mo fl row ba mr ex x1 x2 x3) (fun u t => w1 D cJ h0 h1 mo u.1 u.2.1 u.2.2.1 u.2.2.2.1 u.2.2.2.2 t) (aw1 h0 h1)) ([.ref h0, .int x1, .int x2, .int x3] : List Value).toArray s 0 0 (aw1 h0 h1)) (F0 m 54 ls []) := by
    intro vfl vrow vba vmr vex H locs ls hP hS hl hmr hE
    refine lv_aload_n hx hb dX1_fused_54 rfl (lv_at hl 0 rfl) ?_
    refine k1_calli (va_runV (As := []) (rest := []) ⟨hx, hb, hml, hown, hts⟩ (ccX1_invalid l D cJ h0 h1 hne mo vfl vrow vba vmr vex  ) (cwV 0 hts gX1_fused_X1_invalid rfl rfl rfl (by decide +kernel) ⟨Nat.le_of_ble_eq_true rfl, Nat.le_of_ble_eq_true rfl⟩) (w1_pre hK hP hmr) rfl rfl hl.1 rfl (lv_room (Nat.le_of_ble_eq_true rfl)) dX1_fused_55 ⟨Nat.zero_le _, Nat.zero_le _⟩) hS (fun r_55 u H locs hw hP hmr hS => ?_)
    obtain ⟨fl_55, rfl⟩ : ∃ z, z = u := ⟨_, rfl⟩
    have hP : va_P D vwCl (bw1 cJ h0 h1 mo fl_55 vrow vba vmr vex) H := hP
    replace hE : fX1_fused mo fl row ba mr ex x1 x2 x3 = fX1_fused_k58 r_55 mo fl_55 vrow vba vmr vex := by have h : fX1_fused mo fl row ba mr ex x1 x2 x3 = fX1_fused_k58 ((fX1_invalid vfl).1) mo ((fX1_invalid vfl).2) vrow vba vmr vex := hE; rw [← hw] at h; exact h
    exact W.iret hx hb hr (fun t ht hW => ⟨⟨_, (fl_55, vrow, vba, vmr, vex), rfl, hE.symm, by rw [ht]; exact hP, va_K.moved hW.alike hK, hmr⟩, hS.F ht⟩) hS.2.2 dX1_fused_58
  have j_40 : ∀ (y1 : Int32) (y2 : Int32) (y3 : Int32) (y4 : Int32) (vfl : Int32) (vrow : (Nat → Int64)) (vba : Int32) (vmr : Int32) (vex : Int32) (H : Heap) (locs : List Loc) (ls : Array Slot), va_P D vwCl (bw1 cJ h0 h1 mo vfl vrow vba vmr vex) H → va_S (aw1 h0 h1) s.heap H locs → lv_has ls 9 [(0, .ref h0), (1, .int y1), (2, .int y2), (3, .int y3), (4, .int y4)] → isB y4 → isB vmr → fX1_fused mo fl row ba mr ex x1 x2 x3 = fX1_fused_k40 y1 y2 y3 y4 mo vfl vrow vba vmr vex → W p l e (headSpec wsX1_fused { frames := 4, cells := 0, slots := 0, locals := 95 }).room s m ([.ref h0, .int x1, .int x2, .int x3] : List Value).toArray below meth c H locs 0 0 (MQ below (va_Qi (fun (r : Int32) (u : Int32 × (Nat → Int64) × Int32 × Int32 × Int32) => (r, u) = fX1_fused mo fl row ba mr ex x1 x2 x3) (fun u t => w1 D cJ h0 h1 mo u.1 u.2.1 u.2.2.1 u.2.2.2.1 u.2.2.2.2 t) (aw1 h0 h1)) ([.ref h0, .int x1, .int x2, .int x3] : List Value).toArray s 0 0 (aw1 h0 h1)) (F0 m 40 ls []) := by
    intro y1 y2 y3 y4 vfl vrow vba vmr vex H locs ls hP hS hl b_y4 hmr hE
    refine lv_iload_n hx hb dX1_fused_40 rfl (lv_at hl 1 rfl) ?_
    refine sc_i (W.runS (As := [.int y1]) (rest := []) ⟨hx, hb, hml, hown, hts⟩ (ccX1_isInfinite l y1 ) (va_cwS 1 hts gX1_fused_X1_isInfinite rfl rfl rfl (by decide +kernel) ⟨Nat.le_of_ble_eq_true rfl, Nat.le_of_ble_eq_true rfl⟩) st_pre rfl rfl hl.1 rfl (lv_room (Nat.le_of_ble_eq_true rfl)) dX1_fused_41 ⟨Nat.zero_le _, Nat.zero_le _⟩) ?_
    refine lv_if_eq (tgt := 59) hx hb dX1_fused_44 (by decide) (fun c_44 => ?_) (fun c_44 => ?_)
    · replace hE := hE.trans (if_pos c_44)
      exact j_59 y1 y2 y3 y4 vfl vrow vba vmr vex _ _ _ hP hS (lv_sub hl [0, 1, 2, 3, 4] rfl) b_y4 hmr hE
    · replace hE := hE.trans (if_neg c_44)
      refine lv_iload_n hx hb dX1_fused_47 rfl (lv_at hl 2 rfl) ?_
      refine sc_i (W.runS (As := [.int y2]) (rest := []) ⟨hx, hb, hml, hown, hts⟩ (ccX1_isZero l y2 ) (va_cwS 1 hts gX1_fused_X1_isZero rfl rfl rfl (by decide +kernel) ⟨Nat.le_of_ble_eq_true rfl, Nat.le_of_ble_eq_true rfl⟩) st_pre rfl rfl hl.1 rfl (lv_room (Nat.le_of_ble_eq_true rfl)) dX1_fused_48 ⟨Nat.zero_le _, Nat.zero_le _⟩) ?_
      refine lv_if_eq (tgt := 59) hx hb dX1_fused_51 (by decide) (fun c_51 => ?_) (fun c_51 => ?_)
      · replace hE := hE.trans (if_pos c_51)
        exact j_59 y1 y2 y3 y4 vfl vrow vba vmr vex _ _ _ hP hS (lv_sub hl [0, 1, 2, 3, 4] rfl) b_y4 hmr hE
      · replace hE := hE.trans (if_neg c_51)
        exact j_54 vfl vrow vba vmr vex _ _ _ hP hS (lv_sub hl [0] rfl) hmr hE
  have j_19 : ∀ (y1 : Int32) (y2 : Int32) (y3 : Int32) (z0 : Int32) (vfl : Int32) (vrow : (Nat → Int64)) (vba : Int32) (vmr : Int32) (vex : Int32) (H : Heap) (locs : List Loc) (ls : Array Slot), va_P D vwCl (bw1 cJ h0 h1 mo vfl vrow vba vmr vex) H → va_S (aw1 h0 h1) s.heap H locs → lv_has ls 9 [(0, .ref h0), (1, .int y1), (2, .int y2), (3, .int y3)] → isB z0 → isB vmr → fX1_fused mo fl row ba mr ex x1 x2 x3 = fX1_fused_k19 y1 y2 y3 z0 mo vfl vrow vba vmr vex → W p l e (headSpec wsX1_fused { frames := 4, cells := 0, slots := 0, locals := 95 }).room s m ([.ref h0, .int x1, .int x2, .int x3] : List Value).toArray below meth c H locs 0 0 (MQ below (va_Qi (fun (r : Int32) (u : Int32 × (Nat → Int64) × Int32 × Int32 × Int32) => (r, u) = fX1_fused mo fl row ba mr ex x1 x2 x3) (fun u t => w1 D cJ h0 h1 mo u.1 u.2.1 u.2.2.1 u.2.2.2.1 u.2.2.2.2 t) (aw1 h0 h1)) ([.ref h0, .int x1, .int x2, .int x3] : List Value).toArray s 0 0 (aw1 h0 h1)) (F0 m 19 ls [.int z0]) := by
    intro y1 y2 y3 z0 vfl vrow vba vmr vex H locs ls hP hS hl b_z0 hmr hE
    refine lv_istore (lv' := [(4, .int z0), (0, .ref h0), (1, .int y1), (2, .int y2), (3, .int y3)]) hx hb dX1_fused_19 hl (by decide) rfl (fun ls hl => ?_)
    refine lv_iload hx hb dX1_fused_21 (lv_at hl 0 rfl) ?_
    refine lv_if_eq (tgt := 59) hx hb dX1_fused_23 (by decide) (fun c_23 => ?_) (fun c_23 => ?_)
    · replace hE := hE.trans (if_pos c_23)
      exact j_59 y1 y2 y3 z0 vfl vrow vba vmr vex _ _ _ hP hS (lv_sub hl [1, 2, 3, 4, 0] rfl) b_z0 hmr hE
    · replace hE := hE.trans (if_neg c_23)
      refine lv_iload_n hx hb dX1_fused_26 rfl (lv_at hl 2 rfl) ?_
      refine sc_i (W.runS (As := [.int y1]) (rest := []) ⟨hx, hb, hml, hown, hts⟩ (ccX1_isZero l y1 ) (va_cwS 1 hts gX1_fused_X1_isZero rfl rfl rfl (by decide +kernel) ⟨Nat.le_of_ble_eq_true rfl, Nat.le_of_ble_eq_true rfl⟩) st_pre rfl rfl hl.1 rfl (lv_room (Nat.le_of_ble_eq_true rfl)) dX1_fused_27 ⟨Nat.zero_le _, Nat.zero_le _⟩) ?_
      refine lv_if_eq (tgt := 40) hx hb dX1_fused_30 (by decide) (fun c_30 => ?_) (fun c_30 => ?_)
      · replace hE := hE.trans (if_pos c_30)
        exact j_40 y1 y2 y3 z0 vfl vrow vba vmr vex _ _ _ hP hS (lv_sub hl [1, 2, 3, 4, 0] rfl) b_z0 hmr hE
      · replace hE := hE.trans (if_neg c_30)
        refine lv_iload_n hx hb dX1_fused_33 rfl (lv_at hl 3 rfl) ?_
        refine sc_i (W.runS (As := [.int y2]) (rest := []) ⟨hx, hb, hml, hown, hts⟩ (ccX1_isInfinite l y2 ) (va_cwS 1 hts gX1_fused_X1_isInfinite rfl rfl rfl (by decide +kernel) ⟨Nat.le_of_ble_eq_true rfl, Nat.le_of_ble_eq_true rfl⟩) st_pre rfl rfl hl.1 rfl (lv_room (Nat.le_of_ble_eq_true rfl)) dX1_fused_34 ⟨Nat.zero_le _, Nat.zero_le _⟩) ?_
        refine lv_if_ne (tgt := 54) hx hb dX1_fused_37 (by decide) (fun c_37 => ?_) (fun c_37 => ?_)
        · replace hE := hE.trans (if_neg c_37)
          exact j_54 vfl vrow vba vmr vex _ _ _ hP hS (lv_sub hl [1] rfl) hmr hE
        · replace hE := hE.trans (if_pos c_37)
          exact j_40 y1 y2 y3 z0 vfl vrow vba vmr vex _ _ _ hP hS (lv_sub hl [1, 2, 3, 4, 0] rfl) b_z0 hmr hE
  have hE : fX1_fused mo fl row ba mr ex x1 x2 x3 = fX1_fused mo fl row ba mr ex x1 x2 x3 := rfl
  refine lv_iload_n hx hb dX1_fused_0 rfl (lv_at hl 1 rfl) ?_
  refine sc_i (W.runS (As := [.int x1]) (rest := []) ⟨hx, hb, hml, hown, hts⟩ (ccX1_isNone l x1 ) (va_cwS 1 hts gX1_fused_X1_isNone rfl rfl rfl (by decide +kernel) ⟨Nat.le_of_ble_eq_true rfl, Nat.le_of_ble_eq_true rfl⟩) st_pre rfl rfl hl.1 rfl (lv_room (Nat.le_of_ble_eq_true rfl)) dX1_fused_1 ⟨Nat.zero_le _, Nat.zero_le _⟩) ?_
  refine lv_if_ne (tgt := 18) hx hb dX1_fused_4 (by decide) (fun c_4 => ?_) (fun c_4 => ?_)
  · replace hE := hE.trans (if_neg c_4)
    refine lv_iconst (v := 0) hx hb dX1_fused_18 (by decide) ?_
    exact j_19 x1 x2 x3 (0 : Int32) fl row ba mr ex _ _ _ hP hS (lv_sub hl [0, 1, 2, 3] rfl) isB_0 hmr hE
  · replace hE := hE.trans (if_pos c_4)
    refine lv_iload_n hx hb dX1_fused_7 rfl (lv_at hl 2 rfl) ?_
    refine sc_i (W.runS (As := [.int x2]) (rest := []) ⟨hx, hb, hml, hown, hts⟩ (ccX1_isNone l x2 ) (va_cwS 1 hts gX1_fused_X1_isNone rfl rfl rfl (by decide +kernel) ⟨Nat.le_of_ble_eq_true rfl, Nat.le_of_ble_eq_true rfl⟩) st_pre rfl rfl hl.1 rfl (lv_room (Nat.le_of_ble_eq_true rfl)) dX1_fused_8 ⟨Nat.zero_le _, Nat.zero_le _⟩) ?_
    refine lv_if_ne (tgt := 18) hx hb dX1_fused_11 (by decide) (fun c_11 => ?_) (fun c_11 => ?_)
    · replace hE := hE.trans (if_neg c_11)
      refine lv_iconst (v := 0) hx hb dX1_fused_18 (by decide) ?_
      exact j_19 x1 x2 x3 (0 : Int32) fl row ba mr ex _ _ _ hP hS (lv_sub hl [0, 1, 2, 3] rfl) isB_0 hmr hE
    · replace hE := hE.trans (if_pos c_11)
      refine lv_iconst (v := 1) hx hb dX1_fused_14 (by decide) ?_
      refine lv_goto (tgt := 19) hx hb dX1_fused_15 (by decide) ?_
      exact j_19 x1 x2 x3 (1 : Int32) fl row ba mr ex _ _ _ hP hS (lv_sub hl [0, 1, 2, 3] rfl) isB_1 hmr hE
/-! X1_multiply -/
def fX1_multiply_k166 (z0 : Int32) (mo : Int32) (vfl : Int32) (vrow : (Nat → Int64)) (vba : Int32) (vmr : Int32) (vex : Int32) : Int32 × Int32 × (Nat → Int64) × Int32 × Int32 × Int32 := (z0, vfl, vrow, vba, vmr, vex)
def fX1_multiply_k163 (z1 : Int32) (mo : Int32) (vfl : Int32) (vrow : (Nat → Int64)) (vba : Int32) (vmr : Int32) (vex : Int32) : Int32 × Int32 × (Nat → Int64) × Int32 × Int32 × Int32 := fX1_multiply_k166 ((fX1_finish mo vfl vrow vba vmr vex z1).1) mo ((fX1_finish mo vfl vrow vba vmr vex z1).2.1) vrow vba vmr ((fX1_finish mo vfl vrow vba vmr vex z1).2.2)
def fX1_multiply_k149 (y3 : Int32) (z0 : Int32) (mo : Int32) (vfl : Int32) (vrow : (Nat → Int64)) (vba : Int32) (vmr : Int32) (vex : Int32) : Int32 × Int32 × (Nat → Int64) × Int32 × Int32 × Int32 := (if y3 = z0 then fX1_multiply_k163 (0 : Int32) mo vfl vrow vba vmr vex else fX1_multiply_k163 (1 : Int32) mo vfl vrow vba vmr vex)
def fX1_multiply_k145 (y3 : Int32) (mo : Int32) (vfl : Int32) (vrow : (Nat → Int64)) (vba : Int32) (vmr : Int32) (vex : Int32) : Int32 × Int32 × (Nat → Int64) × Int32 × Int32 × Int32 := fX1_multiply_k149 y3 ((fX1_settle vrow).1) mo vfl ((fX1_settle vrow).2) vba vmr vex
def fX1_multiply_k120 (y1 : Int32) (y2 : Int32) (y3 : Int32) (mo : Int32) (vfl : Int32) (vrow : (Nat → Int64)) (vba : Int32) (vmr : Int32) (vex : Int32) : Int32 × Int32 × (Nat → Int64) × Int32 × Int32 × Int32 := fX1_multiply_k145 y3 mo vfl ((fX1_put vrow vba ((((Int32.toInt64 ((fX1_units y1)))) * ((Int32.toInt64 ((fX1_units y2)))))) ((((fX1_place y1)) + ((fX1_place y2)))) (0 : Int32))) vba vmr vex
def fX1_multiply_k107 (y3 : Int32) (mo : Int32) (vfl : Int32) (vrow : (Nat → Int64)) (vba : Int32) (vmr : Int32) (vex : Int32) : Int32 × Int32 × (Nat → Int64) × Int32 × Int32 × Int32 := ((fX1_signed (0 : Int32) y3), vfl, vrow, vba, vmr, vex)
def fX1_multiply_k86 (y3 : Int32) (mo : Int32) (vfl : Int32) (vrow : (Nat → Int64)) (vba : Int32) (vmr : Int32) (vex : Int32) : Int32 × Int32 × (Nat → Int64) × Int32 × Int32 × Int32 := ((fX1_signed (2139095040 : Int32) y3), vfl, vrow, vba, vmr, vex)
def fX1_multiply_k71 (y1 : Int32) (y2 : Int32) (z0 : Int32) (mo : Int32) (vfl : Int32) (vrow : (Nat → Int64)) (vba : Int32) (vmr : Int32) (vex : Int32) : Int32 × Int32 × (Nat → Int64) × Int32 × Int32 × Int32 := (if ((fX1_isInfinite y1)) = 0 then (if ((fX1_isInfinite y2)) = 0 then (if ((fX1_isZero y1)) = 0 then (if ((fX1_isZero y2)) = 0 then fX1_multiply_k120 y1 y2 z0 mo vfl ((fX1_empty vrow vba vmr (-298 : Int32)).1) ((fX1_empty vrow vba vmr (-298 : Int32)).2.1) ((fX1_empty vrow vba vmr (-298 : Int32)).2.2) vex else fX1_multiply_k107 z0 mo vfl vrow vba vmr vex) else fX1_multiply_k107 z0 mo vfl vrow vba vmr vex) else fX1_multiply_k86 z0 mo vfl vrow vba vmr vex) else fX1_multiply_k86 z0 mo vfl vrow vba vmr vex)
def fX1_multiply_k55 (y1 : Int32) (y2 : Int32) (mo : Int32) (vfl : Int32) (vrow : (Nat → Int64)) (vba : Int32) (vmr : Int32) (vex : Int32) : Int32 × Int32 × (Nat → Int64) × Int32 × Int32 × Int32 := (if ((fX1_isNegative y1)) = ((fX1_isNegative y2)) then fX1_multiply_k71 y1 y2 (0 : Int32) mo vfl vrow vba vmr vex else fX1_multiply_k71 y1 y2 (1 : Int32) mo vfl vrow vba vmr vex)
def fX1_multiply_k54 (z0 : Int32) (mo : Int32) (vfl : Int32) (vrow : (Nat → Int64)) (vba : Int32) (vmr : Int32) (vex : Int32) : Int32 × Int32 × (Nat → Int64) × Int32 × Int32 × Int32 := (z0, vfl, vrow, vba, vmr, vex)
def fX1_multiply_k50 (mo : Int32) (vfl : Int32) (vrow : (Nat → Int64)) (vba : Int32) (vmr : Int32) (vex : Int32) : Int32 × Int32 × (Nat → Int64) × Int32 × Int32 × Int32 := fX1_multiply_k54 ((fX1_invalid vfl).1) mo ((fX1_invalid vfl).2) vrow vba vmr vex
def fX1_multiply_k36 (y1 : Int32) (y2 : Int32) (mo : Int32) (vfl : Int32) (vrow : (Nat → Int64)) (vba : Int32) (vmr : Int32) (vex : Int32) : Int32 × Int32 × (Nat → Int64) × Int32 × Int32 × Int32 := (if ((fX1_isInfinite y1)) = 0 then fX1_multiply_k55 y1 y2 mo vfl vrow vba vmr vex else (if ((fX1_isZero y2)) = 0 then fX1_multiply_k55 y1 y2 mo vfl vrow vba vmr vex else fX1_multiply_k50 mo vfl vrow vba vmr vex))
def fX1_multiply_k21 (z0 : Int32) (mo : Int32) (vfl : Int32) (vrow : (Nat → Int64)) (vba : Int32) (vmr : Int32) (vex : Int32) : Int32 × Int32 × (Nat → Int64) × Int32 × Int32 × Int32 := (z0, vfl, vrow, vba, vmr, vex)
def fX1_multiply_k14 (y1 : Int32) (y2 : Int32) (mo : Int32) (vfl : Int32) (vrow : (Nat → Int64)) (vba : Int32) (vmr : Int32) (vex : Int32) : Int32 × Int32 × (Nat → Int64) × Int32 × Int32 × Int32 := fX1_multiply_k21 ((fX1_none vfl y1 y2 (0 : Int32)).1) mo ((fX1_none vfl y1 y2 (0 : Int32)).2) vrow vba vmr vex
def fX1_multiply (mo : Int32) (fl : Int32) (row : (Nat → Int64)) (ba : Int32) (mr : Int32) (ex : Int32) (x1 : Int32) (x2 : Int32) : Int32 × Int32 × (Nat → Int64) × Int32 × Int32 × Int32 := (if ((fX1_isNone x1)) = 0 then (if ((fX1_isNone x2)) = 0 then (if ((fX1_isZero x1)) = 0 then fX1_multiply_k36 x1 x2 mo fl row ba mr ex else (if ((fX1_isInfinite x2)) = 0 then fX1_multiply_k36 x1 x2 mo fl row ba mr ex else fX1_multiply_k50 mo fl row ba mr ex)) else fX1_multiply_k14 x1 x2 mo fl row ba mr ex) else fX1_multiply_k14 x1 x2 mo fl row ba mr ex)
set_option maxHeartbeats 4000000 in
set_option maxRecDepth 100000 in
theorem ccX1_multiply (l : Launch) (D : va_G) (cJ : ClassId) (h0 h1 : Nat) (hne : h0 ≠ h1) (mo fl : Int32) (row : Nat → Int64) (ba mr ex : Int32) (x1 : Int32) (x2 : Int32)  : Met l yX1_multiply wsX1_multiply { frames := 4, cells := 0, slots := 0, locals := 95 } (va_Pc [.ref h0, .int x1, .int x2] (w1 D cJ h0 h1 mo fl row ba mr ex)) (va_Qi (fun (r : Int32) (u : Int32 × (Nat → Int64) × Int32 × Int32 × Int32) => (r, u) = fX1_multiply mo fl row ba mr ex x1 x2) (fun u t => w1 D cJ h0 h1 mo u.1 u.2.1 u.2.2.1 u.2.2.2.1 u.2.2.2.2 t) (aw1 h0 h1)) 0 0 (aw1 h0 h1) := by
  refine Met.ofW (cc := cX1_multiply) (maxL := 5) (ret := (some .int)) (by decide) rfl ?_
  intro p e s m args below meth c s₁ B hml hv
  obtain ⟨rfl, hP, hK, hmr⟩ := hv
  have hx := B.exec
  have hb := B.bytes
  have hr := B.returns
  have hts := atoms_spec (ws := wsX1_multiply) B.pre
  have hown : s.vm.findClass RX1 = some m.cls := findClass_of_methodNamed B.named
  have hlocks := B.notSynchronized
  have hS : va_S (aw1 h0 h1) s.heap s.heap [] := va_S.rf
  have hP : va_P D vwCl (bw1 cJ h0 h1 mo fl row ba mr ex) s.heap := hP
  have hl := lv_entry ([.ref h0, .int x1, .int x2]) (n := 5) (Nat.le_of_ble_eq_true rfl)
  rw [lg_entry_eq]
  generalize (lg_sl ([.ref h0, .int x1, .int x2]) ++ List.replicate (5 - (lg_sl ([.ref h0, .int x1, .int x2])).length) Slot.unset).toArray = ls at hl ⊢
  have hl : lv_has ls 5 [(0, .ref h0), (1, .int x1), (2, .int x2)] := hl
  have j_163 : ∀ (z1 : Int32) (vfl : Int32) (vrow : (Nat → Int64)) (vba : Int32) (vmr : Int32) (vex : Int32) (H : Heap) (locs : List Loc) (ls : Array Slot), va_P D vwCl (bw1 cJ h0 h1 mo vfl vrow vba vmr vex) H → va_S (aw1 h0 h1) s.heap H locs → lv_has ls 5 [] → isB z1 → isB vmr → fX1_multiply mo fl row ba mr ex x1 x2 = fX1_multiply_k163 z1 mo vfl vrow vba vmr vex → W p l e (headSpec wsX1_multiply { frames := 4, cells := 0, slots := 0, locals := 95 }).room s m ([.ref h0, .int x1, .int x2] : List Value).toArray below meth c H locs 0 0 (MQ below (va_Qi (fun (r : Int32) (u : Int32 × (Nat → Int64) × Int32 × Int32 × Int32) => (r, u) = fX1_multiply mo fl row ba mr ex x1 x2) (fun u t => w1 D cJ h0 h1 mo u.1 u.2.1 u.2.2.1 u.2.2.2.1 u.2.2.2.2 t) (aw1 h0 h1)) ([.ref h0, .int x1, .int x2] : List Value).toArray s 0 0 (aw1 h0 h1)) (F0 m 163 ls [.int z1, .ref h0]) := by
    intro z1 vfl vrow vba vmr vex H locs ls hP hS hl b_z1 hmr hE
    refine k1_calli (va_runV (As := [.int z1]) (rest := []) ⟨hx, hb, hml, hown, hts⟩ (ccX1_finish l D cJ h0 h1 hne mo vfl vrow vba vmr vex z1 ) (cwV 1 hts gX1_multiply_X1_finish rfl rfl rfl (by decide +kernel) ⟨Nat.le_of_ble_eq_true rfl, Nat.le_of_ble_eq_true rfl⟩) (w1_pre hK hP hmr) rfl rfl hl.1 rfl (lv_room (Nat.le_of_ble_eq_true rfl)) dX1_multiply_163 ⟨Nat.zero_le _, Nat.zero_le _⟩) hS (fun r_163 u H locs hw hP hmr hS => ?_)
    obtain ⟨fl_163, ex_163⟩ := u
    have hP : va_P D vwCl (bw1 cJ h0 h1 mo fl_163 vrow vba vmr ex_163) H := hP
    replace hE : fX1_multiply mo fl row ba mr ex x1 x2 = fX1_multiply_k166 r_163 mo fl_163 vrow vba vmr ex_163 := by have h : fX1_multiply mo fl row ba mr ex x1 x2 = fX1_multiply_k166 ((fX1_finish mo vfl vrow vba vmr vex z1).1) mo ((fX1_finish mo vfl vrow vba vmr vex z1).2.1) vrow vba vmr ((fX1_finish mo vfl vrow vba vmr vex z1).2.2) := hE; rw [← hw] at h; exact h
    exact W.iret hx hb hr (fun t ht hW => ⟨⟨_, (fl_163, vrow, vba, vmr, ex_163), rfl, hE.symm, by rw [ht]; exact hP, va_K.moved hW.alike hK, hmr⟩, hS.F ht⟩) hS.2.2 dX1_multiply_166
  have j_107 : ∀ (y3 : Int32) (vfl : Int32) (vrow : (Nat → Int64)) (vba : Int32) (vmr : Int32) (vex : Int32) (H : Heap) (locs : List Loc) (ls : Array Slot), va_P D vwCl (bw1 cJ h0 h1 mo vfl vrow vba vmr vex) H → va_S (aw1 h0 h1) s.heap H locs → lv_has ls 5 [(3, .int y3)] → isB y3 → isB vmr → fX1_multiply mo fl row ba mr ex x1 x2 = fX1_multiply_k107 y3 mo vfl vrow vba vmr vex → W p l e (headSpec wsX1_multiply { frames := 4, cells := 0, slots := 0, locals := 95 }).room s m ([.ref h0, .int x1, .int x2] : List Value).toArray below meth c H locs 0 0 (MQ below (va_Qi (fun (r : Int32) (u : Int32 × (Nat → Int64) × Int32 × Int32 × Int32) => (r, u) = fX1_multiply mo fl row ba mr ex x1 x2) (fun u t => w1 D cJ h0 h1 mo u.1 u.2.1 u.2.2.1 u.2.2.2.1 u.2.2.2.2 t) (aw1 h0 h1)) ([.ref h0, .int x1, .int x2] : List Value).toArray s 0 0 (aw1 h0 h1)) (F0 m 107 ls []) := by
    intro y3 vfl vrow vba vmr vex H locs ls hP hS hl b_y3 hmr hE
    refine lv_iconst (v := 0) hx hb dX1_multiply_107 (by decide) ?_
    refine lv_iload_n hx hb dX1_multiply_108 rfl (lv_at hl 0 rfl) ?_
    refine sc_i (W.runS (As := [.int (0 : Int32), .int y3]) (rest := []) ⟨hx, hb, hml, hown, hts⟩ (ccX1_signed l (0 : Int32) y3 ) (va_cwS 2 hts gX1_multiply_X1_signed rfl rfl rfl (by decide +kernel) ⟨Nat.le_of_ble_eq_true rfl, Nat.le_of_ble_eq_true rfl⟩) st_pre rfl rfl hl.1 rfl (lv_room (Nat.le_of_ble_eq_true rfl)) dX1_multiply_109 ⟨Nat.zero_le _, Nat.zero_le _⟩) ?_
    exact W.iret hx hb hr (fun t ht hW => ⟨⟨_, (vfl, vrow, vba, vmr, vex), rfl, hE.symm, by rw [ht]; exact hP, va_K.moved hW.alike hK, hmr⟩, hS.F ht⟩) hS.2.2 dX1_multiply_112
  have j_86 : ∀ (y3 : Int32) (vfl : Int32) (vrow : (Nat → Int64)) (vba : Int32) (vmr : Int32) (vex : Int32) (H : Heap) (locs : List Loc) (ls : Array Slot), va_P D vwCl (bw1 cJ h0 h1 mo vfl vrow vba vmr vex) H → va_S (aw1 h0 h1) s.heap H locs → lv_has ls 5 [(3, .int y3)] → isB y3 → isB vmr → fX1_multiply mo fl row ba mr ex x1 x2 = fX1_multiply_k86 y3 mo vfl vrow vba vmr vex → W p l e (headSpec wsX1_multiply { frames := 4, cells := 0, slots := 0, locals := 95 }).room s m ([.ref h0, .int x1, .int x2] : List Value).toArray below meth c H locs 0 0 (MQ below (va_Qi (fun (r : Int32) (u : Int32 × (Nat → Int64) × Int32 × Int32 × Int32) => (r, u) = fX1_multiply mo fl row ba mr ex x1 x2) (fun u t => w1 D cJ h0 h1 mo u.1 u.2.1 u.2.2.1 u.2.2.2.1 u.2.2.2.2 t) (aw1 h0 h1)) ([.ref h0, .int x1, .int x2] : List Value).toArray s 0 0 (aw1 h0 h1)) (F0 m 86 ls []) := by
    intro y3 vfl vrow vba vmr vex H locs ls hP hS hl b_y3 hmr hE
    refine lv_ldc hx hb hown (hts (.constant RX1 73 (2139095040)) (by decide +kernel)) dX1_multiply_86 ?_
    refine lv_iload_n hx hb dX1_multiply_88 rfl (lv_at hl 0 rfl) ?_
    refine sc_i (W.runS (As := [.int (2139095040 : Int32), .int y3]) (rest := []) ⟨hx, hb, hml, hown, hts⟩ (ccX1_signed l (2139095040 : Int32) y3 ) (va_cwS 2 hts gX1_multiply_X1_signed rfl rfl rfl (by decide +kernel) ⟨Nat.le_of_ble_eq_true rfl, Nat.le_of_ble_eq_true rfl⟩) st_pre rfl rfl hl.1 rfl (lv_room (Nat.le_of_ble_eq_true rfl)) dX1_multiply_89 ⟨Nat.zero_le _, Nat.zero_le _⟩) ?_
    exact W.iret hx hb hr (fun t ht hW => ⟨⟨_, (vfl, vrow, vba, vmr, vex), rfl, hE.symm, by rw [ht]; exact hP, va_K.moved hW.alike hK, hmr⟩, hS.F ht⟩) hS.2.2 dX1_multiply_92
  have j_71 : ∀ (y1 : Int32) (y2 : Int32) (z0 : Int32) (vfl : Int32) (vrow : (Nat → Int64)) (vba : Int32) (vmr : Int32) (vex : Int32) (H : Heap) (locs : List Loc) (ls : Array Slot), va_P D vwCl (bw1 cJ h0 h1 mo vfl vrow vba vmr vex) H → va_S (aw1 h0 h1) s.heap H locs → lv_has ls 5 [(0, .ref h0), (1, .int y1), (2, .int y2)] → isB z0 → isB vmr → fX1_multiply mo fl row ba mr ex x1 x2 = fX1_multiply_k71 y1 y2 z0 mo vfl vrow vba vmr vex → W p l e (headSpec wsX1_multiply { frames := 4, cells := 0, slots := 0, locals := 95 }).room s m ([.ref h0, .int x1, .int x2] : List Value).toArray below meth c H locs 0 0 (MQ below (va_Qi (fun (r : Int32) (u : Int32 × (Nat → Int64) × Int32 × Int32 × Int32) => (r, u) = fX1_multiply mo fl row ba mr ex x1 x2) (fun u t => w1 D cJ h0 h1 mo u.1 u.2.1 u.2.2.1 u.2.2.2.1 u.2.2.2.2 t) (aw1 h0 h1)) ([.ref h0, .int x1, .int x2] : List Value).toArray s 0 0 (aw1 h0 h1)) (F0 m 71 ls [.int z0]) := by
    intro y1 y2 z0 vfl vrow vba vmr vex H locs ls hP hS hl b_z0 hmr hE
    refine lv_istore_n (lv' := [(3, .int z0), (0, .ref h0), (1, .int y1), (2, .int y2)]) hx hb dX1_multiply_71 rfl hl (by decide) rfl (fun ls hl => ?_)
    refine lv_iload_n hx hb dX1_multiply_72 rfl (lv_at hl 2 rfl) ?_
    refine sc_i (W.runS (As := [.int y1]) (rest := []) ⟨hx, hb, hml, hown, hts⟩ (ccX1_isInfinite l y1 ) (va_cwS 1 hts gX1_multiply_X1_isInfinite rfl rfl rfl (by decide +kernel) ⟨Nat.le_of_ble_eq_true rfl, Nat.le_of_ble_eq_true rfl⟩) st_pre rfl rfl hl.1 rfl (lv_room (Nat.le_of_ble_eq_true rfl)) dX1_multiply_73 ⟨Nat.zero_le _, Nat.zero_le _⟩) ?_
    refine lv_if_ne (tgt := 86) hx hb dX1_multiply_76 (by decide) (fun c_76 => ?_) (fun c_76 => ?_)
    · replace hE := hE.trans (if_neg c_76)
      exact j_86 z0 vfl vrow vba vmr vex _ _ _ hP hS (lv_sub hl [0] rfl) b_z0 hmr hE
    · replace hE := hE.trans (if_pos c_76)
      refine lv_iload_n hx hb dX1_multiply_79 rfl (lv_at hl 3 rfl) ?_
      refine sc_i (W.runS (As := [.int y2]) (rest := []) ⟨hx, hb, hml, hown, hts⟩ (ccX1_isInfinite l y2 ) (va_cwS 1 hts gX1_multiply_X1_isInfinite rfl rfl rfl (by decide +kernel) ⟨Nat.le_of_ble_eq_true rfl, Nat.le_of_ble_eq_true rfl⟩) st_pre rfl rfl hl.1 rfl (lv_room (Nat.le_of_ble_eq_true rfl)) dX1_multiply_80 ⟨Nat.zero_le _, Nat.zero_le _⟩) ?_
      refine lv_if_eq (tgt := 93) hx hb dX1_multiply_83 (by decide) (fun c_83 => ?_) (fun c_83 => ?_)
      · replace hE := hE.trans (if_pos c_83)
        refine lv_iload_n hx hb dX1_multiply_93 rfl (lv_at hl 2 rfl) ?_
        refine sc_i (W.runS (As := [.int y1]) (rest := []) ⟨hx, hb, hml, hown, hts⟩ (ccX1_isZero l y1 ) (va_cwS 1 hts gX1_multiply_X1_isZero rfl rfl rfl (by decide +kernel) ⟨Nat.le_of_ble_eq_true rfl, Nat.le_of_ble_eq_true rfl⟩) st_pre rfl rfl hl.1 rfl (lv_room (Nat.le_of_ble_eq_true rfl)) dX1_multiply_94 ⟨Nat.zero_le _, Nat.zero_le _⟩) ?_
        refine lv_if_ne (tgt := 107) hx hb dX1_multiply_97 (by decide) (fun c_97 => ?_) (fun c_97 => ?_)
        · replace hE := hE.trans (if_neg c_97)
          exact j_107 z0 vfl vrow vba vmr vex _ _ _ hP hS (lv_sub hl [0] rfl) b_z0 hmr hE
        · replace hE := hE.trans (if_pos c_97)
          refine lv_iload_n hx hb dX1_multiply_100 rfl (lv_at hl 3 rfl) ?_
          refine sc_i (W.runS (As := [.int y2]) (rest := []) ⟨hx, hb, hml, hown, hts⟩ (ccX1_isZero l y2 ) (va_cwS 1 hts gX1_multiply_X1_isZero rfl rfl rfl (by decide +kernel) ⟨Nat.le_of_ble_eq_true rfl, Nat.le_of_ble_eq_true rfl⟩) st_pre rfl rfl hl.1 rfl (lv_room (Nat.le_of_ble_eq_true rfl)) dX1_multiply_101 ⟨Nat.zero_le _, Nat.zero_le _⟩) ?_
          refine lv_if_eq (tgt := 113) hx hb dX1_multiply_104 (by decide) (fun c_104 => ?_) (fun c_104 => ?_)
          · replace hE := hE.trans (if_pos c_104)
            refine lv_aload_n hx hb dX1_multiply_113 rfl (lv_at hl 1 rfl) ?_
            refine lv_sipush (v := -298) hx hb dX1_multiply_114 (by decide) ?_
            refine k1_callv (va_runV (As := [.int (-298 : Int32)]) (rest := []) ⟨hx, hb, hml, hown, hts⟩ (ccX1_empty l D cJ h0 h1 hne mo vfl vrow vba vmr vex (-298 : Int32) ) (cwV 1 hts gX1_multiply_X1_empty rfl rfl rfl (by decide +kernel) ⟨Nat.le_of_ble_eq_true rfl, Nat.le_of_ble_eq_true rfl⟩) (w1_pre hK hP hmr) rfl rfl hl.1 rfl (lv_room (Nat.le_of_ble_eq_true rfl)) dX1_multiply_117 ⟨Nat.zero_le _, Nat.zero_le _⟩) hS (fun u H locs hw hP hmr hS => ?_)
            obtain ⟨row_117, ba_117, mr_117⟩ := u
            have hP : va_P D vwCl (bw1 cJ h0 h1 mo vfl row_117 ba_117 mr_117 vex) H := hP
            have hba := empty_ba hw
            replace hE : fX1_multiply mo fl row ba mr ex x1 x2 = fX1_multiply_k120 y1 y2 z0 mo vfl row_117 ba_117 mr_117 vex := by have h : fX1_multiply mo fl row ba mr ex x1 x2 = fX1_multiply_k120 y1 y2 z0 mo vfl ((fX1_empty vrow vba vmr (-298 : Int32)).1) ((fX1_empty vrow vba vmr (-298 : Int32)).2.1) ((fX1_empty vrow vba vmr (-298 : Int32)).2.2) vex := hE; rw [← hw] at h; exact h
            refine lv_aload_n hx hb dX1_multiply_120 rfl (lv_at hl 1 rfl) ?_
            refine lv_iload_n hx hb dX1_multiply_121 rfl (lv_at hl 2 rfl) ?_
            refine sc_i (W.runS (As := [.int y1]) (rest := [.ref h0]) ⟨hx, hb, hml, hown, hts⟩ (ccX1_units l y1 ) (va_cwS 1 hts gX1_multiply_X1_units rfl rfl rfl (by decide +kernel) ⟨Nat.le_of_ble_eq_true rfl, Nat.le_of_ble_eq_true rfl⟩) st_pre rfl rfl hl.1 rfl (lv_room (Nat.le_of_ble_eq_true rfl)) dX1_multiply_122 ⟨Nat.zero_le _, Nat.zero_le _⟩) ?_
            refine lv_i2l hx hb dX1_multiply_125 rfl ?_
            refine lv_iload_n hx hb dX1_multiply_126 rfl (lv_at hl 3 rfl) ?_
            refine sc_i (W.runS (As := [.int y2]) (rest := [.long (Int32.toInt64 ((fX1_units y1))), .ref h0]) ⟨hx, hb, hml, hown, hts⟩ (ccX1_units l y2 ) (va_cwS 1 hts gX1_multiply_X1_units rfl rfl rfl (by decide +kernel) ⟨Nat.le_of_ble_eq_true rfl, Nat.le_of_ble_eq_true rfl⟩) st_pre rfl rfl hl.1 rfl (lv_room (Nat.le_of_ble_eq_true rfl)) dX1_multiply_127 ⟨Nat.zero_le _, Nat.zero_le _⟩) ?_
            refine lv_i2l hx hb dX1_multiply_130 rfl ?_
            refine lv_lmul hx hb dX1_multiply_131 ?_
            refine lv_iload_n hx hb dX1_multiply_132 rfl (lv_at hl 2 rfl) ?_
            refine sc_i (W.runS (As := [.int y1]) (rest := [.long (((Int32.toInt64 ((fX1_units y1)))) * ((Int32.toInt64 ((fX1_units y2))))), .ref h0]) ⟨hx, hb, hml, hown, hts⟩ (ccX1_place l y1 ) (va_cwS 1 hts gX1_multiply_X1_place rfl rfl rfl (by decide +kernel) ⟨Nat.le_of_ble_eq_true rfl, Nat.le_of_ble_eq_true rfl⟩) st_pre rfl rfl hl.1 rfl (lv_room (Nat.le_of_ble_eq_true rfl)) dX1_multiply_133 ⟨Nat.zero_le _, Nat.zero_le _⟩) ?_
            refine lv_iload_n hx hb dX1_multiply_136 rfl (lv_at hl 3 rfl) ?_
            refine sc_i (W.runS (As := [.int y2]) (rest := [.int (fX1_place y1), .long (((Int32.toInt64 ((fX1_units y1)))) * ((Int32.toInt64 ((fX1_units y2))))), .ref h0]) ⟨hx, hb, hml, hown, hts⟩ (ccX1_place l y2 ) (va_cwS 1 hts gX1_multiply_X1_place rfl rfl rfl (by decide +kernel) ⟨Nat.le_of_ble_eq_true rfl, Nat.le_of_ble_eq_true rfl⟩) st_pre rfl rfl hl.1 rfl (lv_room (Nat.le_of_ble_eq_true rfl)) dX1_multiply_137 ⟨Nat.zero_le _, Nat.zero_le _⟩) ?_
            refine lv_iadd hx hb dX1_multiply_140 ?_
            refine lv_iconst (v := 0) hx hb dX1_multiply_141 (by decide) ?_
            refine k1_callv (va_runV (As := [.long (((Int32.toInt64 ((fX1_units y1)))) * ((Int32.toInt64 ((fX1_units y2))))), .int (((fX1_place y1)) + ((fX1_place y2))), .int (0 : Int32)]) (rest := []) ⟨hx, hb, hml, hown, hts⟩ (ccX1_put l D cJ h0 h1 hne mo vfl row_117 ba_117 mr_117 vex ((((Int32.toInt64 ((fX1_units y1)))) * ((Int32.toInt64 ((fX1_units y2)))))) ((((fX1_place y1)) + ((fX1_place y2)))) (0 : Int32) (by rw [hba]; exact putOk_prod _ _)) (cwV 3 hts gX1_multiply_X1_put rfl rfl rfl (by decide +kernel) ⟨Nat.le_of_ble_eq_true rfl, Nat.le_of_ble_eq_true rfl⟩) (w1_pre hK hP hmr) rfl rfl hl.1 rfl (lv_room (Nat.le_of_ble_eq_true rfl)) dX1_multiply_142 ⟨Nat.zero_le _, Nat.zero_le _⟩) hS (fun u H locs hw hP hmr hS => ?_)
            obtain ⟨row_142, rfl⟩ : ∃ z, z = u := ⟨_, rfl⟩
            have hP : va_P D vwCl (bw1 cJ h0 h1 mo vfl row_142 ba_117 mr_117 vex) H := hP
            replace hE : fX1_multiply mo fl row ba mr ex x1 x2 = fX1_multiply_k145 z0 mo vfl row_142 ba_117 mr_117 vex := by have h : fX1_multiply mo fl row ba mr ex x1 x2 = fX1_multiply_k145 z0 mo vfl ((fX1_put row_117 ba_117 ((((Int32.toInt64 ((fX1_units y1)))) * ((Int32.toInt64 ((fX1_units y2)))))) ((((fX1_place y1)) + ((fX1_place y2)))) (0 : Int32))) ba_117 mr_117 vex := hE; rw [← hw] at h; exact h
            refine lv_aload_n hx hb dX1_multiply_145 rfl (lv_at hl 1 rfl) ?_
            refine k1_calli (va_runV (As := []) (rest := []) ⟨hx, hb, hml, hown, hts⟩ (ccX1_settle l D cJ h0 h1 hne mo vfl row_142 ba_117 mr_117 vex  ) (cwV 0 hts gX1_multiply_X1_settle rfl rfl rfl (by decide +kernel) ⟨Nat.le_of_ble_eq_true rfl, Nat.le_of_ble_eq_true rfl⟩) (w1_pre hK hP hmr) rfl rfl hl.1 rfl (lv_room (Nat.le_of_ble_eq_true rfl)) dX1_multiply_146 ⟨Nat.zero_le _, Nat.zero_le _⟩) hS (fun r_146 u H locs hw hP hmr hS => ?_)
            obtain ⟨row_146, rfl⟩ : ∃ z, z = u := ⟨_, rfl⟩
            have hP : va_P D vwCl (bw1 cJ h0 h1 mo vfl row_146 ba_117 mr_117 vex) H := hP
            replace hE : fX1_multiply mo fl row ba mr ex x1 x2 = fX1_multiply_k149 z0 r_146 mo vfl row_146 ba_117 mr_117 vex := by have h : fX1_multiply mo fl row ba mr ex x1 x2 = fX1_multiply_k149 z0 ((fX1_settle row_142).1) mo vfl ((fX1_settle row_142).2) ba_117 mr_117 vex := hE; rw [← hw] at h; exact h
            refine lv_istore (lv' := [(4, .int r_146), (3, .int z0), (0, .ref h0), (1, .int y1), (2, .int y2)]) hx hb dX1_multiply_149 hl (by decide) rfl (fun ls hl => ?_)
            refine lv_aload_n hx hb dX1_multiply_151 rfl (lv_at hl 2 rfl) ?_
            refine lv_iload_n hx hb dX1_multiply_152 rfl (lv_at hl 1 rfl) ?_
            refine lv_iload hx hb dX1_multiply_153 (lv_at hl 0 rfl) ?_
            refine lv_icmp_eq (tgt := 162) hx hb dX1_multiply_155 (by decide) (fun c_155 => ?_) (fun c_155 => ?_)
            · replace hE := hE.trans (if_pos c_155)
              refine lv_iconst (v := 0) hx hb dX1_multiply_162 (by decide) ?_
              exact j_163 (0 : Int32) vfl row_146 ba_117 mr_117 vex _ _ _ hP hS (lv_sub hl [] rfl) isB_0 hmr hE
            · replace hE := hE.trans (if_neg c_155)
              refine lv_iconst (v := 1) hx hb dX1_multiply_158 (by decide) ?_
              refine lv_goto (tgt := 163) hx hb dX1_multiply_159 (by decide) ?_
              exact j_163 (1 : Int32) vfl row_146 ba_117 mr_117 vex _ _ _ hP hS (lv_sub hl [] rfl) isB_1 hmr hE
          · replace hE := hE.trans (if_neg c_104)
            exact j_107 z0 vfl vrow vba vmr vex _ _ _ hP hS (lv_sub hl [0] rfl) b_z0 hmr hE
      · replace hE := hE.trans (if_neg c_83)
        exact j_86 z0 vfl vrow vba vmr vex _ _ _ hP hS (lv_sub hl [0] rfl) b_z0 hmr hE
  have j_55 : ∀ (y1 : Int32) (y2 : Int32) (vfl : Int32) (vrow : (Nat → Int64)) (vba : Int32) (vmr : Int32) (vex : Int32) (H : Heap) (locs : List Loc) (ls : Array Slot), va_P D vwCl (bw1 cJ h0 h1 mo vfl vrow vba vmr vex) H → va_S (aw1 h0 h1) s.heap H locs → lv_has ls 5 [(0, .ref h0), (1, .int y1), (2, .int y2)] → isB vmr → fX1_multiply mo fl row ba mr ex x1 x2 = fX1_multiply_k55 y1 y2 mo vfl vrow vba vmr vex → W p l e (headSpec wsX1_multiply { frames := 4, cells := 0, slots := 0, locals := 95 }).room s m ([.ref h0, .int x1, .int x2] : List Value).toArray below meth c H locs 0 0 (MQ below (va_Qi (fun (r : Int32) (u : Int32 × (Nat → Int64) × Int32 × Int32 × Int32) => (r, u) = fX1_multiply mo fl row ba mr ex x1 x2) (fun u t => w1 D cJ h0 h1 mo u.1 u.2.1 u.2.2.1 u.2.2.2.1 u.2.2.2.2 t) (aw1 h0 h1)) ([.ref h0, .int x1, .int x2] : List Value).toArray s 0 0 (aw1 h0 h1)) (F0 m 55 ls []) := by
    intro y1 y2 vfl vrow vba vmr vex H locs ls hP hS hl hmr hE
    refine lv_iload_n hx hb dX1_multiply_55 rfl (lv_at hl 1 rfl) ?_
    refine sc_i (W.runS (As := [.int y1]) (rest := []) ⟨hx, hb, hml, hown, hts⟩ (ccX1_isNegative l y1 ) (va_cwS 1 hts gX1_multiply_X1_isNegative rfl rfl rfl (by decide +kernel) ⟨Nat.le_of_ble_eq_true rfl, Nat.le_of_ble_eq_true rfl⟩) st_pre rfl rfl hl.1 rfl (lv_room (Nat.le_of_ble_eq_true rfl)) dX1_multiply_56 ⟨Nat.zero_le _, Nat.zero_le _⟩) ?_
    refine lv_iload_n hx hb dX1_multiply_59 rfl (lv_at hl 2 rfl) ?_
    refine sc_i (W.runS (As := [.int y2]) (rest := [.int (fX1_isNegative y1)]) ⟨hx, hb, hml, hown, hts⟩ (ccX1_isNegative l y2 ) (va_cwS 1 hts gX1_multiply_X1_isNegative rfl rfl rfl (by decide +kernel) ⟨Nat.le_of_ble_eq_true rfl, Nat.le_of_ble_eq_true rfl⟩) st_pre rfl rfl hl.1 rfl (lv_room (Nat.le_of_ble_eq_true rfl)) dX1_multiply_60 ⟨Nat.zero_le _, Nat.zero_le _⟩) ?_
    refine lv_icmp_eq (tgt := 70) hx hb dX1_multiply_63 (by decide) (fun c_63 => ?_) (fun c_63 => ?_)
    · replace hE := hE.trans (if_pos c_63)
      refine lv_iconst (v := 0) hx hb dX1_multiply_70 (by decide) ?_
      exact j_71 y1 y2 (0 : Int32) vfl vrow vba vmr vex _ _ _ hP hS (lv_sub hl [0, 1, 2] rfl) isB_0 hmr hE
    · replace hE := hE.trans (if_neg c_63)
      refine lv_iconst (v := 1) hx hb dX1_multiply_66 (by decide) ?_
      refine lv_goto (tgt := 71) hx hb dX1_multiply_67 (by decide) ?_
      exact j_71 y1 y2 (1 : Int32) vfl vrow vba vmr vex _ _ _ hP hS (lv_sub hl [0, 1, 2] rfl) isB_1 hmr hE
  have j_50 : ∀ (vfl : Int32) (vrow : (Nat → Int64)) (vba : Int32) (vmr : Int32) (vex : Int32) (H : Heap) (locs : List Loc) (ls : Array Slot), va_P D vwCl (bw1 cJ h0 h1 mo vfl vrow vba vmr vex) H → va_S (aw1 h0 h1) s.heap H locs → lv_has ls 5 [(0, .ref h0)] → isB vmr → fX1_multiply mo fl row ba mr ex x1 x2 = fX1_multiply_k50 mo vfl vrow vba vmr vex → W p l e (headSpec wsX1_multiply { frames := 4, cells := 0, slots := 0, locals := 95 }).room s m ([.ref h0, .int x1, .int x2] : List Value).toArray below meth c H locs 0 0 (MQ below (va_Qi (fun (r : Int32) (u : Int32 × (Nat → Int64) × Int32 × Int32 × Int32) => (r, u) = fX1_multiply mo fl row ba mr ex x1 x2) (fun u t => w1 D cJ h0 h1 mo u.1 u.2.1 u.2.2.1 u.2.2.2.1 u.2.2.2.2 t) (aw1 h0 h1)) ([.ref h0, .int x1, .int x2] : List Value).toArray s 0 0 (aw1 h0 h1)) (F0 m 50 ls []) := by
    intro vfl vrow vba vmr vex H locs ls hP hS hl hmr hE
    refine lv_aload_n hx hb dX1_multiply_50 rfl (lv_at hl 0 rfl) ?_
    refine k1_calli (va_runV (As := []) (rest := []) ⟨hx, hb, hml, hown, hts⟩ (ccX1_invalid l D cJ h0 h1 hne mo vfl vrow vba vmr vex  ) (cwV 0 hts gX1_multiply_X1_invalid rfl rfl rfl (by decide +kernel) ⟨Nat.le_of_ble_eq_true rfl, Nat.le_of_ble_eq_true rfl⟩) (w1_pre hK hP hmr) rfl rfl hl.1 rfl (lv_room (Nat.le_of_ble_eq_true rfl)) dX1_multiply_51 ⟨Nat.zero_le _, Nat.zero_le _⟩) hS (fun r_51 u H locs hw hP hmr hS => ?_)
    obtain ⟨fl_51, rfl⟩ : ∃ z, z = u := ⟨_, rfl⟩
    have hP : va_P D vwCl (bw1 cJ h0 h1 mo fl_51 vrow vba vmr vex) H := hP
    replace hE : fX1_multiply mo fl row ba mr ex x1 x2 = fX1_multiply_k54 r_51 mo fl_51 vrow vba vmr vex := by have h : fX1_multiply mo fl row ba mr ex x1 x2 = fX1_multiply_k54 ((fX1_invalid vfl).1) mo ((fX1_invalid vfl).2) vrow vba vmr vex := hE; rw [← hw] at h; exact h
    exact W.iret hx hb hr (fun t ht hW => ⟨⟨_, (fl_51, vrow, vba, vmr, vex), rfl, hE.symm, by rw [ht]; exact hP, va_K.moved hW.alike hK, hmr⟩, hS.F ht⟩) hS.2.2 dX1_multiply_54
  have j_36 : ∀ (y1 : Int32) (y2 : Int32) (vfl : Int32) (vrow : (Nat → Int64)) (vba : Int32) (vmr : Int32) (vex : Int32) (H : Heap) (locs : List Loc) (ls : Array Slot), va_P D vwCl (bw1 cJ h0 h1 mo vfl vrow vba vmr vex) H → va_S (aw1 h0 h1) s.heap H locs → lv_has ls 5 [(0, .ref h0), (1, .int y1), (2, .int y2)] → isB vmr → fX1_multiply mo fl row ba mr ex x1 x2 = fX1_multiply_k36 y1 y2 mo vfl vrow vba vmr vex → W p l e (headSpec wsX1_multiply { frames := 4, cells := 0, slots := 0, locals := 95 }).room s m ([.ref h0, .int x1, .int x2] : List Value).toArray below meth c H locs 0 0 (MQ below (va_Qi (fun (r : Int32) (u : Int32 × (Nat → Int64) × Int32 × Int32 × Int32) => (r, u) = fX1_multiply mo fl row ba mr ex x1 x2) (fun u t => w1 D cJ h0 h1 mo u.1 u.2.1 u.2.2.1 u.2.2.2.1 u.2.2.2.2 t) (aw1 h0 h1)) ([.ref h0, .int x1, .int x2] : List Value).toArray s 0 0 (aw1 h0 h1)) (F0 m 36 ls []) := by
    intro y1 y2 vfl vrow vba vmr vex H locs ls hP hS hl hmr hE
    refine lv_iload_n hx hb dX1_multiply_36 rfl (lv_at hl 1 rfl) ?_
    refine sc_i (W.runS (As := [.int y1]) (rest := []) ⟨hx, hb, hml, hown, hts⟩ (ccX1_isInfinite l y1 ) (va_cwS 1 hts gX1_multiply_X1_isInfinite rfl rfl rfl (by decide +kernel) ⟨Nat.le_of_ble_eq_true rfl, Nat.le_of_ble_eq_true rfl⟩) st_pre rfl rfl hl.1 rfl (lv_room (Nat.le_of_ble_eq_true rfl)) dX1_multiply_37 ⟨Nat.zero_le _, Nat.zero_le _⟩) ?_
    refine lv_if_eq (tgt := 55) hx hb dX1_multiply_40 (by decide) (fun c_40 => ?_) (fun c_40 => ?_)
    · replace hE := hE.trans (if_pos c_40)
      exact j_55 y1 y2 vfl vrow vba vmr vex _ _ _ hP hS (lv_sub hl [0, 1, 2] rfl) hmr hE
    · replace hE := hE.trans (if_neg c_40)
      refine lv_iload_n hx hb dX1_multiply_43 rfl (lv_at hl 2 rfl) ?_
      refine sc_i (W.runS (As := [.int y2]) (rest := []) ⟨hx, hb, hml, hown, hts⟩ (ccX1_isZero l y2 ) (va_cwS 1 hts gX1_multiply_X1_isZero rfl rfl rfl (by decide +kernel) ⟨Nat.le_of_ble_eq_true rfl, Nat.le_of_ble_eq_true rfl⟩) st_pre rfl rfl hl.1 rfl (lv_room (Nat.le_of_ble_eq_true rfl)) dX1_multiply_44 ⟨Nat.zero_le _, Nat.zero_le _⟩) ?_
      refine lv_if_eq (tgt := 55) hx hb dX1_multiply_47 (by decide) (fun c_47 => ?_) (fun c_47 => ?_)
      · replace hE := hE.trans (if_pos c_47)
        exact j_55 y1 y2 vfl vrow vba vmr vex _ _ _ hP hS (lv_sub hl [0, 1, 2] rfl) hmr hE
      · replace hE := hE.trans (if_neg c_47)
        exact j_50 vfl vrow vba vmr vex _ _ _ hP hS (lv_sub hl [0] rfl) hmr hE
  have j_14 : ∀ (y1 : Int32) (y2 : Int32) (vfl : Int32) (vrow : (Nat → Int64)) (vba : Int32) (vmr : Int32) (vex : Int32) (H : Heap) (locs : List Loc) (ls : Array Slot), va_P D vwCl (bw1 cJ h0 h1 mo vfl vrow vba vmr vex) H → va_S (aw1 h0 h1) s.heap H locs → lv_has ls 5 [(0, .ref h0), (1, .int y1), (2, .int y2)] → isB vmr → fX1_multiply mo fl row ba mr ex x1 x2 = fX1_multiply_k14 y1 y2 mo vfl vrow vba vmr vex → W p l e (headSpec wsX1_multiply { frames := 4, cells := 0, slots := 0, locals := 95 }).room s m ([.ref h0, .int x1, .int x2] : List Value).toArray below meth c H locs 0 0 (MQ below (va_Qi (fun (r : Int32) (u : Int32 × (Nat → Int64) × Int32 × Int32 × Int32) => (r, u) = fX1_multiply mo fl row ba mr ex x1 x2) (fun u t => w1 D cJ h0 h1 mo u.1 u.2.1 u.2.2.1 u.2.2.2.1 u.2.2.2.2 t) (aw1 h0 h1)) ([.ref h0, .int x1, .int x2] : List Value).toArray s 0 0 (aw1 h0 h1)) (F0 m 14 ls []) := by
    intro y1 y2 vfl vrow vba vmr vex H locs ls hP hS hl hmr hE
    refine lv_aload_n hx hb dX1_multiply_14 rfl (lv_at hl 0 rfl) ?_
    refine lv_iload_n hx hb dX1_multiply_15 rfl (lv_at hl 1 rfl) ?_
    refine lv_iload_n hx hb dX1_multiply_16 rfl (lv_at hl 2 rfl) ?_
    refine lv_iconst (v := 0) hx hb dX1_multiply_17 (by decide) ?_
    refine k1_calli (va_runV (As := [.int y1, .int y2, .int (0 : Int32)]) (rest := []) ⟨hx, hb, hml, hown, hts⟩ (ccX1_none l D cJ h0 h1 hne mo vfl vrow vba vmr vex y1 y2 (0 : Int32) ) (cwV 3 hts gX1_multiply_X1_none rfl rfl rfl (by decide +kernel) ⟨Nat.le_of_ble_eq_true rfl, Nat.le_of_ble_eq_true rfl⟩) (w1_pre hK hP hmr) rfl rfl hl.1 rfl (lv_room (Nat.le_of_ble_eq_true rfl)) dX1_multiply_18 ⟨Nat.zero_le _, Nat.zero_le _⟩) hS (fun r_18 u H locs hw hP hmr hS => ?_)
    obtain ⟨fl_18, rfl⟩ : ∃ z, z = u := ⟨_, rfl⟩
    have hP : va_P D vwCl (bw1 cJ h0 h1 mo fl_18 vrow vba vmr vex) H := hP
    replace hE : fX1_multiply mo fl row ba mr ex x1 x2 = fX1_multiply_k21 r_18 mo fl_18 vrow vba vmr vex := by have h : fX1_multiply mo fl row ba mr ex x1 x2 = fX1_multiply_k21 ((fX1_none vfl y1 y2 (0 : Int32)).1) mo ((fX1_none vfl y1 y2 (0 : Int32)).2) vrow vba vmr vex := hE; rw [← hw] at h; exact h
    exact W.iret hx hb hr (fun t ht hW => ⟨⟨_, (fl_18, vrow, vba, vmr, vex), rfl, hE.symm, by rw [ht]; exact hP, va_K.moved hW.alike hK, hmr⟩, hS.F ht⟩) hS.2.2 dX1_multiply_21
  have hE : fX1_multiply mo fl row ba mr ex x1 x2 = fX1_multiply mo fl row ba mr ex x1 x2 := rfl
  refine lv_iload_n hx hb dX1_multiply_0 rfl (lv_at hl 1 rfl) ?_
  refine sc_i (W.runS (As := [.int x1]) (rest := []) ⟨hx, hb, hml, hown, hts⟩ (ccX1_isNone l x1 ) (va_cwS 1 hts gX1_multiply_X1_isNone rfl rfl rfl (by decide +kernel) ⟨Nat.le_of_ble_eq_true rfl, Nat.le_of_ble_eq_true rfl⟩) st_pre rfl rfl hl.1 rfl (lv_room (Nat.le_of_ble_eq_true rfl)) dX1_multiply_1 ⟨Nat.zero_le _, Nat.zero_le _⟩) ?_
  refine lv_if_ne (tgt := 14) hx hb dX1_multiply_4 (by decide) (fun c_4 => ?_) (fun c_4 => ?_)
  · replace hE := hE.trans (if_neg c_4)
    exact j_14 x1 x2 fl row ba mr ex _ _ _ hP hS (lv_sub hl [0, 1, 2] rfl) hmr hE
  · replace hE := hE.trans (if_pos c_4)
    refine lv_iload_n hx hb dX1_multiply_7 rfl (lv_at hl 2 rfl) ?_
    refine sc_i (W.runS (As := [.int x2]) (rest := []) ⟨hx, hb, hml, hown, hts⟩ (ccX1_isNone l x2 ) (va_cwS 1 hts gX1_multiply_X1_isNone rfl rfl rfl (by decide +kernel) ⟨Nat.le_of_ble_eq_true rfl, Nat.le_of_ble_eq_true rfl⟩) st_pre rfl rfl hl.1 rfl (lv_room (Nat.le_of_ble_eq_true rfl)) dX1_multiply_8 ⟨Nat.zero_le _, Nat.zero_le _⟩) ?_
    refine lv_if_eq (tgt := 22) hx hb dX1_multiply_11 (by decide) (fun c_11 => ?_) (fun c_11 => ?_)
    · replace hE := hE.trans (if_pos c_11)
      refine lv_iload_n hx hb dX1_multiply_22 rfl (lv_at hl 1 rfl) ?_
      refine sc_i (W.runS (As := [.int x1]) (rest := []) ⟨hx, hb, hml, hown, hts⟩ (ccX1_isZero l x1 ) (va_cwS 1 hts gX1_multiply_X1_isZero rfl rfl rfl (by decide +kernel) ⟨Nat.le_of_ble_eq_true rfl, Nat.le_of_ble_eq_true rfl⟩) st_pre rfl rfl hl.1 rfl (lv_room (Nat.le_of_ble_eq_true rfl)) dX1_multiply_23 ⟨Nat.zero_le _, Nat.zero_le _⟩) ?_
      refine lv_if_eq (tgt := 36) hx hb dX1_multiply_26 (by decide) (fun c_26 => ?_) (fun c_26 => ?_)
      · replace hE := hE.trans (if_pos c_26)
        exact j_36 x1 x2 fl row ba mr ex _ _ _ hP hS (lv_sub hl [0, 1, 2] rfl) hmr hE
      · replace hE := hE.trans (if_neg c_26)
        refine lv_iload_n hx hb dX1_multiply_29 rfl (lv_at hl 2 rfl) ?_
        refine sc_i (W.runS (As := [.int x2]) (rest := []) ⟨hx, hb, hml, hown, hts⟩ (ccX1_isInfinite l x2 ) (va_cwS 1 hts gX1_multiply_X1_isInfinite rfl rfl rfl (by decide +kernel) ⟨Nat.le_of_ble_eq_true rfl, Nat.le_of_ble_eq_true rfl⟩) st_pre rfl rfl hl.1 rfl (lv_room (Nat.le_of_ble_eq_true rfl)) dX1_multiply_30 ⟨Nat.zero_le _, Nat.zero_le _⟩) ?_
        refine lv_if_ne (tgt := 50) hx hb dX1_multiply_33 (by decide) (fun c_33 => ?_) (fun c_33 => ?_)
        · replace hE := hE.trans (if_neg c_33)
          exact j_50 fl row ba mr ex _ _ _ hP hS (lv_sub hl [0] rfl) hmr hE
        · replace hE := hE.trans (if_pos c_33)
          exact j_36 x1 x2 fl row ba mr ex _ _ _ hP hS (lv_sub hl [0, 1, 2] rfl) hmr hE
    · replace hE := hE.trans (if_neg c_11)
      exact j_14 x1 x2 fl row ba mr ex _ _ _ hP hS (lv_sub hl [0, 1, 2] rfl) hmr hE
/-! X1_divide -/
def fX1_divide_k255 (z0 : Int32) (mo : Int32) (vfl : Int32) (vrow : (Nat → Int64)) (vba : Int32) (vmr : Int32) (vex : Int32) : Int32 × Int32 × (Nat → Int64) × Int32 × Int32 × Int32 := (z0, vfl, vrow, vba, vmr, vex)
def fX1_divide_k252 (z1 : Int32) (mo : Int32) (vfl : Int32) (vrow : (Nat → Int64)) (vba : Int32) (vmr : Int32) (vex : Int32) : Int32 × Int32 × (Nat → Int64) × Int32 × Int32 × Int32 := fX1_divide_k255 ((fX1_finish mo vfl vrow vba vmr vex z1).1) mo ((fX1_finish mo vfl vrow vba vmr vex z1).2.1) vrow vba vmr ((fX1_finish mo vfl vrow vba vmr vex z1).2.2)
def fX1_divide_k238 (y3 : Int32) (z0 : Int32) (mo : Int32) (vfl : Int32) (vrow : (Nat → Int64)) (vba : Int32) (vmr : Int32) (vex : Int32) : Int32 × Int32 × (Nat → Int64) × Int32 × Int32 × Int32 := (if y3 = z0 then fX1_divide_k252 (0 : Int32) mo vfl vrow vba vmr vex else fX1_divide_k252 (1 : Int32) mo vfl vrow vba vmr vex)
def fX1_divide_k231 (y3 : Int32) (z1 : Int32) (mo : Int32) (vfl : Int32) (vrow : (Nat → Int64)) (vba : Int32) (vmr : Int32) (vex : Int32) : Int32 × Int32 × (Nat → Int64) × Int32 × Int32 × Int32 := fX1_divide_k238 y3 ((fX1_settle vrow).1) mo vfl ((fX1_settle vrow).2) vba z1 vex
def fX1_divide_k215 (y3 : Int32) (y6 : Int64) (y8 : Int64) (mo : Int32) (vfl : Int32) (vrow : (Nat → Int64)) (vba : Int32) (vmr : Int32) (vex : Int32) : Int32 × Int32 × (Nat → Int64) × Int32 × Int32 × Int32 := (if ((lg_cmp ((y6 - y6 / y8 * y8)) (0 : Int64))) = 0 then fX1_divide_k231 y3 (0 : Int32) mo vfl vrow vba vmr vex else fX1_divide_k231 y3 (1 : Int32) mo vfl vrow vba vmr vex)
def fX1_divide_k201 (y3 : Int32) (y6 : Int64) (y8 : Int64) (mo : Int32) (vfl : Int32) (vrow : (Nat → Int64)) (vba : Int32) (vmr : Int32) (vex : Int32) : Int32 × Int32 × (Nat → Int64) × Int32 × Int32 × Int32 := fX1_divide_k215 y3 y6 y8 mo vfl ((fX1_put vrow vba ((y6 / y8)) vba (0 : Int32))) vba vmr vex
def fX1_divide_k179 (y1 : Int32) (y2 : Int32) (y3 : Int32) (y4 : Int32) (y5 : Int32) (y6 : Int64) (y8 : Int64) (mo : Int32) (vfl : Int32) (vrow : (Nat → Int64)) (vba : Int32) (vmr : Int32) (vex : Int32) : Int32 × Int32 × (Nat → Int64) × Int32 × Int32 × Int32 := fX1_divide_k201 y3 y6 y8 mo vfl ((fX1_empty vrow vba vmr ((((((((((fX1_place y1)) - y4)) - ((fX1_place y2)))) + y5)) - (38 : Int32)))).1) ((fX1_empty vrow vba vmr ((((((((((fX1_place y1)) - y4)) - ((fX1_place y2)))) + y5)) - (38 : Int32)))).2.1) ((fX1_empty vrow vba vmr ((((((((((fX1_place y1)) - y4)) - ((fX1_place y2)))) + y5)) - (38 : Int32)))).2.2) vex
def fX1_divide_k169 (y1 : Int32) (y2 : Int32) (y3 : Int32) (y4 : Int32) (y5 : Int32) (y6 : Int64) (mo : Int32) (vfl : Int32) (vrow : (Nat → Int64)) (vba : Int32) (vmr : Int32) (vex : Int32) : Int32 × Int32 × (Nat → Int64) × Int32 × Int32 × Int32 := fX1_divide_k179 y1 y2 y3 y4 y5 y6 ((((Int32.toInt64 ((fX1_units y2)))) <<< (Int32.toInt64 y5 &&& 63))) mo vfl vrow vba vmr vex
def fX1_divide_k156 (y1 : Int32) (y2 : Int32) (y3 : Int32) (y4 : Int32) (y5 : Int32) (mo : Int32) (vfl : Int32) (vrow : (Nat → Int64)) (vba : Int32) (vmr : Int32) (vex : Int32) : Int32 × Int32 × (Nat → Int64) × Int32 × Int32 × Int32 := fX1_divide_k169 y1 y2 y3 y4 y5 ((((Int32.toInt64 ((fX1_units y1)))) <<< (Int32.toInt64 ((y4 + (38 : Int32))) &&& 63))) mo vfl vrow vba vmr vex
def fX1_divide_k147 (y1 : Int32) (y2 : Int32) (y3 : Int32) (y4 : Int32) (mo : Int32) (vfl : Int32) (vrow : (Nat → Int64)) (vba : Int32) (vmr : Int32) (vex : Int32) : Int32 × Int32 × (Nat → Int64) × Int32 × Int32 × Int32 := fX1_divide_k156 y1 y2 y3 y4 ((fX1_gap ((fX1_units y2)))) mo vfl vrow vba vmr vex
def fX1_divide_k132 (y3 : Int32) (mo : Int32) (vfl : Int32) (vrow : (Nat → Int64)) (vba : Int32) (vmr : Int32) (vex : Int32) : Int32 × Int32 × (Nat → Int64) × Int32 × Int32 × Int32 := ((fX1_signed (0 : Int32) y3), vfl, vrow, vba, vmr, vex)
def fX1_divide_k111 (y3 : Int32) (mo : Int32) (vfl : Int32) (vrow : (Nat → Int64)) (vba : Int32) (vmr : Int32) (vex : Int32) : Int32 × Int32 × (Nat → Int64) × Int32 × Int32 × Int32 := ((fX1_signed (2139095040 : Int32) y3), vfl, vrow, vba, vmr, vex)
def fX1_divide_k97 (y1 : Int32) (y2 : Int32) (y3 : Int32) (mo : Int32) (vfl : Int32) (vrow : (Nat → Int64)) (vba : Int32) (vmr : Int32) (vex : Int32) : Int32 × Int32 × (Nat → Int64) × Int32 × Int32 × Int32 := (if ((fX1_isInfinite y1)) = 0 then (if ((fX1_isZero y2)) = 0 then (if ((fX1_isZero y1)) = 0 then (if ((fX1_isInfinite y2)) = 0 then fX1_divide_k147 y1 y2 y3 ((fX1_gap ((fX1_units y1)))) mo vfl vrow vba vmr vex else fX1_divide_k132 y3 mo vfl vrow vba vmr vex) else fX1_divide_k132 y3 mo vfl vrow vba vmr vex) else fX1_divide_k111 y3 mo vfl vrow vba vmr vex) else fX1_divide_k111 y3 mo vfl vrow vba vmr vex)
def fX1_divide_k71 (y1 : Int32) (y2 : Int32) (z0 : Int32) (mo : Int32) (vfl : Int32) (vrow : (Nat → Int64)) (vba : Int32) (vmr : Int32) (vex : Int32) : Int32 × Int32 × (Nat → Int64) × Int32 × Int32 × Int32 := (if ((fX1_isZero y2)) = 0 then fX1_divide_k97 y1 y2 z0 mo vfl vrow vba vmr vex else (if ((fX1_isInfinite y1)) = 0 then fX1_divide_k97 y1 y2 z0 mo ((vfl ||| (8 : Int32))) vrow vba vmr vex else fX1_divide_k97 y1 y2 z0 mo vfl vrow vba vmr vex))
def fX1_divide_k55 (y1 : Int32) (y2 : Int32) (mo : Int32) (vfl : Int32) (vrow : (Nat → Int64)) (vba : Int32) (vmr : Int32) (vex : Int32) : Int32 × Int32 × (Nat → Int64) × Int32 × Int32 × Int32 := (if ((fX1_isNegative y1)) = ((fX1_isNegative y2)) then fX1_divide_k71 y1 y2 (0 : Int32) mo vfl vrow vba vmr vex else fX1_divide_k71 y1 y2 (1 : Int32) mo vfl vrow vba vmr vex)
def fX1_divide_k54 (z0 : Int32) (mo : Int32) (vfl : Int32) (vrow : (Nat → Int64)) (vba : Int32) (vmr : Int32) (vex : Int32) : Int32 × Int32 × (Nat → Int64) × Int32 × Int32 × Int32 := (z0, vfl, vrow, vba, vmr, vex)
def fX1_divide_k50 (mo : Int32) (vfl : Int32) (vrow : (Nat → Int64)) (vba : Int32) (vmr : Int32) (vex : Int32) : Int32 × Int32 × (Nat → Int64) × Int32 × Int32 × Int32 := fX1_divide_k54 ((fX1_invalid vfl).1) mo ((fX1_invalid vfl).2) vrow vba vmr vex
def fX1_divide_k36 (y1 : Int32) (y2 : Int32) (mo : Int32) (vfl : Int32) (vrow : (Nat → Int64)) (vba : Int32) (vmr : Int32) (vex : Int32) : Int32 × Int32 × (Nat → Int64) × Int32 × Int32 × Int32 := (if ((fX1_isInfinite y1)) = 0 then fX1_divide_k55 y1 y2 mo vfl vrow vba vmr vex else (if ((fX1_isInfinite y2)) = 0 then fX1_divide_k55 y1 y2 mo vfl vrow vba vmr vex else fX1_divide_k50 mo vfl vrow vba vmr vex))
def fX1_divide_k21 (z0 : Int32) (mo : Int32) (vfl : Int32) (vrow : (Nat → Int64)) (vba : Int32) (vmr : Int32) (vex : Int32) : Int32 × Int32 × (Nat → Int64) × Int32 × Int32 × Int32 := (z0, vfl, vrow, vba, vmr, vex)
def fX1_divide_k14 (y1 : Int32) (y2 : Int32) (mo : Int32) (vfl : Int32) (vrow : (Nat → Int64)) (vba : Int32) (vmr : Int32) (vex : Int32) : Int32 × Int32 × (Nat → Int64) × Int32 × Int32 × Int32 := fX1_divide_k21 ((fX1_none vfl y1 y2 (0 : Int32)).1) mo ((fX1_none vfl y1 y2 (0 : Int32)).2) vrow vba vmr vex
def fX1_divide (mo : Int32) (fl : Int32) (row : (Nat → Int64)) (ba : Int32) (mr : Int32) (ex : Int32) (x1 : Int32) (x2 : Int32) : Int32 × Int32 × (Nat → Int64) × Int32 × Int32 × Int32 := (if ((fX1_isNone x1)) = 0 then (if ((fX1_isNone x2)) = 0 then (if ((fX1_isZero x1)) = 0 then fX1_divide_k36 x1 x2 mo fl row ba mr ex else (if ((fX1_isZero x2)) = 0 then fX1_divide_k36 x1 x2 mo fl row ba mr ex else fX1_divide_k50 mo fl row ba mr ex)) else fX1_divide_k14 x1 x2 mo fl row ba mr ex) else fX1_divide_k14 x1 x2 mo fl row ba mr ex)
set_option maxHeartbeats 4000000 in
set_option maxRecDepth 100000 in
theorem ccX1_divide (l : Launch) (D : va_G) (cJ : ClassId) (h0 h1 : Nat) (hne : h0 ≠ h1) (mo fl : Int32) (row : Nat → Int64) (ba mr ex : Int32) (x1 : Int32) (x2 : Int32)  : Met l yX1_divide wsX1_divide { frames := 4, cells := 0, slots := 0, locals := 95 } (va_Pc [.ref h0, .int x1, .int x2] (w1 D cJ h0 h1 mo fl row ba mr ex)) (va_Qi (fun (r : Int32) (u : Int32 × (Nat → Int64) × Int32 × Int32 × Int32) => (r, u) = fX1_divide mo fl row ba mr ex x1 x2) (fun u t => w1 D cJ h0 h1 mo u.1 u.2.1 u.2.2.1 u.2.2.2.1 u.2.2.2.2 t) (aw1 h0 h1)) 0 0 (aw1 h0 h1) := by
  refine Met.ofW (cc := cX1_divide) (maxL := 11) (ret := (some .int)) (by decide) rfl ?_
  intro p e s m args below meth c s₁ B hml hv
  obtain ⟨rfl, hP, hK, hmr⟩ := hv
  have hx := B.exec
  have hb := B.bytes
  have hr := B.returns
  have hts := atoms_spec (ws := wsX1_divide) B.pre
  have hown : s.vm.findClass RX1 = some m.cls := findClass_of_methodNamed B.named
  have hlocks := B.notSynchronized
  have hin0 : ∀ w ∈ wsX10, w ∈ wsX1_divide := fun _ h => List.mem_cons_of_mem _ (List.mem_append_right _ h)
  have hS : va_S (aw1 h0 h1) s.heap s.heap [] := va_S.rf
  have hP : va_P D vwCl (bw1 cJ h0 h1 mo fl row ba mr ex) s.heap := hP
  have hl := lv_entry ([.ref h0, .int x1, .int x2]) (n := 11) (Nat.le_of_ble_eq_true rfl)
  rw [lg_entry_eq]
  generalize (lg_sl ([.ref h0, .int x1, .int x2]) ++ List.replicate (11 - (lg_sl ([.ref h0, .int x1, .int x2])).length) Slot.unset).toArray = ls at hl ⊢
  have hl : lv_has ls 11 [(0, .ref h0), (1, .int x1), (2, .int x2)] := hl
  have j_252 : ∀ (z1 : Int32) (vfl : Int32) (vrow : (Nat → Int64)) (vba : Int32) (vmr : Int32) (vex : Int32) (H : Heap) (locs : List Loc) (ls : Array Slot), va_P D vwCl (bw1 cJ h0 h1 mo vfl vrow vba vmr vex) H → va_S (aw1 h0 h1) s.heap H locs → lv_has ls 11 [] → isB z1 → isB vmr → fX1_divide mo fl row ba mr ex x1 x2 = fX1_divide_k252 z1 mo vfl vrow vba vmr vex → W p l e (headSpec wsX1_divide { frames := 4, cells := 0, slots := 0, locals := 95 }).room s m ([.ref h0, .int x1, .int x2] : List Value).toArray below meth c H locs 0 0 (MQ below (va_Qi (fun (r : Int32) (u : Int32 × (Nat → Int64) × Int32 × Int32 × Int32) => (r, u) = fX1_divide mo fl row ba mr ex x1 x2) (fun u t => w1 D cJ h0 h1 mo u.1 u.2.1 u.2.2.1 u.2.2.2.1 u.2.2.2.2 t) (aw1 h0 h1)) ([.ref h0, .int x1, .int x2] : List Value).toArray s 0 0 (aw1 h0 h1)) (F0 m 252 ls [.int z1, .ref h0]) := by
    intro z1 vfl vrow vba vmr vex H locs ls hP hS hl b_z1 hmr hE
    refine k1_calli (va_runV (As := [.int z1]) (rest := []) ⟨hx, hb, hml, hown, hts⟩ (ccX1_finish l D cJ h0 h1 hne mo vfl vrow vba vmr vex z1 ) (cwV 1 hts gX1_divide_X1_finish rfl rfl rfl (by decide +kernel) ⟨Nat.le_of_ble_eq_true rfl, Nat.le_of_ble_eq_true rfl⟩) (w1_pre hK hP hmr) rfl rfl hl.1 rfl (lv_room (Nat.le_of_ble_eq_true rfl)) dX1_divide_252 ⟨Nat.zero_le _, Nat.zero_le _⟩) hS (fun r_252 u H locs hw hP hmr hS => ?_)
    obtain ⟨fl_252, ex_252⟩ := u
    have hP : va_P D vwCl (bw1 cJ h0 h1 mo fl_252 vrow vba vmr ex_252) H := hP
    replace hE : fX1_divide mo fl row ba mr ex x1 x2 = fX1_divide_k255 r_252 mo fl_252 vrow vba vmr ex_252 := by have h : fX1_divide mo fl row ba mr ex x1 x2 = fX1_divide_k255 ((fX1_finish mo vfl vrow vba vmr vex z1).1) mo ((fX1_finish mo vfl vrow vba vmr vex z1).2.1) vrow vba vmr ((fX1_finish mo vfl vrow vba vmr vex z1).2.2) := hE; rw [← hw] at h; exact h
    exact W.iret hx hb hr (fun t ht hW => ⟨⟨_, (fl_252, vrow, vba, vmr, ex_252), rfl, hE.symm, by rw [ht]; exact hP, va_K.moved hW.alike hK, hmr⟩, hS.F ht⟩) hS.2.2 dX1_divide_255
  have j_231 : ∀ (y3 : Int32) (z1 : Int32) (vfl : Int32) (vrow : (Nat → Int64)) (vba : Int32) (vmr : Int32) (vex : Int32) (H : Heap) (locs : List Loc) (ls : Array Slot), va_P D vwCl (bw1 cJ h0 h1 mo vfl vrow vba vmr vex) H → va_S (aw1 h0 h1) s.heap H locs → lv_has ls 11 [(0, .ref h0), (3, .int y3)] → isB y3 → isB z1 → isB vmr → fX1_divide mo fl row ba mr ex x1 x2 = fX1_divide_k231 y3 z1 mo vfl vrow vba vmr vex → W p l e (headSpec wsX1_divide { frames := 4, cells := 0, slots := 0, locals := 95 }).room s m ([.ref h0, .int x1, .int x2] : List Value).toArray below meth c H locs 0 0 (MQ below (va_Qi (fun (r : Int32) (u : Int32 × (Nat → Int64) × Int32 × Int32 × Int32) => (r, u) = fX1_divide mo fl row ba mr ex x1 x2) (fun u t => w1 D cJ h0 h1 mo u.1 u.2.1 u.2.2.1 u.2.2.2.1 u.2.2.2.2 t) (aw1 h0 h1)) ([.ref h0, .int x1, .int x2] : List Value).toArray s 0 0 (aw1 h0 h1)) (F0 m 231 ls [.int z1, .ref h0]) := by
    intro y3 z1 vfl vrow vba vmr vex H locs ls hP hS hl b_y3 b_z1 hmr hE
    refine va_put (D := D) (ci := 1) (v := .int z1) (ty := .boolean) (C := RX1) (T := TX1) (N := 6) hx hb hts hin0 tyX1 tyX1_ok nmX1 hown hK hP (dw1 hne) hS 0 rfl rfl 4 (by decide) (hts (.fieldLink RX1 43 "RealBitsModel" "more" "Z") (by decide +kernel)) (fun _ h9 => h9) rfl (by decide +kernel) (isB_nar b_z1) (isB_fit b_z1) (Nat.le_of_ble_eq_true rfl) dX1_divide_231 (fun H locs hP _ hS => ?_)
    have hP : va_P D vwCl (bw1 cJ h0 h1 mo vfl vrow vba z1 vex) H := hP
    refine lv_aload_n hx hb dX1_divide_234 rfl (lv_at hl 0 rfl) ?_
    refine k1_calli (va_runV (As := []) (rest := []) ⟨hx, hb, hml, hown, hts⟩ (ccX1_settle l D cJ h0 h1 hne mo vfl vrow vba z1 vex  ) (cwV 0 hts gX1_divide_X1_settle rfl rfl rfl (by decide +kernel) ⟨Nat.le_of_ble_eq_true rfl, Nat.le_of_ble_eq_true rfl⟩) (w1_pre hK hP b_z1) rfl rfl hl.1 rfl (lv_room (Nat.le_of_ble_eq_true rfl)) dX1_divide_235 ⟨Nat.zero_le _, Nat.zero_le _⟩) hS (fun r_235 u H locs hw hP hmr hS => ?_)
    obtain ⟨row_235, rfl⟩ : ∃ z, z = u := ⟨_, rfl⟩
    have hP : va_P D vwCl (bw1 cJ h0 h1 mo vfl row_235 vba z1 vex) H := hP
    replace hE : fX1_divide mo fl row ba mr ex x1 x2 = fX1_divide_k238 y3 r_235 mo vfl row_235 vba z1 vex := by have h : fX1_divide mo fl row ba mr ex x1 x2 = fX1_divide_k238 y3 ((fX1_settle vrow).1) mo vfl ((fX1_settle vrow).2) vba z1 vex := hE; rw [← hw] at h; exact h
    refine lv_istore (lv' := [(10, .int r_235), (0, .ref h0), (3, .int y3)]) hx hb dX1_divide_238 hl (by decide) rfl (fun ls hl => ?_)
    refine lv_aload_n hx hb dX1_divide_240 rfl (lv_at hl 1 rfl) ?_
    refine lv_iload_n hx hb dX1_divide_241 rfl (lv_at hl 2 rfl) ?_
    refine lv_iload hx hb dX1_divide_242 (lv_at hl 0 rfl) ?_
    refine lv_icmp_eq (tgt := 251) hx hb dX1_divide_244 (by decide) (fun c_244 => ?_) (fun c_244 => ?_)
    · replace hE := hE.trans (if_pos c_244)
      refine lv_iconst (v := 0) hx hb dX1_divide_251 (by decide) ?_
      exact j_252 (0 : Int32) vfl row_235 vba z1 vex _ _ _ hP hS (lv_sub hl [] rfl) isB_0 hmr hE
    · replace hE := hE.trans (if_neg c_244)
      refine lv_iconst (v := 1) hx hb dX1_divide_247 (by decide) ?_
      refine lv_goto (tgt := 252) hx hb dX1_divide_248 (by decide) ?_
      exact j_252 (1 : Int32) vfl row_235 vba z1 vex _ _ _ hP hS (lv_sub hl [] rfl) isB_1 hmr hE
  have j_132 : ∀ (y3 : Int32) (vfl : Int32) (vrow : (Nat → Int64)) (vba : Int32) (vmr : Int32) (vex : Int32) (H : Heap) (locs : List Loc) (ls : Array Slot), va_P D vwCl (bw1 cJ h0 h1 mo vfl vrow vba vmr vex) H → va_S (aw1 h0 h1) s.heap H locs → lv_has ls 11 [(3, .int y3)] → isB y3 → isB vmr → fX1_divide mo fl row ba mr ex x1 x2 = fX1_divide_k132 y3 mo vfl vrow vba vmr vex → W p l e (headSpec wsX1_divide { frames := 4, cells := 0, slots := 0, locals := 95 }).room s m ([.ref h0, .int x1, .int x2] : List Value).toArray below meth c H locs 0 0 (MQ below (va_Qi (fun (r : Int32) (u : Int32 × (Nat → Int64) × Int32 × Int32 × Int32) => (r, u) = fX1_divide mo fl row ba mr ex x1 x2) (fun u t => w1 D cJ h0 h1 mo u.1 u.2.1 u.2.2.1 u.2.2.2.1 u.2.2.2.2 t) (aw1 h0 h1)) ([.ref h0, .int x1, .int x2] : List Value).toArray s 0 0 (aw1 h0 h1)) (F0 m 132 ls []) := by
    intro y3 vfl vrow vba vmr vex H locs ls hP hS hl b_y3 hmr hE
    refine lv_iconst (v := 0) hx hb dX1_divide_132 (by decide) ?_
    refine lv_iload_n hx hb dX1_divide_133 rfl (lv_at hl 0 rfl) ?_
    refine sc_i (W.runS (As := [.int (0 : Int32), .int y3]) (rest := []) ⟨hx, hb, hml, hown, hts⟩ (ccX1_signed l (0 : Int32) y3 ) (va_cwS 2 hts gX1_divide_X1_signed rfl rfl rfl (by decide +kernel) ⟨Nat.le_of_ble_eq_true rfl, Nat.le_of_ble_eq_true rfl⟩) st_pre rfl rfl hl.1 rfl (lv_room (Nat.le_of_ble_eq_true rfl)) dX1_divide_134 ⟨Nat.zero_le _, Nat.zero_le _⟩) ?_
    exact W.iret hx hb hr (fun t ht hW => ⟨⟨_, (vfl, vrow, vba, vmr, vex), rfl, hE.symm, by rw [ht]; exact hP, va_K.moved hW.alike hK, hmr⟩, hS.F ht⟩) hS.2.2 dX1_divide_137
  have j_111 : ∀ (y3 : Int32) (vfl : Int32) (vrow : (Nat → Int64)) (vba : Int32) (vmr : Int32) (vex : Int32) (H : Heap) (locs : List Loc) (ls : Array Slot), va_P D vwCl (bw1 cJ h0 h1 mo vfl vrow vba vmr vex) H → va_S (aw1 h0 h1) s.heap H locs → lv_has ls 11 [(3, .int y3)] → isB y3 → isB vmr → fX1_divide mo fl row ba mr ex x1 x2 = fX1_divide_k111 y3 mo vfl vrow vba vmr vex → W p l e (headSpec wsX1_divide { frames := 4, cells := 0, slots := 0, locals := 95 }).room s m ([.ref h0, .int x1, .int x2] : List Value).toArray below meth c H locs 0 0 (MQ below (va_Qi (fun (r : Int32) (u : Int32 × (Nat → Int64) × Int32 × Int32 × Int32) => (r, u) = fX1_divide mo fl row ba mr ex x1 x2) (fun u t => w1 D cJ h0 h1 mo u.1 u.2.1 u.2.2.1 u.2.2.2.1 u.2.2.2.2 t) (aw1 h0 h1)) ([.ref h0, .int x1, .int x2] : List Value).toArray s 0 0 (aw1 h0 h1)) (F0 m 111 ls []) := by
    intro y3 vfl vrow vba vmr vex H locs ls hP hS hl b_y3 hmr hE
    refine lv_ldc hx hb hown (hts (.constant RX1 73 (2139095040)) (by decide +kernel)) dX1_divide_111 ?_
    refine lv_iload_n hx hb dX1_divide_113 rfl (lv_at hl 0 rfl) ?_
    refine sc_i (W.runS (As := [.int (2139095040 : Int32), .int y3]) (rest := []) ⟨hx, hb, hml, hown, hts⟩ (ccX1_signed l (2139095040 : Int32) y3 ) (va_cwS 2 hts gX1_divide_X1_signed rfl rfl rfl (by decide +kernel) ⟨Nat.le_of_ble_eq_true rfl, Nat.le_of_ble_eq_true rfl⟩) st_pre rfl rfl hl.1 rfl (lv_room (Nat.le_of_ble_eq_true rfl)) dX1_divide_114 ⟨Nat.zero_le _, Nat.zero_le _⟩) ?_
    exact W.iret hx hb hr (fun t ht hW => ⟨⟨_, (vfl, vrow, vba, vmr, vex), rfl, hE.symm, by rw [ht]; exact hP, va_K.moved hW.alike hK, hmr⟩, hS.F ht⟩) hS.2.2 dX1_divide_117
  have j_97 : ∀ (y1 : Int32) (y2 : Int32) (y3 : Int32) (vfl : Int32) (vrow : (Nat → Int64)) (vba : Int32) (vmr : Int32) (vex : Int32) (H : Heap) (locs : List Loc) (ls : Array Slot), va_P D vwCl (bw1 cJ h0 h1 mo vfl vrow vba vmr vex) H → va_S (aw1 h0 h1) s.heap H locs → lv_has ls 11 [(0, .ref h0), (1, .int y1), (2, .int y2), (3, .int y3)] → isB y3 → isB vmr → fX1_divide mo fl row ba mr ex x1 x2 = fX1_divide_k97 y1 y2 y3 mo vfl vrow vba vmr vex → W p l e (headSpec wsX1_divide { frames := 4, cells := 0, slots := 0, locals := 95 }).room s m ([.ref h0, .int x1, .int x2] : List Value).toArray below meth c H locs 0 0 (MQ below (va_Qi (fun (r : Int32) (u : Int32 × (Nat → Int64) × Int32 × Int32 × Int32) => (r, u) = fX1_divide mo fl row ba mr ex x1 x2) (fun u t => w1 D cJ h0 h1 mo u.1 u.2.1 u.2.2.1 u.2.2.2.1 u.2.2.2.2 t) (aw1 h0 h1)) ([.ref h0, .int x1, .int x2] : List Value).toArray s 0 0 (aw1 h0 h1)) (F0 m 97 ls []) := by
    intro y1 y2 y3 vfl vrow vba vmr vex H locs ls hP hS hl b_y3 hmr hE
    refine lv_iload_n hx hb dX1_divide_97 rfl (lv_at hl 1 rfl) ?_
    refine sc_i (W.runS (As := [.int y1]) (rest := []) ⟨hx, hb, hml, hown, hts⟩ (ccX1_isInfinite l y1 ) (va_cwS 1 hts gX1_divide_X1_isInfinite rfl rfl rfl (by decide +kernel) ⟨Nat.le_of_ble_eq_true rfl, Nat.le_of_ble_eq_true rfl⟩) st_pre rfl rfl hl.1 rfl (lv_room (Nat.le_of_ble_eq_true rfl)) dX1_divide_98 ⟨Nat.zero_le _, Nat.zero_le _⟩) ?_
    refine lv_if_ne (tgt := 111) hx hb dX1_divide_101 (by decide) (fun c_101 => ?_) (fun c_101 => ?_)
    · replace hE := hE.trans (if_neg c_101)
      exact j_111 y3 vfl vrow vba vmr vex _ _ _ hP hS (lv_sub hl [3] rfl) b_y3 hmr hE
    · replace hE := hE.trans (if_pos c_101)
      refine lv_iload_n hx hb dX1_divide_104 rfl (lv_at hl 2 rfl) ?_
      refine sc_i (W.runS (As := [.int y2]) (rest := []) ⟨hx, hb, hml, hown, hts⟩ (ccX1_isZero l y2 ) (va_cwS 1 hts gX1_divide_X1_isZero rfl rfl rfl (by decide +kernel) ⟨Nat.le_of_ble_eq_true rfl, Nat.le_of_ble_eq_true rfl⟩) st_pre rfl rfl hl.1 rfl (lv_room (Nat.le_of_ble_eq_true rfl)) dX1_divide_105 ⟨Nat.zero_le _, Nat.zero_le _⟩) ?_
      refine lv_if_eq (tgt := 118) hx hb dX1_divide_108 (by decide) (fun c_108 => ?_) (fun c_108 => ?_)
      · replace hE := hE.trans (if_pos c_108)
        refine lv_iload_n hx hb dX1_divide_118 rfl (lv_at hl 1 rfl) ?_
        refine sc_i (W.runS (As := [.int y1]) (rest := []) ⟨hx, hb, hml, hown, hts⟩ (ccX1_isZero l y1 ) (va_cwS 1 hts gX1_divide_X1_isZero rfl rfl rfl (by decide +kernel) ⟨Nat.le_of_ble_eq_true rfl, Nat.le_of_ble_eq_true rfl⟩) st_pre rfl rfl hl.1 rfl (lv_room (Nat.le_of_ble_eq_true rfl)) dX1_divide_119 ⟨Nat.zero_le _, Nat.zero_le _⟩) ?_
        refine lv_if_ne (tgt := 132) hx hb dX1_divide_122 (by decide) (fun c_122 => ?_) (fun c_122 => ?_)
        · replace hE := hE.trans (if_neg c_122)
          exact j_132 y3 vfl vrow vba vmr vex _ _ _ hP hS (lv_sub hl [3] rfl) b_y3 hmr hE
        · replace hE := hE.trans (if_pos c_122)
          refine lv_iload_n hx hb dX1_divide_125 rfl (lv_at hl 2 rfl) ?_
          refine sc_i (W.runS (As := [.int y2]) (rest := []) ⟨hx, hb, hml, hown, hts⟩ (ccX1_isInfinite l y2 ) (va_cwS 1 hts gX1_divide_X1_isInfinite rfl rfl rfl (by decide +kernel) ⟨Nat.le_of_ble_eq_true rfl, Nat.le_of_ble_eq_true rfl⟩) st_pre rfl rfl hl.1 rfl (lv_room (Nat.le_of_ble_eq_true rfl)) dX1_divide_126 ⟨Nat.zero_le _, Nat.zero_le _⟩) ?_
          refine lv_if_eq (tgt := 138) hx hb dX1_divide_129 (by decide) (fun c_129 => ?_) (fun c_129 => ?_)
          · replace hE := hE.trans (if_pos c_129)
            refine lv_iload_n hx hb dX1_divide_138 rfl (lv_at hl 1 rfl) ?_
            refine sc_i (W.runS (As := [.int y1]) (rest := []) ⟨hx, hb, hml, hown, hts⟩ (ccX1_units l y1 ) (va_cwS 1 hts gX1_divide_X1_units rfl rfl rfl (by decide +kernel) ⟨Nat.le_of_ble_eq_true rfl, Nat.le_of_ble_eq_true rfl⟩) st_pre rfl rfl hl.1 rfl (lv_room (Nat.le_of_ble_eq_true rfl)) dX1_divide_139 ⟨Nat.zero_le _, Nat.zero_le _⟩) ?_
            refine sc_i (W.runS (As := [.int (fX1_units y1)]) (rest := []) ⟨hx, hb, hml, hown, hts⟩ (ccX1_gap l ((fX1_units y1)) ) (va_cwS 1 hts gX1_divide_X1_gap rfl rfl rfl (by decide +kernel) ⟨Nat.le_of_ble_eq_true rfl, Nat.le_of_ble_eq_true rfl⟩) st_pre rfl rfl hl.1 rfl (lv_room (Nat.le_of_ble_eq_true rfl)) dX1_divide_142 ⟨Nat.zero_le _, Nat.zero_le _⟩) ?_
            refine lv_topi (fun x4_145 e_145 => ?_)
            refine lv_istore (lv' := [(4, .int x4_145), (0, .ref h0), (1, .int y1), (2, .int y2), (3, .int y3)]) hx hb dX1_divide_145 hl (by decide) rfl (fun ls hl => ?_)
            replace hE : fX1_divide mo fl row ba mr ex x1 x2 = fX1_divide_k147 y1 y2 y3 x4_145 mo vfl vrow vba vmr vex := by rw [e_145]; exact hE
            refine lv_iload_n hx hb dX1_divide_147 rfl (lv_at hl 3 rfl) ?_
            refine sc_i (W.runS (As := [.int y2]) (rest := []) ⟨hx, hb, hml, hown, hts⟩ (ccX1_units l y2 ) (va_cwS 1 hts gX1_divide_X1_units rfl rfl rfl (by decide +kernel) ⟨Nat.le_of_ble_eq_true rfl, Nat.le_of_ble_eq_true rfl⟩) st_pre rfl rfl hl.1 rfl (lv_room (Nat.le_of_ble_eq_true rfl)) dX1_divide_148 ⟨Nat.zero_le _, Nat.zero_le _⟩) ?_
            refine sc_i (W.runS (As := [.int (fX1_units y2)]) (rest := []) ⟨hx, hb, hml, hown, hts⟩ (ccX1_gap l ((fX1_units y2)) ) (va_cwS 1 hts gX1_divide_X1_gap rfl rfl rfl (by decide +kernel) ⟨Nat.le_of_ble_eq_true rfl, Nat.le_of_ble_eq_true rfl⟩) st_pre rfl rfl hl.1 rfl (lv_room (Nat.le_of_ble_eq_true rfl)) dX1_divide_151 ⟨Nat.zero_le _, Nat.zero_le _⟩) ?_
            refine lv_topi (fun x5_154 e_154 => ?_)
            refine lv_istore (lv' := [(5, .int x5_154), (4, .int x4_145), (0, .ref h0), (1, .int y1), (2, .int y2), (3, .int y3)]) hx hb dX1_divide_154 hl (by decide) rfl (fun ls hl => ?_)
            replace hE : fX1_divide mo fl row ba mr ex x1 x2 = fX1_divide_k156 y1 y2 y3 x4_145 x5_154 mo vfl vrow vba vmr vex := by rw [e_154]; exact hE
            refine lv_iload_n hx hb dX1_divide_156 rfl (lv_at hl 3 rfl) ?_
            refine sc_i (W.runS (As := [.int y1]) (rest := []) ⟨hx, hb, hml, hown, hts⟩ (ccX1_units l y1 ) (va_cwS 1 hts gX1_divide_X1_units rfl rfl rfl (by decide +kernel) ⟨Nat.le_of_ble_eq_true rfl, Nat.le_of_ble_eq_true rfl⟩) st_pre rfl rfl hl.1 rfl (lv_room (Nat.le_of_ble_eq_true rfl)) dX1_divide_157 ⟨Nat.zero_le _, Nat.zero_le _⟩) ?_
            refine lv_i2l hx hb dX1_divide_160 rfl ?_
            refine lv_iload hx hb dX1_divide_161 (lv_at hl 1 rfl) ?_
            refine lv_bipush (v := 38) hx hb dX1_divide_163 (by decide) ?_
            refine lv_iadd hx hb dX1_divide_165 ?_
            refine lv_lshl hx hb dX1_divide_166 rfl ?_
            refine lv_topl (fun x6_167 e_167 => ?_)
            refine lv_lstore (lv' := [(6, .long x6_167), (5, .int x5_154), (4, .int x4_145), (0, .ref h0), (1, .int y1), (2, .int y2), (3, .int y3)]) hx hb dX1_divide_167 hl (by decide) rfl (fun ls hl => ?_)
            replace hE : fX1_divide mo fl row ba mr ex x1 x2 = fX1_divide_k169 y1 y2 y3 x4_145 x5_154 x6_167 mo vfl vrow vba vmr vex := by rw [e_167]; exact hE
            refine lv_iload_n hx hb dX1_divide_169 rfl (lv_at hl 5 rfl) ?_
            refine sc_i (W.runS (As := [.int y2]) (rest := []) ⟨hx, hb, hml, hown, hts⟩ (ccX1_units l y2 ) (va_cwS 1 hts gX1_divide_X1_units rfl rfl rfl (by decide +kernel) ⟨Nat.le_of_ble_eq_true rfl, Nat.le_of_ble_eq_true rfl⟩) st_pre rfl rfl hl.1 rfl (lv_room (Nat.le_of_ble_eq_true rfl)) dX1_divide_170 ⟨Nat.zero_le _, Nat.zero_le _⟩) ?_
            refine lv_i2l hx hb dX1_divide_173 rfl ?_
            refine lv_iload hx hb dX1_divide_174 (lv_at hl 1 rfl) ?_
            refine lv_lshl hx hb dX1_divide_176 rfl ?_
            refine lv_topl (fun x8_177 e_177 => ?_)
            refine lv_lstore (lv' := [(8, .long x8_177), (6, .long x6_167), (5, .int x5_154), (4, .int x4_145), (0, .ref h0), (1, .int y1), (2, .int y2), (3, .int y3)]) hx hb dX1_divide_177 hl (by decide) rfl (fun ls hl => ?_)
            replace hE : fX1_divide mo fl row ba mr ex x1 x2 = fX1_divide_k179 y1 y2 y3 x4_145 x5_154 x6_167 x8_177 mo vfl vrow vba vmr vex := by rw [e_177]; exact hE
            refine lv_aload_n hx hb dX1_divide_179 rfl (lv_at hl 4 rfl) ?_
            refine lv_iload_n hx hb dX1_divide_180 rfl (lv_at hl 5 rfl) ?_
            refine sc_i (W.runS (As := [.int y1]) (rest := [.ref h0]) ⟨hx, hb, hml, hown, hts⟩ (ccX1_place l y1 ) (va_cwS 1 hts gX1_divide_X1_place rfl rfl rfl (by decide +kernel) ⟨Nat.le_of_ble_eq_true rfl, Nat.le_of_ble_eq_true rfl⟩) st_pre rfl rfl hl.1 rfl (lv_room (Nat.le_of_ble_eq_true rfl)) dX1_divide_181 ⟨Nat.zero_le _, Nat.zero_le _⟩) ?_
            refine lv_iload hx hb dX1_divide_184 (lv_at hl 3 rfl) ?_
            refine lv_isub hx hb dX1_divide_186 ?_
            refine lv_iload_n hx hb dX1_divide_187 rfl (lv_at hl 6 rfl) ?_
            refine sc_i (W.runS (As := [.int y2]) (rest := [.int (((fX1_place y1)) - x4_145), .ref h0]) ⟨hx, hb, hml, hown, hts⟩ (ccX1_place l y2 ) (va_cwS 1 hts gX1_divide_X1_place rfl rfl rfl (by decide +kernel) ⟨Nat.le_of_ble_eq_true rfl, Nat.le_of_ble_eq_true rfl⟩) st_pre rfl rfl hl.1 rfl (lv_room (Nat.le_of_ble_eq_true rfl)) dX1_divide_188 ⟨Nat.zero_le _, Nat.zero_le _⟩) ?_
            refine lv_isub hx hb dX1_divide_191 ?_
            refine lv_iload hx hb dX1_divide_192 (lv_at hl 2 rfl) ?_
            refine lv_iadd hx hb dX1_divide_194 ?_
            refine lv_bipush (v := 38) hx hb dX1_divide_195 (by decide) ?_
            refine lv_isub hx hb dX1_divide_197 ?_
            refine k1_callv (va_runV (As := [.int (((((((((fX1_place y1)) - x4_145)) - ((fX1_place y2)))) + x5_154)) - (38 : Int32))]) (rest := []) ⟨hx, hb, hml, hown, hts⟩ (ccX1_empty l D cJ h0 h1 hne mo vfl vrow vba vmr vex ((((((((((fX1_place y1)) - x4_145)) - ((fX1_place y2)))) + x5_154)) - (38 : Int32))) ) (cwV 1 hts gX1_divide_X1_empty rfl rfl rfl (by decide +kernel) ⟨Nat.le_of_ble_eq_true rfl, Nat.le_of_ble_eq_true rfl⟩) (w1_pre hK hP hmr) rfl rfl hl.1 rfl (lv_room (Nat.le_of_ble_eq_true rfl)) dX1_divide_198 ⟨Nat.zero_le _, Nat.zero_le _⟩) hS (fun u H locs hw hP hmr hS => ?_)
            obtain ⟨row_198, ba_198, mr_198⟩ := u
            have hP : va_P D vwCl (bw1 cJ h0 h1 mo vfl row_198 ba_198 mr_198 vex) H := hP
            replace hE : fX1_divide mo fl row ba mr ex x1 x2 = fX1_divide_k201 y3 x6_167 x8_177 mo vfl row_198 ba_198 mr_198 vex := by have h : fX1_divide mo fl row ba mr ex x1 x2 = fX1_divide_k201 y3 x6_167 x8_177 mo vfl ((fX1_empty vrow vba vmr ((((((((((fX1_place y1)) - x4_145)) - ((fX1_place y2)))) + x5_154)) - (38 : Int32)))).1) ((fX1_empty vrow vba vmr ((((((((((fX1_place y1)) - x4_145)) - ((fX1_place y2)))) + x5_154)) - (38 : Int32)))).2.1) ((fX1_empty vrow vba vmr ((((((((((fX1_place y1)) - x4_145)) - ((fX1_place y2)))) + x5_154)) - (38 : Int32)))).2.2) vex := hE; rw [← hw] at h; exact h
            refine lv_aload_n hx hb dX1_divide_201 rfl (lv_at hl 4 rfl) ?_
            refine lv_lload hx hb dX1_divide_202 (lv_at hl 1 rfl) ?_
            refine lv_lload hx hb dX1_divide_204 (lv_at hl 0 rfl) ?_
            refine lv_ldiv hx hb dX1_divide_206 (by rw [e_177]; exact by_ne c_108 e_154) ?_
            refine lv_aload_n hx hb dX1_divide_207 rfl (lv_at hl 4 rfl) ?_
            refine va_get (D := D) (ci := 1) (v := .int ba_198) (C := RX1) (T := TX1) (N := 6) hx hb hts hin0 hown hK hP 0 rfl rfl 3 (by decide) (hts (.fieldLink RX1 40 "RealBitsModel" "base" "I") (by decide +kernel)) (fun _ h9 => h9) rfl dX1_divide_208 ?_
            refine lv_iconst (v := 0) hx hb dX1_divide_211 (by decide) ?_
            refine k1_callv (va_runV (As := [.long (x6_167 / x8_177), .int ba_198, .int (0 : Int32)]) (rest := []) ⟨hx, hb, hml, hown, hts⟩ (ccX1_put l D cJ h0 h1 hne mo vfl row_198 ba_198 mr_198 vex ((x6_167 / x8_177)) ba_198 (0 : Int32) (putOk_self _ _)) (cwV 3 hts gX1_divide_X1_put rfl rfl rfl (by decide +kernel) ⟨Nat.le_of_ble_eq_true rfl, Nat.le_of_ble_eq_true rfl⟩) (w1_pre hK hP hmr) rfl rfl hl.1 rfl (lv_room (Nat.le_of_ble_eq_true rfl)) dX1_divide_212 ⟨Nat.zero_le _, Nat.zero_le _⟩) hS (fun u H locs hw hP hmr hS => ?_)
            obtain ⟨row_212, rfl⟩ : ∃ z, z = u := ⟨_, rfl⟩
            have hP : va_P D vwCl (bw1 cJ h0 h1 mo vfl row_212 ba_198 mr_198 vex) H := hP
            replace hE : fX1_divide mo fl row ba mr ex x1 x2 = fX1_divide_k215 y3 x6_167 x8_177 mo vfl row_212 ba_198 mr_198 vex := by have h : fX1_divide mo fl row ba mr ex x1 x2 = fX1_divide_k215 y3 x6_167 x8_177 mo vfl ((fX1_put row_198 ba_198 ((x6_167 / x8_177)) ba_198 (0 : Int32))) ba_198 mr_198 vex := hE; rw [← hw] at h; exact h
            refine lv_aload_n hx hb dX1_divide_215 rfl (lv_at hl 4 rfl) ?_
            refine lv_lload hx hb dX1_divide_216 (lv_at hl 1 rfl) ?_
            refine lv_lload hx hb dX1_divide_218 (lv_at hl 0 rfl) ?_
            refine lv_lrem hx hb dX1_divide_220 (by rw [e_177]; exact by_ne c_108 e_154) ?_
            refine lv_lconst (v := 0) hx hb dX1_divide_221 (by decide) ?_
            refine W.lcmp hx hb dX1_divide_222 ?_
            refine lv_if_eq (tgt := 230) hx hb dX1_divide_223 (by decide) (fun c_223 => ?_) (fun c_223 => ?_)
            · replace hE := hE.trans (if_pos c_223)
              refine lv_iconst (v := 0) hx hb dX1_divide_230 (by decide) ?_
              exact j_231 y3 (0 : Int32) vfl row_212 ba_198 mr_198 vex _ _ _ hP hS (lv_sub hl [4, 7] rfl) b_y3 isB_0 hmr hE
            · replace hE := hE.trans (if_neg c_223)
              refine lv_iconst (v := 1) hx hb dX1_divide_226 (by decide) ?_
              refine lv_goto (tgt := 231) hx hb dX1_divide_227 (by decide) ?_
              exact j_231 y3 (1 : Int32) vfl row_212 ba_198 mr_198 vex _ _ _ hP hS (lv_sub hl [4, 7] rfl) b_y3 isB_1 hmr hE
          · replace hE := hE.trans (if_neg c_129)
            exact j_132 y3 vfl vrow vba vmr vex _ _ _ hP hS (lv_sub hl [3] rfl) b_y3 hmr hE
      · replace hE := hE.trans (if_neg c_108)
        exact j_111 y3 vfl vrow vba vmr vex _ _ _ hP hS (lv_sub hl [3] rfl) b_y3 hmr hE
  have j_71 : ∀ (y1 : Int32) (y2 : Int32) (z0 : Int32) (vfl : Int32) (vrow : (Nat → Int64)) (vba : Int32) (vmr : Int32) (vex : Int32) (H : Heap) (locs : List Loc) (ls : Array Slot), va_P D vwCl (bw1 cJ h0 h1 mo vfl vrow vba vmr vex) H → va_S (aw1 h0 h1) s.heap H locs → lv_has ls 11 [(0, .ref h0), (1, .int y1), (2, .int y2)] → isB z0 → isB vmr → fX1_divide mo fl row ba mr ex x1 x2 = fX1_divide_k71 y1 y2 z0 mo vfl vrow vba vmr vex → W p l e (headSpec wsX1_divide { frames := 4, cells := 0, slots := 0, locals := 95 }).room s m ([.ref h0, .int x1, .int x2] : List Value).toArray below meth c H locs 0 0 (MQ below (va_Qi (fun (r : Int32) (u : Int32 × (Nat → Int64) × Int32 × Int32 × Int32) => (r, u) = fX1_divide mo fl row ba mr ex x1 x2) (fun u t => w1 D cJ h0 h1 mo u.1 u.2.1 u.2.2.1 u.2.2.2.1 u.2.2.2.2 t) (aw1 h0 h1)) ([.ref h0, .int x1, .int x2] : List Value).toArray s 0 0 (aw1 h0 h1)) (F0 m 71 ls [.int z0]) := by
    intro y1 y2 z0 vfl vrow vba vmr vex H locs ls hP hS hl b_z0 hmr hE
    refine lv_istore_n (lv' := [(3, .int z0), (0, .ref h0), (1, .int y1), (2, .int y2)]) hx hb dX1_divide_71 rfl hl (by decide) rfl (fun ls hl => ?_)
    refine lv_iload_n hx hb dX1_divide_72 rfl (lv_at hl 3 rfl) ?_
    refine sc_i (W.runS (As := [.int y2]) (rest := []) ⟨hx, hb, hml, hown, hts⟩ (ccX1_isZero l y2 ) (va_cwS 1 hts gX1_divide_X1_isZero rfl rfl rfl (by decide +kernel) ⟨Nat.le_of_ble_eq_true rfl, Nat.le_of_ble_eq_true rfl⟩) st_pre rfl rfl hl.1 rfl (lv_room (Nat.le_of_ble_eq_true rfl)) dX1_divide_73 ⟨Nat.zero_le _, Nat.zero_le _⟩) ?_
    refine lv_if_eq (tgt := 97) hx hb dX1_divide_76 (by decide) (fun c_76 => ?_) (fun c_76 => ?_)
    · replace hE := hE.trans (if_pos c_76)
      exact j_97 y1 y2 z0 vfl vrow vba vmr vex _ _ _ hP hS (lv_sub hl [1, 2, 3, 0] rfl) b_z0 hmr hE
    · replace hE := hE.trans (if_neg c_76)
      refine lv_iload_n hx hb dX1_divide_79 rfl (lv_at hl 2 rfl) ?_
      refine sc_i (W.runS (As := [.int y1]) (rest := []) ⟨hx, hb, hml, hown, hts⟩ (ccX1_isInfinite l y1 ) (va_cwS 1 hts gX1_divide_X1_isInfinite rfl rfl rfl (by decide +kernel) ⟨Nat.le_of_ble_eq_true rfl, Nat.le_of_ble_eq_true rfl⟩) st_pre rfl rfl hl.1 rfl (lv_room (Nat.le_of_ble_eq_true rfl)) dX1_divide_80 ⟨Nat.zero_le _, Nat.zero_le _⟩) ?_
      refine lv_if_ne (tgt := 97) hx hb dX1_divide_83 (by decide) (fun c_83 => ?_) (fun c_83 => ?_)
      · replace hE := hE.trans (if_neg c_83)
        exact j_97 y1 y2 z0 vfl vrow vba vmr vex _ _ _ hP hS (lv_sub hl [1, 2, 3, 0] rfl) b_z0 hmr hE
      · replace hE := hE.trans (if_pos c_83)
        refine lv_aload_n hx hb dX1_divide_86 rfl (lv_at hl 1 rfl) ?_
        refine lv_aload_n hx hb dX1_divide_87 rfl (lv_at hl 1 rfl) ?_
        refine va_get (D := D) (ci := 1) (v := .int vfl) (C := RX1) (T := TX1) (N := 6) hx hb hts hin0 hown hK hP 0 rfl rfl 1 (by decide) (hts (.fieldLink RX1 17 "RealBitsModel" "flags" "I") (by decide +kernel)) (fun _ h9 => h9) rfl dX1_divide_88 ?_
        refine lv_bipush (v := 8) hx hb dX1_divide_91 (by decide) ?_
        refine lv_ior hx hb dX1_divide_93 ?_
        refine va_put (D := D) (ci := 1) (v := .int (vfl ||| (8 : Int32))) (ty := .int) (C := RX1) (T := TX1) (N := 6) hx hb hts hin0 tyX1 tyX1_ok nmX1 hown hK hP (dw1 hne) hS 0 rfl rfl 1 (by decide) (hts (.fieldLink RX1 17 "RealBitsModel" "flags" "I") (by decide +kernel)) (fun _ h9 => h9) rfl (by decide +kernel) rfl rfl (Nat.le_of_ble_eq_true rfl) dX1_divide_94 (fun H locs hP _ hS => ?_)
        have hP : va_P D vwCl (bw1 cJ h0 h1 mo ((vfl ||| (8 : Int32))) vrow vba vmr vex) H := hP
        exact j_97 y1 y2 z0 ((vfl ||| (8 : Int32))) vrow vba vmr vex _ _ _ hP hS (lv_sub hl [1, 2, 3, 0] rfl) b_z0 hmr hE
  have j_55 : ∀ (y1 : Int32) (y2 : Int32) (vfl : Int32) (vrow : (Nat → Int64)) (vba : Int32) (vmr : Int32) (vex : Int32) (H : Heap) (locs : List Loc) (ls : Array Slot), va_P D vwCl (bw1 cJ h0 h1 mo vfl vrow vba vmr vex) H → va_S (aw1 h0 h1) s.heap H locs → lv_has ls 11 [(0, .ref h0), (1, .int y1), (2, .int y2)] → isB vmr → fX1_divide mo fl row ba mr ex x1 x2 = fX1_divide_k55 y1 y2 mo vfl vrow vba vmr vex → W p l e (headSpec wsX1_divide { frames := 4, cells := 0, slots := 0, locals := 95 }).room s m ([.ref h0, .int x1, .int x2] : List Value).toArray below meth c H locs 0 0 (MQ below (va_Qi (fun (r : Int32) (u : Int32 × (Nat → Int64) × Int32 × Int32 × Int32) => (r, u) = fX1_divide mo fl row ba mr ex x1 x2) (fun u t => w1 D cJ h0 h1 mo u.1 u.2.1 u.2.2.1 u.2.2.2.1 u.2.2.2.2 t) (aw1 h0 h1)) ([.ref h0, .int x1, .int x2] : List Value).toArray s 0 0 (aw1 h0 h1)) (F0 m 55 ls []) := by
    intro y1 y2 vfl vrow vba vmr vex H locs ls hP hS hl hmr hE
    refine lv_iload_n hx hb dX1_divide_55 rfl (lv_at hl 1 rfl) ?_
    refine sc_i (W.runS (As := [.int y1]) (rest := []) ⟨hx, hb, hml, hown, hts⟩ (ccX1_isNegative l y1 ) (va_cwS 1 hts gX1_divide_X1_isNegative rfl rfl rfl (by decide +kernel) ⟨Nat.le_of_ble_eq_true rfl, Nat.le_of_ble_eq_true rfl⟩) st_pre rfl rfl hl.1 rfl (lv_room (Nat.le_of_ble_eq_true rfl)) dX1_divide_56 ⟨Nat.zero_le _, Nat.zero_le _⟩) ?_
    refine lv_iload_n hx hb dX1_divide_59 rfl (lv_at hl 2 rfl) ?_
    refine sc_i (W.runS (As := [.int y2]) (rest := [.int (fX1_isNegative y1)]) ⟨hx, hb, hml, hown, hts⟩ (ccX1_isNegative l y2 ) (va_cwS 1 hts gX1_divide_X1_isNegative rfl rfl rfl (by decide +kernel) ⟨Nat.le_of_ble_eq_true rfl, Nat.le_of_ble_eq_true rfl⟩) st_pre rfl rfl hl.1 rfl (lv_room (Nat.le_of_ble_eq_true rfl)) dX1_divide_60 ⟨Nat.zero_le _, Nat.zero_le _⟩) ?_
    refine lv_icmp_eq (tgt := 70) hx hb dX1_divide_63 (by decide) (fun c_63 => ?_) (fun c_63 => ?_)
    · replace hE := hE.trans (if_pos c_63)
      refine lv_iconst (v := 0) hx hb dX1_divide_70 (by decide) ?_
      exact j_71 y1 y2 (0 : Int32) vfl vrow vba vmr vex _ _ _ hP hS (lv_sub hl [0, 1, 2] rfl) isB_0 hmr hE
    · replace hE := hE.trans (if_neg c_63)
      refine lv_iconst (v := 1) hx hb dX1_divide_66 (by decide) ?_
      refine lv_goto (tgt := 71) hx hb dX1_divide_67 (by decide) ?_
      exact j_71 y1 y2 (1 : Int32) vfl vrow vba vmr vex _ _ _ hP hS (lv_sub hl [0, 1, 2] rfl) isB_1 hmr hE
  have j_50 : ∀ (vfl : Int32) (vrow : (Nat → Int64)) (vba : Int32) (vmr : Int32) (vex : Int32) (H : Heap) (locs : List Loc) (ls : Array Slot), va_P D vwCl (bw1 cJ h0 h1 mo vfl vrow vba vmr vex) H → va_S (aw1 h0 h1) s.heap H locs → lv_has ls 11 [(0, .ref h0)] → isB vmr → fX1_divide mo fl row ba mr ex x1 x2 = fX1_divide_k50 mo vfl vrow vba vmr vex → W p l e (headSpec wsX1_divide { frames := 4, cells := 0, slots := 0, locals := 95 }).room s m ([.ref h0, .int x1, .int x2] : List Value).toArray below meth c H locs 0 0 (MQ below (va_Qi (fun (r : Int32) (u : Int32 × (Nat → Int64) × Int32 × Int32 × Int32) => (r, u) = fX1_divide mo fl row ba mr ex x1 x2) (fun u t => w1 D cJ h0 h1 mo u.1 u.2.1 u.2.2.1 u.2.2.2.1 u.2.2.2.2 t) (aw1 h0 h1)) ([.ref h0, .int x1, .int x2] : List Value).toArray s 0 0 (aw1 h0 h1)) (F0 m 50 ls []) := by
    intro vfl vrow vba vmr vex H locs ls hP hS hl hmr hE
    refine lv_aload_n hx hb dX1_divide_50 rfl (lv_at hl 0 rfl) ?_
    refine k1_calli (va_runV (As := []) (rest := []) ⟨hx, hb, hml, hown, hts⟩ (ccX1_invalid l D cJ h0 h1 hne mo vfl vrow vba vmr vex  ) (cwV 0 hts gX1_divide_X1_invalid rfl rfl rfl (by decide +kernel) ⟨Nat.le_of_ble_eq_true rfl, Nat.le_of_ble_eq_true rfl⟩) (w1_pre hK hP hmr) rfl rfl hl.1 rfl (lv_room (Nat.le_of_ble_eq_true rfl)) dX1_divide_51 ⟨Nat.zero_le _, Nat.zero_le _⟩) hS (fun r_51 u H locs hw hP hmr hS => ?_)
    obtain ⟨fl_51, rfl⟩ : ∃ z, z = u := ⟨_, rfl⟩
    have hP : va_P D vwCl (bw1 cJ h0 h1 mo fl_51 vrow vba vmr vex) H := hP
    replace hE : fX1_divide mo fl row ba mr ex x1 x2 = fX1_divide_k54 r_51 mo fl_51 vrow vba vmr vex := by have h : fX1_divide mo fl row ba mr ex x1 x2 = fX1_divide_k54 ((fX1_invalid vfl).1) mo ((fX1_invalid vfl).2) vrow vba vmr vex := hE; rw [← hw] at h; exact h
    exact W.iret hx hb hr (fun t ht hW => ⟨⟨_, (fl_51, vrow, vba, vmr, vex), rfl, hE.symm, by rw [ht]; exact hP, va_K.moved hW.alike hK, hmr⟩, hS.F ht⟩) hS.2.2 dX1_divide_54
  have j_36 : ∀ (y1 : Int32) (y2 : Int32) (vfl : Int32) (vrow : (Nat → Int64)) (vba : Int32) (vmr : Int32) (vex : Int32) (H : Heap) (locs : List Loc) (ls : Array Slot), va_P D vwCl (bw1 cJ h0 h1 mo vfl vrow vba vmr vex) H → va_S (aw1 h0 h1) s.heap H locs → lv_has ls 11 [(0, .ref h0), (1, .int y1), (2, .int y2)] → isB vmr → fX1_divide mo fl row ba mr ex x1 x2 = fX1_divide_k36 y1 y2 mo vfl vrow vba vmr vex → W p l e (headSpec wsX1_divide { frames := 4, cells := 0, slots := 0, locals := 95 }).room s m ([.ref h0, .int x1, .int x2] : List Value).toArray below meth c H locs 0 0 (MQ below (va_Qi (fun (r : Int32) (u : Int32 × (Nat → Int64) × Int32 × Int32 × Int32) => (r, u) = fX1_divide mo fl row ba mr ex x1 x2) (fun u t => w1 D cJ h0 h1 mo u.1 u.2.1 u.2.2.1 u.2.2.2.1 u.2.2.2.2 t) (aw1 h0 h1)) ([.ref h0, .int x1, .int x2] : List Value).toArray s 0 0 (aw1 h0 h1)) (F0 m 36 ls []) := by
    intro y1 y2 vfl vrow vba vmr vex H locs ls hP hS hl hmr hE
    refine lv_iload_n hx hb dX1_divide_36 rfl (lv_at hl 1 rfl) ?_
    refine sc_i (W.runS (As := [.int y1]) (rest := []) ⟨hx, hb, hml, hown, hts⟩ (ccX1_isInfinite l y1 ) (va_cwS 1 hts gX1_divide_X1_isInfinite rfl rfl rfl (by decide +kernel) ⟨Nat.le_of_ble_eq_true rfl, Nat.le_of_ble_eq_true rfl⟩) st_pre rfl rfl hl.1 rfl (lv_room (Nat.le_of_ble_eq_true rfl)) dX1_divide_37 ⟨Nat.zero_le _, Nat.zero_le _⟩) ?_
    refine lv_if_eq (tgt := 55) hx hb dX1_divide_40 (by decide) (fun c_40 => ?_) (fun c_40 => ?_)
    · replace hE := hE.trans (if_pos c_40)
      exact j_55 y1 y2 vfl vrow vba vmr vex _ _ _ hP hS (lv_sub hl [0, 1, 2] rfl) hmr hE
    · replace hE := hE.trans (if_neg c_40)
      refine lv_iload_n hx hb dX1_divide_43 rfl (lv_at hl 2 rfl) ?_
      refine sc_i (W.runS (As := [.int y2]) (rest := []) ⟨hx, hb, hml, hown, hts⟩ (ccX1_isInfinite l y2 ) (va_cwS 1 hts gX1_divide_X1_isInfinite rfl rfl rfl (by decide +kernel) ⟨Nat.le_of_ble_eq_true rfl, Nat.le_of_ble_eq_true rfl⟩) st_pre rfl rfl hl.1 rfl (lv_room (Nat.le_of_ble_eq_true rfl)) dX1_divide_44 ⟨Nat.zero_le _, Nat.zero_le _⟩) ?_
      refine lv_if_eq (tgt := 55) hx hb dX1_divide_47 (by decide) (fun c_47 => ?_) (fun c_47 => ?_)
      · replace hE := hE.trans (if_pos c_47)
        exact j_55 y1 y2 vfl vrow vba vmr vex _ _ _ hP hS (lv_sub hl [0, 1, 2] rfl) hmr hE
      · replace hE := hE.trans (if_neg c_47)
        exact j_50 vfl vrow vba vmr vex _ _ _ hP hS (lv_sub hl [0] rfl) hmr hE
  have j_14 : ∀ (y1 : Int32) (y2 : Int32) (vfl : Int32) (vrow : (Nat → Int64)) (vba : Int32) (vmr : Int32) (vex : Int32) (H : Heap) (locs : List Loc) (ls : Array Slot), va_P D vwCl (bw1 cJ h0 h1 mo vfl vrow vba vmr vex) H → va_S (aw1 h0 h1) s.heap H locs → lv_has ls 11 [(0, .ref h0), (1, .int y1), (2, .int y2)] → isB vmr → fX1_divide mo fl row ba mr ex x1 x2 = fX1_divide_k14 y1 y2 mo vfl vrow vba vmr vex → W p l e (headSpec wsX1_divide { frames := 4, cells := 0, slots := 0, locals := 95 }).room s m ([.ref h0, .int x1, .int x2] : List Value).toArray below meth c H locs 0 0 (MQ below (va_Qi (fun (r : Int32) (u : Int32 × (Nat → Int64) × Int32 × Int32 × Int32) => (r, u) = fX1_divide mo fl row ba mr ex x1 x2) (fun u t => w1 D cJ h0 h1 mo u.1 u.2.1 u.2.2.1 u.2.2.2.1 u.2.2.2.2 t) (aw1 h0 h1)) ([.ref h0, .int x1, .int x2] : List Value).toArray s 0 0 (aw1 h0 h1)) (F0 m 14 ls []) := by
    intro y1 y2 vfl vrow vba vmr vex H locs ls hP hS hl hmr hE
    refine lv_aload_n hx hb dX1_divide_14 rfl (lv_at hl 0 rfl) ?_
    refine lv_iload_n hx hb dX1_divide_15 rfl (lv_at hl 1 rfl) ?_
    refine lv_iload_n hx hb dX1_divide_16 rfl (lv_at hl 2 rfl) ?_
    refine lv_iconst (v := 0) hx hb dX1_divide_17 (by decide) ?_
    refine k1_calli (va_runV (As := [.int y1, .int y2, .int (0 : Int32)]) (rest := []) ⟨hx, hb, hml, hown, hts⟩ (ccX1_none l D cJ h0 h1 hne mo vfl vrow vba vmr vex y1 y2 (0 : Int32) ) (cwV 3 hts gX1_divide_X1_none rfl rfl rfl (by decide +kernel) ⟨Nat.le_of_ble_eq_true rfl, Nat.le_of_ble_eq_true rfl⟩) (w1_pre hK hP hmr) rfl rfl hl.1 rfl (lv_room (Nat.le_of_ble_eq_true rfl)) dX1_divide_18 ⟨Nat.zero_le _, Nat.zero_le _⟩) hS (fun r_18 u H locs hw hP hmr hS => ?_)
    obtain ⟨fl_18, rfl⟩ : ∃ z, z = u := ⟨_, rfl⟩
    have hP : va_P D vwCl (bw1 cJ h0 h1 mo fl_18 vrow vba vmr vex) H := hP
    replace hE : fX1_divide mo fl row ba mr ex x1 x2 = fX1_divide_k21 r_18 mo fl_18 vrow vba vmr vex := by have h : fX1_divide mo fl row ba mr ex x1 x2 = fX1_divide_k21 ((fX1_none vfl y1 y2 (0 : Int32)).1) mo ((fX1_none vfl y1 y2 (0 : Int32)).2) vrow vba vmr vex := hE; rw [← hw] at h; exact h
    exact W.iret hx hb hr (fun t ht hW => ⟨⟨_, (fl_18, vrow, vba, vmr, vex), rfl, hE.symm, by rw [ht]; exact hP, va_K.moved hW.alike hK, hmr⟩, hS.F ht⟩) hS.2.2 dX1_divide_21
  have hE : fX1_divide mo fl row ba mr ex x1 x2 = fX1_divide mo fl row ba mr ex x1 x2 := rfl
  refine lv_iload_n hx hb dX1_divide_0 rfl (lv_at hl 1 rfl) ?_
  refine sc_i (W.runS (As := [.int x1]) (rest := []) ⟨hx, hb, hml, hown, hts⟩ (ccX1_isNone l x1 ) (va_cwS 1 hts gX1_divide_X1_isNone rfl rfl rfl (by decide +kernel) ⟨Nat.le_of_ble_eq_true rfl, Nat.le_of_ble_eq_true rfl⟩) st_pre rfl rfl hl.1 rfl (lv_room (Nat.le_of_ble_eq_true rfl)) dX1_divide_1 ⟨Nat.zero_le _, Nat.zero_le _⟩) ?_
  refine lv_if_ne (tgt := 14) hx hb dX1_divide_4 (by decide) (fun c_4 => ?_) (fun c_4 => ?_)
  · replace hE := hE.trans (if_neg c_4)
    exact j_14 x1 x2 fl row ba mr ex _ _ _ hP hS (lv_sub hl [0, 1, 2] rfl) hmr hE
  · replace hE := hE.trans (if_pos c_4)
    refine lv_iload_n hx hb dX1_divide_7 rfl (lv_at hl 2 rfl) ?_
    refine sc_i (W.runS (As := [.int x2]) (rest := []) ⟨hx, hb, hml, hown, hts⟩ (ccX1_isNone l x2 ) (va_cwS 1 hts gX1_divide_X1_isNone rfl rfl rfl (by decide +kernel) ⟨Nat.le_of_ble_eq_true rfl, Nat.le_of_ble_eq_true rfl⟩) st_pre rfl rfl hl.1 rfl (lv_room (Nat.le_of_ble_eq_true rfl)) dX1_divide_8 ⟨Nat.zero_le _, Nat.zero_le _⟩) ?_
    refine lv_if_eq (tgt := 22) hx hb dX1_divide_11 (by decide) (fun c_11 => ?_) (fun c_11 => ?_)
    · replace hE := hE.trans (if_pos c_11)
      refine lv_iload_n hx hb dX1_divide_22 rfl (lv_at hl 1 rfl) ?_
      refine sc_i (W.runS (As := [.int x1]) (rest := []) ⟨hx, hb, hml, hown, hts⟩ (ccX1_isZero l x1 ) (va_cwS 1 hts gX1_divide_X1_isZero rfl rfl rfl (by decide +kernel) ⟨Nat.le_of_ble_eq_true rfl, Nat.le_of_ble_eq_true rfl⟩) st_pre rfl rfl hl.1 rfl (lv_room (Nat.le_of_ble_eq_true rfl)) dX1_divide_23 ⟨Nat.zero_le _, Nat.zero_le _⟩) ?_
      refine lv_if_eq (tgt := 36) hx hb dX1_divide_26 (by decide) (fun c_26 => ?_) (fun c_26 => ?_)
      · replace hE := hE.trans (if_pos c_26)
        exact j_36 x1 x2 fl row ba mr ex _ _ _ hP hS (lv_sub hl [0, 1, 2] rfl) hmr hE
      · replace hE := hE.trans (if_neg c_26)
        refine lv_iload_n hx hb dX1_divide_29 rfl (lv_at hl 2 rfl) ?_
        refine sc_i (W.runS (As := [.int x2]) (rest := []) ⟨hx, hb, hml, hown, hts⟩ (ccX1_isZero l x2 ) (va_cwS 1 hts gX1_divide_X1_isZero rfl rfl rfl (by decide +kernel) ⟨Nat.le_of_ble_eq_true rfl, Nat.le_of_ble_eq_true rfl⟩) st_pre rfl rfl hl.1 rfl (lv_room (Nat.le_of_ble_eq_true rfl)) dX1_divide_30 ⟨Nat.zero_le _, Nat.zero_le _⟩) ?_
        refine lv_if_ne (tgt := 50) hx hb dX1_divide_33 (by decide) (fun c_33 => ?_) (fun c_33 => ?_)
        · replace hE := hE.trans (if_neg c_33)
          exact j_50 fl row ba mr ex _ _ _ hP hS (lv_sub hl [0] rfl) hmr hE
        · replace hE := hE.trans (if_pos c_33)
          exact j_36 x1 x2 fl row ba mr ex _ _ _ hP hS (lv_sub hl [0, 1, 2] rfl) hmr hE
    · replace hE := hE.trans (if_neg c_11)
      exact j_14 x1 x2 fl row ba mr ex _ _ _ hP hS (lv_sub hl [0, 1, 2] rfl) hmr hE
