/-! X1_bit -/
def fX1_bit (row : (Nat → Int64)) (x1 : Int32) : Int32 := (if x1 < 0 then (0 : Int32) else (if x1 < (600 : Int32) then (((Int64.toInt32 ((((row (Int32.toNatClampNeg ((x1 / (24 : Int32)))))) >>> (Int32.toInt64 ((x1 - x1 / (24 : Int32) * (24 : Int32))) &&& 63))))) &&& (1 : Int32)) else (0 : Int32)))
set_option maxHeartbeats 4000000 in
set_option maxRecDepth 100000 in
theorem ccX1_bit (l : Launch) (D : va_G) (cJ : ClassId) (h0 h1 : Nat) (hne : h0 ≠ h1) (mo fl : Int32) (row : Nat → Int64) (ba mr ex : Int32) (x1 : Int32)  : Met l yX1_bit wsX1_bit { frames := 0, cells := 0, slots := 0, locals := 0 } (va_Pc [.ref h0, .int x1] (w1 D cJ h0 h1 mo fl row ba mr ex)) (vp_Si (fun r => r = fX1_bit row x1)) 0 0 (fun _ => False) := by
  refine Met.ofW (cc := cX1_bit) (maxL := 2) (ret := (some .int)) (by decide) rfl ?_
  intro p e s m args below meth c s₁ B hml hv
  obtain ⟨rfl, hP, hK, hmr⟩ := hv
  have hx := B.exec
  have hb := B.bytes
  have hr := B.returns
  have hts := atoms_spec (ws := wsX1_bit) B.pre
  have hown : s.vm.findClass RX1 = some m.cls := findClass_of_methodNamed B.named
  have hlocks := B.notSynchronized
  have hin0 : ∀ w ∈ wsX10, w ∈ wsX1_bit := fun _ h => List.mem_cons_of_mem _ (List.mem_append_right _ h)
  have hS : va_S (aw1 h0 h1) s.heap s.heap [] := va_S.rf
  have hP : va_P D vwCl (bw1 cJ h0 h1 mo fl row ba mr ex) s.heap := hP
  have hl := lv_entry ([.ref h0, .int x1]) (n := 2) (Nat.le_of_ble_eq_true rfl)
  rw [lg_entry_eq]
  generalize (lg_sl ([.ref h0, .int x1]) ++ List.replicate (2 - (lg_sl ([.ref h0, .int x1])).length) Slot.unset).toArray = ls at hl ⊢
  have hl : lv_has ls 2 [(0, .ref h0), (1, .int x1)] := hl
  have hE : fX1_bit row x1 = fX1_bit row x1 := rfl
  refine lv_iload_n hx hb dX1_bit_0 rfl (lv_at hl 1 rfl) ?_
  refine lv_if_lt (tgt := 11) hx hb dX1_bit_1 (by decide) (fun c_1 => ?_) (fun c_1 => ?_)
  · replace hE := hE.trans (if_pos c_1)
    refine lv_iconst (v := 0) hx hb dX1_bit_11 (by decide) ?_
    refine lv_goto (tgt := 32) hx hb dX1_bit_12 (by decide) ?_
    exact W.iret hx hb hr (fun t ht hW => ⟨_, rfl, hE.symm, ht⟩) (fun _ h => by cases h) dX1_bit_32
  · replace hE := hE.trans (if_neg c_1)
    refine lv_iload_n hx hb dX1_bit_4 rfl (lv_at hl 1 rfl) ?_
    refine lv_sipush (v := 600) hx hb dX1_bit_5 (by decide) ?_
    refine lv_icmp_lt (tgt := 15) hx hb dX1_bit_8 (by decide) (fun c_8 => ?_) (fun c_8 => ?_)
    · replace hE := hE.trans (if_pos c_8)
      refine lv_aload_n hx hb dX1_bit_15 rfl (lv_at hl 0 rfl) ?_
      refine va_get (D := D) (ci := 1) (v := .ref h1) (C := RX1) (T := TX1) (N := 6) hx hb hts hin0 hown hK hP 0 rfl rfl 2 (by decide) (hts (.fieldLink RX1 7 "RealBitsModel" "row" "[J") (by decide +kernel)) (fun _ h9 => h9) rfl dX1_bit_16 ?_
      refine lv_iload_n hx hb dX1_bit_19 rfl (lv_at hl 1 rfl) ?_
      refine lv_bipush (v := 24) hx hb dX1_bit_20 (by decide) ?_
      refine lv_idiv hx hb dX1_bit_22 (by decide) ?_
      refine va_lald (D := D) hx hb hK hP 1 0 rfl rfl (i := ((x1 / (24 : Int32)))) (in24 c_1 c_8) dX1_bit_23 ?_
      refine lv_iload_n hx hb dX1_bit_24 rfl (lv_at hl 1 rfl) ?_
      refine lv_bipush (v := 24) hx hb dX1_bit_25 (by decide) ?_
      refine lv_irem hx hb dX1_bit_27 (by decide) ?_
      refine lv_lshr hx hb dX1_bit_28 rfl ?_
      refine lv_l2i hx hb dX1_bit_29 rfl ?_
      refine lv_iconst (v := 1) hx hb dX1_bit_30 (by decide) ?_
      refine lv_iand hx hb dX1_bit_31 ?_
      exact W.iret hx hb hr (fun t ht hW => ⟨_, rfl, hE.symm, ht⟩) (fun _ h => by cases h) dX1_bit_32
    · replace hE := hE.trans (if_neg c_8)
      refine lv_iconst (v := 0) hx hb dX1_bit_11 (by decide) ?_
      refine lv_goto (tgt := 32) hx hb dX1_bit_12 (by decide) ?_
      exact W.iret hx hb hr (fun t ht hW => ⟨_, rfl, hE.symm, ht⟩) (fun _ h => by cases h) dX1_bit_32
/-! X1_top -/
def fX1_top_k4 : Nat → Int32 → (Nat → Int64) → Int32
  | 0, _, _ => 0
  | n + 1, y1, row => (if y1 < 0 then (-1 : Int32) else (if ((fX1_bit row y1)) = (1 : Int32) then y1 else fX1_top_k4 n ((y1 + (-1 : Int32))) row))
theorem fX1_top_k4_s (n : Nat) (y1 : Int32) (row : (Nat → Int64)) : fX1_top_k4 (n + 1) y1 row = (if y1 < 0 then (-1 : Int32) else (if ((fX1_bit row y1)) = (1 : Int32) then y1 else fX1_top_k4 n ((y1 + (-1 : Int32))) row)) := rfl
def fX1_top (row : (Nat → Int64)) : Int32 := fX1_top_k4 601 (599 : Int32) row
set_option maxHeartbeats 4000000 in
set_option maxRecDepth 100000 in
theorem ccX1_top (l : Launch) (D : va_G) (cJ : ClassId) (h0 h1 : Nat) (hne : h0 ≠ h1) (mo fl : Int32) (row : Nat → Int64) (ba mr ex : Int32)   : Met l yX1_top wsX1_top { frames := 1, cells := 0, slots := 0, locals := 21 } (va_Pc [.ref h0] (w1 D cJ h0 h1 mo fl row ba mr ex)) (vp_Si (fun r => r = fX1_top row)) 0 0 (fun _ => False) := by
  refine Met.ofW (cc := cX1_top) (maxL := 2) (ret := (some .int)) (by decide) rfl ?_
  intro p e s m args below meth c s₁ B hml hv
  obtain ⟨rfl, hP, hK, hmr⟩ := hv
  have hx := B.exec
  have hb := B.bytes
  have hr := B.returns
  have hts := atoms_spec (ws := wsX1_top) B.pre
  have hown : s.vm.findClass RX1 = some m.cls := findClass_of_methodNamed B.named
  have hlocks := B.notSynchronized
  have hS : va_S (aw1 h0 h1) s.heap s.heap [] := va_S.rf
  have hP : va_P D vwCl (bw1 cJ h0 h1 mo fl row ba mr ex) s.heap := hP
  have hl := lv_entry ([.ref h0]) (n := 2) (Nat.le_of_ble_eq_true rfl)
  rw [lg_entry_eq]
  generalize (lg_sl ([.ref h0]) ++ List.replicate (2 - (lg_sl ([.ref h0])).length) Slot.unset).toArray = ls at hl ⊢
  have hl : lv_has ls 2 [(0, .ref h0)] := hl
  have j_4 : ∀ (n : Nat) (y1 : Int32) (ls : Array Slot), lv_has ls 2 [(0, .ref h0), (1, .int y1)] → dsc 600 y1 n → fX1_top row = fX1_top_k4 n y1 row → W p l e (headSpec wsX1_top { frames := 1, cells := 0, slots := 0, locals := 21 }).room s m ([.ref h0] : List Value).toArray below meth c s.heap [] 0 0 (MQ below (vp_Si (fun r => r = fX1_top row)) ([.ref h0] : List Value).toArray s 0 0 (fun _ => False)) (F0 m 4 ls []) := by
    intro n
    induction n with
    | zero =>
      intro y1 ls hl hM hE
      exact absurd hM dsc_0
    | succ n ih =>
      intro y1 ls hl hM hE
      replace hE := hE.trans (fX1_top_k4_s n y1 row)
      refine lv_iload_n hx hb dX1_top_4 rfl (lv_at hl 1 rfl) ?_
      refine lv_if_lt (tgt := 25) hx hb dX1_top_5 (by decide) (fun c_5 => ?_) (fun c_5 => ?_)
      · replace hE := hE.trans (if_pos c_5)
        refine lv_iconst (v := -1) hx hb dX1_top_25 (by decide) ?_
        exact W.iret hx hb hr (fun t ht hW => ⟨_, rfl, hE.symm, ht⟩) (fun _ h => by cases h) dX1_top_26
      · replace hE := hE.trans (if_neg c_5)
        refine lv_aload_n hx hb dX1_top_8 rfl (lv_at hl 0 rfl) ?_
        refine lv_iload_n hx hb dX1_top_9 rfl (lv_at hl 1 rfl) ?_
        refine sc_i (W.runV (As := [.int y1]) (rest := []) ⟨hx, hb, hml, hown, hts⟩ (ccX1_bit l D cJ h0 h1 hne mo fl row ba mr ex y1 ) (cwV 1 hts gX1_top_X1_bit rfl rfl rfl (by decide +kernel) ⟨Nat.le_of_ble_eq_true rfl, Nat.le_of_ble_eq_true rfl⟩) (w1_pre hK hP hmr) rfl rfl hl.1 rfl (lv_room (Nat.le_of_ble_eq_true rfl)) dX1_top_10 ⟨Nat.zero_le _, Nat.zero_le _⟩) ?_
        refine lv_iconst (v := 1) hx hb dX1_top_13 (by decide) ?_
        refine lv_icmp_ne (tgt := 19) hx hb dX1_top_14 (by decide) (fun c_14 => ?_) (fun c_14 => ?_)
        · replace hE := hE.trans (if_neg c_14)
          refine lv_iinc (v := (y1 + (-1 : Int32))) (lv' := [(1, .int (y1 + (-1 : Int32))), (0, .ref h0)]) hx hb dX1_top_19 hl (k := 1) rfl rfl (by decide) rfl (fun ls hl => ?_)
          refine lv_goto (tgt := 4) hx hb dX1_top_22 (by decide) ?_
          exact ih ((y1 + (-1 : Int32))) _ (lv_sub hl [1, 0] rfl)  (dsc_step hM (i32_nlt0 c_5)) hE
        · replace hE := hE.trans (if_pos c_14)
          refine lv_iload_n hx hb dX1_top_17 rfl (lv_at hl 1 rfl) ?_
          exact W.iret hx hb hr (fun t ht hW => ⟨_, rfl, hE.symm, ht⟩) (fun _ h => by cases h) dX1_top_18
  have hE : fX1_top row = fX1_top row := rfl
  refine lv_sipush (v := 599) hx hb dX1_top_0 (by decide) ?_
  refine lv_istore_n (lv' := [(1, .int (599 : Int32)), (0, .ref h0)]) hx hb dX1_top_3 rfl hl (by decide) rfl (fun ls hl => ?_)
  exact j_4 601 (599 : Int32) _ (lv_sub hl [1, 0] rfl)  (⟨by decide, by decide, by decide⟩) hE
/-! X1_below -/
def fX1_below_k2 : Nat → Int32 → Int32 → (Nat → Int64) → Int32 → Int32
  | 0, _, _, _, _ => 0
  | n + 1, y1, y2, row, mr => (if y1 ≤ y2 then mr else (if (600 : Int32) ≤ y2 then mr else (if ((fX1_bit row y2)) = (1 : Int32) then (1 : Int32) else fX1_below_k2 n y1 ((y2 + (1 : Int32))) row mr)))
theorem fX1_below_k2_s (n : Nat) (y1 : Int32) (y2 : Int32) (row : (Nat → Int64)) (mr : Int32) : fX1_below_k2 (n + 1) y1 y2 row mr = (if y1 ≤ y2 then mr else (if (600 : Int32) ≤ y2 then mr else (if ((fX1_bit row y2)) = (1 : Int32) then (1 : Int32) else fX1_below_k2 n y1 ((y2 + (1 : Int32))) row mr))) := rfl
def fX1_below (row : (Nat → Int64)) (mr : Int32) (x1 : Int32) : Int32 := fX1_below_k2 601 x1 (0 : Int32) row mr
set_option maxHeartbeats 4000000 in
set_option maxRecDepth 100000 in
theorem ccX1_below (l : Launch) (D : va_G) (cJ : ClassId) (h0 h1 : Nat) (hne : h0 ≠ h1) (mo fl : Int32) (row : Nat → Int64) (ba mr ex : Int32) (x1 : Int32)  : Met l yX1_below wsX1_below { frames := 1, cells := 0, slots := 0, locals := 21 } (va_Pc [.ref h0, .int x1] (w1 D cJ h0 h1 mo fl row ba mr ex)) (vp_Si (fun r => r = fX1_below row mr x1)) 0 0 (fun _ => False) := by
  refine Met.ofW (cc := cX1_below) (maxL := 3) (ret := (some .boolean)) (by decide) rfl ?_
  intro p e s m args below meth c s₁ B hml hv
  obtain ⟨rfl, hP, hK, hmr⟩ := hv
  have hx := B.exec
  have hb := B.bytes
  have hr := B.returns
  have hts := atoms_spec (ws := wsX1_below) B.pre
  have hown : s.vm.findClass RX1 = some m.cls := findClass_of_methodNamed B.named
  have hlocks := B.notSynchronized
  have hin0 : ∀ w ∈ wsX10, w ∈ wsX1_below := fun _ h => List.mem_cons_of_mem _ (List.mem_append_right _ h)
  have hS : va_S (aw1 h0 h1) s.heap s.heap [] := va_S.rf
  have hP : va_P D vwCl (bw1 cJ h0 h1 mo fl row ba mr ex) s.heap := hP
  have hl := lv_entry ([.ref h0, .int x1]) (n := 3) (Nat.le_of_ble_eq_true rfl)
  rw [lg_entry_eq]
  generalize (lg_sl ([.ref h0, .int x1]) ++ List.replicate (3 - (lg_sl ([.ref h0, .int x1])).length) Slot.unset).toArray = ls at hl ⊢
  have hl : lv_has ls 3 [(0, .ref h0), (1, .int x1)] := hl
  have j_2 : ∀ (n : Nat) (y1 : Int32) (y2 : Int32) (ls : Array Slot), lv_has ls 3 [(0, .ref h0), (1, .int y1), (2, .int y2)] → asc 600 y2 n → fX1_below row mr x1 = fX1_below_k2 n y1 y2 row mr → W p l e (headSpec wsX1_below { frames := 1, cells := 0, slots := 0, locals := 21 }).room s m ([.ref h0, .int x1] : List Value).toArray below meth c s.heap [] 0 0 (MQ below (vp_Si (fun r => r = fX1_below row mr x1)) ([.ref h0, .int x1] : List Value).toArray s 0 0 (fun _ => False)) (F0 m 2 ls []) := by
    intro n
    induction n with
    | zero =>
      intro y1 y2 ls hl hM hE
      exact absurd hM asc_0
    | succ n ih =>
      intro y1 y2 ls hl hM hE
      replace hE := hE.trans (fX1_below_k2_s n y1 y2 row mr)
      refine lv_iload_n hx hb dX1_below_2 rfl (lv_at hl 2 rfl) ?_
      refine lv_iload_n hx hb dX1_below_3 rfl (lv_at hl 1 rfl) ?_
      refine lv_icmp_ge (tgt := 31) hx hb dX1_below_4 (by decide) (fun c_4 => ?_) (fun c_4 => ?_)
      · replace hE := hE.trans (if_pos c_4)
        refine lv_aload_n hx hb dX1_below_31 rfl (lv_at hl 0 rfl) ?_
        refine va_get (D := D) (ci := 1) (v := .int mr) (C := RX1) (T := TX1) (N := 6) hx hb hts hin0 hown hK hP 0 rfl rfl 4 (by decide) (hts (.fieldLink RX1 43 "RealBitsModel" "more" "Z") (by decide +kernel)) (fun _ h9 => h9) rfl dX1_below_32 ?_
        exact W.zret hx hb hr (isB_nar hmr) (fun t ht hW => ⟨_, rfl, hE.symm, ht⟩) (fun _ h => by cases h) dX1_below_35
      · replace hE := hE.trans (if_neg c_4)
        refine lv_iload_n hx hb dX1_below_7 rfl (lv_at hl 2 rfl) ?_
        refine lv_sipush (v := 600) hx hb dX1_below_8 (by decide) ?_
        refine lv_icmp_ge (tgt := 31) hx hb dX1_below_11 (by decide) (fun c_11 => ?_) (fun c_11 => ?_)
        · replace hE := hE.trans (if_pos c_11)
          refine lv_aload_n hx hb dX1_below_31 rfl (lv_at hl 0 rfl) ?_
          refine va_get (D := D) (ci := 1) (v := .int mr) (C := RX1) (T := TX1) (N := 6) hx hb hts hin0 hown hK hP 0 rfl rfl 4 (by decide) (hts (.fieldLink RX1 43 "RealBitsModel" "more" "Z") (by decide +kernel)) (fun _ h9 => h9) rfl dX1_below_32 ?_
          exact W.zret hx hb hr (isB_nar hmr) (fun t ht hW => ⟨_, rfl, hE.symm, ht⟩) (fun _ h => by cases h) dX1_below_35
        · replace hE := hE.trans (if_neg c_11)
          refine lv_aload_n hx hb dX1_below_14 rfl (lv_at hl 0 rfl) ?_
          refine lv_iload_n hx hb dX1_below_15 rfl (lv_at hl 2 rfl) ?_
          refine sc_i (W.runV (As := [.int y2]) (rest := []) ⟨hx, hb, hml, hown, hts⟩ (ccX1_bit l D cJ h0 h1 hne mo fl row ba mr ex y2 ) (cwV 1 hts gX1_below_X1_bit rfl rfl rfl (by decide +kernel) ⟨Nat.le_of_ble_eq_true rfl, Nat.le_of_ble_eq_true rfl⟩) (w1_pre hK hP hmr) rfl rfl hl.1 rfl (lv_room (Nat.le_of_ble_eq_true rfl)) dX1_below_16 ⟨Nat.zero_le _, Nat.zero_le _⟩) ?_
          refine lv_iconst (v := 1) hx hb dX1_below_19 (by decide) ?_
          refine lv_icmp_ne (tgt := 25) hx hb dX1_below_20 (by decide) (fun c_20 => ?_) (fun c_20 => ?_)
          · replace hE := hE.trans (if_neg c_20)
            refine lv_iinc (v := (y2 + (1 : Int32))) (lv' := [(2, .int (y2 + (1 : Int32))), (0, .ref h0), (1, .int y1)]) hx hb dX1_below_25 hl (k := 2) rfl rfl (by decide) rfl (fun ls hl => ?_)
            refine lv_goto (tgt := 2) hx hb dX1_below_28 (by decide) ?_
            exact ih y1 ((y2 + (1 : Int32))) _ (lv_sub hl [1, 2, 0] rfl)  (asc_step hM (by decide) (by decide) c_11) hE
          · replace hE := hE.trans (if_pos c_20)
            refine lv_iconst (v := 1) hx hb dX1_below_23 (by decide) ?_
            exact W.zret hx hb hr (isB_nar isB_1) (fun t ht hW => ⟨_, rfl, hE.symm, ht⟩) (fun _ h => by cases h) dX1_below_24
  have hE : fX1_below row mr x1 = fX1_below row mr x1 := rfl
  refine lv_iconst (v := 0) hx hb dX1_below_0 (by decide) ?_
  refine lv_istore_n (lv' := [(2, .int (0 : Int32)), (0, .ref h0), (1, .int x1)]) hx hb dX1_below_1 rfl hl (by decide) rfl (fun ls hl => ?_)
  exact j_2 601 x1 (0 : Int32) _ (lv_sub hl [1, 2, 0] rfl)  (asc_init 600) hE
/-! X1_rounded -/
def fX1_rounded_k156 (y3 : Int32) (z0 : Int32) (mo : Int32) (row : (Nat → Int64)) (mr : Int32) (vex : Int32) : Int32 × Int32 := (if z0 = 0 then (y3, vex) else ((y3 + (1 : Int32)), vex))
def fX1_rounded_k75 (y2 : Int32) (y3 : Int32) (y4 : Int32) (y5 : Int32) (z1 : Int32) (mo : Int32) (row : (Nat → Int64)) (mr : Int32) (vex : Int32) : Int32 × Int32 := (if z1 = 0 then (if mo = 0 then (if y4 = 0 then fX1_rounded_k156 y3 (0 : Int32) mo row mr z1 else (if y5 = 0 then (if ((y3 - y3 / (2 : Int32) * (2 : Int32))) = (1 : Int32) then fX1_rounded_k156 y3 (1 : Int32) mo row mr z1 else fX1_rounded_k156 y3 (0 : Int32) mo row mr z1) else fX1_rounded_k156 y3 (1 : Int32) mo row mr z1)) else (if mo = (2 : Int32) then (if y2 = 0 then fX1_rounded_k156 y3 (1 : Int32) mo row mr z1 else fX1_rounded_k156 y3 (0 : Int32) mo row mr z1) else (if mo = (3 : Int32) then (if y2 = 0 then fX1_rounded_k156 y3 (0 : Int32) mo row mr z1 else fX1_rounded_k156 y3 (1 : Int32) mo row mr z1) else fX1_rounded_k156 y3 (0 : Int32) mo row mr z1))) else (y3, z1))
def fX1_rounded_k59 (y2 : Int32) (y3 : Int32) (y4 : Int32) (y5 : Int32) (mo : Int32) (row : (Nat → Int64)) (mr : Int32) (vex : Int32) : Int32 × Int32 := (if y4 = 0 then (if y5 = 0 then fX1_rounded_k75 y2 y3 y4 y5 (1 : Int32) mo row mr vex else fX1_rounded_k75 y2 y3 y4 y5 (0 : Int32) mo row mr vex) else fX1_rounded_k75 y2 y3 y4 y5 (0 : Int32) mo row mr vex)
def fX1_rounded_k48 (y1 : Int32) (y2 : Int32) (y3 : Int32) (z0 : Int32) (mo : Int32) (row : (Nat → Int64)) (mr : Int32) (vex : Int32) : Int32 × Int32 := fX1_rounded_k59 y2 y3 z0 ((fX1_below row mr ((y1 - (1 : Int32))))) mo row mr vex
def fX1_rounded_k32 (y1 : Int32) (y2 : Int32) (y3 : Int32) (mo : Int32) (row : (Nat → Int64)) (mr : Int32) (vex : Int32) : Int32 × Int32 := (if ((fX1_bit row ((y1 - (1 : Int32))))) = (1 : Int32) then fX1_rounded_k48 y1 y2 y3 (1 : Int32) mo row mr vex else fX1_rounded_k48 y1 y2 y3 (0 : Int32) mo row mr vex)
def fX1_rounded_k5 : Nat → Int32 → Int32 → Int32 → Int32 → Int32 → (Nat → Int64) → Int32 → Int32 → Int32 × Int32
  | 0, _, _, _, _, _, _, _, _ => (0, 0)
  | n + 1, y1, y2, y3, y4, mo, row, mr, vex => (if (24 : Int32) ≤ y4 then fX1_rounded_k32 y1 y2 y3 mo row mr vex else fX1_rounded_k5 n y1 y2 ((y3 ||| ((((fX1_bit row ((y1 + y4)))) <<< (y4 &&& 31))))) ((y4 + (1 : Int32))) mo row mr vex)
theorem fX1_rounded_k5_s (n : Nat) (y1 : Int32) (y2 : Int32) (y3 : Int32) (y4 : Int32) (mo : Int32) (row : (Nat → Int64)) (mr : Int32) (vex : Int32) : fX1_rounded_k5 (n + 1) y1 y2 y3 y4 mo row mr vex = (if (24 : Int32) ≤ y4 then fX1_rounded_k32 y1 y2 y3 mo row mr vex else fX1_rounded_k5 n y1 y2 ((y3 ||| ((((fX1_bit row ((y1 + y4)))) <<< (y4 &&& 31))))) ((y4 + (1 : Int32))) mo row mr vex) := rfl
def fX1_rounded (mo : Int32) (row : (Nat → Int64)) (mr : Int32) (ex : Int32) (x1 : Int32) (x2 : Int32) : Int32 × Int32 := fX1_rounded_k5 25 x1 x2 (0 : Int32) (0 : Int32) mo row mr ex
set_option maxHeartbeats 4000000 in
set_option maxRecDepth 100000 in
theorem ccX1_rounded (l : Launch) (D : va_G) (cJ : ClassId) (h0 h1 : Nat) (hne : h0 ≠ h1) (mo fl : Int32) (row : Nat → Int64) (ba mr ex : Int32) (x1 : Int32) (x2 : Int32)  : Met l yX1_rounded wsX1_rounded { frames := 2, cells := 0, slots := 0, locals := 43 } (va_Pc [.ref h0, .int x1, .int x2] (w1 D cJ h0 h1 mo fl row ba mr ex)) (va_Qi (fun (r : Int32) (u : Int32) => (r, u) = fX1_rounded mo row mr ex x1 x2) (fun u t => w1 D cJ h0 h1 mo fl row ba mr u t) (aw1 h0 h1)) 0 0 (aw1 h0 h1) := by
  refine Met.ofW (cc := cX1_rounded) (maxL := 7) (ret := (some .int)) (by decide) rfl ?_
  intro p e s m args below meth c s₁ B hml hv
  obtain ⟨rfl, hP, hK, hmr⟩ := hv
  have hx := B.exec
  have hb := B.bytes
  have hr := B.returns
  have hts := atoms_spec (ws := wsX1_rounded) B.pre
  have hown : s.vm.findClass RX1 = some m.cls := findClass_of_methodNamed B.named
  have hlocks := B.notSynchronized
  have hin0 : ∀ w ∈ wsX10, w ∈ wsX1_rounded := fun _ h => List.mem_cons_of_mem _ (List.mem_append_right _ h)
  have hS : va_S (aw1 h0 h1) s.heap s.heap [] := va_S.rf
  have hP : va_P D vwCl (bw1 cJ h0 h1 mo fl row ba mr ex) s.heap := hP
  have hl := lv_entry ([.ref h0, .int x1, .int x2]) (n := 7) (Nat.le_of_ble_eq_true rfl)
  rw [lg_entry_eq]
  generalize (lg_sl ([.ref h0, .int x1, .int x2]) ++ List.replicate (7 - (lg_sl ([.ref h0, .int x1, .int x2])).length) Slot.unset).toArray = ls at hl ⊢
  have hl : lv_has ls 7 [(0, .ref h0), (1, .int x1), (2, .int x2)] := hl
  have j_156 : ∀ (y3 : Int32) (z0 : Int32) (vex : Int32) (H : Heap) (locs : List Loc) (ls : Array Slot), va_P D vwCl (bw1 cJ h0 h1 mo fl row ba mr vex) H → va_S (aw1 h0 h1) s.heap H locs → lv_has ls 7 [(3, .int y3)] → isB z0 → fX1_rounded mo row mr ex x1 x2 = fX1_rounded_k156 y3 z0 mo row mr vex → W p l e (headSpec wsX1_rounded { frames := 2, cells := 0, slots := 0, locals := 43 }).room s m ([.ref h0, .int x1, .int x2] : List Value).toArray below meth c H locs 0 0 (MQ below (va_Qi (fun (r : Int32) (u : Int32) => (r, u) = fX1_rounded mo row mr ex x1 x2) (fun u t => w1 D cJ h0 h1 mo fl row ba mr u t) (aw1 h0 h1)) ([.ref h0, .int x1, .int x2] : List Value).toArray s 0 0 (aw1 h0 h1)) (F0 m 156 ls [.int z0]) := by
    intro y3 z0 vex H locs ls hP hS hl b_z0 hE
    refine lv_istore (lv' := [(6, .int z0), (3, .int y3)]) hx hb dX1_rounded_156 hl (by decide) rfl (fun ls hl => ?_)
    refine lv_iload hx hb dX1_rounded_158 (lv_at hl 0 rfl) ?_
    refine lv_if_eq (tgt := 169) hx hb dX1_rounded_160 (by decide) (fun c_160 => ?_) (fun c_160 => ?_)
    · replace hE := hE.trans (if_pos c_160)
      refine lv_iload_n hx hb dX1_rounded_169 rfl (lv_at hl 1 rfl) ?_
      exact W.iret hx hb hr (fun t ht hW => ⟨⟨_, vex, rfl, hE.symm, by rw [ht]; exact hP, va_K.moved hW.alike hK, hmr⟩, hS.F ht⟩) hS.2.2 dX1_rounded_170
    · replace hE := hE.trans (if_neg c_160)
      refine lv_iload_n hx hb dX1_rounded_163 rfl (lv_at hl 1 rfl) ?_
      refine lv_iconst (v := 1) hx hb dX1_rounded_164 (by decide) ?_
      refine lv_iadd hx hb dX1_rounded_165 ?_
      refine lv_goto (tgt := 170) hx hb dX1_rounded_166 (by decide) ?_
      exact W.iret hx hb hr (fun t ht hW => ⟨⟨_, vex, rfl, hE.symm, by rw [ht]; exact hP, va_K.moved hW.alike hK, hmr⟩, hS.F ht⟩) hS.2.2 dX1_rounded_170
  have j_75 : ∀ (y2 : Int32) (y3 : Int32) (y4 : Int32) (y5 : Int32) (z1 : Int32) (vex : Int32) (H : Heap) (locs : List Loc) (ls : Array Slot), va_P D vwCl (bw1 cJ h0 h1 mo fl row ba mr vex) H → va_S (aw1 h0 h1) s.heap H locs → lv_has ls 7 [(0, .ref h0), (2, .int y2), (3, .int y3), (4, .int y4), (5, .int y5)] → isB y4 → isB z1 → fX1_rounded mo row mr ex x1 x2 = fX1_rounded_k75 y2 y3 y4 y5 z1 mo row mr vex → W p l e (headSpec wsX1_rounded { frames := 2, cells := 0, slots := 0, locals := 43 }).room s m ([.ref h0, .int x1, .int x2] : List Value).toArray below meth c H locs 0 0 (MQ below (va_Qi (fun (r : Int32) (u : Int32) => (r, u) = fX1_rounded mo row mr ex x1 x2) (fun u t => w1 D cJ h0 h1 mo fl row ba mr u t) (aw1 h0 h1)) ([.ref h0, .int x1, .int x2] : List Value).toArray s 0 0 (aw1 h0 h1)) (F0 m 75 ls [.int z1, .ref h0]) := by
    intro y2 y3 y4 y5 z1 vex H locs ls hP hS hl b_y4 b_z1 hE
    refine va_put (D := D) (ci := 1) (v := .int z1) (ty := .boolean) (C := RX1) (T := TX1) (N := 6) hx hb hts hin0 tyX1 tyX1_ok nmX1 hown hK hP (dw1 hne) hS 0 rfl rfl 5 (by decide) (hts (.fieldLink RX1 60 "RealBitsModel" "exact" "Z") (by decide +kernel)) (fun _ h9 => h9) rfl (by decide +kernel) (isB_nar b_z1) (isB_fit b_z1) (Nat.le_of_ble_eq_true rfl) dX1_rounded_75 (fun H locs hP _ hS => ?_)
    have hP : va_P D vwCl (bw1 cJ h0 h1 mo fl row ba mr z1) H := hP
    refine lv_aload_n hx hb dX1_rounded_78 rfl (lv_at hl 0 rfl) ?_
    refine va_get (D := D) (ci := 1) (v := .int z1) (C := RX1) (T := TX1) (N := 6) hx hb hts hin0 hown hK hP 0 rfl rfl 5 (by decide) (hts (.fieldLink RX1 60 "RealBitsModel" "exact" "Z") (by decide +kernel)) (fun _ h9 => h9) rfl dX1_rounded_79 ?_
    refine lv_if_eq (tgt := 87) hx hb dX1_rounded_82 (by decide) (fun c_82 => ?_) (fun c_82 => ?_)
    · replace hE := hE.trans (if_pos c_82)
      refine lv_aload_n hx hb dX1_rounded_87 rfl (lv_at hl 0 rfl) ?_
      refine va_get (D := D) (ci := 1) (v := .int mo) (C := RX1) (T := TX1) (N := 6) hx hb hts hin0 hown hK hP 0 rfl rfl 0 (by decide) (hts (.fieldLink RX1 13 "RealBitsModel" "mode" "I") (by decide +kernel)) (fun _ h9 => h9) rfl dX1_rounded_88 ?_
      refine lv_if_ne (tgt := 119) hx hb dX1_rounded_91 (by decide) (fun c_91 => ?_) (fun c_91 => ?_)
      · replace hE := hE.trans (if_neg c_91)
        refine lv_aload_n hx hb dX1_rounded_119 rfl (lv_at hl 0 rfl) ?_
        refine va_get (D := D) (ci := 1) (v := .int mo) (C := RX1) (T := TX1) (N := 6) hx hb hts hin0 hown hK hP 0 rfl rfl 0 (by decide) (hts (.fieldLink RX1 13 "RealBitsModel" "mode" "I") (by decide +kernel)) (fun _ h9 => h9) rfl dX1_rounded_120 ?_
        refine lv_iconst (v := 2) hx hb dX1_rounded_123 (by decide) ?_
        refine lv_icmp_ne (tgt := 139) hx hb dX1_rounded_124 (by decide) (fun c_124 => ?_) (fun c_124 => ?_)
        · replace hE := hE.trans (if_neg c_124)
          refine lv_aload_n hx hb dX1_rounded_139 rfl (lv_at hl 0 rfl) ?_
          refine va_get (D := D) (ci := 1) (v := .int mo) (C := RX1) (T := TX1) (N := 6) hx hb hts hin0 hown hK hP 0 rfl rfl 0 (by decide) (hts (.fieldLink RX1 13 "RealBitsModel" "mode" "I") (by decide +kernel)) (fun _ h9 => h9) rfl dX1_rounded_140 ?_
          refine lv_iconst (v := 3) hx hb dX1_rounded_143 (by decide) ?_
          refine lv_icmp_ne (tgt := 155) hx hb dX1_rounded_144 (by decide) (fun c_144 => ?_) (fun c_144 => ?_)
          · replace hE := hE.trans (if_neg c_144)
            refine lv_iconst (v := 0) hx hb dX1_rounded_155 (by decide) ?_
            exact j_156 y3 (0 : Int32) z1 _ _ _ hP hS (lv_sub hl [2] rfl) isB_0 hE
          · replace hE := hE.trans (if_pos c_144)
            refine lv_iload_n hx hb dX1_rounded_147 rfl (lv_at hl 1 rfl) ?_
            refine lv_if_eq (tgt := 155) hx hb dX1_rounded_148 (by decide) (fun c_148 => ?_) (fun c_148 => ?_)
            · replace hE := hE.trans (if_pos c_148)
              refine lv_iconst (v := 0) hx hb dX1_rounded_155 (by decide) ?_
              exact j_156 y3 (0 : Int32) z1 _ _ _ hP hS (lv_sub hl [2] rfl) isB_0 hE
            · replace hE := hE.trans (if_neg c_148)
              refine lv_iconst (v := 1) hx hb dX1_rounded_151 (by decide) ?_
              refine lv_goto (tgt := 156) hx hb dX1_rounded_152 (by decide) ?_
              exact j_156 y3 (1 : Int32) z1 _ _ _ hP hS (lv_sub hl [2] rfl) isB_1 hE
        · replace hE := hE.trans (if_pos c_124)
          refine lv_iload_n hx hb dX1_rounded_127 rfl (lv_at hl 1 rfl) ?_
          refine lv_if_ne (tgt := 135) hx hb dX1_rounded_128 (by decide) (fun c_128 => ?_) (fun c_128 => ?_)
          · replace hE := hE.trans (if_neg c_128)
            refine lv_iconst (v := 0) hx hb dX1_rounded_135 (by decide) ?_
            refine lv_goto (tgt := 156) hx hb dX1_rounded_136 (by decide) ?_
            exact j_156 y3 (0 : Int32) z1 _ _ _ hP hS (lv_sub hl [2] rfl) isB_0 hE
          · replace hE := hE.trans (if_pos c_128)
            refine lv_iconst (v := 1) hx hb dX1_rounded_131 (by decide) ?_
            refine lv_goto (tgt := 156) hx hb dX1_rounded_132 (by decide) ?_
            exact j_156 y3 (1 : Int32) z1 _ _ _ hP hS (lv_sub hl [2] rfl) isB_1 hE
      · replace hE := hE.trans (if_pos c_91)
        refine lv_iload hx hb dX1_rounded_94 (lv_at hl 3 rfl) ?_
        refine lv_if_eq (tgt := 115) hx hb dX1_rounded_96 (by decide) (fun c_96 => ?_) (fun c_96 => ?_)
        · replace hE := hE.trans (if_pos c_96)
          refine lv_iconst (v := 0) hx hb dX1_rounded_115 (by decide) ?_
          refine lv_goto (tgt := 156) hx hb dX1_rounded_116 (by decide) ?_
          exact j_156 y3 (0 : Int32) z1 _ _ _ hP hS (lv_sub hl [2] rfl) isB_0 hE
        · replace hE := hE.trans (if_neg c_96)
          refine lv_iload hx hb dX1_rounded_99 (lv_at hl 4 rfl) ?_
          refine lv_if_ne (tgt := 111) hx hb dX1_rounded_101 (by decide) (fun c_101 => ?_) (fun c_101 => ?_)
          · replace hE := hE.trans (if_neg c_101)
            refine lv_iconst (v := 1) hx hb dX1_rounded_111 (by decide) ?_
            refine lv_goto (tgt := 156) hx hb dX1_rounded_112 (by decide) ?_
            exact j_156 y3 (1 : Int32) z1 _ _ _ hP hS (lv_sub hl [2] rfl) isB_1 hE
          · replace hE := hE.trans (if_pos c_101)
            refine lv_iload_n hx hb dX1_rounded_104 rfl (lv_at hl 2 rfl) ?_
            refine lv_iconst (v := 2) hx hb dX1_rounded_105 (by decide) ?_
            refine lv_irem hx hb dX1_rounded_106 (by decide) ?_
            refine lv_iconst (v := 1) hx hb dX1_rounded_107 (by decide) ?_
            refine lv_icmp_ne (tgt := 115) hx hb dX1_rounded_108 (by decide) (fun c_108 => ?_) (fun c_108 => ?_)
            · replace hE := hE.trans (if_neg c_108)
              refine lv_iconst (v := 0) hx hb dX1_rounded_115 (by decide) ?_
              refine lv_goto (tgt := 156) hx hb dX1_rounded_116 (by decide) ?_
              exact j_156 y3 (0 : Int32) z1 _ _ _ hP hS (lv_sub hl [2] rfl) isB_0 hE
            · replace hE := hE.trans (if_pos c_108)
              refine lv_iconst (v := 1) hx hb dX1_rounded_111 (by decide) ?_
              refine lv_goto (tgt := 156) hx hb dX1_rounded_112 (by decide) ?_
              exact j_156 y3 (1 : Int32) z1 _ _ _ hP hS (lv_sub hl [2] rfl) isB_1 hE
    · replace hE := hE.trans (if_neg c_82)
      refine lv_iload_n hx hb dX1_rounded_85 rfl (lv_at hl 2 rfl) ?_
      exact W.iret hx hb hr (fun t ht hW => ⟨⟨_, z1, rfl, hE.symm, by rw [ht]; exact hP, va_K.moved hW.alike hK, hmr⟩, hS.F ht⟩) hS.2.2 dX1_rounded_86
  have j_48 : ∀ (y1 : Int32) (y2 : Int32) (y3 : Int32) (z0 : Int32) (vex : Int32) (H : Heap) (locs : List Loc) (ls : Array Slot), va_P D vwCl (bw1 cJ h0 h1 mo fl row ba mr vex) H → va_S (aw1 h0 h1) s.heap H locs → lv_has ls 7 [(0, .ref h0), (1, .int y1), (2, .int y2), (3, .int y3)] → isB z0 → fX1_rounded mo row mr ex x1 x2 = fX1_rounded_k48 y1 y2 y3 z0 mo row mr vex → W p l e (headSpec wsX1_rounded { frames := 2, cells := 0, slots := 0, locals := 43 }).room s m ([.ref h0, .int x1, .int x2] : List Value).toArray below meth c H locs 0 0 (MQ below (va_Qi (fun (r : Int32) (u : Int32) => (r, u) = fX1_rounded mo row mr ex x1 x2) (fun u t => w1 D cJ h0 h1 mo fl row ba mr u t) (aw1 h0 h1)) ([.ref h0, .int x1, .int x2] : List Value).toArray s 0 0 (aw1 h0 h1)) (F0 m 48 ls [.int z0]) := by
    intro y1 y2 y3 z0 vex H locs ls hP hS hl b_z0 hE
    refine lv_istore (lv' := [(4, .int z0), (0, .ref h0), (1, .int y1), (2, .int y2), (3, .int y3)]) hx hb dX1_rounded_48 hl (by decide) rfl (fun ls hl => ?_)
    refine lv_aload_n hx hb dX1_rounded_50 rfl (lv_at hl 1 rfl) ?_
    refine lv_iload_n hx hb dX1_rounded_51 rfl (lv_at hl 2 rfl) ?_
    refine lv_iconst (v := 1) hx hb dX1_rounded_52 (by decide) ?_
    refine lv_isub hx hb dX1_rounded_53 ?_
    refine sc_i (W.runV (As := [.int (y1 - (1 : Int32))]) (rest := []) ⟨hx, hb, hml, hown, hts⟩ (ccX1_below l D cJ h0 h1 hne mo fl row ba mr vex ((y1 - (1 : Int32))) ) (cwV 1 hts gX1_rounded_X1_below rfl rfl rfl (by decide +kernel) ⟨Nat.le_of_ble_eq_true rfl, Nat.le_of_ble_eq_true rfl⟩) (w1_pre hK hP hmr) rfl rfl hl.1 rfl (lv_room (Nat.le_of_ble_eq_true rfl)) dX1_rounded_54 ⟨Nat.zero_le _, Nat.zero_le _⟩) ?_
    refine lv_topi (fun x5_57 e_57 => ?_)
    refine lv_istore (lv' := [(5, .int x5_57), (4, .int z0), (0, .ref h0), (1, .int y1), (2, .int y2), (3, .int y3)]) hx hb dX1_rounded_57 hl (by decide) rfl (fun ls hl => ?_)
    replace hE : fX1_rounded mo row mr ex x1 x2 = fX1_rounded_k59 y2 y3 z0 x5_57 mo row mr vex := by rw [e_57]; exact hE
    refine lv_aload_n hx hb dX1_rounded_59 rfl (lv_at hl 2 rfl) ?_
    refine lv_iload hx hb dX1_rounded_60 (lv_at hl 1 rfl) ?_
    refine lv_if_ne (tgt := 74) hx hb dX1_rounded_62 (by decide) (fun c_62 => ?_) (fun c_62 => ?_)
    · replace hE := hE.trans (if_neg c_62)
      refine lv_iconst (v := 0) hx hb dX1_rounded_74 (by decide) ?_
      exact j_75 y2 y3 z0 x5_57 (0 : Int32) vex _ _ _ hP hS (lv_sub hl [2, 4, 5, 1, 0] rfl) b_z0 isB_0 hE
    · replace hE := hE.trans (if_pos c_62)
      refine lv_iload hx hb dX1_rounded_65 (lv_at hl 0 rfl) ?_
      refine lv_if_ne (tgt := 74) hx hb dX1_rounded_67 (by decide) (fun c_67 => ?_) (fun c_67 => ?_)
      · replace hE := hE.trans (if_neg c_67)
        refine lv_iconst (v := 0) hx hb dX1_rounded_74 (by decide) ?_
        exact j_75 y2 y3 z0 x5_57 (0 : Int32) vex _ _ _ hP hS (lv_sub hl [2, 4, 5, 1, 0] rfl) b_z0 isB_0 hE
      · replace hE := hE.trans (if_pos c_67)
        refine lv_iconst (v := 1) hx hb dX1_rounded_70 (by decide) ?_
        refine lv_goto (tgt := 75) hx hb dX1_rounded_71 (by decide) ?_
        exact j_75 y2 y3 z0 x5_57 (1 : Int32) vex _ _ _ hP hS (lv_sub hl [2, 4, 5, 1, 0] rfl) b_z0 isB_1 hE
  have j_32 : ∀ (y1 : Int32) (y2 : Int32) (y3 : Int32) (vex : Int32) (H : Heap) (locs : List Loc) (ls : Array Slot), va_P D vwCl (bw1 cJ h0 h1 mo fl row ba mr vex) H → va_S (aw1 h0 h1) s.heap H locs → lv_has ls 7 [(0, .ref h0), (1, .int y1), (2, .int y2), (3, .int y3)] → fX1_rounded mo row mr ex x1 x2 = fX1_rounded_k32 y1 y2 y3 mo row mr vex → W p l e (headSpec wsX1_rounded { frames := 2, cells := 0, slots := 0, locals := 43 }).room s m ([.ref h0, .int x1, .int x2] : List Value).toArray below meth c H locs 0 0 (MQ below (va_Qi (fun (r : Int32) (u : Int32) => (r, u) = fX1_rounded mo row mr ex x1 x2) (fun u t => w1 D cJ h0 h1 mo fl row ba mr u t) (aw1 h0 h1)) ([.ref h0, .int x1, .int x2] : List Value).toArray s 0 0 (aw1 h0 h1)) (F0 m 32 ls []) := by
    intro y1 y2 y3 vex H locs ls hP hS hl hE
    refine lv_aload_n hx hb dX1_rounded_32 rfl (lv_at hl 0 rfl) ?_
    refine lv_iload_n hx hb dX1_rounded_33 rfl (lv_at hl 1 rfl) ?_
    refine lv_iconst (v := 1) hx hb dX1_rounded_34 (by decide) ?_
    refine lv_isub hx hb dX1_rounded_35 ?_
    refine sc_i (W.runV (As := [.int (y1 - (1 : Int32))]) (rest := []) ⟨hx, hb, hml, hown, hts⟩ (ccX1_bit l D cJ h0 h1 hne mo fl row ba mr vex ((y1 - (1 : Int32))) ) (cwV 1 hts gX1_rounded_X1_bit rfl rfl rfl (by decide +kernel) ⟨Nat.le_of_ble_eq_true rfl, Nat.le_of_ble_eq_true rfl⟩) (w1_pre hK hP hmr) rfl rfl hl.1 rfl (lv_room (Nat.le_of_ble_eq_true rfl)) dX1_rounded_36 ⟨Nat.zero_le _, Nat.zero_le _⟩) ?_
    refine lv_iconst (v := 1) hx hb dX1_rounded_39 (by decide) ?_
    refine lv_icmp_ne (tgt := 47) hx hb dX1_rounded_40 (by decide) (fun c_40 => ?_) (fun c_40 => ?_)
    · replace hE := hE.trans (if_neg c_40)
      refine lv_iconst (v := 0) hx hb dX1_rounded_47 (by decide) ?_
      exact j_48 y1 y2 y3 (0 : Int32) vex _ _ _ hP hS (lv_sub hl [0, 1, 2, 3] rfl) isB_0 hE
    · replace hE := hE.trans (if_pos c_40)
      refine lv_iconst (v := 1) hx hb dX1_rounded_43 (by decide) ?_
      refine lv_goto (tgt := 48) hx hb dX1_rounded_44 (by decide) ?_
      exact j_48 y1 y2 y3 (1 : Int32) vex _ _ _ hP hS (lv_sub hl [0, 1, 2, 3] rfl) isB_1 hE
  have j_5 : ∀ (n : Nat) (y1 : Int32) (y2 : Int32) (y3 : Int32) (y4 : Int32) (vex : Int32) (H : Heap) (locs : List Loc) (ls : Array Slot), va_P D vwCl (bw1 cJ h0 h1 mo fl row ba mr vex) H → va_S (aw1 h0 h1) s.heap H locs → lv_has ls 7 [(0, .ref h0), (1, .int y1), (2, .int y2), (3, .int y3), (4, .int y4)] → asc 24 y4 n → fX1_rounded mo row mr ex x1 x2 = fX1_rounded_k5 n y1 y2 y3 y4 mo row mr vex → W p l e (headSpec wsX1_rounded { frames := 2, cells := 0, slots := 0, locals := 43 }).room s m ([.ref h0, .int x1, .int x2] : List Value).toArray below meth c H locs 0 0 (MQ below (va_Qi (fun (r : Int32) (u : Int32) => (r, u) = fX1_rounded mo row mr ex x1 x2) (fun u t => w1 D cJ h0 h1 mo fl row ba mr u t) (aw1 h0 h1)) ([.ref h0, .int x1, .int x2] : List Value).toArray s 0 0 (aw1 h0 h1)) (F0 m 5 ls []) := by
    intro n
    induction n with
    | zero =>
      intro y1 y2 y3 y4 vex H locs ls hP hS hl hM hE
      exact absurd hM asc_0
    | succ n ih =>
      intro y1 y2 y3 y4 vex H locs ls hP hS hl hM hE
      replace hE := hE.trans (fX1_rounded_k5_s n y1 y2 y3 y4 mo row mr vex)
      refine lv_iload hx hb dX1_rounded_5 (lv_at hl 4 rfl) ?_
      refine lv_bipush (v := 24) hx hb dX1_rounded_7 (by decide) ?_
      refine lv_icmp_ge (tgt := 32) hx hb dX1_rounded_9 (by decide) (fun c_9 => ?_) (fun c_9 => ?_)
      · replace hE := hE.trans (if_pos c_9)
        exact j_32 y1 y2 y3 vex _ _ _ hP hS (lv_sub hl [0, 1, 2, 3] rfl)  hE
      · replace hE := hE.trans (if_neg c_9)
        refine lv_iload_n hx hb dX1_rounded_12 rfl (lv_at hl 3 rfl) ?_
        refine lv_aload_n hx hb dX1_rounded_13 rfl (lv_at hl 0 rfl) ?_
        refine lv_iload_n hx hb dX1_rounded_14 rfl (lv_at hl 1 rfl) ?_
        refine lv_iload hx hb dX1_rounded_15 (lv_at hl 4 rfl) ?_
        refine lv_iadd hx hb dX1_rounded_17 ?_
        refine sc_i (W.runV (As := [.int (y1 + y4)]) (rest := [.int y3]) ⟨hx, hb, hml, hown, hts⟩ (ccX1_bit l D cJ h0 h1 hne mo fl row ba mr vex ((y1 + y4)) ) (cwV 1 hts gX1_rounded_X1_bit rfl rfl rfl (by decide +kernel) ⟨Nat.le_of_ble_eq_true rfl, Nat.le_of_ble_eq_true rfl⟩) (w1_pre hK hP hmr) rfl rfl hl.1 rfl (lv_room (Nat.le_of_ble_eq_true rfl)) dX1_rounded_18 ⟨Nat.zero_le _, Nat.zero_le _⟩) ?_
        refine lv_iload hx hb dX1_rounded_21 (lv_at hl 4 rfl) ?_
        refine lv_ishl hx hb dX1_rounded_23 ?_
        refine lv_ior hx hb dX1_rounded_24 ?_
        refine lv_istore_n (lv' := [(3, .int (y3 ||| ((((fX1_bit row ((y1 + y4)))) <<< (y4 &&& 31))))), (0, .ref h0), (1, .int y1), (2, .int y2), (4, .int y4)]) hx hb dX1_rounded_25 rfl hl (by decide) rfl (fun ls hl => ?_)
        refine lv_iinc (v := (y4 + (1 : Int32))) (lv' := [(4, .int (y4 + (1 : Int32))), (3, .int (y3 ||| ((((fX1_bit row ((y1 + y4)))) <<< (y4 &&& 31))))), (0, .ref h0), (1, .int y1), (2, .int y2)]) hx hb dX1_rounded_26 hl (k := 4) rfl rfl (by decide) rfl (fun ls hl => ?_)
        refine lv_goto (tgt := 5) hx hb dX1_rounded_29 (by decide) ?_
        exact ih y1 y2 ((y3 ||| ((((fX1_bit row ((y1 + y4)))) <<< (y4 &&& 31))))) ((y4 + (1 : Int32))) vex _ _ _ hP hS (lv_sub hl [2, 3, 4, 1, 0] rfl)  (asc_step hM (by decide) (by decide) c_9) hE
  have hE : fX1_rounded mo row mr ex x1 x2 = fX1_rounded mo row mr ex x1 x2 := rfl
  refine lv_iconst (v := 0) hx hb dX1_rounded_0 (by decide) ?_
  refine lv_istore_n (lv' := [(3, .int (0 : Int32)), (0, .ref h0), (1, .int x1), (2, .int x2)]) hx hb dX1_rounded_1 rfl hl (by decide) rfl (fun ls hl => ?_)
  refine lv_iconst (v := 0) hx hb dX1_rounded_2 (by decide) ?_
  refine lv_istore (lv' := [(4, .int (0 : Int32)), (3, .int (0 : Int32)), (0, .ref h0), (1, .int x1), (2, .int x2)]) hx hb dX1_rounded_3 hl (by decide) rfl (fun ls hl => ?_)
  exact j_5 25 x1 x2 (0 : Int32) (0 : Int32) ex _ _ _ hP hS (lv_sub hl [2, 3, 4, 1, 0] rfl)  (asc_init 24) hE
/-! X1_zero -/
def fX1_zero_k29 (z0 : Int32) (z1 : Int32) (mo : Int32) : Int32 := (fX1_signed z0 z1)
def fX1_zero_k15 (mo : Int32) : Int32 := (if mo = (3 : Int32) then fX1_zero_k29 (0 : Int32) (1 : Int32) mo else fX1_zero_k29 (0 : Int32) (0 : Int32) mo)
def fX1_zero (mo : Int32) (x1 : Int32) (x2 : Int32) (x3 : Int32) : Int32 := (if x1 = 0 then fX1_zero_k15 mo else (if x2 = x3 then (fX1_signed (0 : Int32) x2) else fX1_zero_k15 mo))
set_option maxHeartbeats 4000000 in
set_option maxRecDepth 100000 in
theorem ccX1_zero (l : Launch) (D : va_G) (cJ : ClassId) (h0 h1 : Nat) (hne : h0 ≠ h1) (mo fl : Int32) (row : Nat → Int64) (ba mr ex : Int32) (x1 : Int32) (x2 : Int32) (x3 : Int32)  : Met l yX1_zero wsX1_zero { frames := 1, cells := 0, slots := 0, locals := 21 } (va_Pc [.ref h0, .int x1, .int x2, .int x3] (w1 D cJ h0 h1 mo fl row ba mr ex)) (vp_Si (fun r => r = fX1_zero mo x1 x2 x3)) 0 0 (fun _ => False) := by
  refine Met.ofW (cc := cX1_zero) (maxL := 4) (ret := (some .int)) (by decide) rfl ?_
  intro p e s m args below meth c s₁ B hml hv
  obtain ⟨rfl, hP, hK, hmr⟩ := hv
  have hx := B.exec
  have hb := B.bytes
  have hr := B.returns
  have hts := atoms_spec (ws := wsX1_zero) B.pre
  have hown : s.vm.findClass RX1 = some m.cls := findClass_of_methodNamed B.named
  have hlocks := B.notSynchronized
  have hin0 : ∀ w ∈ wsX10, w ∈ wsX1_zero := fun _ h => List.mem_cons_of_mem _ (List.mem_append_right _ h)
  have hS : va_S (aw1 h0 h1) s.heap s.heap [] := va_S.rf
  have hP : va_P D vwCl (bw1 cJ h0 h1 mo fl row ba mr ex) s.heap := hP
  have hl := lv_entry ([.ref h0, .int x1, .int x2, .int x3]) (n := 4) (Nat.le_of_ble_eq_true rfl)
  rw [lg_entry_eq]
  generalize (lg_sl ([.ref h0, .int x1, .int x2, .int x3]) ++ List.replicate (4 - (lg_sl ([.ref h0, .int x1, .int x2, .int x3])).length) Slot.unset).toArray = ls at hl ⊢
  have hl : lv_has ls 4 [(0, .ref h0), (1, .int x1), (2, .int x2), (3, .int x3)] := hl
  have j_29 : ∀ (z0 : Int32) (z1 : Int32) (ls : Array Slot), lv_has ls 4 [] → isB z0 → isB z1 → fX1_zero mo x1 x2 x3 = fX1_zero_k29 z0 z1 mo → W p l e (headSpec wsX1_zero { frames := 1, cells := 0, slots := 0, locals := 21 }).room s m ([.ref h0, .int x1, .int x2, .int x3] : List Value).toArray below meth c s.heap [] 0 0 (MQ below (vp_Si (fun r => r = fX1_zero mo x1 x2 x3)) ([.ref h0, .int x1, .int x2, .int x3] : List Value).toArray s 0 0 (fun _ => False)) (F0 m 29 ls [.int z1, .int z0]) := by
    intro z0 z1 ls hl b_z0 b_z1 hE
    refine sc_i (W.runS (As := [.int z0, .int z1]) (rest := []) ⟨hx, hb, hml, hown, hts⟩ (ccX1_signed l z0 z1 ) (va_cwS 2 hts gX1_zero_X1_signed rfl rfl rfl (by decide +kernel) ⟨Nat.le_of_ble_eq_true rfl, Nat.le_of_ble_eq_true rfl⟩) st_pre rfl rfl hl.1 rfl (lv_room (Nat.le_of_ble_eq_true rfl)) dX1_zero_29 ⟨Nat.zero_le _, Nat.zero_le _⟩) ?_
    exact W.iret hx hb hr (fun t ht hW => ⟨_, rfl, hE.symm, ht⟩) (fun _ h => by cases h) dX1_zero_32
  have j_15 : ∀ (ls : Array Slot), lv_has ls 4 [(0, .ref h0)] → fX1_zero mo x1 x2 x3 = fX1_zero_k15 mo → W p l e (headSpec wsX1_zero { frames := 1, cells := 0, slots := 0, locals := 21 }).room s m ([.ref h0, .int x1, .int x2, .int x3] : List Value).toArray below meth c s.heap [] 0 0 (MQ below (vp_Si (fun r => r = fX1_zero mo x1 x2 x3)) ([.ref h0, .int x1, .int x2, .int x3] : List Value).toArray s 0 0 (fun _ => False)) (F0 m 15 ls []) := by
    intro ls hl hE
    refine lv_iconst (v := 0) hx hb dX1_zero_15 (by decide) ?_
    refine lv_aload_n hx hb dX1_zero_16 rfl (lv_at hl 0 rfl) ?_
    refine va_get (D := D) (ci := 1) (v := .int mo) (C := RX1) (T := TX1) (N := 6) hx hb hts hin0 hown hK hP 0 rfl rfl 0 (by decide) (hts (.fieldLink RX1 13 "RealBitsModel" "mode" "I") (by decide +kernel)) (fun _ h9 => h9) rfl dX1_zero_17 ?_
    refine lv_iconst (v := 3) hx hb dX1_zero_20 (by decide) ?_
    refine lv_icmp_ne (tgt := 28) hx hb dX1_zero_21 (by decide) (fun c_21 => ?_) (fun c_21 => ?_)
    · replace hE := hE.trans (if_neg c_21)
      refine lv_iconst (v := 0) hx hb dX1_zero_28 (by decide) ?_
      exact j_29 (0 : Int32) (0 : Int32) _ (lv_sub hl [] rfl) isB_0 isB_0 hE
    · replace hE := hE.trans (if_pos c_21)
      refine lv_iconst (v := 1) hx hb dX1_zero_24 (by decide) ?_
      refine lv_goto (tgt := 29) hx hb dX1_zero_25 (by decide) ?_
      exact j_29 (0 : Int32) (1 : Int32) _ (lv_sub hl [] rfl) isB_0 isB_1 hE
  have hE : fX1_zero mo x1 x2 x3 = fX1_zero mo x1 x2 x3 := rfl
  refine lv_iload_n hx hb dX1_zero_0 rfl (lv_at hl 1 rfl) ?_
  refine lv_if_eq (tgt := 15) hx hb dX1_zero_1 (by decide) (fun c_1 => ?_) (fun c_1 => ?_)
  · replace hE := hE.trans (if_pos c_1)
    exact j_15  _ (lv_sub hl [0] rfl)  hE
  · replace hE := hE.trans (if_neg c_1)
    refine lv_iload_n hx hb dX1_zero_4 rfl (lv_at hl 2 rfl) ?_
    refine lv_iload_n hx hb dX1_zero_5 rfl (lv_at hl 3 rfl) ?_
    refine lv_icmp_ne (tgt := 15) hx hb dX1_zero_6 (by decide) (fun c_6 => ?_) (fun c_6 => ?_)
    · replace hE := hE.trans (if_neg c_6)
      exact j_15  _ (lv_sub hl [0] rfl)  hE
    · replace hE := hE.trans (if_pos c_6)
      refine lv_iconst (v := 0) hx hb dX1_zero_9 (by decide) ?_
      refine lv_iload_n hx hb dX1_zero_10 rfl (lv_at hl 2 rfl) ?_
      refine sc_i (W.runS (As := [.int (0 : Int32), .int x2]) (rest := []) ⟨hx, hb, hml, hown, hts⟩ (ccX1_signed l (0 : Int32) x2 ) (va_cwS 2 hts gX1_zero_X1_signed rfl rfl rfl (by decide +kernel) ⟨Nat.le_of_ble_eq_true rfl, Nat.le_of_ble_eq_true rfl⟩) st_pre rfl rfl hl.1 rfl (lv_room (Nat.le_of_ble_eq_true rfl)) dX1_zero_11 ⟨Nat.zero_le _, Nat.zero_le _⟩) ?_
      exact W.iret hx hb hr (fun t ht hW => ⟨_, rfl, hE.symm, ht⟩) (fun _ h => by cases h) dX1_zero_14
