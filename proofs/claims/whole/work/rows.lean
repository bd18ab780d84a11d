section
-- ===== PART A: goes FIRST, ahead of the names: the tables' words, and 'selects' of the private methods out of them =====
/-- a private method of a class that the tables say can be made, by its rows of tables_1 -/
def lw_okq (q : MethodName × Nat) : Prop := (q.1.cls ≠ "java/lang/invoke/MethodHandle" ∧ q.1.cls ≠ "java/lang/invoke/VarHandle") ∧ Cond.instantiable q.1.cls q.2 ∈ tables_1 ∧ Cond.privateMethod q.1 ∈ tables_1 ∧ Cond.instanceMethod q.1 ∈ tables_1
theorem lw_p0 : lw_okq (⟨"RealBits", "productPlus", "(III)I"⟩, 2) := ⟨⟨by decide +kernel, by decide +kernel⟩, List.mem_of_getElem? (i := 7) (by decide +kernel), List.mem_of_getElem? (i := 43) (by decide +kernel), List.mem_of_getElem? (i := 44) (by decide +kernel)⟩
theorem lw_p1 : lw_okq (⟨"RealBits", "invalid", "()I"⟩, 2) := ⟨⟨by decide +kernel, by decide +kernel⟩, List.mem_of_getElem? (i := 7) (by decide +kernel), List.mem_of_getElem? (i := 58) (by decide +kernel), List.mem_of_getElem? (i := 59) (by decide +kernel)⟩
theorem lw_p2 : lw_okq (⟨"RealBits", "raise", "(I)V"⟩, 2) := ⟨⟨by decide +kernel, by decide +kernel⟩, List.mem_of_getElem? (i := 7) (by decide +kernel), List.mem_of_getElem? (i := 62) (by decide +kernel), List.mem_of_getElem? (i := 63) (by decide +kernel)⟩
theorem lw_p3 : lw_okq (⟨"RealBits", "noNumber", "(Z)I"⟩, 2) := ⟨⟨by decide +kernel, by decide +kernel⟩, List.mem_of_getElem? (i := 7) (by decide +kernel), List.mem_of_getElem? (i := 75) (by decide +kernel), List.mem_of_getElem? (i := 76) (by decide +kernel)⟩
theorem lw_p4 : lw_okq (⟨"RealBits", "finiteSum", "(IJII)I"⟩, 2) := ⟨⟨by decide +kernel, by decide +kernel⟩, List.mem_of_getElem? (i := 7) (by decide +kernel), List.mem_of_getElem? (i := 96) (by decide +kernel), List.mem_of_getElem? (i := 97) (by decide +kernel)⟩
theorem lw_p5 : lw_okq (⟨"RealBits", "zeroOfMode", "()I"⟩, 2) := ⟨⟨by decide +kernel, by decide +kernel⟩, List.mem_of_getElem? (i := 7) (by decide +kernel), List.mem_of_getElem? (i := 100) (by decide +kernel), List.mem_of_getElem? (i := 101) (by decide +kernel)⟩
theorem lw_p6 : lw_okq (⟨"RealBits", "rounded", "(IJI)I"⟩, 2) := ⟨⟨by decide +kernel, by decide +kernel⟩, List.mem_of_getElem? (i := 7) (by decide +kernel), List.mem_of_getElem? (i := 104) (by decide +kernel), List.mem_of_getElem? (i := 105) (by decide +kernel)⟩
theorem lw_p7 : lw_okq (⟨"RealBits", "multiple", "(IJI)J"⟩, 2) := ⟨⟨by decide +kernel, by decide +kernel⟩, List.mem_of_getElem? (i := 7) (by decide +kernel), List.mem_of_getElem? (i := 121) (by decide +kernel), List.mem_of_getElem? (i := 122) (by decide +kernel)⟩
theorem lw_p8 : lw_okq (⟨"RealBits", "isStepDue", "(IJI)Z"⟩, 2) := ⟨⟨by decide +kernel, by decide +kernel⟩, List.mem_of_getElem? (i := 7) (by decide +kernel), List.mem_of_getElem? (i := 128) (by decide +kernel), List.mem_of_getElem? (i := 129) (by decide +kernel)⟩
theorem lw_p9 : lw_okq (⟨"RealBits", "isAwayFromZero", "(I)Z"⟩, 2) := ⟨⟨by decide +kernel, by decide +kernel⟩, List.mem_of_getElem? (i := 7) (by decide +kernel), List.mem_of_getElem? (i := 132) (by decide +kernel), List.mem_of_getElem? (i := 133) (by decide +kernel)⟩
theorem lw_p10 : lw_okq (⟨"RealBits", "overflowed", "(I)I"⟩, 2) := ⟨⟨by decide +kernel, by decide +kernel⟩, List.mem_of_getElem? (i := 7) (by decide +kernel), List.mem_of_getElem? (i := 140) (by decide +kernel), List.mem_of_getElem? (i := 141) (by decide +kernel)⟩
theorem lw_p11 : lw_okq (⟨"RealBits", "invalidInt", "()I"⟩, 2) := ⟨⟨by decide +kernel, by decide +kernel⟩, List.mem_of_getElem? (i := 7) (by decide +kernel), List.mem_of_getElem? (i := 198) (by decide +kernel), List.mem_of_getElem? (i := 199) (by decide +kernel)⟩
theorem lw_p12 : lw_okq (⟨"RealBitsModel", "none", "(III)I"⟩, 6) := ⟨⟨by decide +kernel, by decide +kernel⟩, List.mem_of_getElem? (i := 226) (by decide +kernel), List.mem_of_getElem? (i := 282) (by decide +kernel), List.mem_of_getElem? (i := 283) (by decide +kernel)⟩
theorem lw_p13 : lw_okq (⟨"RealBitsModel", "invalid", "()I"⟩, 6) := ⟨⟨by decide +kernel, by decide +kernel⟩, List.mem_of_getElem? (i := 226) (by decide +kernel), List.mem_of_getElem? (i := 297) (by decide +kernel), List.mem_of_getElem? (i := 298) (by decide +kernel)⟩
theorem lw_p14 : lw_okq (⟨"RealBitsModel", "empty", "(I)V"⟩, 6) := ⟨⟨by decide +kernel, by decide +kernel⟩, List.mem_of_getElem? (i := 226) (by decide +kernel), List.mem_of_getElem? (i := 301) (by decide +kernel), List.mem_of_getElem? (i := 302) (by decide +kernel)⟩
theorem lw_p15 : lw_okq (⟨"RealBitsModel", "put", "(JIZ)V"⟩, 6) := ⟨⟨by decide +kernel, by decide +kernel⟩, List.mem_of_getElem? (i := 226) (by decide +kernel), List.mem_of_getElem? (i := 312) (by decide +kernel), List.mem_of_getElem? (i := 313) (by decide +kernel)⟩
def lw_privs_1 : List (MethodName × Nat) := [(⟨"RealBits", "productPlus", "(III)I"⟩, 2), (⟨"RealBits", "invalid", "()I"⟩, 2), (⟨"RealBits", "raise", "(I)V"⟩, 2), (⟨"RealBits", "noNumber", "(Z)I"⟩, 2), (⟨"RealBits", "finiteSum", "(IJII)I"⟩, 2), (⟨"RealBits", "zeroOfMode", "()I"⟩, 2), (⟨"RealBits", "rounded", "(IJI)I"⟩, 2), (⟨"RealBits", "multiple", "(IJI)J"⟩, 2), (⟨"RealBits", "isStepDue", "(IJI)Z"⟩, 2), (⟨"RealBits", "isAwayFromZero", "(I)Z"⟩, 2), (⟨"RealBits", "overflowed", "(I)I"⟩, 2), (⟨"RealBits", "invalidInt", "()I"⟩, 2), (⟨"RealBitsModel", "none", "(III)I"⟩, 6), (⟨"RealBitsModel", "invalid", "()I"⟩, 6), (⟨"RealBitsModel", "empty", "(I)V"⟩, 6), (⟨"RealBitsModel", "put", "(JIZ)V"⟩, 6)]
theorem lw_r1 : ∀ q ∈ lw_privs_1, lw_okq q := List.forall_mem_cons.mpr ⟨lw_p0, List.forall_mem_cons.mpr ⟨lw_p1, List.forall_mem_cons.mpr ⟨lw_p2, List.forall_mem_cons.mpr ⟨lw_p3, List.forall_mem_cons.mpr ⟨lw_p4, List.forall_mem_cons.mpr ⟨lw_p5, List.forall_mem_cons.mpr ⟨lw_p6, List.forall_mem_cons.mpr ⟨lw_p7, List.forall_mem_cons.mpr ⟨lw_p8, List.forall_mem_cons.mpr ⟨lw_p9, List.forall_mem_cons.mpr ⟨lw_p10, List.forall_mem_cons.mpr ⟨lw_p11, List.forall_mem_cons.mpr ⟨lw_p12, List.forall_mem_cons.mpr ⟨lw_p13, List.forall_mem_cons.mpr ⟨lw_p14, List.forall_mem_cons.mpr ⟨lw_p15, fun _ h => absurd h List.not_mem_nil⟩⟩⟩⟩⟩⟩⟩⟩⟩⟩⟩⟩⟩⟩⟩⟩
theorem lw_p16 : lw_okq (⟨"RealBitsModel", "settle", "()Z"⟩, 6) := ⟨⟨by decide +kernel, by decide +kernel⟩, List.mem_of_getElem? (i := 226) (by decide +kernel), List.mem_of_getElem? (i := 317) (by decide +kernel), List.mem_of_getElem? (i := 318) (by decide +kernel)⟩
theorem lw_p17 : lw_okq (⟨"RealBitsModel", "carry", "()V"⟩, 6) := ⟨⟨by decide +kernel, by decide +kernel⟩, List.mem_of_getElem? (i := 226) (by decide +kernel), List.mem_of_getElem? (i := 321) (by decide +kernel), List.mem_of_getElem? (i := 322) (by decide +kernel)⟩
theorem lw_p18 : lw_okq (⟨"RealBitsModel", "top", "()I"⟩, 6) := ⟨⟨by decide +kernel, by decide +kernel⟩, List.mem_of_getElem? (i := 226) (by decide +kernel), List.mem_of_getElem? (i := 326) (by decide +kernel), List.mem_of_getElem? (i := 327) (by decide +kernel)⟩
theorem lw_p19 : lw_okq (⟨"RealBitsModel", "bit", "(I)I"⟩, 6) := ⟨⟨by decide +kernel, by decide +kernel⟩, List.mem_of_getElem? (i := 226) (by decide +kernel), List.mem_of_getElem? (i := 330) (by decide +kernel), List.mem_of_getElem? (i := 331) (by decide +kernel)⟩
theorem lw_p20 : lw_okq (⟨"RealBitsModel", "zero", "(ZZZ)I"⟩, 6) := ⟨⟨by decide +kernel, by decide +kernel⟩, List.mem_of_getElem? (i := 226) (by decide +kernel), List.mem_of_getElem? (i := 338) (by decide +kernel), List.mem_of_getElem? (i := 339) (by decide +kernel)⟩
theorem lw_p21 : lw_okq (⟨"RealBitsModel", "finish", "(Z)I"⟩, 6) := ⟨⟨by decide +kernel, by decide +kernel⟩, List.mem_of_getElem? (i := 226) (by decide +kernel), List.mem_of_getElem? (i := 346) (by decide +kernel), List.mem_of_getElem? (i := 347) (by decide +kernel)⟩
theorem lw_p22 : lw_okq (⟨"RealBitsModel", "rounded", "(IZ)I"⟩, 6) := ⟨⟨by decide +kernel, by decide +kernel⟩, List.mem_of_getElem? (i := 226) (by decide +kernel), List.mem_of_getElem? (i := 350) (by decide +kernel), List.mem_of_getElem? (i := 351) (by decide +kernel)⟩
theorem lw_p23 : lw_okq (⟨"RealBitsModel", "below", "(I)Z"⟩, 6) := ⟨⟨by decide +kernel, by decide +kernel⟩, List.mem_of_getElem? (i := 226) (by decide +kernel), List.mem_of_getElem? (i := 354) (by decide +kernel), List.mem_of_getElem? (i := 355) (by decide +kernel)⟩
theorem lw_p24 : lw_okq (⟨"RealBitsModel", "nearest", "(I)J"⟩, 6) := ⟨⟨by decide +kernel, by decide +kernel⟩, List.mem_of_getElem? (i := 226) (by decide +kernel), List.mem_of_getElem? (i := 394) (by decide +kernel), List.mem_of_getElem? (i := 395) (by decide +kernel)⟩
def lw_privs_2 : List (MethodName × Nat) := [(⟨"RealBitsModel", "settle", "()Z"⟩, 6), (⟨"RealBitsModel", "carry", "()V"⟩, 6), (⟨"RealBitsModel", "top", "()I"⟩, 6), (⟨"RealBitsModel", "bit", "(I)I"⟩, 6), (⟨"RealBitsModel", "zero", "(ZZZ)I"⟩, 6), (⟨"RealBitsModel", "finish", "(Z)I"⟩, 6), (⟨"RealBitsModel", "rounded", "(IZ)I"⟩, 6), (⟨"RealBitsModel", "below", "(I)Z"⟩, 6), (⟨"RealBitsModel", "nearest", "(I)J"⟩, 6)]
theorem lw_r2 : ∀ q ∈ lw_privs_2, lw_okq q := List.forall_mem_cons.mpr ⟨lw_p16, List.forall_mem_cons.mpr ⟨lw_p17, List.forall_mem_cons.mpr ⟨lw_p18, List.forall_mem_cons.mpr ⟨lw_p19, List.forall_mem_cons.mpr ⟨lw_p20, List.forall_mem_cons.mpr ⟨lw_p21, List.forall_mem_cons.mpr ⟨lw_p22, List.forall_mem_cons.mpr ⟨lw_p23, List.forall_mem_cons.mpr ⟨lw_p24, fun _ h => absurd h List.not_mem_nil⟩⟩⟩⟩⟩⟩⟩⟩⟩
def lw_privs : List (MethodName × Nat) := lw_privs_1 ++ (lw_privs_2)
def lw_tbl : List Cond := k2_sels lw_privs ++ tables_1
theorem lw_privs_ok : ∀ q ∈ lw_privs, lw_okq q := by
  show ∀ q ∈ lw_privs_1 ++ (lw_privs_2), lw_okq q
  exact List.forall_mem_append.mpr ⟨lw_r1, lw_r2⟩
end
section
/-! ===== BEGIN words of one list among another's, by their places ===== -/
theorem goodIn_r {big : List Cond} (ws : List Cond) (ps : List Nat) (hp : ws = ps.filterMap (fun i => big[i]?)) (h : ws.all goodWord = true) : GoodIn big ws := by
  intro w hw
  have h1 := List.all_eq_true.mp h w hw
  rw [hp] at hw
  obtain ⟨i, -, hi⟩ := List.mem_filterMap.mp hw
  have hm : w ∈ big := by first | exact List.mem_of_getElem? hi | exact List.getElem?_mem hi
  exact ⟨hm, good_of_word h1⟩
theorem goodIn_app {big a b : List Cond} (ha : GoodIn big a) (hb : GoodIn big b) : GoodIn big (a ++ b) := fun w h => (List.mem_append.mp h).elim (ha w) (hb w)
theorem goodIn_ca {big a b : List Cond} {c : Cond} (ha : GoodIn big (c :: a)) (hb : GoodIn big b) : GoodIn big (c :: (a ++ b)) := fun w h => (List.mem_cons.mp h).elim (fun e => ha w (List.mem_cons.mpr (Or.inl e))) (fun h => (List.mem_append.mp h).elim (fun h => ha w (List.mem_cons.mpr (Or.inr h))) (hb w))
theorem goodIn_sub {big ws : List Cond} (hm : ∀ w ∈ ws, w ∈ big) (h : ws.all goodWord = true) : GoodIn big ws := fun w hw => ⟨hm w hw, good_of_word (List.all_eq_true.mp h w hw)⟩
/-! ===== END ===== -/

/-! ===== BEGIN printed: names, fields, word lists, decode rows ===== -/
def RX0 : String := "RealBits"
def TX0 : u_T := fun k => match k with
  | 0 => ("RealBits", "currentMode", "I", false)
  | _ => ("RealBits", "raisedFlags", "I", false)
def tyX0 : Nat → FieldType := fun k => match k with
  | 0 => .int
  | _ => .int
abbrev wsX00 : List Cond := u_ws RX0 TX0 2
theorem nmX0 : ∀ a, a < 2 → ∀ b, b < 2 → a ≠ b → (TX0 a).2.1 ≠ (TX0 b).2.1 := by decide +kernel
theorem tyX0_ok : ∀ k, k < 2 → parseFieldDescriptor (TX0 k).2.2.1 = some (tyX0 k) := by decide +kernel
abbrev cX0_init : ByteArray := prog_1_method_1_code
def yX0_init : MethodName := ⟨RX0, "<init>", "()V"⟩
abbrev cX0_round : ByteArray := prog_1_method_2_code
def yX0_round : MethodName := ⟨RX0, "round", "(I)Z"⟩
abbrev cX0_mode : ByteArray := prog_1_method_3_code
def yX0_mode : MethodName := ⟨RX0, "mode", "()I"⟩
abbrev cX0_flags : ByteArray := prog_1_method_4_code
def yX0_flags : MethodName := ⟨RX0, "flags", "()I"⟩
abbrev cX0_clear : ByteArray := prog_1_method_5_code
def yX0_clear : MethodName := ⟨RX0, "clear", "()I"⟩
abbrev cX0_add : ByteArray := prog_1_method_6_code
def yX0_add : MethodName := ⟨RX0, "add", "(II)I"⟩
abbrev cX0_subtract : ByteArray := prog_1_method_7_code
def yX0_subtract : MethodName := ⟨RX0, "subtract", "(II)I"⟩
abbrev cX0_multiply : ByteArray := prog_1_method_8_code
def yX0_multiply : MethodName := ⟨RX0, "multiply", "(II)I"⟩
abbrev cX0_divide : ByteArray := prog_1_method_9_code
def yX0_divide : MethodName := ⟨RX0, "divide", "(II)I"⟩
abbrev cX0_root : ByteArray := prog_1_method_10_code
def yX0_root : MethodName := ⟨RX0, "root", "(I)I"⟩
abbrev cX0_fused : ByteArray := prog_1_method_11_code
def yX0_fused : MethodName := ⟨RX0, "fused", "(III)I"⟩
abbrev cX0_scale : ByteArray := prog_1_method_12_code
def yX0_scale : MethodName := ⟨RX0, "scale", "(II)I"⟩
abbrev cX0_whole : ByteArray := prog_1_method_13_code
def yX0_whole : MethodName := ⟨RX0, "whole", "(I)I"⟩
abbrev cX0_toInt : ByteArray := prog_1_method_14_code
def yX0_toInt : MethodName := ⟨RX0, "toInt", "(I)I"⟩
abbrev cX0_fromInt : ByteArray := prog_1_method_15_code
def yX0_fromInt : MethodName := ⟨RX0, "fromInt", "(I)I"⟩
abbrev cX0_compare : ByteArray := prog_1_method_16_code
def yX0_compare : MethodName := ⟨RX0, "compare", "(II)I"⟩
abbrev cX0_next : ByteArray := prog_1_method_17_code
def yX0_next : MethodName := ⟨RX0, "next", "(I)I"⟩
abbrev cX0_kind : ByteArray := prog_1_method_18_code
def yX0_kind : MethodName := ⟨RX0, "kind", "(I)I"⟩
abbrev cX0_kindWithoutSign : ByteArray := prog_1_method_19_code
def yX0_kindWithoutSign : MethodName := ⟨RX0, "kindWithoutSign", "(I)I"⟩
abbrev cX0_isNegative : ByteArray := prog_1_method_20_code
def yX0_isNegative : MethodName := ⟨RX0, "isNegative", "(I)Z"⟩
abbrev cX0_signOf : ByteArray := prog_1_method_21_code
def yX0_signOf : MethodName := ⟨RX0, "signOf", "(I)I"⟩
abbrev cX0_exponentOf : ByteArray := prog_1_method_22_code
def yX0_exponentOf : MethodName := ⟨RX0, "exponentOf", "(I)I"⟩
abbrev cX0_isNoNumber : ByteArray := prog_1_method_23_code
def yX0_isNoNumber : MethodName := ⟨RX0, "isNoNumber", "(I)Z"⟩
abbrev cX0_isLoud : ByteArray := prog_1_method_24_code
def yX0_isLoud : MethodName := ⟨RX0, "isLoud", "(I)Z"⟩
abbrev cX0_isInfinite : ByteArray := prog_1_method_25_code
def yX0_isInfinite : MethodName := ⟨RX0, "isInfinite", "(I)Z"⟩
abbrev cX0_isFinite : ByteArray := prog_1_method_26_code
def yX0_isFinite : MethodName := ⟨RX0, "isFinite", "(I)Z"⟩
abbrev cX0_isZero : ByteArray := prog_1_method_27_code
def yX0_isZero : MethodName := ⟨RX0, "isZero", "(I)Z"⟩
abbrev cX0_isZeroTimesInfinite : ByteArray := prog_1_method_28_code
def yX0_isZeroTimesInfinite : MethodName := ⟨RX0, "isZeroTimesInfinite", "(II)Z"⟩
abbrev cX0_magnitudeOf : ByteArray := prog_1_method_29_code
def yX0_magnitudeOf : MethodName := ⟨RX0, "magnitudeOf", "(I)J"⟩
abbrev cX0_unitOf : ByteArray := prog_1_method_30_code
def yX0_unitOf : MethodName := ⟨RX0, "unitOf", "(I)I"⟩
abbrev cX0_place : ByteArray := prog_1_method_31_code
def yX0_place : MethodName := ⟨RX0, "place", "(I)I"⟩
abbrev cX0_raise : ByteArray := prog_1_method_32_code
def yX0_raise : MethodName := ⟨RX0, "raise", "(I)V"⟩
abbrev cX0_noNumber : ByteArray := prog_1_method_33_code
def yX0_noNumber : MethodName := ⟨RX0, "noNumber", "(Z)I"⟩
abbrev cX0_invalid : ByteArray := prog_1_method_34_code
def yX0_invalid : MethodName := ⟨RX0, "invalid", "()I"⟩
abbrev cX0_invalidInt : ByteArray := prog_1_method_35_code
def yX0_invalidInt : MethodName := ⟨RX0, "invalidInt", "()I"⟩
abbrev cX0_productPlus : ByteArray := prog_1_method_36_code
def yX0_productPlus : MethodName := ⟨RX0, "productPlus", "(III)I"⟩
abbrev cX0_finiteSum : ByteArray := prog_1_method_37_code
def yX0_finiteSum : MethodName := ⟨RX0, "finiteSum", "(IJII)I"⟩
abbrev cX0_zeroOfMode : ByteArray := prog_1_method_38_code
def yX0_zeroOfMode : MethodName := ⟨RX0, "zeroOfMode", "()I"⟩
abbrev cX0_aligned : ByteArray := prog_1_method_39_code
def yX0_aligned : MethodName := ⟨RX0, "aligned", "(JI)J"⟩
abbrev cX0_rounded : ByteArray := prog_1_method_40_code
def yX0_rounded : MethodName := ⟨RX0, "rounded", "(IJI)I"⟩
abbrev cX0_isTiny : ByteArray := prog_1_method_41_code
def yX0_isTiny : MethodName := ⟨RX0, "isTiny", "(JI)Z"⟩
abbrev cX0_overflowed : ByteArray := prog_1_method_42_code
def yX0_overflowed : MethodName := ⟨RX0, "overflowed", "(I)I"⟩
abbrev cX0_isAwayFromZero : ByteArray := prog_1_method_43_code
def yX0_isAwayFromZero : MethodName := ⟨RX0, "isAwayFromZero", "(I)Z"⟩
abbrev cX0_multiple : ByteArray := prog_1_method_44_code
def yX0_multiple : MethodName := ⟨RX0, "multiple", "(IJI)J"⟩
abbrev cX0_isStepDue : ByteArray := prog_1_method_45_code
def yX0_isStepDue : MethodName := ⟨RX0, "isStepDue", "(IJI)Z"⟩
abbrev cX0_bitLength : ByteArray := prog_1_method_46_code
def yX0_bitLength : MethodName := ⟨RX0, "bitLength", "(J)I"⟩
abbrev cX0_shiftedRight : ByteArray := prog_1_method_47_code
def yX0_shiftedRight : MethodName := ⟨RX0, "shiftedRight", "(JI)J"⟩
abbrev cX0_isMultiple : ByteArray := prog_1_method_48_code
def yX0_isMultiple : MethodName := ⟨RX0, "isMultiple", "(JI)Z"⟩
abbrev cX0_withTrace : ByteArray := prog_1_method_49_code
def yX0_withTrace : MethodName := ⟨RX0, "withTrace", "(JZ)J"⟩
abbrev cX0_floorRoot : ByteArray := prog_1_method_50_code
def yX0_floorRoot : MethodName := ⟨RX0, "floorRoot", "(J)J"⟩
def RX1 : String := "RealBitsModel"
def TX1 : u_T := fun k => match k with
  | 0 => ("RealBitsModel", "mode", "I", false)
  | 1 => ("RealBitsModel", "flags", "I", false)
  | 2 => ("RealBitsModel", "row", "[J", true)
  | 3 => ("RealBitsModel", "base", "I", false)
  | 4 => ("RealBitsModel", "more", "Z", false)
  | _ => ("RealBitsModel", "exact", "Z", false)
def tyX1 : Nat → FieldType := fun k => match k with
  | 0 => .int
  | 1 => .int
  | 2 => .array .long
  | 3 => .int
  | 4 => .boolean
  | _ => .boolean
abbrev wsX10 : List Cond := u_ws RX1 TX1 6
theorem nmX1 : ∀ a, a < 6 → ∀ b, b < 6 → a ≠ b → (TX1 a).2.1 ≠ (TX1 b).2.1 := by decide +kernel
theorem tyX1_ok : ∀ k, k < 6 → parseFieldDescriptor (TX1 k).2.2.1 = some (tyX1 k) := by decide +kernel
abbrev cX1_init : ByteArray := prog_3_method_1_code
def yX1_init : MethodName := ⟨RX1, "<init>", "()V"⟩
abbrev cX1_round : ByteArray := prog_3_method_2_code
def yX1_round : MethodName := ⟨RX1, "round", "(I)Z"⟩
abbrev cX1_mode : ByteArray := prog_3_method_3_code
def yX1_mode : MethodName := ⟨RX1, "mode", "()I"⟩
abbrev cX1_flags : ByteArray := prog_3_method_4_code
def yX1_flags : MethodName := ⟨RX1, "flags", "()I"⟩
abbrev cX1_clear : ByteArray := prog_3_method_5_code
def yX1_clear : MethodName := ⟨RX1, "clear", "()I"⟩
abbrev cX1_exponent : ByteArray := prog_3_method_6_code
def yX1_exponent : MethodName := ⟨RX1, "exponent", "(I)I"⟩
abbrev cX1_fraction : ByteArray := prog_3_method_7_code
def yX1_fraction : MethodName := ⟨RX1, "fraction", "(I)I"⟩
abbrev cX1_isNone : ByteArray := prog_3_method_8_code
def yX1_isNone : MethodName := ⟨RX1, "isNone", "(I)Z"⟩
abbrev cX1_isLoud : ByteArray := prog_3_method_9_code
def yX1_isLoud : MethodName := ⟨RX1, "isLoud", "(I)Z"⟩
abbrev cX1_isInfinite : ByteArray := prog_3_method_10_code
def yX1_isInfinite : MethodName := ⟨RX1, "isInfinite", "(I)Z"⟩
abbrev cX1_isZero : ByteArray := prog_3_method_11_code
def yX1_isZero : MethodName := ⟨RX1, "isZero", "(I)Z"⟩
abbrev cX1_isNegative : ByteArray := prog_3_method_12_code
def yX1_isNegative : MethodName := ⟨RX1, "isNegative", "(I)Z"⟩
abbrev cX1_signed : ByteArray := prog_3_method_13_code
def yX1_signed : MethodName := ⟨RX1, "signed", "(IZ)I"⟩
abbrev cX1_units : ByteArray := prog_3_method_14_code
def yX1_units : MethodName := ⟨RX1, "units", "(I)I"⟩
abbrev cX1_place : ByteArray := prog_3_method_15_code
def yX1_place : MethodName := ⟨RX1, "place", "(I)I"⟩
abbrev cX1_none : ByteArray := prog_3_method_16_code
def yX1_none : MethodName := ⟨RX1, "none", "(III)I"⟩
abbrev cX1_invalid : ByteArray := prog_3_method_17_code
def yX1_invalid : MethodName := ⟨RX1, "invalid", "()I"⟩
abbrev cX1_empty : ByteArray := prog_3_method_18_code
def yX1_empty : MethodName := ⟨RX1, "empty", "(I)V"⟩
abbrev cX1_put : ByteArray := prog_3_method_19_code
def yX1_put : MethodName := ⟨RX1, "put", "(JIZ)V"⟩
abbrev cX1_settle : ByteArray := prog_3_method_20_code
def yX1_settle : MethodName := ⟨RX1, "settle", "()Z"⟩
abbrev cX1_carry : ByteArray := prog_3_method_21_code
def yX1_carry : MethodName := ⟨RX1, "carry", "()V"⟩
abbrev cX1_bit : ByteArray := prog_3_method_22_code
def yX1_bit : MethodName := ⟨RX1, "bit", "(I)I"⟩
abbrev cX1_top : ByteArray := prog_3_method_23_code
def yX1_top : MethodName := ⟨RX1, "top", "()I"⟩
abbrev cX1_below : ByteArray := prog_3_method_24_code
def yX1_below : MethodName := ⟨RX1, "below", "(I)Z"⟩
abbrev cX1_rounded : ByteArray := prog_3_method_25_code
def yX1_rounded : MethodName := ⟨RX1, "rounded", "(IZ)I"⟩
abbrev cX1_finish : ByteArray := prog_3_method_26_code
def yX1_finish : MethodName := ⟨RX1, "finish", "(Z)I"⟩
abbrev cX1_zero : ByteArray := prog_3_method_27_code
def yX1_zero : MethodName := ⟨RX1, "zero", "(ZZZ)I"⟩
abbrev cX1_add : ByteArray := prog_3_method_28_code
def yX1_add : MethodName := ⟨RX1, "add", "(II)I"⟩
abbrev cX1_subtract : ByteArray := prog_3_method_29_code
def yX1_subtract : MethodName := ⟨RX1, "subtract", "(II)I"⟩
abbrev cX1_fused : ByteArray := prog_3_method_30_code
def yX1_fused : MethodName := ⟨RX1, "fused", "(III)I"⟩
abbrev cX1_multiply : ByteArray := prog_3_method_31_code
def yX1_multiply : MethodName := ⟨RX1, "multiply", "(II)I"⟩
abbrev cX1_gap : ByteArray := prog_3_method_32_code
def yX1_gap : MethodName := ⟨RX1, "gap", "(I)I"⟩
abbrev cX1_divide : ByteArray := prog_3_method_33_code
def yX1_divide : MethodName := ⟨RX1, "divide", "(II)I"⟩
abbrev cX1_root : ByteArray := prog_3_method_34_code
def yX1_root : MethodName := ⟨RX1, "root", "(I)I"⟩
abbrev cX1_scale : ByteArray := prog_3_method_35_code
def yX1_scale : MethodName := ⟨RX1, "scale", "(II)I"⟩
abbrev cX1_nearest : ByteArray := prog_3_method_36_code
def yX1_nearest : MethodName := ⟨RX1, "nearest", "(I)J"⟩
abbrev cX1_whole : ByteArray := prog_3_method_37_code
def yX1_whole : MethodName := ⟨RX1, "whole", "(I)I"⟩
abbrev cX1_toInt : ByteArray := prog_3_method_38_code
def yX1_toInt : MethodName := ⟨RX1, "toInt", "(I)I"⟩
abbrev cX1_fromInt : ByteArray := prog_3_method_39_code
def yX1_fromInt : MethodName := ⟨RX1, "fromInt", "(I)I"⟩
abbrev cX1_rank : ByteArray := prog_3_method_40_code
def yX1_rank : MethodName := ⟨RX1, "rank", "(I)I"⟩
abbrev cX1_compare : ByteArray := prog_3_method_41_code
def yX1_compare : MethodName := ⟨RX1, "compare", "(II)I"⟩
abbrev cX1_next : ByteArray := prog_3_method_42_code
def yX1_next : MethodName := ⟨RX1, "next", "(I)I"⟩
abbrev cX1_kind : ByteArray := prog_3_method_43_code
def yX1_kind : MethodName := ⟨RX1, "kind", "(I)I"⟩
def RJ6 : String := "java/lang/Integer"
def TJ6 : u_T := fun k => match k with
  | _ => ("", "", "", false)
def tyJ6 : Nat → FieldType := fun k => match k with
  | _ => .int
abbrev wsJ60 : List Cond := u_ws RJ6 TJ6 0
theorem nmJ6 : ∀ a, a < 0 → ∀ b, b < 0 → a ≠ b → (TJ6 a).2.1 ≠ (TJ6 b).2.1 := by decide +kernel
theorem tyJ6_ok : ∀ k, k < 0 → parseFieldDescriptor (TJ6 k).2.2.1 = some (tyJ6 k) := by decide +kernel
abbrev cJ6_numberOfLeadingZeros_0f7a4 : ByteArray := prog_4_method_47_code
def yJ6_numberOfLeadingZeros_0f7a4 : MethodName := ⟨RJ6, "numberOfLeadingZeros", "(I)I"⟩
def RJ13 : String := "java/lang/Long"
def TJ13 : u_T := fun k => match k with
  | _ => ("", "", "", false)
def tyJ13 : Nat → FieldType := fun k => match k with
  | _ => .int
abbrev wsJ130 : List Cond := u_ws RJ13 TJ13 0
theorem nmJ13 : ∀ a, a < 0 → ∀ b, b < 0 → a ≠ b → (TJ13 a).2.1 ≠ (TJ13 b).2.1 := by decide +kernel
theorem tyJ13_ok : ∀ k, k < 0 → parseFieldDescriptor (TJ13 k).2.2.1 = some (tyJ13 k) := by decide +kernel
abbrev cJ13_numberOfLeadingZeros_95d88 : ByteArray := prog_5_method_48_code
def yJ13_numberOfLeadingZeros_95d88 : MethodName := ⟨RJ13, "numberOfLeadingZeros", "(J)I"⟩
def RJ9 : String := "java/lang/Math"
def TJ9 : u_T := fun k => match k with
  | _ => ("", "", "", false)
def tyJ9 : Nat → FieldType := fun k => match k with
  | _ => .int
abbrev wsJ90 : List Cond := u_ws RJ9 TJ9 0
theorem nmJ9 : ∀ a, a < 0 → ∀ b, b < 0 → a ≠ b → (TJ9 a).2.1 ≠ (TJ9 b).2.1 := by decide +kernel
theorem tyJ9_ok : ∀ k, k < 0 → parseFieldDescriptor (TJ9 k).2.2.1 = some (tyJ9 k) := by decide +kernel
abbrev cJ9_abs_067f4 : ByteArray := prog_6_method_61_code
def yJ9_abs_067f4 : MethodName := ⟨RJ9, "abs", "(J)J"⟩
abbrev cJ9_max_7cf53 : ByteArray := prog_6_method_65_code
def yJ9_max_7cf53 : MethodName := ⟨RJ9, "max", "(II)I"⟩
abbrev cJ9_min_7cf53 : ByteArray := prog_6_method_69_code
def yJ9_min_7cf53 : MethodName := ⟨RJ9, "min", "(II)I"⟩
def RL : String := "RealBitsLaw"
abbrev cL_law : ByteArray := code
def yL_law : MethodName := ⟨RL, "law", "([I)Z"⟩
def wsX0_init : List Cond := .code yX0_init cX0_init 1 none :: ([.methodLink RX0 1 objectInit, .instanceMethod objectInit, .code objectInit ⟨#[0xb1]⟩ 1 none, .fieldLink RX0 9 "RealBits" "currentMode" "I", .fieldLink RX0 13 "RealBits" "raisedFlags" "I"] ++ wsX00)
def wsX0_round : List Cond := .code yX0_round cX0_round 2 (some .boolean) :: ([.fieldLink RX0 9 "RealBits" "currentMode" "I"] ++ wsX00)
def wsX0_mode : List Cond := .code yX0_mode cX0_mode 1 (some .int) :: ([.fieldLink RX0 9 "RealBits" "currentMode" "I"] ++ wsX00)
def wsX0_flags : List Cond := .code yX0_flags cX0_flags 1 (some .int) :: ([.fieldLink RX0 13 "RealBits" "raisedFlags" "I"] ++ wsX00)
def wsX0_clear : List Cond := .code yX0_clear cX0_clear 2 (some .int) :: ([.fieldLink RX0 13 "RealBits" "raisedFlags" "I"] ++ wsX00)
def wsX0_isZero : List Cond := .code yX0_isZero cX0_isZero 1 (some .boolean) :: ([.constant RX0 121 (2147483647)])
def wsX0_isInfinite : List Cond := .code yX0_isInfinite cX0_isInfinite 1 (some .boolean) :: ([.constant RX0 121 (2147483647), .constant RX0 48 (2139095040)])
def wsX0_isZeroTimesInfinite : List Cond := .code yX0_isZeroTimesInfinite cX0_isZeroTimesInfinite 2 (some .boolean) :: ([.methodLink RX0 60 yX0_isZero, .static yX0_isZero, .initialized RX0, .code yX0_isZero cX0_isZero 1 (some .boolean), .constant RX0 121 (2147483647), .methodLink RX0 45 yX0_isInfinite, .static yX0_isInfinite, .code yX0_isInfinite cX0_isInfinite 1 (some .boolean), .constant RX0 48 (2139095040)])
def wsX0_raise : List Cond := .code yX0_raise cX0_raise 2 none :: ([.fieldLink RX0 13 "RealBits" "raisedFlags" "I"] ++ wsX00)
def wsX0_invalid : List Cond := .code yX0_invalid cX0_invalid 1 (some .int) :: ([.constant RX0 125 (2143289344), .methodLink RX0 63 yX0_raise, .instanceMethod yX0_raise, .selects RX0 yX0_raise yX0_raise, .initialized RX0, .code yX0_raise cX0_raise 2 none, .fieldLink RX0 13 "RealBits" "raisedFlags" "I"] ++ wsX00)
def wsX0_isNoNumber : List Cond := .code yX0_isNoNumber cX0_isNoNumber 1 (some .boolean) :: ([.constant RX0 121 (2147483647), .constant RX0 48 (2139095040)])
def wsX0_isLoud : List Cond := .code yX0_isLoud cX0_isLoud 1 (some .boolean) :: ([.constant RX0 122 (8388607), .constant RX0 123 (4194304), .methodLink RX0 22 yX0_isNoNumber, .static yX0_isNoNumber, .initialized RX0, .code yX0_isNoNumber cX0_isNoNumber 1 (some .boolean), .constant RX0 121 (2147483647), .constant RX0 48 (2139095040)])
def wsX0_noNumber : List Cond := .code yX0_noNumber cX0_noNumber 2 (some .int) :: ([.constant RX0 125 (2143289344), .methodLink RX0 63 yX0_raise, .instanceMethod yX0_raise, .selects RX0 yX0_raise yX0_raise, .initialized RX0, .code yX0_raise cX0_raise 2 none, .fieldLink RX0 13 "RealBits" "raisedFlags" "I"] ++ wsX00)
def wsX0_signOf : List Cond := .code yX0_signOf cX0_signOf 1 (some .int) :: ([.constant RX0 21 (-2147483648)])
def wsX0_exponentOf : List Cond := .code yX0_exponentOf cX0_exponentOf 1 (some .int) :: ([.constant RX0 121 (2147483647)])
def wsX0_magnitudeOf : List Cond := .code yX0_magnitudeOf cX0_magnitudeOf 2 (some .long) :: ([.constant RX0 122 (8388607), .constant RX0 124 (8388608), .methodLink RX0 118 yX0_exponentOf, .static yX0_exponentOf, .initialized RX0, .code yX0_exponentOf cX0_exponentOf 1 (some .int), .constant RX0 121 (2147483647)])
def wsX0_unitOf : List Cond := .code yX0_unitOf cX0_unitOf 1 (some .int) :: ([.methodLink RX0 88 Lib.Math.max.name, .static Lib.Math.max.name, .initialized "java/lang/Math", .code Lib.Math.max.name Lib.Math.max.code 2 (some .int), .methodLink RX0 118 yX0_exponentOf, .static yX0_exponentOf, .initialized RX0, .code yX0_exponentOf cX0_exponentOf 1 (some .int), .constant RX0 121 (2147483647)])
def wsX0_zeroOfMode : List Cond := .code yX0_zeroOfMode cX0_zeroOfMode 1 (some .int) :: ([.fieldLink RX0 9 "RealBits" "currentMode" "I", .constant RX0 21 (-2147483648)] ++ wsX00)
def wsJ6_numberOfLeadingZeros_0f7a4 : List Cond := .code yJ6_numberOfLeadingZeros_0f7a4 cJ6_numberOfLeadingZeros_0f7a4 2 (some .int) :: ([.constant RJ6 264 (65536)])
def wsJ13_numberOfLeadingZeros_95d88 : List Cond := .code yJ13_numberOfLeadingZeros_95d88 cJ13_numberOfLeadingZeros_95d88 3 (some .int) :: ([.methodLink RJ13 308 yJ6_numberOfLeadingZeros_0f7a4, .static yJ6_numberOfLeadingZeros_0f7a4, .initialized RJ6, .code yJ6_numberOfLeadingZeros_0f7a4 cJ6_numberOfLeadingZeros_0f7a4 2 (some .int), .constant RJ6 264 (65536)])
def wsX0_bitLength : List Cond := .code yX0_bitLength cX0_bitLength 2 (some .int) :: ([.methodLink RX0 156 yJ13_numberOfLeadingZeros_95d88, .static yJ13_numberOfLeadingZeros_95d88, .initialized RJ13, .code yJ13_numberOfLeadingZeros_95d88 cJ13_numberOfLeadingZeros_95d88 3 (some .int), .methodLink RJ13 308 yJ6_numberOfLeadingZeros_0f7a4, .static yJ6_numberOfLeadingZeros_0f7a4, .initialized RJ6, .code yJ6_numberOfLeadingZeros_0f7a4 cJ6_numberOfLeadingZeros_0f7a4 2 (some .int), .constant RJ6 264 (65536)])
def wsX0_isMultiple : List Cond := .code yX0_isMultiple cX0_isMultiple 3 (some .boolean) :: ([])
def wsX0_shiftedRight : List Cond := .code yX0_shiftedRight cX0_shiftedRight 3 (some .long) :: ([])
def wsX0_isAwayFromZero : List Cond := .code yX0_isAwayFromZero cX0_isAwayFromZero 2 (some .boolean) :: ([.fieldLink RX0 9 "RealBits" "currentMode" "I"] ++ wsX00)
def wsX0_isStepDue : List Cond := .code yX0_isStepDue cX0_isStepDue 8 (some .boolean) :: ([.fieldLink RX0 9 "RealBits" "currentMode" "I", .methodLink RX0 91 yX0_isMultiple, .static yX0_isMultiple, .initialized RX0, .code yX0_isMultiple cX0_isMultiple 3 (some .boolean), .methodLink RX0 148 yX0_isAwayFromZero, .instanceMethod yX0_isAwayFromZero, .selects RX0 yX0_isAwayFromZero yX0_isAwayFromZero, .code yX0_isAwayFromZero cX0_isAwayFromZero 2 (some .boolean), .methodLink RX0 137 yX0_shiftedRight, .static yX0_shiftedRight, .code yX0_shiftedRight cX0_shiftedRight 3 (some .long)] ++ wsX00)
def wsX0_multiple : List Cond := .code yX0_multiple cX0_multiple 7 (some .long) :: ([.methodLink RX0 137 yX0_shiftedRight, .static yX0_shiftedRight, .initialized RX0, .code yX0_shiftedRight cX0_shiftedRight 3 (some .long), .methodLink RX0 152 yX0_isStepDue, .instanceMethod yX0_isStepDue, .selects RX0 yX0_isStepDue yX0_isStepDue, .code yX0_isStepDue cX0_isStepDue 8 (some .boolean), .fieldLink RX0 9 "RealBits" "currentMode" "I", .methodLink RX0 91 yX0_isMultiple, .static yX0_isMultiple, .code yX0_isMultiple cX0_isMultiple 3 (some .boolean), .methodLink RX0 148 yX0_isAwayFromZero, .instanceMethod yX0_isAwayFromZero, .selects RX0 yX0_isAwayFromZero yX0_isAwayFromZero, .code yX0_isAwayFromZero cX0_isAwayFromZero 2 (some .boolean)] ++ wsX00)
def wsX0_isTiny : List Cond := .code yX0_isTiny cX0_isTiny 3 (some .boolean) :: ([.methodLink RX0 67 yX0_bitLength, .static yX0_bitLength, .initialized RX0, .code yX0_bitLength cX0_bitLength 2 (some .int), .methodLink RX0 156 yJ13_numberOfLeadingZeros_95d88, .static yJ13_numberOfLeadingZeros_95d88, .initialized RJ13, .code yJ13_numberOfLeadingZeros_95d88 cJ13_numberOfLeadingZeros_95d88 3 (some .int), .methodLink RJ13 308 yJ6_numberOfLeadingZeros_0f7a4, .static yJ6_numberOfLeadingZeros_0f7a4, .initialized RJ6, .code yJ6_numberOfLeadingZeros_0f7a4 cJ6_numberOfLeadingZeros_0f7a4 2 (some .int), .constant RJ6 264 (65536)])
def wsX0_overflowed : List Cond := .code yX0_overflowed cX0_overflowed 3 (some .int) :: ([.fieldLink RX0 9 "RealBits" "currentMode" "I", .constant RX0 48 (2139095040), .constant RX0 151 (2139095039), .methodLink RX0 63 yX0_raise, .instanceMethod yX0_raise, .selects RX0 yX0_raise yX0_raise, .initialized RX0, .code yX0_raise cX0_raise 2 none, .fieldLink RX0 13 "RealBits" "raisedFlags" "I", .methodLink RX0 148 yX0_isAwayFromZero, .instanceMethod yX0_isAwayFromZero, .selects RX0 yX0_isAwayFromZero yX0_isAwayFromZero, .code yX0_isAwayFromZero cX0_isAwayFromZero 2 (some .boolean)] ++ wsX00)
def wsX0_rounded_r1 : List Cond := [Cond.methodLink RX0 88 Lib.Math.max.name, Cond.static Lib.Math.max.name, Cond.initialized "java/lang/Math", Cond.code Lib.Math.max.name Lib.Math.max.code 2 (some .int), Cond.constantLong RX0 143 (2139095040), Cond.methodLink RX0 67 yX0_bitLength, Cond.static yX0_bitLength, Cond.initialized RX0, Cond.code yX0_bitLength cX0_bitLength 2 (some .int), Cond.methodLink RX0 156 yJ13_numberOfLeadingZeros_95d88, Cond.static yJ13_numberOfLeadingZeros_95d88, Cond.initialized RJ13, Cond.code yJ13_numberOfLeadingZeros_95d88 cJ13_numberOfLeadingZeros_95d88 3 (some .int), Cond.methodLink RJ13 308 yJ6_numberOfLeadingZeros_0f7a4, Cond.static yJ6_numberOfLeadingZeros_0f7a4, Cond.initialized RJ6, Cond.code yJ6_numberOfLeadingZeros_0f7a4 cJ6_numberOfLeadingZeros_0f7a4 2 (some .int), Cond.constant RJ6 264 (65536), Cond.methodLink RX0 91 yX0_isMultiple, Cond.static yX0_isMultiple, Cond.code yX0_isMultiple cX0_isMultiple 3 (some .boolean), Cond.methodLink RX0 63 yX0_raise, Cond.instanceMethod yX0_raise, Cond.selects RX0 yX0_raise yX0_raise]
def wsX0_rounded_r2 : List Cond := [Cond.code yX0_raise cX0_raise 2 none, Cond.fieldLink RX0 13 "RealBits" "raisedFlags" "I", Cond.methodLink RX0 95 yX0_multiple, Cond.instanceMethod yX0_multiple, Cond.selects RX0 yX0_multiple yX0_multiple, Cond.code yX0_multiple cX0_multiple 7 (some .long), Cond.methodLink RX0 137 yX0_shiftedRight, Cond.static yX0_shiftedRight, Cond.code yX0_shiftedRight cX0_shiftedRight 3 (some .long), Cond.methodLink RX0 152 yX0_isStepDue, Cond.instanceMethod yX0_isStepDue, Cond.selects RX0 yX0_isStepDue yX0_isStepDue, Cond.code yX0_isStepDue cX0_isStepDue 8 (some .boolean), Cond.fieldLink RX0 9 "RealBits" "currentMode" "I", Cond.methodLink RX0 148 yX0_isAwayFromZero, Cond.instanceMethod yX0_isAwayFromZero, Cond.selects RX0 yX0_isAwayFromZero yX0_isAwayFromZero, Cond.code yX0_isAwayFromZero cX0_isAwayFromZero 2 (some .boolean), Cond.methodLink RX0 140 yX0_isTiny, Cond.static yX0_isTiny, Cond.code yX0_isTiny cX0_isTiny 3 (some .boolean), Cond.methodLink RX0 145 yX0_overflowed, Cond.instanceMethod yX0_overflowed, Cond.selects RX0 yX0_overflowed yX0_overflowed]
def wsX0_rounded_r3 : List Cond := [Cond.code yX0_overflowed cX0_overflowed 3 (some .int), Cond.constant RX0 48 (2139095040), Cond.constant RX0 151 (2139095039)]
def wsX0_rounded : List Cond := .code yX0_rounded cX0_rounded 11 (some .int) :: ((wsX0_rounded_r1 ++ (wsX0_rounded_r2 ++ wsX0_rounded_r3)) ++ wsX00)
def wsX0_withTrace : List Cond := .code yX0_withTrace cX0_withTrace 3 (some .long) :: ([])
def wsX0_aligned : List Cond := .code yX0_aligned cX0_aligned 3 (some .long) :: ([.methodLink RX0 137 yX0_shiftedRight, .static yX0_shiftedRight, .initialized RX0, .code yX0_shiftedRight cX0_shiftedRight 3 (some .long), .methodLink RX0 91 yX0_isMultiple, .static yX0_isMultiple, .code yX0_isMultiple cX0_isMultiple 3 (some .boolean), .methodLink RX0 71 yX0_withTrace, .static yX0_withTrace, .code yX0_withTrace cX0_withTrace 3 (some .long)])
def wsX0_isNegative : List Cond := .code yX0_isNegative cX0_isNegative 1 (some .boolean) :: ([])
def wsX0_finiteSum_r1 : List Cond := [Cond.methodLink RX0 88 Lib.Math.max.name, Cond.static Lib.Math.max.name, Cond.initialized "java/lang/Math", Cond.code Lib.Math.max.name Lib.Math.max.code 2 (some .int), Cond.constant RX0 21 (-2147483648), Cond.methodLink RX0 109 Lib.MathLoose.abs_long.x, Cond.static Lib.MathLoose.abs_long.x, Cond.code Lib.MathLoose.abs_long.x Lib.MathLoose.abs_long.code 2 (some .long), Cond.methodLink RX0 60 yX0_isZero, Cond.static yX0_isZero, Cond.initialized RX0, Cond.code yX0_isZero cX0_isZero 1 (some .boolean), Cond.constant RX0 121 (2147483647), Cond.methodLink RX0 41 yX0_signOf, Cond.static yX0_signOf, Cond.code yX0_signOf cX0_signOf 1 (some .int), Cond.methodLink RX0 130 yX0_zeroOfMode, Cond.instanceMethod yX0_zeroOfMode, Cond.selects RX0 yX0_zeroOfMode yX0_zeroOfMode, Cond.code yX0_zeroOfMode cX0_zeroOfMode 1 (some .int), Cond.fieldLink RX0 9 "RealBits" "currentMode" "I", Cond.methodLink RX0 56 yX0_rounded, Cond.instanceMethod yX0_rounded, Cond.selects RX0 yX0_rounded yX0_rounded]
def wsX0_finiteSum_r2 : List Cond := [Cond.code yX0_rounded cX0_rounded 11 (some .int), Cond.constantLong RX0 143 (2139095040), Cond.methodLink RX0 67 yX0_bitLength, Cond.static yX0_bitLength, Cond.code yX0_bitLength cX0_bitLength 2 (some .int), Cond.methodLink RX0 156 yJ13_numberOfLeadingZeros_95d88, Cond.static yJ13_numberOfLeadingZeros_95d88, Cond.initialized RJ13, Cond.code yJ13_numberOfLeadingZeros_95d88 cJ13_numberOfLeadingZeros_95d88 3 (some .int), Cond.methodLink RJ13 308 yJ6_numberOfLeadingZeros_0f7a4, Cond.static yJ6_numberOfLeadingZeros_0f7a4, Cond.initialized RJ6, Cond.code yJ6_numberOfLeadingZeros_0f7a4 cJ6_numberOfLeadingZeros_0f7a4 2 (some .int), Cond.constant RJ6 264 (65536), Cond.methodLink RX0 91 yX0_isMultiple, Cond.static yX0_isMultiple, Cond.code yX0_isMultiple cX0_isMultiple 3 (some .boolean), Cond.methodLink RX0 63 yX0_raise, Cond.instanceMethod yX0_raise, Cond.selects RX0 yX0_raise yX0_raise, Cond.code yX0_raise cX0_raise 2 none, Cond.fieldLink RX0 13 "RealBits" "raisedFlags" "I", Cond.methodLink RX0 95 yX0_multiple, Cond.instanceMethod yX0_multiple]
def wsX0_finiteSum_r3 : List Cond := [Cond.selects RX0 yX0_multiple yX0_multiple, Cond.code yX0_multiple cX0_multiple 7 (some .long), Cond.methodLink RX0 137 yX0_shiftedRight, Cond.static yX0_shiftedRight, Cond.code yX0_shiftedRight cX0_shiftedRight 3 (some .long), Cond.methodLink RX0 152 yX0_isStepDue, Cond.instanceMethod yX0_isStepDue, Cond.selects RX0 yX0_isStepDue yX0_isStepDue, Cond.code yX0_isStepDue cX0_isStepDue 8 (some .boolean), Cond.methodLink RX0 148 yX0_isAwayFromZero, Cond.instanceMethod yX0_isAwayFromZero, Cond.selects RX0 yX0_isAwayFromZero yX0_isAwayFromZero, Cond.code yX0_isAwayFromZero cX0_isAwayFromZero 2 (some .boolean), Cond.methodLink RX0 140 yX0_isTiny, Cond.static yX0_isTiny, Cond.code yX0_isTiny cX0_isTiny 3 (some .boolean), Cond.methodLink RX0 145 yX0_overflowed, Cond.instanceMethod yX0_overflowed, Cond.selects RX0 yX0_overflowed yX0_overflowed, Cond.code yX0_overflowed cX0_overflowed 3 (some .int), Cond.constant RX0 48 (2139095040), Cond.constant RX0 151 (2139095039), Cond.methodLink RX0 53 yX0_unitOf, Cond.static yX0_unitOf]
def wsX0_finiteSum_r4 : List Cond := [Cond.code yX0_unitOf cX0_unitOf 1 (some .int), Cond.methodLink RX0 118 yX0_exponentOf, Cond.static yX0_exponentOf, Cond.code yX0_exponentOf cX0_exponentOf 1 (some .int), Cond.methodLink RX0 49 yX0_magnitudeOf, Cond.static yX0_magnitudeOf, Cond.code yX0_magnitudeOf cX0_magnitudeOf 2 (some .long), Cond.constant RX0 122 (8388607), Cond.constant RX0 124 (8388608), Cond.methodLink RX0 133 yX0_aligned, Cond.static yX0_aligned, Cond.code yX0_aligned cX0_aligned 3 (some .long), Cond.methodLink RX0 71 yX0_withTrace, Cond.static yX0_withTrace, Cond.code yX0_withTrace cX0_withTrace 3 (some .long), Cond.methodLink RX0 75 yX0_isNegative, Cond.static yX0_isNegative, Cond.code yX0_isNegative cX0_isNegative 1 (some .boolean)]
def wsX0_finiteSum : List Cond := .code yX0_finiteSum cX0_finiteSum 14 (some .int) :: ((wsX0_finiteSum_r1 ++ (wsX0_finiteSum_r2 ++ (wsX0_finiteSum_r3 ++ wsX0_finiteSum_r4))) ++ wsX00)
def wsX0_productPlus_r1 : List Cond := [Cond.constant RX0 48 (2139095040), Cond.methodLink RX0 33 yX0_isZeroTimesInfinite, Cond.static yX0_isZeroTimesInfinite, Cond.initialized RX0, Cond.code yX0_isZeroTimesInfinite cX0_isZeroTimesInfinite 2 (some .boolean), Cond.methodLink RX0 60 yX0_isZero, Cond.static yX0_isZero, Cond.code yX0_isZero cX0_isZero 1 (some .boolean), Cond.constant RX0 121 (2147483647), Cond.methodLink RX0 45 yX0_isInfinite, Cond.static yX0_isInfinite, Cond.code yX0_isInfinite cX0_isInfinite 1 (some .boolean), Cond.methodLink RX0 37 yX0_invalid, Cond.instanceMethod yX0_invalid, Cond.selects RX0 yX0_invalid yX0_invalid, Cond.code yX0_invalid cX0_invalid 1 (some .int), Cond.constant RX0 125 (2143289344), Cond.methodLink RX0 63 yX0_raise, Cond.instanceMethod yX0_raise, Cond.selects RX0 yX0_raise yX0_raise, Cond.code yX0_raise cX0_raise 2 none, Cond.fieldLink RX0 13 "RealBits" "raisedFlags" "I", Cond.methodLink RX0 22 yX0_isNoNumber, Cond.static yX0_isNoNumber]
def wsX0_productPlus_r2 : List Cond := [Cond.code yX0_isNoNumber cX0_isNoNumber 1 (some .boolean), Cond.methodLink RX0 26 yX0_isLoud, Cond.static yX0_isLoud, Cond.code yX0_isLoud cX0_isLoud 1 (some .boolean), Cond.constant RX0 122 (8388607), Cond.constant RX0 123 (4194304), Cond.methodLink RX0 29 yX0_noNumber, Cond.instanceMethod yX0_noNumber, Cond.selects RX0 yX0_noNumber yX0_noNumber, Cond.code yX0_noNumber cX0_noNumber 2 (some .int), Cond.methodLink RX0 41 yX0_signOf, Cond.static yX0_signOf, Cond.code yX0_signOf cX0_signOf 1 (some .int), Cond.constant RX0 21 (-2147483648), Cond.methodLink RX0 49 yX0_magnitudeOf, Cond.static yX0_magnitudeOf, Cond.code yX0_magnitudeOf cX0_magnitudeOf 2 (some .long), Cond.constant RX0 124 (8388608), Cond.methodLink RX0 118 yX0_exponentOf, Cond.static yX0_exponentOf, Cond.code yX0_exponentOf cX0_exponentOf 1 (some .int), Cond.methodLink RX0 53 yX0_unitOf, Cond.static yX0_unitOf, Cond.code yX0_unitOf cX0_unitOf 1 (some .int)]
def wsX0_productPlus_r3 : List Cond := [Cond.methodLink RX0 88 Lib.Math.max.name, Cond.static Lib.Math.max.name, Cond.initialized "java/lang/Math", Cond.code Lib.Math.max.name Lib.Math.max.code 2 (some .int), Cond.methodLink RX0 126 yX0_finiteSum, Cond.instanceMethod yX0_finiteSum, Cond.selects RX0 yX0_finiteSum yX0_finiteSum, Cond.code yX0_finiteSum cX0_finiteSum 14 (some .int), Cond.methodLink RX0 109 Lib.MathLoose.abs_long.x, Cond.static Lib.MathLoose.abs_long.x, Cond.code Lib.MathLoose.abs_long.x Lib.MathLoose.abs_long.code 2 (some .long), Cond.methodLink RX0 130 yX0_zeroOfMode, Cond.instanceMethod yX0_zeroOfMode, Cond.selects RX0 yX0_zeroOfMode yX0_zeroOfMode, Cond.code yX0_zeroOfMode cX0_zeroOfMode 1 (some .int), Cond.fieldLink RX0 9 "RealBits" "currentMode" "I", Cond.methodLink RX0 56 yX0_rounded, Cond.instanceMethod yX0_rounded, Cond.selects RX0 yX0_rounded yX0_rounded, Cond.code yX0_rounded cX0_rounded 11 (some .int), Cond.constantLong RX0 143 (2139095040), Cond.methodLink RX0 67 yX0_bitLength, Cond.static yX0_bitLength, Cond.code yX0_bitLength cX0_bitLength 2 (some .int)]
def wsX0_productPlus_r4 : List Cond := [Cond.methodLink RX0 156 yJ13_numberOfLeadingZeros_95d88, Cond.static yJ13_numberOfLeadingZeros_95d88, Cond.initialized RJ13, Cond.code yJ13_numberOfLeadingZeros_95d88 cJ13_numberOfLeadingZeros_95d88 3 (some .int), Cond.methodLink RJ13 308 yJ6_numberOfLeadingZeros_0f7a4, Cond.static yJ6_numberOfLeadingZeros_0f7a4, Cond.initialized RJ6, Cond.code yJ6_numberOfLeadingZeros_0f7a4 cJ6_numberOfLeadingZeros_0f7a4 2 (some .int), Cond.constant RJ6 264 (65536), Cond.methodLink RX0 91 yX0_isMultiple, Cond.static yX0_isMultiple, Cond.code yX0_isMultiple cX0_isMultiple 3 (some .boolean), Cond.methodLink RX0 95 yX0_multiple, Cond.instanceMethod yX0_multiple, Cond.selects RX0 yX0_multiple yX0_multiple, Cond.code yX0_multiple cX0_multiple 7 (some .long), Cond.methodLink RX0 137 yX0_shiftedRight, Cond.static yX0_shiftedRight, Cond.code yX0_shiftedRight cX0_shiftedRight 3 (some .long), Cond.methodLink RX0 152 yX0_isStepDue, Cond.instanceMethod yX0_isStepDue, Cond.selects RX0 yX0_isStepDue yX0_isStepDue, Cond.code yX0_isStepDue cX0_isStepDue 8 (some .boolean), Cond.methodLink RX0 148 yX0_isAwayFromZero]
def wsX0_productPlus_r5 : List Cond := [Cond.instanceMethod yX0_isAwayFromZero, Cond.selects RX0 yX0_isAwayFromZero yX0_isAwayFromZero, Cond.code yX0_isAwayFromZero cX0_isAwayFromZero 2 (some .boolean), Cond.methodLink RX0 140 yX0_isTiny, Cond.static yX0_isTiny, Cond.code yX0_isTiny cX0_isTiny 3 (some .boolean), Cond.methodLink RX0 145 yX0_overflowed, Cond.instanceMethod yX0_overflowed, Cond.selects RX0 yX0_overflowed yX0_overflowed, Cond.code yX0_overflowed cX0_overflowed 3 (some .int), Cond.constant RX0 151 (2139095039), Cond.methodLink RX0 133 yX0_aligned, Cond.static yX0_aligned, Cond.code yX0_aligned cX0_aligned 3 (some .long), Cond.methodLink RX0 71 yX0_withTrace, Cond.static yX0_withTrace, Cond.code yX0_withTrace cX0_withTrace 3 (some .long), Cond.methodLink RX0 75 yX0_isNegative, Cond.static yX0_isNegative, Cond.code yX0_isNegative cX0_isNegative 1 (some .boolean)]
def wsX0_productPlus : List Cond := .code yX0_productPlus cX0_productPlus 6 (some .int) :: ((wsX0_productPlus_r1 ++ (wsX0_productPlus_r2 ++ (wsX0_productPlus_r3 ++ (wsX0_productPlus_r4 ++ wsX0_productPlus_r5)))) ++ wsX00)
def wsX0_add_r1 : List Cond := [Cond.constant RX0 16 (1065353216), Cond.methodLink RX0 17 yX0_productPlus, Cond.instanceMethod yX0_productPlus, Cond.selects RX0 yX0_productPlus yX0_productPlus, Cond.initialized RX0, Cond.code yX0_productPlus cX0_productPlus 6 (some .int), Cond.constant RX0 48 (2139095040), Cond.methodLink RX0 33 yX0_isZeroTimesInfinite, Cond.static yX0_isZeroTimesInfinite, Cond.code yX0_isZeroTimesInfinite cX0_isZeroTimesInfinite 2 (some .boolean), Cond.methodLink RX0 60 yX0_isZero, Cond.static yX0_isZero, Cond.code yX0_isZero cX0_isZero 1 (some .boolean), Cond.constant RX0 121 (2147483647), Cond.methodLink RX0 45 yX0_isInfinite, Cond.static yX0_isInfinite, Cond.code yX0_isInfinite cX0_isInfinite 1 (some .boolean), Cond.methodLink RX0 37 yX0_invalid, Cond.instanceMethod yX0_invalid, Cond.selects RX0 yX0_invalid yX0_invalid, Cond.code yX0_invalid cX0_invalid 1 (some .int), Cond.constant RX0 125 (2143289344), Cond.methodLink RX0 63 yX0_raise, Cond.instanceMethod yX0_raise]
def wsX0_add_r2 : List Cond := [Cond.selects RX0 yX0_raise yX0_raise, Cond.code yX0_raise cX0_raise 2 none, Cond.fieldLink RX0 13 "RealBits" "raisedFlags" "I", Cond.methodLink RX0 22 yX0_isNoNumber, Cond.static yX0_isNoNumber, Cond.code yX0_isNoNumber cX0_isNoNumber 1 (some .boolean), Cond.methodLink RX0 26 yX0_isLoud, Cond.static yX0_isLoud, Cond.code yX0_isLoud cX0_isLoud 1 (some .boolean), Cond.constant RX0 122 (8388607), Cond.constant RX0 123 (4194304), Cond.methodLink RX0 29 yX0_noNumber, Cond.instanceMethod yX0_noNumber, Cond.selects RX0 yX0_noNumber yX0_noNumber, Cond.code yX0_noNumber cX0_noNumber 2 (some .int), Cond.methodLink RX0 41 yX0_signOf, Cond.static yX0_signOf, Cond.code yX0_signOf cX0_signOf 1 (some .int), Cond.constant RX0 21 (-2147483648), Cond.methodLink RX0 49 yX0_magnitudeOf, Cond.static yX0_magnitudeOf, Cond.code yX0_magnitudeOf cX0_magnitudeOf 2 (some .long), Cond.constant RX0 124 (8388608), Cond.methodLink RX0 118 yX0_exponentOf]
def wsX0_add_r3 : List Cond := [Cond.static yX0_exponentOf, Cond.code yX0_exponentOf cX0_exponentOf 1 (some .int), Cond.methodLink RX0 53 yX0_unitOf, Cond.static yX0_unitOf, Cond.code yX0_unitOf cX0_unitOf 1 (some .int), Cond.methodLink RX0 88 Lib.Math.max.name, Cond.static Lib.Math.max.name, Cond.initialized "java/lang/Math", Cond.code Lib.Math.max.name Lib.Math.max.code 2 (some .int), Cond.methodLink RX0 126 yX0_finiteSum, Cond.instanceMethod yX0_finiteSum, Cond.selects RX0 yX0_finiteSum yX0_finiteSum, Cond.code yX0_finiteSum cX0_finiteSum 14 (some .int), Cond.methodLink RX0 109 Lib.MathLoose.abs_long.x, Cond.static Lib.MathLoose.abs_long.x, Cond.code Lib.MathLoose.abs_long.x Lib.MathLoose.abs_long.code 2 (some .long), Cond.methodLink RX0 130 yX0_zeroOfMode, Cond.instanceMethod yX0_zeroOfMode, Cond.selects RX0 yX0_zeroOfMode yX0_zeroOfMode, Cond.code yX0_zeroOfMode cX0_zeroOfMode 1 (some .int), Cond.fieldLink RX0 9 "RealBits" "currentMode" "I", Cond.methodLink RX0 56 yX0_rounded, Cond.instanceMethod yX0_rounded, Cond.selects RX0 yX0_rounded yX0_rounded]
def wsX0_add_r4 : List Cond := [Cond.code yX0_rounded cX0_rounded 11 (some .int), Cond.constantLong RX0 143 (2139095040), Cond.methodLink RX0 67 yX0_bitLength, Cond.static yX0_bitLength, Cond.code yX0_bitLength cX0_bitLength 2 (some .int), Cond.methodLink RX0 156 yJ13_numberOfLeadingZeros_95d88, Cond.static yJ13_numberOfLeadingZeros_95d88, Cond.initialized RJ13, Cond.code yJ13_numberOfLeadingZeros_95d88 cJ13_numberOfLeadingZeros_95d88 3 (some .int), Cond.methodLink RJ13 308 yJ6_numberOfLeadingZeros_0f7a4, Cond.static yJ6_numberOfLeadingZeros_0f7a4, Cond.initialized RJ6, Cond.code yJ6_numberOfLeadingZeros_0f7a4 cJ6_numberOfLeadingZeros_0f7a4 2 (some .int), Cond.constant RJ6 264 (65536), Cond.methodLink RX0 91 yX0_isMultiple, Cond.static yX0_isMultiple, Cond.code yX0_isMultiple cX0_isMultiple 3 (some .boolean), Cond.methodLink RX0 95 yX0_multiple, Cond.instanceMethod yX0_multiple, Cond.selects RX0 yX0_multiple yX0_multiple, Cond.code yX0_multiple cX0_multiple 7 (some .long), Cond.methodLink RX0 137 yX0_shiftedRight, Cond.static yX0_shiftedRight, Cond.code yX0_shiftedRight cX0_shiftedRight 3 (some .long)]
def wsX0_add_r5 : List Cond := [Cond.methodLink RX0 152 yX0_isStepDue, Cond.instanceMethod yX0_isStepDue, Cond.selects RX0 yX0_isStepDue yX0_isStepDue, Cond.code yX0_isStepDue cX0_isStepDue 8 (some .boolean), Cond.methodLink RX0 148 yX0_isAwayFromZero, Cond.instanceMethod yX0_isAwayFromZero, Cond.selects RX0 yX0_isAwayFromZero yX0_isAwayFromZero, Cond.code yX0_isAwayFromZero cX0_isAwayFromZero 2 (some .boolean), Cond.methodLink RX0 140 yX0_isTiny, Cond.static yX0_isTiny, Cond.code yX0_isTiny cX0_isTiny 3 (some .boolean), Cond.methodLink RX0 145 yX0_overflowed, Cond.instanceMethod yX0_overflowed, Cond.selects RX0 yX0_overflowed yX0_overflowed, Cond.code yX0_overflowed cX0_overflowed 3 (some .int), Cond.constant RX0 151 (2139095039), Cond.methodLink RX0 133 yX0_aligned, Cond.static yX0_aligned, Cond.code yX0_aligned cX0_aligned 3 (some .long), Cond.methodLink RX0 71 yX0_withTrace, Cond.static yX0_withTrace, Cond.code yX0_withTrace cX0_withTrace 3 (some .long), Cond.methodLink RX0 75 yX0_isNegative, Cond.static yX0_isNegative]
def wsX0_add_r6 : List Cond := [Cond.code yX0_isNegative cX0_isNegative 1 (some .boolean)]
def wsX0_add : List Cond := .code yX0_add cX0_add 3 (some .int) :: ((wsX0_add_r1 ++ (wsX0_add_r2 ++ (wsX0_add_r3 ++ (wsX0_add_r4 ++ (wsX0_add_r5 ++ wsX0_add_r6))))) ++ wsX00)
def wsX0_subtract_r1 : List Cond := [Cond.constant RX0 16 (1065353216), Cond.constant RX0 21 (-2147483648), Cond.methodLink RX0 17 yX0_productPlus, Cond.instanceMethod yX0_productPlus, Cond.selects RX0 yX0_productPlus yX0_productPlus, Cond.initialized RX0, Cond.code yX0_productPlus cX0_productPlus 6 (some .int), Cond.constant RX0 48 (2139095040), Cond.methodLink RX0 33 yX0_isZeroTimesInfinite, Cond.static yX0_isZeroTimesInfinite, Cond.code yX0_isZeroTimesInfinite cX0_isZeroTimesInfinite 2 (some .boolean), Cond.methodLink RX0 60 yX0_isZero, Cond.static yX0_isZero, Cond.code yX0_isZero cX0_isZero 1 (some .boolean), Cond.constant RX0 121 (2147483647), Cond.methodLink RX0 45 yX0_isInfinite, Cond.static yX0_isInfinite, Cond.code yX0_isInfinite cX0_isInfinite 1 (some .boolean), Cond.methodLink RX0 37 yX0_invalid, Cond.instanceMethod yX0_invalid, Cond.selects RX0 yX0_invalid yX0_invalid, Cond.code yX0_invalid cX0_invalid 1 (some .int), Cond.constant RX0 125 (2143289344), Cond.methodLink RX0 63 yX0_raise]
def wsX0_subtract_r2 : List Cond := [Cond.instanceMethod yX0_raise, Cond.selects RX0 yX0_raise yX0_raise, Cond.code yX0_raise cX0_raise 2 none, Cond.fieldLink RX0 13 "RealBits" "raisedFlags" "I", Cond.methodLink RX0 22 yX0_isNoNumber, Cond.static yX0_isNoNumber, Cond.code yX0_isNoNumber cX0_isNoNumber 1 (some .boolean), Cond.methodLink RX0 26 yX0_isLoud, Cond.static yX0_isLoud, Cond.code yX0_isLoud cX0_isLoud 1 (some .boolean), Cond.constant RX0 122 (8388607), Cond.constant RX0 123 (4194304), Cond.methodLink RX0 29 yX0_noNumber, Cond.instanceMethod yX0_noNumber, Cond.selects RX0 yX0_noNumber yX0_noNumber, Cond.code yX0_noNumber cX0_noNumber 2 (some .int), Cond.methodLink RX0 41 yX0_signOf, Cond.static yX0_signOf, Cond.code yX0_signOf cX0_signOf 1 (some .int), Cond.methodLink RX0 49 yX0_magnitudeOf, Cond.static yX0_magnitudeOf, Cond.code yX0_magnitudeOf cX0_magnitudeOf 2 (some .long), Cond.constant RX0 124 (8388608), Cond.methodLink RX0 118 yX0_exponentOf]
def wsX0_subtract_r3 : List Cond := [Cond.static yX0_exponentOf, Cond.code yX0_exponentOf cX0_exponentOf 1 (some .int), Cond.methodLink RX0 53 yX0_unitOf, Cond.static yX0_unitOf, Cond.code yX0_unitOf cX0_unitOf 1 (some .int), Cond.methodLink RX0 88 Lib.Math.max.name, Cond.static Lib.Math.max.name, Cond.initialized "java/lang/Math", Cond.code Lib.Math.max.name Lib.Math.max.code 2 (some .int), Cond.methodLink RX0 126 yX0_finiteSum, Cond.instanceMethod yX0_finiteSum, Cond.selects RX0 yX0_finiteSum yX0_finiteSum, Cond.code yX0_finiteSum cX0_finiteSum 14 (some .int), Cond.methodLink RX0 109 Lib.MathLoose.abs_long.x, Cond.static Lib.MathLoose.abs_long.x, Cond.code Lib.MathLoose.abs_long.x Lib.MathLoose.abs_long.code 2 (some .long), Cond.methodLink RX0 130 yX0_zeroOfMode, Cond.instanceMethod yX0_zeroOfMode, Cond.selects RX0 yX0_zeroOfMode yX0_zeroOfMode, Cond.code yX0_zeroOfMode cX0_zeroOfMode 1 (some .int), Cond.fieldLink RX0 9 "RealBits" "currentMode" "I", Cond.methodLink RX0 56 yX0_rounded, Cond.instanceMethod yX0_rounded, Cond.selects RX0 yX0_rounded yX0_rounded]
def wsX0_subtract_r4 : List Cond := [Cond.code yX0_rounded cX0_rounded 11 (some .int), Cond.constantLong RX0 143 (2139095040), Cond.methodLink RX0 67 yX0_bitLength, Cond.static yX0_bitLength, Cond.code yX0_bitLength cX0_bitLength 2 (some .int), Cond.methodLink RX0 156 yJ13_numberOfLeadingZeros_95d88, Cond.static yJ13_numberOfLeadingZeros_95d88, Cond.initialized RJ13, Cond.code yJ13_numberOfLeadingZeros_95d88 cJ13_numberOfLeadingZeros_95d88 3 (some .int), Cond.methodLink RJ13 308 yJ6_numberOfLeadingZeros_0f7a4, Cond.static yJ6_numberOfLeadingZeros_0f7a4, Cond.initialized RJ6, Cond.code yJ6_numberOfLeadingZeros_0f7a4 cJ6_numberOfLeadingZeros_0f7a4 2 (some .int), Cond.constant RJ6 264 (65536), Cond.methodLink RX0 91 yX0_isMultiple, Cond.static yX0_isMultiple, Cond.code yX0_isMultiple cX0_isMultiple 3 (some .boolean), Cond.methodLink RX0 95 yX0_multiple, Cond.instanceMethod yX0_multiple, Cond.selects RX0 yX0_multiple yX0_multiple, Cond.code yX0_multiple cX0_multiple 7 (some .long), Cond.methodLink RX0 137 yX0_shiftedRight, Cond.static yX0_shiftedRight, Cond.code yX0_shiftedRight cX0_shiftedRight 3 (some .long)]
def wsX0_subtract_r5 : List Cond := [Cond.methodLink RX0 152 yX0_isStepDue, Cond.instanceMethod yX0_isStepDue, Cond.selects RX0 yX0_isStepDue yX0_isStepDue, Cond.code yX0_isStepDue cX0_isStepDue 8 (some .boolean), Cond.methodLink RX0 148 yX0_isAwayFromZero, Cond.instanceMethod yX0_isAwayFromZero, Cond.selects RX0 yX0_isAwayFromZero yX0_isAwayFromZero, Cond.code yX0_isAwayFromZero cX0_isAwayFromZero 2 (some .boolean), Cond.methodLink RX0 140 yX0_isTiny, Cond.static yX0_isTiny, Cond.code yX0_isTiny cX0_isTiny 3 (some .boolean), Cond.methodLink RX0 145 yX0_overflowed, Cond.instanceMethod yX0_overflowed, Cond.selects RX0 yX0_overflowed yX0_overflowed, Cond.code yX0_overflowed cX0_overflowed 3 (some .int), Cond.constant RX0 151 (2139095039), Cond.methodLink RX0 133 yX0_aligned, Cond.static yX0_aligned, Cond.code yX0_aligned cX0_aligned 3 (some .long), Cond.methodLink RX0 71 yX0_withTrace, Cond.static yX0_withTrace, Cond.code yX0_withTrace cX0_withTrace 3 (some .long), Cond.methodLink RX0 75 yX0_isNegative, Cond.static yX0_isNegative]
def wsX0_subtract_r6 : List Cond := [Cond.code yX0_isNegative cX0_isNegative 1 (some .boolean)]
def wsX0_subtract : List Cond := .code yX0_subtract cX0_subtract 3 (some .int) :: ((wsX0_subtract_r1 ++ (wsX0_subtract_r2 ++ (wsX0_subtract_r3 ++ (wsX0_subtract_r4 ++ (wsX0_subtract_r5 ++ wsX0_subtract_r6))))) ++ wsX00)
def wsX0_multiply_r1 : List Cond := [Cond.constant RX0 48 (2139095040), Cond.methodLink RX0 22 yX0_isNoNumber, Cond.static yX0_isNoNumber, Cond.initialized RX0, Cond.code yX0_isNoNumber cX0_isNoNumber 1 (some .boolean), Cond.constant RX0 121 (2147483647), Cond.methodLink RX0 26 yX0_isLoud, Cond.static yX0_isLoud, Cond.code yX0_isLoud cX0_isLoud 1 (some .boolean), Cond.constant RX0 122 (8388607), Cond.constant RX0 123 (4194304), Cond.methodLink RX0 29 yX0_noNumber, Cond.instanceMethod yX0_noNumber, Cond.selects RX0 yX0_noNumber yX0_noNumber, Cond.code yX0_noNumber cX0_noNumber 2 (some .int), Cond.constant RX0 125 (2143289344), Cond.methodLink RX0 63 yX0_raise, Cond.instanceMethod yX0_raise, Cond.selects RX0 yX0_raise yX0_raise, Cond.code yX0_raise cX0_raise 2 none, Cond.fieldLink RX0 13 "RealBits" "raisedFlags" "I", Cond.methodLink RX0 33 yX0_isZeroTimesInfinite, Cond.static yX0_isZeroTimesInfinite, Cond.code yX0_isZeroTimesInfinite cX0_isZeroTimesInfinite 2 (some .boolean)]
def wsX0_multiply_r2 : List Cond := [Cond.methodLink RX0 60 yX0_isZero, Cond.static yX0_isZero, Cond.code yX0_isZero cX0_isZero 1 (some .boolean), Cond.methodLink RX0 45 yX0_isInfinite, Cond.static yX0_isInfinite, Cond.code yX0_isInfinite cX0_isInfinite 1 (some .boolean), Cond.methodLink RX0 37 yX0_invalid, Cond.instanceMethod yX0_invalid, Cond.selects RX0 yX0_invalid yX0_invalid, Cond.code yX0_invalid cX0_invalid 1 (some .int), Cond.methodLink RX0 41 yX0_signOf, Cond.static yX0_signOf, Cond.code yX0_signOf cX0_signOf 1 (some .int), Cond.constant RX0 21 (-2147483648), Cond.methodLink RX0 49 yX0_magnitudeOf, Cond.static yX0_magnitudeOf, Cond.code yX0_magnitudeOf cX0_magnitudeOf 2 (some .long), Cond.constant RX0 124 (8388608), Cond.methodLink RX0 118 yX0_exponentOf, Cond.static yX0_exponentOf, Cond.code yX0_exponentOf cX0_exponentOf 1 (some .int), Cond.methodLink RX0 53 yX0_unitOf, Cond.static yX0_unitOf, Cond.code yX0_unitOf cX0_unitOf 1 (some .int)]
def wsX0_multiply_r3 : List Cond := [Cond.methodLink RX0 88 Lib.Math.max.name, Cond.static Lib.Math.max.name, Cond.initialized "java/lang/Math", Cond.code Lib.Math.max.name Lib.Math.max.code 2 (some .int), Cond.methodLink RX0 56 yX0_rounded, Cond.instanceMethod yX0_rounded, Cond.selects RX0 yX0_rounded yX0_rounded, Cond.code yX0_rounded cX0_rounded 11 (some .int), Cond.constantLong RX0 143 (2139095040), Cond.methodLink RX0 67 yX0_bitLength, Cond.static yX0_bitLength, Cond.code yX0_bitLength cX0_bitLength 2 (some .int), Cond.methodLink RX0 156 yJ13_numberOfLeadingZeros_95d88, Cond.static yJ13_numberOfLeadingZeros_95d88, Cond.initialized RJ13, Cond.code yJ13_numberOfLeadingZeros_95d88 cJ13_numberOfLeadingZeros_95d88 3 (some .int), Cond.methodLink RJ13 308 yJ6_numberOfLeadingZeros_0f7a4, Cond.static yJ6_numberOfLeadingZeros_0f7a4, Cond.initialized RJ6, Cond.code yJ6_numberOfLeadingZeros_0f7a4 cJ6_numberOfLeadingZeros_0f7a4 2 (some .int), Cond.constant RJ6 264 (65536), Cond.methodLink RX0 91 yX0_isMultiple, Cond.static yX0_isMultiple, Cond.code yX0_isMultiple cX0_isMultiple 3 (some .boolean)]
def wsX0_multiply_r4 : List Cond := [Cond.methodLink RX0 95 yX0_multiple, Cond.instanceMethod yX0_multiple, Cond.selects RX0 yX0_multiple yX0_multiple, Cond.code yX0_multiple cX0_multiple 7 (some .long), Cond.methodLink RX0 137 yX0_shiftedRight, Cond.static yX0_shiftedRight, Cond.code yX0_shiftedRight cX0_shiftedRight 3 (some .long), Cond.methodLink RX0 152 yX0_isStepDue, Cond.instanceMethod yX0_isStepDue, Cond.selects RX0 yX0_isStepDue yX0_isStepDue, Cond.code yX0_isStepDue cX0_isStepDue 8 (some .boolean), Cond.fieldLink RX0 9 "RealBits" "currentMode" "I", Cond.methodLink RX0 148 yX0_isAwayFromZero, Cond.instanceMethod yX0_isAwayFromZero, Cond.selects RX0 yX0_isAwayFromZero yX0_isAwayFromZero, Cond.code yX0_isAwayFromZero cX0_isAwayFromZero 2 (some .boolean), Cond.methodLink RX0 140 yX0_isTiny, Cond.static yX0_isTiny, Cond.code yX0_isTiny cX0_isTiny 3 (some .boolean), Cond.methodLink RX0 145 yX0_overflowed, Cond.instanceMethod yX0_overflowed, Cond.selects RX0 yX0_overflowed yX0_overflowed, Cond.code yX0_overflowed cX0_overflowed 3 (some .int), Cond.constant RX0 151 (2139095039)]
def wsX0_multiply : List Cond := .code yX0_multiply cX0_multiply 4 (some .int) :: ((wsX0_multiply_r1 ++ (wsX0_multiply_r2 ++ (wsX0_multiply_r3 ++ wsX0_multiply_r4))) ++ wsX00)
def wsX0_divide_r1 : List Cond := [Cond.constant RX0 48 (2139095040), Cond.methodLink RX0 22 yX0_isNoNumber, Cond.static yX0_isNoNumber, Cond.initialized RX0, Cond.code yX0_isNoNumber cX0_isNoNumber 1 (some .boolean), Cond.constant RX0 121 (2147483647), Cond.methodLink RX0 26 yX0_isLoud, Cond.static yX0_isLoud, Cond.code yX0_isLoud cX0_isLoud 1 (some .boolean), Cond.constant RX0 122 (8388607), Cond.constant RX0 123 (4194304), Cond.methodLink RX0 29 yX0_noNumber, Cond.instanceMethod yX0_noNumber, Cond.selects RX0 yX0_noNumber yX0_noNumber, Cond.code yX0_noNumber cX0_noNumber 2 (some .int), Cond.constant RX0 125 (2143289344), Cond.methodLink RX0 63 yX0_raise, Cond.instanceMethod yX0_raise, Cond.selects RX0 yX0_raise yX0_raise, Cond.code yX0_raise cX0_raise 2 none, Cond.fieldLink RX0 13 "RealBits" "raisedFlags" "I", Cond.methodLink RX0 60 yX0_isZero, Cond.static yX0_isZero, Cond.code yX0_isZero cX0_isZero 1 (some .boolean)]
def wsX0_divide_r2 : List Cond := [Cond.methodLink RX0 45 yX0_isInfinite, Cond.static yX0_isInfinite, Cond.code yX0_isInfinite cX0_isInfinite 1 (some .boolean), Cond.methodLink RX0 37 yX0_invalid, Cond.instanceMethod yX0_invalid, Cond.selects RX0 yX0_invalid yX0_invalid, Cond.code yX0_invalid cX0_invalid 1 (some .int), Cond.methodLink RX0 41 yX0_signOf, Cond.static yX0_signOf, Cond.code yX0_signOf cX0_signOf 1 (some .int), Cond.constant RX0 21 (-2147483648), Cond.methodLink RX0 49 yX0_magnitudeOf, Cond.static yX0_magnitudeOf, Cond.code yX0_magnitudeOf cX0_magnitudeOf 2 (some .long), Cond.constant RX0 124 (8388608), Cond.methodLink RX0 118 yX0_exponentOf, Cond.static yX0_exponentOf, Cond.code yX0_exponentOf cX0_exponentOf 1 (some .int), Cond.methodLink RX0 67 yX0_bitLength, Cond.static yX0_bitLength, Cond.code yX0_bitLength cX0_bitLength 2 (some .int), Cond.methodLink RX0 156 yJ13_numberOfLeadingZeros_95d88, Cond.static yJ13_numberOfLeadingZeros_95d88, Cond.initialized RJ13]
def wsX0_divide_r3 : List Cond := [Cond.code yJ13_numberOfLeadingZeros_95d88 cJ13_numberOfLeadingZeros_95d88 3 (some .int), Cond.methodLink RJ13 308 yJ6_numberOfLeadingZeros_0f7a4, Cond.static yJ6_numberOfLeadingZeros_0f7a4, Cond.initialized RJ6, Cond.code yJ6_numberOfLeadingZeros_0f7a4 cJ6_numberOfLeadingZeros_0f7a4 2 (some .int), Cond.constant RJ6 264 (65536), Cond.methodLink RX0 71 yX0_withTrace, Cond.static yX0_withTrace, Cond.code yX0_withTrace cX0_withTrace 3 (some .long), Cond.methodLink RX0 53 yX0_unitOf, Cond.static yX0_unitOf, Cond.code yX0_unitOf cX0_unitOf 1 (some .int), Cond.methodLink RX0 88 Lib.Math.max.name, Cond.static Lib.Math.max.name, Cond.initialized "java/lang/Math", Cond.code Lib.Math.max.name Lib.Math.max.code 2 (some .int), Cond.methodLink RX0 56 yX0_rounded, Cond.instanceMethod yX0_rounded, Cond.selects RX0 yX0_rounded yX0_rounded, Cond.code yX0_rounded cX0_rounded 11 (some .int), Cond.constantLong RX0 143 (2139095040), Cond.methodLink RX0 91 yX0_isMultiple, Cond.static yX0_isMultiple, Cond.code yX0_isMultiple cX0_isMultiple 3 (some .boolean)]
def wsX0_divide_r4 : List Cond := [Cond.methodLink RX0 95 yX0_multiple, Cond.instanceMethod yX0_multiple, Cond.selects RX0 yX0_multiple yX0_multiple, Cond.code yX0_multiple cX0_multiple 7 (some .long), Cond.methodLink RX0 137 yX0_shiftedRight, Cond.static yX0_shiftedRight, Cond.code yX0_shiftedRight cX0_shiftedRight 3 (some .long), Cond.methodLink RX0 152 yX0_isStepDue, Cond.instanceMethod yX0_isStepDue, Cond.selects RX0 yX0_isStepDue yX0_isStepDue, Cond.code yX0_isStepDue cX0_isStepDue 8 (some .boolean), Cond.fieldLink RX0 9 "RealBits" "currentMode" "I", Cond.methodLink RX0 148 yX0_isAwayFromZero, Cond.instanceMethod yX0_isAwayFromZero, Cond.selects RX0 yX0_isAwayFromZero yX0_isAwayFromZero, Cond.code yX0_isAwayFromZero cX0_isAwayFromZero 2 (some .boolean), Cond.methodLink RX0 140 yX0_isTiny, Cond.static yX0_isTiny, Cond.code yX0_isTiny cX0_isTiny 3 (some .boolean), Cond.methodLink RX0 145 yX0_overflowed, Cond.instanceMethod yX0_overflowed, Cond.selects RX0 yX0_overflowed yX0_overflowed, Cond.code yX0_overflowed cX0_overflowed 3 (some .int), Cond.constant RX0 151 (2139095039)]
def wsX0_divide : List Cond := .code yX0_divide cX0_divide 11 (some .int) :: ((wsX0_divide_r1 ++ (wsX0_divide_r2 ++ (wsX0_divide_r3 ++ wsX0_divide_r4))) ++ wsX00)
def wsX0_floorRoot : List Cond := .code yX0_floorRoot cX0_floorRoot 7 (some .long) :: ([])
def wsX0_root_r1 : List Cond := [Cond.methodLink RX0 22 yX0_isNoNumber, Cond.static yX0_isNoNumber, Cond.initialized RX0, Cond.code yX0_isNoNumber cX0_isNoNumber 1 (some .boolean), Cond.constant RX0 121 (2147483647), Cond.constant RX0 48 (2139095040), Cond.methodLink RX0 26 yX0_isLoud, Cond.static yX0_isLoud, Cond.code yX0_isLoud cX0_isLoud 1 (some .boolean), Cond.constant RX0 122 (8388607), Cond.constant RX0 123 (4194304), Cond.methodLink RX0 29 yX0_noNumber, Cond.instanceMethod yX0_noNumber, Cond.selects RX0 yX0_noNumber yX0_noNumber, Cond.code yX0_noNumber cX0_noNumber 2 (some .int), Cond.constant RX0 125 (2143289344), Cond.methodLink RX0 63 yX0_raise, Cond.instanceMethod yX0_raise, Cond.selects RX0 yX0_raise yX0_raise, Cond.code yX0_raise cX0_raise 2 none, Cond.fieldLink RX0 13 "RealBits" "raisedFlags" "I", Cond.methodLink RX0 75 yX0_isNegative, Cond.static yX0_isNegative, Cond.code yX0_isNegative cX0_isNegative 1 (some .boolean)]
def wsX0_root_r2 : List Cond := [Cond.methodLink RX0 60 yX0_isZero, Cond.static yX0_isZero, Cond.code yX0_isZero cX0_isZero 1 (some .boolean), Cond.methodLink RX0 37 yX0_invalid, Cond.instanceMethod yX0_invalid, Cond.selects RX0 yX0_invalid yX0_invalid, Cond.code yX0_invalid cX0_invalid 1 (some .int), Cond.methodLink RX0 45 yX0_isInfinite, Cond.static yX0_isInfinite, Cond.code yX0_isInfinite cX0_isInfinite 1 (some .boolean), Cond.methodLink RX0 49 yX0_magnitudeOf, Cond.static yX0_magnitudeOf, Cond.code yX0_magnitudeOf cX0_magnitudeOf 2 (some .long), Cond.constant RX0 124 (8388608), Cond.methodLink RX0 118 yX0_exponentOf, Cond.static yX0_exponentOf, Cond.code yX0_exponentOf cX0_exponentOf 1 (some .int), Cond.methodLink RX0 67 yX0_bitLength, Cond.static yX0_bitLength, Cond.code yX0_bitLength cX0_bitLength 2 (some .int), Cond.methodLink RX0 156 yJ13_numberOfLeadingZeros_95d88, Cond.static yJ13_numberOfLeadingZeros_95d88, Cond.initialized RJ13, Cond.code yJ13_numberOfLeadingZeros_95d88 cJ13_numberOfLeadingZeros_95d88 3 (some .int)]
def wsX0_root_r3 : List Cond := [Cond.methodLink RJ13 308 yJ6_numberOfLeadingZeros_0f7a4, Cond.static yJ6_numberOfLeadingZeros_0f7a4, Cond.initialized RJ6, Cond.code yJ6_numberOfLeadingZeros_0f7a4 cJ6_numberOfLeadingZeros_0f7a4 2 (some .int), Cond.constant RJ6 264 (65536), Cond.methodLink RX0 53 yX0_unitOf, Cond.static yX0_unitOf, Cond.code yX0_unitOf cX0_unitOf 1 (some .int), Cond.methodLink RX0 88 Lib.Math.max.name, Cond.static Lib.Math.max.name, Cond.initialized "java/lang/Math", Cond.code Lib.Math.max.name Lib.Math.max.code 2 (some .int), Cond.methodLink RX0 78 yX0_floorRoot, Cond.static yX0_floorRoot, Cond.code yX0_floorRoot cX0_floorRoot 7 (some .long), Cond.methodLink RX0 41 yX0_signOf, Cond.static yX0_signOf, Cond.code yX0_signOf cX0_signOf 1 (some .int), Cond.constant RX0 21 (-2147483648), Cond.methodLink RX0 71 yX0_withTrace, Cond.static yX0_withTrace, Cond.code yX0_withTrace cX0_withTrace 3 (some .long), Cond.methodLink RX0 56 yX0_rounded, Cond.instanceMethod yX0_rounded]
def wsX0_root_r4 : List Cond := [Cond.selects RX0 yX0_rounded yX0_rounded, Cond.code yX0_rounded cX0_rounded 11 (some .int), Cond.constantLong RX0 143 (2139095040), Cond.methodLink RX0 91 yX0_isMultiple, Cond.static yX0_isMultiple, Cond.code yX0_isMultiple cX0_isMultiple 3 (some .boolean), Cond.methodLink RX0 95 yX0_multiple, Cond.instanceMethod yX0_multiple, Cond.selects RX0 yX0_multiple yX0_multiple, Cond.code yX0_multiple cX0_multiple 7 (some .long), Cond.methodLink RX0 137 yX0_shiftedRight, Cond.static yX0_shiftedRight, Cond.code yX0_shiftedRight cX0_shiftedRight 3 (some .long), Cond.methodLink RX0 152 yX0_isStepDue, Cond.instanceMethod yX0_isStepDue, Cond.selects RX0 yX0_isStepDue yX0_isStepDue, Cond.code yX0_isStepDue cX0_isStepDue 8 (some .boolean), Cond.fieldLink RX0 9 "RealBits" "currentMode" "I", Cond.methodLink RX0 148 yX0_isAwayFromZero, Cond.instanceMethod yX0_isAwayFromZero, Cond.selects RX0 yX0_isAwayFromZero yX0_isAwayFromZero, Cond.code yX0_isAwayFromZero cX0_isAwayFromZero 2 (some .boolean), Cond.methodLink RX0 140 yX0_isTiny, Cond.static yX0_isTiny]
def wsX0_root_r5 : List Cond := [Cond.code yX0_isTiny cX0_isTiny 3 (some .boolean), Cond.methodLink RX0 145 yX0_overflowed, Cond.instanceMethod yX0_overflowed, Cond.selects RX0 yX0_overflowed yX0_overflowed, Cond.code yX0_overflowed cX0_overflowed 3 (some .int), Cond.constant RX0 151 (2139095039)]
def wsX0_root : List Cond := .code yX0_root cX0_root 7 (some .int) :: ((wsX0_root_r1 ++ (wsX0_root_r2 ++ (wsX0_root_r3 ++ (wsX0_root_r4 ++ wsX0_root_r5)))) ++ wsX00)
def wsX0_fused_r1 : List Cond := [Cond.methodLink RX0 17 yX0_productPlus, Cond.instanceMethod yX0_productPlus, Cond.selects RX0 yX0_productPlus yX0_productPlus, Cond.initialized RX0, Cond.code yX0_productPlus cX0_productPlus 6 (some .int), Cond.constant RX0 48 (2139095040), Cond.methodLink RX0 33 yX0_isZeroTimesInfinite, Cond.static yX0_isZeroTimesInfinite, Cond.code yX0_isZeroTimesInfinite cX0_isZeroTimesInfinite 2 (some .boolean), Cond.methodLink RX0 60 yX0_isZero, Cond.static yX0_isZero, Cond.code yX0_isZero cX0_isZero 1 (some .boolean), Cond.constant RX0 121 (2147483647), Cond.methodLink RX0 45 yX0_isInfinite, Cond.static yX0_isInfinite, Cond.code yX0_isInfinite cX0_isInfinite 1 (some .boolean), Cond.methodLink RX0 37 yX0_invalid, Cond.instanceMethod yX0_invalid, Cond.selects RX0 yX0_invalid yX0_invalid, Cond.code yX0_invalid cX0_invalid 1 (some .int), Cond.constant RX0 125 (2143289344), Cond.methodLink RX0 63 yX0_raise, Cond.instanceMethod yX0_raise, Cond.selects RX0 yX0_raise yX0_raise]
def wsX0_fused_r2 : List Cond := [Cond.code yX0_raise cX0_raise 2 none, Cond.fieldLink RX0 13 "RealBits" "raisedFlags" "I", Cond.methodLink RX0 22 yX0_isNoNumber, Cond.static yX0_isNoNumber, Cond.code yX0_isNoNumber cX0_isNoNumber 1 (some .boolean), Cond.methodLink RX0 26 yX0_isLoud, Cond.static yX0_isLoud, Cond.code yX0_isLoud cX0_isLoud 1 (some .boolean), Cond.constant RX0 122 (8388607), Cond.constant RX0 123 (4194304), Cond.methodLink RX0 29 yX0_noNumber, Cond.instanceMethod yX0_noNumber, Cond.selects RX0 yX0_noNumber yX0_noNumber, Cond.code yX0_noNumber cX0_noNumber 2 (some .int), Cond.methodLink RX0 41 yX0_signOf, Cond.static yX0_signOf, Cond.code yX0_signOf cX0_signOf 1 (some .int), Cond.constant RX0 21 (-2147483648), Cond.methodLink RX0 49 yX0_magnitudeOf, Cond.static yX0_magnitudeOf, Cond.code yX0_magnitudeOf cX0_magnitudeOf 2 (some .long), Cond.constant RX0 124 (8388608), Cond.methodLink RX0 118 yX0_exponentOf, Cond.static yX0_exponentOf]
def wsX0_fused_r3 : List Cond := [Cond.code yX0_exponentOf cX0_exponentOf 1 (some .int), Cond.methodLink RX0 53 yX0_unitOf, Cond.static yX0_unitOf, Cond.code yX0_unitOf cX0_unitOf 1 (some .int), Cond.methodLink RX0 88 Lib.Math.max.name, Cond.static Lib.Math.max.name, Cond.initialized "java/lang/Math", Cond.code Lib.Math.max.name Lib.Math.max.code 2 (some .int), Cond.methodLink RX0 126 yX0_finiteSum, Cond.instanceMethod yX0_finiteSum, Cond.selects RX0 yX0_finiteSum yX0_finiteSum, Cond.code yX0_finiteSum cX0_finiteSum 14 (some .int), Cond.methodLink RX0 109 Lib.MathLoose.abs_long.x, Cond.static Lib.MathLoose.abs_long.x, Cond.code Lib.MathLoose.abs_long.x Lib.MathLoose.abs_long.code 2 (some .long), Cond.methodLink RX0 130 yX0_zeroOfMode, Cond.instanceMethod yX0_zeroOfMode, Cond.selects RX0 yX0_zeroOfMode yX0_zeroOfMode, Cond.code yX0_zeroOfMode cX0_zeroOfMode 1 (some .int), Cond.fieldLink RX0 9 "RealBits" "currentMode" "I", Cond.methodLink RX0 56 yX0_rounded, Cond.instanceMethod yX0_rounded, Cond.selects RX0 yX0_rounded yX0_rounded, Cond.code yX0_rounded cX0_rounded 11 (some .int)]
def wsX0_fused_r4 : List Cond := [Cond.constantLong RX0 143 (2139095040), Cond.methodLink RX0 67 yX0_bitLength, Cond.static yX0_bitLength, Cond.code yX0_bitLength cX0_bitLength 2 (some .int), Cond.methodLink RX0 156 yJ13_numberOfLeadingZeros_95d88, Cond.static yJ13_numberOfLeadingZeros_95d88, Cond.initialized RJ13, Cond.code yJ13_numberOfLeadingZeros_95d88 cJ13_numberOfLeadingZeros_95d88 3 (some .int), Cond.methodLink RJ13 308 yJ6_numberOfLeadingZeros_0f7a4, Cond.static yJ6_numberOfLeadingZeros_0f7a4, Cond.initialized RJ6, Cond.code yJ6_numberOfLeadingZeros_0f7a4 cJ6_numberOfLeadingZeros_0f7a4 2 (some .int), Cond.constant RJ6 264 (65536), Cond.methodLink RX0 91 yX0_isMultiple, Cond.static yX0_isMultiple, Cond.code yX0_isMultiple cX0_isMultiple 3 (some .boolean), Cond.methodLink RX0 95 yX0_multiple, Cond.instanceMethod yX0_multiple, Cond.selects RX0 yX0_multiple yX0_multiple, Cond.code yX0_multiple cX0_multiple 7 (some .long), Cond.methodLink RX0 137 yX0_shiftedRight, Cond.static yX0_shiftedRight, Cond.code yX0_shiftedRight cX0_shiftedRight 3 (some .long), Cond.methodLink RX0 152 yX0_isStepDue]
def wsX0_fused_r5 : List Cond := [Cond.instanceMethod yX0_isStepDue, Cond.selects RX0 yX0_isStepDue yX0_isStepDue, Cond.code yX0_isStepDue cX0_isStepDue 8 (some .boolean), Cond.methodLink RX0 148 yX0_isAwayFromZero, Cond.instanceMethod yX0_isAwayFromZero, Cond.selects RX0 yX0_isAwayFromZero yX0_isAwayFromZero, Cond.code yX0_isAwayFromZero cX0_isAwayFromZero 2 (some .boolean), Cond.methodLink RX0 140 yX0_isTiny, Cond.static yX0_isTiny, Cond.code yX0_isTiny cX0_isTiny 3 (some .boolean), Cond.methodLink RX0 145 yX0_overflowed, Cond.instanceMethod yX0_overflowed, Cond.selects RX0 yX0_overflowed yX0_overflowed, Cond.code yX0_overflowed cX0_overflowed 3 (some .int), Cond.constant RX0 151 (2139095039), Cond.methodLink RX0 133 yX0_aligned, Cond.static yX0_aligned, Cond.code yX0_aligned cX0_aligned 3 (some .long), Cond.methodLink RX0 71 yX0_withTrace, Cond.static yX0_withTrace, Cond.code yX0_withTrace cX0_withTrace 3 (some .long), Cond.methodLink RX0 75 yX0_isNegative, Cond.static yX0_isNegative, Cond.code yX0_isNegative cX0_isNegative 1 (some .boolean)]
def wsX0_fused : List Cond := .code yX0_fused cX0_fused 4 (some .int) :: ((wsX0_fused_r1 ++ (wsX0_fused_r2 ++ (wsX0_fused_r3 ++ (wsX0_fused_r4 ++ wsX0_fused_r5)))) ++ wsX00)
def wsX0_scale_r1 : List Cond := [Cond.methodLink RX0 82 Lib.Math.min.name, Cond.static Lib.Math.min.name, Cond.initialized "java/lang/Math", Cond.code Lib.Math.min.name Lib.Math.min.code 2 (some .int), Cond.methodLink RX0 88 Lib.Math.max.name, Cond.static Lib.Math.max.name, Cond.code Lib.Math.max.name Lib.Math.max.code 2 (some .int), Cond.methodLink RX0 22 yX0_isNoNumber, Cond.static yX0_isNoNumber, Cond.initialized RX0, Cond.code yX0_isNoNumber cX0_isNoNumber 1 (some .boolean), Cond.constant RX0 121 (2147483647), Cond.constant RX0 48 (2139095040), Cond.methodLink RX0 26 yX0_isLoud, Cond.static yX0_isLoud, Cond.code yX0_isLoud cX0_isLoud 1 (some .boolean), Cond.constant RX0 122 (8388607), Cond.constant RX0 123 (4194304), Cond.methodLink RX0 29 yX0_noNumber, Cond.instanceMethod yX0_noNumber, Cond.selects RX0 yX0_noNumber yX0_noNumber, Cond.code yX0_noNumber cX0_noNumber 2 (some .int), Cond.constant RX0 125 (2143289344), Cond.methodLink RX0 63 yX0_raise]
def wsX0_scale_r2 : List Cond := [Cond.instanceMethod yX0_raise, Cond.selects RX0 yX0_raise yX0_raise, Cond.code yX0_raise cX0_raise 2 none, Cond.fieldLink RX0 13 "RealBits" "raisedFlags" "I", Cond.methodLink RX0 45 yX0_isInfinite, Cond.static yX0_isInfinite, Cond.code yX0_isInfinite cX0_isInfinite 1 (some .boolean), Cond.methodLink RX0 41 yX0_signOf, Cond.static yX0_signOf, Cond.code yX0_signOf cX0_signOf 1 (some .int), Cond.constant RX0 21 (-2147483648), Cond.methodLink RX0 49 yX0_magnitudeOf, Cond.static yX0_magnitudeOf, Cond.code yX0_magnitudeOf cX0_magnitudeOf 2 (some .long), Cond.constant RX0 124 (8388608), Cond.methodLink RX0 118 yX0_exponentOf, Cond.static yX0_exponentOf, Cond.code yX0_exponentOf cX0_exponentOf 1 (some .int), Cond.methodLink RX0 53 yX0_unitOf, Cond.static yX0_unitOf, Cond.code yX0_unitOf cX0_unitOf 1 (some .int), Cond.methodLink RX0 56 yX0_rounded, Cond.instanceMethod yX0_rounded, Cond.selects RX0 yX0_rounded yX0_rounded]
def wsX0_scale_r3 : List Cond := [Cond.code yX0_rounded cX0_rounded 11 (some .int), Cond.constantLong RX0 143 (2139095040), Cond.methodLink RX0 67 yX0_bitLength, Cond.static yX0_bitLength, Cond.code yX0_bitLength cX0_bitLength 2 (some .int), Cond.methodLink RX0 156 yJ13_numberOfLeadingZeros_95d88, Cond.static yJ13_numberOfLeadingZeros_95d88, Cond.initialized RJ13, Cond.code yJ13_numberOfLeadingZeros_95d88 cJ13_numberOfLeadingZeros_95d88 3 (some .int), Cond.methodLink RJ13 308 yJ6_numberOfLeadingZeros_0f7a4, Cond.static yJ6_numberOfLeadingZeros_0f7a4, Cond.initialized RJ6, Cond.code yJ6_numberOfLeadingZeros_0f7a4 cJ6_numberOfLeadingZeros_0f7a4 2 (some .int), Cond.constant RJ6 264 (65536), Cond.methodLink RX0 91 yX0_isMultiple, Cond.static yX0_isMultiple, Cond.code yX0_isMultiple cX0_isMultiple 3 (some .boolean), Cond.methodLink RX0 95 yX0_multiple, Cond.instanceMethod yX0_multiple, Cond.selects RX0 yX0_multiple yX0_multiple, Cond.code yX0_multiple cX0_multiple 7 (some .long), Cond.methodLink RX0 137 yX0_shiftedRight, Cond.static yX0_shiftedRight, Cond.code yX0_shiftedRight cX0_shiftedRight 3 (some .long)]
def wsX0_scale_r4 : List Cond := [Cond.methodLink RX0 152 yX0_isStepDue, Cond.instanceMethod yX0_isStepDue, Cond.selects RX0 yX0_isStepDue yX0_isStepDue, Cond.code yX0_isStepDue cX0_isStepDue 8 (some .boolean), Cond.fieldLink RX0 9 "RealBits" "currentMode" "I", Cond.methodLink RX0 148 yX0_isAwayFromZero, Cond.instanceMethod yX0_isAwayFromZero, Cond.selects RX0 yX0_isAwayFromZero yX0_isAwayFromZero, Cond.code yX0_isAwayFromZero cX0_isAwayFromZero 2 (some .boolean), Cond.methodLink RX0 140 yX0_isTiny, Cond.static yX0_isTiny, Cond.code yX0_isTiny cX0_isTiny 3 (some .boolean), Cond.methodLink RX0 145 yX0_overflowed, Cond.instanceMethod yX0_overflowed, Cond.selects RX0 yX0_overflowed yX0_overflowed, Cond.code yX0_overflowed cX0_overflowed 3 (some .int), Cond.constant RX0 151 (2139095039)]
def wsX0_scale : List Cond := .code yX0_scale cX0_scale 4 (some .int) :: ((wsX0_scale_r1 ++ (wsX0_scale_r2 ++ (wsX0_scale_r3 ++ wsX0_scale_r4))) ++ wsX00)
def wsX0_whole_r1 : List Cond := [Cond.methodLink RX0 22 yX0_isNoNumber, Cond.static yX0_isNoNumber, Cond.initialized RX0, Cond.code yX0_isNoNumber cX0_isNoNumber 1 (some .boolean), Cond.constant RX0 121 (2147483647), Cond.constant RX0 48 (2139095040), Cond.methodLink RX0 26 yX0_isLoud, Cond.static yX0_isLoud, Cond.code yX0_isLoud cX0_isLoud 1 (some .boolean), Cond.constant RX0 122 (8388607), Cond.constant RX0 123 (4194304), Cond.methodLink RX0 29 yX0_noNumber, Cond.instanceMethod yX0_noNumber, Cond.selects RX0 yX0_noNumber yX0_noNumber, Cond.code yX0_noNumber cX0_noNumber 2 (some .int), Cond.constant RX0 125 (2143289344), Cond.methodLink RX0 63 yX0_raise, Cond.instanceMethod yX0_raise, Cond.selects RX0 yX0_raise yX0_raise, Cond.code yX0_raise cX0_raise 2 none, Cond.fieldLink RX0 13 "RealBits" "raisedFlags" "I", Cond.methodLink RX0 45 yX0_isInfinite, Cond.static yX0_isInfinite, Cond.code yX0_isInfinite cX0_isInfinite 1 (some .boolean)]
def wsX0_whole_r2 : List Cond := [Cond.methodLink RX0 53 yX0_unitOf, Cond.static yX0_unitOf, Cond.code yX0_unitOf cX0_unitOf 1 (some .int), Cond.methodLink RX0 88 Lib.Math.max.name, Cond.static Lib.Math.max.name, Cond.initialized "java/lang/Math", Cond.code Lib.Math.max.name Lib.Math.max.code 2 (some .int), Cond.methodLink RX0 118 yX0_exponentOf, Cond.static yX0_exponentOf, Cond.code yX0_exponentOf cX0_exponentOf 1 (some .int), Cond.methodLink RX0 49 yX0_magnitudeOf, Cond.static yX0_magnitudeOf, Cond.code yX0_magnitudeOf cX0_magnitudeOf 2 (some .long), Cond.constant RX0 124 (8388608), Cond.methodLink RX0 91 yX0_isMultiple, Cond.static yX0_isMultiple, Cond.code yX0_isMultiple cX0_isMultiple 3 (some .boolean), Cond.methodLink RX0 41 yX0_signOf, Cond.static yX0_signOf, Cond.code yX0_signOf cX0_signOf 1 (some .int), Cond.constant RX0 21 (-2147483648), Cond.methodLink RX0 95 yX0_multiple, Cond.instanceMethod yX0_multiple, Cond.selects RX0 yX0_multiple yX0_multiple]
def wsX0_whole_r3 : List Cond := [Cond.code yX0_multiple cX0_multiple 7 (some .long), Cond.methodLink RX0 137 yX0_shiftedRight, Cond.static yX0_shiftedRight, Cond.code yX0_shiftedRight cX0_shiftedRight 3 (some .long), Cond.methodLink RX0 152 yX0_isStepDue, Cond.instanceMethod yX0_isStepDue, Cond.selects RX0 yX0_isStepDue yX0_isStepDue, Cond.code yX0_isStepDue cX0_isStepDue 8 (some .boolean), Cond.fieldLink RX0 9 "RealBits" "currentMode" "I", Cond.methodLink RX0 148 yX0_isAwayFromZero, Cond.instanceMethod yX0_isAwayFromZero, Cond.selects RX0 yX0_isAwayFromZero yX0_isAwayFromZero, Cond.code yX0_isAwayFromZero cX0_isAwayFromZero 2 (some .boolean), Cond.methodLink RX0 56 yX0_rounded, Cond.instanceMethod yX0_rounded, Cond.selects RX0 yX0_rounded yX0_rounded, Cond.code yX0_rounded cX0_rounded 11 (some .int), Cond.constantLong RX0 143 (2139095040), Cond.methodLink RX0 67 yX0_bitLength, Cond.static yX0_bitLength, Cond.code yX0_bitLength cX0_bitLength 2 (some .int), Cond.methodLink RX0 156 yJ13_numberOfLeadingZeros_95d88, Cond.static yJ13_numberOfLeadingZeros_95d88, Cond.initialized RJ13]
def wsX0_whole_r4 : List Cond := [Cond.code yJ13_numberOfLeadingZeros_95d88 cJ13_numberOfLeadingZeros_95d88 3 (some .int), Cond.methodLink RJ13 308 yJ6_numberOfLeadingZeros_0f7a4, Cond.static yJ6_numberOfLeadingZeros_0f7a4, Cond.initialized RJ6, Cond.code yJ6_numberOfLeadingZeros_0f7a4 cJ6_numberOfLeadingZeros_0f7a4 2 (some .int), Cond.constant RJ6 264 (65536), Cond.methodLink RX0 140 yX0_isTiny, Cond.static yX0_isTiny, Cond.code yX0_isTiny cX0_isTiny 3 (some .boolean), Cond.methodLink RX0 145 yX0_overflowed, Cond.instanceMethod yX0_overflowed, Cond.selects RX0 yX0_overflowed yX0_overflowed, Cond.code yX0_overflowed cX0_overflowed 3 (some .int), Cond.constant RX0 151 (2139095039)]
def wsX0_whole : List Cond := .code yX0_whole cX0_whole 2 (some .int) :: ((wsX0_whole_r1 ++ (wsX0_whole_r2 ++ (wsX0_whole_r3 ++ wsX0_whole_r4))) ++ wsX00)
def wsX0_isFinite : List Cond := .code yX0_isFinite cX0_isFinite 1 (some .boolean) :: ([.constant RX0 121 (2147483647), .constant RX0 48 (2139095040)])
def wsX0_invalidInt : List Cond := .code yX0_invalidInt cX0_invalidInt 1 (some .int) :: ([.constant RX0 21 (-2147483648), .methodLink RX0 63 yX0_raise, .instanceMethod yX0_raise, .selects RX0 yX0_raise yX0_raise, .initialized RX0, .code yX0_raise cX0_raise 2 none, .fieldLink RX0 13 "RealBits" "raisedFlags" "I"] ++ wsX00)
def wsX0_toInt_r1 : List Cond := [Cond.constantLong RX0 105 (-2147483648), Cond.constantLong RX0 107 (2147483647), Cond.methodLink RX0 99 yX0_isFinite, Cond.static yX0_isFinite, Cond.initialized RX0, Cond.code yX0_isFinite cX0_isFinite 1 (some .boolean), Cond.constant RX0 121 (2147483647), Cond.constant RX0 48 (2139095040), Cond.methodLink RX0 53 yX0_unitOf, Cond.static yX0_unitOf, Cond.code yX0_unitOf cX0_unitOf 1 (some .int), Cond.methodLink RX0 88 Lib.Math.max.name, Cond.static Lib.Math.max.name, Cond.initialized "java/lang/Math", Cond.code Lib.Math.max.name Lib.Math.max.code 2 (some .int), Cond.methodLink RX0 118 yX0_exponentOf, Cond.static yX0_exponentOf, Cond.code yX0_exponentOf cX0_exponentOf 1 (some .int), Cond.methodLink RX0 102 yX0_invalidInt, Cond.instanceMethod yX0_invalidInt, Cond.selects RX0 yX0_invalidInt yX0_invalidInt, Cond.code yX0_invalidInt cX0_invalidInt 1 (some .int), Cond.constant RX0 21 (-2147483648), Cond.methodLink RX0 63 yX0_raise]
def wsX0_toInt_r2 : List Cond := [Cond.instanceMethod yX0_raise, Cond.selects RX0 yX0_raise yX0_raise, Cond.code yX0_raise cX0_raise 2 none, Cond.fieldLink RX0 13 "RealBits" "raisedFlags" "I", Cond.methodLink RX0 41 yX0_signOf, Cond.static yX0_signOf, Cond.code yX0_signOf cX0_signOf 1 (some .int), Cond.methodLink RX0 49 yX0_magnitudeOf, Cond.static yX0_magnitudeOf, Cond.code yX0_magnitudeOf cX0_magnitudeOf 2 (some .long), Cond.constant RX0 122 (8388607), Cond.constant RX0 124 (8388608), Cond.methodLink RX0 95 yX0_multiple, Cond.instanceMethod yX0_multiple, Cond.selects RX0 yX0_multiple yX0_multiple, Cond.code yX0_multiple cX0_multiple 7 (some .long), Cond.methodLink RX0 137 yX0_shiftedRight, Cond.static yX0_shiftedRight, Cond.code yX0_shiftedRight cX0_shiftedRight 3 (some .long), Cond.methodLink RX0 152 yX0_isStepDue, Cond.instanceMethod yX0_isStepDue, Cond.selects RX0 yX0_isStepDue yX0_isStepDue, Cond.code yX0_isStepDue cX0_isStepDue 8 (some .boolean), Cond.fieldLink RX0 9 "RealBits" "currentMode" "I"]
def wsX0_toInt_r3 : List Cond := [Cond.methodLink RX0 91 yX0_isMultiple, Cond.static yX0_isMultiple, Cond.code yX0_isMultiple cX0_isMultiple 3 (some .boolean), Cond.methodLink RX0 148 yX0_isAwayFromZero, Cond.instanceMethod yX0_isAwayFromZero, Cond.selects RX0 yX0_isAwayFromZero yX0_isAwayFromZero, Cond.code yX0_isAwayFromZero cX0_isAwayFromZero 2 (some .boolean), Cond.methodLink RX0 75 yX0_isNegative, Cond.static yX0_isNegative, Cond.code yX0_isNegative cX0_isNegative 1 (some .boolean)]
def wsX0_toInt : List Cond := .code yX0_toInt cX0_toInt 6 (some .int) :: ((wsX0_toInt_r1 ++ (wsX0_toInt_r2 ++ wsX0_toInt_r3)) ++ wsX00)
def wsX0_fromInt_r1 : List Cond := [Cond.methodLink RX0 109 Lib.MathLoose.abs_long.x, Cond.static Lib.MathLoose.abs_long.x, Cond.initialized "java/lang/Math", Cond.code Lib.MathLoose.abs_long.x Lib.MathLoose.abs_long.code 2 (some .long), Cond.methodLink RX0 41 yX0_signOf, Cond.static yX0_signOf, Cond.initialized RX0, Cond.code yX0_signOf cX0_signOf 1 (some .int), Cond.constant RX0 21 (-2147483648), Cond.methodLink RX0 56 yX0_rounded, Cond.instanceMethod yX0_rounded, Cond.selects RX0 yX0_rounded yX0_rounded, Cond.code yX0_rounded cX0_rounded 11 (some .int), Cond.methodLink RX0 88 Lib.Math.max.name, Cond.static Lib.Math.max.name, Cond.code Lib.Math.max.name Lib.Math.max.code 2 (some .int), Cond.constantLong RX0 143 (2139095040), Cond.methodLink RX0 67 yX0_bitLength, Cond.static yX0_bitLength, Cond.code yX0_bitLength cX0_bitLength 2 (some .int), Cond.methodLink RX0 156 yJ13_numberOfLeadingZeros_95d88, Cond.static yJ13_numberOfLeadingZeros_95d88, Cond.initialized RJ13, Cond.code yJ13_numberOfLeadingZeros_95d88 cJ13_numberOfLeadingZeros_95d88 3 (some .int)]
def wsX0_fromInt_r2 : List Cond := [Cond.methodLink RJ13 308 yJ6_numberOfLeadingZeros_0f7a4, Cond.static yJ6_numberOfLeadingZeros_0f7a4, Cond.initialized RJ6, Cond.code yJ6_numberOfLeadingZeros_0f7a4 cJ6_numberOfLeadingZeros_0f7a4 2 (some .int), Cond.constant RJ6 264 (65536), Cond.methodLink RX0 91 yX0_isMultiple, Cond.static yX0_isMultiple, Cond.code yX0_isMultiple cX0_isMultiple 3 (some .boolean), Cond.methodLink RX0 63 yX0_raise, Cond.instanceMethod yX0_raise, Cond.selects RX0 yX0_raise yX0_raise, Cond.code yX0_raise cX0_raise 2 none, Cond.fieldLink RX0 13 "RealBits" "raisedFlags" "I", Cond.methodLink RX0 95 yX0_multiple, Cond.instanceMethod yX0_multiple, Cond.selects RX0 yX0_multiple yX0_multiple, Cond.code yX0_multiple cX0_multiple 7 (some .long), Cond.methodLink RX0 137 yX0_shiftedRight, Cond.static yX0_shiftedRight, Cond.code yX0_shiftedRight cX0_shiftedRight 3 (some .long), Cond.methodLink RX0 152 yX0_isStepDue, Cond.instanceMethod yX0_isStepDue, Cond.selects RX0 yX0_isStepDue yX0_isStepDue, Cond.code yX0_isStepDue cX0_isStepDue 8 (some .boolean)]
def wsX0_fromInt_r3 : List Cond := [Cond.fieldLink RX0 9 "RealBits" "currentMode" "I", Cond.methodLink RX0 148 yX0_isAwayFromZero, Cond.instanceMethod yX0_isAwayFromZero, Cond.selects RX0 yX0_isAwayFromZero yX0_isAwayFromZero, Cond.code yX0_isAwayFromZero cX0_isAwayFromZero 2 (some .boolean), Cond.methodLink RX0 140 yX0_isTiny, Cond.static yX0_isTiny, Cond.code yX0_isTiny cX0_isTiny 3 (some .boolean), Cond.methodLink RX0 145 yX0_overflowed, Cond.instanceMethod yX0_overflowed, Cond.selects RX0 yX0_overflowed yX0_overflowed, Cond.code yX0_overflowed cX0_overflowed 3 (some .int), Cond.constant RX0 48 (2139095040), Cond.constant RX0 151 (2139095039)]
def wsX0_fromInt : List Cond := .code yX0_fromInt cX0_fromInt 2 (some .int) :: ((wsX0_fromInt_r1 ++ (wsX0_fromInt_r2 ++ wsX0_fromInt_r3)) ++ wsX00)
def wsX0_place : List Cond := .code yX0_place cX0_place 2 (some .int) :: ([.constant RX0 121 (2147483647), .methodLink RX0 75 yX0_isNegative, .static yX0_isNegative, .initialized RX0, .code yX0_isNegative cX0_isNegative 1 (some .boolean)])
def wsX0_compare_r1 : List Cond := [Cond.methodLink RX0 22 yX0_isNoNumber, Cond.static yX0_isNoNumber, Cond.initialized RX0, Cond.code yX0_isNoNumber cX0_isNoNumber 1 (some .boolean), Cond.constant RX0 121 (2147483647), Cond.constant RX0 48 (2139095040), Cond.methodLink RX0 26 yX0_isLoud, Cond.static yX0_isLoud, Cond.code yX0_isLoud cX0_isLoud 1 (some .boolean), Cond.constant RX0 122 (8388607), Cond.constant RX0 123 (4194304), Cond.methodLink RX0 29 yX0_noNumber, Cond.instanceMethod yX0_noNumber, Cond.selects RX0 yX0_noNumber yX0_noNumber, Cond.code yX0_noNumber cX0_noNumber 2 (some .int), Cond.constant RX0 125 (2143289344), Cond.methodLink RX0 63 yX0_raise, Cond.instanceMethod yX0_raise, Cond.selects RX0 yX0_raise yX0_raise, Cond.code yX0_raise cX0_raise 2 none, Cond.fieldLink RX0 13 "RealBits" "raisedFlags" "I", Cond.methodLink RX0 112 yX0_place, Cond.static yX0_place, Cond.code yX0_place cX0_place 2 (some .int)]
def wsX0_compare_r2 : List Cond := [Cond.methodLink RX0 75 yX0_isNegative, Cond.static yX0_isNegative, Cond.code yX0_isNegative cX0_isNegative 1 (some .boolean)]
def wsX0_compare : List Cond := .code yX0_compare cX0_compare 5 (some .int) :: ((wsX0_compare_r1 ++ wsX0_compare_r2) ++ wsX00)
def wsX0_next_r1 : List Cond := [Cond.constant RX0 48 (2139095040), Cond.methodLink RX0 22 yX0_isNoNumber, Cond.static yX0_isNoNumber, Cond.initialized RX0, Cond.code yX0_isNoNumber cX0_isNoNumber 1 (some .boolean), Cond.constant RX0 121 (2147483647), Cond.methodLink RX0 26 yX0_isLoud, Cond.static yX0_isLoud, Cond.code yX0_isLoud cX0_isLoud 1 (some .boolean), Cond.constant RX0 122 (8388607), Cond.constant RX0 123 (4194304), Cond.methodLink RX0 29 yX0_noNumber, Cond.instanceMethod yX0_noNumber, Cond.selects RX0 yX0_noNumber yX0_noNumber, Cond.code yX0_noNumber cX0_noNumber 2 (some .int), Cond.constant RX0 125 (2143289344), Cond.methodLink RX0 63 yX0_raise, Cond.instanceMethod yX0_raise, Cond.selects RX0 yX0_raise yX0_raise, Cond.code yX0_raise cX0_raise 2 none, Cond.fieldLink RX0 13 "RealBits" "raisedFlags" "I", Cond.methodLink RX0 60 yX0_isZero, Cond.static yX0_isZero, Cond.code yX0_isZero cX0_isZero 1 (some .boolean)]
def wsX0_next_r2 : List Cond := [Cond.methodLink RX0 75 yX0_isNegative, Cond.static yX0_isNegative, Cond.code yX0_isNegative cX0_isNegative 1 (some .boolean)]
def wsX0_next : List Cond := .code yX0_next cX0_next 2 (some .int) :: ((wsX0_next_r1 ++ wsX0_next_r2) ++ wsX00)
def wsX0_kindWithoutSign : List Cond := .code yX0_kindWithoutSign cX0_kindWithoutSign 1 (some .int) :: ([.methodLink RX0 22 yX0_isNoNumber, .static yX0_isNoNumber, .initialized RX0, .code yX0_isNoNumber cX0_isNoNumber 1 (some .boolean), .constant RX0 121 (2147483647), .constant RX0 48 (2139095040), .methodLink RX0 26 yX0_isLoud, .static yX0_isLoud, .code yX0_isLoud cX0_isLoud 1 (some .boolean), .constant RX0 122 (8388607), .constant RX0 123 (4194304), .methodLink RX0 45 yX0_isInfinite, .static yX0_isInfinite, .code yX0_isInfinite cX0_isInfinite 1 (some .boolean), .methodLink RX0 60 yX0_isZero, .static yX0_isZero, .code yX0_isZero cX0_isZero 1 (some .boolean), .methodLink RX0 118 yX0_exponentOf, .static yX0_exponentOf, .code yX0_exponentOf cX0_exponentOf 1 (some .int)])
def wsX0_kind_r1 : List Cond := [Cond.methodLink RX0 115 yX0_kindWithoutSign, Cond.static yX0_kindWithoutSign, Cond.initialized RX0, Cond.code yX0_kindWithoutSign cX0_kindWithoutSign 1 (some .int), Cond.methodLink RX0 22 yX0_isNoNumber, Cond.static yX0_isNoNumber, Cond.code yX0_isNoNumber cX0_isNoNumber 1 (some .boolean), Cond.constant RX0 121 (2147483647), Cond.constant RX0 48 (2139095040), Cond.methodLink RX0 26 yX0_isLoud, Cond.static yX0_isLoud, Cond.code yX0_isLoud cX0_isLoud 1 (some .boolean), Cond.constant RX0 122 (8388607), Cond.constant RX0 123 (4194304), Cond.methodLink RX0 45 yX0_isInfinite, Cond.static yX0_isInfinite, Cond.code yX0_isInfinite cX0_isInfinite 1 (some .boolean), Cond.methodLink RX0 60 yX0_isZero, Cond.static yX0_isZero, Cond.code yX0_isZero cX0_isZero 1 (some .boolean), Cond.methodLink RX0 118 yX0_exponentOf, Cond.static yX0_exponentOf, Cond.code yX0_exponentOf cX0_exponentOf 1 (some .int), Cond.methodLink RX0 75 yX0_isNegative]
def wsX0_kind_r2 : List Cond := [Cond.static yX0_isNegative, Cond.code yX0_isNegative cX0_isNegative 1 (some .boolean)]
def wsX0_kind : List Cond := .code yX0_kind cX0_kind 2 (some .int) :: ((wsX0_kind_r1 ++ wsX0_kind_r2))
def wsX1_init : List Cond := .code yX1_init cX1_init 1 none :: ([.methodLink RX1 1 objectInit, .instanceMethod objectInit, .code objectInit ⟨#[0xb1]⟩ 1 none, .arrayClass .long, .fieldLink RX1 7 "RealBitsModel" "row" "[J", .fieldLink RX1 13 "RealBitsModel" "mode" "I"] ++ wsX10)
def wsX1_round : List Cond := .code yX1_round cX1_round 2 (some .boolean) :: ([.fieldLink RX1 13 "RealBitsModel" "mode" "I"] ++ wsX10)
def wsX1_mode : List Cond := .code yX1_mode cX1_mode 1 (some .int) :: ([.fieldLink RX1 13 "RealBitsModel" "mode" "I"] ++ wsX10)
def wsX1_flags : List Cond := .code yX1_flags cX1_flags 1 (some .int) :: ([.fieldLink RX1 17 "RealBitsModel" "flags" "I"] ++ wsX10)
def wsX1_clear : List Cond := .code yX1_clear cX1_clear 2 (some .int) :: ([.fieldLink RX1 17 "RealBitsModel" "flags" "I"] ++ wsX10)
def wsX1_exponent : List Cond := .code yX1_exponent cX1_exponent 1 (some .int) :: ([])
def wsX1_fraction : List Cond := .code yX1_fraction cX1_fraction 1 (some .int) :: ([.constant RX1 20 (8388607)])
def wsX1_isNone : List Cond := .code yX1_isNone cX1_isNone 1 (some .boolean) :: ([.methodLink RX1 21 yX1_exponent, .static yX1_exponent, .initialized RX1, .code yX1_exponent cX1_exponent 1 (some .int), .methodLink RX1 25 yX1_fraction, .static yX1_fraction, .code yX1_fraction cX1_fraction 1 (some .int), .constant RX1 20 (8388607)])
def wsX1_isLoud : List Cond := .code yX1_isLoud cX1_isLoud 1 (some .boolean) :: ([.constant RX1 32 (4194304), .methodLink RX1 28 yX1_isNone, .static yX1_isNone, .initialized RX1, .code yX1_isNone cX1_isNone 1 (some .boolean), .methodLink RX1 21 yX1_exponent, .static yX1_exponent, .code yX1_exponent cX1_exponent 1 (some .int), .methodLink RX1 25 yX1_fraction, .static yX1_fraction, .code yX1_fraction cX1_fraction 1 (some .int), .constant RX1 20 (8388607)])
def wsX1_isInfinite : List Cond := .code yX1_isInfinite cX1_isInfinite 1 (some .boolean) :: ([.methodLink RX1 21 yX1_exponent, .static yX1_exponent, .initialized RX1, .code yX1_exponent cX1_exponent 1 (some .int), .methodLink RX1 25 yX1_fraction, .static yX1_fraction, .code yX1_fraction cX1_fraction 1 (some .int), .constant RX1 20 (8388607)])
def wsX1_isZero : List Cond := .code yX1_isZero cX1_isZero 1 (some .boolean) :: ([.constant RX1 33 (2147483647)])
def wsX1_isNegative : List Cond := .code yX1_isNegative cX1_isNegative 1 (some .boolean) :: ([])
def wsX1_signed : List Cond := .code yX1_signed cX1_signed 2 (some .int) :: ([.constant RX1 34 (-2147483648)])
def wsX1_units : List Cond := .code yX1_units cX1_units 1 (some .int) :: ([.constant RX1 35 (8388608), .methodLink RX1 21 yX1_exponent, .static yX1_exponent, .initialized RX1, .code yX1_exponent cX1_exponent 1 (some .int), .methodLink RX1 25 yX1_fraction, .static yX1_fraction, .code yX1_fraction cX1_fraction 1 (some .int), .constant RX1 20 (8388607)])
def wsX1_place : List Cond := .code yX1_place cX1_place 1 (some .int) :: ([.methodLink RX1 21 yX1_exponent, .static yX1_exponent, .initialized RX1, .code yX1_exponent cX1_exponent 1 (some .int)])
def wsX1_none : List Cond := .code yX1_none cX1_none 4 (some .int) :: ([.fieldLink RX1 17 "RealBitsModel" "flags" "I", .constant RX1 39 (2143289344), .methodLink RX1 36 yX1_isLoud, .static yX1_isLoud, .initialized RX1, .code yX1_isLoud cX1_isLoud 1 (some .boolean), .constant RX1 32 (4194304), .methodLink RX1 28 yX1_isNone, .static yX1_isNone, .code yX1_isNone cX1_isNone 1 (some .boolean), .methodLink RX1 21 yX1_exponent, .static yX1_exponent, .code yX1_exponent cX1_exponent 1 (some .int), .methodLink RX1 25 yX1_fraction, .static yX1_fraction, .code yX1_fraction cX1_fraction 1 (some .int), .constant RX1 20 (8388607)] ++ wsX10)
def wsX1_invalid : List Cond := .code yX1_invalid cX1_invalid 1 (some .int) :: ([.fieldLink RX1 17 "RealBitsModel" "flags" "I", .constant RX1 39 (2143289344)] ++ wsX10)
def wsX1_empty : List Cond := .code yX1_empty cX1_empty 3 none :: ([.fieldLink RX1 7 "RealBitsModel" "row" "[J", .fieldLink RX1 40 "RealBitsModel" "base" "I", .fieldLink RX1 43 "RealBitsModel" "more" "Z"] ++ wsX10)
def wsX1_put : List Cond := .code yX1_put cX1_put 8 none :: ([.fieldLink RX1 40 "RealBitsModel" "base" "I", .fieldLink RX1 7 "RealBitsModel" "row" "[J", .constantLong RX1 47 (-1)] ++ wsX10)
def wsX1_carry : List Cond := .code yX1_carry cX1_carry 2 none :: ([.fieldLink RX1 7 "RealBitsModel" "row" "[J", .constantLong RX1 52 (16777215)] ++ wsX10)
def wsX1_settle : List Cond := .code yX1_settle cX1_settle 3 (some .boolean) :: ([.fieldLink RX1 7 "RealBitsModel" "row" "[J", .methodLink RX1 49 yX1_carry, .instanceMethod yX1_carry, .selects RX1 yX1_carry yX1_carry, .initialized RX1, .code yX1_carry cX1_carry 2 none, .constantLong RX1 52 (16777215)] ++ wsX10)
def wsX1_bit : List Cond := .code yX1_bit cX1_bit 2 (some .int) :: ([.fieldLink RX1 7 "RealBitsModel" "row" "[J"] ++ wsX10)
def wsX1_top : List Cond := .code yX1_top cX1_top 2 (some .int) :: ([.methodLink RX1 54 yX1_bit, .instanceMethod yX1_bit, .selects RX1 yX1_bit yX1_bit, .initialized RX1, .code yX1_bit cX1_bit 2 (some .int), .fieldLink RX1 7 "RealBitsModel" "row" "[J"] ++ wsX10)
def wsX1_below : List Cond := .code yX1_below cX1_below 3 (some .boolean) :: ([.fieldLink RX1 43 "RealBitsModel" "more" "Z", .methodLink RX1 54 yX1_bit, .instanceMethod yX1_bit, .selects RX1 yX1_bit yX1_bit, .initialized RX1, .code yX1_bit cX1_bit 2 (some .int), .fieldLink RX1 7 "RealBitsModel" "row" "[J"] ++ wsX10)
def wsX1_rounded : List Cond := .code yX1_rounded cX1_rounded 7 (some .int) :: ([.fieldLink RX1 60 "RealBitsModel" "exact" "Z", .fieldLink RX1 13 "RealBitsModel" "mode" "I", .methodLink RX1 54 yX1_bit, .instanceMethod yX1_bit, .selects RX1 yX1_bit yX1_bit, .initialized RX1, .code yX1_bit cX1_bit 2 (some .int), .fieldLink RX1 7 "RealBitsModel" "row" "[J", .methodLink RX1 57 yX1_below, .instanceMethod yX1_below, .selects RX1 yX1_below yX1_below, .code yX1_below cX1_below 3 (some .boolean), .fieldLink RX1 43 "RealBitsModel" "more" "Z"] ++ wsX10)
def wsX1_finish_r1 : List Cond := [Cond.fieldLink RX1 40 "RealBitsModel" "base" "I", Cond.constant RX1 71 (16777216), Cond.fieldLink RX1 60 "RealBitsModel" "exact" "Z", Cond.fieldLink RX1 17 "RealBitsModel" "flags" "I", Cond.fieldLink RX1 13 "RealBitsModel" "mode" "I", Cond.constant RX1 72 (2139095039), Cond.constant RX1 73 (2139095040), Cond.constant RX1 35 (8388608), Cond.methodLink RX1 63 yX1_top, Cond.instanceMethod yX1_top, Cond.selects RX1 yX1_top yX1_top, Cond.initialized RX1, Cond.code yX1_top cX1_top 2 (some .int), Cond.methodLink RX1 54 yX1_bit, Cond.instanceMethod yX1_bit, Cond.selects RX1 yX1_bit yX1_bit, Cond.code yX1_bit cX1_bit 2 (some .int), Cond.fieldLink RX1 7 "RealBitsModel" "row" "[J", Cond.methodLink RX1 67 yX1_rounded, Cond.instanceMethod yX1_rounded, Cond.selects RX1 yX1_rounded yX1_rounded, Cond.code yX1_rounded cX1_rounded 7 (some .int), Cond.methodLink RX1 57 yX1_below, Cond.instanceMethod yX1_below]
def wsX1_finish_r2 : List Cond := [Cond.selects RX1 yX1_below yX1_below, Cond.code yX1_below cX1_below 3 (some .boolean), Cond.fieldLink RX1 43 "RealBitsModel" "more" "Z", Cond.methodLink RX1 74 yX1_signed, Cond.static yX1_signed, Cond.code yX1_signed cX1_signed 2 (some .int), Cond.constant RX1 34 (-2147483648)]
def wsX1_finish : List Cond := .code yX1_finish cX1_finish 7 (some .int) :: ((wsX1_finish_r1 ++ wsX1_finish_r2) ++ wsX10)
def wsX1_zero : List Cond := .code yX1_zero cX1_zero 4 (some .int) :: ([.fieldLink RX1 13 "RealBitsModel" "mode" "I", .methodLink RX1 74 yX1_signed, .static yX1_signed, .initialized RX1, .code yX1_signed cX1_signed 2 (some .int), .constant RX1 34 (-2147483648)] ++ wsX10)
def wsX1_add_r1 : List Cond := [Cond.methodLink RX1 28 yX1_isNone, Cond.static yX1_isNone, Cond.initialized RX1, Cond.code yX1_isNone cX1_isNone 1 (some .boolean), Cond.methodLink RX1 21 yX1_exponent, Cond.static yX1_exponent, Cond.code yX1_exponent cX1_exponent 1 (some .int), Cond.methodLink RX1 25 yX1_fraction, Cond.static yX1_fraction, Cond.code yX1_fraction cX1_fraction 1 (some .int), Cond.constant RX1 20 (8388607), Cond.methodLink RX1 77 yX1_none, Cond.instanceMethod yX1_none, Cond.selects RX1 yX1_none yX1_none, Cond.code yX1_none cX1_none 4 (some .int), Cond.fieldLink RX1 17 "RealBitsModel" "flags" "I", Cond.constant RX1 39 (2143289344), Cond.methodLink RX1 36 yX1_isLoud, Cond.static yX1_isLoud, Cond.code yX1_isLoud cX1_isLoud 1 (some .boolean), Cond.constant RX1 32 (4194304), Cond.methodLink RX1 81 yX1_isInfinite, Cond.static yX1_isInfinite, Cond.code yX1_isInfinite cX1_isInfinite 1 (some .boolean)]
def wsX1_add_r2 : List Cond := [Cond.methodLink RX1 84 yX1_isNegative, Cond.static yX1_isNegative, Cond.code yX1_isNegative cX1_isNegative 1 (some .boolean), Cond.methodLink RX1 87 yX1_invalid, Cond.instanceMethod yX1_invalid, Cond.selects RX1 yX1_invalid yX1_invalid, Cond.code yX1_invalid cX1_invalid 1 (some .int), Cond.methodLink RX1 90 yX1_empty, Cond.instanceMethod yX1_empty, Cond.selects RX1 yX1_empty yX1_empty, Cond.code yX1_empty cX1_empty 3 none, Cond.fieldLink RX1 7 "RealBitsModel" "row" "[J", Cond.fieldLink RX1 40 "RealBitsModel" "base" "I", Cond.fieldLink RX1 43 "RealBitsModel" "more" "Z", Cond.methodLink RX1 94 yX1_units, Cond.static yX1_units, Cond.code yX1_units cX1_units 1 (some .int), Cond.constant RX1 35 (8388608), Cond.methodLink RX1 97 yX1_place, Cond.static yX1_place, Cond.code yX1_place cX1_place 1 (some .int), Cond.methodLink RX1 100 yX1_put, Cond.instanceMethod yX1_put, Cond.selects RX1 yX1_put yX1_put]
def wsX1_add_r3 : List Cond := [Cond.code yX1_put cX1_put 8 none, Cond.constantLong RX1 47 (-1), Cond.methodLink RX1 104 yX1_settle, Cond.instanceMethod yX1_settle, Cond.selects RX1 yX1_settle yX1_settle, Cond.code yX1_settle cX1_settle 3 (some .boolean), Cond.methodLink RX1 49 yX1_carry, Cond.instanceMethod yX1_carry, Cond.selects RX1 yX1_carry yX1_carry, Cond.code yX1_carry cX1_carry 2 none, Cond.constantLong RX1 52 (16777215), Cond.methodLink RX1 63 yX1_top, Cond.instanceMethod yX1_top, Cond.selects RX1 yX1_top yX1_top, Cond.code yX1_top cX1_top 2 (some .int), Cond.methodLink RX1 54 yX1_bit, Cond.instanceMethod yX1_bit, Cond.selects RX1 yX1_bit yX1_bit, Cond.code yX1_bit cX1_bit 2 (some .int), Cond.methodLink RX1 108 yX1_isZero, Cond.static yX1_isZero, Cond.code yX1_isZero cX1_isZero 1 (some .boolean), Cond.constant RX1 33 (2147483647), Cond.methodLink RX1 111 yX1_zero]
def wsX1_add_r4 : List Cond := [Cond.instanceMethod yX1_zero, Cond.selects RX1 yX1_zero yX1_zero, Cond.code yX1_zero cX1_zero 4 (some .int), Cond.fieldLink RX1 13 "RealBitsModel" "mode" "I", Cond.methodLink RX1 74 yX1_signed, Cond.static yX1_signed, Cond.code yX1_signed cX1_signed 2 (some .int), Cond.constant RX1 34 (-2147483648), Cond.methodLink RX1 115 yX1_finish, Cond.instanceMethod yX1_finish, Cond.selects RX1 yX1_finish yX1_finish, Cond.code yX1_finish cX1_finish 7 (some .int), Cond.constant RX1 71 (16777216), Cond.fieldLink RX1 60 "RealBitsModel" "exact" "Z", Cond.constant RX1 72 (2139095039), Cond.constant RX1 73 (2139095040), Cond.methodLink RX1 67 yX1_rounded, Cond.instanceMethod yX1_rounded, Cond.selects RX1 yX1_rounded yX1_rounded, Cond.code yX1_rounded cX1_rounded 7 (some .int), Cond.methodLink RX1 57 yX1_below, Cond.instanceMethod yX1_below, Cond.selects RX1 yX1_below yX1_below, Cond.code yX1_below cX1_below 3 (some .boolean)]
def wsX1_add : List Cond := .code yX1_add cX1_add 4 (some .int) :: ((wsX1_add_r1 ++ (wsX1_add_r2 ++ (wsX1_add_r3 ++ wsX1_add_r4))) ++ wsX10)
def wsX1_subtract_r1 : List Cond := [Cond.constant RX1 34 (-2147483648), Cond.methodLink RX1 28 yX1_isNone, Cond.static yX1_isNone, Cond.initialized RX1, Cond.code yX1_isNone cX1_isNone 1 (some .boolean), Cond.methodLink RX1 21 yX1_exponent, Cond.static yX1_exponent, Cond.code yX1_exponent cX1_exponent 1 (some .int), Cond.methodLink RX1 25 yX1_fraction, Cond.static yX1_fraction, Cond.code yX1_fraction cX1_fraction 1 (some .int), Cond.constant RX1 20 (8388607), Cond.methodLink RX1 77 yX1_none, Cond.instanceMethod yX1_none, Cond.selects RX1 yX1_none yX1_none, Cond.code yX1_none cX1_none 4 (some .int), Cond.fieldLink RX1 17 "RealBitsModel" "flags" "I", Cond.constant RX1 39 (2143289344), Cond.methodLink RX1 36 yX1_isLoud, Cond.static yX1_isLoud, Cond.code yX1_isLoud cX1_isLoud 1 (some .boolean), Cond.constant RX1 32 (4194304), Cond.methodLink RX1 119 yX1_add, Cond.instanceMethod yX1_add]
def wsX1_subtract_r2 : List Cond := [Cond.selects RX1 yX1_add yX1_add, Cond.code yX1_add cX1_add 4 (some .int), Cond.methodLink RX1 81 yX1_isInfinite, Cond.static yX1_isInfinite, Cond.code yX1_isInfinite cX1_isInfinite 1 (some .boolean), Cond.methodLink RX1 84 yX1_isNegative, Cond.static yX1_isNegative, Cond.code yX1_isNegative cX1_isNegative 1 (some .boolean), Cond.methodLink RX1 87 yX1_invalid, Cond.instanceMethod yX1_invalid, Cond.selects RX1 yX1_invalid yX1_invalid, Cond.code yX1_invalid cX1_invalid 1 (some .int), Cond.methodLink RX1 90 yX1_empty, Cond.instanceMethod yX1_empty, Cond.selects RX1 yX1_empty yX1_empty, Cond.code yX1_empty cX1_empty 3 none, Cond.fieldLink RX1 7 "RealBitsModel" "row" "[J", Cond.fieldLink RX1 40 "RealBitsModel" "base" "I", Cond.fieldLink RX1 43 "RealBitsModel" "more" "Z", Cond.methodLink RX1 94 yX1_units, Cond.static yX1_units, Cond.code yX1_units cX1_units 1 (some .int), Cond.constant RX1 35 (8388608), Cond.methodLink RX1 97 yX1_place]
def wsX1_subtract_r3 : List Cond := [Cond.static yX1_place, Cond.code yX1_place cX1_place 1 (some .int), Cond.methodLink RX1 100 yX1_put, Cond.instanceMethod yX1_put, Cond.selects RX1 yX1_put yX1_put, Cond.code yX1_put cX1_put 8 none, Cond.constantLong RX1 47 (-1), Cond.methodLink RX1 104 yX1_settle, Cond.instanceMethod yX1_settle, Cond.selects RX1 yX1_settle yX1_settle, Cond.code yX1_settle cX1_settle 3 (some .boolean), Cond.methodLink RX1 49 yX1_carry, Cond.instanceMethod yX1_carry, Cond.selects RX1 yX1_carry yX1_carry, Cond.code yX1_carry cX1_carry 2 none, Cond.constantLong RX1 52 (16777215), Cond.methodLink RX1 63 yX1_top, Cond.instanceMethod yX1_top, Cond.selects RX1 yX1_top yX1_top, Cond.code yX1_top cX1_top 2 (some .int), Cond.methodLink RX1 54 yX1_bit, Cond.instanceMethod yX1_bit, Cond.selects RX1 yX1_bit yX1_bit, Cond.code yX1_bit cX1_bit 2 (some .int)]
def wsX1_subtract_r4 : List Cond := [Cond.methodLink RX1 108 yX1_isZero, Cond.static yX1_isZero, Cond.code yX1_isZero cX1_isZero 1 (some .boolean), Cond.constant RX1 33 (2147483647), Cond.methodLink RX1 111 yX1_zero, Cond.instanceMethod yX1_zero, Cond.selects RX1 yX1_zero yX1_zero, Cond.code yX1_zero cX1_zero 4 (some .int), Cond.fieldLink RX1 13 "RealBitsModel" "mode" "I", Cond.methodLink RX1 74 yX1_signed, Cond.static yX1_signed, Cond.code yX1_signed cX1_signed 2 (some .int), Cond.methodLink RX1 115 yX1_finish, Cond.instanceMethod yX1_finish, Cond.selects RX1 yX1_finish yX1_finish, Cond.code yX1_finish cX1_finish 7 (some .int), Cond.constant RX1 71 (16777216), Cond.fieldLink RX1 60 "RealBitsModel" "exact" "Z", Cond.constant RX1 72 (2139095039), Cond.constant RX1 73 (2139095040), Cond.methodLink RX1 67 yX1_rounded, Cond.instanceMethod yX1_rounded, Cond.selects RX1 yX1_rounded yX1_rounded, Cond.code yX1_rounded cX1_rounded 7 (some .int)]
def wsX1_subtract_r5 : List Cond := [Cond.methodLink RX1 57 yX1_below, Cond.instanceMethod yX1_below, Cond.selects RX1 yX1_below yX1_below, Cond.code yX1_below cX1_below 3 (some .boolean)]
def wsX1_subtract : List Cond := .code yX1_subtract cX1_subtract 3 (some .int) :: ((wsX1_subtract_r1 ++ (wsX1_subtract_r2 ++ (wsX1_subtract_r3 ++ (wsX1_subtract_r4 ++ wsX1_subtract_r5)))) ++ wsX10)
def wsX1_fused_r1 : List Cond := [Cond.constant RX1 73 (2139095040), Cond.methodLink RX1 28 yX1_isNone, Cond.static yX1_isNone, Cond.initialized RX1, Cond.code yX1_isNone cX1_isNone 1 (some .boolean), Cond.methodLink RX1 21 yX1_exponent, Cond.static yX1_exponent, Cond.code yX1_exponent cX1_exponent 1 (some .int), Cond.methodLink RX1 25 yX1_fraction, Cond.static yX1_fraction, Cond.code yX1_fraction cX1_fraction 1 (some .int), Cond.constant RX1 20 (8388607), Cond.methodLink RX1 108 yX1_isZero, Cond.static yX1_isZero, Cond.code yX1_isZero cX1_isZero 1 (some .boolean), Cond.constant RX1 33 (2147483647), Cond.methodLink RX1 81 yX1_isInfinite, Cond.static yX1_isInfinite, Cond.code yX1_isInfinite cX1_isInfinite 1 (some .boolean), Cond.methodLink RX1 87 yX1_invalid, Cond.instanceMethod yX1_invalid, Cond.selects RX1 yX1_invalid yX1_invalid, Cond.code yX1_invalid cX1_invalid 1 (some .int), Cond.fieldLink RX1 17 "RealBitsModel" "flags" "I"]
def wsX1_fused_r2 : List Cond := [Cond.constant RX1 39 (2143289344), Cond.methodLink RX1 77 yX1_none, Cond.instanceMethod yX1_none, Cond.selects RX1 yX1_none yX1_none, Cond.code yX1_none cX1_none 4 (some .int), Cond.methodLink RX1 36 yX1_isLoud, Cond.static yX1_isLoud, Cond.code yX1_isLoud cX1_isLoud 1 (some .boolean), Cond.constant RX1 32 (4194304), Cond.methodLink RX1 84 yX1_isNegative, Cond.static yX1_isNegative, Cond.code yX1_isNegative cX1_isNegative 1 (some .boolean), Cond.methodLink RX1 74 yX1_signed, Cond.static yX1_signed, Cond.code yX1_signed cX1_signed 2 (some .int), Cond.constant RX1 34 (-2147483648), Cond.methodLink RX1 90 yX1_empty, Cond.instanceMethod yX1_empty, Cond.selects RX1 yX1_empty yX1_empty, Cond.code yX1_empty cX1_empty 3 none, Cond.fieldLink RX1 7 "RealBitsModel" "row" "[J", Cond.fieldLink RX1 40 "RealBitsModel" "base" "I", Cond.fieldLink RX1 43 "RealBitsModel" "more" "Z", Cond.methodLink RX1 94 yX1_units]
def wsX1_fused_r3 : List Cond := [Cond.static yX1_units, Cond.code yX1_units cX1_units 1 (some .int), Cond.constant RX1 35 (8388608), Cond.methodLink RX1 97 yX1_place, Cond.static yX1_place, Cond.code yX1_place cX1_place 1 (some .int), Cond.methodLink RX1 100 yX1_put, Cond.instanceMethod yX1_put, Cond.selects RX1 yX1_put yX1_put, Cond.code yX1_put cX1_put 8 none, Cond.constantLong RX1 47 (-1), Cond.methodLink RX1 104 yX1_settle, Cond.instanceMethod yX1_settle, Cond.selects RX1 yX1_settle yX1_settle, Cond.code yX1_settle cX1_settle 3 (some .boolean), Cond.methodLink RX1 49 yX1_carry, Cond.instanceMethod yX1_carry, Cond.selects RX1 yX1_carry yX1_carry, Cond.code yX1_carry cX1_carry 2 none, Cond.constantLong RX1 52 (16777215), Cond.methodLink RX1 63 yX1_top, Cond.instanceMethod yX1_top, Cond.selects RX1 yX1_top yX1_top, Cond.code yX1_top cX1_top 2 (some .int)]
def wsX1_fused_r4 : List Cond := [Cond.methodLink RX1 54 yX1_bit, Cond.instanceMethod yX1_bit, Cond.selects RX1 yX1_bit yX1_bit, Cond.code yX1_bit cX1_bit 2 (some .int), Cond.methodLink RX1 111 yX1_zero, Cond.instanceMethod yX1_zero, Cond.selects RX1 yX1_zero yX1_zero, Cond.code yX1_zero cX1_zero 4 (some .int), Cond.fieldLink RX1 13 "RealBitsModel" "mode" "I", Cond.methodLink RX1 115 yX1_finish, Cond.instanceMethod yX1_finish, Cond.selects RX1 yX1_finish yX1_finish, Cond.code yX1_finish cX1_finish 7 (some .int), Cond.constant RX1 71 (16777216), Cond.fieldLink RX1 60 "RealBitsModel" "exact" "Z", Cond.constant RX1 72 (2139095039), Cond.methodLink RX1 67 yX1_rounded, Cond.instanceMethod yX1_rounded, Cond.selects RX1 yX1_rounded yX1_rounded, Cond.code yX1_rounded cX1_rounded 7 (some .int), Cond.methodLink RX1 57 yX1_below, Cond.instanceMethod yX1_below, Cond.selects RX1 yX1_below yX1_below, Cond.code yX1_below cX1_below 3 (some .boolean)]
def wsX1_fused : List Cond := .code yX1_fused cX1_fused 9 (some .int) :: ((wsX1_fused_r1 ++ (wsX1_fused_r2 ++ (wsX1_fused_r3 ++ wsX1_fused_r4))) ++ wsX10)
def wsX1_multiply_r1 : List Cond := [Cond.constant RX1 73 (2139095040), Cond.methodLink RX1 28 yX1_isNone, Cond.static yX1_isNone, Cond.initialized RX1, Cond.code yX1_isNone cX1_isNone 1 (some .boolean), Cond.methodLink RX1 21 yX1_exponent, Cond.static yX1_exponent, Cond.code yX1_exponent cX1_exponent 1 (some .int), Cond.methodLink RX1 25 yX1_fraction, Cond.static yX1_fraction, Cond.code yX1_fraction cX1_fraction 1 (some .int), Cond.constant RX1 20 (8388607), Cond.methodLink RX1 77 yX1_none, Cond.instanceMethod yX1_none, Cond.selects RX1 yX1_none yX1_none, Cond.code yX1_none cX1_none 4 (some .int), Cond.fieldLink RX1 17 "RealBitsModel" "flags" "I", Cond.constant RX1 39 (2143289344), Cond.methodLink RX1 36 yX1_isLoud, Cond.static yX1_isLoud, Cond.code yX1_isLoud cX1_isLoud 1 (some .boolean), Cond.constant RX1 32 (4194304), Cond.methodLink RX1 108 yX1_isZero, Cond.static yX1_isZero]
def wsX1_multiply_r2 : List Cond := [Cond.code yX1_isZero cX1_isZero 1 (some .boolean), Cond.constant RX1 33 (2147483647), Cond.methodLink RX1 81 yX1_isInfinite, Cond.static yX1_isInfinite, Cond.code yX1_isInfinite cX1_isInfinite 1 (some .boolean), Cond.methodLink RX1 87 yX1_invalid, Cond.instanceMethod yX1_invalid, Cond.selects RX1 yX1_invalid yX1_invalid, Cond.code yX1_invalid cX1_invalid 1 (some .int), Cond.methodLink RX1 84 yX1_isNegative, Cond.static yX1_isNegative, Cond.code yX1_isNegative cX1_isNegative 1 (some .boolean), Cond.methodLink RX1 74 yX1_signed, Cond.static yX1_signed, Cond.code yX1_signed cX1_signed 2 (some .int), Cond.constant RX1 34 (-2147483648), Cond.methodLink RX1 90 yX1_empty, Cond.instanceMethod yX1_empty, Cond.selects RX1 yX1_empty yX1_empty, Cond.code yX1_empty cX1_empty 3 none, Cond.fieldLink RX1 7 "RealBitsModel" "row" "[J", Cond.fieldLink RX1 40 "RealBitsModel" "base" "I", Cond.fieldLink RX1 43 "RealBitsModel" "more" "Z", Cond.methodLink RX1 94 yX1_units]
def wsX1_multiply_r3 : List Cond := [Cond.static yX1_units, Cond.code yX1_units cX1_units 1 (some .int), Cond.constant RX1 35 (8388608), Cond.methodLink RX1 97 yX1_place, Cond.static yX1_place, Cond.code yX1_place cX1_place 1 (some .int), Cond.methodLink RX1 100 yX1_put, Cond.instanceMethod yX1_put, Cond.selects RX1 yX1_put yX1_put, Cond.code yX1_put cX1_put 8 none, Cond.constantLong RX1 47 (-1), Cond.methodLink RX1 104 yX1_settle, Cond.instanceMethod yX1_settle, Cond.selects RX1 yX1_settle yX1_settle, Cond.code yX1_settle cX1_settle 3 (some .boolean), Cond.methodLink RX1 49 yX1_carry, Cond.instanceMethod yX1_carry, Cond.selects RX1 yX1_carry yX1_carry, Cond.code yX1_carry cX1_carry 2 none, Cond.constantLong RX1 52 (16777215), Cond.methodLink RX1 115 yX1_finish, Cond.instanceMethod yX1_finish, Cond.selects RX1 yX1_finish yX1_finish, Cond.code yX1_finish cX1_finish 7 (some .int)]
def wsX1_multiply_r4 : List Cond := [Cond.constant RX1 71 (16777216), Cond.fieldLink RX1 60 "RealBitsModel" "exact" "Z", Cond.fieldLink RX1 13 "RealBitsModel" "mode" "I", Cond.constant RX1 72 (2139095039), Cond.methodLink RX1 63 yX1_top, Cond.instanceMethod yX1_top, Cond.selects RX1 yX1_top yX1_top, Cond.code yX1_top cX1_top 2 (some .int), Cond.methodLink RX1 54 yX1_bit, Cond.instanceMethod yX1_bit, Cond.selects RX1 yX1_bit yX1_bit, Cond.code yX1_bit cX1_bit 2 (some .int), Cond.methodLink RX1 67 yX1_rounded, Cond.instanceMethod yX1_rounded, Cond.selects RX1 yX1_rounded yX1_rounded, Cond.code yX1_rounded cX1_rounded 7 (some .int), Cond.methodLink RX1 57 yX1_below, Cond.instanceMethod yX1_below, Cond.selects RX1 yX1_below yX1_below, Cond.code yX1_below cX1_below 3 (some .boolean)]
def wsX1_multiply : List Cond := .code yX1_multiply cX1_multiply 5 (some .int) :: ((wsX1_multiply_r1 ++ (wsX1_multiply_r2 ++ (wsX1_multiply_r3 ++ wsX1_multiply_r4))) ++ wsX10)
def wsX1_gap : List Cond := .code yX1_gap cX1_gap 2 (some .int) :: ([.constant RX1 35 (8388608)])
def wsX1_divide_r1 : List Cond := [Cond.fieldLink RX1 17 "RealBitsModel" "flags" "I", Cond.constant RX1 73 (2139095040), Cond.fieldLink RX1 40 "RealBitsModel" "base" "I", Cond.fieldLink RX1 43 "RealBitsModel" "more" "Z", Cond.methodLink RX1 28 yX1_isNone, Cond.static yX1_isNone, Cond.initialized RX1, Cond.code yX1_isNone cX1_isNone 1 (some .boolean), Cond.methodLink RX1 21 yX1_exponent, Cond.static yX1_exponent, Cond.code yX1_exponent cX1_exponent 1 (some .int), Cond.methodLink RX1 25 yX1_fraction, Cond.static yX1_fraction, Cond.code yX1_fraction cX1_fraction 1 (some .int), Cond.constant RX1 20 (8388607), Cond.methodLink RX1 77 yX1_none, Cond.instanceMethod yX1_none, Cond.selects RX1 yX1_none yX1_none, Cond.code yX1_none cX1_none 4 (some .int), Cond.constant RX1 39 (2143289344), Cond.methodLink RX1 36 yX1_isLoud, Cond.static yX1_isLoud, Cond.code yX1_isLoud cX1_isLoud 1 (some .boolean), Cond.constant RX1 32 (4194304)]
def wsX1_divide_r2 : List Cond := [Cond.methodLink RX1 108 yX1_isZero, Cond.static yX1_isZero, Cond.code yX1_isZero cX1_isZero 1 (some .boolean), Cond.constant RX1 33 (2147483647), Cond.methodLink RX1 81 yX1_isInfinite, Cond.static yX1_isInfinite, Cond.code yX1_isInfinite cX1_isInfinite 1 (some .boolean), Cond.methodLink RX1 87 yX1_invalid, Cond.instanceMethod yX1_invalid, Cond.selects RX1 yX1_invalid yX1_invalid, Cond.code yX1_invalid cX1_invalid 1 (some .int), Cond.methodLink RX1 84 yX1_isNegative, Cond.static yX1_isNegative, Cond.code yX1_isNegative cX1_isNegative 1 (some .boolean), Cond.methodLink RX1 74 yX1_signed, Cond.static yX1_signed, Cond.code yX1_signed cX1_signed 2 (some .int), Cond.constant RX1 34 (-2147483648), Cond.methodLink RX1 94 yX1_units, Cond.static yX1_units, Cond.code yX1_units cX1_units 1 (some .int), Cond.constant RX1 35 (8388608), Cond.methodLink RX1 123 yX1_gap, Cond.static yX1_gap]
def wsX1_divide_r3 : List Cond := [Cond.code yX1_gap cX1_gap 2 (some .int), Cond.methodLink RX1 97 yX1_place, Cond.static yX1_place, Cond.code yX1_place cX1_place 1 (some .int), Cond.methodLink RX1 90 yX1_empty, Cond.instanceMethod yX1_empty, Cond.selects RX1 yX1_empty yX1_empty, Cond.code yX1_empty cX1_empty 3 none, Cond.fieldLink RX1 7 "RealBitsModel" "row" "[J", Cond.methodLink RX1 100 yX1_put, Cond.instanceMethod yX1_put, Cond.selects RX1 yX1_put yX1_put, Cond.code yX1_put cX1_put 8 none, Cond.constantLong RX1 47 (-1), Cond.methodLink RX1 104 yX1_settle, Cond.instanceMethod yX1_settle, Cond.selects RX1 yX1_settle yX1_settle, Cond.code yX1_settle cX1_settle 3 (some .boolean), Cond.methodLink RX1 49 yX1_carry, Cond.instanceMethod yX1_carry, Cond.selects RX1 yX1_carry yX1_carry, Cond.code yX1_carry cX1_carry 2 none, Cond.constantLong RX1 52 (16777215), Cond.methodLink RX1 115 yX1_finish]
def wsX1_divide_r4 : List Cond := [Cond.instanceMethod yX1_finish, Cond.selects RX1 yX1_finish yX1_finish, Cond.code yX1_finish cX1_finish 7 (some .int), Cond.constant RX1 71 (16777216), Cond.fieldLink RX1 60 "RealBitsModel" "exact" "Z", Cond.fieldLink RX1 13 "RealBitsModel" "mode" "I", Cond.constant RX1 72 (2139095039), Cond.methodLink RX1 63 yX1_top, Cond.instanceMethod yX1_top, Cond.selects RX1 yX1_top yX1_top, Cond.code yX1_top cX1_top 2 (some .int), Cond.methodLink RX1 54 yX1_bit, Cond.instanceMethod yX1_bit, Cond.selects RX1 yX1_bit yX1_bit, Cond.code yX1_bit cX1_bit 2 (some .int), Cond.methodLink RX1 67 yX1_rounded, Cond.instanceMethod yX1_rounded, Cond.selects RX1 yX1_rounded yX1_rounded, Cond.code yX1_rounded cX1_rounded 7 (some .int), Cond.methodLink RX1 57 yX1_below, Cond.instanceMethod yX1_below, Cond.selects RX1 yX1_below yX1_below, Cond.code yX1_below cX1_below 3 (some .boolean)]
def wsX1_divide : List Cond := .code yX1_divide cX1_divide 11 (some .int) :: ((wsX1_divide_r1 ++ (wsX1_divide_r2 ++ (wsX1_divide_r3 ++ wsX1_divide_r4))) ++ wsX10)
def wsX1_root_r1 : List Cond := [Cond.constantLong RX1 126 (2), Cond.fieldLink RX1 40 "RealBitsModel" "base" "I", Cond.fieldLink RX1 43 "RealBitsModel" "more" "Z", Cond.methodLink RX1 28 yX1_isNone, Cond.static yX1_isNone, Cond.initialized RX1, Cond.code yX1_isNone cX1_isNone 1 (some .boolean), Cond.methodLink RX1 21 yX1_exponent, Cond.static yX1_exponent, Cond.code yX1_exponent cX1_exponent 1 (some .int), Cond.methodLink RX1 25 yX1_fraction, Cond.static yX1_fraction, Cond.code yX1_fraction cX1_fraction 1 (some .int), Cond.constant RX1 20 (8388607), Cond.methodLink RX1 77 yX1_none, Cond.instanceMethod yX1_none, Cond.selects RX1 yX1_none yX1_none, Cond.code yX1_none cX1_none 4 (some .int), Cond.fieldLink RX1 17 "RealBitsModel" "flags" "I", Cond.constant RX1 39 (2143289344), Cond.methodLink RX1 36 yX1_isLoud, Cond.static yX1_isLoud, Cond.code yX1_isLoud cX1_isLoud 1 (some .boolean), Cond.constant RX1 32 (4194304)]
def wsX1_root_r2 : List Cond := [Cond.methodLink RX1 108 yX1_isZero, Cond.static yX1_isZero, Cond.code yX1_isZero cX1_isZero 1 (some .boolean), Cond.constant RX1 33 (2147483647), Cond.methodLink RX1 84 yX1_isNegative, Cond.static yX1_isNegative, Cond.code yX1_isNegative cX1_isNegative 1 (some .boolean), Cond.methodLink RX1 87 yX1_invalid, Cond.instanceMethod yX1_invalid, Cond.selects RX1 yX1_invalid yX1_invalid, Cond.code yX1_invalid cX1_invalid 1 (some .int), Cond.methodLink RX1 81 yX1_isInfinite, Cond.static yX1_isInfinite, Cond.code yX1_isInfinite cX1_isInfinite 1 (some .boolean), Cond.methodLink RX1 94 yX1_units, Cond.static yX1_units, Cond.code yX1_units cX1_units 1 (some .int), Cond.constant RX1 35 (8388608), Cond.methodLink RX1 123 yX1_gap, Cond.static yX1_gap, Cond.code yX1_gap cX1_gap 2 (some .int), Cond.methodLink RX1 97 yX1_place, Cond.static yX1_place, Cond.code yX1_place cX1_place 1 (some .int)]
def wsX1_root_r3 : List Cond := [Cond.methodLink RX1 90 yX1_empty, Cond.instanceMethod yX1_empty, Cond.selects RX1 yX1_empty yX1_empty, Cond.code yX1_empty cX1_empty 3 none, Cond.fieldLink RX1 7 "RealBitsModel" "row" "[J", Cond.methodLink RX1 100 yX1_put, Cond.instanceMethod yX1_put, Cond.selects RX1 yX1_put yX1_put, Cond.code yX1_put cX1_put 8 none, Cond.constantLong RX1 47 (-1), Cond.methodLink RX1 104 yX1_settle, Cond.instanceMethod yX1_settle, Cond.selects RX1 yX1_settle yX1_settle, Cond.code yX1_settle cX1_settle 3 (some .boolean), Cond.methodLink RX1 49 yX1_carry, Cond.instanceMethod yX1_carry, Cond.selects RX1 yX1_carry yX1_carry, Cond.code yX1_carry cX1_carry 2 none, Cond.constantLong RX1 52 (16777215), Cond.methodLink RX1 115 yX1_finish, Cond.instanceMethod yX1_finish, Cond.selects RX1 yX1_finish yX1_finish, Cond.code yX1_finish cX1_finish 7 (some .int), Cond.constant RX1 71 (16777216)]
def wsX1_root_r4 : List Cond := [Cond.fieldLink RX1 60 "RealBitsModel" "exact" "Z", Cond.fieldLink RX1 13 "RealBitsModel" "mode" "I", Cond.constant RX1 72 (2139095039), Cond.constant RX1 73 (2139095040), Cond.methodLink RX1 63 yX1_top, Cond.instanceMethod yX1_top, Cond.selects RX1 yX1_top yX1_top, Cond.code yX1_top cX1_top 2 (some .int), Cond.methodLink RX1 54 yX1_bit, Cond.instanceMethod yX1_bit, Cond.selects RX1 yX1_bit yX1_bit, Cond.code yX1_bit cX1_bit 2 (some .int), Cond.methodLink RX1 67 yX1_rounded, Cond.instanceMethod yX1_rounded, Cond.selects RX1 yX1_rounded yX1_rounded, Cond.code yX1_rounded cX1_rounded 7 (some .int), Cond.methodLink RX1 57 yX1_below, Cond.instanceMethod yX1_below, Cond.selects RX1 yX1_below yX1_below, Cond.code yX1_below cX1_below 3 (some .boolean), Cond.methodLink RX1 74 yX1_signed, Cond.static yX1_signed, Cond.code yX1_signed cX1_signed 2 (some .int), Cond.constant RX1 34 (-2147483648)]
def wsX1_root : List Cond := .code yX1_root cX1_root 11 (some .int) :: ((wsX1_root_r1 ++ (wsX1_root_r2 ++ (wsX1_root_r3 ++ wsX1_root_r4))) ++ wsX10)
def wsX1_scale_r1 : List Cond := [Cond.fieldLink RX1 40 "RealBitsModel" "base" "I", Cond.methodLink RX1 28 yX1_isNone, Cond.static yX1_isNone, Cond.initialized RX1, Cond.code yX1_isNone cX1_isNone 1 (some .boolean), Cond.methodLink RX1 21 yX1_exponent, Cond.static yX1_exponent, Cond.code yX1_exponent cX1_exponent 1 (some .int), Cond.methodLink RX1 25 yX1_fraction, Cond.static yX1_fraction, Cond.code yX1_fraction cX1_fraction 1 (some .int), Cond.constant RX1 20 (8388607), Cond.methodLink RX1 77 yX1_none, Cond.instanceMethod yX1_none, Cond.selects RX1 yX1_none yX1_none, Cond.code yX1_none cX1_none 4 (some .int), Cond.fieldLink RX1 17 "RealBitsModel" "flags" "I", Cond.constant RX1 39 (2143289344), Cond.methodLink RX1 36 yX1_isLoud, Cond.static yX1_isLoud, Cond.code yX1_isLoud cX1_isLoud 1 (some .boolean), Cond.constant RX1 32 (4194304), Cond.methodLink RX1 81 yX1_isInfinite, Cond.static yX1_isInfinite]
def wsX1_scale_r2 : List Cond := [Cond.code yX1_isInfinite cX1_isInfinite 1 (some .boolean), Cond.methodLink RX1 108 yX1_isZero, Cond.static yX1_isZero, Cond.code yX1_isZero cX1_isZero 1 (some .boolean), Cond.constant RX1 33 (2147483647), Cond.methodLink RX1 97 yX1_place, Cond.static yX1_place, Cond.code yX1_place cX1_place 1 (some .int), Cond.methodLink RX1 90 yX1_empty, Cond.instanceMethod yX1_empty, Cond.selects RX1 yX1_empty yX1_empty, Cond.code yX1_empty cX1_empty 3 none, Cond.fieldLink RX1 7 "RealBitsModel" "row" "[J", Cond.fieldLink RX1 43 "RealBitsModel" "more" "Z", Cond.methodLink RX1 94 yX1_units, Cond.static yX1_units, Cond.code yX1_units cX1_units 1 (some .int), Cond.constant RX1 35 (8388608), Cond.methodLink RX1 84 yX1_isNegative, Cond.static yX1_isNegative, Cond.code yX1_isNegative cX1_isNegative 1 (some .boolean), Cond.methodLink RX1 100 yX1_put, Cond.instanceMethod yX1_put, Cond.selects RX1 yX1_put yX1_put]
def wsX1_scale_r3 : List Cond := [Cond.code yX1_put cX1_put 8 none, Cond.constantLong RX1 47 (-1), Cond.methodLink RX1 104 yX1_settle, Cond.instanceMethod yX1_settle, Cond.selects RX1 yX1_settle yX1_settle, Cond.code yX1_settle cX1_settle 3 (some .boolean), Cond.methodLink RX1 49 yX1_carry, Cond.instanceMethod yX1_carry, Cond.selects RX1 yX1_carry yX1_carry, Cond.code yX1_carry cX1_carry 2 none, Cond.constantLong RX1 52 (16777215), Cond.methodLink RX1 115 yX1_finish, Cond.instanceMethod yX1_finish, Cond.selects RX1 yX1_finish yX1_finish, Cond.code yX1_finish cX1_finish 7 (some .int), Cond.constant RX1 71 (16777216), Cond.fieldLink RX1 60 "RealBitsModel" "exact" "Z", Cond.fieldLink RX1 13 "RealBitsModel" "mode" "I", Cond.constant RX1 72 (2139095039), Cond.constant RX1 73 (2139095040), Cond.methodLink RX1 63 yX1_top, Cond.instanceMethod yX1_top, Cond.selects RX1 yX1_top yX1_top, Cond.code yX1_top cX1_top 2 (some .int)]
def wsX1_scale_r4 : List Cond := [Cond.methodLink RX1 54 yX1_bit, Cond.instanceMethod yX1_bit, Cond.selects RX1 yX1_bit yX1_bit, Cond.code yX1_bit cX1_bit 2 (some .int), Cond.methodLink RX1 67 yX1_rounded, Cond.instanceMethod yX1_rounded, Cond.selects RX1 yX1_rounded yX1_rounded, Cond.code yX1_rounded cX1_rounded 7 (some .int), Cond.methodLink RX1 57 yX1_below, Cond.instanceMethod yX1_below, Cond.selects RX1 yX1_below yX1_below, Cond.code yX1_below cX1_below 3 (some .boolean), Cond.methodLink RX1 74 yX1_signed, Cond.static yX1_signed, Cond.code yX1_signed cX1_signed 2 (some .int), Cond.constant RX1 34 (-2147483648)]
def wsX1_scale : List Cond := .code yX1_scale cX1_scale 5 (some .int) :: ((wsX1_scale_r1 ++ (wsX1_scale_r2 ++ (wsX1_scale_r3 ++ wsX1_scale_r4))) ++ wsX10)
def wsX1_nearest_r1 : List Cond := [Cond.fieldLink RX1 60 "RealBitsModel" "exact" "Z", Cond.methodLink RX1 97 yX1_place, Cond.static yX1_place, Cond.initialized RX1, Cond.code yX1_place cX1_place 1 (some .int), Cond.methodLink RX1 21 yX1_exponent, Cond.static yX1_exponent, Cond.code yX1_exponent cX1_exponent 1 (some .int), Cond.methodLink RX1 94 yX1_units, Cond.static yX1_units, Cond.code yX1_units cX1_units 1 (some .int), Cond.constant RX1 35 (8388608), Cond.methodLink RX1 25 yX1_fraction, Cond.static yX1_fraction, Cond.code yX1_fraction cX1_fraction 1 (some .int), Cond.constant RX1 20 (8388607), Cond.methodLink RX1 90 yX1_empty, Cond.instanceMethod yX1_empty, Cond.selects RX1 yX1_empty yX1_empty, Cond.code yX1_empty cX1_empty 3 none, Cond.fieldLink RX1 7 "RealBitsModel" "row" "[J", Cond.fieldLink RX1 40 "RealBitsModel" "base" "I", Cond.fieldLink RX1 43 "RealBitsModel" "more" "Z", Cond.methodLink RX1 100 yX1_put]
def wsX1_nearest_r2 : List Cond := [Cond.instanceMethod yX1_put, Cond.selects RX1 yX1_put yX1_put, Cond.code yX1_put cX1_put 8 none, Cond.constantLong RX1 47 (-1), Cond.methodLink RX1 84 yX1_isNegative, Cond.static yX1_isNegative, Cond.code yX1_isNegative cX1_isNegative 1 (some .boolean), Cond.methodLink RX1 67 yX1_rounded, Cond.instanceMethod yX1_rounded, Cond.selects RX1 yX1_rounded yX1_rounded, Cond.code yX1_rounded cX1_rounded 7 (some .int), Cond.fieldLink RX1 13 "RealBitsModel" "mode" "I", Cond.methodLink RX1 54 yX1_bit, Cond.instanceMethod yX1_bit, Cond.selects RX1 yX1_bit yX1_bit, Cond.code yX1_bit cX1_bit 2 (some .int), Cond.methodLink RX1 57 yX1_below, Cond.instanceMethod yX1_below, Cond.selects RX1 yX1_below yX1_below, Cond.code yX1_below cX1_below 3 (some .boolean)]
def wsX1_nearest : List Cond := .code yX1_nearest cX1_nearest 3 (some .long) :: ((wsX1_nearest_r1 ++ wsX1_nearest_r2) ++ wsX10)
def wsX1_whole_r1 : List Cond := [Cond.fieldLink RX1 60 "RealBitsModel" "exact" "Z", Cond.fieldLink RX1 17 "RealBitsModel" "flags" "I", Cond.methodLink RX1 28 yX1_isNone, Cond.static yX1_isNone, Cond.initialized RX1, Cond.code yX1_isNone cX1_isNone 1 (some .boolean), Cond.methodLink RX1 21 yX1_exponent, Cond.static yX1_exponent, Cond.code yX1_exponent cX1_exponent 1 (some .int), Cond.methodLink RX1 25 yX1_fraction, Cond.static yX1_fraction, Cond.code yX1_fraction cX1_fraction 1 (some .int), Cond.constant RX1 20 (8388607), Cond.methodLink RX1 77 yX1_none, Cond.instanceMethod yX1_none, Cond.selects RX1 yX1_none yX1_none, Cond.code yX1_none cX1_none 4 (some .int), Cond.constant RX1 39 (2143289344), Cond.methodLink RX1 36 yX1_isLoud, Cond.static yX1_isLoud, Cond.code yX1_isLoud cX1_isLoud 1 (some .boolean), Cond.constant RX1 32 (4194304), Cond.methodLink RX1 81 yX1_isInfinite, Cond.static yX1_isInfinite]
def wsX1_whole_r2 : List Cond := [Cond.code yX1_isInfinite cX1_isInfinite 1 (some .boolean), Cond.methodLink RX1 108 yX1_isZero, Cond.static yX1_isZero, Cond.code yX1_isZero cX1_isZero 1 (some .boolean), Cond.constant RX1 33 (2147483647), Cond.methodLink RX1 97 yX1_place, Cond.static yX1_place, Cond.code yX1_place cX1_place 1 (some .int), Cond.methodLink RX1 128 yX1_nearest, Cond.instanceMethod yX1_nearest, Cond.selects RX1 yX1_nearest yX1_nearest, Cond.code yX1_nearest cX1_nearest 3 (some .long), Cond.methodLink RX1 94 yX1_units, Cond.static yX1_units, Cond.code yX1_units cX1_units 1 (some .int), Cond.constant RX1 35 (8388608), Cond.methodLink RX1 90 yX1_empty, Cond.instanceMethod yX1_empty, Cond.selects RX1 yX1_empty yX1_empty, Cond.code yX1_empty cX1_empty 3 none, Cond.fieldLink RX1 7 "RealBitsModel" "row" "[J", Cond.fieldLink RX1 40 "RealBitsModel" "base" "I", Cond.fieldLink RX1 43 "RealBitsModel" "more" "Z", Cond.methodLink RX1 100 yX1_put]
def wsX1_whole_r3 : List Cond := [Cond.instanceMethod yX1_put, Cond.selects RX1 yX1_put yX1_put, Cond.code yX1_put cX1_put 8 none, Cond.constantLong RX1 47 (-1), Cond.methodLink RX1 84 yX1_isNegative, Cond.static yX1_isNegative, Cond.code yX1_isNegative cX1_isNegative 1 (some .boolean), Cond.methodLink RX1 67 yX1_rounded, Cond.instanceMethod yX1_rounded, Cond.selects RX1 yX1_rounded yX1_rounded, Cond.code yX1_rounded cX1_rounded 7 (some .int), Cond.fieldLink RX1 13 "RealBitsModel" "mode" "I", Cond.methodLink RX1 54 yX1_bit, Cond.instanceMethod yX1_bit, Cond.selects RX1 yX1_bit yX1_bit, Cond.code yX1_bit cX1_bit 2 (some .int), Cond.methodLink RX1 57 yX1_below, Cond.instanceMethod yX1_below, Cond.selects RX1 yX1_below yX1_below, Cond.code yX1_below cX1_below 3 (some .boolean), Cond.methodLink RX1 74 yX1_signed, Cond.static yX1_signed, Cond.code yX1_signed cX1_signed 2 (some .int), Cond.constant RX1 34 (-2147483648)]
def wsX1_whole_r4 : List Cond := [Cond.methodLink RX1 104 yX1_settle, Cond.instanceMethod yX1_settle, Cond.selects RX1 yX1_settle yX1_settle, Cond.code yX1_settle cX1_settle 3 (some .boolean), Cond.methodLink RX1 49 yX1_carry, Cond.instanceMethod yX1_carry, Cond.selects RX1 yX1_carry yX1_carry, Cond.code yX1_carry cX1_carry 2 none, Cond.constantLong RX1 52 (16777215), Cond.methodLink RX1 115 yX1_finish, Cond.instanceMethod yX1_finish, Cond.selects RX1 yX1_finish yX1_finish, Cond.code yX1_finish cX1_finish 7 (some .int), Cond.constant RX1 71 (16777216), Cond.constant RX1 72 (2139095039), Cond.constant RX1 73 (2139095040), Cond.methodLink RX1 63 yX1_top, Cond.instanceMethod yX1_top, Cond.selects RX1 yX1_top yX1_top, Cond.code yX1_top cX1_top 2 (some .int)]
def wsX1_whole : List Cond := .code yX1_whole cX1_whole 5 (some .int) :: ((wsX1_whole_r1 ++ (wsX1_whole_r2 ++ (wsX1_whole_r3 ++ wsX1_whole_r4))) ++ wsX10)
def wsX1_toInt_r1 : List Cond := [Cond.constantLong RX1 132 (2147483648), Cond.constantLong RX1 134 (2147483647), Cond.fieldLink RX1 17 "RealBitsModel" "flags" "I", Cond.constant RX1 34 (-2147483648), Cond.fieldLink RX1 60 "RealBitsModel" "exact" "Z", Cond.methodLink RX1 21 yX1_exponent, Cond.static yX1_exponent, Cond.initialized RX1, Cond.code yX1_exponent cX1_exponent 1 (some .int), Cond.methodLink RX1 128 yX1_nearest, Cond.instanceMethod yX1_nearest, Cond.selects RX1 yX1_nearest yX1_nearest, Cond.code yX1_nearest cX1_nearest 3 (some .long), Cond.methodLink RX1 97 yX1_place, Cond.static yX1_place, Cond.code yX1_place cX1_place 1 (some .int), Cond.methodLink RX1 94 yX1_units, Cond.static yX1_units, Cond.code yX1_units cX1_units 1 (some .int), Cond.constant RX1 35 (8388608), Cond.methodLink RX1 25 yX1_fraction, Cond.static yX1_fraction, Cond.code yX1_fraction cX1_fraction 1 (some .int), Cond.constant RX1 20 (8388607)]
def wsX1_toInt_r2 : List Cond := [Cond.methodLink RX1 90 yX1_empty, Cond.instanceMethod yX1_empty, Cond.selects RX1 yX1_empty yX1_empty, Cond.code yX1_empty cX1_empty 3 none, Cond.fieldLink RX1 7 "RealBitsModel" "row" "[J", Cond.fieldLink RX1 40 "RealBitsModel" "base" "I", Cond.fieldLink RX1 43 "RealBitsModel" "more" "Z", Cond.methodLink RX1 100 yX1_put, Cond.instanceMethod yX1_put, Cond.selects RX1 yX1_put yX1_put, Cond.code yX1_put cX1_put 8 none, Cond.constantLong RX1 47 (-1), Cond.methodLink RX1 84 yX1_isNegative, Cond.static yX1_isNegative, Cond.code yX1_isNegative cX1_isNegative 1 (some .boolean), Cond.methodLink RX1 67 yX1_rounded, Cond.instanceMethod yX1_rounded, Cond.selects RX1 yX1_rounded yX1_rounded, Cond.code yX1_rounded cX1_rounded 7 (some .int), Cond.fieldLink RX1 13 "RealBitsModel" "mode" "I", Cond.methodLink RX1 54 yX1_bit, Cond.instanceMethod yX1_bit, Cond.selects RX1 yX1_bit yX1_bit, Cond.code yX1_bit cX1_bit 2 (some .int)]
def wsX1_toInt_r3 : List Cond := [Cond.methodLink RX1 57 yX1_below, Cond.instanceMethod yX1_below, Cond.selects RX1 yX1_below yX1_below, Cond.code yX1_below cX1_below 3 (some .boolean)]
def wsX1_toInt : List Cond := .code yX1_toInt cX1_toInt 6 (some .int) :: ((wsX1_toInt_r1 ++ (wsX1_toInt_r2 ++ wsX1_toInt_r3)) ++ wsX10)
def wsX1_fromInt_r1 : List Cond := [Cond.methodLink RX1 90 yX1_empty, Cond.instanceMethod yX1_empty, Cond.selects RX1 yX1_empty yX1_empty, Cond.initialized RX1, Cond.code yX1_empty cX1_empty 3 none, Cond.fieldLink RX1 7 "RealBitsModel" "row" "[J", Cond.fieldLink RX1 40 "RealBitsModel" "base" "I", Cond.fieldLink RX1 43 "RealBitsModel" "more" "Z", Cond.methodLink RX1 100 yX1_put, Cond.instanceMethod yX1_put, Cond.selects RX1 yX1_put yX1_put, Cond.code yX1_put cX1_put 8 none, Cond.constantLong RX1 47 (-1), Cond.methodLink RX1 104 yX1_settle, Cond.instanceMethod yX1_settle, Cond.selects RX1 yX1_settle yX1_settle, Cond.code yX1_settle cX1_settle 3 (some .boolean), Cond.methodLink RX1 49 yX1_carry, Cond.instanceMethod yX1_carry, Cond.selects RX1 yX1_carry yX1_carry, Cond.code yX1_carry cX1_carry 2 none, Cond.constantLong RX1 52 (16777215), Cond.methodLink RX1 115 yX1_finish, Cond.instanceMethod yX1_finish]
def wsX1_fromInt_r2 : List Cond := [Cond.selects RX1 yX1_finish yX1_finish, Cond.code yX1_finish cX1_finish 7 (some .int), Cond.constant RX1 71 (16777216), Cond.fieldLink RX1 60 "RealBitsModel" "exact" "Z", Cond.fieldLink RX1 17 "RealBitsModel" "flags" "I", Cond.fieldLink RX1 13 "RealBitsModel" "mode" "I", Cond.constant RX1 72 (2139095039), Cond.constant RX1 73 (2139095040), Cond.constant RX1 35 (8388608), Cond.methodLink RX1 63 yX1_top, Cond.instanceMethod yX1_top, Cond.selects RX1 yX1_top yX1_top, Cond.code yX1_top cX1_top 2 (some .int), Cond.methodLink RX1 54 yX1_bit, Cond.instanceMethod yX1_bit, Cond.selects RX1 yX1_bit yX1_bit, Cond.code yX1_bit cX1_bit 2 (some .int), Cond.methodLink RX1 67 yX1_rounded, Cond.instanceMethod yX1_rounded, Cond.selects RX1 yX1_rounded yX1_rounded, Cond.code yX1_rounded cX1_rounded 7 (some .int), Cond.methodLink RX1 57 yX1_below, Cond.instanceMethod yX1_below, Cond.selects RX1 yX1_below yX1_below]
def wsX1_fromInt_r3 : List Cond := [Cond.code yX1_below cX1_below 3 (some .boolean), Cond.methodLink RX1 74 yX1_signed, Cond.static yX1_signed, Cond.code yX1_signed cX1_signed 2 (some .int), Cond.constant RX1 34 (-2147483648)]
def wsX1_fromInt : List Cond := .code yX1_fromInt cX1_fromInt 3 (some .int) :: ((wsX1_fromInt_r1 ++ (wsX1_fromInt_r2 ++ wsX1_fromInt_r3)) ++ wsX10)
def wsX1_rank : List Cond := .code yX1_rank cX1_rank 1 (some .int) :: ([.constant RX1 33 (2147483647)])
def wsX1_compare_r1 : List Cond := [Cond.constant RX1 39 (2143289344), Cond.methodLink RX1 28 yX1_isNone, Cond.static yX1_isNone, Cond.initialized RX1, Cond.code yX1_isNone cX1_isNone 1 (some .boolean), Cond.methodLink RX1 21 yX1_exponent, Cond.static yX1_exponent, Cond.code yX1_exponent cX1_exponent 1 (some .int), Cond.methodLink RX1 25 yX1_fraction, Cond.static yX1_fraction, Cond.code yX1_fraction cX1_fraction 1 (some .int), Cond.constant RX1 20 (8388607), Cond.methodLink RX1 77 yX1_none, Cond.instanceMethod yX1_none, Cond.selects RX1 yX1_none yX1_none, Cond.code yX1_none cX1_none 4 (some .int), Cond.fieldLink RX1 17 "RealBitsModel" "flags" "I", Cond.methodLink RX1 36 yX1_isLoud, Cond.static yX1_isLoud, Cond.code yX1_isLoud cX1_isLoud 1 (some .boolean), Cond.constant RX1 32 (4194304), Cond.methodLink RX1 136 yX1_rank, Cond.static yX1_rank, Cond.code yX1_rank cX1_rank 1 (some .int)]
def wsX1_compare_r2 : List Cond := [Cond.constant RX1 33 (2147483647)]
def wsX1_compare : List Cond := .code yX1_compare cX1_compare 4 (some .int) :: ((wsX1_compare_r1 ++ wsX1_compare_r2) ++ wsX10)
def wsX1_next_r1 : List Cond := [Cond.constant RX1 73 (2139095040), Cond.constant RX1 34 (-2147483648), Cond.methodLink RX1 28 yX1_isNone, Cond.static yX1_isNone, Cond.initialized RX1, Cond.code yX1_isNone cX1_isNone 1 (some .boolean), Cond.methodLink RX1 21 yX1_exponent, Cond.static yX1_exponent, Cond.code yX1_exponent cX1_exponent 1 (some .int), Cond.methodLink RX1 25 yX1_fraction, Cond.static yX1_fraction, Cond.code yX1_fraction cX1_fraction 1 (some .int), Cond.constant RX1 20 (8388607), Cond.methodLink RX1 77 yX1_none, Cond.instanceMethod yX1_none, Cond.selects RX1 yX1_none yX1_none, Cond.code yX1_none cX1_none 4 (some .int), Cond.fieldLink RX1 17 "RealBitsModel" "flags" "I", Cond.constant RX1 39 (2143289344), Cond.methodLink RX1 36 yX1_isLoud, Cond.static yX1_isLoud, Cond.code yX1_isLoud cX1_isLoud 1 (some .boolean), Cond.constant RX1 32 (4194304), Cond.methodLink RX1 136 yX1_rank]
def wsX1_next_r2 : List Cond := [Cond.static yX1_rank, Cond.code yX1_rank cX1_rank 1 (some .int), Cond.constant RX1 33 (2147483647)]
def wsX1_next : List Cond := .code yX1_next cX1_next 3 (some .int) :: ((wsX1_next_r1 ++ wsX1_next_r2) ++ wsX10)
def wsX1_kind_r1 : List Cond := [Cond.methodLink RX1 36 yX1_isLoud, Cond.static yX1_isLoud, Cond.initialized RX1, Cond.code yX1_isLoud cX1_isLoud 1 (some .boolean), Cond.constant RX1 32 (4194304), Cond.methodLink RX1 28 yX1_isNone, Cond.static yX1_isNone, Cond.code yX1_isNone cX1_isNone 1 (some .boolean), Cond.methodLink RX1 21 yX1_exponent, Cond.static yX1_exponent, Cond.code yX1_exponent cX1_exponent 1 (some .int), Cond.methodLink RX1 25 yX1_fraction, Cond.static yX1_fraction, Cond.code yX1_fraction cX1_fraction 1 (some .int), Cond.constant RX1 20 (8388607), Cond.methodLink RX1 81 yX1_isInfinite, Cond.static yX1_isInfinite, Cond.code yX1_isInfinite cX1_isInfinite 1 (some .boolean), Cond.methodLink RX1 108 yX1_isZero, Cond.static yX1_isZero, Cond.code yX1_isZero cX1_isZero 1 (some .boolean), Cond.constant RX1 33 (2147483647), Cond.methodLink RX1 84 yX1_isNegative, Cond.static yX1_isNegative]
def wsX1_kind_r2 : List Cond := [Cond.code yX1_isNegative cX1_isNegative 1 (some .boolean)]
def wsX1_kind : List Cond := .code yX1_kind cX1_kind 3 (some .int) :: ((wsX1_kind_r1 ++ wsX1_kind_r2))
def wsJ9_abs_067f4 : List Cond := .code yJ9_abs_067f4 cJ9_abs_067f4 2 (some .long) :: ([])
def wsJ9_max_7cf53 : List Cond := .code yJ9_max_7cf53 cJ9_max_7cf53 2 (some .int) :: ([])
def wsJ9_min_7cf53 : List Cond := .code yJ9_min_7cf53 cJ9_min_7cf53 2 (some .int) :: ([])
def wsL_law_r1 : List Cond := [Cond.classLink RL 7 RX0, Cond.instantiable RX0 2, Cond.initialized RX0, Cond.classLink RL 10 RX1, Cond.instantiable RX1 6, Cond.initialized RX1, Cond.methodLink RL 9 yX0_init, Cond.instanceMethod yX0_init, Cond.code yX0_init cX0_init 1 none, Cond.methodLink RX0 1 objectInit, Cond.instanceMethod objectInit, Cond.code objectInit ⟨#[0xb1]⟩ 1 none, Cond.fieldLink RX0 9 "RealBits" "currentMode" "I", Cond.fieldLink RX0 13 "RealBits" "raisedFlags" "I", Cond.methodLink RL 12 yX1_init, Cond.instanceMethod yX1_init, Cond.code yX1_init cX1_init 1 none, Cond.methodLink RX1 1 objectInit, Cond.arrayClass .long, Cond.fieldLink RX1 7 "RealBitsModel" "row" "[J", Cond.fieldLink RX1 13 "RealBitsModel" "mode" "I", Cond.methodLink RL 13 yX0_round, Cond.instanceMethod yX0_round, Cond.selects RX0 yX0_round yX0_round]
def wsL_law_r2 : List Cond := [Cond.code yX0_round cX0_round 2 (some .boolean), Cond.methodLink RL 17 yX1_round, Cond.instanceMethod yX1_round, Cond.selects RX1 yX1_round yX1_round, Cond.code yX1_round cX1_round 2 (some .boolean), Cond.methodLink RL 18 yX0_mode, Cond.instanceMethod yX0_mode, Cond.selects RX0 yX0_mode yX0_mode, Cond.code yX0_mode cX0_mode 1 (some .int), Cond.methodLink RL 22 yX1_mode, Cond.instanceMethod yX1_mode, Cond.selects RX1 yX1_mode yX1_mode, Cond.code yX1_mode cX1_mode 1 (some .int), Cond.methodLink RL 23 yX0_flags, Cond.instanceMethod yX0_flags, Cond.selects RX0 yX0_flags yX0_flags, Cond.code yX0_flags cX0_flags 1 (some .int), Cond.methodLink RL 26 yX1_flags, Cond.instanceMethod yX1_flags, Cond.selects RX1 yX1_flags yX1_flags, Cond.code yX1_flags cX1_flags 1 (some .int), Cond.fieldLink RX1 17 "RealBitsModel" "flags" "I", Cond.methodLink RL 27 yX0_clear, Cond.instanceMethod yX0_clear]
def wsL_law_r3 : List Cond := [Cond.selects RX0 yX0_clear yX0_clear, Cond.code yX0_clear cX0_clear 2 (some .int), Cond.methodLink RL 30 yX1_clear, Cond.instanceMethod yX1_clear, Cond.selects RX1 yX1_clear yX1_clear, Cond.code yX1_clear cX1_clear 2 (some .int), Cond.methodLink RL 31 yX0_add, Cond.instanceMethod yX0_add, Cond.selects RX0 yX0_add yX0_add, Cond.code yX0_add cX0_add 3 (some .int), Cond.constant RX0 16 (1065353216), Cond.methodLink RX0 17 yX0_productPlus, Cond.instanceMethod yX0_productPlus, Cond.selects RX0 yX0_productPlus yX0_productPlus, Cond.code yX0_productPlus cX0_productPlus 6 (some .int), Cond.constant RX0 48 (2139095040), Cond.methodLink RX0 33 yX0_isZeroTimesInfinite, Cond.static yX0_isZeroTimesInfinite, Cond.code yX0_isZeroTimesInfinite cX0_isZeroTimesInfinite 2 (some .boolean), Cond.methodLink RX0 60 yX0_isZero, Cond.static yX0_isZero, Cond.code yX0_isZero cX0_isZero 1 (some .boolean), Cond.constant RX0 121 (2147483647), Cond.methodLink RX0 45 yX0_isInfinite]
def wsL_law_r4 : List Cond := [Cond.static yX0_isInfinite, Cond.code yX0_isInfinite cX0_isInfinite 1 (some .boolean), Cond.methodLink RX0 37 yX0_invalid, Cond.instanceMethod yX0_invalid, Cond.selects RX0 yX0_invalid yX0_invalid, Cond.code yX0_invalid cX0_invalid 1 (some .int), Cond.constant RX0 125 (2143289344), Cond.methodLink RX0 63 yX0_raise, Cond.instanceMethod yX0_raise, Cond.selects RX0 yX0_raise yX0_raise, Cond.code yX0_raise cX0_raise 2 none, Cond.methodLink RX0 22 yX0_isNoNumber, Cond.static yX0_isNoNumber, Cond.code yX0_isNoNumber cX0_isNoNumber 1 (some .boolean), Cond.methodLink RX0 26 yX0_isLoud, Cond.static yX0_isLoud, Cond.code yX0_isLoud cX0_isLoud 1 (some .boolean), Cond.constant RX0 122 (8388607), Cond.constant RX0 123 (4194304), Cond.methodLink RX0 29 yX0_noNumber, Cond.instanceMethod yX0_noNumber, Cond.selects RX0 yX0_noNumber yX0_noNumber, Cond.code yX0_noNumber cX0_noNumber 2 (some .int), Cond.methodLink RX0 41 yX0_signOf]
def wsL_law_r5 : List Cond := [Cond.static yX0_signOf, Cond.code yX0_signOf cX0_signOf 1 (some .int), Cond.constant RX0 21 (-2147483648), Cond.methodLink RX0 49 yX0_magnitudeOf, Cond.static yX0_magnitudeOf, Cond.code yX0_magnitudeOf cX0_magnitudeOf 2 (some .long), Cond.constant RX0 124 (8388608), Cond.methodLink RX0 118 yX0_exponentOf, Cond.static yX0_exponentOf, Cond.code yX0_exponentOf cX0_exponentOf 1 (some .int), Cond.methodLink RX0 53 yX0_unitOf, Cond.static yX0_unitOf, Cond.code yX0_unitOf cX0_unitOf 1 (some .int), Cond.methodLink RX0 88 Lib.Math.max.name, Cond.static Lib.Math.max.name, Cond.initialized "java/lang/Math", Cond.code Lib.Math.max.name Lib.Math.max.code 2 (some .int), Cond.methodLink RX0 126 yX0_finiteSum, Cond.instanceMethod yX0_finiteSum, Cond.selects RX0 yX0_finiteSum yX0_finiteSum, Cond.code yX0_finiteSum cX0_finiteSum 14 (some .int), Cond.methodLink RX0 109 Lib.MathLoose.abs_long.x, Cond.static Lib.MathLoose.abs_long.x, Cond.code Lib.MathLoose.abs_long.x Lib.MathLoose.abs_long.code 2 (some .long)]
def wsL_law_r6 : List Cond := [Cond.methodLink RX0 130 yX0_zeroOfMode, Cond.instanceMethod yX0_zeroOfMode, Cond.selects RX0 yX0_zeroOfMode yX0_zeroOfMode, Cond.code yX0_zeroOfMode cX0_zeroOfMode 1 (some .int), Cond.methodLink RX0 56 yX0_rounded, Cond.instanceMethod yX0_rounded, Cond.selects RX0 yX0_rounded yX0_rounded, Cond.code yX0_rounded cX0_rounded 11 (some .int), Cond.constantLong RX0 143 (2139095040), Cond.methodLink RX0 67 yX0_bitLength, Cond.static yX0_bitLength, Cond.code yX0_bitLength cX0_bitLength 2 (some .int), Cond.methodLink RX0 156 yJ13_numberOfLeadingZeros_95d88, Cond.static yJ13_numberOfLeadingZeros_95d88, Cond.initialized RJ13, Cond.code yJ13_numberOfLeadingZeros_95d88 cJ13_numberOfLeadingZeros_95d88 3 (some .int), Cond.methodLink RJ13 308 yJ6_numberOfLeadingZeros_0f7a4, Cond.static yJ6_numberOfLeadingZeros_0f7a4, Cond.initialized RJ6, Cond.code yJ6_numberOfLeadingZeros_0f7a4 cJ6_numberOfLeadingZeros_0f7a4 2 (some .int), Cond.constant RJ6 264 (65536), Cond.methodLink RX0 91 yX0_isMultiple, Cond.static yX0_isMultiple, Cond.code yX0_isMultiple cX0_isMultiple 3 (some .boolean)]
def wsL_law_r7 : List Cond := [Cond.methodLink RX0 95 yX0_multiple, Cond.instanceMethod yX0_multiple, Cond.selects RX0 yX0_multiple yX0_multiple, Cond.code yX0_multiple cX0_multiple 7 (some .long), Cond.methodLink RX0 137 yX0_shiftedRight, Cond.static yX0_shiftedRight, Cond.code yX0_shiftedRight cX0_shiftedRight 3 (some .long), Cond.methodLink RX0 152 yX0_isStepDue, Cond.instanceMethod yX0_isStepDue, Cond.selects RX0 yX0_isStepDue yX0_isStepDue, Cond.code yX0_isStepDue cX0_isStepDue 8 (some .boolean), Cond.methodLink RX0 148 yX0_isAwayFromZero, Cond.instanceMethod yX0_isAwayFromZero, Cond.selects RX0 yX0_isAwayFromZero yX0_isAwayFromZero, Cond.code yX0_isAwayFromZero cX0_isAwayFromZero 2 (some .boolean), Cond.methodLink RX0 140 yX0_isTiny, Cond.static yX0_isTiny, Cond.code yX0_isTiny cX0_isTiny 3 (some .boolean), Cond.methodLink RX0 145 yX0_overflowed, Cond.instanceMethod yX0_overflowed, Cond.selects RX0 yX0_overflowed yX0_overflowed, Cond.code yX0_overflowed cX0_overflowed 3 (some .int), Cond.constant RX0 151 (2139095039), Cond.methodLink RX0 133 yX0_aligned]
def wsL_law_r8 : List Cond := [Cond.static yX0_aligned, Cond.code yX0_aligned cX0_aligned 3 (some .long), Cond.methodLink RX0 71 yX0_withTrace, Cond.static yX0_withTrace, Cond.code yX0_withTrace cX0_withTrace 3 (some .long), Cond.methodLink RX0 75 yX0_isNegative, Cond.static yX0_isNegative, Cond.code yX0_isNegative cX0_isNegative 1 (some .boolean), Cond.methodLink RL 35 yX1_add, Cond.instanceMethod yX1_add, Cond.selects RX1 yX1_add yX1_add, Cond.code yX1_add cX1_add 4 (some .int), Cond.methodLink RX1 28 yX1_isNone, Cond.static yX1_isNone, Cond.code yX1_isNone cX1_isNone 1 (some .boolean), Cond.methodLink RX1 21 yX1_exponent, Cond.static yX1_exponent, Cond.code yX1_exponent cX1_exponent 1 (some .int), Cond.methodLink RX1 25 yX1_fraction, Cond.static yX1_fraction, Cond.code yX1_fraction cX1_fraction 1 (some .int), Cond.constant RX1 20 (8388607), Cond.methodLink RX1 77 yX1_none, Cond.instanceMethod yX1_none]
def wsL_law_r9 : List Cond := [Cond.selects RX1 yX1_none yX1_none, Cond.code yX1_none cX1_none 4 (some .int), Cond.constant RX1 39 (2143289344), Cond.methodLink RX1 36 yX1_isLoud, Cond.static yX1_isLoud, Cond.code yX1_isLoud cX1_isLoud 1 (some .boolean), Cond.constant RX1 32 (4194304), Cond.methodLink RX1 81 yX1_isInfinite, Cond.static yX1_isInfinite, Cond.code yX1_isInfinite cX1_isInfinite 1 (some .boolean), Cond.methodLink RX1 84 yX1_isNegative, Cond.static yX1_isNegative, Cond.code yX1_isNegative cX1_isNegative 1 (some .boolean), Cond.methodLink RX1 87 yX1_invalid, Cond.instanceMethod yX1_invalid, Cond.selects RX1 yX1_invalid yX1_invalid, Cond.code yX1_invalid cX1_invalid 1 (some .int), Cond.methodLink RX1 90 yX1_empty, Cond.instanceMethod yX1_empty, Cond.selects RX1 yX1_empty yX1_empty, Cond.code yX1_empty cX1_empty 3 none, Cond.fieldLink RX1 40 "RealBitsModel" "base" "I", Cond.fieldLink RX1 43 "RealBitsModel" "more" "Z", Cond.methodLink RX1 94 yX1_units]
def wsL_law_r10 : List Cond := [Cond.static yX1_units, Cond.code yX1_units cX1_units 1 (some .int), Cond.constant RX1 35 (8388608), Cond.methodLink RX1 97 yX1_place, Cond.static yX1_place, Cond.code yX1_place cX1_place 1 (some .int), Cond.methodLink RX1 100 yX1_put, Cond.instanceMethod yX1_put, Cond.selects RX1 yX1_put yX1_put, Cond.code yX1_put cX1_put 8 none, Cond.constantLong RX1 47 (-1), Cond.methodLink RX1 104 yX1_settle, Cond.instanceMethod yX1_settle, Cond.selects RX1 yX1_settle yX1_settle, Cond.code yX1_settle cX1_settle 3 (some .boolean), Cond.methodLink RX1 49 yX1_carry, Cond.instanceMethod yX1_carry, Cond.selects RX1 yX1_carry yX1_carry, Cond.code yX1_carry cX1_carry 2 none, Cond.constantLong RX1 52 (16777215), Cond.methodLink RX1 63 yX1_top, Cond.instanceMethod yX1_top, Cond.selects RX1 yX1_top yX1_top, Cond.code yX1_top cX1_top 2 (some .int)]
def wsL_law_r11 : List Cond := [Cond.methodLink RX1 54 yX1_bit, Cond.instanceMethod yX1_bit, Cond.selects RX1 yX1_bit yX1_bit, Cond.code yX1_bit cX1_bit 2 (some .int), Cond.methodLink RX1 108 yX1_isZero, Cond.static yX1_isZero, Cond.code yX1_isZero cX1_isZero 1 (some .boolean), Cond.constant RX1 33 (2147483647), Cond.methodLink RX1 111 yX1_zero, Cond.instanceMethod yX1_zero, Cond.selects RX1 yX1_zero yX1_zero, Cond.code yX1_zero cX1_zero 4 (some .int), Cond.methodLink RX1 74 yX1_signed, Cond.static yX1_signed, Cond.code yX1_signed cX1_signed 2 (some .int), Cond.constant RX1 34 (-2147483648), Cond.methodLink RX1 115 yX1_finish, Cond.instanceMethod yX1_finish, Cond.selects RX1 yX1_finish yX1_finish, Cond.code yX1_finish cX1_finish 7 (some .int), Cond.constant RX1 71 (16777216), Cond.fieldLink RX1 60 "RealBitsModel" "exact" "Z", Cond.constant RX1 72 (2139095039), Cond.constant RX1 73 (2139095040)]
def wsL_law_r12 : List Cond := [Cond.methodLink RX1 67 yX1_rounded, Cond.instanceMethod yX1_rounded, Cond.selects RX1 yX1_rounded yX1_rounded, Cond.code yX1_rounded cX1_rounded 7 (some .int), Cond.methodLink RX1 57 yX1_below, Cond.instanceMethod yX1_below, Cond.selects RX1 yX1_below yX1_below, Cond.code yX1_below cX1_below 3 (some .boolean), Cond.methodLink RL 36 yX0_subtract, Cond.instanceMethod yX0_subtract, Cond.selects RX0 yX0_subtract yX0_subtract, Cond.code yX0_subtract cX0_subtract 3 (some .int), Cond.methodLink RL 39 yX1_subtract, Cond.instanceMethod yX1_subtract, Cond.selects RX1 yX1_subtract yX1_subtract, Cond.code yX1_subtract cX1_subtract 3 (some .int), Cond.methodLink RX1 119 yX1_add, Cond.methodLink RL 40 yX0_multiply, Cond.instanceMethod yX0_multiply, Cond.selects RX0 yX0_multiply yX0_multiply, Cond.code yX0_multiply cX0_multiply 4 (some .int), Cond.methodLink RL 43 yX1_multiply, Cond.instanceMethod yX1_multiply, Cond.selects RX1 yX1_multiply yX1_multiply]
def wsL_law_r13 : List Cond := [Cond.code yX1_multiply cX1_multiply 5 (some .int), Cond.methodLink RL 44 yX0_divide, Cond.instanceMethod yX0_divide, Cond.selects RX0 yX0_divide yX0_divide, Cond.code yX0_divide cX0_divide 11 (some .int), Cond.methodLink RL 47 yX1_divide, Cond.instanceMethod yX1_divide, Cond.selects RX1 yX1_divide yX1_divide, Cond.code yX1_divide cX1_divide 11 (some .int), Cond.methodLink RX1 123 yX1_gap, Cond.static yX1_gap, Cond.code yX1_gap cX1_gap 2 (some .int), Cond.methodLink RL 48 yX0_root, Cond.instanceMethod yX0_root, Cond.selects RX0 yX0_root yX0_root, Cond.code yX0_root cX0_root 7 (some .int), Cond.methodLink RX0 78 yX0_floorRoot, Cond.static yX0_floorRoot, Cond.code yX0_floorRoot cX0_floorRoot 7 (some .long), Cond.methodLink RL 52 yX1_root, Cond.instanceMethod yX1_root, Cond.selects RX1 yX1_root yX1_root, Cond.code yX1_root cX1_root 11 (some .int), Cond.constantLong RX1 126 (2)]
def wsL_law_r14 : List Cond := [Cond.methodLink RL 53 yX0_fused, Cond.instanceMethod yX0_fused, Cond.selects RX0 yX0_fused yX0_fused, Cond.code yX0_fused cX0_fused 4 (some .int), Cond.methodLink RL 57 yX1_fused, Cond.instanceMethod yX1_fused, Cond.selects RX1 yX1_fused yX1_fused, Cond.code yX1_fused cX1_fused 9 (some .int), Cond.methodLink RL 58 yX0_scale, Cond.instanceMethod yX0_scale, Cond.selects RX0 yX0_scale yX0_scale, Cond.code yX0_scale cX0_scale 4 (some .int), Cond.methodLink RX0 82 Lib.Math.min.name, Cond.static Lib.Math.min.name, Cond.code Lib.Math.min.name Lib.Math.min.code 2 (some .int), Cond.methodLink RL 61 yX1_scale, Cond.instanceMethod yX1_scale, Cond.selects RX1 yX1_scale yX1_scale, Cond.code yX1_scale cX1_scale 5 (some .int), Cond.methodLink RL 62 yX0_whole, Cond.instanceMethod yX0_whole, Cond.selects RX0 yX0_whole yX0_whole, Cond.code yX0_whole cX0_whole 2 (some .int), Cond.methodLink RL 65 yX1_whole]
def wsL_law_r15 : List Cond := [Cond.instanceMethod yX1_whole, Cond.selects RX1 yX1_whole yX1_whole, Cond.code yX1_whole cX1_whole 5 (some .int), Cond.methodLink RX1 128 yX1_nearest, Cond.instanceMethod yX1_nearest, Cond.selects RX1 yX1_nearest yX1_nearest, Cond.code yX1_nearest cX1_nearest 3 (some .long), Cond.methodLink RL 66 yX0_toInt, Cond.instanceMethod yX0_toInt, Cond.selects RX0 yX0_toInt yX0_toInt, Cond.code yX0_toInt cX0_toInt 6 (some .int), Cond.constantLong RX0 105 (-2147483648), Cond.constantLong RX0 107 (2147483647), Cond.methodLink RX0 99 yX0_isFinite, Cond.static yX0_isFinite, Cond.code yX0_isFinite cX0_isFinite 1 (some .boolean), Cond.methodLink RX0 102 yX0_invalidInt, Cond.instanceMethod yX0_invalidInt, Cond.selects RX0 yX0_invalidInt yX0_invalidInt, Cond.code yX0_invalidInt cX0_invalidInt 1 (some .int), Cond.methodLink RL 69 yX1_toInt, Cond.instanceMethod yX1_toInt, Cond.selects RX1 yX1_toInt yX1_toInt, Cond.code yX1_toInt cX1_toInt 6 (some .int)]
def wsL_law_r16 : List Cond := [Cond.constantLong RX1 132 (2147483648), Cond.constantLong RX1 134 (2147483647), Cond.methodLink RL 70 yX0_fromInt, Cond.instanceMethod yX0_fromInt, Cond.selects RX0 yX0_fromInt yX0_fromInt, Cond.code yX0_fromInt cX0_fromInt 2 (some .int), Cond.methodLink RL 73 yX1_fromInt, Cond.instanceMethod yX1_fromInt, Cond.selects RX1 yX1_fromInt yX1_fromInt, Cond.code yX1_fromInt cX1_fromInt 3 (some .int), Cond.methodLink RL 74 yX0_compare, Cond.instanceMethod yX0_compare, Cond.selects RX0 yX0_compare yX0_compare, Cond.code yX0_compare cX0_compare 5 (some .int), Cond.methodLink RX0 112 yX0_place, Cond.static yX0_place, Cond.code yX0_place cX0_place 2 (some .int), Cond.methodLink RL 77 yX1_compare, Cond.instanceMethod yX1_compare, Cond.selects RX1 yX1_compare yX1_compare, Cond.code yX1_compare cX1_compare 4 (some .int), Cond.methodLink RX1 136 yX1_rank, Cond.static yX1_rank, Cond.code yX1_rank cX1_rank 1 (some .int)]
def wsL_law_r17 : List Cond := [Cond.methodLink RL 78 yX0_next, Cond.instanceMethod yX0_next, Cond.selects RX0 yX0_next yX0_next, Cond.code yX0_next cX0_next 2 (some .int), Cond.methodLink RL 81 yX1_next, Cond.instanceMethod yX1_next, Cond.selects RX1 yX1_next yX1_next, Cond.code yX1_next cX1_next 3 (some .int), Cond.methodLink RL 82 yX0_kind, Cond.instanceMethod yX0_kind, Cond.selects RX0 yX0_kind yX0_kind, Cond.code yX0_kind cX0_kind 2 (some .int), Cond.methodLink RX0 115 yX0_kindWithoutSign, Cond.static yX0_kindWithoutSign, Cond.code yX0_kindWithoutSign cX0_kindWithoutSign 1 (some .int), Cond.methodLink RL 85 yX1_kind, Cond.instanceMethod yX1_kind, Cond.selects RX1 yX1_kind yX1_kind, Cond.code yX1_kind cX1_kind 3 (some .int)]
def wsL_law : List Cond := (wsL_law_r1 ++ (wsL_law_r2 ++ (wsL_law_r3 ++ (wsL_law_r4 ++ (wsL_law_r5 ++ (wsL_law_r6 ++ (wsL_law_r7 ++ (wsL_law_r8 ++ (wsL_law_r9 ++ (wsL_law_r10 ++ (wsL_law_r11 ++ (wsL_law_r12 ++ (wsL_law_r13 ++ (wsL_law_r14 ++ (wsL_law_r15 ++ (wsL_law_r16 ++ wsL_law_r17)))))))))))))))) ++ wsX00 ++ wsX10 ++ ([] : List Cond)
set_option maxRecDepth 20000 in
theorem wsL_law_r1_in : ∀ w ∈ wsL_law_r1, w ∈ lw_tbl := fun w h => (goodIn_r (big := lw_tbl) wsL_law_r1 [31, 32, 26, 250, 251, 27, 33, 34, 35, 36, 37, 38, 39, 40, 252, 253, 254, 255, 275, 258, 256, 46, 47, 48] (by decide +kernel) (by decide +kernel) w h).1
set_option maxRecDepth 20000 in
theorem wsL_law_r2_in : ∀ w ∈ wsL_law_r2, w ∈ lw_tbl := fun w h => (goodIn_r (big := lw_tbl) wsL_law_r2 [49, 276, 277, 278, 279, 50, 51, 52, 53, 280, 281, 282, 283, 54, 55, 56, 57, 284, 285, 286, 287, 257, 58, 59] (by decide +kernel) (by decide +kernel) w h).1
set_option maxRecDepth 20000 in
theorem wsL_law_r3_in : ∀ w ∈ wsL_law_r3, w ∈ lw_tbl := fun w h => (goodIn_r (big := lw_tbl) wsL_law_r3 [60, 61, 288, 289, 290, 291, 62, 63, 64, 65, 66, 67, 69, 0, 70, 81, 71, 72, 73, 74, 75, 76, 77, 78] (by decide +kernel) (by decide +kernel) w h).1
set_option maxRecDepth 20000 in
theorem wsL_law_r4_in : ∀ w ∈ wsL_law_r4, w ∈ lw_tbl := fun w h => (goodIn_r (big := lw_tbl) wsL_law_r4 [79, 80, 82, 84, 1, 85, 90, 86, 88, 2, 89, 91, 92, 93, 94, 95, 96, 97, 98, 99, 101, 3, 102, 103] (by decide +kernel) (by decide +kernel) w h).1
set_option maxRecDepth 20000 in
theorem wsL_law_r5_in : ∀ w ∈ wsL_law_r5, w ∈ lw_tbl := fun w h => (goodIn_r (big := lw_tbl) wsL_law_r5 [104, 105, 106, 107, 108, 109, 113, 110, 111, 112, 114, 115, 116, 117, 118, 28, 119, 120, 122, 4, 123, 178, 179, 180] (by decide +kernel) (by decide +kernel) w h).1
set_option maxRecDepth 20000 in
theorem wsL_law_r6_in : ∀ w ∈ wsL_law_r6, w ∈ lw_tbl := fun w h => (goodIn_r (big := lw_tbl) wsL_law_r6 [124, 126, 5, 127, 128, 130, 6, 131, 163, 132, 133, 134, 135, 136, 29, 137, 138, 139, 30, 140, 141, 142, 143, 144] (by decide +kernel) (by decide +kernel) w h).1
set_option maxRecDepth 20000 in
theorem wsL_law_r7_in : ∀ w ∈ wsL_law_r7, w ∈ lw_tbl := fun w h => (goodIn_r (big := lw_tbl) wsL_law_r7 [145, 147, 7, 148, 149, 150, 151, 152, 154, 8, 155, 156, 158, 9, 159, 160, 161, 162, 164, 166, 10, 167, 168, 169] (by decide +kernel) (by decide +kernel) w h).1
set_option maxRecDepth 20000 in
theorem wsL_law_r8_in : ∀ w ∈ wsL_law_r8, w ∈ lw_tbl := fun w h => (goodIn_r (big := lw_tbl) wsL_law_r8 [170, 171, 172, 173, 174, 175, 176, 177, 292, 293, 294, 295, 296, 297, 298, 299, 300, 301, 302, 303, 304, 305, 306, 308] (by decide +kernel) (by decide +kernel) w h).1
set_option maxRecDepth 20000 in
theorem wsL_law_r9_in : ∀ w ∈ wsL_law_r9, w ∈ lw_tbl := fun w h => (goodIn_r (big := lw_tbl) wsL_law_r9 [12, 309, 314, 310, 311, 312, 313, 315, 316, 317, 318, 319, 320, 321, 323, 13, 324, 325, 327, 14, 328, 259, 260, 329] (by decide +kernel) (by decide +kernel) w h).1
set_option maxRecDepth 20000 in
theorem wsL_law_r10_in : ∀ w ∈ wsL_law_r10, w ∈ lw_tbl := fun w h => (goodIn_r (big := lw_tbl) wsL_law_r10 [330, 331, 332, 333, 334, 335, 336, 338, 15, 339, 340, 341, 343, 16, 344, 345, 347, 17, 348, 349, 350, 352, 18, 353] (by decide +kernel) (by decide +kernel) w h).1
set_option maxRecDepth 20000 in
theorem wsL_law_r11_in : ∀ w ∈ wsL_law_r11, w ∈ lw_tbl := fun w h => (goodIn_r (big := lw_tbl) wsL_law_r11 [354, 356, 19, 357, 358, 359, 360, 361, 362, 364, 20, 365, 366, 367, 368, 369, 370, 372, 21, 373, 382, 261, 383, 384] (by decide +kernel) (by decide +kernel) w h).1
set_option maxRecDepth 20000 in
theorem wsL_law_r12_in : ∀ w ∈ wsL_law_r12, w ∈ lw_tbl := fun w h => (goodIn_r (big := lw_tbl) wsL_law_r12 [374, 376, 22, 377, 378, 380, 23, 381, 181, 182, 183, 184, 385, 386, 387, 388, 389, 185, 186, 187, 188, 394, 395, 396] (by decide +kernel) (by decide +kernel) w h).1
set_option maxRecDepth 20000 in
theorem wsL_law_r13_in : ∀ w ∈ wsL_law_r13, w ∈ lw_tbl := fun w h => (goodIn_r (big := lw_tbl) wsL_law_r13 [397, 189, 190, 191, 192, 398, 399, 400, 401, 402, 403, 404, 193, 194, 195, 196, 197, 198, 199, 405, 406, 407, 408, 409] (by decide +kernel) (by decide +kernel) w h).1
set_option maxRecDepth 20000 in
theorem wsL_law_r14_in : ∀ w ∈ wsL_law_r14, w ∈ lw_tbl := fun w h => (goodIn_r (big := lw_tbl) wsL_law_r14 [200, 201, 202, 203, 390, 391, 392, 393, 204, 205, 206, 207, 208, 209, 210, 410, 411, 412, 413, 211, 212, 213, 214, 414] (by decide +kernel) (by decide +kernel) w h).1
set_option maxRecDepth 20000 in
theorem wsL_law_r15_in : ∀ w ∈ wsL_law_r15, w ∈ lw_tbl := fun w h => (goodIn_r (big := lw_tbl) wsL_law_r15 [415, 416, 417, 418, 420, 24, 421, 215, 216, 217, 218, 226, 227, 219, 220, 221, 222, 224, 11, 225, 422, 423, 424, 425] (by decide +kernel) (by decide +kernel) w h).1
set_option maxRecDepth 20000 in
theorem wsL_law_r16_in : ∀ w ∈ wsL_law_r16, w ∈ lw_tbl := fun w h => (goodIn_r (big := lw_tbl) wsL_law_r16 [426, 427, 228, 229, 230, 231, 428, 429, 430, 431, 232, 233, 234, 235, 236, 237, 238, 432, 433, 434, 435, 436, 437, 438] (by decide +kernel) (by decide +kernel) w h).1
set_option maxRecDepth 20000 in
theorem wsL_law_r17_in : ∀ w ∈ wsL_law_r17, w ∈ lw_tbl := fun w h => (goodIn_r (big := lw_tbl) wsL_law_r17 [239, 240, 241, 242, 439, 440, 441, 442, 243, 244, 245, 246, 247, 248, 249, 443, 444, 445, 446] (by decide +kernel) (by decide +kernel) w h).1
theorem wsX00_in : ∀ w ∈ wsX00, w ∈ lw_tbl := by decide +kernel
theorem wsX10_in : ∀ w ∈ wsX10, w ∈ lw_tbl := by decide +kernel
theorem wsL_law_in : ∀ w ∈ wsL_law, w ∈ lw_tbl := List.forall_mem_append.mpr ⟨List.forall_mem_append.mpr ⟨List.forall_mem_append.mpr ⟨List.forall_mem_append.mpr ⟨wsL_law_r1_in, List.forall_mem_append.mpr ⟨wsL_law_r2_in, List.forall_mem_append.mpr ⟨wsL_law_r3_in, List.forall_mem_append.mpr ⟨wsL_law_r4_in, List.forall_mem_append.mpr ⟨wsL_law_r5_in, List.forall_mem_append.mpr ⟨wsL_law_r6_in, List.forall_mem_append.mpr ⟨wsL_law_r7_in, List.forall_mem_append.mpr ⟨wsL_law_r8_in, List.forall_mem_append.mpr ⟨wsL_law_r9_in, List.forall_mem_append.mpr ⟨wsL_law_r10_in, List.forall_mem_append.mpr ⟨wsL_law_r11_in, List.forall_mem_append.mpr ⟨wsL_law_r12_in, List.forall_mem_append.mpr ⟨wsL_law_r13_in, List.forall_mem_append.mpr ⟨wsL_law_r14_in, List.forall_mem_append.mpr ⟨wsL_law_r15_in, List.forall_mem_append.mpr ⟨wsL_law_r16_in, wsL_law_r17_in⟩⟩⟩⟩⟩⟩⟩⟩⟩⟩⟩⟩⟩⟩⟩⟩, wsX00_in⟩, wsX10_in⟩, fun _ h => absurd h List.not_mem_nil⟩
theorem inlX0 : ∀ w ∈ wsX00, w ∈ wsL_law := fun _ h => List.mem_append_left _ (List.mem_append_left _ (List.mem_append_right _ h))
theorem inX0 : ∀ w ∈ wsX00, w ∈ lw_tbl := fun w h => wsL_law_in w (inlX0 w h)
theorem inlX1 : ∀ w ∈ wsX10, w ∈ wsL_law := fun _ h => List.mem_append_left _ (List.mem_append_right _ h)
theorem inX1 : ∀ w ∈ wsX10, w ∈ lw_tbl := fun w h => wsL_law_in w (inlX1 w h)
theorem inJ6 : ∀ w ∈ wsJ60, w ∈ lw_tbl := by decide +kernel
theorem inJ13 : ∀ w ∈ wsJ130, w ∈ lw_tbl := by decide +kernel
theorem inJ9 : ∀ w ∈ wsJ90, w ∈ lw_tbl := by decide +kernel
abbrev vwCl : List vw_C := [(RX0, TX0, 2), (RX1, TX1, 6)]
end
section
theorem dX0_init_0 : decode cX0_init 0 = .ok (.aload_n 0, 1) := by decide +kernel
theorem dX0_init_1 : decode cX0_init 1 = .ok (.invokespecial 1, 3) := by decide +kernel
theorem dX0_init_4 : decode cX0_init 4 = .ok (.aload_n 0, 1) := by decide +kernel
theorem dX0_init_5 : decode cX0_init 5 = .ok (.iconst 0, 1) := by decide +kernel
theorem dX0_init_6 : decode cX0_init 6 = .ok (.putfield 9, 3) := by decide +kernel
theorem dX0_init_9 : decode cX0_init 9 = .ok (.aload_n 0, 1) := by decide +kernel
theorem dX0_init_10 : decode cX0_init 10 = .ok (.iconst 0, 1) := by decide +kernel
theorem dX0_init_11 : decode cX0_init 11 = .ok (.putfield 13, 3) := by decide +kernel
theorem dX0_init_14 : decode cX0_init 14 = .ok (.return_, 1) := by decide +kernel
theorem dX0_round_0 : decode cX0_round 0 = .ok (.iload_n 1, 1) := by decide +kernel
theorem dX0_round_1 : decode cX0_round 1 = .ok (.ifCond .lt 8, 3) := by decide +kernel
theorem dX0_round_4 : decode cX0_round 4 = .ok (.iload_n 1, 1) := by decide +kernel
theorem dX0_round_5 : decode cX0_round 5 = .ok (.iconst 3, 1) := by decide +kernel
theorem dX0_round_6 : decode cX0_round 6 = .ok (.if_icmp .le 5, 3) := by decide +kernel
theorem dX0_round_9 : decode cX0_round 9 = .ok (.iconst 0, 1) := by decide +kernel
theorem dX0_round_10 : decode cX0_round 10 = .ok (.ireturn, 1) := by decide +kernel
theorem dX0_round_11 : decode cX0_round 11 = .ok (.aload_n 0, 1) := by decide +kernel
theorem dX0_round_12 : decode cX0_round 12 = .ok (.iload_n 1, 1) := by decide +kernel
theorem dX0_round_13 : decode cX0_round 13 = .ok (.putfield 9, 3) := by decide +kernel
theorem dX0_round_16 : decode cX0_round 16 = .ok (.iconst 1, 1) := by decide +kernel
theorem dX0_round_17 : decode cX0_round 17 = .ok (.ireturn, 1) := by decide +kernel
theorem dX0_mode_0 : decode cX0_mode 0 = .ok (.aload_n 0, 1) := by decide +kernel
theorem dX0_mode_1 : decode cX0_mode 1 = .ok (.getfield 9, 3) := by decide +kernel
theorem dX0_mode_4 : decode cX0_mode 4 = .ok (.ireturn, 1) := by decide +kernel
theorem dX0_flags_0 : decode cX0_flags 0 = .ok (.aload_n 0, 1) := by decide +kernel
theorem dX0_flags_1 : decode cX0_flags 1 = .ok (.getfield 13, 3) := by decide +kernel
theorem dX0_flags_4 : decode cX0_flags 4 = .ok (.ireturn, 1) := by decide +kernel
theorem dX0_clear_0 : decode cX0_clear 0 = .ok (.aload_n 0, 1) := by decide +kernel
theorem dX0_clear_1 : decode cX0_clear 1 = .ok (.getfield 13, 3) := by decide +kernel
theorem dX0_clear_4 : decode cX0_clear 4 = .ok (.istore_n 1, 1) := by decide +kernel
theorem dX0_clear_5 : decode cX0_clear 5 = .ok (.aload_n 0, 1) := by decide +kernel
theorem dX0_clear_6 : decode cX0_clear 6 = .ok (.iconst 0, 1) := by decide +kernel
theorem dX0_clear_7 : decode cX0_clear 7 = .ok (.putfield 13, 3) := by decide +kernel
theorem dX0_clear_10 : decode cX0_clear 10 = .ok (.iload_n 1, 1) := by decide +kernel
theorem dX0_clear_11 : decode cX0_clear 11 = .ok (.ireturn, 1) := by decide +kernel
set_option maxRecDepth 20000 in
theorem ggX0_add_X0_productPlus : GoodIn wsX0_add wsX0_productPlus := goodIn_r _ [6, 7, 8, 9, 5, 10, 11, 12, 13, 14, 15, 16, 17, 18, 19, 20, 21, 22, 23, 24, 25, 26, 27, 28, 29, 30, 31, 32, 33, 34, 35, 36, 37, 38, 39, 40, 41, 42, 43, 44, 45, 46, 47, 48, 49, 50, 51, 52, 53, 54, 55, 56, 57, 58, 59, 60, 61, 62, 63, 64, 65, 66, 67, 68, 69, 70, 71, 72, 73, 74, 75, 76, 77, 78, 79, 80, 81, 82, 83, 84, 85, 86, 87, 88, 89, 90, 91, 92, 93, 94, 95, 96, 97, 98, 99, 100, 101, 102, 103, 104, 105, 106, 107, 108, 109, 110, 111, 112, 113, 114, 115, 116, 117, 118, 119, 120, 121, 122, 123] (by decide +kernel) (by decide +kernel)
set_option maxRecDepth 20000 in
theorem gX0_add_X0_productPlus : GoodIn wsX0_add (wsV RX0 17 RX0 yX0_productPlus wsX0_productPlus) := goodIn_app (goodIn_of _ (by decide +kernel)) ggX0_add_X0_productPlus
theorem dX0_add_0 : decode cX0_add 0 = .ok (.aload_n 0, 1) := by decide +kernel
theorem dX0_add_1 : decode cX0_add 1 = .ok (.ldc 16, 2) := by decide +kernel
theorem dX0_add_3 : decode cX0_add 3 = .ok (.iload_n 1, 1) := by decide +kernel
theorem dX0_add_4 : decode cX0_add 4 = .ok (.iload_n 2, 1) := by decide +kernel
theorem dX0_add_5 : decode cX0_add 5 = .ok (.invokevirtual 17, 3) := by decide +kernel
theorem dX0_add_8 : decode cX0_add 8 = .ok (.ireturn, 1) := by decide +kernel
set_option maxRecDepth 20000 in
theorem ggX0_subtract_X0_productPlus : GoodIn wsX0_subtract wsX0_productPlus := goodIn_r _ [7, 8, 9, 10, 6, 11, 12, 13, 14, 15, 16, 17, 18, 19, 20, 21, 22, 23, 24, 25, 26, 27, 28, 29, 30, 31, 32, 33, 34, 35, 36, 37, 38, 39, 40, 41, 42, 43, 2, 44, 45, 46, 47, 48, 49, 50, 51, 52, 53, 54, 55, 56, 57, 58, 59, 60, 61, 62, 63, 64, 65, 66, 67, 68, 69, 70, 71, 72, 73, 74, 75, 76, 77, 78, 79, 80, 81, 82, 83, 84, 85, 86, 87, 88, 89, 90, 91, 92, 93, 94, 95, 96, 97, 98, 99, 100, 101, 102, 103, 104, 105, 106, 107, 108, 109, 110, 111, 112, 113, 114, 115, 116, 117, 118, 119, 120, 121, 122, 123] (by decide +kernel) (by decide +kernel)
set_option maxRecDepth 20000 in
theorem gX0_subtract_X0_productPlus : GoodIn wsX0_subtract (wsV RX0 17 RX0 yX0_productPlus wsX0_productPlus) := goodIn_app (goodIn_of _ (by decide +kernel)) ggX0_subtract_X0_productPlus
theorem dX0_subtract_0 : decode cX0_subtract 0 = .ok (.aload_n 0, 1) := by decide +kernel
theorem dX0_subtract_1 : decode cX0_subtract 1 = .ok (.ldc 16, 2) := by decide +kernel
theorem dX0_subtract_3 : decode cX0_subtract 3 = .ok (.iload_n 1, 1) := by decide +kernel
theorem dX0_subtract_4 : decode cX0_subtract 4 = .ok (.iload_n 2, 1) := by decide +kernel
theorem dX0_subtract_5 : decode cX0_subtract 5 = .ok (.ldc 21, 2) := by decide +kernel
theorem dX0_subtract_7 : decode cX0_subtract 7 = .ok (.ixor, 1) := by decide +kernel
theorem dX0_subtract_8 : decode cX0_subtract 8 = .ok (.invokevirtual 17, 3) := by decide +kernel
theorem dX0_subtract_11 : decode cX0_subtract 11 = .ok (.ireturn, 1) := by decide +kernel
set_option maxRecDepth 20000 in
theorem ggX0_multiply_X0_isNoNumber : GoodIn wsX0_multiply wsX0_isNoNumber := goodIn_r _ [5, 6, 1] (by decide +kernel) (by decide +kernel)
set_option maxRecDepth 20000 in
theorem gX0_multiply_X0_isNoNumber : GoodIn wsX0_multiply (va_wsS RX0 22 yX0_isNoNumber wsX0_isNoNumber) := goodIn_app (goodIn_of _ (by decide +kernel)) ggX0_multiply_X0_isNoNumber
set_option maxRecDepth 20000 in
theorem ggX0_multiply_X0_isLoud : GoodIn wsX0_multiply wsX0_isLoud := goodIn_r _ [9, 10, 11, 2, 3, 4, 5, 6, 1] (by decide +kernel) (by decide +kernel)
set_option maxRecDepth 20000 in
theorem gX0_multiply_X0_isLoud : GoodIn wsX0_multiply (va_wsS RX0 26 yX0_isLoud wsX0_isLoud) := goodIn_app (goodIn_of _ (by decide +kernel)) ggX0_multiply_X0_isLoud
set_option maxRecDepth 20000 in
theorem ggX0_multiply_X0_noNumber : GoodIn wsX0_multiply wsX0_noNumber := goodIn_r _ [15, 16, 17, 18, 19, 4, 20, 21, 97, 98] (by decide +kernel) (by decide +kernel)
set_option maxRecDepth 20000 in
theorem gX0_multiply_X0_noNumber : GoodIn wsX0_multiply (wsV RX0 29 RX0 yX0_noNumber wsX0_noNumber) := goodIn_app (goodIn_of _ (by decide +kernel)) ggX0_multiply_X0_noNumber
set_option maxRecDepth 20000 in
theorem ggX0_multiply_X0_isZeroTimesInfinite : GoodIn wsX0_multiply wsX0_isZeroTimesInfinite := goodIn_r _ [24, 25, 26, 4, 27, 6, 28, 29, 30, 1] (by decide +kernel) (by decide +kernel)
set_option maxRecDepth 20000 in
theorem gX0_multiply_X0_isZeroTimesInfinite : GoodIn wsX0_multiply (va_wsS RX0 33 yX0_isZeroTimesInfinite wsX0_isZeroTimesInfinite) := goodIn_app (goodIn_of _ (by decide +kernel)) ggX0_multiply_X0_isZeroTimesInfinite
set_option maxRecDepth 20000 in
theorem ggX0_multiply_X0_invalid : GoodIn wsX0_multiply wsX0_invalid := goodIn_r _ [34, 16, 17, 18, 19, 4, 20, 21, 97, 98] (by decide +kernel) (by decide +kernel)
set_option maxRecDepth 20000 in
theorem gX0_multiply_X0_invalid : GoodIn wsX0_multiply (wsV RX0 37 RX0 yX0_invalid wsX0_invalid) := goodIn_app (goodIn_of _ (by decide +kernel)) ggX0_multiply_X0_invalid
set_option maxRecDepth 20000 in
theorem ggX0_multiply_X0_signOf : GoodIn wsX0_multiply wsX0_signOf := goodIn_r _ [37, 38] (by decide +kernel) (by decide +kernel)
set_option maxRecDepth 20000 in
theorem gX0_multiply_X0_signOf : GoodIn wsX0_multiply (va_wsS RX0 41 yX0_signOf wsX0_signOf) := goodIn_app (goodIn_of _ (by decide +kernel)) ggX0_multiply_X0_signOf
set_option maxRecDepth 20000 in
theorem ggX0_multiply_X0_isInfinite : GoodIn wsX0_multiply wsX0_isInfinite := goodIn_r _ [30, 6, 1] (by decide +kernel) (by decide +kernel)
set_option maxRecDepth 20000 in
theorem gX0_multiply_X0_isInfinite : GoodIn wsX0_multiply (va_wsS RX0 45 yX0_isInfinite wsX0_isInfinite) := goodIn_app (goodIn_of _ (by decide +kernel)) ggX0_multiply_X0_isInfinite
set_option maxRecDepth 20000 in
theorem ggX0_multiply_X0_magnitudeOf : GoodIn wsX0_multiply wsX0_magnitudeOf := goodIn_r _ [41, 10, 42, 43, 44, 4, 45, 6] (by decide +kernel) (by decide +kernel)
set_option maxRecDepth 20000 in
theorem gX0_multiply_X0_magnitudeOf : GoodIn wsX0_multiply (va_wsS RX0 49 yX0_magnitudeOf wsX0_magnitudeOf) := goodIn_app (goodIn_of _ (by decide +kernel)) ggX0_multiply_X0_magnitudeOf
set_option maxRecDepth 20000 in
theorem ggX0_multiply_X0_unitOf : GoodIn wsX0_multiply wsX0_unitOf := goodIn_r _ [48, 49, 50, 51, 52, 43, 44, 4, 45, 6] (by decide +kernel) (by decide +kernel)
set_option maxRecDepth 20000 in
theorem gX0_multiply_X0_unitOf : GoodIn wsX0_multiply (va_wsS RX0 53 yX0_unitOf wsX0_unitOf) := goodIn_app (goodIn_of _ (by decide +kernel)) ggX0_multiply_X0_unitOf
set_option maxRecDepth 20000 in
theorem ggX0_multiply_X0_rounded : GoodIn wsX0_multiply wsX0_rounded := goodIn_r _ [56, 49, 50, 51, 52, 57, 58, 59, 4, 60, 61, 62, 63, 64, 65, 66, 67, 68, 69, 70, 71, 72, 17, 18, 19, 20, 21, 73, 74, 75, 76, 77, 78, 79, 80, 81, 82, 83, 84, 85, 86, 87, 88, 89, 90, 91, 92, 93, 94, 95, 1, 96, 97, 98] (by decide +kernel) (by decide +kernel)
set_option maxRecDepth 20000 in
theorem gX0_multiply_X0_rounded : GoodIn wsX0_multiply (wsV RX0 56 RX0 yX0_rounded wsX0_rounded) := goodIn_app (goodIn_of _ (by decide +kernel)) ggX0_multiply_X0_rounded
theorem dX0_multiply_0 : decode cX0_multiply 0 = .ok (.iload_n 1, 1) := by decide +kernel
theorem dX0_multiply_1 : decode cX0_multiply 1 = .ok (.invokestatic 22, 3) := by decide +kernel
theorem dX0_multiply_4 : decode cX0_multiply 4 = .ok (.ifCond .ne 10, 3) := by decide +kernel
theorem dX0_multiply_7 : decode cX0_multiply 7 = .ok (.iload_n 2, 1) := by decide +kernel
theorem dX0_multiply_8 : decode cX0_multiply 8 = .ok (.invokestatic 22, 3) := by decide +kernel
theorem dX0_multiply_11 : decode cX0_multiply 11 = .ok (.ifCond .eq 27, 3) := by decide +kernel
theorem dX0_multiply_14 : decode cX0_multiply 14 = .ok (.aload_n 0, 1) := by decide +kernel
theorem dX0_multiply_15 : decode cX0_multiply 15 = .ok (.iload_n 1, 1) := by decide +kernel
theorem dX0_multiply_16 : decode cX0_multiply 16 = .ok (.invokestatic 26, 3) := by decide +kernel
theorem dX0_multiply_19 : decode cX0_multiply 19 = .ok (.ifCond .ne 10, 3) := by decide +kernel
theorem dX0_multiply_22 : decode cX0_multiply 22 = .ok (.iload_n 2, 1) := by decide +kernel
theorem dX0_multiply_23 : decode cX0_multiply 23 = .ok (.invokestatic 26, 3) := by decide +kernel
theorem dX0_multiply_26 : decode cX0_multiply 26 = .ok (.ifCond .eq 7, 3) := by decide +kernel
theorem dX0_multiply_29 : decode cX0_multiply 29 = .ok (.iconst 1, 1) := by decide +kernel
theorem dX0_multiply_30 : decode cX0_multiply 30 = .ok (.goto 4, 3) := by decide +kernel
theorem dX0_multiply_33 : decode cX0_multiply 33 = .ok (.iconst 0, 1) := by decide +kernel
theorem dX0_multiply_34 : decode cX0_multiply 34 = .ok (.invokevirtual 29, 3) := by decide +kernel
theorem dX0_multiply_37 : decode cX0_multiply 37 = .ok (.ireturn, 1) := by decide +kernel
theorem dX0_multiply_38 : decode cX0_multiply 38 = .ok (.iload_n 1, 1) := by decide +kernel
theorem dX0_multiply_39 : decode cX0_multiply 39 = .ok (.iload_n 2, 1) := by decide +kernel
theorem dX0_multiply_40 : decode cX0_multiply 40 = .ok (.invokestatic 33, 3) := by decide +kernel
theorem dX0_multiply_43 : decode cX0_multiply 43 = .ok (.ifCond .eq 8, 3) := by decide +kernel
theorem dX0_multiply_46 : decode cX0_multiply 46 = .ok (.aload_n 0, 1) := by decide +kernel
theorem dX0_multiply_47 : decode cX0_multiply 47 = .ok (.invokevirtual 37, 3) := by decide +kernel
theorem dX0_multiply_50 : decode cX0_multiply 50 = .ok (.ireturn, 1) := by decide +kernel
theorem dX0_multiply_51 : decode cX0_multiply 51 = .ok (.iload_n 1, 1) := by decide +kernel
theorem dX0_multiply_52 : decode cX0_multiply 52 = .ok (.iload_n 2, 1) := by decide +kernel
theorem dX0_multiply_53 : decode cX0_multiply 53 = .ok (.ixor, 1) := by decide +kernel
theorem dX0_multiply_54 : decode cX0_multiply 54 = .ok (.invokestatic 41, 3) := by decide +kernel
theorem dX0_multiply_57 : decode cX0_multiply 57 = .ok (.istore_n 3, 1) := by decide +kernel
theorem dX0_multiply_58 : decode cX0_multiply 58 = .ok (.iload_n 1, 1) := by decide +kernel
theorem dX0_multiply_59 : decode cX0_multiply 59 = .ok (.invokestatic 45, 3) := by decide +kernel
theorem dX0_multiply_62 : decode cX0_multiply 62 = .ok (.ifCond .ne 10, 3) := by decide +kernel
theorem dX0_multiply_65 : decode cX0_multiply 65 = .ok (.iload_n 2, 1) := by decide +kernel
theorem dX0_multiply_66 : decode cX0_multiply 66 = .ok (.invokestatic 45, 3) := by decide +kernel
theorem dX0_multiply_69 : decode cX0_multiply 69 = .ok (.ifCond .eq 8, 3) := by decide +kernel
theorem dX0_multiply_72 : decode cX0_multiply 72 = .ok (.iload_n 3, 1) := by decide +kernel
theorem dX0_multiply_73 : decode cX0_multiply 73 = .ok (.ldc 48, 2) := by decide +kernel
theorem dX0_multiply_75 : decode cX0_multiply 75 = .ok (.ior, 1) := by decide +kernel
theorem dX0_multiply_76 : decode cX0_multiply 76 = .ok (.ireturn, 1) := by decide +kernel
theorem dX0_multiply_77 : decode cX0_multiply 77 = .ok (.aload_n 0, 1) := by decide +kernel
theorem dX0_multiply_78 : decode cX0_multiply 78 = .ok (.iload_n 3, 1) := by decide +kernel
theorem dX0_multiply_79 : decode cX0_multiply 79 = .ok (.iload_n 1, 1) := by decide +kernel
theorem dX0_multiply_80 : decode cX0_multiply 80 = .ok (.invokestatic 49, 3) := by decide +kernel
theorem dX0_multiply_83 : decode cX0_multiply 83 = .ok (.iload_n 2, 1) := by decide +kernel
theorem dX0_multiply_84 : decode cX0_multiply 84 = .ok (.invokestatic 49, 3) := by decide +kernel
theorem dX0_multiply_87 : decode cX0_multiply 87 = .ok (.lmul, 1) := by decide +kernel
theorem dX0_multiply_88 : decode cX0_multiply 88 = .ok (.iload_n 1, 1) := by decide +kernel
theorem dX0_multiply_89 : decode cX0_multiply 89 = .ok (.invokestatic 53, 3) := by decide +kernel
theorem dX0_multiply_92 : decode cX0_multiply 92 = .ok (.iload_n 2, 1) := by decide +kernel
theorem dX0_multiply_93 : decode cX0_multiply 93 = .ok (.invokestatic 53, 3) := by decide +kernel
theorem dX0_multiply_96 : decode cX0_multiply 96 = .ok (.iadd, 1) := by decide +kernel
theorem dX0_multiply_97 : decode cX0_multiply 97 = .ok (.invokevirtual 56, 3) := by decide +kernel
theorem dX0_multiply_100 : decode cX0_multiply 100 = .ok (.ireturn, 1) := by decide +kernel
set_option maxRecDepth 20000 in
theorem ggX0_divide_X0_isNoNumber : GoodIn wsX0_divide wsX0_isNoNumber := goodIn_r _ [5, 6, 1] (by decide +kernel) (by decide +kernel)
set_option maxRecDepth 20000 in
theorem gX0_divide_X0_isNoNumber : GoodIn wsX0_divide (va_wsS RX0 22 yX0_isNoNumber wsX0_isNoNumber) := goodIn_app (goodIn_of _ (by decide +kernel)) ggX0_divide_X0_isNoNumber
set_option maxRecDepth 20000 in
theorem ggX0_divide_X0_isLoud : GoodIn wsX0_divide wsX0_isLoud := goodIn_r _ [9, 10, 11, 2, 3, 4, 5, 6, 1] (by decide +kernel) (by decide +kernel)
set_option maxRecDepth 20000 in
theorem gX0_divide_X0_isLoud : GoodIn wsX0_divide (va_wsS RX0 26 yX0_isLoud wsX0_isLoud) := goodIn_app (goodIn_of _ (by decide +kernel)) ggX0_divide_X0_isLoud
set_option maxRecDepth 20000 in
theorem ggX0_divide_X0_noNumber : GoodIn wsX0_divide wsX0_noNumber := goodIn_r _ [15, 16, 17, 18, 19, 4, 20, 21, 97, 98] (by decide +kernel) (by decide +kernel)
set_option maxRecDepth 20000 in
theorem gX0_divide_X0_noNumber : GoodIn wsX0_divide (wsV RX0 29 RX0 yX0_noNumber wsX0_noNumber) := goodIn_app (goodIn_of _ (by decide +kernel)) ggX0_divide_X0_noNumber
set_option maxRecDepth 20000 in
theorem ggX0_divide_X0_isZero : GoodIn wsX0_divide wsX0_isZero := goodIn_r _ [24, 6] (by decide +kernel) (by decide +kernel)
set_option maxRecDepth 20000 in
theorem gX0_divide_X0_isZero : GoodIn wsX0_divide (va_wsS RX0 60 yX0_isZero wsX0_isZero) := goodIn_app (goodIn_of _ (by decide +kernel)) ggX0_divide_X0_isZero
set_option maxRecDepth 20000 in
theorem ggX0_divide_X0_isInfinite : GoodIn wsX0_divide wsX0_isInfinite := goodIn_r _ [27, 6, 1] (by decide +kernel) (by decide +kernel)
set_option maxRecDepth 20000 in
theorem gX0_divide_X0_isInfinite : GoodIn wsX0_divide (va_wsS RX0 45 yX0_isInfinite wsX0_isInfinite) := goodIn_app (goodIn_of _ (by decide +kernel)) ggX0_divide_X0_isInfinite
set_option maxRecDepth 20000 in
theorem ggX0_divide_X0_invalid : GoodIn wsX0_divide wsX0_invalid := goodIn_r _ [31, 16, 17, 18, 19, 4, 20, 21, 97, 98] (by decide +kernel) (by decide +kernel)
set_option maxRecDepth 20000 in
theorem gX0_divide_X0_invalid : GoodIn wsX0_divide (wsV RX0 37 RX0 yX0_invalid wsX0_invalid) := goodIn_app (goodIn_of _ (by decide +kernel)) ggX0_divide_X0_invalid
set_option maxRecDepth 20000 in
theorem ggX0_divide_X0_signOf : GoodIn wsX0_divide wsX0_signOf := goodIn_r _ [34, 35] (by decide +kernel) (by decide +kernel)
set_option maxRecDepth 20000 in
theorem gX0_divide_X0_signOf : GoodIn wsX0_divide (va_wsS RX0 41 yX0_signOf wsX0_signOf) := goodIn_app (goodIn_of _ (by decide +kernel)) ggX0_divide_X0_signOf
set_option maxRecDepth 20000 in
theorem ggX0_divide_X0_magnitudeOf : GoodIn wsX0_divide wsX0_magnitudeOf := goodIn_r _ [38, 10, 39, 40, 41, 4, 42, 6] (by decide +kernel) (by decide +kernel)
set_option maxRecDepth 20000 in
theorem gX0_divide_X0_magnitudeOf : GoodIn wsX0_divide (va_wsS RX0 49 yX0_magnitudeOf wsX0_magnitudeOf) := goodIn_app (goodIn_of _ (by decide +kernel)) ggX0_divide_X0_magnitudeOf
set_option maxRecDepth 20000 in
theorem ggX0_divide_X0_raise : GoodIn wsX0_divide wsX0_raise := goodIn_r _ [20, 21, 97, 98] (by decide +kernel) (by decide +kernel)
set_option maxRecDepth 20000 in
theorem gX0_divide_X0_raise : GoodIn wsX0_divide (wsV RX0 63 RX0 yX0_raise wsX0_raise) := goodIn_app (goodIn_of _ (by decide +kernel)) ggX0_divide_X0_raise
set_option maxRecDepth 20000 in
theorem ggX0_divide_X0_bitLength : GoodIn wsX0_divide wsX0_bitLength := goodIn_r _ [45, 46, 47, 48, 49, 50, 51, 52, 53, 54] (by decide +kernel) (by decide +kernel)
set_option maxRecDepth 20000 in
theorem gX0_divide_X0_bitLength : GoodIn wsX0_divide (va_wsS RX0 67 yX0_bitLength wsX0_bitLength) := goodIn_app (goodIn_of _ (by decide +kernel)) ggX0_divide_X0_bitLength
set_option maxRecDepth 20000 in
theorem ggX0_divide_X0_withTrace : GoodIn wsX0_divide wsX0_withTrace := goodIn_r _ [57] (by decide +kernel) (by decide +kernel)
set_option maxRecDepth 20000 in
theorem gX0_divide_X0_withTrace : GoodIn wsX0_divide (va_wsS RX0 71 yX0_withTrace wsX0_withTrace) := goodIn_app (goodIn_of _ (by decide +kernel)) ggX0_divide_X0_withTrace
set_option maxRecDepth 20000 in
theorem ggX0_divide_X0_unitOf : GoodIn wsX0_divide wsX0_unitOf := goodIn_r _ [60, 61, 62, 63, 64, 40, 41, 4, 42, 6] (by decide +kernel) (by decide +kernel)
set_option maxRecDepth 20000 in
theorem gX0_divide_X0_unitOf : GoodIn wsX0_divide (va_wsS RX0 53 yX0_unitOf wsX0_unitOf) := goodIn_app (goodIn_of _ (by decide +kernel)) ggX0_divide_X0_unitOf
set_option maxRecDepth 20000 in
theorem ggX0_divide_X0_rounded : GoodIn wsX0_divide wsX0_rounded := goodIn_r _ [68, 61, 62, 63, 64, 69, 43, 44, 4, 45, 46, 47, 48, 49, 50, 51, 52, 53, 54, 70, 71, 72, 17, 18, 19, 20, 21, 73, 74, 75, 76, 77, 78, 79, 80, 81, 82, 83, 84, 85, 86, 87, 88, 89, 90, 91, 92, 93, 94, 95, 1, 96, 97, 98] (by decide +kernel) (by decide +kernel)
set_option maxRecDepth 20000 in
theorem gX0_divide_X0_rounded : GoodIn wsX0_divide (wsV RX0 56 RX0 yX0_rounded wsX0_rounded) := goodIn_app (goodIn_of _ (by decide +kernel)) ggX0_divide_X0_rounded
theorem dX0_divide_0 : decode cX0_divide 0 = .ok (.iload_n 1, 1) := by decide +kernel
theorem dX0_divide_1 : decode cX0_divide 1 = .ok (.invokestatic 22, 3) := by decide +kernel
theorem dX0_divide_4 : decode cX0_divide 4 = .ok (.ifCond .ne 10, 3) := by decide +kernel
theorem dX0_divide_7 : decode cX0_divide 7 = .ok (.iload_n 2, 1) := by decide +kernel
theorem dX0_divide_8 : decode cX0_divide 8 = .ok (.invokestatic 22, 3) := by decide +kernel
theorem dX0_divide_11 : decode cX0_divide 11 = .ok (.ifCond .eq 27, 3) := by decide +kernel
theorem dX0_divide_14 : decode cX0_divide 14 = .ok (.aload_n 0, 1) := by decide +kernel
theorem dX0_divide_15 : decode cX0_divide 15 = .ok (.iload_n 1, 1) := by decide +kernel
theorem dX0_divide_16 : decode cX0_divide 16 = .ok (.invokestatic 26, 3) := by decide +kernel
theorem dX0_divide_19 : decode cX0_divide 19 = .ok (.ifCond .ne 10, 3) := by decide +kernel
theorem dX0_divide_22 : decode cX0_divide 22 = .ok (.iload_n 2, 1) := by decide +kernel
theorem dX0_divide_23 : decode cX0_divide 23 = .ok (.invokestatic 26, 3) := by decide +kernel
theorem dX0_divide_26 : decode cX0_divide 26 = .ok (.ifCond .eq 7, 3) := by decide +kernel
theorem dX0_divide_29 : decode cX0_divide 29 = .ok (.iconst 1, 1) := by decide +kernel
theorem dX0_divide_30 : decode cX0_divide 30 = .ok (.goto 4, 3) := by decide +kernel
theorem dX0_divide_33 : decode cX0_divide 33 = .ok (.iconst 0, 1) := by decide +kernel
theorem dX0_divide_34 : decode cX0_divide 34 = .ok (.invokevirtual 29, 3) := by decide +kernel
theorem dX0_divide_37 : decode cX0_divide 37 = .ok (.ireturn, 1) := by decide +kernel
theorem dX0_divide_38 : decode cX0_divide 38 = .ok (.iload_n 1, 1) := by decide +kernel
theorem dX0_divide_39 : decode cX0_divide 39 = .ok (.invokestatic 60, 3) := by decide +kernel
theorem dX0_divide_42 : decode cX0_divide 42 = .ok (.ifCond .eq 10, 3) := by decide +kernel
theorem dX0_divide_45 : decode cX0_divide 45 = .ok (.iload_n 2, 1) := by decide +kernel
theorem dX0_divide_46 : decode cX0_divide 46 = .ok (.invokestatic 60, 3) := by decide +kernel
theorem dX0_divide_49 : decode cX0_divide 49 = .ok (.ifCond .ne 17, 3) := by decide +kernel
theorem dX0_divide_52 : decode cX0_divide 52 = .ok (.iload_n 1, 1) := by decide +kernel
theorem dX0_divide_53 : decode cX0_divide 53 = .ok (.invokestatic 45, 3) := by decide +kernel
theorem dX0_divide_56 : decode cX0_divide 56 = .ok (.ifCond .eq 15, 3) := by decide +kernel
theorem dX0_divide_59 : decode cX0_divide 59 = .ok (.iload_n 2, 1) := by decide +kernel
theorem dX0_divide_60 : decode cX0_divide 60 = .ok (.invokestatic 45, 3) := by decide +kernel
theorem dX0_divide_63 : decode cX0_divide 63 = .ok (.ifCond .eq 8, 3) := by decide +kernel
theorem dX0_divide_66 : decode cX0_divide 66 = .ok (.aload_n 0, 1) := by decide +kernel
theorem dX0_divide_67 : decode cX0_divide 67 = .ok (.invokevirtual 37, 3) := by decide +kernel
theorem dX0_divide_70 : decode cX0_divide 70 = .ok (.ireturn, 1) := by decide +kernel
theorem dX0_divide_71 : decode cX0_divide 71 = .ok (.iload_n 1, 1) := by decide +kernel
theorem dX0_divide_72 : decode cX0_divide 72 = .ok (.iload_n 2, 1) := by decide +kernel
theorem dX0_divide_73 : decode cX0_divide 73 = .ok (.ixor, 1) := by decide +kernel
theorem dX0_divide_74 : decode cX0_divide 74 = .ok (.invokestatic 41, 3) := by decide +kernel
theorem dX0_divide_77 : decode cX0_divide 77 = .ok (.istore_n 3, 1) := by decide +kernel
theorem dX0_divide_78 : decode cX0_divide 78 = .ok (.iload_n 1, 1) := by decide +kernel
theorem dX0_divide_79 : decode cX0_divide 79 = .ok (.invokestatic 45, 3) := by decide +kernel
theorem dX0_divide_82 : decode cX0_divide 82 = .ok (.ifCond .eq 8, 3) := by decide +kernel
theorem dX0_divide_85 : decode cX0_divide 85 = .ok (.iload_n 3, 1) := by decide +kernel
theorem dX0_divide_86 : decode cX0_divide 86 = .ok (.ldc 48, 2) := by decide +kernel
theorem dX0_divide_88 : decode cX0_divide 88 = .ok (.ior, 1) := by decide +kernel
theorem dX0_divide_89 : decode cX0_divide 89 = .ok (.ireturn, 1) := by decide +kernel
theorem dX0_divide_90 : decode cX0_divide 90 = .ok (.iload_n 2, 1) := by decide +kernel
theorem dX0_divide_91 : decode cX0_divide 91 = .ok (.invokestatic 45, 3) := by decide +kernel
theorem dX0_divide_94 : decode cX0_divide 94 = .ok (.ifCond .eq 5, 3) := by decide +kernel
theorem dX0_divide_97 : decode cX0_divide 97 = .ok (.iload_n 3, 1) := by decide +kernel
theorem dX0_divide_98 : decode cX0_divide 98 = .ok (.ireturn, 1) := by decide +kernel
theorem dX0_divide_99 : decode cX0_divide 99 = .ok (.iload_n 2, 1) := by decide +kernel
theorem dX0_divide_100 : decode cX0_divide 100 = .ok (.invokestatic 49, 3) := by decide +kernel
theorem dX0_divide_103 : decode cX0_divide 103 = .ok (.lstore 4, 2) := by decide +kernel
theorem dX0_divide_105 : decode cX0_divide 105 = .ok (.lload 4, 2) := by decide +kernel
theorem dX0_divide_107 : decode cX0_divide 107 = .ok (.lconst 0, 1) := by decide +kernel
theorem dX0_divide_108 : decode cX0_divide 108 = .ok (.lcmp, 1) := by decide +kernel
theorem dX0_divide_109 : decode cX0_divide 109 = .ok (.ifCond .ne 14, 3) := by decide +kernel
theorem dX0_divide_112 : decode cX0_divide 112 = .ok (.aload_n 0, 1) := by decide +kernel
theorem dX0_divide_113 : decode cX0_divide 113 = .ok (.bipush 8, 2) := by decide +kernel
theorem dX0_divide_115 : decode cX0_divide 115 = .ok (.invokevirtual 63, 3) := by decide +kernel
theorem dX0_divide_118 : decode cX0_divide 118 = .ok (.iload_n 3, 1) := by decide +kernel
theorem dX0_divide_119 : decode cX0_divide 119 = .ok (.ldc 48, 2) := by decide +kernel
theorem dX0_divide_121 : decode cX0_divide 121 = .ok (.ior, 1) := by decide +kernel
theorem dX0_divide_122 : decode cX0_divide 122 = .ok (.ireturn, 1) := by decide +kernel
theorem dX0_divide_123 : decode cX0_divide 123 = .ok (.bipush 62, 2) := by decide +kernel
theorem dX0_divide_125 : decode cX0_divide 125 = .ok (.iload_n 1, 1) := by decide +kernel
theorem dX0_divide_126 : decode cX0_divide 126 = .ok (.invokestatic 49, 3) := by decide +kernel
theorem dX0_divide_129 : decode cX0_divide 129 = .ok (.invokestatic 67, 3) := by decide +kernel
theorem dX0_divide_132 : decode cX0_divide 132 = .ok (.isub, 1) := by decide +kernel
theorem dX0_divide_133 : decode cX0_divide 133 = .ok (.istore 6, 2) := by decide +kernel
theorem dX0_divide_135 : decode cX0_divide 135 = .ok (.iload_n 1, 1) := by decide +kernel
theorem dX0_divide_136 : decode cX0_divide 136 = .ok (.invokestatic 49, 3) := by decide +kernel
theorem dX0_divide_139 : decode cX0_divide 139 = .ok (.iload 6, 2) := by decide +kernel
theorem dX0_divide_141 : decode cX0_divide 141 = .ok (.lshl, 1) := by decide +kernel
theorem dX0_divide_142 : decode cX0_divide 142 = .ok (.lstore 7, 2) := by decide +kernel
theorem dX0_divide_144 : decode cX0_divide 144 = .ok (.lload 7, 2) := by decide +kernel
theorem dX0_divide_146 : decode cX0_divide 146 = .ok (.lload 4, 2) := by decide +kernel
theorem dX0_divide_148 : decode cX0_divide 148 = .ok (.ldiv, 1) := by decide +kernel
theorem dX0_divide_149 : decode cX0_divide 149 = .ok (.lload 7, 2) := by decide +kernel
theorem dX0_divide_151 : decode cX0_divide 151 = .ok (.lload 4, 2) := by decide +kernel
theorem dX0_divide_153 : decode cX0_divide 153 = .ok (.lrem, 1) := by decide +kernel
theorem dX0_divide_154 : decode cX0_divide 154 = .ok (.lconst 0, 1) := by decide +kernel
theorem dX0_divide_155 : decode cX0_divide 155 = .ok (.lcmp, 1) := by decide +kernel
theorem dX0_divide_156 : decode cX0_divide 156 = .ok (.ifCond .eq 7, 3) := by decide +kernel
theorem dX0_divide_159 : decode cX0_divide 159 = .ok (.iconst 1, 1) := by decide +kernel
theorem dX0_divide_160 : decode cX0_divide 160 = .ok (.goto 4, 3) := by decide +kernel
theorem dX0_divide_163 : decode cX0_divide 163 = .ok (.iconst 0, 1) := by decide +kernel
theorem dX0_divide_164 : decode cX0_divide 164 = .ok (.invokestatic 71, 3) := by decide +kernel
theorem dX0_divide_167 : decode cX0_divide 167 = .ok (.lstore 9, 2) := by decide +kernel
theorem dX0_divide_169 : decode cX0_divide 169 = .ok (.aload_n 0, 1) := by decide +kernel
theorem dX0_divide_170 : decode cX0_divide 170 = .ok (.iload_n 3, 1) := by decide +kernel
theorem dX0_divide_171 : decode cX0_divide 171 = .ok (.lload 9, 2) := by decide +kernel
theorem dX0_divide_173 : decode cX0_divide 173 = .ok (.iload_n 1, 1) := by decide +kernel
theorem dX0_divide_174 : decode cX0_divide 174 = .ok (.invokestatic 53, 3) := by decide +kernel
theorem dX0_divide_177 : decode cX0_divide 177 = .ok (.iload 6, 2) := by decide +kernel
theorem dX0_divide_179 : decode cX0_divide 179 = .ok (.isub, 1) := by decide +kernel
theorem dX0_divide_180 : decode cX0_divide 180 = .ok (.iload_n 2, 1) := by decide +kernel
theorem dX0_divide_181 : decode cX0_divide 181 = .ok (.invokestatic 53, 3) := by decide +kernel
theorem dX0_divide_184 : decode cX0_divide 184 = .ok (.isub, 1) := by decide +kernel
theorem dX0_divide_185 : decode cX0_divide 185 = .ok (.invokevirtual 56, 3) := by decide +kernel
theorem dX0_divide_188 : decode cX0_divide 188 = .ok (.ireturn, 1) := by decide +kernel
set_option maxRecDepth 20000 in
theorem ggX0_root_X0_isNoNumber : GoodIn wsX0_root wsX0_isNoNumber := goodIn_r _ [4, 5, 6] (by decide +kernel) (by decide +kernel)
set_option maxRecDepth 20000 in
theorem gX0_root_X0_isNoNumber : GoodIn wsX0_root (va_wsS RX0 22 yX0_isNoNumber wsX0_isNoNumber) := goodIn_app (goodIn_of _ (by decide +kernel)) ggX0_root_X0_isNoNumber
set_option maxRecDepth 20000 in
theorem ggX0_root_X0_isLoud : GoodIn wsX0_root wsX0_isLoud := goodIn_r _ [9, 10, 11, 1, 2, 3, 4, 5, 6] (by decide +kernel) (by decide +kernel)
set_option maxRecDepth 20000 in
theorem gX0_root_X0_isLoud : GoodIn wsX0_root (va_wsS RX0 26 yX0_isLoud wsX0_isLoud) := goodIn_app (goodIn_of _ (by decide +kernel)) ggX0_root_X0_isLoud
set_option maxRecDepth 20000 in
theorem ggX0_root_X0_noNumber : GoodIn wsX0_root wsX0_noNumber := goodIn_r _ [15, 16, 17, 18, 19, 3, 20, 21, 103, 104] (by decide +kernel) (by decide +kernel)
set_option maxRecDepth 20000 in
theorem gX0_root_X0_noNumber : GoodIn wsX0_root (wsV RX0 29 RX0 yX0_noNumber wsX0_noNumber) := goodIn_app (goodIn_of _ (by decide +kernel)) ggX0_root_X0_noNumber
set_option maxRecDepth 20000 in
theorem ggX0_root_X0_isNegative : GoodIn wsX0_root wsX0_isNegative := goodIn_r _ [24] (by decide +kernel) (by decide +kernel)
set_option maxRecDepth 20000 in
theorem gX0_root_X0_isNegative : GoodIn wsX0_root (va_wsS RX0 75 yX0_isNegative wsX0_isNegative) := goodIn_app (goodIn_of _ (by decide +kernel)) ggX0_root_X0_isNegative
set_option maxRecDepth 20000 in
theorem ggX0_root_X0_isZero : GoodIn wsX0_root wsX0_isZero := goodIn_r _ [27, 5] (by decide +kernel) (by decide +kernel)
set_option maxRecDepth 20000 in
theorem gX0_root_X0_isZero : GoodIn wsX0_root (va_wsS RX0 60 yX0_isZero wsX0_isZero) := goodIn_app (goodIn_of _ (by decide +kernel)) ggX0_root_X0_isZero
set_option maxRecDepth 20000 in
theorem ggX0_root_X0_invalid : GoodIn wsX0_root wsX0_invalid := goodIn_r _ [31, 16, 17, 18, 19, 3, 20, 21, 103, 104] (by decide +kernel) (by decide +kernel)
set_option maxRecDepth 20000 in
theorem gX0_root_X0_invalid : GoodIn wsX0_root (wsV RX0 37 RX0 yX0_invalid wsX0_invalid) := goodIn_app (goodIn_of _ (by decide +kernel)) ggX0_root_X0_invalid
set_option maxRecDepth 20000 in
theorem ggX0_root_X0_isInfinite : GoodIn wsX0_root wsX0_isInfinite := goodIn_r _ [34, 5, 6] (by decide +kernel) (by decide +kernel)
set_option maxRecDepth 20000 in
theorem gX0_root_X0_isInfinite : GoodIn wsX0_root (va_wsS RX0 45 yX0_isInfinite wsX0_isInfinite) := goodIn_app (goodIn_of _ (by decide +kernel)) ggX0_root_X0_isInfinite
set_option maxRecDepth 20000 in
theorem ggX0_root_X0_magnitudeOf : GoodIn wsX0_root wsX0_magnitudeOf := goodIn_r _ [37, 10, 38, 39, 40, 3, 41, 5] (by decide +kernel) (by decide +kernel)
set_option maxRecDepth 20000 in
theorem gX0_root_X0_magnitudeOf : GoodIn wsX0_root (va_wsS RX0 49 yX0_magnitudeOf wsX0_magnitudeOf) := goodIn_app (goodIn_of _ (by decide +kernel)) ggX0_root_X0_magnitudeOf
set_option maxRecDepth 20000 in
theorem ggX0_root_X0_bitLength : GoodIn wsX0_root wsX0_bitLength := goodIn_r _ [44, 45, 46, 47, 48, 49, 50, 51, 52, 53] (by decide +kernel) (by decide +kernel)
set_option maxRecDepth 20000 in
theorem gX0_root_X0_bitLength : GoodIn wsX0_root (va_wsS RX0 67 yX0_bitLength wsX0_bitLength) := goodIn_app (goodIn_of _ (by decide +kernel)) ggX0_root_X0_bitLength
set_option maxRecDepth 20000 in
theorem ggX0_root_X0_unitOf : GoodIn wsX0_root wsX0_unitOf := goodIn_r _ [56, 57, 58, 59, 60, 39, 40, 3, 41, 5] (by decide +kernel) (by decide +kernel)
set_option maxRecDepth 20000 in
theorem gX0_root_X0_unitOf : GoodIn wsX0_root (va_wsS RX0 53 yX0_unitOf wsX0_unitOf) := goodIn_app (goodIn_of _ (by decide +kernel)) ggX0_root_X0_unitOf
set_option maxRecDepth 20000 in
theorem ggX0_root_X0_floorRoot : GoodIn wsX0_root wsX0_floorRoot := goodIn_r _ [63] (by decide +kernel) (by decide +kernel)
set_option maxRecDepth 20000 in
theorem gX0_root_X0_floorRoot : GoodIn wsX0_root (va_wsS RX0 78 yX0_floorRoot wsX0_floorRoot) := goodIn_app (goodIn_of _ (by decide +kernel)) ggX0_root_X0_floorRoot
set_option maxRecDepth 20000 in
theorem ggX0_root_X0_signOf : GoodIn wsX0_root wsX0_signOf := goodIn_r _ [66, 67] (by decide +kernel) (by decide +kernel)
set_option maxRecDepth 20000 in
theorem gX0_root_X0_signOf : GoodIn wsX0_root (va_wsS RX0 41 yX0_signOf wsX0_signOf) := goodIn_app (goodIn_of _ (by decide +kernel)) ggX0_root_X0_signOf
set_option maxRecDepth 20000 in
theorem ggX0_root_X0_withTrace : GoodIn wsX0_root wsX0_withTrace := goodIn_r _ [70] (by decide +kernel) (by decide +kernel)
set_option maxRecDepth 20000 in
theorem gX0_root_X0_withTrace : GoodIn wsX0_root (va_wsS RX0 71 yX0_withTrace wsX0_withTrace) := goodIn_app (goodIn_of _ (by decide +kernel)) ggX0_root_X0_withTrace
set_option maxRecDepth 20000 in
theorem ggX0_root_X0_rounded : GoodIn wsX0_root wsX0_rounded := goodIn_r _ [74, 57, 58, 59, 60, 75, 42, 43, 3, 44, 45, 46, 47, 48, 49, 50, 51, 52, 53, 76, 77, 78, 17, 18, 19, 20, 21, 79, 80, 81, 82, 83, 84, 85, 86, 87, 88, 89, 90, 91, 92, 93, 94, 95, 96, 97, 98, 99, 100, 101, 6, 102, 103, 104] (by decide +kernel) (by decide +kernel)
set_option maxRecDepth 20000 in
theorem gX0_root_X0_rounded : GoodIn wsX0_root (wsV RX0 56 RX0 yX0_rounded wsX0_rounded) := goodIn_app (goodIn_of _ (by decide +kernel)) ggX0_root_X0_rounded
theorem dX0_root_0 : decode cX0_root 0 = .ok (.iload_n 1, 1) := by decide +kernel
theorem dX0_root_1 : decode cX0_root 1 = .ok (.invokestatic 22, 3) := by decide +kernel
theorem dX0_root_4 : decode cX0_root 4 = .ok (.ifCond .eq 12, 3) := by decide +kernel
theorem dX0_root_7 : decode cX0_root 7 = .ok (.aload_n 0, 1) := by decide +kernel
theorem dX0_root_8 : decode cX0_root 8 = .ok (.iload_n 1, 1) := by decide +kernel
theorem dX0_root_9 : decode cX0_root 9 = .ok (.invokestatic 26, 3) := by decide +kernel
theorem dX0_root_12 : decode cX0_root 12 = .ok (.invokevirtual 29, 3) := by decide +kernel
theorem dX0_root_15 : decode cX0_root 15 = .ok (.ireturn, 1) := by decide +kernel
theorem dX0_root_16 : decode cX0_root 16 = .ok (.iload_n 1, 1) := by decide +kernel
theorem dX0_root_17 : decode cX0_root 17 = .ok (.invokestatic 75, 3) := by decide +kernel
theorem dX0_root_20 : decode cX0_root 20 = .ok (.ifCond .eq 15, 3) := by decide +kernel
theorem dX0_root_23 : decode cX0_root 23 = .ok (.iload_n 1, 1) := by decide +kernel
theorem dX0_root_24 : decode cX0_root 24 = .ok (.invokestatic 60, 3) := by decide +kernel
theorem dX0_root_27 : decode cX0_root 27 = .ok (.ifCond .ne 8, 3) := by decide +kernel
theorem dX0_root_30 : decode cX0_root 30 = .ok (.aload_n 0, 1) := by decide +kernel
theorem dX0_root_31 : decode cX0_root 31 = .ok (.invokevirtual 37, 3) := by decide +kernel
theorem dX0_root_34 : decode cX0_root 34 = .ok (.ireturn, 1) := by decide +kernel
theorem dX0_root_35 : decode cX0_root 35 = .ok (.iload_n 1, 1) := by decide +kernel
theorem dX0_root_36 : decode cX0_root 36 = .ok (.invokestatic 45, 3) := by decide +kernel
theorem dX0_root_39 : decode cX0_root 39 = .ok (.ifCond .eq 5, 3) := by decide +kernel
theorem dX0_root_42 : decode cX0_root 42 = .ok (.iload_n 1, 1) := by decide +kernel
theorem dX0_root_43 : decode cX0_root 43 = .ok (.ireturn, 1) := by decide +kernel
theorem dX0_root_44 : decode cX0_root 44 = .ok (.bipush 62, 2) := by decide +kernel
theorem dX0_root_46 : decode cX0_root 46 = .ok (.iload_n 1, 1) := by decide +kernel
theorem dX0_root_47 : decode cX0_root 47 = .ok (.invokestatic 49, 3) := by decide +kernel
theorem dX0_root_50 : decode cX0_root 50 = .ok (.invokestatic 67, 3) := by decide +kernel
theorem dX0_root_53 : decode cX0_root 53 = .ok (.isub, 1) := by decide +kernel
theorem dX0_root_54 : decode cX0_root 54 = .ok (.istore_n 2, 1) := by decide +kernel
theorem dX0_root_55 : decode cX0_root 55 = .ok (.iload_n 1, 1) := by decide +kernel
theorem dX0_root_56 : decode cX0_root 56 = .ok (.invokestatic 53, 3) := by decide +kernel
theorem dX0_root_59 : decode cX0_root 59 = .ok (.iload_n 2, 1) := by decide +kernel
theorem dX0_root_60 : decode cX0_root 60 = .ok (.isub, 1) := by decide +kernel
theorem dX0_root_61 : decode cX0_root 61 = .ok (.iconst 1, 1) := by decide +kernel
theorem dX0_root_62 : decode cX0_root 62 = .ok (.iand, 1) := by decide +kernel
theorem dX0_root_63 : decode cX0_root 63 = .ok (.ifCond .eq 6, 3) := by decide +kernel
theorem dX0_root_66 : decode cX0_root 66 = .ok (.iinc 2 (-1), 3) := by decide +kernel
theorem dX0_root_69 : decode cX0_root 69 = .ok (.iload_n 1, 1) := by decide +kernel
theorem dX0_root_70 : decode cX0_root 70 = .ok (.invokestatic 49, 3) := by decide +kernel
theorem dX0_root_73 : decode cX0_root 73 = .ok (.iload_n 2, 1) := by decide +kernel
theorem dX0_root_74 : decode cX0_root 74 = .ok (.lshl, 1) := by decide +kernel
theorem dX0_root_75 : decode cX0_root 75 = .ok (.lstore_n 3, 1) := by decide +kernel
theorem dX0_root_76 : decode cX0_root 76 = .ok (.lload_n 3, 1) := by decide +kernel
theorem dX0_root_77 : decode cX0_root 77 = .ok (.invokestatic 78, 3) := by decide +kernel
theorem dX0_root_80 : decode cX0_root 80 = .ok (.lstore 5, 2) := by decide +kernel
theorem dX0_root_82 : decode cX0_root 82 = .ok (.aload_n 0, 1) := by decide +kernel
theorem dX0_root_83 : decode cX0_root 83 = .ok (.iload_n 1, 1) := by decide +kernel
theorem dX0_root_84 : decode cX0_root 84 = .ok (.invokestatic 41, 3) := by decide +kernel
theorem dX0_root_87 : decode cX0_root 87 = .ok (.lload 5, 2) := by decide +kernel
theorem dX0_root_89 : decode cX0_root 89 = .ok (.lload 5, 2) := by decide +kernel
theorem dX0_root_91 : decode cX0_root 91 = .ok (.lload 5, 2) := by decide +kernel
theorem dX0_root_93 : decode cX0_root 93 = .ok (.lmul, 1) := by decide +kernel
theorem dX0_root_94 : decode cX0_root 94 = .ok (.lload_n 3, 1) := by decide +kernel
theorem dX0_root_95 : decode cX0_root 95 = .ok (.lcmp, 1) := by decide +kernel
theorem dX0_root_96 : decode cX0_root 96 = .ok (.ifCond .eq 7, 3) := by decide +kernel
theorem dX0_root_99 : decode cX0_root 99 = .ok (.iconst 1, 1) := by decide +kernel
theorem dX0_root_100 : decode cX0_root 100 = .ok (.goto 4, 3) := by decide +kernel
theorem dX0_root_103 : decode cX0_root 103 = .ok (.iconst 0, 1) := by decide +kernel
theorem dX0_root_104 : decode cX0_root 104 = .ok (.invokestatic 71, 3) := by decide +kernel
theorem dX0_root_107 : decode cX0_root 107 = .ok (.iload_n 1, 1) := by decide +kernel
theorem dX0_root_108 : decode cX0_root 108 = .ok (.invokestatic 53, 3) := by decide +kernel
theorem dX0_root_111 : decode cX0_root 111 = .ok (.iload_n 2, 1) := by decide +kernel
theorem dX0_root_112 : decode cX0_root 112 = .ok (.isub, 1) := by decide +kernel
theorem dX0_root_113 : decode cX0_root 113 = .ok (.iconst 1, 1) := by decide +kernel
theorem dX0_root_114 : decode cX0_root 114 = .ok (.ishr, 1) := by decide +kernel
theorem dX0_root_115 : decode cX0_root 115 = .ok (.invokevirtual 56, 3) := by decide +kernel
theorem dX0_root_118 : decode cX0_root 118 = .ok (.ireturn, 1) := by decide +kernel
set_option maxRecDepth 20000 in
theorem ggX0_fused_X0_productPlus : GoodIn wsX0_fused wsX0_productPlus := goodIn_r _ [5, 6, 7, 8, 4, 9, 10, 11, 12, 13, 14, 15, 16, 17, 18, 19, 20, 21, 22, 23, 24, 25, 26, 27, 28, 29, 30, 31, 32, 33, 34, 35, 36, 37, 38, 39, 40, 41, 42, 43, 44, 45, 46, 47, 48, 49, 50, 51, 52, 53, 54, 55, 56, 57, 58, 59, 60, 61, 62, 63, 64, 65, 66, 67, 68, 69, 70, 71, 72, 73, 74, 75, 76, 77, 78, 79, 80, 81, 82, 83, 84, 85, 86, 87, 88, 89, 90, 91, 92, 93, 94, 95, 96, 97, 98, 99, 100, 101, 102, 103, 104, 105, 106, 107, 108, 109, 110, 111, 112, 113, 114, 115, 116, 117, 118, 119, 120, 121, 122] (by decide +kernel) (by decide +kernel)
set_option maxRecDepth 20000 in
theorem gX0_fused_X0_productPlus : GoodIn wsX0_fused (wsV RX0 17 RX0 yX0_productPlus wsX0_productPlus) := goodIn_app (goodIn_of _ (by decide +kernel)) ggX0_fused_X0_productPlus
theorem dX0_fused_0 : decode cX0_fused 0 = .ok (.aload_n 0, 1) := by decide +kernel
theorem dX0_fused_1 : decode cX0_fused 1 = .ok (.iload_n 1, 1) := by decide +kernel
theorem dX0_fused_2 : decode cX0_fused 2 = .ok (.iload_n 2, 1) := by decide +kernel
theorem dX0_fused_3 : decode cX0_fused 3 = .ok (.iload_n 3, 1) := by decide +kernel
theorem dX0_fused_4 : decode cX0_fused 4 = .ok (.invokevirtual 17, 3) := by decide +kernel
theorem dX0_fused_7 : decode cX0_fused 7 = .ok (.ireturn, 1) := by decide +kernel
set_option maxRecDepth 20000 in
theorem ggX0_scale_X0_isNoNumber : GoodIn wsX0_scale wsX0_isNoNumber := goodIn_r _ [11, 12, 13] (by decide +kernel) (by decide +kernel)
set_option maxRecDepth 20000 in
theorem gX0_scale_X0_isNoNumber : GoodIn wsX0_scale (va_wsS RX0 22 yX0_isNoNumber wsX0_isNoNumber) := goodIn_app (goodIn_of _ (by decide +kernel)) ggX0_scale_X0_isNoNumber
set_option maxRecDepth 20000 in
theorem ggX0_scale_X0_isLoud : GoodIn wsX0_scale wsX0_isLoud := goodIn_r _ [16, 17, 18, 8, 9, 10, 11, 12, 13] (by decide +kernel) (by decide +kernel)
set_option maxRecDepth 20000 in
theorem gX0_scale_X0_isLoud : GoodIn wsX0_scale (va_wsS RX0 26 yX0_isLoud wsX0_isLoud) := goodIn_app (goodIn_of _ (by decide +kernel)) ggX0_scale_X0_isLoud
set_option maxRecDepth 20000 in
theorem ggX0_scale_X0_noNumber : GoodIn wsX0_scale wsX0_noNumber := goodIn_r _ [22, 23, 24, 25, 26, 10, 27, 28, 90, 91] (by decide +kernel) (by decide +kernel)
set_option maxRecDepth 20000 in
theorem gX0_scale_X0_noNumber : GoodIn wsX0_scale (wsV RX0 29 RX0 yX0_noNumber wsX0_noNumber) := goodIn_app (goodIn_of _ (by decide +kernel)) ggX0_scale_X0_noNumber
set_option maxRecDepth 20000 in
theorem ggX0_scale_X0_isInfinite : GoodIn wsX0_scale wsX0_isInfinite := goodIn_r _ [31, 12, 13] (by decide +kernel) (by decide +kernel)
set_option maxRecDepth 20000 in
theorem gX0_scale_X0_isInfinite : GoodIn wsX0_scale (va_wsS RX0 45 yX0_isInfinite wsX0_isInfinite) := goodIn_app (goodIn_of _ (by decide +kernel)) ggX0_scale_X0_isInfinite
set_option maxRecDepth 20000 in
theorem ggX0_scale_X0_signOf : GoodIn wsX0_scale wsX0_signOf := goodIn_r _ [34, 35] (by decide +kernel) (by decide +kernel)
set_option maxRecDepth 20000 in
theorem gX0_scale_X0_signOf : GoodIn wsX0_scale (va_wsS RX0 41 yX0_signOf wsX0_signOf) := goodIn_app (goodIn_of _ (by decide +kernel)) ggX0_scale_X0_signOf
set_option maxRecDepth 20000 in
theorem ggX0_scale_X0_magnitudeOf : GoodIn wsX0_scale wsX0_magnitudeOf := goodIn_r _ [38, 17, 39, 40, 41, 10, 42, 12] (by decide +kernel) (by decide +kernel)
set_option maxRecDepth 20000 in
theorem gX0_scale_X0_magnitudeOf : GoodIn wsX0_scale (va_wsS RX0 49 yX0_magnitudeOf wsX0_magnitudeOf) := goodIn_app (goodIn_of _ (by decide +kernel)) ggX0_scale_X0_magnitudeOf
set_option maxRecDepth 20000 in
theorem ggX0_scale_X0_unitOf : GoodIn wsX0_scale wsX0_unitOf := goodIn_r _ [45, 5, 6, 3, 7, 40, 41, 10, 42, 12] (by decide +kernel) (by decide +kernel)
set_option maxRecDepth 20000 in
theorem gX0_scale_X0_unitOf : GoodIn wsX0_scale (va_wsS RX0 53 yX0_unitOf wsX0_unitOf) := goodIn_app (goodIn_of _ (by decide +kernel)) ggX0_scale_X0_unitOf
set_option maxRecDepth 20000 in
theorem ggX0_scale_X0_rounded : GoodIn wsX0_scale wsX0_rounded := goodIn_r _ [49, 5, 6, 3, 7, 50, 51, 52, 10, 53, 54, 55, 56, 57, 58, 59, 60, 61, 62, 63, 64, 65, 24, 25, 26, 27, 28, 66, 67, 68, 69, 70, 71, 72, 73, 74, 75, 76, 77, 78, 79, 80, 81, 82, 83, 84, 85, 86, 87, 88, 13, 89, 90, 91] (by decide +kernel) (by decide +kernel)
set_option maxRecDepth 20000 in
theorem gX0_scale_X0_rounded : GoodIn wsX0_scale (wsV RX0 56 RX0 yX0_rounded wsX0_rounded) := goodIn_app (goodIn_of _ (by decide +kernel)) ggX0_scale_X0_rounded
theorem dX0_scale_0 : decode cX0_scale 0 = .ok (.iload_n 1, 1) := by decide +kernel
theorem dX0_scale_1 : decode cX0_scale 1 = .ok (.invokestatic 22, 3) := by decide +kernel
theorem dX0_scale_4 : decode cX0_scale 4 = .ok (.ifCond .eq 12, 3) := by decide +kernel
theorem dX0_scale_7 : decode cX0_scale 7 = .ok (.aload_n 0, 1) := by decide +kernel
theorem dX0_scale_8 : decode cX0_scale 8 = .ok (.iload_n 1, 1) := by decide +kernel
theorem dX0_scale_9 : decode cX0_scale 9 = .ok (.invokestatic 26, 3) := by decide +kernel
theorem dX0_scale_12 : decode cX0_scale 12 = .ok (.invokevirtual 29, 3) := by decide +kernel
theorem dX0_scale_15 : decode cX0_scale 15 = .ok (.ireturn, 1) := by decide +kernel
theorem dX0_scale_16 : decode cX0_scale 16 = .ok (.iload_n 1, 1) := by decide +kernel
theorem dX0_scale_17 : decode cX0_scale 17 = .ok (.invokestatic 45, 3) := by decide +kernel
theorem dX0_scale_20 : decode cX0_scale 20 = .ok (.ifCond .eq 5, 3) := by decide +kernel
theorem dX0_scale_23 : decode cX0_scale 23 = .ok (.iload_n 1, 1) := by decide +kernel
theorem dX0_scale_24 : decode cX0_scale 24 = .ok (.ireturn, 1) := by decide +kernel
theorem dX0_scale_25 : decode cX0_scale 25 = .ok (.sipush (-400), 3) := by decide +kernel
theorem dX0_scale_28 : decode cX0_scale 28 = .ok (.sipush 400, 3) := by decide +kernel
theorem dX0_scale_31 : decode cX0_scale 31 = .ok (.iload_n 2, 1) := by decide +kernel
theorem dX0_scale_32 : decode cX0_scale 32 = .ok (.invokestatic 82, 3) := by decide +kernel
theorem dX0_scale_35 : decode cX0_scale 35 = .ok (.invokestatic 88, 3) := by decide +kernel
theorem dX0_scale_38 : decode cX0_scale 38 = .ok (.istore_n 3, 1) := by decide +kernel
theorem dX0_scale_39 : decode cX0_scale 39 = .ok (.aload_n 0, 1) := by decide +kernel
theorem dX0_scale_40 : decode cX0_scale 40 = .ok (.iload_n 1, 1) := by decide +kernel
theorem dX0_scale_41 : decode cX0_scale 41 = .ok (.invokestatic 41, 3) := by decide +kernel
theorem dX0_scale_44 : decode cX0_scale 44 = .ok (.iload_n 1, 1) := by decide +kernel
theorem dX0_scale_45 : decode cX0_scale 45 = .ok (.invokestatic 49, 3) := by decide +kernel
theorem dX0_scale_48 : decode cX0_scale 48 = .ok (.iload_n 1, 1) := by decide +kernel
theorem dX0_scale_49 : decode cX0_scale 49 = .ok (.invokestatic 53, 3) := by decide +kernel
theorem dX0_scale_52 : decode cX0_scale 52 = .ok (.iload_n 3, 1) := by decide +kernel
theorem dX0_scale_53 : decode cX0_scale 53 = .ok (.iadd, 1) := by decide +kernel
theorem dX0_scale_54 : decode cX0_scale 54 = .ok (.invokevirtual 56, 3) := by decide +kernel
theorem dX0_scale_57 : decode cX0_scale 57 = .ok (.ireturn, 1) := by decide +kernel
set_option maxRecDepth 20000 in
theorem ggX0_whole_X0_isNoNumber : GoodIn wsX0_whole wsX0_isNoNumber := goodIn_r _ [4, 5, 6] (by decide +kernel) (by decide +kernel)
set_option maxRecDepth 20000 in
theorem gX0_whole_X0_isNoNumber : GoodIn wsX0_whole (va_wsS RX0 22 yX0_isNoNumber wsX0_isNoNumber) := goodIn_app (goodIn_of _ (by decide +kernel)) ggX0_whole_X0_isNoNumber
set_option maxRecDepth 20000 in
theorem ggX0_whole_X0_isLoud : GoodIn wsX0_whole wsX0_isLoud := goodIn_r _ [9, 10, 11, 1, 2, 3, 4, 5, 6] (by decide +kernel) (by decide +kernel)
set_option maxRecDepth 20000 in
theorem gX0_whole_X0_isLoud : GoodIn wsX0_whole (va_wsS RX0 26 yX0_isLoud wsX0_isLoud) := goodIn_app (goodIn_of _ (by decide +kernel)) ggX0_whole_X0_isLoud
set_option maxRecDepth 20000 in
theorem ggX0_whole_X0_noNumber : GoodIn wsX0_whole wsX0_noNumber := goodIn_r _ [15, 16, 17, 18, 19, 3, 20, 21, 87, 88] (by decide +kernel) (by decide +kernel)
set_option maxRecDepth 20000 in
theorem gX0_whole_X0_noNumber : GoodIn wsX0_whole (wsV RX0 29 RX0 yX0_noNumber wsX0_noNumber) := goodIn_app (goodIn_of _ (by decide +kernel)) ggX0_whole_X0_noNumber
set_option maxRecDepth 20000 in
theorem ggX0_whole_X0_isInfinite : GoodIn wsX0_whole wsX0_isInfinite := goodIn_r _ [24, 5, 6] (by decide +kernel) (by decide +kernel)
set_option maxRecDepth 20000 in
theorem gX0_whole_X0_isInfinite : GoodIn wsX0_whole (va_wsS RX0 45 yX0_isInfinite wsX0_isInfinite) := goodIn_app (goodIn_of _ (by decide +kernel)) ggX0_whole_X0_isInfinite
set_option maxRecDepth 20000 in
theorem ggX0_whole_X0_unitOf : GoodIn wsX0_whole wsX0_unitOf := goodIn_r _ [27, 28, 29, 30, 31, 32, 33, 3, 34, 5] (by decide +kernel) (by decide +kernel)
set_option maxRecDepth 20000 in
theorem gX0_whole_X0_unitOf : GoodIn wsX0_whole (va_wsS RX0 53 yX0_unitOf wsX0_unitOf) := goodIn_app (goodIn_of _ (by decide +kernel)) ggX0_whole_X0_unitOf
set_option maxRecDepth 20000 in
theorem ggX0_whole_X0_magnitudeOf : GoodIn wsX0_whole wsX0_magnitudeOf := goodIn_r _ [37, 10, 38, 32, 33, 3, 34, 5] (by decide +kernel) (by decide +kernel)
set_option maxRecDepth 20000 in
theorem gX0_whole_X0_magnitudeOf : GoodIn wsX0_whole (va_wsS RX0 49 yX0_magnitudeOf wsX0_magnitudeOf) := goodIn_app (goodIn_of _ (by decide +kernel)) ggX0_whole_X0_magnitudeOf
set_option maxRecDepth 20000 in
theorem ggX0_whole_X0_isMultiple : GoodIn wsX0_whole wsX0_isMultiple := goodIn_r _ [41] (by decide +kernel) (by decide +kernel)
set_option maxRecDepth 20000 in
theorem gX0_whole_X0_isMultiple : GoodIn wsX0_whole (va_wsS RX0 91 yX0_isMultiple wsX0_isMultiple) := goodIn_app (goodIn_of _ (by decide +kernel)) ggX0_whole_X0_isMultiple
set_option maxRecDepth 20000 in
theorem ggX0_whole_X0_raise : GoodIn wsX0_whole wsX0_raise := goodIn_r _ [20, 21, 87, 88] (by decide +kernel) (by decide +kernel)
set_option maxRecDepth 20000 in
theorem gX0_whole_X0_raise : GoodIn wsX0_whole (wsV RX0 63 RX0 yX0_raise wsX0_raise) := goodIn_app (goodIn_of _ (by decide +kernel)) ggX0_whole_X0_raise
set_option maxRecDepth 20000 in
theorem ggX0_whole_X0_signOf : GoodIn wsX0_whole wsX0_signOf := goodIn_r _ [44, 45] (by decide +kernel) (by decide +kernel)
set_option maxRecDepth 20000 in
theorem gX0_whole_X0_signOf : GoodIn wsX0_whole (va_wsS RX0 41 yX0_signOf wsX0_signOf) := goodIn_app (goodIn_of _ (by decide +kernel)) ggX0_whole_X0_signOf
set_option maxRecDepth 20000 in
theorem ggX0_whole_X0_multiple : GoodIn wsX0_whole wsX0_multiple := goodIn_r _ [49, 50, 51, 3, 52, 53, 54, 55, 56, 57, 39, 40, 41, 58, 59, 60, 61, 87, 88] (by decide +kernel) (by decide +kernel)
set_option maxRecDepth 20000 in
theorem gX0_whole_X0_multiple : GoodIn wsX0_whole (wsV RX0 95 RX0 yX0_multiple wsX0_multiple) := goodIn_app (goodIn_of _ (by decide +kernel)) ggX0_whole_X0_multiple
set_option maxRecDepth 20000 in
theorem ggX0_whole_X0_rounded : GoodIn wsX0_whole wsX0_rounded := goodIn_r _ [65, 28, 29, 30, 31, 66, 67, 68, 3, 69, 70, 71, 72, 73, 74, 75, 76, 77, 78, 39, 40, 41, 17, 18, 19, 20, 21, 46, 47, 48, 49, 50, 51, 52, 53, 54, 55, 56, 57, 58, 59, 60, 61, 79, 80, 81, 82, 83, 84, 85, 6, 86, 87, 88] (by decide +kernel) (by decide +kernel)
set_option maxRecDepth 20000 in
theorem gX0_whole_X0_rounded : GoodIn wsX0_whole (wsV RX0 56 RX0 yX0_rounded wsX0_rounded) := goodIn_app (goodIn_of _ (by decide +kernel)) ggX0_whole_X0_rounded
theorem dX0_whole_0 : decode cX0_whole 0 = .ok (.iload_n 1, 1) := by decide +kernel
theorem dX0_whole_1 : decode cX0_whole 1 = .ok (.invokestatic 22, 3) := by decide +kernel
theorem dX0_whole_4 : decode cX0_whole 4 = .ok (.ifCond .eq 12, 3) := by decide +kernel
theorem dX0_whole_7 : decode cX0_whole 7 = .ok (.aload_n 0, 1) := by decide +kernel
theorem dX0_whole_8 : decode cX0_whole 8 = .ok (.iload_n 1, 1) := by decide +kernel
theorem dX0_whole_9 : decode cX0_whole 9 = .ok (.invokestatic 26, 3) := by decide +kernel
theorem dX0_whole_12 : decode cX0_whole 12 = .ok (.invokevirtual 29, 3) := by decide +kernel
theorem dX0_whole_15 : decode cX0_whole 15 = .ok (.ireturn, 1) := by decide +kernel
theorem dX0_whole_16 : decode cX0_whole 16 = .ok (.iload_n 1, 1) := by decide +kernel
theorem dX0_whole_17 : decode cX0_whole 17 = .ok (.invokestatic 45, 3) := by decide +kernel
theorem dX0_whole_20 : decode cX0_whole 20 = .ok (.ifCond .ne 10, 3) := by decide +kernel
theorem dX0_whole_23 : decode cX0_whole 23 = .ok (.iload_n 1, 1) := by decide +kernel
theorem dX0_whole_24 : decode cX0_whole 24 = .ok (.invokestatic 53, 3) := by decide +kernel
theorem dX0_whole_27 : decode cX0_whole 27 = .ok (.ifCond .lt 5, 3) := by decide +kernel
theorem dX0_whole_30 : decode cX0_whole 30 = .ok (.iload_n 1, 1) := by decide +kernel
theorem dX0_whole_31 : decode cX0_whole 31 = .ok (.ireturn, 1) := by decide +kernel
theorem dX0_whole_32 : decode cX0_whole 32 = .ok (.iload_n 1, 1) := by decide +kernel
theorem dX0_whole_33 : decode cX0_whole 33 = .ok (.invokestatic 49, 3) := by decide +kernel
theorem dX0_whole_36 : decode cX0_whole 36 = .ok (.iload_n 1, 1) := by decide +kernel
theorem dX0_whole_37 : decode cX0_whole 37 = .ok (.invokestatic 53, 3) := by decide +kernel
theorem dX0_whole_40 : decode cX0_whole 40 = .ok (.ineg, 1) := by decide +kernel
theorem dX0_whole_41 : decode cX0_whole 41 = .ok (.invokestatic 91, 3) := by decide +kernel
theorem dX0_whole_44 : decode cX0_whole 44 = .ok (.ifCond .ne 8, 3) := by decide +kernel
theorem dX0_whole_47 : decode cX0_whole 47 = .ok (.aload_n 0, 1) := by decide +kernel
theorem dX0_whole_48 : decode cX0_whole 48 = .ok (.iconst 1, 1) := by decide +kernel
theorem dX0_whole_49 : decode cX0_whole 49 = .ok (.invokevirtual 63, 3) := by decide +kernel
theorem dX0_whole_52 : decode cX0_whole 52 = .ok (.aload_n 0, 1) := by decide +kernel
theorem dX0_whole_53 : decode cX0_whole 53 = .ok (.iload_n 1, 1) := by decide +kernel
theorem dX0_whole_54 : decode cX0_whole 54 = .ok (.invokestatic 41, 3) := by decide +kernel
theorem dX0_whole_57 : decode cX0_whole 57 = .ok (.aload_n 0, 1) := by decide +kernel
theorem dX0_whole_58 : decode cX0_whole 58 = .ok (.iload_n 1, 1) := by decide +kernel
theorem dX0_whole_59 : decode cX0_whole 59 = .ok (.invokestatic 41, 3) := by decide +kernel
theorem dX0_whole_62 : decode cX0_whole 62 = .ok (.iload_n 1, 1) := by decide +kernel
theorem dX0_whole_63 : decode cX0_whole 63 = .ok (.invokestatic 49, 3) := by decide +kernel
theorem dX0_whole_66 : decode cX0_whole 66 = .ok (.iload_n 1, 1) := by decide +kernel
theorem dX0_whole_67 : decode cX0_whole 67 = .ok (.invokestatic 53, 3) := by decide +kernel
theorem dX0_whole_70 : decode cX0_whole 70 = .ok (.ineg, 1) := by decide +kernel
theorem dX0_whole_71 : decode cX0_whole 71 = .ok (.invokevirtual 95, 3) := by decide +kernel
theorem dX0_whole_74 : decode cX0_whole 74 = .ok (.iconst 0, 1) := by decide +kernel
theorem dX0_whole_75 : decode cX0_whole 75 = .ok (.invokevirtual 56, 3) := by decide +kernel
theorem dX0_whole_78 : decode cX0_whole 78 = .ok (.ireturn, 1) := by decide +kernel
set_option maxRecDepth 20000 in
theorem ggX0_toInt_X0_isFinite : GoodIn wsX0_toInt wsX0_isFinite := goodIn_r _ [6, 7, 8] (by decide +kernel) (by decide +kernel)
set_option maxRecDepth 20000 in
theorem gX0_toInt_X0_isFinite : GoodIn wsX0_toInt (va_wsS RX0 99 yX0_isFinite wsX0_isFinite) := goodIn_app (goodIn_of _ (by decide +kernel)) ggX0_toInt_X0_isFinite
set_option maxRecDepth 20000 in
theorem ggX0_toInt_X0_unitOf : GoodIn wsX0_toInt wsX0_unitOf := goodIn_r _ [11, 12, 13, 14, 15, 16, 17, 5, 18, 7] (by decide +kernel) (by decide +kernel)
set_option maxRecDepth 20000 in
theorem gX0_toInt_X0_unitOf : GoodIn wsX0_toInt (va_wsS RX0 53 yX0_unitOf wsX0_unitOf) := goodIn_app (goodIn_of _ (by decide +kernel)) ggX0_toInt_X0_unitOf
set_option maxRecDepth 20000 in
theorem ggX0_toInt_X0_invalidInt : GoodIn wsX0_toInt wsX0_invalidInt := goodIn_r _ [22, 23, 24, 25, 26, 5, 27, 28, 59, 60] (by decide +kernel) (by decide +kernel)
set_option maxRecDepth 20000 in
theorem gX0_toInt_X0_invalidInt : GoodIn wsX0_toInt (wsV RX0 102 RX0 yX0_invalidInt wsX0_invalidInt) := goodIn_app (goodIn_of _ (by decide +kernel)) ggX0_toInt_X0_invalidInt
set_option maxRecDepth 20000 in
theorem ggX0_toInt_X0_signOf : GoodIn wsX0_toInt wsX0_signOf := goodIn_r _ [31, 23] (by decide +kernel) (by decide +kernel)
set_option maxRecDepth 20000 in
theorem gX0_toInt_X0_signOf : GoodIn wsX0_toInt (va_wsS RX0 41 yX0_signOf wsX0_signOf) := goodIn_app (goodIn_of _ (by decide +kernel)) ggX0_toInt_X0_signOf
set_option maxRecDepth 20000 in
theorem ggX0_toInt_X0_magnitudeOf : GoodIn wsX0_toInt wsX0_magnitudeOf := goodIn_r _ [34, 35, 36, 16, 17, 5, 18, 7] (by decide +kernel) (by decide +kernel)
set_option maxRecDepth 20000 in
theorem gX0_toInt_X0_magnitudeOf : GoodIn wsX0_toInt (va_wsS RX0 49 yX0_magnitudeOf wsX0_magnitudeOf) := goodIn_app (goodIn_of _ (by decide +kernel)) ggX0_toInt_X0_magnitudeOf
set_option maxRecDepth 20000 in
theorem ggX0_toInt_X0_multiple : GoodIn wsX0_toInt wsX0_multiple := goodIn_r _ [40, 41, 42, 5, 43, 44, 45, 46, 47, 48, 49, 50, 51, 52, 53, 54, 55, 59, 60] (by decide +kernel) (by decide +kernel)
set_option maxRecDepth 20000 in
theorem gX0_toInt_X0_multiple : GoodIn wsX0_toInt (wsV RX0 95 RX0 yX0_multiple wsX0_multiple) := goodIn_app (goodIn_of _ (by decide +kernel)) ggX0_toInt_X0_multiple
set_option maxRecDepth 20000 in
theorem ggX0_toInt_X0_isNegative : GoodIn wsX0_toInt wsX0_isNegative := goodIn_r _ [58] (by decide +kernel) (by decide +kernel)
set_option maxRecDepth 20000 in
theorem gX0_toInt_X0_isNegative : GoodIn wsX0_toInt (va_wsS RX0 75 yX0_isNegative wsX0_isNegative) := goodIn_app (goodIn_of _ (by decide +kernel)) ggX0_toInt_X0_isNegative
set_option maxRecDepth 20000 in
theorem ggX0_toInt_X0_isMultiple : GoodIn wsX0_toInt wsX0_isMultiple := goodIn_r _ [51] (by decide +kernel) (by decide +kernel)
set_option maxRecDepth 20000 in
theorem gX0_toInt_X0_isMultiple : GoodIn wsX0_toInt (va_wsS RX0 91 yX0_isMultiple wsX0_isMultiple) := goodIn_app (goodIn_of _ (by decide +kernel)) ggX0_toInt_X0_isMultiple
set_option maxRecDepth 20000 in
theorem ggX0_toInt_X0_raise : GoodIn wsX0_toInt wsX0_raise := goodIn_r _ [27, 28, 59, 60] (by decide +kernel) (by decide +kernel)
set_option maxRecDepth 20000 in
theorem gX0_toInt_X0_raise : GoodIn wsX0_toInt (wsV RX0 63 RX0 yX0_raise wsX0_raise) := goodIn_app (goodIn_of _ (by decide +kernel)) ggX0_toInt_X0_raise
theorem dX0_toInt_0 : decode cX0_toInt 0 = .ok (.iload_n 1, 1) := by decide +kernel
theorem dX0_toInt_1 : decode cX0_toInt 1 = .ok (.invokestatic 99, 3) := by decide +kernel
theorem dX0_toInt_4 : decode cX0_toInt 4 = .ok (.ifCond .eq 12, 3) := by decide +kernel
theorem dX0_toInt_7 : decode cX0_toInt 7 = .ok (.iload_n 1, 1) := by decide +kernel
theorem dX0_toInt_8 : decode cX0_toInt 8 = .ok (.invokestatic 53, 3) := by decide +kernel
theorem dX0_toInt_11 : decode cX0_toInt 11 = .ok (.bipush 8, 2) := by decide +kernel
theorem dX0_toInt_13 : decode cX0_toInt 13 = .ok (.if_icmp .le 8, 3) := by decide +kernel
theorem dX0_toInt_16 : decode cX0_toInt 16 = .ok (.aload_n 0, 1) := by decide +kernel
theorem dX0_toInt_17 : decode cX0_toInt 17 = .ok (.invokevirtual 102, 3) := by decide +kernel
theorem dX0_toInt_20 : decode cX0_toInt 20 = .ok (.ireturn, 1) := by decide +kernel
theorem dX0_toInt_21 : decode cX0_toInt 21 = .ok (.aload_n 0, 1) := by decide +kernel
theorem dX0_toInt_22 : decode cX0_toInt 22 = .ok (.iload_n 1, 1) := by decide +kernel
theorem dX0_toInt_23 : decode cX0_toInt 23 = .ok (.invokestatic 41, 3) := by decide +kernel
theorem dX0_toInt_26 : decode cX0_toInt 26 = .ok (.iload_n 1, 1) := by decide +kernel
theorem dX0_toInt_27 : decode cX0_toInt 27 = .ok (.invokestatic 49, 3) := by decide +kernel
theorem dX0_toInt_30 : decode cX0_toInt 30 = .ok (.iload_n 1, 1) := by decide +kernel
theorem dX0_toInt_31 : decode cX0_toInt 31 = .ok (.invokestatic 53, 3) := by decide +kernel
theorem dX0_toInt_34 : decode cX0_toInt 34 = .ok (.ineg, 1) := by decide +kernel
theorem dX0_toInt_35 : decode cX0_toInt 35 = .ok (.invokevirtual 95, 3) := by decide +kernel
theorem dX0_toInt_38 : decode cX0_toInt 38 = .ok (.lstore_n 2, 1) := by decide +kernel
theorem dX0_toInt_39 : decode cX0_toInt 39 = .ok (.iload_n 1, 1) := by decide +kernel
theorem dX0_toInt_40 : decode cX0_toInt 40 = .ok (.invokestatic 75, 3) := by decide +kernel
theorem dX0_toInt_43 : decode cX0_toInt 43 = .ok (.ifCond .eq 8, 3) := by decide +kernel
theorem dX0_toInt_46 : decode cX0_toInt 46 = .ok (.lload_n 2, 1) := by decide +kernel
theorem dX0_toInt_47 : decode cX0_toInt 47 = .ok (.lneg, 1) := by decide +kernel
theorem dX0_toInt_48 : decode cX0_toInt 48 = .ok (.goto 4, 3) := by decide +kernel
theorem dX0_toInt_51 : decode cX0_toInt 51 = .ok (.lload_n 2, 1) := by decide +kernel
theorem dX0_toInt_52 : decode cX0_toInt 52 = .ok (.lstore 4, 2) := by decide +kernel
theorem dX0_toInt_54 : decode cX0_toInt 54 = .ok (.lload 4, 2) := by decide +kernel
theorem dX0_toInt_56 : decode cX0_toInt 56 = .ok (.ldc2_w 105, 3) := by decide +kernel
theorem dX0_toInt_59 : decode cX0_toInt 59 = .ok (.lcmp, 1) := by decide +kernel
theorem dX0_toInt_60 : decode cX0_toInt 60 = .ok (.ifCond .lt 12, 3) := by decide +kernel
theorem dX0_toInt_63 : decode cX0_toInt 63 = .ok (.lload 4, 2) := by decide +kernel
theorem dX0_toInt_65 : decode cX0_toInt 65 = .ok (.ldc2_w 107, 3) := by decide +kernel
theorem dX0_toInt_68 : decode cX0_toInt 68 = .ok (.lcmp, 1) := by decide +kernel
theorem dX0_toInt_69 : decode cX0_toInt 69 = .ok (.ifCond .le 8, 3) := by decide +kernel
theorem dX0_toInt_72 : decode cX0_toInt 72 = .ok (.aload_n 0, 1) := by decide +kernel
theorem dX0_toInt_73 : decode cX0_toInt 73 = .ok (.invokevirtual 102, 3) := by decide +kernel
theorem dX0_toInt_76 : decode cX0_toInt 76 = .ok (.ireturn, 1) := by decide +kernel
theorem dX0_toInt_77 : decode cX0_toInt 77 = .ok (.iload_n 1, 1) := by decide +kernel
theorem dX0_toInt_78 : decode cX0_toInt 78 = .ok (.invokestatic 49, 3) := by decide +kernel
theorem dX0_toInt_81 : decode cX0_toInt 81 = .ok (.iload_n 1, 1) := by decide +kernel
theorem dX0_toInt_82 : decode cX0_toInt 82 = .ok (.invokestatic 53, 3) := by decide +kernel
theorem dX0_toInt_85 : decode cX0_toInt 85 = .ok (.ineg, 1) := by decide +kernel
theorem dX0_toInt_86 : decode cX0_toInt 86 = .ok (.invokestatic 91, 3) := by decide +kernel
theorem dX0_toInt_89 : decode cX0_toInt 89 = .ok (.ifCond .ne 8, 3) := by decide +kernel
theorem dX0_toInt_92 : decode cX0_toInt 92 = .ok (.aload_n 0, 1) := by decide +kernel
theorem dX0_toInt_93 : decode cX0_toInt 93 = .ok (.iconst 1, 1) := by decide +kernel
theorem dX0_toInt_94 : decode cX0_toInt 94 = .ok (.invokevirtual 63, 3) := by decide +kernel
theorem dX0_toInt_97 : decode cX0_toInt 97 = .ok (.lload 4, 2) := by decide +kernel
theorem dX0_toInt_99 : decode cX0_toInt 99 = .ok (.l2i, 1) := by decide +kernel
theorem dX0_toInt_100 : decode cX0_toInt 100 = .ok (.ireturn, 1) := by decide +kernel
set_option maxRecDepth 20000 in
theorem ggX0_fromInt_X0_signOf : GoodIn wsX0_fromInt wsX0_signOf := goodIn_r _ [8, 9] (by decide +kernel) (by decide +kernel)
set_option maxRecDepth 20000 in
theorem gX0_fromInt_X0_signOf : GoodIn wsX0_fromInt (va_wsS RX0 41 yX0_signOf wsX0_signOf) := goodIn_app (goodIn_of _ (by decide +kernel)) ggX0_fromInt_X0_signOf
set_option maxRecDepth 20000 in
theorem ggX0_fromInt_X0_rounded : GoodIn wsX0_fromInt wsX0_rounded := goodIn_r _ [13, 14, 15, 3, 16, 17, 18, 19, 7, 20, 21, 22, 23, 24, 25, 26, 27, 28, 29, 30, 31, 32, 33, 34, 35, 36, 37, 38, 39, 40, 41, 42, 43, 44, 45, 46, 47, 48, 49, 50, 51, 52, 53, 54, 55, 56, 57, 58, 59, 60, 61, 62, 63, 64] (by decide +kernel) (by decide +kernel)
set_option maxRecDepth 20000 in
theorem gX0_fromInt_X0_rounded : GoodIn wsX0_fromInt (wsV RX0 56 RX0 yX0_rounded wsX0_rounded) := goodIn_app (goodIn_of _ (by decide +kernel)) ggX0_fromInt_X0_rounded
theorem dX0_fromInt_0 : decode cX0_fromInt 0 = .ok (.aload_n 0, 1) := by decide +kernel
theorem dX0_fromInt_1 : decode cX0_fromInt 1 = .ok (.iload_n 1, 1) := by decide +kernel
theorem dX0_fromInt_2 : decode cX0_fromInt 2 = .ok (.invokestatic 41, 3) := by decide +kernel
theorem dX0_fromInt_5 : decode cX0_fromInt 5 = .ok (.iload_n 1, 1) := by decide +kernel
theorem dX0_fromInt_6 : decode cX0_fromInt 6 = .ok (.i2l, 1) := by decide +kernel
theorem dX0_fromInt_7 : decode cX0_fromInt 7 = .ok (.invokestatic 109, 3) := by decide +kernel
theorem dX0_fromInt_10 : decode cX0_fromInt 10 = .ok (.iconst 0, 1) := by decide +kernel
theorem dX0_fromInt_11 : decode cX0_fromInt 11 = .ok (.invokevirtual 56, 3) := by decide +kernel
theorem dX0_fromInt_14 : decode cX0_fromInt 14 = .ok (.ireturn, 1) := by decide +kernel
set_option maxRecDepth 20000 in
theorem ggX0_compare_X0_isNoNumber : GoodIn wsX0_compare wsX0_isNoNumber := goodIn_r _ [4, 5, 6] (by decide +kernel) (by decide +kernel)
set_option maxRecDepth 20000 in
theorem gX0_compare_X0_isNoNumber : GoodIn wsX0_compare (va_wsS RX0 22 yX0_isNoNumber wsX0_isNoNumber) := goodIn_app (goodIn_of _ (by decide +kernel)) ggX0_compare_X0_isNoNumber
set_option maxRecDepth 20000 in
theorem ggX0_compare_X0_isLoud : GoodIn wsX0_compare wsX0_isLoud := goodIn_r _ [9, 10, 11, 1, 2, 3, 4, 5, 6] (by decide +kernel) (by decide +kernel)
set_option maxRecDepth 20000 in
theorem gX0_compare_X0_isLoud : GoodIn wsX0_compare (va_wsS RX0 26 yX0_isLoud wsX0_isLoud) := goodIn_app (goodIn_of _ (by decide +kernel)) ggX0_compare_X0_isLoud
set_option maxRecDepth 20000 in
theorem ggX0_compare_X0_noNumber : GoodIn wsX0_compare wsX0_noNumber := goodIn_r _ [15, 16, 17, 18, 19, 3, 20, 21, 28, 29] (by decide +kernel) (by decide +kernel)
set_option maxRecDepth 20000 in
theorem gX0_compare_X0_noNumber : GoodIn wsX0_compare (wsV RX0 29 RX0 yX0_noNumber wsX0_noNumber) := goodIn_app (goodIn_of _ (by decide +kernel)) ggX0_compare_X0_noNumber
set_option maxRecDepth 20000 in
theorem ggX0_compare_X0_place : GoodIn wsX0_compare wsX0_place := goodIn_r _ [24, 5, 25, 26, 3, 27] (by decide +kernel) (by decide +kernel)
set_option maxRecDepth 20000 in
theorem gX0_compare_X0_place : GoodIn wsX0_compare (va_wsS RX0 112 yX0_place wsX0_place) := goodIn_app (goodIn_of _ (by decide +kernel)) ggX0_compare_X0_place
theorem dX0_compare_0 : decode cX0_compare 0 = .ok (.iload_n 1, 1) := by decide +kernel
theorem dX0_compare_1 : decode cX0_compare 1 = .ok (.invokestatic 22, 3) := by decide +kernel
theorem dX0_compare_4 : decode cX0_compare 4 = .ok (.ifCond .ne 10, 3) := by decide +kernel
theorem dX0_compare_7 : decode cX0_compare 7 = .ok (.iload_n 2, 1) := by decide +kernel
theorem dX0_compare_8 : decode cX0_compare 8 = .ok (.invokestatic 22, 3) := by decide +kernel
theorem dX0_compare_11 : decode cX0_compare 11 = .ok (.ifCond .eq 29, 3) := by decide +kernel
theorem dX0_compare_14 : decode cX0_compare 14 = .ok (.aload_n 0, 1) := by decide +kernel
theorem dX0_compare_15 : decode cX0_compare 15 = .ok (.iload_n 1, 1) := by decide +kernel
theorem dX0_compare_16 : decode cX0_compare 16 = .ok (.invokestatic 26, 3) := by decide +kernel
theorem dX0_compare_19 : decode cX0_compare 19 = .ok (.ifCond .ne 10, 3) := by decide +kernel
theorem dX0_compare_22 : decode cX0_compare 22 = .ok (.iload_n 2, 1) := by decide +kernel
theorem dX0_compare_23 : decode cX0_compare 23 = .ok (.invokestatic 26, 3) := by decide +kernel
theorem dX0_compare_26 : decode cX0_compare 26 = .ok (.ifCond .eq 7, 3) := by decide +kernel
theorem dX0_compare_29 : decode cX0_compare 29 = .ok (.iconst 1, 1) := by decide +kernel
theorem dX0_compare_30 : decode cX0_compare 30 = .ok (.goto 4, 3) := by decide +kernel
theorem dX0_compare_33 : decode cX0_compare 33 = .ok (.iconst 0, 1) := by decide +kernel
theorem dX0_compare_34 : decode cX0_compare 34 = .ok (.invokevirtual 29, 3) := by decide +kernel
theorem dX0_compare_37 : decode cX0_compare 37 = .ok (.pop, 1) := by decide +kernel
theorem dX0_compare_38 : decode cX0_compare 38 = .ok (.iconst 2, 1) := by decide +kernel
theorem dX0_compare_39 : decode cX0_compare 39 = .ok (.ireturn, 1) := by decide +kernel
theorem dX0_compare_40 : decode cX0_compare 40 = .ok (.iload_n 1, 1) := by decide +kernel
theorem dX0_compare_41 : decode cX0_compare 41 = .ok (.invokestatic 112, 3) := by decide +kernel
theorem dX0_compare_44 : decode cX0_compare 44 = .ok (.istore_n 3, 1) := by decide +kernel
theorem dX0_compare_45 : decode cX0_compare 45 = .ok (.iload_n 2, 1) := by decide +kernel
theorem dX0_compare_46 : decode cX0_compare 46 = .ok (.invokestatic 112, 3) := by decide +kernel
theorem dX0_compare_49 : decode cX0_compare 49 = .ok (.istore 4, 2) := by decide +kernel
theorem dX0_compare_51 : decode cX0_compare 51 = .ok (.iload_n 3, 1) := by decide +kernel
theorem dX0_compare_52 : decode cX0_compare 52 = .ok (.iload 4, 2) := by decide +kernel
theorem dX0_compare_54 : decode cX0_compare 54 = .ok (.if_icmp .ne 5, 3) := by decide +kernel
theorem dX0_compare_57 : decode cX0_compare 57 = .ok (.iconst 0, 1) := by decide +kernel
theorem dX0_compare_58 : decode cX0_compare 58 = .ok (.ireturn, 1) := by decide +kernel
theorem dX0_compare_59 : decode cX0_compare 59 = .ok (.iload_n 3, 1) := by decide +kernel
theorem dX0_compare_60 : decode cX0_compare 60 = .ok (.iload 4, 2) := by decide +kernel
theorem dX0_compare_62 : decode cX0_compare 62 = .ok (.if_icmp .ge 7, 3) := by decide +kernel
theorem dX0_compare_65 : decode cX0_compare 65 = .ok (.iconst (-1), 1) := by decide +kernel
theorem dX0_compare_66 : decode cX0_compare 66 = .ok (.goto 4, 3) := by decide +kernel
theorem dX0_compare_69 : decode cX0_compare 69 = .ok (.iconst 1, 1) := by decide +kernel
theorem dX0_compare_70 : decode cX0_compare 70 = .ok (.ireturn, 1) := by decide +kernel
set_option maxRecDepth 20000 in
theorem ggX0_next_X0_isNoNumber : GoodIn wsX0_next wsX0_isNoNumber := goodIn_r _ [5, 6, 1] (by decide +kernel) (by decide +kernel)
set_option maxRecDepth 20000 in
theorem gX0_next_X0_isNoNumber : GoodIn wsX0_next (va_wsS RX0 22 yX0_isNoNumber wsX0_isNoNumber) := goodIn_app (goodIn_of _ (by decide +kernel)) ggX0_next_X0_isNoNumber
set_option maxRecDepth 20000 in
theorem ggX0_next_X0_isLoud : GoodIn wsX0_next wsX0_isLoud := goodIn_r _ [9, 10, 11, 2, 3, 4, 5, 6, 1] (by decide +kernel) (by decide +kernel)
set_option maxRecDepth 20000 in
theorem gX0_next_X0_isLoud : GoodIn wsX0_next (va_wsS RX0 26 yX0_isLoud wsX0_isLoud) := goodIn_app (goodIn_of _ (by decide +kernel)) ggX0_next_X0_isLoud
set_option maxRecDepth 20000 in
theorem ggX0_next_X0_noNumber : GoodIn wsX0_next wsX0_noNumber := goodIn_r _ [15, 16, 17, 18, 19, 4, 20, 21, 28, 29] (by decide +kernel) (by decide +kernel)
set_option maxRecDepth 20000 in
theorem gX0_next_X0_noNumber : GoodIn wsX0_next (wsV RX0 29 RX0 yX0_noNumber wsX0_noNumber) := goodIn_app (goodIn_of _ (by decide +kernel)) ggX0_next_X0_noNumber
set_option maxRecDepth 20000 in
theorem ggX0_next_X0_isZero : GoodIn wsX0_next wsX0_isZero := goodIn_r _ [24, 6] (by decide +kernel) (by decide +kernel)
set_option maxRecDepth 20000 in
theorem gX0_next_X0_isZero : GoodIn wsX0_next (va_wsS RX0 60 yX0_isZero wsX0_isZero) := goodIn_app (goodIn_of _ (by decide +kernel)) ggX0_next_X0_isZero
set_option maxRecDepth 20000 in
theorem ggX0_next_X0_isNegative : GoodIn wsX0_next wsX0_isNegative := goodIn_r _ [27] (by decide +kernel) (by decide +kernel)
set_option maxRecDepth 20000 in
theorem gX0_next_X0_isNegative : GoodIn wsX0_next (va_wsS RX0 75 yX0_isNegative wsX0_isNegative) := goodIn_app (goodIn_of _ (by decide +kernel)) ggX0_next_X0_isNegative
theorem dX0_next_0 : decode cX0_next 0 = .ok (.iload_n 1, 1) := by decide +kernel
theorem dX0_next_1 : decode cX0_next 1 = .ok (.invokestatic 22, 3) := by decide +kernel
theorem dX0_next_4 : decode cX0_next 4 = .ok (.ifCond .eq 12, 3) := by decide +kernel
theorem dX0_next_7 : decode cX0_next 7 = .ok (.aload_n 0, 1) := by decide +kernel
theorem dX0_next_8 : decode cX0_next 8 = .ok (.iload_n 1, 1) := by decide +kernel
theorem dX0_next_9 : decode cX0_next 9 = .ok (.invokestatic 26, 3) := by decide +kernel
theorem dX0_next_12 : decode cX0_next 12 = .ok (.invokevirtual 29, 3) := by decide +kernel
theorem dX0_next_15 : decode cX0_next 15 = .ok (.ireturn, 1) := by decide +kernel
theorem dX0_next_16 : decode cX0_next 16 = .ok (.iload_n 1, 1) := by decide +kernel
theorem dX0_next_17 : decode cX0_next 17 = .ok (.ldc 48, 2) := by decide +kernel
theorem dX0_next_19 : decode cX0_next 19 = .ok (.if_icmp .ne 5, 3) := by decide +kernel
theorem dX0_next_22 : decode cX0_next 22 = .ok (.iload_n 1, 1) := by decide +kernel
theorem dX0_next_23 : decode cX0_next 23 = .ok (.ireturn, 1) := by decide +kernel
theorem dX0_next_24 : decode cX0_next 24 = .ok (.iload_n 1, 1) := by decide +kernel
theorem dX0_next_25 : decode cX0_next 25 = .ok (.invokestatic 60, 3) := by decide +kernel
theorem dX0_next_28 : decode cX0_next 28 = .ok (.ifCond .eq 5, 3) := by decide +kernel
theorem dX0_next_31 : decode cX0_next 31 = .ok (.iconst 1, 1) := by decide +kernel
theorem dX0_next_32 : decode cX0_next 32 = .ok (.ireturn, 1) := by decide +kernel
theorem dX0_next_33 : decode cX0_next 33 = .ok (.iload_n 1, 1) := by decide +kernel
theorem dX0_next_34 : decode cX0_next 34 = .ok (.invokestatic 75, 3) := by decide +kernel
theorem dX0_next_37 : decode cX0_next 37 = .ok (.ifCond .eq 9, 3) := by decide +kernel
theorem dX0_next_40 : decode cX0_next 40 = .ok (.iload_n 1, 1) := by decide +kernel
theorem dX0_next_41 : decode cX0_next 41 = .ok (.iconst 1, 1) := by decide +kernel
theorem dX0_next_42 : decode cX0_next 42 = .ok (.isub, 1) := by decide +kernel
theorem dX0_next_43 : decode cX0_next 43 = .ok (.goto 6, 3) := by decide +kernel
theorem dX0_next_46 : decode cX0_next 46 = .ok (.iload_n 1, 1) := by decide +kernel
theorem dX0_next_47 : decode cX0_next 47 = .ok (.iconst 1, 1) := by decide +kernel
theorem dX0_next_48 : decode cX0_next 48 = .ok (.iadd, 1) := by decide +kernel
theorem dX0_next_49 : decode cX0_next 49 = .ok (.ireturn, 1) := by decide +kernel
set_option maxRecDepth 20000 in
theorem ggX0_kind_X0_kindWithoutSign : GoodIn wsX0_kind wsX0_kindWithoutSign := goodIn_r _ [4, 5, 6, 3, 7, 8, 9, 10, 11, 12, 13, 14, 15, 16, 17, 18, 19, 20, 21, 22, 23] (by decide +kernel) (by decide +kernel)
set_option maxRecDepth 20000 in
theorem gX0_kind_X0_kindWithoutSign : GoodIn wsX0_kind (va_wsS RX0 115 yX0_kindWithoutSign wsX0_kindWithoutSign) := goodIn_app (goodIn_of _ (by decide +kernel)) ggX0_kind_X0_kindWithoutSign
set_option maxRecDepth 20000 in
theorem ggX0_kind_X0_isNegative : GoodIn wsX0_kind wsX0_isNegative := goodIn_r _ [26] (by decide +kernel) (by decide +kernel)
set_option maxRecDepth 20000 in
theorem gX0_kind_X0_isNegative : GoodIn wsX0_kind (va_wsS RX0 75 yX0_isNegative wsX0_isNegative) := goodIn_app (goodIn_of _ (by decide +kernel)) ggX0_kind_X0_isNegative
theorem dX0_kind_0 : decode cX0_kind 0 = .ok (.iload_n 1, 1) := by decide +kernel
theorem dX0_kind_1 : decode cX0_kind 1 = .ok (.invokestatic 115, 3) := by decide +kernel
theorem dX0_kind_4 : decode cX0_kind 4 = .ok (.iload_n 1, 1) := by decide +kernel
theorem dX0_kind_5 : decode cX0_kind 5 = .ok (.invokestatic 75, 3) := by decide +kernel
theorem dX0_kind_8 : decode cX0_kind 8 = .ok (.ifCond .eq 8, 3) := by decide +kernel
theorem dX0_kind_11 : decode cX0_kind 11 = .ok (.bipush 8, 2) := by decide +kernel
theorem dX0_kind_13 : decode cX0_kind 13 = .ok (.goto 4, 3) := by decide +kernel
theorem dX0_kind_16 : decode cX0_kind 16 = .ok (.iconst 0, 1) := by decide +kernel
theorem dX0_kind_17 : decode cX0_kind 17 = .ok (.iadd, 1) := by decide +kernel
theorem dX0_kind_18 : decode cX0_kind 18 = .ok (.ireturn, 1) := by decide +kernel
set_option maxRecDepth 20000 in
theorem ggX0_kindWithoutSign_X0_isNoNumber : GoodIn wsX0_kindWithoutSign wsX0_isNoNumber := goodIn_r _ [4, 5, 6] (by decide +kernel) (by decide +kernel)
set_option maxRecDepth 20000 in
theorem gX0_kindWithoutSign_X0_isNoNumber : GoodIn wsX0_kindWithoutSign (va_wsS RX0 22 yX0_isNoNumber wsX0_isNoNumber) := goodIn_app (goodIn_of _ (by decide +kernel)) ggX0_kindWithoutSign_X0_isNoNumber
set_option maxRecDepth 20000 in
theorem ggX0_kindWithoutSign_X0_isLoud : GoodIn wsX0_kindWithoutSign wsX0_isLoud := goodIn_r _ [9, 10, 11, 1, 2, 3, 4, 5, 6] (by decide +kernel) (by decide +kernel)
set_option maxRecDepth 20000 in
theorem gX0_kindWithoutSign_X0_isLoud : GoodIn wsX0_kindWithoutSign (va_wsS RX0 26 yX0_isLoud wsX0_isLoud) := goodIn_app (goodIn_of _ (by decide +kernel)) ggX0_kindWithoutSign_X0_isLoud
set_option maxRecDepth 20000 in
theorem ggX0_kindWithoutSign_X0_isInfinite : GoodIn wsX0_kindWithoutSign wsX0_isInfinite := goodIn_r _ [14, 5, 6] (by decide +kernel) (by decide +kernel)
set_option maxRecDepth 20000 in
theorem gX0_kindWithoutSign_X0_isInfinite : GoodIn wsX0_kindWithoutSign (va_wsS RX0 45 yX0_isInfinite wsX0_isInfinite) := goodIn_app (goodIn_of _ (by decide +kernel)) ggX0_kindWithoutSign_X0_isInfinite
set_option maxRecDepth 20000 in
theorem ggX0_kindWithoutSign_X0_isZero : GoodIn wsX0_kindWithoutSign wsX0_isZero := goodIn_r _ [17, 5] (by decide +kernel) (by decide +kernel)
set_option maxRecDepth 20000 in
theorem gX0_kindWithoutSign_X0_isZero : GoodIn wsX0_kindWithoutSign (va_wsS RX0 60 yX0_isZero wsX0_isZero) := goodIn_app (goodIn_of _ (by decide +kernel)) ggX0_kindWithoutSign_X0_isZero
set_option maxRecDepth 20000 in
theorem ggX0_kindWithoutSign_X0_exponentOf : GoodIn wsX0_kindWithoutSign wsX0_exponentOf := goodIn_r _ [20, 5] (by decide +kernel) (by decide +kernel)
set_option maxRecDepth 20000 in
theorem gX0_kindWithoutSign_X0_exponentOf : GoodIn wsX0_kindWithoutSign (va_wsS RX0 118 yX0_exponentOf wsX0_exponentOf) := goodIn_app (goodIn_of _ (by decide +kernel)) ggX0_kindWithoutSign_X0_exponentOf
theorem dX0_kindWithoutSign_0 : decode cX0_kindWithoutSign 0 = .ok (.iload_n 0, 1) := by decide +kernel
theorem dX0_kindWithoutSign_1 : decode cX0_kindWithoutSign 1 = .ok (.invokestatic 22, 3) := by decide +kernel
theorem dX0_kindWithoutSign_4 : decode cX0_kindWithoutSign 4 = .ok (.ifCond .eq 16, 3) := by decide +kernel
theorem dX0_kindWithoutSign_7 : decode cX0_kindWithoutSign 7 = .ok (.iload_n 0, 1) := by decide +kernel
theorem dX0_kindWithoutSign_8 : decode cX0_kindWithoutSign 8 = .ok (.invokestatic 26, 3) := by decide +kernel
theorem dX0_kindWithoutSign_11 : decode cX0_kindWithoutSign 11 = .ok (.ifCond .eq 7, 3) := by decide +kernel
theorem dX0_kindWithoutSign_14 : decode cX0_kindWithoutSign 14 = .ok (.iconst 0, 1) := by decide +kernel
theorem dX0_kindWithoutSign_15 : decode cX0_kindWithoutSign 15 = .ok (.goto 4, 3) := by decide +kernel
theorem dX0_kindWithoutSign_18 : decode cX0_kindWithoutSign 18 = .ok (.iconst 1, 1) := by decide +kernel
theorem dX0_kindWithoutSign_19 : decode cX0_kindWithoutSign 19 = .ok (.ireturn, 1) := by decide +kernel
theorem dX0_kindWithoutSign_20 : decode cX0_kindWithoutSign 20 = .ok (.iload_n 0, 1) := by decide +kernel
theorem dX0_kindWithoutSign_21 : decode cX0_kindWithoutSign 21 = .ok (.invokestatic 45, 3) := by decide +kernel
theorem dX0_kindWithoutSign_24 : decode cX0_kindWithoutSign 24 = .ok (.ifCond .eq 5, 3) := by decide +kernel
theorem dX0_kindWithoutSign_27 : decode cX0_kindWithoutSign 27 = .ok (.iconst 2, 1) := by decide +kernel
theorem dX0_kindWithoutSign_28 : decode cX0_kindWithoutSign 28 = .ok (.ireturn, 1) := by decide +kernel
theorem dX0_kindWithoutSign_29 : decode cX0_kindWithoutSign 29 = .ok (.iload_n 0, 1) := by decide +kernel
theorem dX0_kindWithoutSign_30 : decode cX0_kindWithoutSign 30 = .ok (.invokestatic 60, 3) := by decide +kernel
theorem dX0_kindWithoutSign_33 : decode cX0_kindWithoutSign 33 = .ok (.ifCond .eq 5, 3) := by decide +kernel
theorem dX0_kindWithoutSign_36 : decode cX0_kindWithoutSign 36 = .ok (.iconst 3, 1) := by decide +kernel
theorem dX0_kindWithoutSign_37 : decode cX0_kindWithoutSign 37 = .ok (.ireturn, 1) := by decide +kernel
theorem dX0_kindWithoutSign_38 : decode cX0_kindWithoutSign 38 = .ok (.iload_n 0, 1) := by decide +kernel
theorem dX0_kindWithoutSign_39 : decode cX0_kindWithoutSign 39 = .ok (.invokestatic 118, 3) := by decide +kernel
theorem dX0_kindWithoutSign_42 : decode cX0_kindWithoutSign 42 = .ok (.ifCond .ne 7, 3) := by decide +kernel
theorem dX0_kindWithoutSign_45 : decode cX0_kindWithoutSign 45 = .ok (.iconst 4, 1) := by decide +kernel
theorem dX0_kindWithoutSign_46 : decode cX0_kindWithoutSign 46 = .ok (.goto 4, 3) := by decide +kernel
theorem dX0_kindWithoutSign_49 : decode cX0_kindWithoutSign 49 = .ok (.iconst 5, 1) := by decide +kernel
theorem dX0_kindWithoutSign_50 : decode cX0_kindWithoutSign 50 = .ok (.ireturn, 1) := by decide +kernel
theorem dX0_isNegative_0 : decode cX0_isNegative 0 = .ok (.iload_n 0, 1) := by decide +kernel
theorem dX0_isNegative_1 : decode cX0_isNegative 1 = .ok (.ifCond .ge 7, 3) := by decide +kernel
theorem dX0_isNegative_4 : decode cX0_isNegative 4 = .ok (.iconst 1, 1) := by decide +kernel
theorem dX0_isNegative_5 : decode cX0_isNegative 5 = .ok (.goto 4, 3) := by decide +kernel
theorem dX0_isNegative_8 : decode cX0_isNegative 8 = .ok (.iconst 0, 1) := by decide +kernel
theorem dX0_isNegative_9 : decode cX0_isNegative 9 = .ok (.ireturn, 1) := by decide +kernel
theorem dX0_signOf_0 : decode cX0_signOf 0 = .ok (.iload_n 0, 1) := by decide +kernel
theorem dX0_signOf_1 : decode cX0_signOf 1 = .ok (.ldc 21, 2) := by decide +kernel
theorem dX0_signOf_3 : decode cX0_signOf 3 = .ok (.iand, 1) := by decide +kernel
theorem dX0_signOf_4 : decode cX0_signOf 4 = .ok (.ireturn, 1) := by decide +kernel
theorem dX0_exponentOf_0 : decode cX0_exponentOf 0 = .ok (.iload_n 0, 1) := by decide +kernel
theorem dX0_exponentOf_1 : decode cX0_exponentOf 1 = .ok (.ldc 121, 2) := by decide +kernel
theorem dX0_exponentOf_3 : decode cX0_exponentOf 3 = .ok (.iand, 1) := by decide +kernel
theorem dX0_exponentOf_4 : decode cX0_exponentOf 4 = .ok (.bipush 23, 2) := by decide +kernel
theorem dX0_exponentOf_6 : decode cX0_exponentOf 6 = .ok (.ishr, 1) := by decide +kernel
theorem dX0_exponentOf_7 : decode cX0_exponentOf 7 = .ok (.ireturn, 1) := by decide +kernel
theorem dX0_isNoNumber_0 : decode cX0_isNoNumber 0 = .ok (.iload_n 0, 1) := by decide +kernel
theorem dX0_isNoNumber_1 : decode cX0_isNoNumber 1 = .ok (.ldc 121, 2) := by decide +kernel
theorem dX0_isNoNumber_3 : decode cX0_isNoNumber 3 = .ok (.iand, 1) := by decide +kernel
theorem dX0_isNoNumber_4 : decode cX0_isNoNumber 4 = .ok (.ldc 48, 2) := by decide +kernel
theorem dX0_isNoNumber_6 : decode cX0_isNoNumber 6 = .ok (.if_icmp .le 7, 3) := by decide +kernel
theorem dX0_isNoNumber_9 : decode cX0_isNoNumber 9 = .ok (.iconst 1, 1) := by decide +kernel
theorem dX0_isNoNumber_10 : decode cX0_isNoNumber 10 = .ok (.goto 4, 3) := by decide +kernel
theorem dX0_isNoNumber_13 : decode cX0_isNoNumber 13 = .ok (.iconst 0, 1) := by decide +kernel
theorem dX0_isNoNumber_14 : decode cX0_isNoNumber 14 = .ok (.ireturn, 1) := by decide +kernel
set_option maxRecDepth 20000 in
theorem ggX0_isLoud_X0_isNoNumber : GoodIn wsX0_isLoud wsX0_isNoNumber := goodIn_r _ [6, 7, 8] (by decide +kernel) (by decide +kernel)
set_option maxRecDepth 20000 in
theorem gX0_isLoud_X0_isNoNumber : GoodIn wsX0_isLoud (va_wsS RX0 22 yX0_isNoNumber wsX0_isNoNumber) := goodIn_app (goodIn_of _ (by decide +kernel)) ggX0_isLoud_X0_isNoNumber
theorem dX0_isLoud_0 : decode cX0_isLoud 0 = .ok (.iload_n 0, 1) := by decide +kernel
theorem dX0_isLoud_1 : decode cX0_isLoud 1 = .ok (.invokestatic 22, 3) := by decide +kernel
theorem dX0_isLoud_4 : decode cX0_isLoud 4 = .ok (.ifCond .eq 16, 3) := by decide +kernel
theorem dX0_isLoud_7 : decode cX0_isLoud 7 = .ok (.iload_n 0, 1) := by decide +kernel
theorem dX0_isLoud_8 : decode cX0_isLoud 8 = .ok (.ldc 122, 2) := by decide +kernel
theorem dX0_isLoud_10 : decode cX0_isLoud 10 = .ok (.iand, 1) := by decide +kernel
theorem dX0_isLoud_11 : decode cX0_isLoud 11 = .ok (.ldc 123, 2) := by decide +kernel
theorem dX0_isLoud_13 : decode cX0_isLoud 13 = .ok (.if_icmp .ge 7, 3) := by decide +kernel
theorem dX0_isLoud_16 : decode cX0_isLoud 16 = .ok (.iconst 1, 1) := by decide +kernel
theorem dX0_isLoud_17 : decode cX0_isLoud 17 = .ok (.goto 4, 3) := by decide +kernel
theorem dX0_isLoud_20 : decode cX0_isLoud 20 = .ok (.iconst 0, 1) := by decide +kernel
theorem dX0_isLoud_21 : decode cX0_isLoud 21 = .ok (.ireturn, 1) := by decide +kernel
theorem dX0_isInfinite_0 : decode cX0_isInfinite 0 = .ok (.iload_n 0, 1) := by decide +kernel
theorem dX0_isInfinite_1 : decode cX0_isInfinite 1 = .ok (.ldc 121, 2) := by decide +kernel
theorem dX0_isInfinite_3 : decode cX0_isInfinite 3 = .ok (.iand, 1) := by decide +kernel
end
section
theorem dX0_isInfinite_4 : decode cX0_isInfinite 4 = .ok (.ldc 48, 2) := by decide +kernel
theorem dX0_isInfinite_6 : decode cX0_isInfinite 6 = .ok (.if_icmp .ne 7, 3) := by decide +kernel
theorem dX0_isInfinite_9 : decode cX0_isInfinite 9 = .ok (.iconst 1, 1) := by decide +kernel
theorem dX0_isInfinite_10 : decode cX0_isInfinite 10 = .ok (.goto 4, 3) := by decide +kernel
theorem dX0_isInfinite_13 : decode cX0_isInfinite 13 = .ok (.iconst 0, 1) := by decide +kernel
theorem dX0_isInfinite_14 : decode cX0_isInfinite 14 = .ok (.ireturn, 1) := by decide +kernel
theorem dX0_isFinite_0 : decode cX0_isFinite 0 = .ok (.iload_n 0, 1) := by decide +kernel
theorem dX0_isFinite_1 : decode cX0_isFinite 1 = .ok (.ldc 121, 2) := by decide +kernel
theorem dX0_isFinite_3 : decode cX0_isFinite 3 = .ok (.iand, 1) := by decide +kernel
theorem dX0_isFinite_4 : decode cX0_isFinite 4 = .ok (.ldc 48, 2) := by decide +kernel
theorem dX0_isFinite_6 : decode cX0_isFinite 6 = .ok (.if_icmp .ge 7, 3) := by decide +kernel
theorem dX0_isFinite_9 : decode cX0_isFinite 9 = .ok (.iconst 1, 1) := by decide +kernel
theorem dX0_isFinite_10 : decode cX0_isFinite 10 = .ok (.goto 4, 3) := by decide +kernel
theorem dX0_isFinite_13 : decode cX0_isFinite 13 = .ok (.iconst 0, 1) := by decide +kernel
theorem dX0_isFinite_14 : decode cX0_isFinite 14 = .ok (.ireturn, 1) := by decide +kernel
theorem dX0_isZero_0 : decode cX0_isZero 0 = .ok (.iload_n 0, 1) := by decide +kernel
theorem dX0_isZero_1 : decode cX0_isZero 1 = .ok (.ldc 121, 2) := by decide +kernel
theorem dX0_isZero_3 : decode cX0_isZero 3 = .ok (.iand, 1) := by decide +kernel
theorem dX0_isZero_4 : decode cX0_isZero 4 = .ok (.ifCond .ne 7, 3) := by decide +kernel
theorem dX0_isZero_7 : decode cX0_isZero 7 = .ok (.iconst 1, 1) := by decide +kernel
theorem dX0_isZero_8 : decode cX0_isZero 8 = .ok (.goto 4, 3) := by decide +kernel
theorem dX0_isZero_11 : decode cX0_isZero 11 = .ok (.iconst 0, 1) := by decide +kernel
theorem dX0_isZero_12 : decode cX0_isZero 12 = .ok (.ireturn, 1) := by decide +kernel
set_option maxRecDepth 20000 in
theorem ggX0_isZeroTimesInfinite_X0_isZero : GoodIn wsX0_isZeroTimesInfinite wsX0_isZero := goodIn_r _ [4, 5] (by decide +kernel) (by decide +kernel)
set_option maxRecDepth 20000 in
theorem gX0_isZeroTimesInfinite_X0_isZero : GoodIn wsX0_isZeroTimesInfinite (va_wsS RX0 60 yX0_isZero wsX0_isZero) := goodIn_app (goodIn_of _ (by decide +kernel)) ggX0_isZeroTimesInfinite_X0_isZero
set_option maxRecDepth 20000 in
theorem ggX0_isZeroTimesInfinite_X0_isInfinite : GoodIn wsX0_isZeroTimesInfinite wsX0_isInfinite := goodIn_r _ [8, 5, 9] (by decide +kernel) (by decide +kernel)
set_option maxRecDepth 20000 in
theorem gX0_isZeroTimesInfinite_X0_isInfinite : GoodIn wsX0_isZeroTimesInfinite (va_wsS RX0 45 yX0_isInfinite wsX0_isInfinite) := goodIn_app (goodIn_of _ (by decide +kernel)) ggX0_isZeroTimesInfinite_X0_isInfinite
theorem dX0_isZeroTimesInfinite_0 : decode cX0_isZeroTimesInfinite 0 = .ok (.iload_n 0, 1) := by decide +kernel
theorem dX0_isZeroTimesInfinite_1 : decode cX0_isZeroTimesInfinite 1 = .ok (.invokestatic 60, 3) := by decide +kernel
theorem dX0_isZeroTimesInfinite_4 : decode cX0_isZeroTimesInfinite 4 = .ok (.ifCond .eq 10, 3) := by decide +kernel
theorem dX0_isZeroTimesInfinite_7 : decode cX0_isZeroTimesInfinite 7 = .ok (.iload_n 1, 1) := by decide +kernel
theorem dX0_isZeroTimesInfinite_8 : decode cX0_isZeroTimesInfinite 8 = .ok (.invokestatic 45, 3) := by decide +kernel
theorem dX0_isZeroTimesInfinite_11 : decode cX0_isZeroTimesInfinite 11 = .ok (.ifCond .ne 17, 3) := by decide +kernel
theorem dX0_isZeroTimesInfinite_14 : decode cX0_isZeroTimesInfinite 14 = .ok (.iload_n 0, 1) := by decide +kernel
theorem dX0_isZeroTimesInfinite_15 : decode cX0_isZeroTimesInfinite 15 = .ok (.invokestatic 45, 3) := by decide +kernel
theorem dX0_isZeroTimesInfinite_18 : decode cX0_isZeroTimesInfinite 18 = .ok (.ifCond .eq 14, 3) := by decide +kernel
theorem dX0_isZeroTimesInfinite_21 : decode cX0_isZeroTimesInfinite 21 = .ok (.iload_n 1, 1) := by decide +kernel
theorem dX0_isZeroTimesInfinite_22 : decode cX0_isZeroTimesInfinite 22 = .ok (.invokestatic 60, 3) := by decide +kernel
theorem dX0_isZeroTimesInfinite_25 : decode cX0_isZeroTimesInfinite 25 = .ok (.ifCond .eq 7, 3) := by decide +kernel
theorem dX0_isZeroTimesInfinite_28 : decode cX0_isZeroTimesInfinite 28 = .ok (.iconst 1, 1) := by decide +kernel
theorem dX0_isZeroTimesInfinite_29 : decode cX0_isZeroTimesInfinite 29 = .ok (.goto 4, 3) := by decide +kernel
theorem dX0_isZeroTimesInfinite_32 : decode cX0_isZeroTimesInfinite 32 = .ok (.iconst 0, 1) := by decide +kernel
theorem dX0_isZeroTimesInfinite_33 : decode cX0_isZeroTimesInfinite 33 = .ok (.ireturn, 1) := by decide +kernel
set_option maxRecDepth 20000 in
theorem ggX0_magnitudeOf_X0_exponentOf : GoodIn wsX0_magnitudeOf wsX0_exponentOf := goodIn_r _ [6, 7] (by decide +kernel) (by decide +kernel)
set_option maxRecDepth 20000 in
theorem gX0_magnitudeOf_X0_exponentOf : GoodIn wsX0_magnitudeOf (va_wsS RX0 118 yX0_exponentOf wsX0_exponentOf) := goodIn_app (goodIn_of _ (by decide +kernel)) ggX0_magnitudeOf_X0_exponentOf
theorem dX0_magnitudeOf_0 : decode cX0_magnitudeOf 0 = .ok (.iload_n 0, 1) := by decide +kernel
theorem dX0_magnitudeOf_1 : decode cX0_magnitudeOf 1 = .ok (.ldc 122, 2) := by decide +kernel
theorem dX0_magnitudeOf_3 : decode cX0_magnitudeOf 3 = .ok (.iand, 1) := by decide +kernel
theorem dX0_magnitudeOf_4 : decode cX0_magnitudeOf 4 = .ok (.istore_n 1, 1) := by decide +kernel
theorem dX0_magnitudeOf_5 : decode cX0_magnitudeOf 5 = .ok (.iload_n 0, 1) := by decide +kernel
theorem dX0_magnitudeOf_6 : decode cX0_magnitudeOf 6 = .ok (.invokestatic 118, 3) := by decide +kernel
theorem dX0_magnitudeOf_9 : decode cX0_magnitudeOf 9 = .ok (.ifCond .ne 8, 3) := by decide +kernel
theorem dX0_magnitudeOf_12 : decode cX0_magnitudeOf 12 = .ok (.iload_n 1, 1) := by decide +kernel
theorem dX0_magnitudeOf_13 : decode cX0_magnitudeOf 13 = .ok (.i2l, 1) := by decide +kernel
theorem dX0_magnitudeOf_14 : decode cX0_magnitudeOf 14 = .ok (.goto 8, 3) := by decide +kernel
theorem dX0_magnitudeOf_17 : decode cX0_magnitudeOf 17 = .ok (.ldc 124, 2) := by decide +kernel
theorem dX0_magnitudeOf_19 : decode cX0_magnitudeOf 19 = .ok (.iload_n 1, 1) := by decide +kernel
theorem dX0_magnitudeOf_20 : decode cX0_magnitudeOf 20 = .ok (.iadd, 1) := by decide +kernel
theorem dX0_magnitudeOf_21 : decode cX0_magnitudeOf 21 = .ok (.i2l, 1) := by decide +kernel
theorem dX0_magnitudeOf_22 : decode cX0_magnitudeOf 22 = .ok (.lreturn, 1) := by decide +kernel
set_option maxRecDepth 20000 in
theorem ggX0_unitOf_X0_exponentOf : GoodIn wsX0_unitOf wsX0_exponentOf := goodIn_r _ [8, 9] (by decide +kernel) (by decide +kernel)
set_option maxRecDepth 20000 in
theorem gX0_unitOf_X0_exponentOf : GoodIn wsX0_unitOf (va_wsS RX0 118 yX0_exponentOf wsX0_exponentOf) := goodIn_app (goodIn_of _ (by decide +kernel)) ggX0_unitOf_X0_exponentOf
theorem dX0_unitOf_0 : decode cX0_unitOf 0 = .ok (.iload_n 0, 1) := by decide +kernel
theorem dX0_unitOf_1 : decode cX0_unitOf 1 = .ok (.invokestatic 118, 3) := by decide +kernel
theorem dX0_unitOf_4 : decode cX0_unitOf 4 = .ok (.iconst 1, 1) := by decide +kernel
theorem dX0_unitOf_5 : decode cX0_unitOf 5 = .ok (.invokestatic 88, 3) := by decide +kernel
theorem dX0_unitOf_8 : decode cX0_unitOf 8 = .ok (.iconst 1, 1) := by decide +kernel
theorem dX0_unitOf_9 : decode cX0_unitOf 9 = .ok (.isub, 1) := by decide +kernel
theorem dX0_unitOf_10 : decode cX0_unitOf 10 = .ok (.sipush (-149), 3) := by decide +kernel
theorem dX0_unitOf_13 : decode cX0_unitOf 13 = .ok (.iadd, 1) := by decide +kernel
theorem dX0_unitOf_14 : decode cX0_unitOf 14 = .ok (.ireturn, 1) := by decide +kernel
set_option maxRecDepth 20000 in
theorem ggX0_place_X0_isNegative : GoodIn wsX0_place wsX0_isNegative := goodIn_r _ [5] (by decide +kernel) (by decide +kernel)
set_option maxRecDepth 20000 in
theorem gX0_place_X0_isNegative : GoodIn wsX0_place (va_wsS RX0 75 yX0_isNegative wsX0_isNegative) := goodIn_app (goodIn_of _ (by decide +kernel)) ggX0_place_X0_isNegative
theorem dX0_place_0 : decode cX0_place 0 = .ok (.iload_n 0, 1) := by decide +kernel
theorem dX0_place_1 : decode cX0_place 1 = .ok (.ldc 121, 2) := by decide +kernel
theorem dX0_place_3 : decode cX0_place 3 = .ok (.iand, 1) := by decide +kernel
theorem dX0_place_4 : decode cX0_place 4 = .ok (.istore_n 1, 1) := by decide +kernel
theorem dX0_place_5 : decode cX0_place 5 = .ok (.iload_n 0, 1) := by decide +kernel
theorem dX0_place_6 : decode cX0_place 6 = .ok (.invokestatic 75, 3) := by decide +kernel
theorem dX0_place_9 : decode cX0_place 9 = .ok (.ifCond .eq 8, 3) := by decide +kernel
theorem dX0_place_12 : decode cX0_place 12 = .ok (.iload_n 1, 1) := by decide +kernel
theorem dX0_place_13 : decode cX0_place 13 = .ok (.ineg, 1) := by decide +kernel
theorem dX0_place_14 : decode cX0_place 14 = .ok (.goto 4, 3) := by decide +kernel
theorem dX0_place_17 : decode cX0_place 17 = .ok (.iload_n 1, 1) := by decide +kernel
theorem dX0_place_18 : decode cX0_place 18 = .ok (.ireturn, 1) := by decide +kernel
theorem dX0_raise_0 : decode cX0_raise 0 = .ok (.aload_n 0, 1) := by decide +kernel
theorem dX0_raise_1 : decode cX0_raise 1 = .ok (.dup, 1) := by decide +kernel
theorem dX0_raise_2 : decode cX0_raise 2 = .ok (.getfield 13, 3) := by decide +kernel
theorem dX0_raise_5 : decode cX0_raise 5 = .ok (.iload_n 1, 1) := by decide +kernel
theorem dX0_raise_6 : decode cX0_raise 6 = .ok (.ior, 1) := by decide +kernel
theorem dX0_raise_7 : decode cX0_raise 7 = .ok (.putfield 13, 3) := by decide +kernel
theorem dX0_raise_10 : decode cX0_raise 10 = .ok (.return_, 1) := by decide +kernel
set_option maxRecDepth 20000 in
theorem ggX0_noNumber_X0_raise : GoodIn wsX0_noNumber wsX0_raise := goodIn_r _ [6, 7, 8, 9] (by decide +kernel) (by decide +kernel)
set_option maxRecDepth 20000 in
theorem gX0_noNumber_X0_raise : GoodIn wsX0_noNumber (wsV RX0 63 RX0 yX0_raise wsX0_raise) := goodIn_app (goodIn_of _ (by decide +kernel)) ggX0_noNumber_X0_raise
theorem dX0_noNumber_0 : decode cX0_noNumber 0 = .ok (.iload_n 1, 1) := by decide +kernel
theorem dX0_noNumber_1 : decode cX0_noNumber 1 = .ok (.ifCond .eq 9, 3) := by decide +kernel
theorem dX0_noNumber_4 : decode cX0_noNumber 4 = .ok (.aload_n 0, 1) := by decide +kernel
theorem dX0_noNumber_5 : decode cX0_noNumber 5 = .ok (.bipush 16, 2) := by decide +kernel
theorem dX0_noNumber_7 : decode cX0_noNumber 7 = .ok (.invokevirtual 63, 3) := by decide +kernel
theorem dX0_noNumber_10 : decode cX0_noNumber 10 = .ok (.ldc 125, 2) := by decide +kernel
theorem dX0_noNumber_12 : decode cX0_noNumber 12 = .ok (.ireturn, 1) := by decide +kernel
set_option maxRecDepth 20000 in
theorem ggX0_invalid_X0_raise : GoodIn wsX0_invalid wsX0_raise := goodIn_r _ [6, 7, 8, 9] (by decide +kernel) (by decide +kernel)
set_option maxRecDepth 20000 in
theorem gX0_invalid_X0_raise : GoodIn wsX0_invalid (wsV RX0 63 RX0 yX0_raise wsX0_raise) := goodIn_app (goodIn_of _ (by decide +kernel)) ggX0_invalid_X0_raise
theorem dX0_invalid_0 : decode cX0_invalid 0 = .ok (.aload_n 0, 1) := by decide +kernel
theorem dX0_invalid_1 : decode cX0_invalid 1 = .ok (.bipush 16, 2) := by decide +kernel
theorem dX0_invalid_3 : decode cX0_invalid 3 = .ok (.invokevirtual 63, 3) := by decide +kernel
theorem dX0_invalid_6 : decode cX0_invalid 6 = .ok (.ldc 125, 2) := by decide +kernel
theorem dX0_invalid_8 : decode cX0_invalid 8 = .ok (.ireturn, 1) := by decide +kernel
set_option maxRecDepth 20000 in
theorem ggX0_invalidInt_X0_raise : GoodIn wsX0_invalidInt wsX0_raise := goodIn_r _ [6, 7, 8, 9] (by decide +kernel) (by decide +kernel)
set_option maxRecDepth 20000 in
theorem gX0_invalidInt_X0_raise : GoodIn wsX0_invalidInt (wsV RX0 63 RX0 yX0_raise wsX0_raise) := goodIn_app (goodIn_of _ (by decide +kernel)) ggX0_invalidInt_X0_raise
theorem dX0_invalidInt_0 : decode cX0_invalidInt 0 = .ok (.aload_n 0, 1) := by decide +kernel
theorem dX0_invalidInt_1 : decode cX0_invalidInt 1 = .ok (.bipush 16, 2) := by decide +kernel
theorem dX0_invalidInt_3 : decode cX0_invalidInt 3 = .ok (.invokevirtual 63, 3) := by decide +kernel
theorem dX0_invalidInt_6 : decode cX0_invalidInt 6 = .ok (.ldc 21, 2) := by decide +kernel
theorem dX0_invalidInt_8 : decode cX0_invalidInt 8 = .ok (.ireturn, 1) := by decide +kernel
set_option maxRecDepth 20000 in
theorem ggX0_productPlus_X0_isZeroTimesInfinite : GoodIn wsX0_productPlus wsX0_isZeroTimesInfinite := goodIn_r _ [5, 6, 7, 4, 8, 9, 10, 11, 12, 1] (by decide +kernel) (by decide +kernel)
set_option maxRecDepth 20000 in
theorem gX0_productPlus_X0_isZeroTimesInfinite : GoodIn wsX0_productPlus (va_wsS RX0 33 yX0_isZeroTimesInfinite wsX0_isZeroTimesInfinite) := goodIn_app (goodIn_of _ (by decide +kernel)) ggX0_productPlus_X0_isZeroTimesInfinite
set_option maxRecDepth 20000 in
theorem ggX0_productPlus_X0_invalid : GoodIn wsX0_productPlus wsX0_invalid := goodIn_r _ [16, 17, 18, 19, 20, 4, 21, 22, 117, 118] (by decide +kernel) (by decide +kernel)
set_option maxRecDepth 20000 in
theorem gX0_productPlus_X0_invalid : GoodIn wsX0_productPlus (wsV RX0 37 RX0 yX0_invalid wsX0_invalid) := goodIn_app (goodIn_of _ (by decide +kernel)) ggX0_productPlus_X0_invalid
set_option maxRecDepth 20000 in
theorem ggX0_productPlus_X0_isNoNumber : GoodIn wsX0_productPlus wsX0_isNoNumber := goodIn_r _ [25, 9, 1] (by decide +kernel) (by decide +kernel)
set_option maxRecDepth 20000 in
theorem gX0_productPlus_X0_isNoNumber : GoodIn wsX0_productPlus (va_wsS RX0 22 yX0_isNoNumber wsX0_isNoNumber) := goodIn_app (goodIn_of _ (by decide +kernel)) ggX0_productPlus_X0_isNoNumber
set_option maxRecDepth 20000 in
theorem ggX0_productPlus_X0_isLoud : GoodIn wsX0_productPlus wsX0_isLoud := goodIn_r _ [28, 29, 30, 23, 24, 4, 25, 9, 1] (by decide +kernel) (by decide +kernel)
set_option maxRecDepth 20000 in
theorem gX0_productPlus_X0_isLoud : GoodIn wsX0_productPlus (va_wsS RX0 26 yX0_isLoud wsX0_isLoud) := goodIn_app (goodIn_of _ (by decide +kernel)) ggX0_productPlus_X0_isLoud
set_option maxRecDepth 20000 in
theorem ggX0_productPlus_X0_noNumber : GoodIn wsX0_productPlus wsX0_noNumber := goodIn_r _ [34, 17, 18, 19, 20, 4, 21, 22, 117, 118] (by decide +kernel) (by decide +kernel)
set_option maxRecDepth 20000 in
theorem gX0_productPlus_X0_noNumber : GoodIn wsX0_productPlus (wsV RX0 29 RX0 yX0_noNumber wsX0_noNumber) := goodIn_app (goodIn_of _ (by decide +kernel)) ggX0_productPlus_X0_noNumber
set_option maxRecDepth 20000 in
theorem ggX0_productPlus_X0_signOf : GoodIn wsX0_productPlus wsX0_signOf := goodIn_r _ [37, 38] (by decide +kernel) (by decide +kernel)
set_option maxRecDepth 20000 in
theorem gX0_productPlus_X0_signOf : GoodIn wsX0_productPlus (va_wsS RX0 41 yX0_signOf wsX0_signOf) := goodIn_app (goodIn_of _ (by decide +kernel)) ggX0_productPlus_X0_signOf
set_option maxRecDepth 20000 in
theorem ggX0_productPlus_X0_isInfinite : GoodIn wsX0_productPlus wsX0_isInfinite := goodIn_r _ [12, 9, 1] (by decide +kernel) (by decide +kernel)
set_option maxRecDepth 20000 in
theorem gX0_productPlus_X0_isInfinite : GoodIn wsX0_productPlus (va_wsS RX0 45 yX0_isInfinite wsX0_isInfinite) := goodIn_app (goodIn_of _ (by decide +kernel)) ggX0_productPlus_X0_isInfinite
set_option maxRecDepth 20000 in
theorem ggX0_productPlus_X0_magnitudeOf : GoodIn wsX0_productPlus wsX0_magnitudeOf := goodIn_r _ [41, 29, 42, 43, 44, 4, 45, 9] (by decide +kernel) (by decide +kernel)
set_option maxRecDepth 20000 in
theorem gX0_productPlus_X0_magnitudeOf : GoodIn wsX0_productPlus (va_wsS RX0 49 yX0_magnitudeOf wsX0_magnitudeOf) := goodIn_app (goodIn_of _ (by decide +kernel)) ggX0_productPlus_X0_magnitudeOf
set_option maxRecDepth 20000 in
theorem ggX0_productPlus_X0_unitOf : GoodIn wsX0_productPlus wsX0_unitOf := goodIn_r _ [48, 49, 50, 51, 52, 43, 44, 4, 45, 9] (by decide +kernel) (by decide +kernel)
set_option maxRecDepth 20000 in
theorem gX0_productPlus_X0_unitOf : GoodIn wsX0_productPlus (va_wsS RX0 53 yX0_unitOf wsX0_unitOf) := goodIn_app (goodIn_of _ (by decide +kernel)) ggX0_productPlus_X0_unitOf
set_option maxRecDepth 20000 in
theorem ggX0_productPlus_X0_finiteSum : GoodIn wsX0_productPlus wsX0_finiteSum := goodIn_r _ [56, 49, 50, 51, 52, 38, 57, 58, 59, 6, 7, 4, 8, 9, 35, 36, 37, 60, 61, 62, 63, 64, 65, 66, 67, 68, 69, 70, 71, 72, 73, 74, 75, 76, 77, 78, 79, 80, 81, 82, 83, 84, 18, 19, 20, 21, 22, 85, 86, 87, 88, 89, 90, 91, 92, 93, 94, 95, 96, 97, 98, 99, 100, 101, 102, 103, 104, 105, 106, 1, 107, 46, 47, 48, 43, 44, 45, 39, 40, 41, 29, 42, 108, 109, 110, 111, 112, 113, 114, 115, 116, 117, 118] (by decide +kernel) (by decide +kernel)
set_option maxRecDepth 20000 in
theorem gX0_productPlus_X0_finiteSum : GoodIn wsX0_productPlus (wsV RX0 126 RX0 yX0_finiteSum wsX0_finiteSum) := goodIn_app (goodIn_of _ (by decide +kernel)) ggX0_productPlus_X0_finiteSum
theorem dX0_productPlus_0 : decode cX0_productPlus 0 = .ok (.iload_n 1, 1) := by decide +kernel
theorem dX0_productPlus_1 : decode cX0_productPlus 1 = .ok (.iload_n 2, 1) := by decide +kernel
theorem dX0_productPlus_2 : decode cX0_productPlus 2 = .ok (.invokestatic 33, 3) := by decide +kernel
theorem dX0_productPlus_5 : decode cX0_productPlus 5 = .ok (.ifCond .eq 8, 3) := by decide +kernel
theorem dX0_productPlus_8 : decode cX0_productPlus 8 = .ok (.aload_n 0, 1) := by decide +kernel
theorem dX0_productPlus_9 : decode cX0_productPlus 9 = .ok (.invokevirtual 37, 3) := by decide +kernel
theorem dX0_productPlus_12 : decode cX0_productPlus 12 = .ok (.ireturn, 1) := by decide +kernel
theorem dX0_productPlus_13 : decode cX0_productPlus 13 = .ok (.iload_n 1, 1) := by decide +kernel
theorem dX0_productPlus_14 : decode cX0_productPlus 14 = .ok (.invokestatic 22, 3) := by decide +kernel
theorem dX0_productPlus_17 : decode cX0_productPlus 17 = .ok (.ifCond .ne 17, 3) := by decide +kernel
theorem dX0_productPlus_20 : decode cX0_productPlus 20 = .ok (.iload_n 2, 1) := by decide +kernel
theorem dX0_productPlus_21 : decode cX0_productPlus 21 = .ok (.invokestatic 22, 3) := by decide +kernel
theorem dX0_productPlus_24 : decode cX0_productPlus 24 = .ok (.ifCond .ne 10, 3) := by decide +kernel
theorem dX0_productPlus_27 : decode cX0_productPlus 27 = .ok (.iload_n 3, 1) := by decide +kernel
theorem dX0_productPlus_28 : decode cX0_productPlus 28 = .ok (.invokestatic 22, 3) := by decide +kernel
theorem dX0_productPlus_31 : decode cX0_productPlus 31 = .ok (.ifCond .eq 34, 3) := by decide +kernel
theorem dX0_productPlus_34 : decode cX0_productPlus 34 = .ok (.aload_n 0, 1) := by decide +kernel
theorem dX0_productPlus_35 : decode cX0_productPlus 35 = .ok (.iload_n 1, 1) := by decide +kernel
theorem dX0_productPlus_36 : decode cX0_productPlus 36 = .ok (.invokestatic 26, 3) := by decide +kernel
theorem dX0_productPlus_39 : decode cX0_productPlus 39 = .ok (.ifCond .ne 17, 3) := by decide +kernel
theorem dX0_productPlus_42 : decode cX0_productPlus 42 = .ok (.iload_n 2, 1) := by decide +kernel
theorem dX0_productPlus_43 : decode cX0_productPlus 43 = .ok (.invokestatic 26, 3) := by decide +kernel
theorem dX0_productPlus_46 : decode cX0_productPlus 46 = .ok (.ifCond .ne 10, 3) := by decide +kernel
theorem dX0_productPlus_49 : decode cX0_productPlus 49 = .ok (.iload_n 3, 1) := by decide +kernel
theorem dX0_productPlus_50 : decode cX0_productPlus 50 = .ok (.invokestatic 26, 3) := by decide +kernel
theorem dX0_productPlus_53 : decode cX0_productPlus 53 = .ok (.ifCond .eq 7, 3) := by decide +kernel
theorem dX0_productPlus_56 : decode cX0_productPlus 56 = .ok (.iconst 1, 1) := by decide +kernel
theorem dX0_productPlus_57 : decode cX0_productPlus 57 = .ok (.goto 4, 3) := by decide +kernel
theorem dX0_productPlus_60 : decode cX0_productPlus 60 = .ok (.iconst 0, 1) := by decide +kernel
theorem dX0_productPlus_61 : decode cX0_productPlus 61 = .ok (.invokevirtual 29, 3) := by decide +kernel
theorem dX0_productPlus_64 : decode cX0_productPlus 64 = .ok (.ireturn, 1) := by decide +kernel
theorem dX0_productPlus_65 : decode cX0_productPlus 65 = .ok (.iload_n 1, 1) := by decide +kernel
theorem dX0_productPlus_66 : decode cX0_productPlus 66 = .ok (.iload_n 2, 1) := by decide +kernel
theorem dX0_productPlus_67 : decode cX0_productPlus 67 = .ok (.ixor, 1) := by decide +kernel
theorem dX0_productPlus_68 : decode cX0_productPlus 68 = .ok (.invokestatic 41, 3) := by decide +kernel
theorem dX0_productPlus_71 : decode cX0_productPlus 71 = .ok (.istore 4, 2) := by decide +kernel
theorem dX0_productPlus_73 : decode cX0_productPlus 73 = .ok (.iload_n 1, 1) := by decide +kernel
theorem dX0_productPlus_74 : decode cX0_productPlus 74 = .ok (.invokestatic 45, 3) := by decide +kernel
theorem dX0_productPlus_77 : decode cX0_productPlus 77 = .ok (.ifCond .ne 10, 3) := by decide +kernel
theorem dX0_productPlus_80 : decode cX0_productPlus 80 = .ok (.iload_n 2, 1) := by decide +kernel
theorem dX0_productPlus_81 : decode cX0_productPlus 81 = .ok (.invokestatic 45, 3) := by decide +kernel
theorem dX0_productPlus_84 : decode cX0_productPlus 84 = .ok (.ifCond .eq 44, 3) := by decide +kernel
theorem dX0_productPlus_87 : decode cX0_productPlus 87 = .ok (.iload_n 3, 1) := by decide +kernel
theorem dX0_productPlus_88 : decode cX0_productPlus 88 = .ok (.invokestatic 45, 3) := by decide +kernel
theorem dX0_productPlus_91 : decode cX0_productPlus 91 = .ok (.ifCond .eq 16, 3) := by decide +kernel
theorem dX0_productPlus_94 : decode cX0_productPlus 94 = .ok (.iload_n 3, 1) := by decide +kernel
theorem dX0_productPlus_95 : decode cX0_productPlus 95 = .ok (.invokestatic 41, 3) := by decide +kernel
theorem dX0_productPlus_98 : decode cX0_productPlus 98 = .ok (.iload 4, 2) := by decide +kernel
theorem dX0_productPlus_100 : decode cX0_productPlus 100 = .ok (.if_icmp .eq 7, 3) := by decide +kernel
theorem dX0_productPlus_103 : decode cX0_productPlus 103 = .ok (.iconst 1, 1) := by decide +kernel
theorem dX0_productPlus_104 : decode cX0_productPlus 104 = .ok (.goto 4, 3) := by decide +kernel
theorem dX0_productPlus_107 : decode cX0_productPlus 107 = .ok (.iconst 0, 1) := by decide +kernel
theorem dX0_productPlus_108 : decode cX0_productPlus 108 = .ok (.istore 5, 2) := by decide +kernel
theorem dX0_productPlus_110 : decode cX0_productPlus 110 = .ok (.iload 5, 2) := by decide +kernel
theorem dX0_productPlus_112 : decode cX0_productPlus 112 = .ok (.ifCond .eq 10, 3) := by decide +kernel
theorem dX0_productPlus_115 : decode cX0_productPlus 115 = .ok (.aload_n 0, 1) := by decide +kernel
theorem dX0_productPlus_116 : decode cX0_productPlus 116 = .ok (.invokevirtual 37, 3) := by decide +kernel
theorem dX0_productPlus_119 : decode cX0_productPlus 119 = .ok (.goto 8, 3) := by decide +kernel
theorem dX0_productPlus_122 : decode cX0_productPlus 122 = .ok (.iload 4, 2) := by decide +kernel
theorem dX0_productPlus_124 : decode cX0_productPlus 124 = .ok (.ldc 48, 2) := by decide +kernel
theorem dX0_productPlus_126 : decode cX0_productPlus 126 = .ok (.ior, 1) := by decide +kernel
theorem dX0_productPlus_127 : decode cX0_productPlus 127 = .ok (.ireturn, 1) := by decide +kernel
theorem dX0_productPlus_128 : decode cX0_productPlus 128 = .ok (.iload_n 3, 1) := by decide +kernel
theorem dX0_productPlus_129 : decode cX0_productPlus 129 = .ok (.invokestatic 45, 3) := by decide +kernel
theorem dX0_productPlus_132 : decode cX0_productPlus 132 = .ok (.ifCond .eq 5, 3) := by decide +kernel
theorem dX0_productPlus_135 : decode cX0_productPlus 135 = .ok (.iload_n 3, 1) := by decide +kernel
theorem dX0_productPlus_136 : decode cX0_productPlus 136 = .ok (.ireturn, 1) := by decide +kernel
theorem dX0_productPlus_137 : decode cX0_productPlus 137 = .ok (.aload_n 0, 1) := by decide +kernel
theorem dX0_productPlus_138 : decode cX0_productPlus 138 = .ok (.iload 4, 2) := by decide +kernel
theorem dX0_productPlus_140 : decode cX0_productPlus 140 = .ok (.iload_n 1, 1) := by decide +kernel
theorem dX0_productPlus_141 : decode cX0_productPlus 141 = .ok (.invokestatic 49, 3) := by decide +kernel
theorem dX0_productPlus_144 : decode cX0_productPlus 144 = .ok (.iload_n 2, 1) := by decide +kernel
theorem dX0_productPlus_145 : decode cX0_productPlus 145 = .ok (.invokestatic 49, 3) := by decide +kernel
theorem dX0_productPlus_148 : decode cX0_productPlus 148 = .ok (.lmul, 1) := by decide +kernel
theorem dX0_productPlus_149 : decode cX0_productPlus 149 = .ok (.iload_n 1, 1) := by decide +kernel
theorem dX0_productPlus_150 : decode cX0_productPlus 150 = .ok (.invokestatic 53, 3) := by decide +kernel
theorem dX0_productPlus_153 : decode cX0_productPlus 153 = .ok (.iload_n 2, 1) := by decide +kernel
theorem dX0_productPlus_154 : decode cX0_productPlus 154 = .ok (.invokestatic 53, 3) := by decide +kernel
theorem dX0_productPlus_157 : decode cX0_productPlus 157 = .ok (.iadd, 1) := by decide +kernel
theorem dX0_productPlus_158 : decode cX0_productPlus 158 = .ok (.iload_n 3, 1) := by decide +kernel
theorem dX0_productPlus_159 : decode cX0_productPlus 159 = .ok (.invokevirtual 126, 3) := by decide +kernel
theorem dX0_productPlus_162 : decode cX0_productPlus 162 = .ok (.ireturn, 1) := by decide +kernel
set_option maxRecDepth 20000 in
theorem ggX0_finiteSum_X0_isZero : GoodIn wsX0_finiteSum wsX0_isZero := goodIn_r _ [12, 13] (by decide +kernel) (by decide +kernel)
set_option maxRecDepth 20000 in
theorem gX0_finiteSum_X0_isZero : GoodIn wsX0_finiteSum (va_wsS RX0 60 yX0_isZero wsX0_isZero) := goodIn_app (goodIn_of _ (by decide +kernel)) ggX0_finiteSum_X0_isZero
set_option maxRecDepth 20000 in
theorem ggX0_finiteSum_X0_signOf : GoodIn wsX0_finiteSum wsX0_signOf := goodIn_r _ [16, 5] (by decide +kernel) (by decide +kernel)
set_option maxRecDepth 20000 in
theorem gX0_finiteSum_X0_signOf : GoodIn wsX0_finiteSum (va_wsS RX0 41 yX0_signOf wsX0_signOf) := goodIn_app (goodIn_of _ (by decide +kernel)) ggX0_finiteSum_X0_signOf
set_option maxRecDepth 20000 in
theorem ggX0_finiteSum_X0_zeroOfMode : GoodIn wsX0_finiteSum wsX0_zeroOfMode := goodIn_r _ [20, 21, 5, 91, 92] (by decide +kernel) (by decide +kernel)
set_option maxRecDepth 20000 in
theorem gX0_finiteSum_X0_zeroOfMode : GoodIn wsX0_finiteSum (wsV RX0 130 RX0 yX0_zeroOfMode wsX0_zeroOfMode) := goodIn_app (goodIn_of _ (by decide +kernel)) ggX0_finiteSum_X0_zeroOfMode
set_option maxRecDepth 20000 in
theorem ggX0_finiteSum_X0_rounded : GoodIn wsX0_finiteSum wsX0_rounded := goodIn_r _ [25, 1, 2, 3, 4, 26, 27, 28, 11, 29, 30, 31, 32, 33, 34, 35, 36, 37, 38, 39, 40, 41, 42, 43, 44, 45, 46, 47, 48, 49, 50, 51, 52, 53, 54, 55, 56, 57, 21, 58, 59, 60, 61, 62, 63, 64, 65, 66, 67, 68, 69, 70, 91, 92] (by decide +kernel) (by decide +kernel)
set_option maxRecDepth 20000 in
theorem gX0_finiteSum_X0_rounded : GoodIn wsX0_finiteSum (wsV RX0 56 RX0 yX0_rounded wsX0_rounded) := goodIn_app (goodIn_of _ (by decide +kernel)) ggX0_finiteSum_X0_rounded
set_option maxRecDepth 20000 in
theorem ggX0_finiteSum_X0_bitLength : GoodIn wsX0_finiteSum wsX0_bitLength := goodIn_r _ [29, 30, 31, 32, 33, 34, 35, 36, 37, 38] (by decide +kernel) (by decide +kernel)
set_option maxRecDepth 20000 in
theorem gX0_finiteSum_X0_bitLength : GoodIn wsX0_finiteSum (va_wsS RX0 67 yX0_bitLength wsX0_bitLength) := goodIn_app (goodIn_of _ (by decide +kernel)) ggX0_finiteSum_X0_bitLength
set_option maxRecDepth 20000 in
theorem ggX0_finiteSum_X0_unitOf : GoodIn wsX0_finiteSum wsX0_unitOf := goodIn_r _ [73, 1, 2, 3, 4, 74, 75, 11, 76, 13] (by decide +kernel) (by decide +kernel)
set_option maxRecDepth 20000 in
theorem gX0_finiteSum_X0_unitOf : GoodIn wsX0_finiteSum (va_wsS RX0 53 yX0_unitOf wsX0_unitOf) := goodIn_app (goodIn_of _ (by decide +kernel)) ggX0_finiteSum_X0_unitOf
set_option maxRecDepth 20000 in
theorem ggX0_finiteSum_X0_magnitudeOf : GoodIn wsX0_finiteSum wsX0_magnitudeOf := goodIn_r _ [79, 80, 81, 74, 75, 11, 76, 13] (by decide +kernel) (by decide +kernel)
set_option maxRecDepth 20000 in
theorem gX0_finiteSum_X0_magnitudeOf : GoodIn wsX0_finiteSum (va_wsS RX0 49 yX0_magnitudeOf wsX0_magnitudeOf) := goodIn_app (goodIn_of _ (by decide +kernel)) ggX0_finiteSum_X0_magnitudeOf
set_option maxRecDepth 20000 in
theorem ggX0_finiteSum_X0_aligned : GoodIn wsX0_finiteSum wsX0_aligned := goodIn_r _ [84, 51, 52, 11, 53, 39, 40, 41, 85, 86, 87] (by decide +kernel) (by decide +kernel)
set_option maxRecDepth 20000 in
theorem gX0_finiteSum_X0_aligned : GoodIn wsX0_finiteSum (va_wsS RX0 133 yX0_aligned wsX0_aligned) := goodIn_app (goodIn_of _ (by decide +kernel)) ggX0_finiteSum_X0_aligned
set_option maxRecDepth 20000 in
theorem ggX0_finiteSum_X0_isNegative : GoodIn wsX0_finiteSum wsX0_isNegative := goodIn_r _ [90] (by decide +kernel) (by decide +kernel)
set_option maxRecDepth 20000 in
theorem gX0_finiteSum_X0_isNegative : GoodIn wsX0_finiteSum (va_wsS RX0 75 yX0_isNegative wsX0_isNegative) := goodIn_app (goodIn_of _ (by decide +kernel)) ggX0_finiteSum_X0_isNegative
theorem dX0_finiteSum_0 : decode cX0_finiteSum 0 = .ok (.lload_n 2, 1) := by decide +kernel
theorem dX0_finiteSum_1 : decode cX0_finiteSum 1 = .ok (.lconst 0, 1) := by decide +kernel
theorem dX0_finiteSum_2 : decode cX0_finiteSum 2 = .ok (.lcmp, 1) := by decide +kernel
theorem dX0_finiteSum_3 : decode cX0_finiteSum 3 = .ok (.ifCond .ne 29, 3) := by decide +kernel
theorem dX0_finiteSum_6 : decode cX0_finiteSum 6 = .ok (.iload 5, 2) := by decide +kernel
theorem dX0_finiteSum_8 : decode cX0_finiteSum 8 = .ok (.invokestatic 60, 3) := by decide +kernel
theorem dX0_finiteSum_11 : decode cX0_finiteSum 11 = .ok (.ifCond .eq 21, 3) := by decide +kernel
theorem dX0_finiteSum_14 : decode cX0_finiteSum 14 = .ok (.iload_n 1, 1) := by decide +kernel
theorem dX0_finiteSum_15 : decode cX0_finiteSum 15 = .ok (.iload 5, 2) := by decide +kernel
theorem dX0_finiteSum_17 : decode cX0_finiteSum 17 = .ok (.invokestatic 41, 3) := by decide +kernel
theorem dX0_finiteSum_20 : decode cX0_finiteSum 20 = .ok (.if_icmp .ne 7, 3) := by decide +kernel
theorem dX0_finiteSum_23 : decode cX0_finiteSum 23 = .ok (.iload_n 1, 1) := by decide +kernel
theorem dX0_finiteSum_24 : decode cX0_finiteSum 24 = .ok (.goto 7, 3) := by decide +kernel
theorem dX0_finiteSum_27 : decode cX0_finiteSum 27 = .ok (.aload_n 0, 1) := by decide +kernel
theorem dX0_finiteSum_28 : decode cX0_finiteSum 28 = .ok (.invokevirtual 130, 3) := by decide +kernel
theorem dX0_finiteSum_31 : decode cX0_finiteSum 31 = .ok (.ireturn, 1) := by decide +kernel
theorem dX0_finiteSum_32 : decode cX0_finiteSum 32 = .ok (.lload_n 2, 1) := by decide +kernel
theorem dX0_finiteSum_33 : decode cX0_finiteSum 33 = .ok (.lconst 0, 1) := by decide +kernel
theorem dX0_finiteSum_34 : decode cX0_finiteSum 34 = .ok (.lcmp, 1) := by decide +kernel
theorem dX0_finiteSum_35 : decode cX0_finiteSum 35 = .ok (.ifCond .ne 6, 3) := by decide +kernel
theorem dX0_finiteSum_38 : decode cX0_finiteSum 38 = .ok (.iload 5, 2) := by decide +kernel
theorem dX0_finiteSum_40 : decode cX0_finiteSum 40 = .ok (.ireturn, 1) := by decide +kernel
theorem dX0_finiteSum_41 : decode cX0_finiteSum 41 = .ok (.iload 5, 2) := by decide +kernel
theorem dX0_finiteSum_43 : decode cX0_finiteSum 43 = .ok (.invokestatic 60, 3) := by decide +kernel
theorem dX0_finiteSum_46 : decode cX0_finiteSum 46 = .ok (.ifCond .eq 12, 3) := by decide +kernel
theorem dX0_finiteSum_49 : decode cX0_finiteSum 49 = .ok (.aload_n 0, 1) := by decide +kernel
theorem dX0_finiteSum_50 : decode cX0_finiteSum 50 = .ok (.iload_n 1, 1) := by decide +kernel
theorem dX0_finiteSum_51 : decode cX0_finiteSum 51 = .ok (.lload_n 2, 1) := by decide +kernel
theorem dX0_finiteSum_52 : decode cX0_finiteSum 52 = .ok (.iload 4, 2) := by decide +kernel
theorem dX0_finiteSum_54 : decode cX0_finiteSum 54 = .ok (.invokevirtual 56, 3) := by decide +kernel
theorem dX0_finiteSum_57 : decode cX0_finiteSum 57 = .ok (.ireturn, 1) := by decide +kernel
theorem dX0_finiteSum_58 : decode cX0_finiteSum 58 = .ok (.iload 4, 2) := by decide +kernel
theorem dX0_finiteSum_60 : decode cX0_finiteSum 60 = .ok (.lload_n 2, 1) := by decide +kernel
theorem dX0_finiteSum_61 : decode cX0_finiteSum 61 = .ok (.invokestatic 67, 3) := by decide +kernel
theorem dX0_finiteSum_64 : decode cX0_finiteSum 64 = .ok (.iadd, 1) := by decide +kernel
theorem dX0_finiteSum_65 : decode cX0_finiteSum 65 = .ok (.iload 5, 2) := by decide +kernel
theorem dX0_finiteSum_67 : decode cX0_finiteSum 67 = .ok (.invokestatic 53, 3) := by decide +kernel
theorem dX0_finiteSum_70 : decode cX0_finiteSum 70 = .ok (.iload 5, 2) := by decide +kernel
theorem dX0_finiteSum_72 : decode cX0_finiteSum 72 = .ok (.invokestatic 49, 3) := by decide +kernel
theorem dX0_finiteSum_75 : decode cX0_finiteSum 75 = .ok (.invokestatic 67, 3) := by decide +kernel
theorem dX0_finiteSum_78 : decode cX0_finiteSum 78 = .ok (.iadd, 1) := by decide +kernel
theorem dX0_finiteSum_79 : decode cX0_finiteSum 79 = .ok (.invokestatic 88, 3) := by decide +kernel
theorem dX0_finiteSum_82 : decode cX0_finiteSum 82 = .ok (.istore 6, 2) := by decide +kernel
theorem dX0_finiteSum_84 : decode cX0_finiteSum 84 = .ok (.iload 6, 2) := by decide +kernel
theorem dX0_finiteSum_86 : decode cX0_finiteSum 86 = .ok (.bipush 61, 2) := by decide +kernel
theorem dX0_finiteSum_88 : decode cX0_finiteSum 88 = .ok (.isub, 1) := by decide +kernel
theorem dX0_finiteSum_89 : decode cX0_finiteSum 89 = .ok (.istore 7, 2) := by decide +kernel
theorem dX0_finiteSum_91 : decode cX0_finiteSum 91 = .ok (.lload_n 2, 1) := by decide +kernel
theorem dX0_finiteSum_92 : decode cX0_finiteSum 92 = .ok (.iload 4, 2) := by decide +kernel
theorem dX0_finiteSum_94 : decode cX0_finiteSum 94 = .ok (.iload 7, 2) := by decide +kernel
theorem dX0_finiteSum_96 : decode cX0_finiteSum 96 = .ok (.isub, 1) := by decide +kernel
theorem dX0_finiteSum_97 : decode cX0_finiteSum 97 = .ok (.invokestatic 133, 3) := by decide +kernel
theorem dX0_finiteSum_100 : decode cX0_finiteSum 100 = .ok (.lstore 8, 2) := by decide +kernel
theorem dX0_finiteSum_102 : decode cX0_finiteSum 102 = .ok (.iload 5, 2) := by decide +kernel
theorem dX0_finiteSum_104 : decode cX0_finiteSum 104 = .ok (.invokestatic 49, 3) := by decide +kernel
theorem dX0_finiteSum_107 : decode cX0_finiteSum 107 = .ok (.iload 5, 2) := by decide +kernel
theorem dX0_finiteSum_109 : decode cX0_finiteSum 109 = .ok (.invokestatic 53, 3) := by decide +kernel
theorem dX0_finiteSum_112 : decode cX0_finiteSum 112 = .ok (.iload 7, 2) := by decide +kernel
theorem dX0_finiteSum_114 : decode cX0_finiteSum 114 = .ok (.isub, 1) := by decide +kernel
theorem dX0_finiteSum_115 : decode cX0_finiteSum 115 = .ok (.invokestatic 133, 3) := by decide +kernel
theorem dX0_finiteSum_118 : decode cX0_finiteSum 118 = .ok (.lstore 10, 2) := by decide +kernel
theorem dX0_finiteSum_120 : decode cX0_finiteSum 120 = .ok (.iload_n 1, 1) := by decide +kernel
theorem dX0_finiteSum_121 : decode cX0_finiteSum 121 = .ok (.ifCond .ne 8, 3) := by decide +kernel
theorem dX0_finiteSum_124 : decode cX0_finiteSum 124 = .ok (.lload 8, 2) := by decide +kernel
theorem dX0_finiteSum_126 : decode cX0_finiteSum 126 = .ok (.goto 6, 3) := by decide +kernel
theorem dX0_finiteSum_129 : decode cX0_finiteSum 129 = .ok (.lload 8, 2) := by decide +kernel
theorem dX0_finiteSum_131 : decode cX0_finiteSum 131 = .ok (.lneg, 1) := by decide +kernel
theorem dX0_finiteSum_132 : decode cX0_finiteSum 132 = .ok (.iload 5, 2) := by decide +kernel
theorem dX0_finiteSum_134 : decode cX0_finiteSum 134 = .ok (.invokestatic 75, 3) := by decide +kernel
theorem dX0_finiteSum_137 : decode cX0_finiteSum 137 = .ok (.ifCond .eq 9, 3) := by decide +kernel
theorem dX0_finiteSum_140 : decode cX0_finiteSum 140 = .ok (.lload 10, 2) := by decide +kernel
theorem dX0_finiteSum_142 : decode cX0_finiteSum 142 = .ok (.lneg, 1) := by decide +kernel
theorem dX0_finiteSum_143 : decode cX0_finiteSum 143 = .ok (.goto 5, 3) := by decide +kernel
theorem dX0_finiteSum_146 : decode cX0_finiteSum 146 = .ok (.lload 10, 2) := by decide +kernel
theorem dX0_finiteSum_148 : decode cX0_finiteSum 148 = .ok (.ladd, 1) := by decide +kernel
theorem dX0_finiteSum_149 : decode cX0_finiteSum 149 = .ok (.lstore 12, 2) := by decide +kernel
theorem dX0_finiteSum_151 : decode cX0_finiteSum 151 = .ok (.lload 12, 2) := by decide +kernel
theorem dX0_finiteSum_153 : decode cX0_finiteSum 153 = .ok (.lconst 0, 1) := by decide +kernel
theorem dX0_finiteSum_154 : decode cX0_finiteSum 154 = .ok (.lcmp, 1) := by decide +kernel
theorem dX0_finiteSum_155 : decode cX0_finiteSum 155 = .ok (.ifCond .ne 8, 3) := by decide +kernel
theorem dX0_finiteSum_158 : decode cX0_finiteSum 158 = .ok (.aload_n 0, 1) := by decide +kernel
theorem dX0_finiteSum_159 : decode cX0_finiteSum 159 = .ok (.invokevirtual 130, 3) := by decide +kernel
theorem dX0_finiteSum_162 : decode cX0_finiteSum 162 = .ok (.ireturn, 1) := by decide +kernel
theorem dX0_finiteSum_163 : decode cX0_finiteSum 163 = .ok (.aload_n 0, 1) := by decide +kernel
theorem dX0_finiteSum_164 : decode cX0_finiteSum 164 = .ok (.lload 12, 2) := by decide +kernel
theorem dX0_finiteSum_166 : decode cX0_finiteSum 166 = .ok (.lconst 0, 1) := by decide +kernel
theorem dX0_finiteSum_167 : decode cX0_finiteSum 167 = .ok (.lcmp, 1) := by decide +kernel
theorem dX0_finiteSum_168 : decode cX0_finiteSum 168 = .ok (.ifCond .ge 8, 3) := by decide +kernel
theorem dX0_finiteSum_171 : decode cX0_finiteSum 171 = .ok (.ldc 21, 2) := by decide +kernel
theorem dX0_finiteSum_173 : decode cX0_finiteSum 173 = .ok (.goto 4, 3) := by decide +kernel
theorem dX0_finiteSum_176 : decode cX0_finiteSum 176 = .ok (.iconst 0, 1) := by decide +kernel
theorem dX0_finiteSum_177 : decode cX0_finiteSum 177 = .ok (.lload 12, 2) := by decide +kernel
theorem dX0_finiteSum_179 : decode cX0_finiteSum 179 = .ok (.invokestatic 109, 3) := by decide +kernel
theorem dX0_finiteSum_182 : decode cX0_finiteSum 182 = .ok (.iload 7, 2) := by decide +kernel
theorem dX0_finiteSum_184 : decode cX0_finiteSum 184 = .ok (.invokevirtual 56, 3) := by decide +kernel
theorem dX0_finiteSum_187 : decode cX0_finiteSum 187 = .ok (.ireturn, 1) := by decide +kernel
theorem dX0_zeroOfMode_0 : decode cX0_zeroOfMode 0 = .ok (.aload_n 0, 1) := by decide +kernel
theorem dX0_zeroOfMode_1 : decode cX0_zeroOfMode 1 = .ok (.getfield 9, 3) := by decide +kernel
theorem dX0_zeroOfMode_4 : decode cX0_zeroOfMode 4 = .ok (.iconst 3, 1) := by decide +kernel
theorem dX0_zeroOfMode_5 : decode cX0_zeroOfMode 5 = .ok (.if_icmp .ne 8, 3) := by decide +kernel
theorem dX0_zeroOfMode_8 : decode cX0_zeroOfMode 8 = .ok (.ldc 21, 2) := by decide +kernel
theorem dX0_zeroOfMode_10 : decode cX0_zeroOfMode 10 = .ok (.goto 4, 3) := by decide +kernel
theorem dX0_zeroOfMode_13 : decode cX0_zeroOfMode 13 = .ok (.iconst 0, 1) := by decide +kernel
theorem dX0_zeroOfMode_14 : decode cX0_zeroOfMode 14 = .ok (.ireturn, 1) := by decide +kernel
set_option maxRecDepth 20000 in
theorem ggX0_aligned_X0_shiftedRight : GoodIn wsX0_aligned wsX0_shiftedRight := goodIn_r _ [4] (by decide +kernel) (by decide +kernel)
set_option maxRecDepth 20000 in
theorem gX0_aligned_X0_shiftedRight : GoodIn wsX0_aligned (va_wsS RX0 137 yX0_shiftedRight wsX0_shiftedRight) := goodIn_app (goodIn_of _ (by decide +kernel)) ggX0_aligned_X0_shiftedRight
set_option maxRecDepth 20000 in
theorem ggX0_aligned_X0_isMultiple : GoodIn wsX0_aligned wsX0_isMultiple := goodIn_r _ [7] (by decide +kernel) (by decide +kernel)
set_option maxRecDepth 20000 in
theorem gX0_aligned_X0_isMultiple : GoodIn wsX0_aligned (va_wsS RX0 91 yX0_isMultiple wsX0_isMultiple) := goodIn_app (goodIn_of _ (by decide +kernel)) ggX0_aligned_X0_isMultiple
set_option maxRecDepth 20000 in
theorem ggX0_aligned_X0_withTrace : GoodIn wsX0_aligned wsX0_withTrace := goodIn_r _ [10] (by decide +kernel) (by decide +kernel)
set_option maxRecDepth 20000 in
theorem gX0_aligned_X0_withTrace : GoodIn wsX0_aligned (va_wsS RX0 71 yX0_withTrace wsX0_withTrace) := goodIn_app (goodIn_of _ (by decide +kernel)) ggX0_aligned_X0_withTrace
theorem dX0_aligned_0 : decode cX0_aligned 0 = .ok (.iload_n 2, 1) := by decide +kernel
theorem dX0_aligned_1 : decode cX0_aligned 1 = .ok (.ifCond .lt 7, 3) := by decide +kernel
theorem dX0_aligned_4 : decode cX0_aligned 4 = .ok (.lload_n 0, 1) := by decide +kernel
theorem dX0_aligned_5 : decode cX0_aligned 5 = .ok (.iload_n 2, 1) := by decide +kernel
theorem dX0_aligned_6 : decode cX0_aligned 6 = .ok (.lshl, 1) := by decide +kernel
theorem dX0_aligned_7 : decode cX0_aligned 7 = .ok (.lreturn, 1) := by decide +kernel
theorem dX0_aligned_8 : decode cX0_aligned 8 = .ok (.lload_n 0, 1) := by decide +kernel
theorem dX0_aligned_9 : decode cX0_aligned 9 = .ok (.iload_n 2, 1) := by decide +kernel
theorem dX0_aligned_10 : decode cX0_aligned 10 = .ok (.ineg, 1) := by decide +kernel
theorem dX0_aligned_11 : decode cX0_aligned 11 = .ok (.invokestatic 137, 3) := by decide +kernel
theorem dX0_aligned_14 : decode cX0_aligned 14 = .ok (.lload_n 0, 1) := by decide +kernel
theorem dX0_aligned_15 : decode cX0_aligned 15 = .ok (.iload_n 2, 1) := by decide +kernel
theorem dX0_aligned_16 : decode cX0_aligned 16 = .ok (.ineg, 1) := by decide +kernel
theorem dX0_aligned_17 : decode cX0_aligned 17 = .ok (.invokestatic 91, 3) := by decide +kernel
theorem dX0_aligned_20 : decode cX0_aligned 20 = .ok (.ifCond .ne 7, 3) := by decide +kernel
theorem dX0_aligned_23 : decode cX0_aligned 23 = .ok (.iconst 1, 1) := by decide +kernel
theorem dX0_aligned_24 : decode cX0_aligned 24 = .ok (.goto 4, 3) := by decide +kernel
theorem dX0_aligned_27 : decode cX0_aligned 27 = .ok (.iconst 0, 1) := by decide +kernel
theorem dX0_aligned_28 : decode cX0_aligned 28 = .ok (.invokestatic 71, 3) := by decide +kernel
theorem dX0_aligned_31 : decode cX0_aligned 31 = .ok (.lreturn, 1) := by decide +kernel
set_option maxRecDepth 20000 in
theorem ggX0_rounded_X0_bitLength : GoodIn wsX0_rounded wsX0_bitLength := goodIn_r _ [9, 10, 11, 12, 13, 14, 15, 16, 17, 18] (by decide +kernel) (by decide +kernel)
set_option maxRecDepth 20000 in
theorem gX0_rounded_X0_bitLength : GoodIn wsX0_rounded (va_wsS RX0 67 yX0_bitLength wsX0_bitLength) := goodIn_app (goodIn_of _ (by decide +kernel)) ggX0_rounded_X0_bitLength
set_option maxRecDepth 20000 in
theorem ggX0_rounded_X0_isMultiple : GoodIn wsX0_rounded wsX0_isMultiple := goodIn_r _ [21] (by decide +kernel) (by decide +kernel)
set_option maxRecDepth 20000 in
theorem gX0_rounded_X0_isMultiple : GoodIn wsX0_rounded (va_wsS RX0 91 yX0_isMultiple wsX0_isMultiple) := goodIn_app (goodIn_of _ (by decide +kernel)) ggX0_rounded_X0_isMultiple
set_option maxRecDepth 20000 in
theorem ggX0_rounded_X0_raise : GoodIn wsX0_rounded wsX0_raise := goodIn_r _ [25, 26, 52, 53] (by decide +kernel) (by decide +kernel)
set_option maxRecDepth 20000 in
theorem gX0_rounded_X0_raise : GoodIn wsX0_rounded (wsV RX0 63 RX0 yX0_raise wsX0_raise) := goodIn_app (goodIn_of _ (by decide +kernel)) ggX0_rounded_X0_raise
set_option maxRecDepth 20000 in
theorem ggX0_rounded_X0_multiple : GoodIn wsX0_rounded wsX0_multiple := goodIn_r _ [30, 31, 32, 8, 33, 34, 35, 36, 37, 38, 19, 20, 21, 39, 40, 41, 42, 52, 53] (by decide +kernel) (by decide +kernel)
set_option maxRecDepth 20000 in
theorem gX0_rounded_X0_multiple : GoodIn wsX0_rounded (wsV RX0 95 RX0 yX0_multiple wsX0_multiple) := goodIn_app (goodIn_of _ (by decide +kernel)) ggX0_rounded_X0_multiple
set_option maxRecDepth 20000 in
theorem ggX0_rounded_X0_isTiny : GoodIn wsX0_rounded wsX0_isTiny := goodIn_r _ [45, 6, 7, 8, 9, 10, 11, 12, 13, 14, 15, 16, 17, 18] (by decide +kernel) (by decide +kernel)
set_option maxRecDepth 20000 in
theorem gX0_rounded_X0_isTiny : GoodIn wsX0_rounded (va_wsS RX0 140 yX0_isTiny wsX0_isTiny) := goodIn_app (goodIn_of _ (by decide +kernel)) ggX0_rounded_X0_isTiny
set_option maxRecDepth 20000 in
theorem ggX0_rounded_X0_overflowed : GoodIn wsX0_rounded wsX0_overflowed := goodIn_r _ [49, 38, 50, 51, 22, 23, 24, 8, 25, 26, 39, 40, 41, 42, 52, 53] (by decide +kernel) (by decide +kernel)
set_option maxRecDepth 20000 in
theorem gX0_rounded_X0_overflowed : GoodIn wsX0_rounded (wsV RX0 145 RX0 yX0_overflowed wsX0_overflowed) := goodIn_app (goodIn_of _ (by decide +kernel)) ggX0_rounded_X0_overflowed
theorem dX0_rounded_0 : decode cX0_rounded 0 = .ok (.lload_n 2, 1) := by decide +kernel
theorem dX0_rounded_1 : decode cX0_rounded 1 = .ok (.lconst 0, 1) := by decide +kernel
theorem dX0_rounded_2 : decode cX0_rounded 2 = .ok (.lcmp, 1) := by decide +kernel
theorem dX0_rounded_3 : decode cX0_rounded 3 = .ok (.ifCond .ne 5, 3) := by decide +kernel
theorem dX0_rounded_6 : decode cX0_rounded 6 = .ok (.iload_n 1, 1) := by decide +kernel
theorem dX0_rounded_7 : decode cX0_rounded 7 = .ok (.ireturn, 1) := by decide +kernel
theorem dX0_rounded_8 : decode cX0_rounded 8 = .ok (.iload 4, 2) := by decide +kernel
theorem dX0_rounded_10 : decode cX0_rounded 10 = .ok (.lload_n 2, 1) := by decide +kernel
theorem dX0_rounded_11 : decode cX0_rounded 11 = .ok (.invokestatic 67, 3) := by decide +kernel
theorem dX0_rounded_14 : decode cX0_rounded 14 = .ok (.iadd, 1) := by decide +kernel
theorem dX0_rounded_15 : decode cX0_rounded 15 = .ok (.bipush 24, 2) := by decide +kernel
theorem dX0_rounded_17 : decode cX0_rounded 17 = .ok (.isub, 1) := by decide +kernel
theorem dX0_rounded_18 : decode cX0_rounded 18 = .ok (.istore 5, 2) := by decide +kernel
theorem dX0_rounded_20 : decode cX0_rounded 20 = .ok (.iload 5, 2) := by decide +kernel
theorem dX0_rounded_22 : decode cX0_rounded 22 = .ok (.sipush (-149), 3) := by decide +kernel
theorem dX0_rounded_25 : decode cX0_rounded 25 = .ok (.invokestatic 88, 3) := by decide +kernel
theorem dX0_rounded_28 : decode cX0_rounded 28 = .ok (.istore 6, 2) := by decide +kernel
theorem dX0_rounded_30 : decode cX0_rounded 30 = .ok (.lload_n 2, 1) := by decide +kernel
theorem dX0_rounded_31 : decode cX0_rounded 31 = .ok (.iload 6, 2) := by decide +kernel
theorem dX0_rounded_33 : decode cX0_rounded 33 = .ok (.iload 4, 2) := by decide +kernel
theorem dX0_rounded_35 : decode cX0_rounded 35 = .ok (.isub, 1) := by decide +kernel
theorem dX0_rounded_36 : decode cX0_rounded 36 = .ok (.invokestatic 91, 3) := by decide +kernel
theorem dX0_rounded_39 : decode cX0_rounded 39 = .ok (.ifCond .ne 32, 3) := by decide +kernel
theorem dX0_rounded_42 : decode cX0_rounded 42 = .ok (.aload_n 0, 1) := by decide +kernel
theorem dX0_rounded_43 : decode cX0_rounded 43 = .ok (.iconst 1, 1) := by decide +kernel
theorem dX0_rounded_44 : decode cX0_rounded 44 = .ok (.invokevirtual 63, 3) := by decide +kernel
theorem dX0_rounded_47 : decode cX0_rounded 47 = .ok (.aload_n 0, 1) := by decide +kernel
theorem dX0_rounded_48 : decode cX0_rounded 48 = .ok (.iload_n 1, 1) := by decide +kernel
theorem dX0_rounded_49 : decode cX0_rounded 49 = .ok (.lload_n 2, 1) := by decide +kernel
theorem dX0_rounded_50 : decode cX0_rounded 50 = .ok (.iload 5, 2) := by decide +kernel
theorem dX0_rounded_52 : decode cX0_rounded 52 = .ok (.iload 4, 2) := by decide +kernel
theorem dX0_rounded_54 : decode cX0_rounded 54 = .ok (.isub, 1) := by decide +kernel
theorem dX0_rounded_55 : decode cX0_rounded 55 = .ok (.invokevirtual 95, 3) := by decide +kernel
theorem dX0_rounded_58 : decode cX0_rounded 58 = .ok (.iload 5, 2) := by decide +kernel
theorem dX0_rounded_60 : decode cX0_rounded 60 = .ok (.invokestatic 140, 3) := by decide +kernel
theorem dX0_rounded_63 : decode cX0_rounded 63 = .ok (.ifCond .eq 8, 3) := by decide +kernel
theorem dX0_rounded_66 : decode cX0_rounded 66 = .ok (.aload_n 0, 1) := by decide +kernel
theorem dX0_rounded_67 : decode cX0_rounded 67 = .ok (.iconst 2, 1) := by decide +kernel
theorem dX0_rounded_68 : decode cX0_rounded 68 = .ok (.invokevirtual 63, 3) := by decide +kernel
theorem dX0_rounded_71 : decode cX0_rounded 71 = .ok (.iload 6, 2) := by decide +kernel
theorem dX0_rounded_73 : decode cX0_rounded 73 = .ok (.sipush (-149), 3) := by decide +kernel
theorem dX0_rounded_76 : decode cX0_rounded 76 = .ok (.isub, 1) := by decide +kernel
theorem dX0_rounded_77 : decode cX0_rounded 77 = .ok (.i2l, 1) := by decide +kernel
theorem dX0_rounded_78 : decode cX0_rounded 78 = .ok (.lstore 7, 2) := by decide +kernel
theorem dX0_rounded_80 : decode cX0_rounded 80 = .ok (.lload 7, 2) := by decide +kernel
theorem dX0_rounded_82 : decode cX0_rounded 82 = .ok (.bipush 23, 2) := by decide +kernel
theorem dX0_rounded_84 : decode cX0_rounded 84 = .ok (.lshl, 1) := by decide +kernel
theorem dX0_rounded_85 : decode cX0_rounded 85 = .ok (.aload_n 0, 1) := by decide +kernel
theorem dX0_rounded_86 : decode cX0_rounded 86 = .ok (.iload_n 1, 1) := by decide +kernel
theorem dX0_rounded_87 : decode cX0_rounded 87 = .ok (.lload_n 2, 1) := by decide +kernel
theorem dX0_rounded_88 : decode cX0_rounded 88 = .ok (.iload 6, 2) := by decide +kernel
theorem dX0_rounded_90 : decode cX0_rounded 90 = .ok (.iload 4, 2) := by decide +kernel
theorem dX0_rounded_92 : decode cX0_rounded 92 = .ok (.isub, 1) := by decide +kernel
theorem dX0_rounded_93 : decode cX0_rounded 93 = .ok (.invokevirtual 95, 3) := by decide +kernel
theorem dX0_rounded_96 : decode cX0_rounded 96 = .ok (.ladd, 1) := by decide +kernel
theorem dX0_rounded_97 : decode cX0_rounded 97 = .ok (.lstore 9, 2) := by decide +kernel
theorem dX0_rounded_99 : decode cX0_rounded 99 = .ok (.lload 9, 2) := by decide +kernel
theorem dX0_rounded_101 : decode cX0_rounded 101 = .ok (.ldc2_w 143, 3) := by decide +kernel
theorem dX0_rounded_104 : decode cX0_rounded 104 = .ok (.lcmp, 1) := by decide +kernel
theorem dX0_rounded_105 : decode cX0_rounded 105 = .ok (.ifCond .ge 11, 3) := by decide +kernel
theorem dX0_rounded_108 : decode cX0_rounded 108 = .ok (.iload_n 1, 1) := by decide +kernel
theorem dX0_rounded_109 : decode cX0_rounded 109 = .ok (.lload 9, 2) := by decide +kernel
theorem dX0_rounded_111 : decode cX0_rounded 111 = .ok (.l2i, 1) := by decide +kernel
theorem dX0_rounded_112 : decode cX0_rounded 112 = .ok (.ior, 1) := by decide +kernel
theorem dX0_rounded_113 : decode cX0_rounded 113 = .ok (.goto 8, 3) := by decide +kernel
theorem dX0_rounded_116 : decode cX0_rounded 116 = .ok (.aload_n 0, 1) := by decide +kernel
theorem dX0_rounded_117 : decode cX0_rounded 117 = .ok (.iload_n 1, 1) := by decide +kernel
theorem dX0_rounded_118 : decode cX0_rounded 118 = .ok (.invokevirtual 145, 3) := by decide +kernel
theorem dX0_rounded_121 : decode cX0_rounded 121 = .ok (.ireturn, 1) := by decide +kernel
set_option maxRecDepth 20000 in
theorem ggX0_isTiny_X0_bitLength : GoodIn wsX0_isTiny wsX0_bitLength := goodIn_r _ [4, 5, 6, 7, 8, 9, 10, 11, 12, 13] (by decide +kernel) (by decide +kernel)
set_option maxRecDepth 20000 in
theorem gX0_isTiny_X0_bitLength : GoodIn wsX0_isTiny (va_wsS RX0 67 yX0_bitLength wsX0_bitLength) := goodIn_app (goodIn_of _ (by decide +kernel)) ggX0_isTiny_X0_bitLength
theorem dX0_isTiny_0 : decode cX0_isTiny 0 = .ok (.iload_n 2, 1) := by decide +kernel
theorem dX0_isTiny_1 : decode cX0_isTiny 1 = .ok (.lload_n 0, 1) := by decide +kernel
theorem dX0_isTiny_2 : decode cX0_isTiny 2 = .ok (.invokestatic 67, 3) := by decide +kernel
theorem dX0_isTiny_5 : decode cX0_isTiny 5 = .ok (.iadd, 1) := by decide +kernel
theorem dX0_isTiny_6 : decode cX0_isTiny 6 = .ok (.bipush (-125), 2) := by decide +kernel
theorem dX0_isTiny_8 : decode cX0_isTiny 8 = .ok (.if_icmp .ge 7, 3) := by decide +kernel
theorem dX0_isTiny_11 : decode cX0_isTiny 11 = .ok (.iconst 1, 1) := by decide +kernel
theorem dX0_isTiny_12 : decode cX0_isTiny 12 = .ok (.goto 4, 3) := by decide +kernel
theorem dX0_isTiny_15 : decode cX0_isTiny 15 = .ok (.iconst 0, 1) := by decide +kernel
theorem dX0_isTiny_16 : decode cX0_isTiny 16 = .ok (.ireturn, 1) := by decide +kernel
set_option maxRecDepth 20000 in
theorem ggX0_overflowed_X0_raise : GoodIn wsX0_overflowed wsX0_raise := goodIn_r _ [8, 9, 14, 15] (by decide +kernel) (by decide +kernel)
set_option maxRecDepth 20000 in
theorem gX0_overflowed_X0_raise : GoodIn wsX0_overflowed (wsV RX0 63 RX0 yX0_raise wsX0_raise) := goodIn_app (goodIn_of _ (by decide +kernel)) ggX0_overflowed_X0_raise
set_option maxRecDepth 20000 in
theorem ggX0_overflowed_X0_isAwayFromZero : GoodIn wsX0_overflowed wsX0_isAwayFromZero := goodIn_r _ [13, 1, 14, 15] (by decide +kernel) (by decide +kernel)
set_option maxRecDepth 20000 in
theorem gX0_overflowed_X0_isAwayFromZero : GoodIn wsX0_overflowed (wsV RX0 148 RX0 yX0_isAwayFromZero wsX0_isAwayFromZero) := goodIn_app (goodIn_of _ (by decide +kernel)) ggX0_overflowed_X0_isAwayFromZero
theorem dX0_overflowed_0 : decode cX0_overflowed 0 = .ok (.aload_n 0, 1) := by decide +kernel
theorem dX0_overflowed_1 : decode cX0_overflowed 1 = .ok (.iconst 5, 1) := by decide +kernel
theorem dX0_overflowed_2 : decode cX0_overflowed 2 = .ok (.invokevirtual 63, 3) := by decide +kernel
theorem dX0_overflowed_5 : decode cX0_overflowed 5 = .ok (.aload_n 0, 1) := by decide +kernel
theorem dX0_overflowed_6 : decode cX0_overflowed 6 = .ok (.getfield 9, 3) := by decide +kernel
theorem dX0_overflowed_9 : decode cX0_overflowed 9 = .ok (.ifCond .eq 11, 3) := by decide +kernel
theorem dX0_overflowed_12 : decode cX0_overflowed 12 = .ok (.aload_n 0, 1) := by decide +kernel
theorem dX0_overflowed_13 : decode cX0_overflowed 13 = .ok (.iload_n 1, 1) := by decide +kernel
theorem dX0_overflowed_14 : decode cX0_overflowed 14 = .ok (.invokevirtual 148, 3) := by decide +kernel
theorem dX0_overflowed_17 : decode cX0_overflowed 17 = .ok (.ifCond .eq 7, 3) := by decide +kernel
theorem dX0_overflowed_20 : decode cX0_overflowed 20 = .ok (.iconst 1, 1) := by decide +kernel
theorem dX0_overflowed_21 : decode cX0_overflowed 21 = .ok (.goto 4, 3) := by decide +kernel
theorem dX0_overflowed_24 : decode cX0_overflowed 24 = .ok (.iconst 0, 1) := by decide +kernel
theorem dX0_overflowed_25 : decode cX0_overflowed 25 = .ok (.istore_n 2, 1) := by decide +kernel
theorem dX0_overflowed_26 : decode cX0_overflowed 26 = .ok (.iload_n 1, 1) := by decide +kernel
theorem dX0_overflowed_27 : decode cX0_overflowed 27 = .ok (.iload_n 2, 1) := by decide +kernel
theorem dX0_overflowed_28 : decode cX0_overflowed 28 = .ok (.ifCond .eq 8, 3) := by decide +kernel
theorem dX0_overflowed_31 : decode cX0_overflowed 31 = .ok (.ldc 48, 2) := by decide +kernel
theorem dX0_overflowed_33 : decode cX0_overflowed 33 = .ok (.goto 5, 3) := by decide +kernel
theorem dX0_overflowed_36 : decode cX0_overflowed 36 = .ok (.ldc 151, 2) := by decide +kernel
theorem dX0_overflowed_38 : decode cX0_overflowed 38 = .ok (.ior, 1) := by decide +kernel
theorem dX0_overflowed_39 : decode cX0_overflowed 39 = .ok (.ireturn, 1) := by decide +kernel
theorem dX0_isAwayFromZero_0 : decode cX0_isAwayFromZero 0 = .ok (.iload_n 1, 1) := by decide +kernel
theorem dX0_isAwayFromZero_1 : decode cX0_isAwayFromZero 1 = .ok (.ifCond .ne 19, 3) := by decide +kernel
theorem dX0_isAwayFromZero_4 : decode cX0_isAwayFromZero 4 = .ok (.aload_n 0, 1) := by decide +kernel
theorem dX0_isAwayFromZero_5 : decode cX0_isAwayFromZero 5 = .ok (.getfield 9, 3) := by decide +kernel
theorem dX0_isAwayFromZero_8 : decode cX0_isAwayFromZero 8 = .ok (.iconst 2, 1) := by decide +kernel
theorem dX0_isAwayFromZero_9 : decode cX0_isAwayFromZero 9 = .ok (.if_icmp .ne 7, 3) := by decide +kernel
theorem dX0_isAwayFromZero_12 : decode cX0_isAwayFromZero 12 = .ok (.iconst 1, 1) := by decide +kernel
theorem dX0_isAwayFromZero_13 : decode cX0_isAwayFromZero 13 = .ok (.goto 20, 3) := by decide +kernel
theorem dX0_isAwayFromZero_16 : decode cX0_isAwayFromZero 16 = .ok (.iconst 0, 1) := by decide +kernel
theorem dX0_isAwayFromZero_17 : decode cX0_isAwayFromZero 17 = .ok (.goto 16, 3) := by decide +kernel
theorem dX0_isAwayFromZero_20 : decode cX0_isAwayFromZero 20 = .ok (.aload_n 0, 1) := by decide +kernel
theorem dX0_isAwayFromZero_21 : decode cX0_isAwayFromZero 21 = .ok (.getfield 9, 3) := by decide +kernel
theorem dX0_isAwayFromZero_24 : decode cX0_isAwayFromZero 24 = .ok (.iconst 3, 1) := by decide +kernel
theorem dX0_isAwayFromZero_25 : decode cX0_isAwayFromZero 25 = .ok (.if_icmp .ne 7, 3) := by decide +kernel
theorem dX0_isAwayFromZero_28 : decode cX0_isAwayFromZero 28 = .ok (.iconst 1, 1) := by decide +kernel
theorem dX0_isAwayFromZero_29 : decode cX0_isAwayFromZero 29 = .ok (.goto 4, 3) := by decide +kernel
theorem dX0_isAwayFromZero_32 : decode cX0_isAwayFromZero 32 = .ok (.iconst 0, 1) := by decide +kernel
theorem dX0_isAwayFromZero_33 : decode cX0_isAwayFromZero 33 = .ok (.ireturn, 1) := by decide +kernel
set_option maxRecDepth 20000 in
theorem ggX0_multiple_X0_shiftedRight : GoodIn wsX0_multiple wsX0_shiftedRight := goodIn_r _ [4] (by decide +kernel) (by decide +kernel)
set_option maxRecDepth 20000 in
theorem gX0_multiple_X0_shiftedRight : GoodIn wsX0_multiple (va_wsS RX0 137 yX0_shiftedRight wsX0_shiftedRight) := goodIn_app (goodIn_of _ (by decide +kernel)) ggX0_multiple_X0_shiftedRight
set_option maxRecDepth 20000 in
theorem ggX0_multiple_X0_isStepDue : GoodIn wsX0_multiple wsX0_isStepDue := goodIn_r _ [8, 9, 10, 11, 3, 12, 13, 14, 15, 16, 1, 2, 4, 17, 18] (by decide +kernel) (by decide +kernel)
set_option maxRecDepth 20000 in
theorem gX0_multiple_X0_isStepDue : GoodIn wsX0_multiple (wsV RX0 152 RX0 yX0_isStepDue wsX0_isStepDue) := goodIn_app (goodIn_of _ (by decide +kernel)) ggX0_multiple_X0_isStepDue
theorem dX0_multiple_0 : decode cX0_multiple 0 = .ok (.iload 4, 2) := by decide +kernel
theorem dX0_multiple_2 : decode cX0_multiple 2 = .ok (.ifCond .gt 9, 3) := by decide +kernel
theorem dX0_multiple_5 : decode cX0_multiple 5 = .ok (.lload_n 2, 1) := by decide +kernel
theorem dX0_multiple_6 : decode cX0_multiple 6 = .ok (.iload 4, 2) := by decide +kernel
theorem dX0_multiple_8 : decode cX0_multiple 8 = .ok (.ineg, 1) := by decide +kernel
theorem dX0_multiple_9 : decode cX0_multiple 9 = .ok (.lshl, 1) := by decide +kernel
theorem dX0_multiple_10 : decode cX0_multiple 10 = .ok (.lreturn, 1) := by decide +kernel
theorem dX0_multiple_11 : decode cX0_multiple 11 = .ok (.lload_n 2, 1) := by decide +kernel
theorem dX0_multiple_12 : decode cX0_multiple 12 = .ok (.iload 4, 2) := by decide +kernel
theorem dX0_multiple_14 : decode cX0_multiple 14 = .ok (.invokestatic 137, 3) := by decide +kernel
theorem dX0_multiple_17 : decode cX0_multiple 17 = .ok (.lstore 5, 2) := by decide +kernel
theorem dX0_multiple_19 : decode cX0_multiple 19 = .ok (.aload_n 0, 1) := by decide +kernel
theorem dX0_multiple_20 : decode cX0_multiple 20 = .ok (.iload_n 1, 1) := by decide +kernel
theorem dX0_multiple_21 : decode cX0_multiple 21 = .ok (.lload_n 2, 1) := by decide +kernel
theorem dX0_multiple_22 : decode cX0_multiple 22 = .ok (.iload 4, 2) := by decide +kernel
theorem dX0_multiple_24 : decode cX0_multiple 24 = .ok (.invokevirtual 152, 3) := by decide +kernel
theorem dX0_multiple_27 : decode cX0_multiple 27 = .ok (.ifCond .eq 10, 3) := by decide +kernel
theorem dX0_multiple_30 : decode cX0_multiple 30 = .ok (.lload 5, 2) := by decide +kernel
theorem dX0_multiple_32 : decode cX0_multiple 32 = .ok (.lconst 1, 1) := by decide +kernel
theorem dX0_multiple_33 : decode cX0_multiple 33 = .ok (.ladd, 1) := by decide +kernel
theorem dX0_multiple_34 : decode cX0_multiple 34 = .ok (.goto 5, 3) := by decide +kernel
theorem dX0_multiple_37 : decode cX0_multiple 37 = .ok (.lload 5, 2) := by decide +kernel
theorem dX0_multiple_39 : decode cX0_multiple 39 = .ok (.lreturn, 1) := by decide +kernel
set_option maxRecDepth 20000 in
theorem ggX0_isStepDue_X0_isMultiple : GoodIn wsX0_isStepDue wsX0_isMultiple := goodIn_r _ [5] (by decide +kernel) (by decide +kernel)
set_option maxRecDepth 20000 in
theorem gX0_isStepDue_X0_isMultiple : GoodIn wsX0_isStepDue (va_wsS RX0 91 yX0_isMultiple wsX0_isMultiple) := goodIn_app (goodIn_of _ (by decide +kernel)) ggX0_isStepDue_X0_isMultiple
set_option maxRecDepth 20000 in
theorem ggX0_isStepDue_X0_isAwayFromZero : GoodIn wsX0_isStepDue wsX0_isAwayFromZero := goodIn_r _ [9, 1, 13, 14] (by decide +kernel) (by decide +kernel)
set_option maxRecDepth 20000 in
theorem gX0_isStepDue_X0_isAwayFromZero : GoodIn wsX0_isStepDue (wsV RX0 148 RX0 yX0_isAwayFromZero wsX0_isAwayFromZero) := goodIn_app (goodIn_of _ (by decide +kernel)) ggX0_isStepDue_X0_isAwayFromZero
set_option maxRecDepth 20000 in
theorem ggX0_isStepDue_X0_shiftedRight : GoodIn wsX0_isStepDue wsX0_shiftedRight := goodIn_r _ [12] (by decide +kernel) (by decide +kernel)
set_option maxRecDepth 20000 in
theorem gX0_isStepDue_X0_shiftedRight : GoodIn wsX0_isStepDue (va_wsS RX0 137 yX0_shiftedRight wsX0_shiftedRight) := goodIn_app (goodIn_of _ (by decide +kernel)) ggX0_isStepDue_X0_shiftedRight
theorem dX0_isStepDue_0 : decode cX0_isStepDue 0 = .ok (.lload_n 2, 1) := by decide +kernel
theorem dX0_isStepDue_1 : decode cX0_isStepDue 1 = .ok (.iload 4, 2) := by decide +kernel
theorem dX0_isStepDue_3 : decode cX0_isStepDue 3 = .ok (.invokestatic 91, 3) := by decide +kernel
theorem dX0_isStepDue_6 : decode cX0_isStepDue 6 = .ok (.ifCond .eq 5, 3) := by decide +kernel
theorem dX0_isStepDue_9 : decode cX0_isStepDue 9 = .ok (.iconst 0, 1) := by decide +kernel
theorem dX0_isStepDue_10 : decode cX0_isStepDue 10 = .ok (.ireturn, 1) := by decide +kernel
theorem dX0_isStepDue_11 : decode cX0_isStepDue 11 = .ok (.aload_n 0, 1) := by decide +kernel
theorem dX0_isStepDue_12 : decode cX0_isStepDue 12 = .ok (.getfield 9, 3) := by decide +kernel
theorem dX0_isStepDue_15 : decode cX0_isStepDue 15 = .ok (.ifCond .eq 9, 3) := by decide +kernel
theorem dX0_isStepDue_18 : decode cX0_isStepDue 18 = .ok (.aload_n 0, 1) := by decide +kernel
theorem dX0_isStepDue_19 : decode cX0_isStepDue 19 = .ok (.iload_n 1, 1) := by decide +kernel
theorem dX0_isStepDue_20 : decode cX0_isStepDue 20 = .ok (.invokevirtual 148, 3) := by decide +kernel
theorem dX0_isStepDue_23 : decode cX0_isStepDue 23 = .ok (.ireturn, 1) := by decide +kernel
theorem dX0_isStepDue_24 : decode cX0_isStepDue 24 = .ok (.lload_n 2, 1) := by decide +kernel
theorem dX0_isStepDue_25 : decode cX0_isStepDue 25 = .ok (.iload 4, 2) := by decide +kernel
theorem dX0_isStepDue_27 : decode cX0_isStepDue 27 = .ok (.iconst 1, 1) := by decide +kernel
theorem dX0_isStepDue_28 : decode cX0_isStepDue 28 = .ok (.isub, 1) := by decide +kernel
theorem dX0_isStepDue_29 : decode cX0_isStepDue 29 = .ok (.invokestatic 137, 3) := by decide +kernel
theorem dX0_isStepDue_32 : decode cX0_isStepDue 32 = .ok (.lconst 1, 1) := by decide +kernel
theorem dX0_isStepDue_33 : decode cX0_isStepDue 33 = .ok (.land, 1) := by decide +kernel
theorem dX0_isStepDue_34 : decode cX0_isStepDue 34 = .ok (.lconst 0, 1) := by decide +kernel
theorem dX0_isStepDue_35 : decode cX0_isStepDue 35 = .ok (.lcmp, 1) := by decide +kernel
theorem dX0_isStepDue_36 : decode cX0_isStepDue 36 = .ok (.ifCond .eq 7, 3) := by decide +kernel
theorem dX0_isStepDue_39 : decode cX0_isStepDue 39 = .ok (.iconst 1, 1) := by decide +kernel
theorem dX0_isStepDue_40 : decode cX0_isStepDue 40 = .ok (.goto 4, 3) := by decide +kernel
theorem dX0_isStepDue_43 : decode cX0_isStepDue 43 = .ok (.iconst 0, 1) := by decide +kernel
theorem dX0_isStepDue_44 : decode cX0_isStepDue 44 = .ok (.istore 5, 2) := by decide +kernel
theorem dX0_isStepDue_46 : decode cX0_isStepDue 46 = .ok (.iload 5, 2) := by decide +kernel
theorem dX0_isStepDue_48 : decode cX0_isStepDue 48 = .ok (.ifCond .eq 18, 3) := by decide +kernel
theorem dX0_isStepDue_51 : decode cX0_isStepDue 51 = .ok (.lload_n 2, 1) := by decide +kernel
theorem dX0_isStepDue_52 : decode cX0_isStepDue 52 = .ok (.iload 4, 2) := by decide +kernel
theorem dX0_isStepDue_54 : decode cX0_isStepDue 54 = .ok (.iconst 1, 1) := by decide +kernel
theorem dX0_isStepDue_55 : decode cX0_isStepDue 55 = .ok (.isub, 1) := by decide +kernel
theorem dX0_isStepDue_56 : decode cX0_isStepDue 56 = .ok (.invokestatic 91, 3) := by decide +kernel
theorem dX0_isStepDue_59 : decode cX0_isStepDue 59 = .ok (.ifCond .ne 7, 3) := by decide +kernel
theorem dX0_isStepDue_62 : decode cX0_isStepDue 62 = .ok (.iconst 1, 1) := by decide +kernel
theorem dX0_isStepDue_63 : decode cX0_isStepDue 63 = .ok (.goto 4, 3) := by decide +kernel
theorem dX0_isStepDue_66 : decode cX0_isStepDue 66 = .ok (.iconst 0, 1) := by decide +kernel
theorem dX0_isStepDue_67 : decode cX0_isStepDue 67 = .ok (.istore 6, 2) := by decide +kernel
theorem dX0_isStepDue_69 : decode cX0_isStepDue 69 = .ok (.lload_n 2, 1) := by decide +kernel
theorem dX0_isStepDue_70 : decode cX0_isStepDue 70 = .ok (.iload 4, 2) := by decide +kernel
theorem dX0_isStepDue_72 : decode cX0_isStepDue 72 = .ok (.invokestatic 137, 3) := by decide +kernel
theorem dX0_isStepDue_75 : decode cX0_isStepDue 75 = .ok (.lconst 1, 1) := by decide +kernel
theorem dX0_isStepDue_76 : decode cX0_isStepDue 76 = .ok (.land, 1) := by decide +kernel
theorem dX0_isStepDue_77 : decode cX0_isStepDue 77 = .ok (.lconst 0, 1) := by decide +kernel
theorem dX0_isStepDue_78 : decode cX0_isStepDue 78 = .ok (.lcmp, 1) := by decide +kernel
theorem dX0_isStepDue_79 : decode cX0_isStepDue 79 = .ok (.ifCond .eq 7, 3) := by decide +kernel
theorem dX0_isStepDue_82 : decode cX0_isStepDue 82 = .ok (.iconst 1, 1) := by decide +kernel
theorem dX0_isStepDue_83 : decode cX0_isStepDue 83 = .ok (.goto 4, 3) := by decide +kernel
theorem dX0_isStepDue_86 : decode cX0_isStepDue 86 = .ok (.iconst 0, 1) := by decide +kernel
theorem dX0_isStepDue_87 : decode cX0_isStepDue 87 = .ok (.istore 7, 2) := by decide +kernel
theorem dX0_isStepDue_89 : decode cX0_isStepDue 89 = .ok (.iload 6, 2) := by decide +kernel
theorem dX0_isStepDue_91 : decode cX0_isStepDue 91 = .ok (.ifCond .ne 13, 3) := by decide +kernel
theorem dX0_isStepDue_94 : decode cX0_isStepDue 94 = .ok (.iload 5, 2) := by decide +kernel
theorem dX0_isStepDue_96 : decode cX0_isStepDue 96 = .ok (.ifCond .eq 12, 3) := by decide +kernel
theorem dX0_isStepDue_99 : decode cX0_isStepDue 99 = .ok (.iload 7, 2) := by decide +kernel
theorem dX0_isStepDue_101 : decode cX0_isStepDue 101 = .ok (.ifCond .eq 7, 3) := by decide +kernel
theorem dX0_isStepDue_104 : decode cX0_isStepDue 104 = .ok (.iconst 1, 1) := by decide +kernel
theorem dX0_isStepDue_105 : decode cX0_isStepDue 105 = .ok (.goto 4, 3) := by decide +kernel
theorem dX0_isStepDue_108 : decode cX0_isStepDue 108 = .ok (.iconst 0, 1) := by decide +kernel
theorem dX0_isStepDue_109 : decode cX0_isStepDue 109 = .ok (.ireturn, 1) := by decide +kernel
set_option maxRecDepth 20000 in
theorem ggX0_bitLength_J13_numberOfLeadingZeros_95d88 : GoodIn wsX0_bitLength wsJ13_numberOfLeadingZeros_95d88 := goodIn_r _ [4, 5, 6, 7, 8, 9] (by decide +kernel) (by decide +kernel)
set_option maxRecDepth 20000 in
theorem gX0_bitLength_J13_numberOfLeadingZeros_95d88 : GoodIn wsX0_bitLength (va_wsS RX0 156 yJ13_numberOfLeadingZeros_95d88 wsJ13_numberOfLeadingZeros_95d88) := goodIn_app (goodIn_of _ (by decide +kernel)) ggX0_bitLength_J13_numberOfLeadingZeros_95d88
theorem dX0_bitLength_0 : decode cX0_bitLength 0 = .ok (.bipush 64, 2) := by decide +kernel
theorem dX0_bitLength_2 : decode cX0_bitLength 2 = .ok (.lload_n 0, 1) := by decide +kernel
theorem dX0_bitLength_3 : decode cX0_bitLength 3 = .ok (.invokestatic 156, 3) := by decide +kernel
theorem dX0_bitLength_6 : decode cX0_bitLength 6 = .ok (.isub, 1) := by decide +kernel
theorem dX0_bitLength_7 : decode cX0_bitLength 7 = .ok (.ireturn, 1) := by decide +kernel
theorem dX0_shiftedRight_0 : decode cX0_shiftedRight 0 = .ok (.iload_n 2, 1) := by decide +kernel
theorem dX0_shiftedRight_1 : decode cX0_shiftedRight 1 = .ok (.bipush 63, 2) := by decide +kernel
theorem dX0_shiftedRight_3 : decode cX0_shiftedRight 3 = .ok (.if_icmp .le 7, 3) := by decide +kernel
theorem dX0_shiftedRight_6 : decode cX0_shiftedRight 6 = .ok (.lconst 0, 1) := by decide +kernel
theorem dX0_shiftedRight_7 : decode cX0_shiftedRight 7 = .ok (.goto 6, 3) := by decide +kernel
theorem dX0_shiftedRight_10 : decode cX0_shiftedRight 10 = .ok (.lload_n 0, 1) := by decide +kernel
theorem dX0_shiftedRight_11 : decode cX0_shiftedRight 11 = .ok (.iload_n 2, 1) := by decide +kernel
theorem dX0_shiftedRight_12 : decode cX0_shiftedRight 12 = .ok (.lshr, 1) := by decide +kernel
theorem dX0_shiftedRight_13 : decode cX0_shiftedRight 13 = .ok (.lreturn, 1) := by decide +kernel
theorem dX0_isMultiple_0 : decode cX0_isMultiple 0 = .ok (.iload_n 2, 1) := by decide +kernel
theorem dX0_isMultiple_1 : decode cX0_isMultiple 1 = .ok (.ifCond .gt 5, 3) := by decide +kernel
theorem dX0_isMultiple_4 : decode cX0_isMultiple 4 = .ok (.iconst 1, 1) := by decide +kernel
theorem dX0_isMultiple_5 : decode cX0_isMultiple 5 = .ok (.ireturn, 1) := by decide +kernel
theorem dX0_isMultiple_6 : decode cX0_isMultiple 6 = .ok (.iload_n 2, 1) := by decide +kernel
theorem dX0_isMultiple_7 : decode cX0_isMultiple 7 = .ok (.bipush 63, 2) := by decide +kernel
theorem dX0_isMultiple_9 : decode cX0_isMultiple 9 = .ok (.if_icmp .le 17, 3) := by decide +kernel
theorem dX0_isMultiple_12 : decode cX0_isMultiple 12 = .ok (.lload_n 0, 1) := by decide +kernel
theorem dX0_isMultiple_13 : decode cX0_isMultiple 13 = .ok (.lconst 0, 1) := by decide +kernel
theorem dX0_isMultiple_14 : decode cX0_isMultiple 14 = .ok (.lcmp, 1) := by decide +kernel
theorem dX0_isMultiple_15 : decode cX0_isMultiple 15 = .ok (.ifCond .ne 7, 3) := by decide +kernel
theorem dX0_isMultiple_18 : decode cX0_isMultiple 18 = .ok (.iconst 1, 1) := by decide +kernel
theorem dX0_isMultiple_19 : decode cX0_isMultiple 19 = .ok (.goto 24, 3) := by decide +kernel
theorem dX0_isMultiple_22 : decode cX0_isMultiple 22 = .ok (.iconst 0, 1) := by decide +kernel
theorem dX0_isMultiple_23 : decode cX0_isMultiple 23 = .ok (.goto 20, 3) := by decide +kernel
theorem dX0_isMultiple_26 : decode cX0_isMultiple 26 = .ok (.lload_n 0, 1) := by decide +kernel
theorem dX0_isMultiple_27 : decode cX0_isMultiple 27 = .ok (.lconst 1, 1) := by decide +kernel
theorem dX0_isMultiple_28 : decode cX0_isMultiple 28 = .ok (.iload_n 2, 1) := by decide +kernel
theorem dX0_isMultiple_29 : decode cX0_isMultiple 29 = .ok (.lshl, 1) := by decide +kernel
theorem dX0_isMultiple_30 : decode cX0_isMultiple 30 = .ok (.lconst 1, 1) := by decide +kernel
theorem dX0_isMultiple_31 : decode cX0_isMultiple 31 = .ok (.lsub, 1) := by decide +kernel
theorem dX0_isMultiple_32 : decode cX0_isMultiple 32 = .ok (.land, 1) := by decide +kernel
theorem dX0_isMultiple_33 : decode cX0_isMultiple 33 = .ok (.lconst 0, 1) := by decide +kernel
theorem dX0_isMultiple_34 : decode cX0_isMultiple 34 = .ok (.lcmp, 1) := by decide +kernel
theorem dX0_isMultiple_35 : decode cX0_isMultiple 35 = .ok (.ifCond .ne 7, 3) := by decide +kernel
theorem dX0_isMultiple_38 : decode cX0_isMultiple 38 = .ok (.iconst 1, 1) := by decide +kernel
theorem dX0_isMultiple_39 : decode cX0_isMultiple 39 = .ok (.goto 4, 3) := by decide +kernel
theorem dX0_isMultiple_42 : decode cX0_isMultiple 42 = .ok (.iconst 0, 1) := by decide +kernel
theorem dX0_isMultiple_43 : decode cX0_isMultiple 43 = .ok (.ireturn, 1) := by decide +kernel
theorem dX0_withTrace_0 : decode cX0_withTrace 0 = .ok (.iload_n 2, 1) := by decide +kernel
theorem dX0_withTrace_1 : decode cX0_withTrace 1 = .ok (.ifCond .eq 9, 3) := by decide +kernel
theorem dX0_withTrace_4 : decode cX0_withTrace 4 = .ok (.lload_n 0, 1) := by decide +kernel
theorem dX0_withTrace_5 : decode cX0_withTrace 5 = .ok (.lconst 1, 1) := by decide +kernel
theorem dX0_withTrace_6 : decode cX0_withTrace 6 = .ok (.lor, 1) := by decide +kernel
theorem dX0_withTrace_7 : decode cX0_withTrace 7 = .ok (.goto 4, 3) := by decide +kernel
theorem dX0_withTrace_10 : decode cX0_withTrace 10 = .ok (.lload_n 0, 1) := by decide +kernel
theorem dX0_withTrace_11 : decode cX0_withTrace 11 = .ok (.lreturn, 1) := by decide +kernel
theorem dX0_floorRoot_0 : decode cX0_floorRoot 0 = .ok (.lconst 0, 1) := by decide +kernel
theorem dX0_floorRoot_1 : decode cX0_floorRoot 1 = .ok (.lstore_n 2, 1) := by decide +kernel
theorem dX0_floorRoot_2 : decode cX0_floorRoot 2 = .ok (.bipush 30, 2) := by decide +kernel
theorem dX0_floorRoot_4 : decode cX0_floorRoot 4 = .ok (.istore 4, 2) := by decide +kernel
theorem dX0_floorRoot_6 : decode cX0_floorRoot 6 = .ok (.iload 4, 2) := by decide +kernel
theorem dX0_floorRoot_8 : decode cX0_floorRoot 8 = .ok (.ifCond .lt 30, 3) := by decide +kernel
theorem dX0_floorRoot_11 : decode cX0_floorRoot 11 = .ok (.lload_n 2, 1) := by decide +kernel
theorem dX0_floorRoot_12 : decode cX0_floorRoot 12 = .ok (.lconst 1, 1) := by decide +kernel
theorem dX0_floorRoot_13 : decode cX0_floorRoot 13 = .ok (.iload 4, 2) := by decide +kernel
theorem dX0_floorRoot_15 : decode cX0_floorRoot 15 = .ok (.lshl, 1) := by decide +kernel
theorem dX0_floorRoot_16 : decode cX0_floorRoot 16 = .ok (.lor, 1) := by decide +kernel
theorem dX0_floorRoot_17 : decode cX0_floorRoot 17 = .ok (.lstore 5, 2) := by decide +kernel
theorem dX0_floorRoot_19 : decode cX0_floorRoot 19 = .ok (.lload 5, 2) := by decide +kernel
theorem dX0_floorRoot_21 : decode cX0_floorRoot 21 = .ok (.lload 5, 2) := by decide +kernel
theorem dX0_floorRoot_23 : decode cX0_floorRoot 23 = .ok (.lmul, 1) := by decide +kernel
theorem dX0_floorRoot_24 : decode cX0_floorRoot 24 = .ok (.lload_n 0, 1) := by decide +kernel
theorem dX0_floorRoot_25 : decode cX0_floorRoot 25 = .ok (.lcmp, 1) := by decide +kernel
theorem dX0_floorRoot_26 : decode cX0_floorRoot 26 = .ok (.ifCond .gt 6, 3) := by decide +kernel
theorem dX0_floorRoot_29 : decode cX0_floorRoot 29 = .ok (.lload 5, 2) := by decide +kernel
theorem dX0_floorRoot_31 : decode cX0_floorRoot 31 = .ok (.lstore_n 2, 1) := by decide +kernel
theorem dX0_floorRoot_32 : decode cX0_floorRoot 32 = .ok (.iinc 4 (-1), 3) := by decide +kernel
theorem dX0_floorRoot_35 : decode cX0_floorRoot 35 = .ok (.goto (-29), 3) := by decide +kernel
theorem dX0_floorRoot_38 : decode cX0_floorRoot 38 = .ok (.lload_n 2, 1) := by decide +kernel
theorem dX0_floorRoot_39 : decode cX0_floorRoot 39 = .ok (.lreturn, 1) := by decide +kernel
theorem dX1_init_0 : decode cX1_init 0 = .ok (.aload_n 0, 1) := by decide +kernel
theorem dX1_init_1 : decode cX1_init 1 = .ok (.invokespecial 1, 3) := by decide +kernel
theorem dX1_init_4 : decode cX1_init 4 = .ok (.aload_n 0, 1) := by decide +kernel
theorem dX1_init_5 : decode cX1_init 5 = .ok (.bipush 25, 2) := by decide +kernel
theorem dX1_init_7 : decode cX1_init 7 = .ok (.newarray .long, 2) := by decide +kernel
theorem dX1_init_9 : decode cX1_init 9 = .ok (.putfield 7, 3) := by decide +kernel
theorem dX1_init_12 : decode cX1_init 12 = .ok (.aload_n 0, 1) := by decide +kernel
theorem dX1_init_13 : decode cX1_init 13 = .ok (.iconst 0, 1) := by decide +kernel
theorem dX1_init_14 : decode cX1_init 14 = .ok (.putfield 13, 3) := by decide +kernel
theorem dX1_init_17 : decode cX1_init 17 = .ok (.return_, 1) := by decide +kernel
theorem dX1_round_0 : decode cX1_round 0 = .ok (.iload_n 1, 1) := by decide +kernel
theorem dX1_round_1 : decode cX1_round 1 = .ok (.ifCond .lt 8, 3) := by decide +kernel
theorem dX1_round_4 : decode cX1_round 4 = .ok (.iload_n 1, 1) := by decide +kernel
theorem dX1_round_5 : decode cX1_round 5 = .ok (.iconst 3, 1) := by decide +kernel
theorem dX1_round_6 : decode cX1_round 6 = .ok (.if_icmp .le 5, 3) := by decide +kernel
theorem dX1_round_9 : decode cX1_round 9 = .ok (.iconst 0, 1) := by decide +kernel
theorem dX1_round_10 : decode cX1_round 10 = .ok (.ireturn, 1) := by decide +kernel
theorem dX1_round_11 : decode cX1_round 11 = .ok (.aload_n 0, 1) := by decide +kernel
theorem dX1_round_12 : decode cX1_round 12 = .ok (.iload_n 1, 1) := by decide +kernel
theorem dX1_round_13 : decode cX1_round 13 = .ok (.putfield 13, 3) := by decide +kernel
theorem dX1_round_16 : decode cX1_round 16 = .ok (.iconst 1, 1) := by decide +kernel
theorem dX1_round_17 : decode cX1_round 17 = .ok (.ireturn, 1) := by decide +kernel
theorem dX1_mode_0 : decode cX1_mode 0 = .ok (.aload_n 0, 1) := by decide +kernel
theorem dX1_mode_1 : decode cX1_mode 1 = .ok (.getfield 13, 3) := by decide +kernel
theorem dX1_mode_4 : decode cX1_mode 4 = .ok (.ireturn, 1) := by decide +kernel
theorem dX1_flags_0 : decode cX1_flags 0 = .ok (.aload_n 0, 1) := by decide +kernel
theorem dX1_flags_1 : decode cX1_flags 1 = .ok (.getfield 17, 3) := by decide +kernel
theorem dX1_flags_4 : decode cX1_flags 4 = .ok (.ireturn, 1) := by decide +kernel
theorem dX1_clear_0 : decode cX1_clear 0 = .ok (.aload_n 0, 1) := by decide +kernel
theorem dX1_clear_1 : decode cX1_clear 1 = .ok (.getfield 17, 3) := by decide +kernel
theorem dX1_clear_4 : decode cX1_clear 4 = .ok (.istore_n 1, 1) := by decide +kernel
theorem dX1_clear_5 : decode cX1_clear 5 = .ok (.aload_n 0, 1) := by decide +kernel
theorem dX1_clear_6 : decode cX1_clear 6 = .ok (.iconst 0, 1) := by decide +kernel
theorem dX1_clear_7 : decode cX1_clear 7 = .ok (.putfield 17, 3) := by decide +kernel
theorem dX1_clear_10 : decode cX1_clear 10 = .ok (.iload_n 1, 1) := by decide +kernel
theorem dX1_clear_11 : decode cX1_clear 11 = .ok (.ireturn, 1) := by decide +kernel
theorem dX1_exponent_0 : decode cX1_exponent 0 = .ok (.iload_n 0, 1) := by decide +kernel
theorem dX1_exponent_1 : decode cX1_exponent 1 = .ok (.bipush 23, 2) := by decide +kernel
theorem dX1_exponent_3 : decode cX1_exponent 3 = .ok (.ishr, 1) := by decide +kernel
theorem dX1_exponent_4 : decode cX1_exponent 4 = .ok (.sipush 255, 3) := by decide +kernel
theorem dX1_exponent_7 : decode cX1_exponent 7 = .ok (.iand, 1) := by decide +kernel
theorem dX1_exponent_8 : decode cX1_exponent 8 = .ok (.ireturn, 1) := by decide +kernel
theorem dX1_fraction_0 : decode cX1_fraction 0 = .ok (.iload_n 0, 1) := by decide +kernel
theorem dX1_fraction_1 : decode cX1_fraction 1 = .ok (.ldc 20, 2) := by decide +kernel
theorem dX1_fraction_3 : decode cX1_fraction 3 = .ok (.iand, 1) := by decide +kernel
theorem dX1_fraction_4 : decode cX1_fraction 4 = .ok (.ireturn, 1) := by decide +kernel
set_option maxRecDepth 20000 in
theorem ggX1_isNone_X1_exponent : GoodIn wsX1_isNone wsX1_exponent := goodIn_r _ [4] (by decide +kernel) (by decide +kernel)
set_option maxRecDepth 20000 in
theorem gX1_isNone_X1_exponent : GoodIn wsX1_isNone (va_wsS RX1 21 yX1_exponent wsX1_exponent) := goodIn_app (goodIn_of _ (by decide +kernel)) ggX1_isNone_X1_exponent
set_option maxRecDepth 20000 in
theorem ggX1_isNone_X1_fraction : GoodIn wsX1_isNone wsX1_fraction := goodIn_r _ [7, 8] (by decide +kernel) (by decide +kernel)
set_option maxRecDepth 20000 in
theorem gX1_isNone_X1_fraction : GoodIn wsX1_isNone (va_wsS RX1 25 yX1_fraction wsX1_fraction) := goodIn_app (goodIn_of _ (by decide +kernel)) ggX1_isNone_X1_fraction
theorem dX1_isNone_0 : decode cX1_isNone 0 = .ok (.iload_n 0, 1) := by decide +kernel
theorem dX1_isNone_1 : decode cX1_isNone 1 = .ok (.invokestatic 21, 3) := by decide +kernel
theorem dX1_isNone_4 : decode cX1_isNone 4 = .ok (.sipush 255, 3) := by decide +kernel
theorem dX1_isNone_7 : decode cX1_isNone 7 = .ok (.if_icmp .ne 14, 3) := by decide +kernel
theorem dX1_isNone_10 : decode cX1_isNone 10 = .ok (.iload_n 0, 1) := by decide +kernel
theorem dX1_isNone_11 : decode cX1_isNone 11 = .ok (.invokestatic 25, 3) := by decide +kernel
theorem dX1_isNone_14 : decode cX1_isNone 14 = .ok (.ifCond .eq 7, 3) := by decide +kernel
theorem dX1_isNone_17 : decode cX1_isNone 17 = .ok (.iconst 1, 1) := by decide +kernel
theorem dX1_isNone_18 : decode cX1_isNone 18 = .ok (.goto 4, 3) := by decide +kernel
theorem dX1_isNone_21 : decode cX1_isNone 21 = .ok (.iconst 0, 1) := by decide +kernel
theorem dX1_isNone_22 : decode cX1_isNone 22 = .ok (.ireturn, 1) := by decide +kernel
set_option maxRecDepth 20000 in
theorem ggX1_isLoud_X1_isNone : GoodIn wsX1_isLoud wsX1_isNone := goodIn_r _ [5, 6, 7, 4, 8, 9, 10, 11, 12] (by decide +kernel) (by decide +kernel)
set_option maxRecDepth 20000 in
theorem gX1_isLoud_X1_isNone : GoodIn wsX1_isLoud (va_wsS RX1 28 yX1_isNone wsX1_isNone) := goodIn_app (goodIn_of _ (by decide +kernel)) ggX1_isLoud_X1_isNone
set_option maxRecDepth 20000 in
theorem ggX1_isLoud_X1_fraction : GoodIn wsX1_isLoud wsX1_fraction := goodIn_r _ [11, 12] (by decide +kernel) (by decide +kernel)
set_option maxRecDepth 20000 in
theorem gX1_isLoud_X1_fraction : GoodIn wsX1_isLoud (va_wsS RX1 25 yX1_fraction wsX1_fraction) := goodIn_app (goodIn_of _ (by decide +kernel)) ggX1_isLoud_X1_fraction
theorem dX1_isLoud_0 : decode cX1_isLoud 0 = .ok (.iload_n 0, 1) := by decide +kernel
theorem dX1_isLoud_1 : decode cX1_isLoud 1 = .ok (.invokestatic 28, 3) := by decide +kernel
theorem dX1_isLoud_4 : decode cX1_isLoud 4 = .ok (.ifCond .eq 16, 3) := by decide +kernel
theorem dX1_isLoud_7 : decode cX1_isLoud 7 = .ok (.iload_n 0, 1) := by decide +kernel
theorem dX1_isLoud_8 : decode cX1_isLoud 8 = .ok (.invokestatic 25, 3) := by decide +kernel
theorem dX1_isLoud_11 : decode cX1_isLoud 11 = .ok (.ldc 32, 2) := by decide +kernel
theorem dX1_isLoud_13 : decode cX1_isLoud 13 = .ok (.if_icmp .ge 7, 3) := by decide +kernel
theorem dX1_isLoud_16 : decode cX1_isLoud 16 = .ok (.iconst 1, 1) := by decide +kernel
theorem dX1_isLoud_17 : decode cX1_isLoud 17 = .ok (.goto 4, 3) := by decide +kernel
theorem dX1_isLoud_20 : decode cX1_isLoud 20 = .ok (.iconst 0, 1) := by decide +kernel
theorem dX1_isLoud_21 : decode cX1_isLoud 21 = .ok (.ireturn, 1) := by decide +kernel
set_option maxRecDepth 20000 in
theorem ggX1_isInfinite_X1_exponent : GoodIn wsX1_isInfinite wsX1_exponent := goodIn_r _ [4] (by decide +kernel) (by decide +kernel)
set_option maxRecDepth 20000 in
theorem gX1_isInfinite_X1_exponent : GoodIn wsX1_isInfinite (va_wsS RX1 21 yX1_exponent wsX1_exponent) := goodIn_app (goodIn_of _ (by decide +kernel)) ggX1_isInfinite_X1_exponent
set_option maxRecDepth 20000 in
theorem ggX1_isInfinite_X1_fraction : GoodIn wsX1_isInfinite wsX1_fraction := goodIn_r _ [7, 8] (by decide +kernel) (by decide +kernel)
set_option maxRecDepth 20000 in
theorem gX1_isInfinite_X1_fraction : GoodIn wsX1_isInfinite (va_wsS RX1 25 yX1_fraction wsX1_fraction) := goodIn_app (goodIn_of _ (by decide +kernel)) ggX1_isInfinite_X1_fraction
theorem dX1_isInfinite_0 : decode cX1_isInfinite 0 = .ok (.iload_n 0, 1) := by decide +kernel
theorem dX1_isInfinite_1 : decode cX1_isInfinite 1 = .ok (.invokestatic 21, 3) := by decide +kernel
theorem dX1_isInfinite_4 : decode cX1_isInfinite 4 = .ok (.sipush 255, 3) := by decide +kernel
theorem dX1_isInfinite_7 : decode cX1_isInfinite 7 = .ok (.if_icmp .ne 14, 3) := by decide +kernel
theorem dX1_isInfinite_10 : decode cX1_isInfinite 10 = .ok (.iload_n 0, 1) := by decide +kernel
theorem dX1_isInfinite_11 : decode cX1_isInfinite 11 = .ok (.invokestatic 25, 3) := by decide +kernel
theorem dX1_isInfinite_14 : decode cX1_isInfinite 14 = .ok (.ifCond .ne 7, 3) := by decide +kernel
theorem dX1_isInfinite_17 : decode cX1_isInfinite 17 = .ok (.iconst 1, 1) := by decide +kernel
theorem dX1_isInfinite_18 : decode cX1_isInfinite 18 = .ok (.goto 4, 3) := by decide +kernel
theorem dX1_isInfinite_21 : decode cX1_isInfinite 21 = .ok (.iconst 0, 1) := by decide +kernel
theorem dX1_isInfinite_22 : decode cX1_isInfinite 22 = .ok (.ireturn, 1) := by decide +kernel
theorem dX1_isZero_0 : decode cX1_isZero 0 = .ok (.iload_n 0, 1) := by decide +kernel
theorem dX1_isZero_1 : decode cX1_isZero 1 = .ok (.ldc 33, 2) := by decide +kernel
theorem dX1_isZero_3 : decode cX1_isZero 3 = .ok (.iand, 1) := by decide +kernel
theorem dX1_isZero_4 : decode cX1_isZero 4 = .ok (.ifCond .ne 7, 3) := by decide +kernel
theorem dX1_isZero_7 : decode cX1_isZero 7 = .ok (.iconst 1, 1) := by decide +kernel
theorem dX1_isZero_8 : decode cX1_isZero 8 = .ok (.goto 4, 3) := by decide +kernel
theorem dX1_isZero_11 : decode cX1_isZero 11 = .ok (.iconst 0, 1) := by decide +kernel
theorem dX1_isZero_12 : decode cX1_isZero 12 = .ok (.ireturn, 1) := by decide +kernel
theorem dX1_isNegative_0 : decode cX1_isNegative 0 = .ok (.iload_n 0, 1) := by decide +kernel
theorem dX1_isNegative_1 : decode cX1_isNegative 1 = .ok (.ifCond .ge 7, 3) := by decide +kernel
theorem dX1_isNegative_4 : decode cX1_isNegative 4 = .ok (.iconst 1, 1) := by decide +kernel
theorem dX1_isNegative_5 : decode cX1_isNegative 5 = .ok (.goto 4, 3) := by decide +kernel
theorem dX1_isNegative_8 : decode cX1_isNegative 8 = .ok (.iconst 0, 1) := by decide +kernel
theorem dX1_isNegative_9 : decode cX1_isNegative 9 = .ok (.ireturn, 1) := by decide +kernel
theorem dX1_signed_0 : decode cX1_signed 0 = .ok (.iload_n 1, 1) := by decide +kernel
theorem dX1_signed_1 : decode cX1_signed 1 = .ok (.ifCond .eq 10, 3) := by decide +kernel
theorem dX1_signed_4 : decode cX1_signed 4 = .ok (.iload_n 0, 1) := by decide +kernel
theorem dX1_signed_5 : decode cX1_signed 5 = .ok (.ldc 34, 2) := by decide +kernel
theorem dX1_signed_7 : decode cX1_signed 7 = .ok (.ior, 1) := by decide +kernel
theorem dX1_signed_8 : decode cX1_signed 8 = .ok (.goto 4, 3) := by decide +kernel
theorem dX1_signed_11 : decode cX1_signed 11 = .ok (.iload_n 0, 1) := by decide +kernel
theorem dX1_signed_12 : decode cX1_signed 12 = .ok (.ireturn, 1) := by decide +kernel
set_option maxRecDepth 20000 in
theorem ggX1_units_X1_exponent : GoodIn wsX1_units wsX1_exponent := goodIn_r _ [5] (by decide +kernel) (by decide +kernel)
set_option maxRecDepth 20000 in
theorem gX1_units_X1_exponent : GoodIn wsX1_units (va_wsS RX1 21 yX1_exponent wsX1_exponent) := goodIn_app (goodIn_of _ (by decide +kernel)) ggX1_units_X1_exponent
set_option maxRecDepth 20000 in
theorem ggX1_units_X1_fraction : GoodIn wsX1_units wsX1_fraction := goodIn_r _ [8, 9] (by decide +kernel) (by decide +kernel)
set_option maxRecDepth 20000 in
theorem gX1_units_X1_fraction : GoodIn wsX1_units (va_wsS RX1 25 yX1_fraction wsX1_fraction) := goodIn_app (goodIn_of _ (by decide +kernel)) ggX1_units_X1_fraction
theorem dX1_units_0 : decode cX1_units 0 = .ok (.iload_n 0, 1) := by decide +kernel
theorem dX1_units_1 : decode cX1_units 1 = .ok (.invokestatic 21, 3) := by decide +kernel
theorem dX1_units_4 : decode cX1_units 4 = .ok (.ifCond .ne 10, 3) := by decide +kernel
theorem dX1_units_7 : decode cX1_units 7 = .ok (.iload_n 0, 1) := by decide +kernel
end
section
theorem dX1_units_8 : decode cX1_units 8 = .ok (.invokestatic 25, 3) := by decide +kernel
theorem dX1_units_11 : decode cX1_units 11 = .ok (.goto 10, 3) := by decide +kernel
theorem dX1_units_14 : decode cX1_units 14 = .ok (.ldc 35, 2) := by decide +kernel
theorem dX1_units_16 : decode cX1_units 16 = .ok (.iload_n 0, 1) := by decide +kernel
theorem dX1_units_17 : decode cX1_units 17 = .ok (.invokestatic 25, 3) := by decide +kernel
theorem dX1_units_20 : decode cX1_units 20 = .ok (.iadd, 1) := by decide +kernel
theorem dX1_units_21 : decode cX1_units 21 = .ok (.ireturn, 1) := by decide +kernel
set_option maxRecDepth 20000 in
theorem ggX1_place_X1_exponent : GoodIn wsX1_place wsX1_exponent := goodIn_r _ [4] (by decide +kernel) (by decide +kernel)
set_option maxRecDepth 20000 in
theorem gX1_place_X1_exponent : GoodIn wsX1_place (va_wsS RX1 21 yX1_exponent wsX1_exponent) := goodIn_app (goodIn_of _ (by decide +kernel)) ggX1_place_X1_exponent
theorem dX1_place_0 : decode cX1_place 0 = .ok (.iload_n 0, 1) := by decide +kernel
theorem dX1_place_1 : decode cX1_place 1 = .ok (.invokestatic 21, 3) := by decide +kernel
theorem dX1_place_4 : decode cX1_place 4 = .ok (.ifCond .ne 9, 3) := by decide +kernel
theorem dX1_place_7 : decode cX1_place 7 = .ok (.sipush (-149), 3) := by decide +kernel
theorem dX1_place_10 : decode cX1_place 10 = .ok (.goto 11, 3) := by decide +kernel
theorem dX1_place_13 : decode cX1_place 13 = .ok (.iload_n 0, 1) := by decide +kernel
theorem dX1_place_14 : decode cX1_place 14 = .ok (.invokestatic 21, 3) := by decide +kernel
theorem dX1_place_17 : decode cX1_place 17 = .ok (.sipush 150, 3) := by decide +kernel
theorem dX1_place_20 : decode cX1_place 20 = .ok (.isub, 1) := by decide +kernel
theorem dX1_place_21 : decode cX1_place 21 = .ok (.ireturn, 1) := by decide +kernel
set_option maxRecDepth 20000 in
theorem ggX1_none_X1_isLoud : GoodIn wsX1_none wsX1_isLoud := goodIn_r _ [6, 7, 8, 9, 5, 10, 11, 12, 13, 14, 15, 16, 17] (by decide +kernel) (by decide +kernel)
set_option maxRecDepth 20000 in
theorem gX1_none_X1_isLoud : GoodIn wsX1_none (va_wsS RX1 36 yX1_isLoud wsX1_isLoud) := goodIn_app (goodIn_of _ (by decide +kernel)) ggX1_none_X1_isLoud
theorem dX1_none_0 : decode cX1_none 0 = .ok (.iload_n 1, 1) := by decide +kernel
theorem dX1_none_1 : decode cX1_none 1 = .ok (.invokestatic 36, 3) := by decide +kernel
theorem dX1_none_4 : decode cX1_none 4 = .ok (.ifCond .ne 17, 3) := by decide +kernel
theorem dX1_none_7 : decode cX1_none 7 = .ok (.iload_n 2, 1) := by decide +kernel
theorem dX1_none_8 : decode cX1_none 8 = .ok (.invokestatic 36, 3) := by decide +kernel
theorem dX1_none_11 : decode cX1_none 11 = .ok (.ifCond .ne 10, 3) := by decide +kernel
theorem dX1_none_14 : decode cX1_none 14 = .ok (.iload_n 3, 1) := by decide +kernel
theorem dX1_none_15 : decode cX1_none 15 = .ok (.invokestatic 36, 3) := by decide +kernel
theorem dX1_none_18 : decode cX1_none 18 = .ok (.ifCond .eq 14, 3) := by decide +kernel
theorem dX1_none_21 : decode cX1_none 21 = .ok (.aload_n 0, 1) := by decide +kernel
theorem dX1_none_22 : decode cX1_none 22 = .ok (.aload_n 0, 1) := by decide +kernel
theorem dX1_none_23 : decode cX1_none 23 = .ok (.getfield 17, 3) := by decide +kernel
theorem dX1_none_26 : decode cX1_none 26 = .ok (.bipush 16, 2) := by decide +kernel
theorem dX1_none_28 : decode cX1_none 28 = .ok (.ior, 1) := by decide +kernel
theorem dX1_none_29 : decode cX1_none 29 = .ok (.putfield 17, 3) := by decide +kernel
theorem dX1_none_32 : decode cX1_none 32 = .ok (.ldc 39, 2) := by decide +kernel
theorem dX1_none_34 : decode cX1_none 34 = .ok (.ireturn, 1) := by decide +kernel
theorem dX1_invalid_0 : decode cX1_invalid 0 = .ok (.aload_n 0, 1) := by decide +kernel
theorem dX1_invalid_1 : decode cX1_invalid 1 = .ok (.aload_n 0, 1) := by decide +kernel
theorem dX1_invalid_2 : decode cX1_invalid 2 = .ok (.getfield 17, 3) := by decide +kernel
theorem dX1_invalid_5 : decode cX1_invalid 5 = .ok (.bipush 16, 2) := by decide +kernel
theorem dX1_invalid_7 : decode cX1_invalid 7 = .ok (.ior, 1) := by decide +kernel
theorem dX1_invalid_8 : decode cX1_invalid 8 = .ok (.putfield 17, 3) := by decide +kernel
theorem dX1_invalid_11 : decode cX1_invalid 11 = .ok (.ldc 39, 2) := by decide +kernel
theorem dX1_invalid_13 : decode cX1_invalid 13 = .ok (.ireturn, 1) := by decide +kernel
theorem dX1_empty_0 : decode cX1_empty 0 = .ok (.iconst 0, 1) := by decide +kernel
theorem dX1_empty_1 : decode cX1_empty 1 = .ok (.istore_n 2, 1) := by decide +kernel
theorem dX1_empty_2 : decode cX1_empty 2 = .ok (.iload_n 2, 1) := by decide +kernel
theorem dX1_empty_3 : decode cX1_empty 3 = .ok (.bipush 25, 2) := by decide +kernel
theorem dX1_empty_5 : decode cX1_empty 5 = .ok (.if_icmp .ge 16, 3) := by decide +kernel
theorem dX1_empty_8 : decode cX1_empty 8 = .ok (.aload_n 0, 1) := by decide +kernel
theorem dX1_empty_9 : decode cX1_empty 9 = .ok (.getfield 7, 3) := by decide +kernel
theorem dX1_empty_12 : decode cX1_empty 12 = .ok (.iload_n 2, 1) := by decide +kernel
theorem dX1_empty_13 : decode cX1_empty 13 = .ok (.lconst 0, 1) := by decide +kernel
theorem dX1_empty_14 : decode cX1_empty 14 = .ok (.lastore, 1) := by decide +kernel
theorem dX1_empty_15 : decode cX1_empty 15 = .ok (.iinc 2 1, 3) := by decide +kernel
theorem dX1_empty_18 : decode cX1_empty 18 = .ok (.goto (-16), 3) := by decide +kernel
theorem dX1_empty_21 : decode cX1_empty 21 = .ok (.aload_n 0, 1) := by decide +kernel
theorem dX1_empty_22 : decode cX1_empty 22 = .ok (.iload_n 1, 1) := by decide +kernel
theorem dX1_empty_23 : decode cX1_empty 23 = .ok (.putfield 40, 3) := by decide +kernel
theorem dX1_empty_26 : decode cX1_empty 26 = .ok (.aload_n 0, 1) := by decide +kernel
theorem dX1_empty_27 : decode cX1_empty 27 = .ok (.iconst 0, 1) := by decide +kernel
theorem dX1_empty_28 : decode cX1_empty 28 = .ok (.putfield 43, 3) := by decide +kernel
theorem dX1_empty_31 : decode cX1_empty 31 = .ok (.return_, 1) := by decide +kernel
theorem dX1_put_0 : decode cX1_put 0 = .ok (.iload_n 3, 1) := by decide +kernel
theorem dX1_put_1 : decode cX1_put 1 = .ok (.aload_n 0, 1) := by decide +kernel
theorem dX1_put_2 : decode cX1_put 2 = .ok (.getfield 40, 3) := by decide +kernel
theorem dX1_put_5 : decode cX1_put 5 = .ok (.isub, 1) := by decide +kernel
theorem dX1_put_6 : decode cX1_put 6 = .ok (.istore 5, 2) := by decide +kernel
theorem dX1_put_8 : decode cX1_put 8 = .ok (.iconst 0, 1) := by decide +kernel
theorem dX1_put_9 : decode cX1_put 9 = .ok (.istore 6, 2) := by decide +kernel
theorem dX1_put_11 : decode cX1_put 11 = .ok (.iload 6, 2) := by decide +kernel
theorem dX1_put_13 : decode cX1_put 13 = .ok (.bipush 63, 2) := by decide +kernel
theorem dX1_put_15 : decode cX1_put 15 = .ok (.if_icmp .ge 68, 3) := by decide +kernel
theorem dX1_put_18 : decode cX1_put 18 = .ok (.lload_n 1, 1) := by decide +kernel
theorem dX1_put_19 : decode cX1_put 19 = .ok (.iload 6, 2) := by decide +kernel
theorem dX1_put_21 : decode cX1_put 21 = .ok (.lshr, 1) := by decide +kernel
theorem dX1_put_22 : decode cX1_put 22 = .ok (.lconst 1, 1) := by decide +kernel
theorem dX1_put_23 : decode cX1_put 23 = .ok (.land, 1) := by decide +kernel
theorem dX1_put_24 : decode cX1_put 24 = .ok (.lconst 1, 1) := by decide +kernel
theorem dX1_put_25 : decode cX1_put 25 = .ok (.lcmp, 1) := by decide +kernel
theorem dX1_put_26 : decode cX1_put 26 = .ok (.ifCond .ne 51, 3) := by decide +kernel
theorem dX1_put_29 : decode cX1_put 29 = .ok (.iload 5, 2) := by decide +kernel
theorem dX1_put_31 : decode cX1_put 31 = .ok (.iload 6, 2) := by decide +kernel
theorem dX1_put_33 : decode cX1_put 33 = .ok (.iadd, 1) := by decide +kernel
theorem dX1_put_34 : decode cX1_put 34 = .ok (.istore 7, 2) := by decide +kernel
theorem dX1_put_36 : decode cX1_put 36 = .ok (.aload_n 0, 1) := by decide +kernel
theorem dX1_put_37 : decode cX1_put 37 = .ok (.getfield 7, 3) := by decide +kernel
theorem dX1_put_40 : decode cX1_put 40 = .ok (.iload 7, 2) := by decide +kernel
theorem dX1_put_42 : decode cX1_put 42 = .ok (.bipush 24, 2) := by decide +kernel
theorem dX1_put_44 : decode cX1_put 44 = .ok (.idiv, 1) := by decide +kernel
theorem dX1_put_45 : decode cX1_put 45 = .ok (.aload_n 0, 1) := by decide +kernel
theorem dX1_put_46 : decode cX1_put 46 = .ok (.getfield 7, 3) := by decide +kernel
theorem dX1_put_49 : decode cX1_put 49 = .ok (.iload 7, 2) := by decide +kernel
theorem dX1_put_51 : decode cX1_put 51 = .ok (.bipush 24, 2) := by decide +kernel
theorem dX1_put_53 : decode cX1_put 53 = .ok (.idiv, 1) := by decide +kernel
theorem dX1_put_54 : decode cX1_put 54 = .ok (.laload, 1) := by decide +kernel
theorem dX1_put_55 : decode cX1_put 55 = .ok (.iload 4, 2) := by decide +kernel
theorem dX1_put_57 : decode cX1_put 57 = .ok (.ifCond .eq 9, 3) := by decide +kernel
theorem dX1_put_60 : decode cX1_put 60 = .ok (.ldc2_w 47, 3) := by decide +kernel
theorem dX1_put_63 : decode cX1_put 63 = .ok (.goto 4, 3) := by decide +kernel
theorem dX1_put_66 : decode cX1_put 66 = .ok (.lconst 1, 1) := by decide +kernel
theorem dX1_put_67 : decode cX1_put 67 = .ok (.lconst 1, 1) := by decide +kernel
theorem dX1_put_68 : decode cX1_put 68 = .ok (.iload 7, 2) := by decide +kernel
theorem dX1_put_70 : decode cX1_put 70 = .ok (.bipush 24, 2) := by decide +kernel
theorem dX1_put_72 : decode cX1_put 72 = .ok (.irem, 1) := by decide +kernel
theorem dX1_put_73 : decode cX1_put 73 = .ok (.lshl, 1) := by decide +kernel
theorem dX1_put_74 : decode cX1_put 74 = .ok (.lmul, 1) := by decide +kernel
theorem dX1_put_75 : decode cX1_put 75 = .ok (.ladd, 1) := by decide +kernel
theorem dX1_put_76 : decode cX1_put 76 = .ok (.lastore, 1) := by decide +kernel
theorem dX1_put_77 : decode cX1_put 77 = .ok (.iinc 6 1, 3) := by decide +kernel
theorem dX1_put_80 : decode cX1_put 80 = .ok (.goto (-69), 3) := by decide +kernel
theorem dX1_put_83 : decode cX1_put 83 = .ok (.return_, 1) := by decide +kernel
set_option maxRecDepth 20000 in
theorem ggX1_settle_X1_carry : GoodIn wsX1_settle wsX1_carry := goodIn_r _ [6, 1, 7, 8, 9, 10, 11, 12, 13] (by decide +kernel) (by decide +kernel)
set_option maxRecDepth 20000 in
theorem gX1_settle_X1_carry : GoodIn wsX1_settle (wsV RX1 49 RX1 yX1_carry wsX1_carry) := goodIn_app (goodIn_of _ (by decide +kernel)) ggX1_settle_X1_carry
theorem dX1_settle_0 : decode cX1_settle 0 = .ok (.aload_n 0, 1) := by decide +kernel
theorem dX1_settle_1 : decode cX1_settle 1 = .ok (.invokevirtual 49, 3) := by decide +kernel
theorem dX1_settle_4 : decode cX1_settle 4 = .ok (.aload_n 0, 1) := by decide +kernel
theorem dX1_settle_5 : decode cX1_settle 5 = .ok (.getfield 7, 3) := by decide +kernel
theorem dX1_settle_8 : decode cX1_settle 8 = .ok (.bipush 24, 2) := by decide +kernel
theorem dX1_settle_10 : decode cX1_settle 10 = .ok (.laload, 1) := by decide +kernel
theorem dX1_settle_11 : decode cX1_settle 11 = .ok (.lconst 0, 1) := by decide +kernel
theorem dX1_settle_12 : decode cX1_settle 12 = .ok (.lcmp, 1) := by decide +kernel
theorem dX1_settle_13 : decode cX1_settle 13 = .ok (.ifCond .ge 7, 3) := by decide +kernel
theorem dX1_settle_16 : decode cX1_settle 16 = .ok (.iconst 1, 1) := by decide +kernel
theorem dX1_settle_17 : decode cX1_settle 17 = .ok (.goto 4, 3) := by decide +kernel
theorem dX1_settle_20 : decode cX1_settle 20 = .ok (.iconst 0, 1) := by decide +kernel
theorem dX1_settle_21 : decode cX1_settle 21 = .ok (.istore_n 1, 1) := by decide +kernel
theorem dX1_settle_22 : decode cX1_settle 22 = .ok (.iload_n 1, 1) := by decide +kernel
theorem dX1_settle_23 : decode cX1_settle 23 = .ok (.ifCond .eq 34, 3) := by decide +kernel
theorem dX1_settle_26 : decode cX1_settle 26 = .ok (.iconst 0, 1) := by decide +kernel
theorem dX1_settle_27 : decode cX1_settle 27 = .ok (.istore_n 2, 1) := by decide +kernel
theorem dX1_settle_28 : decode cX1_settle 28 = .ok (.iload_n 2, 1) := by decide +kernel
theorem dX1_settle_29 : decode cX1_settle 29 = .ok (.bipush 25, 2) := by decide +kernel
theorem dX1_settle_31 : decode cX1_settle 31 = .ok (.if_icmp .ge 22, 3) := by decide +kernel
theorem dX1_settle_34 : decode cX1_settle 34 = .ok (.aload_n 0, 1) := by decide +kernel
theorem dX1_settle_35 : decode cX1_settle 35 = .ok (.getfield 7, 3) := by decide +kernel
theorem dX1_settle_38 : decode cX1_settle 38 = .ok (.iload_n 2, 1) := by decide +kernel
theorem dX1_settle_39 : decode cX1_settle 39 = .ok (.aload_n 0, 1) := by decide +kernel
theorem dX1_settle_40 : decode cX1_settle 40 = .ok (.getfield 7, 3) := by decide +kernel
theorem dX1_settle_43 : decode cX1_settle 43 = .ok (.iload_n 2, 1) := by decide +kernel
theorem dX1_settle_44 : decode cX1_settle 44 = .ok (.laload, 1) := by decide +kernel
theorem dX1_settle_45 : decode cX1_settle 45 = .ok (.lneg, 1) := by decide +kernel
theorem dX1_settle_46 : decode cX1_settle 46 = .ok (.lastore, 1) := by decide +kernel
theorem dX1_settle_47 : decode cX1_settle 47 = .ok (.iinc 2 1, 3) := by decide +kernel
theorem dX1_settle_50 : decode cX1_settle 50 = .ok (.goto (-22), 3) := by decide +kernel
theorem dX1_settle_53 : decode cX1_settle 53 = .ok (.aload_n 0, 1) := by decide +kernel
theorem dX1_settle_54 : decode cX1_settle 54 = .ok (.invokevirtual 49, 3) := by decide +kernel
theorem dX1_settle_57 : decode cX1_settle 57 = .ok (.iload_n 1, 1) := by decide +kernel
theorem dX1_settle_58 : decode cX1_settle 58 = .ok (.ireturn, 1) := by decide +kernel
theorem dX1_carry_0 : decode cX1_carry 0 = .ok (.iconst 0, 1) := by decide +kernel
theorem dX1_carry_1 : decode cX1_carry 1 = .ok (.istore_n 1, 1) := by decide +kernel
theorem dX1_carry_2 : decode cX1_carry 2 = .ok (.iload_n 1, 1) := by decide +kernel
theorem dX1_carry_3 : decode cX1_carry 3 = .ok (.bipush 24, 2) := by decide +kernel
theorem dX1_carry_5 : decode cX1_carry 5 = .ok (.if_icmp .ge 51, 3) := by decide +kernel
theorem dX1_carry_8 : decode cX1_carry 8 = .ok (.aload_n 0, 1) := by decide +kernel
theorem dX1_carry_9 : decode cX1_carry 9 = .ok (.getfield 7, 3) := by decide +kernel
theorem dX1_carry_12 : decode cX1_carry 12 = .ok (.iload_n 1, 1) := by decide +kernel
theorem dX1_carry_13 : decode cX1_carry 13 = .ok (.iconst 1, 1) := by decide +kernel
theorem dX1_carry_14 : decode cX1_carry 14 = .ok (.iadd, 1) := by decide +kernel
theorem dX1_carry_15 : decode cX1_carry 15 = .ok (.aload_n 0, 1) := by decide +kernel
theorem dX1_carry_16 : decode cX1_carry 16 = .ok (.getfield 7, 3) := by decide +kernel
theorem dX1_carry_19 : decode cX1_carry 19 = .ok (.iload_n 1, 1) := by decide +kernel
theorem dX1_carry_20 : decode cX1_carry 20 = .ok (.iconst 1, 1) := by decide +kernel
theorem dX1_carry_21 : decode cX1_carry 21 = .ok (.iadd, 1) := by decide +kernel
theorem dX1_carry_22 : decode cX1_carry 22 = .ok (.laload, 1) := by decide +kernel
theorem dX1_carry_23 : decode cX1_carry 23 = .ok (.aload_n 0, 1) := by decide +kernel
theorem dX1_carry_24 : decode cX1_carry 24 = .ok (.getfield 7, 3) := by decide +kernel
theorem dX1_carry_27 : decode cX1_carry 27 = .ok (.iload_n 1, 1) := by decide +kernel
theorem dX1_carry_28 : decode cX1_carry 28 = .ok (.laload, 1) := by decide +kernel
theorem dX1_carry_29 : decode cX1_carry 29 = .ok (.bipush 24, 2) := by decide +kernel
theorem dX1_carry_31 : decode cX1_carry 31 = .ok (.lshr, 1) := by decide +kernel
theorem dX1_carry_32 : decode cX1_carry 32 = .ok (.ladd, 1) := by decide +kernel
theorem dX1_carry_33 : decode cX1_carry 33 = .ok (.lastore, 1) := by decide +kernel
theorem dX1_carry_34 : decode cX1_carry 34 = .ok (.aload_n 0, 1) := by decide +kernel
theorem dX1_carry_35 : decode cX1_carry 35 = .ok (.getfield 7, 3) := by decide +kernel
theorem dX1_carry_38 : decode cX1_carry 38 = .ok (.iload_n 1, 1) := by decide +kernel
theorem dX1_carry_39 : decode cX1_carry 39 = .ok (.aload_n 0, 1) := by decide +kernel
theorem dX1_carry_40 : decode cX1_carry 40 = .ok (.getfield 7, 3) := by decide +kernel
theorem dX1_carry_43 : decode cX1_carry 43 = .ok (.iload_n 1, 1) := by decide +kernel
theorem dX1_carry_44 : decode cX1_carry 44 = .ok (.laload, 1) := by decide +kernel
theorem dX1_carry_45 : decode cX1_carry 45 = .ok (.ldc2_w 52, 3) := by decide +kernel
theorem dX1_carry_48 : decode cX1_carry 48 = .ok (.land, 1) := by decide +kernel
theorem dX1_carry_49 : decode cX1_carry 49 = .ok (.lastore, 1) := by decide +kernel
theorem dX1_carry_50 : decode cX1_carry 50 = .ok (.iinc 1 1, 3) := by decide +kernel
theorem dX1_carry_53 : decode cX1_carry 53 = .ok (.goto (-51), 3) := by decide +kernel
theorem dX1_carry_56 : decode cX1_carry 56 = .ok (.return_, 1) := by decide +kernel
theorem dX1_bit_0 : decode cX1_bit 0 = .ok (.iload_n 1, 1) := by decide +kernel
theorem dX1_bit_1 : decode cX1_bit 1 = .ok (.ifCond .lt 10, 3) := by decide +kernel
theorem dX1_bit_4 : decode cX1_bit 4 = .ok (.iload_n 1, 1) := by decide +kernel
theorem dX1_bit_5 : decode cX1_bit 5 = .ok (.sipush 600, 3) := by decide +kernel
theorem dX1_bit_8 : decode cX1_bit 8 = .ok (.if_icmp .lt 7, 3) := by decide +kernel
theorem dX1_bit_11 : decode cX1_bit 11 = .ok (.iconst 0, 1) := by decide +kernel
theorem dX1_bit_12 : decode cX1_bit 12 = .ok (.goto 20, 3) := by decide +kernel
theorem dX1_bit_15 : decode cX1_bit 15 = .ok (.aload_n 0, 1) := by decide +kernel
theorem dX1_bit_16 : decode cX1_bit 16 = .ok (.getfield 7, 3) := by decide +kernel
theorem dX1_bit_19 : decode cX1_bit 19 = .ok (.iload_n 1, 1) := by decide +kernel
theorem dX1_bit_20 : decode cX1_bit 20 = .ok (.bipush 24, 2) := by decide +kernel
theorem dX1_bit_22 : decode cX1_bit 22 = .ok (.idiv, 1) := by decide +kernel
theorem dX1_bit_23 : decode cX1_bit 23 = .ok (.laload, 1) := by decide +kernel
theorem dX1_bit_24 : decode cX1_bit 24 = .ok (.iload_n 1, 1) := by decide +kernel
theorem dX1_bit_25 : decode cX1_bit 25 = .ok (.bipush 24, 2) := by decide +kernel
theorem dX1_bit_27 : decode cX1_bit 27 = .ok (.irem, 1) := by decide +kernel
theorem dX1_bit_28 : decode cX1_bit 28 = .ok (.lshr, 1) := by decide +kernel
theorem dX1_bit_29 : decode cX1_bit 29 = .ok (.l2i, 1) := by decide +kernel
theorem dX1_bit_30 : decode cX1_bit 30 = .ok (.iconst 1, 1) := by decide +kernel
theorem dX1_bit_31 : decode cX1_bit 31 = .ok (.iand, 1) := by decide +kernel
theorem dX1_bit_32 : decode cX1_bit 32 = .ok (.ireturn, 1) := by decide +kernel
set_option maxRecDepth 20000 in
theorem ggX1_top_X1_bit : GoodIn wsX1_top wsX1_bit := goodIn_r _ [5, 6, 7, 8, 9, 10, 11, 12] (by decide +kernel) (by decide +kernel)
set_option maxRecDepth 20000 in
theorem gX1_top_X1_bit : GoodIn wsX1_top (wsV RX1 54 RX1 yX1_bit wsX1_bit) := goodIn_app (goodIn_of _ (by decide +kernel)) ggX1_top_X1_bit
theorem dX1_top_0 : decode cX1_top 0 = .ok (.sipush 599, 3) := by decide +kernel
theorem dX1_top_3 : decode cX1_top 3 = .ok (.istore_n 1, 1) := by decide +kernel
theorem dX1_top_4 : decode cX1_top 4 = .ok (.iload_n 1, 1) := by decide +kernel
theorem dX1_top_5 : decode cX1_top 5 = .ok (.ifCond .lt 20, 3) := by decide +kernel
theorem dX1_top_8 : decode cX1_top 8 = .ok (.aload_n 0, 1) := by decide +kernel
theorem dX1_top_9 : decode cX1_top 9 = .ok (.iload_n 1, 1) := by decide +kernel
theorem dX1_top_10 : decode cX1_top 10 = .ok (.invokevirtual 54, 3) := by decide +kernel
theorem dX1_top_13 : decode cX1_top 13 = .ok (.iconst 1, 1) := by decide +kernel
theorem dX1_top_14 : decode cX1_top 14 = .ok (.if_icmp .ne 5, 3) := by decide +kernel
theorem dX1_top_17 : decode cX1_top 17 = .ok (.iload_n 1, 1) := by decide +kernel
theorem dX1_top_18 : decode cX1_top 18 = .ok (.ireturn, 1) := by decide +kernel
theorem dX1_top_19 : decode cX1_top 19 = .ok (.iinc 1 (-1), 3) := by decide +kernel
theorem dX1_top_22 : decode cX1_top 22 = .ok (.goto (-18), 3) := by decide +kernel
theorem dX1_top_25 : decode cX1_top 25 = .ok (.iconst (-1), 1) := by decide +kernel
theorem dX1_top_26 : decode cX1_top 26 = .ok (.ireturn, 1) := by decide +kernel
set_option maxRecDepth 20000 in
theorem ggX1_below_X1_bit : GoodIn wsX1_below wsX1_bit := goodIn_r _ [6, 7, 8, 9, 10, 11, 12, 13] (by decide +kernel) (by decide +kernel)
set_option maxRecDepth 20000 in
theorem gX1_below_X1_bit : GoodIn wsX1_below (wsV RX1 54 RX1 yX1_bit wsX1_bit) := goodIn_app (goodIn_of _ (by decide +kernel)) ggX1_below_X1_bit
theorem dX1_below_0 : decode cX1_below 0 = .ok (.iconst 0, 1) := by decide +kernel
theorem dX1_below_1 : decode cX1_below 1 = .ok (.istore_n 2, 1) := by decide +kernel
theorem dX1_below_2 : decode cX1_below 2 = .ok (.iload_n 2, 1) := by decide +kernel
theorem dX1_below_3 : decode cX1_below 3 = .ok (.iload_n 1, 1) := by decide +kernel
theorem dX1_below_4 : decode cX1_below 4 = .ok (.if_icmp .ge 27, 3) := by decide +kernel
theorem dX1_below_7 : decode cX1_below 7 = .ok (.iload_n 2, 1) := by decide +kernel
theorem dX1_below_8 : decode cX1_below 8 = .ok (.sipush 600, 3) := by decide +kernel
theorem dX1_below_11 : decode cX1_below 11 = .ok (.if_icmp .ge 20, 3) := by decide +kernel
theorem dX1_below_14 : decode cX1_below 14 = .ok (.aload_n 0, 1) := by decide +kernel
theorem dX1_below_15 : decode cX1_below 15 = .ok (.iload_n 2, 1) := by decide +kernel
theorem dX1_below_16 : decode cX1_below 16 = .ok (.invokevirtual 54, 3) := by decide +kernel
theorem dX1_below_19 : decode cX1_below 19 = .ok (.iconst 1, 1) := by decide +kernel
theorem dX1_below_20 : decode cX1_below 20 = .ok (.if_icmp .ne 5, 3) := by decide +kernel
theorem dX1_below_23 : decode cX1_below 23 = .ok (.iconst 1, 1) := by decide +kernel
theorem dX1_below_24 : decode cX1_below 24 = .ok (.ireturn, 1) := by decide +kernel
theorem dX1_below_25 : decode cX1_below 25 = .ok (.iinc 2 1, 3) := by decide +kernel
theorem dX1_below_28 : decode cX1_below 28 = .ok (.goto (-26), 3) := by decide +kernel
theorem dX1_below_31 : decode cX1_below 31 = .ok (.aload_n 0, 1) := by decide +kernel
theorem dX1_below_32 : decode cX1_below 32 = .ok (.getfield 43, 3) := by decide +kernel
theorem dX1_below_35 : decode cX1_below 35 = .ok (.ireturn, 1) := by decide +kernel
set_option maxRecDepth 20000 in
theorem ggX1_rounded_X1_bit : GoodIn wsX1_rounded wsX1_bit := goodIn_r _ [7, 8, 14, 15, 16, 17, 18, 19] (by decide +kernel) (by decide +kernel)
set_option maxRecDepth 20000 in
theorem gX1_rounded_X1_bit : GoodIn wsX1_rounded (wsV RX1 54 RX1 yX1_bit wsX1_bit) := goodIn_app (goodIn_of _ (by decide +kernel)) ggX1_rounded_X1_bit
set_option maxRecDepth 20000 in
theorem ggX1_rounded_X1_below : GoodIn wsX1_rounded wsX1_below := goodIn_r _ [12, 13, 3, 4, 5, 6, 7, 8, 14, 15, 16, 17, 18, 19] (by decide +kernel) (by decide +kernel)
set_option maxRecDepth 20000 in
theorem gX1_rounded_X1_below : GoodIn wsX1_rounded (wsV RX1 57 RX1 yX1_below wsX1_below) := goodIn_app (goodIn_of _ (by decide +kernel)) ggX1_rounded_X1_below
theorem dX1_rounded_0 : decode cX1_rounded 0 = .ok (.iconst 0, 1) := by decide +kernel
theorem dX1_rounded_1 : decode cX1_rounded 1 = .ok (.istore_n 3, 1) := by decide +kernel
theorem dX1_rounded_2 : decode cX1_rounded 2 = .ok (.iconst 0, 1) := by decide +kernel
theorem dX1_rounded_3 : decode cX1_rounded 3 = .ok (.istore 4, 2) := by decide +kernel
theorem dX1_rounded_5 : decode cX1_rounded 5 = .ok (.iload 4, 2) := by decide +kernel
theorem dX1_rounded_7 : decode cX1_rounded 7 = .ok (.bipush 24, 2) := by decide +kernel
theorem dX1_rounded_9 : decode cX1_rounded 9 = .ok (.if_icmp .ge 23, 3) := by decide +kernel
theorem dX1_rounded_12 : decode cX1_rounded 12 = .ok (.iload_n 3, 1) := by decide +kernel
theorem dX1_rounded_13 : decode cX1_rounded 13 = .ok (.aload_n 0, 1) := by decide +kernel
theorem dX1_rounded_14 : decode cX1_rounded 14 = .ok (.iload_n 1, 1) := by decide +kernel
theorem dX1_rounded_15 : decode cX1_rounded 15 = .ok (.iload 4, 2) := by decide +kernel
theorem dX1_rounded_17 : decode cX1_rounded 17 = .ok (.iadd, 1) := by decide +kernel
theorem dX1_rounded_18 : decode cX1_rounded 18 = .ok (.invokevirtual 54, 3) := by decide +kernel
theorem dX1_rounded_21 : decode cX1_rounded 21 = .ok (.iload 4, 2) := by decide +kernel
theorem dX1_rounded_23 : decode cX1_rounded 23 = .ok (.ishl, 1) := by decide +kernel
theorem dX1_rounded_24 : decode cX1_rounded 24 = .ok (.ior, 1) := by decide +kernel
theorem dX1_rounded_25 : decode cX1_rounded 25 = .ok (.istore_n 3, 1) := by decide +kernel
theorem dX1_rounded_26 : decode cX1_rounded 26 = .ok (.iinc 4 1, 3) := by decide +kernel
theorem dX1_rounded_29 : decode cX1_rounded 29 = .ok (.goto (-24), 3) := by decide +kernel
theorem dX1_rounded_32 : decode cX1_rounded 32 = .ok (.aload_n 0, 1) := by decide +kernel
theorem dX1_rounded_33 : decode cX1_rounded 33 = .ok (.iload_n 1, 1) := by decide +kernel
theorem dX1_rounded_34 : decode cX1_rounded 34 = .ok (.iconst 1, 1) := by decide +kernel
theorem dX1_rounded_35 : decode cX1_rounded 35 = .ok (.isub, 1) := by decide +kernel
theorem dX1_rounded_36 : decode cX1_rounded 36 = .ok (.invokevirtual 54, 3) := by decide +kernel
theorem dX1_rounded_39 : decode cX1_rounded 39 = .ok (.iconst 1, 1) := by decide +kernel
theorem dX1_rounded_40 : decode cX1_rounded 40 = .ok (.if_icmp .ne 7, 3) := by decide +kernel
theorem dX1_rounded_43 : decode cX1_rounded 43 = .ok (.iconst 1, 1) := by decide +kernel
theorem dX1_rounded_44 : decode cX1_rounded 44 = .ok (.goto 4, 3) := by decide +kernel
theorem dX1_rounded_47 : decode cX1_rounded 47 = .ok (.iconst 0, 1) := by decide +kernel
theorem dX1_rounded_48 : decode cX1_rounded 48 = .ok (.istore 4, 2) := by decide +kernel
theorem dX1_rounded_50 : decode cX1_rounded 50 = .ok (.aload_n 0, 1) := by decide +kernel
theorem dX1_rounded_51 : decode cX1_rounded 51 = .ok (.iload_n 1, 1) := by decide +kernel
theorem dX1_rounded_52 : decode cX1_rounded 52 = .ok (.iconst 1, 1) := by decide +kernel
theorem dX1_rounded_53 : decode cX1_rounded 53 = .ok (.isub, 1) := by decide +kernel
theorem dX1_rounded_54 : decode cX1_rounded 54 = .ok (.invokevirtual 57, 3) := by decide +kernel
theorem dX1_rounded_57 : decode cX1_rounded 57 = .ok (.istore 5, 2) := by decide +kernel
theorem dX1_rounded_59 : decode cX1_rounded 59 = .ok (.aload_n 0, 1) := by decide +kernel
theorem dX1_rounded_60 : decode cX1_rounded 60 = .ok (.iload 4, 2) := by decide +kernel
theorem dX1_rounded_62 : decode cX1_rounded 62 = .ok (.ifCond .ne 12, 3) := by decide +kernel
theorem dX1_rounded_65 : decode cX1_rounded 65 = .ok (.iload 5, 2) := by decide +kernel
theorem dX1_rounded_67 : decode cX1_rounded 67 = .ok (.ifCond .ne 7, 3) := by decide +kernel
theorem dX1_rounded_70 : decode cX1_rounded 70 = .ok (.iconst 1, 1) := by decide +kernel
theorem dX1_rounded_71 : decode cX1_rounded 71 = .ok (.goto 4, 3) := by decide +kernel
theorem dX1_rounded_74 : decode cX1_rounded 74 = .ok (.iconst 0, 1) := by decide +kernel
theorem dX1_rounded_75 : decode cX1_rounded 75 = .ok (.putfield 60, 3) := by decide +kernel
theorem dX1_rounded_78 : decode cX1_rounded 78 = .ok (.aload_n 0, 1) := by decide +kernel
theorem dX1_rounded_79 : decode cX1_rounded 79 = .ok (.getfield 60, 3) := by decide +kernel
theorem dX1_rounded_82 : decode cX1_rounded 82 = .ok (.ifCond .eq 5, 3) := by decide +kernel
theorem dX1_rounded_85 : decode cX1_rounded 85 = .ok (.iload_n 3, 1) := by decide +kernel
theorem dX1_rounded_86 : decode cX1_rounded 86 = .ok (.ireturn, 1) := by decide +kernel
theorem dX1_rounded_87 : decode cX1_rounded 87 = .ok (.aload_n 0, 1) := by decide +kernel
theorem dX1_rounded_88 : decode cX1_rounded 88 = .ok (.getfield 13, 3) := by decide +kernel
theorem dX1_rounded_91 : decode cX1_rounded 91 = .ok (.ifCond .ne 28, 3) := by decide +kernel
theorem dX1_rounded_94 : decode cX1_rounded 94 = .ok (.iload 4, 2) := by decide +kernel
theorem dX1_rounded_96 : decode cX1_rounded 96 = .ok (.ifCond .eq 19, 3) := by decide +kernel
theorem dX1_rounded_99 : decode cX1_rounded 99 = .ok (.iload 5, 2) := by decide +kernel
theorem dX1_rounded_101 : decode cX1_rounded 101 = .ok (.ifCond .ne 10, 3) := by decide +kernel
theorem dX1_rounded_104 : decode cX1_rounded 104 = .ok (.iload_n 3, 1) := by decide +kernel
theorem dX1_rounded_105 : decode cX1_rounded 105 = .ok (.iconst 2, 1) := by decide +kernel
theorem dX1_rounded_106 : decode cX1_rounded 106 = .ok (.irem, 1) := by decide +kernel
theorem dX1_rounded_107 : decode cX1_rounded 107 = .ok (.iconst 1, 1) := by decide +kernel
theorem dX1_rounded_108 : decode cX1_rounded 108 = .ok (.if_icmp .ne 7, 3) := by decide +kernel
theorem dX1_rounded_111 : decode cX1_rounded 111 = .ok (.iconst 1, 1) := by decide +kernel
theorem dX1_rounded_112 : decode cX1_rounded 112 = .ok (.goto 44, 3) := by decide +kernel
theorem dX1_rounded_115 : decode cX1_rounded 115 = .ok (.iconst 0, 1) := by decide +kernel
theorem dX1_rounded_116 : decode cX1_rounded 116 = .ok (.goto 40, 3) := by decide +kernel
theorem dX1_rounded_119 : decode cX1_rounded 119 = .ok (.aload_n 0, 1) := by decide +kernel
theorem dX1_rounded_120 : decode cX1_rounded 120 = .ok (.getfield 13, 3) := by decide +kernel
theorem dX1_rounded_123 : decode cX1_rounded 123 = .ok (.iconst 2, 1) := by decide +kernel
theorem dX1_rounded_124 : decode cX1_rounded 124 = .ok (.if_icmp .ne 15, 3) := by decide +kernel
theorem dX1_rounded_127 : decode cX1_rounded 127 = .ok (.iload_n 2, 1) := by decide +kernel
theorem dX1_rounded_128 : decode cX1_rounded 128 = .ok (.ifCond .ne 7, 3) := by decide +kernel
theorem dX1_rounded_131 : decode cX1_rounded 131 = .ok (.iconst 1, 1) := by decide +kernel
theorem dX1_rounded_132 : decode cX1_rounded 132 = .ok (.goto 24, 3) := by decide +kernel
theorem dX1_rounded_135 : decode cX1_rounded 135 = .ok (.iconst 0, 1) := by decide +kernel
theorem dX1_rounded_136 : decode cX1_rounded 136 = .ok (.goto 20, 3) := by decide +kernel
theorem dX1_rounded_139 : decode cX1_rounded 139 = .ok (.aload_n 0, 1) := by decide +kernel
theorem dX1_rounded_140 : decode cX1_rounded 140 = .ok (.getfield 13, 3) := by decide +kernel
theorem dX1_rounded_143 : decode cX1_rounded 143 = .ok (.iconst 3, 1) := by decide +kernel
theorem dX1_rounded_144 : decode cX1_rounded 144 = .ok (.if_icmp .ne 11, 3) := by decide +kernel
theorem dX1_rounded_147 : decode cX1_rounded 147 = .ok (.iload_n 2, 1) := by decide +kernel
theorem dX1_rounded_148 : decode cX1_rounded 148 = .ok (.ifCond .eq 7, 3) := by decide +kernel
theorem dX1_rounded_151 : decode cX1_rounded 151 = .ok (.iconst 1, 1) := by decide +kernel
theorem dX1_rounded_152 : decode cX1_rounded 152 = .ok (.goto 4, 3) := by decide +kernel
theorem dX1_rounded_155 : decode cX1_rounded 155 = .ok (.iconst 0, 1) := by decide +kernel
theorem dX1_rounded_156 : decode cX1_rounded 156 = .ok (.istore 6, 2) := by decide +kernel
theorem dX1_rounded_158 : decode cX1_rounded 158 = .ok (.iload 6, 2) := by decide +kernel
theorem dX1_rounded_160 : decode cX1_rounded 160 = .ok (.ifCond .eq 9, 3) := by decide +kernel
theorem dX1_rounded_163 : decode cX1_rounded 163 = .ok (.iload_n 3, 1) := by decide +kernel
theorem dX1_rounded_164 : decode cX1_rounded 164 = .ok (.iconst 1, 1) := by decide +kernel
theorem dX1_rounded_165 : decode cX1_rounded 165 = .ok (.iadd, 1) := by decide +kernel
theorem dX1_rounded_166 : decode cX1_rounded 166 = .ok (.goto 4, 3) := by decide +kernel
theorem dX1_rounded_169 : decode cX1_rounded 169 = .ok (.iload_n 3, 1) := by decide +kernel
theorem dX1_rounded_170 : decode cX1_rounded 170 = .ok (.ireturn, 1) := by decide +kernel
set_option maxRecDepth 20000 in
theorem ggX1_finish_X1_top : GoodIn wsX1_finish wsX1_top := goodIn_r _ [13, 14, 15, 16, 12, 17, 18, 32, 33, 34, 35, 36, 37] (by decide +kernel) (by decide +kernel)
set_option maxRecDepth 20000 in
theorem gX1_finish_X1_top : GoodIn wsX1_finish (wsV RX1 63 RX1 yX1_top wsX1_top) := goodIn_app (goodIn_of _ (by decide +kernel)) ggX1_finish_X1_top
set_option maxRecDepth 20000 in
theorem ggX1_finish_X1_rounded : GoodIn wsX1_finish wsX1_rounded := goodIn_r _ [22, 3, 5, 14, 15, 16, 12, 17, 18, 23, 24, 25, 26, 27, 32, 33, 34, 35, 36, 37] (by decide +kernel) (by decide +kernel)
set_option maxRecDepth 20000 in
theorem gX1_finish_X1_rounded : GoodIn wsX1_finish (wsV RX1 67 RX1 yX1_rounded wsX1_rounded) := goodIn_app (goodIn_of _ (by decide +kernel)) ggX1_finish_X1_rounded
set_option maxRecDepth 20000 in
theorem ggX1_finish_X1_signed : GoodIn wsX1_finish wsX1_signed := goodIn_r _ [30, 31] (by decide +kernel) (by decide +kernel)
set_option maxRecDepth 20000 in
theorem gX1_finish_X1_signed : GoodIn wsX1_finish (va_wsS RX1 74 yX1_signed wsX1_signed) := goodIn_app (goodIn_of _ (by decide +kernel)) ggX1_finish_X1_signed
theorem dX1_finish_0 : decode cX1_finish 0 = .ok (.aload_n 0, 1) := by decide +kernel
theorem dX1_finish_1 : decode cX1_finish 1 = .ok (.invokevirtual 63, 3) := by decide +kernel
theorem dX1_finish_4 : decode cX1_finish 4 = .ok (.aload_n 0, 1) := by decide +kernel
theorem dX1_finish_5 : decode cX1_finish 5 = .ok (.getfield 40, 3) := by decide +kernel
theorem dX1_finish_8 : decode cX1_finish 8 = .ok (.iadd, 1) := by decide +kernel
theorem dX1_finish_9 : decode cX1_finish 9 = .ok (.bipush 23, 2) := by decide +kernel
theorem dX1_finish_11 : decode cX1_finish 11 = .ok (.isub, 1) := by decide +kernel
theorem dX1_finish_12 : decode cX1_finish 12 = .ok (.istore_n 2, 1) := by decide +kernel
theorem dX1_finish_13 : decode cX1_finish 13 = .ok (.iload_n 2, 1) := by decide +kernel
theorem dX1_finish_14 : decode cX1_finish 14 = .ok (.sipush (-149), 3) := by decide +kernel
theorem dX1_finish_17 : decode cX1_finish 17 = .ok (.if_icmp .ge 9, 3) := by decide +kernel
theorem dX1_finish_20 : decode cX1_finish 20 = .ok (.sipush (-149), 3) := by decide +kernel
theorem dX1_finish_23 : decode cX1_finish 23 = .ok (.goto 4, 3) := by decide +kernel
theorem dX1_finish_26 : decode cX1_finish 26 = .ok (.iload_n 2, 1) := by decide +kernel
theorem dX1_finish_27 : decode cX1_finish 27 = .ok (.istore_n 3, 1) := by decide +kernel
theorem dX1_finish_28 : decode cX1_finish 28 = .ok (.iconst 0, 1) := by decide +kernel
theorem dX1_finish_29 : decode cX1_finish 29 = .ok (.istore 4, 2) := by decide +kernel
theorem dX1_finish_31 : decode cX1_finish 31 = .ok (.iload_n 2, 1) := by decide +kernel
theorem dX1_finish_32 : decode cX1_finish 32 = .ok (.sipush (-149), 3) := by decide +kernel
theorem dX1_finish_35 : decode cX1_finish 35 = .ok (.if_icmp .ge 33, 3) := by decide +kernel
theorem dX1_finish_38 : decode cX1_finish 38 = .ok (.aload_n 0, 1) := by decide +kernel
theorem dX1_finish_39 : decode cX1_finish 39 = .ok (.iload_n 2, 1) := by decide +kernel
theorem dX1_finish_40 : decode cX1_finish 40 = .ok (.aload_n 0, 1) := by decide +kernel
theorem dX1_finish_41 : decode cX1_finish 41 = .ok (.getfield 40, 3) := by decide +kernel
theorem dX1_finish_44 : decode cX1_finish 44 = .ok (.isub, 1) := by decide +kernel
theorem dX1_finish_45 : decode cX1_finish 45 = .ok (.iload_n 1, 1) := by decide +kernel
theorem dX1_finish_46 : decode cX1_finish 46 = .ok (.invokevirtual 67, 3) := by decide +kernel
theorem dX1_finish_49 : decode cX1_finish 49 = .ok (.ldc 71, 2) := by decide +kernel
theorem dX1_finish_51 : decode cX1_finish 51 = .ok (.if_icmp .lt 10, 3) := by decide +kernel
theorem dX1_finish_54 : decode cX1_finish 54 = .ok (.iload_n 2, 1) := by decide +kernel
theorem dX1_finish_55 : decode cX1_finish 55 = .ok (.sipush (-150), 3) := by decide +kernel
theorem dX1_finish_58 : decode cX1_finish 58 = .ok (.if_icmp .ge 7, 3) := by decide +kernel
theorem dX1_finish_61 : decode cX1_finish 61 = .ok (.iconst 1, 1) := by decide +kernel
theorem dX1_finish_62 : decode cX1_finish 62 = .ok (.goto 4, 3) := by decide +kernel
theorem dX1_finish_65 : decode cX1_finish 65 = .ok (.iconst 0, 1) := by decide +kernel
theorem dX1_finish_66 : decode cX1_finish 66 = .ok (.istore 4, 2) := by decide +kernel
theorem dX1_finish_68 : decode cX1_finish 68 = .ok (.aload_n 0, 1) := by decide +kernel
theorem dX1_finish_69 : decode cX1_finish 69 = .ok (.iload_n 3, 1) := by decide +kernel
theorem dX1_finish_70 : decode cX1_finish 70 = .ok (.aload_n 0, 1) := by decide +kernel
theorem dX1_finish_71 : decode cX1_finish 71 = .ok (.getfield 40, 3) := by decide +kernel
theorem dX1_finish_74 : decode cX1_finish 74 = .ok (.isub, 1) := by decide +kernel
theorem dX1_finish_75 : decode cX1_finish 75 = .ok (.iload_n 1, 1) := by decide +kernel
theorem dX1_finish_76 : decode cX1_finish 76 = .ok (.invokevirtual 67, 3) := by decide +kernel
theorem dX1_finish_79 : decode cX1_finish 79 = .ok (.istore 5, 2) := by decide +kernel
theorem dX1_finish_81 : decode cX1_finish 81 = .ok (.aload_n 0, 1) := by decide +kernel
theorem dX1_finish_82 : decode cX1_finish 82 = .ok (.getfield 60, 3) := by decide +kernel
theorem dX1_finish_85 : decode cX1_finish 85 = .ok (.ifCond .ne 13, 3) := by decide +kernel
theorem dX1_finish_88 : decode cX1_finish 88 = .ok (.aload_n 0, 1) := by decide +kernel
theorem dX1_finish_89 : decode cX1_finish 89 = .ok (.aload_n 0, 1) := by decide +kernel
theorem dX1_finish_90 : decode cX1_finish 90 = .ok (.getfield 17, 3) := by decide +kernel
theorem dX1_finish_93 : decode cX1_finish 93 = .ok (.iconst 1, 1) := by decide +kernel
theorem dX1_finish_94 : decode cX1_finish 94 = .ok (.ior, 1) := by decide +kernel
theorem dX1_finish_95 : decode cX1_finish 95 = .ok (.putfield 17, 3) := by decide +kernel
theorem dX1_finish_98 : decode cX1_finish 98 = .ok (.aload_n 0, 1) := by decide +kernel
theorem dX1_finish_99 : decode cX1_finish 99 = .ok (.getfield 60, 3) := by decide +kernel
theorem dX1_finish_102 : decode cX1_finish 102 = .ok (.ifCond .ne 18, 3) := by decide +kernel
theorem dX1_finish_105 : decode cX1_finish 105 = .ok (.iload 4, 2) := by decide +kernel
theorem dX1_finish_107 : decode cX1_finish 107 = .ok (.ifCond .eq 13, 3) := by decide +kernel
theorem dX1_finish_110 : decode cX1_finish 110 = .ok (.aload_n 0, 1) := by decide +kernel
theorem dX1_finish_111 : decode cX1_finish 111 = .ok (.aload_n 0, 1) := by decide +kernel
theorem dX1_finish_112 : decode cX1_finish 112 = .ok (.getfield 17, 3) := by decide +kernel
theorem dX1_finish_115 : decode cX1_finish 115 = .ok (.iconst 2, 1) := by decide +kernel
theorem dX1_finish_116 : decode cX1_finish 116 = .ok (.ior, 1) := by decide +kernel
theorem dX1_finish_117 : decode cX1_finish 117 = .ok (.putfield 17, 3) := by decide +kernel
theorem dX1_finish_120 : decode cX1_finish 120 = .ok (.iload_n 3, 1) := by decide +kernel
theorem dX1_finish_121 : decode cX1_finish 121 = .ok (.bipush 104, 2) := by decide +kernel
theorem dX1_finish_123 : decode cX1_finish 123 = .ok (.if_icmp .gt 16, 3) := by decide +kernel
theorem dX1_finish_126 : decode cX1_finish 126 = .ok (.iload_n 3, 1) := by decide +kernel
theorem dX1_finish_127 : decode cX1_finish 127 = .ok (.bipush 104, 2) := by decide +kernel
theorem dX1_finish_129 : decode cX1_finish 129 = .ok (.if_icmp .ne 78, 3) := by decide +kernel
theorem dX1_finish_132 : decode cX1_finish 132 = .ok (.iload 5, 2) := by decide +kernel
theorem dX1_finish_134 : decode cX1_finish 134 = .ok (.ldc 71, 2) := by decide +kernel
theorem dX1_finish_136 : decode cX1_finish 136 = .ok (.if_icmp .ne 71, 3) := by decide +kernel
theorem dX1_finish_139 : decode cX1_finish 139 = .ok (.aload_n 0, 1) := by decide +kernel
theorem dX1_finish_140 : decode cX1_finish 140 = .ok (.aload_n 0, 1) := by decide +kernel
theorem dX1_finish_141 : decode cX1_finish 141 = .ok (.getfield 17, 3) := by decide +kernel
theorem dX1_finish_144 : decode cX1_finish 144 = .ok (.iconst 4, 1) := by decide +kernel
theorem dX1_finish_145 : decode cX1_finish 145 = .ok (.ior, 1) := by decide +kernel
theorem dX1_finish_146 : decode cX1_finish 146 = .ok (.iconst 1, 1) := by decide +kernel
theorem dX1_finish_147 : decode cX1_finish 147 = .ok (.ior, 1) := by decide +kernel
theorem dX1_finish_148 : decode cX1_finish 148 = .ok (.putfield 17, 3) := by decide +kernel
theorem dX1_finish_151 : decode cX1_finish 151 = .ok (.aload_n 0, 1) := by decide +kernel
theorem dX1_finish_152 : decode cX1_finish 152 = .ok (.getfield 13, 3) := by decide +kernel
theorem dX1_finish_155 : decode cX1_finish 155 = .ok (.iconst 1, 1) := by decide +kernel
theorem dX1_finish_156 : decode cX1_finish 156 = .ok (.if_icmp .eq 27, 3) := by decide +kernel
theorem dX1_finish_159 : decode cX1_finish 159 = .ok (.aload_n 0, 1) := by decide +kernel
theorem dX1_finish_160 : decode cX1_finish 160 = .ok (.getfield 13, 3) := by decide +kernel
theorem dX1_finish_163 : decode cX1_finish 163 = .ok (.iconst 2, 1) := by decide +kernel
theorem dX1_finish_164 : decode cX1_finish 164 = .ok (.if_icmp .ne 7, 3) := by decide +kernel
theorem dX1_finish_167 : decode cX1_finish 167 = .ok (.iload_n 1, 1) := by decide +kernel
theorem dX1_finish_168 : decode cX1_finish 168 = .ok (.ifCond .ne 15, 3) := by decide +kernel
theorem dX1_finish_171 : decode cX1_finish 171 = .ok (.aload_n 0, 1) := by decide +kernel
theorem dX1_finish_172 : decode cX1_finish 172 = .ok (.getfield 13, 3) := by decide +kernel
theorem dX1_finish_175 : decode cX1_finish 175 = .ok (.iconst 3, 1) := by decide +kernel
theorem dX1_finish_176 : decode cX1_finish 176 = .ok (.if_icmp .ne 11, 3) := by decide +kernel
theorem dX1_finish_179 : decode cX1_finish 179 = .ok (.iload_n 1, 1) := by decide +kernel
theorem dX1_finish_180 : decode cX1_finish 180 = .ok (.ifCond .ne 7, 3) := by decide +kernel
theorem dX1_finish_183 : decode cX1_finish 183 = .ok (.iconst 1, 1) := by decide +kernel
theorem dX1_finish_184 : decode cX1_finish 184 = .ok (.goto 4, 3) := by decide +kernel
theorem dX1_finish_187 : decode cX1_finish 187 = .ok (.iconst 0, 1) := by decide +kernel
theorem dX1_finish_188 : decode cX1_finish 188 = .ok (.istore 6, 2) := by decide +kernel
theorem dX1_finish_190 : decode cX1_finish 190 = .ok (.iload 6, 2) := by decide +kernel
theorem dX1_finish_192 : decode cX1_finish 192 = .ok (.ifCond .eq 8, 3) := by decide +kernel
theorem dX1_finish_195 : decode cX1_finish 195 = .ok (.ldc 72, 2) := by decide +kernel
theorem dX1_finish_197 : decode cX1_finish 197 = .ok (.goto 5, 3) := by decide +kernel
theorem dX1_finish_200 : decode cX1_finish 200 = .ok (.ldc 73, 2) := by decide +kernel
theorem dX1_finish_202 : decode cX1_finish 202 = .ok (.iload_n 1, 1) := by decide +kernel
theorem dX1_finish_203 : decode cX1_finish 203 = .ok (.invokestatic 74, 3) := by decide +kernel
theorem dX1_finish_206 : decode cX1_finish 206 = .ok (.ireturn, 1) := by decide +kernel
theorem dX1_finish_207 : decode cX1_finish 207 = .ok (.iload 5, 2) := by decide +kernel
theorem dX1_finish_209 : decode cX1_finish 209 = .ok (.ldc 71, 2) := by decide +kernel
theorem dX1_finish_211 : decode cX1_finish 211 = .ok (.if_icmp .ne 16, 3) := by decide +kernel
theorem dX1_finish_214 : decode cX1_finish 214 = .ok (.iload_n 3, 1) := by decide +kernel
theorem dX1_finish_215 : decode cX1_finish 215 = .ok (.sipush 151, 3) := by decide +kernel
theorem dX1_finish_218 : decode cX1_finish 218 = .ok (.iadd, 1) := by decide +kernel
theorem dX1_finish_219 : decode cX1_finish 219 = .ok (.bipush 23, 2) := by decide +kernel
theorem dX1_finish_221 : decode cX1_finish 221 = .ok (.ishl, 1) := by decide +kernel
theorem dX1_finish_222 : decode cX1_finish 222 = .ok (.iload_n 1, 1) := by decide +kernel
theorem dX1_finish_223 : decode cX1_finish 223 = .ok (.invokestatic 74, 3) := by decide +kernel
theorem dX1_finish_226 : decode cX1_finish 226 = .ok (.ireturn, 1) := by decide +kernel
theorem dX1_finish_227 : decode cX1_finish 227 = .ok (.iload 5, 2) := by decide +kernel
theorem dX1_finish_229 : decode cX1_finish 229 = .ok (.ldc 35, 2) := by decide +kernel
theorem dX1_finish_231 : decode cX1_finish 231 = .ok (.if_icmp .ge 8, 3) := by decide +kernel
theorem dX1_finish_234 : decode cX1_finish 234 = .ok (.iload 5, 2) := by decide +kernel
theorem dX1_finish_236 : decode cX1_finish 236 = .ok (.goto 17, 3) := by decide +kernel
theorem dX1_finish_239 : decode cX1_finish 239 = .ok (.iload_n 3, 1) := by decide +kernel
theorem dX1_finish_240 : decode cX1_finish 240 = .ok (.sipush 150, 3) := by decide +kernel
theorem dX1_finish_243 : decode cX1_finish 243 = .ok (.iadd, 1) := by decide +kernel
theorem dX1_finish_244 : decode cX1_finish 244 = .ok (.bipush 23, 2) := by decide +kernel
theorem dX1_finish_246 : decode cX1_finish 246 = .ok (.ishl, 1) := by decide +kernel
theorem dX1_finish_247 : decode cX1_finish 247 = .ok (.iload 5, 2) := by decide +kernel
theorem dX1_finish_249 : decode cX1_finish 249 = .ok (.iadd, 1) := by decide +kernel
theorem dX1_finish_250 : decode cX1_finish 250 = .ok (.ldc 35, 2) := by decide +kernel
theorem dX1_finish_252 : decode cX1_finish 252 = .ok (.isub, 1) := by decide +kernel
theorem dX1_finish_253 : decode cX1_finish 253 = .ok (.iload_n 1, 1) := by decide +kernel
theorem dX1_finish_254 : decode cX1_finish 254 = .ok (.invokestatic 74, 3) := by decide +kernel
theorem dX1_finish_257 : decode cX1_finish 257 = .ok (.ireturn, 1) := by decide +kernel
set_option maxRecDepth 20000 in
theorem ggX1_zero_X1_signed : GoodIn wsX1_zero wsX1_signed := goodIn_r _ [5, 6] (by decide +kernel) (by decide +kernel)
set_option maxRecDepth 20000 in
theorem gX1_zero_X1_signed : GoodIn wsX1_zero (va_wsS RX1 74 yX1_signed wsX1_signed) := goodIn_app (goodIn_of _ (by decide +kernel)) ggX1_zero_X1_signed
theorem dX1_zero_0 : decode cX1_zero 0 = .ok (.iload_n 1, 1) := by decide +kernel
theorem dX1_zero_1 : decode cX1_zero 1 = .ok (.ifCond .eq 14, 3) := by decide +kernel
theorem dX1_zero_4 : decode cX1_zero 4 = .ok (.iload_n 2, 1) := by decide +kernel
theorem dX1_zero_5 : decode cX1_zero 5 = .ok (.iload_n 3, 1) := by decide +kernel
theorem dX1_zero_6 : decode cX1_zero 6 = .ok (.if_icmp .ne 9, 3) := by decide +kernel
theorem dX1_zero_9 : decode cX1_zero 9 = .ok (.iconst 0, 1) := by decide +kernel
theorem dX1_zero_10 : decode cX1_zero 10 = .ok (.iload_n 2, 1) := by decide +kernel
theorem dX1_zero_11 : decode cX1_zero 11 = .ok (.invokestatic 74, 3) := by decide +kernel
theorem dX1_zero_14 : decode cX1_zero 14 = .ok (.ireturn, 1) := by decide +kernel
theorem dX1_zero_15 : decode cX1_zero 15 = .ok (.iconst 0, 1) := by decide +kernel
theorem dX1_zero_16 : decode cX1_zero 16 = .ok (.aload_n 0, 1) := by decide +kernel
theorem dX1_zero_17 : decode cX1_zero 17 = .ok (.getfield 13, 3) := by decide +kernel
theorem dX1_zero_20 : decode cX1_zero 20 = .ok (.iconst 3, 1) := by decide +kernel
theorem dX1_zero_21 : decode cX1_zero 21 = .ok (.if_icmp .ne 7, 3) := by decide +kernel
theorem dX1_zero_24 : decode cX1_zero 24 = .ok (.iconst 1, 1) := by decide +kernel
theorem dX1_zero_25 : decode cX1_zero 25 = .ok (.goto 4, 3) := by decide +kernel
theorem dX1_zero_28 : decode cX1_zero 28 = .ok (.iconst 0, 1) := by decide +kernel
theorem dX1_zero_29 : decode cX1_zero 29 = .ok (.invokestatic 74, 3) := by decide +kernel
theorem dX1_zero_32 : decode cX1_zero 32 = .ok (.ireturn, 1) := by decide +kernel
set_option maxRecDepth 20000 in
theorem ggX1_add_X1_isNone : GoodIn wsX1_add wsX1_isNone := goodIn_r _ [4, 5, 6, 3, 7, 8, 9, 10, 11] (by decide +kernel) (by decide +kernel)
set_option maxRecDepth 20000 in
theorem gX1_add_X1_isNone : GoodIn wsX1_add (va_wsS RX1 28 yX1_isNone wsX1_isNone) := goodIn_app (goodIn_of _ (by decide +kernel)) ggX1_add_X1_isNone
set_option maxRecDepth 20000 in
theorem ggX1_add_X1_none : GoodIn wsX1_add wsX1_none := goodIn_r _ [15, 16, 17, 18, 19, 3, 20, 21, 1, 2, 4, 5, 6, 7, 8, 9, 10, 11, 97, 98, 99, 100, 101, 102] (by decide +kernel) (by decide +kernel)
set_option maxRecDepth 20000 in
theorem gX1_add_X1_none : GoodIn wsX1_add (wsV RX1 77 RX1 yX1_none wsX1_none) := goodIn_app (goodIn_of _ (by decide +kernel)) ggX1_add_X1_none
set_option maxRecDepth 20000 in
theorem ggX1_add_X1_isInfinite : GoodIn wsX1_add wsX1_isInfinite := goodIn_r _ [24, 5, 6, 3, 7, 8, 9, 10, 11] (by decide +kernel) (by decide +kernel)
set_option maxRecDepth 20000 in
theorem gX1_add_X1_isInfinite : GoodIn wsX1_add (va_wsS RX1 81 yX1_isInfinite wsX1_isInfinite) := goodIn_app (goodIn_of _ (by decide +kernel)) ggX1_add_X1_isInfinite
set_option maxRecDepth 20000 in
theorem ggX1_add_X1_isNegative : GoodIn wsX1_add wsX1_isNegative := goodIn_r _ [27] (by decide +kernel) (by decide +kernel)
set_option maxRecDepth 20000 in
theorem gX1_add_X1_isNegative : GoodIn wsX1_add (va_wsS RX1 84 yX1_isNegative wsX1_isNegative) := goodIn_app (goodIn_of _ (by decide +kernel)) ggX1_add_X1_isNegative
set_option maxRecDepth 20000 in
theorem ggX1_add_X1_invalid : GoodIn wsX1_add wsX1_invalid := goodIn_r _ [31, 16, 17, 97, 98, 99, 100, 101, 102] (by decide +kernel) (by decide +kernel)
set_option maxRecDepth 20000 in
theorem gX1_add_X1_invalid : GoodIn wsX1_add (wsV RX1 87 RX1 yX1_invalid wsX1_invalid) := goodIn_app (goodIn_of _ (by decide +kernel)) ggX1_add_X1_invalid
set_option maxRecDepth 20000 in
theorem ggX1_add_X1_empty : GoodIn wsX1_add wsX1_empty := goodIn_r _ [35, 36, 37, 38, 97, 98, 99, 100, 101, 102] (by decide +kernel) (by decide +kernel)
set_option maxRecDepth 20000 in
theorem gX1_add_X1_empty : GoodIn wsX1_add (wsV RX1 90 RX1 yX1_empty wsX1_empty) := goodIn_app (goodIn_of _ (by decide +kernel)) ggX1_add_X1_empty
set_option maxRecDepth 20000 in
theorem ggX1_add_X1_units : GoodIn wsX1_add wsX1_units := goodIn_r _ [41, 42, 5, 6, 3, 7, 8, 9, 10, 11] (by decide +kernel) (by decide +kernel)
set_option maxRecDepth 20000 in
theorem gX1_add_X1_units : GoodIn wsX1_add (va_wsS RX1 94 yX1_units wsX1_units) := goodIn_app (goodIn_of _ (by decide +kernel)) ggX1_add_X1_units
set_option maxRecDepth 20000 in
theorem ggX1_add_X1_place : GoodIn wsX1_add wsX1_place := goodIn_r _ [45, 5, 6, 3, 7] (by decide +kernel) (by decide +kernel)
set_option maxRecDepth 20000 in
theorem gX1_add_X1_place : GoodIn wsX1_add (va_wsS RX1 97 yX1_place wsX1_place) := goodIn_app (goodIn_of _ (by decide +kernel)) ggX1_add_X1_place
set_option maxRecDepth 20000 in
theorem ggX1_add_X1_put : GoodIn wsX1_add wsX1_put := goodIn_r _ [49, 37, 36, 50, 97, 98, 99, 100, 101, 102] (by decide +kernel) (by decide +kernel)
set_option maxRecDepth 20000 in
theorem gX1_add_X1_put : GoodIn wsX1_add (wsV RX1 100 RX1 yX1_put wsX1_put) := goodIn_app (goodIn_of _ (by decide +kernel)) ggX1_add_X1_put
set_option maxRecDepth 20000 in
theorem ggX1_add_X1_settle : GoodIn wsX1_add wsX1_settle := goodIn_r _ [54, 36, 55, 56, 57, 3, 58, 59, 97, 98, 99, 100, 101, 102] (by decide +kernel) (by decide +kernel)
set_option maxRecDepth 20000 in
theorem gX1_add_X1_settle : GoodIn wsX1_add (wsV RX1 104 RX1 yX1_settle wsX1_settle) := goodIn_app (goodIn_of _ (by decide +kernel)) ggX1_add_X1_settle
set_option maxRecDepth 20000 in
theorem ggX1_add_X1_top : GoodIn wsX1_add wsX1_top := goodIn_r _ [63, 64, 65, 66, 3, 67, 36, 97, 98, 99, 100, 101, 102] (by decide +kernel) (by decide +kernel)
set_option maxRecDepth 20000 in
theorem gX1_add_X1_top : GoodIn wsX1_add (wsV RX1 63 RX1 yX1_top wsX1_top) := goodIn_app (goodIn_of _ (by decide +kernel)) ggX1_add_X1_top
set_option maxRecDepth 20000 in
theorem ggX1_add_X1_isZero : GoodIn wsX1_add wsX1_isZero := goodIn_r _ [70, 71] (by decide +kernel) (by decide +kernel)
set_option maxRecDepth 20000 in
theorem gX1_add_X1_isZero : GoodIn wsX1_add (va_wsS RX1 108 yX1_isZero wsX1_isZero) := goodIn_app (goodIn_of _ (by decide +kernel)) ggX1_add_X1_isZero
set_option maxRecDepth 20000 in
theorem ggX1_add_X1_zero : GoodIn wsX1_add wsX1_zero := goodIn_r _ [75, 76, 77, 78, 3, 79, 80, 97, 98, 99, 100, 101, 102] (by decide +kernel) (by decide +kernel)
set_option maxRecDepth 20000 in
theorem gX1_add_X1_zero : GoodIn wsX1_add (wsV RX1 111 RX1 yX1_zero wsX1_zero) := goodIn_app (goodIn_of _ (by decide +kernel)) ggX1_add_X1_zero
set_option maxRecDepth 20000 in
theorem ggX1_add_X1_finish : GoodIn wsX1_add wsX1_finish := goodIn_r _ [84, 37, 85, 86, 16, 76, 87, 88, 42, 60, 61, 62, 3, 63, 64, 65, 66, 67, 36, 89, 90, 91, 92, 93, 94, 95, 96, 38, 77, 78, 79, 80, 97, 98, 99, 100, 101, 102] (by decide +kernel) (by decide +kernel)
set_option maxRecDepth 20000 in
theorem gX1_add_X1_finish : GoodIn wsX1_add (wsV RX1 115 RX1 yX1_finish wsX1_finish) := goodIn_app (goodIn_of _ (by decide +kernel)) ggX1_add_X1_finish
theorem dX1_add_0 : decode cX1_add 0 = .ok (.iload_n 1, 1) := by decide +kernel
theorem dX1_add_1 : decode cX1_add 1 = .ok (.invokestatic 28, 3) := by decide +kernel
theorem dX1_add_4 : decode cX1_add 4 = .ok (.ifCond .ne 10, 3) := by decide +kernel
theorem dX1_add_7 : decode cX1_add 7 = .ok (.iload_n 2, 1) := by decide +kernel
theorem dX1_add_8 : decode cX1_add 8 = .ok (.invokestatic 28, 3) := by decide +kernel
theorem dX1_add_11 : decode cX1_add 11 = .ok (.ifCond .eq 11, 3) := by decide +kernel
theorem dX1_add_14 : decode cX1_add 14 = .ok (.aload_n 0, 1) := by decide +kernel
theorem dX1_add_15 : decode cX1_add 15 = .ok (.iload_n 1, 1) := by decide +kernel
theorem dX1_add_16 : decode cX1_add 16 = .ok (.iload_n 2, 1) := by decide +kernel
theorem dX1_add_17 : decode cX1_add 17 = .ok (.iconst 0, 1) := by decide +kernel
theorem dX1_add_18 : decode cX1_add 18 = .ok (.invokevirtual 77, 3) := by decide +kernel
theorem dX1_add_21 : decode cX1_add 21 = .ok (.ireturn, 1) := by decide +kernel
theorem dX1_add_22 : decode cX1_add 22 = .ok (.iload_n 1, 1) := by decide +kernel
theorem dX1_add_23 : decode cX1_add 23 = .ok (.invokestatic 81, 3) := by decide +kernel
theorem dX1_add_26 : decode cX1_add 26 = .ok (.ifCond .eq 26, 3) := by decide +kernel
theorem dX1_add_29 : decode cX1_add 29 = .ok (.iload_n 2, 1) := by decide +kernel
theorem dX1_add_30 : decode cX1_add 30 = .ok (.invokestatic 81, 3) := by decide +kernel
theorem dX1_add_33 : decode cX1_add 33 = .ok (.ifCond .eq 19, 3) := by decide +kernel
theorem dX1_add_36 : decode cX1_add 36 = .ok (.iload_n 1, 1) := by decide +kernel
theorem dX1_add_37 : decode cX1_add 37 = .ok (.invokestatic 84, 3) := by decide +kernel
theorem dX1_add_40 : decode cX1_add 40 = .ok (.iload_n 2, 1) := by decide +kernel
theorem dX1_add_41 : decode cX1_add 41 = .ok (.invokestatic 84, 3) := by decide +kernel
theorem dX1_add_44 : decode cX1_add 44 = .ok (.if_icmp .eq 8, 3) := by decide +kernel
theorem dX1_add_47 : decode cX1_add 47 = .ok (.aload_n 0, 1) := by decide +kernel
theorem dX1_add_48 : decode cX1_add 48 = .ok (.invokevirtual 87, 3) := by decide +kernel
theorem dX1_add_51 : decode cX1_add 51 = .ok (.ireturn, 1) := by decide +kernel
theorem dX1_add_52 : decode cX1_add 52 = .ok (.iload_n 1, 1) := by decide +kernel
theorem dX1_add_53 : decode cX1_add 53 = .ok (.invokestatic 81, 3) := by decide +kernel
theorem dX1_add_56 : decode cX1_add 56 = .ok (.ifCond .eq 5, 3) := by decide +kernel
theorem dX1_add_59 : decode cX1_add 59 = .ok (.iload_n 1, 1) := by decide +kernel
theorem dX1_add_60 : decode cX1_add 60 = .ok (.ireturn, 1) := by decide +kernel
theorem dX1_add_61 : decode cX1_add 61 = .ok (.iload_n 2, 1) := by decide +kernel
theorem dX1_add_62 : decode cX1_add 62 = .ok (.invokestatic 81, 3) := by decide +kernel
theorem dX1_add_65 : decode cX1_add 65 = .ok (.ifCond .eq 5, 3) := by decide +kernel
theorem dX1_add_68 : decode cX1_add 68 = .ok (.iload_n 2, 1) := by decide +kernel
theorem dX1_add_69 : decode cX1_add 69 = .ok (.ireturn, 1) := by decide +kernel
theorem dX1_add_70 : decode cX1_add 70 = .ok (.aload_n 0, 1) := by decide +kernel
theorem dX1_add_71 : decode cX1_add 71 = .ok (.sipush (-298), 3) := by decide +kernel
theorem dX1_add_74 : decode cX1_add 74 = .ok (.invokevirtual 90, 3) := by decide +kernel
theorem dX1_add_77 : decode cX1_add 77 = .ok (.aload_n 0, 1) := by decide +kernel
theorem dX1_add_78 : decode cX1_add 78 = .ok (.iload_n 1, 1) := by decide +kernel
theorem dX1_add_79 : decode cX1_add 79 = .ok (.invokestatic 94, 3) := by decide +kernel
theorem dX1_add_82 : decode cX1_add 82 = .ok (.i2l, 1) := by decide +kernel
theorem dX1_add_83 : decode cX1_add 83 = .ok (.iload_n 1, 1) := by decide +kernel
theorem dX1_add_84 : decode cX1_add 84 = .ok (.invokestatic 97, 3) := by decide +kernel
theorem dX1_add_87 : decode cX1_add 87 = .ok (.iload_n 1, 1) := by decide +kernel
theorem dX1_add_88 : decode cX1_add 88 = .ok (.invokestatic 84, 3) := by decide +kernel
theorem dX1_add_91 : decode cX1_add 91 = .ok (.invokevirtual 100, 3) := by decide +kernel
theorem dX1_add_94 : decode cX1_add 94 = .ok (.aload_n 0, 1) := by decide +kernel
theorem dX1_add_95 : decode cX1_add 95 = .ok (.iload_n 2, 1) := by decide +kernel
theorem dX1_add_96 : decode cX1_add 96 = .ok (.invokestatic 94, 3) := by decide +kernel
theorem dX1_add_99 : decode cX1_add 99 = .ok (.i2l, 1) := by decide +kernel
theorem dX1_add_100 : decode cX1_add 100 = .ok (.iload_n 2, 1) := by decide +kernel
theorem dX1_add_101 : decode cX1_add 101 = .ok (.invokestatic 97, 3) := by decide +kernel
theorem dX1_add_104 : decode cX1_add 104 = .ok (.iload_n 2, 1) := by decide +kernel
theorem dX1_add_105 : decode cX1_add 105 = .ok (.invokestatic 84, 3) := by decide +kernel
theorem dX1_add_108 : decode cX1_add 108 = .ok (.invokevirtual 100, 3) := by decide +kernel
theorem dX1_add_111 : decode cX1_add 111 = .ok (.aload_n 0, 1) := by decide +kernel
theorem dX1_add_112 : decode cX1_add 112 = .ok (.invokevirtual 104, 3) := by decide +kernel
theorem dX1_add_115 : decode cX1_add 115 = .ok (.istore_n 3, 1) := by decide +kernel
theorem dX1_add_116 : decode cX1_add 116 = .ok (.aload_n 0, 1) := by decide +kernel
theorem dX1_add_117 : decode cX1_add 117 = .ok (.invokevirtual 63, 3) := by decide +kernel
theorem dX1_add_120 : decode cX1_add 120 = .ok (.ifCond .ge 37, 3) := by decide +kernel
theorem dX1_add_123 : decode cX1_add 123 = .ok (.aload_n 0, 1) := by decide +kernel
theorem dX1_add_124 : decode cX1_add 124 = .ok (.iload_n 1, 1) := by decide +kernel
theorem dX1_add_125 : decode cX1_add 125 = .ok (.invokestatic 108, 3) := by decide +kernel
theorem dX1_add_128 : decode cX1_add 128 = .ok (.ifCond .eq 14, 3) := by decide +kernel
theorem dX1_add_131 : decode cX1_add 131 = .ok (.iload_n 2, 1) := by decide +kernel
theorem dX1_add_132 : decode cX1_add 132 = .ok (.invokestatic 108, 3) := by decide +kernel
theorem dX1_add_135 : decode cX1_add 135 = .ok (.ifCond .eq 7, 3) := by decide +kernel
theorem dX1_add_138 : decode cX1_add 138 = .ok (.iconst 1, 1) := by decide +kernel
theorem dX1_add_139 : decode cX1_add 139 = .ok (.goto 4, 3) := by decide +kernel
theorem dX1_add_142 : decode cX1_add 142 = .ok (.iconst 0, 1) := by decide +kernel
theorem dX1_add_143 : decode cX1_add 143 = .ok (.iload_n 1, 1) := by decide +kernel
theorem dX1_add_144 : decode cX1_add 144 = .ok (.invokestatic 84, 3) := by decide +kernel
theorem dX1_add_147 : decode cX1_add 147 = .ok (.iload_n 2, 1) := by decide +kernel
theorem dX1_add_148 : decode cX1_add 148 = .ok (.invokestatic 84, 3) := by decide +kernel
theorem dX1_add_151 : decode cX1_add 151 = .ok (.invokevirtual 111, 3) := by decide +kernel
theorem dX1_add_154 : decode cX1_add 154 = .ok (.goto 8, 3) := by decide +kernel
theorem dX1_add_157 : decode cX1_add 157 = .ok (.aload_n 0, 1) := by decide +kernel
theorem dX1_add_158 : decode cX1_add 158 = .ok (.iload_n 3, 1) := by decide +kernel
theorem dX1_add_159 : decode cX1_add 159 = .ok (.invokevirtual 115, 3) := by decide +kernel
theorem dX1_add_162 : decode cX1_add 162 = .ok (.ireturn, 1) := by decide +kernel
set_option maxRecDepth 20000 in
theorem ggX1_subtract_X1_isNone : GoodIn wsX1_subtract wsX1_isNone := goodIn_r _ [5, 6, 7, 4, 8, 9, 10, 11, 12] (by decide +kernel) (by decide +kernel)
set_option maxRecDepth 20000 in
theorem gX1_subtract_X1_isNone : GoodIn wsX1_subtract (va_wsS RX1 28 yX1_isNone wsX1_isNone) := goodIn_app (goodIn_of _ (by decide +kernel)) ggX1_subtract_X1_isNone
set_option maxRecDepth 20000 in
theorem ggX1_subtract_X1_none : GoodIn wsX1_subtract wsX1_none := goodIn_r _ [16, 17, 18, 19, 20, 4, 21, 22, 2, 3, 5, 6, 7, 8, 9, 10, 11, 12, 101, 102, 103, 104, 105, 106] (by decide +kernel) (by decide +kernel)
set_option maxRecDepth 20000 in
theorem gX1_subtract_X1_none : GoodIn wsX1_subtract (wsV RX1 77 RX1 yX1_none wsX1_none) := goodIn_app (goodIn_of _ (by decide +kernel)) ggX1_subtract_X1_none
set_option maxRecDepth 20000 in
theorem ggX1_subtract_X1_add : GoodIn wsX1_subtract wsX1_add := goodIn_r _ [26, 2, 3, 4, 5, 6, 7, 8, 9, 10, 11, 12, 13, 14, 15, 16, 17, 18, 19, 20, 21, 22, 27, 28, 29, 30, 31, 32, 33, 34, 35, 36, 37, 38, 39, 40, 41, 42, 43, 44, 45, 46, 47, 48, 49, 50, 51, 52, 53, 54, 55, 56, 57, 58, 59, 60, 61, 62, 63, 64, 65, 66, 67, 68, 69, 70, 71, 72, 73, 74, 75, 76, 77, 78, 79, 80, 81, 82, 83, 84, 1, 85, 86, 87, 88, 89, 90, 91, 92, 93, 94, 95, 96, 97, 98, 99, 100, 101, 102, 103, 104, 105, 106] (by decide +kernel) (by decide +kernel)
set_option maxRecDepth 20000 in
theorem gX1_subtract_X1_add : GoodIn wsX1_subtract (wsV RX1 119 RX1 yX1_add wsX1_add) := goodIn_app (goodIn_of _ (by decide +kernel)) ggX1_subtract_X1_add
theorem dX1_subtract_0 : decode cX1_subtract 0 = .ok (.iload_n 2, 1) := by decide +kernel
theorem dX1_subtract_1 : decode cX1_subtract 1 = .ok (.invokestatic 28, 3) := by decide +kernel
theorem dX1_subtract_4 : decode cX1_subtract 4 = .ok (.ifCond .eq 13, 3) := by decide +kernel
theorem dX1_subtract_7 : decode cX1_subtract 7 = .ok (.aload_n 0, 1) := by decide +kernel
theorem dX1_subtract_8 : decode cX1_subtract 8 = .ok (.iload_n 1, 1) := by decide +kernel
theorem dX1_subtract_9 : decode cX1_subtract 9 = .ok (.iload_n 2, 1) := by decide +kernel
theorem dX1_subtract_10 : decode cX1_subtract 10 = .ok (.iconst 0, 1) := by decide +kernel
theorem dX1_subtract_11 : decode cX1_subtract 11 = .ok (.invokevirtual 77, 3) := by decide +kernel
theorem dX1_subtract_14 : decode cX1_subtract 14 = .ok (.goto 12, 3) := by decide +kernel
theorem dX1_subtract_17 : decode cX1_subtract 17 = .ok (.aload_n 0, 1) := by decide +kernel
theorem dX1_subtract_18 : decode cX1_subtract 18 = .ok (.iload_n 1, 1) := by decide +kernel
theorem dX1_subtract_19 : decode cX1_subtract 19 = .ok (.iload_n 2, 1) := by decide +kernel
theorem dX1_subtract_20 : decode cX1_subtract 20 = .ok (.ldc 34, 2) := by decide +kernel
theorem dX1_subtract_22 : decode cX1_subtract 22 = .ok (.ixor, 1) := by decide +kernel
theorem dX1_subtract_23 : decode cX1_subtract 23 = .ok (.invokevirtual 119, 3) := by decide +kernel
theorem dX1_subtract_26 : decode cX1_subtract 26 = .ok (.ireturn, 1) := by decide +kernel
set_option maxRecDepth 20000 in
theorem ggX1_fused_X1_isNone : GoodIn wsX1_fused wsX1_isNone := goodIn_r _ [5, 6, 7, 4, 8, 9, 10, 11, 12] (by decide +kernel) (by decide +kernel)
set_option maxRecDepth 20000 in
theorem gX1_fused_X1_isNone : GoodIn wsX1_fused (va_wsS RX1 28 yX1_isNone wsX1_isNone) := goodIn_app (goodIn_of _ (by decide +kernel)) ggX1_fused_X1_isNone
set_option maxRecDepth 20000 in
theorem ggX1_fused_X1_isZero : GoodIn wsX1_fused wsX1_isZero := goodIn_r _ [15, 16] (by decide +kernel) (by decide +kernel)
set_option maxRecDepth 20000 in
theorem gX1_fused_X1_isZero : GoodIn wsX1_fused (va_wsS RX1 108 yX1_isZero wsX1_isZero) := goodIn_app (goodIn_of _ (by decide +kernel)) ggX1_fused_X1_isZero
set_option maxRecDepth 20000 in
theorem ggX1_fused_X1_isInfinite : GoodIn wsX1_fused wsX1_isInfinite := goodIn_r _ [19, 6, 7, 4, 8, 9, 10, 11, 12] (by decide +kernel) (by decide +kernel)
set_option maxRecDepth 20000 in
theorem gX1_fused_X1_isInfinite : GoodIn wsX1_fused (va_wsS RX1 81 yX1_isInfinite wsX1_isInfinite) := goodIn_app (goodIn_of _ (by decide +kernel)) ggX1_fused_X1_isInfinite
set_option maxRecDepth 20000 in
theorem ggX1_fused_X1_invalid : GoodIn wsX1_fused wsX1_invalid := goodIn_r _ [23, 24, 25, 97, 98, 99, 100, 101, 102] (by decide +kernel) (by decide +kernel)
set_option maxRecDepth 20000 in
theorem gX1_fused_X1_invalid : GoodIn wsX1_fused (wsV RX1 87 RX1 yX1_invalid wsX1_invalid) := goodIn_app (goodIn_of _ (by decide +kernel)) ggX1_fused_X1_invalid
set_option maxRecDepth 20000 in
theorem ggX1_fused_X1_none : GoodIn wsX1_fused wsX1_none := goodIn_r _ [29, 24, 25, 30, 31, 4, 32, 33, 2, 3, 5, 6, 7, 8, 9, 10, 11, 12, 97, 98, 99, 100, 101, 102] (by decide +kernel) (by decide +kernel)
set_option maxRecDepth 20000 in
theorem gX1_fused_X1_none : GoodIn wsX1_fused (wsV RX1 77 RX1 yX1_none wsX1_none) := goodIn_app (goodIn_of _ (by decide +kernel)) ggX1_fused_X1_none
set_option maxRecDepth 20000 in
theorem ggX1_fused_X1_isNegative : GoodIn wsX1_fused wsX1_isNegative := goodIn_r _ [36] (by decide +kernel) (by decide +kernel)
set_option maxRecDepth 20000 in
theorem gX1_fused_X1_isNegative : GoodIn wsX1_fused (va_wsS RX1 84 yX1_isNegative wsX1_isNegative) := goodIn_app (goodIn_of _ (by decide +kernel)) ggX1_fused_X1_isNegative
set_option maxRecDepth 20000 in
theorem ggX1_fused_X1_signed : GoodIn wsX1_fused wsX1_signed := goodIn_r _ [39, 40] (by decide +kernel) (by decide +kernel)
set_option maxRecDepth 20000 in
theorem gX1_fused_X1_signed : GoodIn wsX1_fused (va_wsS RX1 74 yX1_signed wsX1_signed) := goodIn_app (goodIn_of _ (by decide +kernel)) ggX1_fused_X1_signed
set_option maxRecDepth 20000 in
theorem ggX1_fused_X1_empty : GoodIn wsX1_fused wsX1_empty := goodIn_r _ [44, 45, 46, 47, 97, 98, 99, 100, 101, 102] (by decide +kernel) (by decide +kernel)
set_option maxRecDepth 20000 in
theorem gX1_fused_X1_empty : GoodIn wsX1_fused (wsV RX1 90 RX1 yX1_empty wsX1_empty) := goodIn_app (goodIn_of _ (by decide +kernel)) ggX1_fused_X1_empty
set_option maxRecDepth 20000 in
theorem ggX1_fused_X1_units : GoodIn wsX1_fused wsX1_units := goodIn_r _ [50, 51, 6, 7, 4, 8, 9, 10, 11, 12] (by decide +kernel) (by decide +kernel)
set_option maxRecDepth 20000 in
theorem gX1_fused_X1_units : GoodIn wsX1_fused (va_wsS RX1 94 yX1_units wsX1_units) := goodIn_app (goodIn_of _ (by decide +kernel)) ggX1_fused_X1_units
set_option maxRecDepth 20000 in
theorem ggX1_fused_X1_place : GoodIn wsX1_fused wsX1_place := goodIn_r _ [54, 6, 7, 4, 8] (by decide +kernel) (by decide +kernel)
set_option maxRecDepth 20000 in
theorem gX1_fused_X1_place : GoodIn wsX1_fused (va_wsS RX1 97 yX1_place wsX1_place) := goodIn_app (goodIn_of _ (by decide +kernel)) ggX1_fused_X1_place
set_option maxRecDepth 20000 in
theorem ggX1_fused_X1_put : GoodIn wsX1_fused wsX1_put := goodIn_r _ [58, 46, 45, 59, 97, 98, 99, 100, 101, 102] (by decide +kernel) (by decide +kernel)
set_option maxRecDepth 20000 in
theorem gX1_fused_X1_put : GoodIn wsX1_fused (wsV RX1 100 RX1 yX1_put wsX1_put) := goodIn_app (goodIn_of _ (by decide +kernel)) ggX1_fused_X1_put
set_option maxRecDepth 20000 in
theorem ggX1_fused_X1_settle : GoodIn wsX1_fused wsX1_settle := goodIn_r _ [63, 45, 64, 65, 66, 4, 67, 68, 97, 98, 99, 100, 101, 102] (by decide +kernel) (by decide +kernel)
set_option maxRecDepth 20000 in
theorem gX1_fused_X1_settle : GoodIn wsX1_fused (wsV RX1 104 RX1 yX1_settle wsX1_settle) := goodIn_app (goodIn_of _ (by decide +kernel)) ggX1_fused_X1_settle
set_option maxRecDepth 20000 in
theorem ggX1_fused_X1_top : GoodIn wsX1_fused wsX1_top := goodIn_r _ [72, 73, 74, 75, 4, 76, 45, 97, 98, 99, 100, 101, 102] (by decide +kernel) (by decide +kernel)
set_option maxRecDepth 20000 in
theorem gX1_fused_X1_top : GoodIn wsX1_fused (wsV RX1 63 RX1 yX1_top wsX1_top) := goodIn_app (goodIn_of _ (by decide +kernel)) ggX1_fused_X1_top
set_option maxRecDepth 20000 in
theorem ggX1_fused_X1_zero : GoodIn wsX1_fused wsX1_zero := goodIn_r _ [80, 81, 37, 38, 4, 39, 40, 97, 98, 99, 100, 101, 102] (by decide +kernel) (by decide +kernel)
set_option maxRecDepth 20000 in
theorem gX1_fused_X1_zero : GoodIn wsX1_fused (wsV RX1 111 RX1 yX1_zero wsX1_zero) := goodIn_app (goodIn_of _ (by decide +kernel)) ggX1_fused_X1_zero
set_option maxRecDepth 20000 in
theorem ggX1_fused_X1_finish : GoodIn wsX1_fused wsX1_finish := goodIn_r _ [85, 46, 86, 87, 24, 81, 88, 1, 51, 69, 70, 71, 4, 72, 73, 74, 75, 76, 45, 89, 90, 91, 92, 93, 94, 95, 96, 47, 37, 38, 39, 40, 97, 98, 99, 100, 101, 102] (by decide +kernel) (by decide +kernel)
set_option maxRecDepth 20000 in
theorem gX1_fused_X1_finish : GoodIn wsX1_fused (wsV RX1 115 RX1 yX1_finish wsX1_finish) := goodIn_app (goodIn_of _ (by decide +kernel)) ggX1_fused_X1_finish
theorem dX1_fused_0 : decode cX1_fused 0 = .ok (.iload_n 1, 1) := by decide +kernel
theorem dX1_fused_1 : decode cX1_fused 1 = .ok (.invokestatic 28, 3) := by decide +kernel
theorem dX1_fused_4 : decode cX1_fused 4 = .ok (.ifCond .ne 14, 3) := by decide +kernel
theorem dX1_fused_7 : decode cX1_fused 7 = .ok (.iload_n 2, 1) := by decide +kernel
theorem dX1_fused_8 : decode cX1_fused 8 = .ok (.invokestatic 28, 3) := by decide +kernel
theorem dX1_fused_11 : decode cX1_fused 11 = .ok (.ifCond .ne 7, 3) := by decide +kernel
theorem dX1_fused_14 : decode cX1_fused 14 = .ok (.iconst 1, 1) := by decide +kernel
theorem dX1_fused_15 : decode cX1_fused 15 = .ok (.goto 4, 3) := by decide +kernel
theorem dX1_fused_18 : decode cX1_fused 18 = .ok (.iconst 0, 1) := by decide +kernel
theorem dX1_fused_19 : decode cX1_fused 19 = .ok (.istore 4, 2) := by decide +kernel
theorem dX1_fused_21 : decode cX1_fused 21 = .ok (.iload 4, 2) := by decide +kernel
theorem dX1_fused_23 : decode cX1_fused 23 = .ok (.ifCond .eq 36, 3) := by decide +kernel
theorem dX1_fused_26 : decode cX1_fused 26 = .ok (.iload_n 1, 1) := by decide +kernel
theorem dX1_fused_27 : decode cX1_fused 27 = .ok (.invokestatic 108, 3) := by decide +kernel
theorem dX1_fused_30 : decode cX1_fused 30 = .ok (.ifCond .eq 10, 3) := by decide +kernel
theorem dX1_fused_33 : decode cX1_fused 33 = .ok (.iload_n 2, 1) := by decide +kernel
theorem dX1_fused_34 : decode cX1_fused 34 = .ok (.invokestatic 81, 3) := by decide +kernel
theorem dX1_fused_37 : decode cX1_fused 37 = .ok (.ifCond .ne 17, 3) := by decide +kernel
theorem dX1_fused_40 : decode cX1_fused 40 = .ok (.iload_n 1, 1) := by decide +kernel
theorem dX1_fused_41 : decode cX1_fused 41 = .ok (.invokestatic 81, 3) := by decide +kernel
theorem dX1_fused_44 : decode cX1_fused 44 = .ok (.ifCond .eq 15, 3) := by decide +kernel
theorem dX1_fused_47 : decode cX1_fused 47 = .ok (.iload_n 2, 1) := by decide +kernel
theorem dX1_fused_48 : decode cX1_fused 48 = .ok (.invokestatic 108, 3) := by decide +kernel
theorem dX1_fused_51 : decode cX1_fused 51 = .ok (.ifCond .eq 8, 3) := by decide +kernel
theorem dX1_fused_54 : decode cX1_fused 54 = .ok (.aload_n 0, 1) := by decide +kernel
theorem dX1_fused_55 : decode cX1_fused 55 = .ok (.invokevirtual 87, 3) := by decide +kernel
theorem dX1_fused_58 : decode cX1_fused 58 = .ok (.ireturn, 1) := by decide +kernel
theorem dX1_fused_59 : decode cX1_fused 59 = .ok (.iload 4, 2) := by decide +kernel
theorem dX1_fused_61 : decode cX1_fused 61 = .ok (.ifCond .eq 10, 3) := by decide +kernel
theorem dX1_fused_64 : decode cX1_fused 64 = .ok (.iload_n 3, 1) := by decide +kernel
theorem dX1_fused_65 : decode cX1_fused 65 = .ok (.invokestatic 28, 3) := by decide +kernel
theorem dX1_fused_68 : decode cX1_fused 68 = .ok (.ifCond .eq 11, 3) := by decide +kernel
theorem dX1_fused_71 : decode cX1_fused 71 = .ok (.aload_n 0, 1) := by decide +kernel
theorem dX1_fused_72 : decode cX1_fused 72 = .ok (.iload_n 1, 1) := by decide +kernel
theorem dX1_fused_73 : decode cX1_fused 73 = .ok (.iload_n 2, 1) := by decide +kernel
theorem dX1_fused_74 : decode cX1_fused 74 = .ok (.iload_n 3, 1) := by decide +kernel
theorem dX1_fused_75 : decode cX1_fused 75 = .ok (.invokevirtual 77, 3) := by decide +kernel
theorem dX1_fused_78 : decode cX1_fused 78 = .ok (.ireturn, 1) := by decide +kernel
theorem dX1_fused_79 : decode cX1_fused 79 = .ok (.iload_n 1, 1) := by decide +kernel
theorem dX1_fused_80 : decode cX1_fused 80 = .ok (.invokestatic 84, 3) := by decide +kernel
theorem dX1_fused_83 : decode cX1_fused 83 = .ok (.iload_n 2, 1) := by decide +kernel
theorem dX1_fused_84 : decode cX1_fused 84 = .ok (.invokestatic 84, 3) := by decide +kernel
theorem dX1_fused_87 : decode cX1_fused 87 = .ok (.if_icmp .eq 7, 3) := by decide +kernel
theorem dX1_fused_90 : decode cX1_fused 90 = .ok (.iconst 1, 1) := by decide +kernel
theorem dX1_fused_91 : decode cX1_fused 91 = .ok (.goto 4, 3) := by decide +kernel
theorem dX1_fused_94 : decode cX1_fused 94 = .ok (.iconst 0, 1) := by decide +kernel
theorem dX1_fused_95 : decode cX1_fused 95 = .ok (.istore 5, 2) := by decide +kernel
theorem dX1_fused_97 : decode cX1_fused 97 = .ok (.iload_n 1, 1) := by decide +kernel
theorem dX1_fused_98 : decode cX1_fused 98 = .ok (.invokestatic 81, 3) := by decide +kernel
theorem dX1_fused_101 : decode cX1_fused 101 = .ok (.ifCond .ne 10, 3) := by decide +kernel
theorem dX1_fused_104 : decode cX1_fused 104 = .ok (.iload_n 2, 1) := by decide +kernel
theorem dX1_fused_105 : decode cX1_fused 105 = .ok (.invokestatic 81, 3) := by decide +kernel
theorem dX1_fused_108 : decode cX1_fused 108 = .ok (.ifCond .eq 7, 3) := by decide +kernel
theorem dX1_fused_111 : decode cX1_fused 111 = .ok (.iconst 1, 1) := by decide +kernel
theorem dX1_fused_112 : decode cX1_fused 112 = .ok (.goto 4, 3) := by decide +kernel
theorem dX1_fused_115 : decode cX1_fused 115 = .ok (.iconst 0, 1) := by decide +kernel
theorem dX1_fused_116 : decode cX1_fused 116 = .ok (.istore 6, 2) := by decide +kernel
theorem dX1_fused_118 : decode cX1_fused 118 = .ok (.iload 6, 2) := by decide +kernel
theorem dX1_fused_120 : decode cX1_fused 120 = .ok (.ifCond .eq 24, 3) := by decide +kernel
theorem dX1_fused_123 : decode cX1_fused 123 = .ok (.iload_n 3, 1) := by decide +kernel
theorem dX1_fused_124 : decode cX1_fused 124 = .ok (.invokestatic 81, 3) := by decide +kernel
theorem dX1_fused_127 : decode cX1_fused 127 = .ok (.ifCond .eq 17, 3) := by decide +kernel
theorem dX1_fused_130 : decode cX1_fused 130 = .ok (.iload 5, 2) := by decide +kernel
theorem dX1_fused_132 : decode cX1_fused 132 = .ok (.iload_n 3, 1) := by decide +kernel
theorem dX1_fused_133 : decode cX1_fused 133 = .ok (.invokestatic 84, 3) := by decide +kernel
theorem dX1_fused_136 : decode cX1_fused 136 = .ok (.if_icmp .eq 8, 3) := by decide +kernel
theorem dX1_fused_139 : decode cX1_fused 139 = .ok (.aload_n 0, 1) := by decide +kernel
theorem dX1_fused_140 : decode cX1_fused 140 = .ok (.invokevirtual 87, 3) := by decide +kernel
theorem dX1_fused_143 : decode cX1_fused 143 = .ok (.ireturn, 1) := by decide +kernel
theorem dX1_fused_144 : decode cX1_fused 144 = .ok (.iload 6, 2) := by decide +kernel
theorem dX1_fused_146 : decode cX1_fused 146 = .ok (.ifCond .eq 11, 3) := by decide +kernel
theorem dX1_fused_149 : decode cX1_fused 149 = .ok (.ldc 73, 2) := by decide +kernel
theorem dX1_fused_151 : decode cX1_fused 151 = .ok (.iload 5, 2) := by decide +kernel
theorem dX1_fused_153 : decode cX1_fused 153 = .ok (.invokestatic 74, 3) := by decide +kernel
theorem dX1_fused_156 : decode cX1_fused 156 = .ok (.ireturn, 1) := by decide +kernel
theorem dX1_fused_157 : decode cX1_fused 157 = .ok (.iload_n 3, 1) := by decide +kernel
theorem dX1_fused_158 : decode cX1_fused 158 = .ok (.invokestatic 81, 3) := by decide +kernel
theorem dX1_fused_161 : decode cX1_fused 161 = .ok (.ifCond .eq 5, 3) := by decide +kernel
theorem dX1_fused_164 : decode cX1_fused 164 = .ok (.iload_n 3, 1) := by decide +kernel
theorem dX1_fused_165 : decode cX1_fused 165 = .ok (.ireturn, 1) := by decide +kernel
theorem dX1_fused_166 : decode cX1_fused 166 = .ok (.aload_n 0, 1) := by decide +kernel
theorem dX1_fused_167 : decode cX1_fused 167 = .ok (.sipush (-298), 3) := by decide +kernel
theorem dX1_fused_170 : decode cX1_fused 170 = .ok (.invokevirtual 90, 3) := by decide +kernel
theorem dX1_fused_173 : decode cX1_fused 173 = .ok (.aload_n 0, 1) := by decide +kernel
theorem dX1_fused_174 : decode cX1_fused 174 = .ok (.iload_n 1, 1) := by decide +kernel
theorem dX1_fused_175 : decode cX1_fused 175 = .ok (.invokestatic 94, 3) := by decide +kernel
theorem dX1_fused_178 : decode cX1_fused 178 = .ok (.i2l, 1) := by decide +kernel
theorem dX1_fused_179 : decode cX1_fused 179 = .ok (.iload_n 2, 1) := by decide +kernel
theorem dX1_fused_180 : decode cX1_fused 180 = .ok (.invokestatic 94, 3) := by decide +kernel
theorem dX1_fused_183 : decode cX1_fused 183 = .ok (.i2l, 1) := by decide +kernel
theorem dX1_fused_184 : decode cX1_fused 184 = .ok (.lmul, 1) := by decide +kernel
theorem dX1_fused_185 : decode cX1_fused 185 = .ok (.iload_n 1, 1) := by decide +kernel
theorem dX1_fused_186 : decode cX1_fused 186 = .ok (.invokestatic 97, 3) := by decide +kernel
theorem dX1_fused_189 : decode cX1_fused 189 = .ok (.iload_n 2, 1) := by decide +kernel
theorem dX1_fused_190 : decode cX1_fused 190 = .ok (.invokestatic 97, 3) := by decide +kernel
theorem dX1_fused_193 : decode cX1_fused 193 = .ok (.iadd, 1) := by decide +kernel
theorem dX1_fused_194 : decode cX1_fused 194 = .ok (.iload 5, 2) := by decide +kernel
theorem dX1_fused_196 : decode cX1_fused 196 = .ok (.invokevirtual 100, 3) := by decide +kernel
theorem dX1_fused_199 : decode cX1_fused 199 = .ok (.aload_n 0, 1) := by decide +kernel
theorem dX1_fused_200 : decode cX1_fused 200 = .ok (.iload_n 3, 1) := by decide +kernel
theorem dX1_fused_201 : decode cX1_fused 201 = .ok (.invokestatic 94, 3) := by decide +kernel
theorem dX1_fused_204 : decode cX1_fused 204 = .ok (.i2l, 1) := by decide +kernel
theorem dX1_fused_205 : decode cX1_fused 205 = .ok (.iload_n 3, 1) := by decide +kernel
theorem dX1_fused_206 : decode cX1_fused 206 = .ok (.invokestatic 97, 3) := by decide +kernel
theorem dX1_fused_209 : decode cX1_fused 209 = .ok (.iload_n 3, 1) := by decide +kernel
theorem dX1_fused_210 : decode cX1_fused 210 = .ok (.invokestatic 84, 3) := by decide +kernel
theorem dX1_fused_213 : decode cX1_fused 213 = .ok (.invokevirtual 100, 3) := by decide +kernel
theorem dX1_fused_216 : decode cX1_fused 216 = .ok (.iload_n 1, 1) := by decide +kernel
theorem dX1_fused_217 : decode cX1_fused 217 = .ok (.invokestatic 108, 3) := by decide +kernel
theorem dX1_fused_220 : decode cX1_fused 220 = .ok (.ifCond .ne 10, 3) := by decide +kernel
theorem dX1_fused_223 : decode cX1_fused 223 = .ok (.iload_n 2, 1) := by decide +kernel
theorem dX1_fused_224 : decode cX1_fused 224 = .ok (.invokestatic 108, 3) := by decide +kernel
theorem dX1_fused_227 : decode cX1_fused 227 = .ok (.ifCond .eq 14, 3) := by decide +kernel
theorem dX1_fused_230 : decode cX1_fused 230 = .ok (.iload_n 3, 1) := by decide +kernel
theorem dX1_fused_231 : decode cX1_fused 231 = .ok (.invokestatic 108, 3) := by decide +kernel
theorem dX1_fused_234 : decode cX1_fused 234 = .ok (.ifCond .eq 7, 3) := by decide +kernel
theorem dX1_fused_237 : decode cX1_fused 237 = .ok (.iconst 1, 1) := by decide +kernel
theorem dX1_fused_238 : decode cX1_fused 238 = .ok (.goto 4, 3) := by decide +kernel
theorem dX1_fused_241 : decode cX1_fused 241 = .ok (.iconst 0, 1) := by decide +kernel
theorem dX1_fused_242 : decode cX1_fused 242 = .ok (.istore 7, 2) := by decide +kernel
theorem dX1_fused_244 : decode cX1_fused 244 = .ok (.aload_n 0, 1) := by decide +kernel
theorem dX1_fused_245 : decode cX1_fused 245 = .ok (.invokevirtual 104, 3) := by decide +kernel
theorem dX1_fused_248 : decode cX1_fused 248 = .ok (.istore 8, 2) := by decide +kernel
theorem dX1_fused_250 : decode cX1_fused 250 = .ok (.aload_n 0, 1) := by decide +kernel
theorem dX1_fused_251 : decode cX1_fused 251 = .ok (.invokevirtual 63, 3) := by decide +kernel
theorem dX1_fused_254 : decode cX1_fused 254 = .ok (.ifCond .ge 18, 3) := by decide +kernel
theorem dX1_fused_257 : decode cX1_fused 257 = .ok (.aload_n 0, 1) := by decide +kernel
theorem dX1_fused_258 : decode cX1_fused 258 = .ok (.iload 7, 2) := by decide +kernel
theorem dX1_fused_260 : decode cX1_fused 260 = .ok (.iload 5, 2) := by decide +kernel
theorem dX1_fused_262 : decode cX1_fused 262 = .ok (.iload_n 3, 1) := by decide +kernel
theorem dX1_fused_263 : decode cX1_fused 263 = .ok (.invokestatic 84, 3) := by decide +kernel
theorem dX1_fused_266 : decode cX1_fused 266 = .ok (.invokevirtual 111, 3) := by decide +kernel
theorem dX1_fused_269 : decode cX1_fused 269 = .ok (.goto 9, 3) := by decide +kernel
theorem dX1_fused_272 : decode cX1_fused 272 = .ok (.aload_n 0, 1) := by decide +kernel
theorem dX1_fused_273 : decode cX1_fused 273 = .ok (.iload 8, 2) := by decide +kernel
theorem dX1_fused_275 : decode cX1_fused 275 = .ok (.invokevirtual 115, 3) := by decide +kernel
theorem dX1_fused_278 : decode cX1_fused 278 = .ok (.ireturn, 1) := by decide +kernel
set_option maxRecDepth 20000 in
theorem ggX1_multiply_X1_isNone : GoodIn wsX1_multiply wsX1_isNone := goodIn_r _ [5, 6, 7, 4, 8, 9, 10, 11, 12] (by decide +kernel) (by decide +kernel)
set_option maxRecDepth 20000 in
theorem gX1_multiply_X1_isNone : GoodIn wsX1_multiply (va_wsS RX1 28 yX1_isNone wsX1_isNone) := goodIn_app (goodIn_of _ (by decide +kernel)) ggX1_multiply_X1_isNone
end
section
set_option maxRecDepth 20000 in
theorem ggX1_multiply_X1_none : GoodIn wsX1_multiply wsX1_none := goodIn_r _ [16, 17, 18, 19, 20, 4, 21, 22, 2, 3, 5, 6, 7, 8, 9, 10, 11, 12, 93, 94, 95, 96, 97, 98] (by decide +kernel) (by decide +kernel)
set_option maxRecDepth 20000 in
theorem gX1_multiply_X1_none : GoodIn wsX1_multiply (wsV RX1 77 RX1 yX1_none wsX1_none) := goodIn_app (goodIn_of _ (by decide +kernel)) ggX1_multiply_X1_none
set_option maxRecDepth 20000 in
theorem ggX1_multiply_X1_isZero : GoodIn wsX1_multiply wsX1_isZero := goodIn_r _ [25, 26] (by decide +kernel) (by decide +kernel)
set_option maxRecDepth 20000 in
theorem gX1_multiply_X1_isZero : GoodIn wsX1_multiply (va_wsS RX1 108 yX1_isZero wsX1_isZero) := goodIn_app (goodIn_of _ (by decide +kernel)) ggX1_multiply_X1_isZero
set_option maxRecDepth 20000 in
theorem ggX1_multiply_X1_isInfinite : GoodIn wsX1_multiply wsX1_isInfinite := goodIn_r _ [29, 6, 7, 4, 8, 9, 10, 11, 12] (by decide +kernel) (by decide +kernel)
set_option maxRecDepth 20000 in
theorem gX1_multiply_X1_isInfinite : GoodIn wsX1_multiply (va_wsS RX1 81 yX1_isInfinite wsX1_isInfinite) := goodIn_app (goodIn_of _ (by decide +kernel)) ggX1_multiply_X1_isInfinite
set_option maxRecDepth 20000 in
theorem ggX1_multiply_X1_invalid : GoodIn wsX1_multiply wsX1_invalid := goodIn_r _ [33, 17, 18, 93, 94, 95, 96, 97, 98] (by decide +kernel) (by decide +kernel)
set_option maxRecDepth 20000 in
theorem gX1_multiply_X1_invalid : GoodIn wsX1_multiply (wsV RX1 87 RX1 yX1_invalid wsX1_invalid) := goodIn_app (goodIn_of _ (by decide +kernel)) ggX1_multiply_X1_invalid
set_option maxRecDepth 20000 in
theorem ggX1_multiply_X1_isNegative : GoodIn wsX1_multiply wsX1_isNegative := goodIn_r _ [36] (by decide +kernel) (by decide +kernel)
set_option maxRecDepth 20000 in
theorem gX1_multiply_X1_isNegative : GoodIn wsX1_multiply (va_wsS RX1 84 yX1_isNegative wsX1_isNegative) := goodIn_app (goodIn_of _ (by decide +kernel)) ggX1_multiply_X1_isNegative
set_option maxRecDepth 20000 in
theorem ggX1_multiply_X1_signed : GoodIn wsX1_multiply wsX1_signed := goodIn_r _ [39, 40] (by decide +kernel) (by decide +kernel)
set_option maxRecDepth 20000 in
theorem gX1_multiply_X1_signed : GoodIn wsX1_multiply (va_wsS RX1 74 yX1_signed wsX1_signed) := goodIn_app (goodIn_of _ (by decide +kernel)) ggX1_multiply_X1_signed
set_option maxRecDepth 20000 in
theorem ggX1_multiply_X1_empty : GoodIn wsX1_multiply wsX1_empty := goodIn_r _ [44, 45, 46, 47, 93, 94, 95, 96, 97, 98] (by decide +kernel) (by decide +kernel)
set_option maxRecDepth 20000 in
theorem gX1_multiply_X1_empty : GoodIn wsX1_multiply (wsV RX1 90 RX1 yX1_empty wsX1_empty) := goodIn_app (goodIn_of _ (by decide +kernel)) ggX1_multiply_X1_empty
set_option maxRecDepth 20000 in
theorem ggX1_multiply_X1_units : GoodIn wsX1_multiply wsX1_units := goodIn_r _ [50, 51, 6, 7, 4, 8, 9, 10, 11, 12] (by decide +kernel) (by decide +kernel)
set_option maxRecDepth 20000 in
theorem gX1_multiply_X1_units : GoodIn wsX1_multiply (va_wsS RX1 94 yX1_units wsX1_units) := goodIn_app (goodIn_of _ (by decide +kernel)) ggX1_multiply_X1_units
set_option maxRecDepth 20000 in
theorem ggX1_multiply_X1_place : GoodIn wsX1_multiply wsX1_place := goodIn_r _ [54, 6, 7, 4, 8] (by decide +kernel) (by decide +kernel)
set_option maxRecDepth 20000 in
theorem gX1_multiply_X1_place : GoodIn wsX1_multiply (va_wsS RX1 97 yX1_place wsX1_place) := goodIn_app (goodIn_of _ (by decide +kernel)) ggX1_multiply_X1_place
set_option maxRecDepth 20000 in
theorem ggX1_multiply_X1_put : GoodIn wsX1_multiply wsX1_put := goodIn_r _ [58, 46, 45, 59, 93, 94, 95, 96, 97, 98] (by decide +kernel) (by decide +kernel)
set_option maxRecDepth 20000 in
theorem gX1_multiply_X1_put : GoodIn wsX1_multiply (wsV RX1 100 RX1 yX1_put wsX1_put) := goodIn_app (goodIn_of _ (by decide +kernel)) ggX1_multiply_X1_put
set_option maxRecDepth 20000 in
theorem ggX1_multiply_X1_settle : GoodIn wsX1_multiply wsX1_settle := goodIn_r _ [63, 45, 64, 65, 66, 4, 67, 68, 93, 94, 95, 96, 97, 98] (by decide +kernel) (by decide +kernel)
set_option maxRecDepth 20000 in
theorem gX1_multiply_X1_settle : GoodIn wsX1_multiply (wsV RX1 104 RX1 yX1_settle wsX1_settle) := goodIn_app (goodIn_of _ (by decide +kernel)) ggX1_multiply_X1_settle
set_option maxRecDepth 20000 in
theorem ggX1_multiply_X1_finish : GoodIn wsX1_multiply wsX1_finish := goodIn_r _ [72, 46, 73, 74, 17, 75, 76, 1, 51, 77, 78, 79, 4, 80, 81, 82, 83, 84, 45, 85, 86, 87, 88, 89, 90, 91, 92, 47, 37, 38, 39, 40, 93, 94, 95, 96, 97, 98] (by decide +kernel) (by decide +kernel)
set_option maxRecDepth 20000 in
theorem gX1_multiply_X1_finish : GoodIn wsX1_multiply (wsV RX1 115 RX1 yX1_finish wsX1_finish) := goodIn_app (goodIn_of _ (by decide +kernel)) ggX1_multiply_X1_finish
theorem dX1_multiply_0 : decode cX1_multiply 0 = .ok (.iload_n 1, 1) := by decide +kernel
theorem dX1_multiply_1 : decode cX1_multiply 1 = .ok (.invokestatic 28, 3) := by decide +kernel
theorem dX1_multiply_4 : decode cX1_multiply 4 = .ok (.ifCond .ne 10, 3) := by decide +kernel
theorem dX1_multiply_7 : decode cX1_multiply 7 = .ok (.iload_n 2, 1) := by decide +kernel
theorem dX1_multiply_8 : decode cX1_multiply 8 = .ok (.invokestatic 28, 3) := by decide +kernel
theorem dX1_multiply_11 : decode cX1_multiply 11 = .ok (.ifCond .eq 11, 3) := by decide +kernel
theorem dX1_multiply_14 : decode cX1_multiply 14 = .ok (.aload_n 0, 1) := by decide +kernel
theorem dX1_multiply_15 : decode cX1_multiply 15 = .ok (.iload_n 1, 1) := by decide +kernel
theorem dX1_multiply_16 : decode cX1_multiply 16 = .ok (.iload_n 2, 1) := by decide +kernel
theorem dX1_multiply_17 : decode cX1_multiply 17 = .ok (.iconst 0, 1) := by decide +kernel
theorem dX1_multiply_18 : decode cX1_multiply 18 = .ok (.invokevirtual 77, 3) := by decide +kernel
theorem dX1_multiply_21 : decode cX1_multiply 21 = .ok (.ireturn, 1) := by decide +kernel
theorem dX1_multiply_22 : decode cX1_multiply 22 = .ok (.iload_n 1, 1) := by decide +kernel
theorem dX1_multiply_23 : decode cX1_multiply 23 = .ok (.invokestatic 108, 3) := by decide +kernel
theorem dX1_multiply_26 : decode cX1_multiply 26 = .ok (.ifCond .eq 10, 3) := by decide +kernel
theorem dX1_multiply_29 : decode cX1_multiply 29 = .ok (.iload_n 2, 1) := by decide +kernel
theorem dX1_multiply_30 : decode cX1_multiply 30 = .ok (.invokestatic 81, 3) := by decide +kernel
theorem dX1_multiply_33 : decode cX1_multiply 33 = .ok (.ifCond .ne 17, 3) := by decide +kernel
theorem dX1_multiply_36 : decode cX1_multiply 36 = .ok (.iload_n 1, 1) := by decide +kernel
theorem dX1_multiply_37 : decode cX1_multiply 37 = .ok (.invokestatic 81, 3) := by decide +kernel
theorem dX1_multiply_40 : decode cX1_multiply 40 = .ok (.ifCond .eq 15, 3) := by decide +kernel
theorem dX1_multiply_43 : decode cX1_multiply 43 = .ok (.iload_n 2, 1) := by decide +kernel
theorem dX1_multiply_44 : decode cX1_multiply 44 = .ok (.invokestatic 108, 3) := by decide +kernel
theorem dX1_multiply_47 : decode cX1_multiply 47 = .ok (.ifCond .eq 8, 3) := by decide +kernel
theorem dX1_multiply_50 : decode cX1_multiply 50 = .ok (.aload_n 0, 1) := by decide +kernel
theorem dX1_multiply_51 : decode cX1_multiply 51 = .ok (.invokevirtual 87, 3) := by decide +kernel
theorem dX1_multiply_54 : decode cX1_multiply 54 = .ok (.ireturn, 1) := by decide +kernel
theorem dX1_multiply_55 : decode cX1_multiply 55 = .ok (.iload_n 1, 1) := by decide +kernel
theorem dX1_multiply_56 : decode cX1_multiply 56 = .ok (.invokestatic 84, 3) := by decide +kernel
theorem dX1_multiply_59 : decode cX1_multiply 59 = .ok (.iload_n 2, 1) := by decide +kernel
theorem dX1_multiply_60 : decode cX1_multiply 60 = .ok (.invokestatic 84, 3) := by decide +kernel
theorem dX1_multiply_63 : decode cX1_multiply 63 = .ok (.if_icmp .eq 7, 3) := by decide +kernel
theorem dX1_multiply_66 : decode cX1_multiply 66 = .ok (.iconst 1, 1) := by decide +kernel
theorem dX1_multiply_67 : decode cX1_multiply 67 = .ok (.goto 4, 3) := by decide +kernel
theorem dX1_multiply_70 : decode cX1_multiply 70 = .ok (.iconst 0, 1) := by decide +kernel
theorem dX1_multiply_71 : decode cX1_multiply 71 = .ok (.istore_n 3, 1) := by decide +kernel
theorem dX1_multiply_72 : decode cX1_multiply 72 = .ok (.iload_n 1, 1) := by decide +kernel
theorem dX1_multiply_73 : decode cX1_multiply 73 = .ok (.invokestatic 81, 3) := by decide +kernel
theorem dX1_multiply_76 : decode cX1_multiply 76 = .ok (.ifCond .ne 10, 3) := by decide +kernel
theorem dX1_multiply_79 : decode cX1_multiply 79 = .ok (.iload_n 2, 1) := by decide +kernel
theorem dX1_multiply_80 : decode cX1_multiply 80 = .ok (.invokestatic 81, 3) := by decide +kernel
theorem dX1_multiply_83 : decode cX1_multiply 83 = .ok (.ifCond .eq 10, 3) := by decide +kernel
theorem dX1_multiply_86 : decode cX1_multiply 86 = .ok (.ldc 73, 2) := by decide +kernel
theorem dX1_multiply_88 : decode cX1_multiply 88 = .ok (.iload_n 3, 1) := by decide +kernel
theorem dX1_multiply_89 : decode cX1_multiply 89 = .ok (.invokestatic 74, 3) := by decide +kernel
theorem dX1_multiply_92 : decode cX1_multiply 92 = .ok (.ireturn, 1) := by decide +kernel
theorem dX1_multiply_93 : decode cX1_multiply 93 = .ok (.iload_n 1, 1) := by decide +kernel
theorem dX1_multiply_94 : decode cX1_multiply 94 = .ok (.invokestatic 108, 3) := by decide +kernel
theorem dX1_multiply_97 : decode cX1_multiply 97 = .ok (.ifCond .ne 10, 3) := by decide +kernel
theorem dX1_multiply_100 : decode cX1_multiply 100 = .ok (.iload_n 2, 1) := by decide +kernel
theorem dX1_multiply_101 : decode cX1_multiply 101 = .ok (.invokestatic 108, 3) := by decide +kernel
theorem dX1_multiply_104 : decode cX1_multiply 104 = .ok (.ifCond .eq 9, 3) := by decide +kernel
theorem dX1_multiply_107 : decode cX1_multiply 107 = .ok (.iconst 0, 1) := by decide +kernel
theorem dX1_multiply_108 : decode cX1_multiply 108 = .ok (.iload_n 3, 1) := by decide +kernel
theorem dX1_multiply_109 : decode cX1_multiply 109 = .ok (.invokestatic 74, 3) := by decide +kernel
theorem dX1_multiply_112 : decode cX1_multiply 112 = .ok (.ireturn, 1) := by decide +kernel
theorem dX1_multiply_113 : decode cX1_multiply 113 = .ok (.aload_n 0, 1) := by decide +kernel
theorem dX1_multiply_114 : decode cX1_multiply 114 = .ok (.sipush (-298), 3) := by decide +kernel
theorem dX1_multiply_117 : decode cX1_multiply 117 = .ok (.invokevirtual 90, 3) := by decide +kernel
theorem dX1_multiply_120 : decode cX1_multiply 120 = .ok (.aload_n 0, 1) := by decide +kernel
theorem dX1_multiply_121 : decode cX1_multiply 121 = .ok (.iload_n 1, 1) := by decide +kernel
theorem dX1_multiply_122 : decode cX1_multiply 122 = .ok (.invokestatic 94, 3) := by decide +kernel
theorem dX1_multiply_125 : decode cX1_multiply 125 = .ok (.i2l, 1) := by decide +kernel
theorem dX1_multiply_126 : decode cX1_multiply 126 = .ok (.iload_n 2, 1) := by decide +kernel
theorem dX1_multiply_127 : decode cX1_multiply 127 = .ok (.invokestatic 94, 3) := by decide +kernel
theorem dX1_multiply_130 : decode cX1_multiply 130 = .ok (.i2l, 1) := by decide +kernel
theorem dX1_multiply_131 : decode cX1_multiply 131 = .ok (.lmul, 1) := by decide +kernel
theorem dX1_multiply_132 : decode cX1_multiply 132 = .ok (.iload_n 1, 1) := by decide +kernel
theorem dX1_multiply_133 : decode cX1_multiply 133 = .ok (.invokestatic 97, 3) := by decide +kernel
theorem dX1_multiply_136 : decode cX1_multiply 136 = .ok (.iload_n 2, 1) := by decide +kernel
theorem dX1_multiply_137 : decode cX1_multiply 137 = .ok (.invokestatic 97, 3) := by decide +kernel
theorem dX1_multiply_140 : decode cX1_multiply 140 = .ok (.iadd, 1) := by decide +kernel
theorem dX1_multiply_141 : decode cX1_multiply 141 = .ok (.iconst 0, 1) := by decide +kernel
theorem dX1_multiply_142 : decode cX1_multiply 142 = .ok (.invokevirtual 100, 3) := by decide +kernel
theorem dX1_multiply_145 : decode cX1_multiply 145 = .ok (.aload_n 0, 1) := by decide +kernel
theorem dX1_multiply_146 : decode cX1_multiply 146 = .ok (.invokevirtual 104, 3) := by decide +kernel
theorem dX1_multiply_149 : decode cX1_multiply 149 = .ok (.istore 4, 2) := by decide +kernel
theorem dX1_multiply_151 : decode cX1_multiply 151 = .ok (.aload_n 0, 1) := by decide +kernel
theorem dX1_multiply_152 : decode cX1_multiply 152 = .ok (.iload_n 3, 1) := by decide +kernel
theorem dX1_multiply_153 : decode cX1_multiply 153 = .ok (.iload 4, 2) := by decide +kernel
theorem dX1_multiply_155 : decode cX1_multiply 155 = .ok (.if_icmp .eq 7, 3) := by decide +kernel
theorem dX1_multiply_158 : decode cX1_multiply 158 = .ok (.iconst 1, 1) := by decide +kernel
theorem dX1_multiply_159 : decode cX1_multiply 159 = .ok (.goto 4, 3) := by decide +kernel
theorem dX1_multiply_162 : decode cX1_multiply 162 = .ok (.iconst 0, 1) := by decide +kernel
theorem dX1_multiply_163 : decode cX1_multiply 163 = .ok (.invokevirtual 115, 3) := by decide +kernel
theorem dX1_multiply_166 : decode cX1_multiply 166 = .ok (.ireturn, 1) := by decide +kernel
theorem dX1_gap_0 : decode cX1_gap 0 = .ok (.iconst 0, 1) := by decide +kernel
theorem dX1_gap_1 : decode cX1_gap 1 = .ok (.istore_n 1, 1) := by decide +kernel
theorem dX1_gap_2 : decode cX1_gap 2 = .ok (.iload_n 1, 1) := by decide +kernel
theorem dX1_gap_3 : decode cX1_gap 3 = .ok (.bipush 24, 2) := by decide +kernel
theorem dX1_gap_5 : decode cX1_gap 5 = .ok (.if_icmp .ge 18, 3) := by decide +kernel
theorem dX1_gap_8 : decode cX1_gap 8 = .ok (.iload_n 0, 1) := by decide +kernel
theorem dX1_gap_9 : decode cX1_gap 9 = .ok (.iload_n 1, 1) := by decide +kernel
theorem dX1_gap_10 : decode cX1_gap 10 = .ok (.ishl, 1) := by decide +kernel
theorem dX1_gap_11 : decode cX1_gap 11 = .ok (.ldc 35, 2) := by decide +kernel
theorem dX1_gap_13 : decode cX1_gap 13 = .ok (.if_icmp .ge 10, 3) := by decide +kernel
theorem dX1_gap_16 : decode cX1_gap 16 = .ok (.iload_n 1, 1) := by decide +kernel
theorem dX1_gap_17 : decode cX1_gap 17 = .ok (.iconst 1, 1) := by decide +kernel
theorem dX1_gap_18 : decode cX1_gap 18 = .ok (.iadd, 1) := by decide +kernel
theorem dX1_gap_19 : decode cX1_gap 19 = .ok (.istore_n 1, 1) := by decide +kernel
theorem dX1_gap_20 : decode cX1_gap 20 = .ok (.goto (-18), 3) := by decide +kernel
theorem dX1_gap_23 : decode cX1_gap 23 = .ok (.iload_n 1, 1) := by decide +kernel
theorem dX1_gap_24 : decode cX1_gap 24 = .ok (.ireturn, 1) := by decide +kernel
set_option maxRecDepth 20000 in
theorem ggX1_divide_X1_isNone : GoodIn wsX1_divide wsX1_isNone := goodIn_r _ [8, 9, 10, 7, 11, 12, 13, 14, 15] (by decide +kernel) (by decide +kernel)
set_option maxRecDepth 20000 in
theorem gX1_divide_X1_isNone : GoodIn wsX1_divide (va_wsS RX1 28 yX1_isNone wsX1_isNone) := goodIn_app (goodIn_of _ (by decide +kernel)) ggX1_divide_X1_isNone
set_option maxRecDepth 20000 in
theorem ggX1_divide_X1_none : GoodIn wsX1_divide wsX1_none := goodIn_r _ [19, 1, 20, 21, 22, 7, 23, 24, 5, 6, 8, 9, 10, 11, 12, 13, 14, 15, 96, 97, 98, 99, 100, 101] (by decide +kernel) (by decide +kernel)
set_option maxRecDepth 20000 in
theorem gX1_divide_X1_none : GoodIn wsX1_divide (wsV RX1 77 RX1 yX1_none wsX1_none) := goodIn_app (goodIn_of _ (by decide +kernel)) ggX1_divide_X1_none
set_option maxRecDepth 20000 in
theorem ggX1_divide_X1_isZero : GoodIn wsX1_divide wsX1_isZero := goodIn_r _ [27, 28] (by decide +kernel) (by decide +kernel)
set_option maxRecDepth 20000 in
theorem gX1_divide_X1_isZero : GoodIn wsX1_divide (va_wsS RX1 108 yX1_isZero wsX1_isZero) := goodIn_app (goodIn_of _ (by decide +kernel)) ggX1_divide_X1_isZero
set_option maxRecDepth 20000 in
theorem ggX1_divide_X1_isInfinite : GoodIn wsX1_divide wsX1_isInfinite := goodIn_r _ [31, 9, 10, 7, 11, 12, 13, 14, 15] (by decide +kernel) (by decide +kernel)
set_option maxRecDepth 20000 in
theorem gX1_divide_X1_isInfinite : GoodIn wsX1_divide (va_wsS RX1 81 yX1_isInfinite wsX1_isInfinite) := goodIn_app (goodIn_of _ (by decide +kernel)) ggX1_divide_X1_isInfinite
set_option maxRecDepth 20000 in
theorem ggX1_divide_X1_invalid : GoodIn wsX1_divide wsX1_invalid := goodIn_r _ [35, 1, 20, 96, 97, 98, 99, 100, 101] (by decide +kernel) (by decide +kernel)
set_option maxRecDepth 20000 in
theorem gX1_divide_X1_invalid : GoodIn wsX1_divide (wsV RX1 87 RX1 yX1_invalid wsX1_invalid) := goodIn_app (goodIn_of _ (by decide +kernel)) ggX1_divide_X1_invalid
set_option maxRecDepth 20000 in
theorem ggX1_divide_X1_isNegative : GoodIn wsX1_divide wsX1_isNegative := goodIn_r _ [38] (by decide +kernel) (by decide +kernel)
set_option maxRecDepth 20000 in
theorem gX1_divide_X1_isNegative : GoodIn wsX1_divide (va_wsS RX1 84 yX1_isNegative wsX1_isNegative) := goodIn_app (goodIn_of _ (by decide +kernel)) ggX1_divide_X1_isNegative
set_option maxRecDepth 20000 in
theorem ggX1_divide_X1_signed : GoodIn wsX1_divide wsX1_signed := goodIn_r _ [41, 42] (by decide +kernel) (by decide +kernel)
set_option maxRecDepth 20000 in
theorem gX1_divide_X1_signed : GoodIn wsX1_divide (va_wsS RX1 74 yX1_signed wsX1_signed) := goodIn_app (goodIn_of _ (by decide +kernel)) ggX1_divide_X1_signed
set_option maxRecDepth 20000 in
theorem ggX1_divide_X1_units : GoodIn wsX1_divide wsX1_units := goodIn_r _ [45, 46, 9, 10, 7, 11, 12, 13, 14, 15] (by decide +kernel) (by decide +kernel)
set_option maxRecDepth 20000 in
theorem gX1_divide_X1_units : GoodIn wsX1_divide (va_wsS RX1 94 yX1_units wsX1_units) := goodIn_app (goodIn_of _ (by decide +kernel)) ggX1_divide_X1_units
set_option maxRecDepth 20000 in
theorem ggX1_divide_X1_gap : GoodIn wsX1_divide wsX1_gap := goodIn_r _ [49, 46] (by decide +kernel) (by decide +kernel)
set_option maxRecDepth 20000 in
theorem gX1_divide_X1_gap : GoodIn wsX1_divide (va_wsS RX1 123 yX1_gap wsX1_gap) := goodIn_app (goodIn_of _ (by decide +kernel)) ggX1_divide_X1_gap
set_option maxRecDepth 20000 in
theorem ggX1_divide_X1_place : GoodIn wsX1_divide wsX1_place := goodIn_r _ [52, 9, 10, 7, 11] (by decide +kernel) (by decide +kernel)
set_option maxRecDepth 20000 in
theorem gX1_divide_X1_place : GoodIn wsX1_divide (va_wsS RX1 97 yX1_place wsX1_place) := goodIn_app (goodIn_of _ (by decide +kernel)) ggX1_divide_X1_place
set_option maxRecDepth 20000 in
theorem ggX1_divide_X1_empty : GoodIn wsX1_divide wsX1_empty := goodIn_r _ [56, 57, 3, 4, 96, 97, 98, 99, 100, 101] (by decide +kernel) (by decide +kernel)
set_option maxRecDepth 20000 in
theorem gX1_divide_X1_empty : GoodIn wsX1_divide (wsV RX1 90 RX1 yX1_empty wsX1_empty) := goodIn_app (goodIn_of _ (by decide +kernel)) ggX1_divide_X1_empty
set_option maxRecDepth 20000 in
theorem ggX1_divide_X1_put : GoodIn wsX1_divide wsX1_put := goodIn_r _ [61, 3, 57, 62, 96, 97, 98, 99, 100, 101] (by decide +kernel) (by decide +kernel)
set_option maxRecDepth 20000 in
theorem gX1_divide_X1_put : GoodIn wsX1_divide (wsV RX1 100 RX1 yX1_put wsX1_put) := goodIn_app (goodIn_of _ (by decide +kernel)) ggX1_divide_X1_put
set_option maxRecDepth 20000 in
theorem ggX1_divide_X1_settle : GoodIn wsX1_divide wsX1_settle := goodIn_r _ [66, 57, 67, 68, 69, 7, 70, 71, 96, 97, 98, 99, 100, 101] (by decide +kernel) (by decide +kernel)
set_option maxRecDepth 20000 in
theorem gX1_divide_X1_settle : GoodIn wsX1_divide (wsV RX1 104 RX1 yX1_settle wsX1_settle) := goodIn_app (goodIn_of _ (by decide +kernel)) ggX1_divide_X1_settle
set_option maxRecDepth 20000 in
theorem ggX1_divide_X1_finish : GoodIn wsX1_divide wsX1_finish := goodIn_r _ [75, 3, 76, 77, 1, 78, 79, 2, 46, 80, 81, 82, 7, 83, 84, 85, 86, 87, 57, 88, 89, 90, 91, 92, 93, 94, 95, 4, 39, 40, 41, 42, 96, 97, 98, 99, 100, 101] (by decide +kernel) (by decide +kernel)
set_option maxRecDepth 20000 in
theorem gX1_divide_X1_finish : GoodIn wsX1_divide (wsV RX1 115 RX1 yX1_finish wsX1_finish) := goodIn_app (goodIn_of _ (by decide +kernel)) ggX1_divide_X1_finish
theorem dX1_divide_0 : decode cX1_divide 0 = .ok (.iload_n 1, 1) := by decide +kernel
theorem dX1_divide_1 : decode cX1_divide 1 = .ok (.invokestatic 28, 3) := by decide +kernel
theorem dX1_divide_4 : decode cX1_divide 4 = .ok (.ifCond .ne 10, 3) := by decide +kernel
theorem dX1_divide_7 : decode cX1_divide 7 = .ok (.iload_n 2, 1) := by decide +kernel
theorem dX1_divide_8 : decode cX1_divide 8 = .ok (.invokestatic 28, 3) := by decide +kernel
theorem dX1_divide_11 : decode cX1_divide 11 = .ok (.ifCond .eq 11, 3) := by decide +kernel
theorem dX1_divide_14 : decode cX1_divide 14 = .ok (.aload_n 0, 1) := by decide +kernel
theorem dX1_divide_15 : decode cX1_divide 15 = .ok (.iload_n 1, 1) := by decide +kernel
theorem dX1_divide_16 : decode cX1_divide 16 = .ok (.iload_n 2, 1) := by decide +kernel
theorem dX1_divide_17 : decode cX1_divide 17 = .ok (.iconst 0, 1) := by decide +kernel
theorem dX1_divide_18 : decode cX1_divide 18 = .ok (.invokevirtual 77, 3) := by decide +kernel
theorem dX1_divide_21 : decode cX1_divide 21 = .ok (.ireturn, 1) := by decide +kernel
theorem dX1_divide_22 : decode cX1_divide 22 = .ok (.iload_n 1, 1) := by decide +kernel
theorem dX1_divide_23 : decode cX1_divide 23 = .ok (.invokestatic 108, 3) := by decide +kernel
theorem dX1_divide_26 : decode cX1_divide 26 = .ok (.ifCond .eq 10, 3) := by decide +kernel
theorem dX1_divide_29 : decode cX1_divide 29 = .ok (.iload_n 2, 1) := by decide +kernel
theorem dX1_divide_30 : decode cX1_divide 30 = .ok (.invokestatic 108, 3) := by decide +kernel
theorem dX1_divide_33 : decode cX1_divide 33 = .ok (.ifCond .ne 17, 3) := by decide +kernel
theorem dX1_divide_36 : decode cX1_divide 36 = .ok (.iload_n 1, 1) := by decide +kernel
theorem dX1_divide_37 : decode cX1_divide 37 = .ok (.invokestatic 81, 3) := by decide +kernel
theorem dX1_divide_40 : decode cX1_divide 40 = .ok (.ifCond .eq 15, 3) := by decide +kernel
theorem dX1_divide_43 : decode cX1_divide 43 = .ok (.iload_n 2, 1) := by decide +kernel
theorem dX1_divide_44 : decode cX1_divide 44 = .ok (.invokestatic 81, 3) := by decide +kernel
theorem dX1_divide_47 : decode cX1_divide 47 = .ok (.ifCond .eq 8, 3) := by decide +kernel
theorem dX1_divide_50 : decode cX1_divide 50 = .ok (.aload_n 0, 1) := by decide +kernel
theorem dX1_divide_51 : decode cX1_divide 51 = .ok (.invokevirtual 87, 3) := by decide +kernel
theorem dX1_divide_54 : decode cX1_divide 54 = .ok (.ireturn, 1) := by decide +kernel
theorem dX1_divide_55 : decode cX1_divide 55 = .ok (.iload_n 1, 1) := by decide +kernel
theorem dX1_divide_56 : decode cX1_divide 56 = .ok (.invokestatic 84, 3) := by decide +kernel
theorem dX1_divide_59 : decode cX1_divide 59 = .ok (.iload_n 2, 1) := by decide +kernel
theorem dX1_divide_60 : decode cX1_divide 60 = .ok (.invokestatic 84, 3) := by decide +kernel
theorem dX1_divide_63 : decode cX1_divide 63 = .ok (.if_icmp .eq 7, 3) := by decide +kernel
theorem dX1_divide_66 : decode cX1_divide 66 = .ok (.iconst 1, 1) := by decide +kernel
theorem dX1_divide_67 : decode cX1_divide 67 = .ok (.goto 4, 3) := by decide +kernel
theorem dX1_divide_70 : decode cX1_divide 70 = .ok (.iconst 0, 1) := by decide +kernel
theorem dX1_divide_71 : decode cX1_divide 71 = .ok (.istore_n 3, 1) := by decide +kernel
theorem dX1_divide_72 : decode cX1_divide 72 = .ok (.iload_n 2, 1) := by decide +kernel
theorem dX1_divide_73 : decode cX1_divide 73 = .ok (.invokestatic 108, 3) := by decide +kernel
theorem dX1_divide_76 : decode cX1_divide 76 = .ok (.ifCond .eq 21, 3) := by decide +kernel
theorem dX1_divide_79 : decode cX1_divide 79 = .ok (.iload_n 1, 1) := by decide +kernel
theorem dX1_divide_80 : decode cX1_divide 80 = .ok (.invokestatic 81, 3) := by decide +kernel
theorem dX1_divide_83 : decode cX1_divide 83 = .ok (.ifCond .ne 14, 3) := by decide +kernel
theorem dX1_divide_86 : decode cX1_divide 86 = .ok (.aload_n 0, 1) := by decide +kernel
theorem dX1_divide_87 : decode cX1_divide 87 = .ok (.aload_n 0, 1) := by decide +kernel
theorem dX1_divide_88 : decode cX1_divide 88 = .ok (.getfield 17, 3) := by decide +kernel
theorem dX1_divide_91 : decode cX1_divide 91 = .ok (.bipush 8, 2) := by decide +kernel
theorem dX1_divide_93 : decode cX1_divide 93 = .ok (.ior, 1) := by decide +kernel
theorem dX1_divide_94 : decode cX1_divide 94 = .ok (.putfield 17, 3) := by decide +kernel
theorem dX1_divide_97 : decode cX1_divide 97 = .ok (.iload_n 1, 1) := by decide +kernel
theorem dX1_divide_98 : decode cX1_divide 98 = .ok (.invokestatic 81, 3) := by decide +kernel
theorem dX1_divide_101 : decode cX1_divide 101 = .ok (.ifCond .ne 10, 3) := by decide +kernel
theorem dX1_divide_104 : decode cX1_divide 104 = .ok (.iload_n 2, 1) := by decide +kernel
theorem dX1_divide_105 : decode cX1_divide 105 = .ok (.invokestatic 108, 3) := by decide +kernel
theorem dX1_divide_108 : decode cX1_divide 108 = .ok (.ifCond .eq 10, 3) := by decide +kernel
theorem dX1_divide_111 : decode cX1_divide 111 = .ok (.ldc 73, 2) := by decide +kernel
theorem dX1_divide_113 : decode cX1_divide 113 = .ok (.iload_n 3, 1) := by decide +kernel
theorem dX1_divide_114 : decode cX1_divide 114 = .ok (.invokestatic 74, 3) := by decide +kernel
theorem dX1_divide_117 : decode cX1_divide 117 = .ok (.ireturn, 1) := by decide +kernel
theorem dX1_divide_118 : decode cX1_divide 118 = .ok (.iload_n 1, 1) := by decide +kernel
theorem dX1_divide_119 : decode cX1_divide 119 = .ok (.invokestatic 108, 3) := by decide +kernel
theorem dX1_divide_122 : decode cX1_divide 122 = .ok (.ifCond .ne 10, 3) := by decide +kernel
theorem dX1_divide_125 : decode cX1_divide 125 = .ok (.iload_n 2, 1) := by decide +kernel
theorem dX1_divide_126 : decode cX1_divide 126 = .ok (.invokestatic 81, 3) := by decide +kernel
theorem dX1_divide_129 : decode cX1_divide 129 = .ok (.ifCond .eq 9, 3) := by decide +kernel
theorem dX1_divide_132 : decode cX1_divide 132 = .ok (.iconst 0, 1) := by decide +kernel
theorem dX1_divide_133 : decode cX1_divide 133 = .ok (.iload_n 3, 1) := by decide +kernel
theorem dX1_divide_134 : decode cX1_divide 134 = .ok (.invokestatic 74, 3) := by decide +kernel
theorem dX1_divide_137 : decode cX1_divide 137 = .ok (.ireturn, 1) := by decide +kernel
theorem dX1_divide_138 : decode cX1_divide 138 = .ok (.iload_n 1, 1) := by decide +kernel
theorem dX1_divide_139 : decode cX1_divide 139 = .ok (.invokestatic 94, 3) := by decide +kernel
theorem dX1_divide_142 : decode cX1_divide 142 = .ok (.invokestatic 123, 3) := by decide +kernel
theorem dX1_divide_145 : decode cX1_divide 145 = .ok (.istore 4, 2) := by decide +kernel
theorem dX1_divide_147 : decode cX1_divide 147 = .ok (.iload_n 2, 1) := by decide +kernel
theorem dX1_divide_148 : decode cX1_divide 148 = .ok (.invokestatic 94, 3) := by decide +kernel
theorem dX1_divide_151 : decode cX1_divide 151 = .ok (.invokestatic 123, 3) := by decide +kernel
theorem dX1_divide_154 : decode cX1_divide 154 = .ok (.istore 5, 2) := by decide +kernel
theorem dX1_divide_156 : decode cX1_divide 156 = .ok (.iload_n 1, 1) := by decide +kernel
theorem dX1_divide_157 : decode cX1_divide 157 = .ok (.invokestatic 94, 3) := by decide +kernel
theorem dX1_divide_160 : decode cX1_divide 160 = .ok (.i2l, 1) := by decide +kernel
theorem dX1_divide_161 : decode cX1_divide 161 = .ok (.iload 4, 2) := by decide +kernel
theorem dX1_divide_163 : decode cX1_divide 163 = .ok (.bipush 38, 2) := by decide +kernel
theorem dX1_divide_165 : decode cX1_divide 165 = .ok (.iadd, 1) := by decide +kernel
theorem dX1_divide_166 : decode cX1_divide 166 = .ok (.lshl, 1) := by decide +kernel
theorem dX1_divide_167 : decode cX1_divide 167 = .ok (.lstore 6, 2) := by decide +kernel
theorem dX1_divide_169 : decode cX1_divide 169 = .ok (.iload_n 2, 1) := by decide +kernel
theorem dX1_divide_170 : decode cX1_divide 170 = .ok (.invokestatic 94, 3) := by decide +kernel
theorem dX1_divide_173 : decode cX1_divide 173 = .ok (.i2l, 1) := by decide +kernel
theorem dX1_divide_174 : decode cX1_divide 174 = .ok (.iload 5, 2) := by decide +kernel
theorem dX1_divide_176 : decode cX1_divide 176 = .ok (.lshl, 1) := by decide +kernel
theorem dX1_divide_177 : decode cX1_divide 177 = .ok (.lstore 8, 2) := by decide +kernel
theorem dX1_divide_179 : decode cX1_divide 179 = .ok (.aload_n 0, 1) := by decide +kernel
theorem dX1_divide_180 : decode cX1_divide 180 = .ok (.iload_n 1, 1) := by decide +kernel
theorem dX1_divide_181 : decode cX1_divide 181 = .ok (.invokestatic 97, 3) := by decide +kernel
theorem dX1_divide_184 : decode cX1_divide 184 = .ok (.iload 4, 2) := by decide +kernel
theorem dX1_divide_186 : decode cX1_divide 186 = .ok (.isub, 1) := by decide +kernel
theorem dX1_divide_187 : decode cX1_divide 187 = .ok (.iload_n 2, 1) := by decide +kernel
theorem dX1_divide_188 : decode cX1_divide 188 = .ok (.invokestatic 97, 3) := by decide +kernel
theorem dX1_divide_191 : decode cX1_divide 191 = .ok (.isub, 1) := by decide +kernel
theorem dX1_divide_192 : decode cX1_divide 192 = .ok (.iload 5, 2) := by decide +kernel
theorem dX1_divide_194 : decode cX1_divide 194 = .ok (.iadd, 1) := by decide +kernel
theorem dX1_divide_195 : decode cX1_divide 195 = .ok (.bipush 38, 2) := by decide +kernel
theorem dX1_divide_197 : decode cX1_divide 197 = .ok (.isub, 1) := by decide +kernel
theorem dX1_divide_198 : decode cX1_divide 198 = .ok (.invokevirtual 90, 3) := by decide +kernel
theorem dX1_divide_201 : decode cX1_divide 201 = .ok (.aload_n 0, 1) := by decide +kernel
theorem dX1_divide_202 : decode cX1_divide 202 = .ok (.lload 6, 2) := by decide +kernel
theorem dX1_divide_204 : decode cX1_divide 204 = .ok (.lload 8, 2) := by decide +kernel
theorem dX1_divide_206 : decode cX1_divide 206 = .ok (.ldiv, 1) := by decide +kernel
theorem dX1_divide_207 : decode cX1_divide 207 = .ok (.aload_n 0, 1) := by decide +kernel
theorem dX1_divide_208 : decode cX1_divide 208 = .ok (.getfield 40, 3) := by decide +kernel
theorem dX1_divide_211 : decode cX1_divide 211 = .ok (.iconst 0, 1) := by decide +kernel
theorem dX1_divide_212 : decode cX1_divide 212 = .ok (.invokevirtual 100, 3) := by decide +kernel
theorem dX1_divide_215 : decode cX1_divide 215 = .ok (.aload_n 0, 1) := by decide +kernel
theorem dX1_divide_216 : decode cX1_divide 216 = .ok (.lload 6, 2) := by decide +kernel
theorem dX1_divide_218 : decode cX1_divide 218 = .ok (.lload 8, 2) := by decide +kernel
theorem dX1_divide_220 : decode cX1_divide 220 = .ok (.lrem, 1) := by decide +kernel
theorem dX1_divide_221 : decode cX1_divide 221 = .ok (.lconst 0, 1) := by decide +kernel
theorem dX1_divide_222 : decode cX1_divide 222 = .ok (.lcmp, 1) := by decide +kernel
theorem dX1_divide_223 : decode cX1_divide 223 = .ok (.ifCond .eq 7, 3) := by decide +kernel
theorem dX1_divide_226 : decode cX1_divide 226 = .ok (.iconst 1, 1) := by decide +kernel
theorem dX1_divide_227 : decode cX1_divide 227 = .ok (.goto 4, 3) := by decide +kernel
theorem dX1_divide_230 : decode cX1_divide 230 = .ok (.iconst 0, 1) := by decide +kernel
theorem dX1_divide_231 : decode cX1_divide 231 = .ok (.putfield 43, 3) := by decide +kernel
theorem dX1_divide_234 : decode cX1_divide 234 = .ok (.aload_n 0, 1) := by decide +kernel
theorem dX1_divide_235 : decode cX1_divide 235 = .ok (.invokevirtual 104, 3) := by decide +kernel
theorem dX1_divide_238 : decode cX1_divide 238 = .ok (.istore 10, 2) := by decide +kernel
theorem dX1_divide_240 : decode cX1_divide 240 = .ok (.aload_n 0, 1) := by decide +kernel
theorem dX1_divide_241 : decode cX1_divide 241 = .ok (.iload_n 3, 1) := by decide +kernel
theorem dX1_divide_242 : decode cX1_divide 242 = .ok (.iload 10, 2) := by decide +kernel
theorem dX1_divide_244 : decode cX1_divide 244 = .ok (.if_icmp .eq 7, 3) := by decide +kernel
theorem dX1_divide_247 : decode cX1_divide 247 = .ok (.iconst 1, 1) := by decide +kernel
theorem dX1_divide_248 : decode cX1_divide 248 = .ok (.goto 4, 3) := by decide +kernel
theorem dX1_divide_251 : decode cX1_divide 251 = .ok (.iconst 0, 1) := by decide +kernel
theorem dX1_divide_252 : decode cX1_divide 252 = .ok (.invokevirtual 115, 3) := by decide +kernel
theorem dX1_divide_255 : decode cX1_divide 255 = .ok (.ireturn, 1) := by decide +kernel
set_option maxRecDepth 20000 in
theorem ggX1_root_X1_isNone : GoodIn wsX1_root wsX1_isNone := goodIn_r _ [7, 8, 9, 6, 10, 11, 12, 13, 14] (by decide +kernel) (by decide +kernel)
set_option maxRecDepth 20000 in
theorem gX1_root_X1_isNone : GoodIn wsX1_root (va_wsS RX1 28 yX1_isNone wsX1_isNone) := goodIn_app (goodIn_of _ (by decide +kernel)) ggX1_root_X1_isNone
set_option maxRecDepth 20000 in
theorem ggX1_root_X1_none : GoodIn wsX1_root wsX1_none := goodIn_r _ [18, 19, 20, 21, 22, 6, 23, 24, 4, 5, 7, 8, 9, 10, 11, 12, 13, 14, 97, 98, 99, 100, 101, 102] (by decide +kernel) (by decide +kernel)
set_option maxRecDepth 20000 in
theorem gX1_root_X1_none : GoodIn wsX1_root (wsV RX1 77 RX1 yX1_none wsX1_none) := goodIn_app (goodIn_of _ (by decide +kernel)) ggX1_root_X1_none
set_option maxRecDepth 20000 in
theorem ggX1_root_X1_isZero : GoodIn wsX1_root wsX1_isZero := goodIn_r _ [27, 28] (by decide +kernel) (by decide +kernel)
set_option maxRecDepth 20000 in
theorem gX1_root_X1_isZero : GoodIn wsX1_root (va_wsS RX1 108 yX1_isZero wsX1_isZero) := goodIn_app (goodIn_of _ (by decide +kernel)) ggX1_root_X1_isZero
set_option maxRecDepth 20000 in
theorem ggX1_root_X1_isNegative : GoodIn wsX1_root wsX1_isNegative := goodIn_r _ [31] (by decide +kernel) (by decide +kernel)
set_option maxRecDepth 20000 in
theorem gX1_root_X1_isNegative : GoodIn wsX1_root (va_wsS RX1 84 yX1_isNegative wsX1_isNegative) := goodIn_app (goodIn_of _ (by decide +kernel)) ggX1_root_X1_isNegative
set_option maxRecDepth 20000 in
theorem ggX1_root_X1_invalid : GoodIn wsX1_root wsX1_invalid := goodIn_r _ [35, 19, 20, 97, 98, 99, 100, 101, 102] (by decide +kernel) (by decide +kernel)
set_option maxRecDepth 20000 in
theorem gX1_root_X1_invalid : GoodIn wsX1_root (wsV RX1 87 RX1 yX1_invalid wsX1_invalid) := goodIn_app (goodIn_of _ (by decide +kernel)) ggX1_root_X1_invalid
set_option maxRecDepth 20000 in
theorem ggX1_root_X1_isInfinite : GoodIn wsX1_root wsX1_isInfinite := goodIn_r _ [38, 8, 9, 6, 10, 11, 12, 13, 14] (by decide +kernel) (by decide +kernel)
set_option maxRecDepth 20000 in
theorem gX1_root_X1_isInfinite : GoodIn wsX1_root (va_wsS RX1 81 yX1_isInfinite wsX1_isInfinite) := goodIn_app (goodIn_of _ (by decide +kernel)) ggX1_root_X1_isInfinite
set_option maxRecDepth 20000 in
theorem ggX1_root_X1_units : GoodIn wsX1_root wsX1_units := goodIn_r _ [41, 42, 8, 9, 6, 10, 11, 12, 13, 14] (by decide +kernel) (by decide +kernel)
set_option maxRecDepth 20000 in
theorem gX1_root_X1_units : GoodIn wsX1_root (va_wsS RX1 94 yX1_units wsX1_units) := goodIn_app (goodIn_of _ (by decide +kernel)) ggX1_root_X1_units
set_option maxRecDepth 20000 in
theorem ggX1_root_X1_gap : GoodIn wsX1_root wsX1_gap := goodIn_r _ [45, 42] (by decide +kernel) (by decide +kernel)
set_option maxRecDepth 20000 in
theorem gX1_root_X1_gap : GoodIn wsX1_root (va_wsS RX1 123 yX1_gap wsX1_gap) := goodIn_app (goodIn_of _ (by decide +kernel)) ggX1_root_X1_gap
set_option maxRecDepth 20000 in
theorem ggX1_root_X1_place : GoodIn wsX1_root wsX1_place := goodIn_r _ [48, 8, 9, 6, 10] (by decide +kernel) (by decide +kernel)
set_option maxRecDepth 20000 in
theorem gX1_root_X1_place : GoodIn wsX1_root (va_wsS RX1 97 yX1_place wsX1_place) := goodIn_app (goodIn_of _ (by decide +kernel)) ggX1_root_X1_place
set_option maxRecDepth 20000 in
theorem ggX1_root_X1_empty : GoodIn wsX1_root wsX1_empty := goodIn_r _ [52, 53, 2, 3, 97, 98, 99, 100, 101, 102] (by decide +kernel) (by decide +kernel)
set_option maxRecDepth 20000 in
theorem gX1_root_X1_empty : GoodIn wsX1_root (wsV RX1 90 RX1 yX1_empty wsX1_empty) := goodIn_app (goodIn_of _ (by decide +kernel)) ggX1_root_X1_empty
set_option maxRecDepth 20000 in
theorem ggX1_root_X1_put : GoodIn wsX1_root wsX1_put := goodIn_r _ [57, 2, 53, 58, 97, 98, 99, 100, 101, 102] (by decide +kernel) (by decide +kernel)
set_option maxRecDepth 20000 in
theorem gX1_root_X1_put : GoodIn wsX1_root (wsV RX1 100 RX1 yX1_put wsX1_put) := goodIn_app (goodIn_of _ (by decide +kernel)) ggX1_root_X1_put
set_option maxRecDepth 20000 in
theorem ggX1_root_X1_settle : GoodIn wsX1_root wsX1_settle := goodIn_r _ [62, 53, 63, 64, 65, 6, 66, 67, 97, 98, 99, 100, 101, 102] (by decide +kernel) (by decide +kernel)
set_option maxRecDepth 20000 in
theorem gX1_root_X1_settle : GoodIn wsX1_root (wsV RX1 104 RX1 yX1_settle wsX1_settle) := goodIn_app (goodIn_of _ (by decide +kernel)) ggX1_root_X1_settle
set_option maxRecDepth 20000 in
theorem ggX1_root_X1_finish : GoodIn wsX1_root wsX1_finish := goodIn_r _ [71, 2, 72, 73, 19, 74, 75, 76, 42, 77, 78, 79, 6, 80, 81, 82, 83, 84, 53, 85, 86, 87, 88, 89, 90, 91, 92, 3, 93, 94, 95, 96, 97, 98, 99, 100, 101, 102] (by decide +kernel) (by decide +kernel)
set_option maxRecDepth 20000 in
theorem gX1_root_X1_finish : GoodIn wsX1_root (wsV RX1 115 RX1 yX1_finish wsX1_finish) := goodIn_app (goodIn_of _ (by decide +kernel)) ggX1_root_X1_finish
theorem dX1_root_0 : decode cX1_root 0 = .ok (.iload_n 1, 1) := by decide +kernel
theorem dX1_root_1 : decode cX1_root 1 = .ok (.invokestatic 28, 3) := by decide +kernel
theorem dX1_root_4 : decode cX1_root 4 = .ok (.ifCond .eq 11, 3) := by decide +kernel
theorem dX1_root_7 : decode cX1_root 7 = .ok (.aload_n 0, 1) := by decide +kernel
theorem dX1_root_8 : decode cX1_root 8 = .ok (.iload_n 1, 1) := by decide +kernel
theorem dX1_root_9 : decode cX1_root 9 = .ok (.iconst 0, 1) := by decide +kernel
theorem dX1_root_10 : decode cX1_root 10 = .ok (.iconst 0, 1) := by decide +kernel
theorem dX1_root_11 : decode cX1_root 11 = .ok (.invokevirtual 77, 3) := by decide +kernel
theorem dX1_root_14 : decode cX1_root 14 = .ok (.ireturn, 1) := by decide +kernel
theorem dX1_root_15 : decode cX1_root 15 = .ok (.iload_n 1, 1) := by decide +kernel
theorem dX1_root_16 : decode cX1_root 16 = .ok (.invokestatic 108, 3) := by decide +kernel
theorem dX1_root_19 : decode cX1_root 19 = .ok (.ifCond .eq 5, 3) := by decide +kernel
theorem dX1_root_22 : decode cX1_root 22 = .ok (.iload_n 1, 1) := by decide +kernel
theorem dX1_root_23 : decode cX1_root 23 = .ok (.ireturn, 1) := by decide +kernel
theorem dX1_root_24 : decode cX1_root 24 = .ok (.iload_n 1, 1) := by decide +kernel
theorem dX1_root_25 : decode cX1_root 25 = .ok (.invokestatic 84, 3) := by decide +kernel
theorem dX1_root_28 : decode cX1_root 28 = .ok (.ifCond .eq 8, 3) := by decide +kernel
theorem dX1_root_31 : decode cX1_root 31 = .ok (.aload_n 0, 1) := by decide +kernel
theorem dX1_root_32 : decode cX1_root 32 = .ok (.invokevirtual 87, 3) := by decide +kernel
theorem dX1_root_35 : decode cX1_root 35 = .ok (.ireturn, 1) := by decide +kernel
theorem dX1_root_36 : decode cX1_root 36 = .ok (.iload_n 1, 1) := by decide +kernel
theorem dX1_root_37 : decode cX1_root 37 = .ok (.invokestatic 81, 3) := by decide +kernel
theorem dX1_root_40 : decode cX1_root 40 = .ok (.ifCond .eq 5, 3) := by decide +kernel
theorem dX1_root_43 : decode cX1_root 43 = .ok (.iload_n 1, 1) := by decide +kernel
theorem dX1_root_44 : decode cX1_root 44 = .ok (.ireturn, 1) := by decide +kernel
theorem dX1_root_45 : decode cX1_root 45 = .ok (.iload_n 1, 1) := by decide +kernel
theorem dX1_root_46 : decode cX1_root 46 = .ok (.invokestatic 94, 3) := by decide +kernel
theorem dX1_root_49 : decode cX1_root 49 = .ok (.invokestatic 123, 3) := by decide +kernel
theorem dX1_root_52 : decode cX1_root 52 = .ok (.istore_n 2, 1) := by decide +kernel
theorem dX1_root_53 : decode cX1_root 53 = .ok (.iload_n 1, 1) := by decide +kernel
theorem dX1_root_54 : decode cX1_root 54 = .ok (.invokestatic 97, 3) := by decide +kernel
theorem dX1_root_57 : decode cX1_root 57 = .ok (.iload_n 2, 1) := by decide +kernel
theorem dX1_root_58 : decode cX1_root 58 = .ok (.isub, 1) := by decide +kernel
theorem dX1_root_59 : decode cX1_root 59 = .ok (.bipush 30, 2) := by decide +kernel
theorem dX1_root_61 : decode cX1_root 61 = .ok (.isub, 1) := by decide +kernel
theorem dX1_root_62 : decode cX1_root 62 = .ok (.istore_n 3, 1) := by decide +kernel
theorem dX1_root_63 : decode cX1_root 63 = .ok (.iload_n 1, 1) := by decide +kernel
theorem dX1_root_64 : decode cX1_root 64 = .ok (.invokestatic 94, 3) := by decide +kernel
theorem dX1_root_67 : decode cX1_root 67 = .ok (.i2l, 1) := by decide +kernel
theorem dX1_root_68 : decode cX1_root 68 = .ok (.iload_n 2, 1) := by decide +kernel
theorem dX1_root_69 : decode cX1_root 69 = .ok (.bipush 30, 2) := by decide +kernel
theorem dX1_root_71 : decode cX1_root 71 = .ok (.iadd, 1) := by decide +kernel
theorem dX1_root_72 : decode cX1_root 72 = .ok (.lshl, 1) := by decide +kernel
theorem dX1_root_73 : decode cX1_root 73 = .ok (.lstore 4, 2) := by decide +kernel
theorem dX1_root_75 : decode cX1_root 75 = .ok (.iload_n 3, 1) := by decide +kernel
theorem dX1_root_76 : decode cX1_root 76 = .ok (.iconst 2, 1) := by decide +kernel
theorem dX1_root_77 : decode cX1_root 77 = .ok (.irem, 1) := by decide +kernel
theorem dX1_root_78 : decode cX1_root 78 = .ok (.ifCond .eq 15, 3) := by decide +kernel
theorem dX1_root_81 : decode cX1_root 81 = .ok (.iload_n 3, 1) := by decide +kernel
theorem dX1_root_82 : decode cX1_root 82 = .ok (.iconst 1, 1) := by decide +kernel
theorem dX1_root_83 : decode cX1_root 83 = .ok (.isub, 1) := by decide +kernel
theorem dX1_root_84 : decode cX1_root 84 = .ok (.istore_n 3, 1) := by decide +kernel
theorem dX1_root_85 : decode cX1_root 85 = .ok (.ldc2_w 126, 3) := by decide +kernel
theorem dX1_root_88 : decode cX1_root 88 = .ok (.lload 4, 2) := by decide +kernel
theorem dX1_root_90 : decode cX1_root 90 = .ok (.lmul, 1) := by decide +kernel
theorem dX1_root_91 : decode cX1_root 91 = .ok (.lstore 4, 2) := by decide +kernel
theorem dX1_root_93 : decode cX1_root 93 = .ok (.lconst 0, 1) := by decide +kernel
theorem dX1_root_94 : decode cX1_root 94 = .ok (.lstore 6, 2) := by decide +kernel
theorem dX1_root_96 : decode cX1_root 96 = .ok (.bipush 28, 2) := by decide +kernel
theorem dX1_root_98 : decode cX1_root 98 = .ok (.istore 8, 2) := by decide +kernel
theorem dX1_root_100 : decode cX1_root 100 = .ok (.iload 8, 2) := by decide +kernel
theorem dX1_root_102 : decode cX1_root 102 = .ok (.ifCond .lt 33, 3) := by decide +kernel
theorem dX1_root_105 : decode cX1_root 105 = .ok (.lload 6, 2) := by decide +kernel
theorem dX1_root_107 : decode cX1_root 107 = .ok (.lconst 1, 1) := by decide +kernel
theorem dX1_root_108 : decode cX1_root 108 = .ok (.iload 8, 2) := by decide +kernel
theorem dX1_root_110 : decode cX1_root 110 = .ok (.lshl, 1) := by decide +kernel
theorem dX1_root_111 : decode cX1_root 111 = .ok (.ladd, 1) := by decide +kernel
theorem dX1_root_112 : decode cX1_root 112 = .ok (.lstore 9, 2) := by decide +kernel
theorem dX1_root_114 : decode cX1_root 114 = .ok (.lload 9, 2) := by decide +kernel
theorem dX1_root_116 : decode cX1_root 116 = .ok (.lload 9, 2) := by decide +kernel
theorem dX1_root_118 : decode cX1_root 118 = .ok (.lmul, 1) := by decide +kernel
theorem dX1_root_119 : decode cX1_root 119 = .ok (.lload 4, 2) := by decide +kernel
theorem dX1_root_121 : decode cX1_root 121 = .ok (.lcmp, 1) := by decide +kernel
theorem dX1_root_122 : decode cX1_root 122 = .ok (.ifCond .gt 7, 3) := by decide +kernel
theorem dX1_root_125 : decode cX1_root 125 = .ok (.lload 9, 2) := by decide +kernel
theorem dX1_root_127 : decode cX1_root 127 = .ok (.lstore 6, 2) := by decide +kernel
theorem dX1_root_129 : decode cX1_root 129 = .ok (.iinc 8 (-1), 3) := by decide +kernel
theorem dX1_root_132 : decode cX1_root 132 = .ok (.goto (-32), 3) := by decide +kernel
theorem dX1_root_135 : decode cX1_root 135 = .ok (.aload_n 0, 1) := by decide +kernel
theorem dX1_root_136 : decode cX1_root 136 = .ok (.iload_n 3, 1) := by decide +kernel
theorem dX1_root_137 : decode cX1_root 137 = .ok (.iconst 2, 1) := by decide +kernel
theorem dX1_root_138 : decode cX1_root 138 = .ok (.idiv, 1) := by decide +kernel
theorem dX1_root_139 : decode cX1_root 139 = .ok (.invokevirtual 90, 3) := by decide +kernel
theorem dX1_root_142 : decode cX1_root 142 = .ok (.aload_n 0, 1) := by decide +kernel
theorem dX1_root_143 : decode cX1_root 143 = .ok (.lload 6, 2) := by decide +kernel
theorem dX1_root_145 : decode cX1_root 145 = .ok (.aload_n 0, 1) := by decide +kernel
theorem dX1_root_146 : decode cX1_root 146 = .ok (.getfield 40, 3) := by decide +kernel
theorem dX1_root_149 : decode cX1_root 149 = .ok (.iconst 0, 1) := by decide +kernel
theorem dX1_root_150 : decode cX1_root 150 = .ok (.invokevirtual 100, 3) := by decide +kernel
theorem dX1_root_153 : decode cX1_root 153 = .ok (.aload_n 0, 1) := by decide +kernel
theorem dX1_root_154 : decode cX1_root 154 = .ok (.lload 6, 2) := by decide +kernel
theorem dX1_root_156 : decode cX1_root 156 = .ok (.lload 6, 2) := by decide +kernel
theorem dX1_root_158 : decode cX1_root 158 = .ok (.lmul, 1) := by decide +kernel
theorem dX1_root_159 : decode cX1_root 159 = .ok (.lload 4, 2) := by decide +kernel
theorem dX1_root_161 : decode cX1_root 161 = .ok (.lcmp, 1) := by decide +kernel
theorem dX1_root_162 : decode cX1_root 162 = .ok (.ifCond .eq 7, 3) := by decide +kernel
theorem dX1_root_165 : decode cX1_root 165 = .ok (.iconst 1, 1) := by decide +kernel
theorem dX1_root_166 : decode cX1_root 166 = .ok (.goto 4, 3) := by decide +kernel
theorem dX1_root_169 : decode cX1_root 169 = .ok (.iconst 0, 1) := by decide +kernel
theorem dX1_root_170 : decode cX1_root 170 = .ok (.putfield 43, 3) := by decide +kernel
theorem dX1_root_173 : decode cX1_root 173 = .ok (.aload_n 0, 1) := by decide +kernel
theorem dX1_root_174 : decode cX1_root 174 = .ok (.invokevirtual 104, 3) := by decide +kernel
theorem dX1_root_177 : decode cX1_root 177 = .ok (.istore 8, 2) := by decide +kernel
theorem dX1_root_179 : decode cX1_root 179 = .ok (.aload_n 0, 1) := by decide +kernel
theorem dX1_root_180 : decode cX1_root 180 = .ok (.iload 8, 2) := by decide +kernel
theorem dX1_root_182 : decode cX1_root 182 = .ok (.invokevirtual 115, 3) := by decide +kernel
theorem dX1_root_185 : decode cX1_root 185 = .ok (.ireturn, 1) := by decide +kernel
set_option maxRecDepth 20000 in
theorem ggX1_scale_X1_isNone : GoodIn wsX1_scale wsX1_isNone := goodIn_r _ [5, 6, 7, 4, 8, 9, 10, 11, 12] (by decide +kernel) (by decide +kernel)
set_option maxRecDepth 20000 in
theorem gX1_scale_X1_isNone : GoodIn wsX1_scale (va_wsS RX1 28 yX1_isNone wsX1_isNone) := goodIn_app (goodIn_of _ (by decide +kernel)) ggX1_scale_X1_isNone
set_option maxRecDepth 20000 in
theorem ggX1_scale_X1_none : GoodIn wsX1_scale wsX1_none := goodIn_r _ [16, 17, 18, 19, 20, 4, 21, 22, 2, 3, 5, 6, 7, 8, 9, 10, 11, 12, 89, 90, 91, 92, 93, 94] (by decide +kernel) (by decide +kernel)
set_option maxRecDepth 20000 in
theorem gX1_scale_X1_none : GoodIn wsX1_scale (wsV RX1 77 RX1 yX1_none wsX1_none) := goodIn_app (goodIn_of _ (by decide +kernel)) ggX1_scale_X1_none
set_option maxRecDepth 20000 in
theorem ggX1_scale_X1_isInfinite : GoodIn wsX1_scale wsX1_isInfinite := goodIn_r _ [25, 6, 7, 4, 8, 9, 10, 11, 12] (by decide +kernel) (by decide +kernel)
set_option maxRecDepth 20000 in
theorem gX1_scale_X1_isInfinite : GoodIn wsX1_scale (va_wsS RX1 81 yX1_isInfinite wsX1_isInfinite) := goodIn_app (goodIn_of _ (by decide +kernel)) ggX1_scale_X1_isInfinite
set_option maxRecDepth 20000 in
theorem ggX1_scale_X1_isZero : GoodIn wsX1_scale wsX1_isZero := goodIn_r _ [28, 29] (by decide +kernel) (by decide +kernel)
set_option maxRecDepth 20000 in
theorem gX1_scale_X1_isZero : GoodIn wsX1_scale (va_wsS RX1 108 yX1_isZero wsX1_isZero) := goodIn_app (goodIn_of _ (by decide +kernel)) ggX1_scale_X1_isZero
set_option maxRecDepth 20000 in
theorem ggX1_scale_X1_place : GoodIn wsX1_scale wsX1_place := goodIn_r _ [32, 6, 7, 4, 8] (by decide +kernel) (by decide +kernel)
set_option maxRecDepth 20000 in
theorem gX1_scale_X1_place : GoodIn wsX1_scale (va_wsS RX1 97 yX1_place wsX1_place) := goodIn_app (goodIn_of _ (by decide +kernel)) ggX1_scale_X1_place
set_option maxRecDepth 20000 in
theorem ggX1_scale_X1_empty : GoodIn wsX1_scale wsX1_empty := goodIn_r _ [36, 37, 1, 38, 89, 90, 91, 92, 93, 94] (by decide +kernel) (by decide +kernel)
set_option maxRecDepth 20000 in
theorem gX1_scale_X1_empty : GoodIn wsX1_scale (wsV RX1 90 RX1 yX1_empty wsX1_empty) := goodIn_app (goodIn_of _ (by decide +kernel)) ggX1_scale_X1_empty
set_option maxRecDepth 20000 in
theorem ggX1_scale_X1_units : GoodIn wsX1_scale wsX1_units := goodIn_r _ [41, 42, 6, 7, 4, 8, 9, 10, 11, 12] (by decide +kernel) (by decide +kernel)
set_option maxRecDepth 20000 in
theorem gX1_scale_X1_units : GoodIn wsX1_scale (va_wsS RX1 94 yX1_units wsX1_units) := goodIn_app (goodIn_of _ (by decide +kernel)) ggX1_scale_X1_units
set_option maxRecDepth 20000 in
theorem ggX1_scale_X1_isNegative : GoodIn wsX1_scale wsX1_isNegative := goodIn_r _ [45] (by decide +kernel) (by decide +kernel)
set_option maxRecDepth 20000 in
theorem gX1_scale_X1_isNegative : GoodIn wsX1_scale (va_wsS RX1 84 yX1_isNegative wsX1_isNegative) := goodIn_app (goodIn_of _ (by decide +kernel)) ggX1_scale_X1_isNegative
set_option maxRecDepth 20000 in
theorem ggX1_scale_X1_put : GoodIn wsX1_scale wsX1_put := goodIn_r _ [49, 1, 37, 50, 89, 90, 91, 92, 93, 94] (by decide +kernel) (by decide +kernel)
set_option maxRecDepth 20000 in
theorem gX1_scale_X1_put : GoodIn wsX1_scale (wsV RX1 100 RX1 yX1_put wsX1_put) := goodIn_app (goodIn_of _ (by decide +kernel)) ggX1_scale_X1_put
set_option maxRecDepth 20000 in
theorem ggX1_scale_X1_settle : GoodIn wsX1_scale wsX1_settle := goodIn_r _ [54, 37, 55, 56, 57, 4, 58, 59, 89, 90, 91, 92, 93, 94] (by decide +kernel) (by decide +kernel)
set_option maxRecDepth 20000 in
theorem gX1_scale_X1_settle : GoodIn wsX1_scale (wsV RX1 104 RX1 yX1_settle wsX1_settle) := goodIn_app (goodIn_of _ (by decide +kernel)) ggX1_scale_X1_settle
set_option maxRecDepth 20000 in
theorem ggX1_scale_X1_finish : GoodIn wsX1_scale wsX1_finish := goodIn_r _ [63, 1, 64, 65, 17, 66, 67, 68, 42, 69, 70, 71, 4, 72, 73, 74, 75, 76, 37, 77, 78, 79, 80, 81, 82, 83, 84, 38, 85, 86, 87, 88, 89, 90, 91, 92, 93, 94] (by decide +kernel) (by decide +kernel)
set_option maxRecDepth 20000 in
theorem gX1_scale_X1_finish : GoodIn wsX1_scale (wsV RX1 115 RX1 yX1_finish wsX1_finish) := goodIn_app (goodIn_of _ (by decide +kernel)) ggX1_scale_X1_finish
theorem dX1_scale_0 : decode cX1_scale 0 = .ok (.iload_n 1, 1) := by decide +kernel
theorem dX1_scale_1 : decode cX1_scale 1 = .ok (.invokestatic 28, 3) := by decide +kernel
theorem dX1_scale_4 : decode cX1_scale 4 = .ok (.ifCond .eq 11, 3) := by decide +kernel
theorem dX1_scale_7 : decode cX1_scale 7 = .ok (.aload_n 0, 1) := by decide +kernel
theorem dX1_scale_8 : decode cX1_scale 8 = .ok (.iload_n 1, 1) := by decide +kernel
theorem dX1_scale_9 : decode cX1_scale 9 = .ok (.iconst 0, 1) := by decide +kernel
theorem dX1_scale_10 : decode cX1_scale 10 = .ok (.iconst 0, 1) := by decide +kernel
theorem dX1_scale_11 : decode cX1_scale 11 = .ok (.invokevirtual 77, 3) := by decide +kernel
theorem dX1_scale_14 : decode cX1_scale 14 = .ok (.ireturn, 1) := by decide +kernel
theorem dX1_scale_15 : decode cX1_scale 15 = .ok (.iload_n 1, 1) := by decide +kernel
theorem dX1_scale_16 : decode cX1_scale 16 = .ok (.invokestatic 81, 3) := by decide +kernel
theorem dX1_scale_19 : decode cX1_scale 19 = .ok (.ifCond .ne 10, 3) := by decide +kernel
theorem dX1_scale_22 : decode cX1_scale 22 = .ok (.iload_n 1, 1) := by decide +kernel
theorem dX1_scale_23 : decode cX1_scale 23 = .ok (.invokestatic 108, 3) := by decide +kernel
theorem dX1_scale_26 : decode cX1_scale 26 = .ok (.ifCond .eq 5, 3) := by decide +kernel
theorem dX1_scale_29 : decode cX1_scale 29 = .ok (.iload_n 1, 1) := by decide +kernel
theorem dX1_scale_30 : decode cX1_scale 30 = .ok (.ireturn, 1) := by decide +kernel
theorem dX1_scale_31 : decode cX1_scale 31 = .ok (.iload_n 2, 1) := by decide +kernel
theorem dX1_scale_32 : decode cX1_scale 32 = .ok (.sipush (-400), 3) := by decide +kernel
theorem dX1_scale_35 : decode cX1_scale 35 = .ok (.if_icmp .ge 9, 3) := by decide +kernel
theorem dX1_scale_38 : decode cX1_scale 38 = .ok (.sipush (-400), 3) := by decide +kernel
theorem dX1_scale_41 : decode cX1_scale 41 = .ok (.goto 17, 3) := by decide +kernel
theorem dX1_scale_44 : decode cX1_scale 44 = .ok (.iload_n 2, 1) := by decide +kernel
theorem dX1_scale_45 : decode cX1_scale 45 = .ok (.sipush 400, 3) := by decide +kernel
theorem dX1_scale_48 : decode cX1_scale 48 = .ok (.if_icmp .le 9, 3) := by decide +kernel
theorem dX1_scale_51 : decode cX1_scale 51 = .ok (.sipush 400, 3) := by decide +kernel
theorem dX1_scale_54 : decode cX1_scale 54 = .ok (.goto 4, 3) := by decide +kernel
theorem dX1_scale_57 : decode cX1_scale 57 = .ok (.iload_n 2, 1) := by decide +kernel
theorem dX1_scale_58 : decode cX1_scale 58 = .ok (.istore_n 3, 1) := by decide +kernel
theorem dX1_scale_59 : decode cX1_scale 59 = .ok (.aload_n 0, 1) := by decide +kernel
theorem dX1_scale_60 : decode cX1_scale 60 = .ok (.iload_n 1, 1) := by decide +kernel
theorem dX1_scale_61 : decode cX1_scale 61 = .ok (.invokestatic 97, 3) := by decide +kernel
theorem dX1_scale_64 : decode cX1_scale 64 = .ok (.iload_n 3, 1) := by decide +kernel
theorem dX1_scale_65 : decode cX1_scale 65 = .ok (.iadd, 1) := by decide +kernel
theorem dX1_scale_66 : decode cX1_scale 66 = .ok (.invokevirtual 90, 3) := by decide +kernel
theorem dX1_scale_69 : decode cX1_scale 69 = .ok (.aload_n 0, 1) := by decide +kernel
theorem dX1_scale_70 : decode cX1_scale 70 = .ok (.iload_n 1, 1) := by decide +kernel
theorem dX1_scale_71 : decode cX1_scale 71 = .ok (.invokestatic 94, 3) := by decide +kernel
theorem dX1_scale_74 : decode cX1_scale 74 = .ok (.i2l, 1) := by decide +kernel
theorem dX1_scale_75 : decode cX1_scale 75 = .ok (.aload_n 0, 1) := by decide +kernel
theorem dX1_scale_76 : decode cX1_scale 76 = .ok (.getfield 40, 3) := by decide +kernel
theorem dX1_scale_79 : decode cX1_scale 79 = .ok (.iload_n 1, 1) := by decide +kernel
theorem dX1_scale_80 : decode cX1_scale 80 = .ok (.invokestatic 84, 3) := by decide +kernel
theorem dX1_scale_83 : decode cX1_scale 83 = .ok (.invokevirtual 100, 3) := by decide +kernel
theorem dX1_scale_86 : decode cX1_scale 86 = .ok (.aload_n 0, 1) := by decide +kernel
theorem dX1_scale_87 : decode cX1_scale 87 = .ok (.invokevirtual 104, 3) := by decide +kernel
theorem dX1_scale_90 : decode cX1_scale 90 = .ok (.istore 4, 2) := by decide +kernel
theorem dX1_scale_92 : decode cX1_scale 92 = .ok (.aload_n 0, 1) := by decide +kernel
theorem dX1_scale_93 : decode cX1_scale 93 = .ok (.iload 4, 2) := by decide +kernel
theorem dX1_scale_95 : decode cX1_scale 95 = .ok (.invokevirtual 115, 3) := by decide +kernel
theorem dX1_scale_98 : decode cX1_scale 98 = .ok (.ireturn, 1) := by decide +kernel
set_option maxRecDepth 20000 in
theorem ggX1_nearest_X1_place : GoodIn wsX1_nearest wsX1_place := goodIn_r _ [5, 6, 7, 4, 8] (by decide +kernel) (by decide +kernel)
set_option maxRecDepth 20000 in
theorem gX1_nearest_X1_place : GoodIn wsX1_nearest (va_wsS RX1 97 yX1_place wsX1_place) := goodIn_app (goodIn_of _ (by decide +kernel)) ggX1_nearest_X1_place
set_option maxRecDepth 20000 in
theorem ggX1_nearest_X1_units : GoodIn wsX1_nearest wsX1_units := goodIn_r _ [11, 12, 6, 7, 4, 8, 13, 14, 15, 16] (by decide +kernel) (by decide +kernel)
set_option maxRecDepth 20000 in
theorem gX1_nearest_X1_units : GoodIn wsX1_nearest (va_wsS RX1 94 yX1_units wsX1_units) := goodIn_app (goodIn_of _ (by decide +kernel)) ggX1_nearest_X1_units
set_option maxRecDepth 20000 in
theorem ggX1_nearest_X1_empty : GoodIn wsX1_nearest wsX1_empty := goodIn_r _ [20, 21, 22, 23, 45, 46, 47, 48, 49, 50] (by decide +kernel) (by decide +kernel)
set_option maxRecDepth 20000 in
theorem gX1_nearest_X1_empty : GoodIn wsX1_nearest (wsV RX1 90 RX1 yX1_empty wsX1_empty) := goodIn_app (goodIn_of _ (by decide +kernel)) ggX1_nearest_X1_empty
set_option maxRecDepth 20000 in
theorem ggX1_nearest_X1_put : GoodIn wsX1_nearest wsX1_put := goodIn_r _ [27, 22, 21, 28, 45, 46, 47, 48, 49, 50] (by decide +kernel) (by decide +kernel)
set_option maxRecDepth 20000 in
theorem gX1_nearest_X1_put : GoodIn wsX1_nearest (wsV RX1 100 RX1 yX1_put wsX1_put) := goodIn_app (goodIn_of _ (by decide +kernel)) ggX1_nearest_X1_put
set_option maxRecDepth 20000 in
theorem ggX1_nearest_X1_isNegative : GoodIn wsX1_nearest wsX1_isNegative := goodIn_r _ [31] (by decide +kernel) (by decide +kernel)
set_option maxRecDepth 20000 in
theorem gX1_nearest_X1_isNegative : GoodIn wsX1_nearest (va_wsS RX1 84 yX1_isNegative wsX1_isNegative) := goodIn_app (goodIn_of _ (by decide +kernel)) ggX1_nearest_X1_isNegative
set_option maxRecDepth 20000 in
theorem ggX1_nearest_X1_rounded : GoodIn wsX1_nearest wsX1_rounded := goodIn_r _ [35, 1, 36, 37, 38, 39, 4, 40, 21, 41, 42, 43, 44, 23, 45, 46, 47, 48, 49, 50] (by decide +kernel) (by decide +kernel)
set_option maxRecDepth 20000 in
theorem gX1_nearest_X1_rounded : GoodIn wsX1_nearest (wsV RX1 67 RX1 yX1_rounded wsX1_rounded) := goodIn_app (goodIn_of _ (by decide +kernel)) ggX1_nearest_X1_rounded
theorem dX1_nearest_0 : decode cX1_nearest 0 = .ok (.iload_n 1, 1) := by decide +kernel
theorem dX1_nearest_1 : decode cX1_nearest 1 = .ok (.invokestatic 97, 3) := by decide +kernel
theorem dX1_nearest_4 : decode cX1_nearest 4 = .ok (.istore_n 2, 1) := by decide +kernel
theorem dX1_nearest_5 : decode cX1_nearest 5 = .ok (.iload_n 2, 1) := by decide +kernel
theorem dX1_nearest_6 : decode cX1_nearest 6 = .ok (.ifCond .lt 27, 3) := by decide +kernel
theorem dX1_nearest_9 : decode cX1_nearest 9 = .ok (.aload_n 0, 1) := by decide +kernel
theorem dX1_nearest_10 : decode cX1_nearest 10 = .ok (.iconst 1, 1) := by decide +kernel
theorem dX1_nearest_11 : decode cX1_nearest 11 = .ok (.putfield 60, 3) := by decide +kernel
theorem dX1_nearest_14 : decode cX1_nearest 14 = .ok (.iload_n 1, 1) := by decide +kernel
theorem dX1_nearest_15 : decode cX1_nearest 15 = .ok (.invokestatic 94, 3) := by decide +kernel
theorem dX1_nearest_18 : decode cX1_nearest 18 = .ok (.i2l, 1) := by decide +kernel
theorem dX1_nearest_19 : decode cX1_nearest 19 = .ok (.iload_n 2, 1) := by decide +kernel
theorem dX1_nearest_20 : decode cX1_nearest 20 = .ok (.bipush 16, 2) := by decide +kernel
theorem dX1_nearest_22 : decode cX1_nearest 22 = .ok (.if_icmp .ge 7, 3) := by decide +kernel
theorem dX1_nearest_25 : decode cX1_nearest 25 = .ok (.iload_n 2, 1) := by decide +kernel
theorem dX1_nearest_26 : decode cX1_nearest 26 = .ok (.goto 5, 3) := by decide +kernel
theorem dX1_nearest_29 : decode cX1_nearest 29 = .ok (.bipush 16, 2) := by decide +kernel
theorem dX1_nearest_31 : decode cX1_nearest 31 = .ok (.lshl, 1) := by decide +kernel
theorem dX1_nearest_32 : decode cX1_nearest 32 = .ok (.lreturn, 1) := by decide +kernel
theorem dX1_nearest_33 : decode cX1_nearest 33 = .ok (.aload_n 0, 1) := by decide +kernel
theorem dX1_nearest_34 : decode cX1_nearest 34 = .ok (.iload_n 2, 1) := by decide +kernel
theorem dX1_nearest_35 : decode cX1_nearest 35 = .ok (.invokevirtual 90, 3) := by decide +kernel
theorem dX1_nearest_38 : decode cX1_nearest 38 = .ok (.aload_n 0, 1) := by decide +kernel
theorem dX1_nearest_39 : decode cX1_nearest 39 = .ok (.iload_n 1, 1) := by decide +kernel
theorem dX1_nearest_40 : decode cX1_nearest 40 = .ok (.invokestatic 94, 3) := by decide +kernel
theorem dX1_nearest_43 : decode cX1_nearest 43 = .ok (.i2l, 1) := by decide +kernel
theorem dX1_nearest_44 : decode cX1_nearest 44 = .ok (.iload_n 2, 1) := by decide +kernel
theorem dX1_nearest_45 : decode cX1_nearest 45 = .ok (.iconst 0, 1) := by decide +kernel
theorem dX1_nearest_46 : decode cX1_nearest 46 = .ok (.invokevirtual 100, 3) := by decide +kernel
theorem dX1_nearest_49 : decode cX1_nearest 49 = .ok (.aload_n 0, 1) := by decide +kernel
theorem dX1_nearest_50 : decode cX1_nearest 50 = .ok (.iload_n 2, 1) := by decide +kernel
theorem dX1_nearest_51 : decode cX1_nearest 51 = .ok (.ineg, 1) := by decide +kernel
theorem dX1_nearest_52 : decode cX1_nearest 52 = .ok (.iload_n 1, 1) := by decide +kernel
theorem dX1_nearest_53 : decode cX1_nearest 53 = .ok (.invokestatic 84, 3) := by decide +kernel
theorem dX1_nearest_56 : decode cX1_nearest 56 = .ok (.invokevirtual 67, 3) := by decide +kernel
theorem dX1_nearest_59 : decode cX1_nearest 59 = .ok (.i2l, 1) := by decide +kernel
theorem dX1_nearest_60 : decode cX1_nearest 60 = .ok (.lreturn, 1) := by decide +kernel
set_option maxRecDepth 20000 in
theorem ggX1_whole_X1_isNone : GoodIn wsX1_whole wsX1_isNone := goodIn_r _ [6, 7, 8, 5, 9, 10, 11, 12, 13] (by decide +kernel) (by decide +kernel)
set_option maxRecDepth 20000 in
theorem gX1_whole_X1_isNone : GoodIn wsX1_whole (va_wsS RX1 28 yX1_isNone wsX1_isNone) := goodIn_app (goodIn_of _ (by decide +kernel)) ggX1_whole_X1_isNone
set_option maxRecDepth 20000 in
theorem ggX1_whole_X1_none : GoodIn wsX1_whole wsX1_none := goodIn_r _ [17, 2, 18, 19, 20, 5, 21, 22, 3, 4, 6, 7, 8, 9, 10, 11, 12, 13, 93, 94, 95, 96, 97, 98] (by decide +kernel) (by decide +kernel)
set_option maxRecDepth 20000 in
theorem gX1_whole_X1_none : GoodIn wsX1_whole (wsV RX1 77 RX1 yX1_none wsX1_none) := goodIn_app (goodIn_of _ (by decide +kernel)) ggX1_whole_X1_none
set_option maxRecDepth 20000 in
theorem ggX1_whole_X1_isInfinite : GoodIn wsX1_whole wsX1_isInfinite := goodIn_r _ [25, 7, 8, 5, 9, 10, 11, 12, 13] (by decide +kernel) (by decide +kernel)
set_option maxRecDepth 20000 in
theorem gX1_whole_X1_isInfinite : GoodIn wsX1_whole (va_wsS RX1 81 yX1_isInfinite wsX1_isInfinite) := goodIn_app (goodIn_of _ (by decide +kernel)) ggX1_whole_X1_isInfinite
set_option maxRecDepth 20000 in
theorem ggX1_whole_X1_isZero : GoodIn wsX1_whole wsX1_isZero := goodIn_r _ [28, 29] (by decide +kernel) (by decide +kernel)
set_option maxRecDepth 20000 in
theorem gX1_whole_X1_isZero : GoodIn wsX1_whole (va_wsS RX1 108 yX1_isZero wsX1_isZero) := goodIn_app (goodIn_of _ (by decide +kernel)) ggX1_whole_X1_isZero
set_option maxRecDepth 20000 in
theorem ggX1_whole_X1_place : GoodIn wsX1_whole wsX1_place := goodIn_r _ [32, 7, 8, 5, 9] (by decide +kernel) (by decide +kernel)
set_option maxRecDepth 20000 in
theorem gX1_whole_X1_place : GoodIn wsX1_whole (va_wsS RX1 97 yX1_place wsX1_place) := goodIn_app (goodIn_of _ (by decide +kernel)) ggX1_whole_X1_place
set_option maxRecDepth 20000 in
theorem ggX1_whole_X1_nearest : GoodIn wsX1_whole wsX1_nearest := goodIn_r _ [36, 1, 30, 31, 5, 32, 7, 8, 9, 37, 38, 39, 40, 10, 11, 12, 13, 41, 42, 43, 44, 45, 46, 47, 48, 49, 50, 51, 52, 53, 54, 55, 56, 57, 58, 59, 60, 61, 62, 63, 64, 65, 66, 67, 68, 93, 94, 95, 96, 97, 98] (by decide +kernel) (by decide +kernel)
set_option maxRecDepth 20000 in
theorem gX1_whole_X1_nearest : GoodIn wsX1_whole (wsV RX1 128 RX1 yX1_nearest wsX1_nearest) := goodIn_app (goodIn_of _ (by decide +kernel)) ggX1_whole_X1_nearest
set_option maxRecDepth 20000 in
theorem ggX1_whole_X1_isNegative : GoodIn wsX1_whole wsX1_isNegative := goodIn_r _ [55] (by decide +kernel) (by decide +kernel)
set_option maxRecDepth 20000 in
theorem gX1_whole_X1_isNegative : GoodIn wsX1_whole (va_wsS RX1 84 yX1_isNegative wsX1_isNegative) := goodIn_app (goodIn_of _ (by decide +kernel)) ggX1_whole_X1_isNegative
set_option maxRecDepth 20000 in
theorem ggX1_whole_X1_signed : GoodIn wsX1_whole wsX1_signed := goodIn_r _ [71, 72] (by decide +kernel) (by decide +kernel)
set_option maxRecDepth 20000 in
theorem gX1_whole_X1_signed : GoodIn wsX1_whole (va_wsS RX1 74 yX1_signed wsX1_signed) := goodIn_app (goodIn_of _ (by decide +kernel)) ggX1_whole_X1_signed
set_option maxRecDepth 20000 in
theorem ggX1_whole_X1_empty : GoodIn wsX1_whole wsX1_empty := goodIn_r _ [44, 45, 46, 47, 93, 94, 95, 96, 97, 98] (by decide +kernel) (by decide +kernel)
set_option maxRecDepth 20000 in
theorem gX1_whole_X1_empty : GoodIn wsX1_whole (wsV RX1 90 RX1 yX1_empty wsX1_empty) := goodIn_app (goodIn_of _ (by decide +kernel)) ggX1_whole_X1_empty
set_option maxRecDepth 20000 in
theorem ggX1_whole_X1_put : GoodIn wsX1_whole wsX1_put := goodIn_r _ [51, 46, 45, 52, 93, 94, 95, 96, 97, 98] (by decide +kernel) (by decide +kernel)
set_option maxRecDepth 20000 in
theorem gX1_whole_X1_put : GoodIn wsX1_whole (wsV RX1 100 RX1 yX1_put wsX1_put) := goodIn_app (goodIn_of _ (by decide +kernel)) ggX1_whole_X1_put
set_option maxRecDepth 20000 in
theorem ggX1_whole_X1_settle : GoodIn wsX1_whole wsX1_settle := goodIn_r _ [76, 45, 77, 78, 79, 5, 80, 81, 93, 94, 95, 96, 97, 98] (by decide +kernel) (by decide +kernel)
set_option maxRecDepth 20000 in
theorem gX1_whole_X1_settle : GoodIn wsX1_whole (wsV RX1 104 RX1 yX1_settle wsX1_settle) := goodIn_app (goodIn_of _ (by decide +kernel)) ggX1_whole_X1_settle
set_option maxRecDepth 20000 in
theorem ggX1_whole_X1_finish : GoodIn wsX1_whole wsX1_finish := goodIn_r _ [85, 46, 86, 1, 2, 60, 87, 88, 40, 89, 90, 91, 5, 92, 61, 62, 63, 64, 45, 56, 57, 58, 59, 65, 66, 67, 68, 47, 69, 70, 71, 72, 93, 94, 95, 96, 97, 98] (by decide +kernel) (by decide +kernel)
set_option maxRecDepth 20000 in
theorem gX1_whole_X1_finish : GoodIn wsX1_whole (wsV RX1 115 RX1 yX1_finish wsX1_finish) := goodIn_app (goodIn_of _ (by decide +kernel)) ggX1_whole_X1_finish
theorem dX1_whole_0 : decode cX1_whole 0 = .ok (.iload_n 1, 1) := by decide +kernel
theorem dX1_whole_1 : decode cX1_whole 1 = .ok (.invokestatic 28, 3) := by decide +kernel
theorem dX1_whole_4 : decode cX1_whole 4 = .ok (.ifCond .eq 11, 3) := by decide +kernel
theorem dX1_whole_7 : decode cX1_whole 7 = .ok (.aload_n 0, 1) := by decide +kernel
theorem dX1_whole_8 : decode cX1_whole 8 = .ok (.iload_n 1, 1) := by decide +kernel
theorem dX1_whole_9 : decode cX1_whole 9 = .ok (.iconst 0, 1) := by decide +kernel
theorem dX1_whole_10 : decode cX1_whole 10 = .ok (.iconst 0, 1) := by decide +kernel
theorem dX1_whole_11 : decode cX1_whole 11 = .ok (.invokevirtual 77, 3) := by decide +kernel
theorem dX1_whole_14 : decode cX1_whole 14 = .ok (.ireturn, 1) := by decide +kernel
theorem dX1_whole_15 : decode cX1_whole 15 = .ok (.iload_n 1, 1) := by decide +kernel
theorem dX1_whole_16 : decode cX1_whole 16 = .ok (.invokestatic 81, 3) := by decide +kernel
theorem dX1_whole_19 : decode cX1_whole 19 = .ok (.ifCond .ne 17, 3) := by decide +kernel
theorem dX1_whole_22 : decode cX1_whole 22 = .ok (.iload_n 1, 1) := by decide +kernel
theorem dX1_whole_23 : decode cX1_whole 23 = .ok (.invokestatic 108, 3) := by decide +kernel
theorem dX1_whole_26 : decode cX1_whole 26 = .ok (.ifCond .ne 10, 3) := by decide +kernel
theorem dX1_whole_29 : decode cX1_whole 29 = .ok (.iload_n 1, 1) := by decide +kernel
theorem dX1_whole_30 : decode cX1_whole 30 = .ok (.invokestatic 97, 3) := by decide +kernel
theorem dX1_whole_33 : decode cX1_whole 33 = .ok (.ifCond .lt 5, 3) := by decide +kernel
theorem dX1_whole_36 : decode cX1_whole 36 = .ok (.iload_n 1, 1) := by decide +kernel
theorem dX1_whole_37 : decode cX1_whole 37 = .ok (.ireturn, 1) := by decide +kernel
theorem dX1_whole_38 : decode cX1_whole 38 = .ok (.aload_n 0, 1) := by decide +kernel
theorem dX1_whole_39 : decode cX1_whole 39 = .ok (.iload_n 1, 1) := by decide +kernel
theorem dX1_whole_40 : decode cX1_whole 40 = .ok (.invokevirtual 128, 3) := by decide +kernel
theorem dX1_whole_43 : decode cX1_whole 43 = .ok (.lstore_n 2, 1) := by decide +kernel
theorem dX1_whole_44 : decode cX1_whole 44 = .ok (.aload_n 0, 1) := by decide +kernel
theorem dX1_whole_45 : decode cX1_whole 45 = .ok (.getfield 60, 3) := by decide +kernel
theorem dX1_whole_48 : decode cX1_whole 48 = .ok (.ifCond .ne 13, 3) := by decide +kernel
theorem dX1_whole_51 : decode cX1_whole 51 = .ok (.aload_n 0, 1) := by decide +kernel
theorem dX1_whole_52 : decode cX1_whole 52 = .ok (.aload_n 0, 1) := by decide +kernel
theorem dX1_whole_53 : decode cX1_whole 53 = .ok (.getfield 17, 3) := by decide +kernel
theorem dX1_whole_56 : decode cX1_whole 56 = .ok (.iconst 1, 1) := by decide +kernel
theorem dX1_whole_57 : decode cX1_whole 57 = .ok (.ior, 1) := by decide +kernel
theorem dX1_whole_58 : decode cX1_whole 58 = .ok (.putfield 17, 3) := by decide +kernel
theorem dX1_whole_61 : decode cX1_whole 61 = .ok (.lload_n 2, 1) := by decide +kernel
theorem dX1_whole_62 : decode cX1_whole 62 = .ok (.lconst 0, 1) := by decide +kernel
theorem dX1_whole_63 : decode cX1_whole 63 = .ok (.lcmp, 1) := by decide +kernel
theorem dX1_whole_64 : decode cX1_whole 64 = .ok (.ifCond .ne 12, 3) := by decide +kernel
theorem dX1_whole_67 : decode cX1_whole 67 = .ok (.iconst 0, 1) := by decide +kernel
theorem dX1_whole_68 : decode cX1_whole 68 = .ok (.iload_n 1, 1) := by decide +kernel
theorem dX1_whole_69 : decode cX1_whole 69 = .ok (.invokestatic 84, 3) := by decide +kernel
theorem dX1_whole_72 : decode cX1_whole 72 = .ok (.invokestatic 74, 3) := by decide +kernel
theorem dX1_whole_75 : decode cX1_whole 75 = .ok (.ireturn, 1) := by decide +kernel
theorem dX1_whole_76 : decode cX1_whole 76 = .ok (.aload_n 0, 1) := by decide +kernel
theorem dX1_whole_77 : decode cX1_whole 77 = .ok (.iconst 0, 1) := by decide +kernel
theorem dX1_whole_78 : decode cX1_whole 78 = .ok (.invokevirtual 90, 3) := by decide +kernel
theorem dX1_whole_81 : decode cX1_whole 81 = .ok (.aload_n 0, 1) := by decide +kernel
theorem dX1_whole_82 : decode cX1_whole 82 = .ok (.lload_n 2, 1) := by decide +kernel
theorem dX1_whole_83 : decode cX1_whole 83 = .ok (.iconst 0, 1) := by decide +kernel
theorem dX1_whole_84 : decode cX1_whole 84 = .ok (.iconst 0, 1) := by decide +kernel
theorem dX1_whole_85 : decode cX1_whole 85 = .ok (.invokevirtual 100, 3) := by decide +kernel
theorem dX1_whole_88 : decode cX1_whole 88 = .ok (.aload_n 0, 1) := by decide +kernel
theorem dX1_whole_89 : decode cX1_whole 89 = .ok (.invokevirtual 104, 3) := by decide +kernel
theorem dX1_whole_92 : decode cX1_whole 92 = .ok (.istore 4, 2) := by decide +kernel
theorem dX1_whole_94 : decode cX1_whole 94 = .ok (.aload_n 0, 1) := by decide +kernel
theorem dX1_whole_95 : decode cX1_whole 95 = .ok (.iload_n 1, 1) := by decide +kernel
theorem dX1_whole_96 : decode cX1_whole 96 = .ok (.invokestatic 84, 3) := by decide +kernel
theorem dX1_whole_99 : decode cX1_whole 99 = .ok (.iload 4, 2) := by decide +kernel
theorem dX1_whole_101 : decode cX1_whole 101 = .ok (.if_icmp .eq 7, 3) := by decide +kernel
theorem dX1_whole_104 : decode cX1_whole 104 = .ok (.iconst 1, 1) := by decide +kernel
theorem dX1_whole_105 : decode cX1_whole 105 = .ok (.goto 4, 3) := by decide +kernel
theorem dX1_whole_108 : decode cX1_whole 108 = .ok (.iconst 0, 1) := by decide +kernel
theorem dX1_whole_109 : decode cX1_whole 109 = .ok (.invokevirtual 115, 3) := by decide +kernel
theorem dX1_whole_112 : decode cX1_whole 112 = .ok (.ireturn, 1) := by decide +kernel
set_option maxRecDepth 20000 in
theorem ggX1_toInt_X1_exponent : GoodIn wsX1_toInt wsX1_exponent := goodIn_r _ [9] (by decide +kernel) (by decide +kernel)
set_option maxRecDepth 20000 in
theorem gX1_toInt_X1_exponent : GoodIn wsX1_toInt (va_wsS RX1 21 yX1_exponent wsX1_exponent) := goodIn_app (goodIn_of _ (by decide +kernel)) ggX1_toInt_X1_exponent
set_option maxRecDepth 20000 in
theorem ggX1_toInt_X1_nearest : GoodIn wsX1_toInt wsX1_nearest := goodIn_r _ [13, 5, 14, 15, 8, 16, 6, 7, 9, 17, 18, 19, 20, 21, 22, 23, 24, 25, 26, 27, 28, 29, 30, 31, 32, 33, 34, 35, 36, 37, 38, 39, 40, 41, 42, 43, 44, 45, 46, 47, 48, 49, 50, 51, 52, 53, 54, 55, 56, 57, 58] (by decide +kernel) (by decide +kernel)
set_option maxRecDepth 20000 in
theorem gX1_toInt_X1_nearest : GoodIn wsX1_toInt (wsV RX1 128 RX1 yX1_nearest wsX1_nearest) := goodIn_app (goodIn_of _ (by decide +kernel)) ggX1_toInt_X1_nearest
set_option maxRecDepth 20000 in
theorem ggX1_toInt_X1_isNegative : GoodIn wsX1_toInt wsX1_isNegative := goodIn_r _ [39] (by decide +kernel) (by decide +kernel)
set_option maxRecDepth 20000 in
theorem gX1_toInt_X1_isNegative : GoodIn wsX1_toInt (va_wsS RX1 84 yX1_isNegative wsX1_isNegative) := goodIn_app (goodIn_of _ (by decide +kernel)) ggX1_toInt_X1_isNegative
theorem dX1_toInt_0 : decode cX1_toInt 0 = .ok (.iload_n 1, 1) := by decide +kernel
theorem dX1_toInt_1 : decode cX1_toInt 1 = .ok (.invokestatic 21, 3) := by decide +kernel
theorem dX1_toInt_4 : decode cX1_toInt 4 = .ok (.sipush 166, 3) := by decide +kernel
theorem dX1_toInt_7 : decode cX1_toInt 7 = .ok (.if_icmp .ge 7, 3) := by decide +kernel
theorem dX1_toInt_10 : decode cX1_toInt 10 = .ok (.iconst 1, 1) := by decide +kernel
theorem dX1_toInt_11 : decode cX1_toInt 11 = .ok (.goto 4, 3) := by decide +kernel
theorem dX1_toInt_14 : decode cX1_toInt 14 = .ok (.iconst 0, 1) := by decide +kernel
theorem dX1_toInt_15 : decode cX1_toInt 15 = .ok (.istore_n 2, 1) := by decide +kernel
theorem dX1_toInt_16 : decode cX1_toInt 16 = .ok (.iload_n 2, 1) := by decide +kernel
theorem dX1_toInt_17 : decode cX1_toInt 17 = .ok (.ifCond .eq 11, 3) := by decide +kernel
theorem dX1_toInt_20 : decode cX1_toInt 20 = .ok (.aload_n 0, 1) := by decide +kernel
theorem dX1_toInt_21 : decode cX1_toInt 21 = .ok (.iload_n 1, 1) := by decide +kernel
theorem dX1_toInt_22 : decode cX1_toInt 22 = .ok (.invokevirtual 128, 3) := by decide +kernel
theorem dX1_toInt_25 : decode cX1_toInt 25 = .ok (.goto 4, 3) := by decide +kernel
theorem dX1_toInt_28 : decode cX1_toInt 28 = .ok (.lconst 0, 1) := by decide +kernel
theorem dX1_toInt_29 : decode cX1_toInt 29 = .ok (.lstore_n 3, 1) := by decide +kernel
theorem dX1_toInt_30 : decode cX1_toInt 30 = .ok (.iload_n 2, 1) := by decide +kernel
theorem dX1_toInt_31 : decode cX1_toInt 31 = .ok (.ifCond .eq 33, 3) := by decide +kernel
theorem dX1_toInt_34 : decode cX1_toInt 34 = .ok (.iload_n 1, 1) := by decide +kernel
theorem dX1_toInt_35 : decode cX1_toInt 35 = .ok (.invokestatic 84, 3) := by decide +kernel
theorem dX1_toInt_38 : decode cX1_toInt 38 = .ok (.ifCond .eq 14, 3) := by decide +kernel
theorem dX1_toInt_41 : decode cX1_toInt 41 = .ok (.lload_n 3, 1) := by decide +kernel
theorem dX1_toInt_42 : decode cX1_toInt 42 = .ok (.ldc2_w 132, 3) := by decide +kernel
theorem dX1_toInt_45 : decode cX1_toInt 45 = .ok (.lcmp, 1) := by decide +kernel
theorem dX1_toInt_46 : decode cX1_toInt 46 = .ok (.ifCond .gt 18, 3) := by decide +kernel
theorem dX1_toInt_49 : decode cX1_toInt 49 = .ok (.goto 11, 3) := by decide +kernel
theorem dX1_toInt_52 : decode cX1_toInt 52 = .ok (.lload_n 3, 1) := by decide +kernel
theorem dX1_toInt_53 : decode cX1_toInt 53 = .ok (.ldc2_w 134, 3) := by decide +kernel
theorem dX1_toInt_56 : decode cX1_toInt 56 = .ok (.lcmp, 1) := by decide +kernel
theorem dX1_toInt_57 : decode cX1_toInt 57 = .ok (.ifCond .gt 7, 3) := by decide +kernel
theorem dX1_toInt_60 : decode cX1_toInt 60 = .ok (.iconst 1, 1) := by decide +kernel
theorem dX1_toInt_61 : decode cX1_toInt 61 = .ok (.goto 4, 3) := by decide +kernel
theorem dX1_toInt_64 : decode cX1_toInt 64 = .ok (.iconst 0, 1) := by decide +kernel
theorem dX1_toInt_65 : decode cX1_toInt 65 = .ok (.istore 5, 2) := by decide +kernel
theorem dX1_toInt_67 : decode cX1_toInt 67 = .ok (.iload 5, 2) := by decide +kernel
theorem dX1_toInt_69 : decode cX1_toInt 69 = .ok (.ifCond .ne 17, 3) := by decide +kernel
theorem dX1_toInt_72 : decode cX1_toInt 72 = .ok (.aload_n 0, 1) := by decide +kernel
theorem dX1_toInt_73 : decode cX1_toInt 73 = .ok (.aload_n 0, 1) := by decide +kernel
theorem dX1_toInt_74 : decode cX1_toInt 74 = .ok (.getfield 17, 3) := by decide +kernel
theorem dX1_toInt_77 : decode cX1_toInt 77 = .ok (.bipush 16, 2) := by decide +kernel
theorem dX1_toInt_79 : decode cX1_toInt 79 = .ok (.ior, 1) := by decide +kernel
theorem dX1_toInt_80 : decode cX1_toInt 80 = .ok (.putfield 17, 3) := by decide +kernel
theorem dX1_toInt_83 : decode cX1_toInt 83 = .ok (.ldc 34, 2) := by decide +kernel
theorem dX1_toInt_85 : decode cX1_toInt 85 = .ok (.ireturn, 1) := by decide +kernel
theorem dX1_toInt_86 : decode cX1_toInt 86 = .ok (.aload_n 0, 1) := by decide +kernel
theorem dX1_toInt_87 : decode cX1_toInt 87 = .ok (.getfield 60, 3) := by decide +kernel
theorem dX1_toInt_90 : decode cX1_toInt 90 = .ok (.ifCond .ne 13, 3) := by decide +kernel
theorem dX1_toInt_93 : decode cX1_toInt 93 = .ok (.aload_n 0, 1) := by decide +kernel
theorem dX1_toInt_94 : decode cX1_toInt 94 = .ok (.aload_n 0, 1) := by decide +kernel
theorem dX1_toInt_95 : decode cX1_toInt 95 = .ok (.getfield 17, 3) := by decide +kernel
theorem dX1_toInt_98 : decode cX1_toInt 98 = .ok (.iconst 1, 1) := by decide +kernel
theorem dX1_toInt_99 : decode cX1_toInt 99 = .ok (.ior, 1) := by decide +kernel
theorem dX1_toInt_100 : decode cX1_toInt 100 = .ok (.putfield 17, 3) := by decide +kernel
theorem dX1_toInt_103 : decode cX1_toInt 103 = .ok (.iload_n 1, 1) := by decide +kernel
theorem dX1_toInt_104 : decode cX1_toInt 104 = .ok (.invokestatic 84, 3) := by decide +kernel
theorem dX1_toInt_107 : decode cX1_toInt 107 = .ok (.ifCond .eq 8, 3) := by decide +kernel
theorem dX1_toInt_110 : decode cX1_toInt 110 = .ok (.lload_n 3, 1) := by decide +kernel
theorem dX1_toInt_111 : decode cX1_toInt 111 = .ok (.lneg, 1) := by decide +kernel
theorem dX1_toInt_112 : decode cX1_toInt 112 = .ok (.goto 4, 3) := by decide +kernel
theorem dX1_toInt_115 : decode cX1_toInt 115 = .ok (.lload_n 3, 1) := by decide +kernel
theorem dX1_toInt_116 : decode cX1_toInt 116 = .ok (.l2i, 1) := by decide +kernel
theorem dX1_toInt_117 : decode cX1_toInt 117 = .ok (.ireturn, 1) := by decide +kernel
set_option maxRecDepth 20000 in
theorem ggX1_fromInt_X1_empty : GoodIn wsX1_fromInt wsX1_empty := goodIn_r _ [5, 6, 7, 8, 54, 55, 56, 57, 58, 59] (by decide +kernel) (by decide +kernel)
set_option maxRecDepth 20000 in
theorem gX1_fromInt_X1_empty : GoodIn wsX1_fromInt (wsV RX1 90 RX1 yX1_empty wsX1_empty) := goodIn_app (goodIn_of _ (by decide +kernel)) ggX1_fromInt_X1_empty
set_option maxRecDepth 20000 in
theorem ggX1_fromInt_X1_put : GoodIn wsX1_fromInt wsX1_put := goodIn_r _ [12, 7, 6, 13, 54, 55, 56, 57, 58, 59] (by decide +kernel) (by decide +kernel)
set_option maxRecDepth 20000 in
theorem gX1_fromInt_X1_put : GoodIn wsX1_fromInt (wsV RX1 100 RX1 yX1_put wsX1_put) := goodIn_app (goodIn_of _ (by decide +kernel)) ggX1_fromInt_X1_put
set_option maxRecDepth 20000 in
theorem ggX1_fromInt_X1_settle : GoodIn wsX1_fromInt wsX1_settle := goodIn_r _ [17, 6, 18, 19, 20, 4, 21, 22, 54, 55, 56, 57, 58, 59] (by decide +kernel) (by decide +kernel)
set_option maxRecDepth 20000 in
theorem gX1_fromInt_X1_settle : GoodIn wsX1_fromInt (wsV RX1 104 RX1 yX1_settle wsX1_settle) := goodIn_app (goodIn_of _ (by decide +kernel)) ggX1_fromInt_X1_settle
set_option maxRecDepth 20000 in
theorem ggX1_fromInt_X1_finish : GoodIn wsX1_fromInt wsX1_finish := goodIn_r _ [26, 7, 27, 28, 29, 30, 31, 32, 33, 34, 35, 36, 4, 37, 38, 39, 40, 41, 6, 42, 43, 44, 45, 46, 47, 48, 49, 8, 50, 51, 52, 53, 54, 55, 56, 57, 58, 59] (by decide +kernel) (by decide +kernel)
set_option maxRecDepth 20000 in
theorem gX1_fromInt_X1_finish : GoodIn wsX1_fromInt (wsV RX1 115 RX1 yX1_finish wsX1_finish) := goodIn_app (goodIn_of _ (by decide +kernel)) ggX1_fromInt_X1_finish
theorem dX1_fromInt_0 : decode cX1_fromInt 0 = .ok (.iload_n 1, 1) := by decide +kernel
theorem dX1_fromInt_1 : decode cX1_fromInt 1 = .ok (.ifCond .ne 5, 3) := by decide +kernel
theorem dX1_fromInt_4 : decode cX1_fromInt 4 = .ok (.iconst 0, 1) := by decide +kernel
theorem dX1_fromInt_5 : decode cX1_fromInt 5 = .ok (.ireturn, 1) := by decide +kernel
theorem dX1_fromInt_6 : decode cX1_fromInt 6 = .ok (.aload_n 0, 1) := by decide +kernel
theorem dX1_fromInt_7 : decode cX1_fromInt 7 = .ok (.iconst 0, 1) := by decide +kernel
theorem dX1_fromInt_8 : decode cX1_fromInt 8 = .ok (.invokevirtual 90, 3) := by decide +kernel
theorem dX1_fromInt_11 : decode cX1_fromInt 11 = .ok (.aload_n 0, 1) := by decide +kernel
theorem dX1_fromInt_12 : decode cX1_fromInt 12 = .ok (.iload_n 1, 1) := by decide +kernel
theorem dX1_fromInt_13 : decode cX1_fromInt 13 = .ok (.ifCond .ge 9, 3) := by decide +kernel
theorem dX1_fromInt_16 : decode cX1_fromInt 16 = .ok (.iload_n 1, 1) := by decide +kernel
theorem dX1_fromInt_17 : decode cX1_fromInt 17 = .ok (.i2l, 1) := by decide +kernel
theorem dX1_fromInt_18 : decode cX1_fromInt 18 = .ok (.lneg, 1) := by decide +kernel
theorem dX1_fromInt_19 : decode cX1_fromInt 19 = .ok (.goto 5, 3) := by decide +kernel
theorem dX1_fromInt_22 : decode cX1_fromInt 22 = .ok (.iload_n 1, 1) := by decide +kernel
theorem dX1_fromInt_23 : decode cX1_fromInt 23 = .ok (.i2l, 1) := by decide +kernel
theorem dX1_fromInt_24 : decode cX1_fromInt 24 = .ok (.iconst 0, 1) := by decide +kernel
theorem dX1_fromInt_25 : decode cX1_fromInt 25 = .ok (.iload_n 1, 1) := by decide +kernel
theorem dX1_fromInt_26 : decode cX1_fromInt 26 = .ok (.ifCond .ge 7, 3) := by decide +kernel
theorem dX1_fromInt_29 : decode cX1_fromInt 29 = .ok (.iconst 1, 1) := by decide +kernel
theorem dX1_fromInt_30 : decode cX1_fromInt 30 = .ok (.goto 4, 3) := by decide +kernel
theorem dX1_fromInt_33 : decode cX1_fromInt 33 = .ok (.iconst 0, 1) := by decide +kernel
theorem dX1_fromInt_34 : decode cX1_fromInt 34 = .ok (.invokevirtual 100, 3) := by decide +kernel
theorem dX1_fromInt_37 : decode cX1_fromInt 37 = .ok (.aload_n 0, 1) := by decide +kernel
theorem dX1_fromInt_38 : decode cX1_fromInt 38 = .ok (.invokevirtual 104, 3) := by decide +kernel
theorem dX1_fromInt_41 : decode cX1_fromInt 41 = .ok (.istore_n 2, 1) := by decide +kernel
theorem dX1_fromInt_42 : decode cX1_fromInt 42 = .ok (.aload_n 0, 1) := by decide +kernel
theorem dX1_fromInt_43 : decode cX1_fromInt 43 = .ok (.iload_n 2, 1) := by decide +kernel
theorem dX1_fromInt_44 : decode cX1_fromInt 44 = .ok (.invokevirtual 115, 3) := by decide +kernel
theorem dX1_fromInt_47 : decode cX1_fromInt 47 = .ok (.ireturn, 1) := by decide +kernel
theorem dX1_rank_0 : decode cX1_rank 0 = .ok (.iload_n 0, 1) := by decide +kernel
theorem dX1_rank_1 : decode cX1_rank 1 = .ok (.ifCond .ge 11, 3) := by decide +kernel
theorem dX1_rank_4 : decode cX1_rank 4 = .ok (.iload_n 0, 1) := by decide +kernel
theorem dX1_rank_5 : decode cX1_rank 5 = .ok (.ldc 33, 2) := by decide +kernel
theorem dX1_rank_7 : decode cX1_rank 7 = .ok (.iand, 1) := by decide +kernel
theorem dX1_rank_8 : decode cX1_rank 8 = .ok (.ineg, 1) := by decide +kernel
theorem dX1_rank_9 : decode cX1_rank 9 = .ok (.goto 4, 3) := by decide +kernel
theorem dX1_rank_12 : decode cX1_rank 12 = .ok (.iload_n 0, 1) := by decide +kernel
theorem dX1_rank_13 : decode cX1_rank 13 = .ok (.ireturn, 1) := by decide +kernel
set_option maxRecDepth 20000 in
theorem ggX1_compare_X1_isNone : GoodIn wsX1_compare wsX1_isNone := goodIn_r _ [5, 6, 7, 4, 8, 9, 10, 11, 12] (by decide +kernel) (by decide +kernel)
set_option maxRecDepth 20000 in
theorem gX1_compare_X1_isNone : GoodIn wsX1_compare (va_wsS RX1 28 yX1_isNone wsX1_isNone) := goodIn_app (goodIn_of _ (by decide +kernel)) ggX1_compare_X1_isNone
end
section
set_option maxRecDepth 20000 in
theorem ggX1_compare_X1_none : GoodIn wsX1_compare wsX1_none := goodIn_r _ [16, 17, 1, 18, 19, 4, 20, 21, 2, 3, 5, 6, 7, 8, 9, 10, 11, 12, 26, 27, 28, 29, 30, 31] (by decide +kernel) (by decide +kernel)
set_option maxRecDepth 20000 in
theorem gX1_compare_X1_none : GoodIn wsX1_compare (wsV RX1 77 RX1 yX1_none wsX1_none) := goodIn_app (goodIn_of _ (by decide +kernel)) ggX1_compare_X1_none
set_option maxRecDepth 20000 in
theorem ggX1_compare_X1_rank : GoodIn wsX1_compare wsX1_rank := goodIn_r _ [24, 25] (by decide +kernel) (by decide +kernel)
set_option maxRecDepth 20000 in
theorem gX1_compare_X1_rank : GoodIn wsX1_compare (va_wsS RX1 136 yX1_rank wsX1_rank) := goodIn_app (goodIn_of _ (by decide +kernel)) ggX1_compare_X1_rank
theorem dX1_compare_0 : decode cX1_compare 0 = .ok (.iload_n 1, 1) := by decide +kernel
theorem dX1_compare_1 : decode cX1_compare 1 = .ok (.invokestatic 28, 3) := by decide +kernel
theorem dX1_compare_4 : decode cX1_compare 4 = .ok (.ifCond .ne 10, 3) := by decide +kernel
theorem dX1_compare_7 : decode cX1_compare 7 = .ok (.iload_n 2, 1) := by decide +kernel
theorem dX1_compare_8 : decode cX1_compare 8 = .ok (.invokestatic 28, 3) := by decide +kernel
theorem dX1_compare_11 : decode cX1_compare 11 = .ok (.ifCond .eq 23, 3) := by decide +kernel
theorem dX1_compare_14 : decode cX1_compare 14 = .ok (.aload_n 0, 1) := by decide +kernel
theorem dX1_compare_15 : decode cX1_compare 15 = .ok (.iload_n 1, 1) := by decide +kernel
theorem dX1_compare_16 : decode cX1_compare 16 = .ok (.iload_n 2, 1) := by decide +kernel
theorem dX1_compare_17 : decode cX1_compare 17 = .ok (.iconst 0, 1) := by decide +kernel
theorem dX1_compare_18 : decode cX1_compare 18 = .ok (.invokevirtual 77, 3) := by decide +kernel
theorem dX1_compare_21 : decode cX1_compare 21 = .ok (.istore_n 3, 1) := by decide +kernel
theorem dX1_compare_22 : decode cX1_compare 22 = .ok (.iload_n 3, 1) := by decide +kernel
theorem dX1_compare_23 : decode cX1_compare 23 = .ok (.ldc 39, 2) := by decide +kernel
theorem dX1_compare_25 : decode cX1_compare 25 = .ok (.if_icmp .ne 7, 3) := by decide +kernel
theorem dX1_compare_28 : decode cX1_compare 28 = .ok (.iconst 2, 1) := by decide +kernel
theorem dX1_compare_29 : decode cX1_compare 29 = .ok (.goto 4, 3) := by decide +kernel
theorem dX1_compare_32 : decode cX1_compare 32 = .ok (.iconst 0, 1) := by decide +kernel
theorem dX1_compare_33 : decode cX1_compare 33 = .ok (.ireturn, 1) := by decide +kernel
theorem dX1_compare_34 : decode cX1_compare 34 = .ok (.iload_n 1, 1) := by decide +kernel
theorem dX1_compare_35 : decode cX1_compare 35 = .ok (.invokestatic 136, 3) := by decide +kernel
theorem dX1_compare_38 : decode cX1_compare 38 = .ok (.iload_n 2, 1) := by decide +kernel
theorem dX1_compare_39 : decode cX1_compare 39 = .ok (.invokestatic 136, 3) := by decide +kernel
theorem dX1_compare_42 : decode cX1_compare 42 = .ok (.if_icmp .ge 7, 3) := by decide +kernel
theorem dX1_compare_45 : decode cX1_compare 45 = .ok (.iconst (-1), 1) := by decide +kernel
theorem dX1_compare_46 : decode cX1_compare 46 = .ok (.goto 19, 3) := by decide +kernel
theorem dX1_compare_49 : decode cX1_compare 49 = .ok (.iload_n 1, 1) := by decide +kernel
theorem dX1_compare_50 : decode cX1_compare 50 = .ok (.invokestatic 136, 3) := by decide +kernel
theorem dX1_compare_53 : decode cX1_compare 53 = .ok (.iload_n 2, 1) := by decide +kernel
theorem dX1_compare_54 : decode cX1_compare 54 = .ok (.invokestatic 136, 3) := by decide +kernel
theorem dX1_compare_57 : decode cX1_compare 57 = .ok (.if_icmp .le 7, 3) := by decide +kernel
theorem dX1_compare_60 : decode cX1_compare 60 = .ok (.iconst 1, 1) := by decide +kernel
theorem dX1_compare_61 : decode cX1_compare 61 = .ok (.goto 4, 3) := by decide +kernel
theorem dX1_compare_64 : decode cX1_compare 64 = .ok (.iconst 0, 1) := by decide +kernel
theorem dX1_compare_65 : decode cX1_compare 65 = .ok (.ireturn, 1) := by decide +kernel
set_option maxRecDepth 20000 in
theorem ggX1_next_X1_isNone : GoodIn wsX1_next wsX1_isNone := goodIn_r _ [6, 7, 8, 5, 9, 10, 11, 12, 13] (by decide +kernel) (by decide +kernel)
set_option maxRecDepth 20000 in
theorem gX1_next_X1_isNone : GoodIn wsX1_next (va_wsS RX1 28 yX1_isNone wsX1_isNone) := goodIn_app (goodIn_of _ (by decide +kernel)) ggX1_next_X1_isNone
set_option maxRecDepth 20000 in
theorem ggX1_next_X1_none : GoodIn wsX1_next wsX1_none := goodIn_r _ [17, 18, 19, 20, 21, 5, 22, 23, 3, 4, 6, 7, 8, 9, 10, 11, 12, 13, 28, 29, 30, 31, 32, 33] (by decide +kernel) (by decide +kernel)
set_option maxRecDepth 20000 in
theorem gX1_next_X1_none : GoodIn wsX1_next (wsV RX1 77 RX1 yX1_none wsX1_none) := goodIn_app (goodIn_of _ (by decide +kernel)) ggX1_next_X1_none
set_option maxRecDepth 20000 in
theorem ggX1_next_X1_rank : GoodIn wsX1_next wsX1_rank := goodIn_r _ [26, 27] (by decide +kernel) (by decide +kernel)
set_option maxRecDepth 20000 in
theorem gX1_next_X1_rank : GoodIn wsX1_next (va_wsS RX1 136 yX1_rank wsX1_rank) := goodIn_app (goodIn_of _ (by decide +kernel)) ggX1_next_X1_rank
theorem dX1_next_0 : decode cX1_next 0 = .ok (.iload_n 1, 1) := by decide +kernel
theorem dX1_next_1 : decode cX1_next 1 = .ok (.invokestatic 28, 3) := by decide +kernel
theorem dX1_next_4 : decode cX1_next 4 = .ok (.ifCond .eq 11, 3) := by decide +kernel
theorem dX1_next_7 : decode cX1_next 7 = .ok (.aload_n 0, 1) := by decide +kernel
theorem dX1_next_8 : decode cX1_next 8 = .ok (.iload_n 1, 1) := by decide +kernel
theorem dX1_next_9 : decode cX1_next 9 = .ok (.iconst 0, 1) := by decide +kernel
theorem dX1_next_10 : decode cX1_next 10 = .ok (.iconst 0, 1) := by decide +kernel
theorem dX1_next_11 : decode cX1_next 11 = .ok (.invokevirtual 77, 3) := by decide +kernel
theorem dX1_next_14 : decode cX1_next 14 = .ok (.ireturn, 1) := by decide +kernel
theorem dX1_next_15 : decode cX1_next 15 = .ok (.iload_n 1, 1) := by decide +kernel
theorem dX1_next_16 : decode cX1_next 16 = .ok (.ldc 73, 2) := by decide +kernel
theorem dX1_next_18 : decode cX1_next 18 = .ok (.if_icmp .ne 5, 3) := by decide +kernel
theorem dX1_next_21 : decode cX1_next 21 = .ok (.iload_n 1, 1) := by decide +kernel
theorem dX1_next_22 : decode cX1_next 22 = .ok (.ireturn, 1) := by decide +kernel
theorem dX1_next_23 : decode cX1_next 23 = .ok (.iload_n 1, 1) := by decide +kernel
theorem dX1_next_24 : decode cX1_next 24 = .ok (.invokestatic 136, 3) := by decide +kernel
theorem dX1_next_27 : decode cX1_next 27 = .ok (.iconst 1, 1) := by decide +kernel
theorem dX1_next_28 : decode cX1_next 28 = .ok (.iadd, 1) := by decide +kernel
theorem dX1_next_29 : decode cX1_next 29 = .ok (.istore_n 2, 1) := by decide +kernel
theorem dX1_next_30 : decode cX1_next 30 = .ok (.iload_n 2, 1) := by decide +kernel
theorem dX1_next_31 : decode cX1_next 31 = .ok (.ifCond .le 7, 3) := by decide +kernel
theorem dX1_next_34 : decode cX1_next 34 = .ok (.iload_n 2, 1) := by decide +kernel
theorem dX1_next_35 : decode cX1_next 35 = .ok (.goto 8, 3) := by decide +kernel
theorem dX1_next_38 : decode cX1_next 38 = .ok (.iload_n 2, 1) := by decide +kernel
theorem dX1_next_39 : decode cX1_next 39 = .ok (.ineg, 1) := by decide +kernel
theorem dX1_next_40 : decode cX1_next 40 = .ok (.ldc 34, 2) := by decide +kernel
theorem dX1_next_42 : decode cX1_next 42 = .ok (.ior, 1) := by decide +kernel
theorem dX1_next_43 : decode cX1_next 43 = .ok (.ireturn, 1) := by decide +kernel
set_option maxRecDepth 20000 in
theorem ggX1_kind_X1_isLoud : GoodIn wsX1_kind wsX1_isLoud := goodIn_r _ [4, 5, 6, 7, 3, 8, 9, 10, 11, 12, 13, 14, 15] (by decide +kernel) (by decide +kernel)
set_option maxRecDepth 20000 in
theorem gX1_kind_X1_isLoud : GoodIn wsX1_kind (va_wsS RX1 36 yX1_isLoud wsX1_isLoud) := goodIn_app (goodIn_of _ (by decide +kernel)) ggX1_kind_X1_isLoud
set_option maxRecDepth 20000 in
theorem ggX1_kind_X1_isNone : GoodIn wsX1_kind wsX1_isNone := goodIn_r _ [8, 9, 10, 3, 11, 12, 13, 14, 15] (by decide +kernel) (by decide +kernel)
set_option maxRecDepth 20000 in
theorem gX1_kind_X1_isNone : GoodIn wsX1_kind (va_wsS RX1 28 yX1_isNone wsX1_isNone) := goodIn_app (goodIn_of _ (by decide +kernel)) ggX1_kind_X1_isNone
set_option maxRecDepth 20000 in
theorem ggX1_kind_X1_isInfinite : GoodIn wsX1_kind wsX1_isInfinite := goodIn_r _ [18, 9, 10, 3, 11, 12, 13, 14, 15] (by decide +kernel) (by decide +kernel)
set_option maxRecDepth 20000 in
theorem gX1_kind_X1_isInfinite : GoodIn wsX1_kind (va_wsS RX1 81 yX1_isInfinite wsX1_isInfinite) := goodIn_app (goodIn_of _ (by decide +kernel)) ggX1_kind_X1_isInfinite
set_option maxRecDepth 20000 in
theorem ggX1_kind_X1_isZero : GoodIn wsX1_kind wsX1_isZero := goodIn_r _ [21, 22] (by decide +kernel) (by decide +kernel)
set_option maxRecDepth 20000 in
theorem gX1_kind_X1_isZero : GoodIn wsX1_kind (va_wsS RX1 108 yX1_isZero wsX1_isZero) := goodIn_app (goodIn_of _ (by decide +kernel)) ggX1_kind_X1_isZero
set_option maxRecDepth 20000 in
theorem ggX1_kind_X1_exponent : GoodIn wsX1_kind wsX1_exponent := goodIn_r _ [11] (by decide +kernel) (by decide +kernel)
set_option maxRecDepth 20000 in
theorem gX1_kind_X1_exponent : GoodIn wsX1_kind (va_wsS RX1 21 yX1_exponent wsX1_exponent) := goodIn_app (goodIn_of _ (by decide +kernel)) ggX1_kind_X1_exponent
set_option maxRecDepth 20000 in
theorem ggX1_kind_X1_isNegative : GoodIn wsX1_kind wsX1_isNegative := goodIn_r _ [25] (by decide +kernel) (by decide +kernel)
set_option maxRecDepth 20000 in
theorem gX1_kind_X1_isNegative : GoodIn wsX1_kind (va_wsS RX1 84 yX1_isNegative wsX1_isNegative) := goodIn_app (goodIn_of _ (by decide +kernel)) ggX1_kind_X1_isNegative
theorem dX1_kind_0 : decode cX1_kind 0 = .ok (.iload_n 1, 1) := by decide +kernel
theorem dX1_kind_1 : decode cX1_kind 1 = .ok (.invokestatic 36, 3) := by decide +kernel
theorem dX1_kind_4 : decode cX1_kind 4 = .ok (.ifCond .eq 7, 3) := by decide +kernel
theorem dX1_kind_7 : decode cX1_kind 7 = .ok (.iconst 0, 1) := by decide +kernel
theorem dX1_kind_8 : decode cX1_kind 8 = .ok (.goto 48, 3) := by decide +kernel
theorem dX1_kind_11 : decode cX1_kind 11 = .ok (.iload_n 1, 1) := by decide +kernel
theorem dX1_kind_12 : decode cX1_kind 12 = .ok (.invokestatic 28, 3) := by decide +kernel
theorem dX1_kind_15 : decode cX1_kind 15 = .ok (.ifCond .eq 7, 3) := by decide +kernel
theorem dX1_kind_18 : decode cX1_kind 18 = .ok (.iconst 1, 1) := by decide +kernel
theorem dX1_kind_19 : decode cX1_kind 19 = .ok (.goto 37, 3) := by decide +kernel
theorem dX1_kind_22 : decode cX1_kind 22 = .ok (.iload_n 1, 1) := by decide +kernel
theorem dX1_kind_23 : decode cX1_kind 23 = .ok (.invokestatic 81, 3) := by decide +kernel
theorem dX1_kind_26 : decode cX1_kind 26 = .ok (.ifCond .eq 7, 3) := by decide +kernel
theorem dX1_kind_29 : decode cX1_kind 29 = .ok (.iconst 2, 1) := by decide +kernel
theorem dX1_kind_30 : decode cX1_kind 30 = .ok (.goto 26, 3) := by decide +kernel
theorem dX1_kind_33 : decode cX1_kind 33 = .ok (.iload_n 1, 1) := by decide +kernel
theorem dX1_kind_34 : decode cX1_kind 34 = .ok (.invokestatic 108, 3) := by decide +kernel
theorem dX1_kind_37 : decode cX1_kind 37 = .ok (.ifCond .eq 7, 3) := by decide +kernel
theorem dX1_kind_40 : decode cX1_kind 40 = .ok (.iconst 3, 1) := by decide +kernel
theorem dX1_kind_41 : decode cX1_kind 41 = .ok (.goto 15, 3) := by decide +kernel
theorem dX1_kind_44 : decode cX1_kind 44 = .ok (.iload_n 1, 1) := by decide +kernel
theorem dX1_kind_45 : decode cX1_kind 45 = .ok (.invokestatic 21, 3) := by decide +kernel
theorem dX1_kind_48 : decode cX1_kind 48 = .ok (.ifCond .ne 7, 3) := by decide +kernel
theorem dX1_kind_51 : decode cX1_kind 51 = .ok (.iconst 4, 1) := by decide +kernel
theorem dX1_kind_52 : decode cX1_kind 52 = .ok (.goto 4, 3) := by decide +kernel
theorem dX1_kind_55 : decode cX1_kind 55 = .ok (.iconst 5, 1) := by decide +kernel
theorem dX1_kind_56 : decode cX1_kind 56 = .ok (.istore_n 2, 1) := by decide +kernel
theorem dX1_kind_57 : decode cX1_kind 57 = .ok (.iload_n 1, 1) := by decide +kernel
theorem dX1_kind_58 : decode cX1_kind 58 = .ok (.invokestatic 84, 3) := by decide +kernel
theorem dX1_kind_61 : decode cX1_kind 61 = .ok (.ifCond .eq 10, 3) := by decide +kernel
theorem dX1_kind_64 : decode cX1_kind 64 = .ok (.iload_n 2, 1) := by decide +kernel
theorem dX1_kind_65 : decode cX1_kind 65 = .ok (.bipush 8, 2) := by decide +kernel
theorem dX1_kind_67 : decode cX1_kind 67 = .ok (.iadd, 1) := by decide +kernel
theorem dX1_kind_68 : decode cX1_kind 68 = .ok (.goto 4, 3) := by decide +kernel
theorem dX1_kind_71 : decode cX1_kind 71 = .ok (.iload_n 2, 1) := by decide +kernel
theorem dX1_kind_72 : decode cX1_kind 72 = .ok (.ireturn, 1) := by decide +kernel
theorem dJ6_numberOfLeadingZeros_0f7a4_0 : decode cJ6_numberOfLeadingZeros_0f7a4 0 = .ok (.iload_n 0, 1) := by decide +kernel
theorem dJ6_numberOfLeadingZeros_0f7a4_1 : decode cJ6_numberOfLeadingZeros_0f7a4 1 = .ok (.ifCond .gt 14, 3) := by decide +kernel
theorem dJ6_numberOfLeadingZeros_0f7a4_4 : decode cJ6_numberOfLeadingZeros_0f7a4 4 = .ok (.iload_n 0, 1) := by decide +kernel
theorem dJ6_numberOfLeadingZeros_0f7a4_5 : decode cJ6_numberOfLeadingZeros_0f7a4 5 = .ok (.ifCond .ne 8, 3) := by decide +kernel
theorem dJ6_numberOfLeadingZeros_0f7a4_8 : decode cJ6_numberOfLeadingZeros_0f7a4 8 = .ok (.bipush 32, 2) := by decide +kernel
theorem dJ6_numberOfLeadingZeros_0f7a4_10 : decode cJ6_numberOfLeadingZeros_0f7a4 10 = .ok (.goto 4, 3) := by decide +kernel
theorem dJ6_numberOfLeadingZeros_0f7a4_13 : decode cJ6_numberOfLeadingZeros_0f7a4 13 = .ok (.iconst 0, 1) := by decide +kernel
theorem dJ6_numberOfLeadingZeros_0f7a4_14 : decode cJ6_numberOfLeadingZeros_0f7a4 14 = .ok (.ireturn, 1) := by decide +kernel
theorem dJ6_numberOfLeadingZeros_0f7a4_15 : decode cJ6_numberOfLeadingZeros_0f7a4 15 = .ok (.bipush 31, 2) := by decide +kernel
theorem dJ6_numberOfLeadingZeros_0f7a4_17 : decode cJ6_numberOfLeadingZeros_0f7a4 17 = .ok (.istore_n 1, 1) := by decide +kernel
theorem dJ6_numberOfLeadingZeros_0f7a4_18 : decode cJ6_numberOfLeadingZeros_0f7a4 18 = .ok (.iload_n 0, 1) := by decide +kernel
theorem dJ6_numberOfLeadingZeros_0f7a4_19 : decode cJ6_numberOfLeadingZeros_0f7a4 19 = .ok (.ldc_w 264, 3) := by decide +kernel
theorem dJ6_numberOfLeadingZeros_0f7a4_22 : decode cJ6_numberOfLeadingZeros_0f7a4 22 = .ok (.if_icmp .lt 11, 3) := by decide +kernel
theorem dJ6_numberOfLeadingZeros_0f7a4_25 : decode cJ6_numberOfLeadingZeros_0f7a4 25 = .ok (.iinc 1 (-16), 3) := by decide +kernel
theorem dJ6_numberOfLeadingZeros_0f7a4_28 : decode cJ6_numberOfLeadingZeros_0f7a4 28 = .ok (.iload_n 0, 1) := by decide +kernel
theorem dJ6_numberOfLeadingZeros_0f7a4_29 : decode cJ6_numberOfLeadingZeros_0f7a4 29 = .ok (.bipush 16, 2) := by decide +kernel
theorem dJ6_numberOfLeadingZeros_0f7a4_31 : decode cJ6_numberOfLeadingZeros_0f7a4 31 = .ok (.iushr, 1) := by decide +kernel
theorem dJ6_numberOfLeadingZeros_0f7a4_32 : decode cJ6_numberOfLeadingZeros_0f7a4 32 = .ok (.istore_n 0, 1) := by decide +kernel
theorem dJ6_numberOfLeadingZeros_0f7a4_33 : decode cJ6_numberOfLeadingZeros_0f7a4 33 = .ok (.iload_n 0, 1) := by decide +kernel
theorem dJ6_numberOfLeadingZeros_0f7a4_34 : decode cJ6_numberOfLeadingZeros_0f7a4 34 = .ok (.sipush 256, 3) := by decide +kernel
theorem dJ6_numberOfLeadingZeros_0f7a4_37 : decode cJ6_numberOfLeadingZeros_0f7a4 37 = .ok (.if_icmp .lt 11, 3) := by decide +kernel
theorem dJ6_numberOfLeadingZeros_0f7a4_40 : decode cJ6_numberOfLeadingZeros_0f7a4 40 = .ok (.iinc 1 (-8), 3) := by decide +kernel
theorem dJ6_numberOfLeadingZeros_0f7a4_43 : decode cJ6_numberOfLeadingZeros_0f7a4 43 = .ok (.iload_n 0, 1) := by decide +kernel
theorem dJ6_numberOfLeadingZeros_0f7a4_44 : decode cJ6_numberOfLeadingZeros_0f7a4 44 = .ok (.bipush 8, 2) := by decide +kernel
theorem dJ6_numberOfLeadingZeros_0f7a4_46 : decode cJ6_numberOfLeadingZeros_0f7a4 46 = .ok (.iushr, 1) := by decide +kernel
theorem dJ6_numberOfLeadingZeros_0f7a4_47 : decode cJ6_numberOfLeadingZeros_0f7a4 47 = .ok (.istore_n 0, 1) := by decide +kernel
theorem dJ6_numberOfLeadingZeros_0f7a4_48 : decode cJ6_numberOfLeadingZeros_0f7a4 48 = .ok (.iload_n 0, 1) := by decide +kernel
theorem dJ6_numberOfLeadingZeros_0f7a4_49 : decode cJ6_numberOfLeadingZeros_0f7a4 49 = .ok (.bipush 16, 2) := by decide +kernel
theorem dJ6_numberOfLeadingZeros_0f7a4_51 : decode cJ6_numberOfLeadingZeros_0f7a4 51 = .ok (.if_icmp .lt 10, 3) := by decide +kernel
theorem dJ6_numberOfLeadingZeros_0f7a4_54 : decode cJ6_numberOfLeadingZeros_0f7a4 54 = .ok (.iinc 1 (-4), 3) := by decide +kernel
theorem dJ6_numberOfLeadingZeros_0f7a4_57 : decode cJ6_numberOfLeadingZeros_0f7a4 57 = .ok (.iload_n 0, 1) := by decide +kernel
theorem dJ6_numberOfLeadingZeros_0f7a4_58 : decode cJ6_numberOfLeadingZeros_0f7a4 58 = .ok (.iconst 4, 1) := by decide +kernel
theorem dJ6_numberOfLeadingZeros_0f7a4_59 : decode cJ6_numberOfLeadingZeros_0f7a4 59 = .ok (.iushr, 1) := by decide +kernel
theorem dJ6_numberOfLeadingZeros_0f7a4_60 : decode cJ6_numberOfLeadingZeros_0f7a4 60 = .ok (.istore_n 0, 1) := by decide +kernel
theorem dJ6_numberOfLeadingZeros_0f7a4_61 : decode cJ6_numberOfLeadingZeros_0f7a4 61 = .ok (.iload_n 0, 1) := by decide +kernel
theorem dJ6_numberOfLeadingZeros_0f7a4_62 : decode cJ6_numberOfLeadingZeros_0f7a4 62 = .ok (.iconst 4, 1) := by decide +kernel
theorem dJ6_numberOfLeadingZeros_0f7a4_63 : decode cJ6_numberOfLeadingZeros_0f7a4 63 = .ok (.if_icmp .lt 10, 3) := by decide +kernel
theorem dJ6_numberOfLeadingZeros_0f7a4_66 : decode cJ6_numberOfLeadingZeros_0f7a4 66 = .ok (.iinc 1 (-2), 3) := by decide +kernel
theorem dJ6_numberOfLeadingZeros_0f7a4_69 : decode cJ6_numberOfLeadingZeros_0f7a4 69 = .ok (.iload_n 0, 1) := by decide +kernel
theorem dJ6_numberOfLeadingZeros_0f7a4_70 : decode cJ6_numberOfLeadingZeros_0f7a4 70 = .ok (.iconst 2, 1) := by decide +kernel
theorem dJ6_numberOfLeadingZeros_0f7a4_71 : decode cJ6_numberOfLeadingZeros_0f7a4 71 = .ok (.iushr, 1) := by decide +kernel
theorem dJ6_numberOfLeadingZeros_0f7a4_72 : decode cJ6_numberOfLeadingZeros_0f7a4 72 = .ok (.istore_n 0, 1) := by decide +kernel
theorem dJ6_numberOfLeadingZeros_0f7a4_73 : decode cJ6_numberOfLeadingZeros_0f7a4 73 = .ok (.iload_n 1, 1) := by decide +kernel
theorem dJ6_numberOfLeadingZeros_0f7a4_74 : decode cJ6_numberOfLeadingZeros_0f7a4 74 = .ok (.iload_n 0, 1) := by decide +kernel
theorem dJ6_numberOfLeadingZeros_0f7a4_75 : decode cJ6_numberOfLeadingZeros_0f7a4 75 = .ok (.iconst 1, 1) := by decide +kernel
theorem dJ6_numberOfLeadingZeros_0f7a4_76 : decode cJ6_numberOfLeadingZeros_0f7a4 76 = .ok (.iushr, 1) := by decide +kernel
theorem dJ6_numberOfLeadingZeros_0f7a4_77 : decode cJ6_numberOfLeadingZeros_0f7a4 77 = .ok (.isub, 1) := by decide +kernel
theorem dJ6_numberOfLeadingZeros_0f7a4_78 : decode cJ6_numberOfLeadingZeros_0f7a4 78 = .ok (.ireturn, 1) := by decide +kernel
set_option maxRecDepth 20000 in
theorem ggJ13_numberOfLeadingZeros_95d88_J6_numberOfLeadingZeros_0f7a4 : GoodIn wsJ13_numberOfLeadingZeros_95d88 wsJ6_numberOfLeadingZeros_0f7a4 := goodIn_r _ [4, 5] (by decide +kernel) (by decide +kernel)
set_option maxRecDepth 20000 in
theorem gJ13_numberOfLeadingZeros_95d88_J6_numberOfLeadingZeros_0f7a4 : GoodIn wsJ13_numberOfLeadingZeros_95d88 (va_wsS RJ13 308 yJ6_numberOfLeadingZeros_0f7a4 wsJ6_numberOfLeadingZeros_0f7a4) := goodIn_app (goodIn_of _ (by decide +kernel)) ggJ13_numberOfLeadingZeros_95d88_J6_numberOfLeadingZeros_0f7a4
theorem dJ13_numberOfLeadingZeros_95d88_0 : decode cJ13_numberOfLeadingZeros_95d88 0 = .ok (.lload_n 0, 1) := by decide +kernel
theorem dJ13_numberOfLeadingZeros_95d88_1 : decode cJ13_numberOfLeadingZeros_95d88 1 = .ok (.bipush 32, 2) := by decide +kernel
theorem dJ13_numberOfLeadingZeros_95d88_3 : decode cJ13_numberOfLeadingZeros_95d88 3 = .ok (.lushr, 1) := by decide +kernel
theorem dJ13_numberOfLeadingZeros_95d88_4 : decode cJ13_numberOfLeadingZeros_95d88 4 = .ok (.l2i, 1) := by decide +kernel
theorem dJ13_numberOfLeadingZeros_95d88_5 : decode cJ13_numberOfLeadingZeros_95d88 5 = .ok (.istore_n 2, 1) := by decide +kernel
theorem dJ13_numberOfLeadingZeros_95d88_6 : decode cJ13_numberOfLeadingZeros_95d88 6 = .ok (.iload_n 2, 1) := by decide +kernel
theorem dJ13_numberOfLeadingZeros_95d88_7 : decode cJ13_numberOfLeadingZeros_95d88 7 = .ok (.ifCond .ne 14, 3) := by decide +kernel
theorem dJ13_numberOfLeadingZeros_95d88_10 : decode cJ13_numberOfLeadingZeros_95d88 10 = .ok (.bipush 32, 2) := by decide +kernel
theorem dJ13_numberOfLeadingZeros_95d88_12 : decode cJ13_numberOfLeadingZeros_95d88 12 = .ok (.lload_n 0, 1) := by decide +kernel
theorem dJ13_numberOfLeadingZeros_95d88_13 : decode cJ13_numberOfLeadingZeros_95d88 13 = .ok (.l2i, 1) := by decide +kernel
theorem dJ13_numberOfLeadingZeros_95d88_14 : decode cJ13_numberOfLeadingZeros_95d88 14 = .ok (.invokestatic 308, 3) := by decide +kernel
theorem dJ13_numberOfLeadingZeros_95d88_17 : decode cJ13_numberOfLeadingZeros_95d88 17 = .ok (.iadd, 1) := by decide +kernel
theorem dJ13_numberOfLeadingZeros_95d88_18 : decode cJ13_numberOfLeadingZeros_95d88 18 = .ok (.goto 7, 3) := by decide +kernel
theorem dJ13_numberOfLeadingZeros_95d88_21 : decode cJ13_numberOfLeadingZeros_95d88 21 = .ok (.iload_n 2, 1) := by decide +kernel
theorem dJ13_numberOfLeadingZeros_95d88_22 : decode cJ13_numberOfLeadingZeros_95d88 22 = .ok (.invokestatic 308, 3) := by decide +kernel
theorem dJ13_numberOfLeadingZeros_95d88_25 : decode cJ13_numberOfLeadingZeros_95d88 25 = .ok (.ireturn, 1) := by decide +kernel
theorem dJ9_abs_067f4_0 : decode cJ9_abs_067f4 0 = .ok (.lload_n 0, 1) := by decide +kernel
theorem dJ9_abs_067f4_1 : decode cJ9_abs_067f4 1 = .ok (.lconst 0, 1) := by decide +kernel
theorem dJ9_abs_067f4_2 : decode cJ9_abs_067f4 2 = .ok (.lcmp, 1) := by decide +kernel
theorem dJ9_abs_067f4_3 : decode cJ9_abs_067f4 3 = .ok (.ifCond .ge 8, 3) := by decide +kernel
theorem dJ9_abs_067f4_6 : decode cJ9_abs_067f4 6 = .ok (.lload_n 0, 1) := by decide +kernel
theorem dJ9_abs_067f4_7 : decode cJ9_abs_067f4 7 = .ok (.lneg, 1) := by decide +kernel
theorem dJ9_abs_067f4_8 : decode cJ9_abs_067f4 8 = .ok (.goto 4, 3) := by decide +kernel
theorem dJ9_abs_067f4_11 : decode cJ9_abs_067f4 11 = .ok (.lload_n 0, 1) := by decide +kernel
theorem dJ9_abs_067f4_12 : decode cJ9_abs_067f4 12 = .ok (.lreturn, 1) := by decide +kernel
theorem dJ9_max_7cf53_0 : decode cJ9_max_7cf53 0 = .ok (.iload_n 0, 1) := by decide +kernel
theorem dJ9_max_7cf53_1 : decode cJ9_max_7cf53 1 = .ok (.iload_n 1, 1) := by decide +kernel
theorem dJ9_max_7cf53_2 : decode cJ9_max_7cf53 2 = .ok (.if_icmp .lt 7, 3) := by decide +kernel
theorem dJ9_max_7cf53_5 : decode cJ9_max_7cf53 5 = .ok (.iload_n 0, 1) := by decide +kernel
theorem dJ9_max_7cf53_6 : decode cJ9_max_7cf53 6 = .ok (.goto 4, 3) := by decide +kernel
theorem dJ9_max_7cf53_9 : decode cJ9_max_7cf53 9 = .ok (.iload_n 1, 1) := by decide +kernel
theorem dJ9_max_7cf53_10 : decode cJ9_max_7cf53 10 = .ok (.ireturn, 1) := by decide +kernel
theorem dJ9_min_7cf53_0 : decode cJ9_min_7cf53 0 = .ok (.iload_n 0, 1) := by decide +kernel
theorem dJ9_min_7cf53_1 : decode cJ9_min_7cf53 1 = .ok (.iload_n 1, 1) := by decide +kernel
theorem dJ9_min_7cf53_2 : decode cJ9_min_7cf53 2 = .ok (.if_icmp .gt 7, 3) := by decide +kernel
theorem dJ9_min_7cf53_5 : decode cJ9_min_7cf53 5 = .ok (.iload_n 0, 1) := by decide +kernel
theorem dJ9_min_7cf53_6 : decode cJ9_min_7cf53 6 = .ok (.goto 4, 3) := by decide +kernel
theorem dJ9_min_7cf53_9 : decode cJ9_min_7cf53 9 = .ok (.iload_n 1, 1) := by decide +kernel
theorem dJ9_min_7cf53_10 : decode cJ9_min_7cf53 10 = .ok (.ireturn, 1) := by decide +kernel
set_option maxRecDepth 20000 in
theorem ggL_law_X0_init : GoodIn wsL_law wsX0_init := goodIn_r _ [8, 9, 10, 11, 12, 13, 403, 404] (by decide +kernel) (by decide +kernel)
set_option maxRecDepth 20000 in
theorem gL_law_X0_init : GoodIn wsL_law (wsX0_init) := ggL_law_X0_init
set_option maxRecDepth 20000 in
theorem ggL_law_X1_init : GoodIn wsL_law wsX1_init := goodIn_r _ [16, 17, 10, 11, 18, 19, 20, 405, 406, 407, 408, 409, 410] (by decide +kernel) (by decide +kernel)
set_option maxRecDepth 20000 in
theorem gL_law_X1_init : GoodIn wsL_law (wsX1_init) := ggL_law_X1_init
set_option maxRecDepth 20000 in
theorem ggL_law_X0_round : GoodIn wsL_law wsX0_round := goodIn_r _ [24, 12, 403, 404] (by decide +kernel) (by decide +kernel)
set_option maxRecDepth 20000 in
theorem gL_law_X0_round : GoodIn wsL_law (wsV RL 13 RX0 yX0_round wsX0_round) := goodIn_app (goodIn_of _ (by decide +kernel)) ggL_law_X0_round
set_option maxRecDepth 20000 in
theorem ggL_law_X1_round : GoodIn wsL_law wsX1_round := goodIn_r _ [28, 20, 405, 406, 407, 408, 409, 410] (by decide +kernel) (by decide +kernel)
set_option maxRecDepth 20000 in
theorem gL_law_X1_round : GoodIn wsL_law (wsV RL 17 RX1 yX1_round wsX1_round) := goodIn_app (goodIn_of _ (by decide +kernel)) ggL_law_X1_round
set_option maxRecDepth 20000 in
theorem ggL_law_X0_mode : GoodIn wsL_law wsX0_mode := goodIn_r _ [32, 12, 403, 404] (by decide +kernel) (by decide +kernel)
set_option maxRecDepth 20000 in
theorem gL_law_X0_mode : GoodIn wsL_law (wsV RL 18 RX0 yX0_mode wsX0_mode) := goodIn_app (goodIn_of _ (by decide +kernel)) ggL_law_X0_mode
set_option maxRecDepth 20000 in
theorem ggL_law_X1_mode : GoodIn wsL_law wsX1_mode := goodIn_r _ [36, 20, 405, 406, 407, 408, 409, 410] (by decide +kernel) (by decide +kernel)
set_option maxRecDepth 20000 in
theorem gL_law_X1_mode : GoodIn wsL_law (wsV RL 22 RX1 yX1_mode wsX1_mode) := goodIn_app (goodIn_of _ (by decide +kernel)) ggL_law_X1_mode
set_option maxRecDepth 20000 in
theorem ggL_law_X0_flags : GoodIn wsL_law wsX0_flags := goodIn_r _ [40, 13, 403, 404] (by decide +kernel) (by decide +kernel)
set_option maxRecDepth 20000 in
theorem gL_law_X0_flags : GoodIn wsL_law (wsV RL 23 RX0 yX0_flags wsX0_flags) := goodIn_app (goodIn_of _ (by decide +kernel)) ggL_law_X0_flags
set_option maxRecDepth 20000 in
theorem ggL_law_X1_flags : GoodIn wsL_law wsX1_flags := goodIn_r _ [44, 45, 405, 406, 407, 408, 409, 410] (by decide +kernel) (by decide +kernel)
set_option maxRecDepth 20000 in
theorem gL_law_X1_flags : GoodIn wsL_law (wsV RL 26 RX1 yX1_flags wsX1_flags) := goodIn_app (goodIn_of _ (by decide +kernel)) ggL_law_X1_flags
set_option maxRecDepth 20000 in
theorem ggL_law_X0_clear : GoodIn wsL_law wsX0_clear := goodIn_r _ [49, 13, 403, 404] (by decide +kernel) (by decide +kernel)
set_option maxRecDepth 20000 in
theorem gL_law_X0_clear : GoodIn wsL_law (wsV RL 27 RX0 yX0_clear wsX0_clear) := goodIn_app (goodIn_of _ (by decide +kernel)) ggL_law_X0_clear
set_option maxRecDepth 20000 in
theorem ggL_law_X1_clear : GoodIn wsL_law wsX1_clear := goodIn_r _ [53, 45, 405, 406, 407, 408, 409, 410] (by decide +kernel) (by decide +kernel)
set_option maxRecDepth 20000 in
theorem gL_law_X1_clear : GoodIn wsL_law (wsV RL 30 RX1 yX1_clear wsX1_clear) := goodIn_app (goodIn_of _ (by decide +kernel)) ggL_law_X1_clear
set_option maxRecDepth 20000 in
theorem ggL_law_X0_add : GoodIn wsL_law wsX0_add := goodIn_r _ [57, 58, 59, 60, 61, 2, 62, 63, 64, 65, 66, 67, 68, 69, 70, 71, 72, 73, 74, 75, 76, 77, 78, 79, 80, 81, 82, 13, 83, 84, 85, 86, 87, 88, 89, 90, 91, 92, 93, 94, 95, 96, 97, 98, 99, 100, 101, 102, 103, 104, 105, 106, 107, 108, 109, 110, 111, 112, 113, 114, 115, 116, 117, 118, 119, 120, 121, 122, 123, 12, 124, 125, 126, 127, 128, 129, 130, 131, 132, 133, 134, 135, 136, 137, 138, 139, 140, 141, 142, 143, 144, 145, 146, 147, 148, 149, 150, 151, 152, 153, 154, 155, 156, 157, 158, 159, 160, 161, 162, 163, 164, 165, 166, 167, 168, 169, 170, 171, 172, 173, 174, 175, 403, 404] (by decide +kernel) (by decide +kernel)
set_option maxRecDepth 20000 in
theorem gL_law_X0_add : GoodIn wsL_law (wsV RL 31 RX0 yX0_add wsX0_add) := goodIn_app (goodIn_of _ (by decide +kernel)) ggL_law_X0_add
set_option maxRecDepth 20000 in
theorem ggL_law_X1_add : GoodIn wsL_law wsX1_add := goodIn_r _ [179, 180, 181, 5, 182, 183, 184, 185, 186, 187, 188, 189, 190, 191, 192, 193, 45, 194, 195, 196, 197, 198, 199, 200, 201, 202, 203, 204, 205, 206, 207, 208, 209, 210, 211, 212, 19, 213, 214, 215, 216, 217, 218, 219, 220, 221, 222, 223, 224, 225, 226, 227, 228, 229, 230, 231, 232, 233, 234, 235, 236, 237, 238, 239, 240, 241, 242, 243, 244, 245, 246, 247, 248, 249, 250, 251, 20, 252, 253, 254, 255, 256, 257, 258, 259, 260, 261, 262, 263, 264, 265, 266, 267, 268, 269, 270, 271, 405, 406, 407, 408, 409, 410] (by decide +kernel) (by decide +kernel)
set_option maxRecDepth 20000 in
theorem gL_law_X1_add : GoodIn wsL_law (wsV RL 35 RX1 yX1_add wsX1_add) := goodIn_app (goodIn_of _ (by decide +kernel)) ggL_law_X1_add
set_option maxRecDepth 20000 in
theorem ggL_law_X0_subtract : GoodIn wsL_law wsX0_subtract := goodIn_r _ [275, 58, 98, 59, 60, 61, 2, 62, 63, 64, 65, 66, 67, 68, 69, 70, 71, 72, 73, 74, 75, 76, 77, 78, 79, 80, 81, 82, 13, 83, 84, 85, 86, 87, 88, 89, 90, 91, 92, 93, 94, 95, 96, 97, 99, 100, 101, 102, 103, 104, 105, 106, 107, 108, 109, 110, 111, 112, 113, 114, 115, 116, 117, 118, 119, 120, 121, 122, 123, 12, 124, 125, 126, 127, 128, 129, 130, 131, 132, 133, 134, 135, 136, 137, 138, 139, 140, 141, 142, 143, 144, 145, 146, 147, 148, 149, 150, 151, 152, 153, 154, 155, 156, 157, 158, 159, 160, 161, 162, 163, 164, 165, 166, 167, 168, 169, 170, 171, 172, 173, 174, 175, 403, 404] (by decide +kernel) (by decide +kernel)
set_option maxRecDepth 20000 in
theorem gL_law_X0_subtract : GoodIn wsL_law (wsV RL 36 RX0 yX0_subtract wsX0_subtract) := goodIn_app (goodIn_of _ (by decide +kernel)) ggL_law_X0_subtract
set_option maxRecDepth 20000 in
theorem ggL_law_X1_subtract : GoodIn wsL_law wsX1_subtract := goodIn_r _ [279, 255, 180, 181, 5, 182, 183, 184, 185, 186, 187, 188, 189, 190, 191, 192, 193, 45, 194, 195, 196, 197, 198, 280, 177, 178, 179, 199, 200, 201, 202, 203, 204, 205, 206, 207, 208, 209, 210, 211, 212, 19, 213, 214, 215, 216, 217, 218, 219, 220, 221, 222, 223, 224, 225, 226, 227, 228, 229, 230, 231, 232, 233, 234, 235, 236, 237, 238, 239, 240, 241, 242, 243, 244, 245, 246, 247, 248, 249, 250, 251, 20, 252, 253, 254, 256, 257, 258, 259, 260, 261, 262, 263, 264, 265, 266, 267, 268, 269, 270, 271, 405, 406, 407, 408, 409, 410] (by decide +kernel) (by decide +kernel)
set_option maxRecDepth 20000 in
theorem gL_law_X1_subtract : GoodIn wsL_law (wsV RL 39 RX1 yX1_subtract wsX1_subtract) := goodIn_app (goodIn_of _ (by decide +kernel)) ggL_law_X1_subtract
set_option maxRecDepth 20000 in
theorem ggL_law_X0_multiply : GoodIn wsL_law wsX0_multiply := goodIn_r _ [284, 63, 83, 84, 2, 85, 70, 86, 87, 88, 89, 90, 91, 92, 93, 94, 78, 79, 80, 81, 82, 13, 64, 65, 66, 67, 68, 69, 71, 72, 73, 74, 75, 76, 77, 95, 96, 97, 98, 99, 100, 101, 102, 103, 104, 105, 106, 107, 108, 109, 110, 111, 112, 124, 125, 126, 127, 128, 129, 130, 131, 132, 133, 134, 135, 136, 137, 138, 139, 140, 141, 142, 143, 144, 145, 146, 147, 148, 149, 150, 151, 152, 153, 154, 12, 155, 156, 157, 158, 159, 160, 161, 162, 163, 164, 165, 166, 403, 404] (by decide +kernel) (by decide +kernel)
set_option maxRecDepth 20000 in
theorem gL_law_X0_multiply : GoodIn wsL_law (wsV RL 40 RX0 yX0_multiply wsX0_multiply) := goodIn_app (goodIn_of _ (by decide +kernel)) ggL_law_X0_multiply
set_option maxRecDepth 20000 in
theorem ggL_law_X1_multiply : GoodIn wsL_law wsX1_multiply := goodIn_r _ [288, 263, 180, 181, 5, 182, 183, 184, 185, 186, 187, 188, 189, 190, 191, 192, 193, 45, 194, 195, 196, 197, 198, 244, 245, 246, 247, 199, 200, 201, 205, 206, 207, 208, 202, 203, 204, 252, 253, 254, 255, 209, 210, 211, 212, 19, 213, 214, 215, 216, 217, 218, 219, 220, 221, 222, 223, 224, 225, 226, 227, 228, 229, 230, 231, 232, 233, 234, 235, 256, 257, 258, 259, 260, 261, 20, 262, 236, 237, 238, 239, 240, 241, 242, 243, 264, 265, 266, 267, 268, 269, 270, 271, 405, 406, 407, 408, 409, 410] (by decide +kernel) (by decide +kernel)
set_option maxRecDepth 20000 in
theorem gL_law_X1_multiply : GoodIn wsL_law (wsV RL 43 RX1 yX1_multiply wsX1_multiply) := goodIn_app (goodIn_of _ (by decide +kernel)) ggL_law_X1_multiply
set_option maxRecDepth 20000 in
theorem ggL_law_X0_divide : GoodIn wsL_law wsX0_divide := goodIn_r _ [292, 63, 83, 84, 2, 85, 70, 86, 87, 88, 89, 90, 91, 92, 93, 94, 78, 79, 80, 81, 82, 13, 67, 68, 69, 71, 72, 73, 74, 75, 76, 77, 95, 96, 97, 98, 99, 100, 101, 102, 103, 104, 105, 129, 130, 131, 132, 133, 134, 135, 136, 137, 138, 139, 140, 170, 171, 172, 106, 107, 108, 109, 110, 111, 112, 124, 125, 126, 127, 128, 141, 142, 143, 144, 145, 146, 147, 148, 149, 150, 151, 152, 153, 154, 12, 155, 156, 157, 158, 159, 160, 161, 162, 163, 164, 165, 166, 403, 404] (by decide +kernel) (by decide +kernel)
set_option maxRecDepth 20000 in
theorem gL_law_X0_divide : GoodIn wsL_law (wsV RL 44 RX0 yX0_divide wsX0_divide) := goodIn_app (goodIn_of _ (by decide +kernel)) ggL_law_X0_divide
set_option maxRecDepth 20000 in
theorem ggL_law_X1_divide : GoodIn wsL_law wsX1_divide := goodIn_r _ [296, 45, 263, 213, 214, 180, 181, 5, 182, 183, 184, 185, 186, 187, 188, 189, 190, 191, 192, 193, 194, 195, 196, 197, 198, 244, 245, 246, 247, 199, 200, 201, 205, 206, 207, 208, 202, 203, 204, 252, 253, 254, 255, 215, 216, 217, 218, 297, 298, 299, 219, 220, 221, 209, 210, 211, 212, 19, 222, 223, 224, 225, 226, 227, 228, 229, 230, 231, 232, 233, 234, 235, 256, 257, 258, 259, 260, 261, 20, 262, 236, 237, 238, 239, 240, 241, 242, 243, 264, 265, 266, 267, 268, 269, 270, 271, 405, 406, 407, 408, 409, 410] (by decide +kernel) (by decide +kernel)
set_option maxRecDepth 20000 in
theorem gL_law_X1_divide : GoodIn wsL_law (wsV RL 47 RX1 yX1_divide wsX1_divide) := goodIn_app (goodIn_of _ (by decide +kernel)) ggL_law_X1_divide
set_option maxRecDepth 20000 in
theorem ggL_law_X0_root : GoodIn wsL_law wsX0_root := goodIn_r _ [303, 83, 84, 2, 85, 70, 63, 86, 87, 88, 89, 90, 91, 92, 93, 94, 78, 79, 80, 81, 82, 13, 173, 174, 175, 67, 68, 69, 74, 75, 76, 77, 71, 72, 73, 99, 100, 101, 102, 103, 104, 105, 129, 130, 131, 132, 133, 134, 135, 136, 137, 138, 139, 140, 106, 107, 108, 109, 110, 111, 112, 304, 305, 306, 95, 96, 97, 98, 170, 171, 172, 124, 125, 126, 127, 128, 141, 142, 143, 144, 145, 146, 147, 148, 149, 150, 151, 152, 153, 154, 12, 155, 156, 157, 158, 159, 160, 161, 162, 163, 164, 165, 166, 403, 404] (by decide +kernel) (by decide +kernel)
set_option maxRecDepth 20000 in
theorem gL_law_X0_root : GoodIn wsL_law (wsV RL 48 RX0 yX0_root wsX0_root) := goodIn_app (goodIn_of _ (by decide +kernel)) ggL_law_X0_root
set_option maxRecDepth 20000 in
theorem ggL_law_X1_root : GoodIn wsL_law wsX1_root := goodIn_r _ [310, 311, 213, 214, 180, 181, 5, 182, 183, 184, 185, 186, 187, 188, 189, 190, 191, 192, 193, 45, 194, 195, 196, 197, 198, 244, 245, 246, 247, 202, 203, 204, 205, 206, 207, 208, 199, 200, 201, 215, 216, 217, 218, 297, 298, 299, 219, 220, 221, 209, 210, 211, 212, 19, 222, 223, 224, 225, 226, 227, 228, 229, 230, 231, 232, 233, 234, 235, 256, 257, 258, 259, 260, 261, 20, 262, 263, 236, 237, 238, 239, 240, 241, 242, 243, 264, 265, 266, 267, 268, 269, 270, 271, 252, 253, 254, 255, 405, 406, 407, 408, 409, 410] (by decide +kernel) (by decide +kernel)
set_option maxRecDepth 20000 in
theorem gL_law_X1_root : GoodIn wsL_law (wsV RL 52 RX1 yX1_root wsX1_root) := goodIn_app (goodIn_of _ (by decide +kernel)) ggL_law_X1_root
set_option maxRecDepth 20000 in
theorem ggL_law_X0_fused : GoodIn wsL_law wsX0_fused := goodIn_r _ [315, 59, 60, 61, 2, 62, 63, 64, 65, 66, 67, 68, 69, 70, 71, 72, 73, 74, 75, 76, 77, 78, 79, 80, 81, 82, 13, 83, 84, 85, 86, 87, 88, 89, 90, 91, 92, 93, 94, 95, 96, 97, 98, 99, 100, 101, 102, 103, 104, 105, 106, 107, 108, 109, 110, 111, 112, 113, 114, 115, 116, 117, 118, 119, 120, 121, 122, 123, 12, 124, 125, 126, 127, 128, 129, 130, 131, 132, 133, 134, 135, 136, 137, 138, 139, 140, 141, 142, 143, 144, 145, 146, 147, 148, 149, 150, 151, 152, 153, 154, 155, 156, 157, 158, 159, 160, 161, 162, 163, 164, 165, 166, 167, 168, 169, 170, 171, 172, 173, 174, 175, 403, 404] (by decide +kernel) (by decide +kernel)
set_option maxRecDepth 20000 in
theorem gL_law_X0_fused : GoodIn wsL_law (wsV RL 53 RX0 yX0_fused wsX0_fused) := goodIn_app (goodIn_of _ (by decide +kernel)) ggL_law_X0_fused
set_option maxRecDepth 20000 in
theorem ggL_law_X1_fused : GoodIn wsL_law wsX1_fused := goodIn_r _ [319, 263, 180, 181, 5, 182, 183, 184, 185, 186, 187, 188, 189, 244, 245, 246, 247, 199, 200, 201, 205, 206, 207, 208, 45, 194, 190, 191, 192, 193, 195, 196, 197, 198, 202, 203, 204, 252, 253, 254, 255, 209, 210, 211, 212, 19, 213, 214, 215, 216, 217, 218, 219, 220, 221, 222, 223, 224, 225, 226, 227, 228, 229, 230, 231, 232, 233, 234, 235, 236, 237, 238, 239, 240, 241, 242, 243, 248, 249, 250, 251, 20, 256, 257, 258, 259, 260, 261, 262, 264, 265, 266, 267, 268, 269, 270, 271, 405, 406, 407, 408, 409, 410] (by decide +kernel) (by decide +kernel)
set_option maxRecDepth 20000 in
theorem gL_law_X1_fused : GoodIn wsL_law (wsV RL 57 RX1 yX1_fused wsX1_fused) := goodIn_app (goodIn_of _ (by decide +kernel)) ggL_law_X1_fused
set_option maxRecDepth 20000 in
theorem ggL_law_X0_scale : GoodIn wsL_law wsX0_scale := goodIn_r _ [323, 324, 325, 111, 326, 109, 110, 112, 83, 84, 2, 85, 70, 63, 86, 87, 88, 89, 90, 91, 92, 93, 94, 78, 79, 80, 81, 82, 13, 71, 72, 73, 95, 96, 97, 98, 99, 100, 101, 102, 103, 104, 105, 106, 107, 108, 124, 125, 126, 127, 128, 129, 130, 131, 132, 133, 134, 135, 136, 137, 138, 139, 140, 141, 142, 143, 144, 145, 146, 147, 148, 149, 150, 151, 152, 153, 154, 12, 155, 156, 157, 158, 159, 160, 161, 162, 163, 164, 165, 166, 403, 404] (by decide +kernel) (by decide +kernel)
set_option maxRecDepth 20000 in
theorem gL_law_X0_scale : GoodIn wsL_law (wsV RL 58 RX0 yX0_scale wsX0_scale) := goodIn_app (goodIn_of _ (by decide +kernel)) ggL_law_X0_scale
set_option maxRecDepth 20000 in
theorem ggL_law_X1_scale : GoodIn wsL_law wsX1_scale := goodIn_r _ [330, 213, 180, 181, 5, 182, 183, 184, 185, 186, 187, 188, 189, 190, 191, 192, 193, 45, 194, 195, 196, 197, 198, 199, 200, 201, 244, 245, 246, 247, 219, 220, 221, 209, 210, 211, 212, 19, 214, 215, 216, 217, 218, 202, 203, 204, 222, 223, 224, 225, 226, 227, 228, 229, 230, 231, 232, 233, 234, 235, 256, 257, 258, 259, 260, 261, 20, 262, 263, 236, 237, 238, 239, 240, 241, 242, 243, 264, 265, 266, 267, 268, 269, 270, 271, 252, 253, 254, 255, 405, 406, 407, 408, 409, 410] (by decide +kernel) (by decide +kernel)
set_option maxRecDepth 20000 in
theorem gL_law_X1_scale : GoodIn wsL_law (wsV RL 61 RX1 yX1_scale wsX1_scale) := goodIn_app (goodIn_of _ (by decide +kernel)) ggL_law_X1_scale
set_option maxRecDepth 20000 in
theorem ggL_law_X0_whole : GoodIn wsL_law wsX0_whole := goodIn_r _ [334, 83, 84, 2, 85, 70, 63, 86, 87, 88, 89, 90, 91, 92, 93, 94, 78, 79, 80, 81, 82, 13, 71, 72, 73, 106, 107, 108, 109, 110, 111, 112, 103, 104, 105, 99, 100, 101, 102, 141, 142, 143, 95, 96, 97, 98, 144, 145, 146, 147, 148, 149, 150, 151, 152, 153, 154, 12, 155, 156, 157, 158, 124, 125, 126, 127, 128, 129, 130, 131, 132, 133, 134, 135, 136, 137, 138, 139, 140, 159, 160, 161, 162, 163, 164, 165, 166, 403, 404] (by decide +kernel) (by decide +kernel)
set_option maxRecDepth 20000 in
theorem gL_law_X0_whole : GoodIn wsL_law (wsV RL 62 RX0 yX0_whole wsX0_whole) := goodIn_app (goodIn_of _ (by decide +kernel)) ggL_law_X0_whole
set_option maxRecDepth 20000 in
theorem ggL_law_X1_whole : GoodIn wsL_law wsX1_whole := goodIn_r _ [338, 261, 45, 180, 181, 5, 182, 183, 184, 185, 186, 187, 188, 189, 190, 191, 192, 193, 194, 195, 196, 197, 198, 199, 200, 201, 244, 245, 246, 247, 219, 220, 221, 339, 340, 341, 342, 215, 216, 217, 218, 209, 210, 211, 212, 19, 213, 214, 222, 223, 224, 225, 226, 202, 203, 204, 264, 265, 266, 267, 20, 240, 241, 242, 243, 268, 269, 270, 271, 252, 253, 254, 255, 227, 228, 229, 230, 231, 232, 233, 234, 235, 256, 257, 258, 259, 260, 262, 263, 236, 237, 238, 239, 405, 406, 407, 408, 409, 410] (by decide +kernel) (by decide +kernel)
set_option maxRecDepth 20000 in
theorem gL_law_X1_whole : GoodIn wsL_law (wsV RL 65 RX1 yX1_whole wsX1_whole) := goodIn_app (goodIn_of _ (by decide +kernel)) ggL_law_X1_whole
set_option maxRecDepth 20000 in
theorem ggL_law_X0_toInt : GoodIn wsL_law wsX0_toInt := goodIn_r _ [346, 347, 348, 349, 350, 2, 351, 70, 63, 106, 107, 108, 109, 110, 111, 112, 103, 104, 105, 352, 353, 354, 355, 98, 79, 80, 81, 82, 13, 95, 96, 97, 99, 100, 101, 89, 102, 144, 145, 146, 147, 148, 149, 150, 151, 152, 153, 154, 12, 141, 142, 143, 155, 156, 157, 158, 173, 174, 175, 403, 404] (by decide +kernel) (by decide +kernel)
set_option maxRecDepth 20000 in
theorem gL_law_X0_toInt : GoodIn wsL_law (wsV RL 66 RX0 yX0_toInt wsX0_toInt) := goodIn_app (goodIn_of _ (by decide +kernel)) ggL_law_X0_toInt
set_option maxRecDepth 20000 in
theorem ggL_law_X1_toInt : GoodIn wsL_law wsX1_toInt := goodIn_r _ [359, 360, 361, 45, 255, 261, 183, 184, 5, 185, 339, 340, 341, 342, 219, 220, 221, 215, 216, 217, 218, 186, 187, 188, 189, 209, 210, 211, 212, 19, 213, 214, 222, 223, 224, 225, 226, 202, 203, 204, 264, 265, 266, 267, 20, 240, 241, 242, 243, 268, 269, 270, 271, 405, 406, 407, 408, 409, 410] (by decide +kernel) (by decide +kernel)
set_option maxRecDepth 20000 in
theorem gL_law_X1_toInt : GoodIn wsL_law (wsV RL 69 RX1 yX1_toInt wsX1_toInt) := goodIn_app (goodIn_of _ (by decide +kernel)) ggL_law_X1_toInt
set_option maxRecDepth 20000 in
theorem ggL_law_X0_fromInt : GoodIn wsL_law wsX0_fromInt := goodIn_r _ [365, 117, 118, 111, 119, 95, 96, 2, 97, 98, 124, 125, 126, 127, 109, 110, 112, 128, 129, 130, 131, 132, 133, 134, 135, 136, 137, 138, 139, 140, 141, 142, 143, 79, 80, 81, 82, 13, 144, 145, 146, 147, 148, 149, 150, 151, 152, 153, 154, 12, 155, 156, 157, 158, 159, 160, 161, 162, 163, 164, 165, 63, 166, 403, 404] (by decide +kernel) (by decide +kernel)
set_option maxRecDepth 20000 in
theorem gL_law_X0_fromInt : GoodIn wsL_law (wsV RL 70 RX0 yX0_fromInt wsX0_fromInt) := goodIn_app (goodIn_of _ (by decide +kernel)) ggL_law_X0_fromInt
set_option maxRecDepth 20000 in
theorem ggL_law_X1_fromInt : GoodIn wsL_law wsX1_fromInt := goodIn_r _ [369, 209, 210, 211, 5, 212, 19, 213, 214, 222, 223, 224, 225, 226, 227, 228, 229, 230, 231, 232, 233, 234, 235, 256, 257, 258, 259, 260, 261, 45, 20, 262, 263, 218, 236, 237, 238, 239, 240, 241, 242, 243, 264, 265, 266, 267, 268, 269, 270, 271, 252, 253, 254, 255, 405, 406, 407, 408, 409, 410] (by decide +kernel) (by decide +kernel)
set_option maxRecDepth 20000 in
theorem gL_law_X1_fromInt : GoodIn wsL_law (wsV RL 73 RX1 yX1_fromInt wsX1_fromInt) := goodIn_app (goodIn_of _ (by decide +kernel)) ggL_law_X1_fromInt
set_option maxRecDepth 20000 in
theorem ggL_law_X0_compare : GoodIn wsL_law wsX0_compare := goodIn_r _ [373, 83, 84, 2, 85, 70, 63, 86, 87, 88, 89, 90, 91, 92, 93, 94, 78, 79, 80, 81, 82, 13, 374, 375, 376, 173, 174, 175, 403, 404] (by decide +kernel) (by decide +kernel)
set_option maxRecDepth 20000 in
theorem gL_law_X0_compare : GoodIn wsL_law (wsV RL 74 RX0 yX0_compare wsX0_compare) := goodIn_app (goodIn_of _ (by decide +kernel)) ggL_law_X0_compare
set_option maxRecDepth 20000 in
theorem ggL_law_X1_compare : GoodIn wsL_law wsX1_compare := goodIn_r _ [380, 194, 180, 181, 5, 182, 183, 184, 185, 186, 187, 188, 189, 190, 191, 192, 193, 45, 195, 196, 197, 198, 381, 382, 383, 247, 405, 406, 407, 408, 409, 410] (by decide +kernel) (by decide +kernel)
set_option maxRecDepth 20000 in
theorem gL_law_X1_compare : GoodIn wsL_law (wsV RL 77 RX1 yX1_compare wsX1_compare) := goodIn_app (goodIn_of _ (by decide +kernel)) ggL_law_X1_compare
set_option maxRecDepth 20000 in
theorem ggL_law_X0_next : GoodIn wsL_law wsX0_next := goodIn_r _ [387, 63, 83, 84, 2, 85, 70, 86, 87, 88, 89, 90, 91, 92, 93, 94, 78, 79, 80, 81, 82, 13, 67, 68, 69, 173, 174, 175, 403, 404] (by decide +kernel) (by decide +kernel)
set_option maxRecDepth 20000 in
theorem gL_law_X0_next : GoodIn wsL_law (wsV RL 78 RX0 yX0_next wsX0_next) := goodIn_app (goodIn_of _ (by decide +kernel)) ggL_law_X0_next
set_option maxRecDepth 20000 in
theorem ggL_law_X1_next : GoodIn wsL_law wsX1_next := goodIn_r _ [391, 263, 255, 180, 181, 5, 182, 183, 184, 185, 186, 187, 188, 189, 190, 191, 192, 193, 45, 194, 195, 196, 197, 198, 381, 382, 383, 247, 405, 406, 407, 408, 409, 410] (by decide +kernel) (by decide +kernel)
set_option maxRecDepth 20000 in
theorem gL_law_X1_next : GoodIn wsL_law (wsV RL 81 RX1 yX1_next wsX1_next) := goodIn_app (goodIn_of _ (by decide +kernel)) ggL_law_X1_next
set_option maxRecDepth 20000 in
theorem ggL_law_X0_kind : GoodIn wsL_law wsX0_kind := goodIn_r _ [395, 396, 397, 2, 398, 83, 84, 85, 70, 63, 86, 87, 88, 89, 90, 71, 72, 73, 67, 68, 69, 103, 104, 105, 173, 174, 175] (by decide +kernel) (by decide +kernel)
set_option maxRecDepth 20000 in
theorem gL_law_X0_kind : GoodIn wsL_law (wsV RL 82 RX0 yX0_kind wsX0_kind) := goodIn_app (goodIn_of _ (by decide +kernel)) ggL_law_X0_kind
set_option maxRecDepth 20000 in
theorem ggL_law_X1_kind : GoodIn wsL_law wsX1_kind := goodIn_r _ [402, 195, 196, 5, 197, 198, 180, 181, 182, 183, 184, 185, 186, 187, 188, 189, 199, 200, 201, 244, 245, 246, 247, 202, 203, 204] (by decide +kernel) (by decide +kernel)
set_option maxRecDepth 20000 in
theorem gL_law_X1_kind : GoodIn wsL_law (wsV RL 85 RX1 yX1_kind wsX1_kind) := goodIn_app (goodIn_of _ (by decide +kernel)) ggL_law_X1_kind
theorem dL_law_0 : decode cL_law 0 = .ok (.new 7, 3) := by decide +kernel
theorem dL_law_3 : decode cL_law 3 = .ok (.dup, 1) := by decide +kernel
theorem dL_law_4 : decode cL_law 4 = .ok (.invokespecial 9, 3) := by decide +kernel
theorem dL_law_7 : decode cL_law 7 = .ok (.astore_n 1, 1) := by decide +kernel
theorem dL_law_8 : decode cL_law 8 = .ok (.new 10, 3) := by decide +kernel
theorem dL_law_11 : decode cL_law 11 = .ok (.dup, 1) := by decide +kernel
theorem dL_law_12 : decode cL_law 12 = .ok (.invokespecial 12, 3) := by decide +kernel
theorem dL_law_15 : decode cL_law 15 = .ok (.astore_n 2, 1) := by decide +kernel
theorem dL_law_16 : decode cL_law 16 = .ok (.iconst 0, 1) := by decide +kernel
theorem dL_law_17 : decode cL_law 17 = .ok (.istore_n 3, 1) := by decide +kernel
theorem dL_law_18 : decode cL_law 18 = .ok (.iload_n 3, 1) := by decide +kernel
theorem dL_law_19 : decode cL_law 19 = .ok (.aload_n 0, 1) := by decide +kernel
theorem dL_law_20 : decode cL_law 20 = .ok (.arraylength, 1) := by decide +kernel
theorem dL_law_21 : decode cL_law 21 = .ok (.iconst 4, 1) := by decide +kernel
theorem dL_law_22 : decode cL_law 22 = .ok (.isub, 1) := by decide +kernel
theorem dL_law_23 : decode cL_law 23 = .ok (.if_icmp .gt 540, 3) := by decide +kernel
theorem dL_law_26 : decode cL_law 26 = .ok (.aload_n 0, 1) := by decide +kernel
theorem dL_law_27 : decode cL_law 27 = .ok (.iload_n 3, 1) := by decide +kernel
theorem dL_law_28 : decode cL_law 28 = .ok (.iaload, 1) := by decide +kernel
theorem dL_law_29 : decode cL_law 29 = .ok (.bipush 31, 2) := by decide +kernel
theorem dL_law_31 : decode cL_law 31 = .ok (.iand, 1) := by decide +kernel
theorem dL_law_32 : decode cL_law 32 = .ok (.tableswitch 525 0 16 #[84, 107, 120, 133, 146, 179, 212, 245, 278, 301, 344, 377, 400, 423, 446, 479, 502], 84) := by decide +kernel
theorem dL_law_116 : decode cL_law 116 = .ok (.aload_n 1, 1) := by decide +kernel
theorem dL_law_117 : decode cL_law 117 = .ok (.aload_n 0, 1) := by decide +kernel
theorem dL_law_118 : decode cL_law 118 = .ok (.iload_n 3, 1) := by decide +kernel
theorem dL_law_119 : decode cL_law 119 = .ok (.iconst 1, 1) := by decide +kernel
theorem dL_law_120 : decode cL_law 120 = .ok (.iadd, 1) := by decide +kernel
theorem dL_law_121 : decode cL_law 121 = .ok (.iaload, 1) := by decide +kernel
theorem dL_law_122 : decode cL_law 122 = .ok (.invokevirtual 13, 3) := by decide +kernel
theorem dL_law_125 : decode cL_law 125 = .ok (.aload_n 2, 1) := by decide +kernel
theorem dL_law_126 : decode cL_law 126 = .ok (.aload_n 0, 1) := by decide +kernel
theorem dL_law_127 : decode cL_law 127 = .ok (.iload_n 3, 1) := by decide +kernel
theorem dL_law_128 : decode cL_law 128 = .ok (.iconst 1, 1) := by decide +kernel
theorem dL_law_129 : decode cL_law 129 = .ok (.iadd, 1) := by decide +kernel
theorem dL_law_130 : decode cL_law 130 = .ok (.iaload, 1) := by decide +kernel
theorem dL_law_131 : decode cL_law 131 = .ok (.invokevirtual 17, 3) := by decide +kernel
theorem dL_law_134 : decode cL_law 134 = .ok (.if_icmp .eq 423, 3) := by decide +kernel
theorem dL_law_137 : decode cL_law 137 = .ok (.iconst 0, 1) := by decide +kernel
theorem dL_law_138 : decode cL_law 138 = .ok (.ireturn, 1) := by decide +kernel
theorem dL_law_139 : decode cL_law 139 = .ok (.aload_n 1, 1) := by decide +kernel
theorem dL_law_140 : decode cL_law 140 = .ok (.invokevirtual 18, 3) := by decide +kernel
theorem dL_law_143 : decode cL_law 143 = .ok (.aload_n 2, 1) := by decide +kernel
theorem dL_law_144 : decode cL_law 144 = .ok (.invokevirtual 22, 3) := by decide +kernel
theorem dL_law_147 : decode cL_law 147 = .ok (.if_icmp .eq 410, 3) := by decide +kernel
theorem dL_law_150 : decode cL_law 150 = .ok (.iconst 0, 1) := by decide +kernel
theorem dL_law_151 : decode cL_law 151 = .ok (.ireturn, 1) := by decide +kernel
theorem dL_law_152 : decode cL_law 152 = .ok (.aload_n 1, 1) := by decide +kernel
theorem dL_law_153 : decode cL_law 153 = .ok (.invokevirtual 23, 3) := by decide +kernel
theorem dL_law_156 : decode cL_law 156 = .ok (.aload_n 2, 1) := by decide +kernel
theorem dL_law_157 : decode cL_law 157 = .ok (.invokevirtual 26, 3) := by decide +kernel
theorem dL_law_160 : decode cL_law 160 = .ok (.if_icmp .eq 397, 3) := by decide +kernel
theorem dL_law_163 : decode cL_law 163 = .ok (.iconst 0, 1) := by decide +kernel
theorem dL_law_164 : decode cL_law 164 = .ok (.ireturn, 1) := by decide +kernel
theorem dL_law_165 : decode cL_law 165 = .ok (.aload_n 1, 1) := by decide +kernel
theorem dL_law_166 : decode cL_law 166 = .ok (.invokevirtual 27, 3) := by decide +kernel
theorem dL_law_169 : decode cL_law 169 = .ok (.aload_n 2, 1) := by decide +kernel
theorem dL_law_170 : decode cL_law 170 = .ok (.invokevirtual 30, 3) := by decide +kernel
theorem dL_law_173 : decode cL_law 173 = .ok (.if_icmp .eq 384, 3) := by decide +kernel
theorem dL_law_176 : decode cL_law 176 = .ok (.iconst 0, 1) := by decide +kernel
theorem dL_law_177 : decode cL_law 177 = .ok (.ireturn, 1) := by decide +kernel
theorem dL_law_178 : decode cL_law 178 = .ok (.aload_n 1, 1) := by decide +kernel
theorem dL_law_179 : decode cL_law 179 = .ok (.aload_n 0, 1) := by decide +kernel
theorem dL_law_180 : decode cL_law 180 = .ok (.iload_n 3, 1) := by decide +kernel
theorem dL_law_181 : decode cL_law 181 = .ok (.iconst 1, 1) := by decide +kernel
theorem dL_law_182 : decode cL_law 182 = .ok (.iadd, 1) := by decide +kernel
theorem dL_law_183 : decode cL_law 183 = .ok (.iaload, 1) := by decide +kernel
theorem dL_law_184 : decode cL_law 184 = .ok (.aload_n 0, 1) := by decide +kernel
theorem dL_law_185 : decode cL_law 185 = .ok (.iload_n 3, 1) := by decide +kernel
theorem dL_law_186 : decode cL_law 186 = .ok (.iconst 2, 1) := by decide +kernel
theorem dL_law_187 : decode cL_law 187 = .ok (.iadd, 1) := by decide +kernel
theorem dL_law_188 : decode cL_law 188 = .ok (.iaload, 1) := by decide +kernel
theorem dL_law_189 : decode cL_law 189 = .ok (.invokevirtual 31, 3) := by decide +kernel
theorem dL_law_192 : decode cL_law 192 = .ok (.aload_n 2, 1) := by decide +kernel
theorem dL_law_193 : decode cL_law 193 = .ok (.aload_n 0, 1) := by decide +kernel
theorem dL_law_194 : decode cL_law 194 = .ok (.iload_n 3, 1) := by decide +kernel
theorem dL_law_195 : decode cL_law 195 = .ok (.iconst 1, 1) := by decide +kernel
theorem dL_law_196 : decode cL_law 196 = .ok (.iadd, 1) := by decide +kernel
theorem dL_law_197 : decode cL_law 197 = .ok (.iaload, 1) := by decide +kernel
theorem dL_law_198 : decode cL_law 198 = .ok (.aload_n 0, 1) := by decide +kernel
theorem dL_law_199 : decode cL_law 199 = .ok (.iload_n 3, 1) := by decide +kernel
theorem dL_law_200 : decode cL_law 200 = .ok (.iconst 2, 1) := by decide +kernel
theorem dL_law_201 : decode cL_law 201 = .ok (.iadd, 1) := by decide +kernel
theorem dL_law_202 : decode cL_law 202 = .ok (.iaload, 1) := by decide +kernel
theorem dL_law_203 : decode cL_law 203 = .ok (.invokevirtual 35, 3) := by decide +kernel
theorem dL_law_206 : decode cL_law 206 = .ok (.if_icmp .eq 351, 3) := by decide +kernel
theorem dL_law_209 : decode cL_law 209 = .ok (.iconst 0, 1) := by decide +kernel
theorem dL_law_210 : decode cL_law 210 = .ok (.ireturn, 1) := by decide +kernel
theorem dL_law_211 : decode cL_law 211 = .ok (.aload_n 1, 1) := by decide +kernel
theorem dL_law_212 : decode cL_law 212 = .ok (.aload_n 0, 1) := by decide +kernel
theorem dL_law_213 : decode cL_law 213 = .ok (.iload_n 3, 1) := by decide +kernel
theorem dL_law_214 : decode cL_law 214 = .ok (.iconst 1, 1) := by decide +kernel
theorem dL_law_215 : decode cL_law 215 = .ok (.iadd, 1) := by decide +kernel
theorem dL_law_216 : decode cL_law 216 = .ok (.iaload, 1) := by decide +kernel
theorem dL_law_217 : decode cL_law 217 = .ok (.aload_n 0, 1) := by decide +kernel
theorem dL_law_218 : decode cL_law 218 = .ok (.iload_n 3, 1) := by decide +kernel
theorem dL_law_219 : decode cL_law 219 = .ok (.iconst 2, 1) := by decide +kernel
theorem dL_law_220 : decode cL_law 220 = .ok (.iadd, 1) := by decide +kernel
theorem dL_law_221 : decode cL_law 221 = .ok (.iaload, 1) := by decide +kernel
theorem dL_law_222 : decode cL_law 222 = .ok (.invokevirtual 36, 3) := by decide +kernel
theorem dL_law_225 : decode cL_law 225 = .ok (.aload_n 2, 1) := by decide +kernel
theorem dL_law_226 : decode cL_law 226 = .ok (.aload_n 0, 1) := by decide +kernel
theorem dL_law_227 : decode cL_law 227 = .ok (.iload_n 3, 1) := by decide +kernel
theorem dL_law_228 : decode cL_law 228 = .ok (.iconst 1, 1) := by decide +kernel
theorem dL_law_229 : decode cL_law 229 = .ok (.iadd, 1) := by decide +kernel
theorem dL_law_230 : decode cL_law 230 = .ok (.iaload, 1) := by decide +kernel
theorem dL_law_231 : decode cL_law 231 = .ok (.aload_n 0, 1) := by decide +kernel
theorem dL_law_232 : decode cL_law 232 = .ok (.iload_n 3, 1) := by decide +kernel
theorem dL_law_233 : decode cL_law 233 = .ok (.iconst 2, 1) := by decide +kernel
theorem dL_law_234 : decode cL_law 234 = .ok (.iadd, 1) := by decide +kernel
theorem dL_law_235 : decode cL_law 235 = .ok (.iaload, 1) := by decide +kernel
theorem dL_law_236 : decode cL_law 236 = .ok (.invokevirtual 39, 3) := by decide +kernel
theorem dL_law_239 : decode cL_law 239 = .ok (.if_icmp .eq 318, 3) := by decide +kernel
theorem dL_law_242 : decode cL_law 242 = .ok (.iconst 0, 1) := by decide +kernel
theorem dL_law_243 : decode cL_law 243 = .ok (.ireturn, 1) := by decide +kernel
theorem dL_law_244 : decode cL_law 244 = .ok (.aload_n 1, 1) := by decide +kernel
theorem dL_law_245 : decode cL_law 245 = .ok (.aload_n 0, 1) := by decide +kernel
theorem dL_law_246 : decode cL_law 246 = .ok (.iload_n 3, 1) := by decide +kernel
theorem dL_law_247 : decode cL_law 247 = .ok (.iconst 1, 1) := by decide +kernel
theorem dL_law_248 : decode cL_law 248 = .ok (.iadd, 1) := by decide +kernel
theorem dL_law_249 : decode cL_law 249 = .ok (.iaload, 1) := by decide +kernel
theorem dL_law_250 : decode cL_law 250 = .ok (.aload_n 0, 1) := by decide +kernel
theorem dL_law_251 : decode cL_law 251 = .ok (.iload_n 3, 1) := by decide +kernel
theorem dL_law_252 : decode cL_law 252 = .ok (.iconst 2, 1) := by decide +kernel
theorem dL_law_253 : decode cL_law 253 = .ok (.iadd, 1) := by decide +kernel
theorem dL_law_254 : decode cL_law 254 = .ok (.iaload, 1) := by decide +kernel
theorem dL_law_255 : decode cL_law 255 = .ok (.invokevirtual 40, 3) := by decide +kernel
theorem dL_law_258 : decode cL_law 258 = .ok (.aload_n 2, 1) := by decide +kernel
theorem dL_law_259 : decode cL_law 259 = .ok (.aload_n 0, 1) := by decide +kernel
theorem dL_law_260 : decode cL_law 260 = .ok (.iload_n 3, 1) := by decide +kernel
theorem dL_law_261 : decode cL_law 261 = .ok (.iconst 1, 1) := by decide +kernel
theorem dL_law_262 : decode cL_law 262 = .ok (.iadd, 1) := by decide +kernel
theorem dL_law_263 : decode cL_law 263 = .ok (.iaload, 1) := by decide +kernel
theorem dL_law_264 : decode cL_law 264 = .ok (.aload_n 0, 1) := by decide +kernel
theorem dL_law_265 : decode cL_law 265 = .ok (.iload_n 3, 1) := by decide +kernel
theorem dL_law_266 : decode cL_law 266 = .ok (.iconst 2, 1) := by decide +kernel
theorem dL_law_267 : decode cL_law 267 = .ok (.iadd, 1) := by decide +kernel
theorem dL_law_268 : decode cL_law 268 = .ok (.iaload, 1) := by decide +kernel
theorem dL_law_269 : decode cL_law 269 = .ok (.invokevirtual 43, 3) := by decide +kernel
theorem dL_law_272 : decode cL_law 272 = .ok (.if_icmp .eq 285, 3) := by decide +kernel
theorem dL_law_275 : decode cL_law 275 = .ok (.iconst 0, 1) := by decide +kernel
theorem dL_law_276 : decode cL_law 276 = .ok (.ireturn, 1) := by decide +kernel
theorem dL_law_277 : decode cL_law 277 = .ok (.aload_n 1, 1) := by decide +kernel
theorem dL_law_278 : decode cL_law 278 = .ok (.aload_n 0, 1) := by decide +kernel
theorem dL_law_279 : decode cL_law 279 = .ok (.iload_n 3, 1) := by decide +kernel
theorem dL_law_280 : decode cL_law 280 = .ok (.iconst 1, 1) := by decide +kernel
theorem dL_law_281 : decode cL_law 281 = .ok (.iadd, 1) := by decide +kernel
theorem dL_law_282 : decode cL_law 282 = .ok (.iaload, 1) := by decide +kernel
theorem dL_law_283 : decode cL_law 283 = .ok (.aload_n 0, 1) := by decide +kernel
theorem dL_law_284 : decode cL_law 284 = .ok (.iload_n 3, 1) := by decide +kernel
theorem dL_law_285 : decode cL_law 285 = .ok (.iconst 2, 1) := by decide +kernel
theorem dL_law_286 : decode cL_law 286 = .ok (.iadd, 1) := by decide +kernel
theorem dL_law_287 : decode cL_law 287 = .ok (.iaload, 1) := by decide +kernel
theorem dL_law_288 : decode cL_law 288 = .ok (.invokevirtual 44, 3) := by decide +kernel
theorem dL_law_291 : decode cL_law 291 = .ok (.aload_n 2, 1) := by decide +kernel
theorem dL_law_292 : decode cL_law 292 = .ok (.aload_n 0, 1) := by decide +kernel
theorem dL_law_293 : decode cL_law 293 = .ok (.iload_n 3, 1) := by decide +kernel
theorem dL_law_294 : decode cL_law 294 = .ok (.iconst 1, 1) := by decide +kernel
theorem dL_law_295 : decode cL_law 295 = .ok (.iadd, 1) := by decide +kernel
theorem dL_law_296 : decode cL_law 296 = .ok (.iaload, 1) := by decide +kernel
theorem dL_law_297 : decode cL_law 297 = .ok (.aload_n 0, 1) := by decide +kernel
theorem dL_law_298 : decode cL_law 298 = .ok (.iload_n 3, 1) := by decide +kernel
theorem dL_law_299 : decode cL_law 299 = .ok (.iconst 2, 1) := by decide +kernel
theorem dL_law_300 : decode cL_law 300 = .ok (.iadd, 1) := by decide +kernel
theorem dL_law_301 : decode cL_law 301 = .ok (.iaload, 1) := by decide +kernel
theorem dL_law_302 : decode cL_law 302 = .ok (.invokevirtual 47, 3) := by decide +kernel
theorem dL_law_305 : decode cL_law 305 = .ok (.if_icmp .eq 252, 3) := by decide +kernel
theorem dL_law_308 : decode cL_law 308 = .ok (.iconst 0, 1) := by decide +kernel
theorem dL_law_309 : decode cL_law 309 = .ok (.ireturn, 1) := by decide +kernel
theorem dL_law_310 : decode cL_law 310 = .ok (.aload_n 1, 1) := by decide +kernel
theorem dL_law_311 : decode cL_law 311 = .ok (.aload_n 0, 1) := by decide +kernel
theorem dL_law_312 : decode cL_law 312 = .ok (.iload_n 3, 1) := by decide +kernel
theorem dL_law_313 : decode cL_law 313 = .ok (.iconst 1, 1) := by decide +kernel
theorem dL_law_314 : decode cL_law 314 = .ok (.iadd, 1) := by decide +kernel
theorem dL_law_315 : decode cL_law 315 = .ok (.iaload, 1) := by decide +kernel
theorem dL_law_316 : decode cL_law 316 = .ok (.invokevirtual 48, 3) := by decide +kernel
theorem dL_law_319 : decode cL_law 319 = .ok (.aload_n 2, 1) := by decide +kernel
theorem dL_law_320 : decode cL_law 320 = .ok (.aload_n 0, 1) := by decide +kernel
theorem dL_law_321 : decode cL_law 321 = .ok (.iload_n 3, 1) := by decide +kernel
theorem dL_law_322 : decode cL_law 322 = .ok (.iconst 1, 1) := by decide +kernel
theorem dL_law_323 : decode cL_law 323 = .ok (.iadd, 1) := by decide +kernel
theorem dL_law_324 : decode cL_law 324 = .ok (.iaload, 1) := by decide +kernel
theorem dL_law_325 : decode cL_law 325 = .ok (.invokevirtual 52, 3) := by decide +kernel
theorem dL_law_328 : decode cL_law 328 = .ok (.if_icmp .eq 229, 3) := by decide +kernel
theorem dL_law_331 : decode cL_law 331 = .ok (.iconst 0, 1) := by decide +kernel
theorem dL_law_332 : decode cL_law 332 = .ok (.ireturn, 1) := by decide +kernel
theorem dL_law_333 : decode cL_law 333 = .ok (.aload_n 1, 1) := by decide +kernel
theorem dL_law_334 : decode cL_law 334 = .ok (.aload_n 0, 1) := by decide +kernel
theorem dL_law_335 : decode cL_law 335 = .ok (.iload_n 3, 1) := by decide +kernel
theorem dL_law_336 : decode cL_law 336 = .ok (.iconst 1, 1) := by decide +kernel
theorem dL_law_337 : decode cL_law 337 = .ok (.iadd, 1) := by decide +kernel
theorem dL_law_338 : decode cL_law 338 = .ok (.iaload, 1) := by decide +kernel
theorem dL_law_339 : decode cL_law 339 = .ok (.aload_n 0, 1) := by decide +kernel
theorem dL_law_340 : decode cL_law 340 = .ok (.iload_n 3, 1) := by decide +kernel
theorem dL_law_341 : decode cL_law 341 = .ok (.iconst 2, 1) := by decide +kernel
theorem dL_law_342 : decode cL_law 342 = .ok (.iadd, 1) := by decide +kernel
theorem dL_law_343 : decode cL_law 343 = .ok (.iaload, 1) := by decide +kernel
theorem dL_law_344 : decode cL_law 344 = .ok (.aload_n 0, 1) := by decide +kernel
theorem dL_law_345 : decode cL_law 345 = .ok (.iload_n 3, 1) := by decide +kernel
theorem dL_law_346 : decode cL_law 346 = .ok (.iconst 3, 1) := by decide +kernel
theorem dL_law_347 : decode cL_law 347 = .ok (.iadd, 1) := by decide +kernel
theorem dL_law_348 : decode cL_law 348 = .ok (.iaload, 1) := by decide +kernel
theorem dL_law_349 : decode cL_law 349 = .ok (.invokevirtual 53, 3) := by decide +kernel
theorem dL_law_352 : decode cL_law 352 = .ok (.aload_n 2, 1) := by decide +kernel
theorem dL_law_353 : decode cL_law 353 = .ok (.aload_n 0, 1) := by decide +kernel
theorem dL_law_354 : decode cL_law 354 = .ok (.iload_n 3, 1) := by decide +kernel
theorem dL_law_355 : decode cL_law 355 = .ok (.iconst 1, 1) := by decide +kernel
theorem dL_law_356 : decode cL_law 356 = .ok (.iadd, 1) := by decide +kernel
theorem dL_law_357 : decode cL_law 357 = .ok (.iaload, 1) := by decide +kernel
theorem dL_law_358 : decode cL_law 358 = .ok (.aload_n 0, 1) := by decide +kernel
theorem dL_law_359 : decode cL_law 359 = .ok (.iload_n 3, 1) := by decide +kernel
theorem dL_law_360 : decode cL_law 360 = .ok (.iconst 2, 1) := by decide +kernel
theorem dL_law_361 : decode cL_law 361 = .ok (.iadd, 1) := by decide +kernel
theorem dL_law_362 : decode cL_law 362 = .ok (.iaload, 1) := by decide +kernel
theorem dL_law_363 : decode cL_law 363 = .ok (.aload_n 0, 1) := by decide +kernel
theorem dL_law_364 : decode cL_law 364 = .ok (.iload_n 3, 1) := by decide +kernel
theorem dL_law_365 : decode cL_law 365 = .ok (.iconst 3, 1) := by decide +kernel
theorem dL_law_366 : decode cL_law 366 = .ok (.iadd, 1) := by decide +kernel
theorem dL_law_367 : decode cL_law 367 = .ok (.iaload, 1) := by decide +kernel
theorem dL_law_368 : decode cL_law 368 = .ok (.invokevirtual 57, 3) := by decide +kernel
theorem dL_law_371 : decode cL_law 371 = .ok (.if_icmp .eq 186, 3) := by decide +kernel
theorem dL_law_374 : decode cL_law 374 = .ok (.iconst 0, 1) := by decide +kernel
theorem dL_law_375 : decode cL_law 375 = .ok (.ireturn, 1) := by decide +kernel
theorem dL_law_376 : decode cL_law 376 = .ok (.aload_n 1, 1) := by decide +kernel
theorem dL_law_377 : decode cL_law 377 = .ok (.aload_n 0, 1) := by decide +kernel
theorem dL_law_378 : decode cL_law 378 = .ok (.iload_n 3, 1) := by decide +kernel
theorem dL_law_379 : decode cL_law 379 = .ok (.iconst 1, 1) := by decide +kernel
theorem dL_law_380 : decode cL_law 380 = .ok (.iadd, 1) := by decide +kernel
theorem dL_law_381 : decode cL_law 381 = .ok (.iaload, 1) := by decide +kernel
theorem dL_law_382 : decode cL_law 382 = .ok (.aload_n 0, 1) := by decide +kernel
theorem dL_law_383 : decode cL_law 383 = .ok (.iload_n 3, 1) := by decide +kernel
theorem dL_law_384 : decode cL_law 384 = .ok (.iconst 2, 1) := by decide +kernel
theorem dL_law_385 : decode cL_law 385 = .ok (.iadd, 1) := by decide +kernel
theorem dL_law_386 : decode cL_law 386 = .ok (.iaload, 1) := by decide +kernel
theorem dL_law_387 : decode cL_law 387 = .ok (.invokevirtual 58, 3) := by decide +kernel
theorem dL_law_390 : decode cL_law 390 = .ok (.aload_n 2, 1) := by decide +kernel
theorem dL_law_391 : decode cL_law 391 = .ok (.aload_n 0, 1) := by decide +kernel
theorem dL_law_392 : decode cL_law 392 = .ok (.iload_n 3, 1) := by decide +kernel
theorem dL_law_393 : decode cL_law 393 = .ok (.iconst 1, 1) := by decide +kernel
theorem dL_law_394 : decode cL_law 394 = .ok (.iadd, 1) := by decide +kernel
theorem dL_law_395 : decode cL_law 395 = .ok (.iaload, 1) := by decide +kernel
theorem dL_law_396 : decode cL_law 396 = .ok (.aload_n 0, 1) := by decide +kernel
theorem dL_law_397 : decode cL_law 397 = .ok (.iload_n 3, 1) := by decide +kernel
theorem dL_law_398 : decode cL_law 398 = .ok (.iconst 2, 1) := by decide +kernel
theorem dL_law_399 : decode cL_law 399 = .ok (.iadd, 1) := by decide +kernel
theorem dL_law_400 : decode cL_law 400 = .ok (.iaload, 1) := by decide +kernel
theorem dL_law_401 : decode cL_law 401 = .ok (.invokevirtual 61, 3) := by decide +kernel
theorem dL_law_404 : decode cL_law 404 = .ok (.if_icmp .eq 153, 3) := by decide +kernel
theorem dL_law_407 : decode cL_law 407 = .ok (.iconst 0, 1) := by decide +kernel
theorem dL_law_408 : decode cL_law 408 = .ok (.ireturn, 1) := by decide +kernel
theorem dL_law_409 : decode cL_law 409 = .ok (.aload_n 1, 1) := by decide +kernel
theorem dL_law_410 : decode cL_law 410 = .ok (.aload_n 0, 1) := by decide +kernel
theorem dL_law_411 : decode cL_law 411 = .ok (.iload_n 3, 1) := by decide +kernel
theorem dL_law_412 : decode cL_law 412 = .ok (.iconst 1, 1) := by decide +kernel
theorem dL_law_413 : decode cL_law 413 = .ok (.iadd, 1) := by decide +kernel
theorem dL_law_414 : decode cL_law 414 = .ok (.iaload, 1) := by decide +kernel
theorem dL_law_415 : decode cL_law 415 = .ok (.invokevirtual 62, 3) := by decide +kernel
theorem dL_law_418 : decode cL_law 418 = .ok (.aload_n 2, 1) := by decide +kernel
theorem dL_law_419 : decode cL_law 419 = .ok (.aload_n 0, 1) := by decide +kernel
theorem dL_law_420 : decode cL_law 420 = .ok (.iload_n 3, 1) := by decide +kernel
theorem dL_law_421 : decode cL_law 421 = .ok (.iconst 1, 1) := by decide +kernel
theorem dL_law_422 : decode cL_law 422 = .ok (.iadd, 1) := by decide +kernel
theorem dL_law_423 : decode cL_law 423 = .ok (.iaload, 1) := by decide +kernel
theorem dL_law_424 : decode cL_law 424 = .ok (.invokevirtual 65, 3) := by decide +kernel
theorem dL_law_427 : decode cL_law 427 = .ok (.if_icmp .eq 130, 3) := by decide +kernel
theorem dL_law_430 : decode cL_law 430 = .ok (.iconst 0, 1) := by decide +kernel
theorem dL_law_431 : decode cL_law 431 = .ok (.ireturn, 1) := by decide +kernel
theorem dL_law_432 : decode cL_law 432 = .ok (.aload_n 1, 1) := by decide +kernel
theorem dL_law_433 : decode cL_law 433 = .ok (.aload_n 0, 1) := by decide +kernel
theorem dL_law_434 : decode cL_law 434 = .ok (.iload_n 3, 1) := by decide +kernel
theorem dL_law_435 : decode cL_law 435 = .ok (.iconst 1, 1) := by decide +kernel
theorem dL_law_436 : decode cL_law 436 = .ok (.iadd, 1) := by decide +kernel
theorem dL_law_437 : decode cL_law 437 = .ok (.iaload, 1) := by decide +kernel
theorem dL_law_438 : decode cL_law 438 = .ok (.invokevirtual 66, 3) := by decide +kernel
theorem dL_law_441 : decode cL_law 441 = .ok (.aload_n 2, 1) := by decide +kernel
theorem dL_law_442 : decode cL_law 442 = .ok (.aload_n 0, 1) := by decide +kernel
theorem dL_law_443 : decode cL_law 443 = .ok (.iload_n 3, 1) := by decide +kernel
theorem dL_law_444 : decode cL_law 444 = .ok (.iconst 1, 1) := by decide +kernel
theorem dL_law_445 : decode cL_law 445 = .ok (.iadd, 1) := by decide +kernel
theorem dL_law_446 : decode cL_law 446 = .ok (.iaload, 1) := by decide +kernel
theorem dL_law_447 : decode cL_law 447 = .ok (.invokevirtual 69, 3) := by decide +kernel
theorem dL_law_450 : decode cL_law 450 = .ok (.if_icmp .eq 107, 3) := by decide +kernel
theorem dL_law_453 : decode cL_law 453 = .ok (.iconst 0, 1) := by decide +kernel
theorem dL_law_454 : decode cL_law 454 = .ok (.ireturn, 1) := by decide +kernel
theorem dL_law_455 : decode cL_law 455 = .ok (.aload_n 1, 1) := by decide +kernel
theorem dL_law_456 : decode cL_law 456 = .ok (.aload_n 0, 1) := by decide +kernel
theorem dL_law_457 : decode cL_law 457 = .ok (.iload_n 3, 1) := by decide +kernel
theorem dL_law_458 : decode cL_law 458 = .ok (.iconst 1, 1) := by decide +kernel
theorem dL_law_459 : decode cL_law 459 = .ok (.iadd, 1) := by decide +kernel
theorem dL_law_460 : decode cL_law 460 = .ok (.iaload, 1) := by decide +kernel
theorem dL_law_461 : decode cL_law 461 = .ok (.invokevirtual 70, 3) := by decide +kernel
theorem dL_law_464 : decode cL_law 464 = .ok (.aload_n 2, 1) := by decide +kernel
theorem dL_law_465 : decode cL_law 465 = .ok (.aload_n 0, 1) := by decide +kernel
theorem dL_law_466 : decode cL_law 466 = .ok (.iload_n 3, 1) := by decide +kernel
theorem dL_law_467 : decode cL_law 467 = .ok (.iconst 1, 1) := by decide +kernel
theorem dL_law_468 : decode cL_law 468 = .ok (.iadd, 1) := by decide +kernel
theorem dL_law_469 : decode cL_law 469 = .ok (.iaload, 1) := by decide +kernel
theorem dL_law_470 : decode cL_law 470 = .ok (.invokevirtual 73, 3) := by decide +kernel
theorem dL_law_473 : decode cL_law 473 = .ok (.if_icmp .eq 84, 3) := by decide +kernel
theorem dL_law_476 : decode cL_law 476 = .ok (.iconst 0, 1) := by decide +kernel
theorem dL_law_477 : decode cL_law 477 = .ok (.ireturn, 1) := by decide +kernel
theorem dL_law_478 : decode cL_law 478 = .ok (.aload_n 1, 1) := by decide +kernel
theorem dL_law_479 : decode cL_law 479 = .ok (.aload_n 0, 1) := by decide +kernel
theorem dL_law_480 : decode cL_law 480 = .ok (.iload_n 3, 1) := by decide +kernel
theorem dL_law_481 : decode cL_law 481 = .ok (.iconst 1, 1) := by decide +kernel
theorem dL_law_482 : decode cL_law 482 = .ok (.iadd, 1) := by decide +kernel
theorem dL_law_483 : decode cL_law 483 = .ok (.iaload, 1) := by decide +kernel
theorem dL_law_484 : decode cL_law 484 = .ok (.aload_n 0, 1) := by decide +kernel
theorem dL_law_485 : decode cL_law 485 = .ok (.iload_n 3, 1) := by decide +kernel
theorem dL_law_486 : decode cL_law 486 = .ok (.iconst 2, 1) := by decide +kernel
theorem dL_law_487 : decode cL_law 487 = .ok (.iadd, 1) := by decide +kernel
theorem dL_law_488 : decode cL_law 488 = .ok (.iaload, 1) := by decide +kernel
theorem dL_law_489 : decode cL_law 489 = .ok (.invokevirtual 74, 3) := by decide +kernel
theorem dL_law_492 : decode cL_law 492 = .ok (.aload_n 2, 1) := by decide +kernel
theorem dL_law_493 : decode cL_law 493 = .ok (.aload_n 0, 1) := by decide +kernel
theorem dL_law_494 : decode cL_law 494 = .ok (.iload_n 3, 1) := by decide +kernel
theorem dL_law_495 : decode cL_law 495 = .ok (.iconst 1, 1) := by decide +kernel
theorem dL_law_496 : decode cL_law 496 = .ok (.iadd, 1) := by decide +kernel
theorem dL_law_497 : decode cL_law 497 = .ok (.iaload, 1) := by decide +kernel
theorem dL_law_498 : decode cL_law 498 = .ok (.aload_n 0, 1) := by decide +kernel
theorem dL_law_499 : decode cL_law 499 = .ok (.iload_n 3, 1) := by decide +kernel
theorem dL_law_500 : decode cL_law 500 = .ok (.iconst 2, 1) := by decide +kernel
theorem dL_law_501 : decode cL_law 501 = .ok (.iadd, 1) := by decide +kernel
theorem dL_law_502 : decode cL_law 502 = .ok (.iaload, 1) := by decide +kernel
theorem dL_law_503 : decode cL_law 503 = .ok (.invokevirtual 77, 3) := by decide +kernel
theorem dL_law_506 : decode cL_law 506 = .ok (.if_icmp .eq 51, 3) := by decide +kernel
theorem dL_law_509 : decode cL_law 509 = .ok (.iconst 0, 1) := by decide +kernel
theorem dL_law_510 : decode cL_law 510 = .ok (.ireturn, 1) := by decide +kernel
theorem dL_law_511 : decode cL_law 511 = .ok (.aload_n 1, 1) := by decide +kernel
theorem dL_law_512 : decode cL_law 512 = .ok (.aload_n 0, 1) := by decide +kernel
theorem dL_law_513 : decode cL_law 513 = .ok (.iload_n 3, 1) := by decide +kernel
theorem dL_law_514 : decode cL_law 514 = .ok (.iconst 1, 1) := by decide +kernel
theorem dL_law_515 : decode cL_law 515 = .ok (.iadd, 1) := by decide +kernel
theorem dL_law_516 : decode cL_law 516 = .ok (.iaload, 1) := by decide +kernel
theorem dL_law_517 : decode cL_law 517 = .ok (.invokevirtual 78, 3) := by decide +kernel
theorem dL_law_520 : decode cL_law 520 = .ok (.aload_n 2, 1) := by decide +kernel
theorem dL_law_521 : decode cL_law 521 = .ok (.aload_n 0, 1) := by decide +kernel
theorem dL_law_522 : decode cL_law 522 = .ok (.iload_n 3, 1) := by decide +kernel
theorem dL_law_523 : decode cL_law 523 = .ok (.iconst 1, 1) := by decide +kernel
theorem dL_law_524 : decode cL_law 524 = .ok (.iadd, 1) := by decide +kernel
theorem dL_law_525 : decode cL_law 525 = .ok (.iaload, 1) := by decide +kernel
theorem dL_law_526 : decode cL_law 526 = .ok (.invokevirtual 81, 3) := by decide +kernel
theorem dL_law_529 : decode cL_law 529 = .ok (.if_icmp .eq 28, 3) := by decide +kernel
theorem dL_law_532 : decode cL_law 532 = .ok (.iconst 0, 1) := by decide +kernel
theorem dL_law_533 : decode cL_law 533 = .ok (.ireturn, 1) := by decide +kernel
theorem dL_law_534 : decode cL_law 534 = .ok (.aload_n 1, 1) := by decide +kernel
theorem dL_law_535 : decode cL_law 535 = .ok (.aload_n 0, 1) := by decide +kernel
theorem dL_law_536 : decode cL_law 536 = .ok (.iload_n 3, 1) := by decide +kernel
theorem dL_law_537 : decode cL_law 537 = .ok (.iconst 1, 1) := by decide +kernel
theorem dL_law_538 : decode cL_law 538 = .ok (.iadd, 1) := by decide +kernel
theorem dL_law_539 : decode cL_law 539 = .ok (.iaload, 1) := by decide +kernel
theorem dL_law_540 : decode cL_law 540 = .ok (.invokevirtual 82, 3) := by decide +kernel
theorem dL_law_543 : decode cL_law 543 = .ok (.aload_n 2, 1) := by decide +kernel
theorem dL_law_544 : decode cL_law 544 = .ok (.aload_n 0, 1) := by decide +kernel
theorem dL_law_545 : decode cL_law 545 = .ok (.iload_n 3, 1) := by decide +kernel
theorem dL_law_546 : decode cL_law 546 = .ok (.iconst 1, 1) := by decide +kernel
theorem dL_law_547 : decode cL_law 547 = .ok (.iadd, 1) := by decide +kernel
theorem dL_law_548 : decode cL_law 548 = .ok (.iaload, 1) := by decide +kernel
theorem dL_law_549 : decode cL_law 549 = .ok (.invokevirtual 85, 3) := by decide +kernel
theorem dL_law_552 : decode cL_law 552 = .ok (.if_icmp .eq 5, 3) := by decide +kernel
theorem dL_law_555 : decode cL_law 555 = .ok (.iconst 0, 1) := by decide +kernel
theorem dL_law_556 : decode cL_law 556 = .ok (.ireturn, 1) := by decide +kernel
theorem dL_law_557 : decode cL_law 557 = .ok (.iinc 3 4, 3) := by decide +kernel
theorem dL_law_560 : decode cL_law 560 = .ok (.goto (-542), 3) := by decide +kernel
theorem dL_law_563 : decode cL_law 563 = .ok (.iconst 1, 1) := by decide +kernel
theorem dL_law_564 : decode cL_law 564 = .ok (.ireturn, 1) := by decide +kernel
end
section
/-! words of this proof: the two worlds, booleans, loops -/
def isB (x : Int32) : Prop := x = 0 ∨ x = 1
theorem isB_0 : isB 0 := Or.inl rfl
theorem isB_1 : isB 1 := Or.inr rfl
theorem isB_nar {x : Int32} (h : isB x) : narrow .boolean (.int x) = .int x := by
  rcases h with rfl | rfl <;> decide +kernel
theorem isB_fit {x : Int32} (h : isB x) : fits .boolean (.int x) = true := by
  rcases h with rfl | rfl <;> decide +kernel
abbrev bw0 (h0 : Nat) (mo fl : Int32) : va_W := [(h0, .inr (0, [.int mo, .int fl]))]
abbrev aw0 (h0 : Nat) : Nat → Prop := fun q => q = h0
def w0 (D : va_G) (h0 : Nat) (mo fl : Int32) (U : State) : Prop := va_P D vwCl (bw0 h0 mo fl) U.heap ∧ va_K D vwCl [] U
theorem dw0 {h0 : Nat} {mo fl : Int32} : va_D (aw0 h0) (bw0 h0 mo fl) := by
  refine ⟨fun i j p q hi hj _ => ?_, fun k q hk => ?_⟩
  · match i, j, hi, hj with
    | 0, 0, _, _ => rfl
    | 0, j + 1, _, hj => simp at hj
    | i + 1, _, hi, _ => simp at hi
  · match k, hk with
    | 0, hk => cases hk; rfl
    | k + 1, hk => simp at hk
abbrev bw1 (cJ : ClassId) (h0 h1 : Nat) (mo fl : Int32) (row : Nat → Int64) (ba mr ex : Int32) : va_W := [(h0, .inr (1, [.int mo, .int fl, .ref h1, .int ba, .int mr, .int ex])), (h1, .inl (cJ, 25, .inr (.inl row)))]
abbrev aw1 (h0 h1 : Nat) : Nat → Prop := fun q => q = h0 ∨ q = h1
def w1 (D : va_G) (cJ : ClassId) (h0 h1 : Nat) (mo fl : Int32) (row : Nat → Int64) (ba mr ex : Int32) (U : State) : Prop := va_P D vwCl (bw1 cJ h0 h1 mo fl row ba mr ex) U.heap ∧ va_K D vwCl [(cJ, .long)] U ∧ isB mr
theorem dw1 {cJ : ClassId} {h0 h1 : Nat} (hne : h0 ≠ h1) {mo fl : Int32} {row : Nat → Int64} {ba mr ex : Int32} : va_D (aw1 h0 h1) (bw1 cJ h0 h1 mo fl row ba mr ex) := by
  refine ⟨fun i j p q hi hj he => ?_, fun k q hk => ?_⟩
  · match i, j, hi, hj with
    | 0, 0, _, _ => rfl
    | 1, 1, _, _ => rfl
    | 0, 1, hi, hj => cases hi; cases hj; exact absurd he hne
    | 1, 0, hi, hj => cases hi; cases hj; exact absurd he.symm hne
    | i + 2, _, hi, _ => simp at hi
    | 0, j + 2, _, hj => simp at hj
    | 1, j + 2, _, hj => simp at hj
  · match k, hk with
    | 0, hk => cases hk; exact Or.inl rfl
    | 1, hk => cases hk; exact Or.inr rfl
    | k + 2, hk => simp at hk
theorem st_pre {s : State} {H : Heap} {As : List Value} : PreS s H (va_Pc As (fun _ => True)) As := ⟨fun _ _ _ _ q => q, fun _ _ _ => ⟨rfl, trivial⟩⟩
theorem w0_pre {s : State} {H : Heap} {D : va_G} {h0 : Nat} {mo fl : Int32} {As : List Value} (hK : va_K D vwCl [] s) (hP : va_P D vwCl (bw0 h0 mo fl) H) : PreV s H RX0 h0 (va_Pc (.ref h0 :: As) (w0 D h0 mo fl)) As :=
  ⟨fun a U g mk q => ⟨q.1, q.2.1, va_K.moved (u := U) (U := U.calling g mk a) (Vm.Alike.refl U.vm) q.2.2⟩, va_recv hK hP (ci := 0) (q0 := 0) rfl rfl, fun U hU hW => ⟨rfl, by rw [hU]; exact hP, va_K.moved hW.alike hK⟩⟩
theorem w1_pre {s : State} {H : Heap} {D : va_G} {cJ : ClassId} {h0 h1 : Nat} {mo fl : Int32} {row : Nat → Int64} {ba mr ex : Int32} {As : List Value} (hK : va_K D vwCl [(cJ, .long)] s) (hP : va_P D vwCl (bw1 cJ h0 h1 mo fl row ba mr ex) H) (hmr : isB mr) : PreV s H RX1 h0 (va_Pc (.ref h0 :: As) (w1 D cJ h0 h1 mo fl row ba mr ex)) As :=
  ⟨fun a U g mk q => ⟨q.1, q.2.1, va_K.moved (u := U) (U := U.calling g mk a) (Vm.Alike.refl U.vm) q.2.2.1, q.2.2.2⟩, va_recv hK hP (ci := 1) (q0 := 0) rfl rfl, fun U hU hW => ⟨rfl, by rw [hU]; exact hP, va_K.moved hW.alike hK, hmr⟩⟩
section KC
variable {p : Program} {l : Launch} {e : Env} {R : Room} {s : State} {m : MethodId} {args : Array Value} {below : List Frame} {meth : Method} {c : Code} {H : Heap} {locs : List Loc} {cells slots : Nat} {Q : State → Prop}
variable {pc : Nat} {ls : Array Slot} {rest st0 : List Value} {a : Array Value} {H0 : Heap} {D : va_G} {cJ : ClassId} {h0 h1 : Nat}
theorem k0_calli {S : Type} {post : Int32 → S → Prop} {mo fl : S → Int32} (hr : va_Run p l e R s m args below meth c H locs cells slots 0 0 (F0 m pc ls st0) rest (va_Qi post (fun u t => w0 D h0 (mo u) (fl u) t) (aw0 h0) a) (aw0 h0)) (hS : va_S (aw0 h0) H0 H locs)
    (kk : ∀ (r : Int32) (u : S) (H1 : Heap) (locs1 : List Loc), post r u → va_P D vwCl (bw0 h0 (mo u) (fl u)) H1 → va_S (aw0 h0) H0 H1 locs1 → W p l e R s m args below meth c H1 locs1 cells slots Q (F0 m (pc + 3) ls (.int r :: rest))) : W p l e R s m args below meth c H locs cells slots Q (F0 m pc ls st0) :=
  va_calli hr hS (fun _ _ h => h) (fun _ h => h) (fun r u t H1 locs1 ht _ hp hB _ _ hS1 => kk r u H1 locs1 hp (by rw [← ht]; exact hB.1) hS1)
theorem k0_callv {S : Type} {post : S → Prop} {mo fl : S → Int32} (hr : va_Run p l e R s m args below meth c H locs cells slots 0 0 (F0 m pc ls st0) rest (va_Qv post (fun u t => w0 D h0 (mo u) (fl u) t) (aw0 h0) a) (aw0 h0)) (hS : va_S (aw0 h0) H0 H locs)
    (kk : ∀ (u : S) (H1 : Heap) (locs1 : List Loc), post u → va_P D vwCl (bw0 h0 (mo u) (fl u)) H1 → va_S (aw0 h0) H0 H1 locs1 → W p l e R s m args below meth c H1 locs1 cells slots Q (F0 m (pc + 3) ls rest)) : W p l e R s m args below meth c H locs cells slots Q (F0 m pc ls st0) :=
  va_callv hr hS (fun _ _ h => h) (fun _ h => h) (fun u t H1 locs1 ht _ hp hB _ _ hS1 => kk u H1 locs1 hp (by rw [← ht]; exact hB.1) hS1)
theorem k1_calli {S : Type} {post : Int32 → S → Prop} {mo fl ba mr ex : S → Int32} {row : S → Nat → Int64} (hr : va_Run p l e R s m args below meth c H locs cells slots 0 0 (F0 m pc ls st0) rest (va_Qi post (fun u t => w1 D cJ h0 h1 (mo u) (fl u) (row u) (ba u) (mr u) (ex u) t) (aw1 h0 h1) a) (aw1 h0 h1)) (hS : va_S (aw1 h0 h1) H0 H locs)
    (kk : ∀ (r : Int32) (u : S) (H1 : Heap) (locs1 : List Loc), post r u → va_P D vwCl (bw1 cJ h0 h1 (mo u) (fl u) (row u) (ba u) (mr u) (ex u)) H1 → isB (mr u) → va_S (aw1 h0 h1) H0 H1 locs1 → W p l e R s m args below meth c H1 locs1 cells slots Q (F0 m (pc + 3) ls (.int r :: rest))) : W p l e R s m args below meth c H locs cells slots Q (F0 m pc ls st0) :=
  va_calli hr hS (fun _ _ h => h) (fun _ h => h) (fun r u t H1 locs1 ht _ hp hB _ _ hS1 => kk r u H1 locs1 hp (by rw [← ht]; exact hB.1) hB.2.2 hS1)
theorem k1_calll {S : Type} {post : Int64 → S → Prop} {mo fl ba mr ex : S → Int32} {row : S → Nat → Int64} (hr : va_Run p l e R s m args below meth c H locs cells slots 0 0 (F0 m pc ls st0) rest (va_Ql post (fun u t => w1 D cJ h0 h1 (mo u) (fl u) (row u) (ba u) (mr u) (ex u) t) (aw1 h0 h1) a) (aw1 h0 h1)) (hS : va_S (aw1 h0 h1) H0 H locs)
    (kk : ∀ (r : Int64) (u : S) (H1 : Heap) (locs1 : List Loc), post r u → va_P D vwCl (bw1 cJ h0 h1 (mo u) (fl u) (row u) (ba u) (mr u) (ex u)) H1 → isB (mr u) → va_S (aw1 h0 h1) H0 H1 locs1 → W p l e R s m args below meth c H1 locs1 cells slots Q (F0 m (pc + 3) ls (.long r :: rest))) : W p l e R s m args below meth c H locs cells slots Q (F0 m pc ls st0) :=
  va_calll hr hS (fun _ _ h => h) (fun _ h => h) (fun r u t H1 locs1 ht _ hp hB _ _ hS1 => kk r u H1 locs1 hp (by rw [← ht]; exact hB.1) hB.2.2 hS1)
theorem k1_callv {S : Type} {post : S → Prop} {mo fl ba mr ex : S → Int32} {row : S → Nat → Int64} (hr : va_Run p l e R s m args below meth c H locs cells slots 0 0 (F0 m pc ls st0) rest (va_Qv post (fun u t => w1 D cJ h0 h1 (mo u) (fl u) (row u) (ba u) (mr u) (ex u) t) (aw1 h0 h1) a) (aw1 h0 h1)) (hS : va_S (aw1 h0 h1) H0 H locs)
    (kk : ∀ (u : S) (H1 : Heap) (locs1 : List Loc), post u → va_P D vwCl (bw1 cJ h0 h1 (mo u) (fl u) (row u) (ba u) (mr u) (ex u)) H1 → isB (mr u) → va_S (aw1 h0 h1) H0 H1 locs1 → W p l e R s m args below meth c H1 locs1 cells slots Q (F0 m (pc + 3) ls rest)) : W p l e R s m args below meth c H locs cells slots Q (F0 m pc ls st0) :=
  va_callv hr hS (fun _ _ h => h) (fun _ h => h) (fun u t H1 locs1 ht _ hp hB _ _ hS1 => kk u H1 locs1 hp (by rw [← ht]; exact hB.1) hB.2.2 hS1)
end KC
/-- a counter that goes up to N: n turns are enough -/
def asc (N : Nat) (x : Int32) (n : Nat) : Prop := 0 ≤ x.toInt ∧ x.toInt ≤ N ∧ (N : Int) < x.toInt + n
theorem asc_0 {N : Nat} {x : Int32} : ¬ asc N x 0 := fun h => by
  obtain ⟨h1, h2, h3⟩ := h
  simp at h3
  omega
theorem i32_add1 {x : Int32} (h : x.toInt < 2 ^ 31 - 1) : (x + 1).toInt = x.toInt + 1 := by
  have h2 := Int32.le_toInt x
  rw [Int32.toInt_add, show Int32.toInt 1 = 1 from rfl]
  exact Int.bmod_eq_of_le (by omega) (by omega)
theorem i32_sub1 {x : Int32} (h : -2 ^ 31 < x.toInt) : (x + (-1)).toInt = x.toInt - 1 := by
  have h2 := Int32.toInt_lt x
  rw [Int32.toInt_add, show Int32.toInt (-1) = -1 from rfl]
  exact Int.bmod_eq_of_le (by omega) (by omega)
theorem asc_step {N : Nat} {x M : Int32} {n : Nat} (h : asc N x (n + 1)) (hM : M.toInt = N) (hN : N < 2 ^ 31 - 1) (hc : ¬ M ≤ x) : asc N (x + 1) n := by
  obtain ⟨h1, h2, h3⟩ := h
  rw [Int32.le_iff_toInt_le, hM] at hc
  have h4 : (x + 1).toInt = x.toInt + 1 := i32_add1 (by omega)
  refine ⟨?_, ?_, ?_⟩ <;> rw [h4] <;> omega
theorem asc_lt {N : Nat} {x M : Int32} {n : Nat} (h : asc N x n) (hM : M.toInt = N) (hc : ¬ M ≤ x) : 0 ≤ x.toInt ∧ x.toInt < N := by
  rw [Int32.le_iff_toInt_le, hM] at hc
  exact ⟨h.1, by omega⟩
theorem asc_in {N : Nat} {x M : Int32} {n : Nat} (h : asc N x n) (hM : M.toInt = N) (hc : ¬ M ≤ x) : vp_in x N := vp_in_iff.mpr (asc_lt h hM hc)
theorem asc_init (N : Nat) : asc N 0 (N + 1) := ⟨by decide, by show (0 : Int) ≤ _; omega, by show (N : Int) < (0 : Int) + _; omega⟩
/-- a counter that goes down from N - 1 to 0 -/
def dsc (N : Nat) (x : Int32) (n : Nat) : Prop := -1 ≤ x.toInt ∧ x.toInt < N ∧ x.toInt + 1 < n
theorem dsc_0 {N : Nat} {x : Int32} : ¬ dsc N x 0 := fun h => by
  obtain ⟨h1, h2, h3⟩ := h
  simp at h3
  omega
theorem dsc_step {N : Nat} {x : Int32} {n : Nat} (h : dsc N x (n + 1)) (hc : 0 ≤ x.toInt) : dsc N (x + (-1)) n := by
  obtain ⟨h1, h2, h3⟩ := h
  have h4 : (x + (-1)).toInt = x.toInt - 1 := i32_sub1 (by omega)
  refine ⟨?_, ?_, ?_⟩ <;> rw [h4] <;> omega
theorem i32_nlt0 {x : Int32} (h : ¬ x < 0) : 0 ≤ x.toInt := by
  rw [Int32.lt_iff_toInt_lt] at h
  simpa using h
/-- a place in the row of 25 -/
theorem in24 {x : Int32} (h : ¬ x < 0) (h2 : x < 600) : vp_in (x / 24) 25 := by
  have h0 := i32_nlt0 h
  rw [Int32.lt_iff_toInt_lt] at h2
  obtain ⟨j, hj, rfl⟩ := nI_of h
  have hj2 : j < 600 := by
    rw [nI_toInt hj] at h2
    have : Int32.toInt 600 = 600 := by decide
    omega
  have : nI j / 24 = nI (j / 24) := pk_div hj (by decide) (by decide)
  rw [this]
  exact vp_in_nI (by omega) (by decide)
/-- what put needs: each bit of v that is set has its place in the row -/
def putOk (v : Int64) (f : Int32) : Prop := ∀ k : Int32, 0 ≤ k.toInt → k.toInt < 63 → (v >>> (k.toInt64 &&& 63)) &&& 1 = 1 → vp_in ((f + k) / 24) 25
theorem carry_in0 {x : Int32} (h : 0 ≤ x.toInt ∧ x.toInt < (24 : Nat)) : vp_in x 25 := vp_in_iff.mpr ⟨h.1, by have := h.2; omega⟩
theorem carry_in1 {x : Int32} (h : 0 ≤ x.toInt ∧ x.toInt < (24 : Nat)) : vp_in (x + 1) 25 := by
  refine vp_in_iff.mpr ?_
  rw [i32_add1 (by omega)]
  omega
theorem in_24 : vp_in 24 25 := vp_in_nI (n := 24) (by decide) (by decide)
end
section
/-! X0_isNegative -/
def fX0_isNegative (x0 : Int32) : Int32 := (if 0 ≤ x0 then (0 : Int32) else (1 : Int32))
set_option maxHeartbeats 4000000 in
set_option maxRecDepth 100000 in
theorem ccX0_isNegative (l : Launch) (x0 : Int32)  : Met l yX0_isNegative wsX0_isNegative { frames := 0, cells := 0, slots := 0, locals := 0 } (va_Pc [.int x0] (fun _ => True)) (vp_Si (fun r => r = fX0_isNegative x0)) 0 0 (fun _ => False) := by
  refine Met.ofW (cc := cX0_isNegative) (maxL := 1) (ret := (some .boolean)) (by decide) rfl ?_
  intro p e s m args below meth c s₁ B hml hv
  obtain ⟨rfl, -⟩ := hv
  have hx := B.exec
  have hb := B.bytes
  have hr := B.returns
  have hts := atoms_spec (ws := wsX0_isNegative) B.pre
  have hown : s.vm.findClass RX0 = some m.cls := findClass_of_methodNamed B.named
  have hlocks := B.notSynchronized
  have hl := lv_entry ([.int x0]) (n := 1) (Nat.le_of_ble_eq_true rfl)
  rw [lg_entry_eq]
  generalize (lg_sl ([.int x0]) ++ List.replicate (1 - (lg_sl ([.int x0])).length) Slot.unset).toArray = ls at hl ⊢
  have hl : lv_has ls 1 [(0, .int x0)] := hl
  have hE : fX0_isNegative x0 = fX0_isNegative x0 := rfl
  refine lv_iload_n hx hb dX0_isNegative_0 rfl (lv_at hl 0 rfl) ?_
  refine lv_if_ge (tgt := 8) hx hb dX0_isNegative_1 (by decide) (fun c_1 => ?_) (fun c_1 => ?_)
  · replace hE := hE.trans (if_pos c_1)
    refine lv_iconst (v := 0) hx hb dX0_isNegative_8 (by decide) ?_
    exact W.zret hx hb hr (isB_nar isB_0) (fun t ht hW => ⟨_, rfl, hE.symm, ht⟩) (fun _ h => by cases h) dX0_isNegative_9
  · replace hE := hE.trans (if_neg c_1)
    refine lv_iconst (v := 1) hx hb dX0_isNegative_4 (by decide) ?_
    refine lv_goto (tgt := 9) hx hb dX0_isNegative_5 (by decide) ?_
    exact W.zret hx hb hr (isB_nar isB_1) (fun t ht hW => ⟨_, rfl, hE.symm, ht⟩) (fun _ h => by cases h) dX0_isNegative_9
/-! X0_signOf -/
def fX0_signOf (x0 : Int32) : Int32 := (x0 &&& (-2147483648 : Int32))
set_option maxHeartbeats 4000000 in
set_option maxRecDepth 100000 in
theorem ccX0_signOf (l : Launch) (x0 : Int32)  : Met l yX0_signOf wsX0_signOf { frames := 0, cells := 0, slots := 0, locals := 0 } (va_Pc [.int x0] (fun _ => True)) (vp_Si (fun r => r = fX0_signOf x0)) 0 0 (fun _ => False) := by
  refine Met.ofW (cc := cX0_signOf) (maxL := 1) (ret := (some .int)) (by decide) rfl ?_
  intro p e s m args below meth c s₁ B hml hv
  obtain ⟨rfl, -⟩ := hv
  have hx := B.exec
  have hb := B.bytes
  have hr := B.returns
  have hts := atoms_spec (ws := wsX0_signOf) B.pre
  have hown : s.vm.findClass RX0 = some m.cls := findClass_of_methodNamed B.named
  have hlocks := B.notSynchronized
  have hl := lv_entry ([.int x0]) (n := 1) (Nat.le_of_ble_eq_true rfl)
  rw [lg_entry_eq]
  generalize (lg_sl ([.int x0]) ++ List.replicate (1 - (lg_sl ([.int x0])).length) Slot.unset).toArray = ls at hl ⊢
  have hl : lv_has ls 1 [(0, .int x0)] := hl
  have hE : fX0_signOf x0 = fX0_signOf x0 := rfl
  refine lv_iload_n hx hb dX0_signOf_0 rfl (lv_at hl 0 rfl) ?_
  refine lv_ldc hx hb hown (hts (.constant RX0 21 (-2147483648)) (by decide +kernel)) dX0_signOf_1 ?_
  refine lv_iand hx hb dX0_signOf_3 ?_
  exact W.iret hx hb hr (fun t ht hW => ⟨_, rfl, hE.symm, ht⟩) (fun _ h => by cases h) dX0_signOf_4
/-! X0_exponentOf -/
def fX0_exponentOf (x0 : Int32) : Int32 := (((x0 &&& (2147483647 : Int32))) >>> ((23 : Int32) &&& 31))
set_option maxHeartbeats 4000000 in
set_option maxRecDepth 100000 in
theorem ccX0_exponentOf (l : Launch) (x0 : Int32)  : Met l yX0_exponentOf wsX0_exponentOf { frames := 0, cells := 0, slots := 0, locals := 0 } (va_Pc [.int x0] (fun _ => True)) (vp_Si (fun r => r = fX0_exponentOf x0)) 0 0 (fun _ => False) := by
  refine Met.ofW (cc := cX0_exponentOf) (maxL := 1) (ret := (some .int)) (by decide) rfl ?_
  intro p e s m args below meth c s₁ B hml hv
  obtain ⟨rfl, -⟩ := hv
  have hx := B.exec
  have hb := B.bytes
  have hr := B.returns
  have hts := atoms_spec (ws := wsX0_exponentOf) B.pre
  have hown : s.vm.findClass RX0 = some m.cls := findClass_of_methodNamed B.named
  have hlocks := B.notSynchronized
  have hl := lv_entry ([.int x0]) (n := 1) (Nat.le_of_ble_eq_true rfl)
  rw [lg_entry_eq]
  generalize (lg_sl ([.int x0]) ++ List.replicate (1 - (lg_sl ([.int x0])).length) Slot.unset).toArray = ls at hl ⊢
  have hl : lv_has ls 1 [(0, .int x0)] := hl
  have hE : fX0_exponentOf x0 = fX0_exponentOf x0 := rfl
  refine lv_iload_n hx hb dX0_exponentOf_0 rfl (lv_at hl 0 rfl) ?_
  refine lv_ldc hx hb hown (hts (.constant RX0 121 (2147483647)) (by decide +kernel)) dX0_exponentOf_1 ?_
  refine lv_iand hx hb dX0_exponentOf_3 ?_
  refine lv_bipush (v := 23) hx hb dX0_exponentOf_4 (by decide) ?_
  refine lv_ishr hx hb dX0_exponentOf_6 ?_
  exact W.iret hx hb hr (fun t ht hW => ⟨_, rfl, hE.symm, ht⟩) (fun _ h => by cases h) dX0_exponentOf_7
/-! X0_isNoNumber -/
def fX0_isNoNumber (x0 : Int32) : Int32 := (if ((x0 &&& (2147483647 : Int32))) ≤ (2139095040 : Int32) then (0 : Int32) else (1 : Int32))
set_option maxHeartbeats 4000000 in
set_option maxRecDepth 100000 in
theorem ccX0_isNoNumber (l : Launch) (x0 : Int32)  : Met l yX0_isNoNumber wsX0_isNoNumber { frames := 0, cells := 0, slots := 0, locals := 0 } (va_Pc [.int x0] (fun _ => True)) (vp_Si (fun r => r = fX0_isNoNumber x0)) 0 0 (fun _ => False) := by
  refine Met.ofW (cc := cX0_isNoNumber) (maxL := 1) (ret := (some .boolean)) (by decide) rfl ?_
  intro p e s m args below meth c s₁ B hml hv
  obtain ⟨rfl, -⟩ := hv
  have hx := B.exec
  have hb := B.bytes
  have hr := B.returns
  have hts := atoms_spec (ws := wsX0_isNoNumber) B.pre
  have hown : s.vm.findClass RX0 = some m.cls := findClass_of_methodNamed B.named
  have hlocks := B.notSynchronized
  have hl := lv_entry ([.int x0]) (n := 1) (Nat.le_of_ble_eq_true rfl)
  rw [lg_entry_eq]
  generalize (lg_sl ([.int x0]) ++ List.replicate (1 - (lg_sl ([.int x0])).length) Slot.unset).toArray = ls at hl ⊢
  have hl : lv_has ls 1 [(0, .int x0)] := hl
  have hE : fX0_isNoNumber x0 = fX0_isNoNumber x0 := rfl
  refine lv_iload_n hx hb dX0_isNoNumber_0 rfl (lv_at hl 0 rfl) ?_
  refine lv_ldc hx hb hown (hts (.constant RX0 121 (2147483647)) (by decide +kernel)) dX0_isNoNumber_1 ?_
  refine lv_iand hx hb dX0_isNoNumber_3 ?_
  refine lv_ldc hx hb hown (hts (.constant RX0 48 (2139095040)) (by decide +kernel)) dX0_isNoNumber_4 ?_
  refine lv_icmp_le (tgt := 13) hx hb dX0_isNoNumber_6 (by decide) (fun c_6 => ?_) (fun c_6 => ?_)
  · replace hE := hE.trans (if_pos c_6)
    refine lv_iconst (v := 0) hx hb dX0_isNoNumber_13 (by decide) ?_
    exact W.zret hx hb hr (isB_nar isB_0) (fun t ht hW => ⟨_, rfl, hE.symm, ht⟩) (fun _ h => by cases h) dX0_isNoNumber_14
  · replace hE := hE.trans (if_neg c_6)
    refine lv_iconst (v := 1) hx hb dX0_isNoNumber_9 (by decide) ?_
    refine lv_goto (tgt := 14) hx hb dX0_isNoNumber_10 (by decide) ?_
    exact W.zret hx hb hr (isB_nar isB_1) (fun t ht hW => ⟨_, rfl, hE.symm, ht⟩) (fun _ h => by cases h) dX0_isNoNumber_14
/-! X0_isLoud -/
def fX0_isLoud (x0 : Int32) : Int32 := (if ((fX0_isNoNumber x0)) = 0 then (0 : Int32) else (if (4194304 : Int32) ≤ ((x0 &&& (8388607 : Int32))) then (0 : Int32) else (1 : Int32)))
set_option maxHeartbeats 4000000 in
set_option maxRecDepth 100000 in
theorem ccX0_isLoud (l : Launch) (x0 : Int32)  : Met l yX0_isLoud wsX0_isLoud { frames := 1, cells := 0, slots := 0, locals := 20 } (va_Pc [.int x0] (fun _ => True)) (vp_Si (fun r => r = fX0_isLoud x0)) 0 0 (fun _ => False) := by
  refine Met.ofW (cc := cX0_isLoud) (maxL := 1) (ret := (some .boolean)) (by decide) rfl ?_
  intro p e s m args below meth c s₁ B hml hv
  obtain ⟨rfl, -⟩ := hv
  have hx := B.exec
  have hb := B.bytes
  have hr := B.returns
  have hts := atoms_spec (ws := wsX0_isLoud) B.pre
  have hown : s.vm.findClass RX0 = some m.cls := findClass_of_methodNamed B.named
  have hlocks := B.notSynchronized
  have hl := lv_entry ([.int x0]) (n := 1) (Nat.le_of_ble_eq_true rfl)
  rw [lg_entry_eq]
  generalize (lg_sl ([.int x0]) ++ List.replicate (1 - (lg_sl ([.int x0])).length) Slot.unset).toArray = ls at hl ⊢
  have hl : lv_has ls 1 [(0, .int x0)] := hl
  have hE : fX0_isLoud x0 = fX0_isLoud x0 := rfl
  refine lv_iload_n hx hb dX0_isLoud_0 rfl (lv_at hl 0 rfl) ?_
  refine vp_callSi (W.runS (As := [.int x0]) (rest := []) ⟨hx, hb, hml, hown, hts⟩ (ccX0_isNoNumber l x0 ) (va_cwS 1 hts gX0_isLoud_X0_isNoNumber rfl rfl rfl (by decide +kernel) ⟨Nat.le_of_ble_eq_true rfl, Nat.le_of_ble_eq_true rfl⟩) st_pre rfl rfl hl.1 rfl (lv_room (Nat.le_of_ble_eq_true rfl)) dX0_isLoud_1 ⟨Nat.zero_le _, Nat.zero_le _⟩) (fun r hw => ?_)
  subst hw
  refine lv_if_eq (tgt := 20) hx hb dX0_isLoud_4 (by decide) (fun c_4 => ?_) (fun c_4 => ?_)
  · replace hE := hE.trans (if_pos c_4)
    refine lv_iconst (v := 0) hx hb dX0_isLoud_20 (by decide) ?_
    exact W.zret hx hb hr (isB_nar isB_0) (fun t ht hW => ⟨_, rfl, hE.symm, ht⟩) (fun _ h => by cases h) dX0_isLoud_21
  · replace hE := hE.trans (if_neg c_4)
    refine lv_iload_n hx hb dX0_isLoud_7 rfl (lv_at hl 0 rfl) ?_
    refine lv_ldc hx hb hown (hts (.constant RX0 122 (8388607)) (by decide +kernel)) dX0_isLoud_8 ?_
    refine lv_iand hx hb dX0_isLoud_10 ?_
    refine lv_ldc hx hb hown (hts (.constant RX0 123 (4194304)) (by decide +kernel)) dX0_isLoud_11 ?_
    refine lv_icmp_ge (tgt := 20) hx hb dX0_isLoud_13 (by decide) (fun c_13 => ?_) (fun c_13 => ?_)
    · replace hE := hE.trans (if_pos c_13)
      refine lv_iconst (v := 0) hx hb dX0_isLoud_20 (by decide) ?_
      exact W.zret hx hb hr (isB_nar isB_0) (fun t ht hW => ⟨_, rfl, hE.symm, ht⟩) (fun _ h => by cases h) dX0_isLoud_21
    · replace hE := hE.trans (if_neg c_13)
      refine lv_iconst (v := 1) hx hb dX0_isLoud_16 (by decide) ?_
      refine lv_goto (tgt := 21) hx hb dX0_isLoud_17 (by decide) ?_
      exact W.zret hx hb hr (isB_nar isB_1) (fun t ht hW => ⟨_, rfl, hE.symm, ht⟩) (fun _ h => by cases h) dX0_isLoud_21
/-! X0_isInfinite -/
def fX0_isInfinite (x0 : Int32) : Int32 := (if ((x0 &&& (2147483647 : Int32))) = (2139095040 : Int32) then (1 : Int32) else (0 : Int32))
set_option maxHeartbeats 4000000 in
set_option maxRecDepth 100000 in
theorem ccX0_isInfinite (l : Launch) (x0 : Int32)  : Met l yX0_isInfinite wsX0_isInfinite { frames := 0, cells := 0, slots := 0, locals := 0 } (va_Pc [.int x0] (fun _ => True)) (vp_Si (fun r => r = fX0_isInfinite x0)) 0 0 (fun _ => False) := by
  refine Met.ofW (cc := cX0_isInfinite) (maxL := 1) (ret := (some .boolean)) (by decide) rfl ?_
  intro p e s m args below meth c s₁ B hml hv
  obtain ⟨rfl, -⟩ := hv
  have hx := B.exec
  have hb := B.bytes
  have hr := B.returns
  have hts := atoms_spec (ws := wsX0_isInfinite) B.pre
  have hown : s.vm.findClass RX0 = some m.cls := findClass_of_methodNamed B.named
  have hlocks := B.notSynchronized
  have hl := lv_entry ([.int x0]) (n := 1) (Nat.le_of_ble_eq_true rfl)
  rw [lg_entry_eq]
  generalize (lg_sl ([.int x0]) ++ List.replicate (1 - (lg_sl ([.int x0])).length) Slot.unset).toArray = ls at hl ⊢
  have hl : lv_has ls 1 [(0, .int x0)] := hl
  have hE : fX0_isInfinite x0 = fX0_isInfinite x0 := rfl
  refine lv_iload_n hx hb dX0_isInfinite_0 rfl (lv_at hl 0 rfl) ?_
  refine lv_ldc hx hb hown (hts (.constant RX0 121 (2147483647)) (by decide +kernel)) dX0_isInfinite_1 ?_
  refine lv_iand hx hb dX0_isInfinite_3 ?_
  refine lv_ldc hx hb hown (hts (.constant RX0 48 (2139095040)) (by decide +kernel)) dX0_isInfinite_4 ?_
  refine lv_icmp_ne (tgt := 13) hx hb dX0_isInfinite_6 (by decide) (fun c_6 => ?_) (fun c_6 => ?_)
  · replace hE := hE.trans (if_neg c_6)
    refine lv_iconst (v := 0) hx hb dX0_isInfinite_13 (by decide) ?_
    exact W.zret hx hb hr (isB_nar isB_0) (fun t ht hW => ⟨_, rfl, hE.symm, ht⟩) (fun _ h => by cases h) dX0_isInfinite_14
  · replace hE := hE.trans (if_pos c_6)
    refine lv_iconst (v := 1) hx hb dX0_isInfinite_9 (by decide) ?_
    refine lv_goto (tgt := 14) hx hb dX0_isInfinite_10 (by decide) ?_
    exact W.zret hx hb hr (isB_nar isB_1) (fun t ht hW => ⟨_, rfl, hE.symm, ht⟩) (fun _ h => by cases h) dX0_isInfinite_14
/-! X0_isFinite -/
def fX0_isFinite (x0 : Int32) : Int32 := (if (2139095040 : Int32) ≤ ((x0 &&& (2147483647 : Int32))) then (0 : Int32) else (1 : Int32))
set_option maxHeartbeats 4000000 in
set_option maxRecDepth 100000 in
theorem ccX0_isFinite (l : Launch) (x0 : Int32)  : Met l yX0_isFinite wsX0_isFinite { frames := 0, cells := 0, slots := 0, locals := 0 } (va_Pc [.int x0] (fun _ => True)) (vp_Si (fun r => r = fX0_isFinite x0)) 0 0 (fun _ => False) := by
  refine Met.ofW (cc := cX0_isFinite) (maxL := 1) (ret := (some .boolean)) (by decide) rfl ?_
  intro p e s m args below meth c s₁ B hml hv
  obtain ⟨rfl, -⟩ := hv
  have hx := B.exec
  have hb := B.bytes
  have hr := B.returns
  have hts := atoms_spec (ws := wsX0_isFinite) B.pre
  have hown : s.vm.findClass RX0 = some m.cls := findClass_of_methodNamed B.named
  have hlocks := B.notSynchronized
  have hl := lv_entry ([.int x0]) (n := 1) (Nat.le_of_ble_eq_true rfl)
  rw [lg_entry_eq]
  generalize (lg_sl ([.int x0]) ++ List.replicate (1 - (lg_sl ([.int x0])).length) Slot.unset).toArray = ls at hl ⊢
  have hl : lv_has ls 1 [(0, .int x0)] := hl
  have hE : fX0_isFinite x0 = fX0_isFinite x0 := rfl
  refine lv_iload_n hx hb dX0_isFinite_0 rfl (lv_at hl 0 rfl) ?_
  refine lv_ldc hx hb hown (hts (.constant RX0 121 (2147483647)) (by decide +kernel)) dX0_isFinite_1 ?_
  refine lv_iand hx hb dX0_isFinite_3 ?_
  refine lv_ldc hx hb hown (hts (.constant RX0 48 (2139095040)) (by decide +kernel)) dX0_isFinite_4 ?_
  refine lv_icmp_ge (tgt := 13) hx hb dX0_isFinite_6 (by decide) (fun c_6 => ?_) (fun c_6 => ?_)
  · replace hE := hE.trans (if_pos c_6)
    refine lv_iconst (v := 0) hx hb dX0_isFinite_13 (by decide) ?_
    exact W.zret hx hb hr (isB_nar isB_0) (fun t ht hW => ⟨_, rfl, hE.symm, ht⟩) (fun _ h => by cases h) dX0_isFinite_14
  · replace hE := hE.trans (if_neg c_6)
    refine lv_iconst (v := 1) hx hb dX0_isFinite_9 (by decide) ?_
    refine lv_goto (tgt := 14) hx hb dX0_isFinite_10 (by decide) ?_
    exact W.zret hx hb hr (isB_nar isB_1) (fun t ht hW => ⟨_, rfl, hE.symm, ht⟩) (fun _ h => by cases h) dX0_isFinite_14
/-! X0_isZero -/
def fX0_isZero (x0 : Int32) : Int32 := (if ((x0 &&& (2147483647 : Int32))) = 0 then (1 : Int32) else (0 : Int32))
set_option maxHeartbeats 4000000 in
set_option maxRecDepth 100000 in
theorem ccX0_isZero (l : Launch) (x0 : Int32)  : Met l yX0_isZero wsX0_isZero { frames := 0, cells := 0, slots := 0, locals := 0 } (va_Pc [.int x0] (fun _ => True)) (vp_Si (fun r => r = fX0_isZero x0)) 0 0 (fun _ => False) := by
  refine Met.ofW (cc := cX0_isZero) (maxL := 1) (ret := (some .boolean)) (by decide) rfl ?_
  intro p e s m args below meth c s₁ B hml hv
  obtain ⟨rfl, -⟩ := hv
  have hx := B.exec
  have hb := B.bytes
  have hr := B.returns
  have hts := atoms_spec (ws := wsX0_isZero) B.pre
  have hown : s.vm.findClass RX0 = some m.cls := findClass_of_methodNamed B.named
  have hlocks := B.notSynchronized
  have hl := lv_entry ([.int x0]) (n := 1) (Nat.le_of_ble_eq_true rfl)
  rw [lg_entry_eq]
  generalize (lg_sl ([.int x0]) ++ List.replicate (1 - (lg_sl ([.int x0])).length) Slot.unset).toArray = ls at hl ⊢
  have hl : lv_has ls 1 [(0, .int x0)] := hl
  have hE : fX0_isZero x0 = fX0_isZero x0 := rfl
  refine lv_iload_n hx hb dX0_isZero_0 rfl (lv_at hl 0 rfl) ?_
  refine lv_ldc hx hb hown (hts (.constant RX0 121 (2147483647)) (by decide +kernel)) dX0_isZero_1 ?_
  refine lv_iand hx hb dX0_isZero_3 ?_
  refine lv_if_ne (tgt := 11) hx hb dX0_isZero_4 (by decide) (fun c_4 => ?_) (fun c_4 => ?_)
  · replace hE := hE.trans (if_neg c_4)
    refine lv_iconst (v := 0) hx hb dX0_isZero_11 (by decide) ?_
    exact W.zret hx hb hr (isB_nar isB_0) (fun t ht hW => ⟨_, rfl, hE.symm, ht⟩) (fun _ h => by cases h) dX0_isZero_12
  · replace hE := hE.trans (if_pos c_4)
    refine lv_iconst (v := 1) hx hb dX0_isZero_7 (by decide) ?_
    refine lv_goto (tgt := 12) hx hb dX0_isZero_8 (by decide) ?_
    exact W.zret hx hb hr (isB_nar isB_1) (fun t ht hW => ⟨_, rfl, hE.symm, ht⟩) (fun _ h => by cases h) dX0_isZero_12
/-! X0_isZeroTimesInfinite -/
def fX0_isZeroTimesInfinite_k14 (y0 : Int32) (y1 : Int32) : Int32 := (if ((fX0_isInfinite y0)) = 0 then (0 : Int32) else (if ((fX0_isZero y1)) = 0 then (0 : Int32) else (1 : Int32)))
def fX0_isZeroTimesInfinite (x0 : Int32) (x1 : Int32) : Int32 := (if ((fX0_isZero x0)) = 0 then fX0_isZeroTimesInfinite_k14 x0 x1 else (if ((fX0_isInfinite x1)) = 0 then fX0_isZeroTimesInfinite_k14 x0 x1 else (1 : Int32)))
set_option maxHeartbeats 4000000 in
set_option maxRecDepth 100000 in
theorem ccX0_isZeroTimesInfinite (l : Launch) (x0 : Int32) (x1 : Int32)  : Met l yX0_isZeroTimesInfinite wsX0_isZeroTimesInfinite { frames := 1, cells := 0, slots := 0, locals := 20 } (va_Pc [.int x0, .int x1] (fun _ => True)) (vp_Si (fun r => r = fX0_isZeroTimesInfinite x0 x1)) 0 0 (fun _ => False) := by
  refine Met.ofW (cc := cX0_isZeroTimesInfinite) (maxL := 2) (ret := (some .boolean)) (by decide) rfl ?_
  intro p e s m args below meth c s₁ B hml hv
  obtain ⟨rfl, -⟩ := hv
  have hx := B.exec
  have hb := B.bytes
  have hr := B.returns
  have hts := atoms_spec (ws := wsX0_isZeroTimesInfinite) B.pre
  have hown : s.vm.findClass RX0 = some m.cls := findClass_of_methodNamed B.named
  have hlocks := B.notSynchronized
  have hl := lv_entry ([.int x0, .int x1]) (n := 2) (Nat.le_of_ble_eq_true rfl)
  rw [lg_entry_eq]
  generalize (lg_sl ([.int x0, .int x1]) ++ List.replicate (2 - (lg_sl ([.int x0, .int x1])).length) Slot.unset).toArray = ls at hl ⊢
  have hl : lv_has ls 2 [(0, .int x0), (1, .int x1)] := hl
  have j_14 : ∀ (y0 : Int32) (y1 : Int32) (ls : Array Slot), lv_has ls 2 [(0, .int y0), (1, .int y1)] → fX0_isZeroTimesInfinite x0 x1 = fX0_isZeroTimesInfinite_k14 y0 y1 → W p l e (headSpec wsX0_isZeroTimesInfinite { frames := 1, cells := 0, slots := 0, locals := 20 }).room s m ([.int x0, .int x1] : List Value).toArray below meth c s.heap [] 0 0 (MQ below (vp_Si (fun r => r = fX0_isZeroTimesInfinite x0 x1)) ([.int x0, .int x1] : List Value).toArray s 0 0 (fun _ => False)) (F0 m 14 ls []) := by
    intro y0 y1 ls hl hE
    refine lv_iload_n hx hb dX0_isZeroTimesInfinite_14 rfl (lv_at hl 0 rfl) ?_
    refine vp_callSi (W.runS (As := [.int y0]) (rest := []) ⟨hx, hb, hml, hown, hts⟩ (ccX0_isInfinite l y0 ) (va_cwS 1 hts gX0_isZeroTimesInfinite_X0_isInfinite rfl rfl rfl (by decide +kernel) ⟨Nat.le_of_ble_eq_true rfl, Nat.le_of_ble_eq_true rfl⟩) st_pre rfl rfl hl.1 rfl (lv_room (Nat.le_of_ble_eq_true rfl)) dX0_isZeroTimesInfinite_15 ⟨Nat.zero_le _, Nat.zero_le _⟩) (fun r hw => ?_)
    subst hw
    refine lv_if_eq (tgt := 32) hx hb dX0_isZeroTimesInfinite_18 (by decide) (fun c_18 => ?_) (fun c_18 => ?_)
    · replace hE := hE.trans (if_pos c_18)
      refine lv_iconst (v := 0) hx hb dX0_isZeroTimesInfinite_32 (by decide) ?_
      exact W.zret hx hb hr (isB_nar isB_0) (fun t ht hW => ⟨_, rfl, hE.symm, ht⟩) (fun _ h => by cases h) dX0_isZeroTimesInfinite_33
    · replace hE := hE.trans (if_neg c_18)
      refine lv_iload_n hx hb dX0_isZeroTimesInfinite_21 rfl (lv_at hl 1 rfl) ?_
      refine vp_callSi (W.runS (As := [.int y1]) (rest := []) ⟨hx, hb, hml, hown, hts⟩ (ccX0_isZero l y1 ) (va_cwS 1 hts gX0_isZeroTimesInfinite_X0_isZero rfl rfl rfl (by decide +kernel) ⟨Nat.le_of_ble_eq_true rfl, Nat.le_of_ble_eq_true rfl⟩) st_pre rfl rfl hl.1 rfl (lv_room (Nat.le_of_ble_eq_true rfl)) dX0_isZeroTimesInfinite_22 ⟨Nat.zero_le _, Nat.zero_le _⟩) (fun r hw => ?_)
      subst hw
      refine lv_if_eq (tgt := 32) hx hb dX0_isZeroTimesInfinite_25 (by decide) (fun c_25 => ?_) (fun c_25 => ?_)
      · replace hE := hE.trans (if_pos c_25)
        refine lv_iconst (v := 0) hx hb dX0_isZeroTimesInfinite_32 (by decide) ?_
        exact W.zret hx hb hr (isB_nar isB_0) (fun t ht hW => ⟨_, rfl, hE.symm, ht⟩) (fun _ h => by cases h) dX0_isZeroTimesInfinite_33
      · replace hE := hE.trans (if_neg c_25)
        refine lv_iconst (v := 1) hx hb dX0_isZeroTimesInfinite_28 (by decide) ?_
        refine lv_goto (tgt := 33) hx hb dX0_isZeroTimesInfinite_29 (by decide) ?_
        exact W.zret hx hb hr (isB_nar isB_1) (fun t ht hW => ⟨_, rfl, hE.symm, ht⟩) (fun _ h => by cases h) dX0_isZeroTimesInfinite_33
  have hE : fX0_isZeroTimesInfinite x0 x1 = fX0_isZeroTimesInfinite x0 x1 := rfl
  refine lv_iload_n hx hb dX0_isZeroTimesInfinite_0 rfl (lv_at hl 0 rfl) ?_
  refine vp_callSi (W.runS (As := [.int x0]) (rest := []) ⟨hx, hb, hml, hown, hts⟩ (ccX0_isZero l x0 ) (va_cwS 1 hts gX0_isZeroTimesInfinite_X0_isZero rfl rfl rfl (by decide +kernel) ⟨Nat.le_of_ble_eq_true rfl, Nat.le_of_ble_eq_true rfl⟩) st_pre rfl rfl hl.1 rfl (lv_room (Nat.le_of_ble_eq_true rfl)) dX0_isZeroTimesInfinite_1 ⟨Nat.zero_le _, Nat.zero_le _⟩) (fun r hw => ?_)
  subst hw
  refine lv_if_eq (tgt := 14) hx hb dX0_isZeroTimesInfinite_4 (by decide) (fun c_4 => ?_) (fun c_4 => ?_)
  · replace hE := hE.trans (if_pos c_4)
    exact j_14 x0 x1 _ (lv_sub hl [0, 1] rfl)  hE
  · replace hE := hE.trans (if_neg c_4)
    refine lv_iload_n hx hb dX0_isZeroTimesInfinite_7 rfl (lv_at hl 1 rfl) ?_
    refine vp_callSi (W.runS (As := [.int x1]) (rest := []) ⟨hx, hb, hml, hown, hts⟩ (ccX0_isInfinite l x1 ) (va_cwS 1 hts gX0_isZeroTimesInfinite_X0_isInfinite rfl rfl rfl (by decide +kernel) ⟨Nat.le_of_ble_eq_true rfl, Nat.le_of_ble_eq_true rfl⟩) st_pre rfl rfl hl.1 rfl (lv_room (Nat.le_of_ble_eq_true rfl)) dX0_isZeroTimesInfinite_8 ⟨Nat.zero_le _, Nat.zero_le _⟩) (fun r hw => ?_)
    subst hw
    refine lv_if_ne (tgt := 28) hx hb dX0_isZeroTimesInfinite_11 (by decide) (fun c_11 => ?_) (fun c_11 => ?_)
    · replace hE := hE.trans (if_neg c_11)
      refine lv_iconst (v := 1) hx hb dX0_isZeroTimesInfinite_28 (by decide) ?_
      refine lv_goto (tgt := 33) hx hb dX0_isZeroTimesInfinite_29 (by decide) ?_
      exact W.zret hx hb hr (isB_nar isB_1) (fun t ht hW => ⟨_, rfl, hE.symm, ht⟩) (fun _ h => by cases h) dX0_isZeroTimesInfinite_33
    · replace hE := hE.trans (if_pos c_11)
      exact j_14 x0 x1 _ (lv_sub hl [0, 1] rfl)  hE
/-! X0_magnitudeOf -/
def fX0_magnitudeOf_k5 (y0 : Int32) (y1 : Int32) : Int64 := (if ((fX0_exponentOf y0)) = 0 then (Int32.toInt64 y1) else (Int32.toInt64 (((8388608 : Int32) + y1))))
def fX0_magnitudeOf (x0 : Int32) : Int64 := fX0_magnitudeOf_k5 x0 ((x0 &&& (8388607 : Int32)))
set_option maxHeartbeats 4000000 in
set_option maxRecDepth 100000 in
theorem ccX0_magnitudeOf (l : Launch) (x0 : Int32)  : Met l yX0_magnitudeOf wsX0_magnitudeOf { frames := 1, cells := 0, slots := 0, locals := 20 } (va_Pc [.int x0] (fun _ => True)) (vp_Sl (fun r => r = fX0_magnitudeOf x0)) 0 0 (fun _ => False) := by
  refine Met.ofW (cc := cX0_magnitudeOf) (maxL := 2) (ret := (some .long)) (by decide) rfl ?_
  intro p e s m args below meth c s₁ B hml hv
  obtain ⟨rfl, -⟩ := hv
  have hx := B.exec
  have hb := B.bytes
  have hr := B.returns
  have hts := atoms_spec (ws := wsX0_magnitudeOf) B.pre
  have hown : s.vm.findClass RX0 = some m.cls := findClass_of_methodNamed B.named
  have hlocks := B.notSynchronized
  have hl := lv_entry ([.int x0]) (n := 2) (Nat.le_of_ble_eq_true rfl)
  rw [lg_entry_eq]
  generalize (lg_sl ([.int x0]) ++ List.replicate (2 - (lg_sl ([.int x0])).length) Slot.unset).toArray = ls at hl ⊢
  have hl : lv_has ls 2 [(0, .int x0)] := hl
  have hE : fX0_magnitudeOf x0 = fX0_magnitudeOf x0 := rfl
  refine lv_iload_n hx hb dX0_magnitudeOf_0 rfl (lv_at hl 0 rfl) ?_
  refine lv_ldc hx hb hown (hts (.constant RX0 122 (8388607)) (by decide +kernel)) dX0_magnitudeOf_1 ?_
  refine lv_iand hx hb dX0_magnitudeOf_3 ?_
  refine lv_topi (fun x1_4 e_4 => ?_)
  refine lv_istore_n (lv' := [(1, .int x1_4), (0, .int x0)]) hx hb dX0_magnitudeOf_4 rfl hl (by decide) rfl (fun ls hl => ?_)
  replace hE : fX0_magnitudeOf x0 = fX0_magnitudeOf_k5 x0 x1_4 := by rw [e_4]; exact hE
  refine lv_iload_n hx hb dX0_magnitudeOf_5 rfl (lv_at hl 1 rfl) ?_
  refine vp_callSi (W.runS (As := [.int x0]) (rest := []) ⟨hx, hb, hml, hown, hts⟩ (ccX0_exponentOf l x0 ) (va_cwS 1 hts gX0_magnitudeOf_X0_exponentOf rfl rfl rfl (by decide +kernel) ⟨Nat.le_of_ble_eq_true rfl, Nat.le_of_ble_eq_true rfl⟩) st_pre rfl rfl hl.1 rfl (lv_room (Nat.le_of_ble_eq_true rfl)) dX0_magnitudeOf_6 ⟨Nat.zero_le _, Nat.zero_le _⟩) (fun r hw => ?_)
  subst hw
  refine lv_if_ne (tgt := 17) hx hb dX0_magnitudeOf_9 (by decide) (fun c_9 => ?_) (fun c_9 => ?_)
  · replace hE := hE.trans (if_neg c_9)
    refine lv_ldc hx hb hown (hts (.constant RX0 124 (8388608)) (by decide +kernel)) dX0_magnitudeOf_17 ?_
    refine lv_iload_n hx hb dX0_magnitudeOf_19 rfl (lv_at hl 0 rfl) ?_
    refine lv_iadd hx hb dX0_magnitudeOf_20 ?_
    refine lv_i2l hx hb dX0_magnitudeOf_21 rfl ?_
    exact W.lret hx hb hr (fun t ht hW => ⟨_, rfl, hE.symm, ht⟩) (fun _ h => by cases h) dX0_magnitudeOf_22
  · replace hE := hE.trans (if_pos c_9)
    refine lv_iload_n hx hb dX0_magnitudeOf_12 rfl (lv_at hl 0 rfl) ?_
    refine lv_i2l hx hb dX0_magnitudeOf_13 rfl ?_
    refine lv_goto (tgt := 22) hx hb dX0_magnitudeOf_14 (by decide) ?_
    exact W.lret hx hb hr (fun t ht hW => ⟨_, rfl, hE.symm, ht⟩) (fun _ h => by cases h) dX0_magnitudeOf_22
/-! X0_unitOf -/
def fX0_unitOf (x0 : Int32) : Int32 := (((((if ((fX0_exponentOf x0)) < (1 : Int32) then (1 : Int32) else ((fX0_exponentOf x0)))) - (1 : Int32))) + (-149 : Int32))
set_option maxHeartbeats 4000000 in
set_option maxRecDepth 100000 in
theorem ccX0_unitOf (l : Launch) (x0 : Int32)  : Met l yX0_unitOf wsX0_unitOf { frames := 1, cells := 0, slots := 0, locals := 21 } (va_Pc [.int x0] (fun _ => True)) (vp_Si (fun r => r = fX0_unitOf x0)) 0 0 (fun _ => False) := by
  refine Met.ofW (cc := cX0_unitOf) (maxL := 1) (ret := (some .int)) (by decide) rfl ?_
  intro p e s m args below meth c s₁ B hml hv
  obtain ⟨rfl, -⟩ := hv
  have hx := B.exec
  have hb := B.bytes
  have hr := B.returns
  have hts := atoms_spec (ws := wsX0_unitOf) B.pre
  have hown : s.vm.findClass RX0 = some m.cls := findClass_of_methodNamed B.named
  have hlocks := B.notSynchronized
  have hl := lv_entry ([.int x0]) (n := 1) (Nat.le_of_ble_eq_true rfl)
  rw [lg_entry_eq]
  generalize (lg_sl ([.int x0]) ++ List.replicate (1 - (lg_sl ([.int x0])).length) Slot.unset).toArray = ls at hl ⊢
  have hl : lv_has ls 1 [(0, .int x0)] := hl
  have hE : fX0_unitOf x0 = fX0_unitOf x0 := rfl
  refine lv_iload_n hx hb dX0_unitOf_0 rfl (lv_at hl 0 rfl) ?_
  refine vp_callSi (W.runS (As := [.int x0]) (rest := []) ⟨hx, hb, hml, hown, hts⟩ (ccX0_exponentOf l x0 ) (va_cwS 1 hts gX0_unitOf_X0_exponentOf rfl rfl rfl (by decide +kernel) ⟨Nat.le_of_ble_eq_true rfl, Nat.le_of_ble_eq_true rfl⟩) st_pre rfl rfl hl.1 rfl (lv_room (Nat.le_of_ble_eq_true rfl)) dX0_unitOf_1 ⟨Nat.zero_le _, Nat.zero_le _⟩) (fun r hw => ?_)
  subst hw
  refine lv_iconst (v := 1) hx hb dX0_unitOf_4 (by decide) ?_
  refine va_mmax hx hb (hml.trans hl.1.symm) hown (hts (.methodLink RX0 88 Lib.Math.max.name) (by decide +kernel)) (hts (.static Lib.Math.max.name) (by decide +kernel)) (hts (.initialized "java/lang/Math") (by decide +kernel)) (hts (.code Lib.Math.max.name Lib.Math.max.code 2 (some .int)) (by decide +kernel)) (Nat.le_of_ble_eq_true rfl) (Nat.le_of_ble_eq_true rfl) (Nat.zero_le _) (Nat.zero_le _) dX0_unitOf_5 ?_
  refine lv_iconst (v := 1) hx hb dX0_unitOf_8 (by decide) ?_
  refine lv_isub hx hb dX0_unitOf_9 ?_
  refine lv_sipush (v := -149) hx hb dX0_unitOf_10 (by decide) ?_
  refine lv_iadd hx hb dX0_unitOf_13 ?_
  exact W.iret hx hb hr (fun t ht hW => ⟨_, rfl, hE.symm, ht⟩) (fun _ h => by cases h) dX0_unitOf_14
/-! X0_place -/
def fX0_place_k5 (y0 : Int32) (y1 : Int32) : Int32 := (if ((fX0_isNegative y0)) = 0 then y1 else (-y1))
def fX0_place (x0 : Int32) : Int32 := fX0_place_k5 x0 ((x0 &&& (2147483647 : Int32)))
set_option maxHeartbeats 4000000 in
set_option maxRecDepth 100000 in
theorem ccX0_place (l : Launch) (x0 : Int32)  : Met l yX0_place wsX0_place { frames := 1, cells := 0, slots := 0, locals := 20 } (va_Pc [.int x0] (fun _ => True)) (vp_Si (fun r => r = fX0_place x0)) 0 0 (fun _ => False) := by
  refine Met.ofW (cc := cX0_place) (maxL := 2) (ret := (some .int)) (by decide) rfl ?_
  intro p e s m args below meth c s₁ B hml hv
  obtain ⟨rfl, -⟩ := hv
  have hx := B.exec
  have hb := B.bytes
  have hr := B.returns
  have hts := atoms_spec (ws := wsX0_place) B.pre
  have hown : s.vm.findClass RX0 = some m.cls := findClass_of_methodNamed B.named
  have hlocks := B.notSynchronized
  have hl := lv_entry ([.int x0]) (n := 2) (Nat.le_of_ble_eq_true rfl)
  rw [lg_entry_eq]
  generalize (lg_sl ([.int x0]) ++ List.replicate (2 - (lg_sl ([.int x0])).length) Slot.unset).toArray = ls at hl ⊢
  have hl : lv_has ls 2 [(0, .int x0)] := hl
  have hE : fX0_place x0 = fX0_place x0 := rfl
  refine lv_iload_n hx hb dX0_place_0 rfl (lv_at hl 0 rfl) ?_
  refine lv_ldc hx hb hown (hts (.constant RX0 121 (2147483647)) (by decide +kernel)) dX0_place_1 ?_
  refine lv_iand hx hb dX0_place_3 ?_
  refine lv_topi (fun x1_4 e_4 => ?_)
  refine lv_istore_n (lv' := [(1, .int x1_4), (0, .int x0)]) hx hb dX0_place_4 rfl hl (by decide) rfl (fun ls hl => ?_)
  replace hE : fX0_place x0 = fX0_place_k5 x0 x1_4 := by rw [e_4]; exact hE
  refine lv_iload_n hx hb dX0_place_5 rfl (lv_at hl 1 rfl) ?_
  refine vp_callSi (W.runS (As := [.int x0]) (rest := []) ⟨hx, hb, hml, hown, hts⟩ (ccX0_isNegative l x0 ) (va_cwS 1 hts gX0_place_X0_isNegative rfl rfl rfl (by decide +kernel) ⟨Nat.le_of_ble_eq_true rfl, Nat.le_of_ble_eq_true rfl⟩) st_pre rfl rfl hl.1 rfl (lv_room (Nat.le_of_ble_eq_true rfl)) dX0_place_6 ⟨Nat.zero_le _, Nat.zero_le _⟩) (fun r hw => ?_)
  subst hw
  refine lv_if_eq (tgt := 17) hx hb dX0_place_9 (by decide) (fun c_9 => ?_) (fun c_9 => ?_)
  · replace hE := hE.trans (if_pos c_9)
    refine lv_iload_n hx hb dX0_place_17 rfl (lv_at hl 0 rfl) ?_
    exact W.iret hx hb hr (fun t ht hW => ⟨_, rfl, hE.symm, ht⟩) (fun _ h => by cases h) dX0_place_18
  · replace hE := hE.trans (if_neg c_9)
    refine lv_iload_n hx hb dX0_place_12 rfl (lv_at hl 0 rfl) ?_
    refine lv_ineg hx hb dX0_place_13 ?_
    refine lv_goto (tgt := 18) hx hb dX0_place_14 (by decide) ?_
    exact W.iret hx hb hr (fun t ht hW => ⟨_, rfl, hE.symm, ht⟩) (fun _ h => by cases h) dX0_place_18
/-! X0_kindWithoutSign -/
def fX0_kindWithoutSign (x0 : Int32) : Int32 := (if ((fX0_isNoNumber x0)) = 0 then (if ((fX0_isInfinite x0)) = 0 then (if ((fX0_isZero x0)) = 0 then (if ((fX0_exponentOf x0)) = 0 then (4 : Int32) else (5 : Int32)) else (3 : Int32)) else (2 : Int32)) else (if ((fX0_isLoud x0)) = 0 then (1 : Int32) else (0 : Int32)))
set_option maxHeartbeats 4000000 in
set_option maxRecDepth 100000 in
theorem ccX0_kindWithoutSign (l : Launch) (x0 : Int32)  : Met l yX0_kindWithoutSign wsX0_kindWithoutSign { frames := 2, cells := 0, slots := 0, locals := 40 } (va_Pc [.int x0] (fun _ => True)) (vp_Si (fun r => r = fX0_kindWithoutSign x0)) 0 0 (fun _ => False) := by
  refine Met.ofW (cc := cX0_kindWithoutSign) (maxL := 1) (ret := (some .int)) (by decide) rfl ?_
  intro p e s m args below meth c s₁ B hml hv
  obtain ⟨rfl, -⟩ := hv
  have hx := B.exec
  have hb := B.bytes
  have hr := B.returns
  have hts := atoms_spec (ws := wsX0_kindWithoutSign) B.pre
  have hown : s.vm.findClass RX0 = some m.cls := findClass_of_methodNamed B.named
  have hlocks := B.notSynchronized
  have hl := lv_entry ([.int x0]) (n := 1) (Nat.le_of_ble_eq_true rfl)
  rw [lg_entry_eq]
  generalize (lg_sl ([.int x0]) ++ List.replicate (1 - (lg_sl ([.int x0])).length) Slot.unset).toArray = ls at hl ⊢
  have hl : lv_has ls 1 [(0, .int x0)] := hl
  have hE : fX0_kindWithoutSign x0 = fX0_kindWithoutSign x0 := rfl
  refine lv_iload_n hx hb dX0_kindWithoutSign_0 rfl (lv_at hl 0 rfl) ?_
  refine vp_callSi (W.runS (As := [.int x0]) (rest := []) ⟨hx, hb, hml, hown, hts⟩ (ccX0_isNoNumber l x0 ) (va_cwS 1 hts gX0_kindWithoutSign_X0_isNoNumber rfl rfl rfl (by decide +kernel) ⟨Nat.le_of_ble_eq_true rfl, Nat.le_of_ble_eq_true rfl⟩) st_pre rfl rfl hl.1 rfl (lv_room (Nat.le_of_ble_eq_true rfl)) dX0_kindWithoutSign_1 ⟨Nat.zero_le _, Nat.zero_le _⟩) (fun r hw => ?_)
  subst hw
  refine lv_if_eq (tgt := 20) hx hb dX0_kindWithoutSign_4 (by decide) (fun c_4 => ?_) (fun c_4 => ?_)
  · replace hE := hE.trans (if_pos c_4)
    refine lv_iload_n hx hb dX0_kindWithoutSign_20 rfl (lv_at hl 0 rfl) ?_
    refine vp_callSi (W.runS (As := [.int x0]) (rest := []) ⟨hx, hb, hml, hown, hts⟩ (ccX0_isInfinite l x0 ) (va_cwS 1 hts gX0_kindWithoutSign_X0_isInfinite rfl rfl rfl (by decide +kernel) ⟨Nat.le_of_ble_eq_true rfl, Nat.le_of_ble_eq_true rfl⟩) st_pre rfl rfl hl.1 rfl (lv_room (Nat.le_of_ble_eq_true rfl)) dX0_kindWithoutSign_21 ⟨Nat.zero_le _, Nat.zero_le _⟩) (fun r hw => ?_)
    subst hw
    refine lv_if_eq (tgt := 29) hx hb dX0_kindWithoutSign_24 (by decide) (fun c_24 => ?_) (fun c_24 => ?_)
    · replace hE := hE.trans (if_pos c_24)
      refine lv_iload_n hx hb dX0_kindWithoutSign_29 rfl (lv_at hl 0 rfl) ?_
      refine vp_callSi (W.runS (As := [.int x0]) (rest := []) ⟨hx, hb, hml, hown, hts⟩ (ccX0_isZero l x0 ) (va_cwS 1 hts gX0_kindWithoutSign_X0_isZero rfl rfl rfl (by decide +kernel) ⟨Nat.le_of_ble_eq_true rfl, Nat.le_of_ble_eq_true rfl⟩) st_pre rfl rfl hl.1 rfl (lv_room (Nat.le_of_ble_eq_true rfl)) dX0_kindWithoutSign_30 ⟨Nat.zero_le _, Nat.zero_le _⟩) (fun r hw => ?_)
      subst hw
      refine lv_if_eq (tgt := 38) hx hb dX0_kindWithoutSign_33 (by decide) (fun c_33 => ?_) (fun c_33 => ?_)
      · replace hE := hE.trans (if_pos c_33)
        refine lv_iload_n hx hb dX0_kindWithoutSign_38 rfl (lv_at hl 0 rfl) ?_
        refine vp_callSi (W.runS (As := [.int x0]) (rest := []) ⟨hx, hb, hml, hown, hts⟩ (ccX0_exponentOf l x0 ) (va_cwS 1 hts gX0_kindWithoutSign_X0_exponentOf rfl rfl rfl (by decide +kernel) ⟨Nat.le_of_ble_eq_true rfl, Nat.le_of_ble_eq_true rfl⟩) st_pre rfl rfl hl.1 rfl (lv_room (Nat.le_of_ble_eq_true rfl)) dX0_kindWithoutSign_39 ⟨Nat.zero_le _, Nat.zero_le _⟩) (fun r hw => ?_)
        subst hw
        refine lv_if_ne (tgt := 49) hx hb dX0_kindWithoutSign_42 (by decide) (fun c_42 => ?_) (fun c_42 => ?_)
        · replace hE := hE.trans (if_neg c_42)
          refine lv_iconst (v := 5) hx hb dX0_kindWithoutSign_49 (by decide) ?_
          exact W.iret hx hb hr (fun t ht hW => ⟨_, rfl, hE.symm, ht⟩) (fun _ h => by cases h) dX0_kindWithoutSign_50
        · replace hE := hE.trans (if_pos c_42)
          refine lv_iconst (v := 4) hx hb dX0_kindWithoutSign_45 (by decide) ?_
          refine lv_goto (tgt := 50) hx hb dX0_kindWithoutSign_46 (by decide) ?_
          exact W.iret hx hb hr (fun t ht hW => ⟨_, rfl, hE.symm, ht⟩) (fun _ h => by cases h) dX0_kindWithoutSign_50
      · replace hE := hE.trans (if_neg c_33)
        refine lv_iconst (v := 3) hx hb dX0_kindWithoutSign_36 (by decide) ?_
        exact W.iret hx hb hr (fun t ht hW => ⟨_, rfl, hE.symm, ht⟩) (fun _ h => by cases h) dX0_kindWithoutSign_37
    · replace hE := hE.trans (if_neg c_24)
      refine lv_iconst (v := 2) hx hb dX0_kindWithoutSign_27 (by decide) ?_
      exact W.iret hx hb hr (fun t ht hW => ⟨_, rfl, hE.symm, ht⟩) (fun _ h => by cases h) dX0_kindWithoutSign_28
  · replace hE := hE.trans (if_neg c_4)
    refine lv_iload_n hx hb dX0_kindWithoutSign_7 rfl (lv_at hl 0 rfl) ?_
    refine vp_callSi (W.runS (As := [.int x0]) (rest := []) ⟨hx, hb, hml, hown, hts⟩ (ccX0_isLoud l x0 ) (va_cwS 1 hts gX0_kindWithoutSign_X0_isLoud rfl rfl rfl (by decide +kernel) ⟨Nat.le_of_ble_eq_true rfl, Nat.le_of_ble_eq_true rfl⟩) st_pre rfl rfl hl.1 rfl (lv_room (Nat.le_of_ble_eq_true rfl)) dX0_kindWithoutSign_8 ⟨Nat.zero_le _, Nat.zero_le _⟩) (fun r hw => ?_)
    subst hw
    refine lv_if_eq (tgt := 18) hx hb dX0_kindWithoutSign_11 (by decide) (fun c_11 => ?_) (fun c_11 => ?_)
    · replace hE := hE.trans (if_pos c_11)
      refine lv_iconst (v := 1) hx hb dX0_kindWithoutSign_18 (by decide) ?_
      exact W.iret hx hb hr (fun t ht hW => ⟨_, rfl, hE.symm, ht⟩) (fun _ h => by cases h) dX0_kindWithoutSign_19
    · replace hE := hE.trans (if_neg c_11)
      refine lv_iconst (v := 0) hx hb dX0_kindWithoutSign_14 (by decide) ?_
      refine lv_goto (tgt := 19) hx hb dX0_kindWithoutSign_15 (by decide) ?_
      exact W.iret hx hb hr (fun t ht hW => ⟨_, rfl, hE.symm, ht⟩) (fun _ h => by cases h) dX0_kindWithoutSign_19
end
section
/-! J6_numberOfLeadingZeros_0f7a4 -/
def fJ6_numberOfLeadingZeros_0f7a4_k73 (y0 : Int32) (y1 : Int32) : Int32 := (y1 - (((Int32.toUInt32 y0 >>> (Int32.toUInt32 (1 : Int32) &&& Int32.toUInt32 31)).toInt32)))
def fJ6_numberOfLeadingZeros_0f7a4_k61 (y0 : Int32) (y1 : Int32) : Int32 := (if y0 < (4 : Int32) then fJ6_numberOfLeadingZeros_0f7a4_k73 y0 y1 else fJ6_numberOfLeadingZeros_0f7a4_k73 (((Int32.toUInt32 y0 >>> (Int32.toUInt32 (2 : Int32) &&& Int32.toUInt32 31)).toInt32)) ((y1 + (-2 : Int32))))
def fJ6_numberOfLeadingZeros_0f7a4_k48 (y0 : Int32) (y1 : Int32) : Int32 := (if y0 < (16 : Int32) then fJ6_numberOfLeadingZeros_0f7a4_k61 y0 y1 else fJ6_numberOfLeadingZeros_0f7a4_k61 (((Int32.toUInt32 y0 >>> (Int32.toUInt32 (4 : Int32) &&& Int32.toUInt32 31)).toInt32)) ((y1 + (-4 : Int32))))
def fJ6_numberOfLeadingZeros_0f7a4_k33 (y0 : Int32) (y1 : Int32) : Int32 := (if y0 < (256 : Int32) then fJ6_numberOfLeadingZeros_0f7a4_k48 y0 y1 else fJ6_numberOfLeadingZeros_0f7a4_k48 (((Int32.toUInt32 y0 >>> (Int32.toUInt32 (8 : Int32) &&& Int32.toUInt32 31)).toInt32)) ((y1 + (-8 : Int32))))
def fJ6_numberOfLeadingZeros_0f7a4 (x0 : Int32) : Int32 := (if 0 < x0 then (if x0 < (65536 : Int32) then fJ6_numberOfLeadingZeros_0f7a4_k33 x0 (31 : Int32) else fJ6_numberOfLeadingZeros_0f7a4_k33 (((Int32.toUInt32 x0 >>> (Int32.toUInt32 (16 : Int32) &&& Int32.toUInt32 31)).toInt32)) (((31 : Int32) + (-16 : Int32)))) else (if x0 = 0 then (32 : Int32) else (0 : Int32)))
set_option maxHeartbeats 4000000 in
set_option maxRecDepth 100000 in
theorem ccJ6_numberOfLeadingZeros_0f7a4 (l : Launch) (x0 : Int32)  : Met l yJ6_numberOfLeadingZeros_0f7a4 wsJ6_numberOfLeadingZeros_0f7a4 { frames := 0, cells := 0, slots := 0, locals := 0 } (va_Pc [.int x0] (fun _ => True)) (vp_Si (fun r => r = fJ6_numberOfLeadingZeros_0f7a4 x0)) 0 0 (fun _ => False) := by
  refine Met.ofW (cc := cJ6_numberOfLeadingZeros_0f7a4) (maxL := 2) (ret := (some .int)) (by decide) rfl ?_
  intro p e s m args below meth c s₁ B hml hv
  obtain ⟨rfl, -⟩ := hv
  have hx := B.exec
  have hb := B.bytes
  have hr := B.returns
  have hts := atoms_spec (ws := wsJ6_numberOfLeadingZeros_0f7a4) B.pre
  have hown : s.vm.findClass RJ6 = some m.cls := findClass_of_methodNamed B.named
  have hlocks := B.notSynchronized
  have hl := lv_entry ([.int x0]) (n := 2) (Nat.le_of_ble_eq_true rfl)
  rw [lg_entry_eq]
  generalize (lg_sl ([.int x0]) ++ List.replicate (2 - (lg_sl ([.int x0])).length) Slot.unset).toArray = ls at hl ⊢
  have hl : lv_has ls 2 [(0, .int x0)] := hl
  have j_73 : ∀ (y0 : Int32) (y1 : Int32) (ls : Array Slot), lv_has ls 2 [(0, .int y0), (1, .int y1)] → fJ6_numberOfLeadingZeros_0f7a4 x0 = fJ6_numberOfLeadingZeros_0f7a4_k73 y0 y1 → W p l e (headSpec wsJ6_numberOfLeadingZeros_0f7a4 { frames := 0, cells := 0, slots := 0, locals := 0 }).room s m ([.int x0] : List Value).toArray below meth c s.heap [] 0 0 (MQ below (vp_Si (fun r => r = fJ6_numberOfLeadingZeros_0f7a4 x0)) ([.int x0] : List Value).toArray s 0 0 (fun _ => False)) (F0 m 73 ls []) := by
    intro y0 y1 ls hl hE
    refine lv_iload_n hx hb dJ6_numberOfLeadingZeros_0f7a4_73 rfl (lv_at hl 1 rfl) ?_
    refine lv_iload_n hx hb dJ6_numberOfLeadingZeros_0f7a4_74 rfl (lv_at hl 0 rfl) ?_
    refine lv_iconst (v := 1) hx hb dJ6_numberOfLeadingZeros_0f7a4_75 (by decide) ?_
    refine lv_iushr hx hb dJ6_numberOfLeadingZeros_0f7a4_76 rfl ?_
    refine lv_isub hx hb dJ6_numberOfLeadingZeros_0f7a4_77 ?_
    exact W.iret hx hb hr (fun t ht hW => ⟨_, rfl, hE.symm, ht⟩) (fun _ h => by cases h) dJ6_numberOfLeadingZeros_0f7a4_78
  have j_61 : ∀ (y0 : Int32) (y1 : Int32) (ls : Array Slot), lv_has ls 2 [(0, .int y0), (1, .int y1)] → fJ6_numberOfLeadingZeros_0f7a4 x0 = fJ6_numberOfLeadingZeros_0f7a4_k61 y0 y1 → W p l e (headSpec wsJ6_numberOfLeadingZeros_0f7a4 { frames := 0, cells := 0, slots := 0, locals := 0 }).room s m ([.int x0] : List Value).toArray below meth c s.heap [] 0 0 (MQ below (vp_Si (fun r => r = fJ6_numberOfLeadingZeros_0f7a4 x0)) ([.int x0] : List Value).toArray s 0 0 (fun _ => False)) (F0 m 61 ls []) := by
    intro y0 y1 ls hl hE
    refine lv_iload_n hx hb dJ6_numberOfLeadingZeros_0f7a4_61 rfl (lv_at hl 0 rfl) ?_
    refine lv_iconst (v := 4) hx hb dJ6_numberOfLeadingZeros_0f7a4_62 (by decide) ?_
    refine lv_icmp_lt (tgt := 73) hx hb dJ6_numberOfLeadingZeros_0f7a4_63 (by decide) (fun c_63 => ?_) (fun c_63 => ?_)
    · replace hE := hE.trans (if_pos c_63)
      exact j_73 y0 y1 _ (lv_sub hl [0, 1] rfl)  hE
    · replace hE := hE.trans (if_neg c_63)
      refine lv_iinc (v := (y1 + (-2 : Int32))) (lv' := [(1, .int (y1 + (-2 : Int32))), (0, .int y0)]) hx hb dJ6_numberOfLeadingZeros_0f7a4_66 hl (k := 1) rfl rfl (by decide) rfl (fun ls hl => ?_)
      refine lv_iload_n hx hb dJ6_numberOfLeadingZeros_0f7a4_69 rfl (lv_at hl 1 rfl) ?_
      refine lv_iconst (v := 2) hx hb dJ6_numberOfLeadingZeros_0f7a4_70 (by decide) ?_
      refine lv_iushr hx hb dJ6_numberOfLeadingZeros_0f7a4_71 rfl ?_
      refine lv_istore_n (lv' := [(0, .int ((Int32.toUInt32 y0 >>> (Int32.toUInt32 (2 : Int32) &&& Int32.toUInt32 31)).toInt32)), (1, .int (y1 + (-2 : Int32)))]) hx hb dJ6_numberOfLeadingZeros_0f7a4_72 rfl hl (by decide) rfl (fun ls hl => ?_)
      exact j_73 (((Int32.toUInt32 y0 >>> (Int32.toUInt32 (2 : Int32) &&& Int32.toUInt32 31)).toInt32)) ((y1 + (-2 : Int32))) _ (lv_sub hl [0, 1] rfl)  hE
  have j_48 : ∀ (y0 : Int32) (y1 : Int32) (ls : Array Slot), lv_has ls 2 [(0, .int y0), (1, .int y1)] → fJ6_numberOfLeadingZeros_0f7a4 x0 = fJ6_numberOfLeadingZeros_0f7a4_k48 y0 y1 → W p l e (headSpec wsJ6_numberOfLeadingZeros_0f7a4 { frames := 0, cells := 0, slots := 0, locals := 0 }).room s m ([.int x0] : List Value).toArray below meth c s.heap [] 0 0 (MQ below (vp_Si (fun r => r = fJ6_numberOfLeadingZeros_0f7a4 x0)) ([.int x0] : List Value).toArray s 0 0 (fun _ => False)) (F0 m 48 ls []) := by
    intro y0 y1 ls hl hE
    refine lv_iload_n hx hb dJ6_numberOfLeadingZeros_0f7a4_48 rfl (lv_at hl 0 rfl) ?_
    refine lv_bipush (v := 16) hx hb dJ6_numberOfLeadingZeros_0f7a4_49 (by decide) ?_
    refine lv_icmp_lt (tgt := 61) hx hb dJ6_numberOfLeadingZeros_0f7a4_51 (by decide) (fun c_51 => ?_) (fun c_51 => ?_)
    · replace hE := hE.trans (if_pos c_51)
      exact j_61 y0 y1 _ (lv_sub hl [0, 1] rfl)  hE
    · replace hE := hE.trans (if_neg c_51)
      refine lv_iinc (v := (y1 + (-4 : Int32))) (lv' := [(1, .int (y1 + (-4 : Int32))), (0, .int y0)]) hx hb dJ6_numberOfLeadingZeros_0f7a4_54 hl (k := 1) rfl rfl (by decide) rfl (fun ls hl => ?_)
      refine lv_iload_n hx hb dJ6_numberOfLeadingZeros_0f7a4_57 rfl (lv_at hl 1 rfl) ?_
      refine lv_iconst (v := 4) hx hb dJ6_numberOfLeadingZeros_0f7a4_58 (by decide) ?_
      refine lv_iushr hx hb dJ6_numberOfLeadingZeros_0f7a4_59 rfl ?_
      refine lv_istore_n (lv' := [(0, .int ((Int32.toUInt32 y0 >>> (Int32.toUInt32 (4 : Int32) &&& Int32.toUInt32 31)).toInt32)), (1, .int (y1 + (-4 : Int32)))]) hx hb dJ6_numberOfLeadingZeros_0f7a4_60 rfl hl (by decide) rfl (fun ls hl => ?_)
      exact j_61 (((Int32.toUInt32 y0 >>> (Int32.toUInt32 (4 : Int32) &&& Int32.toUInt32 31)).toInt32)) ((y1 + (-4 : Int32))) _ (lv_sub hl [0, 1] rfl)  hE
  have j_33 : ∀ (y0 : Int32) (y1 : Int32) (ls : Array Slot), lv_has ls 2 [(0, .int y0), (1, .int y1)] → fJ6_numberOfLeadingZeros_0f7a4 x0 = fJ6_numberOfLeadingZeros_0f7a4_k33 y0 y1 → W p l e (headSpec wsJ6_numberOfLeadingZeros_0f7a4 { frames := 0, cells := 0, slots := 0, locals := 0 }).room s m ([.int x0] : List Value).toArray below meth c s.heap [] 0 0 (MQ below (vp_Si (fun r => r = fJ6_numberOfLeadingZeros_0f7a4 x0)) ([.int x0] : List Value).toArray s 0 0 (fun _ => False)) (F0 m 33 ls []) := by
    intro y0 y1 ls hl hE
    refine lv_iload_n hx hb dJ6_numberOfLeadingZeros_0f7a4_33 rfl (lv_at hl 0 rfl) ?_
    refine lv_sipush (v := 256) hx hb dJ6_numberOfLeadingZeros_0f7a4_34 (by decide) ?_
    refine lv_icmp_lt (tgt := 48) hx hb dJ6_numberOfLeadingZeros_0f7a4_37 (by decide) (fun c_37 => ?_) (fun c_37 => ?_)
    · replace hE := hE.trans (if_pos c_37)
      exact j_48 y0 y1 _ (lv_sub hl [0, 1] rfl)  hE
    · replace hE := hE.trans (if_neg c_37)
      refine lv_iinc (v := (y1 + (-8 : Int32))) (lv' := [(1, .int (y1 + (-8 : Int32))), (0, .int y0)]) hx hb dJ6_numberOfLeadingZeros_0f7a4_40 hl (k := 1) rfl rfl (by decide) rfl (fun ls hl => ?_)
      refine lv_iload_n hx hb dJ6_numberOfLeadingZeros_0f7a4_43 rfl (lv_at hl 1 rfl) ?_
      refine lv_bipush (v := 8) hx hb dJ6_numberOfLeadingZeros_0f7a4_44 (by decide) ?_
      refine lv_iushr hx hb dJ6_numberOfLeadingZeros_0f7a4_46 rfl ?_
      refine lv_istore_n (lv' := [(0, .int ((Int32.toUInt32 y0 >>> (Int32.toUInt32 (8 : Int32) &&& Int32.toUInt32 31)).toInt32)), (1, .int (y1 + (-8 : Int32)))]) hx hb dJ6_numberOfLeadingZeros_0f7a4_47 rfl hl (by decide) rfl (fun ls hl => ?_)
      exact j_48 (((Int32.toUInt32 y0 >>> (Int32.toUInt32 (8 : Int32) &&& Int32.toUInt32 31)).toInt32)) ((y1 + (-8 : Int32))) _ (lv_sub hl [0, 1] rfl)  hE
  have hE : fJ6_numberOfLeadingZeros_0f7a4 x0 = fJ6_numberOfLeadingZeros_0f7a4 x0 := rfl
  refine lv_iload_n hx hb dJ6_numberOfLeadingZeros_0f7a4_0 rfl (lv_at hl 0 rfl) ?_
  refine lv_if_gt (tgt := 15) hx hb dJ6_numberOfLeadingZeros_0f7a4_1 (by decide) (fun c_1 => ?_) (fun c_1 => ?_)
  · replace hE := hE.trans (if_pos c_1)
    refine lv_bipush (v := 31) hx hb dJ6_numberOfLeadingZeros_0f7a4_15 (by decide) ?_
    refine lv_istore_n (lv' := [(1, .int (31 : Int32)), (0, .int x0)]) hx hb dJ6_numberOfLeadingZeros_0f7a4_17 rfl hl (by decide) rfl (fun ls hl => ?_)
    refine lv_iload_n hx hb dJ6_numberOfLeadingZeros_0f7a4_18 rfl (lv_at hl 1 rfl) ?_
    refine lv_ldcw hx hb hown (hts (.constant RJ6 264 (65536)) (by decide +kernel)) dJ6_numberOfLeadingZeros_0f7a4_19 ?_
    refine lv_icmp_lt (tgt := 33) hx hb dJ6_numberOfLeadingZeros_0f7a4_22 (by decide) (fun c_22 => ?_) (fun c_22 => ?_)
    · replace hE := hE.trans (if_pos c_22)
      exact j_33 x0 (31 : Int32) _ (lv_sub hl [1, 0] rfl)  hE
    · replace hE := hE.trans (if_neg c_22)
      refine lv_iinc (v := ((31 : Int32) + (-16 : Int32))) (lv' := [(1, .int ((31 : Int32) + (-16 : Int32))), (0, .int x0)]) hx hb dJ6_numberOfLeadingZeros_0f7a4_25 hl (k := 0) rfl rfl (by decide) rfl (fun ls hl => ?_)
      refine lv_iload_n hx hb dJ6_numberOfLeadingZeros_0f7a4_28 rfl (lv_at hl 1 rfl) ?_
      refine lv_bipush (v := 16) hx hb dJ6_numberOfLeadingZeros_0f7a4_29 (by decide) ?_
      refine lv_iushr hx hb dJ6_numberOfLeadingZeros_0f7a4_31 rfl ?_
      refine lv_istore_n (lv' := [(0, .int ((Int32.toUInt32 x0 >>> (Int32.toUInt32 (16 : Int32) &&& Int32.toUInt32 31)).toInt32)), (1, .int ((31 : Int32) + (-16 : Int32)))]) hx hb dJ6_numberOfLeadingZeros_0f7a4_32 rfl hl (by decide) rfl (fun ls hl => ?_)
      exact j_33 (((Int32.toUInt32 x0 >>> (Int32.toUInt32 (16 : Int32) &&& Int32.toUInt32 31)).toInt32)) (((31 : Int32) + (-16 : Int32))) _ (lv_sub hl [0, 1] rfl)  hE
  · replace hE := hE.trans (if_neg c_1)
    refine lv_iload_n hx hb dJ6_numberOfLeadingZeros_0f7a4_4 rfl (lv_at hl 0 rfl) ?_
    refine lv_if_ne (tgt := 13) hx hb dJ6_numberOfLeadingZeros_0f7a4_5 (by decide) (fun c_5 => ?_) (fun c_5 => ?_)
    · replace hE := hE.trans (if_neg c_5)
      refine lv_iconst (v := 0) hx hb dJ6_numberOfLeadingZeros_0f7a4_13 (by decide) ?_
      exact W.iret hx hb hr (fun t ht hW => ⟨_, rfl, hE.symm, ht⟩) (fun _ h => by cases h) dJ6_numberOfLeadingZeros_0f7a4_14
    · replace hE := hE.trans (if_pos c_5)
      refine lv_bipush (v := 32) hx hb dJ6_numberOfLeadingZeros_0f7a4_8 (by decide) ?_
      refine lv_goto (tgt := 14) hx hb dJ6_numberOfLeadingZeros_0f7a4_10 (by decide) ?_
      exact W.iret hx hb hr (fun t ht hW => ⟨_, rfl, hE.symm, ht⟩) (fun _ h => by cases h) dJ6_numberOfLeadingZeros_0f7a4_14
/-! J13_numberOfLeadingZeros_95d88 -/
def fJ13_numberOfLeadingZeros_95d88_k6 (y0 : Int64) (y2 : Int32) : Int32 := (if y2 = 0 then ((32 : Int32) + ((fJ6_numberOfLeadingZeros_0f7a4 ((Int64.toInt32 y0))))) else (fJ6_numberOfLeadingZeros_0f7a4 y2))
def fJ13_numberOfLeadingZeros_95d88 (x0 : Int64) : Int32 := fJ13_numberOfLeadingZeros_95d88_k6 x0 ((Int64.toInt32 (((Int64.toUInt64 x0 >>> ((Int32.toInt64 (32 : Int32)).toUInt64 &&& Int64.toUInt64 63)).toInt64))))
set_option maxHeartbeats 4000000 in
set_option maxRecDepth 100000 in
theorem ccJ13_numberOfLeadingZeros_95d88 (l : Launch) (x0 : Int64)  : Met l yJ13_numberOfLeadingZeros_95d88 wsJ13_numberOfLeadingZeros_95d88 { frames := 1, cells := 0, slots := 0, locals := 21 } (va_Pc [.long x0] (fun _ => True)) (vp_Si (fun r => r = fJ13_numberOfLeadingZeros_95d88 x0)) 0 0 (fun _ => False) := by
  refine Met.ofW (cc := cJ13_numberOfLeadingZeros_95d88) (maxL := 3) (ret := (some .int)) (by decide) rfl ?_
  intro p e s m args below meth c s₁ B hml hv
  obtain ⟨rfl, -⟩ := hv
  have hx := B.exec
  have hb := B.bytes
  have hr := B.returns
  have hts := atoms_spec (ws := wsJ13_numberOfLeadingZeros_95d88) B.pre
  have hown : s.vm.findClass RJ13 = some m.cls := findClass_of_methodNamed B.named
  have hlocks := B.notSynchronized
  have hl := lv_entry ([.long x0]) (n := 3) (Nat.le_of_ble_eq_true rfl)
  rw [lg_entry_eq]
  generalize (lg_sl ([.long x0]) ++ List.replicate (3 - (lg_sl ([.long x0])).length) Slot.unset).toArray = ls at hl ⊢
  have hl : lv_has ls 3 [(0, .long x0)] := hl
  have hE : fJ13_numberOfLeadingZeros_95d88 x0 = fJ13_numberOfLeadingZeros_95d88 x0 := rfl
  refine lv_lload_n hx hb dJ13_numberOfLeadingZeros_95d88_0 rfl (lv_at hl 0 rfl) ?_
  refine lv_bipush (v := 32) hx hb dJ13_numberOfLeadingZeros_95d88_1 (by decide) ?_
  refine lv_lushr hx hb dJ13_numberOfLeadingZeros_95d88_3 rfl ?_
  refine lv_l2i hx hb dJ13_numberOfLeadingZeros_95d88_4 rfl ?_
  refine lv_topi (fun x2_5 e_5 => ?_)
  refine lv_istore_n (lv' := [(2, .int x2_5), (0, .long x0)]) hx hb dJ13_numberOfLeadingZeros_95d88_5 rfl hl (by decide) rfl (fun ls hl => ?_)
  replace hE : fJ13_numberOfLeadingZeros_95d88 x0 = fJ13_numberOfLeadingZeros_95d88_k6 x0 x2_5 := by rw [e_5]; exact hE
  refine lv_iload_n hx hb dJ13_numberOfLeadingZeros_95d88_6 rfl (lv_at hl 0 rfl) ?_
  refine lv_if_ne (tgt := 21) hx hb dJ13_numberOfLeadingZeros_95d88_7 (by decide) (fun c_7 => ?_) (fun c_7 => ?_)
  · replace hE := hE.trans (if_neg c_7)
    refine lv_iload_n hx hb dJ13_numberOfLeadingZeros_95d88_21 rfl (lv_at hl 0 rfl) ?_
    refine vp_callSi (W.runS (As := [.int x2_5]) (rest := []) ⟨hx, hb, hml, hown, hts⟩ (ccJ6_numberOfLeadingZeros_0f7a4 l x2_5 ) (va_cwS 1 hts gJ13_numberOfLeadingZeros_95d88_J6_numberOfLeadingZeros_0f7a4 rfl rfl rfl (by decide +kernel) ⟨Nat.le_of_ble_eq_true rfl, Nat.le_of_ble_eq_true rfl⟩) st_pre rfl rfl hl.1 rfl (lv_room (Nat.le_of_ble_eq_true rfl)) dJ13_numberOfLeadingZeros_95d88_22 ⟨Nat.zero_le _, Nat.zero_le _⟩) (fun r hw => ?_)
    subst hw
    exact W.iret hx hb hr (fun t ht hW => ⟨_, rfl, hE.symm, ht⟩) (fun _ h => by cases h) dJ13_numberOfLeadingZeros_95d88_25
  · replace hE := hE.trans (if_pos c_7)
    refine lv_bipush (v := 32) hx hb dJ13_numberOfLeadingZeros_95d88_10 (by decide) ?_
    refine lv_lload_n hx hb dJ13_numberOfLeadingZeros_95d88_12 rfl (lv_at hl 1 rfl) ?_
    refine lv_l2i hx hb dJ13_numberOfLeadingZeros_95d88_13 rfl ?_
    refine vp_callSi (W.runS (As := [.int (Int64.toInt32 x0)]) (rest := [.int (32 : Int32)]) ⟨hx, hb, hml, hown, hts⟩ (ccJ6_numberOfLeadingZeros_0f7a4 l ((Int64.toInt32 x0)) ) (va_cwS 1 hts gJ13_numberOfLeadingZeros_95d88_J6_numberOfLeadingZeros_0f7a4 rfl rfl rfl (by decide +kernel) ⟨Nat.le_of_ble_eq_true rfl, Nat.le_of_ble_eq_true rfl⟩) st_pre rfl rfl hl.1 rfl (lv_room (Nat.le_of_ble_eq_true rfl)) dJ13_numberOfLeadingZeros_95d88_14 ⟨Nat.zero_le _, Nat.zero_le _⟩) (fun r hw => ?_)
    subst hw
    refine lv_iadd hx hb dJ13_numberOfLeadingZeros_95d88_17 ?_
    refine lv_goto (tgt := 25) hx hb dJ13_numberOfLeadingZeros_95d88_18 (by decide) ?_
    exact W.iret hx hb hr (fun t ht hW => ⟨_, rfl, hE.symm, ht⟩) (fun _ h => by cases h) dJ13_numberOfLeadingZeros_95d88_25
/-! X0_bitLength -/
def fX0_bitLength (x0 : Int64) : Int32 := ((64 : Int32) - ((fJ13_numberOfLeadingZeros_95d88 x0)))
set_option maxHeartbeats 4000000 in
set_option maxRecDepth 100000 in
theorem ccX0_bitLength (l : Launch) (x0 : Int64)  : Met l yX0_bitLength wsX0_bitLength { frames := 2, cells := 0, slots := 0, locals := 43 } (va_Pc [.long x0] (fun _ => True)) (vp_Si (fun r => r = fX0_bitLength x0)) 0 0 (fun _ => False) := by
  refine Met.ofW (cc := cX0_bitLength) (maxL := 2) (ret := (some .int)) (by decide) rfl ?_
  intro p e s m args below meth c s₁ B hml hv
  obtain ⟨rfl, -⟩ := hv
  have hx := B.exec
  have hb := B.bytes
  have hr := B.returns
  have hts := atoms_spec (ws := wsX0_bitLength) B.pre
  have hown : s.vm.findClass RX0 = some m.cls := findClass_of_methodNamed B.named
  have hlocks := B.notSynchronized
  have hl := lv_entry ([.long x0]) (n := 2) (Nat.le_of_ble_eq_true rfl)
  rw [lg_entry_eq]
  generalize (lg_sl ([.long x0]) ++ List.replicate (2 - (lg_sl ([.long x0])).length) Slot.unset).toArray = ls at hl ⊢
  have hl : lv_has ls 2 [(0, .long x0)] := hl
  have hE : fX0_bitLength x0 = fX0_bitLength x0 := rfl
  refine lv_bipush (v := 64) hx hb dX0_bitLength_0 (by decide) ?_
  refine lv_lload_n hx hb dX0_bitLength_2 rfl (lv_at hl 0 rfl) ?_
  refine vp_callSi (W.runS (As := [.long x0]) (rest := [.int (64 : Int32)]) ⟨hx, hb, hml, hown, hts⟩ (ccJ13_numberOfLeadingZeros_95d88 l x0 ) (va_cwS 1 hts gX0_bitLength_J13_numberOfLeadingZeros_95d88 rfl rfl rfl (by decide +kernel) ⟨Nat.le_of_ble_eq_true rfl, Nat.le_of_ble_eq_true rfl⟩) st_pre rfl rfl hl.1 rfl (lv_room (Nat.le_of_ble_eq_true rfl)) dX0_bitLength_3 ⟨Nat.zero_le _, Nat.zero_le _⟩) (fun r hw => ?_)
  subst hw
  refine lv_isub hx hb dX0_bitLength_6 ?_
  exact W.iret hx hb hr (fun t ht hW => ⟨_, rfl, hE.symm, ht⟩) (fun _ h => by cases h) dX0_bitLength_7
/-! X0_shiftedRight -/
def fX0_shiftedRight (x0 : Int64) (x2 : Int32) : Int64 := (if x2 ≤ (63 : Int32) then (x0 >>> (Int32.toInt64 x2 &&& 63)) else (0 : Int64))
set_option maxHeartbeats 4000000 in
set_option maxRecDepth 100000 in
theorem ccX0_shiftedRight (l : Launch) (x0 : Int64) (x2 : Int32)  : Met l yX0_shiftedRight wsX0_shiftedRight { frames := 0, cells := 0, slots := 0, locals := 0 } (va_Pc [.long x0, .int x2] (fun _ => True)) (vp_Sl (fun r => r = fX0_shiftedRight x0 x2)) 0 0 (fun _ => False) := by
  refine Met.ofW (cc := cX0_shiftedRight) (maxL := 3) (ret := (some .long)) (by decide) rfl ?_
  intro p e s m args below meth c s₁ B hml hv
  obtain ⟨rfl, -⟩ := hv
  have hx := B.exec
  have hb := B.bytes
  have hr := B.returns
  have hts := atoms_spec (ws := wsX0_shiftedRight) B.pre
  have hown : s.vm.findClass RX0 = some m.cls := findClass_of_methodNamed B.named
  have hlocks := B.notSynchronized
  have hl := lv_entry ([.long x0, .int x2]) (n := 3) (Nat.le_of_ble_eq_true rfl)
  rw [lg_entry_eq]
  generalize (lg_sl ([.long x0, .int x2]) ++ List.replicate (3 - (lg_sl ([.long x0, .int x2])).length) Slot.unset).toArray = ls at hl ⊢
  have hl : lv_has ls 3 [(0, .long x0), (2, .int x2)] := hl
  have hE : fX0_shiftedRight x0 x2 = fX0_shiftedRight x0 x2 := rfl
  refine lv_iload_n hx hb dX0_shiftedRight_0 rfl (lv_at hl 1 rfl) ?_
  refine lv_bipush (v := 63) hx hb dX0_shiftedRight_1 (by decide) ?_
  refine lv_icmp_le (tgt := 10) hx hb dX0_shiftedRight_3 (by decide) (fun c_3 => ?_) (fun c_3 => ?_)
  · replace hE := hE.trans (if_pos c_3)
    refine lv_lload_n hx hb dX0_shiftedRight_10 rfl (lv_at hl 0 rfl) ?_
    refine lv_iload_n hx hb dX0_shiftedRight_11 rfl (lv_at hl 1 rfl) ?_
    refine lv_lshr hx hb dX0_shiftedRight_12 rfl ?_
    exact W.lret hx hb hr (fun t ht hW => ⟨_, rfl, hE.symm, ht⟩) (fun _ h => by cases h) dX0_shiftedRight_13
  · replace hE := hE.trans (if_neg c_3)
    refine lv_lconst (v := 0) hx hb dX0_shiftedRight_6 (by decide) ?_
    refine lv_goto (tgt := 13) hx hb dX0_shiftedRight_7 (by decide) ?_
    exact W.lret hx hb hr (fun t ht hW => ⟨_, rfl, hE.symm, ht⟩) (fun _ h => by cases h) dX0_shiftedRight_13
/-! X0_isMultiple -/
def fX0_isMultiple (x0 : Int64) (x2 : Int32) : Int32 := (if 0 < x2 then (if x2 ≤ (63 : Int32) then (if ((lg_cmp ((x0 &&& (((((1 : Int64) <<< (Int32.toInt64 x2 &&& 63))) - (1 : Int64))))) (0 : Int64))) = 0 then (1 : Int32) else (0 : Int32)) else (if ((lg_cmp x0 (0 : Int64))) = 0 then (1 : Int32) else (0 : Int32))) else (1 : Int32))
set_option maxHeartbeats 4000000 in
set_option maxRecDepth 100000 in
theorem ccX0_isMultiple (l : Launch) (x0 : Int64) (x2 : Int32)  : Met l yX0_isMultiple wsX0_isMultiple { frames := 0, cells := 0, slots := 0, locals := 0 } (va_Pc [.long x0, .int x2] (fun _ => True)) (vp_Si (fun r => r = fX0_isMultiple x0 x2)) 0 0 (fun _ => False) := by
  refine Met.ofW (cc := cX0_isMultiple) (maxL := 3) (ret := (some .boolean)) (by decide) rfl ?_
  intro p e s m args below meth c s₁ B hml hv
  obtain ⟨rfl, -⟩ := hv
  have hx := B.exec
  have hb := B.bytes
  have hr := B.returns
  have hts := atoms_spec (ws := wsX0_isMultiple) B.pre
  have hown : s.vm.findClass RX0 = some m.cls := findClass_of_methodNamed B.named
  have hlocks := B.notSynchronized
  have hl := lv_entry ([.long x0, .int x2]) (n := 3) (Nat.le_of_ble_eq_true rfl)
  rw [lg_entry_eq]
  generalize (lg_sl ([.long x0, .int x2]) ++ List.replicate (3 - (lg_sl ([.long x0, .int x2])).length) Slot.unset).toArray = ls at hl ⊢
  have hl : lv_has ls 3 [(0, .long x0), (2, .int x2)] := hl
  have hE : fX0_isMultiple x0 x2 = fX0_isMultiple x0 x2 := rfl
  refine lv_iload_n hx hb dX0_isMultiple_0 rfl (lv_at hl 1 rfl) ?_
  refine lv_if_gt (tgt := 6) hx hb dX0_isMultiple_1 (by decide) (fun c_1 => ?_) (fun c_1 => ?_)
  · replace hE := hE.trans (if_pos c_1)
    refine lv_iload_n hx hb dX0_isMultiple_6 rfl (lv_at hl 1 rfl) ?_
    refine lv_bipush (v := 63) hx hb dX0_isMultiple_7 (by decide) ?_
    refine lv_icmp_le (tgt := 26) hx hb dX0_isMultiple_9 (by decide) (fun c_9 => ?_) (fun c_9 => ?_)
    · replace hE := hE.trans (if_pos c_9)
      refine lv_lload_n hx hb dX0_isMultiple_26 rfl (lv_at hl 0 rfl) ?_
      refine lv_lconst (v := 1) hx hb dX0_isMultiple_27 (by decide) ?_
      refine lv_iload_n hx hb dX0_isMultiple_28 rfl (lv_at hl 1 rfl) ?_
      refine lv_lshl hx hb dX0_isMultiple_29 rfl ?_
      refine lv_lconst (v := 1) hx hb dX0_isMultiple_30 (by decide) ?_
      refine lv_lsub hx hb dX0_isMultiple_31 ?_
      refine lv_land hx hb dX0_isMultiple_32 ?_
      refine lv_lconst (v := 0) hx hb dX0_isMultiple_33 (by decide) ?_
      refine W.lcmp hx hb dX0_isMultiple_34 ?_
      refine lv_if_ne (tgt := 42) hx hb dX0_isMultiple_35 (by decide) (fun c_35 => ?_) (fun c_35 => ?_)
      · replace hE := hE.trans (if_neg c_35)
        refine lv_iconst (v := 0) hx hb dX0_isMultiple_42 (by decide) ?_
        exact W.zret hx hb hr (isB_nar isB_0) (fun t ht hW => ⟨_, rfl, hE.symm, ht⟩) (fun _ h => by cases h) dX0_isMultiple_43
      · replace hE := hE.trans (if_pos c_35)
        refine lv_iconst (v := 1) hx hb dX0_isMultiple_38 (by decide) ?_
        refine lv_goto (tgt := 43) hx hb dX0_isMultiple_39 (by decide) ?_
        exact W.zret hx hb hr (isB_nar isB_1) (fun t ht hW => ⟨_, rfl, hE.symm, ht⟩) (fun _ h => by cases h) dX0_isMultiple_43
    · replace hE := hE.trans (if_neg c_9)
      refine lv_lload_n hx hb dX0_isMultiple_12 rfl (lv_at hl 0 rfl) ?_
      refine lv_lconst (v := 0) hx hb dX0_isMultiple_13 (by decide) ?_
      refine W.lcmp hx hb dX0_isMultiple_14 ?_
      refine lv_if_ne (tgt := 22) hx hb dX0_isMultiple_15 (by decide) (fun c_15 => ?_) (fun c_15 => ?_)
      · replace hE := hE.trans (if_neg c_15)
        refine lv_iconst (v := 0) hx hb dX0_isMultiple_22 (by decide) ?_
        refine lv_goto (tgt := 43) hx hb dX0_isMultiple_23 (by decide) ?_
        exact W.zret hx hb hr (isB_nar isB_0) (fun t ht hW => ⟨_, rfl, hE.symm, ht⟩) (fun _ h => by cases h) dX0_isMultiple_43
      · replace hE := hE.trans (if_pos c_15)
        refine lv_iconst (v := 1) hx hb dX0_isMultiple_18 (by decide) ?_
        refine lv_goto (tgt := 43) hx hb dX0_isMultiple_19 (by decide) ?_
        exact W.zret hx hb hr (isB_nar isB_1) (fun t ht hW => ⟨_, rfl, hE.symm, ht⟩) (fun _ h => by cases h) dX0_isMultiple_43
  · replace hE := hE.trans (if_neg c_1)
    refine lv_iconst (v := 1) hx hb dX0_isMultiple_4 (by decide) ?_
    exact W.zret hx hb hr (isB_nar isB_1) (fun t ht hW => ⟨_, rfl, hE.symm, ht⟩) (fun _ h => by cases h) dX0_isMultiple_5
/-! X0_withTrace -/
def fX0_withTrace (x0 : Int64) (x2 : Int32) : Int64 := (if x2 = 0 then x0 else (x0 ||| (1 : Int64)))
set_option maxHeartbeats 4000000 in
set_option maxRecDepth 100000 in
theorem ccX0_withTrace (l : Launch) (x0 : Int64) (x2 : Int32)  : Met l yX0_withTrace wsX0_withTrace { frames := 0, cells := 0, slots := 0, locals := 0 } (va_Pc [.long x0, .int x2] (fun _ => True)) (vp_Sl (fun r => r = fX0_withTrace x0 x2)) 0 0 (fun _ => False) := by
  refine Met.ofW (cc := cX0_withTrace) (maxL := 3) (ret := (some .long)) (by decide) rfl ?_
  intro p e s m args below meth c s₁ B hml hv
  obtain ⟨rfl, -⟩ := hv
  have hx := B.exec
  have hb := B.bytes
  have hr := B.returns
  have hts := atoms_spec (ws := wsX0_withTrace) B.pre
  have hown : s.vm.findClass RX0 = some m.cls := findClass_of_methodNamed B.named
  have hlocks := B.notSynchronized
  have hl := lv_entry ([.long x0, .int x2]) (n := 3) (Nat.le_of_ble_eq_true rfl)
  rw [lg_entry_eq]
  generalize (lg_sl ([.long x0, .int x2]) ++ List.replicate (3 - (lg_sl ([.long x0, .int x2])).length) Slot.unset).toArray = ls at hl ⊢
  have hl : lv_has ls 3 [(0, .long x0), (2, .int x2)] := hl
  have hE : fX0_withTrace x0 x2 = fX0_withTrace x0 x2 := rfl
  refine lv_iload_n hx hb dX0_withTrace_0 rfl (lv_at hl 1 rfl) ?_
  refine lv_if_eq (tgt := 10) hx hb dX0_withTrace_1 (by decide) (fun c_1 => ?_) (fun c_1 => ?_)
  · replace hE := hE.trans (if_pos c_1)
    refine lv_lload_n hx hb dX0_withTrace_10 rfl (lv_at hl 0 rfl) ?_
    exact W.lret hx hb hr (fun t ht hW => ⟨_, rfl, hE.symm, ht⟩) (fun _ h => by cases h) dX0_withTrace_11
  · replace hE := hE.trans (if_neg c_1)
    refine lv_lload_n hx hb dX0_withTrace_4 rfl (lv_at hl 0 rfl) ?_
    refine lv_lconst (v := 1) hx hb dX0_withTrace_5 (by decide) ?_
    refine lv_lor hx hb dX0_withTrace_6 ?_
    refine lv_goto (tgt := 11) hx hb dX0_withTrace_7 (by decide) ?_
    exact W.lret hx hb hr (fun t ht hW => ⟨_, rfl, hE.symm, ht⟩) (fun _ h => by cases h) dX0_withTrace_11
/-! X0_aligned -/
def fX0_aligned_k28 (z0 : Int64) (z1 : Int32) : Int64 := (fX0_withTrace z0 z1)
def fX0_aligned (x0 : Int64) (x2 : Int32) : Int64 := (if x2 < 0 then (if ((fX0_isMultiple x0 ((-x2)))) = 0 then fX0_aligned_k28 ((fX0_shiftedRight x0 ((-x2)))) (1 : Int32) else fX0_aligned_k28 ((fX0_shiftedRight x0 ((-x2)))) (0 : Int32)) else (x0 <<< (Int32.toInt64 x2 &&& 63)))
set_option maxHeartbeats 4000000 in
set_option maxRecDepth 100000 in
theorem ccX0_aligned (l : Launch) (x0 : Int64) (x2 : Int32)  : Met l yX0_aligned wsX0_aligned { frames := 1, cells := 0, slots := 0, locals := 22 } (va_Pc [.long x0, .int x2] (fun _ => True)) (vp_Sl (fun r => r = fX0_aligned x0 x2)) 0 0 (fun _ => False) := by
  refine Met.ofW (cc := cX0_aligned) (maxL := 3) (ret := (some .long)) (by decide) rfl ?_
  intro p e s m args below meth c s₁ B hml hv
  obtain ⟨rfl, -⟩ := hv
  have hx := B.exec
  have hb := B.bytes
  have hr := B.returns
  have hts := atoms_spec (ws := wsX0_aligned) B.pre
  have hown : s.vm.findClass RX0 = some m.cls := findClass_of_methodNamed B.named
  have hlocks := B.notSynchronized
  have hl := lv_entry ([.long x0, .int x2]) (n := 3) (Nat.le_of_ble_eq_true rfl)
  rw [lg_entry_eq]
  generalize (lg_sl ([.long x0, .int x2]) ++ List.replicate (3 - (lg_sl ([.long x0, .int x2])).length) Slot.unset).toArray = ls at hl ⊢
  have hl : lv_has ls 3 [(0, .long x0), (2, .int x2)] := hl
  have j_28 : ∀ (z0 : Int64) (z1 : Int32) (ls : Array Slot), lv_has ls 3 [] → isB z1 → fX0_aligned x0 x2 = fX0_aligned_k28 z0 z1 → W p l e (headSpec wsX0_aligned { frames := 1, cells := 0, slots := 0, locals := 22 }).room s m ([.long x0, .int x2] : List Value).toArray below meth c s.heap [] 0 0 (MQ below (vp_Sl (fun r => r = fX0_aligned x0 x2)) ([.long x0, .int x2] : List Value).toArray s 0 0 (fun _ => False)) (F0 m 28 ls [.int z1, .long z0]) := by
    intro z0 z1 ls hl b_z1 hE
    refine vp_callSl (W.runS (As := [.long z0, .int z1]) (rest := []) ⟨hx, hb, hml, hown, hts⟩ (ccX0_withTrace l z0 z1 ) (va_cwS 2 hts gX0_aligned_X0_withTrace rfl rfl rfl (by decide +kernel) ⟨Nat.le_of_ble_eq_true rfl, Nat.le_of_ble_eq_true rfl⟩) st_pre rfl rfl hl.1 rfl (lv_room (Nat.le_of_ble_eq_true rfl)) dX0_aligned_28 ⟨Nat.zero_le _, Nat.zero_le _⟩) (fun r hw => ?_)
    subst hw
    exact W.lret hx hb hr (fun t ht hW => ⟨_, rfl, hE.symm, ht⟩) (fun _ h => by cases h) dX0_aligned_31
  have hE : fX0_aligned x0 x2 = fX0_aligned x0 x2 := rfl
  refine lv_iload_n hx hb dX0_aligned_0 rfl (lv_at hl 1 rfl) ?_
  refine lv_if_lt (tgt := 8) hx hb dX0_aligned_1 (by decide) (fun c_1 => ?_) (fun c_1 => ?_)
  · replace hE := hE.trans (if_pos c_1)
    refine lv_lload_n hx hb dX0_aligned_8 rfl (lv_at hl 0 rfl) ?_
    refine lv_iload_n hx hb dX0_aligned_9 rfl (lv_at hl 1 rfl) ?_
    refine lv_ineg hx hb dX0_aligned_10 ?_
    refine vp_callSl (W.runS (As := [.long x0, .int (-x2)]) (rest := []) ⟨hx, hb, hml, hown, hts⟩ (ccX0_shiftedRight l x0 ((-x2)) ) (va_cwS 2 hts gX0_aligned_X0_shiftedRight rfl rfl rfl (by decide +kernel) ⟨Nat.le_of_ble_eq_true rfl, Nat.le_of_ble_eq_true rfl⟩) st_pre rfl rfl hl.1 rfl (lv_room (Nat.le_of_ble_eq_true rfl)) dX0_aligned_11 ⟨Nat.zero_le _, Nat.zero_le _⟩) (fun r hw => ?_)
    subst hw
    refine lv_lload_n hx hb dX0_aligned_14 rfl (lv_at hl 0 rfl) ?_
    refine lv_iload_n hx hb dX0_aligned_15 rfl (lv_at hl 1 rfl) ?_
    refine lv_ineg hx hb dX0_aligned_16 ?_
    refine vp_callSi (W.runS (As := [.long x0, .int (-x2)]) (rest := [.long (fX0_shiftedRight x0 ((-x2)))]) ⟨hx, hb, hml, hown, hts⟩ (ccX0_isMultiple l x0 ((-x2)) ) (va_cwS 2 hts gX0_aligned_X0_isMultiple rfl rfl rfl (by decide +kernel) ⟨Nat.le_of_ble_eq_true rfl, Nat.le_of_ble_eq_true rfl⟩) st_pre rfl rfl hl.1 rfl (lv_room (Nat.le_of_ble_eq_true rfl)) dX0_aligned_17 ⟨Nat.zero_le _, Nat.zero_le _⟩) (fun r hw => ?_)
    subst hw
    refine lv_if_ne (tgt := 27) hx hb dX0_aligned_20 (by decide) (fun c_20 => ?_) (fun c_20 => ?_)
    · replace hE := hE.trans (if_neg c_20)
      refine lv_iconst (v := 0) hx hb dX0_aligned_27 (by decide) ?_
      exact j_28 ((fX0_shiftedRight x0 ((-x2)))) (0 : Int32) _ (lv_sub hl [] rfl) isB_0 hE
    · replace hE := hE.trans (if_pos c_20)
      refine lv_iconst (v := 1) hx hb dX0_aligned_23 (by decide) ?_
      refine lv_goto (tgt := 28) hx hb dX0_aligned_24 (by decide) ?_
      exact j_28 ((fX0_shiftedRight x0 ((-x2)))) (1 : Int32) _ (lv_sub hl [] rfl) isB_1 hE
  · replace hE := hE.trans (if_neg c_1)
    refine lv_lload_n hx hb dX0_aligned_4 rfl (lv_at hl 0 rfl) ?_
    refine lv_iload_n hx hb dX0_aligned_5 rfl (lv_at hl 1 rfl) ?_
    refine lv_lshl hx hb dX0_aligned_6 rfl ?_
    exact W.lret hx hb hr (fun t ht hW => ⟨_, rfl, hE.symm, ht⟩) (fun _ h => by cases h) dX0_aligned_7
/-! X0_isTiny -/
def fX0_isTiny (x0 : Int64) (x2 : Int32) : Int32 := (if (-125 : Int32) ≤ ((x2 + ((fX0_bitLength x0)))) then (0 : Int32) else (1 : Int32))
set_option maxHeartbeats 4000000 in
set_option maxRecDepth 100000 in
theorem ccX0_isTiny (l : Launch) (x0 : Int64) (x2 : Int32)  : Met l yX0_isTiny wsX0_isTiny { frames := 3, cells := 0, slots := 0, locals := 64 } (va_Pc [.long x0, .int x2] (fun _ => True)) (vp_Si (fun r => r = fX0_isTiny x0 x2)) 0 0 (fun _ => False) := by
  refine Met.ofW (cc := cX0_isTiny) (maxL := 3) (ret := (some .boolean)) (by decide) rfl ?_
  intro p e s m args below meth c s₁ B hml hv
  obtain ⟨rfl, -⟩ := hv
  have hx := B.exec
  have hb := B.bytes
  have hr := B.returns
  have hts := atoms_spec (ws := wsX0_isTiny) B.pre
  have hown : s.vm.findClass RX0 = some m.cls := findClass_of_methodNamed B.named
  have hlocks := B.notSynchronized
  have hl := lv_entry ([.long x0, .int x2]) (n := 3) (Nat.le_of_ble_eq_true rfl)
  rw [lg_entry_eq]
  generalize (lg_sl ([.long x0, .int x2]) ++ List.replicate (3 - (lg_sl ([.long x0, .int x2])).length) Slot.unset).toArray = ls at hl ⊢
  have hl : lv_has ls 3 [(0, .long x0), (2, .int x2)] := hl
  have hE : fX0_isTiny x0 x2 = fX0_isTiny x0 x2 := rfl
  refine lv_iload_n hx hb dX0_isTiny_0 rfl (lv_at hl 1 rfl) ?_
  refine lv_lload_n hx hb dX0_isTiny_1 rfl (lv_at hl 0 rfl) ?_
  refine vp_callSi (W.runS (As := [.long x0]) (rest := [.int x2]) ⟨hx, hb, hml, hown, hts⟩ (ccX0_bitLength l x0 ) (va_cwS 1 hts gX0_isTiny_X0_bitLength rfl rfl rfl (by decide +kernel) ⟨Nat.le_of_ble_eq_true rfl, Nat.le_of_ble_eq_true rfl⟩) st_pre rfl rfl hl.1 rfl (lv_room (Nat.le_of_ble_eq_true rfl)) dX0_isTiny_2 ⟨Nat.zero_le _, Nat.zero_le _⟩) (fun r hw => ?_)
  subst hw
  refine lv_iadd hx hb dX0_isTiny_5 ?_
  refine lv_bipush (v := -125) hx hb dX0_isTiny_6 (by decide) ?_
  refine lv_icmp_ge (tgt := 15) hx hb dX0_isTiny_8 (by decide) (fun c_8 => ?_) (fun c_8 => ?_)
  · replace hE := hE.trans (if_pos c_8)
    refine lv_iconst (v := 0) hx hb dX0_isTiny_15 (by decide) ?_
    exact W.zret hx hb hr (isB_nar isB_0) (fun t ht hW => ⟨_, rfl, hE.symm, ht⟩) (fun _ h => by cases h) dX0_isTiny_16
  · replace hE := hE.trans (if_neg c_8)
    refine lv_iconst (v := 1) hx hb dX0_isTiny_11 (by decide) ?_
    refine lv_goto (tgt := 16) hx hb dX0_isTiny_12 (by decide) ?_
    exact W.zret hx hb hr (isB_nar isB_1) (fun t ht hW => ⟨_, rfl, hE.symm, ht⟩) (fun _ h => by cases h) dX0_isTiny_16
/-! X0_floorRoot -/
def fX0_floorRoot_k6 : Nat → Int64 → Int64 → Int32 → Int64
  | 0, _, _, _ => 0
  | n + 1, y0, y2, y4 => (if y4 < 0 then y2 else (if 0 < ((lg_cmp ((((y2 ||| (((1 : Int64) <<< (Int32.toInt64 y4 &&& 63))))) * ((y2 ||| (((1 : Int64) <<< (Int32.toInt64 y4 &&& 63))))))) y0)) then fX0_floorRoot_k6 n y0 y2 ((y4 + (-1 : Int32))) else fX0_floorRoot_k6 n y0 ((y2 ||| (((1 : Int64) <<< (Int32.toInt64 y4 &&& 63))))) ((y4 + (-1 : Int32)))))
theorem fX0_floorRoot_k6_s (n : Nat) (y0 : Int64) (y2 : Int64) (y4 : Int32) : fX0_floorRoot_k6 (n + 1) y0 y2 y4 = (if y4 < 0 then y2 else (if 0 < ((lg_cmp ((((y2 ||| (((1 : Int64) <<< (Int32.toInt64 y4 &&& 63))))) * ((y2 ||| (((1 : Int64) <<< (Int32.toInt64 y4 &&& 63))))))) y0)) then fX0_floorRoot_k6 n y0 y2 ((y4 + (-1 : Int32))) else fX0_floorRoot_k6 n y0 ((y2 ||| (((1 : Int64) <<< (Int32.toInt64 y4 &&& 63))))) ((y4 + (-1 : Int32))))) := rfl
def fX0_floorRoot (x0 : Int64) : Int64 := fX0_floorRoot_k6 32 x0 (0 : Int64) (30 : Int32)
set_option maxHeartbeats 4000000 in
set_option maxRecDepth 100000 in
theorem ccX0_floorRoot (l : Launch) (x0 : Int64)  : Met l yX0_floorRoot wsX0_floorRoot { frames := 0, cells := 0, slots := 0, locals := 0 } (va_Pc [.long x0] (fun _ => True)) (vp_Sl (fun r => r = fX0_floorRoot x0)) 0 0 (fun _ => False) := by
  refine Met.ofW (cc := cX0_floorRoot) (maxL := 7) (ret := (some .long)) (by decide) rfl ?_
  intro p e s m args below meth c s₁ B hml hv
  obtain ⟨rfl, -⟩ := hv
  have hx := B.exec
  have hb := B.bytes
  have hr := B.returns
  have hts := atoms_spec (ws := wsX0_floorRoot) B.pre
  have hown : s.vm.findClass RX0 = some m.cls := findClass_of_methodNamed B.named
  have hlocks := B.notSynchronized
  have hl := lv_entry ([.long x0]) (n := 7) (Nat.le_of_ble_eq_true rfl)
  rw [lg_entry_eq]
  generalize (lg_sl ([.long x0]) ++ List.replicate (7 - (lg_sl ([.long x0])).length) Slot.unset).toArray = ls at hl ⊢
  have hl : lv_has ls 7 [(0, .long x0)] := hl
  have j_6 : ∀ (n : Nat) (y0 : Int64) (y2 : Int64) (y4 : Int32) (ls : Array Slot), lv_has ls 7 [(0, .long y0), (2, .long y2), (4, .int y4)] → dsc 31 y4 n → fX0_floorRoot x0 = fX0_floorRoot_k6 n y0 y2 y4 → W p l e (headSpec wsX0_floorRoot { frames := 0, cells := 0, slots := 0, locals := 0 }).room s m ([.long x0] : List Value).toArray below meth c s.heap [] 0 0 (MQ below (vp_Sl (fun r => r = fX0_floorRoot x0)) ([.long x0] : List Value).toArray s 0 0 (fun _ => False)) (F0 m 6 ls []) := by
    intro n
    induction n with
    | zero =>
      intro y0 y2 y4 ls hl hM hE
      exact absurd hM dsc_0
    | succ n ih =>
      intro y0 y2 y4 ls hl hM hE
      replace hE := hE.trans (fX0_floorRoot_k6_s n y0 y2 y4)
      refine lv_iload hx hb dX0_floorRoot_6 (lv_at hl 2 rfl) ?_
      refine lv_if_lt (tgt := 38) hx hb dX0_floorRoot_8 (by decide) (fun c_8 => ?_) (fun c_8 => ?_)
      · replace hE := hE.trans (if_pos c_8)
        refine lv_lload_n hx hb dX0_floorRoot_38 rfl (lv_at hl 1 rfl) ?_
        exact W.lret hx hb hr (fun t ht hW => ⟨_, rfl, hE.symm, ht⟩) (fun _ h => by cases h) dX0_floorRoot_39
      · replace hE := hE.trans (if_neg c_8)
        refine lv_lload_n hx hb dX0_floorRoot_11 rfl (lv_at hl 1 rfl) ?_
        refine lv_lconst (v := 1) hx hb dX0_floorRoot_12 (by decide) ?_
        refine lv_iload hx hb dX0_floorRoot_13 (lv_at hl 2 rfl) ?_
        refine lv_lshl hx hb dX0_floorRoot_15 rfl ?_
        refine lv_lor hx hb dX0_floorRoot_16 ?_
        refine lv_lstore (lv' := [(5, .long (y2 ||| (((1 : Int64) <<< (Int32.toInt64 y4 &&& 63))))), (0, .long y0), (2, .long y2), (4, .int y4)]) hx hb dX0_floorRoot_17 hl (by decide) rfl (fun ls hl => ?_)
        refine lv_lload hx hb dX0_floorRoot_19 (lv_at hl 0 rfl) ?_
        refine lv_lload hx hb dX0_floorRoot_21 (lv_at hl 0 rfl) ?_
        refine lv_lmul hx hb dX0_floorRoot_23 ?_
        refine lv_lload_n hx hb dX0_floorRoot_24 rfl (lv_at hl 1 rfl) ?_
        refine W.lcmp hx hb dX0_floorRoot_25 ?_
        refine lv_if_gt (tgt := 32) hx hb dX0_floorRoot_26 (by decide) (fun c_26 => ?_) (fun c_26 => ?_)
        · replace hE := hE.trans (if_pos c_26)
          refine lv_iinc (v := (y4 + (-1 : Int32))) (lv' := [(4, .int (y4 + (-1 : Int32))), (5, .long (y2 ||| (((1 : Int64) <<< (Int32.toInt64 y4 &&& 63))))), (0, .long y0), (2, .long y2)]) hx hb dX0_floorRoot_32 hl (k := 3) rfl rfl (by decide) rfl (fun ls hl => ?_)
          refine lv_goto (tgt := 6) hx hb dX0_floorRoot_35 (by decide) ?_
          exact ih y0 y2 ((y4 + (-1 : Int32))) _ (lv_sub hl [2, 3, 0] rfl)  (dsc_step hM (i32_nlt0 c_8)) hE
        · replace hE := hE.trans (if_neg c_26)
          refine lv_lload hx hb dX0_floorRoot_29 (lv_at hl 0 rfl) ?_
          refine lv_lstore_n (lv' := [(2, .long (y2 ||| (((1 : Int64) <<< (Int32.toInt64 y4 &&& 63))))), (5, .long (y2 ||| (((1 : Int64) <<< (Int32.toInt64 y4 &&& 63))))), (0, .long y0), (4, .int y4)]) hx hb dX0_floorRoot_31 rfl hl (by decide) rfl (fun ls hl => ?_)
          refine lv_iinc (v := (y4 + (-1 : Int32))) (lv' := [(4, .int (y4 + (-1 : Int32))), (2, .long (y2 ||| (((1 : Int64) <<< (Int32.toInt64 y4 &&& 63))))), (5, .long (y2 ||| (((1 : Int64) <<< (Int32.toInt64 y4 &&& 63))))), (0, .long y0)]) hx hb dX0_floorRoot_32 hl (k := 3) rfl rfl (by decide) rfl (fun ls hl => ?_)
          refine lv_goto (tgt := 6) hx hb dX0_floorRoot_35 (by decide) ?_
          exact ih y0 ((y2 ||| (((1 : Int64) <<< (Int32.toInt64 y4 &&& 63))))) ((y4 + (-1 : Int32))) _ (lv_sub hl [3, 1, 0] rfl)  (dsc_step hM (i32_nlt0 c_8)) hE
  have hE : fX0_floorRoot x0 = fX0_floorRoot x0 := rfl
  refine lv_lconst (v := 0) hx hb dX0_floorRoot_0 (by decide) ?_
  refine lv_lstore_n (lv' := [(2, .long (0 : Int64)), (0, .long x0)]) hx hb dX0_floorRoot_1 rfl hl (by decide) rfl (fun ls hl => ?_)
  refine lv_bipush (v := 30) hx hb dX0_floorRoot_2 (by decide) ?_
  refine lv_istore (lv' := [(4, .int (30 : Int32)), (2, .long (0 : Int64)), (0, .long x0)]) hx hb dX0_floorRoot_4 hl (by decide) rfl (fun ls hl => ?_)
  exact j_6 32 x0 (0 : Int64) (30 : Int32) _ (lv_sub hl [2, 1, 0] rfl)  (⟨by decide, by decide, by decide⟩) hE
end
