theorem dX0_init_0 : decode cX0_init 0 = .ok (.aload_n 0, 1) := by decide +kernel
theorem dX0_init_1 : decode cX0_init 1 = .ok (.invokespecial 1, 3) := by decide +kernel
theorem dX0_init_4 : decode cX0_init 4 = .ok (.aload_n 0, 1) := by decide +kernel
theorem dX0_init_5 : decode cX0_init 5 = .ok (.iconst 0, 1) := by decide +kernel
theorem dX0_init_6 : decode cX0_init 6 = .ok (.putfield 9, 3) := by decide +kernel
theorem dX0_init_9 : decode cX0_init 9 = .ok (.aload_n 0, 1) := by decide +kernel
theorem dX0_init_10 : decode cX0_init 10 = .ok (.iconst 0, 1) := by decide +kernel
theorem dX0_init_11 : decode cX0_init 11 = .ok (.putfield 13, 3) := by decide +kernel
theorem dX0_init_14 : decode cX0_init 14 = .ok (.return_, 1) := by decide +kernel
theorem dX0_round_0 : decode cX0_round 0 = .ok (.iload_n 1, 1) := by decide +kernel
theorem dX0_round_1 : decode cX0_round 1 = .ok (.ifCond .lt 8, 3) := by decide +kernel
theorem dX0_round_4 : decode cX0_round 4 = .ok (.iload_n 1, 1) := by decide +kernel
theorem dX0_round_5 : decode cX0_round 5 = .ok (.iconst 3, 1) := by decide +kernel
theorem dX0_round_6 : decode cX0_round 6 = .ok (.if_icmp .le 5, 3) := by decide +kernel
theorem dX0_round_9 : decode cX0_round 9 = .ok (.iconst 0, 1) := by decide +kernel
theorem dX0_round_10 : decode cX0_round 10 = .ok (.ireturn, 1) := by decide +kernel
theorem dX0_round_11 : decode cX0_round 11 = .ok (.aload_n 0, 1) := by decide +kernel
theorem dX0_round_12 : decode cX0_round 12 = .ok (.iload_n 1, 1) := by decide +kernel
theorem dX0_round_13 : decode cX0_round 13 = .ok (.putfield 9, 3) := by decide +kernel
theorem dX0_round_16 : decode cX0_round 16 = .ok (.iconst 1, 1) := by decide +kernel
theorem dX0_round_17 : decode cX0_round 17 = .ok (.ireturn, 1) := by decide +kernel
theorem dX0_mode_0 : decode cX0_mode 0 = .ok (.aload_n 0, 1) := by decide +kernel
theorem dX0_mode_1 : decode cX0_mode 1 = .ok (.getfield 9, 3) := by decide +kernel
theorem dX0_mode_4 : decode cX0_mode 4 = .ok (.ireturn, 1) := by decide +kernel
theorem dX0_flags_0 : decode cX0_flags 0 = .ok (.aload_n 0, 1) := by decide +kernel
theorem dX0_flags_1 : decode cX0_flags 1 = .ok (.getfield 13, 3) := by decide +kernel
theorem dX0_flags_4 : decode cX0_flags 4 = .ok (.ireturn, 1) := by decide +kernel
theorem dX0_clear_0 : decode cX0_clear 0 = .ok (.aload_n 0, 1) := by decide +kernel
theorem dX0_clear_1 : decode cX0_clear 1 = .ok (.getfield 13, 3) := by decide +kernel
theorem dX0_clear_4 : decode cX0_clear 4 = .ok (.istore_n 1, 1) := by decide +kernel
theorem dX0_clear_5 : decode cX0_clear 5 = .ok (.aload_n 0, 1) := by decide +kernel
theorem dX0_clear_6 : decode cX0_clear 6 = .ok (.iconst 0, 1) := by decide +kernel
theorem dX0_clear_7 : decode cX0_clear 7 = .ok (.putfield 13, 3) := by decide +kernel
theorem dX0_clear_10 : decode cX0_clear 10 = .ok (.iload_n 1, 1) := by decide +kernel
theorem dX0_clear_11 : decode cX0_clear 11 = .ok (.ireturn, 1) := by decide +kernel
set_option maxRecDepth 20000 in
theorem ggX0_add_X0_productPlus : GoodIn wsX0_add wsX0_productPlus := goodIn_r _ [6, 7, 8, 9, 5, 10, 11, 12, 13, 14, 15, 16, 17, 18, 19, 20, 21, 22, 23, 24, 25, 26, 27, 28, 29, 30, 31, 32, 33, 34, 35, 36, 37, 38, 39, 40, 41, 42, 43, 44, 45, 46, 47, 48, 49, 50, 51, 52, 53, 54, 55, 56, 57, 58, 59, 60, 61, 62, 63, 64, 65, 66, 67, 68, 69, 70, 71, 72, 73, 74, 75, 76, 77, 78, 79, 80, 81, 82, 83, 84, 85, 86, 87, 88, 89, 90, 91, 92, 93, 94, 95, 96, 97, 98, 99, 100, 101, 102, 103, 104, 105, 106, 107, 108, 109, 110, 111, 112, 113, 114, 115, 116, 117, 118, 119, 120, 121, 122, 123] (by decide +kernel) (by decide +kernel)
set_option maxRecDepth 20000 in
theorem gX0_add_X0_productPlus : GoodIn wsX0_add (wsV RX0 17 RX0 yX0_productPlus wsX0_productPlus) := goodIn_app (goodIn_of _ (by decide +kernel)) ggX0_add_X0_productPlus
theorem dX0_add_0 : decode cX0_add 0 = .ok (.aload_n 0, 1) := by decide +kernel
theorem dX0_add_1 : decode cX0_add 1 = .ok (.ldc 16, 2) := by decide +kernel
theorem dX0_add_3 : decode cX0_add 3 = .ok (.iload_n 1, 1) := by decide +kernel
theorem dX0_add_4 : decode cX0_add 4 = .ok (.iload_n 2, 1) := by decide +kernel
theorem dX0_add_5 : decode cX0_add 5 = .ok (.invokevirtual 17, 3) := by decide +kernel
theorem dX0_add_8 : decode cX0_add 8 = .ok (.ireturn, 1) := by decide +kernel
set_option maxRecDepth 20000 in
theorem ggX0_subtract_X0_productPlus : GoodIn wsX0_subtract wsX0_productPlus := goodIn_r _ [7, 8, 9, 10, 6, 11, 12, 13, 14, 15, 16, 17, 18, 19, 20, 21, 22, 23, 24, 25, 26, 27, 28, 29, 30, 31, 32, 33, 34, 35, 36, 37, 38, 39, 40, 41, 42, 43, 2, 44, 45, 46, 47, 48, 49, 50, 51, 52, 53, 54, 55, 56, 57, 58, 59, 60, 61, 62, 63, 64, 65, 66, 67, 68, 69, 70, 71, 72, 73, 74, 75, 76, 77, 78, 79, 80, 81, 82, 83, 84, 85, 86, 87, 88, 89, 90, 91, 92, 93, 94, 95, 96, 97, 98, 99, 100, 101, 102, 103, 104, 105, 106, 107, 108, 109, 110, 111, 112, 113, 114, 115, 116, 117, 118, 119, 120, 121, 122, 123] (by decide +kernel) (by decide +kernel)
set_option maxRecDepth 20000 in
theorem gX0_subtract_X0_productPlus : GoodIn wsX0_subtract (wsV RX0 17 RX0 yX0_productPlus wsX0_productPlus) := goodIn_app (goodIn_of _ (by decide +kernel)) ggX0_subtract_X0_productPlus
theorem dX0_subtract_0 : decode cX0_subtract 0 = .ok (.aload_n 0, 1) := by decide +kernel
theorem dX0_subtract_1 : decode cX0_subtract 1 = .ok (.ldc 16, 2) := by decide +kernel
theorem dX0_subtract_3 : decode cX0_subtract 3 = .ok (.iload_n 1, 1) := by decide +kernel
theorem dX0_subtract_4 : decode cX0_subtract 4 = .ok (.iload_n 2, 1) := by decide +kernel
theorem dX0_subtract_5 : decode cX0_subtract 5 = .ok (.ldc 21, 2) := by decide +kernel
theorem dX0_subtract_7 : decode cX0_subtract 7 = .ok (.ixor, 1) := by decide +kernel
theorem dX0_subtract_8 : decode cX0_subtract 8 = .ok (.invokevirtual 17, 3) := by decide +kernel
theorem dX0_subtract_11 : decode cX0_subtract 11 = .ok (.ireturn, 1) := by decide +kernel
set_option maxRecDepth 20000 in
theorem ggX0_multiply_X0_isNoNumber : GoodIn wsX0_multiply wsX0_isNoNumber := goodIn_r _ [5, 6, 1] (by decide +kernel) (by decide +kernel)
set_option maxRecDepth 20000 in
theorem gX0_multiply_X0_isNoNumber : GoodIn wsX0_multiply (va_wsS RX0 22 yX0_isNoNumber wsX0_isNoNumber) := goodIn_app (goodIn_of _ (by decide +kernel)) ggX0_multiply_X0_isNoNumber
set_option maxRecDepth 20000 in
theorem ggX0_multiply_X0_isLoud : GoodIn wsX0_multiply wsX0_isLoud := goodIn_r _ [9, 10, 11, 2, 3, 4, 5, 6, 1] (by decide +kernel) (by decide +kernel)
set_option maxRecDepth 20000 in
theorem gX0_multiply_X0_isLoud : GoodIn wsX0_multiply (va_wsS RX0 26 yX0_isLoud wsX0_isLoud) := goodIn_app (goodIn_of _ (by decide +kernel)) ggX0_multiply_X0_isLoud
set_option maxRecDepth 20000 in
theorem ggX0_multiply_X0_noNumber : GoodIn wsX0_multiply wsX0_noNumber := goodIn_r _ [15, 16, 17, 18, 19, 4, 20, 21, 97, 98] (by decide +kernel) (by decide +kernel)
set_option maxRecDepth 20000 in
theorem gX0_multiply_X0_noNumber : GoodIn wsX0_multiply (wsV RX0 29 RX0 yX0_noNumber wsX0_noNumber) := goodIn_app (goodIn_of _ (by decide +kernel)) ggX0_multiply_X0_noNumber
set_option maxRecDepth 20000 in
theorem ggX0_multiply_X0_isZeroTimesInfinite : GoodIn wsX0_multiply wsX0_isZeroTimesInfinite := goodIn_r _ [24, 25, 26, 4, 27, 6, 28, 29, 30, 1] (by decide +kernel) (by decide +kernel)
set_option maxRecDepth 20000 in
theorem gX0_multiply_X0_isZeroTimesInfinite : GoodIn wsX0_multiply (va_wsS RX0 33 yX0_isZeroTimesInfinite wsX0_isZeroTimesInfinite) := goodIn_app (goodIn_of _ (by decide +kernel)) ggX0_multiply_X0_isZeroTimesInfinite
set_option maxRecDepth 20000 in
theorem ggX0_multiply_X0_invalid : GoodIn wsX0_multiply wsX0_invalid := goodIn_r _ [34, 16, 17, 18, 19, 4, 20, 21, 97, 98] (by decide +kernel) (by decide +kernel)
set_option maxRecDepth 20000 in
theorem gX0_multiply_X0_invalid : GoodIn wsX0_multiply (wsV RX0 37 RX0 yX0_invalid wsX0_invalid) := goodIn_app (goodIn_of _ (by decide +kernel)) ggX0_multiply_X0_invalid
set_option maxRecDepth 20000 in
theorem ggX0_multiply_X0_signOf : GoodIn wsX0_multiply wsX0_signOf := goodIn_r _ [37, 38] (by decide +kernel) (by decide +kernel)
set_option maxRecDepth 20000 in
theorem gX0_multiply_X0_signOf : GoodIn wsX0_multiply (va_wsS RX0 41 yX0_signOf wsX0_signOf) := goodIn_app (goodIn_of _ (by decide +kernel)) ggX0_multiply_X0_signOf
set_option maxRecDepth 20000 in
theorem ggX0_multiply_X0_isInfinite : GoodIn wsX0_multiply wsX0_isInfinite := goodIn_r _ [30, 6, 1] (by decide +kernel) (by decide +kernel)
set_option maxRecDepth 20000 in
theorem gX0_multiply_X0_isInfinite : GoodIn wsX0_multiply (va_wsS RX0 45 yX0_isInfinite wsX0_isInfinite) := goodIn_app (goodIn_of _ (by decide +kernel)) ggX0_multiply_X0_isInfinite
set_option maxRecDepth 20000 in
theorem ggX0_multiply_X0_magnitudeOf : GoodIn wsX0_multiply wsX0_magnitudeOf := goodIn_r _ [41, 10, 42, 43, 44, 4, 45, 6] (by decide +kernel) (by decide +kernel)
set_option maxRecDepth 20000 in
theorem gX0_multiply_X0_magnitudeOf : GoodIn wsX0_multiply (va_wsS RX0 49 yX0_magnitudeOf wsX0_magnitudeOf) := goodIn_app (goodIn_of _ (by decide +kernel)) ggX0_multiply_X0_magnitudeOf
set_option maxRecDepth 20000 in
theorem ggX0_multiply_X0_unitOf : GoodIn wsX0_multiply wsX0_unitOf := goodIn_r _ [48, 49, 50, 51, 52, 43, 44, 4, 45, 6] (by decide +kernel) (by decide +kernel)
set_option maxRecDepth 20000 in
theorem gX0_multiply_X0_unitOf : GoodIn wsX0_multiply (va_wsS RX0 53 yX0_unitOf wsX0_unitOf) := goodIn_app (goodIn_of _ (by decide +kernel)) ggX0_multiply_X0_unitOf
set_option maxRecDepth 20000 in
theorem ggX0_multiply_X0_rounded : GoodIn wsX0_multiply wsX0_rounded := goodIn_r _ [56, 49, 50, 51, 52, 57, 58, 59, 4, 60, 61, 62, 63, 64, 65, 66, 67, 68, 69, 70, 71, 72, 17, 18, 19, 20, 21, 73, 74, 75, 76, 77, 78, 79, 80, 81, 82, 83, 84, 85, 86, 87, 88, 89, 90, 91, 92, 93, 94, 95, 1, 96, 97, 98] (by decide +kernel) (by decide +kernel)
set_option maxRecDepth 20000 in
theorem gX0_multiply_X0_rounded : GoodIn wsX0_multiply (wsV RX0 56 RX0 yX0_rounded wsX0_rounded) := goodIn_app (goodIn_of _ (by decide +kernel)) ggX0_multiply_X0_rounded
theorem dX0_multiply_0 : decode cX0_multiply 0 = .ok (.iload_n 1, 1) := by decide +kernel
theorem dX0_multiply_1 : decode cX0_multiply 1 = .ok (.invokestatic 22, 3) := by decide +kernel
theorem dX0_multiply_4 : decode cX0_multiply 4 = .ok (.ifCond .ne 10, 3) := by decide +kernel
theorem dX0_multiply_7 : decode cX0_multiply 7 = .ok (.iload_n 2, 1) := by decide +kernel
theorem dX0_multiply_8 : decode cX0_multiply 8 = .ok (.invokestatic 22, 3) := by decide +kernel
theorem dX0_multiply_11 : decode cX0_multiply 11 = .ok (.ifCond .eq 27, 3) := by decide +kernel
theorem dX0_multiply_14 : decode cX0_multiply 14 = .ok (.aload_n 0, 1) := by decide +kernel
theorem dX0_multiply_15 : decode cX0_multiply 15 = .ok (.iload_n 1, 1) := by decide +kernel
theorem dX0_multiply_16 : decode cX0_multiply 16 = .ok (.invokestatic 26, 3) := by decide +kernel
theorem dX0_multiply_19 : decode cX0_multiply 19 = .ok (.ifCond .ne 10, 3) := by decide +kernel
theorem dX0_multiply_22 : decode cX0_multiply 22 = .ok (.iload_n 2, 1) := by decide +kernel
theorem dX0_multiply_23 : decode cX0_multiply 23 = .ok (.invokestatic 26, 3) := by decide +kernel
theorem dX0_multiply_26 : decode cX0_multiply 26 = .ok (.ifCond .eq 7, 3) := by decide +kernel
theorem dX0_multiply_29 : decode cX0_multiply 29 = .ok (.iconst 1, 1) := by decide +kernel
theorem dX0_multiply_30 : decode cX0_multiply 30 = .ok (.goto 4, 3) := by decide +kernel
theorem dX0_multiply_33 : decode cX0_multiply 33 = .ok (.iconst 0, 1) := by decide +kernel
theorem dX0_multiply_34 : decode cX0_multiply 34 = .ok (.invokevirtual 29, 3) := by decide +kernel
theorem dX0_multiply_37 : decode cX0_multiply 37 = .ok (.ireturn, 1) := by decide +kernel
theorem dX0_multiply_38 : decode cX0_multiply 38 = .ok (.iload_n 1, 1) := by decide +kernel
theorem dX0_multiply_39 : decode cX0_multiply 39 = .ok (.iload_n 2, 1) := by decide +kernel
theorem dX0_multiply_40 : decode cX0_multiply 40 = .ok (.invokestatic 33, 3) := by decide +kernel
theorem dX0_multiply_43 : decode cX0_multiply 43 = .ok (.ifCond .eq 8, 3) := by decide +kernel
theorem dX0_multiply_46 : decode cX0_multiply 46 = .ok (.aload_n 0, 1) := by decide +kernel
theorem dX0_multiply_47 : decode cX0_multiply 47 = .ok (.invokevirtual 37, 3) := by decide +kernel
theorem dX0_multiply_50 : decode cX0_multiply 50 = .ok (.ireturn, 1) := by decide +kernel
theorem dX0_multiply_51 : decode cX0_multiply 51 = .ok (.iload_n 1, 1) := by decide +kernel
theorem dX0_multiply_52 : decode cX0_multiply 52 = .ok (.iload_n 2, 1) := by decide +kernel
theorem dX0_multiply_53 : decode cX0_multiply 53 = .ok (.ixor, 1) := by decide +kernel
theorem dX0_multiply_54 : decode cX0_multiply 54 = .ok (.invokestatic 41, 3) := by decide +kernel
theorem dX0_multiply_57 : decode cX0_multiply 57 = .ok (.istore_n 3, 1) := by decide +kernel
theorem dX0_multiply_58 : decode cX0_multiply 58 = .ok (.iload_n 1, 1) := by decide +kernel
theorem dX0_multiply_59 : decode cX0_multiply 59 = .ok (.invokestatic 45, 3) := by decide +kernel
theorem dX0_multiply_62 : decode cX0_multiply 62 = .ok (.ifCond .ne 10, 3) := by decide +kernel
theorem dX0_multiply_65 : decode cX0_multiply 65 = .ok (.iload_n 2, 1) := by decide +kernel
theorem dX0_multiply_66 : decode cX0_multiply 66 = .ok (.invokestatic 45, 3) := by decide +kernel
theorem dX0_multiply_69 : decode cX0_multiply 69 = .ok (.ifCond .eq 8, 3) := by decide +kernel
theorem dX0_multiply_72 : decode cX0_multiply 72 = .ok (.iload_n 3, 1) := by decide +kernel
theorem dX0_multiply_73 : decode cX0_multiply 73 = .ok (.ldc 48, 2) := by decide +kernel
theorem dX0_multiply_75 : decode cX0_multiply 75 = .ok (.ior, 1) := by decide +kernel
theorem dX0_multiply_76 : decode cX0_multiply 76 = .ok (.ireturn, 1) := by decide +kernel
theorem dX0_multiply_77 : decode cX0_multiply 77 = .ok (.aload_n 0, 1) := by decide +kernel
theorem dX0_multiply_78 : decode cX0_multiply 78 = .ok (.iload_n 3, 1) := by decide +kernel
theorem dX0_multiply_79 : decode cX0_multiply 79 = .ok (.iload_n 1, 1) := by decide +kernel
theorem dX0_multiply_80 : decode cX0_multiply 80 = .ok (.invokestatic 49, 3) := by decide +kernel
theorem dX0_multiply_83 : decode cX0_multiply 83 = .ok (.iload_n 2, 1) := by decide +kernel
theorem dX0_multiply_84 : decode cX0_multiply 84 = .ok (.invokestatic 49, 3) := by decide +kernel
theorem dX0_multiply_87 : decode cX0_multiply 87 = .ok (.lmul, 1) := by decide +kernel
theorem dX0_multiply_88 : decode cX0_multiply 88 = .ok (.iload_n 1, 1) := by decide +kernel
theorem dX0_multiply_89 : decode cX0_multiply 89 = .ok (.invokestatic 53, 3) := by decide +kernel
theorem dX0_multiply_92 : decode cX0_multiply 92 = .ok (.iload_n 2, 1) := by decide +kernel
theorem dX0_multiply_93 : decode cX0_multiply 93 = .ok (.invokestatic 53, 3) := by decide +kernel
theorem dX0_multiply_96 : decode cX0_multiply 96 = .ok (.iadd, 1) := by decide +kernel
theorem dX0_multiply_97 : decode cX0_multiply 97 = .ok (.invokevirtual 56, 3) := by decide +kernel
theorem dX0_multiply_100 : decode cX0_multiply 100 = .ok (.ireturn, 1) := by decide +kernel
set_option maxRecDepth 20000 in
theorem ggX0_divide_X0_isNoNumber : GoodIn wsX0_divide wsX0_isNoNumber := goodIn_r _ [5, 6, 1] (by decide +kernel) (by decide +kernel)
set_option maxRecDepth 20000 in
theorem gX0_divide_X0_isNoNumber : GoodIn wsX0_divide (va_wsS RX0 22 yX0_isNoNumber wsX0_isNoNumber) := goodIn_app (goodIn_of _ (by decide +kernel)) ggX0_divide_X0_isNoNumber
set_option maxRecDepth 20000 in
theorem ggX0_divide_X0_isLoud : GoodIn wsX0_divide wsX0_isLoud := goodIn_r _ [9, 10, 11, 2, 3, 4, 5, 6, 1] (by decide +kernel) (by decide +kernel)
set_option maxRecDepth 20000 in
theorem gX0_divide_X0_isLoud : GoodIn wsX0_divide (va_wsS RX0 26 yX0_isLoud wsX0_isLoud) := goodIn_app (goodIn_of _ (by decide +kernel)) ggX0_divide_X0_isLoud
set_option maxRecDepth 20000 in
theorem ggX0_divide_X0_noNumber : GoodIn wsX0_divide wsX0_noNumber := goodIn_r _ [15, 16, 17, 18, 19, 4, 20, 21, 97, 98] (by decide +kernel) (by decide +kernel)
set_option maxRecDepth 20000 in
theorem gX0_divide_X0_noNumber : GoodIn wsX0_divide (wsV RX0 29 RX0 yX0_noNumber wsX0_noNumber) := goodIn_app (goodIn_of _ (by decide +kernel)) ggX0_divide_X0_noNumber
set_option maxRecDepth 20000 in
theorem ggX0_divide_X0_isZero : GoodIn wsX0_divide wsX0_isZero := goodIn_r _ [24, 6] (by decide +kernel) (by decide +kernel)
set_option maxRecDepth 20000 in
theorem gX0_divide_X0_isZero : GoodIn wsX0_divide (va_wsS RX0 60 yX0_isZero wsX0_isZero) := goodIn_app (goodIn_of _ (by decide +kernel)) ggX0_divide_X0_isZero
set_option maxRecDepth 20000 in
theorem ggX0_divide_X0_isInfinite : GoodIn wsX0_divide wsX0_isInfinite := goodIn_r _ [27, 6, 1] (by decide +kernel) (by decide +kernel)
set_option maxRecDepth 20000 in
theorem gX0_divide_X0_isInfinite : GoodIn wsX0_divide (va_wsS RX0 45 yX0_isInfinite wsX0_isInfinite) := goodIn_app (goodIn_of _ (by decide +kernel)) ggX0_divide_X0_isInfinite
set_option maxRecDepth 20000 in
theorem ggX0_divide_X0_invalid : GoodIn wsX0_divide wsX0_invalid := goodIn_r _ [31, 16, 17, 18, 19, 4, 20, 21, 97, 98] (by decide +kernel) (by decide +kernel)
set_option maxRecDepth 20000 in
theorem gX0_divide_X0_invalid : GoodIn wsX0_divide (wsV RX0 37 RX0 yX0_invalid wsX0_invalid) := goodIn_app (goodIn_of _ (by decide +kernel)) ggX0_divide_X0_invalid
set_option maxRecDepth 20000 in
theorem ggX0_divide_X0_signOf : GoodIn wsX0_divide wsX0_signOf := goodIn_r _ [34, 35] (by decide +kernel) (by decide +kernel)
set_option maxRecDepth 20000 in
theorem gX0_divide_X0_signOf : GoodIn wsX0_divide (va_wsS RX0 41 yX0_signOf wsX0_signOf) := goodIn_app (goodIn_of _ (by decide +kernel)) ggX0_divide_X0_signOf
set_option maxRecDepth 20000 in
theorem ggX0_divide_X0_magnitudeOf : GoodIn wsX0_divide wsX0_magnitudeOf := goodIn_r _ [38, 10, 39, 40, 41, 4, 42, 6] (by decide +kernel) (by decide +kernel)
set_option maxRecDepth 20000 in
theorem gX0_divide_X0_magnitudeOf : GoodIn wsX0_divide (va_wsS RX0 49 yX0_magnitudeOf wsX0_magnitudeOf) := goodIn_app (goodIn_of _ (by decide +kernel)) ggX0_divide_X0_magnitudeOf
set_option maxRecDepth 20000 in
theorem ggX0_divide_X0_raise : GoodIn wsX0_divide wsX0_raise := goodIn_r _ [20, 21, 97, 98] (by decide +kernel) (by decide +kernel)
set_option maxRecDepth 20000 in
theorem gX0_divide_X0_raise : GoodIn wsX0_divide (wsV RX0 63 RX0 yX0_raise wsX0_raise) := goodIn_app (goodIn_of _ (by decide +kernel)) ggX0_divide_X0_raise
set_option maxRecDepth 20000 in
theorem ggX0_divide_X0_bitLength : GoodIn wsX0_divide wsX0_bitLength := goodIn_r _ [45, 46, 47, 48, 49, 50, 51, 52, 53, 54] (by decide +kernel) (by decide +kernel)
set_option maxRecDepth 20000 in
theorem gX0_divide_X0_bitLength : GoodIn wsX0_divide (va_wsS RX0 67 yX0_bitLength wsX0_bitLength) := goodIn_app (goodIn_of _ (by decide +kernel)) ggX0_divide_X0_bitLength
set_option maxRecDepth 20000 in
theorem ggX0_divide_X0_withTrace : GoodIn wsX0_divide wsX0_withTrace := goodIn_r _ [57] (by decide +kernel) (by decide +kernel)
set_option maxRecDepth 20000 in
theorem gX0_divide_X0_withTrace : GoodIn wsX0_divide (va_wsS RX0 71 yX0_withTrace wsX0_withTrace) := goodIn_app (goodIn_of _ (by decide +kernel)) ggX0_divide_X0_withTrace
set_option maxRecDepth 20000 in
theorem ggX0_divide_X0_unitOf : GoodIn wsX0_divide wsX0_unitOf := goodIn_r _ [60, 61, 62, 63, 64, 40, 41, 4, 42, 6] (by decide +kernel) (by decide +kernel)
set_option maxRecDepth 20000 in
theorem gX0_divide_X0_unitOf : GoodIn wsX0_divide (va_wsS RX0 53 yX0_unitOf wsX0_unitOf) := goodIn_app (goodIn_of _ (by decide +kernel)) ggX0_divide_X0_unitOf
set_option maxRecDepth 20000 in
theorem ggX0_divide_X0_rounded : GoodIn wsX0_divide wsX0_rounded := goodIn_r _ [68, 61, 62, 63, 64, 69, 43, 44, 4, 45, 46, 47, 48, 49, 50, 51, 52, 53, 54, 70, 71, 72, 17, 18, 19, 20, 21, 73, 74, 75, 76, 77, 78, 79, 80, 81, 82, 83, 84, 85, 86, 87, 88, 89, 90, 91, 92, 93, 94, 95, 1, 96, 97, 98] (by decide +kernel) (by decide +kernel)
set_option maxRecDepth 20000 in
theorem gX0_divide_X0_rounded : GoodIn wsX0_divide (wsV RX0 56 RX0 yX0_rounded wsX0_rounded) := goodIn_app (goodIn_of _ (by decide +kernel)) ggX0_divide_X0_rounded
theorem dX0_divide_0 : decode cX0_divide 0 = .ok (.iload_n 1, 1) := by decide +kernel
theorem dX0_divide_1 : decode cX0_divide 1 = .ok (.invokestatic 22, 3) := by decide +kernel
theorem dX0_divide_4 : decode cX0_divide 4 = .ok (.ifCond .ne 10, 3) := by decide +kernel
theorem dX0_divide_7 : decode cX0_divide 7 = .ok (.iload_n 2, 1) := by decide +kernel
theorem dX0_divide_8 : decode cX0_divide 8 = .ok (.invokestatic 22, 3) := by decide +kernel
theorem dX0_divide_11 : decode cX0_divide 11 = .ok (.ifCond .eq 27, 3) := by decide +kernel
theorem dX0_divide_14 : decode cX0_divide 14 = .ok (.aload_n 0, 1) := by decide +kernel
theorem dX0_divide_15 : decode cX0_divide 15 = .ok (.iload_n 1, 1) := by decide +kernel
theorem dX0_divide_16 : decode cX0_divide 16 = .ok (.invokestatic 26, 3) := by decide +kernel
theorem dX0_divide_19 : decode cX0_divide 19 = .ok (.ifCond .ne 10, 3) := by decide +kernel
theorem dX0_divide_22 : decode cX0_divide 22 = .ok (.iload_n 2, 1) := by decide +kernel
theorem dX0_divide_23 : decode cX0_divide 23 = .ok (.invokestatic 26, 3) := by decide +kernel
theorem dX0_divide_26 : decode cX0_divide 26 = .ok (.ifCond .eq 7, 3) := by decide +kernel
theorem dX0_divide_29 : decode cX0_divide 29 = .ok (.iconst 1, 1) := by decide +kernel
theorem dX0_divide_30 : decode cX0_divide 30 = .ok (.goto 4, 3) := by decide +kernel
theorem dX0_divide_33 : decode cX0_divide 33 = .ok (.iconst 0, 1) := by decide +kernel
theorem dX0_divide_34 : decode cX0_divide 34 = .ok (.invokevirtual 29, 3) := by decide +kernel
theorem dX0_divide_37 : decode cX0_divide 37 = .ok (.ireturn, 1) := by decide +kernel
theorem dX0_divide_38 : decode cX0_divide 38 = .ok (.iload_n 1, 1) := by decide +kernel
theorem dX0_divide_39 : decode cX0_divide 39 = .ok (.invokestatic 60, 3) := by decide +kernel
theorem dX0_divide_42 : decode cX0_divide 42 = .ok (.ifCond .eq 10, 3) := by decide +kernel
theorem dX0_divide_45 : decode cX0_divide 45 = .ok (.iload_n 2, 1) := by decide +kernel
theorem dX0_divide_46 : decode cX0_divide 46 = .ok (.invokestatic 60, 3) := by decide +kernel
theorem dX0_divide_49 : decode cX0_divide 49 = .ok (.ifCond .ne 17, 3) := by decide +kernel
theorem dX0_divide_52 : decode cX0_divide 52 = .ok (.iload_n 1, 1) := by decide +kernel
theorem dX0_divide_53 : decode cX0_divide 53 = .ok (.invokestatic 45, 3) := by decide +kernel
theorem dX0_divide_56 : decode cX0_divide 56 = .ok (.ifCond .eq 15, 3) := by decide +kernel
theorem dX0_divide_59 : decode cX0_divide 59 = .ok (.iload_n 2, 1) := by decide +kernel
theorem dX0_divide_60 : decode cX0_divide 60 = .ok (.invokestatic 45, 3) := by decide +kernel
theorem dX0_divide_63 : decode cX0_divide 63 = .ok (.ifCond .eq 8, 3) := by decide +kernel
theorem dX0_divide_66 : decode cX0_divide 66 = .ok (.aload_n 0, 1) := by decide +kernel
theorem dX0_divide_67 : decode cX0_divide 67 = .ok (.invokevirtual 37, 3) := by decide +kernel
theorem dX0_divide_70 : decode cX0_divide 70 = .ok (.ireturn, 1) := by decide +kernel
theorem dX0_divide_71 : decode cX0_divide 71 = .ok (.iload_n 1, 1) := by decide +kernel
theorem dX0_divide_72 : decode cX0_divide 72 = .ok (.iload_n 2, 1) := by decide +kernel
theorem dX0_divide_73 : decode cX0_divide 73 = .ok (.ixor, 1) := by decide +kernel
theorem dX0_divide_74 : decode cX0_divide 74 = .ok (.invokestatic 41, 3) := by decide +kernel
theorem dX0_divide_77 : decode cX0_divide 77 = .ok (.istore_n 3, 1) := by decide +kernel
theorem dX0_divide_78 : decode cX0_divide 78 = .ok (.iload_n 1, 1) := by decide +kernel
theorem dX0_divide_79 : decode cX0_divide 79 = .ok (.invokestatic 45, 3) := by decide +kernel
theorem dX0_divide_82 : decode cX0_divide 82 = .ok (.ifCond .eq 8, 3) := by decide +kernel
theorem dX0_divide_85 : decode cX0_divide 85 = .ok (.iload_n 3, 1) := by decide +kernel
theorem dX0_divide_86 : decode cX0_divide 86 = .ok (.ldc 48, 2) := by decide +kernel
theorem dX0_divide_88 : decode cX0_divide 88 = .ok (.ior, 1) := by decide +kernel
theorem dX0_divide_89 : decode cX0_divide 89 = .ok (.ireturn, 1) := by decide +kernel
theorem dX0_divide_90 : decode cX0_divide 90 = .ok (.iload_n 2, 1) := by decide +kernel
theorem dX0_divide_91 : decode cX0_divide 91 = .ok (.invokestatic 45, 3) := by decide +kernel
theorem dX0_divide_94 : decode cX0_divide 94 = .ok (.ifCond .eq 5, 3) := by decide +kernel
theorem dX0_divide_97 : decode cX0_divide 97 = .ok (.iload_n 3, 1) := by decide +kernel
theorem dX0_divide_98 : decode cX0_divide 98 = .ok (.ireturn, 1) := by decide +kernel
theorem dX0_divide_99 : decode cX0_divide 99 = .ok (.iload_n 2, 1) := by decide +kernel
theorem dX0_divide_100 : decode cX0_divide 100 = .ok (.invokestatic 49, 3) := by decide +kernel
theorem dX0_divide_103 : decode cX0_divide 103 = .ok (.lstore 4, 2) := by decide +kernel
theorem dX0_divide_105 : decode cX0_divide 105 = .ok (.lload 4, 2) := by decide +kernel
theorem dX0_divide_107 : decode cX0_divide 107 = .ok (.lconst 0, 1) := by decide +kernel
theorem dX0_divide_108 : decode cX0_divide 108 = .ok (.lcmp, 1) := by decide +kernel
theorem dX0_divide_109 : decode cX0_divide 109 = .ok (.ifCond .ne 14, 3) := by decide +kernel
theorem dX0_divide_112 : decode cX0_divide 112 = .ok (.aload_n 0, 1) := by decide +kernel
theorem dX0_divide_113 : decode cX0_divide 113 = .ok (.bipush 8, 2) := by decide +kernel
theorem dX0_divide_115 : decode cX0_divide 115 = .ok (.invokevirtual 63, 3) := by decide +kernel
theorem dX0_divide_118 : decode cX0_divide 118 = .ok (.iload_n 3, 1) := by decide +kernel
theorem dX0_divide_119 : decode cX0_divide 119 = .ok (.ldc 48, 2) := by decide +kernel
theorem dX0_divide_121 : decode cX0_divide 121 = .ok (.ior, 1) := by decide +kernel
theorem dX0_divide_122 : decode cX0_divide 122 = .ok (.ireturn, 1) := by decide +kernel
theorem dX0_divide_123 : decode cX0_divide 123 = .ok (.bipush 62, 2) := by decide +kernel
theorem dX0_divide_125 : decode cX0_divide 125 = .ok (.iload_n 1, 1) := by decide +kernel
theorem dX0_divide_126 : decode cX0_divide 126 = .ok (.invokestatic 49, 3) := by decide +kernel
theorem dX0_divide_129 : decode cX0_divide 129 = .ok (.invokestatic 67, 3) := by decide +kernel
theorem dX0_divide_132 : decode cX0_divide 132 = .ok (.isub, 1) := by decide +kernel
theorem dX0_divide_133 : decode cX0_divide 133 = .ok (.istore 6, 2) := by decide +kernel
theorem dX0_divide_135 : decode cX0_divide 135 = .ok (.iload_n 1, 1) := by decide +kernel
theorem dX0_divide_136 : decode cX0_divide 136 = .ok (.invokestatic 49, 3) := by decide +kernel
theorem dX0_divide_139 : decode cX0_divide 139 = .ok (.iload 6, 2) := by decide +kernel
theorem dX0_divide_141 : decode cX0_divide 141 = .ok (.lshl, 1) := by decide +kernel
theorem dX0_divide_142 : decode cX0_divide 142 = .ok (.lstore 7, 2) := by decide +kernel
theorem dX0_divide_144 : decode cX0_divide 144 = .ok (.lload 7, 2) := by decide +kernel
theorem dX0_divide_146 : decode cX0_divide 146 = .ok (.lload 4, 2) := by decide +kernel
theorem dX0_divide_148 : decode cX0_divide 148 = .ok (.ldiv, 1) := by decide +kernel
theorem dX0_divide_149 : decode cX0_divide 149 = .ok (.lload 7, 2) := by decide +kernel
theorem dX0_divide_151 : decode cX0_divide 151 = .ok (.lload 4, 2) := by decide +kernel
theorem dX0_divide_153 : decode cX0_divide 153 = .ok (.lrem, 1) := by decide +kernel
theorem dX0_divide_154 : decode cX0_divide 154 = .ok (.lconst 0, 1) := by decide +kernel
theorem dX0_divide_155 : decode cX0_divide 155 = .ok (.lcmp, 1) := by decide +kernel
theorem dX0_divide_156 : decode cX0_divide 156 = .ok (.ifCond .eq 7, 3) := by decide +kernel
theorem dX0_divide_159 : decode cX0_divide 159 = .ok (.iconst 1, 1) := by decide +kernel
theorem dX0_divide_160 : decode cX0_divide 160 = .ok (.goto 4, 3) := by decide +kernel
theorem dX0_divide_163 : decode cX0_divide 163 = .ok (.iconst 0, 1) := by decide +kernel
theorem dX0_divide_164 : decode cX0_divide 164 = .ok (.invokestatic 71, 3) := by decide +kernel
theorem dX0_divide_167 : decode cX0_divide 167 = .ok (.lstore 9, 2) := by decide +kernel
theorem dX0_divide_169 : decode cX0_divide 169 = .ok (.aload_n 0, 1) := by decide +kernel
theorem dX0_divide_170 : decode cX0_divide 170 = .ok (.iload_n 3, 1) := by decide +kernel
theorem dX0_divide_171 : decode cX0_divide 171 = .ok (.lload 9, 2) := by decide +kernel
theorem dX0_divide_173 : decode cX0_divide 173 = .ok (.iload_n 1, 1) := by decide +kernel
theorem dX0_divide_174 : decode cX0_divide 174 = .ok (.invokestatic 53, 3) := by decide +kernel
theorem dX0_divide_177 : decode cX0_divide 177 = .ok (.iload 6, 2) := by decide +kernel
theorem dX0_divide_179 : decode cX0_divide 179 = .ok (.isub, 1) := by decide +kernel
theorem dX0_divide_180 : decode cX0_divide 180 = .ok (.iload_n 2, 1) := by decide +kernel
theorem dX0_divide_181 : decode cX0_divide 181 = .ok (.invokestatic 53, 3) := by decide +kernel
theorem dX0_divide_184 : decode cX0_divide 184 = .ok (.isub, 1) := by decide +kernel
theorem dX0_divide_185 : decode cX0_divide 185 = .ok (.invokevirtual 56, 3) := by decide +kernel
theorem dX0_divide_188 : decode cX0_divide 188 = .ok (.ireturn, 1) := by decide +kernel
set_option maxRecDepth 20000 in
theorem ggX0_root_X0_isNoNumber : GoodIn wsX0_root wsX0_isNoNumber := goodIn_r _ [4, 5, 6] (by decide +kernel) (by decide +kernel)
set_option maxRecDepth 20000 in
theorem gX0_root_X0_isNoNumber : GoodIn wsX0_root (va_wsS RX0 22 yX0_isNoNumber wsX0_isNoNumber) := goodIn_app (goodIn_of _ (by decide +kernel)) ggX0_root_X0_isNoNumber
set_option maxRecDepth 20000 in
theorem ggX0_root_X0_isLoud : GoodIn wsX0_root wsX0_isLoud := goodIn_r _ [9, 10, 11, 1, 2, 3, 4, 5, 6] (by decide +kernel) (by decide +kernel)
set_option maxRecDepth 20000 in
theorem gX0_root_X0_isLoud : GoodIn wsX0_root (va_wsS RX0 26 yX0_isLoud wsX0_isLoud) := goodIn_app (goodIn_of _ (by decide +kernel)) ggX0_root_X0_isLoud
set_option maxRecDepth 20000 in
theorem ggX0_root_X0_noNumber : GoodIn wsX0_root wsX0_noNumber := goodIn_r _ [15, 16, 17, 18, 19, 3, 20, 21, 103, 104] (by decide +kernel) (by decide +kernel)
set_option maxRecDepth 20000 in
theorem gX0_root_X0_noNumber : GoodIn wsX0_root (wsV RX0 29 RX0 yX0_noNumber wsX0_noNumber) := goodIn_app (goodIn_of _ (by decide +kernel)) ggX0_root_X0_noNumber
set_option maxRecDepth 20000 in
theorem ggX0_root_X0_isNegative : GoodIn wsX0_root wsX0_isNegative := goodIn_r _ [24] (by decide +kernel) (by decide +kernel)
set_option maxRecDepth 20000 in
theorem gX0_root_X0_isNegative : GoodIn wsX0_root (va_wsS RX0 75 yX0_isNegative wsX0_isNegative) := goodIn_app (goodIn_of _ (by decide +kernel)) ggX0_root_X0_isNegative
set_option maxRecDepth 20000 in
theorem ggX0_root_X0_isZero : GoodIn wsX0_root wsX0_isZero := goodIn_r _ [27, 5] (by decide +kernel) (by decide +kernel)
set_option maxRecDepth 20000 in
theorem gX0_root_X0_isZero : GoodIn wsX0_root (va_wsS RX0 60 yX0_isZero wsX0_isZero) := goodIn_app (goodIn_of _ (by decide +kernel)) ggX0_root_X0_isZero
set_option maxRecDepth 20000 in
theorem ggX0_root_X0_invalid : GoodIn wsX0_root wsX0_invalid := goodIn_r _ [31, 16, 17, 18, 19, 3, 20, 21, 103, 104] (by decide +kernel) (by decide +kernel)
set_option maxRecDepth 20000 in
theorem gX0_root_X0_invalid : GoodIn wsX0_root (wsV RX0 37 RX0 yX0_invalid wsX0_invalid) := goodIn_app (goodIn_of _ (by decide +kernel)) ggX0_root_X0_invalid
set_option maxRecDepth 20000 in
theorem ggX0_root_X0_isInfinite : GoodIn wsX0_root wsX0_isInfinite := goodIn_r _ [34, 5, 6] (by decide +kernel) (by decide +kernel)
set_option maxRecDepth 20000 in
theorem gX0_root_X0_isInfinite : GoodIn wsX0_root (va_wsS RX0 45 yX0_isInfinite wsX0_isInfinite) := goodIn_app (goodIn_of _ (by decide +kernel)) ggX0_root_X0_isInfinite
set_option maxRecDepth 20000 in
theorem ggX0_root_X0_magnitudeOf : GoodIn wsX0_root wsX0_magnitudeOf := goodIn_r _ [37, 10, 38, 39, 40, 3, 41, 5] (by decide +kernel) (by decide +kernel)
set_option maxRecDepth 20000 in
theorem gX0_root_X0_magnitudeOf : GoodIn wsX0_root (va_wsS RX0 49 yX0_magnitudeOf wsX0_magnitudeOf) := goodIn_app (goodIn_of _ (by decide +kernel)) ggX0_root_X0_magnitudeOf
set_option maxRecDepth 20000 in
theorem ggX0_root_X0_bitLength : GoodIn wsX0_root wsX0_bitLength := goodIn_r _ [44, 45, 46, 47, 48, 49, 50, 51, 52, 53] (by decide +kernel) (by decide +kernel)
set_option maxRecDepth 20000 in
theorem gX0_root_X0_bitLength : GoodIn wsX0_root (va_wsS RX0 67 yX0_bitLength wsX0_bitLength) := goodIn_app (goodIn_of _ (by decide +kernel)) ggX0_root_X0_bitLength
set_option maxRecDepth 20000 in
theorem ggX0_root_X0_unitOf : GoodIn wsX0_root wsX0_unitOf := goodIn_r _ [56, 57, 58, 59, 60, 39, 40, 3, 41, 5] (by decide +kernel) (by decide +kernel)
set_option maxRecDepth 20000 in
theorem gX0_root_X0_unitOf : GoodIn wsX0_root (va_wsS RX0 53 yX0_unitOf wsX0_unitOf) := goodIn_app (goodIn_of _ (by decide +kernel)) ggX0_root_X0_unitOf
set_option maxRecDepth 20000 in
theorem ggX0_root_X0_floorRoot : GoodIn wsX0_root wsX0_floorRoot := goodIn_r _ [63] (by decide +kernel) (by decide +kernel)
set_option maxRecDepth 20000 in
theorem gX0_root_X0_floorRoot : GoodIn wsX0_root (va_wsS RX0 78 yX0_floorRoot wsX0_floorRoot) := goodIn_app (goodIn_of _ (by decide +kernel)) ggX0_root_X0_floorRoot
set_option maxRecDepth 20000 in
theorem ggX0_root_X0_signOf : GoodIn wsX0_root wsX0_signOf := goodIn_r _ [66, 67] (by decide +kernel) (by decide +kernel)
set_option maxRecDepth 20000 in
theorem gX0_root_X0_signOf : GoodIn wsX0_root (va_wsS RX0 41 yX0_signOf wsX0_signOf) := goodIn_app (goodIn_of _ (by decide +kernel)) ggX0_root_X0_signOf
set_option maxRecDepth 20000 in
theorem ggX0_root_X0_withTrace : GoodIn wsX0_root wsX0_withTrace := goodIn_r _ [70] (by decide +kernel) (by decide +kernel)
set_option maxRecDepth 20000 in
theorem gX0_root_X0_withTrace : GoodIn wsX0_root (va_wsS RX0 71 yX0_withTrace wsX0_withTrace) := goodIn_app (goodIn_of _ (by decide +kernel)) ggX0_root_X0_withTrace
set_option maxRecDepth 20000 in
theorem ggX0_root_X0_rounded : GoodIn wsX0_root wsX0_rounded := goodIn_r _ [74, 57, 58, 59, 60, 75, 42, 43, 3, 44, 45, 46, 47, 48, 49, 50, 51, 52, 53, 76, 77, 78, 17, 18, 19, 20, 21, 79, 80, 81, 82, 83, 84, 85, 86, 87, 88, 89, 90, 91, 92, 93, 94, 95, 96, 97, 98, 99, 100, 101, 6, 102, 103, 104] (by decide +kernel) (by decide +kernel)
set_option maxRecDepth 20000 in
theorem gX0_root_X0_rounded : GoodIn wsX0_root (wsV RX0 56 RX0 yX0_rounded wsX0_rounded) := goodIn_app (goodIn_of _ (by decide +kernel)) ggX0_root_X0_rounded
theorem dX0_root_0 : decode cX0_root 0 = .ok (.iload_n 1, 1) := by decide +kernel
theorem dX0_root_1 : decode cX0_root 1 = .ok (.invokestatic 22, 3) := by decide +kernel
theorem dX0_root_4 : decode cX0_root 4 = .ok (.ifCond .eq 12, 3) := by decide +kernel
theorem dX0_root_7 : decode cX0_root 7 = .ok (.aload_n 0, 1) := by decide +kernel
theorem dX0_root_8 : decode cX0_root 8 = .ok (.iload_n 1, 1) := by decide +kernel
theorem dX0_root_9 : decode cX0_root 9 = .ok (.invokestatic 26, 3) := by decide +kernel
theorem dX0_root_12 : decode cX0_root 12 = .ok (.invokevirtual 29, 3) := by decide +kernel
theorem dX0_root_15 : decode cX0_root 15 = .ok (.ireturn, 1) := by decide +kernel
theorem dX0_root_16 : decode cX0_root 16 = .ok (.iload_n 1, 1) := by decide +kernel
theorem dX0_root_17 : decode cX0_root 17 = .ok (.invokestatic 75, 3) := by decide +kernel
theorem dX0_root_20 : decode cX0_root 20 = .ok (.ifCond .eq 15, 3) := by decide +kernel
theorem dX0_root_23 : decode cX0_root 23 = .ok (.iload_n 1, 1) := by decide +kernel
theorem dX0_root_24 : decode cX0_root 24 = .ok (.invokestatic 60, 3) := by decide +kernel
theorem dX0_root_27 : decode cX0_root 27 = .ok (.ifCond .ne 8, 3) := by decide +kernel
theorem dX0_root_30 : decode cX0_root 30 = .ok (.aload_n 0, 1) := by decide +kernel
theorem dX0_root_31 : decode cX0_root 31 = .ok (.invokevirtual 37, 3) := by decide +kernel
theorem dX0_root_34 : decode cX0_root 34 = .ok (.ireturn, 1) := by decide +kernel
theorem dX0_root_35 : decode cX0_root 35 = .ok (.iload_n 1, 1) := by decide +kernel
theorem dX0_root_36 : decode cX0_root 36 = .ok (.invokestatic 45, 3) := by decide +kernel
theorem dX0_root_39 : decode cX0_root 39 = .ok (.ifCond .eq 5, 3) := by decide +kernel
theorem dX0_root_42 : decode cX0_root 42 = .ok (.iload_n 1, 1) := by decide +kernel
theorem dX0_root_43 : decode cX0_root 43 = .ok (.ireturn, 1) := by decide +kernel
theorem dX0_root_44 : decode cX0_root 44 = .ok (.bipush 62, 2) := by decide +kernel
theorem dX0_root_46 : decode cX0_root 46 = .ok (.iload_n 1, 1) := by decide +kernel
theorem dX0_root_47 : decode cX0_root 47 = .ok (.invokestatic 49, 3) := by decide +kernel
theorem dX0_root_50 : decode cX0_root 50 = .ok (.invokestatic 67, 3) := by decide +kernel
theorem dX0_root_53 : decode cX0_root 53 = .ok (.isub, 1) := by decide +kernel
theorem dX0_root_54 : decode cX0_root 54 = .ok (.istore_n 2, 1) := by decide +kernel
theorem dX0_root_55 : decode cX0_root 55 = .ok (.iload_n 1, 1) := by decide +kernel
theorem dX0_root_56 : decode cX0_root 56 = .ok (.invokestatic 53, 3) := by decide +kernel
theorem dX0_root_59 : decode cX0_root 59 = .ok (.iload_n 2, 1) := by decide +kernel
theorem dX0_root_60 : decode cX0_root 60 = .ok (.isub, 1) := by decide +kernel
theorem dX0_root_61 : decode cX0_root 61 = .ok (.iconst 1, 1) := by decide +kernel
theorem dX0_root_62 : decode cX0_root 62 = .ok (.iand, 1) := by decide +kernel
theorem dX0_root_63 : decode cX0_root 63 = .ok (.ifCond .eq 6, 3) := by decide +kernel
theorem dX0_root_66 : decode cX0_root 66 = .ok (.iinc 2 (-1), 3) := by decide +kernel
theorem dX0_root_69 : decode cX0_root 69 = .ok (.iload_n 1, 1) := by decide +kernel
theorem dX0_root_70 : decode cX0_root 70 = .ok (.invokestatic 49, 3) := by decide +kernel
theorem dX0_root_73 : decode cX0_root 73 = .ok (.iload_n 2, 1) := by decide +kernel
theorem dX0_root_74 : decode cX0_root 74 = .ok (.lshl, 1) := by decide +kernel
theorem dX0_root_75 : decode cX0_root 75 = .ok (.lstore_n 3, 1) := by decide +kernel
theorem dX0_root_76 : decode cX0_root 76 = .ok (.lload_n 3, 1) := by decide +kernel
theorem dX0_root_77 : decode cX0_root 77 = .ok (.invokestatic 78, 3) := by decide +kernel
theorem dX0_root_80 : decode cX0_root 80 = .ok (.lstore 5, 2) := by decide +kernel
theorem dX0_root_82 : decode cX0_root 82 = .ok (.aload_n 0, 1) := by decide +kernel
theorem dX0_root_83 : decode cX0_root 83 = .ok (.iload_n 1, 1) := by decide +kernel
theorem dX0_root_84 : decode cX0_root 84 = .ok (.invokestatic 41, 3) := by decide +kernel
theorem dX0_root_87 : decode cX0_root 87 = .ok (.lload 5, 2) := by decide +kernel
theorem dX0_root_89 : decode cX0_root 89 = .ok (.lload 5, 2) := by decide +kernel
theorem dX0_root_91 : decode cX0_root 91 = .ok (.lload 5, 2) := by decide +kernel
theorem dX0_root_93 : decode cX0_root 93 = .ok (.lmul, 1) := by decide +kernel
theorem dX0_root_94 : decode cX0_root 94 = .ok (.lload_n 3, 1) := by decide +kernel
theorem dX0_root_95 : decode cX0_root 95 = .ok (.lcmp, 1) := by decide +kernel
theorem dX0_root_96 : decode cX0_root 96 = .ok (.ifCond .eq 7, 3) := by decide +kernel
theorem dX0_root_99 : decode cX0_root 99 = .ok (.iconst 1, 1) := by decide +kernel
theorem dX0_root_100 : decode cX0_root 100 = .ok (.goto 4, 3) := by decide +kernel
theorem dX0_root_103 : decode cX0_root 103 = .ok (.iconst 0, 1) := by decide +kernel
theorem dX0_root_104 : decode cX0_root 104 = .ok (.invokestatic 71, 3) := by decide +kernel
theorem dX0_root_107 : decode cX0_root 107 = .ok (.iload_n 1, 1) := by decide +kernel
theorem dX0_root_108 : decode cX0_root 108 = .ok (.invokestatic 53, 3) := by decide +kernel
theorem dX0_root_111 : decode cX0_root 111 = .ok (.iload_n 2, 1) := by decide +kernel
theorem dX0_root_112 : decode cX0_root 112 = .ok (.isub, 1) := by decide +kernel
theorem dX0_root_113 : decode cX0_root 113 = .ok (.iconst 1, 1) := by decide +kernel
theorem dX0_root_114 : decode cX0_root 114 = .ok (.ishr, 1) := by decide +kernel
theorem dX0_root_115 : decode cX0_root 115 = .ok (.invokevirtual 56, 3) := by decide +kernel
theorem dX0_root_118 : decode cX0_root 118 = .ok (.ireturn, 1) := by decide +kernel
set_option maxRecDepth 20000 in
theorem ggX0_fused_X0_productPlus : GoodIn wsX0_fused wsX0_productPlus := goodIn_r _ [5, 6, 7, 8, 4, 9, 10, 11, 12, 13, 14, 15, 16, 17, 18, 19, 20, 21, 22, 23, 24, 25, 26, 27, 28, 29, 30, 31, 32, 33, 34, 35, 36, 37, 38, 39, 40, 41, 42, 43, 44, 45, 46, 47, 48, 49, 50, 51, 52, 53, 54, 55, 56, 57, 58, 59, 60, 61, 62, 63, 64, 65, 66, 67, 68, 69, 70, 71, 72, 73, 74, 75, 76, 77, 78, 79, 80, 81, 82, 83, 84, 85, 86, 87, 88, 89, 90, 91, 92, 93, 94, 95, 96, 97, 98, 99, 100, 101, 102, 103, 104, 105, 106, 107, 108, 109, 110, 111, 112, 113, 114, 115, 116, 117, 118, 119, 120, 121, 122] (by decide +kernel) (by decide +kernel)
set_option maxRecDepth 20000 in
theorem gX0_fused_X0_productPlus : GoodIn wsX0_fused (wsV RX0 17 RX0 yX0_productPlus wsX0_productPlus) := goodIn_app (goodIn_of _ (by decide +kernel)) ggX0_fused_X0_productPlus
theorem dX0_fused_0 : decode cX0_fused 0 = .ok (.aload_n 0, 1) := by decide +kernel
theorem dX0_fused_1 : decode cX0_fused 1 = .ok (.iload_n 1, 1) := by decide +kernel
theorem dX0_fused_2 : decode cX0_fused 2 = .ok (.iload_n 2, 1) := by decide +kernel
theorem dX0_fused_3 : decode cX0_fused 3 = .ok (.iload_n 3, 1) := by decide +kernel
theorem dX0_fused_4 : decode cX0_fused 4 = .ok (.invokevirtual 17, 3) := by decide +kernel
theorem dX0_fused_7 : decode cX0_fused 7 = .ok (.ireturn, 1) := by decide +kernel
set_option maxRecDepth 20000 in
theorem ggX0_scale_X0_isNoNumber : GoodIn wsX0_scale wsX0_isNoNumber := goodIn_r _ [11, 12, 13] (by decide +kernel) (by decide +kernel)
set_option maxRecDepth 20000 in
theorem gX0_scale_X0_isNoNumber : GoodIn wsX0_scale (va_wsS RX0 22 yX0_isNoNumber wsX0_isNoNumber) := goodIn_app (goodIn_of _ (by decide +kernel)) ggX0_scale_X0_isNoNumber
set_option maxRecDepth 20000 in
theorem ggX0_scale_X0_isLoud : GoodIn wsX0_scale wsX0_isLoud := goodIn_r _ [16, 17, 18, 8, 9, 10, 11, 12, 13] (by decide +kernel) (by decide +kernel)
set_option maxRecDepth 20000 in
theorem gX0_scale_X0_isLoud : GoodIn wsX0_scale (va_wsS RX0 26 yX0_isLoud wsX0_isLoud) := goodIn_app (goodIn_of _ (by decide +kernel)) ggX0_scale_X0_isLoud
set_option maxRecDepth 20000 in
theorem ggX0_scale_X0_noNumber : GoodIn wsX0_scale wsX0_noNumber := goodIn_r _ [22, 23, 24, 25, 26, 10, 27, 28, 90, 91] (by decide +kernel) (by decide +kernel)
set_option maxRecDepth 20000 in
theorem gX0_scale_X0_noNumber : GoodIn wsX0_scale (wsV RX0 29 RX0 yX0_noNumber wsX0_noNumber) := goodIn_app (goodIn_of _ (by decide +kernel)) ggX0_scale_X0_noNumber
set_option maxRecDepth 20000 in
theorem ggX0_scale_X0_isInfinite : GoodIn wsX0_scale wsX0_isInfinite := goodIn_r _ [31, 12, 13] (by decide +kernel) (by decide +kernel)
set_option maxRecDepth 20000 in
theorem gX0_scale_X0_isInfinite : GoodIn wsX0_scale (va_wsS RX0 45 yX0_isInfinite wsX0_isInfinite) := goodIn_app (goodIn_of _ (by decide +kernel)) ggX0_scale_X0_isInfinite
set_option maxRecDepth 20000 in
theorem ggX0_scale_X0_signOf : GoodIn wsX0_scale wsX0_signOf := goodIn_r _ [34, 35] (by decide +kernel) (by decide +kernel)
set_option maxRecDepth 20000 in
theorem gX0_scale_X0_signOf : GoodIn wsX0_scale (va_wsS RX0 41 yX0_signOf wsX0_signOf) := goodIn_app (goodIn_of _ (by decide +kernel)) ggX0_scale_X0_signOf
set_option maxRecDepth 20000 in
theorem ggX0_scale_X0_magnitudeOf : GoodIn wsX0_scale wsX0_magnitudeOf := goodIn_r _ [38, 17, 39, 40, 41, 10, 42, 12] (by decide +kernel) (by decide +kernel)
set_option maxRecDepth 20000 in
theorem gX0_scale_X0_magnitudeOf : GoodIn wsX0_scale (va_wsS RX0 49 yX0_magnitudeOf wsX0_magnitudeOf) := goodIn_app (goodIn_of _ (by decide +kernel)) ggX0_scale_X0_magnitudeOf
set_option maxRecDepth 20000 in
theorem ggX0_scale_X0_unitOf : GoodIn wsX0_scale wsX0_unitOf := goodIn_r _ [45, 5, 6, 3, 7, 40, 41, 10, 42, 12] (by decide +kernel) (by decide +kernel)
set_option maxRecDepth 20000 in
theorem gX0_scale_X0_unitOf : GoodIn wsX0_scale (va_wsS RX0 53 yX0_unitOf wsX0_unitOf) := goodIn_app (goodIn_of _ (by decide +kernel)) ggX0_scale_X0_unitOf
set_option maxRecDepth 20000 in
theorem ggX0_scale_X0_rounded : GoodIn wsX0_scale wsX0_rounded := goodIn_r _ [49, 5, 6, 3, 7, 50, 51, 52, 10, 53, 54, 55, 56, 57, 58, 59, 60, 61, 62, 63, 64, 65, 24, 25, 26, 27, 28, 66, 67, 68, 69, 70, 71, 72, 73, 74, 75, 76, 77, 78, 79, 80, 81, 82, 83, 84, 85, 86, 87, 88, 13, 89, 90, 91] (by decide +kernel) (by decide +kernel)
set_option maxRecDepth 20000 in
theorem gX0_scale_X0_rounded : GoodIn wsX0_scale (wsV RX0 56 RX0 yX0_rounded wsX0_rounded) := goodIn_app (goodIn_of _ (by decide +kernel)) ggX0_scale_X0_rounded
theorem dX0_scale_0 : decode cX0_scale 0 = .ok (.iload_n 1, 1) := by decide +kernel
theorem dX0_scale_1 : decode cX0_scale 1 = .ok (.invokestatic 22, 3) := by decide +kernel
theorem dX0_scale_4 : decode cX0_scale 4 = .ok (.ifCond .eq 12, 3) := by decide +kernel
theorem dX0_scale_7 : decode cX0_scale 7 = .ok (.aload_n 0, 1) := by decide +kernel
theorem dX0_scale_8 : decode cX0_scale 8 = .ok (.iload_n 1, 1) := by decide +kernel
theorem dX0_scale_9 : decode cX0_scale 9 = .ok (.invokestatic 26, 3) := by decide +kernel
theorem dX0_scale_12 : decode cX0_scale 12 = .ok (.invokevirtual 29, 3) := by decide +kernel
theorem dX0_scale_15 : decode cX0_scale 15 = .ok (.ireturn, 1) := by decide +kernel
theorem dX0_scale_16 : decode cX0_scale 16 = .ok (.iload_n 1, 1) := by decide +kernel
theorem dX0_scale_17 : decode cX0_scale 17 = .ok (.invokestatic 45, 3) := by decide +kernel
theorem dX0_scale_20 : decode cX0_scale 20 = .ok (.ifCond .eq 5, 3) := by decide +kernel
theorem dX0_scale_23 : decode cX0_scale 23 = .ok (.iload_n 1, 1) := by decide +kernel
theorem dX0_scale_24 : decode cX0_scale 24 = .ok (.ireturn, 1) := by decide +kernel
theorem dX0_scale_25 : decode cX0_scale 25 = .ok (.sipush (-400), 3) := by decide +kernel
theorem dX0_scale_28 : decode cX0_scale 28 = .ok (.sipush 400, 3) := by decide +kernel
theorem dX0_scale_31 : decode cX0_scale 31 = .ok (.iload_n 2, 1) := by decide +kernel
theorem dX0_scale_32 : decode cX0_scale 32 = .ok (.invokestatic 82, 3) := by decide +kernel
theorem dX0_scale_35 : decode cX0_scale 35 = .ok (.invokestatic 88, 3) := by decide +kernel
theorem dX0_scale_38 : decode cX0_scale 38 = .ok (.istore_n 3, 1) := by decide +kernel
theorem dX0_scale_39 : decode cX0_scale 39 = .ok (.aload_n 0, 1) := by decide +kernel
theorem dX0_scale_40 : decode cX0_scale 40 = .ok (.iload_n 1, 1) := by decide +kernel
theorem dX0_scale_41 : decode cX0_scale 41 = .ok (.invokestatic 41, 3) := by decide +kernel
theorem dX0_scale_44 : decode cX0_scale 44 = .ok (.iload_n 1, 1) := by decide +kernel
theorem dX0_scale_45 : decode cX0_scale 45 = .ok (.invokestatic 49, 3) := by decide +kernel
theorem dX0_scale_48 : decode cX0_scale 48 = .ok (.iload_n 1, 1) := by decide +kernel
theorem dX0_scale_49 : decode cX0_scale 49 = .ok (.invokestatic 53, 3) := by decide +kernel
theorem dX0_scale_52 : decode cX0_scale 52 = .ok (.iload_n 3, 1) := by decide +kernel
theorem dX0_scale_53 : decode cX0_scale 53 = .ok (.iadd, 1) := by decide +kernel
theorem dX0_scale_54 : decode cX0_scale 54 = .ok (.invokevirtual 56, 3) := by decide +kernel
theorem dX0_scale_57 : decode cX0_scale 57 = .ok (.ireturn, 1) := by decide +kernel
set_option maxRecDepth 20000 in
theorem ggX0_whole_X0_isNoNumber : GoodIn wsX0_whole wsX0_isNoNumber := goodIn_r _ [4, 5, 6] (by decide +kernel) (by decide +kernel)
set_option maxRecDepth 20000 in
theorem gX0_whole_X0_isNoNumber : GoodIn wsX0_whole (va_wsS RX0 22 yX0_isNoNumber wsX0_isNoNumber) := goodIn_app (goodIn_of _ (by decide +kernel)) ggX0_whole_X0_isNoNumber
set_option maxRecDepth 20000 in
theorem ggX0_whole_X0_isLoud : GoodIn wsX0_whole wsX0_isLoud := goodIn_r _ [9, 10, 11, 1, 2, 3, 4, 5, 6] (by decide +kernel) (by decide +kernel)
set_option maxRecDepth 20000 in
theorem gX0_whole_X0_isLoud : GoodIn wsX0_whole (va_wsS RX0 26 yX0_isLoud wsX0_isLoud) := goodIn_app (goodIn_of _ (by decide +kernel)) ggX0_whole_X0_isLoud
set_option maxRecDepth 20000 in
theorem ggX0_whole_X0_noNumber : GoodIn wsX0_whole wsX0_noNumber := goodIn_r _ [15, 16, 17, 18, 19, 3, 20, 21, 87, 88] (by decide +kernel) (by decide +kernel)
set_option maxRecDepth 20000 in
theorem gX0_whole_X0_noNumber : GoodIn wsX0_whole (wsV RX0 29 RX0 yX0_noNumber wsX0_noNumber) := goodIn_app (goodIn_of _ (by decide +kernel)) ggX0_whole_X0_noNumber
set_option maxRecDepth 20000 in
theorem ggX0_whole_X0_isInfinite : GoodIn wsX0_whole wsX0_isInfinite := goodIn_r _ [24, 5, 6] (by decide +kernel) (by decide +kernel)
set_option maxRecDepth 20000 in
theorem gX0_whole_X0_isInfinite : GoodIn wsX0_whole (va_wsS RX0 45 yX0_isInfinite wsX0_isInfinite) := goodIn_app (goodIn_of _ (by decide +kernel)) ggX0_whole_X0_isInfinite
set_option maxRecDepth 20000 in
theorem ggX0_whole_X0_unitOf : GoodIn wsX0_whole wsX0_unitOf := goodIn_r _ [27, 28, 29, 30, 31, 32, 33, 3, 34, 5] (by decide +kernel) (by decide +kernel)
set_option maxRecDepth 20000 in
theorem gX0_whole_X0_unitOf : GoodIn wsX0_whole (va_wsS RX0 53 yX0_unitOf wsX0_unitOf) := goodIn_app (goodIn_of _ (by decide +kernel)) ggX0_whole_X0_unitOf
set_option maxRecDepth 20000 in
theorem ggX0_whole_X0_magnitudeOf : GoodIn wsX0_whole wsX0_magnitudeOf := goodIn_r _ [37, 10, 38, 32, 33, 3, 34, 5] (by decide +kernel) (by decide +kernel)
set_option maxRecDepth 20000 in
theorem gX0_whole_X0_magnitudeOf : GoodIn wsX0_whole (va_wsS RX0 49 yX0_magnitudeOf wsX0_magnitudeOf) := goodIn_app (goodIn_of _ (by decide +kernel)) ggX0_whole_X0_magnitudeOf
set_option maxRecDepth 20000 in
theorem ggX0_whole_X0_isMultiple : GoodIn wsX0_whole wsX0_isMultiple := goodIn_r _ [41] (by decide +kernel) (by decide +kernel)
set_option maxRecDepth 20000 in
theorem gX0_whole_X0_isMultiple : GoodIn wsX0_whole (va_wsS RX0 91 yX0_isMultiple wsX0_isMultiple) := goodIn_app (goodIn_of _ (by decide +kernel)) ggX0_whole_X0_isMultiple
set_option maxRecDepth 20000 in
theorem ggX0_whole_X0_raise : GoodIn wsX0_whole wsX0_raise := goodIn_r _ [20, 21, 87, 88] (by decide +kernel) (by decide +kernel)
set_option maxRecDepth 20000 in
theorem gX0_whole_X0_raise : GoodIn wsX0_whole (wsV RX0 63 RX0 yX0_raise wsX0_raise) := goodIn_app (goodIn_of _ (by decide +kernel)) ggX0_whole_X0_raise
set_option maxRecDepth 20000 in
theorem ggX0_whole_X0_signOf : GoodIn wsX0_whole wsX0_signOf := goodIn_r _ [44, 45] (by decide +kernel) (by decide +kernel)
set_option maxRecDepth 20000 in
theorem gX0_whole_X0_signOf : GoodIn wsX0_whole (va_wsS RX0 41 yX0_signOf wsX0_signOf) := goodIn_app (goodIn_of _ (by decide +kernel)) ggX0_whole_X0_signOf
set_option maxRecDepth 20000 in
theorem ggX0_whole_X0_multiple : GoodIn wsX0_whole wsX0_multiple := goodIn_r _ [49, 50, 51, 3, 52, 53, 54, 55, 56, 57, 39, 40, 41, 58, 59, 60, 61, 87, 88] (by decide +kernel) (by decide +kernel)
set_option maxRecDepth 20000 in
theorem gX0_whole_X0_multiple : GoodIn wsX0_whole (wsV RX0 95 RX0 yX0_multiple wsX0_multiple) := goodIn_app (goodIn_of _ (by decide +kernel)) ggX0_whole_X0_multiple
set_option maxRecDepth 20000 in
theorem ggX0_whole_X0_rounded : GoodIn wsX0_whole wsX0_rounded := goodIn_r _ [65, 28, 29, 30, 31, 66, 67, 68, 3, 69, 70, 71, 72, 73, 74, 75, 76, 77, 78, 39, 40, 41, 17, 18, 19, 20, 21, 46, 47, 48, 49, 50, 51, 52, 53, 54, 55, 56, 57, 58, 59, 60, 61, 79, 80, 81, 82, 83, 84, 85, 6, 86, 87, 88] (by decide +kernel) (by decide +kernel)
set_option maxRecDepth 20000 in
theorem gX0_whole_X0_rounded : GoodIn wsX0_whole (wsV RX0 56 RX0 yX0_rounded wsX0_rounded) := goodIn_app (goodIn_of _ (by decide +kernel)) ggX0_whole_X0_rounded
theorem dX0_whole_0 : decode cX0_whole 0 = .ok (.iload_n 1, 1) := by decide +kernel
theorem dX0_whole_1 : decode cX0_whole 1 = .ok (.invokestatic 22, 3) := by decide +kernel
theorem dX0_whole_4 : decode cX0_whole 4 = .ok (.ifCond .eq 12, 3) := by decide +kernel
theorem dX0_whole_7 : decode cX0_whole 7 = .ok (.aload_n 0, 1) := by decide +kernel
theorem dX0_whole_8 : decode cX0_whole 8 = .ok (.iload_n 1, 1) := by decide +kernel
theorem dX0_whole_9 : decode cX0_whole 9 = .ok (.invokestatic 26, 3) := by decide +kernel
theorem dX0_whole_12 : decode cX0_whole 12 = .ok (.invokevirtual 29, 3) := by decide +kernel
theorem dX0_whole_15 : decode cX0_whole 15 = .ok (.ireturn, 1) := by decide +kernel
theorem dX0_whole_16 : decode cX0_whole 16 = .ok (.iload_n 1, 1) := by decide +kernel
theorem dX0_whole_17 : decode cX0_whole 17 = .ok (.invokestatic 45, 3) := by decide +kernel
theorem dX0_whole_20 : decode cX0_whole 20 = .ok (.ifCond .ne 10, 3) := by decide +kernel
theorem dX0_whole_23 : decode cX0_whole 23 = .ok (.iload_n 1, 1) := by decide +kernel
theorem dX0_whole_24 : decode cX0_whole 24 = .ok (.invokestatic 53, 3) := by decide +kernel
theorem dX0_whole_27 : decode cX0_whole 27 = .ok (.ifCond .lt 5, 3) := by decide +kernel
theorem dX0_whole_30 : decode cX0_whole 30 = .ok (.iload_n 1, 1) := by decide +kernel
theorem dX0_whole_31 : decode cX0_whole 31 = .ok (.ireturn, 1) := by decide +kernel
theorem dX0_whole_32 : decode cX0_whole 32 = .ok (.iload_n 1, 1) := by decide +kernel
theorem dX0_whole_33 : decode cX0_whole 33 = .ok (.invokestatic 49, 3) := by decide +kernel
theorem dX0_whole_36 : decode cX0_whole 36 = .ok (.iload_n 1, 1) := by decide +kernel
theorem dX0_whole_37 : decode cX0_whole 37 = .ok (.invokestatic 53, 3) := by decide +kernel
theorem dX0_whole_40 : decode cX0_whole 40 = .ok (.ineg, 1) := by decide +kernel
theorem dX0_whole_41 : decode cX0_whole 41 = .ok (.invokestatic 91, 3) := by decide +kernel
theorem dX0_whole_44 : decode cX0_whole 44 = .ok (.ifCond .ne 8, 3) := by decide +kernel
theorem dX0_whole_47 : decode cX0_whole 47 = .ok (.aload_n 0, 1) := by decide +kernel
theorem dX0_whole_48 : decode cX0_whole 48 = .ok (.iconst 1, 1) := by decide +kernel
theorem dX0_whole_49 : decode cX0_whole 49 = .ok (.invokevirtual 63, 3) := by decide +kernel
theorem dX0_whole_52 : decode cX0_whole 52 = .ok (.aload_n 0, 1) := by decide +kernel
theorem dX0_whole_53 : decode cX0_whole 53 = .ok (.iload_n 1, 1) := by decide +kernel
theorem dX0_whole_54 : decode cX0_whole 54 = .ok (.invokestatic 41, 3) := by decide +kernel
theorem dX0_whole_57 : decode cX0_whole 57 = .ok (.aload_n 0, 1) := by decide +kernel
theorem dX0_whole_58 : decode cX0_whole 58 = .ok (.iload_n 1, 1) := by decide +kernel
theorem dX0_whole_59 : decode cX0_whole 59 = .ok (.invokestatic 41, 3) := by decide +kernel
theorem dX0_whole_62 : decode cX0_whole 62 = .ok (.iload_n 1, 1) := by decide +kernel
theorem dX0_whole_63 : decode cX0_whole 63 = .ok (.invokestatic 49, 3) := by decide +kernel
theorem dX0_whole_66 : decode cX0_whole 66 = .ok (.iload_n 1, 1) := by decide +kernel
theorem dX0_whole_67 : decode cX0_whole 67 = .ok (.invokestatic 53, 3) := by decide +kernel
theorem dX0_whole_70 : decode cX0_whole 70 = .ok (.ineg, 1) := by decide +kernel
theorem dX0_whole_71 : decode cX0_whole 71 = .ok (.invokevirtual 95, 3) := by decide +kernel
theorem dX0_whole_74 : decode cX0_whole 74 = .ok (.iconst 0, 1) := by decide +kernel
theorem dX0_whole_75 : decode cX0_whole 75 = .ok (.invokevirtual 56, 3) := by decide +kernel
theorem dX0_whole_78 : decode cX0_whole 78 = .ok (.ireturn, 1) := by decide +kernel
set_option maxRecDepth 20000 in
theorem ggX0_toInt_X0_isFinite : GoodIn wsX0_toInt wsX0_isFinite := goodIn_r _ [6, 7, 8] (by decide +kernel) (by decide +kernel)
set_option maxRecDepth 20000 in
theorem gX0_toInt_X0_isFinite : GoodIn wsX0_toInt (va_wsS RX0 99 yX0_isFinite wsX0_isFinite) := goodIn_app (goodIn_of _ (by decide +kernel)) ggX0_toInt_X0_isFinite
set_option maxRecDepth 20000 in
theorem ggX0_toInt_X0_unitOf : GoodIn wsX0_toInt wsX0_unitOf := goodIn_r _ [11, 12, 13, 14, 15, 16, 17, 5, 18, 7] (by decide +kernel) (by decide +kernel)
set_option maxRecDepth 20000 in
theorem gX0_toInt_X0_unitOf : GoodIn wsX0_toInt (va_wsS RX0 53 yX0_unitOf wsX0_unitOf) := goodIn_app (goodIn_of _ (by decide +kernel)) ggX0_toInt_X0_unitOf
set_option maxRecDepth 20000 in
theorem ggX0_toInt_X0_invalidInt : GoodIn wsX0_toInt wsX0_invalidInt := goodIn_r _ [22, 23, 24, 25, 26, 5, 27, 28, 59, 60] (by decide +kernel) (by decide +kernel)
set_option maxRecDepth 20000 in
theorem gX0_toInt_X0_invalidInt : GoodIn wsX0_toInt (wsV RX0 102 RX0 yX0_invalidInt wsX0_invalidInt) := goodIn_app (goodIn_of _ (by decide +kernel)) ggX0_toInt_X0_invalidInt
set_option maxRecDepth 20000 in
theorem ggX0_toInt_X0_signOf : GoodIn wsX0_toInt wsX0_signOf := goodIn_r _ [31, 23] (by decide +kernel) (by decide +kernel)
set_option maxRecDepth 20000 in
theorem gX0_toInt_X0_signOf : GoodIn wsX0_toInt (va_wsS RX0 41 yX0_signOf wsX0_signOf) := goodIn_app (goodIn_of _ (by decide +kernel)) ggX0_toInt_X0_signOf
set_option maxRecDepth 20000 in
theorem ggX0_toInt_X0_magnitudeOf : GoodIn wsX0_toInt wsX0_magnitudeOf := goodIn_r _ [34, 35, 36, 16, 17, 5, 18, 7] (by decide +kernel) (by decide +kernel)
set_option maxRecDepth 20000 in
theorem gX0_toInt_X0_magnitudeOf : GoodIn wsX0_toInt (va_wsS RX0 49 yX0_magnitudeOf wsX0_magnitudeOf) := goodIn_app (goodIn_of _ (by decide +kernel)) ggX0_toInt_X0_magnitudeOf
set_option maxRecDepth 20000 in
theorem ggX0_toInt_X0_multiple : GoodIn wsX0_toInt wsX0_multiple := goodIn_r _ [40, 41, 42, 5, 43, 44, 45, 46, 47, 48, 49, 50, 51, 52, 53, 54, 55, 59, 60] (by decide +kernel) (by decide +kernel)
set_option maxRecDepth 20000 in
theorem gX0_toInt_X0_multiple : GoodIn wsX0_toInt (wsV RX0 95 RX0 yX0_multiple wsX0_multiple) := goodIn_app (goodIn_of _ (by decide +kernel)) ggX0_toInt_X0_multiple
set_option maxRecDepth 20000 in
theorem ggX0_toInt_X0_isNegative : GoodIn wsX0_toInt wsX0_isNegative := goodIn_r _ [58] (by decide +kernel) (by decide +kernel)
set_option maxRecDepth 20000 in
theorem gX0_toInt_X0_isNegative : GoodIn wsX0_toInt (va_wsS RX0 75 yX0_isNegative wsX0_isNegative) := goodIn_app (goodIn_of _ (by decide +kernel)) ggX0_toInt_X0_isNegative
set_option maxRecDepth 20000 in
theorem ggX0_toInt_X0_isMultiple : GoodIn wsX0_toInt wsX0_isMultiple := goodIn_r _ [51] (by decide +kernel) (by decide +kernel)
set_option maxRecDepth 20000 in
theorem gX0_toInt_X0_isMultiple : GoodIn wsX0_toInt (va_wsS RX0 91 yX0_isMultiple wsX0_isMultiple) := goodIn_app (goodIn_of _ (by decide +kernel)) ggX0_toInt_X0_isMultiple
set_option maxRecDepth 20000 in
theorem ggX0_toInt_X0_raise : GoodIn wsX0_toInt wsX0_raise := goodIn_r _ [27, 28, 59, 60] (by decide +kernel) (by decide +kernel)
set_option maxRecDepth 20000 in
theorem gX0_toInt_X0_raise : GoodIn wsX0_toInt (wsV RX0 63 RX0 yX0_raise wsX0_raise) := goodIn_app (goodIn_of _ (by decide +kernel)) ggX0_toInt_X0_raise
theorem dX0_toInt_0 : decode cX0_toInt 0 = .ok (.iload_n 1, 1) := by decide +kernel
theorem dX0_toInt_1 : decode cX0_toInt 1 = .ok (.invokestatic 99, 3) := by decide +kernel
theorem dX0_toInt_4 : decode cX0_toInt 4 = .ok (.ifCond .eq 12, 3) := by decide +kernel
theorem dX0_toInt_7 : decode cX0_toInt 7 = .ok (.iload_n 1, 1) := by decide +kernel
theorem dX0_toInt_8 : decode cX0_toInt 8 = .ok (.invokestatic 53, 3) := by decide +kernel
theorem dX0_toInt_11 : decode cX0_toInt 11 = .ok (.bipush 8, 2) := by decide +kernel
theorem dX0_toInt_13 : decode cX0_toInt 13 = .ok (.if_icmp .le 8, 3) := by decide +kernel
theorem dX0_toInt_16 : decode cX0_toInt 16 = .ok (.aload_n 0, 1) := by decide +kernel
theorem dX0_toInt_17 : decode cX0_toInt 17 = .ok (.invokevirtual 102, 3) := by decide +kernel
theorem dX0_toInt_20 : decode cX0_toInt 20 = .ok (.ireturn, 1) := by decide +kernel
theorem dX0_toInt_21 : decode cX0_toInt 21 = .ok (.aload_n 0, 1) := by decide +kernel
theorem dX0_toInt_22 : decode cX0_toInt 22 = .ok (.iload_n 1, 1) := by decide +kernel
theorem dX0_toInt_23 : decode cX0_toInt 23 = .ok (.invokestatic 41, 3) := by decide +kernel
theorem dX0_toInt_26 : decode cX0_toInt 26 = .ok (.iload_n 1, 1) := by decide +kernel
theorem dX0_toInt_27 : decode cX0_toInt 27 = .ok (.invokestatic 49, 3) := by decide +kernel
theorem dX0_toInt_30 : decode cX0_toInt 30 = .ok (.iload_n 1, 1) := by decide +kernel
theorem dX0_toInt_31 : decode cX0_toInt 31 = .ok (.invokestatic 53, 3) := by decide +kernel
theorem dX0_toInt_34 : decode cX0_toInt 34 = .ok (.ineg, 1) := by decide +kernel
theorem dX0_toInt_35 : decode cX0_toInt 35 = .ok (.invokevirtual 95, 3) := by decide +kernel
theorem dX0_toInt_38 : decode cX0_toInt 38 = .ok (.lstore_n 2, 1) := by decide +kernel
theorem dX0_toInt_39 : decode cX0_toInt 39 = .ok (.iload_n 1, 1) := by decide +kernel
theorem dX0_toInt_40 : decode cX0_toInt 40 = .ok (.invokestatic 75, 3) := by decide +kernel
theorem dX0_toInt_43 : decode cX0_toInt 43 = .ok (.ifCond .eq 8, 3) := by decide +kernel
theorem dX0_toInt_46 : decode cX0_toInt 46 = .ok (.lload_n 2, 1) := by decide +kernel
theorem dX0_toInt_47 : decode cX0_toInt 47 = .ok (.lneg, 1) := by decide +kernel
theorem dX0_toInt_48 : decode cX0_toInt 48 = .ok (.goto 4, 3) := by decide +kernel
theorem dX0_toInt_51 : decode cX0_toInt 51 = .ok (.lload_n 2, 1) := by decide +kernel
theorem dX0_toInt_52 : decode cX0_toInt 52 = .ok (.lstore 4, 2) := by decide +kernel
theorem dX0_toInt_54 : decode cX0_toInt 54 = .ok (.lload 4, 2) := by decide +kernel
theorem dX0_toInt_56 : decode cX0_toInt 56 = .ok (.ldc2_w 105, 3) := by decide +kernel
theorem dX0_toInt_59 : decode cX0_toInt 59 = .ok (.lcmp, 1) := by decide +kernel
theorem dX0_toInt_60 : decode cX0_toInt 60 = .ok (.ifCond .lt 12, 3) := by decide +kernel
theorem dX0_toInt_63 : decode cX0_toInt 63 = .ok (.lload 4, 2) := by decide +kernel
theorem dX0_toInt_65 : decode cX0_toInt 65 = .ok (.ldc2_w 107, 3) := by decide +kernel
theorem dX0_toInt_68 : decode cX0_toInt 68 = .ok (.lcmp, 1) := by decide +kernel
theorem dX0_toInt_69 : decode cX0_toInt 69 = .ok (.ifCond .le 8, 3) := by decide +kernel
theorem dX0_toInt_72 : decode cX0_toInt 72 = .ok (.aload_n 0, 1) := by decide +kernel
theorem dX0_toInt_73 : decode cX0_toInt 73 = .ok (.invokevirtual 102, 3) := by decide +kernel
theorem dX0_toInt_76 : decode cX0_toInt 76 = .ok (.ireturn, 1) := by decide +kernel
theorem dX0_toInt_77 : decode cX0_toInt 77 = .ok (.iload_n 1, 1) := by decide +kernel
theorem dX0_toInt_78 : decode cX0_toInt 78 = .ok (.invokestatic 49, 3) := by decide +kernel
theorem dX0_toInt_81 : decode cX0_toInt 81 = .ok (.iload_n 1, 1) := by decide +kernel
theorem dX0_toInt_82 : decode cX0_toInt 82 = .ok (.invokestatic 53, 3) := by decide +kernel
theorem dX0_toInt_85 : decode cX0_toInt 85 = .ok (.ineg, 1) := by decide +kernel
theorem dX0_toInt_86 : decode cX0_toInt 86 = .ok (.invokestatic 91, 3) := by decide +kernel
theorem dX0_toInt_89 : decode cX0_toInt 89 = .ok (.ifCond .ne 8, 3) := by decide +kernel
theorem dX0_toInt_92 : decode cX0_toInt 92 = .ok (.aload_n 0, 1) := by decide +kernel
theorem dX0_toInt_93 : decode cX0_toInt 93 = .ok (.iconst 1, 1) := by decide +kernel
theorem dX0_toInt_94 : decode cX0_toInt 94 = .ok (.invokevirtual 63, 3) := by decide +kernel
theorem dX0_toInt_97 : decode cX0_toInt 97 = .ok (.lload 4, 2) := by decide +kernel
theorem dX0_toInt_99 : decode cX0_toInt 99 = .ok (.l2i, 1) := by decide +kernel
theorem dX0_toInt_100 : decode cX0_toInt 100 = .ok (.ireturn, 1) := by decide +kernel
set_option maxRecDepth 20000 in
theorem ggX0_fromInt_X0_signOf : GoodIn wsX0_fromInt wsX0_signOf := goodIn_r _ [8, 9] (by decide +kernel) (by decide +kernel)
set_option maxRecDepth 20000 in
theorem gX0_fromInt_X0_signOf : GoodIn wsX0_fromInt (va_wsS RX0 41 yX0_signOf wsX0_signOf) := goodIn_app (goodIn_of _ (by decide +kernel)) ggX0_fromInt_X0_signOf
set_option maxRecDepth 20000 in
theorem ggX0_fromInt_X0_rounded : GoodIn wsX0_fromInt wsX0_rounded := goodIn_r _ [13, 14, 15, 3, 16, 17, 18, 19, 7, 20, 21, 22, 23, 24, 25, 26, 27, 28, 29, 30, 31, 32, 33, 34, 35, 36, 37, 38, 39, 40, 41, 42, 43, 44, 45, 46, 47, 48, 49, 50, 51, 52, 53, 54, 55, 56, 57, 58, 59, 60, 61, 62, 63, 64] (by decide +kernel) (by decide +kernel)
set_option maxRecDepth 20000 in
theorem gX0_fromInt_X0_rounded : GoodIn wsX0_fromInt (wsV RX0 56 RX0 yX0_rounded wsX0_rounded) := goodIn_app (goodIn_of _ (by decide +kernel)) ggX0_fromInt_X0_rounded
theorem dX0_fromInt_0 : decode cX0_fromInt 0 = .ok (.aload_n 0, 1) := by decide +kernel
theorem dX0_fromInt_1 : decode cX0_fromInt 1 = .ok (.iload_n 1, 1) := by decide +kernel
theorem dX0_fromInt_2 : decode cX0_fromInt 2 = .ok (.invokestatic 41, 3) := by decide +kernel
theorem dX0_fromInt_5 : decode cX0_fromInt 5 = .ok (.iload_n 1, 1) := by decide +kernel
theorem dX0_fromInt_6 : decode cX0_fromInt 6 = .ok (.i2l, 1) := by decide +kernel
theorem dX0_fromInt_7 : decode cX0_fromInt 7 = .ok (.invokestatic 109, 3) := by decide +kernel
theorem dX0_fromInt_10 : decode cX0_fromInt 10 = .ok (.iconst 0, 1) := by decide +kernel
theorem dX0_fromInt_11 : decode cX0_fromInt 11 = .ok (.invokevirtual 56, 3) := by decide +kernel
theorem dX0_fromInt_14 : decode cX0_fromInt 14 = .ok (.ireturn, 1) := by decide +kernel
set_option maxRecDepth 20000 in
theorem ggX0_compare_X0_isNoNumber : GoodIn wsX0_compare wsX0_isNoNumber := goodIn_r _ [4, 5, 6] (by decide +kernel) (by decide +kernel)
set_option maxRecDepth 20000 in
theorem gX0_compare_X0_isNoNumber : GoodIn wsX0_compare (va_wsS RX0 22 yX0_isNoNumber wsX0_isNoNumber) := goodIn_app (goodIn_of _ (by decide +kernel)) ggX0_compare_X0_isNoNumber
set_option maxRecDepth 20000 in
theorem ggX0_compare_X0_isLoud : GoodIn wsX0_compare wsX0_isLoud := goodIn_r _ [9, 10, 11, 1, 2, 3, 4, 5, 6] (by decide +kernel) (by decide +kernel)
set_option maxRecDepth 20000 in
theorem gX0_compare_X0_isLoud : GoodIn wsX0_compare (va_wsS RX0 26 yX0_isLoud wsX0_isLoud) := goodIn_app (goodIn_of _ (by decide +kernel)) ggX0_compare_X0_isLoud
set_option maxRecDepth 20000 in
theorem ggX0_compare_X0_noNumber : GoodIn wsX0_compare wsX0_noNumber := goodIn_r _ [15, 16, 17, 18, 19, 3, 20, 21, 28, 29] (by decide +kernel) (by decide +kernel)
set_option maxRecDepth 20000 in
theorem gX0_compare_X0_noNumber : GoodIn wsX0_compare (wsV RX0 29 RX0 yX0_noNumber wsX0_noNumber) := goodIn_app (goodIn_of _ (by decide +kernel)) ggX0_compare_X0_noNumber
set_option maxRecDepth 20000 in
theorem ggX0_compare_X0_place : GoodIn wsX0_compare wsX0_place := goodIn_r _ [24, 5, 25, 26, 3, 27] (by decide +kernel) (by decide +kernel)
set_option maxRecDepth 20000 in
theorem gX0_compare_X0_place : GoodIn wsX0_compare (va_wsS RX0 112 yX0_place wsX0_place) := goodIn_app (goodIn_of _ (by decide +kernel)) ggX0_compare_X0_place
theorem dX0_compare_0 : decode cX0_compare 0 = .ok (.iload_n 1, 1) := by decide +kernel
theorem dX0_compare_1 : decode cX0_compare 1 = .ok (.invokestatic 22, 3) := by decide +kernel
theorem dX0_compare_4 : decode cX0_compare 4 = .ok (.ifCond .ne 10, 3) := by decide +kernel
theorem dX0_compare_7 : decode cX0_compare 7 = .ok (.iload_n 2, 1) := by decide +kernel
theorem dX0_compare_8 : decode cX0_compare 8 = .ok (.invokestatic 22, 3) := by decide +kernel
theorem dX0_compare_11 : decode cX0_compare 11 = .ok (.ifCond .eq 29, 3) := by decide +kernel
theorem dX0_compare_14 : decode cX0_compare 14 = .ok (.aload_n 0, 1) := by decide +kernel
theorem dX0_compare_15 : decode cX0_compare 15 = .ok (.iload_n 1, 1) := by decide +kernel
theorem dX0_compare_16 : decode cX0_compare 16 = .ok (.invokestatic 26, 3) := by decide +kernel
theorem dX0_compare_19 : decode cX0_compare 19 = .ok (.ifCond .ne 10, 3) := by decide +kernel
theorem dX0_compare_22 : decode cX0_compare 22 = .ok (.iload_n 2, 1) := by decide +kernel
theorem dX0_compare_23 : decode cX0_compare 23 = .ok (.invokestatic 26, 3) := by decide +kernel
theorem dX0_compare_26 : decode cX0_compare 26 = .ok (.ifCond .eq 7, 3) := by decide +kernel
theorem dX0_compare_29 : decode cX0_compare 29 = .ok (.iconst 1, 1) := by decide +kernel
theorem dX0_compare_30 : decode cX0_compare 30 = .ok (.goto 4, 3) := by decide +kernel
theorem dX0_compare_33 : decode cX0_compare 33 = .ok (.iconst 0, 1) := by decide +kernel
theorem dX0_compare_34 : decode cX0_compare 34 = .ok (.invokevirtual 29, 3) := by decide +kernel
theorem dX0_compare_37 : decode cX0_compare 37 = .ok (.pop, 1) := by decide +kernel
theorem dX0_compare_38 : decode cX0_compare 38 = .ok (.iconst 2, 1) := by decide +kernel
theorem dX0_compare_39 : decode cX0_compare 39 = .ok (.ireturn, 1) := by decide +kernel
theorem dX0_compare_40 : decode cX0_compare 40 = .ok (.iload_n 1, 1) := by decide +kernel
theorem dX0_compare_41 : decode cX0_compare 41 = .ok (.invokestatic 112, 3) := by decide +kernel
theorem dX0_compare_44 : decode cX0_compare 44 = .ok (.istore_n 3, 1) := by decide +kernel
theorem dX0_compare_45 : decode cX0_compare 45 = .ok (.iload_n 2, 1) := by decide +kernel
theorem dX0_compare_46 : decode cX0_compare 46 = .ok (.invokestatic 112, 3) := by decide +kernel
theorem dX0_compare_49 : decode cX0_compare 49 = .ok (.istore 4, 2) := by decide +kernel
theorem dX0_compare_51 : decode cX0_compare 51 = .ok (.iload_n 3, 1) := by decide +kernel
theorem dX0_compare_52 : decode cX0_compare 52 = .ok (.iload 4, 2) := by decide +kernel
theorem dX0_compare_54 : decode cX0_compare 54 = .ok (.if_icmp .ne 5, 3) := by decide +kernel
theorem dX0_compare_57 : decode cX0_compare 57 = .ok (.iconst 0, 1) := by decide +kernel
theorem dX0_compare_58 : decode cX0_compare 58 = .ok (.ireturn, 1) := by decide +kernel
theorem dX0_compare_59 : decode cX0_compare 59 = .ok (.iload_n 3, 1) := by decide +kernel
theorem dX0_compare_60 : decode cX0_compare 60 = .ok (.iload 4, 2) := by decide +kernel
theorem dX0_compare_62 : decode cX0_compare 62 = .ok (.if_icmp .ge 7, 3) := by decide +kernel
theorem dX0_compare_65 : decode cX0_compare 65 = .ok (.iconst (-1), 1) := by decide +kernel
theorem dX0_compare_66 : decode cX0_compare 66 = .ok (.goto 4, 3) := by decide +kernel
theorem dX0_compare_69 : decode cX0_compare 69 = .ok (.iconst 1, 1) := by decide +kernel
theorem dX0_compare_70 : decode cX0_compare 70 = .ok (.ireturn, 1) := by decide +kernel
set_option maxRecDepth 20000 in
theorem ggX0_next_X0_isNoNumber : GoodIn wsX0_next wsX0_isNoNumber := goodIn_r _ [5, 6, 1] (by decide +kernel) (by decide +kernel)
set_option maxRecDepth 20000 in
theorem gX0_next_X0_isNoNumber : GoodIn wsX0_next (va_wsS RX0 22 yX0_isNoNumber wsX0_isNoNumber) := goodIn_app (goodIn_of _ (by decide +kernel)) ggX0_next_X0_isNoNumber
set_option maxRecDepth 20000 in
theorem ggX0_next_X0_isLoud : GoodIn wsX0_next wsX0_isLoud := goodIn_r _ [9, 10, 11, 2, 3, 4, 5, 6, 1] (by decide +kernel) (by decide +kernel)
set_option maxRecDepth 20000 in
theorem gX0_next_X0_isLoud : GoodIn wsX0_next (va_wsS RX0 26 yX0_isLoud wsX0_isLoud) := goodIn_app (goodIn_of _ (by decide +kernel)) ggX0_next_X0_isLoud
set_option maxRecDepth 20000 in
theorem ggX0_next_X0_noNumber : GoodIn wsX0_next wsX0_noNumber := goodIn_r _ [15, 16, 17, 18, 19, 4, 20, 21, 28, 29] (by decide +kernel) (by decide +kernel)
set_option maxRecDepth 20000 in
theorem gX0_next_X0_noNumber : GoodIn wsX0_next (wsV RX0 29 RX0 yX0_noNumber wsX0_noNumber) := goodIn_app (goodIn_of _ (by decide +kernel)) ggX0_next_X0_noNumber
set_option maxRecDepth 20000 in
theorem ggX0_next_X0_isZero : GoodIn wsX0_next wsX0_isZero := goodIn_r _ [24, 6] (by decide +kernel) (by decide +kernel)
set_option maxRecDepth 20000 in
theorem gX0_next_X0_isZero : GoodIn wsX0_next (va_wsS RX0 60 yX0_isZero wsX0_isZero) := goodIn_app (goodIn_of _ (by decide +kernel)) ggX0_next_X0_isZero
set_option maxRecDepth 20000 in
theorem ggX0_next_X0_isNegative : GoodIn wsX0_next wsX0_isNegative := goodIn_r _ [27] (by decide +kernel) (by decide +kernel)
set_option maxRecDepth 20000 in
theorem gX0_next_X0_isNegative : GoodIn wsX0_next (va_wsS RX0 75 yX0_isNegative wsX0_isNegative) := goodIn_app (goodIn_of _ (by decide +kernel)) ggX0_next_X0_isNegative
theorem dX0_next_0 : decode cX0_next 0 = .ok (.iload_n 1, 1) := by decide +kernel
theorem dX0_next_1 : decode cX0_next 1 = .ok (.invokestatic 22, 3) := by decide +kernel
theorem dX0_next_4 : decode cX0_next 4 = .ok (.ifCond .eq 12, 3) := by decide +kernel
theorem dX0_next_7 : decode cX0_next 7 = .ok (.aload_n 0, 1) := by decide +kernel
theorem dX0_next_8 : decode cX0_next 8 = .ok (.iload_n 1, 1) := by decide +kernel
theorem dX0_next_9 : decode cX0_next 9 = .ok (.invokestatic 26, 3) := by decide +kernel
theorem dX0_next_12 : decode cX0_next 12 = .ok (.invokevirtual 29, 3) := by decide +kernel
theorem dX0_next_15 : decode cX0_next 15 = .ok (.ireturn, 1) := by decide +kernel
theorem dX0_next_16 : decode cX0_next 16 = .ok (.iload_n 1, 1) := by decide +kernel
theorem dX0_next_17 : decode cX0_next 17 = .ok (.ldc 48, 2) := by decide +kernel
theorem dX0_next_19 : decode cX0_next 19 = .ok (.if_icmp .ne 5, 3) := by decide +kernel
theorem dX0_next_22 : decode cX0_next 22 = .ok (.iload_n 1, 1) := by decide +kernel
theorem dX0_next_23 : decode cX0_next 23 = .ok (.ireturn, 1) := by decide +kernel
theorem dX0_next_24 : decode cX0_next 24 = .ok (.iload_n 1, 1) := by decide +kernel
theorem dX0_next_25 : decode cX0_next 25 = .ok (.invokestatic 60, 3) := by decide +kernel
theorem dX0_next_28 : decode cX0_next 28 = .ok (.ifCond .eq 5, 3) := by decide +kernel
theorem dX0_next_31 : decode cX0_next 31 = .ok (.iconst 1, 1) := by decide +kernel
theorem dX0_next_32 : decode cX0_next 32 = .ok (.ireturn, 1) := by decide +kernel
theorem dX0_next_33 : decode cX0_next 33 = .ok (.iload_n 1, 1) := by decide +kernel
theorem dX0_next_34 : decode cX0_next 34 = .ok (.invokestatic 75, 3) := by decide +kernel
theorem dX0_next_37 : decode cX0_next 37 = .ok (.ifCond .eq 9, 3) := by decide +kernel
theorem dX0_next_40 : decode cX0_next 40 = .ok (.iload_n 1, 1) := by decide +kernel
theorem dX0_next_41 : decode cX0_next 41 = .ok (.iconst 1, 1) := by decide +kernel
theorem dX0_next_42 : decode cX0_next 42 = .ok (.isub, 1) := by decide +kernel
theorem dX0_next_43 : decode cX0_next 43 = .ok (.goto 6, 3) := by decide +kernel
theorem dX0_next_46 : decode cX0_next 46 = .ok (.iload_n 1, 1) := by decide +kernel
theorem dX0_next_47 : decode cX0_next 47 = .ok (.iconst 1, 1) := by decide +kernel
theorem dX0_next_48 : decode cX0_next 48 = .ok (.iadd, 1) := by decide +kernel
theorem dX0_next_49 : decode cX0_next 49 = .ok (.ireturn, 1) := by decide +kernel
set_option maxRecDepth 20000 in
theorem ggX0_kind_X0_kindWithoutSign : GoodIn wsX0_kind wsX0_kindWithoutSign := goodIn_r _ [4, 5, 6, 3, 7, 8, 9, 10, 11, 12, 13, 14, 15, 16, 17, 18, 19, 20, 21, 22, 23] (by decide +kernel) (by decide +kernel)
set_option maxRecDepth 20000 in
theorem gX0_kind_X0_kindWithoutSign : GoodIn wsX0_kind (va_wsS RX0 115 yX0_kindWithoutSign wsX0_kindWithoutSign) := goodIn_app (goodIn_of _ (by decide +kernel)) ggX0_kind_X0_kindWithoutSign
set_option maxRecDepth 20000 in
theorem ggX0_kind_X0_isNegative : GoodIn wsX0_kind wsX0_isNegative := goodIn_r _ [26] (by decide +kernel) (by decide +kernel)
set_option maxRecDepth 20000 in
theorem gX0_kind_X0_isNegative : GoodIn wsX0_kind (va_wsS RX0 75 yX0_isNegative wsX0_isNegative) := goodIn_app (goodIn_of _ (by decide +kernel)) ggX0_kind_X0_isNegative
theorem dX0_kind_0 : decode cX0_kind 0 = .ok (.iload_n 1, 1) := by decide +kernel
theorem dX0_kind_1 : decode cX0_kind 1 = .ok (.invokestatic 115, 3) := by decide +kernel
theorem dX0_kind_4 : decode cX0_kind 4 = .ok (.iload_n 1, 1) := by decide +kernel
theorem dX0_kind_5 : decode cX0_kind 5 = .ok (.invokestatic 75, 3) := by decide +kernel
theorem dX0_kind_8 : decode cX0_kind 8 = .ok (.ifCond .eq 8, 3) := by decide +kernel
theorem dX0_kind_11 : decode cX0_kind 11 = .ok (.bipush 8, 2) := by decide +kernel
theorem dX0_kind_13 : decode cX0_kind 13 = .ok (.goto 4, 3) := by decide +kernel
theorem dX0_kind_16 : decode cX0_kind 16 = .ok (.iconst 0, 1) := by decide +kernel
theorem dX0_kind_17 : decode cX0_kind 17 = .ok (.iadd, 1) := by decide +kernel
theorem dX0_kind_18 : decode cX0_kind 18 = .ok (.ireturn, 1) := by decide +kernel
set_option maxRecDepth 20000 in
theorem ggX0_kindWithoutSign_X0_isNoNumber : GoodIn wsX0_kindWithoutSign wsX0_isNoNumber := goodIn_r _ [4, 5, 6] (by decide +kernel) (by decide +kernel)
set_option maxRecDepth 20000 in
theorem gX0_kindWithoutSign_X0_isNoNumber : GoodIn wsX0_kindWithoutSign (va_wsS RX0 22 yX0_isNoNumber wsX0_isNoNumber) := goodIn_app (goodIn_of _ (by decide +kernel)) ggX0_kindWithoutSign_X0_isNoNumber
set_option maxRecDepth 20000 in
theorem ggX0_kindWithoutSign_X0_isLoud : GoodIn wsX0_kindWithoutSign wsX0_isLoud := goodIn_r _ [9, 10, 11, 1, 2, 3, 4, 5, 6] (by decide +kernel) (by decide +kernel)
set_option maxRecDepth 20000 in
theorem gX0_kindWithoutSign_X0_isLoud : GoodIn wsX0_kindWithoutSign (va_wsS RX0 26 yX0_isLoud wsX0_isLoud) := goodIn_app (goodIn_of _ (by decide +kernel)) ggX0_kindWithoutSign_X0_isLoud
set_option maxRecDepth 20000 in
theorem ggX0_kindWithoutSign_X0_isInfinite : GoodIn wsX0_kindWithoutSign wsX0_isInfinite := goodIn_r _ [14, 5, 6] (by decide +kernel) (by decide +kernel)
set_option maxRecDepth 20000 in
theorem gX0_kindWithoutSign_X0_isInfinite : GoodIn wsX0_kindWithoutSign (va_wsS RX0 45 yX0_isInfinite wsX0_isInfinite) := goodIn_app (goodIn_of _ (by decide +kernel)) ggX0_kindWithoutSign_X0_isInfinite
set_option maxRecDepth 20000 in
theorem ggX0_kindWithoutSign_X0_isZero : GoodIn wsX0_kindWithoutSign wsX0_isZero := goodIn_r _ [17, 5] (by decide +kernel) (by decide +kernel)
set_option maxRecDepth 20000 in
theorem gX0_kindWithoutSign_X0_isZero : GoodIn wsX0_kindWithoutSign (va_wsS RX0 60 yX0_isZero wsX0_isZero) := goodIn_app (goodIn_of _ (by decide +kernel)) ggX0_kindWithoutSign_X0_isZero
set_option maxRecDepth 20000 in
theorem ggX0_kindWithoutSign_X0_exponentOf : GoodIn wsX0_kindWithoutSign wsX0_exponentOf := goodIn_r _ [20, 5] (by decide +kernel) (by decide +kernel)
set_option maxRecDepth 20000 in
theorem gX0_kindWithoutSign_X0_exponentOf : GoodIn wsX0_kindWithoutSign (va_wsS RX0 118 yX0_exponentOf wsX0_exponentOf) := goodIn_app (goodIn_of _ (by decide +kernel)) ggX0_kindWithoutSign_X0_exponentOf
theorem dX0_kindWithoutSign_0 : decode cX0_kindWithoutSign 0 = .ok (.iload_n 0, 1) := by decide +kernel
theorem dX0_kindWithoutSign_1 : decode cX0_kindWithoutSign 1 = .ok (.invokestatic 22, 3) := by decide +kernel
theorem dX0_kindWithoutSign_4 : decode cX0_kindWithoutSign 4 = .ok (.ifCond .eq 16, 3) := by decide +kernel
theorem dX0_kindWithoutSign_7 : decode cX0_kindWithoutSign 7 = .ok (.iload_n 0, 1) := by decide +kernel
theorem dX0_kindWithoutSign_8 : decode cX0_kindWithoutSign 8 = .ok (.invokestatic 26, 3) := by decide +kernel
theorem dX0_kindWithoutSign_11 : decode cX0_kindWithoutSign 11 = .ok (.ifCond .eq 7, 3) := by decide +kernel
theorem dX0_kindWithoutSign_14 : decode cX0_kindWithoutSign 14 = .ok (.iconst 0, 1) := by decide +kernel
theorem dX0_kindWithoutSign_15 : decode cX0_kindWithoutSign 15 = .ok (.goto 4, 3) := by decide +kernel
theorem dX0_kindWithoutSign_18 : decode cX0_kindWithoutSign 18 = .ok (.iconst 1, 1) := by decide +kernel
theorem dX0_kindWithoutSign_19 : decode cX0_kindWithoutSign 19 = .ok (.ireturn, 1) := by decide +kernel
theorem dX0_kindWithoutSign_20 : decode cX0_kindWithoutSign 20 = .ok (.iload_n 0, 1) := by decide +kernel
theorem dX0_kindWithoutSign_21 : decode cX0_kindWithoutSign 21 = .ok (.invokestatic 45, 3) := by decide +kernel
theorem dX0_kindWithoutSign_24 : decode cX0_kindWithoutSign 24 = .ok (.ifCond .eq 5, 3) := by decide +kernel
theorem dX0_kindWithoutSign_27 : decode cX0_kindWithoutSign 27 = .ok (.iconst 2, 1) := by decide +kernel
theorem dX0_kindWithoutSign_28 : decode cX0_kindWithoutSign 28 = .ok (.ireturn, 1) := by decide +kernel
theorem dX0_kindWithoutSign_29 : decode cX0_kindWithoutSign 29 = .ok (.iload_n 0, 1) := by decide +kernel
theorem dX0_kindWithoutSign_30 : decode cX0_kindWithoutSign 30 = .ok (.invokestatic 60, 3) := by decide +kernel
theorem dX0_kindWithoutSign_33 : decode cX0_kindWithoutSign 33 = .ok (.ifCond .eq 5, 3) := by decide +kernel
theorem dX0_kindWithoutSign_36 : decode cX0_kindWithoutSign 36 = .ok (.iconst 3, 1) := by decide +kernel
theorem dX0_kindWithoutSign_37 : decode cX0_kindWithoutSign 37 = .ok (.ireturn, 1) := by decide +kernel
theorem dX0_kindWithoutSign_38 : decode cX0_kindWithoutSign 38 = .ok (.iload_n 0, 1) := by decide +kernel
theorem dX0_kindWithoutSign_39 : decode cX0_kindWithoutSign 39 = .ok (.invokestatic 118, 3) := by decide +kernel
theorem dX0_kindWithoutSign_42 : decode cX0_kindWithoutSign 42 = .ok (.ifCond .ne 7, 3) := by decide +kernel
theorem dX0_kindWithoutSign_45 : decode cX0_kindWithoutSign 45 = .ok (.iconst 4, 1) := by decide +kernel
theorem dX0_kindWithoutSign_46 : decode cX0_kindWithoutSign 46 = .ok (.goto 4, 3) := by decide +kernel
theorem dX0_kindWithoutSign_49 : decode cX0_kindWithoutSign 49 = .ok (.iconst 5, 1) := by decide +kernel
theorem dX0_kindWithoutSign_50 : decode cX0_kindWithoutSign 50 = .ok (.ireturn, 1) := by decide +kernel
theorem dX0_isNegative_0 : decode cX0_isNegative 0 = .ok (.iload_n 0, 1) := by decide +kernel
theorem dX0_isNegative_1 : decode cX0_isNegative 1 = .ok (.ifCond .ge 7, 3) := by decide +kernel
theorem dX0_isNegative_4 : decode cX0_isNegative 4 = .ok (.iconst 1, 1) := by decide +kernel
theorem dX0_isNegative_5 : decode cX0_isNegative 5 = .ok (.goto 4, 3) := by decide +kernel
theorem dX0_isNegative_8 : decode cX0_isNegative 8 = .ok (.iconst 0, 1) := by decide +kernel
theorem dX0_isNegative_9 : decode cX0_isNegative 9 = .ok (.ireturn, 1) := by decide +kernel
theorem dX0_signOf_0 : decode cX0_signOf 0 = .ok (.iload_n 0, 1) := by decide +kernel
theorem dX0_signOf_1 : decode cX0_signOf 1 = .ok (.ldc 21, 2) := by decide +kernel
theorem dX0_signOf_3 : decode cX0_signOf 3 = .ok (.iand, 1) := by decide +kernel
theorem dX0_signOf_4 : decode cX0_signOf 4 = .ok (.ireturn, 1) := by decide +kernel
theorem dX0_exponentOf_0 : decode cX0_exponentOf 0 = .ok (.iload_n 0, 1) := by decide +kernel
theorem dX0_exponentOf_1 : decode cX0_exponentOf 1 = .ok (.ldc 121, 2) := by decide +kernel
theorem dX0_exponentOf_3 : decode cX0_exponentOf 3 = .ok (.iand, 1) := by decide +kernel
theorem dX0_exponentOf_4 : decode cX0_exponentOf 4 = .ok (.bipush 23, 2) := by decide +kernel
theorem dX0_exponentOf_6 : decode cX0_exponentOf 6 = .ok (.ishr, 1) := by decide +kernel
theorem dX0_exponentOf_7 : decode cX0_exponentOf 7 = .ok (.ireturn, 1) := by decide +kernel
theorem dX0_isNoNumber_0 : decode cX0_isNoNumber 0 = .ok (.iload_n 0, 1) := by decide +kernel
theorem dX0_isNoNumber_1 : decode cX0_isNoNumber 1 = .ok (.ldc 121, 2) := by decide +kernel
theorem dX0_isNoNumber_3 : decode cX0_isNoNumber 3 = .ok (.iand, 1) := by decide +kernel
theorem dX0_isNoNumber_4 : decode cX0_isNoNumber 4 = .ok (.ldc 48, 2) := by decide +kernel
theorem dX0_isNoNumber_6 : decode cX0_isNoNumber 6 = .ok (.if_icmp .le 7, 3) := by decide +kernel
theorem dX0_isNoNumber_9 : decode cX0_isNoNumber 9 = .ok (.iconst 1, 1) := by decide +kernel
theorem dX0_isNoNumber_10 : decode cX0_isNoNumber 10 = .ok (.goto 4, 3) := by decide +kernel
theorem dX0_isNoNumber_13 : decode cX0_isNoNumber 13 = .ok (.iconst 0, 1) := by decide +kernel
theorem dX0_isNoNumber_14 : decode cX0_isNoNumber 14 = .ok (.ireturn, 1) := by decide +kernel
set_option maxRecDepth 20000 in
theorem ggX0_isLoud_X0_isNoNumber : GoodIn wsX0_isLoud wsX0_isNoNumber := goodIn_r _ [6, 7, 8] (by decide +kernel) (by decide +kernel)
set_option maxRecDepth 20000 in
theorem gX0_isLoud_X0_isNoNumber : GoodIn wsX0_isLoud (va_wsS RX0 22 yX0_isNoNumber wsX0_isNoNumber) := goodIn_app (goodIn_of _ (by decide +kernel)) ggX0_isLoud_X0_isNoNumber
theorem dX0_isLoud_0 : decode cX0_isLoud 0 = .ok (.iload_n 0, 1) := by decide +kernel
theorem dX0_isLoud_1 : decode cX0_isLoud 1 = .ok (.invokestatic 22, 3) := by decide +kernel
theorem dX0_isLoud_4 : decode cX0_isLoud 4 = .ok (.ifCond .eq 16, 3) := by decide +kernel
theorem dX0_isLoud_7 : decode cX0_isLoud 7 = .ok (.iload_n 0, 1) := by decide +kernel
theorem dX0_isLoud_8 : decode cX0_isLoud 8 = .ok (.ldc 122, 2) := by decide +kernel
theorem dX0_isLoud_10 : decode cX0_isLoud 10 = .ok (.iand, 1) := by decide +kernel
theorem dX0_isLoud_11 : decode cX0_isLoud 11 = .ok (.ldc 123, 2) := by decide +kernel
theorem dX0_isLoud_13 : decode cX0_isLoud 13 = .ok (.if_icmp .ge 7, 3) := by decide +kernel
theorem dX0_isLoud_16 : decode cX0_isLoud 16 = .ok (.iconst 1, 1) := by decide +kernel
theorem dX0_isLoud_17 : decode cX0_isLoud 17 = .ok (.goto 4, 3) := by decide +kernel
theorem dX0_isLoud_20 : decode cX0_isLoud 20 = .ok (.iconst 0, 1) := by decide +kernel
theorem dX0_isLoud_21 : decode cX0_isLoud 21 = .ok (.ireturn, 1) := by decide +kernel
theorem dX0_isInfinite_0 : decode cX0_isInfinite 0 = .ok (.iload_n 0, 1) := by decide +kernel
theorem dX0_isInfinite_1 : decode cX0_isInfinite 1 = .ok (.ldc 121, 2) := by decide +kernel
theorem dX0_isInfinite_3 : decode cX0_isInfinite 3 = .ok (.iand, 1) := by decide +kernel
