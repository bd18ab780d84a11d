theorem dX0_isInfinite_4 : decode cX0_isInfinite 4 = .ok (.ldc 48, 2) := by decide +kernel
theorem dX0_isInfinite_6 : decode cX0_isInfinite 6 = .ok (.if_icmp .ne 7, 3) := by decide +kernel
theorem dX0_isInfinite_9 : decode cX0_isInfinite 9 = .ok (.iconst 1, 1) := by decide +kernel
theorem dX0_isInfinite_10 : decode cX0_isInfinite 10 = .ok (.goto 4, 3) := by decide +kernel
theorem dX0_isInfinite_13 : decode cX0_isInfinite 13 = .ok (.iconst 0, 1) := by decide +kernel
theorem dX0_isInfinite_14 : decode cX0_isInfinite 14 = .ok (.ireturn, 1) := by decide +kernel
theorem dX0_isFinite_0 : decode cX0_isFinite 0 = .ok (.iload_n 0, 1) := by decide +kernel
theorem dX0_isFinite_1 : decode cX0_isFinite 1 = .ok (.ldc 121, 2) := by decide +kernel
theorem dX0_isFinite_3 : decode cX0_isFinite 3 = .ok (.iand, 1) := by decide +kernel
theorem dX0_isFinite_4 : decode cX0_isFinite 4 = .ok (.ldc 48, 2) := by decide +kernel
theorem dX0_isFinite_6 : decode cX0_isFinite 6 = .ok (.if_icmp .ge 7, 3) := by decide +kernel
theorem dX0_isFinite_9 : decode cX0_isFinite 9 = .ok (.iconst 1, 1) := by decide +kernel
theorem dX0_isFinite_10 : decode cX0_isFinite 10 = .ok (.goto 4, 3) := by decide +kernel
theorem dX0_isFinite_13 : decode cX0_isFinite 13 = .ok (.iconst 0, 1) := by decide +kernel
theorem dX0_isFinite_14 : decode cX0_isFinite 14 = .ok (.ireturn, 1) := by decide +kernel
theorem dX0_isZero_0 : decode cX0_isZero 0 = .ok (.iload_n 0, 1) := by decide +kernel
theorem dX0_isZero_1 : decode cX0_isZero 1 = .ok (.ldc 121, 2) := by decide +kernel
theorem dX0_isZero_3 : decode cX0_isZero 3 = .ok (.iand, 1) := by decide +kernel
theorem dX0_isZero_4 : decode cX0_isZero 4 = .ok (.ifCond .ne 7, 3) := by decide +kernel
theorem dX0_isZero_7 : decode cX0_isZero 7 = .ok (.iconst 1, 1) := by decide +kernel
theorem dX0_isZero_8 : decode cX0_isZero 8 = .ok (.goto 4, 3) := by decide +kernel
theorem dX0_isZero_11 : decode cX0_isZero 11 = .ok (.iconst 0, 1) := by decide +kernel
theorem dX0_isZero_12 : decode cX0_isZero 12 = .ok (.ireturn, 1) := by decide +kernel
set_option maxRecDepth 20000 in
theorem ggX0_isZeroTimesInfinite_X0_isZero : GoodIn wsX0_isZeroTimesInfinite wsX0_isZero := goodIn_r _ [4, 5] (by decide +kernel) (by decide +kernel)
set_option maxRecDepth 20000 in
theorem gX0_isZeroTimesInfinite_X0_isZero : GoodIn wsX0_isZeroTimesInfinite (va_wsS RX0 60 yX0_isZero wsX0_isZero) := goodIn_app (goodIn_of _ (by decide +kernel)) ggX0_isZeroTimesInfinite_X0_isZero
set_option maxRecDepth 20000 in
theorem ggX0_isZeroTimesInfinite_X0_isInfinite : GoodIn wsX0_isZeroTimesInfinite wsX0_isInfinite := goodIn_r _ [8, 5, 9] (by decide +kernel) (by decide +kernel)
set_option maxRecDepth 20000 in
theorem gX0_isZeroTimesInfinite_X0_isInfinite : GoodIn wsX0_isZeroTimesInfinite (va_wsS RX0 45 yX0_isInfinite wsX0_isInfinite) := goodIn_app (goodIn_of _ (by decide +kernel)) ggX0_isZeroTimesInfinite_X0_isInfinite
theorem dX0_isZeroTimesInfinite_0 : decode cX0_isZeroTimesInfinite 0 = .ok (.iload_n 0, 1) := by decide +kernel
theorem dX0_isZeroTimesInfinite_1 : decode cX0_isZeroTimesInfinite 1 = .ok (.invokestatic 60, 3) := by decide +kernel
theorem dX0_isZeroTimesInfinite_4 : decode cX0_isZeroTimesInfinite 4 = .ok (.ifCond .eq 10, 3) := by decide +kernel
theorem dX0_isZeroTimesInfinite_7 : decode cX0_isZeroTimesInfinite 7 = .ok (.iload_n 1, 1) := by decide +kernel
theorem dX0_isZeroTimesInfinite_8 : decode cX0_isZeroTimesInfinite 8 = .ok (.invokestatic 45, 3) := by decide +kernel
theorem dX0_isZeroTimesInfinite_11 : decode cX0_isZeroTimesInfinite 11 = .ok (.ifCond .ne 17, 3) := by decide +kernel
theorem dX0_isZeroTimesInfinite_14 : decode cX0_isZeroTimesInfinite 14 = .ok (.iload_n 0, 1) := by decide +kernel
theorem dX0_isZeroTimesInfinite_15 : decode cX0_isZeroTimesInfinite 15 = .ok (.invokestatic 45, 3) := by decide +kernel
theorem dX0_isZeroTimesInfinite_18 : decode cX0_isZeroTimesInfinite 18 = .ok (.ifCond .eq 14, 3) := by decide +kernel
theorem dX0_isZeroTimesInfinite_21 : decode cX0_isZeroTimesInfinite 21 = .ok (.iload_n 1, 1) := by decide +kernel
theorem dX0_isZeroTimesInfinite_22 : decode cX0_isZeroTimesInfinite 22 = .ok (.invokestatic 60, 3) := by decide +kernel
theorem dX0_isZeroTimesInfinite_25 : decode cX0_isZeroTimesInfinite 25 = .ok (.ifCond .eq 7, 3) := by decide +kernel
theorem dX0_isZeroTimesInfinite_28 : decode cX0_isZeroTimesInfinite 28 = .ok (.iconst 1, 1) := by decide +kernel
theorem dX0_isZeroTimesInfinite_29 : decode cX0_isZeroTimesInfinite 29 = .ok (.goto 4, 3) := by decide +kernel
theorem dX0_isZeroTimesInfinite_32 : decode cX0_isZeroTimesInfinite 32 = .ok (.iconst 0, 1) := by decide +kernel
theorem dX0_isZeroTimesInfinite_33 : decode cX0_isZeroTimesInfinite 33 = .ok (.ireturn, 1) := by decide +kernel
set_option maxRecDepth 20000 in
theorem ggX0_magnitudeOf_X0_exponentOf : GoodIn wsX0_magnitudeOf wsX0_exponentOf := goodIn_r _ [6, 7] (by decide +kernel) (by decide +kernel)
set_option maxRecDepth 20000 in
theorem gX0_magnitudeOf_X0_exponentOf : GoodIn wsX0_magnitudeOf (va_wsS RX0 118 yX0_exponentOf wsX0_exponentOf) := goodIn_app (goodIn_of _ (by decide +kernel)) ggX0_magnitudeOf_X0_exponentOf
theorem dX0_magnitudeOf_0 : decode cX0_magnitudeOf 0 = .ok (.iload_n 0, 1) := by decide +kernel
theorem dX0_magnitudeOf_1 : decode cX0_magnitudeOf 1 = .ok (.ldc 122, 2) := by decide +kernel
theorem dX0_magnitudeOf_3 : decode cX0_magnitudeOf 3 = .ok (.iand, 1) := by decide +kernel
theorem dX0_magnitudeOf_4 : decode cX0_magnitudeOf 4 = .ok (.istore_n 1, 1) := by decide +kernel
theorem dX0_magnitudeOf_5 : decode cX0_magnitudeOf 5 = .ok (.iload_n 0, 1) := by decide +kernel
theorem dX0_magnitudeOf_6 : decode cX0_magnitudeOf 6 = .ok (.invokestatic 118, 3) := by decide +kernel
theorem dX0_magnitudeOf_9 : decode cX0_magnitudeOf 9 = .ok (.ifCond .ne 8, 3) := by decide +kernel
theorem dX0_magnitudeOf_12 : decode cX0_magnitudeOf 12 = .ok (.iload_n 1, 1) := by decide +kernel
theorem dX0_magnitudeOf_13 : decode cX0_magnitudeOf 13 = .ok (.i2l, 1) := by decide +kernel
theorem dX0_magnitudeOf_14 : decode cX0_magnitudeOf 14 = .ok (.goto 8, 3) := by decide +kernel
theorem dX0_magnitudeOf_17 : decode cX0_magnitudeOf 17 = .ok (.ldc 124, 2) := by decide +kernel
theorem dX0_magnitudeOf_19 : decode cX0_magnitudeOf 19 = .ok (.iload_n 1, 1) := by decide +kernel
theorem dX0_magnitudeOf_20 : decode cX0_magnitudeOf 20 = .ok (.iadd, 1) := by decide +kernel
theorem dX0_magnitudeOf_21 : decode cX0_magnitudeOf 21 = .ok (.i2l, 1) := by decide +kernel
theorem dX0_magnitudeOf_22 : decode cX0_magnitudeOf 22 = .ok (.lreturn, 1) := by decide +kernel
set_option maxRecDepth 20000 in
theorem ggX0_unitOf_X0_exponentOf : GoodIn wsX0_unitOf wsX0_exponentOf := goodIn_r _ [8, 9] (by decide +kernel) (by decide +kernel)
set_option maxRecDepth 20000 in
theorem gX0_unitOf_X0_exponentOf : GoodIn wsX0_unitOf (va_wsS RX0 118 yX0_exponentOf wsX0_exponentOf) := goodIn_app (goodIn_of _ (by decide +kernel)) ggX0_unitOf_X0_exponentOf
theorem dX0_unitOf_0 : decode cX0_unitOf 0 = .ok (.iload_n 0, 1) := by decide +kernel
theorem dX0_unitOf_1 : decode cX0_unitOf 1 = .ok (.invokestatic 118, 3) := by decide +kernel
theorem dX0_unitOf_4 : decode cX0_unitOf 4 = .ok (.iconst 1, 1) := by decide +kernel
theorem dX0_unitOf_5 : decode cX0_unitOf 5 = .ok (.invokestatic 88, 3) := by decide +kernel
theorem dX0_unitOf_8 : decode cX0_unitOf 8 = .ok (.iconst 1, 1) := by decide +kernel
theorem dX0_unitOf_9 : decode cX0_unitOf 9 = .ok (.isub, 1) := by decide +kernel
theorem dX0_unitOf_10 : decode cX0_unitOf 10 = .ok (.sipush (-149), 3) := by decide +kernel
theorem dX0_unitOf_13 : decode cX0_unitOf 13 = .ok (.iadd, 1) := by decide +kernel
theorem dX0_unitOf_14 : decode cX0_unitOf 14 = .ok (.ireturn, 1) := by decide +kernel
set_option maxRecDepth 20000 in
theorem ggX0_place_X0_isNegative : GoodIn wsX0_place wsX0_isNegative := goodIn_r _ [5] (by decide +kernel) (by decide +kernel)
set_option maxRecDepth 20000 in
theorem gX0_place_X0_isNegative : GoodIn wsX0_place (va_wsS RX0 75 yX0_isNegative wsX0_isNegative) := goodIn_app (goodIn_of _ (by decide +kernel)) ggX0_place_X0_isNegative
theorem dX0_place_0 : decode cX0_place 0 = .ok (.iload_n 0, 1) := by decide +kernel
theorem dX0_place_1 : decode cX0_place 1 = .ok (.ldc 121, 2) := by decide +kernel
theorem dX0_place_3 : decode cX0_place 3 = .ok (.iand, 1) := by decide +kernel
theorem dX0_place_4 : decode cX0_place 4 = .ok (.istore_n 1, 1) := by decide +kernel
theorem dX0_place_5 : decode cX0_place 5 = .ok (.iload_n 0, 1) := by decide +kernel
theorem dX0_place_6 : decode cX0_place 6 = .ok (.invokestatic 75, 3) := by decide +kernel
theorem dX0_place_9 : decode cX0_place 9 = .ok (.ifCond .eq 8, 3) := by decide +kernel
theorem dX0_place_12 : decode cX0_place 12 = .ok (.iload_n 1, 1) := by decide +kernel
theorem dX0_place_13 : decode cX0_place 13 = .ok (.ineg, 1) := by decide +kernel
theorem dX0_place_14 : decode cX0_place 14 = .ok (.goto 4, 3) := by decide +kernel
theorem dX0_place_17 : decode cX0_place 17 = .ok (.iload_n 1, 1) := by decide +kernel
theorem dX0_place_18 : decode cX0_place 18 = .ok (.ireturn, 1) := by decide +kernel
theorem dX0_raise_0 : decode cX0_raise 0 = .ok (.aload_n 0, 1) := by decide +kernel
theorem dX0_raise_1 : decode cX0_raise 1 = .ok (.dup, 1) := by decide +kernel
theorem dX0_raise_2 : decode cX0_raise 2 = .ok (.getfield 13, 3) := by decide +kernel
theorem dX0_raise_5 : decode cX0_raise 5 = .ok (.iload_n 1, 1) := by decide +kernel
theorem dX0_raise_6 : decode cX0_raise 6 = .ok (.ior, 1) := by decide +kernel
theorem dX0_raise_7 : decode cX0_raise 7 = .ok (.putfield 13, 3) := by decide +kernel
theorem dX0_raise_10 : decode cX0_raise 10 = .ok (.return_, 1) := by decide +kernel
set_option maxRecDepth 20000 in
theorem ggX0_noNumber_X0_raise : GoodIn wsX0_noNumber wsX0_raise := goodIn_r _ [6, 7, 8, 9] (by decide +kernel) (by decide +kernel)
set_option maxRecDepth 20000 in
theorem gX0_noNumber_X0_raise : GoodIn wsX0_noNumber (wsV RX0 63 RX0 yX0_raise wsX0_raise) := goodIn_app (goodIn_of _ (by decide +kernel)) ggX0_noNumber_X0_raise
theorem dX0_noNumber_0 : decode cX0_noNumber 0 = .ok (.iload_n 1, 1) := by decide +kernel
theorem dX0_noNumber_1 : decode cX0_noNumber 1 = .ok (.ifCond .eq 9, 3) := by decide +kernel
theorem dX0_noNumber_4 : decode cX0_noNumber 4 = .ok (.aload_n 0, 1) := by decide +kernel
theorem dX0_noNumber_5 : decode cX0_noNumber 5 = .ok (.bipush 16, 2) := by decide +kernel
theorem dX0_noNumber_7 : decode cX0_noNumber 7 = .ok (.invokevirtual 63, 3) := by decide +kernel
theorem dX0_noNumber_10 : decode cX0_noNumber 10 = .ok (.ldc 125, 2) := by decide +kernel
theorem dX0_noNumber_12 : decode cX0_noNumber 12 = .ok (.ireturn, 1) := by decide +kernel
set_option maxRecDepth 20000 in
theorem ggX0_invalid_X0_raise : GoodIn wsX0_invalid wsX0_raise := goodIn_r _ [6, 7, 8, 9] (by decide +kernel) (by decide +kernel)
set_option maxRecDepth 20000 in
theorem gX0_invalid_X0_raise : GoodIn wsX0_invalid (wsV RX0 63 RX0 yX0_raise wsX0_raise) := goodIn_app (goodIn_of _ (by decide +kernel)) ggX0_invalid_X0_raise
theorem dX0_invalid_0 : decode cX0_invalid 0 = .ok (.aload_n 0, 1) := by decide +kernel
theorem dX0_invalid_1 : decode cX0_invalid 1 = .ok (.bipush 16, 2) := by decide +kernel
theorem dX0_invalid_3 : decode cX0_invalid 3 = .ok (.invokevirtual 63, 3) := by decide +kernel
theorem dX0_invalid_6 : decode cX0_invalid 6 = .ok (.ldc 125, 2) := by decide +kernel
theorem dX0_invalid_8 : decode cX0_invalid 8 = .ok (.ireturn, 1) := by decide +kernel
set_option maxRecDepth 20000 in
theorem ggX0_invalidInt_X0_raise : GoodIn wsX0_invalidInt wsX0_raise := goodIn_r _ [6, 7, 8, 9] (by decide +kernel) (by decide +kernel)
set_option maxRecDepth 20000 in
theorem gX0_invalidInt_X0_raise : GoodIn wsX0_invalidInt (wsV RX0 63 RX0 yX0_raise wsX0_raise) := goodIn_app (goodIn_of _ (by decide +kernel)) ggX0_invalidInt_X0_raise
theorem dX0_invalidInt_0 : decode cX0_invalidInt 0 = .ok (.aload_n 0, 1) := by decide +kernel
theorem dX0_invalidInt_1 : decode cX0_invalidInt 1 = .ok (.bipush 16, 2) := by decide +kernel
theorem dX0_invalidInt_3 : decode cX0_invalidInt 3 = .ok (.invokevirtual 63, 3) := by decide +kernel
theorem dX0_invalidInt_6 : decode cX0_invalidInt 6 = .ok (.ldc 21, 2) := by decide +kernel
theorem dX0_invalidInt_8 : decode cX0_invalidInt 8 = .ok (.ireturn, 1) := by decide +kernel
set_option maxRecDepth 20000 in
theorem ggX0_productPlus_X0_isZeroTimesInfinite : GoodIn wsX0_productPlus wsX0_isZeroTimesInfinite := goodIn_r _ [5, 6, 7, 4, 8, 9, 10, 11, 12, 1] (by decide +kernel) (by decide +kernel)
set_option maxRecDepth 20000 in
theorem gX0_productPlus_X0_isZeroTimesInfinite : GoodIn wsX0_productPlus (va_wsS RX0 33 yX0_isZeroTimesInfinite wsX0_isZeroTimesInfinite) := goodIn_app (goodIn_of _ (by decide +kernel)) ggX0_productPlus_X0_isZeroTimesInfinite
set_option maxRecDepth 20000 in
theorem ggX0_productPlus_X0_invalid : GoodIn wsX0_productPlus wsX0_invalid := goodIn_r _ [16, 17, 18, 19, 20, 4, 21, 22, 117, 118] (by decide +kernel) (by decide +kernel)
set_option maxRecDepth 20000 in
theorem gX0_productPlus_X0_invalid : GoodIn wsX0_productPlus (wsV RX0 37 RX0 yX0_invalid wsX0_invalid) := goodIn_app (goodIn_of _ (by decide +kernel)) ggX0_productPlus_X0_invalid
set_option maxRecDepth 20000 in
theorem ggX0_productPlus_X0_isNoNumber : GoodIn wsX0_productPlus wsX0_isNoNumber := goodIn_r _ [25, 9, 1] (by decide +kernel) (by decide +kernel)
set_option maxRecDepth 20000 in
theorem gX0_productPlus_X0_isNoNumber : GoodIn wsX0_productPlus (va_wsS RX0 22 yX0_isNoNumber wsX0_isNoNumber) := goodIn_app (goodIn_of _ (by decide +kernel)) ggX0_productPlus_X0_isNoNumber
set_option maxRecDepth 20000 in
theorem ggX0_productPlus_X0_isLoud : GoodIn wsX0_productPlus wsX0_isLoud := goodIn_r _ [28, 29, 30, 23, 24, 4, 25, 9, 1] (by decide +kernel) (by decide +kernel)
set_option maxRecDepth 20000 in
theorem gX0_productPlus_X0_isLoud : GoodIn wsX0_productPlus (va_wsS RX0 26 yX0_isLoud wsX0_isLoud) := goodIn_app (goodIn_of _ (by decide +kernel)) ggX0_productPlus_X0_isLoud
set_option maxRecDepth 20000 in
theorem ggX0_productPlus_X0_noNumber : GoodIn wsX0_productPlus wsX0_noNumber := goodIn_r _ [34, 17, 18, 19, 20, 4, 21, 22, 117, 118] (by decide +kernel) (by decide +kernel)
set_option maxRecDepth 20000 in
theorem gX0_productPlus_X0_noNumber : GoodIn wsX0_productPlus (wsV RX0 29 RX0 yX0_noNumber wsX0_noNumber) := goodIn_app (goodIn_of _ (by decide +kernel)) ggX0_productPlus_X0_noNumber
set_option maxRecDepth 20000 in
theorem ggX0_productPlus_X0_signOf : GoodIn wsX0_productPlus wsX0_signOf := goodIn_r _ [37, 38] (by decide +kernel) (by decide +kernel)
set_option maxRecDepth 20000 in
theorem gX0_productPlus_X0_signOf : GoodIn wsX0_productPlus (va_wsS RX0 41 yX0_signOf wsX0_signOf) := goodIn_app (goodIn_of _ (by decide +kernel)) ggX0_productPlus_X0_signOf
set_option maxRecDepth 20000 in
theorem ggX0_productPlus_X0_isInfinite : GoodIn wsX0_productPlus wsX0_isInfinite := goodIn_r _ [12, 9, 1] (by decide +kernel) (by decide +kernel)
set_option maxRecDepth 20000 in
theorem gX0_productPlus_X0_isInfinite : GoodIn wsX0_productPlus (va_wsS RX0 45 yX0_isInfinite wsX0_isInfinite) := goodIn_app (goodIn_of _ (by decide +kernel)) ggX0_productPlus_X0_isInfinite
set_option maxRecDepth 20000 in
theorem ggX0_productPlus_X0_magnitudeOf : GoodIn wsX0_productPlus wsX0_magnitudeOf := goodIn_r _ [41, 29, 42, 43, 44, 4, 45, 9] (by decide +kernel) (by decide +kernel)
set_option maxRecDepth 20000 in
theorem gX0_productPlus_X0_magnitudeOf : GoodIn wsX0_productPlus (va_wsS RX0 49 yX0_magnitudeOf wsX0_magnitudeOf) := goodIn_app (goodIn_of _ (by decide +kernel)) ggX0_productPlus_X0_magnitudeOf
set_option maxRecDepth 20000 in
theorem ggX0_productPlus_X0_unitOf : GoodIn wsX0_productPlus wsX0_unitOf := goodIn_r _ [48, 49, 50, 51, 52, 43, 44, 4, 45, 9] (by decide +kernel) (by decide +kernel)
set_option maxRecDepth 20000 in
theorem gX0_productPlus_X0_unitOf : GoodIn wsX0_productPlus (va_wsS RX0 53 yX0_unitOf wsX0_unitOf) := goodIn_app (goodIn_of _ (by decide +kernel)) ggX0_productPlus_X0_unitOf
set_option maxRecDepth 20000 in
theorem ggX0_productPlus_X0_finiteSum : GoodIn wsX0_productPlus wsX0_finiteSum := goodIn_r _ [56, 49, 50, 51, 52, 38, 57, 58, 59, 6, 7, 4, 8, 9, 35, 36, 37, 60, 61, 62, 63, 64, 65, 66, 67, 68, 69, 70, 71, 72, 73, 74, 75, 76, 77, 78, 79, 80, 81, 82, 83, 84, 18, 19, 20, 21, 22, 85, 86, 87, 88, 89, 90, 91, 92, 93, 94, 95, 96, 97, 98, 99, 100, 101, 102, 103, 104, 105, 106, 1, 107, 46, 47, 48, 43, 44, 45, 39, 40, 41, 29, 42, 108, 109, 110, 111, 112, 113, 114, 115, 116, 117, 118] (by decide +kernel) (by decide +kernel)
set_option maxRecDepth 20000 in
theorem gX0_productPlus_X0_finiteSum : GoodIn wsX0_productPlus (wsV RX0 126 RX0 yX0_finiteSum wsX0_finiteSum) := goodIn_app (goodIn_of _ (by decide +kernel)) ggX0_productPlus_X0_finiteSum
theorem dX0_productPlus_0 : decode cX0_productPlus 0 = .ok (.iload_n 1, 1) := by decide +kernel
theorem dX0_productPlus_1 : decode cX0_productPlus 1 = .ok (.iload_n 2, 1) := by decide +kernel
theorem dX0_productPlus_2 : decode cX0_productPlus 2 = .ok (.invokestatic 33, 3) := by decide +kernel
theorem dX0_productPlus_5 : decode cX0_productPlus 5 = .ok (.ifCond .eq 8, 3) := by decide +kernel
theorem dX0_productPlus_8 : decode cX0_productPlus 8 = .ok (.aload_n 0, 1) := by decide +kernel
theorem dX0_productPlus_9 : decode cX0_productPlus 9 = .ok (.invokevirtual 37, 3) := by decide +kernel
theorem dX0_productPlus_12 : decode cX0_productPlus 12 = .ok (.ireturn, 1) := by decide +kernel
theorem dX0_productPlus_13 : decode cX0_productPlus 13 = .ok (.iload_n 1, 1) := by decide +kernel
theorem dX0_productPlus_14 : decode cX0_productPlus 14 = .ok (.invokestatic 22, 3) := by decide +kernel
theorem dX0_productPlus_17 : decode cX0_productPlus 17 = .ok (.ifCond .ne 17, 3) := by decide +kernel
theorem dX0_productPlus_20 : decode cX0_productPlus 20 = .ok (.iload_n 2, 1) := by decide +kernel
theorem dX0_productPlus_21 : decode cX0_productPlus 21 = .ok (.invokestatic 22, 3) := by decide +kernel
theorem dX0_productPlus_24 : decode cX0_productPlus 24 = .ok (.ifCond .ne 10, 3) := by decide +kernel
theorem dX0_productPlus_27 : decode cX0_productPlus 27 = .ok (.iload_n 3, 1) := by decide +kernel
theorem dX0_productPlus_28 : decode cX0_productPlus 28 = .ok (.invokestatic 22, 3) := by decide +kernel
theorem dX0_productPlus_31 : decode cX0_productPlus 31 = .ok (.ifCond .eq 34, 3) := by decide +kernel
theorem dX0_productPlus_34 : decode cX0_productPlus 34 = .ok (.aload_n 0, 1) := by decide +kernel
theorem dX0_productPlus_35 : decode cX0_productPlus 35 = .ok (.iload_n 1, 1) := by decide +kernel
theorem dX0_productPlus_36 : decode cX0_productPlus 36 = .ok (.invokestatic 26, 3) := by decide +kernel
theorem dX0_productPlus_39 : decode cX0_productPlus 39 = .ok (.ifCond .ne 17, 3) := by decide +kernel
theorem dX0_productPlus_42 : decode cX0_productPlus 42 = .ok (.iload_n 2, 1) := by decide +kernel
theorem dX0_productPlus_43 : decode cX0_productPlus 43 = .ok (.invokestatic 26, 3) := by decide +kernel
theorem dX0_productPlus_46 : decode cX0_productPlus 46 = .ok (.ifCond .ne 10, 3) := by decide +kernel
theorem dX0_productPlus_49 : decode cX0_productPlus 49 = .ok (.iload_n 3, 1) := by decide +kernel
theorem dX0_productPlus_50 : decode cX0_productPlus 50 = .ok (.invokestatic 26, 3) := by decide +kernel
theorem dX0_productPlus_53 : decode cX0_productPlus 53 = .ok (.ifCond .eq 7, 3) := by decide +kernel
theorem dX0_productPlus_56 : decode cX0_productPlus 56 = .ok (.iconst 1, 1) := by decide +kernel
theorem dX0_productPlus_57 : decode cX0_productPlus 57 = .ok (.goto 4, 3) := by decide +kernel
theorem dX0_productPlus_60 : decode cX0_productPlus 60 = .ok (.iconst 0, 1) := by decide +kernel
theorem dX0_productPlus_61 : decode cX0_productPlus 61 = .ok (.invokevirtual 29, 3) := by decide +kernel
theorem dX0_productPlus_64 : decode cX0_productPlus 64 = .ok (.ireturn, 1) := by decide +kernel
theorem dX0_productPlus_65 : decode cX0_productPlus 65 = .ok (.iload_n 1, 1) := by decide +kernel
theorem dX0_productPlus_66 : decode cX0_productPlus 66 = .ok (.iload_n 2, 1) := by decide +kernel
theorem dX0_productPlus_67 : decode cX0_productPlus 67 = .ok (.ixor, 1) := by decide +kernel
theorem dX0_productPlus_68 : decode cX0_productPlus 68 = .ok (.invokestatic 41, 3) := by decide +kernel
theorem dX0_productPlus_71 : decode cX0_productPlus 71 = .ok (.istore 4, 2) := by decide +kernel
theorem dX0_productPlus_73 : decode cX0_productPlus 73 = .ok (.iload_n 1, 1) := by decide +kernel
theorem dX0_productPlus_74 : decode cX0_productPlus 74 = .ok (.invokestatic 45, 3) := by decide +kernel
theorem dX0_productPlus_77 : decode cX0_productPlus 77 = .ok (.ifCond .ne 10, 3) := by decide +kernel
theorem dX0_productPlus_80 : decode cX0_productPlus 80 = .ok (.iload_n 2, 1) := by decide +kernel
theorem dX0_productPlus_81 : decode cX0_productPlus 81 = .ok (.invokestatic 45, 3) := by decide +kernel
theorem dX0_productPlus_84 : decode cX0_productPlus 84 = .ok (.ifCond .eq 44, 3) := by decide +kernel
theorem dX0_productPlus_87 : decode cX0_productPlus 87 = .ok (.iload_n 3, 1) := by decide +kernel
theorem dX0_productPlus_88 : decode cX0_productPlus 88 = .ok (.invokestatic 45, 3) := by decide +kernel
theorem dX0_productPlus_91 : decode cX0_productPlus 91 = .ok (.ifCond .eq 16, 3) := by decide +kernel
theorem dX0_productPlus_94 : decode cX0_productPlus 94 = .ok (.iload_n 3, 1) := by decide +kernel
theorem dX0_productPlus_95 : decode cX0_productPlus 95 = .ok (.invokestatic 41, 3) := by decide +kernel
theorem dX0_productPlus_98 : decode cX0_productPlus 98 = .ok (.iload 4, 2) := by decide +kernel
theorem dX0_productPlus_100 : decode cX0_productPlus 100 = .ok (.if_icmp .eq 7, 3) := by decide +kernel
theorem dX0_productPlus_103 : decode cX0_productPlus 103 = .ok (.iconst 1, 1) := by decide +kernel
theorem dX0_productPlus_104 : decode cX0_productPlus 104 = .ok (.goto 4, 3) := by decide +kernel
theorem dX0_productPlus_107 : decode cX0_productPlus 107 = .ok (.iconst 0, 1) := by decide +kernel
theorem dX0_productPlus_108 : decode cX0_productPlus 108 = .ok (.istore 5, 2) := by decide +kernel
theorem dX0_productPlus_110 : decode cX0_productPlus 110 = .ok (.iload 5, 2) := by decide +kernel
theorem dX0_productPlus_112 : decode cX0_productPlus 112 = .ok (.ifCond .eq 10, 3) := by decide +kernel
theorem dX0_productPlus_115 : decode cX0_productPlus 115 = .ok (.aload_n 0, 1) := by decide +kernel
theorem dX0_productPlus_116 : decode cX0_productPlus 116 = .ok (.invokevirtual 37, 3) := by decide +kernel
theorem dX0_productPlus_119 : decode cX0_productPlus 119 = .ok (.goto 8, 3) := by decide +kernel
theorem dX0_productPlus_122 : decode cX0_productPlus 122 = .ok (.iload 4, 2) := by decide +kernel
theorem dX0_productPlus_124 : decode cX0_productPlus 124 = .ok (.ldc 48, 2) := by decide +kernel
theorem dX0_productPlus_126 : decode cX0_productPlus 126 = .ok (.ior, 1) := by decide +kernel
theorem dX0_productPlus_127 : decode cX0_productPlus 127 = .ok (.ireturn, 1) := by decide +kernel
theorem dX0_productPlus_128 : decode cX0_productPlus 128 = .ok (.iload_n 3, 1) := by decide +kernel
theorem dX0_productPlus_129 : decode cX0_productPlus 129 = .ok (.invokestatic 45, 3) := by decide +kernel
theorem dX0_productPlus_132 : decode cX0_productPlus 132 = .ok (.ifCond .eq 5, 3) := by decide +kernel
theorem dX0_productPlus_135 : decode cX0_productPlus 135 = .ok (.iload_n 3, 1) := by decide +kernel
theorem dX0_productPlus_136 : decode cX0_productPlus 136 = .ok (.ireturn, 1) := by decide +kernel
theorem dX0_productPlus_137 : decode cX0_productPlus 137 = .ok (.aload_n 0, 1) := by decide +kernel
theorem dX0_productPlus_138 : decode cX0_productPlus 138 = .ok (.iload 4, 2) := by decide +kernel
theorem dX0_productPlus_140 : decode cX0_productPlus 140 = .ok (.iload_n 1, 1) := by decide +kernel
theorem dX0_productPlus_141 : decode cX0_productPlus 141 = .ok (.invokestatic 49, 3) := by decide +kernel
theorem dX0_productPlus_144 : decode cX0_productPlus 144 = .ok (.iload_n 2, 1) := by decide +kernel
theorem dX0_productPlus_145 : decode cX0_productPlus 145 = .ok (.invokestatic 49, 3) := by decide +kernel
theorem dX0_productPlus_148 : decode cX0_productPlus 148 = .ok (.lmul, 1) := by decide +kernel
theorem dX0_productPlus_149 : decode cX0_productPlus 149 = .ok (.iload_n 1, 1) := by decide +kernel
theorem dX0_productPlus_150 : decode cX0_productPlus 150 = .ok (.invokestatic 53, 3) := by decide +kernel
theorem dX0_productPlus_153 : decode cX0_productPlus 153 = .ok (.iload_n 2, 1) := by decide +kernel
theorem dX0_productPlus_154 : decode cX0_productPlus 154 = .ok (.invokestatic 53, 3) := by decide +kernel
theorem dX0_productPlus_157 : decode cX0_productPlus 157 = .ok (.iadd, 1) := by decide +kernel
theorem dX0_productPlus_158 : decode cX0_productPlus 158 = .ok (.iload_n 3, 1) := by decide +kernel
theorem dX0_productPlus_159 : decode cX0_productPlus 159 = .ok (.invokevirtual 126, 3) := by decide +kernel
theorem dX0_productPlus_162 : decode cX0_productPlus 162 = .ok (.ireturn, 1) := by decide +kernel
set_option maxRecDepth 20000 in
theorem ggX0_finiteSum_X0_isZero : GoodIn wsX0_finiteSum wsX0_isZero := goodIn_r _ [12, 13] (by decide +kernel) (by decide +kernel)
set_option maxRecDepth 20000 in
theorem gX0_finiteSum_X0_isZero : GoodIn wsX0_finiteSum (va_wsS RX0 60 yX0_isZero wsX0_isZero) := goodIn_app (goodIn_of _ (by decide +kernel)) ggX0_finiteSum_X0_isZero
set_option maxRecDepth 20000 in
theorem ggX0_finiteSum_X0_signOf : GoodIn wsX0_finiteSum wsX0_signOf := goodIn_r _ [16, 5] (by decide +kernel) (by decide +kernel)
set_option maxRecDepth 20000 in
theorem gX0_finiteSum_X0_signOf : GoodIn wsX0_finiteSum (va_wsS RX0 41 yX0_signOf wsX0_signOf) := goodIn_app (goodIn_of _ (by decide +kernel)) ggX0_finiteSum_X0_signOf
set_option maxRecDepth 20000 in
theorem ggX0_finiteSum_X0_zeroOfMode : GoodIn wsX0_finiteSum wsX0_zeroOfMode := goodIn_r _ [20, 21, 5, 91, 92] (by decide +kernel) (by decide +kernel)
set_option maxRecDepth 20000 in
theorem gX0_finiteSum_X0_zeroOfMode : GoodIn wsX0_finiteSum (wsV RX0 130 RX0 yX0_zeroOfMode wsX0_zeroOfMode) := goodIn_app (goodIn_of _ (by decide +kernel)) ggX0_finiteSum_X0_zeroOfMode
set_option maxRecDepth 20000 in
theorem ggX0_finiteSum_X0_rounded : GoodIn wsX0_finiteSum wsX0_rounded := goodIn_r _ [25, 1, 2, 3, 4, 26, 27, 28, 11, 29, 30, 31, 32, 33, 34, 35, 36, 37, 38, 39, 40, 41, 42, 43, 44, 45, 46, 47, 48, 49, 50, 51, 52, 53, 54, 55, 56, 57, 21, 58, 59, 60, 61, 62, 63, 64, 65, 66, 67, 68, 69, 70, 91, 92] (by decide +kernel) (by decide +kernel)
set_option maxRecDepth 20000 in
theorem gX0_finiteSum_X0_rounded : GoodIn wsX0_finiteSum (wsV RX0 56 RX0 yX0_rounded wsX0_rounded) := goodIn_app (goodIn_of _ (by decide +kernel)) ggX0_finiteSum_X0_rounded
set_option maxRecDepth 20000 in
theorem ggX0_finiteSum_X0_bitLength : GoodIn wsX0_finiteSum wsX0_bitLength := goodIn_r _ [29, 30, 31, 32, 33, 34, 35, 36, 37, 38] (by decide +kernel) (by decide +kernel)
set_option maxRecDepth 20000 in
theorem gX0_finiteSum_X0_bitLength : GoodIn wsX0_finiteSum (va_wsS RX0 67 yX0_bitLength wsX0_bitLength) := goodIn_app (goodIn_of _ (by decide +kernel)) ggX0_finiteSum_X0_bitLength
set_option maxRecDepth 20000 in
theorem ggX0_finiteSum_X0_unitOf : GoodIn wsX0_finiteSum wsX0_unitOf := goodIn_r _ [73, 1, 2, 3, 4, 74, 75, 11, 76, 13] (by decide +kernel) (by decide +kernel)
set_option maxRecDepth 20000 in
theorem gX0_finiteSum_X0_unitOf : GoodIn wsX0_finiteSum (va_wsS RX0 53 yX0_unitOf wsX0_unitOf) := goodIn_app (goodIn_of _ (by decide +kernel)) ggX0_finiteSum_X0_unitOf
set_option maxRecDepth 20000 in
theorem ggX0_finiteSum_X0_magnitudeOf : GoodIn wsX0_finiteSum wsX0_magnitudeOf := goodIn_r _ [79, 80, 81, 74, 75, 11, 76, 13] (by decide +kernel) (by decide +kernel)
set_option maxRecDepth 20000 in
theorem gX0_finiteSum_X0_magnitudeOf : GoodIn wsX0_finiteSum (va_wsS RX0 49 yX0_magnitudeOf wsX0_magnitudeOf) := goodIn_app (goodIn_of _ (by decide +kernel)) ggX0_finiteSum_X0_magnitudeOf
set_option maxRecDepth 20000 in
theorem ggX0_finiteSum_X0_aligned : GoodIn wsX0_finiteSum wsX0_aligned := goodIn_r _ [84, 51, 52, 11, 53, 39, 40, 41, 85, 86, 87] (by decide +kernel) (by decide +kernel)
set_option maxRecDepth 20000 in
theorem gX0_finiteSum_X0_aligned : GoodIn wsX0_finiteSum (va_wsS RX0 133 yX0_aligned wsX0_aligned) := goodIn_app (goodIn_of _ (by decide +kernel)) ggX0_finiteSum_X0_aligned
set_option maxRecDepth 20000 in
theorem ggX0_finiteSum_X0_isNegative : GoodIn wsX0_finiteSum wsX0_isNegative := goodIn_r _ [90] (by decide +kernel) (by decide +kernel)
set_option maxRecDepth 20000 in
theorem gX0_finiteSum_X0_isNegative : GoodIn wsX0_finiteSum (va_wsS RX0 75 yX0_isNegative wsX0_isNegative) := goodIn_app (goodIn_of _ (by decide +kernel)) ggX0_finiteSum_X0_isNegative
theorem dX0_finiteSum_0 : decode cX0_finiteSum 0 = .ok (.lload_n 2, 1) := by decide +kernel
theorem dX0_finiteSum_1 : decode cX0_finiteSum 1 = .ok (.lconst 0, 1) := by decide +kernel
theorem dX0_finiteSum_2 : decode cX0_finiteSum 2 = .ok (.lcmp, 1) := by decide +kernel
theorem dX0_finiteSum_3 : decode cX0_finiteSum 3 = .ok (.ifCond .ne 29, 3) := by decide +kernel
theorem dX0_finiteSum_6 : decode cX0_finiteSum 6 = .ok (.iload 5, 2) := by decide +kernel
theorem dX0_finiteSum_8 : decode cX0_finiteSum 8 = .ok (.invokestatic 60, 3) := by decide +kernel
theorem dX0_finiteSum_11 : decode cX0_finiteSum 11 = .ok (.ifCond .eq 21, 3) := by decide +kernel
theorem dX0_finiteSum_14 : decode cX0_finiteSum 14 = .ok (.iload_n 1, 1) := by decide +kernel
theorem dX0_finiteSum_15 : decode cX0_finiteSum 15 = .ok (.iload 5, 2) := by decide +kernel
theorem dX0_finiteSum_17 : decode cX0_finiteSum 17 = .ok (.invokestatic 41, 3) := by decide +kernel
theorem dX0_finiteSum_20 : decode cX0_finiteSum 20 = .ok (.if_icmp .ne 7, 3) := by decide +kernel
theorem dX0_finiteSum_23 : decode cX0_finiteSum 23 = .ok (.iload_n 1, 1) := by decide +kernel
theorem dX0_finiteSum_24 : decode cX0_finiteSum 24 = .ok (.goto 7, 3) := by decide +kernel
theorem dX0_finiteSum_27 : decode cX0_finiteSum 27 = .ok (.aload_n 0, 1) := by decide +kernel
theorem dX0_finiteSum_28 : decode cX0_finiteSum 28 = .ok (.invokevirtual 130, 3) := by decide +kernel
theorem dX0_finiteSum_31 : decode cX0_finiteSum 31 = .ok (.ireturn, 1) := by decide +kernel
theorem dX0_finiteSum_32 : decode cX0_finiteSum 32 = .ok (.lload_n 2, 1) := by decide +kernel
theorem dX0_finiteSum_33 : decode cX0_finiteSum 33 = .ok (.lconst 0, 1) := by decide +kernel
theorem dX0_finiteSum_34 : decode cX0_finiteSum 34 = .ok (.lcmp, 1) := by decide +kernel
theorem dX0_finiteSum_35 : decode cX0_finiteSum 35 = .ok (.ifCond .ne 6, 3) := by decide +kernel
theorem dX0_finiteSum_38 : decode cX0_finiteSum 38 = .ok (.iload 5, 2) := by decide +kernel
theorem dX0_finiteSum_40 : decode cX0_finiteSum 40 = .ok (.ireturn, 1) := by decide +kernel
theorem dX0_finiteSum_41 : decode cX0_finiteSum 41 = .ok (.iload 5, 2) := by decide +kernel
theorem dX0_finiteSum_43 : decode cX0_finiteSum 43 = .ok (.invokestatic 60, 3) := by decide +kernel
theorem dX0_finiteSum_46 : decode cX0_finiteSum 46 = .ok (.ifCond .eq 12, 3) := by decide +kernel
theorem dX0_finiteSum_49 : decode cX0_finiteSum 49 = .ok (.aload_n 0, 1) := by decide +kernel
theorem dX0_finiteSum_50 : decode cX0_finiteSum 50 = .ok (.iload_n 1, 1) := by decide +kernel
theorem dX0_finiteSum_51 : decode cX0_finiteSum 51 = .ok (.lload_n 2, 1) := by decide +kernel
theorem dX0_finiteSum_52 : decode cX0_finiteSum 52 = .ok (.iload 4, 2) := by decide +kernel
theorem dX0_finiteSum_54 : decode cX0_finiteSum 54 = .ok (.invokevirtual 56, 3) := by decide +kernel
theorem dX0_finiteSum_57 : decode cX0_finiteSum 57 = .ok (.ireturn, 1) := by decide +kernel
theorem dX0_finiteSum_58 : decode cX0_finiteSum 58 = .ok (.iload 4, 2) := by decide +kernel
theorem dX0_finiteSum_60 : decode cX0_finiteSum 60 = .ok (.lload_n 2, 1) := by decide +kernel
theorem dX0_finiteSum_61 : decode cX0_finiteSum 61 = .ok (.invokestatic 67, 3) := by decide +kernel
theorem dX0_finiteSum_64 : decode cX0_finiteSum 64 = .ok (.iadd, 1) := by decide +kernel
theorem dX0_finiteSum_65 : decode cX0_finiteSum 65 = .ok (.iload 5, 2) := by decide +kernel
theorem dX0_finiteSum_67 : decode cX0_finiteSum 67 = .ok (.invokestatic 53, 3) := by decide +kernel
theorem dX0_finiteSum_70 : decode cX0_finiteSum 70 = .ok (.iload 5, 2) := by decide +kernel
theorem dX0_finiteSum_72 : decode cX0_finiteSum 72 = .ok (.invokestatic 49, 3) := by decide +kernel
theorem dX0_finiteSum_75 : decode cX0_finiteSum 75 = .ok (.invokestatic 67, 3) := by decide +kernel
theorem dX0_finiteSum_78 : decode cX0_finiteSum 78 = .ok (.iadd, 1) := by decide +kernel
theorem dX0_finiteSum_79 : decode cX0_finiteSum 79 = .ok (.invokestatic 88, 3) := by decide +kernel
theorem dX0_finiteSum_82 : decode cX0_finiteSum 82 = .ok (.istore 6, 2) := by decide +kernel
theorem dX0_finiteSum_84 : decode cX0_finiteSum 84 = .ok (.iload 6, 2) := by decide +kernel
theorem dX0_finiteSum_86 : decode cX0_finiteSum 86 = .ok (.bipush 61, 2) := by decide +kernel
theorem dX0_finiteSum_88 : decode cX0_finiteSum 88 = .ok (.isub, 1) := by decide +kernel
theorem dX0_finiteSum_89 : decode cX0_finiteSum 89 = .ok (.istore 7, 2) := by decide +kernel
theorem dX0_finiteSum_91 : decode cX0_finiteSum 91 = .ok (.lload_n 2, 1) := by decide +kernel
theorem dX0_finiteSum_92 : decode cX0_finiteSum 92 = .ok (.iload 4, 2) := by decide +kernel
theorem dX0_finiteSum_94 : decode cX0_finiteSum 94 = .ok (.iload 7, 2) := by decide +kernel
theorem dX0_finiteSum_96 : decode cX0_finiteSum 96 = .ok (.isub, 1) := by decide +kernel
theorem dX0_finiteSum_97 : decode cX0_finiteSum 97 = .ok (.invokestatic 133, 3) := by decide +kernel
theorem dX0_finiteSum_100 : decode cX0_finiteSum 100 = .ok (.lstore 8, 2) := by decide +kernel
theorem dX0_finiteSum_102 : decode cX0_finiteSum 102 = .ok (.iload 5, 2) := by decide +kernel
theorem dX0_finiteSum_104 : decode cX0_finiteSum 104 = .ok (.invokestatic 49, 3) := by decide +kernel
theorem dX0_finiteSum_107 : decode cX0_finiteSum 107 = .ok (.iload 5, 2) := by decide +kernel
theorem dX0_finiteSum_109 : decode cX0_finiteSum 109 = .ok (.invokestatic 53, 3) := by decide +kernel
theorem dX0_finiteSum_112 : decode cX0_finiteSum 112 = .ok (.iload 7, 2) := by decide +kernel
theorem dX0_finiteSum_114 : decode cX0_finiteSum 114 = .ok (.isub, 1) := by decide +kernel
theorem dX0_finiteSum_115 : decode cX0_finiteSum 115 = .ok (.invokestatic 133, 3) := by decide +kernel
theorem dX0_finiteSum_118 : decode cX0_finiteSum 118 = .ok (.lstore 10, 2) := by decide +kernel
theorem dX0_finiteSum_120 : decode cX0_finiteSum 120 = .ok (.iload_n 1, 1) := by decide +kernel
theorem dX0_finiteSum_121 : decode cX0_finiteSum 121 = .ok (.ifCond .ne 8, 3) := by decide +kernel
theorem dX0_finiteSum_124 : decode cX0_finiteSum 124 = .ok (.lload 8, 2) := by decide +kernel
theorem dX0_finiteSum_126 : decode cX0_finiteSum 126 = .ok (.goto 6, 3) := by decide +kernel
theorem dX0_finiteSum_129 : decode cX0_finiteSum 129 = .ok (.lload 8, 2) := by decide +kernel
theorem dX0_finiteSum_131 : decode cX0_finiteSum 131 = .ok (.lneg, 1) := by decide +kernel
theorem dX0_finiteSum_132 : decode cX0_finiteSum 132 = .ok (.iload 5, 2) := by decide +kernel
theorem dX0_finiteSum_134 : decode cX0_finiteSum 134 = .ok (.invokestatic 75, 3) := by decide +kernel
theorem dX0_finiteSum_137 : decode cX0_finiteSum 137 = .ok (.ifCond .eq 9, 3) := by decide +kernel
theorem dX0_finiteSum_140 : decode cX0_finiteSum 140 = .ok (.lload 10, 2) := by decide +kernel
theorem dX0_finiteSum_142 : decode cX0_finiteSum 142 = .ok (.lneg, 1) := by decide +kernel
theorem dX0_finiteSum_143 : decode cX0_finiteSum 143 = .ok (.goto 5, 3) := by decide +kernel
theorem dX0_finiteSum_146 : decode cX0_finiteSum 146 = .ok (.lload 10, 2) := by decide +kernel
theorem dX0_finiteSum_148 : decode cX0_finiteSum 148 = .ok (.ladd, 1) := by decide +kernel
theorem dX0_finiteSum_149 : decode cX0_finiteSum 149 = .ok (.lstore 12, 2) := by decide +kernel
theorem dX0_finiteSum_151 : decode cX0_finiteSum 151 = .ok (.lload 12, 2) := by decide +kernel
theorem dX0_finiteSum_153 : decode cX0_finiteSum 153 = .ok (.lconst 0, 1) := by decide +kernel
theorem dX0_finiteSum_154 : decode cX0_finiteSum 154 = .ok (.lcmp, 1) := by decide +kernel
theorem dX0_finiteSum_155 : decode cX0_finiteSum 155 = .ok (.ifCond .ne 8, 3) := by decide +kernel
theorem dX0_finiteSum_158 : decode cX0_finiteSum 158 = .ok (.aload_n 0, 1) := by decide +kernel
theorem dX0_finiteSum_159 : decode cX0_finiteSum 159 = .ok (.invokevirtual 130, 3) := by decide +kernel
theorem dX0_finiteSum_162 : decode cX0_finiteSum 162 = .ok (.ireturn, 1) := by decide +kernel
theorem dX0_finiteSum_163 : decode cX0_finiteSum 163 = .ok (.aload_n 0, 1) := by decide +kernel
theorem dX0_finiteSum_164 : decode cX0_finiteSum 164 = .ok (.lload 12, 2) := by decide +kernel
theorem dX0_finiteSum_166 : decode cX0_finiteSum 166 = .ok (.lconst 0, 1) := by decide +kernel
theorem dX0_finiteSum_167 : decode cX0_finiteSum 167 = .ok (.lcmp, 1) := by decide +kernel
theorem dX0_finiteSum_168 : decode cX0_finiteSum 168 = .ok (.ifCond .ge 8, 3) := by decide +kernel
theorem dX0_finiteSum_171 : decode cX0_finiteSum 171 = .ok (.ldc 21, 2) := by decide +kernel
theorem dX0_finiteSum_173 : decode cX0_finiteSum 173 = .ok (.goto 4, 3) := by decide +kernel
theorem dX0_finiteSum_176 : decode cX0_finiteSum 176 = .ok (.iconst 0, 1) := by decide +kernel
theorem dX0_finiteSum_177 : decode cX0_finiteSum 177 = .ok (.lload 12, 2) := by decide +kernel
theorem dX0_finiteSum_179 : decode cX0_finiteSum 179 = .ok (.invokestatic 109, 3) := by decide +kernel
theorem dX0_finiteSum_182 : decode cX0_finiteSum 182 = .ok (.iload 7, 2) := by decide +kernel
theorem dX0_finiteSum_184 : decode cX0_finiteSum 184 = .ok (.invokevirtual 56, 3) := by decide +kernel
theorem dX0_finiteSum_187 : decode cX0_finiteSum 187 = .ok (.ireturn, 1) := by decide +kernel
theorem dX0_zeroOfMode_0 : decode cX0_zeroOfMode 0 = .ok (.aload_n 0, 1) := by decide +kernel
theorem dX0_zeroOfMode_1 : decode cX0_zeroOfMode 1 = .ok (.getfield 9, 3) := by decide +kernel
theorem dX0_zeroOfMode_4 : decode cX0_zeroOfMode 4 = .ok (.iconst 3, 1) := by decide +kernel
theorem dX0_zeroOfMode_5 : decode cX0_zeroOfMode 5 = .ok (.if_icmp .ne 8, 3) := by decide +kernel
theorem dX0_zeroOfMode_8 : decode cX0_zeroOfMode 8 = .ok (.ldc 21, 2) := by decide +kernel
theorem dX0_zeroOfMode_10 : decode cX0_zeroOfMode 10 = .ok (.goto 4, 3) := by decide +kernel
theorem dX0_zeroOfMode_13 : decode cX0_zeroOfMode 13 = .ok (.iconst 0, 1) := by decide +kernel
theorem dX0_zeroOfMode_14 : decode cX0_zeroOfMode 14 = .ok (.ireturn, 1) := by decide +kernel
set_option maxRecDepth 20000 in
theorem ggX0_aligned_X0_shiftedRight : GoodIn wsX0_aligned wsX0_shiftedRight := goodIn_r _ [4] (by decide +kernel) (by decide +kernel)
set_option maxRecDepth 20000 in
theorem gX0_aligned_X0_shiftedRight : GoodIn wsX0_aligned (va_wsS RX0 137 yX0_shiftedRight wsX0_shiftedRight) := goodIn_app (goodIn_of _ (by decide +kernel)) ggX0_aligned_X0_shiftedRight
set_option maxRecDepth 20000 in
theorem ggX0_aligned_X0_isMultiple : GoodIn wsX0_aligned wsX0_isMultiple := goodIn_r _ [7] (by decide +kernel) (by decide +kernel)
set_option maxRecDepth 20000 in
theorem gX0_aligned_X0_isMultiple : GoodIn wsX0_aligned (va_wsS RX0 91 yX0_isMultiple wsX0_isMultiple) := goodIn_app (goodIn_of _ (by decide +kernel)) ggX0_aligned_X0_isMultiple
set_option maxRecDepth 20000 in
theorem ggX0_aligned_X0_withTrace : GoodIn wsX0_aligned wsX0_withTrace := goodIn_r _ [10] (by decide +kernel) (by decide +kernel)
set_option maxRecDepth 20000 in
theorem gX0_aligned_X0_withTrace : GoodIn wsX0_aligned (va_wsS RX0 71 yX0_withTrace wsX0_withTrace) := goodIn_app (goodIn_of _ (by decide +kernel)) ggX0_aligned_X0_withTrace
theorem dX0_aligned_0 : decode cX0_aligned 0 = .ok (.iload_n 2, 1) := by decide +kernel
theorem dX0_aligned_1 : decode cX0_aligned 1 = .ok (.ifCond .lt 7, 3) := by decide +kernel
theorem dX0_aligned_4 : decode cX0_aligned 4 = .ok (.lload_n 0, 1) := by decide +kernel
theorem dX0_aligned_5 : decode cX0_aligned 5 = .ok (.iload_n 2, 1) := by decide +kernel
theorem dX0_aligned_6 : decode cX0_aligned 6 = .ok (.lshl, 1) := by decide +kernel
theorem dX0_aligned_7 : decode cX0_aligned 7 = .ok (.lreturn, 1) := by decide +kernel
theorem dX0_aligned_8 : decode cX0_aligned 8 = .ok (.lload_n 0, 1) := by decide +kernel
theorem dX0_aligned_9 : decode cX0_aligned 9 = .ok (.iload_n 2, 1) := by decide +kernel
theorem dX0_aligned_10 : decode cX0_aligned 10 = .ok (.ineg, 1) := by decide +kernel
theorem dX0_aligned_11 : decode cX0_aligned 11 = .ok (.invokestatic 137, 3) := by decide +kernel
theorem dX0_aligned_14 : decode cX0_aligned 14 = .ok (.lload_n 0, 1) := by decide +kernel
theorem dX0_aligned_15 : decode cX0_aligned 15 = .ok (.iload_n 2, 1) := by decide +kernel
theorem dX0_aligned_16 : decode cX0_aligned 16 = .ok (.ineg, 1) := by decide +kernel
theorem dX0_aligned_17 : decode cX0_aligned 17 = .ok (.invokestatic 91, 3) := by decide +kernel
theorem dX0_aligned_20 : decode cX0_aligned 20 = .ok (.ifCond .ne 7, 3) := by decide +kernel
theorem dX0_aligned_23 : decode cX0_aligned 23 = .ok (.iconst 1, 1) := by decide +kernel
theorem dX0_aligned_24 : decode cX0_aligned 24 = .ok (.goto 4, 3) := by decide +kernel
theorem dX0_aligned_27 : decode cX0_aligned 27 = .ok (.iconst 0, 1) := by decide +kernel
theorem dX0_aligned_28 : decode cX0_aligned 28 = .ok (.invokestatic 71, 3) := by decide +kernel
theorem dX0_aligned_31 : decode cX0_aligned 31 = .ok (.lreturn, 1) := by decide +kernel
set_option maxRecDepth 20000 in
theorem ggX0_rounded_X0_bitLength : GoodIn wsX0_rounded wsX0_bitLength := goodIn_r _ [9, 10, 11, 12, 13, 14, 15, 16, 17, 18] (by decide +kernel) (by decide +kernel)
set_option maxRecDepth 20000 in
theorem gX0_rounded_X0_bitLength : GoodIn wsX0_rounded (va_wsS RX0 67 yX0_bitLength wsX0_bitLength) := goodIn_app (goodIn_of _ (by decide +kernel)) ggX0_rounded_X0_bitLength
set_option maxRecDepth 20000 in
theorem ggX0_rounded_X0_isMultiple : GoodIn wsX0_rounded wsX0_isMultiple := goodIn_r _ [21] (by decide +kernel) (by decide +kernel)
set_option maxRecDepth 20000 in
theorem gX0_rounded_X0_isMultiple : GoodIn wsX0_rounded (va_wsS RX0 91 yX0_isMultiple wsX0_isMultiple) := goodIn_app (goodIn_of _ (by decide +kernel)) ggX0_rounded_X0_isMultiple
set_option maxRecDepth 20000 in
theorem ggX0_rounded_X0_raise : GoodIn wsX0_rounded wsX0_raise := goodIn_r _ [25, 26, 52, 53] (by decide +kernel) (by decide +kernel)
set_option maxRecDepth 20000 in
theorem gX0_rounded_X0_raise : GoodIn wsX0_rounded (wsV RX0 63 RX0 yX0_raise wsX0_raise) := goodIn_app (goodIn_of _ (by decide +kernel)) ggX0_rounded_X0_raise
set_option maxRecDepth 20000 in
theorem ggX0_rounded_X0_multiple : GoodIn wsX0_rounded wsX0_multiple := goodIn_r _ [30, 31, 32, 8, 33, 34, 35, 36, 37, 38, 19, 20, 21, 39, 40, 41, 42, 52, 53] (by decide +kernel) (by decide +kernel)
set_option maxRecDepth 20000 in
theorem gX0_rounded_X0_multiple : GoodIn wsX0_rounded (wsV RX0 95 RX0 yX0_multiple wsX0_multiple) := goodIn_app (goodIn_of _ (by decide +kernel)) ggX0_rounded_X0_multiple
set_option maxRecDepth 20000 in
theorem ggX0_rounded_X0_isTiny : GoodIn wsX0_rounded wsX0_isTiny := goodIn_r _ [45, 6, 7, 8, 9, 10, 11, 12, 13, 14, 15, 16, 17, 18] (by decide +kernel) (by decide +kernel)
set_option maxRecDepth 20000 in
theorem gX0_rounded_X0_isTiny : GoodIn wsX0_rounded (va_wsS RX0 140 yX0_isTiny wsX0_isTiny) := goodIn_app (goodIn_of _ (by decide +kernel)) ggX0_rounded_X0_isTiny
set_option maxRecDepth 20000 in
theorem ggX0_rounded_X0_overflowed : GoodIn wsX0_rounded wsX0_overflowed := goodIn_r _ [49, 38, 50, 51, 22, 23, 24, 8, 25, 26, 39, 40, 41, 42, 52, 53] (by decide +kernel) (by decide +kernel)
set_option maxRecDepth 20000 in
theorem gX0_rounded_X0_overflowed : GoodIn wsX0_rounded (wsV RX0 145 RX0 yX0_overflowed wsX0_overflowed) := goodIn_app (goodIn_of _ (by decide +kernel)) ggX0_rounded_X0_overflowed
theorem dX0_rounded_0 : decode cX0_rounded 0 = .ok (.lload_n 2, 1) := by decide +kernel
theorem dX0_rounded_1 : decode cX0_rounded 1 = .ok (.lconst 0, 1) := by decide +kernel
theorem dX0_rounded_2 : decode cX0_rounded 2 = .ok (.lcmp, 1) := by decide +kernel
theorem dX0_rounded_3 : decode cX0_rounded 3 = .ok (.ifCond .ne 5, 3) := by decide +kernel
theorem dX0_rounded_6 : decode cX0_rounded 6 = .ok (.iload_n 1, 1) := by decide +kernel
theorem dX0_rounded_7 : decode cX0_rounded 7 = .ok (.ireturn, 1) := by decide +kernel
theorem dX0_rounded_8 : decode cX0_rounded 8 = .ok (.iload 4, 2) := by decide +kernel
theorem dX0_rounded_10 : decode cX0_rounded 10 = .ok (.lload_n 2, 1) := by decide +kernel
theorem dX0_rounded_11 : decode cX0_rounded 11 = .ok (.invokestatic 67, 3) := by decide +kernel
theorem dX0_rounded_14 : decode cX0_rounded 14 = .ok (.iadd, 1) := by decide +kernel
theorem dX0_rounded_15 : decode cX0_rounded 15 = .ok (.bipush 24, 2) := by decide +kernel
theorem dX0_rounded_17 : decode cX0_rounded 17 = .ok (.isub, 1) := by decide +kernel
theorem dX0_rounded_18 : decode cX0_rounded 18 = .ok (.istore 5, 2) := by decide +kernel
theorem dX0_rounded_20 : decode cX0_rounded 20 = .ok (.iload 5, 2) := by decide +kernel
theorem dX0_rounded_22 : decode cX0_rounded 22 = .ok (.sipush (-149), 3) := by decide +kernel
theorem dX0_rounded_25 : decode cX0_rounded 25 = .ok (.invokestatic 88, 3) := by decide +kernel
theorem dX0_rounded_28 : decode cX0_rounded 28 = .ok (.istore 6, 2) := by decide +kernel
theorem dX0_rounded_30 : decode cX0_rounded 30 = .ok (.lload_n 2, 1) := by decide +kernel
theorem dX0_rounded_31 : decode cX0_rounded 31 = .ok (.iload 6, 2) := by decide +kernel
theorem dX0_rounded_33 : decode cX0_rounded 33 = .ok (.iload 4, 2) := by decide +kernel
theorem dX0_rounded_35 : decode cX0_rounded 35 = .ok (.isub, 1) := by decide +kernel
theorem dX0_rounded_36 : decode cX0_rounded 36 = .ok (.invokestatic 91, 3) := by decide +kernel
theorem dX0_rounded_39 : decode cX0_rounded 39 = .ok (.ifCond .ne 32, 3) := by decide +kernel
theorem dX0_rounded_42 : decode cX0_rounded 42 = .ok (.aload_n 0, 1) := by decide +kernel
theorem dX0_rounded_43 : decode cX0_rounded 43 = .ok (.iconst 1, 1) := by decide +kernel
theorem dX0_rounded_44 : decode cX0_rounded 44 = .ok (.invokevirtual 63, 3) := by decide +kernel
theorem dX0_rounded_47 : decode cX0_rounded 47 = .ok (.aload_n 0, 1) := by decide +kernel
theorem dX0_rounded_48 : decode cX0_rounded 48 = .ok (.iload_n 1, 1) := by decide +kernel
theorem dX0_rounded_49 : decode cX0_rounded 49 = .ok (.lload_n 2, 1) := by decide +kernel
theorem dX0_rounded_50 : decode cX0_rounded 50 = .ok (.iload 5, 2) := by decide +kernel
theorem dX0_rounded_52 : decode cX0_rounded 52 = .ok (.iload 4, 2) := by decide +kernel
theorem dX0_rounded_54 : decode cX0_rounded 54 = .ok (.isub, 1) := by decide +kernel
theorem dX0_rounded_55 : decode cX0_rounded 55 = .ok (.invokevirtual 95, 3) := by decide +kernel
theorem dX0_rounded_58 : decode cX0_rounded 58 = .ok (.iload 5, 2) := by decide +kernel
theorem dX0_rounded_60 : decode cX0_rounded 60 = .ok (.invokestatic 140, 3) := by decide +kernel
theorem dX0_rounded_63 : decode cX0_rounded 63 = .ok (.ifCond .eq 8, 3) := by decide +kernel
theorem dX0_rounded_66 : decode cX0_rounded 66 = .ok (.aload_n 0, 1) := by decide +kernel
theorem dX0_rounded_67 : decode cX0_rounded 67 = .ok (.iconst 2, 1) := by decide +kernel
theorem dX0_rounded_68 : decode cX0_rounded 68 = .ok (.invokevirtual 63, 3) := by decide +kernel
theorem dX0_rounded_71 : decode cX0_rounded 71 = .ok (.iload 6, 2) := by decide +kernel
theorem dX0_rounded_73 : decode cX0_rounded 73 = .ok (.sipush (-149), 3) := by decide +kernel
theorem dX0_rounded_76 : decode cX0_rounded 76 = .ok (.isub, 1) := by decide +kernel
theorem dX0_rounded_77 : decode cX0_rounded 77 = .ok (.i2l, 1) := by decide +kernel
theorem dX0_rounded_78 : decode cX0_rounded 78 = .ok (.lstore 7, 2) := by decide +kernel
theorem dX0_rounded_80 : decode cX0_rounded 80 = .ok (.lload 7, 2) := by decide +kernel
theorem dX0_rounded_82 : decode cX0_rounded 82 = .ok (.bipush 23, 2) := by decide +kernel
theorem dX0_rounded_84 : decode cX0_rounded 84 = .ok (.lshl, 1) := by decide +kernel
theorem dX0_rounded_85 : decode cX0_rounded 85 = .ok (.aload_n 0, 1) := by decide +kernel
theorem dX0_rounded_86 : decode cX0_rounded 86 = .ok (.iload_n 1, 1) := by decide +kernel
theorem dX0_rounded_87 : decode cX0_rounded 87 = .ok (.lload_n 2, 1) := by decide +kernel
theorem dX0_rounded_88 : decode cX0_rounded 88 = .ok (.iload 6, 2) := by decide +kernel
theorem dX0_rounded_90 : decode cX0_rounded 90 = .ok (.iload 4, 2) := by decide +kernel
theorem dX0_rounded_92 : decode cX0_rounded 92 = .ok (.isub, 1) := by decide +kernel
theorem dX0_rounded_93 : decode cX0_rounded 93 = .ok (.invokevirtual 95, 3) := by decide +kernel
theorem dX0_rounded_96 : decode cX0_rounded 96 = .ok (.ladd, 1) := by decide +kernel
theorem dX0_rounded_97 : decode cX0_rounded 97 = .ok (.lstore 9, 2) := by decide +kernel
theorem dX0_rounded_99 : decode cX0_rounded 99 = .ok (.lload 9, 2) := by decide +kernel
theorem dX0_rounded_101 : decode cX0_rounded 101 = .ok (.ldc2_w 143, 3) := by decide +kernel
theorem dX0_rounded_104 : decode cX0_rounded 104 = .ok (.lcmp, 1) := by decide +kernel
theorem dX0_rounded_105 : decode cX0_rounded 105 = .ok (.ifCond .ge 11, 3) := by decide +kernel
theorem dX0_rounded_108 : decode cX0_rounded 108 = .ok (.iload_n 1, 1) := by decide +kernel
theorem dX0_rounded_109 : decode cX0_rounded 109 = .ok (.lload 9, 2) := by decide +kernel
theorem dX0_rounded_111 : decode cX0_rounded 111 = .ok (.l2i, 1) := by decide +kernel
theorem dX0_rounded_112 : decode cX0_rounded 112 = .ok (.ior, 1) := by decide +kernel
theorem dX0_rounded_113 : decode cX0_rounded 113 = .ok (.goto 8, 3) := by decide +kernel
theorem dX0_rounded_116 : decode cX0_rounded 116 = .ok (.aload_n 0, 1) := by decide +kernel
theorem dX0_rounded_117 : decode cX0_rounded 117 = .ok (.iload_n 1, 1) := by decide +kernel
theorem dX0_rounded_118 : decode cX0_rounded 118 = .ok (.invokevirtual 145, 3) := by decide +kernel
theorem dX0_rounded_121 : decode cX0_rounded 121 = .ok (.ireturn, 1) := by decide +kernel
set_option maxRecDepth 20000 in
theorem ggX0_isTiny_X0_bitLength : GoodIn wsX0_isTiny wsX0_bitLength := goodIn_r _ [4, 5, 6, 7, 8, 9, 10, 11, 12, 13] (by decide +kernel) (by decide +kernel)
set_option maxRecDepth 20000 in
theorem gX0_isTiny_X0_bitLength : GoodIn wsX0_isTiny (va_wsS RX0 67 yX0_bitLength wsX0_bitLength) := goodIn_app (goodIn_of _ (by decide +kernel)) ggX0_isTiny_X0_bitLength
theorem dX0_isTiny_0 : decode cX0_isTiny 0 = .ok (.iload_n 2, 1) := by decide +kernel
theorem dX0_isTiny_1 : decode cX0_isTiny 1 = .ok (.lload_n 0, 1) := by decide +kernel
theorem dX0_isTiny_2 : decode cX0_isTiny 2 = .ok (.invokestatic 67, 3) := by decide +kernel
theorem dX0_isTiny_5 : decode cX0_isTiny 5 = .ok (.iadd, 1) := by decide +kernel
theorem dX0_isTiny_6 : decode cX0_isTiny 6 = .ok (.bipush (-125), 2) := by decide +kernel
theorem dX0_isTiny_8 : decode cX0_isTiny 8 = .ok (.if_icmp .ge 7, 3) := by decide +kernel
theorem dX0_isTiny_11 : decode cX0_isTiny 11 = .ok (.iconst 1, 1) := by decide +kernel
theorem dX0_isTiny_12 : decode cX0_isTiny 12 = .ok (.goto 4, 3) := by decide +kernel
theorem dX0_isTiny_15 : decode cX0_isTiny 15 = .ok (.iconst 0, 1) := by decide +kernel
theorem dX0_isTiny_16 : decode cX0_isTiny 16 = .ok (.ireturn, 1) := by decide +kernel
set_option maxRecDepth 20000 in
theorem ggX0_overflowed_X0_raise : GoodIn wsX0_overflowed wsX0_raise := goodIn_r _ [8, 9, 14, 15] (by decide +kernel) (by decide +kernel)
set_option maxRecDepth 20000 in
theorem gX0_overflowed_X0_raise : GoodIn wsX0_overflowed (wsV RX0 63 RX0 yX0_raise wsX0_raise) := goodIn_app (goodIn_of _ (by decide +kernel)) ggX0_overflowed_X0_raise
set_option maxRecDepth 20000 in
theorem ggX0_overflowed_X0_isAwayFromZero : GoodIn wsX0_overflowed wsX0_isAwayFromZero := goodIn_r _ [13, 1, 14, 15] (by decide +kernel) (by decide +kernel)
set_option maxRecDepth 20000 in
theorem gX0_overflowed_X0_isAwayFromZero : GoodIn wsX0_overflowed (wsV RX0 148 RX0 yX0_isAwayFromZero wsX0_isAwayFromZero) := goodIn_app (goodIn_of _ (by decide +kernel)) ggX0_overflowed_X0_isAwayFromZero
theorem dX0_overflowed_0 : decode cX0_overflowed 0 = .ok (.aload_n 0, 1) := by decide +kernel
theorem dX0_overflowed_1 : decode cX0_overflowed 1 = .ok (.iconst 5, 1) := by decide +kernel
theorem dX0_overflowed_2 : decode cX0_overflowed 2 = .ok (.invokevirtual 63, 3) := by decide +kernel
theorem dX0_overflowed_5 : decode cX0_overflowed 5 = .ok (.aload_n 0, 1) := by decide +kernel
theorem dX0_overflowed_6 : decode cX0_overflowed 6 = .ok (.getfield 9, 3) := by decide +kernel
theorem dX0_overflowed_9 : decode cX0_overflowed 9 = .ok (.ifCond .eq 11, 3) := by decide +kernel
theorem dX0_overflowed_12 : decode cX0_overflowed 12 = .ok (.aload_n 0, 1) := by decide +kernel
theorem dX0_overflowed_13 : decode cX0_overflowed 13 = .ok (.iload_n 1, 1) := by decide +kernel
theorem dX0_overflowed_14 : decode cX0_overflowed 14 = .ok (.invokevirtual 148, 3) := by decide +kernel
theorem dX0_overflowed_17 : decode cX0_overflowed 17 = .ok (.ifCond .eq 7, 3) := by decide +kernel
theorem dX0_overflowed_20 : decode cX0_overflowed 20 = .ok (.iconst 1, 1) := by decide +kernel
theorem dX0_overflowed_21 : decode cX0_overflowed 21 = .ok (.goto 4, 3) := by decide +kernel
theorem dX0_overflowed_24 : decode cX0_overflowed 24 = .ok (.iconst 0, 1) := by decide +kernel
theorem dX0_overflowed_25 : decode cX0_overflowed 25 = .ok (.istore_n 2, 1) := by decide +kernel
theorem dX0_overflowed_26 : decode cX0_overflowed 26 = .ok (.iload_n 1, 1) := by decide +kernel
theorem dX0_overflowed_27 : decode cX0_overflowed 27 = .ok (.iload_n 2, 1) := by decide +kernel
theorem dX0_overflowed_28 : decode cX0_overflowed 28 = .ok (.ifCond .eq 8, 3) := by decide +kernel
theorem dX0_overflowed_31 : decode cX0_overflowed 31 = .ok (.ldc 48, 2) := by decide +kernel
theorem dX0_overflowed_33 : decode cX0_overflowed 33 = .ok (.goto 5, 3) := by decide +kernel
theorem dX0_overflowed_36 : decode cX0_overflowed 36 = .ok (.ldc 151, 2) := by decide +kernel
theorem dX0_overflowed_38 : decode cX0_overflowed 38 = .ok (.ior, 1) := by decide +kernel
theorem dX0_overflowed_39 : decode cX0_overflowed 39 = .ok (.ireturn, 1) := by decide +kernel
theorem dX0_isAwayFromZero_0 : decode cX0_isAwayFromZero 0 = .ok (.iload_n 1, 1) := by decide +kernel
theorem dX0_isAwayFromZero_1 : decode cX0_isAwayFromZero 1 = .ok (.ifCond .ne 19, 3) := by decide +kernel
theorem dX0_isAwayFromZero_4 : decode cX0_isAwayFromZero 4 = .ok (.aload_n 0, 1) := by decide +kernel
theorem dX0_isAwayFromZero_5 : decode cX0_isAwayFromZero 5 = .ok (.getfield 9, 3) := by decide +kernel
theorem dX0_isAwayFromZero_8 : decode cX0_isAwayFromZero 8 = .ok (.iconst 2, 1) := by decide +kernel
theorem dX0_isAwayFromZero_9 : decode cX0_isAwayFromZero 9 = .ok (.if_icmp .ne 7, 3) := by decide +kernel
theorem dX0_isAwayFromZero_12 : decode cX0_isAwayFromZero 12 = .ok (.iconst 1, 1) := by decide +kernel
theorem dX0_isAwayFromZero_13 : decode cX0_isAwayFromZero 13 = .ok (.goto 20, 3) := by decide +kernel
theorem dX0_isAwayFromZero_16 : decode cX0_isAwayFromZero 16 = .ok (.iconst 0, 1) := by decide +kernel
theorem dX0_isAwayFromZero_17 : decode cX0_isAwayFromZero 17 = .ok (.goto 16, 3) := by decide +kernel
theorem dX0_isAwayFromZero_20 : decode cX0_isAwayFromZero 20 = .ok (.aload_n 0, 1) := by decide +kernel
theorem dX0_isAwayFromZero_21 : decode cX0_isAwayFromZero 21 = .ok (.getfield 9, 3) := by decide +kernel
theorem dX0_isAwayFromZero_24 : decode cX0_isAwayFromZero 24 = .ok (.iconst 3, 1) := by decide +kernel
theorem dX0_isAwayFromZero_25 : decode cX0_isAwayFromZero 25 = .ok (.if_icmp .ne 7, 3) := by decide +kernel
theorem dX0_isAwayFromZero_28 : decode cX0_isAwayFromZero 28 = .ok (.iconst 1, 1) := by decide +kernel
theorem dX0_isAwayFromZero_29 : decode cX0_isAwayFromZero 29 = .ok (.goto 4, 3) := by decide +kernel
theorem dX0_isAwayFromZero_32 : decode cX0_isAwayFromZero 32 = .ok (.iconst 0, 1) := by decide +kernel
theorem dX0_isAwayFromZero_33 : decode cX0_isAwayFromZero 33 = .ok (.ireturn, 1) := by decide +kernel
set_option maxRecDepth 20000 in
theorem ggX0_multiple_X0_shiftedRight : GoodIn wsX0_multiple wsX0_shiftedRight := goodIn_r _ [4] (by decide +kernel) (by decide +kernel)
set_option maxRecDepth 20000 in
theorem gX0_multiple_X0_shiftedRight : GoodIn wsX0_multiple (va_wsS RX0 137 yX0_shiftedRight wsX0_shiftedRight) := goodIn_app (goodIn_of _ (by decide +kernel)) ggX0_multiple_X0_shiftedRight
set_option maxRecDepth 20000 in
theorem ggX0_multiple_X0_isStepDue : GoodIn wsX0_multiple wsX0_isStepDue := goodIn_r _ [8, 9, 10, 11, 3, 12, 13, 14, 15, 16, 1, 2, 4, 17, 18] (by decide +kernel) (by decide +kernel)
set_option maxRecDepth 20000 in
theorem gX0_multiple_X0_isStepDue : GoodIn wsX0_multiple (wsV RX0 152 RX0 yX0_isStepDue wsX0_isStepDue) := goodIn_app (goodIn_of _ (by decide +kernel)) ggX0_multiple_X0_isStepDue
theorem dX0_multiple_0 : decode cX0_multiple 0 = .ok (.iload 4, 2) := by decide +kernel
theorem dX0_multiple_2 : decode cX0_multiple 2 = .ok (.ifCond .gt 9, 3) := by decide +kernel
theorem dX0_multiple_5 : decode cX0_multiple 5 = .ok (.lload_n 2, 1) := by decide +kernel
theorem dX0_multiple_6 : decode cX0_multiple 6 = .ok (.iload 4, 2) := by decide +kernel
theorem dX0_multiple_8 : decode cX0_multiple 8 = .ok (.ineg, 1) := by decide +kernel
theorem dX0_multiple_9 : decode cX0_multiple 9 = .ok (.lshl, 1) := by decide +kernel
theorem dX0_multiple_10 : decode cX0_multiple 10 = .ok (.lreturn, 1) := by decide +kernel
theorem dX0_multiple_11 : decode cX0_multiple 11 = .ok (.lload_n 2, 1) := by decide +kernel
theorem dX0_multiple_12 : decode cX0_multiple 12 = .ok (.iload 4, 2) := by decide +kernel
theorem dX0_multiple_14 : decode cX0_multiple 14 = .ok (.invokestatic 137, 3) := by decide +kernel
theorem dX0_multiple_17 : decode cX0_multiple 17 = .ok (.lstore 5, 2) := by decide +kernel
theorem dX0_multiple_19 : decode cX0_multiple 19 = .ok (.aload_n 0, 1) := by decide +kernel
theorem dX0_multiple_20 : decode cX0_multiple 20 = .ok (.iload_n 1, 1) := by decide +kernel
theorem dX0_multiple_21 : decode cX0_multiple 21 = .ok (.lload_n 2, 1) := by decide +kernel
theorem dX0_multiple_22 : decode cX0_multiple 22 = .ok (.iload 4, 2) := by decide +kernel
theorem dX0_multiple_24 : decode cX0_multiple 24 = .ok (.invokevirtual 152, 3) := by decide +kernel
theorem dX0_multiple_27 : decode cX0_multiple 27 = .ok (.ifCond .eq 10, 3) := by decide +kernel
theorem dX0_multiple_30 : decode cX0_multiple 30 = .ok (.lload 5, 2) := by decide +kernel
theorem dX0_multiple_32 : decode cX0_multiple 32 = .ok (.lconst 1, 1) := by decide +kernel
theorem dX0_multiple_33 : decode cX0_multiple 33 = .ok (.ladd, 1) := by decide +kernel
theorem dX0_multiple_34 : decode cX0_multiple 34 = .ok (.goto 5, 3) := by decide +kernel
theorem dX0_multiple_37 : decode cX0_multiple 37 = .ok (.lload 5, 2) := by decide +kernel
theorem dX0_multiple_39 : decode cX0_multiple 39 = .ok (.lreturn, 1) := by decide +kernel
set_option maxRecDepth 20000 in
theorem ggX0_isStepDue_X0_isMultiple : GoodIn wsX0_isStepDue wsX0_isMultiple := goodIn_r _ [5] (by decide +kernel) (by decide +kernel)
set_option maxRecDepth 20000 in
theorem gX0_isStepDue_X0_isMultiple : GoodIn wsX0_isStepDue (va_wsS RX0 91 yX0_isMultiple wsX0_isMultiple) := goodIn_app (goodIn_of _ (by decide +kernel)) ggX0_isStepDue_X0_isMultiple
set_option maxRecDepth 20000 in
theorem ggX0_isStepDue_X0_isAwayFromZero : GoodIn wsX0_isStepDue wsX0_isAwayFromZero := goodIn_r _ [9, 1, 13, 14] (by decide +kernel) (by decide +kernel)
set_option maxRecDepth 20000 in
theorem gX0_isStepDue_X0_isAwayFromZero : GoodIn wsX0_isStepDue (wsV RX0 148 RX0 yX0_isAwayFromZero wsX0_isAwayFromZero) := goodIn_app (goodIn_of _ (by decide +kernel)) ggX0_isStepDue_X0_isAwayFromZero
set_option maxRecDepth 20000 in
theorem ggX0_isStepDue_X0_shiftedRight : GoodIn wsX0_isStepDue wsX0_shiftedRight := goodIn_r _ [12] (by decide +kernel) (by decide +kernel)
set_option maxRecDepth 20000 in
theorem gX0_isStepDue_X0_shiftedRight : GoodIn wsX0_isStepDue (va_wsS RX0 137 yX0_shiftedRight wsX0_shiftedRight) := goodIn_app (goodIn_of _ (by decide +kernel)) ggX0_isStepDue_X0_shiftedRight
theorem dX0_isStepDue_0 : decode cX0_isStepDue 0 = .ok (.lload_n 2, 1) := by decide +kernel
theorem dX0_isStepDue_1 : decode cX0_isStepDue 1 = .ok (.iload 4, 2) := by decide +kernel
theorem dX0_isStepDue_3 : decode cX0_isStepDue 3 = .ok (.invokestatic 91, 3) := by decide +kernel
theorem dX0_isStepDue_6 : decode cX0_isStepDue 6 = .ok (.ifCond .eq 5, 3) := by decide +kernel
theorem dX0_isStepDue_9 : decode cX0_isStepDue 9 = .ok (.iconst 0, 1) := by decide +kernel
theorem dX0_isStepDue_10 : decode cX0_isStepDue 10 = .ok (.ireturn, 1) := by decide +kernel
theorem dX0_isStepDue_11 : decode cX0_isStepDue 11 = .ok (.aload_n 0, 1) := by decide +kernel
theorem dX0_isStepDue_12 : decode cX0_isStepDue 12 = .ok (.getfield 9, 3) := by decide +kernel
theorem dX0_isStepDue_15 : decode cX0_isStepDue 15 = .ok (.ifCond .eq 9, 3) := by decide +kernel
theorem dX0_isStepDue_18 : decode cX0_isStepDue 18 = .ok (.aload_n 0, 1) := by decide +kernel
theorem dX0_isStepDue_19 : decode cX0_isStepDue 19 = .ok (.iload_n 1, 1) := by decide +kernel
theorem dX0_isStepDue_20 : decode cX0_isStepDue 20 = .ok (.invokevirtual 148, 3) := by decide +kernel
theorem dX0_isStepDue_23 : decode cX0_isStepDue 23 = .ok (.ireturn, 1) := by decide +kernel
theorem dX0_isStepDue_24 : decode cX0_isStepDue 24 = .ok (.lload_n 2, 1) := by decide +kernel
theorem dX0_isStepDue_25 : decode cX0_isStepDue 25 = .ok (.iload 4, 2) := by decide +kernel
theorem dX0_isStepDue_27 : decode cX0_isStepDue 27 = .ok (.iconst 1, 1) := by decide +kernel
theorem dX0_isStepDue_28 : decode cX0_isStepDue 28 = .ok (.isub, 1) := by decide +kernel
theorem dX0_isStepDue_29 : decode cX0_isStepDue 29 = .ok (.invokestatic 137, 3) := by decide +kernel
theorem dX0_isStepDue_32 : decode cX0_isStepDue 32 = .ok (.lconst 1, 1) := by decide +kernel
theorem dX0_isStepDue_33 : decode cX0_isStepDue 33 = .ok (.land, 1) := by decide +kernel
theorem dX0_isStepDue_34 : decode cX0_isStepDue 34 = .ok (.lconst 0, 1) := by decide +kernel
theorem dX0_isStepDue_35 : decode cX0_isStepDue 35 = .ok (.lcmp, 1) := by decide +kernel
theorem dX0_isStepDue_36 : decode cX0_isStepDue 36 = .ok (.ifCond .eq 7, 3) := by decide +kernel
theorem dX0_isStepDue_39 : decode cX0_isStepDue 39 = .ok (.iconst 1, 1) := by decide +kernel
theorem dX0_isStepDue_40 : decode cX0_isStepDue 40 = .ok (.goto 4, 3) := by decide +kernel
theorem dX0_isStepDue_43 : decode cX0_isStepDue 43 = .ok (.iconst 0, 1) := by decide +kernel
theorem dX0_isStepDue_44 : decode cX0_isStepDue 44 = .ok (.istore 5, 2) := by decide +kernel
theorem dX0_isStepDue_46 : decode cX0_isStepDue 46 = .ok (.iload 5, 2) := by decide +kernel
theorem dX0_isStepDue_48 : decode cX0_isStepDue 48 = .ok (.ifCond .eq 18, 3) := by decide +kernel
theorem dX0_isStepDue_51 : decode cX0_isStepDue 51 = .ok (.lload_n 2, 1) := by decide +kernel
theorem dX0_isStepDue_52 : decode cX0_isStepDue 52 = .ok (.iload 4, 2) := by decide +kernel
theorem dX0_isStepDue_54 : decode cX0_isStepDue 54 = .ok (.iconst 1, 1) := by decide +kernel
theorem dX0_isStepDue_55 : decode cX0_isStepDue 55 = .ok (.isub, 1) := by decide +kernel
theorem dX0_isStepDue_56 : decode cX0_isStepDue 56 = .ok (.invokestatic 91, 3) := by decide +kernel
theorem dX0_isStepDue_59 : decode cX0_isStepDue 59 = .ok (.ifCond .ne 7, 3) := by decide +kernel
theorem dX0_isStepDue_62 : decode cX0_isStepDue 62 = .ok (.iconst 1, 1) := by decide +kernel
theorem dX0_isStepDue_63 : decode cX0_isStepDue 63 = .ok (.goto 4, 3) := by decide +kernel
theorem dX0_isStepDue_66 : decode cX0_isStepDue 66 = .ok (.iconst 0, 1) := by decide +kernel
theorem dX0_isStepDue_67 : decode cX0_isStepDue 67 = .ok (.istore 6, 2) := by decide +kernel
theorem dX0_isStepDue_69 : decode cX0_isStepDue 69 = .ok (.lload_n 2, 1) := by decide +kernel
theorem dX0_isStepDue_70 : decode cX0_isStepDue 70 = .ok (.iload 4, 2) := by decide +kernel
theorem dX0_isStepDue_72 : decode cX0_isStepDue 72 = .ok (.invokestatic 137, 3) := by decide +kernel
theorem dX0_isStepDue_75 : decode cX0_isStepDue 75 = .ok (.lconst 1, 1) := by decide +kernel
theorem dX0_isStepDue_76 : decode cX0_isStepDue 76 = .ok (.land, 1) := by decide +kernel
theorem dX0_isStepDue_77 : decode cX0_isStepDue 77 = .ok (.lconst 0, 1) := by decide +kernel
theorem dX0_isStepDue_78 : decode cX0_isStepDue 78 = .ok (.lcmp, 1) := by decide +kernel
theorem dX0_isStepDue_79 : decode cX0_isStepDue 79 = .ok (.ifCond .eq 7, 3) := by decide +kernel
theorem dX0_isStepDue_82 : decode cX0_isStepDue 82 = .ok (.iconst 1, 1) := by decide +kernel
theorem dX0_isStepDue_83 : decode cX0_isStepDue 83 = .ok (.goto 4, 3) := by decide +kernel
theorem dX0_isStepDue_86 : decode cX0_isStepDue 86 = .ok (.iconst 0, 1) := by decide +kernel
theorem dX0_isStepDue_87 : decode cX0_isStepDue 87 = .ok (.istore 7, 2) := by decide +kernel
theorem dX0_isStepDue_89 : decode cX0_isStepDue 89 = .ok (.iload 6, 2) := by decide +kernel
theorem dX0_isStepDue_91 : decode cX0_isStepDue 91 = .ok (.ifCond .ne 13, 3) := by decide +kernel
theorem dX0_isStepDue_94 : decode cX0_isStepDue 94 = .ok (.iload 5, 2) := by decide +kernel
theorem dX0_isStepDue_96 : decode cX0_isStepDue 96 = .ok (.ifCond .eq 12, 3) := by decide +kernel
theorem dX0_isStepDue_99 : decode cX0_isStepDue 99 = .ok (.iload 7, 2) := by decide +kernel
theorem dX0_isStepDue_101 : decode cX0_isStepDue 101 = .ok (.ifCond .eq 7, 3) := by decide +kernel
theorem dX0_isStepDue_104 : decode cX0_isStepDue 104 = .ok (.iconst 1, 1) := by decide +kernel
theorem dX0_isStepDue_105 : decode cX0_isStepDue 105 = .ok (.goto 4, 3) := by decide +kernel
theorem dX0_isStepDue_108 : decode cX0_isStepDue 108 = .ok (.iconst 0, 1) := by decide +kernel
theorem dX0_isStepDue_109 : decode cX0_isStepDue 109 = .ok (.ireturn, 1) := by decide +kernel
set_option maxRecDepth 20000 in
theorem ggX0_bitLength_J13_numberOfLeadingZeros_95d88 : GoodIn wsX0_bitLength wsJ13_numberOfLeadingZeros_95d88 := goodIn_r _ [4, 5, 6, 7, 8, 9] (by decide +kernel) (by decide +kernel)
set_option maxRecDepth 20000 in
theorem gX0_bitLength_J13_numberOfLeadingZeros_95d88 : GoodIn wsX0_bitLength (va_wsS RX0 156 yJ13_numberOfLeadingZeros_95d88 wsJ13_numberOfLeadingZeros_95d88) := goodIn_app (goodIn_of _ (by decide +kernel)) ggX0_bitLength_J13_numberOfLeadingZeros_95d88
theorem dX0_bitLength_0 : decode cX0_bitLength 0 = .ok (.bipush 64, 2) := by decide +kernel
theorem dX0_bitLength_2 : decode cX0_bitLength 2 = .ok (.lload_n 0, 1) := by decide +kernel
theorem dX0_bitLength_3 : decode cX0_bitLength 3 = .ok (.invokestatic 156, 3) := by decide +kernel
theorem dX0_bitLength_6 : decode cX0_bitLength 6 = .ok (.isub, 1) := by decide +kernel
theorem dX0_bitLength_7 : decode cX0_bitLength 7 = .ok (.ireturn, 1) := by decide +kernel
theorem dX0_shiftedRight_0 : decode cX0_shiftedRight 0 = .ok (.iload_n 2, 1) := by decide +kernel
theorem dX0_shiftedRight_1 : decode cX0_shiftedRight 1 = .ok (.bipush 63, 2) := by decide +kernel
theorem dX0_shiftedRight_3 : decode cX0_shiftedRight 3 = .ok (.if_icmp .le 7, 3) := by decide +kernel
theorem dX0_shiftedRight_6 : decode cX0_shiftedRight 6 = .ok (.lconst 0, 1) := by decide +kernel
theorem dX0_shiftedRight_7 : decode cX0_shiftedRight 7 = .ok (.goto 6, 3) := by decide +kernel
theorem dX0_shiftedRight_10 : decode cX0_shiftedRight 10 = .ok (.lload_n 0, 1) := by decide +kernel
theorem dX0_shiftedRight_11 : decode cX0_shiftedRight 11 = .ok (.iload_n 2, 1) := by decide +kernel
theorem dX0_shiftedRight_12 : decode cX0_shiftedRight 12 = .ok (.lshr, 1) := by decide +kernel
theorem dX0_shiftedRight_13 : decode cX0_shiftedRight 13 = .ok (.lreturn, 1) := by decide +kernel
theorem dX0_isMultiple_0 : decode cX0_isMultiple 0 = .ok (.iload_n 2, 1) := by decide +kernel
theorem dX0_isMultiple_1 : decode cX0_isMultiple 1 = .ok (.ifCond .gt 5, 3) := by decide +kernel
theorem dX0_isMultiple_4 : decode cX0_isMultiple 4 = .ok (.iconst 1, 1) := by decide +kernel
theorem dX0_isMultiple_5 : decode cX0_isMultiple 5 = .ok (.ireturn, 1) := by decide +kernel
theorem dX0_isMultiple_6 : decode cX0_isMultiple 6 = .ok (.iload_n 2, 1) := by decide +kernel
theorem dX0_isMultiple_7 : decode cX0_isMultiple 7 = .ok (.bipush 63, 2) := by decide +kernel
theorem dX0_isMultiple_9 : decode cX0_isMultiple 9 = .ok (.if_icmp .le 17, 3) := by decide +kernel
theorem dX0_isMultiple_12 : decode cX0_isMultiple 12 = .ok (.lload_n 0, 1) := by decide +kernel
theorem dX0_isMultiple_13 : decode cX0_isMultiple 13 = .ok (.lconst 0, 1) := by decide +kernel
theorem dX0_isMultiple_14 : decode cX0_isMultiple 14 = .ok (.lcmp, 1) := by decide +kernel
theorem dX0_isMultiple_15 : decode cX0_isMultiple 15 = .ok (.ifCond .ne 7, 3) := by decide +kernel
theorem dX0_isMultiple_18 : decode cX0_isMultiple 18 = .ok (.iconst 1, 1) := by decide +kernel
theorem dX0_isMultiple_19 : decode cX0_isMultiple 19 = .ok (.goto 24, 3) := by decide +kernel
theorem dX0_isMultiple_22 : decode cX0_isMultiple 22 = .ok (.iconst 0, 1) := by decide +kernel
theorem dX0_isMultiple_23 : decode cX0_isMultiple 23 = .ok (.goto 20, 3) := by decide +kernel
theorem dX0_isMultiple_26 : decode cX0_isMultiple 26 = .ok (.lload_n 0, 1) := by decide +kernel
theorem dX0_isMultiple_27 : decode cX0_isMultiple 27 = .ok (.lconst 1, 1) := by decide +kernel
theorem dX0_isMultiple_28 : decode cX0_isMultiple 28 = .ok (.iload_n 2, 1) := by decide +kernel
theorem dX0_isMultiple_29 : decode cX0_isMultiple 29 = .ok (.lshl, 1) := by decide +kernel
theorem dX0_isMultiple_30 : decode cX0_isMultiple 30 = .ok (.lconst 1, 1) := by decide +kernel
theorem dX0_isMultiple_31 : decode cX0_isMultiple 31 = .ok (.lsub, 1) := by decide +kernel
theorem dX0_isMultiple_32 : decode cX0_isMultiple 32 = .ok (.land, 1) := by decide +kernel
theorem dX0_isMultiple_33 : decode cX0_isMultiple 33 = .ok (.lconst 0, 1) := by decide +kernel
theorem dX0_isMultiple_34 : decode cX0_isMultiple 34 = .ok (.lcmp, 1) := by decide +kernel
theorem dX0_isMultiple_35 : decode cX0_isMultiple 35 = .ok (.ifCond .ne 7, 3) := by decide +kernel
theorem dX0_isMultiple_38 : decode cX0_isMultiple 38 = .ok (.iconst 1, 1) := by decide +kernel
theorem dX0_isMultiple_39 : decode cX0_isMultiple 39 = .ok (.goto 4, 3) := by decide +kernel
theorem dX0_isMultiple_42 : decode cX0_isMultiple 42 = .ok (.iconst 0, 1) := by decide +kernel
theorem dX0_isMultiple_43 : decode cX0_isMultiple 43 = .ok (.ireturn, 1) := by decide +kernel
theorem dX0_withTrace_0 : decode cX0_withTrace 0 = .ok (.iload_n 2, 1) := by decide +kernel
theorem dX0_withTrace_1 : decode cX0_withTrace 1 = .ok (.ifCond .eq 9, 3) := by decide +kernel
theorem dX0_withTrace_4 : decode cX0_withTrace 4 = .ok (.lload_n 0, 1) := by decide +kernel
theorem dX0_withTrace_5 : decode cX0_withTrace 5 = .ok (.lconst 1, 1) := by decide +kernel
theorem dX0_withTrace_6 : decode cX0_withTrace 6 = .ok (.lor, 1) := by decide +kernel
theorem dX0_withTrace_7 : decode cX0_withTrace 7 = .ok (.goto 4, 3) := by decide +kernel
theorem dX0_withTrace_10 : decode cX0_withTrace 10 = .ok (.lload_n 0, 1) := by decide +kernel
theorem dX0_withTrace_11 : decode cX0_withTrace 11 = .ok (.lreturn, 1) := by decide +kernel
theorem dX0_floorRoot_0 : decode cX0_floorRoot 0 = .ok (.lconst 0, 1) := by decide +kernel
theorem dX0_floorRoot_1 : decode cX0_floorRoot 1 = .ok (.lstore_n 2, 1) := by decide +kernel
theorem dX0_floorRoot_2 : decode cX0_floorRoot 2 = .ok (.bipush 30, 2) := by decide +kernel
theorem dX0_floorRoot_4 : decode cX0_floorRoot 4 = .ok (.istore 4, 2) := by decide +kernel
theorem dX0_floorRoot_6 : decode cX0_floorRoot 6 = .ok (.iload 4, 2) := by decide +kernel
theorem dX0_floorRoot_8 : decode cX0_floorRoot 8 = .ok (.ifCond .lt 30, 3) := by decide +kernel
theorem dX0_floorRoot_11 : decode cX0_floorRoot 11 = .ok (.lload_n 2, 1) := by decide +kernel
theorem dX0_floorRoot_12 : decode cX0_floorRoot 12 = .ok (.lconst 1, 1) := by decide +kernel
theorem dX0_floorRoot_13 : decode cX0_floorRoot 13 = .ok (.iload 4, 2) := by decide +kernel
theorem dX0_floorRoot_15 : decode cX0_floorRoot 15 = .ok (.lshl, 1) := by decide +kernel
theorem dX0_floorRoot_16 : decode cX0_floorRoot 16 = .ok (.lor, 1) := by decide +kernel
theorem dX0_floorRoot_17 : decode cX0_floorRoot 17 = .ok (.lstore 5, 2) := by decide +kernel
theorem dX0_floorRoot_19 : decode cX0_floorRoot 19 = .ok (.lload 5, 2) := by decide +kernel
theorem dX0_floorRoot_21 : decode cX0_floorRoot 21 = .ok (.lload 5, 2) := by decide +kernel
theorem dX0_floorRoot_23 : decode cX0_floorRoot 23 = .ok (.lmul, 1) := by decide +kernel
theorem dX0_floorRoot_24 : decode cX0_floorRoot 24 = .ok (.lload_n 0, 1) := by decide +kernel
theorem dX0_floorRoot_25 : decode cX0_floorRoot 25 = .ok (.lcmp, 1) := by decide +kernel
theorem dX0_floorRoot_26 : decode cX0_floorRoot 26 = .ok (.ifCond .gt 6, 3) := by decide +kernel
theorem dX0_floorRoot_29 : decode cX0_floorRoot 29 = .ok (.lload 5, 2) := by decide +kernel
theorem dX0_floorRoot_31 : decode cX0_floorRoot 31 = .ok (.lstore_n 2, 1) := by decide +kernel
theorem dX0_floorRoot_32 : decode cX0_floorRoot 32 = .ok (.iinc 4 (-1), 3) := by decide +kernel
theorem dX0_floorRoot_35 : decode cX0_floorRoot 35 = .ok (.goto (-29), 3) := by decide +kernel
theorem dX0_floorRoot_38 : decode cX0_floorRoot 38 = .ok (.lload_n 2, 1) := by decide +kernel
theorem dX0_floorRoot_39 : decode cX0_floorRoot 39 = .ok (.lreturn, 1) := by decide +kernel
theorem dX1_init_0 : decode cX1_init 0 = .ok (.aload_n 0, 1) := by decide +kernel
theorem dX1_init_1 : decode cX1_init 1 = .ok (.invokespecial 1, 3) := by decide +kernel
theorem dX1_init_4 : decode cX1_init 4 = .ok (.aload_n 0, 1) := by decide +kernel
theorem dX1_init_5 : decode cX1_init 5 = .ok (.bipush 25, 2) := by decide +kernel
theorem dX1_init_7 : decode cX1_init 7 = .ok (.newarray .long, 2) := by decide +kernel
theorem dX1_init_9 : decode cX1_init 9 = .ok (.putfield 7, 3) := by decide +kernel
theorem dX1_init_12 : decode cX1_init 12 = .ok (.aload_n 0, 1) := by decide +kernel
theorem dX1_init_13 : decode cX1_init 13 = .ok (.iconst 0, 1) := by decide +kernel
theorem dX1_init_14 : decode cX1_init 14 = .ok (.putfield 13, 3) := by decide +kernel
theorem dX1_init_17 : decode cX1_init 17 = .ok (.return_, 1) := by decide +kernel
theorem dX1_round_0 : decode cX1_round 0 = .ok (.iload_n 1, 1) := by decide +kernel
theorem dX1_round_1 : decode cX1_round 1 = .ok (.ifCond .lt 8, 3) := by decide +kernel
theorem dX1_round_4 : decode cX1_round 4 = .ok (.iload_n 1, 1) := by decide +kernel
theorem dX1_round_5 : decode cX1_round 5 = .ok (.iconst 3, 1) := by decide +kernel
theorem dX1_round_6 : decode cX1_round 6 = .ok (.if_icmp .le 5, 3) := by decide +kernel
theorem dX1_round_9 : decode cX1_round 9 = .ok (.iconst 0, 1) := by decide +kernel
theorem dX1_round_10 : decode cX1_round 10 = .ok (.ireturn, 1) := by decide +kernel
theorem dX1_round_11 : decode cX1_round 11 = .ok (.aload_n 0, 1) := by decide +kernel
theorem dX1_round_12 : decode cX1_round 12 = .ok (.iload_n 1, 1) := by decide +kernel
theorem dX1_round_13 : decode cX1_round 13 = .ok (.putfield 13, 3) := by decide +kernel
theorem dX1_round_16 : decode cX1_round 16 = .ok (.iconst 1, 1) := by decide +kernel
theorem dX1_round_17 : decode cX1_round 17 = .ok (.ireturn, 1) := by decide +kernel
theorem dX1_mode_0 : decode cX1_mode 0 = .ok (.aload_n 0, 1) := by decide +kernel
theorem dX1_mode_1 : decode cX1_mode 1 = .ok (.getfield 13, 3) := by decide +kernel
theorem dX1_mode_4 : decode cX1_mode 4 = .ok (.ireturn, 1) := by decide +kernel
theorem dX1_flags_0 : decode cX1_flags 0 = .ok (.aload_n 0, 1) := by decide +kernel
theorem dX1_flags_1 : decode cX1_flags 1 = .ok (.getfield 17, 3) := by decide +kernel
theorem dX1_flags_4 : decode cX1_flags 4 = .ok (.ireturn, 1) := by decide +kernel
theorem dX1_clear_0 : decode cX1_clear 0 = .ok (.aload_n 0, 1) := by decide +kernel
theorem dX1_clear_1 : decode cX1_clear 1 = .ok (.getfield 17, 3) := by decide +kernel
theorem dX1_clear_4 : decode cX1_clear 4 = .ok (.istore_n 1, 1) := by decide +kernel
theorem dX1_clear_5 : decode cX1_clear 5 = .ok (.aload_n 0, 1) := by decide +kernel
theorem dX1_clear_6 : decode cX1_clear 6 = .ok (.iconst 0, 1) := by decide +kernel
theorem dX1_clear_7 : decode cX1_clear 7 = .ok (.putfield 17, 3) := by decide +kernel
theorem dX1_clear_10 : decode cX1_clear 10 = .ok (.iload_n 1, 1) := by decide +kernel
theorem dX1_clear_11 : decode cX1_clear 11 = .ok (.ireturn, 1) := by decide +kernel
theorem dX1_exponent_0 : decode cX1_exponent 0 = .ok (.iload_n 0, 1) := by decide +kernel
theorem dX1_exponent_1 : decode cX1_exponent 1 = .ok (.bipush 23, 2) := by decide +kernel
theorem dX1_exponent_3 : decode cX1_exponent 3 = .ok (.ishr, 1) := by decide +kernel
theorem dX1_exponent_4 : decode cX1_exponent 4 = .ok (.sipush 255, 3) := by decide +kernel
theorem dX1_exponent_7 : decode cX1_exponent 7 = .ok (.iand, 1) := by decide +kernel
theorem dX1_exponent_8 : decode cX1_exponent 8 = .ok (.ireturn, 1) := by decide +kernel
theorem dX1_fraction_0 : decode cX1_fraction 0 = .ok (.iload_n 0, 1) := by decide +kernel
theorem dX1_fraction_1 : decode cX1_fraction 1 = .ok (.ldc 20, 2) := by decide +kernel
theorem dX1_fraction_3 : decode cX1_fraction 3 = .ok (.iand, 1) := by decide +kernel
theorem dX1_fraction_4 : decode cX1_fraction 4 = .ok (.ireturn, 1) := by decide +kernel
set_option maxRecDepth 20000 in
theorem ggX1_isNone_X1_exponent : GoodIn wsX1_isNone wsX1_exponent := goodIn_r _ [4] (by decide +kernel) (by decide +kernel)
set_option maxRecDepth 20000 in
theorem gX1_isNone_X1_exponent : GoodIn wsX1_isNone (va_wsS RX1 21 yX1_exponent wsX1_exponent) := goodIn_app (goodIn_of _ (by decide +kernel)) ggX1_isNone_X1_exponent
set_option maxRecDepth 20000 in
theorem ggX1_isNone_X1_fraction : GoodIn wsX1_isNone wsX1_fraction := goodIn_r _ [7, 8] (by decide +kernel) (by decide +kernel)
set_option maxRecDepth 20000 in
theorem gX1_isNone_X1_fraction : GoodIn wsX1_isNone (va_wsS RX1 25 yX1_fraction wsX1_fraction) := goodIn_app (goodIn_of _ (by decide +kernel)) ggX1_isNone_X1_fraction
theorem dX1_isNone_0 : decode cX1_isNone 0 = .ok (.iload_n 0, 1) := by decide +kernel
theorem dX1_isNone_1 : decode cX1_isNone 1 = .ok (.invokestatic 21, 3) := by decide +kernel
theorem dX1_isNone_4 : decode cX1_isNone 4 = .ok (.sipush 255, 3) := by decide +kernel
theorem dX1_isNone_7 : decode cX1_isNone 7 = .ok (.if_icmp .ne 14, 3) := by decide +kernel
theorem dX1_isNone_10 : decode cX1_isNone 10 = .ok (.iload_n 0, 1) := by decide +kernel
theorem dX1_isNone_11 : decode cX1_isNone 11 = .ok (.invokestatic 25, 3) := by decide +kernel
theorem dX1_isNone_14 : decode cX1_isNone 14 = .ok (.ifCond .eq 7, 3) := by decide +kernel
theorem dX1_isNone_17 : decode cX1_isNone 17 = .ok (.iconst 1, 1) := by decide +kernel
theorem dX1_isNone_18 : decode cX1_isNone 18 = .ok (.goto 4, 3) := by decide +kernel
theorem dX1_isNone_21 : decode cX1_isNone 21 = .ok (.iconst 0, 1) := by decide +kernel
theorem dX1_isNone_22 : decode cX1_isNone 22 = .ok (.ireturn, 1) := by decide +kernel
set_option maxRecDepth 20000 in
theorem ggX1_isLoud_X1_isNone : GoodIn wsX1_isLoud wsX1_isNone := goodIn_r _ [5, 6, 7, 4, 8, 9, 10, 11, 12] (by decide +kernel) (by decide +kernel)
set_option maxRecDepth 20000 in
theorem gX1_isLoud_X1_isNone : GoodIn wsX1_isLoud (va_wsS RX1 28 yX1_isNone wsX1_isNone) := goodIn_app (goodIn_of _ (by decide +kernel)) ggX1_isLoud_X1_isNone
set_option maxRecDepth 20000 in
theorem ggX1_isLoud_X1_fraction : GoodIn wsX1_isLoud wsX1_fraction := goodIn_r _ [11, 12] (by decide +kernel) (by decide +kernel)
set_option maxRecDepth 20000 in
theorem gX1_isLoud_X1_fraction : GoodIn wsX1_isLoud (va_wsS RX1 25 yX1_fraction wsX1_fraction) := goodIn_app (goodIn_of _ (by decide +kernel)) ggX1_isLoud_X1_fraction
theorem dX1_isLoud_0 : decode cX1_isLoud 0 = .ok (.iload_n 0, 1) := by decide +kernel
theorem dX1_isLoud_1 : decode cX1_isLoud 1 = .ok (.invokestatic 28, 3) := by decide +kernel
theorem dX1_isLoud_4 : decode cX1_isLoud 4 = .ok (.ifCond .eq 16, 3) := by decide +kernel
theorem dX1_isLoud_7 : decode cX1_isLoud 7 = .ok (.iload_n 0, 1) := by decide +kernel
theorem dX1_isLoud_8 : decode cX1_isLoud 8 = .ok (.invokestatic 25, 3) := by decide +kernel
theorem dX1_isLoud_11 : decode cX1_isLoud 11 = .ok (.ldc 32, 2) := by decide +kernel
theorem dX1_isLoud_13 : decode cX1_isLoud 13 = .ok (.if_icmp .ge 7, 3) := by decide +kernel
theorem dX1_isLoud_16 : decode cX1_isLoud 16 = .ok (.iconst 1, 1) := by decide +kernel
theorem dX1_isLoud_17 : decode cX1_isLoud 17 = .ok (.goto 4, 3) := by decide +kernel
theorem dX1_isLoud_20 : decode cX1_isLoud 20 = .ok (.iconst 0, 1) := by decide +kernel
theorem dX1_isLoud_21 : decode cX1_isLoud 21 = .ok (.ireturn, 1) := by decide +kernel
set_option maxRecDepth 20000 in
theorem ggX1_isInfinite_X1_exponent : GoodIn wsX1_isInfinite wsX1_exponent := goodIn_r _ [4] (by decide +kernel) (by decide +kernel)
set_option maxRecDepth 20000 in
theorem gX1_isInfinite_X1_exponent : GoodIn wsX1_isInfinite (va_wsS RX1 21 yX1_exponent wsX1_exponent) := goodIn_app (goodIn_of _ (by decide +kernel)) ggX1_isInfinite_X1_exponent
set_option maxRecDepth 20000 in
theorem ggX1_isInfinite_X1_fraction : GoodIn wsX1_isInfinite wsX1_fraction := goodIn_r _ [7, 8] (by decide +kernel) (by decide +kernel)
set_option maxRecDepth 20000 in
theorem gX1_isInfinite_X1_fraction : GoodIn wsX1_isInfinite (va_wsS RX1 25 yX1_fraction wsX1_fraction) := goodIn_app (goodIn_of _ (by decide +kernel)) ggX1_isInfinite_X1_fraction
theorem dX1_isInfinite_0 : decode cX1_isInfinite 0 = .ok (.iload_n 0, 1) := by decide +kernel
theorem dX1_isInfinite_1 : decode cX1_isInfinite 1 = .ok (.invokestatic 21, 3) := by decide +kernel
theorem dX1_isInfinite_4 : decode cX1_isInfinite 4 = .ok (.sipush 255, 3) := by decide +kernel
theorem dX1_isInfinite_7 : decode cX1_isInfinite 7 = .ok (.if_icmp .ne 14, 3) := by decide +kernel
theorem dX1_isInfinite_10 : decode cX1_isInfinite 10 = .ok (.iload_n 0, 1) := by decide +kernel
theorem dX1_isInfinite_11 : decode cX1_isInfinite 11 = .ok (.invokestatic 25, 3) := by decide +kernel
theorem dX1_isInfinite_14 : decode cX1_isInfinite 14 = .ok (.ifCond .ne 7, 3) := by decide +kernel
theorem dX1_isInfinite_17 : decode cX1_isInfinite 17 = .ok (.iconst 1, 1) := by decide +kernel
theorem dX1_isInfinite_18 : decode cX1_isInfinite 18 = .ok (.goto 4, 3) := by decide +kernel
theorem dX1_isInfinite_21 : decode cX1_isInfinite 21 = .ok (.iconst 0, 1) := by decide +kernel
theorem dX1_isInfinite_22 : decode cX1_isInfinite 22 = .ok (.ireturn, 1) := by decide +kernel
theorem dX1_isZero_0 : decode cX1_isZero 0 = .ok (.iload_n 0, 1) := by decide +kernel
theorem dX1_isZero_1 : decode cX1_isZero 1 = .ok (.ldc 33, 2) := by decide +kernel
theorem dX1_isZero_3 : decode cX1_isZero 3 = .ok (.iand, 1) := by decide +kernel
theorem dX1_isZero_4 : decode cX1_isZero 4 = .ok (.ifCond .ne 7, 3) := by decide +kernel
theorem dX1_isZero_7 : decode cX1_isZero 7 = .ok (.iconst 1, 1) := by decide +kernel
theorem dX1_isZero_8 : decode cX1_isZero 8 = .ok (.goto 4, 3) := by decide +kernel
theorem dX1_isZero_11 : decode cX1_isZero 11 = .ok (.iconst 0, 1) := by decide +kernel
theorem dX1_isZero_12 : decode cX1_isZero 12 = .ok (.ireturn, 1) := by decide +kernel
theorem dX1_isNegative_0 : decode cX1_isNegative 0 = .ok (.iload_n 0, 1) := by decide +kernel
theorem dX1_isNegative_1 : decode cX1_isNegative 1 = .ok (.ifCond .ge 7, 3) := by decide +kernel
theorem dX1_isNegative_4 : decode cX1_isNegative 4 = .ok (.iconst 1, 1) := by decide +kernel
theorem dX1_isNegative_5 : decode cX1_isNegative 5 = .ok (.goto 4, 3) := by decide +kernel
theorem dX1_isNegative_8 : decode cX1_isNegative 8 = .ok (.iconst 0, 1) := by decide +kernel
theorem dX1_isNegative_9 : decode cX1_isNegative 9 = .ok (.ireturn, 1) := by decide +kernel
theorem dX1_signed_0 : decode cX1_signed 0 = .ok (.iload_n 1, 1) := by decide +kernel
theorem dX1_signed_1 : decode cX1_signed 1 = .ok (.ifCond .eq 10, 3) := by decide +kernel
theorem dX1_signed_4 : decode cX1_signed 4 = .ok (.iload_n 0, 1) := by decide +kernel
theorem dX1_signed_5 : decode cX1_signed 5 = .ok (.ldc 34, 2) := by decide +kernel
theorem dX1_signed_7 : decode cX1_signed 7 = .ok (.ior, 1) := by decide +kernel
theorem dX1_signed_8 : decode cX1_signed 8 = .ok (.goto 4, 3) := by decide +kernel
theorem dX1_signed_11 : decode cX1_signed 11 = .ok (.iload_n 0, 1) := by decide +kernel
theorem dX1_signed_12 : decode cX1_signed 12 = .ok (.ireturn, 1) := by decide +kernel
set_option maxRecDepth 20000 in
theorem ggX1_units_X1_exponent : GoodIn wsX1_units wsX1_exponent := goodIn_r _ [5] (by decide +kernel) (by decide +kernel)
set_option maxRecDepth 20000 in
theorem gX1_units_X1_exponent : GoodIn wsX1_units (va_wsS RX1 21 yX1_exponent wsX1_exponent) := goodIn_app (goodIn_of _ (by decide +kernel)) ggX1_units_X1_exponent
set_option maxRecDepth 20000 in
theorem ggX1_units_X1_fraction : GoodIn wsX1_units wsX1_fraction := goodIn_r _ [8, 9] (by decide +kernel) (by decide +kernel)
set_option maxRecDepth 20000 in
theorem gX1_units_X1_fraction : GoodIn wsX1_units (va_wsS RX1 25 yX1_fraction wsX1_fraction) := goodIn_app (goodIn_of _ (by decide +kernel)) ggX1_units_X1_fraction
theorem dX1_units_0 : decode cX1_units 0 = .ok (.iload_n 0, 1) := by decide +kernel
theorem dX1_units_1 : decode cX1_units 1 = .ok (.invokestatic 21, 3) := by decide +kernel
theorem dX1_units_4 : decode cX1_units 4 = .ok (.ifCond .ne 10, 3) := by decide +kernel
theorem dX1_units_7 : decode cX1_units 7 = .ok (.iload_n 0, 1) := by decide +kernel
