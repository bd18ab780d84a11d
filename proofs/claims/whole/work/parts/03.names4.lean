set_option maxRecDepth 20000 in
theorem ggX1_multiply_X1_none : GoodIn wsX1_multiply wsX1_none := goodIn_r _ [16, 17, 18, 19, 20, 4, 21, 22, 2, 3, 5, 6, 7, 8, 9, 10, 11, 12, 93, 94, 95, 96, 97, 98] (by decide +kernel) (by decide +kernel)
set_option maxRecDepth 20000 in
theorem gX1_multiply_X1_none : GoodIn wsX1_multiply (wsV RX1 77 RX1 yX1_none wsX1_none) := goodIn_app (goodIn_of _ (by decide +kernel)) ggX1_multiply_X1_none
set_option maxRecDepth 20000 in
theorem ggX1_multiply_X1_isZero : GoodIn wsX1_multiply wsX1_isZero := goodIn_r _ [25, 26] (by decide +kernel) (by decide +kernel)
set_option maxRecDepth 20000 in
theorem gX1_multiply_X1_isZero : GoodIn wsX1_multiply (va_wsS RX1 108 yX1_isZero wsX1_isZero) := goodIn_app (goodIn_of _ (by decide +kernel)) ggX1_multiply_X1_isZero
set_option maxRecDepth 20000 in
theorem ggX1_multiply_X1_isInfinite : GoodIn wsX1_multiply wsX1_isInfinite := goodIn_r _ [29, 6, 7, 4, 8, 9, 10, 11, 12] (by decide +kernel) (by decide +kernel)
set_option maxRecDepth 20000 in
theorem gX1_multiply_X1_isInfinite : GoodIn wsX1_multiply (va_wsS RX1 81 yX1_isInfinite wsX1_isInfinite) := goodIn_app (goodIn_of _ (by decide +kernel)) ggX1_multiply_X1_isInfinite
set_option maxRecDepth 20000 in
theorem ggX1_multiply_X1_invalid : GoodIn wsX1_multiply wsX1_invalid := goodIn_r _ [33, 17, 18, 93, 94, 95, 96, 97, 98] (by decide +kernel) (by decide +kernel)
set_option maxRecDepth 20000 in
theorem gX1_multiply_X1_invalid : GoodIn wsX1_multiply (wsV RX1 87 RX1 yX1_invalid wsX1_invalid) := goodIn_app (goodIn_of _ (by decide +kernel)) ggX1_multiply_X1_invalid
set_option maxRecDepth 20000 in
theorem ggX1_multiply_X1_isNegative : GoodIn wsX1_multiply wsX1_isNegative := goodIn_r _ [36] (by decide +kernel) (by decide +kernel)
set_option maxRecDepth 20000 in
theorem gX1_multiply_X1_isNegative : GoodIn wsX1_multiply (va_wsS RX1 84 yX1_isNegative wsX1_isNegative) := goodIn_app (goodIn_of _ (by decide +kernel)) ggX1_multiply_X1_isNegative
set_option maxRecDepth 20000 in
theorem ggX1_multiply_X1_signed : GoodIn wsX1_multiply wsX1_signed := goodIn_r _ [39, 40] (by decide +kernel) (by decide +kernel)
set_option maxRecDepth 20000 in
theorem gX1_multiply_X1_signed : GoodIn wsX1_multiply (va_wsS RX1 74 yX1_signed wsX1_signed) := goodIn_app (goodIn_of _ (by decide +kernel)) ggX1_multiply_X1_signed
set_option maxRecDepth 20000 in
theorem ggX1_multiply_X1_empty : GoodIn wsX1_multiply wsX1_empty := goodIn_r _ [44, 45, 46, 47, 93, 94, 95, 96, 97, 98] (by decide +kernel) (by decide +kernel)
set_option maxRecDepth 20000 in
theorem gX1_multiply_X1_empty : GoodIn wsX1_multiply (wsV RX1 90 RX1 yX1_empty wsX1_empty) := goodIn_app (goodIn_of _ (by decide +kernel)) ggX1_multiply_X1_empty
set_option maxRecDepth 20000 in
theorem ggX1_multiply_X1_units : GoodIn wsX1_multiply wsX1_units := goodIn_r _ [50, 51, 6, 7, 4, 8, 9, 10, 11, 12] (by decide +kernel) (by decide +kernel)
set_option maxRecDepth 20000 in
theorem gX1_multiply_X1_units : GoodIn wsX1_multiply (va_wsS RX1 94 yX1_units wsX1_units) := goodIn_app (goodIn_of _ (by decide +kernel)) ggX1_multiply_X1_units
set_option maxRecDepth 20000 in
theorem ggX1_multiply_X1_place : GoodIn wsX1_multiply wsX1_place := goodIn_r _ [54, 6, 7, 4, 8] (by decide +kernel) (by decide +kernel)
set_option maxRecDepth 20000 in
theorem gX1_multiply_X1_place : GoodIn wsX1_multiply (va_wsS RX1 97 yX1_place wsX1_place) := goodIn_app (goodIn_of _ (by decide +kernel)) ggX1_multiply_X1_place
set_option maxRecDepth 20000 in
theorem ggX1_multiply_X1_put : GoodIn wsX1_multiply wsX1_put := goodIn_r _ [58, 46, 45, 59, 93, 94, 95, 96, 97, 98] (by decide +kernel) (by decide +kernel)
set_option maxRecDepth 20000 in
theorem gX1_multiply_X1_put : GoodIn wsX1_multiply (wsV RX1 100 RX1 yX1_put wsX1_put) := goodIn_app (goodIn_of _ (by decide +kernel)) ggX1_multiply_X1_put
set_option maxRecDepth 20000 in
theorem ggX1_multiply_X1_settle : GoodIn wsX1_multiply wsX1_settle := goodIn_r _ [63, 45, 64, 65, 66, 4, 67, 68, 93, 94, 95, 96, 97, 98] (by decide +kernel) (by decide +kernel)
set_option maxRecDepth 20000 in
theorem gX1_multiply_X1_settle : GoodIn wsX1_multiply (wsV RX1 104 RX1 yX1_settle wsX1_settle) := goodIn_app (goodIn_of _ (by decide +kernel)) ggX1_multiply_X1_settle
set_option maxRecDepth 20000 in
theorem ggX1_multiply_X1_finish : GoodIn wsX1_multiply wsX1_finish := goodIn_r _ [72, 46, 73, 74, 17, 75, 76, 1, 51, 77, 78, 79, 4, 80, 81, 82, 83, 84, 45, 85, 86, 87, 88, 89, 90, 91, 92, 47, 37, 38, 39, 40, 93, 94, 95, 96, 97, 98] (by decide +kernel) (by decide +kernel)
set_option maxRecDepth 20000 in
theorem gX1_multiply_X1_finish : GoodIn wsX1_multiply (wsV RX1 115 RX1 yX1_finish wsX1_finish) := goodIn_app (goodIn_of _ (by decide +kernel)) ggX1_multiply_X1_finish
theorem dX1_multiply_0 : decode cX1_multiply 0 = .ok (.iload_n 1, 1) := by decide +kernel
theorem dX1_multiply_1 : decode cX1_multiply 1 = .ok (.invokestatic 28, 3) := by decide +kernel
theorem dX1_multiply_4 : decode cX1_multiply 4 = .ok (.ifCond .ne 10, 3) := by decide +kernel
theorem dX1_multiply_7 : decode cX1_multiply 7 = .ok (.iload_n 2, 1) := by decide +kernel
theorem dX1_multiply_8 : decode cX1_multiply 8 = .ok (.invokestatic 28, 3) := by decide +kernel
theorem dX1_multiply_11 : decode cX1_multiply 11 = .ok (.ifCond .eq 11, 3) := by decide +kernel
theorem dX1_multiply_14 : decode cX1_multiply 14 = .ok (.aload_n 0, 1) := by decide +kernel
theorem dX1_multiply_15 : decode cX1_multiply 15 = .ok (.iload_n 1, 1) := by decide +kernel
theorem dX1_multiply_16 : decode cX1_multiply 16 = .ok (.iload_n 2, 1) := by decide +kernel
theorem dX1_multiply_17 : decode cX1_multiply 17 = .ok (.iconst 0, 1) := by decide +kernel
theorem dX1_multiply_18 : decode cX1_multiply 18 = .ok (.invokevirtual 77, 3) := by decide +kernel
theorem dX1_multiply_21 : decode cX1_multiply 21 = .ok (.ireturn, 1) := by decide +kernel
theorem dX1_multiply_22 : decode cX1_multiply 22 = .ok (.iload_n 1, 1) := by decide +kernel
theorem dX1_multiply_23 : decode cX1_multiply 23 = .ok (.invokestatic 108, 3) := by decide +kernel
theorem dX1_multiply_26 : decode cX1_multiply 26 = .ok (.ifCond .eq 10, 3) := by decide +kernel
theorem dX1_multiply_29 : decode cX1_multiply 29 = .ok (.iload_n 2, 1) := by decide +kernel
theorem dX1_multiply_30 : decode cX1_multiply 30 = .ok (.invokestatic 81, 3) := by decide +kernel
theorem dX1_multiply_33 : decode cX1_multiply 33 = .ok (.ifCond .ne 17, 3) := by decide +kernel
theorem dX1_multiply_36 : decode cX1_multiply 36 = .ok (.iload_n 1, 1) := by decide +kernel
theorem dX1_multiply_37 : decode cX1_multiply 37 = .ok (.invokestatic 81, 3) := by decide +kernel
theorem dX1_multiply_40 : decode cX1_multiply 40 = .ok (.ifCond .eq 15, 3) := by decide +kernel
theorem dX1_multiply_43 : decode cX1_multiply 43 = .ok (.iload_n 2, 1) := by decide +kernel
theorem dX1_multiply_44 : decode cX1_multiply 44 = .ok (.invokestatic 108, 3) := by decide +kernel
theorem dX1_multiply_47 : decode cX1_multiply 47 = .ok (.ifCond .eq 8, 3) := by decide +kernel
theorem dX1_multiply_50 : decode cX1_multiply 50 = .ok (.aload_n 0, 1) := by decide +kernel
theorem dX1_multiply_51 : decode cX1_multiply 51 = .ok (.invokevirtual 87, 3) := by decide +kernel
theorem dX1_multiply_54 : decode cX1_multiply 54 = .ok (.ireturn, 1) := by decide +kernel
theorem dX1_multiply_55 : decode cX1_multiply 55 = .ok (.iload_n 1, 1) := by decide +kernel
theorem dX1_multiply_56 : decode cX1_multiply 56 = .ok (.invokestatic 84, 3) := by decide +kernel
theorem dX1_multiply_59 : decode cX1_multiply 59 = .ok (.iload_n 2, 1) := by decide +kernel
theorem dX1_multiply_60 : decode cX1_multiply 60 = .ok (.invokestatic 84, 3) := by decide +kernel
theorem dX1_multiply_63 : decode cX1_multiply 63 = .ok (.if_icmp .eq 7, 3) := by decide +kernel
theorem dX1_multiply_66 : decode cX1_multiply 66 = .ok (.iconst 1, 1) := by decide +kernel
theorem dX1_multiply_67 : decode cX1_multiply 67 = .ok (.goto 4, 3) := by decide +kernel
theorem dX1_multiply_70 : decode cX1_multiply 70 = .ok (.iconst 0, 1) := by decide +kernel
theorem dX1_multiply_71 : decode cX1_multiply 71 = .ok (.istore_n 3, 1) := by decide +kernel
theorem dX1_multiply_72 : decode cX1_multiply 72 = .ok (.iload_n 1, 1) := by decide +kernel
theorem dX1_multiply_73 : decode cX1_multiply 73 = .ok (.invokestatic 81, 3) := by decide +kernel
theorem dX1_multiply_76 : decode cX1_multiply 76 = .ok (.ifCond .ne 10, 3) := by decide +kernel
theorem dX1_multiply_79 : decode cX1_multiply 79 = .ok (.iload_n 2, 1) := by decide +kernel
theorem dX1_multiply_80 : decode cX1_multiply 80 = .ok (.invokestatic 81, 3) := by decide +kernel
theorem dX1_multiply_83 : decode cX1_multiply 83 = .ok (.ifCond .eq 10, 3) := by decide +kernel
theorem dX1_multiply_86 : decode cX1_multiply 86 = .ok (.ldc 73, 2) := by decide +kernel
theorem dX1_multiply_88 : decode cX1_multiply 88 = .ok (.iload_n 3, 1) := by decide +kernel
theorem dX1_multiply_89 : decode cX1_multiply 89 = .ok (.invokestatic 74, 3) := by decide +kernel
theorem dX1_multiply_92 : decode cX1_multiply 92 = .ok (.ireturn, 1) := by decide +kernel
theorem dX1_multiply_93 : decode cX1_multiply 93 = .ok (.iload_n 1, 1) := by decide +kernel
theorem dX1_multiply_94 : decode cX1_multiply 94 = .ok (.invokestatic 108, 3) := by decide +kernel
theorem dX1_multiply_97 : decode cX1_multiply 97 = .ok (.ifCond .ne 10, 3) := by decide +kernel
theorem dX1_multiply_100 : decode cX1_multiply 100 = .ok (.iload_n 2, 1) := by decide +kernel
theorem dX1_multiply_101 : decode cX1_multiply 101 = .ok (.invokestatic 108, 3) := by decide +kernel
theorem dX1_multiply_104 : decode cX1_multiply 104 = .ok (.ifCond .eq 9, 3) := by decide +kernel
theorem dX1_multiply_107 : decode cX1_multiply 107 = .ok (.iconst 0, 1) := by decide +kernel
theorem dX1_multiply_108 : decode cX1_multiply 108 = .ok (.iload_n 3, 1) := by decide +kernel
theorem dX1_multiply_109 : decode cX1_multiply 109 = .ok (.invokestatic 74, 3) := by decide +kernel
theorem dX1_multiply_112 : decode cX1_multiply 112 = .ok (.ireturn, 1) := by decide +kernel
theorem dX1_multiply_113 : decode cX1_multiply 113 = .ok (.aload_n 0, 1) := by decide +kernel
theorem dX1_multiply_114 : decode cX1_multiply 114 = .ok (.sipush (-298), 3) := by decide +kernel
theorem dX1_multiply_117 : decode cX1_multiply 117 = .ok (.invokevirtual 90, 3) := by decide +kernel
theorem dX1_multiply_120 : decode cX1_multiply 120 = .ok (.aload_n 0, 1) := by decide +kernel
theorem dX1_multiply_121 : decode cX1_multiply 121 = .ok (.iload_n 1, 1) := by decide +kernel
theorem dX1_multiply_122 : decode cX1_multiply 122 = .ok (.invokestatic 94, 3) := by decide +kernel
theorem dX1_multiply_125 : decode cX1_multiply 125 = .ok (.i2l, 1) := by decide +kernel
theorem dX1_multiply_126 : decode cX1_multiply 126 = .ok (.iload_n 2, 1) := by decide +kernel
theorem dX1_multiply_127 : decode cX1_multiply 127 = .ok (.invokestatic 94, 3) := by decide +kernel
theorem dX1_multiply_130 : decode cX1_multiply 130 = .ok (.i2l, 1) := by decide +kernel
theorem dX1_multiply_131 : decode cX1_multiply 131 = .ok (.lmul, 1) := by decide +kernel
theorem dX1_multiply_132 : decode cX1_multiply 132 = .ok (.iload_n 1, 1) := by decide +kernel
theorem dX1_multiply_133 : decode cX1_multiply 133 = .ok (.invokestatic 97, 3) := by decide +kernel
theorem dX1_multiply_136 : decode cX1_multiply 136 = .ok (.iload_n 2, 1) := by decide +kernel
theorem dX1_multiply_137 : decode cX1_multiply 137 = .ok (.invokestatic 97, 3) := by decide +kernel
theorem dX1_multiply_140 : decode cX1_multiply 140 = .ok (.iadd, 1) := by decide +kernel
theorem dX1_multiply_141 : decode cX1_multiply 141 = .ok (.iconst 0, 1) := by decide +kernel
theorem dX1_multiply_142 : decode cX1_multiply 142 = .ok (.invokevirtual 100, 3) := by decide +kernel
theorem dX1_multiply_145 : decode cX1_multiply 145 = .ok (.aload_n 0, 1) := by decide +kernel
theorem dX1_multiply_146 : decode cX1_multiply 146 = .ok (.invokevirtual 104, 3) := by decide +kernel
theorem dX1_multiply_149 : decode cX1_multiply 149 = .ok (.istore 4, 2) := by decide +kernel
theorem dX1_multiply_151 : decode cX1_multiply 151 = .ok (.aload_n 0, 1) := by decide +kernel
theorem dX1_multiply_152 : decode cX1_multiply 152 = .ok (.iload_n 3, 1) := by decide +kernel
theorem dX1_multiply_153 : decode cX1_multiply 153 = .ok (.iload 4, 2) := by decide +kernel
theorem dX1_multiply_155 : decode cX1_multiply 155 = .ok (.if_icmp .eq 7, 3) := by decide +kernel
theorem dX1_multiply_158 : decode cX1_multiply 158 = .ok (.iconst 1, 1) := by decide +kernel
theorem dX1_multiply_159 : decode cX1_multiply 159 = .ok (.goto 4, 3) := by decide +kernel
theorem dX1_multiply_162 : decode cX1_multiply 162 = .ok (.iconst 0, 1) := by decide +kernel
theorem dX1_multiply_163 : decode cX1_multiply 163 = .ok (.invokevirtual 115, 3) := by decide +kernel
theorem dX1_multiply_166 : decode cX1_multiply 166 = .ok (.ireturn, 1) := by decide +kernel
theorem dX1_gap_0 : decode cX1_gap 0 = .ok (.iconst 0, 1) := by decide +kernel
theorem dX1_gap_1 : decode cX1_gap 1 = .ok (.istore_n 1, 1) := by decide +kernel
theorem dX1_gap_2 : decode cX1_gap 2 = .ok (.iload_n 1, 1) := by decide +kernel
theorem dX1_gap_3 : decode cX1_gap 3 = .ok (.bipush 24, 2) := by decide +kernel
theorem dX1_gap_5 : decode cX1_gap 5 = .ok (.if_icmp .ge 18, 3) := by decide +kernel
theorem dX1_gap_8 : decode cX1_gap 8 = .ok (.iload_n 0, 1) := by decide +kernel
theorem dX1_gap_9 : decode cX1_gap 9 = .ok (.iload_n 1, 1) := by decide +kernel
theorem dX1_gap_10 : decode cX1_gap 10 = .ok (.ishl, 1) := by decide +kernel
theorem dX1_gap_11 : decode cX1_gap 11 = .ok (.ldc 35, 2) := by decide +kernel
theorem dX1_gap_13 : decode cX1_gap 13 = .ok (.if_icmp .ge 10, 3) := by decide +kernel
theorem dX1_gap_16 : decode cX1_gap 16 = .ok (.iload_n 1, 1) := by decide +kernel
theorem dX1_gap_17 : decode cX1_gap 17 = .ok (.iconst 1, 1) := by decide +kernel
theorem dX1_gap_18 : decode cX1_gap 18 = .ok (.iadd, 1) := by decide +kernel
theorem dX1_gap_19 : decode cX1_gap 19 = .ok (.istore_n 1, 1) := by decide +kernel
theorem dX1_gap_20 : decode cX1_gap 20 = .ok (.goto (-18), 3) := by decide +kernel
theorem dX1_gap_23 : decode cX1_gap 23 = .ok (.iload_n 1, 1) := by decide +kernel
theorem dX1_gap_24 : decode cX1_gap 24 = .ok (.ireturn, 1) := by decide +kernel
set_option maxRecDepth 20000 in
theorem ggX1_divide_X1_isNone : GoodIn wsX1_divide wsX1_isNone := goodIn_r _ [8, 9, 10, 7, 11, 12, 13, 14, 15] (by decide +kernel) (by decide +kernel)
set_option maxRecDepth 20000 in
theorem gX1_divide_X1_isNone : GoodIn wsX1_divide (va_wsS RX1 28 yX1_isNone wsX1_isNone) := goodIn_app (goodIn_of _ (by decide +kernel)) ggX1_divide_X1_isNone
set_option maxRecDepth 20000 in
theorem ggX1_divide_X1_none : GoodIn wsX1_divide wsX1_none := goodIn_r _ [19, 1, 20, 21, 22, 7, 23, 24, 5, 6, 8, 9, 10, 11, 12, 13, 14, 15, 96, 97, 98, 99, 100, 101] (by decide +kernel) (by decide +kernel)
set_option maxRecDepth 20000 in
theorem gX1_divide_X1_none : GoodIn wsX1_divide (wsV RX1 77 RX1 yX1_none wsX1_none) := goodIn_app (goodIn_of _ (by decide +kernel)) ggX1_divide_X1_none
set_option maxRecDepth 20000 in
theorem ggX1_divide_X1_isZero : GoodIn wsX1_divide wsX1_isZero := goodIn_r _ [27, 28] (by decide +kernel) (by decide +kernel)
set_option maxRecDepth 20000 in
theorem gX1_divide_X1_isZero : GoodIn wsX1_divide (va_wsS RX1 108 yX1_isZero wsX1_isZero) := goodIn_app (goodIn_of _ (by decide +kernel)) ggX1_divide_X1_isZero
set_option maxRecDepth 20000 in
theorem ggX1_divide_X1_isInfinite : GoodIn wsX1_divide wsX1_isInfinite := goodIn_r _ [31, 9, 10, 7, 11, 12, 13, 14, 15] (by decide +kernel) (by decide +kernel)
set_option maxRecDepth 20000 in
theorem gX1_divide_X1_isInfinite : GoodIn wsX1_divide (va_wsS RX1 81 yX1_isInfinite wsX1_isInfinite) := goodIn_app (goodIn_of _ (by decide +kernel)) ggX1_divide_X1_isInfinite
set_option maxRecDepth 20000 in
theorem ggX1_divide_X1_invalid : GoodIn wsX1_divide wsX1_invalid := goodIn_r _ [35, 1, 20, 96, 97, 98, 99, 100, 101] (by decide +kernel) (by decide +kernel)
set_option maxRecDepth 20000 in
theorem gX1_divide_X1_invalid : GoodIn wsX1_divide (wsV RX1 87 RX1 yX1_invalid wsX1_invalid) := goodIn_app (goodIn_of _ (by decide +kernel)) ggX1_divide_X1_invalid
set_option maxRecDepth 20000 in
theorem ggX1_divide_X1_isNegative : GoodIn wsX1_divide wsX1_isNegative := goodIn_r _ [38] (by decide +kernel) (by decide +kernel)
set_option maxRecDepth 20000 in
theorem gX1_divide_X1_isNegative : GoodIn wsX1_divide (va_wsS RX1 84 yX1_isNegative wsX1_isNegative) := goodIn_app (goodIn_of _ (by decide +kernel)) ggX1_divide_X1_isNegative
set_option maxRecDepth 20000 in
theorem ggX1_divide_X1_signed : GoodIn wsX1_divide wsX1_signed := goodIn_r _ [41, 42] (by decide +kernel) (by decide +kernel)
set_option maxRecDepth 20000 in
theorem gX1_divide_X1_signed : GoodIn wsX1_divide (va_wsS RX1 74 yX1_signed wsX1_signed) := goodIn_app (goodIn_of _ (by decide +kernel)) ggX1_divide_X1_signed
set_option maxRecDepth 20000 in
theorem ggX1_divide_X1_units : GoodIn wsX1_divide wsX1_units := goodIn_r _ [45, 46, 9, 10, 7, 11, 12, 13, 14, 15] (by decide +kernel) (by decide +kernel)
set_option maxRecDepth 20000 in
theorem gX1_divide_X1_units : GoodIn wsX1_divide (va_wsS RX1 94 yX1_units wsX1_units) := goodIn_app (goodIn_of _ (by decide +kernel)) ggX1_divide_X1_units
set_option maxRecDepth 20000 in
theorem ggX1_divide_X1_gap : GoodIn wsX1_divide wsX1_gap := goodIn_r _ [49, 46] (by decide +kernel) (by decide +kernel)
set_option maxRecDepth 20000 in
theorem gX1_divide_X1_gap : GoodIn wsX1_divide (va_wsS RX1 123 yX1_gap wsX1_gap) := goodIn_app (goodIn_of _ (by decide +kernel)) ggX1_divide_X1_gap
set_option maxRecDepth 20000 in
theorem ggX1_divide_X1_place : GoodIn wsX1_divide wsX1_place := goodIn_r _ [52, 9, 10, 7, 11] (by decide +kernel) (by decide +kernel)
set_option maxRecDepth 20000 in
theorem gX1_divide_X1_place : GoodIn wsX1_divide (va_wsS RX1 97 yX1_place wsX1_place) := goodIn_app (goodIn_of _ (by decide +kernel)) ggX1_divide_X1_place
set_option maxRecDepth 20000 in
theorem ggX1_divide_X1_empty : GoodIn wsX1_divide wsX1_empty := goodIn_r _ [56, 57, 3, 4, 96, 97, 98, 99, 100, 101] (by decide +kernel) (by decide +kernel)
set_option maxRecDepth 20000 in
theorem gX1_divide_X1_empty : GoodIn wsX1_divide (wsV RX1 90 RX1 yX1_empty wsX1_empty) := goodIn_app (goodIn_of _ (by decide +kernel)) ggX1_divide_X1_empty
set_option maxRecDepth 20000 in
theorem ggX1_divide_X1_put : GoodIn wsX1_divide wsX1_put := goodIn_r _ [61, 3, 57, 62, 96, 97, 98, 99, 100, 101] (by decide +kernel) (by decide +kernel)
set_option maxRecDepth 20000 in
theorem gX1_divide_X1_put : GoodIn wsX1_divide (wsV RX1 100 RX1 yX1_put wsX1_put) := goodIn_app (goodIn_of _ (by decide +kernel)) ggX1_divide_X1_put
set_option maxRecDepth 20000 in
theorem ggX1_divide_X1_settle : GoodIn wsX1_divide wsX1_settle := goodIn_r _ [66, 57, 67, 68, 69, 7, 70, 71, 96, 97, 98, 99, 100, 101] (by decide +kernel) (by decide +kernel)
set_option maxRecDepth 20000 in
theorem gX1_divide_X1_settle : GoodIn wsX1_divide (wsV RX1 104 RX1 yX1_settle wsX1_settle) := goodIn_app (goodIn_of _ (by decide +kernel)) ggX1_divide_X1_settle
set_option maxRecDepth 20000 in
theorem ggX1_divide_X1_finish : GoodIn wsX1_divide wsX1_finish := goodIn_r _ [75, 3, 76, 77, 1, 78, 79, 2, 46, 80, 81, 82, 7, 83, 84, 85, 86, 87, 57, 88, 89, 90, 91, 92, 93, 94, 95, 4, 39, 40, 41, 42, 96, 97, 98, 99, 100, 101] (by decide +kernel) (by decide +kernel)
set_option maxRecDepth 20000 in
theorem gX1_divide_X1_finish : GoodIn wsX1_divide (wsV RX1 115 RX1 yX1_finish wsX1_finish) := goodIn_app (goodIn_of _ (by decide +kernel)) ggX1_divide_X1_finish
theorem dX1_divide_0 : decode cX1_divide 0 = .ok (.iload_n 1, 1) := by decide +kernel
theorem dX1_divide_1 : decode cX1_divide 1 = .ok (.invokestatic 28, 3) := by decide +kernel
theorem dX1_divide_4 : decode cX1_divide 4 = .ok (.ifCond .ne 10, 3) := by decide +kernel
theorem dX1_divide_7 : decode cX1_divide 7 = .ok (.iload_n 2, 1) := by decide +kernel
theorem dX1_divide_8 : decode cX1_divide 8 = .ok (.invokestatic 28, 3) := by decide +kernel
theorem dX1_divide_11 : decode cX1_divide 11 = .ok (.ifCond .eq 11, 3) := by decide +kernel
theorem dX1_divide_14 : decode cX1_divide 14 = .ok (.aload_n 0, 1) := by decide +kernel
theorem dX1_divide_15 : decode cX1_divide 15 = .ok (.iload_n 1, 1) := by decide +kernel
theorem dX1_divide_16 : decode cX1_divide 16 = .ok (.iload_n 2, 1) := by decide +kernel
theorem dX1_divide_17 : decode cX1_divide 17 = .ok (.iconst 0, 1) := by decide +kernel
theorem dX1_divide_18 : decode cX1_divide 18 = .ok (.invokevirtual 77, 3) := by decide +kernel
theorem dX1_divide_21 : decode cX1_divide 21 = .ok (.ireturn, 1) := by decide +kernel
theorem dX1_divide_22 : decode cX1_divide 22 = .ok (.iload_n 1, 1) := by decide +kernel
theorem dX1_divide_23 : decode cX1_divide 23 = .ok (.invokestatic 108, 3) := by decide +kernel
theorem dX1_divide_26 : decode cX1_divide 26 = .ok (.ifCond .eq 10, 3) := by decide +kernel
theorem dX1_divide_29 : decode cX1_divide 29 = .ok (.iload_n 2, 1) := by decide +kernel
theorem dX1_divide_30 : decode cX1_divide 30 = .ok (.invokestatic 108, 3) := by decide +kernel
theorem dX1_divide_33 : decode cX1_divide 33 = .ok (.ifCond .ne 17, 3) := by decide +kernel
theorem dX1_divide_36 : decode cX1_divide 36 = .ok (.iload_n 1, 1) := by decide +kernel
theorem dX1_divide_37 : decode cX1_divide 37 = .ok (.invokestatic 81, 3) := by decide +kernel
theorem dX1_divide_40 : decode cX1_divide 40 = .ok (.ifCond .eq 15, 3) := by decide +kernel
theorem dX1_divide_43 : decode cX1_divide 43 = .ok (.iload_n 2, 1) := by decide +kernel
theorem dX1_divide_44 : decode cX1_divide 44 = .ok (.invokestatic 81, 3) := by decide +kernel
theorem dX1_divide_47 : decode cX1_divide 47 = .ok (.ifCond .eq 8, 3) := by decide +kernel
theorem dX1_divide_50 : decode cX1_divide 50 = .ok (.aload_n 0, 1) := by decide +kernel
theorem dX1_divide_51 : decode cX1_divide 51 = .ok (.invokevirtual 87, 3) := by decide +kernel
theorem dX1_divide_54 : decode cX1_divide 54 = .ok (.ireturn, 1) := by decide +kernel
theorem dX1_divide_55 : decode cX1_divide 55 = .ok (.iload_n 1, 1) := by decide +kernel
theorem dX1_divide_56 : decode cX1_divide 56 = .ok (.invokestatic 84, 3) := by decide +kernel
theorem dX1_divide_59 : decode cX1_divide 59 = .ok (.iload_n 2, 1) := by decide +kernel
theorem dX1_divide_60 : decode cX1_divide 60 = .ok (.invokestatic 84, 3) := by decide +kernel
theorem dX1_divide_63 : decode cX1_divide 63 = .ok (.if_icmp .eq 7, 3) := by decide +kernel
theorem dX1_divide_66 : decode cX1_divide 66 = .ok (.iconst 1, 1) := by decide +kernel
theorem dX1_divide_67 : decode cX1_divide 67 = .ok (.goto 4, 3) := by decide +kernel
theorem dX1_divide_70 : decode cX1_divide 70 = .ok (.iconst 0, 1) := by decide +kernel
theorem dX1_divide_71 : decode cX1_divide 71 = .ok (.istore_n 3, 1) := by decide +kernel
theorem dX1_divide_72 : decode cX1_divide 72 = .ok (.iload_n 2, 1) := by decide +kernel
theorem dX1_divide_73 : decode cX1_divide 73 = .ok (.invokestatic 108, 3) := by decide +kernel
theorem dX1_divide_76 : decode cX1_divide 76 = .ok (.ifCond .eq 21, 3) := by decide +kernel
theorem dX1_divide_79 : decode cX1_divide 79 = .ok (.iload_n 1, 1) := by decide +kernel
theorem dX1_divide_80 : decode cX1_divide 80 = .ok (.invokestatic 81, 3) := by decide +kernel
theorem dX1_divide_83 : decode cX1_divide 83 = .ok (.ifCond .ne 14, 3) := by decide +kernel
theorem dX1_divide_86 : decode cX1_divide 86 = .ok (.aload_n 0, 1) := by decide +kernel
theorem dX1_divide_87 : decode cX1_divide 87 = .ok (.aload_n 0, 1) := by decide +kernel
theorem dX1_divide_88 : decode cX1_divide 88 = .ok (.getfield 17, 3) := by decide +kernel
theorem dX1_divide_91 : decode cX1_divide 91 = .ok (.bipush 8, 2) := by decide +kernel
theorem dX1_divide_93 : decode cX1_divide 93 = .ok (.ior, 1) := by decide +kernel
theorem dX1_divide_94 : decode cX1_divide 94 = .ok (.putfield 17, 3) := by decide +kernel
theorem dX1_divide_97 : decode cX1_divide 97 = .ok (.iload_n 1, 1) := by decide +kernel
theorem dX1_divide_98 : decode cX1_divide 98 = .ok (.invokestatic 81, 3) := by decide +kernel
theorem dX1_divide_101 : decode cX1_divide 101 = .ok (.ifCond .ne 10, 3) := by decide +kernel
theorem dX1_divide_104 : decode cX1_divide 104 = .ok (.iload_n 2, 1) := by decide +kernel
theorem dX1_divide_105 : decode cX1_divide 105 = .ok (.invokestatic 108, 3) := by decide +kernel
theorem dX1_divide_108 : decode cX1_divide 108 = .ok (.ifCond .eq 10, 3) := by decide +kernel
theorem dX1_divide_111 : decode cX1_divide 111 = .ok (.ldc 73, 2) := by decide +kernel
theorem dX1_divide_113 : decode cX1_divide 113 = .ok (.iload_n 3, 1) := by decide +kernel
theorem dX1_divide_114 : decode cX1_divide 114 = .ok (.invokestatic 74, 3) := by decide +kernel
theorem dX1_divide_117 : decode cX1_divide 117 = .ok (.ireturn, 1) := by decide +kernel
theorem dX1_divide_118 : decode cX1_divide 118 = .ok (.iload_n 1, 1) := by decide +kernel
theorem dX1_divide_119 : decode cX1_divide 119 = .ok (.invokestatic 108, 3) := by decide +kernel
theorem dX1_divide_122 : decode cX1_divide 122 = .ok (.ifCond .ne 10, 3) := by decide +kernel
theorem dX1_divide_125 : decode cX1_divide 125 = .ok (.iload_n 2, 1) := by decide +kernel
theorem dX1_divide_126 : decode cX1_divide 126 = .ok (.invokestatic 81, 3) := by decide +kernel
theorem dX1_divide_129 : decode cX1_divide 129 = .ok (.ifCond .eq 9, 3) := by decide +kernel
theorem dX1_divide_132 : decode cX1_divide 132 = .ok (.iconst 0, 1) := by decide +kernel
theorem dX1_divide_133 : decode cX1_divide 133 = .ok (.iload_n 3, 1) := by decide +kernel
theorem dX1_divide_134 : decode cX1_divide 134 = .ok (.invokestatic 74, 3) := by decide +kernel
theorem dX1_divide_137 : decode cX1_divide 137 = .ok (.ireturn, 1) := by decide +kernel
theorem dX1_divide_138 : decode cX1_divide 138 = .ok (.iload_n 1, 1) := by decide +kernel
theorem dX1_divide_139 : decode cX1_divide 139 = .ok (.invokestatic 94, 3) := by decide +kernel
theorem dX1_divide_142 : decode cX1_divide 142 = .ok (.invokestatic 123, 3) := by decide +kernel
theorem dX1_divide_145 : decode cX1_divide 145 = .ok (.istore 4, 2) := by decide +kernel
theorem dX1_divide_147 : decode cX1_divide 147 = .ok (.iload_n 2, 1) := by decide +kernel
theorem dX1_divide_148 : decode cX1_divide 148 = .ok (.invokestatic 94, 3) := by decide +kernel
theorem dX1_divide_151 : decode cX1_divide 151 = .ok (.invokestatic 123, 3) := by decide +kernel
theorem dX1_divide_154 : decode cX1_divide 154 = .ok (.istore 5, 2) := by decide +kernel
theorem dX1_divide_156 : decode cX1_divide 156 = .ok (.iload_n 1, 1) := by decide +kernel
theorem dX1_divide_157 : decode cX1_divide 157 = .ok (.invokestatic 94, 3) := by decide +kernel
theorem dX1_divide_160 : decode cX1_divide 160 = .ok (.i2l, 1) := by decide +kernel
theorem dX1_divide_161 : decode cX1_divide 161 = .ok (.iload 4, 2) := by decide +kernel
theorem dX1_divide_163 : decode cX1_divide 163 = .ok (.bipush 38, 2) := by decide +kernel
theorem dX1_divide_165 : decode cX1_divide 165 = .ok (.iadd, 1) := by decide +kernel
theorem dX1_divide_166 : decode cX1_divide 166 = .ok (.lshl, 1) := by decide +kernel
theorem dX1_divide_167 : decode cX1_divide 167 = .ok (.lstore 6, 2) := by decide +kernel
theorem dX1_divide_169 : decode cX1_divide 169 = .ok (.iload_n 2, 1) := by decide +kernel
theorem dX1_divide_170 : decode cX1_divide 170 = .ok (.invokestatic 94, 3) := by decide +kernel
theorem dX1_divide_173 : decode cX1_divide 173 = .ok (.i2l, 1) := by decide +kernel
theorem dX1_divide_174 : decode cX1_divide 174 = .ok (.iload 5, 2) := by decide +kernel
theorem dX1_divide_176 : decode cX1_divide 176 = .ok (.lshl, 1) := by decide +kernel
theorem dX1_divide_177 : decode cX1_divide 177 = .ok (.lstore 8, 2) := by decide +kernel
theorem dX1_divide_179 : decode cX1_divide 179 = .ok (.aload_n 0, 1) := by decide +kernel
theorem dX1_divide_180 : decode cX1_divide 180 = .ok (.iload_n 1, 1) := by decide +kernel
theorem dX1_divide_181 : decode cX1_divide 181 = .ok (.invokestatic 97, 3) := by decide +kernel
theorem dX1_divide_184 : decode cX1_divide 184 = .ok (.iload 4, 2) := by decide +kernel
theorem dX1_divide_186 : decode cX1_divide 186 = .ok (.isub, 1) := by decide +kernel
theorem dX1_divide_187 : decode cX1_divide 187 = .ok (.iload_n 2, 1) := by decide +kernel
theorem dX1_divide_188 : decode cX1_divide 188 = .ok (.invokestatic 97, 3) := by decide +kernel
theorem dX1_divide_191 : decode cX1_divide 191 = .ok (.isub, 1) := by decide +kernel
theorem dX1_divide_192 : decode cX1_divide 192 = .ok (.iload 5, 2) := by decide +kernel
theorem dX1_divide_194 : decode cX1_divide 194 = .ok (.iadd, 1) := by decide +kernel
theorem dX1_divide_195 : decode cX1_divide 195 = .ok (.bipush 38, 2) := by decide +kernel
theorem dX1_divide_197 : decode cX1_divide 197 = .ok (.isub, 1) := by decide +kernel
theorem dX1_divide_198 : decode cX1_divide 198 = .ok (.invokevirtual 90, 3) := by decide +kernel
theorem dX1_divide_201 : decode cX1_divide 201 = .ok (.aload_n 0, 1) := by decide +kernel
theorem dX1_divide_202 : decode cX1_divide 202 = .ok (.lload 6, 2) := by decide +kernel
theorem dX1_divide_204 : decode cX1_divide 204 = .ok (.lload 8, 2) := by decide +kernel
theorem dX1_divide_206 : decode cX1_divide 206 = .ok (.ldiv, 1) := by decide +kernel
theorem dX1_divide_207 : decode cX1_divide 207 = .ok (.aload_n 0, 1) := by decide +kernel
theorem dX1_divide_208 : decode cX1_divide 208 = .ok (.getfield 40, 3) := by decide +kernel
theorem dX1_divide_211 : decode cX1_divide 211 = .ok (.iconst 0, 1) := by decide +kernel
theorem dX1_divide_212 : decode cX1_divide 212 = .ok (.invokevirtual 100, 3) := by decide +kernel
theorem dX1_divide_215 : decode cX1_divide 215 = .ok (.aload_n 0, 1) := by decide +kernel
theorem dX1_divide_216 : decode cX1_divide 216 = .ok (.lload 6, 2) := by decide +kernel
theorem dX1_divide_218 : decode cX1_divide 218 = .ok (.lload 8, 2) := by decide +kernel
theorem dX1_divide_220 : decode cX1_divide 220 = .ok (.lrem, 1) := by decide +kernel
theorem dX1_divide_221 : decode cX1_divide 221 = .ok (.lconst 0, 1) := by decide +kernel
theorem dX1_divide_222 : decode cX1_divide 222 = .ok (.lcmp, 1) := by decide +kernel
theorem dX1_divide_223 : decode cX1_divide 223 = .ok (.ifCond .eq 7, 3) := by decide +kernel
theorem dX1_divide_226 : decode cX1_divide 226 = .ok (.iconst 1, 1) := by decide +kernel
theorem dX1_divide_227 : decode cX1_divide 227 = .ok (.goto 4, 3) := by decide +kernel
theorem dX1_divide_230 : decode cX1_divide 230 = .ok (.iconst 0, 1) := by decide +kernel
theorem dX1_divide_231 : decode cX1_divide 231 = .ok (.putfield 43, 3) := by decide +kernel
theorem dX1_divide_234 : decode cX1_divide 234 = .ok (.aload_n 0, 1) := by decide +kernel
theorem dX1_divide_235 : decode cX1_divide 235 = .ok (.invokevirtual 104, 3) := by decide +kernel
theorem dX1_divide_238 : decode cX1_divide 238 = .ok (.istore 10, 2) := by decide +kernel
theorem dX1_divide_240 : decode cX1_divide 240 = .ok (.aload_n 0, 1) := by decide +kernel
theorem dX1_divide_241 : decode cX1_divide 241 = .ok (.iload_n 3, 1) := by decide +kernel
theorem dX1_divide_242 : decode cX1_divide 242 = .ok (.iload 10, 2) := by decide +kernel
theorem dX1_divide_244 : decode cX1_divide 244 = .ok (.if_icmp .eq 7, 3) := by decide +kernel
theorem dX1_divide_247 : decode cX1_divide 247 = .ok (.iconst 1, 1) := by decide +kernel
theorem dX1_divide_248 : decode cX1_divide 248 = .ok (.goto 4, 3) := by decide +kernel
theorem dX1_divide_251 : decode cX1_divide 251 = .ok (.iconst 0, 1) := by decide +kernel
theorem dX1_divide_252 : decode cX1_divide 252 = .ok (.invokevirtual 115, 3) := by decide +kernel
theorem dX1_divide_255 : decode cX1_divide 255 = .ok (.ireturn, 1) := by decide +kernel
set_option maxRecDepth 20000 in
theorem ggX1_root_X1_isNone : GoodIn wsX1_root wsX1_isNone := goodIn_r _ [7, 8, 9, 6, 10, 11, 12, 13, 14] (by decide +kernel) (by decide +kernel)
set_option maxRecDepth 20000 in
theorem gX1_root_X1_isNone : GoodIn wsX1_root (va_wsS RX1 28 yX1_isNone wsX1_isNone) := goodIn_app (goodIn_of _ (by decide +kernel)) ggX1_root_X1_isNone
set_option maxRecDepth 20000 in
theorem ggX1_root_X1_none : GoodIn wsX1_root wsX1_none := goodIn_r _ [18, 19, 20, 21, 22, 6, 23, 24, 4, 5, 7, 8, 9, 10, 11, 12, 13, 14, 97, 98, 99, 100, 101, 102] (by decide +kernel) (by decide +kernel)
set_option maxRecDepth 20000 in
theorem gX1_root_X1_none : GoodIn wsX1_root (wsV RX1 77 RX1 yX1_none wsX1_none) := goodIn_app (goodIn_of _ (by decide +kernel)) ggX1_root_X1_none
set_option maxRecDepth 20000 in
theorem ggX1_root_X1_isZero : GoodIn wsX1_root wsX1_isZero := goodIn_r _ [27, 28] (by decide +kernel) (by decide +kernel)
set_option maxRecDepth 20000 in
theorem gX1_root_X1_isZero : GoodIn wsX1_root (va_wsS RX1 108 yX1_isZero wsX1_isZero) := goodIn_app (goodIn_of _ (by decide +kernel)) ggX1_root_X1_isZero
set_option maxRecDepth 20000 in
theorem ggX1_root_X1_isNegative : GoodIn wsX1_root wsX1_isNegative := goodIn_r _ [31] (by decide +kernel) (by decide +kernel)
set_option maxRecDepth 20000 in
theorem gX1_root_X1_isNegative : GoodIn wsX1_root (va_wsS RX1 84 yX1_isNegative wsX1_isNegative) := goodIn_app (goodIn_of _ (by decide +kernel)) ggX1_root_X1_isNegative
set_option maxRecDepth 20000 in
theorem ggX1_root_X1_invalid : GoodIn wsX1_root wsX1_invalid := goodIn_r _ [35, 19, 20, 97, 98, 99, 100, 101, 102] (by decide +kernel) (by decide +kernel)
set_option maxRecDepth 20000 in
theorem gX1_root_X1_invalid : GoodIn wsX1_root (wsV RX1 87 RX1 yX1_invalid wsX1_invalid) := goodIn_app (goodIn_of _ (by decide +kernel)) ggX1_root_X1_invalid
set_option maxRecDepth 20000 in
theorem ggX1_root_X1_isInfinite : GoodIn wsX1_root wsX1_isInfinite := goodIn_r _ [38, 8, 9, 6, 10, 11, 12, 13, 14] (by decide +kernel) (by decide +kernel)
set_option maxRecDepth 20000 in
theorem gX1_root_X1_isInfinite : GoodIn wsX1_root (va_wsS RX1 81 yX1_isInfinite wsX1_isInfinite) := goodIn_app (goodIn_of _ (by decide +kernel)) ggX1_root_X1_isInfinite
set_option maxRecDepth 20000 in
theorem ggX1_root_X1_units : GoodIn wsX1_root wsX1_units := goodIn_r _ [41, 42, 8, 9, 6, 10, 11, 12, 13, 14] (by decide +kernel) (by decide +kernel)
set_option maxRecDepth 20000 in
theorem gX1_root_X1_units : GoodIn wsX1_root (va_wsS RX1 94 yX1_units wsX1_units) := goodIn_app (goodIn_of _ (by decide +kernel)) ggX1_root_X1_units
set_option maxRecDepth 20000 in
theorem ggX1_root_X1_gap : GoodIn wsX1_root wsX1_gap := goodIn_r _ [45, 42] (by decide +kernel) (by decide +kernel)
set_option maxRecDepth 20000 in
theorem gX1_root_X1_gap : GoodIn wsX1_root (va_wsS RX1 123 yX1_gap wsX1_gap) := goodIn_app (goodIn_of _ (by decide +kernel)) ggX1_root_X1_gap
set_option maxRecDepth 20000 in
theorem ggX1_root_X1_place : GoodIn wsX1_root wsX1_place := goodIn_r _ [48, 8, 9, 6, 10] (by decide +kernel) (by decide +kernel)
set_option maxRecDepth 20000 in
theorem gX1_root_X1_place : GoodIn wsX1_root (va_wsS RX1 97 yX1_place wsX1_place) := goodIn_app (goodIn_of _ (by decide +kernel)) ggX1_root_X1_place
set_option maxRecDepth 20000 in
theorem ggX1_root_X1_empty : GoodIn wsX1_root wsX1_empty := goodIn_r _ [52, 53, 2, 3, 97, 98, 99, 100, 101, 102] (by decide +kernel) (by decide +kernel)
set_option maxRecDepth 20000 in
theorem gX1_root_X1_empty : GoodIn wsX1_root (wsV RX1 90 RX1 yX1_empty wsX1_empty) := goodIn_app (goodIn_of _ (by decide +kernel)) ggX1_root_X1_empty
set_option maxRecDepth 20000 in
theorem ggX1_root_X1_put : GoodIn wsX1_root wsX1_put := goodIn_r _ [57, 2, 53, 58, 97, 98, 99, 100, 101, 102] (by decide +kernel) (by decide +kernel)
set_option maxRecDepth 20000 in
theorem gX1_root_X1_put : GoodIn wsX1_root (wsV RX1 100 RX1 yX1_put wsX1_put) := goodIn_app (goodIn_of _ (by decide +kernel)) ggX1_root_X1_put
set_option maxRecDepth 20000 in
theorem ggX1_root_X1_settle : GoodIn wsX1_root wsX1_settle := goodIn_r _ [62, 53, 63, 64, 65, 6, 66, 67, 97, 98, 99, 100, 101, 102] (by decide +kernel) (by decide +kernel)
set_option maxRecDepth 20000 in
theorem gX1_root_X1_settle : GoodIn wsX1_root (wsV RX1 104 RX1 yX1_settle wsX1_settle) := goodIn_app (goodIn_of _ (by decide +kernel)) ggX1_root_X1_settle
set_option maxRecDepth 20000 in
theorem ggX1_root_X1_finish : GoodIn wsX1_root wsX1_finish := goodIn_r _ [71, 2, 72, 73, 19, 74, 75, 76, 42, 77, 78, 79, 6, 80, 81, 82, 83, 84, 53, 85, 86, 87, 88, 89, 90, 91, 92, 3, 93, 94, 95, 96, 97, 98, 99, 100, 101, 102] (by decide +kernel) (by decide +kernel)
set_option maxRecDepth 20000 in
theorem gX1_root_X1_finish : GoodIn wsX1_root (wsV RX1 115 RX1 yX1_finish wsX1_finish) := goodIn_app (goodIn_of _ (by decide +kernel)) ggX1_root_X1_finish
theorem dX1_root_0 : decode cX1_root 0 = .ok (.iload_n 1, 1) := by decide +kernel
theorem dX1_root_1 : decode cX1_root 1 = .ok (.invokestatic 28, 3) := by decide +kernel
theorem dX1_root_4 : decode cX1_root 4 = .ok (.ifCond .eq 11, 3) := by decide +kernel
theorem dX1_root_7 : decode cX1_root 7 = .ok (.aload_n 0, 1) := by decide +kernel
theorem dX1_root_8 : decode cX1_root 8 = .ok (.iload_n 1, 1) := by decide +kernel
theorem dX1_root_9 : decode cX1_root 9 = .ok (.iconst 0, 1) := by decide +kernel
theorem dX1_root_10 : decode cX1_root 10 = .ok (.iconst 0, 1) := by decide +kernel
theorem dX1_root_11 : decode cX1_root 11 = .ok (.invokevirtual 77, 3) := by decide +kernel
theorem dX1_root_14 : decode cX1_root 14 = .ok (.ireturn, 1) := by decide +kernel
theorem dX1_root_15 : decode cX1_root 15 = .ok (.iload_n 1, 1) := by decide +kernel
theorem dX1_root_16 : decode cX1_root 16 = .ok (.invokestatic 108, 3) := by decide +kernel
theorem dX1_root_19 : decode cX1_root 19 = .ok (.ifCond .eq 5, 3) := by decide +kernel
theorem dX1_root_22 : decode cX1_root 22 = .ok (.iload_n 1, 1) := by decide +kernel
theorem dX1_root_23 : decode cX1_root 23 = .ok (.ireturn, 1) := by decide +kernel
theorem dX1_root_24 : decode cX1_root 24 = .ok (.iload_n 1, 1) := by decide +kernel
theorem dX1_root_25 : decode cX1_root 25 = .ok (.invokestatic 84, 3) := by decide +kernel
theorem dX1_root_28 : decode cX1_root 28 = .ok (.ifCond .eq 8, 3) := by decide +kernel
theorem dX1_root_31 : decode cX1_root 31 = .ok (.aload_n 0, 1) := by decide +kernel
theorem dX1_root_32 : decode cX1_root 32 = .ok (.invokevirtual 87, 3) := by decide +kernel
theorem dX1_root_35 : decode cX1_root 35 = .ok (.ireturn, 1) := by decide +kernel
theorem dX1_root_36 : decode cX1_root 36 = .ok (.iload_n 1, 1) := by decide +kernel
theorem dX1_root_37 : decode cX1_root 37 = .ok (.invokestatic 81, 3) := by decide +kernel
theorem dX1_root_40 : decode cX1_root 40 = .ok (.ifCond .eq 5, 3) := by decide +kernel
theorem dX1_root_43 : decode cX1_root 43 = .ok (.iload_n 1, 1) := by decide +kernel
theorem dX1_root_44 : decode cX1_root 44 = .ok (.ireturn, 1) := by decide +kernel
theorem dX1_root_45 : decode cX1_root 45 = .ok (.iload_n 1, 1) := by decide +kernel
theorem dX1_root_46 : decode cX1_root 46 = .ok (.invokestatic 94, 3) := by decide +kernel
theorem dX1_root_49 : decode cX1_root 49 = .ok (.invokestatic 123, 3) := by decide +kernel
theorem dX1_root_52 : decode cX1_root 52 = .ok (.istore_n 2, 1) := by decide +kernel
theorem dX1_root_53 : decode cX1_root 53 = .ok (.iload_n 1, 1) := by decide +kernel
theorem dX1_root_54 : decode cX1_root 54 = .ok (.invokestatic 97, 3) := by decide +kernel
theorem dX1_root_57 : decode cX1_root 57 = .ok (.iload_n 2, 1) := by decide +kernel
theorem dX1_root_58 : decode cX1_root 58 = .ok (.isub, 1) := by decide +kernel
theorem dX1_root_59 : decode cX1_root 59 = .ok (.bipush 30, 2) := by decide +kernel
theorem dX1_root_61 : decode cX1_root 61 = .ok (.isub, 1) := by decide +kernel
theorem dX1_root_62 : decode cX1_root 62 = .ok (.istore_n 3, 1) := by decide +kernel
theorem dX1_root_63 : decode cX1_root 63 = .ok (.iload_n 1, 1) := by decide +kernel
theorem dX1_root_64 : decode cX1_root 64 = .ok (.invokestatic 94, 3) := by decide +kernel
theorem dX1_root_67 : decode cX1_root 67 = .ok (.i2l, 1) := by decide +kernel
theorem dX1_root_68 : decode cX1_root 68 = .ok (.iload_n 2, 1) := by decide +kernel
theorem dX1_root_69 : decode cX1_root 69 = .ok (.bipush 30, 2) := by decide +kernel
theorem dX1_root_71 : decode cX1_root 71 = .ok (.iadd, 1) := by decide +kernel
theorem dX1_root_72 : decode cX1_root 72 = .ok (.lshl, 1) := by decide +kernel
theorem dX1_root_73 : decode cX1_root 73 = .ok (.lstore 4, 2) := by decide +kernel
theorem dX1_root_75 : decode cX1_root 75 = .ok (.iload_n 3, 1) := by decide +kernel
theorem dX1_root_76 : decode cX1_root 76 = .ok (.iconst 2, 1) := by decide +kernel
theorem dX1_root_77 : decode cX1_root 77 = .ok (.irem, 1) := by decide +kernel
theorem dX1_root_78 : decode cX1_root 78 = .ok (.ifCond .eq 15, 3) := by decide +kernel
theorem dX1_root_81 : decode cX1_root 81 = .ok (.iload_n 3, 1) := by decide +kernel
theorem dX1_root_82 : decode cX1_root 82 = .ok (.iconst 1, 1) := by decide +kernel
theorem dX1_root_83 : decode cX1_root 83 = .ok (.isub, 1) := by decide +kernel
theorem dX1_root_84 : decode cX1_root 84 = .ok (.istore_n 3, 1) := by decide +kernel
theorem dX1_root_85 : decode cX1_root 85 = .ok (.ldc2_w 126, 3) := by decide +kernel
theorem dX1_root_88 : decode cX1_root 88 = .ok (.lload 4, 2) := by decide +kernel
theorem dX1_root_90 : decode cX1_root 90 = .ok (.lmul, 1) := by decide +kernel
theorem dX1_root_91 : decode cX1_root 91 = .ok (.lstore 4, 2) := by decide +kernel
theorem dX1_root_93 : decode cX1_root 93 = .ok (.lconst 0, 1) := by decide +kernel
theorem dX1_root_94 : decode cX1_root 94 = .ok (.lstore 6, 2) := by decide +kernel
theorem dX1_root_96 : decode cX1_root 96 = .ok (.bipush 28, 2) := by decide +kernel
theorem dX1_root_98 : decode cX1_root 98 = .ok (.istore 8, 2) := by decide +kernel
theorem dX1_root_100 : decode cX1_root 100 = .ok (.iload 8, 2) := by decide +kernel
theorem dX1_root_102 : decode cX1_root 102 = .ok (.ifCond .lt 33, 3) := by decide +kernel
theorem dX1_root_105 : decode cX1_root 105 = .ok (.lload 6, 2) := by decide +kernel
theorem dX1_root_107 : decode cX1_root 107 = .ok (.lconst 1, 1) := by decide +kernel
theorem dX1_root_108 : decode cX1_root 108 = .ok (.iload 8, 2) := by decide +kernel
theorem dX1_root_110 : decode cX1_root 110 = .ok (.lshl, 1) := by decide +kernel
theorem dX1_root_111 : decode cX1_root 111 = .ok (.ladd, 1) := by decide +kernel
theorem dX1_root_112 : decode cX1_root 112 = .ok (.lstore 9, 2) := by decide +kernel
theorem dX1_root_114 : decode cX1_root 114 = .ok (.lload 9, 2) := by decide +kernel
theorem dX1_root_116 : decode cX1_root 116 = .ok (.lload 9, 2) := by decide +kernel
theorem dX1_root_118 : decode cX1_root 118 = .ok (.lmul, 1) := by decide +kernel
theorem dX1_root_119 : decode cX1_root 119 = .ok (.lload 4, 2) := by decide +kernel
theorem dX1_root_121 : decode cX1_root 121 = .ok (.lcmp, 1) := by decide +kernel
theorem dX1_root_122 : decode cX1_root 122 = .ok (.ifCond .gt 7, 3) := by decide +kernel
theorem dX1_root_125 : decode cX1_root 125 = .ok (.lload 9, 2) := by decide +kernel
theorem dX1_root_127 : decode cX1_root 127 = .ok (.lstore 6, 2) := by decide +kernel
theorem dX1_root_129 : decode cX1_root 129 = .ok (.iinc 8 (-1), 3) := by decide +kernel
theorem dX1_root_132 : decode cX1_root 132 = .ok (.goto (-32), 3) := by decide +kernel
theorem dX1_root_135 : decode cX1_root 135 = .ok (.aload_n 0, 1) := by decide +kernel
theorem dX1_root_136 : decode cX1_root 136 = .ok (.iload_n 3, 1) := by decide +kernel
theorem dX1_root_137 : decode cX1_root 137 = .ok (.iconst 2, 1) := by decide +kernel
theorem dX1_root_138 : decode cX1_root 138 = .ok (.idiv, 1) := by decide +kernel
theorem dX1_root_139 : decode cX1_root 139 = .ok (.invokevirtual 90, 3) := by decide +kernel
theorem dX1_root_142 : decode cX1_root 142 = .ok (.aload_n 0, 1) := by decide +kernel
theorem dX1_root_143 : decode cX1_root 143 = .ok (.lload 6, 2) := by decide +kernel
theorem dX1_root_145 : decode cX1_root 145 = .ok (.aload_n 0, 1) := by decide +kernel
theorem dX1_root_146 : decode cX1_root 146 = .ok (.getfield 40, 3) := by decide +kernel
theorem dX1_root_149 : decode cX1_root 149 = .ok (.iconst 0, 1) := by decide +kernel
theorem dX1_root_150 : decode cX1_root 150 = .ok (.invokevirtual 100, 3) := by decide +kernel
theorem dX1_root_153 : decode cX1_root 153 = .ok (.aload_n 0, 1) := by decide +kernel
theorem dX1_root_154 : decode cX1_root 154 = .ok (.lload 6, 2) := by decide +kernel
theorem dX1_root_156 : decode cX1_root 156 = .ok (.lload 6, 2) := by decide +kernel
theorem dX1_root_158 : decode cX1_root 158 = .ok (.lmul, 1) := by decide +kernel
theorem dX1_root_159 : decode cX1_root 159 = .ok (.lload 4, 2) := by decide +kernel
theorem dX1_root_161 : decode cX1_root 161 = .ok (.lcmp, 1) := by decide +kernel
theorem dX1_root_162 : decode cX1_root 162 = .ok (.ifCond .eq 7, 3) := by decide +kernel
theorem dX1_root_165 : decode cX1_root 165 = .ok (.iconst 1, 1) := by decide +kernel
theorem dX1_root_166 : decode cX1_root 166 = .ok (.goto 4, 3) := by decide +kernel
theorem dX1_root_169 : decode cX1_root 169 = .ok (.iconst 0, 1) := by decide +kernel
theorem dX1_root_170 : decode cX1_root 170 = .ok (.putfield 43, 3) := by decide +kernel
theorem dX1_root_173 : decode cX1_root 173 = .ok (.aload_n 0, 1) := by decide +kernel
theorem dX1_root_174 : decode cX1_root 174 = .ok (.invokevirtual 104, 3) := by decide +kernel
theorem dX1_root_177 : decode cX1_root 177 = .ok (.istore 8, 2) := by decide +kernel
theorem dX1_root_179 : decode cX1_root 179 = .ok (.aload_n 0, 1) := by decide +kernel
theorem dX1_root_180 : decode cX1_root 180 = .ok (.iload 8, 2) := by decide +kernel
theorem dX1_root_182 : decode cX1_root 182 = .ok (.invokevirtual 115, 3) := by decide +kernel
theorem dX1_root_185 : decode cX1_root 185 = .ok (.ireturn, 1) := by decide +kernel
set_option maxRecDepth 20000 in
theorem ggX1_scale_X1_isNone : GoodIn wsX1_scale wsX1_isNone := goodIn_r _ [5, 6, 7, 4, 8, 9, 10, 11, 12] (by decide +kernel) (by decide +kernel)
set_option maxRecDepth 20000 in
theorem gX1_scale_X1_isNone : GoodIn wsX1_scale (va_wsS RX1 28 yX1_isNone wsX1_isNone) := goodIn_app (goodIn_of _ (by decide +kernel)) ggX1_scale_X1_isNone
set_option maxRecDepth 20000 in
theorem ggX1_scale_X1_none : GoodIn wsX1_scale wsX1_none := goodIn_r _ [16, 17, 18, 19, 20, 4, 21, 22, 2, 3, 5, 6, 7, 8, 9, 10, 11, 12, 89, 90, 91, 92, 93, 94] (by decide +kernel) (by decide +kernel)
set_option maxRecDepth 20000 in
theorem gX1_scale_X1_none : GoodIn wsX1_scale (wsV RX1 77 RX1 yX1_none wsX1_none) := goodIn_app (goodIn_of _ (by decide +kernel)) ggX1_scale_X1_none
set_option maxRecDepth 20000 in
theorem ggX1_scale_X1_isInfinite : GoodIn wsX1_scale wsX1_isInfinite := goodIn_r _ [25, 6, 7, 4, 8, 9, 10, 11, 12] (by decide +kernel) (by decide +kernel)
set_option maxRecDepth 20000 in
theorem gX1_scale_X1_isInfinite : GoodIn wsX1_scale (va_wsS RX1 81 yX1_isInfinite wsX1_isInfinite) := goodIn_app (goodIn_of _ (by decide +kernel)) ggX1_scale_X1_isInfinite
set_option maxRecDepth 20000 in
theorem ggX1_scale_X1_isZero : GoodIn wsX1_scale wsX1_isZero := goodIn_r _ [28, 29] (by decide +kernel) (by decide +kernel)
set_option maxRecDepth 20000 in
theorem gX1_scale_X1_isZero : GoodIn wsX1_scale (va_wsS RX1 108 yX1_isZero wsX1_isZero) := goodIn_app (goodIn_of _ (by decide +kernel)) ggX1_scale_X1_isZero
set_option maxRecDepth 20000 in
theorem ggX1_scale_X1_place : GoodIn wsX1_scale wsX1_place := goodIn_r _ [32, 6, 7, 4, 8] (by decide +kernel) (by decide +kernel)
set_option maxRecDepth 20000 in
theorem gX1_scale_X1_place : GoodIn wsX1_scale (va_wsS RX1 97 yX1_place wsX1_place) := goodIn_app (goodIn_of _ (by decide +kernel)) ggX1_scale_X1_place
set_option maxRecDepth 20000 in
theorem ggX1_scale_X1_empty : GoodIn wsX1_scale wsX1_empty := goodIn_r _ [36, 37, 1, 38, 89, 90, 91, 92, 93, 94] (by decide +kernel) (by decide +kernel)
set_option maxRecDepth 20000 in
theorem gX1_scale_X1_empty : GoodIn wsX1_scale (wsV RX1 90 RX1 yX1_empty wsX1_empty) := goodIn_app (goodIn_of _ (by decide +kernel)) ggX1_scale_X1_empty
set_option maxRecDepth 20000 in
theorem ggX1_scale_X1_units : GoodIn wsX1_scale wsX1_units := goodIn_r _ [41, 42, 6, 7, 4, 8, 9, 10, 11, 12] (by decide +kernel) (by decide +kernel)
set_option maxRecDepth 20000 in
theorem gX1_scale_X1_units : GoodIn wsX1_scale (va_wsS RX1 94 yX1_units wsX1_units) := goodIn_app (goodIn_of _ (by decide +kernel)) ggX1_scale_X1_units
set_option maxRecDepth 20000 in
theorem ggX1_scale_X1_isNegative : GoodIn wsX1_scale wsX1_isNegative := goodIn_r _ [45] (by decide +kernel) (by decide +kernel)
set_option maxRecDepth 20000 in
theorem gX1_scale_X1_isNegative : GoodIn wsX1_scale (va_wsS RX1 84 yX1_isNegative wsX1_isNegative) := goodIn_app (goodIn_of _ (by decide +kernel)) ggX1_scale_X1_isNegative
set_option maxRecDepth 20000 in
theorem ggX1_scale_X1_put : GoodIn wsX1_scale wsX1_put := goodIn_r _ [49, 1, 37, 50, 89, 90, 91, 92, 93, 94] (by decide +kernel) (by decide +kernel)
set_option maxRecDepth 20000 in
theorem gX1_scale_X1_put : GoodIn wsX1_scale (wsV RX1 100 RX1 yX1_put wsX1_put) := goodIn_app (goodIn_of _ (by decide +kernel)) ggX1_scale_X1_put
set_option maxRecDepth 20000 in
theorem ggX1_scale_X1_settle : GoodIn wsX1_scale wsX1_settle := goodIn_r _ [54, 37, 55, 56, 57, 4, 58, 59, 89, 90, 91, 92, 93, 94] (by decide +kernel) (by decide +kernel)
set_option maxRecDepth 20000 in
theorem gX1_scale_X1_settle : GoodIn wsX1_scale (wsV RX1 104 RX1 yX1_settle wsX1_settle) := goodIn_app (goodIn_of _ (by decide +kernel)) ggX1_scale_X1_settle
set_option maxRecDepth 20000 in
theorem ggX1_scale_X1_finish : GoodIn wsX1_scale wsX1_finish := goodIn_r _ [63, 1, 64, 65, 17, 66, 67, 68, 42, 69, 70, 71, 4, 72, 73, 74, 75, 76, 37, 77, 78, 79, 80, 81, 82, 83, 84, 38, 85, 86, 87, 88, 89, 90, 91, 92, 93, 94] (by decide +kernel) (by decide +kernel)
set_option maxRecDepth 20000 in
theorem gX1_scale_X1_finish : GoodIn wsX1_scale (wsV RX1 115 RX1 yX1_finish wsX1_finish) := goodIn_app (goodIn_of _ (by decide +kernel)) ggX1_scale_X1_finish
theorem dX1_scale_0 : decode cX1_scale 0 = .ok (.iload_n 1, 1) := by decide +kernel
theorem dX1_scale_1 : decode cX1_scale 1 = .ok (.invokestatic 28, 3) := by decide +kernel
theorem dX1_scale_4 : decode cX1_scale 4 = .ok (.ifCond .eq 11, 3) := by decide +kernel
theorem dX1_scale_7 : decode cX1_scale 7 = .ok (.aload_n 0, 1) := by decide +kernel
theorem dX1_scale_8 : decode cX1_scale 8 = .ok (.iload_n 1, 1) := by decide +kernel
theorem dX1_scale_9 : decode cX1_scale 9 = .ok (.iconst 0, 1) := by decide +kernel
theorem dX1_scale_10 : decode cX1_scale 10 = .ok (.iconst 0, 1) := by decide +kernel
theorem dX1_scale_11 : decode cX1_scale 11 = .ok (.invokevirtual 77, 3) := by decide +kernel
theorem dX1_scale_14 : decode cX1_scale 14 = .ok (.ireturn, 1) := by decide +kernel
theorem dX1_scale_15 : decode cX1_scale 15 = .ok (.iload_n 1, 1) := by decide +kernel
theorem dX1_scale_16 : decode cX1_scale 16 = .ok (.invokestatic 81, 3) := by decide +kernel
theorem dX1_scale_19 : decode cX1_scale 19 = .ok (.ifCond .ne 10, 3) := by decide +kernel
theorem dX1_scale_22 : decode cX1_scale 22 = .ok (.iload_n 1, 1) := by decide +kernel
theorem dX1_scale_23 : decode cX1_scale 23 = .ok (.invokestatic 108, 3) := by decide +kernel
theorem dX1_scale_26 : decode cX1_scale 26 = .ok (.ifCond .eq 5, 3) := by decide +kernel
theorem dX1_scale_29 : decode cX1_scale 29 = .ok (.iload_n 1, 1) := by decide +kernel
theorem dX1_scale_30 : decode cX1_scale 30 = .ok (.ireturn, 1) := by decide +kernel
theorem dX1_scale_31 : decode cX1_scale 31 = .ok (.iload_n 2, 1) := by decide +kernel
theorem dX1_scale_32 : decode cX1_scale 32 = .ok (.sipush (-400), 3) := by decide +kernel
theorem dX1_scale_35 : decode cX1_scale 35 = .ok (.if_icmp .ge 9, 3) := by decide +kernel
theorem dX1_scale_38 : decode cX1_scale 38 = .ok (.sipush (-400), 3) := by decide +kernel
theorem dX1_scale_41 : decode cX1_scale 41 = .ok (.goto 17, 3) := by decide +kernel
theorem dX1_scale_44 : decode cX1_scale 44 = .ok (.iload_n 2, 1) := by decide +kernel
theorem dX1_scale_45 : decode cX1_scale 45 = .ok (.sipush 400, 3) := by decide +kernel
theorem dX1_scale_48 : decode cX1_scale 48 = .ok (.if_icmp .le 9, 3) := by decide +kernel
theorem dX1_scale_51 : decode cX1_scale 51 = .ok (.sipush 400, 3) := by decide +kernel
theorem dX1_scale_54 : decode cX1_scale 54 = .ok (.goto 4, 3) := by decide +kernel
theorem dX1_scale_57 : decode cX1_scale 57 = .ok (.iload_n 2, 1) := by decide +kernel
theorem dX1_scale_58 : decode cX1_scale 58 = .ok (.istore_n 3, 1) := by decide +kernel
theorem dX1_scale_59 : decode cX1_scale 59 = .ok (.aload_n 0, 1) := by decide +kernel
theorem dX1_scale_60 : decode cX1_scale 60 = .ok (.iload_n 1, 1) := by decide +kernel
theorem dX1_scale_61 : decode cX1_scale 61 = .ok (.invokestatic 97, 3) := by decide +kernel
theorem dX1_scale_64 : decode cX1_scale 64 = .ok (.iload_n 3, 1) := by decide +kernel
theorem dX1_scale_65 : decode cX1_scale 65 = .ok (.iadd, 1) := by decide +kernel
theorem dX1_scale_66 : decode cX1_scale 66 = .ok (.invokevirtual 90, 3) := by decide +kernel
theorem dX1_scale_69 : decode cX1_scale 69 = .ok (.aload_n 0, 1) := by decide +kernel
theorem dX1_scale_70 : decode cX1_scale 70 = .ok (.iload_n 1, 1) := by decide +kernel
theorem dX1_scale_71 : decode cX1_scale 71 = .ok (.invokestatic 94, 3) := by decide +kernel
theorem dX1_scale_74 : decode cX1_scale 74 = .ok (.i2l, 1) := by decide +kernel
theorem dX1_scale_75 : decode cX1_scale 75 = .ok (.aload_n 0, 1) := by decide +kernel
theorem dX1_scale_76 : decode cX1_scale 76 = .ok (.getfield 40, 3) := by decide +kernel
theorem dX1_scale_79 : decode cX1_scale 79 = .ok (.iload_n 1, 1) := by decide +kernel
theorem dX1_scale_80 : decode cX1_scale 80 = .ok (.invokestatic 84, 3) := by decide +kernel
theorem dX1_scale_83 : decode cX1_scale 83 = .ok (.invokevirtual 100, 3) := by decide +kernel
theorem dX1_scale_86 : decode cX1_scale 86 = .ok (.aload_n 0, 1) := by decide +kernel
theorem dX1_scale_87 : decode cX1_scale 87 = .ok (.invokevirtual 104, 3) := by decide +kernel
theorem dX1_scale_90 : decode cX1_scale 90 = .ok (.istore 4, 2) := by decide +kernel
theorem dX1_scale_92 : decode cX1_scale 92 = .ok (.aload_n 0, 1) := by decide +kernel
theorem dX1_scale_93 : decode cX1_scale 93 = .ok (.iload 4, 2) := by decide +kernel
theorem dX1_scale_95 : decode cX1_scale 95 = .ok (.invokevirtual 115, 3) := by decide +kernel
theorem dX1_scale_98 : decode cX1_scale 98 = .ok (.ireturn, 1) := by decide +kernel
set_option maxRecDepth 20000 in
theorem ggX1_nearest_X1_place : GoodIn wsX1_nearest wsX1_place := goodIn_r _ [5, 6, 7, 4, 8] (by decide +kernel) (by decide +kernel)
set_option maxRecDepth 20000 in
theorem gX1_nearest_X1_place : GoodIn wsX1_nearest (va_wsS RX1 97 yX1_place wsX1_place) := goodIn_app (goodIn_of _ (by decide +kernel)) ggX1_nearest_X1_place
set_option maxRecDepth 20000 in
theorem ggX1_nearest_X1_units : GoodIn wsX1_nearest wsX1_units := goodIn_r _ [11, 12, 6, 7, 4, 8, 13, 14, 15, 16] (by decide +kernel) (by decide +kernel)
set_option maxRecDepth 20000 in
theorem gX1_nearest_X1_units : GoodIn wsX1_nearest (va_wsS RX1 94 yX1_units wsX1_units) := goodIn_app (goodIn_of _ (by decide +kernel)) ggX1_nearest_X1_units
set_option maxRecDepth 20000 in
theorem ggX1_nearest_X1_empty : GoodIn wsX1_nearest wsX1_empty := goodIn_r _ [20, 21, 22, 23, 45, 46, 47, 48, 49, 50] (by decide +kernel) (by decide +kernel)
set_option maxRecDepth 20000 in
theorem gX1_nearest_X1_empty : GoodIn wsX1_nearest (wsV RX1 90 RX1 yX1_empty wsX1_empty) := goodIn_app (goodIn_of _ (by decide +kernel)) ggX1_nearest_X1_empty
set_option maxRecDepth 20000 in
theorem ggX1_nearest_X1_put : GoodIn wsX1_nearest wsX1_put := goodIn_r _ [27, 22, 21, 28, 45, 46, 47, 48, 49, 50] (by decide +kernel) (by decide +kernel)
set_option maxRecDepth 20000 in
theorem gX1_nearest_X1_put : GoodIn wsX1_nearest (wsV RX1 100 RX1 yX1_put wsX1_put) := goodIn_app (goodIn_of _ (by decide +kernel)) ggX1_nearest_X1_put
set_option maxRecDepth 20000 in
theorem ggX1_nearest_X1_isNegative : GoodIn wsX1_nearest wsX1_isNegative := goodIn_r _ [31] (by decide +kernel) (by decide +kernel)
set_option maxRecDepth 20000 in
theorem gX1_nearest_X1_isNegative : GoodIn wsX1_nearest (va_wsS RX1 84 yX1_isNegative wsX1_isNegative) := goodIn_app (goodIn_of _ (by decide +kernel)) ggX1_nearest_X1_isNegative
set_option maxRecDepth 20000 in
theorem ggX1_nearest_X1_rounded : GoodIn wsX1_nearest wsX1_rounded := goodIn_r _ [35, 1, 36, 37, 38, 39, 4, 40, 21, 41, 42, 43, 44, 23, 45, 46, 47, 48, 49, 50] (by decide +kernel) (by decide +kernel)
set_option maxRecDepth 20000 in
theorem gX1_nearest_X1_rounded : GoodIn wsX1_nearest (wsV RX1 67 RX1 yX1_rounded wsX1_rounded) := goodIn_app (goodIn_of _ (by decide +kernel)) ggX1_nearest_X1_rounded
theorem dX1_nearest_0 : decode cX1_nearest 0 = .ok (.iload_n 1, 1) := by decide +kernel
theorem dX1_nearest_1 : decode cX1_nearest 1 = .ok (.invokestatic 97, 3) := by decide +kernel
theorem dX1_nearest_4 : decode cX1_nearest 4 = .ok (.istore_n 2, 1) := by decide +kernel
theorem dX1_nearest_5 : decode cX1_nearest 5 = .ok (.iload_n 2, 1) := by decide +kernel
theorem dX1_nearest_6 : decode cX1_nearest 6 = .ok (.ifCond .lt 27, 3) := by decide +kernel
theorem dX1_nearest_9 : decode cX1_nearest 9 = .ok (.aload_n 0, 1) := by decide +kernel
theorem dX1_nearest_10 : decode cX1_nearest 10 = .ok (.iconst 1, 1) := by decide +kernel
theorem dX1_nearest_11 : decode cX1_nearest 11 = .ok (.putfield 60, 3) := by decide +kernel
theorem dX1_nearest_14 : decode cX1_nearest 14 = .ok (.iload_n 1, 1) := by decide +kernel
theorem dX1_nearest_15 : decode cX1_nearest 15 = .ok (.invokestatic 94, 3) := by decide +kernel
theorem dX1_nearest_18 : decode cX1_nearest 18 = .ok (.i2l, 1) := by decide +kernel
theorem dX1_nearest_19 : decode cX1_nearest 19 = .ok (.iload_n 2, 1) := by decide +kernel
theorem dX1_nearest_20 : decode cX1_nearest 20 = .ok (.bipush 16, 2) := by decide +kernel
theorem dX1_nearest_22 : decode cX1_nearest 22 = .ok (.if_icmp .ge 7, 3) := by decide +kernel
theorem dX1_nearest_25 : decode cX1_nearest 25 = .ok (.iload_n 2, 1) := by decide +kernel
theorem dX1_nearest_26 : decode cX1_nearest 26 = .ok (.goto 5, 3) := by decide +kernel
theorem dX1_nearest_29 : decode cX1_nearest 29 = .ok (.bipush 16, 2) := by decide +kernel
theorem dX1_nearest_31 : decode cX1_nearest 31 = .ok (.lshl, 1) := by decide +kernel
theorem dX1_nearest_32 : decode cX1_nearest 32 = .ok (.lreturn, 1) := by decide +kernel
theorem dX1_nearest_33 : decode cX1_nearest 33 = .ok (.aload_n 0, 1) := by decide +kernel
theorem dX1_nearest_34 : decode cX1_nearest 34 = .ok (.iload_n 2, 1) := by decide +kernel
theorem dX1_nearest_35 : decode cX1_nearest 35 = .ok (.invokevirtual 90, 3) := by decide +kernel
theorem dX1_nearest_38 : decode cX1_nearest 38 = .ok (.aload_n 0, 1) := by decide +kernel
theorem dX1_nearest_39 : decode cX1_nearest 39 = .ok (.iload_n 1, 1) := by decide +kernel
theorem dX1_nearest_40 : decode cX1_nearest 40 = .ok (.invokestatic 94, 3) := by decide +kernel
theorem dX1_nearest_43 : decode cX1_nearest 43 = .ok (.i2l, 1) := by decide +kernel
theorem dX1_nearest_44 : decode cX1_nearest 44 = .ok (.iload_n 2, 1) := by decide +kernel
theorem dX1_nearest_45 : decode cX1_nearest 45 = .ok (.iconst 0, 1) := by decide +kernel
theorem dX1_nearest_46 : decode cX1_nearest 46 = .ok (.invokevirtual 100, 3) := by decide +kernel
theorem dX1_nearest_49 : decode cX1_nearest 49 = .ok (.aload_n 0, 1) := by decide +kernel
theorem dX1_nearest_50 : decode cX1_nearest 50 = .ok (.iload_n 2, 1) := by decide +kernel
theorem dX1_nearest_51 : decode cX1_nearest 51 = .ok (.ineg, 1) := by decide +kernel
theorem dX1_nearest_52 : decode cX1_nearest 52 = .ok (.iload_n 1, 1) := by decide +kernel
theorem dX1_nearest_53 : decode cX1_nearest 53 = .ok (.invokestatic 84, 3) := by decide +kernel
theorem dX1_nearest_56 : decode cX1_nearest 56 = .ok (.invokevirtual 67, 3) := by decide +kernel
theorem dX1_nearest_59 : decode cX1_nearest 59 = .ok (.i2l, 1) := by decide +kernel
theorem dX1_nearest_60 : decode cX1_nearest 60 = .ok (.lreturn, 1) := by decide +kernel
set_option maxRecDepth 20000 in
theorem ggX1_whole_X1_isNone : GoodIn wsX1_whole wsX1_isNone := goodIn_r _ [6, 7, 8, 5, 9, 10, 11, 12, 13] (by decide +kernel) (by decide +kernel)
set_option maxRecDepth 20000 in
theorem gX1_whole_X1_isNone : GoodIn wsX1_whole (va_wsS RX1 28 yX1_isNone wsX1_isNone) := goodIn_app (goodIn_of _ (by decide +kernel)) ggX1_whole_X1_isNone
set_option maxRecDepth 20000 in
theorem ggX1_whole_X1_none : GoodIn wsX1_whole wsX1_none := goodIn_r _ [17, 2, 18, 19, 20, 5, 21, 22, 3, 4, 6, 7, 8, 9, 10, 11, 12, 13, 93, 94, 95, 96, 97, 98] (by decide +kernel) (by decide +kernel)
set_option maxRecDepth 20000 in
theorem gX1_whole_X1_none : GoodIn wsX1_whole (wsV RX1 77 RX1 yX1_none wsX1_none) := goodIn_app (goodIn_of _ (by decide +kernel)) ggX1_whole_X1_none
set_option maxRecDepth 20000 in
theorem ggX1_whole_X1_isInfinite : GoodIn wsX1_whole wsX1_isInfinite := goodIn_r _ [25, 7, 8, 5, 9, 10, 11, 12, 13] (by decide +kernel) (by decide +kernel)
set_option maxRecDepth 20000 in
theorem gX1_whole_X1_isInfinite : GoodIn wsX1_whole (va_wsS RX1 81 yX1_isInfinite wsX1_isInfinite) := goodIn_app (goodIn_of _ (by decide +kernel)) ggX1_whole_X1_isInfinite
set_option maxRecDepth 20000 in
theorem ggX1_whole_X1_isZero : GoodIn wsX1_whole wsX1_isZero := goodIn_r _ [28, 29] (by decide +kernel) (by decide +kernel)
set_option maxRecDepth 20000 in
theorem gX1_whole_X1_isZero : GoodIn wsX1_whole (va_wsS RX1 108 yX1_isZero wsX1_isZero) := goodIn_app (goodIn_of _ (by decide +kernel)) ggX1_whole_X1_isZero
set_option maxRecDepth 20000 in
theorem ggX1_whole_X1_place : GoodIn wsX1_whole wsX1_place := goodIn_r _ [32, 7, 8, 5, 9] (by decide +kernel) (by decide +kernel)
set_option maxRecDepth 20000 in
theorem gX1_whole_X1_place : GoodIn wsX1_whole (va_wsS RX1 97 yX1_place wsX1_place) := goodIn_app (goodIn_of _ (by decide +kernel)) ggX1_whole_X1_place
set_option maxRecDepth 20000 in
theorem ggX1_whole_X1_nearest : GoodIn wsX1_whole wsX1_nearest := goodIn_r _ [36, 1, 30, 31, 5, 32, 7, 8, 9, 37, 38, 39, 40, 10, 11, 12, 13, 41, 42, 43, 44, 45, 46, 47, 48, 49, 50, 51, 52, 53, 54, 55, 56, 57, 58, 59, 60, 61, 62, 63, 64, 65, 66, 67, 68, 93, 94, 95, 96, 97, 98] (by decide +kernel) (by decide +kernel)
set_option maxRecDepth 20000 in
theorem gX1_whole_X1_nearest : GoodIn wsX1_whole (wsV RX1 128 RX1 yX1_nearest wsX1_nearest) := goodIn_app (goodIn_of _ (by decide +kernel)) ggX1_whole_X1_nearest
set_option maxRecDepth 20000 in
theorem ggX1_whole_X1_isNegative : GoodIn wsX1_whole wsX1_isNegative := goodIn_r _ [55] (by decide +kernel) (by decide +kernel)
set_option maxRecDepth 20000 in
theorem gX1_whole_X1_isNegative : GoodIn wsX1_whole (va_wsS RX1 84 yX1_isNegative wsX1_isNegative) := goodIn_app (goodIn_of _ (by decide +kernel)) ggX1_whole_X1_isNegative
set_option maxRecDepth 20000 in
theorem ggX1_whole_X1_signed : GoodIn wsX1_whole wsX1_signed := goodIn_r _ [71, 72] (by decide +kernel) (by decide +kernel)
set_option maxRecDepth 20000 in
theorem gX1_whole_X1_signed : GoodIn wsX1_whole (va_wsS RX1 74 yX1_signed wsX1_signed) := goodIn_app (goodIn_of _ (by decide +kernel)) ggX1_whole_X1_signed
set_option maxRecDepth 20000 in
theorem ggX1_whole_X1_empty : GoodIn wsX1_whole wsX1_empty := goodIn_r _ [44, 45, 46, 47, 93, 94, 95, 96, 97, 98] (by decide +kernel) (by decide +kernel)
set_option maxRecDepth 20000 in
theorem gX1_whole_X1_empty : GoodIn wsX1_whole (wsV RX1 90 RX1 yX1_empty wsX1_empty) := goodIn_app (goodIn_of _ (by decide +kernel)) ggX1_whole_X1_empty
set_option maxRecDepth 20000 in
theorem ggX1_whole_X1_put : GoodIn wsX1_whole wsX1_put := goodIn_r _ [51, 46, 45, 52, 93, 94, 95, 96, 97, 98] (by decide +kernel) (by decide +kernel)
set_option maxRecDepth 20000 in
theorem gX1_whole_X1_put : GoodIn wsX1_whole (wsV RX1 100 RX1 yX1_put wsX1_put) := goodIn_app (goodIn_of _ (by decide +kernel)) ggX1_whole_X1_put
set_option maxRecDepth 20000 in
theorem ggX1_whole_X1_settle : GoodIn wsX1_whole wsX1_settle := goodIn_r _ [76, 45, 77, 78, 79, 5, 80, 81, 93, 94, 95, 96, 97, 98] (by decide +kernel) (by decide +kernel)
set_option maxRecDepth 20000 in
theorem gX1_whole_X1_settle : GoodIn wsX1_whole (wsV RX1 104 RX1 yX1_settle wsX1_settle) := goodIn_app (goodIn_of _ (by decide +kernel)) ggX1_whole_X1_settle
set_option maxRecDepth 20000 in
theorem ggX1_whole_X1_finish : GoodIn wsX1_whole wsX1_finish := goodIn_r _ [85, 46, 86, 1, 2, 60, 87, 88, 40, 89, 90, 91, 5, 92, 61, 62, 63, 64, 45, 56, 57, 58, 59, 65, 66, 67, 68, 47, 69, 70, 71, 72, 93, 94, 95, 96, 97, 98] (by decide +kernel) (by decide +kernel)
set_option maxRecDepth 20000 in
theorem gX1_whole_X1_finish : GoodIn wsX1_whole (wsV RX1 115 RX1 yX1_finish wsX1_finish) := goodIn_app (goodIn_of _ (by decide +kernel)) ggX1_whole_X1_finish
theorem dX1_whole_0 : decode cX1_whole 0 = .ok (.iload_n 1, 1) := by decide +kernel
theorem dX1_whole_1 : decode cX1_whole 1 = .ok (.invokestatic 28, 3) := by decide +kernel
theorem dX1_whole_4 : decode cX1_whole 4 = .ok (.ifCond .eq 11, 3) := by decide +kernel
theorem dX1_whole_7 : decode cX1_whole 7 = .ok (.aload_n 0, 1) := by decide +kernel
theorem dX1_whole_8 : decode cX1_whole 8 = .ok (.iload_n 1, 1) := by decide +kernel
theorem dX1_whole_9 : decode cX1_whole 9 = .ok (.iconst 0, 1) := by decide +kernel
theorem dX1_whole_10 : decode cX1_whole 10 = .ok (.iconst 0, 1) := by decide +kernel
theorem dX1_whole_11 : decode cX1_whole 11 = .ok (.invokevirtual 77, 3) := by decide +kernel
theorem dX1_whole_14 : decode cX1_whole 14 = .ok (.ireturn, 1) := by decide +kernel
theorem dX1_whole_15 : decode cX1_whole 15 = .ok (.iload_n 1, 1) := by decide +kernel
theorem dX1_whole_16 : decode cX1_whole 16 = .ok (.invokestatic 81, 3) := by decide +kernel
theorem dX1_whole_19 : decode cX1_whole 19 = .ok (.ifCond .ne 17, 3) := by decide +kernel
theorem dX1_whole_22 : decode cX1_whole 22 = .ok (.iload_n 1, 1) := by decide +kernel
theorem dX1_whole_23 : decode cX1_whole 23 = .ok (.invokestatic 108, 3) := by decide +kernel
theorem dX1_whole_26 : decode cX1_whole 26 = .ok (.ifCond .ne 10, 3) := by decide +kernel
theorem dX1_whole_29 : decode cX1_whole 29 = .ok (.iload_n 1, 1) := by decide +kernel
theorem dX1_whole_30 : decode cX1_whole 30 = .ok (.invokestatic 97, 3) := by decide +kernel
theorem dX1_whole_33 : decode cX1_whole 33 = .ok (.ifCond .lt 5, 3) := by decide +kernel
theorem dX1_whole_36 : decode cX1_whole 36 = .ok (.iload_n 1, 1) := by decide +kernel
theorem dX1_whole_37 : decode cX1_whole 37 = .ok (.ireturn, 1) := by decide +kernel
theorem dX1_whole_38 : decode cX1_whole 38 = .ok (.aload_n 0, 1) := by decide +kernel
theorem dX1_whole_39 : decode cX1_whole 39 = .ok (.iload_n 1, 1) := by decide +kernel
theorem dX1_whole_40 : decode cX1_whole 40 = .ok (.invokevirtual 128, 3) := by decide +kernel
theorem dX1_whole_43 : decode cX1_whole 43 = .ok (.lstore_n 2, 1) := by decide +kernel
theorem dX1_whole_44 : decode cX1_whole 44 = .ok (.aload_n 0, 1) := by decide +kernel
theorem dX1_whole_45 : decode cX1_whole 45 = .ok (.getfield 60, 3) := by decide +kernel
theorem dX1_whole_48 : decode cX1_whole 48 = .ok (.ifCond .ne 13, 3) := by decide +kernel
theorem dX1_whole_51 : decode cX1_whole 51 = .ok (.aload_n 0, 1) := by decide +kernel
theorem dX1_whole_52 : decode cX1_whole 52 = .ok (.aload_n 0, 1) := by decide +kernel
theorem dX1_whole_53 : decode cX1_whole 53 = .ok (.getfield 17, 3) := by decide +kernel
theorem dX1_whole_56 : decode cX1_whole 56 = .ok (.iconst 1, 1) := by decide +kernel
theorem dX1_whole_57 : decode cX1_whole 57 = .ok (.ior, 1) := by decide +kernel
theorem dX1_whole_58 : decode cX1_whole 58 = .ok (.putfield 17, 3) := by decide +kernel
theorem dX1_whole_61 : decode cX1_whole 61 = .ok (.lload_n 2, 1) := by decide +kernel
theorem dX1_whole_62 : decode cX1_whole 62 = .ok (.lconst 0, 1) := by decide +kernel
theorem dX1_whole_63 : decode cX1_whole 63 = .ok (.lcmp, 1) := by decide +kernel
theorem dX1_whole_64 : decode cX1_whole 64 = .ok (.ifCond .ne 12, 3) := by decide +kernel
theorem dX1_whole_67 : decode cX1_whole 67 = .ok (.iconst 0, 1) := by decide +kernel
theorem dX1_whole_68 : decode cX1_whole 68 = .ok (.iload_n 1, 1) := by decide +kernel
theorem dX1_whole_69 : decode cX1_whole 69 = .ok (.invokestatic 84, 3) := by decide +kernel
theorem dX1_whole_72 : decode cX1_whole 72 = .ok (.invokestatic 74, 3) := by decide +kernel
theorem dX1_whole_75 : decode cX1_whole 75 = .ok (.ireturn, 1) := by decide +kernel
theorem dX1_whole_76 : decode cX1_whole 76 = .ok (.aload_n 0, 1) := by decide +kernel
theorem dX1_whole_77 : decode cX1_whole 77 = .ok (.iconst 0, 1) := by decide +kernel
theorem dX1_whole_78 : decode cX1_whole 78 = .ok (.invokevirtual 90, 3) := by decide +kernel
theorem dX1_whole_81 : decode cX1_whole 81 = .ok (.aload_n 0, 1) := by decide +kernel
theorem dX1_whole_82 : decode cX1_whole 82 = .ok (.lload_n 2, 1) := by decide +kernel
theorem dX1_whole_83 : decode cX1_whole 83 = .ok (.iconst 0, 1) := by decide +kernel
theorem dX1_whole_84 : decode cX1_whole 84 = .ok (.iconst 0, 1) := by decide +kernel
theorem dX1_whole_85 : decode cX1_whole 85 = .ok (.invokevirtual 100, 3) := by decide +kernel
theorem dX1_whole_88 : decode cX1_whole 88 = .ok (.aload_n 0, 1) := by decide +kernel
theorem dX1_whole_89 : decode cX1_whole 89 = .ok (.invokevirtual 104, 3) := by decide +kernel
theorem dX1_whole_92 : decode cX1_whole 92 = .ok (.istore 4, 2) := by decide +kernel
theorem dX1_whole_94 : decode cX1_whole 94 = .ok (.aload_n 0, 1) := by decide +kernel
theorem dX1_whole_95 : decode cX1_whole 95 = .ok (.iload_n 1, 1) := by decide +kernel
theorem dX1_whole_96 : decode cX1_whole 96 = .ok (.invokestatic 84, 3) := by decide +kernel
theorem dX1_whole_99 : decode cX1_whole 99 = .ok (.iload 4, 2) := by decide +kernel
theorem dX1_whole_101 : decode cX1_whole 101 = .ok (.if_icmp .eq 7, 3) := by decide +kernel
theorem dX1_whole_104 : decode cX1_whole 104 = .ok (.iconst 1, 1) := by decide +kernel
theorem dX1_whole_105 : decode cX1_whole 105 = .ok (.goto 4, 3) := by decide +kernel
theorem dX1_whole_108 : decode cX1_whole 108 = .ok (.iconst 0, 1) := by decide +kernel
theorem dX1_whole_109 : decode cX1_whole 109 = .ok (.invokevirtual 115, 3) := by decide +kernel
theorem dX1_whole_112 : decode cX1_whole 112 = .ok (.ireturn, 1) := by decide +kernel
set_option maxRecDepth 20000 in
theorem ggX1_toInt_X1_exponent : GoodIn wsX1_toInt wsX1_exponent := goodIn_r _ [9] (by decide +kernel) (by decide +kernel)
set_option maxRecDepth 20000 in
theorem gX1_toInt_X1_exponent : GoodIn wsX1_toInt (va_wsS RX1 21 yX1_exponent wsX1_exponent) := goodIn_app (goodIn_of _ (by decide +kernel)) ggX1_toInt_X1_exponent
set_option maxRecDepth 20000 in
theorem ggX1_toInt_X1_nearest : GoodIn wsX1_toInt wsX1_nearest := goodIn_r _ [13, 5, 14, 15, 8, 16, 6, 7, 9, 17, 18, 19, 20, 21, 22, 23, 24, 25, 26, 27, 28, 29, 30, 31, 32, 33, 34, 35, 36, 37, 38, 39, 40, 41, 42, 43, 44, 45, 46, 47, 48, 49, 50, 51, 52, 53, 54, 55, 56, 57, 58] (by decide +kernel) (by decide +kernel)
set_option maxRecDepth 20000 in
theorem gX1_toInt_X1_nearest : GoodIn wsX1_toInt (wsV RX1 128 RX1 yX1_nearest wsX1_nearest) := goodIn_app (goodIn_of _ (by decide +kernel)) ggX1_toInt_X1_nearest
set_option maxRecDepth 20000 in
theorem ggX1_toInt_X1_isNegative : GoodIn wsX1_toInt wsX1_isNegative := goodIn_r _ [39] (by decide +kernel) (by decide +kernel)
set_option maxRecDepth 20000 in
theorem gX1_toInt_X1_isNegative : GoodIn wsX1_toInt (va_wsS RX1 84 yX1_isNegative wsX1_isNegative) := goodIn_app (goodIn_of _ (by decide +kernel)) ggX1_toInt_X1_isNegative
theorem dX1_toInt_0 : decode cX1_toInt 0 = .ok (.iload_n 1, 1) := by decide +kernel
theorem dX1_toInt_1 : decode cX1_toInt 1 = .ok (.invokestatic 21, 3) := by decide +kernel
theorem dX1_toInt_4 : decode cX1_toInt 4 = .ok (.sipush 166, 3) := by decide +kernel
theorem dX1_toInt_7 : decode cX1_toInt 7 = .ok (.if_icmp .ge 7, 3) := by decide +kernel
theorem dX1_toInt_10 : decode cX1_toInt 10 = .ok (.iconst 1, 1) := by decide +kernel
theorem dX1_toInt_11 : decode cX1_toInt 11 = .ok (.goto 4, 3) := by decide +kernel
theorem dX1_toInt_14 : decode cX1_toInt 14 = .ok (.iconst 0, 1) := by decide +kernel
theorem dX1_toInt_15 : decode cX1_toInt 15 = .ok (.istore_n 2, 1) := by decide +kernel
theorem dX1_toInt_16 : decode cX1_toInt 16 = .ok (.iload_n 2, 1) := by decide +kernel
theorem dX1_toInt_17 : decode cX1_toInt 17 = .ok (.ifCond .eq 11, 3) := by decide +kernel
theorem dX1_toInt_20 : decode cX1_toInt 20 = .ok (.aload_n 0, 1) := by decide +kernel
theorem dX1_toInt_21 : decode cX1_toInt 21 = .ok (.iload_n 1, 1) := by decide +kernel
theorem dX1_toInt_22 : decode cX1_toInt 22 = .ok (.invokevirtual 128, 3) := by decide +kernel
theorem dX1_toInt_25 : decode cX1_toInt 25 = .ok (.goto 4, 3) := by decide +kernel
theorem dX1_toInt_28 : decode cX1_toInt 28 = .ok (.lconst 0, 1) := by decide +kernel
theorem dX1_toInt_29 : decode cX1_toInt 29 = .ok (.lstore_n 3, 1) := by decide +kernel
theorem dX1_toInt_30 : decode cX1_toInt 30 = .ok (.iload_n 2, 1) := by decide +kernel
theorem dX1_toInt_31 : decode cX1_toInt 31 = .ok (.ifCond .eq 33, 3) := by decide +kernel
theorem dX1_toInt_34 : decode cX1_toInt 34 = .ok (.iload_n 1, 1) := by decide +kernel
theorem dX1_toInt_35 : decode cX1_toInt 35 = .ok (.invokestatic 84, 3) := by decide +kernel
theorem dX1_toInt_38 : decode cX1_toInt 38 = .ok (.ifCond .eq 14, 3) := by decide +kernel
theorem dX1_toInt_41 : decode cX1_toInt 41 = .ok (.lload_n 3, 1) := by decide +kernel
theorem dX1_toInt_42 : decode cX1_toInt 42 = .ok (.ldc2_w 132, 3) := by decide +kernel
theorem dX1_toInt_45 : decode cX1_toInt 45 = .ok (.lcmp, 1) := by decide +kernel
theorem dX1_toInt_46 : decode cX1_toInt 46 = .ok (.ifCond .gt 18, 3) := by decide +kernel
theorem dX1_toInt_49 : decode cX1_toInt 49 = .ok (.goto 11, 3) := by decide +kernel
theorem dX1_toInt_52 : decode cX1_toInt 52 = .ok (.lload_n 3, 1) := by decide +kernel
theorem dX1_toInt_53 : decode cX1_toInt 53 = .ok (.ldc2_w 134, 3) := by decide +kernel
theorem dX1_toInt_56 : decode cX1_toInt 56 = .ok (.lcmp, 1) := by decide +kernel
theorem dX1_toInt_57 : decode cX1_toInt 57 = .ok (.ifCond .gt 7, 3) := by decide +kernel
theorem dX1_toInt_60 : decode cX1_toInt 60 = .ok (.iconst 1, 1) := by decide +kernel
theorem dX1_toInt_61 : decode cX1_toInt 61 = .ok (.goto 4, 3) := by decide +kernel
theorem dX1_toInt_64 : decode cX1_toInt 64 = .ok (.iconst 0, 1) := by decide +kernel
theorem dX1_toInt_65 : decode cX1_toInt 65 = .ok (.istore 5, 2) := by decide +kernel
theorem dX1_toInt_67 : decode cX1_toInt 67 = .ok (.iload 5, 2) := by decide +kernel
theorem dX1_toInt_69 : decode cX1_toInt 69 = .ok (.ifCond .ne 17, 3) := by decide +kernel
theorem dX1_toInt_72 : decode cX1_toInt 72 = .ok (.aload_n 0, 1) := by decide +kernel
theorem dX1_toInt_73 : decode cX1_toInt 73 = .ok (.aload_n 0, 1) := by decide +kernel
theorem dX1_toInt_74 : decode cX1_toInt 74 = .ok (.getfield 17, 3) := by decide +kernel
theorem dX1_toInt_77 : decode cX1_toInt 77 = .ok (.bipush 16, 2) := by decide +kernel
theorem dX1_toInt_79 : decode cX1_toInt 79 = .ok (.ior, 1) := by decide +kernel
theorem dX1_toInt_80 : decode cX1_toInt 80 = .ok (.putfield 17, 3) := by decide +kernel
theorem dX1_toInt_83 : decode cX1_toInt 83 = .ok (.ldc 34, 2) := by decide +kernel
theorem dX1_toInt_85 : decode cX1_toInt 85 = .ok (.ireturn, 1) := by decide +kernel
theorem dX1_toInt_86 : decode cX1_toInt 86 = .ok (.aload_n 0, 1) := by decide +kernel
theorem dX1_toInt_87 : decode cX1_toInt 87 = .ok (.getfield 60, 3) := by decide +kernel
theorem dX1_toInt_90 : decode cX1_toInt 90 = .ok (.ifCond .ne 13, 3) := by decide +kernel
theorem dX1_toInt_93 : decode cX1_toInt 93 = .ok (.aload_n 0, 1) := by decide +kernel
theorem dX1_toInt_94 : decode cX1_toInt 94 = .ok (.aload_n 0, 1) := by decide +kernel
theorem dX1_toInt_95 : decode cX1_toInt 95 = .ok (.getfield 17, 3) := by decide +kernel
theorem dX1_toInt_98 : decode cX1_toInt 98 = .ok (.iconst 1, 1) := by decide +kernel
theorem dX1_toInt_99 : decode cX1_toInt 99 = .ok (.ior, 1) := by decide +kernel
theorem dX1_toInt_100 : decode cX1_toInt 100 = .ok (.putfield 17, 3) := by decide +kernel
theorem dX1_toInt_103 : decode cX1_toInt 103 = .ok (.iload_n 1, 1) := by decide +kernel
theorem dX1_toInt_104 : decode cX1_toInt 104 = .ok (.invokestatic 84, 3) := by decide +kernel
theorem dX1_toInt_107 : decode cX1_toInt 107 = .ok (.ifCond .eq 8, 3) := by decide +kernel
theorem dX1_toInt_110 : decode cX1_toInt 110 = .ok (.lload_n 3, 1) := by decide +kernel
theorem dX1_toInt_111 : decode cX1_toInt 111 = .ok (.lneg, 1) := by decide +kernel
theorem dX1_toInt_112 : decode cX1_toInt 112 = .ok (.goto 4, 3) := by decide +kernel
theorem dX1_toInt_115 : decode cX1_toInt 115 = .ok (.lload_n 3, 1) := by decide +kernel
theorem dX1_toInt_116 : decode cX1_toInt 116 = .ok (.l2i, 1) := by decide +kernel
theorem dX1_toInt_117 : decode cX1_toInt 117 = .ok (.ireturn, 1) := by decide +kernel
set_option maxRecDepth 20000 in
theorem ggX1_fromInt_X1_empty : GoodIn wsX1_fromInt wsX1_empty := goodIn_r _ [5, 6, 7, 8, 54, 55, 56, 57, 58, 59] (by decide +kernel) (by decide +kernel)
set_option maxRecDepth 20000 in
theorem gX1_fromInt_X1_empty : GoodIn wsX1_fromInt (wsV RX1 90 RX1 yX1_empty wsX1_empty) := goodIn_app (goodIn_of _ (by decide +kernel)) ggX1_fromInt_X1_empty
set_option maxRecDepth 20000 in
theorem ggX1_fromInt_X1_put : GoodIn wsX1_fromInt wsX1_put := goodIn_r _ [12, 7, 6, 13, 54, 55, 56, 57, 58, 59] (by decide +kernel) (by decide +kernel)
set_option maxRecDepth 20000 in
theorem gX1_fromInt_X1_put : GoodIn wsX1_fromInt (wsV RX1 100 RX1 yX1_put wsX1_put) := goodIn_app (goodIn_of _ (by decide +kernel)) ggX1_fromInt_X1_put
set_option maxRecDepth 20000 in
theorem ggX1_fromInt_X1_settle : GoodIn wsX1_fromInt wsX1_settle := goodIn_r _ [17, 6, 18, 19, 20, 4, 21, 22, 54, 55, 56, 57, 58, 59] (by decide +kernel) (by decide +kernel)
set_option maxRecDepth 20000 in
theorem gX1_fromInt_X1_settle : GoodIn wsX1_fromInt (wsV RX1 104 RX1 yX1_settle wsX1_settle) := goodIn_app (goodIn_of _ (by decide +kernel)) ggX1_fromInt_X1_settle
set_option maxRecDepth 20000 in
theorem ggX1_fromInt_X1_finish : GoodIn wsX1_fromInt wsX1_finish := goodIn_r _ [26, 7, 27, 28, 29, 30, 31, 32, 33, 34, 35, 36, 4, 37, 38, 39, 40, 41, 6, 42, 43, 44, 45, 46, 47, 48, 49, 8, 50, 51, 52, 53, 54, 55, 56, 57, 58, 59] (by decide +kernel) (by decide +kernel)
set_option maxRecDepth 20000 in
theorem gX1_fromInt_X1_finish : GoodIn wsX1_fromInt (wsV RX1 115 RX1 yX1_finish wsX1_finish) := goodIn_app (goodIn_of _ (by decide +kernel)) ggX1_fromInt_X1_finish
theorem dX1_fromInt_0 : decode cX1_fromInt 0 = .ok (.iload_n 1, 1) := by decide +kernel
theorem dX1_fromInt_1 : decode cX1_fromInt 1 = .ok (.ifCond .ne 5, 3) := by decide +kernel
theorem dX1_fromInt_4 : decode cX1_fromInt 4 = .ok (.iconst 0, 1) := by decide +kernel
theorem dX1_fromInt_5 : decode cX1_fromInt 5 = .ok (.ireturn, 1) := by decide +kernel
theorem dX1_fromInt_6 : decode cX1_fromInt 6 = .ok (.aload_n 0, 1) := by decide +kernel
theorem dX1_fromInt_7 : decode cX1_fromInt 7 = .ok (.iconst 0, 1) := by decide +kernel
theorem dX1_fromInt_8 : decode cX1_fromInt 8 = .ok (.invokevirtual 90, 3) := by decide +kernel
theorem dX1_fromInt_11 : decode cX1_fromInt 11 = .ok (.aload_n 0, 1) := by decide +kernel
theorem dX1_fromInt_12 : decode cX1_fromInt 12 = .ok (.iload_n 1, 1) := by decide +kernel
theorem dX1_fromInt_13 : decode cX1_fromInt 13 = .ok (.ifCond .ge 9, 3) := by decide +kernel
theorem dX1_fromInt_16 : decode cX1_fromInt 16 = .ok (.iload_n 1, 1) := by decide +kernel
theorem dX1_fromInt_17 : decode cX1_fromInt 17 = .ok (.i2l, 1) := by decide +kernel
theorem dX1_fromInt_18 : decode cX1_fromInt 18 = .ok (.lneg, 1) := by decide +kernel
theorem dX1_fromInt_19 : decode cX1_fromInt 19 = .ok (.goto 5, 3) := by decide +kernel
theorem dX1_fromInt_22 : decode cX1_fromInt 22 = .ok (.iload_n 1, 1) := by decide +kernel
theorem dX1_fromInt_23 : decode cX1_fromInt 23 = .ok (.i2l, 1) := by decide +kernel
theorem dX1_fromInt_24 : decode cX1_fromInt 24 = .ok (.iconst 0, 1) := by decide +kernel
theorem dX1_fromInt_25 : decode cX1_fromInt 25 = .ok (.iload_n 1, 1) := by decide +kernel
theorem dX1_fromInt_26 : decode cX1_fromInt 26 = .ok (.ifCond .ge 7, 3) := by decide +kernel
theorem dX1_fromInt_29 : decode cX1_fromInt 29 = .ok (.iconst 1, 1) := by decide +kernel
theorem dX1_fromInt_30 : decode cX1_fromInt 30 = .ok (.goto 4, 3) := by decide +kernel
theorem dX1_fromInt_33 : decode cX1_fromInt 33 = .ok (.iconst 0, 1) := by decide +kernel
theorem dX1_fromInt_34 : decode cX1_fromInt 34 = .ok (.invokevirtual 100, 3) := by decide +kernel
theorem dX1_fromInt_37 : decode cX1_fromInt 37 = .ok (.aload_n 0, 1) := by decide +kernel
theorem dX1_fromInt_38 : decode cX1_fromInt 38 = .ok (.invokevirtual 104, 3) := by decide +kernel
theorem dX1_fromInt_41 : decode cX1_fromInt 41 = .ok (.istore_n 2, 1) := by decide +kernel
theorem dX1_fromInt_42 : decode cX1_fromInt 42 = .ok (.aload_n 0, 1) := by decide +kernel
theorem dX1_fromInt_43 : decode cX1_fromInt 43 = .ok (.iload_n 2, 1) := by decide +kernel
theorem dX1_fromInt_44 : decode cX1_fromInt 44 = .ok (.invokevirtual 115, 3) := by decide +kernel
theorem dX1_fromInt_47 : decode cX1_fromInt 47 = .ok (.ireturn, 1) := by decide +kernel
theorem dX1_rank_0 : decode cX1_rank 0 = .ok (.iload_n 0, 1) := by decide +kernel
theorem dX1_rank_1 : decode cX1_rank 1 = .ok (.ifCond .ge 11, 3) := by decide +kernel
theorem dX1_rank_4 : decode cX1_rank 4 = .ok (.iload_n 0, 1) := by decide +kernel
theorem dX1_rank_5 : decode cX1_rank 5 = .ok (.ldc 33, 2) := by decide +kernel
theorem dX1_rank_7 : decode cX1_rank 7 = .ok (.iand, 1) := by decide +kernel
theorem dX1_rank_8 : decode cX1_rank 8 = .ok (.ineg, 1) := by decide +kernel
theorem dX1_rank_9 : decode cX1_rank 9 = .ok (.goto 4, 3) := by decide +kernel
theorem dX1_rank_12 : decode cX1_rank 12 = .ok (.iload_n 0, 1) := by decide +kernel
theorem dX1_rank_13 : decode cX1_rank 13 = .ok (.ireturn, 1) := by decide +kernel
set_option maxRecDepth 20000 in
theorem ggX1_compare_X1_isNone : GoodIn wsX1_compare wsX1_isNone := goodIn_r _ [5, 6, 7, 4, 8, 9, 10, 11, 12] (by decide +kernel) (by decide +kernel)
set_option maxRecDepth 20000 in
theorem gX1_compare_X1_isNone : GoodIn wsX1_compare (va_wsS RX1 28 yX1_isNone wsX1_isNone) := goodIn_app (goodIn_of _ (by decide +kernel)) ggX1_compare_X1_isNone
