theorem dX1_units_8 : decode cX1_units 8 = .ok (.invokestatic 25, 3) := by decide +kernel
theorem dX1_units_11 : decode cX1_units 11 = .ok (.goto 10, 3) := by decide +kernel
theorem dX1_units_14 : decode cX1_units 14 = .ok (.ldc 35, 2) := by decide +kernel
theorem dX1_units_16 : decode cX1_units 16 = .ok (.iload_n 0, 1) := by decide +kernel
theorem dX1_units_17 : decode cX1_units 17 = .ok (.invokestatic 25, 3) := by decide +kernel
theorem dX1_units_20 : decode cX1_units 20 = .ok (.iadd, 1) := by decide +kernel
theorem dX1_units_21 : decode cX1_units 21 = .ok (.ireturn, 1) := by decide +kernel
set_option maxRecDepth 20000 in
theorem ggX1_place_X1_exponent : GoodIn wsX1_place wsX1_exponent := goodIn_r _ [4] (by decide +kernel) (by decide +kernel)
set_option maxRecDepth 20000 in
theorem gX1_place_X1_exponent : GoodIn wsX1_place (va_wsS RX1 21 yX1_exponent wsX1_exponent) := goodIn_app (goodIn_of _ (by decide +kernel)) ggX1_place_X1_exponent
theorem dX1_place_0 : decode cX1_place 0 = .ok (.iload_n 0, 1) := by decide +kernel
theorem dX1_place_1 : decode cX1_place 1 = .ok (.invokestatic 21, 3) := by decide +kernel
theorem dX1_place_4 : decode cX1_place 4 = .ok (.ifCond .ne 9, 3) := by decide +kernel
theorem dX1_place_7 : decode cX1_place 7 = .ok (.sipush (-149), 3) := by decide +kernel
theorem dX1_place_10 : decode cX1_place 10 = .ok (.goto 11, 3) := by decide +kernel
theorem dX1_place_13 : decode cX1_place 13 = .ok (.iload_n 0, 1) := by decide +kernel
theorem dX1_place_14 : decode cX1_place 14 = .ok (.invokestatic 21, 3) := by decide +kernel
theorem dX1_place_17 : decode cX1_place 17 = .ok (.sipush 150, 3) := by decide +kernel
theorem dX1_place_20 : decode cX1_place 20 = .ok (.isub, 1) := by decide +kernel
theorem dX1_place_21 : decode cX1_place 21 = .ok (.ireturn, 1) := by decide +kernel
set_option maxRecDepth 20000 in
theorem ggX1_none_X1_isLoud : GoodIn wsX1_none wsX1_isLoud := goodIn_r _ [6, 7, 8, 9, 5, 10, 11, 12, 13, 14, 15, 16, 17] (by decide +kernel) (by decide +kernel)
set_option maxRecDepth 20000 in
theorem gX1_none_X1_isLoud : GoodIn wsX1_none (va_wsS RX1 36 yX1_isLoud wsX1_isLoud) := goodIn_app (goodIn_of _ (by decide +kernel)) ggX1_none_X1_isLoud
theorem dX1_none_0 : decode cX1_none 0 = .ok (.iload_n 1, 1) := by decide +kernel
theorem dX1_none_1 : decode cX1_none 1 = .ok (.invokestatic 36, 3) := by decide +kernel
theorem dX1_none_4 : decode cX1_none 4 = .ok (.ifCond .ne 17, 3) := by decide +kernel
theorem dX1_none_7 : decode cX1_none 7 = .ok (.iload_n 2, 1) := by decide +kernel
theorem dX1_none_8 : decode cX1_none 8 = .ok (.invokestatic 36, 3) := by decide +kernel
theorem dX1_none_11 : decode cX1_none 11 = .ok (.ifCond .ne 10, 3) := by decide +kernel
theorem dX1_none_14 : decode cX1_none 14 = .ok (.iload_n 3, 1) := by decide +kernel
theorem dX1_none_15 : decode cX1_none 15 = .ok (.invokestatic 36, 3) := by decide +kernel
theorem dX1_none_18 : decode cX1_none 18 = .ok (.ifCond .eq 14, 3) := by decide +kernel
theorem dX1_none_21 : decode cX1_none 21 = .ok (.aload_n 0, 1) := by decide +kernel
theorem dX1_none_22 : decode cX1_none 22 = .ok (.aload_n 0, 1) := by decide +kernel
theorem dX1_none_23 : decode cX1_none 23 = .ok (.getfield 17, 3) := by decide +kernel
theorem dX1_none_26 : decode cX1_none 26 = .ok (.bipush 16, 2) := by decide +kernel
theorem dX1_none_28 : decode cX1_none 28 = .ok (.ior, 1) := by decide +kernel
theorem dX1_none_29 : decode cX1_none 29 = .ok (.putfield 17, 3) := by decide +kernel
theorem dX1_none_32 : decode cX1_none 32 = .ok (.ldc 39, 2) := by decide +kernel
theorem dX1_none_34 : decode cX1_none 34 = .ok (.ireturn, 1) := by decide +kernel
theorem dX1_invalid_0 : decode cX1_invalid 0 = .ok (.aload_n 0, 1) := by decide +kernel
theorem dX1_invalid_1 : decode cX1_invalid 1 = .ok (.aload_n 0, 1) := by decide +kernel
theorem dX1_invalid_2 : decode cX1_invalid 2 = .ok (.getfield 17, 3) := by decide +kernel
theorem dX1_invalid_5 : decode cX1_invalid 5 = .ok (.bipush 16, 2) := by decide +kernel
theorem dX1_invalid_7 : decode cX1_invalid 7 = .ok (.ior, 1) := by decide +kernel
theorem dX1_invalid_8 : decode cX1_invalid 8 = .ok (.putfield 17, 3) := by decide +kernel
theorem dX1_invalid_11 : decode cX1_invalid 11 = .ok (.ldc 39, 2) := by decide +kernel
theorem dX1_invalid_13 : decode cX1_invalid 13 = .ok (.ireturn, 1) := by decide +kernel
theorem dX1_empty_0 : decode cX1_empty 0 = .ok (.iconst 0, 1) := by decide +kernel
theorem dX1_empty_1 : decode cX1_empty 1 = .ok (.istore_n 2, 1) := by decide +kernel
theorem dX1_empty_2 : decode cX1_empty 2 = .ok (.iload_n 2, 1) := by decide +kernel
theorem dX1_empty_3 : decode cX1_empty 3 = .ok (.bipush 25, 2) := by decide +kernel
theorem dX1_empty_5 : decode cX1_empty 5 = .ok (.if_icmp .ge 16, 3) := by decide +kernel
theorem dX1_empty_8 : decode cX1_empty 8 = .ok (.aload_n 0, 1) := by decide +kernel
theorem dX1_empty_9 : decode cX1_empty 9 = .ok (.getfield 7, 3) := by decide +kernel
theorem dX1_empty_12 : decode cX1_empty 12 = .ok (.iload_n 2, 1) := by decide +kernel
theorem dX1_empty_13 : decode cX1_empty 13 = .ok (.lconst 0, 1) := by decide +kernel
theorem dX1_empty_14 : decode cX1_empty 14 = .ok (.lastore, 1) := by decide +kernel
theorem dX1_empty_15 : decode cX1_empty 15 = .ok (.iinc 2 1, 3) := by decide +kernel
theorem dX1_empty_18 : decode cX1_empty 18 = .ok (.goto (-16), 3) := by decide +kernel
theorem dX1_empty_21 : decode cX1_empty 21 = .ok (.aload_n 0, 1) := by decide +kernel
theorem dX1_empty_22 : decode cX1_empty 22 = .ok (.iload_n 1, 1) := by decide +kernel
theorem dX1_empty_23 : decode cX1_empty 23 = .ok (.putfield 40, 3) := by decide +kernel
theorem dX1_empty_26 : decode cX1_empty 26 = .ok (.aload_n 0, 1) := by decide +kernel
theorem dX1_empty_27 : decode cX1_empty 27 = .ok (.iconst 0, 1) := by decide +kernel
theorem dX1_empty_28 : decode cX1_empty 28 = .ok (.putfield 43, 3) := by decide +kernel
theorem dX1_empty_31 : decode cX1_empty 31 = .ok (.return_, 1) := by decide +kernel
theorem dX1_put_0 : decode cX1_put 0 = .ok (.iload_n 3, 1) := by decide +kernel
theorem dX1_put_1 : decode cX1_put 1 = .ok (.aload_n 0, 1) := by decide +kernel
theorem dX1_put_2 : decode cX1_put 2 = .ok (.getfield 40, 3) := by decide +kernel
theorem dX1_put_5 : decode cX1_put 5 = .ok (.isub, 1) := by decide +kernel
theorem dX1_put_6 : decode cX1_put 6 = .ok (.istore 5, 2) := by decide +kernel
theorem dX1_put_8 : decode cX1_put 8 = .ok (.iconst 0, 1) := by decide +kernel
theorem dX1_put_9 : decode cX1_put 9 = .ok (.istore 6, 2) := by decide +kernel
theorem dX1_put_11 : decode cX1_put 11 = .ok (.iload 6, 2) := by decide +kernel
theorem dX1_put_13 : decode cX1_put 13 = .ok (.bipush 63, 2) := by decide +kernel
theorem dX1_put_15 : decode cX1_put 15 = .ok (.if_icmp .ge 68, 3) := by decide +kernel
theorem dX1_put_18 : decode cX1_put 18 = .ok (.lload_n 1, 1) := by decide +kernel
theorem dX1_put_19 : decode cX1_put 19 = .ok (.iload 6, 2) := by decide +kernel
theorem dX1_put_21 : decode cX1_put 21 = .ok (.lshr, 1) := by decide +kernel
theorem dX1_put_22 : decode cX1_put 22 = .ok (.lconst 1, 1) := by decide +kernel
theorem dX1_put_23 : decode cX1_put 23 = .ok (.land, 1) := by decide +kernel
theorem dX1_put_24 : decode cX1_put 24 = .ok (.lconst 1, 1) := by decide +kernel
theorem dX1_put_25 : decode cX1_put 25 = .ok (.lcmp, 1) := by decide +kernel
theorem dX1_put_26 : decode cX1_put 26 = .ok (.ifCond .ne 51, 3) := by decide +kernel
theorem dX1_put_29 : decode cX1_put 29 = .ok (.iload 5, 2) := by decide +kernel
theorem dX1_put_31 : decode cX1_put 31 = .ok (.iload 6, 2) := by decide +kernel
theorem dX1_put_33 : decode cX1_put 33 = .ok (.iadd, 1) := by decide +kernel
theorem dX1_put_34 : decode cX1_put 34 = .ok (.istore 7, 2) := by decide +kernel
theorem dX1_put_36 : decode cX1_put 36 = .ok (.aload_n 0, 1) := by decide +kernel
theorem dX1_put_37 : decode cX1_put 37 = .ok (.getfield 7, 3) := by decide +kernel
theorem dX1_put_40 : decode cX1_put 40 = .ok (.iload 7, 2) := by decide +kernel
theorem dX1_put_42 : decode cX1_put 42 = .ok (.bipush 24, 2) := by decide +kernel
theorem dX1_put_44 : decode cX1_put 44 = .ok (.idiv, 1) := by decide +kernel
theorem dX1_put_45 : decode cX1_put 45 = .ok (.aload_n 0, 1) := by decide +kernel
theorem dX1_put_46 : decode cX1_put 46 = .ok (.getfield 7, 3) := by decide +kernel
theorem dX1_put_49 : decode cX1_put 49 = .ok (.iload 7, 2) := by decide +kernel
theorem dX1_put_51 : decode cX1_put 51 = .ok (.bipush 24, 2) := by decide +kernel
theorem dX1_put_53 : decode cX1_put 53 = .ok (.idiv, 1) := by decide +kernel
theorem dX1_put_54 : decode cX1_put 54 = .ok (.laload, 1) := by decide +kernel
theorem dX1_put_55 : decode cX1_put 55 = .ok (.iload 4, 2) := by decide +kernel
theorem dX1_put_57 : decode cX1_put 57 = .ok (.ifCond .eq 9, 3) := by decide +kernel
theorem dX1_put_60 : decode cX1_put 60 = .ok (.ldc2_w 47, 3) := by decide +kernel
theorem dX1_put_63 : decode cX1_put 63 = .ok (.goto 4, 3) := by decide +kernel
theorem dX1_put_66 : decode cX1_put 66 = .ok (.lconst 1, 1) := by decide +kernel
theorem dX1_put_67 : decode cX1_put 67 = .ok (.lconst 1, 1) := by decide +kernel
theorem dX1_put_68 : decode cX1_put 68 = .ok (.iload 7, 2) := by decide +kernel
theorem dX1_put_70 : decode cX1_put 70 = .ok (.bipush 24, 2) := by decide +kernel
theorem dX1_put_72 : decode cX1_put 72 = .ok (.irem, 1) := by decide +kernel
theorem dX1_put_73 : decode cX1_put 73 = .ok (.lshl, 1) := by decide +kernel
theorem dX1_put_74 : decode cX1_put 74 = .ok (.lmul, 1) := by decide +kernel
theorem dX1_put_75 : decode cX1_put 75 = .ok (.ladd, 1) := by decide +kernel
theorem dX1_put_76 : decode cX1_put 76 = .ok (.lastore, 1) := by decide +kernel
theorem dX1_put_77 : decode cX1_put 77 = .ok (.iinc 6 1, 3) := by decide +kernel
theorem dX1_put_80 : decode cX1_put 80 = .ok (.goto (-69), 3) := by decide +kernel
theorem dX1_put_83 : decode cX1_put 83 = .ok (.return_, 1) := by decide +kernel
set_option maxRecDepth 20000 in
theorem ggX1_settle_X1_carry : GoodIn wsX1_settle wsX1_carry := goodIn_r _ [6, 1, 7, 8, 9, 10, 11, 12, 13] (by decide +kernel) (by decide +kernel)
set_option maxRecDepth 20000 in
theorem gX1_settle_X1_carry : GoodIn wsX1_settle (wsV RX1 49 RX1 yX1_carry wsX1_carry) := goodIn_app (goodIn_of _ (by decide +kernel)) ggX1_settle_X1_carry
theorem dX1_settle_0 : decode cX1_settle 0 = .ok (.aload_n 0, 1) := by decide +kernel
theorem dX1_settle_1 : decode cX1_settle 1 = .ok (.invokevirtual 49, 3) := by decide +kernel
theorem dX1_settle_4 : decode cX1_settle 4 = .ok (.aload_n 0, 1) := by decide +kernel
theorem dX1_settle_5 : decode cX1_settle 5 = .ok (.getfield 7, 3) := by decide +kernel
theorem dX1_settle_8 : decode cX1_settle 8 = .ok (.bipush 24, 2) := by decide +kernel
theorem dX1_settle_10 : decode cX1_settle 10 = .ok (.laload, 1) := by decide +kernel
theorem dX1_settle_11 : decode cX1_settle 11 = .ok (.lconst 0, 1) := by decide +kernel
theorem dX1_settle_12 : decode cX1_settle 12 = .ok (.lcmp, 1) := by decide +kernel
theorem dX1_settle_13 : decode cX1_settle 13 = .ok (.ifCond .ge 7, 3) := by decide +kernel
theorem dX1_settle_16 : decode cX1_settle 16 = .ok (.iconst 1, 1) := by decide +kernel
theorem dX1_settle_17 : decode cX1_settle 17 = .ok (.goto 4, 3) := by decide +kernel
theorem dX1_settle_20 : decode cX1_settle 20 = .ok (.iconst 0, 1) := by decide +kernel
theorem dX1_settle_21 : decode cX1_settle 21 = .ok (.istore_n 1, 1) := by decide +kernel
theorem dX1_settle_22 : decode cX1_settle 22 = .ok (.iload_n 1, 1) := by decide +kernel
theorem dX1_settle_23 : decode cX1_settle 23 = .ok (.ifCond .eq 34, 3) := by decide +kernel
theorem dX1_settle_26 : decode cX1_settle 26 = .ok (.iconst 0, 1) := by decide +kernel
theorem dX1_settle_27 : decode cX1_settle 27 = .ok (.istore_n 2, 1) := by decide +kernel
theorem dX1_settle_28 : decode cX1_settle 28 = .ok (.iload_n 2, 1) := by decide +kernel
theorem dX1_settle_29 : decode cX1_settle 29 = .ok (.bipush 25, 2) := by decide +kernel
theorem dX1_settle_31 : decode cX1_settle 31 = .ok (.if_icmp .ge 22, 3) := by decide +kernel
theorem dX1_settle_34 : decode cX1_settle 34 = .ok (.aload_n 0, 1) := by decide +kernel
theorem dX1_settle_35 : decode cX1_settle 35 = .ok (.getfield 7, 3) := by decide +kernel
theorem dX1_settle_38 : decode cX1_settle 38 = .ok (.iload_n 2, 1) := by decide +kernel
theorem dX1_settle_39 : decode cX1_settle 39 = .ok (.aload_n 0, 1) := by decide +kernel
theorem dX1_settle_40 : decode cX1_settle 40 = .ok (.getfield 7, 3) := by decide +kernel
theorem dX1_settle_43 : decode cX1_settle 43 = .ok (.iload_n 2, 1) := by decide +kernel
theorem dX1_settle_44 : decode cX1_settle 44 = .ok (.laload, 1) := by decide +kernel
theorem dX1_settle_45 : decode cX1_settle 45 = .ok (.lneg, 1) := by decide +kernel
theorem dX1_settle_46 : decode cX1_settle 46 = .ok (.lastore, 1) := by decide +kernel
theorem dX1_settle_47 : decode cX1_settle 47 = .ok (.iinc 2 1, 3) := by decide +kernel
theorem dX1_settle_50 : decode cX1_settle 50 = .ok (.goto (-22), 3) := by decide +kernel
theorem dX1_settle_53 : decode cX1_settle 53 = .ok (.aload_n 0, 1) := by decide +kernel
theorem dX1_settle_54 : decode cX1_settle 54 = .ok (.invokevirtual 49, 3) := by decide +kernel
theorem dX1_settle_57 : decode cX1_settle 57 = .ok (.iload_n 1, 1) := by decide +kernel
theorem dX1_settle_58 : decode cX1_settle 58 = .ok (.ireturn, 1) := by decide +kernel
theorem dX1_carry_0 : decode cX1_carry 0 = .ok (.iconst 0, 1) := by decide +kernel
theorem dX1_carry_1 : decode cX1_carry 1 = .ok (.istore_n 1, 1) := by decide +kernel
theorem dX1_carry_2 : decode cX1_carry 2 = .ok (.iload_n 1, 1) := by decide +kernel
theorem dX1_carry_3 : decode cX1_carry 3 = .ok (.bipush 24, 2) := by decide +kernel
theorem dX1_carry_5 : decode cX1_carry 5 = .ok (.if_icmp .ge 51, 3) := by decide +kernel
theorem dX1_carry_8 : decode cX1_carry 8 = .ok (.aload_n 0, 1) := by decide +kernel
theorem dX1_carry_9 : decode cX1_carry 9 = .ok (.getfield 7, 3) := by decide +kernel
theorem dX1_carry_12 : decode cX1_carry 12 = .ok (.iload_n 1, 1) := by decide +kernel
theorem dX1_carry_13 : decode cX1_carry 13 = .ok (.iconst 1, 1) := by decide +kernel
theorem dX1_carry_14 : decode cX1_carry 14 = .ok (.iadd, 1) := by decide +kernel
theorem dX1_carry_15 : decode cX1_carry 15 = .ok (.aload_n 0, 1) := by decide +kernel
theorem dX1_carry_16 : decode cX1_carry 16 = .ok (.getfield 7, 3) := by decide +kernel
theorem dX1_carry_19 : decode cX1_carry 19 = .ok (.iload_n 1, 1) := by decide +kernel
theorem dX1_carry_20 : decode cX1_carry 20 = .ok (.iconst 1, 1) := by decide +kernel
theorem dX1_carry_21 : decode cX1_carry 21 = .ok (.iadd, 1) := by decide +kernel
theorem dX1_carry_22 : decode cX1_carry 22 = .ok (.laload, 1) := by decide +kernel
theorem dX1_carry_23 : decode cX1_carry 23 = .ok (.aload_n 0, 1) := by decide +kernel
theorem dX1_carry_24 : decode cX1_carry 24 = .ok (.getfield 7, 3) := by decide +kernel
theorem dX1_carry_27 : decode cX1_carry 27 = .ok (.iload_n 1, 1) := by decide +kernel
theorem dX1_carry_28 : decode cX1_carry 28 = .ok (.laload, 1) := by decide +kernel
theorem dX1_carry_29 : decode cX1_carry 29 = .ok (.bipush 24, 2) := by decide +kernel
theorem dX1_carry_31 : decode cX1_carry 31 = .ok (.lshr, 1) := by decide +kernel
theorem dX1_carry_32 : decode cX1_carry 32 = .ok (.ladd, 1) := by decide +kernel
theorem dX1_carry_33 : decode cX1_carry 33 = .ok (.lastore, 1) := by decide +kernel
theorem dX1_carry_34 : decode cX1_carry 34 = .ok (.aload_n 0, 1) := by decide +kernel
theorem dX1_carry_35 : decode cX1_carry 35 = .ok (.getfield 7, 3) := by decide +kernel
theorem dX1_carry_38 : decode cX1_carry 38 = .ok (.iload_n 1, 1) := by decide +kernel
theorem dX1_carry_39 : decode cX1_carry 39 = .ok (.aload_n 0, 1) := by decide +kernel
theorem dX1_carry_40 : decode cX1_carry 40 = .ok (.getfield 7, 3) := by decide +kernel
theorem dX1_carry_43 : decode cX1_carry 43 = .ok (.iload_n 1, 1) := by decide +kernel
theorem dX1_carry_44 : decode cX1_carry 44 = .ok (.laload, 1) := by decide +kernel
theorem dX1_carry_45 : decode cX1_carry 45 = .ok (.ldc2_w 52, 3) := by decide +kernel
theorem dX1_carry_48 : decode cX1_carry 48 = .ok (.land, 1) := by decide +kernel
theorem dX1_carry_49 : decode cX1_carry 49 = .ok (.lastore, 1) := by decide +kernel
theorem dX1_carry_50 : decode cX1_carry 50 = .ok (.iinc 1 1, 3) := by decide +kernel
theorem dX1_carry_53 : decode cX1_carry 53 = .ok (.goto (-51), 3) := by decide +kernel
theorem dX1_carry_56 : decode cX1_carry 56 = .ok (.return_, 1) := by decide +kernel
theorem dX1_bit_0 : decode cX1_bit 0 = .ok (.iload_n 1, 1) := by decide +kernel
theorem dX1_bit_1 : decode cX1_bit 1 = .ok (.ifCond .lt 10, 3) := by decide +kernel
theorem dX1_bit_4 : decode cX1_bit 4 = .ok (.iload_n 1, 1) := by decide +kernel
theorem dX1_bit_5 : decode cX1_bit 5 = .ok (.sipush 600, 3) := by decide +kernel
theorem dX1_bit_8 : decode cX1_bit 8 = .ok (.if_icmp .lt 7, 3) := by decide +kernel
theorem dX1_bit_11 : decode cX1_bit 11 = .ok (.iconst 0, 1) := by decide +kernel
theorem dX1_bit_12 : decode cX1_bit 12 = .ok (.goto 20, 3) := by decide +kernel
theorem dX1_bit_15 : decode cX1_bit 15 = .ok (.aload_n 0, 1) := by decide +kernel
theorem dX1_bit_16 : decode cX1_bit 16 = .ok (.getfield 7, 3) := by decide +kernel
theorem dX1_bit_19 : decode cX1_bit 19 = .ok (.iload_n 1, 1) := by decide +kernel
theorem dX1_bit_20 : decode cX1_bit 20 = .ok (.bipush 24, 2) := by decide +kernel
theorem dX1_bit_22 : decode cX1_bit 22 = .ok (.idiv, 1) := by decide +kernel
theorem dX1_bit_23 : decode cX1_bit 23 = .ok (.laload, 1) := by decide +kernel
theorem dX1_bit_24 : decode cX1_bit 24 = .ok (.iload_n 1, 1) := by decide +kernel
theorem dX1_bit_25 : decode cX1_bit 25 = .ok (.bipush 24, 2) := by decide +kernel
theorem dX1_bit_27 : decode cX1_bit 27 = .ok (.irem, 1) := by decide +kernel
theorem dX1_bit_28 : decode cX1_bit 28 = .ok (.lshr, 1) := by decide +kernel
theorem dX1_bit_29 : decode cX1_bit 29 = .ok (.l2i, 1) := by decide +kernel
theorem dX1_bit_30 : decode cX1_bit 30 = .ok (.iconst 1, 1) := by decide +kernel
theorem dX1_bit_31 : decode cX1_bit 31 = .ok (.iand, 1) := by decide +kernel
theorem dX1_bit_32 : decode cX1_bit 32 = .ok (.ireturn, 1) := by decide +kernel
set_option maxRecDepth 20000 in
theorem ggX1_top_X1_bit : GoodIn wsX1_top wsX1_bit := goodIn_r _ [5, 6, 7, 8, 9, 10, 11, 12] (by decide +kernel) (by decide +kernel)
set_option maxRecDepth 20000 in
theorem gX1_top_X1_bit : GoodIn wsX1_top (wsV RX1 54 RX1 yX1_bit wsX1_bit) := goodIn_app (goodIn_of _ (by decide +kernel)) ggX1_top_X1_bit
theorem dX1_top_0 : decode cX1_top 0 = .ok (.sipush 599, 3) := by decide +kernel
theorem dX1_top_3 : decode cX1_top 3 = .ok (.istore_n 1, 1) := by decide +kernel
theorem dX1_top_4 : decode cX1_top 4 = .ok (.iload_n 1, 1) := by decide +kernel
theorem dX1_top_5 : decode cX1_top 5 = .ok (.ifCond .lt 20, 3) := by decide +kernel
theorem dX1_top_8 : decode cX1_top 8 = .ok (.aload_n 0, 1) := by decide +kernel
theorem dX1_top_9 : decode cX1_top 9 = .ok (.iload_n 1, 1) := by decide +kernel
theorem dX1_top_10 : decode cX1_top 10 = .ok (.invokevirtual 54, 3) := by decide +kernel
theorem dX1_top_13 : decode cX1_top 13 = .ok (.iconst 1, 1) := by decide +kernel
theorem dX1_top_14 : decode cX1_top 14 = .ok (.if_icmp .ne 5, 3) := by decide +kernel
theorem dX1_top_17 : decode cX1_top 17 = .ok (.iload_n 1, 1) := by decide +kernel
theorem dX1_top_18 : decode cX1_top 18 = .ok (.ireturn, 1) := by decide +kernel
theorem dX1_top_19 : decode cX1_top 19 = .ok (.iinc 1 (-1), 3) := by decide +kernel
theorem dX1_top_22 : decode cX1_top 22 = .ok (.goto (-18), 3) := by decide +kernel
theorem dX1_top_25 : decode cX1_top 25 = .ok (.iconst (-1), 1) := by decide +kernel
theorem dX1_top_26 : decode cX1_top 26 = .ok (.ireturn, 1) := by decide +kernel
set_option maxRecDepth 20000 in
theorem ggX1_below_X1_bit : GoodIn wsX1_below wsX1_bit := goodIn_r _ [6, 7, 8, 9, 10, 11, 12, 13] (by decide +kernel) (by decide +kernel)
set_option maxRecDepth 20000 in
theorem gX1_below_X1_bit : GoodIn wsX1_below (wsV RX1 54 RX1 yX1_bit wsX1_bit) := goodIn_app (goodIn_of _ (by decide +kernel)) ggX1_below_X1_bit
theorem dX1_below_0 : decode cX1_below 0 = .ok (.iconst 0, 1) := by decide +kernel
theorem dX1_below_1 : decode cX1_below 1 = .ok (.istore_n 2, 1) := by decide +kernel
theorem dX1_below_2 : decode cX1_below 2 = .ok (.iload_n 2, 1) := by decide +kernel
theorem dX1_below_3 : decode cX1_below 3 = .ok (.iload_n 1, 1) := by decide +kernel
theorem dX1_below_4 : decode cX1_below 4 = .ok (.if_icmp .ge 27, 3) := by decide +kernel
theorem dX1_below_7 : decode cX1_below 7 = .ok (.iload_n 2, 1) := by decide +kernel
theorem dX1_below_8 : decode cX1_below 8 = .ok (.sipush 600, 3) := by decide +kernel
theorem dX1_below_11 : decode cX1_below 11 = .ok (.if_icmp .ge 20, 3) := by decide +kernel
theorem dX1_below_14 : decode cX1_below 14 = .ok (.aload_n 0, 1) := by decide +kernel
theorem dX1_below_15 : decode cX1_below 15 = .ok (.iload_n 2, 1) := by decide +kernel
theorem dX1_below_16 : decode cX1_below 16 = .ok (.invokevirtual 54, 3) := by decide +kernel
theorem dX1_below_19 : decode cX1_below 19 = .ok (.iconst 1, 1) := by decide +kernel
theorem dX1_below_20 : decode cX1_below 20 = .ok (.if_icmp .ne 5, 3) := by decide +kernel
theorem dX1_below_23 : decode cX1_below 23 = .ok (.iconst 1, 1) := by decide +kernel
theorem dX1_below_24 : decode cX1_below 24 = .ok (.ireturn, 1) := by decide +kernel
theorem dX1_below_25 : decode cX1_below 25 = .ok (.iinc 2 1, 3) := by decide +kernel
theorem dX1_below_28 : decode cX1_below 28 = .ok (.goto (-26), 3) := by decide +kernel
theorem dX1_below_31 : decode cX1_below 31 = .ok (.aload_n 0, 1) := by decide +kernel
theorem dX1_below_32 : decode cX1_below 32 = .ok (.getfield 43, 3) := by decide +kernel
theorem dX1_below_35 : decode cX1_below 35 = .ok (.ireturn, 1) := by decide +kernel
set_option maxRecDepth 20000 in
theorem ggX1_rounded_X1_bit : GoodIn wsX1_rounded wsX1_bit := goodIn_r _ [7, 8, 14, 15, 16, 17, 18, 19] (by decide +kernel) (by decide +kernel)
set_option maxRecDepth 20000 in
theorem gX1_rounded_X1_bit : GoodIn wsX1_rounded (wsV RX1 54 RX1 yX1_bit wsX1_bit) := goodIn_app (goodIn_of _ (by decide +kernel)) ggX1_rounded_X1_bit
set_option maxRecDepth 20000 in
theorem ggX1_rounded_X1_below : GoodIn wsX1_rounded wsX1_below := goodIn_r _ [12, 13, 3, 4, 5, 6, 7, 8, 14, 15, 16, 17, 18, 19] (by decide +kernel) (by decide +kernel)
set_option maxRecDepth 20000 in
theorem gX1_rounded_X1_below : GoodIn wsX1_rounded (wsV RX1 57 RX1 yX1_below wsX1_below) := goodIn_app (goodIn_of _ (by decide +kernel)) ggX1_rounded_X1_below
theorem dX1_rounded_0 : decode cX1_rounded 0 = .ok (.iconst 0, 1) := by decide +kernel
theorem dX1_rounded_1 : decode cX1_rounded 1 = .ok (.istore_n 3, 1) := by decide +kernel
theorem dX1_rounded_2 : decode cX1_rounded 2 = .ok (.iconst 0, 1) := by decide +kernel
theorem dX1_rounded_3 : decode cX1_rounded 3 = .ok (.istore 4, 2) := by decide +kernel
theorem dX1_rounded_5 : decode cX1_rounded 5 = .ok (.iload 4, 2) := by decide +kernel
theorem dX1_rounded_7 : decode cX1_rounded 7 = .ok (.bipush 24, 2) := by decide +kernel
theorem dX1_rounded_9 : decode cX1_rounded 9 = .ok (.if_icmp .ge 23, 3) := by decide +kernel
theorem dX1_rounded_12 : decode cX1_rounded 12 = .ok (.iload_n 3, 1) := by decide +kernel
theorem dX1_rounded_13 : decode cX1_rounded 13 = .ok (.aload_n 0, 1) := by decide +kernel
theorem dX1_rounded_14 : decode cX1_rounded 14 = .ok (.iload_n 1, 1) := by decide +kernel
theorem dX1_rounded_15 : decode cX1_rounded 15 = .ok (.iload 4, 2) := by decide +kernel
theorem dX1_rounded_17 : decode cX1_rounded 17 = .ok (.iadd, 1) := by decide +kernel
theorem dX1_rounded_18 : decode cX1_rounded 18 = .ok (.invokevirtual 54, 3) := by decide +kernel
theorem dX1_rounded_21 : decode cX1_rounded 21 = .ok (.iload 4, 2) := by decide +kernel
theorem dX1_rounded_23 : decode cX1_rounded 23 = .ok (.ishl, 1) := by decide +kernel
theorem dX1_rounded_24 : decode cX1_rounded 24 = .ok (.ior, 1) := by decide +kernel
theorem dX1_rounded_25 : decode cX1_rounded 25 = .ok (.istore_n 3, 1) := by decide +kernel
theorem dX1_rounded_26 : decode cX1_rounded 26 = .ok (.iinc 4 1, 3) := by decide +kernel
theorem dX1_rounded_29 : decode cX1_rounded 29 = .ok (.goto (-24), 3) := by decide +kernel
theorem dX1_rounded_32 : decode cX1_rounded 32 = .ok (.aload_n 0, 1) := by decide +kernel
theorem dX1_rounded_33 : decode cX1_rounded 33 = .ok (.iload_n 1, 1) := by decide +kernel
theorem dX1_rounded_34 : decode cX1_rounded 34 = .ok (.iconst 1, 1) := by decide +kernel
theorem dX1_rounded_35 : decode cX1_rounded 35 = .ok (.isub, 1) := by decide +kernel
theorem dX1_rounded_36 : decode cX1_rounded 36 = .ok (.invokevirtual 54, 3) := by decide +kernel
theorem dX1_rounded_39 : decode cX1_rounded 39 = .ok (.iconst 1, 1) := by decide +kernel
theorem dX1_rounded_40 : decode cX1_rounded 40 = .ok (.if_icmp .ne 7, 3) := by decide +kernel
theorem dX1_rounded_43 : decode cX1_rounded 43 = .ok (.iconst 1, 1) := by decide +kernel
theorem dX1_rounded_44 : decode cX1_rounded 44 = .ok (.goto 4, 3) := by decide +kernel
theorem dX1_rounded_47 : decode cX1_rounded 47 = .ok (.iconst 0, 1) := by decide +kernel
theorem dX1_rounded_48 : decode cX1_rounded 48 = .ok (.istore 4, 2) := by decide +kernel
theorem dX1_rounded_50 : decode cX1_rounded 50 = .ok (.aload_n 0, 1) := by decide +kernel
theorem dX1_rounded_51 : decode cX1_rounded 51 = .ok (.iload_n 1, 1) := by decide +kernel
theorem dX1_rounded_52 : decode cX1_rounded 52 = .ok (.iconst 1, 1) := by decide +kernel
theorem dX1_rounded_53 : decode cX1_rounded 53 = .ok (.isub, 1) := by decide +kernel
theorem dX1_rounded_54 : decode cX1_rounded 54 = .ok (.invokevirtual 57, 3) := by decide +kernel
theorem dX1_rounded_57 : decode cX1_rounded 57 = .ok (.istore 5, 2) := by decide +kernel
theorem dX1_rounded_59 : decode cX1_rounded 59 = .ok (.aload_n 0, 1) := by decide +kernel
theorem dX1_rounded_60 : decode cX1_rounded 60 = .ok (.iload 4, 2) := by decide +kernel
theorem dX1_rounded_62 : decode cX1_rounded 62 = .ok (.ifCond .ne 12, 3) := by decide +kernel
theorem dX1_rounded_65 : decode cX1_rounded 65 = .ok (.iload 5, 2) := by decide +kernel
theorem dX1_rounded_67 : decode cX1_rounded 67 = .ok (.ifCond .ne 7, 3) := by decide +kernel
theorem dX1_rounded_70 : decode cX1_rounded 70 = .ok (.iconst 1, 1) := by decide +kernel
theorem dX1_rounded_71 : decode cX1_rounded 71 = .ok (.goto 4, 3) := by decide +kernel
theorem dX1_rounded_74 : decode cX1_rounded 74 = .ok (.iconst 0, 1) := by decide +kernel
theorem dX1_rounded_75 : decode cX1_rounded 75 = .ok (.putfield 60, 3) := by decide +kernel
theorem dX1_rounded_78 : decode cX1_rounded 78 = .ok (.aload_n 0, 1) := by decide +kernel
theorem dX1_rounded_79 : decode cX1_rounded 79 = .ok (.getfield 60, 3) := by decide +kernel
theorem dX1_rounded_82 : decode cX1_rounded 82 = .ok (.ifCond .eq 5, 3) := by decide +kernel
theorem dX1_rounded_85 : decode cX1_rounded 85 = .ok (.iload_n 3, 1) := by decide +kernel
theorem dX1_rounded_86 : decode cX1_rounded 86 = .ok (.ireturn, 1) := by decide +kernel
theorem dX1_rounded_87 : decode cX1_rounded 87 = .ok (.aload_n 0, 1) := by decide +kernel
theorem dX1_rounded_88 : decode cX1_rounded 88 = .ok (.getfield 13, 3) := by decide +kernel
theorem dX1_rounded_91 : decode cX1_rounded 91 = .ok (.ifCond .ne 28, 3) := by decide +kernel
theorem dX1_rounded_94 : decode cX1_rounded 94 = .ok (.iload 4, 2) := by decide +kernel
theorem dX1_rounded_96 : decode cX1_rounded 96 = .ok (.ifCond .eq 19, 3) := by decide +kernel
theorem dX1_rounded_99 : decode cX1_rounded 99 = .ok (.iload 5, 2) := by decide +kernel
theorem dX1_rounded_101 : decode cX1_rounded 101 = .ok (.ifCond .ne 10, 3) := by decide +kernel
theorem dX1_rounded_104 : decode cX1_rounded 104 = .ok (.iload_n 3, 1) := by decide +kernel
theorem dX1_rounded_105 : decode cX1_rounded 105 = .ok (.iconst 2, 1) := by decide +kernel
theorem dX1_rounded_106 : decode cX1_rounded 106 = .ok (.irem, 1) := by decide +kernel
theorem dX1_rounded_107 : decode cX1_rounded 107 = .ok (.iconst 1, 1) := by decide +kernel
theorem dX1_rounded_108 : decode cX1_rounded 108 = .ok (.if_icmp .ne 7, 3) := by decide +kernel
theorem dX1_rounded_111 : decode cX1_rounded 111 = .ok (.iconst 1, 1) := by decide +kernel
theorem dX1_rounded_112 : decode cX1_rounded 112 = .ok (.goto 44, 3) := by decide +kernel
theorem dX1_rounded_115 : decode cX1_rounded 115 = .ok (.iconst 0, 1) := by decide +kernel
theorem dX1_rounded_116 : decode cX1_rounded 116 = .ok (.goto 40, 3) := by decide +kernel
theorem dX1_rounded_119 : decode cX1_rounded 119 = .ok (.aload_n 0, 1) := by decide +kernel
theorem dX1_rounded_120 : decode cX1_rounded 120 = .ok (.getfield 13, 3) := by decide +kernel
theorem dX1_rounded_123 : decode cX1_rounded 123 = .ok (.iconst 2, 1) := by decide +kernel
theorem dX1_rounded_124 : decode cX1_rounded 124 = .ok (.if_icmp .ne 15, 3) := by decide +kernel
theorem dX1_rounded_127 : decode cX1_rounded 127 = .ok (.iload_n 2, 1) := by decide +kernel
theorem dX1_rounded_128 : decode cX1_rounded 128 = .ok (.ifCond .ne 7, 3) := by decide +kernel
theorem dX1_rounded_131 : decode cX1_rounded 131 = .ok (.iconst 1, 1) := by decide +kernel
theorem dX1_rounded_132 : decode cX1_rounded 132 = .ok (.goto 24, 3) := by decide +kernel
theorem dX1_rounded_135 : decode cX1_rounded 135 = .ok (.iconst 0, 1) := by decide +kernel
theorem dX1_rounded_136 : decode cX1_rounded 136 = .ok (.goto 20, 3) := by decide +kernel
theorem dX1_rounded_139 : decode cX1_rounded 139 = .ok (.aload_n 0, 1) := by decide +kernel
theorem dX1_rounded_140 : decode cX1_rounded 140 = .ok (.getfield 13, 3) := by decide +kernel
theorem dX1_rounded_143 : decode cX1_rounded 143 = .ok (.iconst 3, 1) := by decide +kernel
theorem dX1_rounded_144 : decode cX1_rounded 144 = .ok (.if_icmp .ne 11, 3) := by decide +kernel
theorem dX1_rounded_147 : decode cX1_rounded 147 = .ok (.iload_n 2, 1) := by decide +kernel
theorem dX1_rounded_148 : decode cX1_rounded 148 = .ok (.ifCond .eq 7, 3) := by decide +kernel
theorem dX1_rounded_151 : decode cX1_rounded 151 = .ok (.iconst 1, 1) := by decide +kernel
theorem dX1_rounded_152 : decode cX1_rounded 152 = .ok (.goto 4, 3) := by decide +kernel
theorem dX1_rounded_155 : decode cX1_rounded 155 = .ok (.iconst 0, 1) := by decide +kernel
theorem dX1_rounded_156 : decode cX1_rounded 156 = .ok (.istore 6, 2) := by decide +kernel
theorem dX1_rounded_158 : decode cX1_rounded 158 = .ok (.iload 6, 2) := by decide +kernel
theorem dX1_rounded_160 : decode cX1_rounded 160 = .ok (.ifCond .eq 9, 3) := by decide +kernel
theorem dX1_rounded_163 : decode cX1_rounded 163 = .ok (.iload_n 3, 1) := by decide +kernel
theorem dX1_rounded_164 : decode cX1_rounded 164 = .ok (.iconst 1, 1) := by decide +kernel
theorem dX1_rounded_165 : decode cX1_rounded 165 = .ok (.iadd, 1) := by decide +kernel
theorem dX1_rounded_166 : decode cX1_rounded 166 = .ok (.goto 4, 3) := by decide +kernel
theorem dX1_rounded_169 : decode cX1_rounded 169 = .ok (.iload_n 3, 1) := by decide +kernel
theorem dX1_rounded_170 : decode cX1_rounded 170 = .ok (.ireturn, 1) := by decide +kernel
set_option maxRecDepth 20000 in
theorem ggX1_finish_X1_top : GoodIn wsX1_finish wsX1_top := goodIn_r _ [13, 14, 15, 16, 12, 17, 18, 32, 33, 34, 35, 36, 37] (by decide +kernel) (by decide +kernel)
set_option maxRecDepth 20000 in
theorem gX1_finish_X1_top : GoodIn wsX1_finish (wsV RX1 63 RX1 yX1_top wsX1_top) := goodIn_app (goodIn_of _ (by decide +kernel)) ggX1_finish_X1_top
set_option maxRecDepth 20000 in
theorem ggX1_finish_X1_rounded : GoodIn wsX1_finish wsX1_rounded := goodIn_r _ [22, 3, 5, 14, 15, 16, 12, 17, 18, 23, 24, 25, 26, 27, 32, 33, 34, 35, 36, 37] (by decide +kernel) (by decide +kernel)
set_option maxRecDepth 20000 in
theorem gX1_finish_X1_rounded : GoodIn wsX1_finish (wsV RX1 67 RX1 yX1_rounded wsX1_rounded) := goodIn_app (goodIn_of _ (by decide +kernel)) ggX1_finish_X1_rounded
set_option maxRecDepth 20000 in
theorem ggX1_finish_X1_signed : GoodIn wsX1_finish wsX1_signed := goodIn_r _ [30, 31] (by decide +kernel) (by decide +kernel)
set_option maxRecDepth 20000 in
theorem gX1_finish_X1_signed : GoodIn wsX1_finish (va_wsS RX1 74 yX1_signed wsX1_signed) := goodIn_app (goodIn_of _ (by decide +kernel)) ggX1_finish_X1_signed
theorem dX1_finish_0 : decode cX1_finish 0 = .ok (.aload_n 0, 1) := by decide +kernel
theorem dX1_finish_1 : decode cX1_finish 1 = .ok (.invokevirtual 63, 3) := by decide +kernel
theorem dX1_finish_4 : decode cX1_finish 4 = .ok (.aload_n 0, 1) := by decide +kernel
theorem dX1_finish_5 : decode cX1_finish 5 = .ok (.getfield 40, 3) := by decide +kernel
theorem dX1_finish_8 : decode cX1_finish 8 = .ok (.iadd, 1) := by decide +kernel
theorem dX1_finish_9 : decode cX1_finish 9 = .ok (.bipush 23, 2) := by decide +kernel
theorem dX1_finish_11 : decode cX1_finish 11 = .ok (.isub, 1) := by decide +kernel
theorem dX1_finish_12 : decode cX1_finish 12 = .ok (.istore_n 2, 1) := by decide +kernel
theorem dX1_finish_13 : decode cX1_finish 13 = .ok (.iload_n 2, 1) := by decide +kernel
theorem dX1_finish_14 : decode cX1_finish 14 = .ok (.sipush (-149), 3) := by decide +kernel
theorem dX1_finish_17 : decode cX1_finish 17 = .ok (.if_icmp .ge 9, 3) := by decide +kernel
theorem dX1_finish_20 : decode cX1_finish 20 = .ok (.sipush (-149), 3) := by decide +kernel
theorem dX1_finish_23 : decode cX1_finish 23 = .ok (.goto 4, 3) := by decide +kernel
theorem dX1_finish_26 : decode cX1_finish 26 = .ok (.iload_n 2, 1) := by decide +kernel
theorem dX1_finish_27 : decode cX1_finish 27 = .ok (.istore_n 3, 1) := by decide +kernel
theorem dX1_finish_28 : decode cX1_finish 28 = .ok (.iconst 0, 1) := by decide +kernel
theorem dX1_finish_29 : decode cX1_finish 29 = .ok (.istore 4, 2) := by decide +kernel
theorem dX1_finish_31 : decode cX1_finish 31 = .ok (.iload_n 2, 1) := by decide +kernel
theorem dX1_finish_32 : decode cX1_finish 32 = .ok (.sipush (-149), 3) := by decide +kernel
theorem dX1_finish_35 : decode cX1_finish 35 = .ok (.if_icmp .ge 33, 3) := by decide +kernel
theorem dX1_finish_38 : decode cX1_finish 38 = .ok (.aload_n 0, 1) := by decide +kernel
theorem dX1_finish_39 : decode cX1_finish 39 = .ok (.iload_n 2, 1) := by decide +kernel
theorem dX1_finish_40 : decode cX1_finish 40 = .ok (.aload_n 0, 1) := by decide +kernel
theorem dX1_finish_41 : decode cX1_finish 41 = .ok (.getfield 40, 3) := by decide +kernel
theorem dX1_finish_44 : decode cX1_finish 44 = .ok (.isub, 1) := by decide +kernel
theorem dX1_finish_45 : decode cX1_finish 45 = .ok (.iload_n 1, 1) := by decide +kernel
theorem dX1_finish_46 : decode cX1_finish 46 = .ok (.invokevirtual 67, 3) := by decide +kernel
theorem dX1_finish_49 : decode cX1_finish 49 = .ok (.ldc 71, 2) := by decide +kernel
theorem dX1_finish_51 : decode cX1_finish 51 = .ok (.if_icmp .lt 10, 3) := by decide +kernel
theorem dX1_finish_54 : decode cX1_finish 54 = .ok (.iload_n 2, 1) := by decide +kernel
theorem dX1_finish_55 : decode cX1_finish 55 = .ok (.sipush (-150), 3) := by decide +kernel
theorem dX1_finish_58 : decode cX1_finish 58 = .ok (.if_icmp .ge 7, 3) := by decide +kernel
theorem dX1_finish_61 : decode cX1_finish 61 = .ok (.iconst 1, 1) := by decide +kernel
theorem dX1_finish_62 : decode cX1_finish 62 = .ok (.goto 4, 3) := by decide +kernel
theorem dX1_finish_65 : decode cX1_finish 65 = .ok (.iconst 0, 1) := by decide +kernel
theorem dX1_finish_66 : decode cX1_finish 66 = .ok (.istore 4, 2) := by decide +kernel
theorem dX1_finish_68 : decode cX1_finish 68 = .ok (.aload_n 0, 1) := by decide +kernel
theorem dX1_finish_69 : decode cX1_finish 69 = .ok (.iload_n 3, 1) := by decide +kernel
theorem dX1_finish_70 : decode cX1_finish 70 = .ok (.aload_n 0, 1) := by decide +kernel
theorem dX1_finish_71 : decode cX1_finish 71 = .ok (.getfield 40, 3) := by decide +kernel
theorem dX1_finish_74 : decode cX1_finish 74 = .ok (.isub, 1) := by decide +kernel
theorem dX1_finish_75 : decode cX1_finish 75 = .ok (.iload_n 1, 1) := by decide +kernel
theorem dX1_finish_76 : decode cX1_finish 76 = .ok (.invokevirtual 67, 3) := by decide +kernel
theorem dX1_finish_79 : decode cX1_finish 79 = .ok (.istore 5, 2) := by decide +kernel
theorem dX1_finish_81 : decode cX1_finish 81 = .ok (.aload_n 0, 1) := by decide +kernel
theorem dX1_finish_82 : decode cX1_finish 82 = .ok (.getfield 60, 3) := by decide +kernel
theorem dX1_finish_85 : decode cX1_finish 85 = .ok (.ifCond .ne 13, 3) := by decide +kernel
theorem dX1_finish_88 : decode cX1_finish 88 = .ok (.aload_n 0, 1) := by decide +kernel
theorem dX1_finish_89 : decode cX1_finish 89 = .ok (.aload_n 0, 1) := by decide +kernel
theorem dX1_finish_90 : decode cX1_finish 90 = .ok (.getfield 17, 3) := by decide +kernel
theorem dX1_finish_93 : decode cX1_finish 93 = .ok (.iconst 1, 1) := by decide +kernel
theorem dX1_finish_94 : decode cX1_finish 94 = .ok (.ior, 1) := by decide +kernel
theorem dX1_finish_95 : decode cX1_finish 95 = .ok (.putfield 17, 3) := by decide +kernel
theorem dX1_finish_98 : decode cX1_finish 98 = .ok (.aload_n 0, 1) := by decide +kernel
theorem dX1_finish_99 : decode cX1_finish 99 = .ok (.getfield 60, 3) := by decide +kernel
theorem dX1_finish_102 : decode cX1_finish 102 = .ok (.ifCond .ne 18, 3) := by decide +kernel
theorem dX1_finish_105 : decode cX1_finish 105 = .ok (.iload 4, 2) := by decide +kernel
theorem dX1_finish_107 : decode cX1_finish 107 = .ok (.ifCond .eq 13, 3) := by decide +kernel
theorem dX1_finish_110 : decode cX1_finish 110 = .ok (.aload_n 0, 1) := by decide +kernel
theorem dX1_finish_111 : decode cX1_finish 111 = .ok (.aload_n 0, 1) := by decide +kernel
theorem dX1_finish_112 : decode cX1_finish 112 = .ok (.getfield 17, 3) := by decide +kernel
theorem dX1_finish_115 : decode cX1_finish 115 = .ok (.iconst 2, 1) := by decide +kernel
theorem dX1_finish_116 : decode cX1_finish 116 = .ok (.ior, 1) := by decide +kernel
theorem dX1_finish_117 : decode cX1_finish 117 = .ok (.putfield 17, 3) := by decide +kernel
theorem dX1_finish_120 : decode cX1_finish 120 = .ok (.iload_n 3, 1) := by decide +kernel
theorem dX1_finish_121 : decode cX1_finish 121 = .ok (.bipush 104, 2) := by decide +kernel
theorem dX1_finish_123 : decode cX1_finish 123 = .ok (.if_icmp .gt 16, 3) := by decide +kernel
theorem dX1_finish_126 : decode cX1_finish 126 = .ok (.iload_n 3, 1) := by decide +kernel
theorem dX1_finish_127 : decode cX1_finish 127 = .ok (.bipush 104, 2) := by decide +kernel
theorem dX1_finish_129 : decode cX1_finish 129 = .ok (.if_icmp .ne 78, 3) := by decide +kernel
theorem dX1_finish_132 : decode cX1_finish 132 = .ok (.iload 5, 2) := by decide +kernel
theorem dX1_finish_134 : decode cX1_finish 134 = .ok (.ldc 71, 2) := by decide +kernel
theorem dX1_finish_136 : decode cX1_finish 136 = .ok (.if_icmp .ne 71, 3) := by decide +kernel
theorem dX1_finish_139 : decode cX1_finish 139 = .ok (.aload_n 0, 1) := by decide +kernel
theorem dX1_finish_140 : decode cX1_finish 140 = .ok (.aload_n 0, 1) := by decide +kernel
theorem dX1_finish_141 : decode cX1_finish 141 = .ok (.getfield 17, 3) := by decide +kernel
theorem dX1_finish_144 : decode cX1_finish 144 = .ok (.iconst 4, 1) := by decide +kernel
theorem dX1_finish_145 : decode cX1_finish 145 = .ok (.ior, 1) := by decide +kernel
theorem dX1_finish_146 : decode cX1_finish 146 = .ok (.iconst 1, 1) := by decide +kernel
theorem dX1_finish_147 : decode cX1_finish 147 = .ok (.ior, 1) := by decide +kernel
theorem dX1_finish_148 : decode cX1_finish 148 = .ok (.putfield 17, 3) := by decide +kernel
theorem dX1_finish_151 : decode cX1_finish 151 = .ok (.aload_n 0, 1) := by decide +kernel
theorem dX1_finish_152 : decode cX1_finish 152 = .ok (.getfield 13, 3) := by decide +kernel
theorem dX1_finish_155 : decode cX1_finish 155 = .ok (.iconst 1, 1) := by decide +kernel
theorem dX1_finish_156 : decode cX1_finish 156 = .ok (.if_icmp .eq 27, 3) := by decide +kernel
theorem dX1_finish_159 : decode cX1_finish 159 = .ok (.aload_n 0, 1) := by decide +kernel
theorem dX1_finish_160 : decode cX1_finish 160 = .ok (.getfield 13, 3) := by decide +kernel
theorem dX1_finish_163 : decode cX1_finish 163 = .ok (.iconst 2, 1) := by decide +kernel
theorem dX1_finish_164 : decode cX1_finish 164 = .ok (.if_icmp .ne 7, 3) := by decide +kernel
theorem dX1_finish_167 : decode cX1_finish 167 = .ok (.iload_n 1, 1) := by decide +kernel
theorem dX1_finish_168 : decode cX1_finish 168 = .ok (.ifCond .ne 15, 3) := by decide +kernel
theorem dX1_finish_171 : decode cX1_finish 171 = .ok (.aload_n 0, 1) := by decide +kernel
theorem dX1_finish_172 : decode cX1_finish 172 = .ok (.getfield 13, 3) := by decide +kernel
theorem dX1_finish_175 : decode cX1_finish 175 = .ok (.iconst 3, 1) := by decide +kernel
theorem dX1_finish_176 : decode cX1_finish 176 = .ok (.if_icmp .ne 11, 3) := by decide +kernel
theorem dX1_finish_179 : decode cX1_finish 179 = .ok (.iload_n 1, 1) := by decide +kernel
theorem dX1_finish_180 : decode cX1_finish 180 = .ok (.ifCond .ne 7, 3) := by decide +kernel
theorem dX1_finish_183 : decode cX1_finish 183 = .ok (.iconst 1, 1) := by decide +kernel
theorem dX1_finish_184 : decode cX1_finish 184 = .ok (.goto 4, 3) := by decide +kernel
theorem dX1_finish_187 : decode cX1_finish 187 = .ok (.iconst 0, 1) := by decide +kernel
theorem dX1_finish_188 : decode cX1_finish 188 = .ok (.istore 6, 2) := by decide +kernel
theorem dX1_finish_190 : decode cX1_finish 190 = .ok (.iload 6, 2) := by decide +kernel
theorem dX1_finish_192 : decode cX1_finish 192 = .ok (.ifCond .eq 8, 3) := by decide +kernel
theorem dX1_finish_195 : decode cX1_finish 195 = .ok (.ldc 72, 2) := by decide +kernel
theorem dX1_finish_197 : decode cX1_finish 197 = .ok (.goto 5, 3) := by decide +kernel
theorem dX1_finish_200 : decode cX1_finish 200 = .ok (.ldc 73, 2) := by decide +kernel
theorem dX1_finish_202 : decode cX1_finish 202 = .ok (.iload_n 1, 1) := by decide +kernel
theorem dX1_finish_203 : decode cX1_finish 203 = .ok (.invokestatic 74, 3) := by decide +kernel
theorem dX1_finish_206 : decode cX1_finish 206 = .ok (.ireturn, 1) := by decide +kernel
theorem dX1_finish_207 : decode cX1_finish 207 = .ok (.iload 5, 2) := by decide +kernel
theorem dX1_finish_209 : decode cX1_finish 209 = .ok (.ldc 71, 2) := by decide +kernel
theorem dX1_finish_211 : decode cX1_finish 211 = .ok (.if_icmp .ne 16, 3) := by decide +kernel
theorem dX1_finish_214 : decode cX1_finish 214 = .ok (.iload_n 3, 1) := by decide +kernel
theorem dX1_finish_215 : decode cX1_finish 215 = .ok (.sipush 151, 3) := by decide +kernel
theorem dX1_finish_218 : decode cX1_finish 218 = .ok (.iadd, 1) := by decide +kernel
theorem dX1_finish_219 : decode cX1_finish 219 = .ok (.bipush 23, 2) := by decide +kernel
theorem dX1_finish_221 : decode cX1_finish 221 = .ok (.ishl, 1) := by decide +kernel
theorem dX1_finish_222 : decode cX1_finish 222 = .ok (.iload_n 1, 1) := by decide +kernel
theorem dX1_finish_223 : decode cX1_finish 223 = .ok (.invokestatic 74, 3) := by decide +kernel
theorem dX1_finish_226 : decode cX1_finish 226 = .ok (.ireturn, 1) := by decide +kernel
theorem dX1_finish_227 : decode cX1_finish 227 = .ok (.iload 5, 2) := by decide +kernel
theorem dX1_finish_229 : decode cX1_finish 229 = .ok (.ldc 35, 2) := by decide +kernel
theorem dX1_finish_231 : decode cX1_finish 231 = .ok (.if_icmp .ge 8, 3) := by decide +kernel
theorem dX1_finish_234 : decode cX1_finish 234 = .ok (.iload 5, 2) := by decide +kernel
theorem dX1_finish_236 : decode cX1_finish 236 = .ok (.goto 17, 3) := by decide +kernel
theorem dX1_finish_239 : decode cX1_finish 239 = .ok (.iload_n 3, 1) := by decide +kernel
theorem dX1_finish_240 : decode cX1_finish 240 = .ok (.sipush 150, 3) := by decide +kernel
theorem dX1_finish_243 : decode cX1_finish 243 = .ok (.iadd, 1) := by decide +kernel
theorem dX1_finish_244 : decode cX1_finish 244 = .ok (.bipush 23, 2) := by decide +kernel
theorem dX1_finish_246 : decode cX1_finish 246 = .ok (.ishl, 1) := by decide +kernel
theorem dX1_finish_247 : decode cX1_finish 247 = .ok (.iload 5, 2) := by decide +kernel
theorem dX1_finish_249 : decode cX1_finish 249 = .ok (.iadd, 1) := by decide +kernel
theorem dX1_finish_250 : decode cX1_finish 250 = .ok (.ldc 35, 2) := by decide +kernel
theorem dX1_finish_252 : decode cX1_finish 252 = .ok (.isub, 1) := by decide +kernel
theorem dX1_finish_253 : decode cX1_finish 253 = .ok (.iload_n 1, 1) := by decide +kernel
theorem dX1_finish_254 : decode cX1_finish 254 = .ok (.invokestatic 74, 3) := by decide +kernel
theorem dX1_finish_257 : decode cX1_finish 257 = .ok (.ireturn, 1) := by decide +kernel
set_option maxRecDepth 20000 in
theorem ggX1_zero_X1_signed : GoodIn wsX1_zero wsX1_signed := goodIn_r _ [5, 6] (by decide +kernel) (by decide +kernel)
set_option maxRecDepth 20000 in
theorem gX1_zero_X1_signed : GoodIn wsX1_zero (va_wsS RX1 74 yX1_signed wsX1_signed) := goodIn_app (goodIn_of _ (by decide +kernel)) ggX1_zero_X1_signed
theorem dX1_zero_0 : decode cX1_zero 0 = .ok (.iload_n 1, 1) := by decide +kernel
theorem dX1_zero_1 : decode cX1_zero 1 = .ok (.ifCond .eq 14, 3) := by decide +kernel
theorem dX1_zero_4 : decode cX1_zero 4 = .ok (.iload_n 2, 1) := by decide +kernel
theorem dX1_zero_5 : decode cX1_zero 5 = .ok (.iload_n 3, 1) := by decide +kernel
theorem dX1_zero_6 : decode cX1_zero 6 = .ok (.if_icmp .ne 9, 3) := by decide +kernel
theorem dX1_zero_9 : decode cX1_zero 9 = .ok (.iconst 0, 1) := by decide +kernel
theorem dX1_zero_10 : decode cX1_zero 10 = .ok (.iload_n 2, 1) := by decide +kernel
theorem dX1_zero_11 : decode cX1_zero 11 = .ok (.invokestatic 74, 3) := by decide +kernel
theorem dX1_zero_14 : decode cX1_zero 14 = .ok (.ireturn, 1) := by decide +kernel
theorem dX1_zero_15 : decode cX1_zero 15 = .ok (.iconst 0, 1) := by decide +kernel
theorem dX1_zero_16 : decode cX1_zero 16 = .ok (.aload_n 0, 1) := by decide +kernel
theorem dX1_zero_17 : decode cX1_zero 17 = .ok (.getfield 13, 3) := by decide +kernel
theorem dX1_zero_20 : decode cX1_zero 20 = .ok (.iconst 3, 1) := by decide +kernel
theorem dX1_zero_21 : decode cX1_zero 21 = .ok (.if_icmp .ne 7, 3) := by decide +kernel
theorem dX1_zero_24 : decode cX1_zero 24 = .ok (.iconst 1, 1) := by decide +kernel
theorem dX1_zero_25 : decode cX1_zero 25 = .ok (.goto 4, 3) := by decide +kernel
theorem dX1_zero_28 : decode cX1_zero 28 = .ok (.iconst 0, 1) := by decide +kernel
theorem dX1_zero_29 : decode cX1_zero 29 = .ok (.invokestatic 74, 3) := by decide +kernel
theorem dX1_zero_32 : decode cX1_zero 32 = .ok (.ireturn, 1) := by decide +kernel
set_option maxRecDepth 20000 in
theorem ggX1_add_X1_isNone : GoodIn wsX1_add wsX1_isNone := goodIn_r _ [4, 5, 6, 3, 7, 8, 9, 10, 11] (by decide +kernel) (by decide +kernel)
set_option maxRecDepth 20000 in
theorem gX1_add_X1_isNone : GoodIn wsX1_add (va_wsS RX1 28 yX1_isNone wsX1_isNone) := goodIn_app (goodIn_of _ (by decide +kernel)) ggX1_add_X1_isNone
set_option maxRecDepth 20000 in
theorem ggX1_add_X1_none : GoodIn wsX1_add wsX1_none := goodIn_r _ [15, 16, 17, 18, 19, 3, 20, 21, 1, 2, 4, 5, 6, 7, 8, 9, 10, 11, 97, 98, 99, 100, 101, 102] (by decide +kernel) (by decide +kernel)
set_option maxRecDepth 20000 in
theorem gX1_add_X1_none : GoodIn wsX1_add (wsV RX1 77 RX1 yX1_none wsX1_none) := goodIn_app (goodIn_of _ (by decide +kernel)) ggX1_add_X1_none
set_option maxRecDepth 20000 in
theorem ggX1_add_X1_isInfinite : GoodIn wsX1_add wsX1_isInfinite := goodIn_r _ [24, 5, 6, 3, 7, 8, 9, 10, 11] (by decide +kernel) (by decide +kernel)
set_option maxRecDepth 20000 in
theorem gX1_add_X1_isInfinite : GoodIn wsX1_add (va_wsS RX1 81 yX1_isInfinite wsX1_isInfinite) := goodIn_app (goodIn_of _ (by decide +kernel)) ggX1_add_X1_isInfinite
set_option maxRecDepth 20000 in
theorem ggX1_add_X1_isNegative : GoodIn wsX1_add wsX1_isNegative := goodIn_r _ [27] (by decide +kernel) (by decide +kernel)
set_option maxRecDepth 20000 in
theorem gX1_add_X1_isNegative : GoodIn wsX1_add (va_wsS RX1 84 yX1_isNegative wsX1_isNegative) := goodIn_app (goodIn_of _ (by decide +kernel)) ggX1_add_X1_isNegative
set_option maxRecDepth 20000 in
theorem ggX1_add_X1_invalid : GoodIn wsX1_add wsX1_invalid := goodIn_r _ [31, 16, 17, 97, 98, 99, 100, 101, 102] (by decide +kernel) (by decide +kernel)
set_option maxRecDepth 20000 in
theorem gX1_add_X1_invalid : GoodIn wsX1_add (wsV RX1 87 RX1 yX1_invalid wsX1_invalid) := goodIn_app (goodIn_of _ (by decide +kernel)) ggX1_add_X1_invalid
set_option maxRecDepth 20000 in
theorem ggX1_add_X1_empty : GoodIn wsX1_add wsX1_empty := goodIn_r _ [35, 36, 37, 38, 97, 98, 99, 100, 101, 102] (by decide +kernel) (by decide +kernel)
set_option maxRecDepth 20000 in
theorem gX1_add_X1_empty : GoodIn wsX1_add (wsV RX1 90 RX1 yX1_empty wsX1_empty) := goodIn_app (goodIn_of _ (by decide +kernel)) ggX1_add_X1_empty
set_option maxRecDepth 20000 in
theorem ggX1_add_X1_units : GoodIn wsX1_add wsX1_units := goodIn_r _ [41, 42, 5, 6, 3, 7, 8, 9, 10, 11] (by decide +kernel) (by decide +kernel)
set_option maxRecDepth 20000 in
theorem gX1_add_X1_units : GoodIn wsX1_add (va_wsS RX1 94 yX1_units wsX1_units) := goodIn_app (goodIn_of _ (by decide +kernel)) ggX1_add_X1_units
set_option maxRecDepth 20000 in
theorem ggX1_add_X1_place : GoodIn wsX1_add wsX1_place := goodIn_r _ [45, 5, 6, 3, 7] (by decide +kernel) (by decide +kernel)
set_option maxRecDepth 20000 in
theorem gX1_add_X1_place : GoodIn wsX1_add (va_wsS RX1 97 yX1_place wsX1_place) := goodIn_app (goodIn_of _ (by decide +kernel)) ggX1_add_X1_place
set_option maxRecDepth 20000 in
theorem ggX1_add_X1_put : GoodIn wsX1_add wsX1_put := goodIn_r _ [49, 37, 36, 50, 97, 98, 99, 100, 101, 102] (by decide +kernel) (by decide +kernel)
set_option maxRecDepth 20000 in
theorem gX1_add_X1_put : GoodIn wsX1_add (wsV RX1 100 RX1 yX1_put wsX1_put) := goodIn_app (goodIn_of _ (by decide +kernel)) ggX1_add_X1_put
set_option maxRecDepth 20000 in
theorem ggX1_add_X1_settle : GoodIn wsX1_add wsX1_settle := goodIn_r _ [54, 36, 55, 56, 57, 3, 58, 59, 97, 98, 99, 100, 101, 102] (by decide +kernel) (by decide +kernel)
set_option maxRecDepth 20000 in
theorem gX1_add_X1_settle : GoodIn wsX1_add (wsV RX1 104 RX1 yX1_settle wsX1_settle) := goodIn_app (goodIn_of _ (by decide +kernel)) ggX1_add_X1_settle
set_option maxRecDepth 20000 in
theorem ggX1_add_X1_top : GoodIn wsX1_add wsX1_top := goodIn_r _ [63, 64, 65, 66, 3, 67, 36, 97, 98, 99, 100, 101, 102] (by decide +kernel) (by decide +kernel)
set_option maxRecDepth 20000 in
theorem gX1_add_X1_top : GoodIn wsX1_add (wsV RX1 63 RX1 yX1_top wsX1_top) := goodIn_app (goodIn_of _ (by decide +kernel)) ggX1_add_X1_top
set_option maxRecDepth 20000 in
theorem ggX1_add_X1_isZero : GoodIn wsX1_add wsX1_isZero := goodIn_r _ [70, 71] (by decide +kernel) (by decide +kernel)
set_option maxRecDepth 20000 in
theorem gX1_add_X1_isZero : GoodIn wsX1_add (va_wsS RX1 108 yX1_isZero wsX1_isZero) := goodIn_app (goodIn_of _ (by decide +kernel)) ggX1_add_X1_isZero
set_option maxRecDepth 20000 in
theorem ggX1_add_X1_zero : GoodIn wsX1_add wsX1_zero := goodIn_r _ [75, 76, 77, 78, 3, 79, 80, 97, 98, 99, 100, 101, 102] (by decide +kernel) (by decide +kernel)
set_option maxRecDepth 20000 in
theorem gX1_add_X1_zero : GoodIn wsX1_add (wsV RX1 111 RX1 yX1_zero wsX1_zero) := goodIn_app (goodIn_of _ (by decide +kernel)) ggX1_add_X1_zero
set_option maxRecDepth 20000 in
theorem ggX1_add_X1_finish : GoodIn wsX1_add wsX1_finish := goodIn_r _ [84, 37, 85, 86, 16, 76, 87, 88, 42, 60, 61, 62, 3, 63, 64, 65, 66, 67, 36, 89, 90, 91, 92, 93, 94, 95, 96, 38, 77, 78, 79, 80, 97, 98, 99, 100, 101, 102] (by decide +kernel) (by decide +kernel)
set_option maxRecDepth 20000 in
theorem gX1_add_X1_finish : GoodIn wsX1_add (wsV RX1 115 RX1 yX1_finish wsX1_finish) := goodIn_app (goodIn_of _ (by decide +kernel)) ggX1_add_X1_finish
theorem dX1_add_0 : decode cX1_add 0 = .ok (.iload_n 1, 1) := by decide +kernel
theorem dX1_add_1 : decode cX1_add 1 = .ok (.invokestatic 28, 3) := by decide +kernel
theorem dX1_add_4 : decode cX1_add 4 = .ok (.ifCond .ne 10, 3) := by decide +kernel
theorem dX1_add_7 : decode cX1_add 7 = .ok (.iload_n 2, 1) := by decide +kernel
theorem dX1_add_8 : decode cX1_add 8 = .ok (.invokestatic 28, 3) := by decide +kernel
theorem dX1_add_11 : decode cX1_add 11 = .ok (.ifCond .eq 11, 3) := by decide +kernel
theorem dX1_add_14 : decode cX1_add 14 = .ok (.aload_n 0, 1) := by decide +kernel
theorem dX1_add_15 : decode cX1_add 15 = .ok (.iload_n 1, 1) := by decide +kernel
theorem dX1_add_16 : decode cX1_add 16 = .ok (.iload_n 2, 1) := by decide +kernel
theorem dX1_add_17 : decode cX1_add 17 = .ok (.iconst 0, 1) := by decide +kernel
theorem dX1_add_18 : decode cX1_add 18 = .ok (.invokevirtual 77, 3) := by decide +kernel
theorem dX1_add_21 : decode cX1_add 21 = .ok (.ireturn, 1) := by decide +kernel
theorem dX1_add_22 : decode cX1_add 22 = .ok (.iload_n 1, 1) := by decide +kernel
theorem dX1_add_23 : decode cX1_add 23 = .ok (.invokestatic 81, 3) := by decide +kernel
theorem dX1_add_26 : decode cX1_add 26 = .ok (.ifCond .eq 26, 3) := by decide +kernel
theorem dX1_add_29 : decode cX1_add 29 = .ok (.iload_n 2, 1) := by decide +kernel
theorem dX1_add_30 : decode cX1_add 30 = .ok (.invokestatic 81, 3) := by decide +kernel
theorem dX1_add_33 : decode cX1_add 33 = .ok (.ifCond .eq 19, 3) := by decide +kernel
theorem dX1_add_36 : decode cX1_add 36 = .ok (.iload_n 1, 1) := by decide +kernel
theorem dX1_add_37 : decode cX1_add 37 = .ok (.invokestatic 84, 3) := by decide +kernel
theorem dX1_add_40 : decode cX1_add 40 = .ok (.iload_n 2, 1) := by decide +kernel
theorem dX1_add_41 : decode cX1_add 41 = .ok (.invokestatic 84, 3) := by decide +kernel
theorem dX1_add_44 : decode cX1_add 44 = .ok (.if_icmp .eq 8, 3) := by decide +kernel
theorem dX1_add_47 : decode cX1_add 47 = .ok (.aload_n 0, 1) := by decide +kernel
theorem dX1_add_48 : decode cX1_add 48 = .ok (.invokevirtual 87, 3) := by decide +kernel
theorem dX1_add_51 : decode cX1_add 51 = .ok (.ireturn, 1) := by decide +kernel
theorem dX1_add_52 : decode cX1_add 52 = .ok (.iload_n 1, 1) := by decide +kernel
theorem dX1_add_53 : decode cX1_add 53 = .ok (.invokestatic 81, 3) := by decide +kernel
theorem dX1_add_56 : decode cX1_add 56 = .ok (.ifCond .eq 5, 3) := by decide +kernel
theorem dX1_add_59 : decode cX1_add 59 = .ok (.iload_n 1, 1) := by decide +kernel
theorem dX1_add_60 : decode cX1_add 60 = .ok (.ireturn, 1) := by decide +kernel
theorem dX1_add_61 : decode cX1_add 61 = .ok (.iload_n 2, 1) := by decide +kernel
theorem dX1_add_62 : decode cX1_add 62 = .ok (.invokestatic 81, 3) := by decide +kernel
theorem dX1_add_65 : decode cX1_add 65 = .ok (.ifCond .eq 5, 3) := by decide +kernel
theorem dX1_add_68 : decode cX1_add 68 = .ok (.iload_n 2, 1) := by decide +kernel
theorem dX1_add_69 : decode cX1_add 69 = .ok (.ireturn, 1) := by decide +kernel
theorem dX1_add_70 : decode cX1_add 70 = .ok (.aload_n 0, 1) := by decide +kernel
theorem dX1_add_71 : decode cX1_add 71 = .ok (.sipush (-298), 3) := by decide +kernel
theorem dX1_add_74 : decode cX1_add 74 = .ok (.invokevirtual 90, 3) := by decide +kernel
theorem dX1_add_77 : decode cX1_add 77 = .ok (.aload_n 0, 1) := by decide +kernel
theorem dX1_add_78 : decode cX1_add 78 = .ok (.iload_n 1, 1) := by decide +kernel
theorem dX1_add_79 : decode cX1_add 79 = .ok (.invokestatic 94, 3) := by decide +kernel
theorem dX1_add_82 : decode cX1_add 82 = .ok (.i2l, 1) := by decide +kernel
theorem dX1_add_83 : decode cX1_add 83 = .ok (.iload_n 1, 1) := by decide +kernel
theorem dX1_add_84 : decode cX1_add 84 = .ok (.invokestatic 97, 3) := by decide +kernel
theorem dX1_add_87 : decode cX1_add 87 = .ok (.iload_n 1, 1) := by decide +kernel
theorem dX1_add_88 : decode cX1_add 88 = .ok (.invokestatic 84, 3) := by decide +kernel
theorem dX1_add_91 : decode cX1_add 91 = .ok (.invokevirtual 100, 3) := by decide +kernel
theorem dX1_add_94 : decode cX1_add 94 = .ok (.aload_n 0, 1) := by decide +kernel
theorem dX1_add_95 : decode cX1_add 95 = .ok (.iload_n 2, 1) := by decide +kernel
theorem dX1_add_96 : decode cX1_add 96 = .ok (.invokestatic 94, 3) := by decide +kernel
theorem dX1_add_99 : decode cX1_add 99 = .ok (.i2l, 1) := by decide +kernel
theorem dX1_add_100 : decode cX1_add 100 = .ok (.iload_n 2, 1) := by decide +kernel
theorem dX1_add_101 : decode cX1_add 101 = .ok (.invokestatic 97, 3) := by decide +kernel
theorem dX1_add_104 : decode cX1_add 104 = .ok (.iload_n 2, 1) := by decide +kernel
theorem dX1_add_105 : decode cX1_add 105 = .ok (.invokestatic 84, 3) := by decide +kernel
theorem dX1_add_108 : decode cX1_add 108 = .ok (.invokevirtual 100, 3) := by decide +kernel
theorem dX1_add_111 : decode cX1_add 111 = .ok (.aload_n 0, 1) := by decide +kernel
theorem dX1_add_112 : decode cX1_add 112 = .ok (.invokevirtual 104, 3) := by decide +kernel
theorem dX1_add_115 : decode cX1_add 115 = .ok (.istore_n 3, 1) := by decide +kernel
theorem dX1_add_116 : decode cX1_add 116 = .ok (.aload_n 0, 1) := by decide +kernel
theorem dX1_add_117 : decode cX1_add 117 = .ok (.invokevirtual 63, 3) := by decide +kernel
theorem dX1_add_120 : decode cX1_add 120 = .ok (.ifCond .ge 37, 3) := by decide +kernel
theorem dX1_add_123 : decode cX1_add 123 = .ok (.aload_n 0, 1) := by decide +kernel
theorem dX1_add_124 : decode cX1_add 124 = .ok (.iload_n 1, 1) := by decide +kernel
theorem dX1_add_125 : decode cX1_add 125 = .ok (.invokestatic 108, 3) := by decide +kernel
theorem dX1_add_128 : decode cX1_add 128 = .ok (.ifCond .eq 14, 3) := by decide +kernel
theorem dX1_add_131 : decode cX1_add 131 = .ok (.iload_n 2, 1) := by decide +kernel
theorem dX1_add_132 : decode cX1_add 132 = .ok (.invokestatic 108, 3) := by decide +kernel
theorem dX1_add_135 : decode cX1_add 135 = .ok (.ifCond .eq 7, 3) := by decide +kernel
theorem dX1_add_138 : decode cX1_add 138 = .ok (.iconst 1, 1) := by decide +kernel
theorem dX1_add_139 : decode cX1_add 139 = .ok (.goto 4, 3) := by decide +kernel
theorem dX1_add_142 : decode cX1_add 142 = .ok (.iconst 0, 1) := by decide +kernel
theorem dX1_add_143 : decode cX1_add 143 = .ok (.iload_n 1, 1) := by decide +kernel
theorem dX1_add_144 : decode cX1_add 144 = .ok (.invokestatic 84, 3) := by decide +kernel
theorem dX1_add_147 : decode cX1_add 147 = .ok (.iload_n 2, 1) := by decide +kernel
theorem dX1_add_148 : decode cX1_add 148 = .ok (.invokestatic 84, 3) := by decide +kernel
theorem dX1_add_151 : decode cX1_add 151 = .ok (.invokevirtual 111, 3) := by decide +kernel
theorem dX1_add_154 : decode cX1_add 154 = .ok (.goto 8, 3) := by decide +kernel
theorem dX1_add_157 : decode cX1_add 157 = .ok (.aload_n 0, 1) := by decide +kernel
theorem dX1_add_158 : decode cX1_add 158 = .ok (.iload_n 3, 1) := by decide +kernel
theorem dX1_add_159 : decode cX1_add 159 = .ok (.invokevirtual 115, 3) := by decide +kernel
theorem dX1_add_162 : decode cX1_add 162 = .ok (.ireturn, 1) := by decide +kernel
set_option maxRecDepth 20000 in
theorem ggX1_subtract_X1_isNone : GoodIn wsX1_subtract wsX1_isNone := goodIn_r _ [5, 6, 7, 4, 8, 9, 10, 11, 12] (by decide +kernel) (by decide +kernel)
set_option maxRecDepth 20000 in
theorem gX1_subtract_X1_isNone : GoodIn wsX1_subtract (va_wsS RX1 28 yX1_isNone wsX1_isNone) := goodIn_app (goodIn_of _ (by decide +kernel)) ggX1_subtract_X1_isNone
set_option maxRecDepth 20000 in
theorem ggX1_subtract_X1_none : GoodIn wsX1_subtract wsX1_none := goodIn_r _ [16, 17, 18, 19, 20, 4, 21, 22, 2, 3, 5, 6, 7, 8, 9, 10, 11, 12, 101, 102, 103, 104, 105, 106] (by decide +kernel) (by decide +kernel)
set_option maxRecDepth 20000 in
theorem gX1_subtract_X1_none : GoodIn wsX1_subtract (wsV RX1 77 RX1 yX1_none wsX1_none) := goodIn_app (goodIn_of _ (by decide +kernel)) ggX1_subtract_X1_none
set_option maxRecDepth 20000 in
theorem ggX1_subtract_X1_add : GoodIn wsX1_subtract wsX1_add := goodIn_r _ [26, 2, 3, 4, 5, 6, 7, 8, 9, 10, 11, 12, 13, 14, 15, 16, 17, 18, 19, 20, 21, 22, 27, 28, 29, 30, 31, 32, 33, 34, 35, 36, 37, 38, 39, 40, 41, 42, 43, 44, 45, 46, 47, 48, 49, 50, 51, 52, 53, 54, 55, 56, 57, 58, 59, 60, 61, 62, 63, 64, 65, 66, 67, 68, 69, 70, 71, 72, 73, 74, 75, 76, 77, 78, 79, 80, 81, 82, 83, 84, 1, 85, 86, 87, 88, 89, 90, 91, 92, 93, 94, 95, 96, 97, 98, 99, 100, 101, 102, 103, 104, 105, 106] (by decide +kernel) (by decide +kernel)
set_option maxRecDepth 20000 in
theorem gX1_subtract_X1_add : GoodIn wsX1_subtract (wsV RX1 119 RX1 yX1_add wsX1_add) := goodIn_app (goodIn_of _ (by decide +kernel)) ggX1_subtract_X1_add
theorem dX1_subtract_0 : decode cX1_subtract 0 = .ok (.iload_n 2, 1) := by decide +kernel
theorem dX1_subtract_1 : decode cX1_subtract 1 = .ok (.invokestatic 28, 3) := by decide +kernel
theorem dX1_subtract_4 : decode cX1_subtract 4 = .ok (.ifCond .eq 13, 3) := by decide +kernel
theorem dX1_subtract_7 : decode cX1_subtract 7 = .ok (.aload_n 0, 1) := by decide +kernel
theorem dX1_subtract_8 : decode cX1_subtract 8 = .ok (.iload_n 1, 1) := by decide +kernel
theorem dX1_subtract_9 : decode cX1_subtract 9 = .ok (.iload_n 2, 1) := by decide +kernel
theorem dX1_subtract_10 : decode cX1_subtract 10 = .ok (.iconst 0, 1) := by decide +kernel
theorem dX1_subtract_11 : decode cX1_subtract 11 = .ok (.invokevirtual 77, 3) := by decide +kernel
theorem dX1_subtract_14 : decode cX1_subtract 14 = .ok (.goto 12, 3) := by decide +kernel
theorem dX1_subtract_17 : decode cX1_subtract 17 = .ok (.aload_n 0, 1) := by decide +kernel
theorem dX1_subtract_18 : decode cX1_subtract 18 = .ok (.iload_n 1, 1) := by decide +kernel
theorem dX1_subtract_19 : decode cX1_subtract 19 = .ok (.iload_n 2, 1) := by decide +kernel
theorem dX1_subtract_20 : decode cX1_subtract 20 = .ok (.ldc 34, 2) := by decide +kernel
theorem dX1_subtract_22 : decode cX1_subtract 22 = .ok (.ixor, 1) := by decide +kernel
theorem dX1_subtract_23 : decode cX1_subtract 23 = .ok (.invokevirtual 119, 3) := by decide +kernel
theorem dX1_subtract_26 : decode cX1_subtract 26 = .ok (.ireturn, 1) := by decide +kernel
set_option maxRecDepth 20000 in
theorem ggX1_fused_X1_isNone : GoodIn wsX1_fused wsX1_isNone := goodIn_r _ [5, 6, 7, 4, 8, 9, 10, 11, 12] (by decide +kernel) (by decide +kernel)
set_option maxRecDepth 20000 in
theorem gX1_fused_X1_isNone : GoodIn wsX1_fused (va_wsS RX1 28 yX1_isNone wsX1_isNone) := goodIn_app (goodIn_of _ (by decide +kernel)) ggX1_fused_X1_isNone
set_option maxRecDepth 20000 in
theorem ggX1_fused_X1_isZero : GoodIn wsX1_fused wsX1_isZero := goodIn_r _ [15, 16] (by decide +kernel) (by decide +kernel)
set_option maxRecDepth 20000 in
theorem gX1_fused_X1_isZero : GoodIn wsX1_fused (va_wsS RX1 108 yX1_isZero wsX1_isZero) := goodIn_app (goodIn_of _ (by decide +kernel)) ggX1_fused_X1_isZero
set_option maxRecDepth 20000 in
theorem ggX1_fused_X1_isInfinite : GoodIn wsX1_fused wsX1_isInfinite := goodIn_r _ [19, 6, 7, 4, 8, 9, 10, 11, 12] (by decide +kernel) (by decide +kernel)
set_option maxRecDepth 20000 in
theorem gX1_fused_X1_isInfinite : GoodIn wsX1_fused (va_wsS RX1 81 yX1_isInfinite wsX1_isInfinite) := goodIn_app (goodIn_of _ (by decide +kernel)) ggX1_fused_X1_isInfinite
set_option maxRecDepth 20000 in
theorem ggX1_fused_X1_invalid : GoodIn wsX1_fused wsX1_invalid := goodIn_r _ [23, 24, 25, 97, 98, 99, 100, 101, 102] (by decide +kernel) (by decide +kernel)
set_option maxRecDepth 20000 in
theorem gX1_fused_X1_invalid : GoodIn wsX1_fused (wsV RX1 87 RX1 yX1_invalid wsX1_invalid) := goodIn_app (goodIn_of _ (by decide +kernel)) ggX1_fused_X1_invalid
set_option maxRecDepth 20000 in
theorem ggX1_fused_X1_none : GoodIn wsX1_fused wsX1_none := goodIn_r _ [29, 24, 25, 30, 31, 4, 32, 33, 2, 3, 5, 6, 7, 8, 9, 10, 11, 12, 97, 98, 99, 100, 101, 102] (by decide +kernel) (by decide +kernel)
set_option maxRecDepth 20000 in
theorem gX1_fused_X1_none : GoodIn wsX1_fused (wsV RX1 77 RX1 yX1_none wsX1_none) := goodIn_app (goodIn_of _ (by decide +kernel)) ggX1_fused_X1_none
set_option maxRecDepth 20000 in
theorem ggX1_fused_X1_isNegative : GoodIn wsX1_fused wsX1_isNegative := goodIn_r _ [36] (by decide +kernel) (by decide +kernel)
set_option maxRecDepth 20000 in
theorem gX1_fused_X1_isNegative : GoodIn wsX1_fused (va_wsS RX1 84 yX1_isNegative wsX1_isNegative) := goodIn_app (goodIn_of _ (by decide +kernel)) ggX1_fused_X1_isNegative
set_option maxRecDepth 20000 in
theorem ggX1_fused_X1_signed : GoodIn wsX1_fused wsX1_signed := goodIn_r _ [39, 40] (by decide +kernel) (by decide +kernel)
set_option maxRecDepth 20000 in
theorem gX1_fused_X1_signed : GoodIn wsX1_fused (va_wsS RX1 74 yX1_signed wsX1_signed) := goodIn_app (goodIn_of _ (by decide +kernel)) ggX1_fused_X1_signed
set_option maxRecDepth 20000 in
theorem ggX1_fused_X1_empty : GoodIn wsX1_fused wsX1_empty := goodIn_r _ [44, 45, 46, 47, 97, 98, 99, 100, 101, 102] (by decide +kernel) (by decide +kernel)
set_option maxRecDepth 20000 in
theorem gX1_fused_X1_empty : GoodIn wsX1_fused (wsV RX1 90 RX1 yX1_empty wsX1_empty) := goodIn_app (goodIn_of _ (by decide +kernel)) ggX1_fused_X1_empty
set_option maxRecDepth 20000 in
theorem ggX1_fused_X1_units : GoodIn wsX1_fused wsX1_units := goodIn_r _ [50, 51, 6, 7, 4, 8, 9, 10, 11, 12] (by decide +kernel) (by decide +kernel)
set_option maxRecDepth 20000 in
theorem gX1_fused_X1_units : GoodIn wsX1_fused (va_wsS RX1 94 yX1_units wsX1_units) := goodIn_app (goodIn_of _ (by decide +kernel)) ggX1_fused_X1_units
set_option maxRecDepth 20000 in
theorem ggX1_fused_X1_place : GoodIn wsX1_fused wsX1_place := goodIn_r _ [54, 6, 7, 4, 8] (by decide +kernel) (by decide +kernel)
set_option maxRecDepth 20000 in
theorem gX1_fused_X1_place : GoodIn wsX1_fused (va_wsS RX1 97 yX1_place wsX1_place) := goodIn_app (goodIn_of _ (by decide +kernel)) ggX1_fused_X1_place
set_option maxRecDepth 20000 in
theorem ggX1_fused_X1_put : GoodIn wsX1_fused wsX1_put := goodIn_r _ [58, 46, 45, 59, 97, 98, 99, 100, 101, 102] (by decide +kernel) (by decide +kernel)
set_option maxRecDepth 20000 in
theorem gX1_fused_X1_put : GoodIn wsX1_fused (wsV RX1 100 RX1 yX1_put wsX1_put) := goodIn_app (goodIn_of _ (by decide +kernel)) ggX1_fused_X1_put
set_option maxRecDepth 20000 in
theorem ggX1_fused_X1_settle : GoodIn wsX1_fused wsX1_settle := goodIn_r _ [63, 45, 64, 65, 66, 4, 67, 68, 97, 98, 99, 100, 101, 102] (by decide +kernel) (by decide +kernel)
set_option maxRecDepth 20000 in
theorem gX1_fused_X1_settle : GoodIn wsX1_fused (wsV RX1 104 RX1 yX1_settle wsX1_settle) := goodIn_app (goodIn_of _ (by decide +kernel)) ggX1_fused_X1_settle
set_option maxRecDepth 20000 in
theorem ggX1_fused_X1_top : GoodIn wsX1_fused wsX1_top := goodIn_r _ [72, 73, 74, 75, 4, 76, 45, 97, 98, 99, 100, 101, 102] (by decide +kernel) (by decide +kernel)
set_option maxRecDepth 20000 in
theorem gX1_fused_X1_top : GoodIn wsX1_fused (wsV RX1 63 RX1 yX1_top wsX1_top) := goodIn_app (goodIn_of _ (by decide +kernel)) ggX1_fused_X1_top
set_option maxRecDepth 20000 in
theorem ggX1_fused_X1_zero : GoodIn wsX1_fused wsX1_zero := goodIn_r _ [80, 81, 37, 38, 4, 39, 40, 97, 98, 99, 100, 101, 102] (by decide +kernel) (by decide +kernel)
set_option maxRecDepth 20000 in
theorem gX1_fused_X1_zero : GoodIn wsX1_fused (wsV RX1 111 RX1 yX1_zero wsX1_zero) := goodIn_app (goodIn_of _ (by decide +kernel)) ggX1_fused_X1_zero
set_option maxRecDepth 20000 in
theorem ggX1_fused_X1_finish : GoodIn wsX1_fused wsX1_finish := goodIn_r _ [85, 46, 86, 87, 24, 81, 88, 1, 51, 69, 70, 71, 4, 72, 73, 74, 75, 76, 45, 89, 90, 91, 92, 93, 94, 95, 96, 47, 37, 38, 39, 40, 97, 98, 99, 100, 101, 102] (by decide +kernel) (by decide +kernel)
set_option maxRecDepth 20000 in
theorem gX1_fused_X1_finish : GoodIn wsX1_fused (wsV RX1 115 RX1 yX1_finish wsX1_finish) := goodIn_app (goodIn_of _ (by decide +kernel)) ggX1_fused_X1_finish
theorem dX1_fused_0 : decode cX1_fused 0 = .ok (.iload_n 1, 1) := by decide +kernel
theorem dX1_fused_1 : decode cX1_fused 1 = .ok (.invokestatic 28, 3) := by decide +kernel
theorem dX1_fused_4 : decode cX1_fused 4 = .ok (.ifCond .ne 14, 3) := by decide +kernel
theorem dX1_fused_7 : decode cX1_fused 7 = .ok (.iload_n 2, 1) := by decide +kernel
theorem dX1_fused_8 : decode cX1_fused 8 = .ok (.invokestatic 28, 3) := by decide +kernel
theorem dX1_fused_11 : decode cX1_fused 11 = .ok (.ifCond .ne 7, 3) := by decide +kernel
theorem dX1_fused_14 : decode cX1_fused 14 = .ok (.iconst 1, 1) := by decide +kernel
theorem dX1_fused_15 : decode cX1_fused 15 = .ok (.goto 4, 3) := by decide +kernel
theorem dX1_fused_18 : decode cX1_fused 18 = .ok (.iconst 0, 1) := by decide +kernel
theorem dX1_fused_19 : decode cX1_fused 19 = .ok (.istore 4, 2) := by decide +kernel
theorem dX1_fused_21 : decode cX1_fused 21 = .ok (.iload 4, 2) := by decide +kernel
theorem dX1_fused_23 : decode cX1_fused 23 = .ok (.ifCond .eq 36, 3) := by decide +kernel
theorem dX1_fused_26 : decode cX1_fused 26 = .ok (.iload_n 1, 1) := by decide +kernel
theorem dX1_fused_27 : decode cX1_fused 27 = .ok (.invokestatic 108, 3) := by decide +kernel
theorem dX1_fused_30 : decode cX1_fused 30 = .ok (.ifCond .eq 10, 3) := by decide +kernel
theorem dX1_fused_33 : decode cX1_fused 33 = .ok (.iload_n 2, 1) := by decide +kernel
theorem dX1_fused_34 : decode cX1_fused 34 = .ok (.invokestatic 81, 3) := by decide +kernel
theorem dX1_fused_37 : decode cX1_fused 37 = .ok (.ifCond .ne 17, 3) := by decide +kernel
theorem dX1_fused_40 : decode cX1_fused 40 = .ok (.iload_n 1, 1) := by decide +kernel
theorem dX1_fused_41 : decode cX1_fused 41 = .ok (.invokestatic 81, 3) := by decide +kernel
theorem dX1_fused_44 : decode cX1_fused 44 = .ok (.ifCond .eq 15, 3) := by decide +kernel
theorem dX1_fused_47 : decode cX1_fused 47 = .ok (.iload_n 2, 1) := by decide +kernel
theorem dX1_fused_48 : decode cX1_fused 48 = .ok (.invokestatic 108, 3) := by decide +kernel
theorem dX1_fused_51 : decode cX1_fused 51 = .ok (.ifCond .eq 8, 3) := by decide +kernel
theorem dX1_fused_54 : decode cX1_fused 54 = .ok (.aload_n 0, 1) := by decide +kernel
theorem dX1_fused_55 : decode cX1_fused 55 = .ok (.invokevirtual 87, 3) := by decide +kernel
theorem dX1_fused_58 : decode cX1_fused 58 = .ok (.ireturn, 1) := by decide +kernel
theorem dX1_fused_59 : decode cX1_fused 59 = .ok (.iload 4, 2) := by decide +kernel
theorem dX1_fused_61 : decode cX1_fused 61 = .ok (.ifCond .eq 10, 3) := by decide +kernel
theorem dX1_fused_64 : decode cX1_fused 64 = .ok (.iload_n 3, 1) := by decide +kernel
theorem dX1_fused_65 : decode cX1_fused 65 = .ok (.invokestatic 28, 3) := by decide +kernel
theorem dX1_fused_68 : decode cX1_fused 68 = .ok (.ifCond .eq 11, 3) := by decide +kernel
theorem dX1_fused_71 : decode cX1_fused 71 = .ok (.aload_n 0, 1) := by decide +kernel
theorem dX1_fused_72 : decode cX1_fused 72 = .ok (.iload_n 1, 1) := by decide +kernel
theorem dX1_fused_73 : decode cX1_fused 73 = .ok (.iload_n 2, 1) := by decide +kernel
theorem dX1_fused_74 : decode cX1_fused 74 = .ok (.iload_n 3, 1) := by decide +kernel
theorem dX1_fused_75 : decode cX1_fused 75 = .ok (.invokevirtual 77, 3) := by decide +kernel
theorem dX1_fused_78 : decode cX1_fused 78 = .ok (.ireturn, 1) := by decide +kernel
theorem dX1_fused_79 : decode cX1_fused 79 = .ok (.iload_n 1, 1) := by decide +kernel
theorem dX1_fused_80 : decode cX1_fused 80 = .ok (.invokestatic 84, 3) := by decide +kernel
theorem dX1_fused_83 : decode cX1_fused 83 = .ok (.iload_n 2, 1) := by decide +kernel
theorem dX1_fused_84 : decode cX1_fused 84 = .ok (.invokestatic 84, 3) := by decide +kernel
theorem dX1_fused_87 : decode cX1_fused 87 = .ok (.if_icmp .eq 7, 3) := by decide +kernel
theorem dX1_fused_90 : decode cX1_fused 90 = .ok (.iconst 1, 1) := by decide +kernel
theorem dX1_fused_91 : decode cX1_fused 91 = .ok (.goto 4, 3) := by decide +kernel
theorem dX1_fused_94 : decode cX1_fused 94 = .ok (.iconst 0, 1) := by decide +kernel
theorem dX1_fused_95 : decode cX1_fused 95 = .ok (.istore 5, 2) := by decide +kernel
theorem dX1_fused_97 : decode cX1_fused 97 = .ok (.iload_n 1, 1) := by decide +kernel
theorem dX1_fused_98 : decode cX1_fused 98 = .ok (.invokestatic 81, 3) := by decide +kernel
theorem dX1_fused_101 : decode cX1_fused 101 = .ok (.ifCond .ne 10, 3) := by decide +kernel
theorem dX1_fused_104 : decode cX1_fused 104 = .ok (.iload_n 2, 1) := by decide +kernel
theorem dX1_fused_105 : decode cX1_fused 105 = .ok (.invokestatic 81, 3) := by decide +kernel
theorem dX1_fused_108 : decode cX1_fused 108 = .ok (.ifCond .eq 7, 3) := by decide +kernel
theorem dX1_fused_111 : decode cX1_fused 111 = .ok (.iconst 1, 1) := by decide +kernel
theorem dX1_fused_112 : decode cX1_fused 112 = .ok (.goto 4, 3) := by decide +kernel
theorem dX1_fused_115 : decode cX1_fused 115 = .ok (.iconst 0, 1) := by decide +kernel
theorem dX1_fused_116 : decode cX1_fused 116 = .ok (.istore 6, 2) := by decide +kernel
theorem dX1_fused_118 : decode cX1_fused 118 = .ok (.iload 6, 2) := by decide +kernel
theorem dX1_fused_120 : decode cX1_fused 120 = .ok (.ifCond .eq 24, 3) := by decide +kernel
theorem dX1_fused_123 : decode cX1_fused 123 = .ok (.iload_n 3, 1) := by decide +kernel
theorem dX1_fused_124 : decode cX1_fused 124 = .ok (.invokestatic 81, 3) := by decide +kernel
theorem dX1_fused_127 : decode cX1_fused 127 = .ok (.ifCond .eq 17, 3) := by decide +kernel
theorem dX1_fused_130 : decode cX1_fused 130 = .ok (.iload 5, 2) := by decide +kernel
theorem dX1_fused_132 : decode cX1_fused 132 = .ok (.iload_n 3, 1) := by decide +kernel
theorem dX1_fused_133 : decode cX1_fused 133 = .ok (.invokestatic 84, 3) := by decide +kernel
theorem dX1_fused_136 : decode cX1_fused 136 = .ok (.if_icmp .eq 8, 3) := by decide +kernel
theorem dX1_fused_139 : decode cX1_fused 139 = .ok (.aload_n 0, 1) := by decide +kernel
theorem dX1_fused_140 : decode cX1_fused 140 = .ok (.invokevirtual 87, 3) := by decide +kernel
theorem dX1_fused_143 : decode cX1_fused 143 = .ok (.ireturn, 1) := by decide +kernel
theorem dX1_fused_144 : decode cX1_fused 144 = .ok (.iload 6, 2) := by decide +kernel
theorem dX1_fused_146 : decode cX1_fused 146 = .ok (.ifCond .eq 11, 3) := by decide +kernel
theorem dX1_fused_149 : decode cX1_fused 149 = .ok (.ldc 73, 2) := by decide +kernel
theorem dX1_fused_151 : decode cX1_fused 151 = .ok (.iload 5, 2) := by decide +kernel
theorem dX1_fused_153 : decode cX1_fused 153 = .ok (.invokestatic 74, 3) := by decide +kernel
theorem dX1_fused_156 : decode cX1_fused 156 = .ok (.ireturn, 1) := by decide +kernel
theorem dX1_fused_157 : decode cX1_fused 157 = .ok (.iload_n 3, 1) := by decide +kernel
theorem dX1_fused_158 : decode cX1_fused 158 = .ok (.invokestatic 81, 3) := by decide +kernel
theorem dX1_fused_161 : decode cX1_fused 161 = .ok (.ifCond .eq 5, 3) := by decide +kernel
theorem dX1_fused_164 : decode cX1_fused 164 = .ok (.iload_n 3, 1) := by decide +kernel
theorem dX1_fused_165 : decode cX1_fused 165 = .ok (.ireturn, 1) := by decide +kernel
theorem dX1_fused_166 : decode cX1_fused 166 = .ok (.aload_n 0, 1) := by decide +kernel
theorem dX1_fused_167 : decode cX1_fused 167 = .ok (.sipush (-298), 3) := by decide +kernel
theorem dX1_fused_170 : decode cX1_fused 170 = .ok (.invokevirtual 90, 3) := by decide +kernel
theorem dX1_fused_173 : decode cX1_fused 173 = .ok (.aload_n 0, 1) := by decide +kernel
theorem dX1_fused_174 : decode cX1_fused 174 = .ok (.iload_n 1, 1) := by decide +kernel
theorem dX1_fused_175 : decode cX1_fused 175 = .ok (.invokestatic 94, 3) := by decide +kernel
theorem dX1_fused_178 : decode cX1_fused 178 = .ok (.i2l, 1) := by decide +kernel
theorem dX1_fused_179 : decode cX1_fused 179 = .ok (.iload_n 2, 1) := by decide +kernel
theorem dX1_fused_180 : decode cX1_fused 180 = .ok (.invokestatic 94, 3) := by decide +kernel
theorem dX1_fused_183 : decode cX1_fused 183 = .ok (.i2l, 1) := by decide +kernel
theorem dX1_fused_184 : decode cX1_fused 184 = .ok (.lmul, 1) := by decide +kernel
theorem dX1_fused_185 : decode cX1_fused 185 = .ok (.iload_n 1, 1) := by decide +kernel
theorem dX1_fused_186 : decode cX1_fused 186 = .ok (.invokestatic 97, 3) := by decide +kernel
theorem dX1_fused_189 : decode cX1_fused 189 = .ok (.iload_n 2, 1) := by decide +kernel
theorem dX1_fused_190 : decode cX1_fused 190 = .ok (.invokestatic 97, 3) := by decide +kernel
theorem dX1_fused_193 : decode cX1_fused 193 = .ok (.iadd, 1) := by decide +kernel
theorem dX1_fused_194 : decode cX1_fused 194 = .ok (.iload 5, 2) := by decide +kernel
theorem dX1_fused_196 : decode cX1_fused 196 = .ok (.invokevirtual 100, 3) := by decide +kernel
theorem dX1_fused_199 : decode cX1_fused 199 = .ok (.aload_n 0, 1) := by decide +kernel
theorem dX1_fused_200 : decode cX1_fused 200 = .ok (.iload_n 3, 1) := by decide +kernel
theorem dX1_fused_201 : decode cX1_fused 201 = .ok (.invokestatic 94, 3) := by decide +kernel
theorem dX1_fused_204 : decode cX1_fused 204 = .ok (.i2l, 1) := by decide +kernel
theorem dX1_fused_205 : decode cX1_fused 205 = .ok (.iload_n 3, 1) := by decide +kernel
theorem dX1_fused_206 : decode cX1_fused 206 = .ok (.invokestatic 97, 3) := by decide +kernel
theorem dX1_fused_209 : decode cX1_fused 209 = .ok (.iload_n 3, 1) := by decide +kernel
theorem dX1_fused_210 : decode cX1_fused 210 = .ok (.invokestatic 84, 3) := by decide +kernel
theorem dX1_fused_213 : decode cX1_fused 213 = .ok (.invokevirtual 100, 3) := by decide +kernel
theorem dX1_fused_216 : decode cX1_fused 216 = .ok (.iload_n 1, 1) := by decide +kernel
theorem dX1_fused_217 : decode cX1_fused 217 = .ok (.invokestatic 108, 3) := by decide +kernel
theorem dX1_fused_220 : decode cX1_fused 220 = .ok (.ifCond .ne 10, 3) := by decide +kernel
theorem dX1_fused_223 : decode cX1_fused 223 = .ok (.iload_n 2, 1) := by decide +kernel
theorem dX1_fused_224 : decode cX1_fused 224 = .ok (.invokestatic 108, 3) := by decide +kernel
theorem dX1_fused_227 : decode cX1_fused 227 = .ok (.ifCond .eq 14, 3) := by decide +kernel
theorem dX1_fused_230 : decode cX1_fused 230 = .ok (.iload_n 3, 1) := by decide +kernel
theorem dX1_fused_231 : decode cX1_fused 231 = .ok (.invokestatic 108, 3) := by decide +kernel
theorem dX1_fused_234 : decode cX1_fused 234 = .ok (.ifCond .eq 7, 3) := by decide +kernel
theorem dX1_fused_237 : decode cX1_fused 237 = .ok (.iconst 1, 1) := by decide +kernel
theorem dX1_fused_238 : decode cX1_fused 238 = .ok (.goto 4, 3) := by decide +kernel
theorem dX1_fused_241 : decode cX1_fused 241 = .ok (.iconst 0, 1) := by decide +kernel
theorem dX1_fused_242 : decode cX1_fused 242 = .ok (.istore 7, 2) := by decide +kernel
theorem dX1_fused_244 : decode cX1_fused 244 = .ok (.aload_n 0, 1) := by decide +kernel
theorem dX1_fused_245 : decode cX1_fused 245 = .ok (.invokevirtual 104, 3) := by decide +kernel
theorem dX1_fused_248 : decode cX1_fused 248 = .ok (.istore 8, 2) := by decide +kernel
theorem dX1_fused_250 : decode cX1_fused 250 = .ok (.aload_n 0, 1) := by decide +kernel
theorem dX1_fused_251 : decode cX1_fused 251 = .ok (.invokevirtual 63, 3) := by decide +kernel
theorem dX1_fused_254 : decode cX1_fused 254 = .ok (.ifCond .ge 18, 3) := by decide +kernel
theorem dX1_fused_257 : decode cX1_fused 257 = .ok (.aload_n 0, 1) := by decide +kernel
theorem dX1_fused_258 : decode cX1_fused 258 = .ok (.iload 7, 2) := by decide +kernel
theorem dX1_fused_260 : decode cX1_fused 260 = .ok (.iload 5, 2) := by decide +kernel
theorem dX1_fused_262 : decode cX1_fused 262 = .ok (.iload_n 3, 1) := by decide +kernel
theorem dX1_fused_263 : decode cX1_fused 263 = .ok (.invokestatic 84, 3) := by decide +kernel
theorem dX1_fused_266 : decode cX1_fused 266 = .ok (.invokevirtual 111, 3) := by decide +kernel
theorem dX1_fused_269 : decode cX1_fused 269 = .ok (.goto 9, 3) := by decide +kernel
theorem dX1_fused_272 : decode cX1_fused 272 = .ok (.aload_n 0, 1) := by decide +kernel
theorem dX1_fused_273 : decode cX1_fused 273 = .ok (.iload 8, 2) := by decide +kernel
theorem dX1_fused_275 : decode cX1_fused 275 = .ok (.invokevirtual 115, 3) := by decide +kernel
theorem dX1_fused_278 : decode cX1_fused 278 = .ok (.ireturn, 1) := by decide +kernel
set_option maxRecDepth 20000 in
theorem ggX1_multiply_X1_isNone : GoodIn wsX1_multiply wsX1_isNone := goodIn_r _ [5, 6, 7, 4, 8, 9, 10, 11, 12] (by decide +kernel) (by decide +kernel)
set_option maxRecDepth 20000 in
theorem gX1_multiply_X1_isNone : GoodIn wsX1_multiply (va_wsS RX1 28 yX1_isNone wsX1_isNone) := goodIn_app (goodIn_of _ (by decide +kernel)) ggX1_multiply_X1_isNone
