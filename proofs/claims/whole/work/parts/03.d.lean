theorem dX0_init_0 : decode cX0_init 0 = .ok (.aload_n 0, 1) := by decide +kernel
theorem dX0_init_1 : decode cX0_init 1 = .ok (.invokespecial 3, 3) := by decide +kernel
theorem dX0_init_4 : decode cX0_init 4 = .ok (.aload_n 0, 1) := by decide +kernel
theorem dX0_init_5 : decode cX0_init 5 = .ok (.iconst 5, 1) := by decide +kernel
theorem dX0_init_6 : decode cX0_init 6 = .ok (.newarray .int, 2) := by decide +kernel
theorem dX0_init_8 : decode cX0_init 8 = .ok (.putfield 9, 3) := by decide +kernel
theorem dX0_init_11 : decode cX0_init 11 = .ok (.aload_n 0, 1) := by decide +kernel
theorem dX0_init_12 : decode cX0_init 12 = .ok (.iconst 5, 1) := by decide +kernel
theorem dX0_init_13 : decode cX0_init 13 = .ok (.newarray .int, 2) := by decide +kernel
theorem dX0_init_15 : decode cX0_init 15 = .ok (.putfield 15, 3) := by decide +kernel
theorem dX0_init_18 : decode cX0_init 18 = .ok (.return_, 1) := by decide +kernel
set_option maxRecDepth 20000 in
theorem ggX0_sitDown_X2_codeAt : GoodIn wsX0_sitDown wsX2_codeAt := goodIn_r _ [13, 14, 15, 16, 17, 18, 24, 25] (by decide +kernel) (by decide +kernel)
set_option maxRecDepth 20000 in
theorem gX0_sitDown_X2_codeAt : GoodIn wsX0_sitDown (wsV RX0 33 RX2 yX2_codeAt wsX2_codeAt) := goodIn_app (goodIn_of _ (by decide +kernel)) ggX0_sitDown_X2_codeAt
set_option maxRecDepth 20000 in
theorem ggX0_sitDown_X2_kindOf : GoodIn wsX0_sitDown wsX2_kindOf := goodIn_r _ [21] (by decide +kernel) (by decide +kernel)
set_option maxRecDepth 20000 in
theorem gX0_sitDown_X2_kindOf : GoodIn wsX0_sitDown (va_wsS RX0 37 yX2_kindOf wsX2_kindOf) := goodIn_app (goodIn_of _ (by decide +kernel)) ggX0_sitDown_X2_kindOf
set_option maxRecDepth 20000 in
theorem ggX0_sitDown_X4_put : GoodIn wsX0_sitDown wsX4_put := goodIn_r _ [23] (by decide +kernel) (by decide +kernel)
set_option maxRecDepth 20000 in
theorem gX0_sitDown_X4_put_n40 : GoodIn wsX0_sitDown (wsX4_put) := ggX0_sitDown_X4_put
theorem dX0_sitDown_0 : decode cX0_sitDown 0 = .ok (.aload_n 1, 1) := by decide +kernel
theorem dX0_sitDown_1 : decode cX0_sitDown 1 = .ok (.ifnonnull 4, 3) := by decide +kernel
theorem dX0_sitDown_4 : decode cX0_sitDown 4 = .ok (.return_, 1) := by decide +kernel
theorem dX0_sitDown_5 : decode cX0_sitDown 5 = .ok (.aload_n 0, 1) := by decide +kernel
theorem dX0_sitDown_6 : decode cX0_sitDown 6 = .ok (.aload_n 1, 1) := by decide +kernel
theorem dX0_sitDown_7 : decode cX0_sitDown 7 = .ok (.getfield 18, 3) := by decide +kernel
theorem dX0_sitDown_10 : decode cX0_sitDown 10 = .ok (.iconst 3, 1) := by decide +kernel
theorem dX0_sitDown_11 : decode cX0_sitDown 11 = .ok (.idiv, 1) := by decide +kernel
theorem dX0_sitDown_12 : decode cX0_sitDown 12 = .ok (.iconst 5, 1) := by decide +kernel
theorem dX0_sitDown_13 : decode cX0_sitDown 13 = .ok (.invokestatic 24, 3) := by decide +kernel
theorem dX0_sitDown_16 : decode cX0_sitDown 16 = .ok (.putfield 30, 3) := by decide +kernel
theorem dX0_sitDown_19 : decode cX0_sitDown 19 = .ok (.iconst 0, 1) := by decide +kernel
theorem dX0_sitDown_20 : decode cX0_sitDown 20 = .ok (.istore_n 2, 1) := by decide +kernel
theorem dX0_sitDown_21 : decode cX0_sitDown 21 = .ok (.iload_n 2, 1) := by decide +kernel
theorem dX0_sitDown_22 : decode cX0_sitDown 22 = .ok (.aload_n 0, 1) := by decide +kernel
theorem dX0_sitDown_23 : decode cX0_sitDown 23 = .ok (.getfield 30, 3) := by decide +kernel
theorem dX0_sitDown_26 : decode cX0_sitDown 26 = .ok (.if_icmp .ge 47, 3) := by decide +kernel
theorem dX0_sitDown_29 : decode cX0_sitDown 29 = .ok (.aload_n 0, 1) := by decide +kernel
theorem dX0_sitDown_30 : decode cX0_sitDown 30 = .ok (.getfield 9, 3) := by decide +kernel
theorem dX0_sitDown_33 : decode cX0_sitDown 33 = .ok (.iload_n 2, 1) := by decide +kernel
theorem dX0_sitDown_34 : decode cX0_sitDown 34 = .ok (.aload_n 1, 1) := by decide +kernel
theorem dX0_sitDown_35 : decode cX0_sitDown 35 = .ok (.iconst 3, 1) := by decide +kernel
theorem dX0_sitDown_36 : decode cX0_sitDown 36 = .ok (.iload_n 2, 1) := by decide +kernel
theorem dX0_sitDown_37 : decode cX0_sitDown 37 = .ok (.imul, 1) := by decide +kernel
theorem dX0_sitDown_38 : decode cX0_sitDown 38 = .ok (.invokevirtual 33, 3) := by decide +kernel
theorem dX0_sitDown_41 : decode cX0_sitDown 41 = .ok (.invokestatic 37, 3) := by decide +kernel
theorem dX0_sitDown_44 : decode cX0_sitDown 44 = .ok (.invokestatic 40, 3) := by decide +kernel
theorem dX0_sitDown_47 : decode cX0_sitDown 47 = .ok (.aload_n 0, 1) := by decide +kernel
theorem dX0_sitDown_48 : decode cX0_sitDown 48 = .ok (.getfield 15, 3) := by decide +kernel
theorem dX0_sitDown_51 : decode cX0_sitDown 51 = .ok (.iload_n 2, 1) := by decide +kernel
theorem dX0_sitDown_52 : decode cX0_sitDown 52 = .ok (.aload_n 1, 1) := by decide +kernel
theorem dX0_sitDown_53 : decode cX0_sitDown 53 = .ok (.iconst 3, 1) := by decide +kernel
theorem dX0_sitDown_54 : decode cX0_sitDown 54 = .ok (.iload_n 2, 1) := by decide +kernel
theorem dX0_sitDown_55 : decode cX0_sitDown 55 = .ok (.imul, 1) := by decide +kernel
theorem dX0_sitDown_56 : decode cX0_sitDown 56 = .ok (.iconst 1, 1) := by decide +kernel
theorem dX0_sitDown_57 : decode cX0_sitDown 57 = .ok (.iadd, 1) := by decide +kernel
theorem dX0_sitDown_58 : decode cX0_sitDown 58 = .ok (.invokevirtual 33, 3) := by decide +kernel
theorem dX0_sitDown_61 : decode cX0_sitDown 61 = .ok (.bipush 48, 2) := by decide +kernel
theorem dX0_sitDown_63 : decode cX0_sitDown 63 = .ok (.isub, 1) := by decide +kernel
theorem dX0_sitDown_64 : decode cX0_sitDown 64 = .ok (.invokestatic 40, 3) := by decide +kernel
theorem dX0_sitDown_67 : decode cX0_sitDown 67 = .ok (.iinc 2 1, 3) := by decide +kernel
theorem dX0_sitDown_70 : decode cX0_sitDown 70 = .ok (.goto (-49), 3) := by decide +kernel
theorem dX0_sitDown_73 : decode cX0_sitDown 73 = .ok (.aload_n 0, 1) := by decide +kernel
theorem dX0_sitDown_74 : decode cX0_sitDown 74 = .ok (.aload_n 1, 1) := by decide +kernel
theorem dX0_sitDown_75 : decode cX0_sitDown 75 = .ok (.aload_n 1, 1) := by decide +kernel
theorem dX0_sitDown_76 : decode cX0_sitDown 76 = .ok (.getfield 18, 3) := by decide +kernel
theorem dX0_sitDown_79 : decode cX0_sitDown 79 = .ok (.iconst 1, 1) := by decide +kernel
theorem dX0_sitDown_80 : decode cX0_sitDown 80 = .ok (.isub, 1) := by decide +kernel
theorem dX0_sitDown_81 : decode cX0_sitDown 81 = .ok (.invokevirtual 33, 3) := by decide +kernel
theorem dX0_sitDown_84 : decode cX0_sitDown 84 = .ok (.bipush 48, 2) := by decide +kernel
theorem dX0_sitDown_86 : decode cX0_sitDown 86 = .ok (.isub, 1) := by decide +kernel
theorem dX0_sitDown_87 : decode cX0_sitDown 87 = .ok (.putfield 44, 3) := by decide +kernel
theorem dX0_sitDown_90 : decode cX0_sitDown 90 = .ok (.return_, 1) := by decide +kernel
theorem dX0_isSet_0 : decode cX0_isSet 0 = .ok (.aload_n 0, 1) := by decide +kernel
theorem dX0_isSet_1 : decode cX0_isSet 1 = .ok (.getfield 30, 3) := by decide +kernel
theorem dX0_isSet_4 : decode cX0_isSet 4 = .ok (.ifCond .le 7, 3) := by decide +kernel
theorem dX0_isSet_7 : decode cX0_isSet 7 = .ok (.iconst 1, 1) := by decide +kernel
theorem dX0_isSet_8 : decode cX0_isSet 8 = .ok (.goto 4, 3) := by decide +kernel
theorem dX0_isSet_11 : decode cX0_isSet 11 = .ok (.iconst 0, 1) := by decide +kernel
theorem dX0_isSet_12 : decode cX0_isSet 12 = .ok (.ireturn, 1) := by decide +kernel
theorem dX0_has_0 : decode cX0_has 0 = .ok (.iload_n 1, 1) := by decide +kernel
theorem dX0_has_1 : decode cX0_has 1 = .ok (.ifCond .lt 15, 3) := by decide +kernel
theorem dX0_has_4 : decode cX0_has 4 = .ok (.iload_n 1, 1) := by decide +kernel
theorem dX0_has_5 : decode cX0_has 5 = .ok (.aload_n 0, 1) := by decide +kernel
theorem dX0_has_6 : decode cX0_has 6 = .ok (.getfield 30, 3) := by decide +kernel
theorem dX0_has_9 : decode cX0_has 9 = .ok (.if_icmp .ge 7, 3) := by decide +kernel
theorem dX0_has_12 : decode cX0_has 12 = .ok (.iconst 1, 1) := by decide +kernel
theorem dX0_has_13 : decode cX0_has 13 = .ok (.goto 4, 3) := by decide +kernel
theorem dX0_has_16 : decode cX0_has 16 = .ok (.iconst 0, 1) := by decide +kernel
theorem dX0_has_17 : decode cX0_has 17 = .ok (.ireturn, 1) := by decide +kernel
theorem dX0_namesOnlySeats_0 : decode cX0_namesOnlySeats 0 = .ok (.iload_n 1, 1) := by decide +kernel
theorem dX0_namesOnlySeats_1 : decode cX0_namesOnlySeats 1 = .ok (.ifCond .lt 17, 3) := by decide +kernel
theorem dX0_namesOnlySeats_4 : decode cX0_namesOnlySeats 4 = .ok (.iload_n 1, 1) := by decide +kernel
theorem dX0_namesOnlySeats_5 : decode cX0_namesOnlySeats 5 = .ok (.iconst 1, 1) := by decide +kernel
theorem dX0_namesOnlySeats_6 : decode cX0_namesOnlySeats 6 = .ok (.aload_n 0, 1) := by decide +kernel
theorem dX0_namesOnlySeats_7 : decode cX0_namesOnlySeats 7 = .ok (.getfield 30, 3) := by decide +kernel
theorem dX0_namesOnlySeats_10 : decode cX0_namesOnlySeats 10 = .ok (.ishl, 1) := by decide +kernel
theorem dX0_namesOnlySeats_11 : decode cX0_namesOnlySeats 11 = .ok (.if_icmp .ge 7, 3) := by decide +kernel
theorem dX0_namesOnlySeats_14 : decode cX0_namesOnlySeats 14 = .ok (.iconst 1, 1) := by decide +kernel
theorem dX0_namesOnlySeats_15 : decode cX0_namesOnlySeats 15 = .ok (.goto 4, 3) := by decide +kernel
theorem dX0_namesOnlySeats_18 : decode cX0_namesOnlySeats 18 = .ok (.iconst 0, 1) := by decide +kernel
theorem dX0_namesOnlySeats_19 : decode cX0_namesOnlySeats 19 = .ok (.ireturn, 1) := by decide +kernel
theorem dX0_kindAt_0 : decode cX0_kindAt 0 = .ok (.iload_n 1, 1) := by decide +kernel
theorem dX0_kindAt_1 : decode cX0_kindAt 1 = .ok (.ifCond .lt 29, 3) := by decide +kernel
theorem dX0_kindAt_4 : decode cX0_kindAt 4 = .ok (.iload_n 1, 1) := by decide +kernel
theorem dX0_kindAt_5 : decode cX0_kindAt 5 = .ok (.aload_n 0, 1) := by decide +kernel
theorem dX0_kindAt_6 : decode cX0_kindAt 6 = .ok (.getfield 30, 3) := by decide +kernel
theorem dX0_kindAt_9 : decode cX0_kindAt 9 = .ok (.if_icmp .ge 21, 3) := by decide +kernel
theorem dX0_kindAt_12 : decode cX0_kindAt 12 = .ok (.iload_n 1, 1) := by decide +kernel
theorem dX0_kindAt_13 : decode cX0_kindAt 13 = .ok (.aload_n 0, 1) := by decide +kernel
theorem dX0_kindAt_14 : decode cX0_kindAt 14 = .ok (.getfield 9, 3) := by decide +kernel
theorem dX0_kindAt_17 : decode cX0_kindAt 17 = .ok (.arraylength, 1) := by decide +kernel
theorem dX0_kindAt_18 : decode cX0_kindAt 18 = .ok (.if_icmp .ge 12, 3) := by decide +kernel
theorem dX0_kindAt_21 : decode cX0_kindAt 21 = .ok (.aload_n 0, 1) := by decide +kernel
theorem dX0_kindAt_22 : decode cX0_kindAt 22 = .ok (.getfield 9, 3) := by decide +kernel
theorem dX0_kindAt_25 : decode cX0_kindAt 25 = .ok (.iload_n 1, 1) := by decide +kernel
theorem dX0_kindAt_26 : decode cX0_kindAt 26 = .ok (.iaload, 1) := by decide +kernel
theorem dX0_kindAt_27 : decode cX0_kindAt 27 = .ok (.goto 4, 3) := by decide +kernel
theorem dX0_kindAt_30 : decode cX0_kindAt 30 = .ok (.iconst (-1), 1) := by decide +kernel
theorem dX0_kindAt_31 : decode cX0_kindAt 31 = .ok (.ireturn, 1) := by decide +kernel
theorem dX0_sideAt_0 : decode cX0_sideAt 0 = .ok (.iload_n 1, 1) := by decide +kernel
theorem dX0_sideAt_1 : decode cX0_sideAt 1 = .ok (.ifCond .lt 29, 3) := by decide +kernel
theorem dX0_sideAt_4 : decode cX0_sideAt 4 = .ok (.iload_n 1, 1) := by decide +kernel
theorem dX0_sideAt_5 : decode cX0_sideAt 5 = .ok (.aload_n 0, 1) := by decide +kernel
theorem dX0_sideAt_6 : decode cX0_sideAt 6 = .ok (.getfield 30, 3) := by decide +kernel
theorem dX0_sideAt_9 : decode cX0_sideAt 9 = .ok (.if_icmp .ge 21, 3) := by decide +kernel
theorem dX0_sideAt_12 : decode cX0_sideAt 12 = .ok (.iload_n 1, 1) := by decide +kernel
theorem dX0_sideAt_13 : decode cX0_sideAt 13 = .ok (.aload_n 0, 1) := by decide +kernel
theorem dX0_sideAt_14 : decode cX0_sideAt 14 = .ok (.getfield 15, 3) := by decide +kernel
theorem dX0_sideAt_17 : decode cX0_sideAt 17 = .ok (.arraylength, 1) := by decide +kernel
theorem dX0_sideAt_18 : decode cX0_sideAt 18 = .ok (.if_icmp .ge 12, 3) := by decide +kernel
theorem dX0_sideAt_21 : decode cX0_sideAt 21 = .ok (.aload_n 0, 1) := by decide +kernel
theorem dX0_sideAt_22 : decode cX0_sideAt 22 = .ok (.getfield 15, 3) := by decide +kernel
theorem dX0_sideAt_25 : decode cX0_sideAt 25 = .ok (.iload_n 1, 1) := by decide +kernel
theorem dX0_sideAt_26 : decode cX0_sideAt 26 = .ok (.iaload, 1) := by decide +kernel
theorem dX0_sideAt_27 : decode cX0_sideAt 27 = .ok (.goto 4, 3) := by decide +kernel
theorem dX0_sideAt_30 : decode cX0_sideAt 30 = .ok (.iconst (-1), 1) := by decide +kernel
theorem dX0_sideAt_31 : decode cX0_sideAt 31 = .ok (.ireturn, 1) := by decide +kernel
set_option maxRecDepth 20000 in
theorem ggX0_isOf_X0_kindAt : GoodIn wsX0_isOf wsX0_kindAt := goodIn_r _ [5, 6, 7, 12, 13, 14, 15] (by decide +kernel) (by decide +kernel)
set_option maxRecDepth 20000 in
theorem gX0_isOf_X0_kindAt : GoodIn wsX0_isOf (wsV RX0 47 RX0 yX0_kindAt wsX0_kindAt) := goodIn_app (goodIn_of _ (by decide +kernel)) ggX0_isOf_X0_kindAt
set_option maxRecDepth 20000 in
theorem ggX0_isOf_X0_has : GoodIn wsX0_isOf wsX0_has := goodIn_r _ [11, 6, 12, 13, 14, 15] (by decide +kernel) (by decide +kernel)
set_option maxRecDepth 20000 in
theorem gX0_isOf_X0_has : GoodIn wsX0_isOf (wsV RX0 50 RX0 yX0_has wsX0_has) := goodIn_app (goodIn_of _ (by decide +kernel)) ggX0_isOf_X0_has
theorem dX0_isOf_0 : decode cX0_isOf 0 = .ok (.aload_n 0, 1) := by decide +kernel
theorem dX0_isOf_1 : decode cX0_isOf 1 = .ok (.iload_n 1, 1) := by decide +kernel
theorem dX0_isOf_2 : decode cX0_isOf 2 = .ok (.invokevirtual 47, 3) := by decide +kernel
theorem dX0_isOf_5 : decode cX0_isOf 5 = .ok (.istore_n 3, 1) := by decide +kernel
theorem dX0_isOf_6 : decode cX0_isOf 6 = .ok (.aload_n 0, 1) := by decide +kernel
theorem dX0_isOf_7 : decode cX0_isOf 7 = .ok (.iload_n 1, 1) := by decide +kernel
theorem dX0_isOf_8 : decode cX0_isOf 8 = .ok (.invokevirtual 50, 3) := by decide +kernel
theorem dX0_isOf_11 : decode cX0_isOf 11 = .ok (.ifCond .eq 26, 3) := by decide +kernel
theorem dX0_isOf_14 : decode cX0_isOf 14 = .ok (.iload_n 2, 1) := by decide +kernel
theorem dX0_isOf_15 : decode cX0_isOf 15 = .ok (.ifCond .eq 18, 3) := by decide +kernel
theorem dX0_isOf_18 : decode cX0_isOf 18 = .ok (.iload_n 2, 1) := by decide +kernel
theorem dX0_isOf_19 : decode cX0_isOf 19 = .ok (.iload_n 3, 1) := by decide +kernel
theorem dX0_isOf_20 : decode cX0_isOf 20 = .ok (.if_icmp .eq 13, 3) := by decide +kernel
theorem dX0_isOf_23 : decode cX0_isOf 23 = .ok (.iload_n 2, 1) := by decide +kernel
theorem dX0_isOf_24 : decode cX0_isOf 24 = .ok (.iconst 1, 1) := by decide +kernel
theorem dX0_isOf_25 : decode cX0_isOf 25 = .ok (.if_icmp .ne 12, 3) := by decide +kernel
theorem dX0_isOf_28 : decode cX0_isOf 28 = .ok (.iload_n 3, 1) := by decide +kernel
theorem dX0_isOf_29 : decode cX0_isOf 29 = .ok (.iconst 4, 1) := by decide +kernel
theorem dX0_isOf_30 : decode cX0_isOf 30 = .ok (.if_icmp .ne 7, 3) := by decide +kernel
theorem dX0_isOf_33 : decode cX0_isOf 33 = .ok (.iconst 1, 1) := by decide +kernel
theorem dX0_isOf_34 : decode cX0_isOf 34 = .ok (.goto 4, 3) := by decide +kernel
theorem dX0_isOf_37 : decode cX0_isOf 37 = .ok (.iconst 0, 1) := by decide +kernel
theorem dX0_isOf_38 : decode cX0_isOf 38 = .ok (.ireturn, 1) := by decide +kernel
set_option maxRecDepth 20000 in
theorem ggX0_counts_X0_kindAt : GoodIn wsX0_counts wsX0_kindAt := goodIn_r _ [5, 6, 7, 15, 16, 17, 18] (by decide +kernel) (by decide +kernel)
set_option maxRecDepth 20000 in
theorem gX0_counts_X0_kindAt : GoodIn wsX0_counts (wsV RX0 47 RX0 yX0_kindAt wsX0_kindAt) := goodIn_app (goodIn_of _ (by decide +kernel)) ggX0_counts_X0_kindAt
set_option maxRecDepth 20000 in
theorem ggX0_counts_X4_isIn : GoodIn wsX0_counts wsX4_isIn := goodIn_r _ [10] (by decide +kernel) (by decide +kernel)
set_option maxRecDepth 20000 in
theorem gX0_counts_X4_isIn_n54 : GoodIn wsX0_counts (wsX4_isIn) := ggX0_counts_X4_isIn
set_option maxRecDepth 20000 in
theorem ggX0_counts_X0_sitsBeside : GoodIn wsX0_counts wsX0_sitsBeside := goodIn_r _ [14, 6, 15, 16, 17, 18] (by decide +kernel) (by decide +kernel)
set_option maxRecDepth 20000 in
theorem gX0_counts_X0_sitsBeside : GoodIn wsX0_counts (wsV RX0 58 RX0 yX0_sitsBeside wsX0_sitsBeside) := goodIn_app (goodIn_of _ (by decide +kernel)) ggX0_counts_X0_sitsBeside
theorem dX0_counts_0 : decode cX0_counts 0 = .ok (.aload_n 0, 1) := by decide +kernel
theorem dX0_counts_1 : decode cX0_counts 1 = .ok (.iload_n 1, 1) := by decide +kernel
theorem dX0_counts_2 : decode cX0_counts 2 = .ok (.invokevirtual 47, 3) := by decide +kernel
theorem dX0_counts_5 : decode cX0_counts 5 = .ok (.istore 4, 2) := by decide +kernel
theorem dX0_counts_7 : decode cX0_counts 7 = .ok (.iload 4, 2) := by decide +kernel
theorem dX0_counts_9 : decode cX0_counts 9 = .ok (.iconst (-1), 1) := by decide +kernel
theorem dX0_counts_10 : decode cX0_counts 10 = .ok (.if_icmp .eq 17, 3) := by decide +kernel
theorem dX0_counts_13 : decode cX0_counts 13 = .ok (.iload 4, 2) := by decide +kernel
theorem dX0_counts_15 : decode cX0_counts 15 = .ok (.iconst 4, 1) := by decide +kernel
theorem dX0_counts_16 : decode cX0_counts 16 = .ok (.if_icmp .eq 11, 3) := by decide +kernel
theorem dX0_counts_19 : decode cX0_counts 19 = .ok (.iload_n 1, 1) := by decide +kernel
theorem dX0_counts_20 : decode cX0_counts 20 = .ok (.iload_n 3, 1) := by decide +kernel
theorem dX0_counts_21 : decode cX0_counts 21 = .ok (.invokestatic 54, 3) := by decide +kernel
theorem dX0_counts_24 : decode cX0_counts 24 = .ok (.ifCond .eq 5, 3) := by decide +kernel
theorem dX0_counts_27 : decode cX0_counts 27 = .ok (.iconst 0, 1) := by decide +kernel
theorem dX0_counts_28 : decode cX0_counts 28 = .ok (.ireturn, 1) := by decide +kernel
theorem dX0_counts_29 : decode cX0_counts 29 = .ok (.iload 4, 2) := by decide +kernel
theorem dX0_counts_31 : decode cX0_counts 31 = .ok (.iconst 1, 1) := by decide +kernel
theorem dX0_counts_32 : decode cX0_counts 32 = .ok (.if_icmp .ne 12, 3) := by decide +kernel
theorem dX0_counts_35 : decode cX0_counts 35 = .ok (.aload_n 0, 1) := by decide +kernel
theorem dX0_counts_36 : decode cX0_counts 36 = .ok (.iload_n 2, 1) := by decide +kernel
theorem dX0_counts_37 : decode cX0_counts 37 = .ok (.iload_n 1, 1) := by decide +kernel
theorem dX0_counts_38 : decode cX0_counts 38 = .ok (.invokevirtual 58, 3) := by decide +kernel
theorem dX0_counts_41 : decode cX0_counts 41 = .ok (.ifCond .eq 7, 3) := by decide +kernel
theorem dX0_counts_44 : decode cX0_counts 44 = .ok (.iconst 1, 1) := by decide +kernel
theorem dX0_counts_45 : decode cX0_counts 45 = .ok (.goto 4, 3) := by decide +kernel
theorem dX0_counts_48 : decode cX0_counts 48 = .ok (.iconst 0, 1) := by decide +kernel
theorem dX0_counts_49 : decode cX0_counts 49 = .ok (.ireturn, 1) := by decide +kernel
theorem dX0_sitsBeside_0 : decode cX0_sitsBeside 0 = .ok (.iload_n 1, 1) := by decide +kernel
theorem dX0_sitsBeside_1 : decode cX0_sitsBeside 1 = .ok (.ifCond .lt 29, 3) := by decide +kernel
theorem dX0_sitsBeside_4 : decode cX0_sitsBeside 4 = .ok (.iload_n 1, 1) := by decide +kernel
theorem dX0_sitsBeside_5 : decode cX0_sitsBeside 5 = .ok (.aload_n 0, 1) := by decide +kernel
theorem dX0_sitsBeside_6 : decode cX0_sitsBeside 6 = .ok (.getfield 30, 3) := by decide +kernel
theorem dX0_sitsBeside_9 : decode cX0_sitsBeside 9 = .ok (.if_icmp .ge 21, 3) := by decide +kernel
theorem dX0_sitsBeside_12 : decode cX0_sitsBeside 12 = .ok (.iload_n 1, 1) := by decide +kernel
theorem dX0_sitsBeside_13 : decode cX0_sitsBeside 13 = .ok (.iload_n 2, 1) := by decide +kernel
theorem dX0_sitsBeside_14 : decode cX0_sitsBeside 14 = .ok (.iconst 1, 1) := by decide +kernel
theorem dX0_sitsBeside_15 : decode cX0_sitsBeside 15 = .ok (.isub, 1) := by decide +kernel
theorem dX0_sitsBeside_16 : decode cX0_sitsBeside 16 = .ok (.if_icmp .eq 10, 3) := by decide +kernel
theorem dX0_sitsBeside_19 : decode cX0_sitsBeside 19 = .ok (.iload_n 1, 1) := by decide +kernel
theorem dX0_sitsBeside_20 : decode cX0_sitsBeside 20 = .ok (.iload_n 2, 1) := by decide +kernel
theorem dX0_sitsBeside_21 : decode cX0_sitsBeside 21 = .ok (.iconst 1, 1) := by decide +kernel
theorem dX0_sitsBeside_22 : decode cX0_sitsBeside 22 = .ok (.iadd, 1) := by decide +kernel
theorem dX0_sitsBeside_23 : decode cX0_sitsBeside 23 = .ok (.if_icmp .ne 7, 3) := by decide +kernel
theorem dX0_sitsBeside_26 : decode cX0_sitsBeside 26 = .ok (.iconst 1, 1) := by decide +kernel
theorem dX0_sitsBeside_27 : decode cX0_sitsBeside 27 = .ok (.goto 4, 3) := by decide +kernel
theorem dX0_sitsBeside_30 : decode cX0_sitsBeside 30 = .ok (.iconst 0, 1) := by decide +kernel
theorem dX0_sitsBeside_31 : decode cX0_sitsBeside 31 = .ok (.ireturn, 1) := by decide +kernel
set_option maxRecDepth 20000 in
theorem ggX0_believedBehind_X0_kindAt : GoodIn wsX0_believedBehind wsX0_kindAt := goodIn_r _ [6, 1, 7, 8, 9, 10, 11] (by decide +kernel) (by decide +kernel)
set_option maxRecDepth 20000 in
theorem gX0_believedBehind_X0_kindAt : GoodIn wsX0_believedBehind (wsV RX0 47 RX0 yX0_kindAt wsX0_kindAt) := goodIn_app (goodIn_of _ (by decide +kernel)) ggX0_believedBehind_X0_kindAt
theorem dX0_believedBehind_0 : decode cX0_believedBehind 0 = .ok (.aload_n 0, 1) := by decide +kernel
theorem dX0_believedBehind_1 : decode cX0_believedBehind 1 = .ok (.iload_n 1, 1) := by decide +kernel
theorem dX0_believedBehind_2 : decode cX0_believedBehind 2 = .ok (.invokevirtual 47, 3) := by decide +kernel
theorem dX0_believedBehind_5 : decode cX0_believedBehind 5 = .ok (.istore_n 3, 1) := by decide +kernel
theorem dX0_believedBehind_6 : decode cX0_believedBehind 6 = .ok (.iload_n 2, 1) := by decide +kernel
theorem dX0_believedBehind_7 : decode cX0_believedBehind 7 = .ok (.iconst (-1), 1) := by decide +kernel
theorem dX0_believedBehind_8 : decode cX0_believedBehind 8 = .ok (.if_icmp .eq 8, 3) := by decide +kernel
theorem dX0_believedBehind_11 : decode cX0_believedBehind 11 = .ok (.iload_n 3, 1) := by decide +kernel
theorem dX0_believedBehind_12 : decode cX0_believedBehind 12 = .ok (.iconst 2, 1) := by decide +kernel
theorem dX0_believedBehind_13 : decode cX0_believedBehind 13 = .ok (.if_icmp .ne 5, 3) := by decide +kernel
theorem dX0_believedBehind_16 : decode cX0_believedBehind 16 = .ok (.iconst (-1), 1) := by decide +kernel
theorem dX0_believedBehind_17 : decode cX0_believedBehind 17 = .ok (.ireturn, 1) := by decide +kernel
theorem dX0_believedBehind_18 : decode cX0_believedBehind 18 = .ok (.iload_n 3, 1) := by decide +kernel
theorem dX0_believedBehind_19 : decode cX0_believedBehind 19 = .ok (.iconst 3, 1) := by decide +kernel
theorem dX0_believedBehind_20 : decode cX0_believedBehind 20 = .ok (.if_icmp .ne 20, 3) := by decide +kernel
theorem dX0_believedBehind_23 : decode cX0_believedBehind 23 = .ok (.iload_n 1, 1) := by decide +kernel
theorem dX0_believedBehind_24 : decode cX0_believedBehind 24 = .ok (.ifCond .ne 12, 3) := by decide +kernel
theorem dX0_believedBehind_27 : decode cX0_believedBehind 27 = .ok (.aload_n 0, 1) := by decide +kernel
theorem dX0_believedBehind_28 : decode cX0_believedBehind 28 = .ok (.getfield 30, 3) := by decide +kernel
theorem dX0_believedBehind_31 : decode cX0_believedBehind 31 = .ok (.iconst 1, 1) := by decide +kernel
theorem dX0_believedBehind_32 : decode cX0_believedBehind 32 = .ok (.isub, 1) := by decide +kernel
theorem dX0_believedBehind_33 : decode cX0_believedBehind 33 = .ok (.goto 6, 3) := by decide +kernel
theorem dX0_believedBehind_36 : decode cX0_believedBehind 36 = .ok (.iload_n 1, 1) := by decide +kernel
theorem dX0_believedBehind_37 : decode cX0_believedBehind 37 = .ok (.iconst 1, 1) := by decide +kernel
theorem dX0_believedBehind_38 : decode cX0_believedBehind 38 = .ok (.isub, 1) := by decide +kernel
theorem dX0_believedBehind_39 : decode cX0_believedBehind 39 = .ok (.ireturn, 1) := by decide +kernel
theorem dX0_believedBehind_40 : decode cX0_believedBehind 40 = .ok (.iload_n 1, 1) := by decide +kernel
theorem dX0_believedBehind_41 : decode cX0_believedBehind 41 = .ok (.ireturn, 1) := by decide +kernel
set_option maxRecDepth 20000 in
theorem ggX0_lastBehind_X0_kindAt : GoodIn wsX0_lastBehind wsX0_kindAt := goodIn_r _ [5, 6, 7, 8, 9, 10, 11] (by decide +kernel) (by decide +kernel)
set_option maxRecDepth 20000 in
theorem gX0_lastBehind_X0_kindAt : GoodIn wsX0_lastBehind (wsV RX0 47 RX0 yX0_kindAt wsX0_kindAt) := goodIn_app (goodIn_of _ (by decide +kernel)) ggX0_lastBehind_X0_kindAt
theorem dX0_lastBehind_0 : decode cX0_lastBehind 0 = .ok (.aload_n 0, 1) := by decide +kernel
theorem dX0_lastBehind_1 : decode cX0_lastBehind 1 = .ok (.iload_n 1, 1) := by decide +kernel
theorem dX0_lastBehind_2 : decode cX0_lastBehind 2 = .ok (.invokevirtual 47, 3) := by decide +kernel
theorem dX0_lastBehind_5 : decode cX0_lastBehind 5 = .ok (.iconst 2, 1) := by decide +kernel
theorem dX0_lastBehind_6 : decode cX0_lastBehind 6 = .ok (.if_icmp .ne 7, 3) := by decide +kernel
theorem dX0_lastBehind_9 : decode cX0_lastBehind 9 = .ok (.iconst 5, 1) := by decide +kernel
theorem dX0_lastBehind_10 : decode cX0_lastBehind 10 = .ok (.goto 4, 3) := by decide +kernel
theorem dX0_lastBehind_13 : decode cX0_lastBehind 13 = .ok (.iload_n 1, 1) := by decide +kernel
theorem dX0_lastBehind_14 : decode cX0_lastBehind 14 = .ok (.ireturn, 1) := by decide +kernel
theorem dX1_init_0 : decode cX1_init 0 = .ok (.aload_n 0, 1) := by decide +kernel
theorem dX1_init_1 : decode cX1_init 1 = .ok (.invokespecial 3, 3) := by decide +kernel
theorem dX1_init_4 : decode cX1_init 4 = .ok (.aload_n 0, 1) := by decide +kernel
theorem dX1_init_5 : decode cX1_init 5 = .ok (.bipush 35, 2) := by decide +kernel
theorem dX1_init_7 : decode cX1_init 7 = .ok (.newarray .int, 2) := by decide +kernel
theorem dX1_init_9 : decode cX1_init 9 = .ok (.putfield 9, 3) := by decide +kernel
theorem dX1_init_12 : decode cX1_init 12 = .ok (.aload_n 0, 1) := by decide +kernel
theorem dX1_init_13 : decode cX1_init 13 = .ok (.bipush 35, 2) := by decide +kernel
theorem dX1_init_15 : decode cX1_init 15 = .ok (.newarray .int, 2) := by decide +kernel
theorem dX1_init_17 : decode cX1_init 17 = .ok (.putfield 15, 3) := by decide +kernel
theorem dX1_init_20 : decode cX1_init 20 = .ok (.aload_n 0, 1) := by decide +kernel
theorem dX1_init_21 : decode cX1_init 21 = .ok (.bipush 7, 2) := by decide +kernel
theorem dX1_init_23 : decode cX1_init 23 = .ok (.newarray .int, 2) := by decide +kernel
theorem dX1_init_25 : decode cX1_init 25 = .ok (.putfield 18, 3) := by decide +kernel
theorem dX1_init_28 : decode cX1_init 28 = .ok (.aload_n 0, 1) := by decide +kernel
theorem dX1_init_29 : decode cX1_init 29 = .ok (.bipush 42, 2) := by decide +kernel
theorem dX1_init_31 : decode cX1_init 31 = .ok (.newarray .int, 2) := by decide +kernel
theorem dX1_init_33 : decode cX1_init 33 = .ok (.putfield 21, 3) := by decide +kernel
theorem dX1_init_36 : decode cX1_init 36 = .ok (.aload_n 0, 1) := by decide +kernel
theorem dX1_init_37 : decode cX1_init 37 = .ok (.bipush 42, 2) := by decide +kernel
theorem dX1_init_39 : decode cX1_init 39 = .ok (.newarray .int, 2) := by decide +kernel
theorem dX1_init_41 : decode cX1_init 41 = .ok (.putfield 24, 3) := by decide +kernel
theorem dX1_init_44 : decode cX1_init 44 = .ok (.aload_n 0, 1) := by decide +kernel
theorem dX1_init_45 : decode cX1_init 45 = .ok (.bipush 49, 2) := by decide +kernel
theorem dX1_init_47 : decode cX1_init 47 = .ok (.newarray .int, 2) := by decide +kernel
theorem dX1_init_49 : decode cX1_init 49 = .ok (.putfield 27, 3) := by decide +kernel
theorem dX1_init_52 : decode cX1_init 52 = .ok (.aload_n 0, 1) := by decide +kernel
theorem dX1_init_53 : decode cX1_init 53 = .ok (.bipush 49, 2) := by decide +kernel
theorem dX1_init_55 : decode cX1_init 55 = .ok (.newarray .int, 2) := by decide +kernel
theorem dX1_init_57 : decode cX1_init 57 = .ok (.putfield 30, 3) := by decide +kernel
theorem dX1_init_60 : decode cX1_init 60 = .ok (.aload_n 0, 1) := by decide +kernel
theorem dX1_init_61 : decode cX1_init 61 = .ok (.bipush 6, 2) := by decide +kernel
theorem dX1_init_63 : decode cX1_init 63 = .ok (.newarray .int, 2) := by decide +kernel
theorem dX1_init_65 : decode cX1_init 65 = .ok (.putfield 33, 3) := by decide +kernel
theorem dX1_init_68 : decode cX1_init 68 = .ok (.aload_n 0, 1) := by decide +kernel
theorem dX1_init_69 : decode cX1_init 69 = .ok (.aload_n 1, 1) := by decide +kernel
theorem dX1_init_70 : decode cX1_init 70 = .ok (.putfield 36, 3) := by decide +kernel
theorem dX1_init_73 : decode cX1_init 73 = .ok (.aload_n 0, 1) := by decide +kernel
theorem dX1_init_74 : decode cX1_init 74 = .ok (.aload_n 2, 1) := by decide +kernel
theorem dX1_init_75 : decode cX1_init 75 = .ok (.putfield 40, 3) := by decide +kernel
theorem dX1_init_78 : decode cX1_init 78 = .ok (.return_, 1) := by decide +kernel
set_option maxRecDepth 20000 in
theorem ggX1_tableWords_X0_counts : GoodIn wsX1_tableWords wsX0_counts := goodIn_r _ [9, 10, 11, 12, 8, 13, 14, 15, 16, 17, 18, 19, 20, 21, 22, 59, 60, 61, 62] (by decide +kernel) (by decide +kernel)
set_option maxRecDepth 20000 in
theorem gX1_tableWords_X0_counts : GoodIn wsX1_tableWords (wsV RX1 50 RX0 yX0_counts wsX0_counts) := goodIn_app (goodIn_of _ (by decide +kernel)) ggX1_tableWords_X0_counts
set_option maxRecDepth 20000 in
theorem ggX1_tableWords_X1_wordPlace : GoodIn wsX1_tableWords wsX1_wordPlace := goodIn_r _ [26] (by decide +kernel) (by decide +kernel)
set_option maxRecDepth 20000 in
theorem gX1_tableWords_X1_wordPlace : GoodIn wsX1_tableWords (va_wsS RX1 56 yX1_wordPlace wsX1_wordPlace) := goodIn_app (goodIn_of _ (by decide +kernel)) ggX1_tableWords_X1_wordPlace
set_option maxRecDepth 20000 in
theorem ggX1_tableWords_X0_lastBehind : GoodIn wsX1_tableWords wsX0_lastBehind := goodIn_r _ [30, 10, 11, 12, 8, 13, 14, 15, 59, 60, 61, 62] (by decide +kernel) (by decide +kernel)
set_option maxRecDepth 20000 in
theorem gX1_tableWords_X0_lastBehind : GoodIn wsX1_tableWords (wsV RX1 60 RX0 yX0_lastBehind wsX0_lastBehind) := goodIn_app (goodIn_of _ (by decide +kernel)) ggX1_tableWords_X0_lastBehind
set_option maxRecDepth 20000 in
theorem ggX1_tableWords_X4_put : GoodIn wsX1_tableWords wsX4_put := goodIn_r _ [32] (by decide +kernel) (by decide +kernel)
set_option maxRecDepth 20000 in
theorem gX1_tableWords_X4_put_n64 : GoodIn wsX1_tableWords (wsX4_put) := ggX1_tableWords_X4_put
set_option maxRecDepth 20000 in
theorem ggX1_tableWords_X0_believedBehind : GoodIn wsX1_tableWords wsX0_believedBehind := goodIn_r _ [36, 14, 10, 11, 12, 8, 13, 15, 59, 60, 61, 62] (by decide +kernel) (by decide +kernel)
set_option maxRecDepth 20000 in
theorem gX1_tableWords_X0_believedBehind : GoodIn wsX1_tableWords (wsV RX1 68 RX0 yX0_believedBehind wsX0_believedBehind) := goodIn_app (goodIn_of _ (by decide +kernel)) ggX1_tableWords_X0_believedBehind
theorem dX1_tableWords_0 : decode cX1_tableWords 0 = .ok (.iconst (-1), 1) := by decide +kernel
theorem dX1_tableWords_1 : decode cX1_tableWords 1 = .ok (.istore_n 1, 1) := by decide +kernel
theorem dX1_tableWords_2 : decode cX1_tableWords 2 = .ok (.iload_n 1, 1) := by decide +kernel
theorem dX1_tableWords_3 : decode cX1_tableWords 3 = .ok (.iconst 5, 1) := by decide +kernel
theorem dX1_tableWords_4 : decode cX1_tableWords 4 = .ok (.if_icmp .gt 110, 3) := by decide +kernel
theorem dX1_tableWords_7 : decode cX1_tableWords 7 = .ok (.iconst 0, 1) := by decide +kernel
theorem dX1_tableWords_8 : decode cX1_tableWords 8 = .ok (.istore_n 2, 1) := by decide +kernel
theorem dX1_tableWords_9 : decode cX1_tableWords 9 = .ok (.iload_n 2, 1) := by decide +kernel
theorem dX1_tableWords_10 : decode cX1_tableWords 10 = .ok (.iconst 5, 1) := by decide +kernel
theorem dX1_tableWords_11 : decode cX1_tableWords 11 = .ok (.if_icmp .ge 97, 3) := by decide +kernel
theorem dX1_tableWords_14 : decode cX1_tableWords 14 = .ok (.iload_n 2, 1) := by decide +kernel
theorem dX1_tableWords_15 : decode cX1_tableWords 15 = .ok (.iload_n 1, 1) := by decide +kernel
theorem dX1_tableWords_16 : decode cX1_tableWords 16 = .ok (.if_icmp .eq 26, 3) := by decide +kernel
theorem dX1_tableWords_19 : decode cX1_tableWords 19 = .ok (.aload_n 0, 1) := by decide +kernel
theorem dX1_tableWords_20 : decode cX1_tableWords 20 = .ok (.getfield 36, 3) := by decide +kernel
theorem dX1_tableWords_23 : decode cX1_tableWords 23 = .ok (.iload_n 2, 1) := by decide +kernel
theorem dX1_tableWords_24 : decode cX1_tableWords 24 = .ok (.iload_n 1, 1) := by decide +kernel
theorem dX1_tableWords_25 : decode cX1_tableWords 25 = .ok (.aload_n 0, 1) := by decide +kernel
theorem dX1_tableWords_26 : decode cX1_tableWords 26 = .ok (.getfield 40, 3) := by decide +kernel
theorem dX1_tableWords_29 : decode cX1_tableWords 29 = .ok (.getfield 44, 3) := by decide +kernel
theorem dX1_tableWords_32 : decode cX1_tableWords 32 = .ok (.invokevirtual 50, 3) := by decide +kernel
theorem dX1_tableWords_35 : decode cX1_tableWords 35 = .ok (.ifCond .eq 7, 3) := by decide +kernel
theorem dX1_tableWords_38 : decode cX1_tableWords 38 = .ok (.iconst 1, 1) := by decide +kernel
theorem dX1_tableWords_39 : decode cX1_tableWords 39 = .ok (.goto 4, 3) := by decide +kernel
theorem dX1_tableWords_42 : decode cX1_tableWords 42 = .ok (.iconst 0, 1) := by decide +kernel
theorem dX1_tableWords_43 : decode cX1_tableWords 43 = .ok (.istore_n 3, 1) := by decide +kernel
theorem dX1_tableWords_44 : decode cX1_tableWords 44 = .ok (.aload_n 0, 1) := by decide +kernel
theorem dX1_tableWords_45 : decode cX1_tableWords 45 = .ok (.getfield 9, 3) := by decide +kernel
theorem dX1_tableWords_48 : decode cX1_tableWords 48 = .ok (.iload_n 1, 1) := by decide +kernel
theorem dX1_tableWords_49 : decode cX1_tableWords 49 = .ok (.iload_n 2, 1) := by decide +kernel
theorem dX1_tableWords_50 : decode cX1_tableWords 50 = .ok (.invokestatic 56, 3) := by decide +kernel
theorem dX1_tableWords_53 : decode cX1_tableWords 53 = .ok (.iload_n 3, 1) := by decide +kernel
theorem dX1_tableWords_54 : decode cX1_tableWords 54 = .ok (.ifCond .eq 14, 3) := by decide +kernel
theorem dX1_tableWords_57 : decode cX1_tableWords 57 = .ok (.aload_n 0, 1) := by decide +kernel
theorem dX1_tableWords_58 : decode cX1_tableWords 58 = .ok (.getfield 36, 3) := by decide +kernel
theorem dX1_tableWords_61 : decode cX1_tableWords 61 = .ok (.iload_n 2, 1) := by decide +kernel
theorem dX1_tableWords_62 : decode cX1_tableWords 62 = .ok (.invokevirtual 60, 3) := by decide +kernel
theorem dX1_tableWords_65 : decode cX1_tableWords 65 = .ok (.goto 5, 3) := by decide +kernel
theorem dX1_tableWords_68 : decode cX1_tableWords 68 = .ok (.bipush (-2), 2) := by decide +kernel
theorem dX1_tableWords_70 : decode cX1_tableWords 70 = .ok (.invokestatic 64, 3) := by decide +kernel
theorem dX1_tableWords_73 : decode cX1_tableWords 73 = .ok (.aload_n 0, 1) := by decide +kernel
theorem dX1_tableWords_74 : decode cX1_tableWords 74 = .ok (.getfield 15, 3) := by decide +kernel
theorem dX1_tableWords_77 : decode cX1_tableWords 77 = .ok (.iload_n 1, 1) := by decide +kernel
theorem dX1_tableWords_78 : decode cX1_tableWords 78 = .ok (.iload_n 2, 1) := by decide +kernel
theorem dX1_tableWords_79 : decode cX1_tableWords 79 = .ok (.invokestatic 56, 3) := by decide +kernel
theorem dX1_tableWords_82 : decode cX1_tableWords 82 = .ok (.iload_n 3, 1) := by decide +kernel
theorem dX1_tableWords_83 : decode cX1_tableWords 83 = .ok (.ifCond .eq 15, 3) := by decide +kernel
theorem dX1_tableWords_86 : decode cX1_tableWords 86 = .ok (.aload_n 0, 1) := by decide +kernel
theorem dX1_tableWords_87 : decode cX1_tableWords 87 = .ok (.getfield 36, 3) := by decide +kernel
theorem dX1_tableWords_90 : decode cX1_tableWords 90 = .ok (.iload_n 2, 1) := by decide +kernel
theorem dX1_tableWords_91 : decode cX1_tableWords 91 = .ok (.iload_n 1, 1) := by decide +kernel
theorem dX1_tableWords_92 : decode cX1_tableWords 92 = .ok (.invokevirtual 68, 3) := by decide +kernel
theorem dX1_tableWords_95 : decode cX1_tableWords 95 = .ok (.goto 4, 3) := by decide +kernel
theorem dX1_tableWords_98 : decode cX1_tableWords 98 = .ok (.iconst (-1), 1) := by decide +kernel
theorem dX1_tableWords_99 : decode cX1_tableWords 99 = .ok (.invokestatic 64, 3) := by decide +kernel
theorem dX1_tableWords_102 : decode cX1_tableWords 102 = .ok (.iinc 2 1, 3) := by decide +kernel
theorem dX1_tableWords_105 : decode cX1_tableWords 105 = .ok (.goto (-96), 3) := by decide +kernel
theorem dX1_tableWords_108 : decode cX1_tableWords 108 = .ok (.iinc 1 1, 3) := by decide +kernel
theorem dX1_tableWords_111 : decode cX1_tableWords 111 = .ok (.goto (-109), 3) := by decide +kernel
theorem dX1_tableWords_114 : decode cX1_tableWords 114 = .ok (.return_, 1) := by decide +kernel
theorem dX1_wordPlace_0 : decode cX1_wordPlace 0 = .ok (.iload_n 0, 1) := by decide +kernel
theorem dX1_wordPlace_1 : decode cX1_wordPlace 1 = .ok (.iconst 1, 1) := by decide +kernel
theorem dX1_wordPlace_2 : decode cX1_wordPlace 2 = .ok (.iadd, 1) := by decide +kernel
theorem dX1_wordPlace_3 : decode cX1_wordPlace 3 = .ok (.iconst 5, 1) := by decide +kernel
theorem dX1_wordPlace_4 : decode cX1_wordPlace 4 = .ok (.imul, 1) := by decide +kernel
theorem dX1_wordPlace_5 : decode cX1_wordPlace 5 = .ok (.iload_n 1, 1) := by decide +kernel
theorem dX1_wordPlace_6 : decode cX1_wordPlace 6 = .ok (.iadd, 1) := by decide +kernel
theorem dX1_wordPlace_7 : decode cX1_wordPlace 7 = .ok (.ireturn, 1) := by decide +kernel
set_option maxRecDepth 20000 in
theorem ggX1_aimAt_X1_tableWords : GoodIn wsX1_aimAt wsX1_tableWords := goodIn_r _ [10, 11, 12, 13, 14, 15, 16, 17, 18, 19, 20, 21, 22, 23, 24, 25, 26, 27, 28, 29, 30, 31, 32, 33, 34, 9, 35, 36, 37, 38, 39, 40, 41, 42, 43, 44, 45, 54, 55, 56, 57, 58, 59, 60, 61, 62, 63, 64, 65, 66, 67, 68, 69, 70, 71, 72, 73, 74, 75, 76, 77, 78, 79] (by decide +kernel) (by decide +kernel)
set_option maxRecDepth 20000 in
theorem gX1_aimAt_X1_tableWords : GoodIn wsX1_aimAt (wsV RX1 71 RX1 yX1_tableWords wsX1_tableWords) := goodIn_app (goodIn_of _ (by decide +kernel)) ggX1_aimAt_X1_tableWords
set_option maxRecDepth 20000 in
theorem ggX1_aimAt_X4_fill : GoodIn wsX1_aimAt wsX4_fill := goodIn_r _ [47] (by decide +kernel) (by decide +kernel)
set_option maxRecDepth 20000 in
theorem gX1_aimAt_X4_fill_n74 : GoodIn wsX1_aimAt (wsX4_fill) := ggX1_aimAt_X4_fill
set_option maxRecDepth 20000 in
theorem ggX1_aimAt_X1_stepsBy : GoodIn wsX1_aimAt wsX1_stepsBy := goodIn_r _ [51, 13, 14, 1, 2, 3, 4, 5, 33, 34, 9, 35, 52, 27, 53, 54, 55, 56, 57, 58, 59, 60, 61, 62, 63] (by decide +kernel) (by decide +kernel)
set_option maxRecDepth 20000 in
theorem gX1_aimAt_X1_stepsBy : GoodIn wsX1_aimAt (wsV RX1 78 RX1 yX1_stepsBy wsX1_stepsBy) := goodIn_app (goodIn_of _ (by decide +kernel)) ggX1_aimAt_X1_stepsBy
set_option maxRecDepth 20000 in
theorem ggX1_aimAt_X4_put : GoodIn wsX1_aimAt wsX4_put := goodIn_r _ [41] (by decide +kernel) (by decide +kernel)
set_option maxRecDepth 20000 in
theorem gX1_aimAt_X4_put_n64 : GoodIn wsX1_aimAt (wsX4_put) := ggX1_aimAt_X4_put
theorem dX1_aimAt_0 : decode cX1_aimAt 0 = .ok (.aload_n 0, 1) := by decide +kernel
theorem dX1_aimAt_1 : decode cX1_aimAt 1 = .ok (.invokevirtual 71, 3) := by decide +kernel
theorem dX1_aimAt_4 : decode cX1_aimAt 4 = .ok (.aload_n 0, 1) := by decide +kernel
theorem dX1_aimAt_5 : decode cX1_aimAt 5 = .ok (.getfield 18, 3) := by decide +kernel
theorem dX1_aimAt_8 : decode cX1_aimAt 8 = .ok (.sipush 1000, 3) := by decide +kernel
theorem dX1_aimAt_11 : decode cX1_aimAt 11 = .ok (.invokestatic 74, 3) := by decide +kernel
theorem dX1_aimAt_14 : decode cX1_aimAt 14 = .ok (.iconst 0, 1) := by decide +kernel
theorem dX1_aimAt_15 : decode cX1_aimAt 15 = .ok (.istore_n 2, 1) := by decide +kernel
theorem dX1_aimAt_16 : decode cX1_aimAt 16 = .ok (.iload_n 2, 1) := by decide +kernel
theorem dX1_aimAt_17 : decode cX1_aimAt 17 = .ok (.bipush 7, 2) := by decide +kernel
theorem dX1_aimAt_19 : decode cX1_aimAt 19 = .ok (.if_icmp .ge 69, 3) := by decide +kernel
theorem dX1_aimAt_22 : decode cX1_aimAt 22 = .ok (.iconst (-1), 1) := by decide +kernel
theorem dX1_aimAt_23 : decode cX1_aimAt 23 = .ok (.istore_n 3, 1) := by decide +kernel
theorem dX1_aimAt_24 : decode cX1_aimAt 24 = .ok (.iload_n 3, 1) := by decide +kernel
theorem dX1_aimAt_25 : decode cX1_aimAt 25 = .ok (.iconst 5, 1) := by decide +kernel
theorem dX1_aimAt_26 : decode cX1_aimAt 26 = .ok (.if_icmp .gt 56, 3) := by decide +kernel
theorem dX1_aimAt_29 : decode cX1_aimAt 29 = .ok (.sipush 1000, 3) := by decide +kernel
theorem dX1_aimAt_32 : decode cX1_aimAt 32 = .ok (.istore 4, 2) := by decide +kernel
theorem dX1_aimAt_34 : decode cX1_aimAt 34 = .ok (.iconst 0, 1) := by decide +kernel
theorem dX1_aimAt_35 : decode cX1_aimAt 35 = .ok (.istore 5, 2) := by decide +kernel
theorem dX1_aimAt_37 : decode cX1_aimAt 37 = .ok (.iload 5, 2) := by decide +kernel
theorem dX1_aimAt_39 : decode cX1_aimAt 39 = .ok (.iconst 5, 1) := by decide +kernel
theorem dX1_aimAt_40 : decode cX1_aimAt 40 = .ok (.if_icmp .ge 24, 3) := by decide +kernel
theorem dX1_aimAt_43 : decode cX1_aimAt 43 = .ok (.iload 4, 2) := by decide +kernel
theorem dX1_aimAt_45 : decode cX1_aimAt 45 = .ok (.aload_n 0, 1) := by decide +kernel
theorem dX1_aimAt_46 : decode cX1_aimAt 46 = .ok (.iload 5, 2) := by decide +kernel
theorem dX1_aimAt_48 : decode cX1_aimAt 48 = .ok (.iload_n 3, 1) := by decide +kernel
theorem dX1_aimAt_49 : decode cX1_aimAt 49 = .ok (.iload_n 1, 1) := by decide +kernel
theorem dX1_aimAt_50 : decode cX1_aimAt 50 = .ok (.invokevirtual 78, 3) := by decide +kernel
theorem dX1_aimAt_53 : decode cX1_aimAt 53 = .ok (.invokestatic 82, 3) := by decide +kernel
theorem dX1_aimAt_56 : decode cX1_aimAt 56 = .ok (.istore 4, 2) := by decide +kernel
theorem dX1_aimAt_58 : decode cX1_aimAt 58 = .ok (.iinc 5 1, 3) := by decide +kernel
theorem dX1_aimAt_61 : decode cX1_aimAt 61 = .ok (.goto (-24), 3) := by decide +kernel
theorem dX1_aimAt_64 : decode cX1_aimAt 64 = .ok (.aload_n 0, 1) := by decide +kernel
theorem dX1_aimAt_65 : decode cX1_aimAt 65 = .ok (.getfield 18, 3) := by decide +kernel
theorem dX1_aimAt_68 : decode cX1_aimAt 68 = .ok (.iload_n 3, 1) := by decide +kernel
theorem dX1_aimAt_69 : decode cX1_aimAt 69 = .ok (.iconst 1, 1) := by decide +kernel
theorem dX1_aimAt_70 : decode cX1_aimAt 70 = .ok (.iadd, 1) := by decide +kernel
theorem dX1_aimAt_71 : decode cX1_aimAt 71 = .ok (.iload 4, 2) := by decide +kernel
theorem dX1_aimAt_73 : decode cX1_aimAt 73 = .ok (.invokestatic 64, 3) := by decide +kernel
theorem dX1_aimAt_76 : decode cX1_aimAt 76 = .ok (.iinc 3 1, 3) := by decide +kernel
theorem dX1_aimAt_79 : decode cX1_aimAt 79 = .ok (.goto (-55), 3) := by decide +kernel
theorem dX1_aimAt_82 : decode cX1_aimAt 82 = .ok (.iinc 2 1, 3) := by decide +kernel
theorem dX1_aimAt_85 : decode cX1_aimAt 85 = .ok (.goto (-69), 3) := by decide +kernel
theorem dX1_aimAt_88 : decode cX1_aimAt 88 = .ok (.return_, 1) := by decide +kernel
set_option maxRecDepth 20000 in
theorem ggX1_fewestWords_X4_at : GoodIn wsX1_fewestWords wsX4_at := goodIn_r _ [5] (by decide +kernel) (by decide +kernel)
set_option maxRecDepth 20000 in
theorem gX1_fewestWords_X4_at_n93 : GoodIn wsX1_fewestWords (wsX4_at) := ggX1_fewestWords_X4_at
theorem dX1_fewestWords_0 : decode cX1_fewestWords 0 = .ok (.aload_n 0, 1) := by decide +kernel
theorem dX1_fewestWords_1 : decode cX1_fewestWords 1 = .ok (.getfield 40, 3) := by decide +kernel
theorem dX1_fewestWords_4 : decode cX1_fewestWords 4 = .ok (.getfield 87, 3) := by decide +kernel
theorem dX1_fewestWords_7 : decode cX1_fewestWords 7 = .ok (.iload_n 1, 1) := by decide +kernel
theorem dX1_fewestWords_8 : decode cX1_fewestWords 8 = .ok (.if_icmp .ne 5, 3) := by decide +kernel
theorem dX1_fewestWords_11 : decode cX1_fewestWords 11 = .ok (.iconst 0, 1) := by decide +kernel
theorem dX1_fewestWords_12 : decode cX1_fewestWords 12 = .ok (.ireturn, 1) := by decide +kernel
theorem dX1_fewestWords_13 : decode cX1_fewestWords 13 = .ok (.aload_n 0, 1) := by decide +kernel
theorem dX1_fewestWords_14 : decode cX1_fewestWords 14 = .ok (.getfield 18, 3) := by decide +kernel
theorem dX1_fewestWords_17 : decode cX1_fewestWords 17 = .ok (.aload_n 0, 1) := by decide +kernel
theorem dX1_fewestWords_18 : decode cX1_fewestWords 18 = .ok (.getfield 40, 3) := by decide +kernel
theorem dX1_fewestWords_21 : decode cX1_fewestWords 21 = .ok (.getfield 90, 3) := by decide +kernel
theorem dX1_fewestWords_24 : decode cX1_fewestWords 24 = .ok (.iconst 1, 1) := by decide +kernel
theorem dX1_fewestWords_25 : decode cX1_fewestWords 25 = .ok (.iadd, 1) := by decide +kernel
theorem dX1_fewestWords_26 : decode cX1_fewestWords 26 = .ok (.invokestatic 93, 3) := by decide +kernel
theorem dX1_fewestWords_29 : decode cX1_fewestWords 29 = .ok (.istore_n 2, 1) := by decide +kernel
theorem dX1_fewestWords_30 : decode cX1_fewestWords 30 = .ok (.iload_n 2, 1) := by decide +kernel
theorem dX1_fewestWords_31 : decode cX1_fewestWords 31 = .ok (.sipush 1000, 3) := by decide +kernel
theorem dX1_fewestWords_34 : decode cX1_fewestWords 34 = .ok (.if_icmp .ge 7, 3) := by decide +kernel
theorem dX1_fewestWords_37 : decode cX1_fewestWords 37 = .ok (.iload_n 2, 1) := by decide +kernel
theorem dX1_fewestWords_38 : decode cX1_fewestWords 38 = .ok (.goto 4, 3) := by decide +kernel
theorem dX1_fewestWords_41 : decode cX1_fewestWords 41 = .ok (.iconst (-1), 1) := by decide +kernel
theorem dX1_fewestWords_42 : decode cX1_fewestWords 42 = .ok (.ireturn, 1) := by decide +kernel
set_option maxRecDepth 20000 in
theorem ggX1_firstSpeaker_X1_fewestWords : GoodIn wsX1_firstSpeaker wsX1_fewestWords := goodIn_r _ [6, 1, 7, 8, 9, 10, 24, 25, 26, 27, 28, 29, 30, 31, 32, 33, 34, 35, 36, 37, 38, 39, 40, 41, 42, 43, 44, 45] (by decide +kernel) (by decide +kernel)
set_option maxRecDepth 20000 in
theorem gX1_firstSpeaker_X1_fewestWords : GoodIn wsX1_firstSpeaker (wsV RX1 97 RX1 yX1_fewestWords wsX1_fewestWords) := goodIn_app (goodIn_of _ (by decide +kernel)) ggX1_firstSpeaker_X1_fewestWords
set_option maxRecDepth 20000 in
theorem ggX1_firstSpeaker_X1_stepsBy : GoodIn wsX1_firstSpeaker wsX1_stepsBy := goodIn_r _ [14, 15, 16, 7, 17, 18, 19, 20, 21, 22, 5, 23, 8, 9, 10, 24, 25, 26, 27, 28, 29, 30, 31, 32, 33] (by decide +kernel) (by decide +kernel)
set_option maxRecDepth 20000 in
theorem gX1_firstSpeaker_X1_stepsBy : GoodIn wsX1_firstSpeaker (wsV RX1 78 RX1 yX1_stepsBy wsX1_stepsBy) := goodIn_app (goodIn_of _ (by decide +kernel)) ggX1_firstSpeaker_X1_stepsBy
theorem dX1_firstSpeaker_0 : decode cX1_firstSpeaker 0 = .ok (.aload_n 0, 1) := by decide +kernel
theorem dX1_firstSpeaker_1 : decode cX1_firstSpeaker 1 = .ok (.iload_n 1, 1) := by decide +kernel
theorem dX1_firstSpeaker_2 : decode cX1_firstSpeaker 2 = .ok (.invokevirtual 97, 3) := by decide +kernel
theorem dX1_firstSpeaker_5 : decode cX1_firstSpeaker 5 = .ok (.istore_n 2, 1) := by decide +kernel
theorem dX1_firstSpeaker_6 : decode cX1_firstSpeaker 6 = .ok (.iconst 0, 1) := by decide +kernel
theorem dX1_firstSpeaker_7 : decode cX1_firstSpeaker 7 = .ok (.istore_n 3, 1) := by decide +kernel
theorem dX1_firstSpeaker_8 : decode cX1_firstSpeaker 8 = .ok (.iload_n 3, 1) := by decide +kernel
theorem dX1_firstSpeaker_9 : decode cX1_firstSpeaker 9 = .ok (.iconst 5, 1) := by decide +kernel
theorem dX1_firstSpeaker_10 : decode cX1_firstSpeaker 10 = .ok (.if_icmp .ge 28, 3) := by decide +kernel
theorem dX1_firstSpeaker_13 : decode cX1_firstSpeaker 13 = .ok (.aload_n 0, 1) := by decide +kernel
theorem dX1_firstSpeaker_14 : decode cX1_firstSpeaker 14 = .ok (.iload_n 3, 1) := by decide +kernel
theorem dX1_firstSpeaker_15 : decode cX1_firstSpeaker 15 = .ok (.aload_n 0, 1) := by decide +kernel
theorem dX1_firstSpeaker_16 : decode cX1_firstSpeaker 16 = .ok (.getfield 40, 3) := by decide +kernel
theorem dX1_firstSpeaker_19 : decode cX1_firstSpeaker 19 = .ok (.getfield 90, 3) := by decide +kernel
theorem dX1_firstSpeaker_22 : decode cX1_firstSpeaker 22 = .ok (.iload_n 1, 1) := by decide +kernel
theorem dX1_firstSpeaker_23 : decode cX1_firstSpeaker 23 = .ok (.invokevirtual 78, 3) := by decide +kernel
theorem dX1_firstSpeaker_26 : decode cX1_firstSpeaker 26 = .ok (.iload_n 2, 1) := by decide +kernel
theorem dX1_firstSpeaker_27 : decode cX1_firstSpeaker 27 = .ok (.if_icmp .ne 5, 3) := by decide +kernel
theorem dX1_firstSpeaker_30 : decode cX1_firstSpeaker 30 = .ok (.iload_n 3, 1) := by decide +kernel
theorem dX1_firstSpeaker_31 : decode cX1_firstSpeaker 31 = .ok (.ireturn, 1) := by decide +kernel
theorem dX1_firstSpeaker_32 : decode cX1_firstSpeaker 32 = .ok (.iinc 3 1, 3) := by decide +kernel
theorem dX1_firstSpeaker_35 : decode cX1_firstSpeaker 35 = .ok (.goto (-27), 3) := by decide +kernel
theorem dX1_firstSpeaker_38 : decode cX1_firstSpeaker 38 = .ok (.iconst (-1), 1) := by decide +kernel
theorem dX1_firstSpeaker_39 : decode cX1_firstSpeaker 39 = .ok (.ireturn, 1) := by decide +kernel
set_option maxRecDepth 20000 in
theorem ggX1_stepsBy_X1_wordPlace : GoodIn wsX1_stepsBy wsX1_wordPlace := goodIn_r _ [11] (by decide +kernel) (by decide +kernel)
set_option maxRecDepth 20000 in
theorem gX1_stepsBy_X1_wordPlace : GoodIn wsX1_stepsBy (va_wsS RX1 56 yX1_wordPlace wsX1_wordPlace) := goodIn_app (goodIn_of _ (by decide +kernel)) ggX1_stepsBy_X1_wordPlace
set_option maxRecDepth 20000 in
theorem ggX1_stepsBy_X4_at : GoodIn wsX1_stepsBy wsX4_at := goodIn_r _ [14] (by decide +kernel) (by decide +kernel)
set_option maxRecDepth 20000 in
theorem gX1_stepsBy_X4_at_n93 : GoodIn wsX1_stepsBy (wsX4_at) := ggX1_stepsBy_X4_at
theorem dX1_stepsBy_0 : decode cX1_stepsBy 0 = .ok (.iload_n 2, 1) := by decide +kernel
theorem dX1_stepsBy_1 : decode cX1_stepsBy 1 = .ok (.iload_n 1, 1) := by decide +kernel
theorem dX1_stepsBy_2 : decode cX1_stepsBy 2 = .ok (.invokestatic 56, 3) := by decide +kernel
theorem dX1_stepsBy_5 : decode cX1_stepsBy 5 = .ok (.istore 4, 2) := by decide +kernel
theorem dX1_stepsBy_7 : decode cX1_stepsBy 7 = .ok (.aload_n 0, 1) := by decide +kernel
theorem dX1_stepsBy_8 : decode cX1_stepsBy 8 = .ok (.getfield 9, 3) := by decide +kernel
theorem dX1_stepsBy_11 : decode cX1_stepsBy 11 = .ok (.iload 4, 2) := by decide +kernel
theorem dX1_stepsBy_13 : decode cX1_stepsBy 13 = .ok (.invokestatic 93, 3) := by decide +kernel
theorem dX1_stepsBy_16 : decode cX1_stepsBy 16 = .ok (.bipush (-2), 2) := by decide +kernel
theorem dX1_stepsBy_18 : decode cX1_stepsBy 18 = .ok (.if_icmp .ne 7, 3) := by decide +kernel
theorem dX1_stepsBy_21 : decode cX1_stepsBy 21 = .ok (.sipush 1000, 3) := by decide +kernel
theorem dX1_stepsBy_24 : decode cX1_stepsBy 24 = .ok (.ireturn, 1) := by decide +kernel
theorem dX1_stepsBy_25 : decode cX1_stepsBy 25 = .ok (.aload_n 0, 1) := by decide +kernel
theorem dX1_stepsBy_26 : decode cX1_stepsBy 26 = .ok (.getfield 15, 3) := by decide +kernel
theorem dX1_stepsBy_29 : decode cX1_stepsBy 29 = .ok (.iload 4, 2) := by decide +kernel
theorem dX1_stepsBy_31 : decode cX1_stepsBy 31 = .ok (.invokestatic 93, 3) := by decide +kernel
theorem dX1_stepsBy_34 : decode cX1_stepsBy 34 = .ok (.iload_n 3, 1) := by decide +kernel
theorem dX1_stepsBy_35 : decode cX1_stepsBy 35 = .ok (.if_icmp .ne 5, 3) := by decide +kernel
theorem dX1_stepsBy_38 : decode cX1_stepsBy 38 = .ok (.iconst 1, 1) := by decide +kernel
theorem dX1_stepsBy_39 : decode cX1_stepsBy 39 = .ok (.ireturn, 1) := by decide +kernel
theorem dX1_stepsBy_40 : decode cX1_stepsBy 40 = .ok (.sipush 1000, 3) := by decide +kernel
theorem dX1_stepsBy_43 : decode cX1_stepsBy 43 = .ok (.iconst 1, 1) := by decide +kernel
theorem dX1_stepsBy_44 : decode cX1_stepsBy 44 = .ok (.aload_n 0, 1) := by decide +kernel
theorem dX1_stepsBy_45 : decode cX1_stepsBy 45 = .ok (.getfield 18, 3) := by decide +kernel
theorem dX1_stepsBy_48 : decode cX1_stepsBy 48 = .ok (.aload_n 0, 1) := by decide +kernel
theorem dX1_stepsBy_49 : decode cX1_stepsBy 49 = .ok (.getfield 9, 3) := by decide +kernel
theorem dX1_stepsBy_52 : decode cX1_stepsBy 52 = .ok (.iload 4, 2) := by decide +kernel
theorem dX1_stepsBy_54 : decode cX1_stepsBy 54 = .ok (.invokestatic 93, 3) := by decide +kernel
theorem dX1_stepsBy_57 : decode cX1_stepsBy 57 = .ok (.iconst 1, 1) := by decide +kernel
theorem dX1_stepsBy_58 : decode cX1_stepsBy 58 = .ok (.iadd, 1) := by decide +kernel
theorem dX1_stepsBy_59 : decode cX1_stepsBy 59 = .ok (.invokestatic 93, 3) := by decide +kernel
theorem dX1_stepsBy_62 : decode cX1_stepsBy 62 = .ok (.iadd, 1) := by decide +kernel
theorem dX1_stepsBy_63 : decode cX1_stepsBy 63 = .ok (.invokestatic 82, 3) := by decide +kernel
theorem dX1_stepsBy_66 : decode cX1_stepsBy 66 = .ok (.ireturn, 1) := by decide +kernel
set_option maxRecDepth 20000 in
theorem ggX1_weighReplies_X1_tableWords : GoodIn wsX1_weighReplies wsX1_tableWords := goodIn_r _ [6, 7, 8, 9, 10, 11, 12, 13, 14, 15, 16, 17, 18, 19, 20, 21, 22, 23, 24, 25, 26, 27, 28, 29, 30, 5, 31, 32, 33, 34, 35, 36, 37, 38, 39, 40, 41, 86, 87, 88, 89, 90, 91, 92, 93, 94, 95, 96, 97, 98, 99, 100, 101, 102, 103, 104, 105, 106, 107, 108, 109, 110, 111] (by decide +kernel) (by decide +kernel)
set_option maxRecDepth 20000 in
theorem gX1_weighReplies_X1_tableWords : GoodIn wsX1_weighReplies (wsV RX1 71 RX1 yX1_tableWords wsX1_tableWords) := goodIn_app (goodIn_of _ (by decide +kernel)) ggX1_weighReplies_X1_tableWords
set_option maxRecDepth 20000 in
theorem ggX1_weighReplies_X1_worthPlace : GoodIn wsX1_weighReplies wsX1_worthPlace := goodIn_r _ [44] (by decide +kernel) (by decide +kernel)
set_option maxRecDepth 20000 in
theorem gX1_weighReplies_X1_worthPlace : GoodIn wsX1_weighReplies (va_wsS RX1 100 yX1_worthPlace wsX1_worthPlace) := goodIn_app (goodIn_of _ (by decide +kernel)) ggX1_weighReplies_X1_worthPlace
set_option maxRecDepth 20000 in
theorem ggX1_weighReplies_X1_worthOfEnd : GoodIn wsX1_weighReplies wsX1_worthOfEnd := goodIn_r _ [48, 7, 49, 50, 51, 14, 52, 20, 53, 86, 87, 88, 89, 90, 91, 92, 93, 94, 95, 108, 109, 110, 111] (by decide +kernel) (by decide +kernel)
set_option maxRecDepth 20000 in
theorem gX1_weighReplies_X1_worthOfEnd : GoodIn wsX1_weighReplies (wsV RX1 103 RX1 yX1_worthOfEnd wsX1_worthOfEnd) := goodIn_app (goodIn_of _ (by decide +kernel)) ggX1_weighReplies_X1_worthOfEnd
set_option maxRecDepth 20000 in
theorem ggX1_weighReplies_X4_put : GoodIn wsX1_weighReplies wsX4_put := goodIn_r _ [37] (by decide +kernel) (by decide +kernel)
set_option maxRecDepth 20000 in
theorem gX1_weighReplies_X4_put_n64 : GoodIn wsX1_weighReplies (wsX4_put) := ggX1_weighReplies_X4_put
set_option maxRecDepth 20000 in
theorem ggX1_weighReplies_X1_weighBreath : GoodIn wsX1_weighReplies wsX1_weighBreath := goodIn_r _ [57, 58, 1, 59, 60, 61, 5, 62, 63, 64, 65, 66, 7, 9, 49, 50, 51, 14, 52, 20, 53, 29, 30, 31, 67, 23, 68, 69, 70, 71, 72, 10, 42, 43, 44, 73, 74, 75, 76, 77, 78, 79, 80, 81, 82, 36, 37, 83, 84, 85, 86, 87, 88, 89, 90, 91, 92, 93, 94, 95, 108, 109, 110, 111] (by decide +kernel) (by decide +kernel)
set_option maxRecDepth 20000 in
theorem gX1_weighReplies_X1_weighBreath : GoodIn wsX1_weighReplies (wsV RX1 106 RX1 yX1_weighBreath wsX1_weighBreath) := goodIn_app (goodIn_of _ (by decide +kernel)) ggX1_weighReplies_X1_weighBreath
theorem dX1_weighReplies_0 : decode cX1_weighReplies 0 = .ok (.aload_n 0, 1) := by decide +kernel
theorem dX1_weighReplies_1 : decode cX1_weighReplies 1 = .ok (.invokevirtual 71, 3) := by decide +kernel
theorem dX1_weighReplies_4 : decode cX1_weighReplies 4 = .ok (.iconst (-1), 1) := by decide +kernel
theorem dX1_weighReplies_5 : decode cX1_weighReplies 5 = .ok (.istore_n 2, 1) := by decide +kernel
theorem dX1_weighReplies_6 : decode cX1_weighReplies 6 = .ok (.iload_n 2, 1) := by decide +kernel
theorem dX1_weighReplies_7 : decode cX1_weighReplies 7 = .ok (.iconst 5, 1) := by decide +kernel
theorem dX1_weighReplies_8 : decode cX1_weighReplies 8 = .ok (.if_icmp .gt 39, 3) := by decide +kernel
theorem dX1_weighReplies_11 : decode cX1_weighReplies 11 = .ok (.iconst (-1), 1) := by decide +kernel
theorem dX1_weighReplies_12 : decode cX1_weighReplies 12 = .ok (.istore_n 3, 1) := by decide +kernel
theorem dX1_weighReplies_13 : decode cX1_weighReplies 13 = .ok (.iload_n 3, 1) := by decide +kernel
theorem dX1_weighReplies_14 : decode cX1_weighReplies 14 = .ok (.iconst 5, 1) := by decide +kernel
theorem dX1_weighReplies_15 : decode cX1_weighReplies 15 = .ok (.if_icmp .ge 26, 3) := by decide +kernel
theorem dX1_weighReplies_18 : decode cX1_weighReplies 18 = .ok (.aload_n 0, 1) := by decide +kernel
theorem dX1_weighReplies_19 : decode cX1_weighReplies 19 = .ok (.getfield 21, 3) := by decide +kernel
theorem dX1_weighReplies_22 : decode cX1_weighReplies 22 = .ok (.iload_n 2, 1) := by decide +kernel
theorem dX1_weighReplies_23 : decode cX1_weighReplies 23 = .ok (.iload_n 3, 1) := by decide +kernel
theorem dX1_weighReplies_24 : decode cX1_weighReplies 24 = .ok (.invokestatic 100, 3) := by decide +kernel
theorem dX1_weighReplies_27 : decode cX1_weighReplies 27 = .ok (.aload_n 0, 1) := by decide +kernel
theorem dX1_weighReplies_28 : decode cX1_weighReplies 28 = .ok (.iload_n 3, 1) := by decide +kernel
theorem dX1_weighReplies_29 : decode cX1_weighReplies 29 = .ok (.invokevirtual 103, 3) := by decide +kernel
theorem dX1_weighReplies_32 : decode cX1_weighReplies 32 = .ok (.invokestatic 64, 3) := by decide +kernel
theorem dX1_weighReplies_35 : decode cX1_weighReplies 35 = .ok (.iinc 3 1, 3) := by decide +kernel
theorem dX1_weighReplies_38 : decode cX1_weighReplies 38 = .ok (.goto (-25), 3) := by decide +kernel
theorem dX1_weighReplies_41 : decode cX1_weighReplies 41 = .ok (.iinc 2 1, 3) := by decide +kernel
theorem dX1_weighReplies_44 : decode cX1_weighReplies 44 = .ok (.goto (-38), 3) := by decide +kernel
theorem dX1_weighReplies_47 : decode cX1_weighReplies 47 = .ok (.iload_n 1, 1) := by decide +kernel
theorem dX1_weighReplies_48 : decode cX1_weighReplies 48 = .ok (.iconst 1, 1) := by decide +kernel
theorem dX1_weighReplies_49 : decode cX1_weighReplies 49 = .ok (.isub, 1) := by decide +kernel
theorem dX1_weighReplies_50 : decode cX1_weighReplies 50 = .ok (.istore_n 2, 1) := by decide +kernel
theorem dX1_weighReplies_51 : decode cX1_weighReplies 51 = .ok (.iload_n 2, 1) := by decide +kernel
theorem dX1_weighReplies_52 : decode cX1_weighReplies 52 = .ok (.ifCond .le 16, 3) := by decide +kernel
theorem dX1_weighReplies_55 : decode cX1_weighReplies 55 = .ok (.aload_n 0, 1) := by decide +kernel
theorem dX1_weighReplies_56 : decode cX1_weighReplies 56 = .ok (.iload_n 2, 1) := by decide +kernel
theorem dX1_weighReplies_57 : decode cX1_weighReplies 57 = .ok (.iconst 2, 1) := by decide +kernel
theorem dX1_weighReplies_58 : decode cX1_weighReplies 58 = .ok (.irem, 1) := by decide +kernel
theorem dX1_weighReplies_59 : decode cX1_weighReplies 59 = .ok (.invokevirtual 106, 3) := by decide +kernel
theorem dX1_weighReplies_62 : decode cX1_weighReplies 62 = .ok (.iinc 2 (-1), 3) := by decide +kernel
theorem dX1_weighReplies_65 : decode cX1_weighReplies 65 = .ok (.goto (-14), 3) := by decide +kernel
theorem dX1_weighReplies_68 : decode cX1_weighReplies 68 = .ok (.return_, 1) := by decide +kernel
set_option maxRecDepth 20000 in
theorem ggX1_bestWorth_X1_worthPlace : GoodIn wsX1_bestWorth wsX1_worthPlace := goodIn_r _ [6] (by decide +kernel) (by decide +kernel)
set_option maxRecDepth 20000 in
theorem gX1_bestWorth_X1_worthPlace : GoodIn wsX1_bestWorth (va_wsS RX1 100 yX1_worthPlace wsX1_worthPlace) := goodIn_app (goodIn_of _ (by decide +kernel)) ggX1_bestWorth_X1_worthPlace
set_option maxRecDepth 20000 in
theorem ggX1_bestWorth_X4_at : GoodIn wsX1_bestWorth wsX4_at := goodIn_r _ [9] (by decide +kernel) (by decide +kernel)
set_option maxRecDepth 20000 in
theorem gX1_bestWorth_X4_at_n93 : GoodIn wsX1_bestWorth (wsX4_at) := ggX1_bestWorth_X4_at
set_option maxRecDepth 20000 in
theorem ggX1_bestWorth_X1_bestByWord : GoodIn wsX1_bestWorth wsX1_bestByWord := goodIn_r _ [13, 14, 15, 16, 5, 17, 18, 19, 20, 21, 22, 23, 24, 25, 26, 27, 28, 29, 7, 8, 9, 30, 31, 32, 33, 1, 34, 3, 4, 6, 35, 36, 37, 38, 39, 40, 41, 42, 43, 44, 45, 46, 47, 48, 49, 50, 51, 52, 53, 54, 67, 68, 69, 70] (by decide +kernel) (by decide +kernel)
set_option maxRecDepth 20000 in
theorem gX1_bestWorth_X1_bestByWord : GoodIn wsX1_bestWorth (wsV RX1 110 RX1 yX1_bestByWord wsX1_bestByWord) := goodIn_app (goodIn_of _ (by decide +kernel)) ggX1_bestWorth_X1_bestByWord
set_option maxRecDepth 20000 in
theorem ggX1_bestWorth_X1_better : GoodIn wsX1_bestWorth wsX1_better := goodIn_r _ [37, 38, 39, 40, 41, 42, 43, 44] (by decide +kernel) (by decide +kernel)
set_option maxRecDepth 20000 in
theorem gX1_bestWorth_X1_better : GoodIn wsX1_bestWorth (va_wsS RX1 113 yX1_better wsX1_better) := goodIn_app (goodIn_of _ (by decide +kernel)) ggX1_bestWorth_X1_better
theorem dX1_bestWorth_0 : decode cX1_bestWorth 0 = .ok (.iconst 0, 1) := by decide +kernel
theorem dX1_bestWorth_1 : decode cX1_bestWorth 1 = .ok (.aload_n 0, 1) := by decide +kernel
theorem dX1_bestWorth_2 : decode cX1_bestWorth 2 = .ok (.getfield 21, 3) := by decide +kernel
theorem dX1_bestWorth_5 : decode cX1_bestWorth 5 = .ok (.aload_n 0, 1) := by decide +kernel
theorem dX1_bestWorth_6 : decode cX1_bestWorth 6 = .ok (.getfield 40, 3) := by decide +kernel
theorem dX1_bestWorth_9 : decode cX1_bestWorth 9 = .ok (.getfield 90, 3) := by decide +kernel
theorem dX1_bestWorth_12 : decode cX1_bestWorth 12 = .ok (.aload_n 0, 1) := by decide +kernel
theorem dX1_bestWorth_13 : decode cX1_bestWorth 13 = .ok (.getfield 40, 3) := by decide +kernel
theorem dX1_bestWorth_16 : decode cX1_bestWorth 16 = .ok (.getfield 87, 3) := by decide +kernel
theorem dX1_bestWorth_19 : decode cX1_bestWorth 19 = .ok (.invokestatic 100, 3) := by decide +kernel
theorem dX1_bestWorth_22 : decode cX1_bestWorth 22 = .ok (.invokestatic 93, 3) := by decide +kernel
theorem dX1_bestWorth_25 : decode cX1_bestWorth 25 = .ok (.aload_n 0, 1) := by decide +kernel
theorem dX1_bestWorth_26 : decode cX1_bestWorth 26 = .ok (.iconst 0, 1) := by decide +kernel
theorem dX1_bestWorth_27 : decode cX1_bestWorth 27 = .ok (.aload_n 0, 1) := by decide +kernel
theorem dX1_bestWorth_28 : decode cX1_bestWorth 28 = .ok (.getfield 40, 3) := by decide +kernel
theorem dX1_bestWorth_31 : decode cX1_bestWorth 31 = .ok (.getfield 90, 3) := by decide +kernel
theorem dX1_bestWorth_34 : decode cX1_bestWorth 34 = .ok (.invokevirtual 110, 3) := by decide +kernel
theorem dX1_bestWorth_37 : decode cX1_bestWorth 37 = .ok (.invokestatic 113, 3) := by decide +kernel
theorem dX1_bestWorth_40 : decode cX1_bestWorth 40 = .ok (.ireturn, 1) := by decide +kernel
set_option maxRecDepth 20000 in
theorem ggX1_bestOpening_X1_bestWorth : GoodIn wsX1_bestOpening wsX1_bestWorth := goodIn_r _ [7, 1, 2, 8, 9, 6, 10, 11, 12, 13, 14, 15, 16, 17, 18, 19, 20, 21, 22, 23, 24, 25, 26, 27, 28, 29, 30, 31, 32, 33, 34, 35, 36, 37, 38, 39, 40, 41, 42, 43, 44, 45, 46, 47, 48, 49, 50, 51, 52, 53, 54, 55, 56, 57, 58, 59, 60, 61, 62, 63, 64, 65, 66, 67, 68, 69, 70, 71, 72, 73, 74] (by decide +kernel) (by decide +kernel)
set_option maxRecDepth 20000 in
theorem gX1_bestOpening_X1_bestWorth : GoodIn wsX1_bestOpening (wsV RX1 116 RX1 yX1_bestWorth wsX1_bestWorth) := goodIn_app (goodIn_of _ (by decide +kernel)) ggX1_bestOpening_X1_bestWorth
set_option maxRecDepth 20000 in
theorem ggX1_bestOpening_X1_worthPlace : GoodIn wsX1_bestOpening wsX1_worthPlace := goodIn_r _ [10] (by decide +kernel) (by decide +kernel)
set_option maxRecDepth 20000 in
theorem gX1_bestOpening_X1_worthPlace : GoodIn wsX1_bestOpening (va_wsS RX1 100 yX1_worthPlace wsX1_worthPlace) := goodIn_app (goodIn_of _ (by decide +kernel)) ggX1_bestOpening_X1_worthPlace
set_option maxRecDepth 20000 in
theorem ggX1_bestOpening_X4_at : GoodIn wsX1_bestOpening wsX4_at := goodIn_r _ [13] (by decide +kernel) (by decide +kernel)
set_option maxRecDepth 20000 in
theorem gX1_bestOpening_X4_at_n93 : GoodIn wsX1_bestOpening (wsX4_at) := ggX1_bestOpening_X4_at
set_option maxRecDepth 20000 in
theorem ggX1_bestOpening_X1_isTurnOf : GoodIn wsX1_bestOpening wsX1_isTurnOf := goodIn_r _ [21, 22, 23, 24, 25, 26, 27, 28, 29, 30, 31, 32, 6, 33, 11, 12, 13, 49, 50, 51, 52, 53, 54, 55, 56, 57, 58, 71, 72, 73, 74] (by decide +kernel) (by decide +kernel)
set_option maxRecDepth 20000 in
theorem gX1_bestOpening_X1_isTurnOf : GoodIn wsX1_bestOpening (wsV RX1 120 RX1 yX1_isTurnOf wsX1_isTurnOf) := goodIn_app (goodIn_of _ (by decide +kernel)) ggX1_bestOpening_X1_isTurnOf
set_option maxRecDepth 20000 in
theorem ggX1_bestOpening_X1_worthBehind : GoodIn wsX1_bestOpening wsX1_worthBehind := goodIn_r _ [37, 1, 23, 38, 31, 32, 6, 33, 11, 12, 13, 8, 9, 10, 49, 50, 51, 52, 53, 54, 55, 56, 57, 58] (by decide +kernel) (by decide +kernel)
set_option maxRecDepth 20000 in
theorem gX1_bestOpening_X1_worthBehind : GoodIn wsX1_bestOpening (wsV RX1 123 RX1 yX1_worthBehind wsX1_worthBehind) := goodIn_app (goodIn_of _ (by decide +kernel)) ggX1_bestOpening_X1_worthBehind
theorem dX1_bestOpening_0 : decode cX1_bestOpening 0 = .ok (.aload_n 0, 1) := by decide +kernel
theorem dX1_bestOpening_1 : decode cX1_bestOpening 1 = .ok (.invokevirtual 116, 3) := by decide +kernel
theorem dX1_bestOpening_4 : decode cX1_bestOpening 4 = .ok (.istore_n 1, 1) := by decide +kernel
theorem dX1_bestOpening_5 : decode cX1_bestOpening 5 = .ok (.aload_n 0, 1) := by decide +kernel
theorem dX1_bestOpening_6 : decode cX1_bestOpening 6 = .ok (.getfield 21, 3) := by decide +kernel
theorem dX1_bestOpening_9 : decode cX1_bestOpening 9 = .ok (.aload_n 0, 1) := by decide +kernel
theorem dX1_bestOpening_10 : decode cX1_bestOpening 10 = .ok (.getfield 40, 3) := by decide +kernel
theorem dX1_bestOpening_13 : decode cX1_bestOpening 13 = .ok (.getfield 90, 3) := by decide +kernel
theorem dX1_bestOpening_16 : decode cX1_bestOpening 16 = .ok (.aload_n 0, 1) := by decide +kernel
theorem dX1_bestOpening_17 : decode cX1_bestOpening 17 = .ok (.getfield 40, 3) := by decide +kernel
theorem dX1_bestOpening_20 : decode cX1_bestOpening 20 = .ok (.getfield 87, 3) := by decide +kernel
theorem dX1_bestOpening_23 : decode cX1_bestOpening 23 = .ok (.invokestatic 100, 3) := by decide +kernel
theorem dX1_bestOpening_26 : decode cX1_bestOpening 26 = .ok (.invokestatic 93, 3) := by decide +kernel
theorem dX1_bestOpening_29 : decode cX1_bestOpening 29 = .ok (.iload_n 1, 1) := by decide +kernel
theorem dX1_bestOpening_30 : decode cX1_bestOpening 30 = .ok (.if_icmp .ne 5, 3) := by decide +kernel
theorem dX1_bestOpening_33 : decode cX1_bestOpening 33 = .ok (.iconst (-1), 1) := by decide +kernel
theorem dX1_bestOpening_34 : decode cX1_bestOpening 34 = .ok (.ireturn, 1) := by decide +kernel
theorem dX1_bestOpening_35 : decode cX1_bestOpening 35 = .ok (.iconst 0, 1) := by decide +kernel
theorem dX1_bestOpening_36 : decode cX1_bestOpening 36 = .ok (.istore_n 2, 1) := by decide +kernel
theorem dX1_bestOpening_37 : decode cX1_bestOpening 37 = .ok (.iload_n 2, 1) := by decide +kernel
theorem dX1_bestOpening_38 : decode cX1_bestOpening 38 = .ok (.iconst 5, 1) := by decide +kernel
theorem dX1_bestOpening_39 : decode cX1_bestOpening 39 = .ok (.if_icmp .ge 43, 3) := by decide +kernel
theorem dX1_bestOpening_42 : decode cX1_bestOpening 42 = .ok (.aload_n 0, 1) := by decide +kernel
theorem dX1_bestOpening_43 : decode cX1_bestOpening 43 = .ok (.iconst 0, 1) := by decide +kernel
theorem dX1_bestOpening_44 : decode cX1_bestOpening 44 = .ok (.iload_n 2, 1) := by decide +kernel
theorem dX1_bestOpening_45 : decode cX1_bestOpening 45 = .ok (.aload_n 0, 1) := by decide +kernel
theorem dX1_bestOpening_46 : decode cX1_bestOpening 46 = .ok (.getfield 40, 3) := by decide +kernel
theorem dX1_bestOpening_49 : decode cX1_bestOpening 49 = .ok (.getfield 90, 3) := by decide +kernel
theorem dX1_bestOpening_52 : decode cX1_bestOpening 52 = .ok (.invokevirtual 120, 3) := by decide +kernel
theorem dX1_bestOpening_55 : decode cX1_bestOpening 55 = .ok (.ifCond .eq 21, 3) := by decide +kernel
theorem dX1_bestOpening_58 : decode cX1_bestOpening 58 = .ok (.aload_n 0, 1) := by decide +kernel
theorem dX1_bestOpening_59 : decode cX1_bestOpening 59 = .ok (.iload_n 2, 1) := by decide +kernel
theorem dX1_bestOpening_60 : decode cX1_bestOpening 60 = .ok (.aload_n 0, 1) := by decide +kernel
theorem dX1_bestOpening_61 : decode cX1_bestOpening 61 = .ok (.getfield 40, 3) := by decide +kernel
theorem dX1_bestOpening_64 : decode cX1_bestOpening 64 = .ok (.getfield 90, 3) := by decide +kernel
theorem dX1_bestOpening_67 : decode cX1_bestOpening 67 = .ok (.invokevirtual 123, 3) := by decide +kernel
theorem dX1_bestOpening_70 : decode cX1_bestOpening 70 = .ok (.iload_n 1, 1) := by decide +kernel
theorem dX1_bestOpening_71 : decode cX1_bestOpening 71 = .ok (.if_icmp .ne 5, 3) := by decide +kernel
theorem dX1_bestOpening_74 : decode cX1_bestOpening 74 = .ok (.iload_n 2, 1) := by decide +kernel
theorem dX1_bestOpening_75 : decode cX1_bestOpening 75 = .ok (.ireturn, 1) := by decide +kernel
theorem dX1_bestOpening_76 : decode cX1_bestOpening 76 = .ok (.iinc 2 1, 3) := by decide +kernel
theorem dX1_bestOpening_79 : decode cX1_bestOpening 79 = .ok (.goto (-42), 3) := by decide +kernel
theorem dX1_bestOpening_82 : decode cX1_bestOpening 82 = .ok (.iconst (-1), 1) := by decide +kernel
theorem dX1_bestOpening_83 : decode cX1_bestOpening 83 = .ok (.ireturn, 1) := by decide +kernel
set_option maxRecDepth 20000 in
theorem ggX1_weighBreath_X1_bestByWord : GoodIn wsX1_weighBreath wsX1_bestByWord := goodIn_r _ [7, 8, 9, 10, 6, 11, 12, 13, 14, 15, 16, 17, 18, 19, 20, 21, 22, 23, 24, 25, 26, 27, 28, 29, 30, 2, 31, 32, 33, 34, 35, 36, 37, 38, 39, 40, 41, 42, 43, 44, 50, 51, 52, 53, 54, 55, 56, 57, 58, 59, 60, 61, 62, 63] (by decide +kernel) (by decide +kernel)
set_option maxRecDepth 20000 in
theorem gX1_weighBreath_X1_bestByWord : GoodIn wsX1_weighBreath (wsV RX1 110 RX1 yX1_bestByWord wsX1_bestByWord) := goodIn_app (goodIn_of _ (by decide +kernel)) ggX1_weighBreath_X1_bestByWord
set_option maxRecDepth 20000 in
theorem ggX1_weighBreath_X1_worthPlace : GoodIn wsX1_weighBreath wsX1_worthPlace := goodIn_r _ [34] (by decide +kernel) (by decide +kernel)
set_option maxRecDepth 20000 in
theorem gX1_weighBreath_X1_worthPlace : GoodIn wsX1_weighBreath (va_wsS RX1 100 yX1_worthPlace wsX1_worthPlace) := goodIn_app (goodIn_of _ (by decide +kernel)) ggX1_weighBreath_X1_worthPlace
set_option maxRecDepth 20000 in
theorem ggX1_weighBreath_X4_at : GoodIn wsX1_weighBreath wsX4_at := goodIn_r _ [26] (by decide +kernel) (by decide +kernel)
set_option maxRecDepth 20000 in
theorem gX1_weighBreath_X4_at_n93 : GoodIn wsX1_weighBreath (wsX4_at) := ggX1_weighBreath_X4_at
set_option maxRecDepth 20000 in
theorem ggX1_weighBreath_X1_better : GoodIn wsX1_weighBreath wsX1_better := goodIn_r _ [37, 38, 39, 40, 41, 42, 43, 44] (by decide +kernel) (by decide +kernel)
set_option maxRecDepth 20000 in
theorem gX1_weighBreath_X1_better : GoodIn wsX1_weighBreath (va_wsS RX1 113 yX1_better wsX1_better) := goodIn_app (goodIn_of _ (by decide +kernel)) ggX1_weighBreath_X1_better
set_option maxRecDepth 20000 in
theorem ggX1_weighBreath_X4_put : GoodIn wsX1_weighBreath wsX4_put := goodIn_r _ [46] (by decide +kernel) (by decide +kernel)
set_option maxRecDepth 20000 in
theorem gX1_weighBreath_X4_put_n64 : GoodIn wsX1_weighBreath (wsX4_put) := ggX1_weighBreath_X4_put
set_option maxRecDepth 20000 in
theorem ggX1_weighBreath_X4_copy : GoodIn wsX1_weighBreath wsX4_copy := goodIn_r _ [48, 49, 24, 25, 26] (by decide +kernel) (by decide +kernel)
set_option maxRecDepth 20000 in
theorem gX1_weighBreath_X4_copy_n126 : GoodIn wsX1_weighBreath (wsX4_copy) := ggX1_weighBreath_X4_copy
theorem dX1_weighBreath_0 : decode cX1_weighBreath 0 = .ok (.iconst (-1), 1) := by decide +kernel
theorem dX1_weighBreath_1 : decode cX1_weighBreath 1 = .ok (.istore_n 2, 1) := by decide +kernel
theorem dX1_weighBreath_2 : decode cX1_weighBreath 2 = .ok (.iload_n 2, 1) := by decide +kernel
theorem dX1_weighBreath_3 : decode cX1_weighBreath 3 = .ok (.iconst 5, 1) := by decide +kernel
theorem dX1_weighBreath_4 : decode cX1_weighBreath 4 = .ok (.if_icmp .gt 62, 3) := by decide +kernel
theorem dX1_weighBreath_7 : decode cX1_weighBreath 7 = .ok (.aload_n 0, 1) := by decide +kernel
theorem dX1_weighBreath_8 : decode cX1_weighBreath 8 = .ok (.iload_n 1, 1) := by decide +kernel
theorem dX1_weighBreath_9 : decode cX1_weighBreath 9 = .ok (.iload_n 2, 1) := by decide +kernel
theorem dX1_weighBreath_10 : decode cX1_weighBreath 10 = .ok (.invokevirtual 110, 3) := by decide +kernel
theorem dX1_weighBreath_13 : decode cX1_weighBreath 13 = .ok (.istore_n 3, 1) := by decide +kernel
theorem dX1_weighBreath_14 : decode cX1_weighBreath 14 = .ok (.iconst (-1), 1) := by decide +kernel
theorem dX1_weighBreath_15 : decode cX1_weighBreath 15 = .ok (.istore 4, 2) := by decide +kernel
theorem dX1_weighBreath_17 : decode cX1_weighBreath 17 = .ok (.iload 4, 2) := by decide +kernel
theorem dX1_weighBreath_19 : decode cX1_weighBreath 19 = .ok (.iconst 5, 1) := by decide +kernel
theorem dX1_weighBreath_20 : decode cX1_weighBreath 20 = .ok (.if_icmp .ge 40, 3) := by decide +kernel
theorem dX1_weighBreath_23 : decode cX1_weighBreath 23 = .ok (.iload_n 2, 1) := by decide +kernel
theorem dX1_weighBreath_24 : decode cX1_weighBreath 24 = .ok (.iload 4, 2) := by decide +kernel
theorem dX1_weighBreath_26 : decode cX1_weighBreath 26 = .ok (.invokestatic 100, 3) := by decide +kernel
theorem dX1_weighBreath_29 : decode cX1_weighBreath 29 = .ok (.istore 5, 2) := by decide +kernel
theorem dX1_weighBreath_31 : decode cX1_weighBreath 31 = .ok (.aload_n 0, 1) := by decide +kernel
theorem dX1_weighBreath_32 : decode cX1_weighBreath 32 = .ok (.getfield 24, 3) := by decide +kernel
theorem dX1_weighBreath_35 : decode cX1_weighBreath 35 = .ok (.iload 5, 2) := by decide +kernel
theorem dX1_weighBreath_37 : decode cX1_weighBreath 37 = .ok (.iload_n 1, 1) := by decide +kernel
theorem dX1_weighBreath_38 : decode cX1_weighBreath 38 = .ok (.aload_n 0, 1) := by decide +kernel
theorem dX1_weighBreath_39 : decode cX1_weighBreath 39 = .ok (.getfield 21, 3) := by decide +kernel
theorem dX1_weighBreath_42 : decode cX1_weighBreath 42 = .ok (.iload 5, 2) := by decide +kernel
theorem dX1_weighBreath_44 : decode cX1_weighBreath 44 = .ok (.invokestatic 93, 3) := by decide +kernel
theorem dX1_weighBreath_47 : decode cX1_weighBreath 47 = .ok (.iload_n 3, 1) := by decide +kernel
theorem dX1_weighBreath_48 : decode cX1_weighBreath 48 = .ok (.invokestatic 113, 3) := by decide +kernel
theorem dX1_weighBreath_51 : decode cX1_weighBreath 51 = .ok (.invokestatic 64, 3) := by decide +kernel
theorem dX1_weighBreath_54 : decode cX1_weighBreath 54 = .ok (.iinc 4 1, 3) := by decide +kernel
theorem dX1_weighBreath_57 : decode cX1_weighBreath 57 = .ok (.goto (-40), 3) := by decide +kernel
theorem dX1_weighBreath_60 : decode cX1_weighBreath 60 = .ok (.iinc 2 1, 3) := by decide +kernel
theorem dX1_weighBreath_63 : decode cX1_weighBreath 63 = .ok (.goto (-61), 3) := by decide +kernel
theorem dX1_weighBreath_66 : decode cX1_weighBreath 66 = .ok (.aload_n 0, 1) := by decide +kernel
theorem dX1_weighBreath_67 : decode cX1_weighBreath 67 = .ok (.getfield 24, 3) := by decide +kernel
theorem dX1_weighBreath_70 : decode cX1_weighBreath 70 = .ok (.aload_n 0, 1) := by decide +kernel
theorem dX1_weighBreath_71 : decode cX1_weighBreath 71 = .ok (.getfield 21, 3) := by decide +kernel
theorem dX1_weighBreath_74 : decode cX1_weighBreath 74 = .ok (.invokestatic 126, 3) := by decide +kernel
theorem dX1_weighBreath_77 : decode cX1_weighBreath 77 = .ok (.return_, 1) := by decide +kernel
set_option maxRecDepth 20000 in
theorem ggX1_bestByWord_X1_isTurnOf : GoodIn wsX1_bestByWord wsX1_isTurnOf := goodIn_r _ [5, 6, 7, 8, 9, 10, 11, 12, 13, 14, 15, 16, 4, 17, 18, 19, 20, 40, 41, 42, 43, 44, 45, 46, 47, 48, 49, 50, 51, 52, 53] (by decide +kernel) (by decide +kernel)
set_option maxRecDepth 20000 in
theorem gX1_bestByWord_X1_isTurnOf : GoodIn wsX1_bestByWord (wsV RX1 120 RX1 yX1_isTurnOf wsX1_isTurnOf) := goodIn_app (goodIn_of _ (by decide +kernel)) ggX1_bestByWord_X1_isTurnOf
set_option maxRecDepth 20000 in
theorem ggX1_bestByWord_X1_worthBehind : GoodIn wsX1_bestByWord wsX1_worthBehind := goodIn_r _ [24, 25, 7, 26, 15, 16, 4, 17, 18, 19, 20, 27, 28, 29, 40, 41, 42, 43, 44, 45, 46, 47, 48, 49] (by decide +kernel) (by decide +kernel)
set_option maxRecDepth 20000 in
theorem gX1_bestByWord_X1_worthBehind : GoodIn wsX1_bestByWord (wsV RX1 123 RX1 yX1_worthBehind wsX1_worthBehind) := goodIn_app (goodIn_of _ (by decide +kernel)) ggX1_bestByWord_X1_worthBehind
set_option maxRecDepth 20000 in
theorem ggX1_bestByWord_X1_better : GoodIn wsX1_bestByWord wsX1_better := goodIn_r _ [32, 33, 34, 35, 36, 37, 38, 39] (by decide +kernel) (by decide +kernel)
set_option maxRecDepth 20000 in
theorem gX1_bestByWord_X1_better : GoodIn wsX1_bestByWord (va_wsS RX1 113 yX1_better wsX1_better) := goodIn_app (goodIn_of _ (by decide +kernel)) ggX1_bestByWord_X1_better
theorem dX1_bestByWord_0 : decode cX1_bestByWord 0 = .ok (.iload_n 1, 1) := by decide +kernel
theorem dX1_bestByWord_1 : decode cX1_bestByWord 1 = .ok (.ifCond .ne 9, 3) := by decide +kernel
theorem dX1_bestByWord_4 : decode cX1_bestByWord 4 = .ok (.sipush (-1000), 3) := by decide +kernel
theorem dX1_bestByWord_7 : decode cX1_bestByWord 7 = .ok (.goto 6, 3) := by decide +kernel
theorem dX1_bestByWord_10 : decode cX1_bestByWord 10 = .ok (.sipush 1000, 3) := by decide +kernel
theorem dX1_bestByWord_13 : decode cX1_bestByWord 13 = .ok (.istore_n 3, 1) := by decide +kernel
theorem dX1_bestByWord_14 : decode cX1_bestByWord 14 = .ok (.iconst 0, 1) := by decide +kernel
theorem dX1_bestByWord_15 : decode cX1_bestByWord 15 = .ok (.istore 4, 2) := by decide +kernel
theorem dX1_bestByWord_17 : decode cX1_bestByWord 17 = .ok (.iload 4, 2) := by decide +kernel
theorem dX1_bestByWord_19 : decode cX1_bestByWord 19 = .ok (.iconst 5, 1) := by decide +kernel
theorem dX1_bestByWord_20 : decode cX1_bestByWord 20 = .ok (.if_icmp .ge 33, 3) := by decide +kernel
theorem dX1_bestByWord_23 : decode cX1_bestByWord 23 = .ok (.aload_n 0, 1) := by decide +kernel
theorem dX1_bestByWord_24 : decode cX1_bestByWord 24 = .ok (.iload_n 1, 1) := by decide +kernel
theorem dX1_bestByWord_25 : decode cX1_bestByWord 25 = .ok (.iload 4, 2) := by decide +kernel
theorem dX1_bestByWord_27 : decode cX1_bestByWord 27 = .ok (.iload_n 2, 1) := by decide +kernel
theorem dX1_bestByWord_28 : decode cX1_bestByWord 28 = .ok (.invokevirtual 120, 3) := by decide +kernel
theorem dX1_bestByWord_31 : decode cX1_bestByWord 31 = .ok (.ifCond .eq 16, 3) := by decide +kernel
theorem dX1_bestByWord_34 : decode cX1_bestByWord 34 = .ok (.iload_n 1, 1) := by decide +kernel
theorem dX1_bestByWord_35 : decode cX1_bestByWord 35 = .ok (.iload_n 3, 1) := by decide +kernel
theorem dX1_bestByWord_36 : decode cX1_bestByWord 36 = .ok (.aload_n 0, 1) := by decide +kernel
theorem dX1_bestByWord_37 : decode cX1_bestByWord 37 = .ok (.iload 4, 2) := by decide +kernel
theorem dX1_bestByWord_39 : decode cX1_bestByWord 39 = .ok (.iload_n 2, 1) := by decide +kernel
theorem dX1_bestByWord_40 : decode cX1_bestByWord 40 = .ok (.invokevirtual 123, 3) := by decide +kernel
theorem dX1_bestByWord_43 : decode cX1_bestByWord 43 = .ok (.invokestatic 113, 3) := by decide +kernel
theorem dX1_bestByWord_46 : decode cX1_bestByWord 46 = .ok (.istore_n 3, 1) := by decide +kernel
theorem dX1_bestByWord_47 : decode cX1_bestByWord 47 = .ok (.iinc 4 1, 3) := by decide +kernel
theorem dX1_bestByWord_50 : decode cX1_bestByWord 50 = .ok (.goto (-33), 3) := by decide +kernel
theorem dX1_bestByWord_53 : decode cX1_bestByWord 53 = .ok (.iload_n 3, 1) := by decide +kernel
theorem dX1_bestByWord_54 : decode cX1_bestByWord 54 = .ok (.ireturn, 1) := by decide +kernel
theorem dX1_better_0 : decode cX1_better 0 = .ok (.iload_n 0, 1) := by decide +kernel
theorem dX1_better_1 : decode cX1_better 1 = .ok (.ifCond .ne 11, 3) := by decide +kernel
theorem dX1_better_4 : decode cX1_better 4 = .ok (.iload_n 1, 1) := by decide +kernel
theorem dX1_better_5 : decode cX1_better 5 = .ok (.iload_n 2, 1) := by decide +kernel
theorem dX1_better_6 : decode cX1_better 6 = .ok (.invokestatic 130, 3) := by decide +kernel
theorem dX1_better_9 : decode cX1_better 9 = .ok (.goto 8, 3) := by decide +kernel
theorem dX1_better_12 : decode cX1_better 12 = .ok (.iload_n 1, 1) := by decide +kernel
theorem dX1_better_13 : decode cX1_better 13 = .ok (.iload_n 2, 1) := by decide +kernel
theorem dX1_better_14 : decode cX1_better 14 = .ok (.invokestatic 82, 3) := by decide +kernel
theorem dX1_better_17 : decode cX1_better 17 = .ok (.ireturn, 1) := by decide +kernel
set_option maxRecDepth 20000 in
theorem ggX1_isTurnOf_X0_sideAt : GoodIn wsX1_isTurnOf wsX0_sideAt := goodIn_r _ [7, 8, 9, 27, 28, 29, 30] (by decide +kernel) (by decide +kernel)
set_option maxRecDepth 20000 in
theorem gX1_isTurnOf_X0_sideAt : GoodIn wsX1_isTurnOf (wsV RX1 133 RX0 yX0_sideAt wsX0_sideAt) := goodIn_app (goodIn_of _ (by decide +kernel)) ggX1_isTurnOf_X0_sideAt
set_option maxRecDepth 20000 in
theorem ggX1_isTurnOf_X1_wordPlace : GoodIn wsX1_isTurnOf wsX1_wordPlace := goodIn_r _ [13] (by decide +kernel) (by decide +kernel)
set_option maxRecDepth 20000 in
theorem gX1_isTurnOf_X1_wordPlace : GoodIn wsX1_isTurnOf (va_wsS RX1 56 yX1_wordPlace wsX1_wordPlace) := goodIn_app (goodIn_of _ (by decide +kernel)) ggX1_isTurnOf_X1_wordPlace
set_option maxRecDepth 20000 in
theorem ggX1_isTurnOf_X4_at : GoodIn wsX1_isTurnOf wsX4_at := goodIn_r _ [16] (by decide +kernel) (by decide +kernel)
set_option maxRecDepth 20000 in
theorem gX1_isTurnOf_X4_at_n93 : GoodIn wsX1_isTurnOf (wsX4_at) := ggX1_isTurnOf_X4_at
theorem dX1_isTurnOf_0 : decode cX1_isTurnOf 0 = .ok (.aload_n 0, 1) := by decide +kernel
theorem dX1_isTurnOf_1 : decode cX1_isTurnOf 1 = .ok (.getfield 36, 3) := by decide +kernel
theorem dX1_isTurnOf_4 : decode cX1_isTurnOf 4 = .ok (.iload_n 2, 1) := by decide +kernel
theorem dX1_isTurnOf_5 : decode cX1_isTurnOf 5 = .ok (.invokevirtual 133, 3) := by decide +kernel
theorem dX1_isTurnOf_8 : decode cX1_isTurnOf 8 = .ok (.iload_n 1, 1) := by decide +kernel
theorem dX1_isTurnOf_9 : decode cX1_isTurnOf 9 = .ok (.if_icmp .ne 24, 3) := by decide +kernel
theorem dX1_isTurnOf_12 : decode cX1_isTurnOf 12 = .ok (.aload_n 0, 1) := by decide +kernel
theorem dX1_isTurnOf_13 : decode cX1_isTurnOf 13 = .ok (.getfield 9, 3) := by decide +kernel
theorem dX1_isTurnOf_16 : decode cX1_isTurnOf 16 = .ok (.iload_n 3, 1) := by decide +kernel
theorem dX1_isTurnOf_17 : decode cX1_isTurnOf 17 = .ok (.iload_n 2, 1) := by decide +kernel
theorem dX1_isTurnOf_18 : decode cX1_isTurnOf 18 = .ok (.invokestatic 56, 3) := by decide +kernel
theorem dX1_isTurnOf_21 : decode cX1_isTurnOf 21 = .ok (.invokestatic 93, 3) := by decide +kernel
theorem dX1_isTurnOf_24 : decode cX1_isTurnOf 24 = .ok (.bipush (-2), 2) := by decide +kernel
theorem dX1_isTurnOf_26 : decode cX1_isTurnOf 26 = .ok (.if_icmp .eq 7, 3) := by decide +kernel
theorem dX1_isTurnOf_29 : decode cX1_isTurnOf 29 = .ok (.iconst 1, 1) := by decide +kernel
theorem dX1_isTurnOf_30 : decode cX1_isTurnOf 30 = .ok (.goto 4, 3) := by decide +kernel
theorem dX1_isTurnOf_33 : decode cX1_isTurnOf 33 = .ok (.iconst 0, 1) := by decide +kernel
theorem dX1_isTurnOf_34 : decode cX1_isTurnOf 34 = .ok (.ireturn, 1) := by decide +kernel
set_option maxRecDepth 20000 in
theorem ggX1_worthBehind_X1_wordPlace : GoodIn wsX1_worthBehind wsX1_wordPlace := goodIn_r _ [7] (by decide +kernel) (by decide +kernel)
set_option maxRecDepth 20000 in
theorem gX1_worthBehind_X1_wordPlace : GoodIn wsX1_worthBehind (va_wsS RX1 56 yX1_wordPlace wsX1_wordPlace) := goodIn_app (goodIn_of _ (by decide +kernel)) ggX1_worthBehind_X1_wordPlace
set_option maxRecDepth 20000 in
theorem ggX1_worthBehind_X4_at : GoodIn wsX1_worthBehind wsX4_at := goodIn_r _ [10] (by decide +kernel) (by decide +kernel)
set_option maxRecDepth 20000 in
theorem gX1_worthBehind_X4_at_n93 : GoodIn wsX1_worthBehind (wsX4_at) := ggX1_worthBehind_X4_at
set_option maxRecDepth 20000 in
theorem ggX1_worthBehind_X1_worthPlace : GoodIn wsX1_worthBehind wsX1_worthPlace := goodIn_r _ [13] (by decide +kernel) (by decide +kernel)
set_option maxRecDepth 20000 in
theorem gX1_worthBehind_X1_worthPlace : GoodIn wsX1_worthBehind (va_wsS RX1 100 yX1_worthPlace wsX1_worthPlace) := goodIn_app (goodIn_of _ (by decide +kernel)) ggX1_worthBehind_X1_worthPlace
theorem dX1_worthBehind_0 : decode cX1_worthBehind 0 = .ok (.iload_n 2, 1) := by decide +kernel
theorem dX1_worthBehind_1 : decode cX1_worthBehind 1 = .ok (.iload_n 1, 1) := by decide +kernel
theorem dX1_worthBehind_2 : decode cX1_worthBehind 2 = .ok (.invokestatic 56, 3) := by decide +kernel
theorem dX1_worthBehind_5 : decode cX1_worthBehind 5 = .ok (.istore_n 3, 1) := by decide +kernel
theorem dX1_worthBehind_6 : decode cX1_worthBehind 6 = .ok (.aload_n 0, 1) := by decide +kernel
theorem dX1_worthBehind_7 : decode cX1_worthBehind 7 = .ok (.getfield 21, 3) := by decide +kernel
theorem dX1_worthBehind_10 : decode cX1_worthBehind 10 = .ok (.aload_n 0, 1) := by decide +kernel
theorem dX1_worthBehind_11 : decode cX1_worthBehind 11 = .ok (.getfield 9, 3) := by decide +kernel
theorem dX1_worthBehind_14 : decode cX1_worthBehind 14 = .ok (.iload_n 3, 1) := by decide +kernel
theorem dX1_worthBehind_15 : decode cX1_worthBehind 15 = .ok (.invokestatic 93, 3) := by decide +kernel
theorem dX1_worthBehind_18 : decode cX1_worthBehind 18 = .ok (.aload_n 0, 1) := by decide +kernel
theorem dX1_worthBehind_19 : decode cX1_worthBehind 19 = .ok (.getfield 15, 3) := by decide +kernel
theorem dX1_worthBehind_22 : decode cX1_worthBehind 22 = .ok (.iload_n 3, 1) := by decide +kernel
theorem dX1_worthBehind_23 : decode cX1_worthBehind 23 = .ok (.invokestatic 93, 3) := by decide +kernel
theorem dX1_worthBehind_26 : decode cX1_worthBehind 26 = .ok (.invokestatic 100, 3) := by decide +kernel
theorem dX1_worthBehind_29 : decode cX1_worthBehind 29 = .ok (.invokestatic 93, 3) := by decide +kernel
theorem dX1_worthBehind_32 : decode cX1_worthBehind 32 = .ok (.ireturn, 1) := by decide +kernel
set_option maxRecDepth 20000 in
theorem ggX1_worthOfEnd_X0_sideAt : GoodIn wsX1_worthOfEnd wsX0_sideAt := goodIn_r _ [6, 7, 8, 19, 20, 21, 22] (by decide +kernel) (by decide +kernel)
set_option maxRecDepth 20000 in
theorem gX1_worthOfEnd_X0_sideAt : GoodIn wsX1_worthOfEnd (wsV RX1 133 RX0 yX0_sideAt wsX0_sideAt) := goodIn_app (goodIn_of _ (by decide +kernel)) ggX1_worthOfEnd_X0_sideAt
theorem dX1_worthOfEnd_0 : decode cX1_worthOfEnd 0 = .ok (.aload_n 0, 1) := by decide +kernel
theorem dX1_worthOfEnd_1 : decode cX1_worthOfEnd 1 = .ok (.getfield 36, 3) := by decide +kernel
theorem dX1_worthOfEnd_4 : decode cX1_worthOfEnd 4 = .ok (.iload_n 1, 1) := by decide +kernel
theorem dX1_worthOfEnd_5 : decode cX1_worthOfEnd 5 = .ok (.invokevirtual 133, 3) := by decide +kernel
theorem dX1_worthOfEnd_8 : decode cX1_worthOfEnd 8 = .ok (.lookupswitch 32 #[(0, 28), (1, 30)], 28) := by decide +kernel
theorem dX1_worthOfEnd_36 : decode cX1_worthOfEnd 36 = .ok (.iconst 1, 1) := by decide +kernel
theorem dX1_worthOfEnd_37 : decode cX1_worthOfEnd 37 = .ok (.ireturn, 1) := by decide +kernel
theorem dX1_worthOfEnd_38 : decode cX1_worthOfEnd 38 = .ok (.iconst (-1), 1) := by decide +kernel
theorem dX1_worthOfEnd_39 : decode cX1_worthOfEnd 39 = .ok (.ireturn, 1) := by decide +kernel
theorem dX1_worthOfEnd_40 : decode cX1_worthOfEnd 40 = .ok (.iconst 0, 1) := by decide +kernel
theorem dX1_worthOfEnd_41 : decode cX1_worthOfEnd 41 = .ok (.ireturn, 1) := by decide +kernel
theorem dX1_worthPlace_0 : decode cX1_worthPlace 0 = .ok (.iload_n 0, 1) := by decide +kernel
theorem dX1_worthPlace_1 : decode cX1_worthPlace 1 = .ok (.iconst 1, 1) := by decide +kernel
theorem dX1_worthPlace_2 : decode cX1_worthPlace 2 = .ok (.iadd, 1) := by decide +kernel
theorem dX1_worthPlace_3 : decode cX1_worthPlace 3 = .ok (.bipush 6, 2) := by decide +kernel
theorem dX1_worthPlace_5 : decode cX1_worthPlace 5 = .ok (.imul, 1) := by decide +kernel
theorem dX1_worthPlace_6 : decode cX1_worthPlace 6 = .ok (.iload_n 1, 1) := by decide +kernel
theorem dX1_worthPlace_7 : decode cX1_worthPlace 7 = .ok (.iadd, 1) := by decide +kernel
theorem dX1_worthPlace_8 : decode cX1_worthPlace 8 = .ok (.iconst 1, 1) := by decide +kernel
theorem dX1_worthPlace_9 : decode cX1_worthPlace 9 = .ok (.iadd, 1) := by decide +kernel
theorem dX1_worthPlace_10 : decode cX1_worthPlace 10 = .ok (.ireturn, 1) := by decide +kernel
set_option maxRecDepth 20000 in
theorem ggX1_fillWays_X1_tableWords : GoodIn wsX1_fillWays wsX1_tableWords := goodIn_r _ [8, 9, 2, 3, 10, 11, 12, 13, 14, 15, 16, 17, 18, 19, 20, 21, 22, 23, 24, 25, 26, 27, 28, 29, 30, 7, 31, 32, 33, 34, 35, 36, 37, 38, 39, 40, 41, 61, 62, 63, 64, 65, 66, 67, 68, 69, 70, 71, 72, 73, 74, 75, 76, 77, 78, 79, 80, 81, 82, 83, 84, 85, 86] (by decide +kernel) (by decide +kernel)
set_option maxRecDepth 20000 in
theorem gX1_fillWays_X1_tableWords : GoodIn wsX1_fillWays (wsV RX1 71 RX1 yX1_tableWords wsX1_tableWords) := goodIn_app (goodIn_of _ (by decide +kernel)) ggX1_fillWays_X1_tableWords
set_option maxRecDepth 20000 in
theorem ggX1_fillWays_X4_fill : GoodIn wsX1_fillWays wsX4_fill := goodIn_r _ [43] (by decide +kernel) (by decide +kernel)
set_option maxRecDepth 20000 in
theorem gX1_fillWays_X4_fill_n74 : GoodIn wsX1_fillWays (wsX4_fill) := ggX1_fillWays_X4_fill
set_option maxRecDepth 20000 in
theorem ggX1_fillWays_X1_rowPlace : GoodIn wsX1_fillWays wsX1_rowPlace := goodIn_r _ [46] (by decide +kernel) (by decide +kernel)
set_option maxRecDepth 20000 in
theorem gX1_fillWays_X1_rowPlace : GoodIn wsX1_fillWays (va_wsS RX1 136 yX1_rowPlace wsX1_rowPlace) := goodIn_app (goodIn_of _ (by decide +kernel)) ggX1_fillWays_X1_rowPlace
set_option maxRecDepth 20000 in
theorem ggX1_fillWays_X3_allows : GoodIn wsX1_fillWays wsX3_allows := goodIn_r _ [51, 52, 53, 54, 55, 23, 56, 71, 72, 73, 74, 75, 76, 77, 78, 79, 80, 81, 82] (by decide +kernel) (by decide +kernel)
set_option maxRecDepth 20000 in
theorem gX1_fillWays_X3_allows : GoodIn wsX1_fillWays (wsV RX1 139 RX3 yX3_allows wsX3_allows) := goodIn_app (goodIn_of _ (by decide +kernel)) ggX1_fillWays_X3_allows
set_option maxRecDepth 20000 in
theorem ggX1_fillWays_X4_put : GoodIn wsX1_fillWays wsX4_put := goodIn_r _ [37] (by decide +kernel) (by decide +kernel)
set_option maxRecDepth 20000 in
theorem gX1_fillWays_X4_put_n64 : GoodIn wsX1_fillWays (wsX4_put) := ggX1_fillWays_X4_put
set_option maxRecDepth 20000 in
theorem ggX1_fillWays_X1_canBeWord : GoodIn wsX1_fillWays wsX1_canBeWord := goodIn_r _ [60, 3, 2, 10, 29, 30, 7, 31, 55, 23, 56, 47, 48, 49, 50, 51, 52, 53, 54, 61, 62, 63, 64, 65, 66, 67, 68, 69, 70, 71, 72, 73, 74, 75, 76, 77, 78, 79, 80, 81, 82] (by decide +kernel) (by decide +kernel)
set_option maxRecDepth 20000 in
theorem gX1_fillWays_X1_canBeWord : GoodIn wsX1_fillWays (wsV RX1 143 RX1 yX1_canBeWord wsX1_canBeWord) := goodIn_app (goodIn_of _ (by decide +kernel)) ggX1_fillWays_X1_canBeWord
set_option maxRecDepth 20000 in
theorem ggX1_fillWays_X1_wordPlace : GoodIn wsX1_fillWays wsX1_wordPlace := goodIn_r _ [31] (by decide +kernel) (by decide +kernel)
set_option maxRecDepth 20000 in
theorem gX1_fillWays_X1_wordPlace : GoodIn wsX1_fillWays (va_wsS RX1 56 yX1_wordPlace wsX1_wordPlace) := goodIn_app (goodIn_of _ (by decide +kernel)) ggX1_fillWays_X1_wordPlace
set_option maxRecDepth 20000 in
theorem ggX1_fillWays_X4_at : GoodIn wsX1_fillWays wsX4_at := goodIn_r _ [56] (by decide +kernel) (by decide +kernel)
set_option maxRecDepth 20000 in
theorem gX1_fillWays_X4_at_n93 : GoodIn wsX1_fillWays (wsX4_at) := ggX1_fillWays_X4_at
theorem dX1_fillWays_0 : decode cX1_fillWays 0 = .ok (.aload_n 0, 1) := by decide +kernel
theorem dX1_fillWays_1 : decode cX1_fillWays 1 = .ok (.invokevirtual 71, 3) := by decide +kernel
theorem dX1_fillWays_4 : decode cX1_fillWays 4 = .ok (.aload_n 0, 1) := by decide +kernel
theorem dX1_fillWays_5 : decode cX1_fillWays 5 = .ok (.getfield 27, 3) := by decide +kernel
theorem dX1_fillWays_8 : decode cX1_fillWays 8 = .ok (.iconst 0, 1) := by decide +kernel
theorem dX1_fillWays_9 : decode cX1_fillWays 9 = .ok (.invokestatic 74, 3) := by decide +kernel
theorem dX1_fillWays_12 : decode cX1_fillWays 12 = .ok (.aload_n 0, 1) := by decide +kernel
theorem dX1_fillWays_13 : decode cX1_fillWays 13 = .ok (.getfield 27, 3) := by decide +kernel
theorem dX1_fillWays_16 : decode cX1_fillWays 16 = .ok (.iconst 0, 1) := by decide +kernel
theorem dX1_fillWays_17 : decode cX1_fillWays 17 = .ok (.aload_n 0, 1) := by decide +kernel
theorem dX1_fillWays_18 : decode cX1_fillWays 18 = .ok (.getfield 40, 3) := by decide +kernel
theorem dX1_fillWays_21 : decode cX1_fillWays 21 = .ok (.getfield 90, 3) := by decide +kernel
theorem dX1_fillWays_24 : decode cX1_fillWays 24 = .ok (.invokestatic 136, 3) := by decide +kernel
theorem dX1_fillWays_27 : decode cX1_fillWays 27 = .ok (.aload_n 0, 1) := by decide +kernel
theorem dX1_fillWays_28 : decode cX1_fillWays 28 = .ok (.getfield 40, 3) := by decide +kernel
theorem dX1_fillWays_31 : decode cX1_fillWays 31 = .ok (.iconst 0, 1) := by decide +kernel
theorem dX1_fillWays_32 : decode cX1_fillWays 32 = .ok (.aload_n 0, 1) := by decide +kernel
theorem dX1_fillWays_33 : decode cX1_fillWays 33 = .ok (.getfield 40, 3) := by decide +kernel
theorem dX1_fillWays_36 : decode cX1_fillWays 36 = .ok (.getfield 87, 3) := by decide +kernel
theorem dX1_fillWays_39 : decode cX1_fillWays 39 = .ok (.invokevirtual 139, 3) := by decide +kernel
theorem dX1_fillWays_42 : decode cX1_fillWays 42 = .ok (.ifCond .eq 7, 3) := by decide +kernel
theorem dX1_fillWays_45 : decode cX1_fillWays 45 = .ok (.iconst 1, 1) := by decide +kernel
theorem dX1_fillWays_46 : decode cX1_fillWays 46 = .ok (.goto 4, 3) := by decide +kernel
theorem dX1_fillWays_49 : decode cX1_fillWays 49 = .ok (.iconst 0, 1) := by decide +kernel
theorem dX1_fillWays_50 : decode cX1_fillWays 50 = .ok (.invokestatic 64, 3) := by decide +kernel
theorem dX1_fillWays_53 : decode cX1_fillWays 53 = .ok (.iconst 1, 1) := by decide +kernel
theorem dX1_fillWays_54 : decode cX1_fillWays 54 = .ok (.istore_n 2, 1) := by decide +kernel
theorem dX1_fillWays_55 : decode cX1_fillWays 55 = .ok (.iload_n 2, 1) := by decide +kernel
theorem dX1_fillWays_56 : decode cX1_fillWays 56 = .ok (.iload_n 1, 1) := by decide +kernel
theorem dX1_fillWays_57 : decode cX1_fillWays 57 = .ok (.if_icmp .gt 100, 3) := by decide +kernel
theorem dX1_fillWays_60 : decode cX1_fillWays 60 = .ok (.iconst (-1), 1) := by decide +kernel
theorem dX1_fillWays_61 : decode cX1_fillWays 61 = .ok (.istore_n 3, 1) := by decide +kernel
theorem dX1_fillWays_62 : decode cX1_fillWays 62 = .ok (.iload_n 3, 1) := by decide +kernel
theorem dX1_fillWays_63 : decode cX1_fillWays 63 = .ok (.iconst 5, 1) := by decide +kernel
theorem dX1_fillWays_64 : decode cX1_fillWays 64 = .ok (.if_icmp .gt 87, 3) := by decide +kernel
theorem dX1_fillWays_67 : decode cX1_fillWays 67 = .ok (.iconst 0, 1) := by decide +kernel
theorem dX1_fillWays_68 : decode cX1_fillWays 68 = .ok (.istore 4, 2) := by decide +kernel
theorem dX1_fillWays_70 : decode cX1_fillWays 70 = .ok (.iload 4, 2) := by decide +kernel
theorem dX1_fillWays_72 : decode cX1_fillWays 72 = .ok (.iconst 5, 1) := by decide +kernel
theorem dX1_fillWays_73 : decode cX1_fillWays 73 = .ok (.if_icmp .ge 72, 3) := by decide +kernel
theorem dX1_fillWays_76 : decode cX1_fillWays 76 = .ok (.aload_n 0, 1) := by decide +kernel
theorem dX1_fillWays_77 : decode cX1_fillWays 77 = .ok (.iload_n 2, 1) := by decide +kernel
theorem dX1_fillWays_78 : decode cX1_fillWays 78 = .ok (.iload 4, 2) := by decide +kernel
theorem dX1_fillWays_80 : decode cX1_fillWays 80 = .ok (.iload_n 3, 1) := by decide +kernel
theorem dX1_fillWays_81 : decode cX1_fillWays 81 = .ok (.invokevirtual 143, 3) := by decide +kernel
theorem dX1_fillWays_84 : decode cX1_fillWays 84 = .ok (.ifCond .eq 55, 3) := by decide +kernel
theorem dX1_fillWays_87 : decode cX1_fillWays 87 = .ok (.iload_n 2, 1) := by decide +kernel
theorem dX1_fillWays_88 : decode cX1_fillWays 88 = .ok (.aload_n 0, 1) := by decide +kernel
theorem dX1_fillWays_89 : decode cX1_fillWays 89 = .ok (.getfield 9, 3) := by decide +kernel
theorem dX1_fillWays_92 : decode cX1_fillWays 92 = .ok (.iload_n 3, 1) := by decide +kernel
theorem dX1_fillWays_93 : decode cX1_fillWays 93 = .ok (.iload 4, 2) := by decide +kernel
theorem dX1_fillWays_95 : decode cX1_fillWays 95 = .ok (.invokestatic 56, 3) := by decide +kernel
theorem dX1_fillWays_98 : decode cX1_fillWays 98 = .ok (.invokestatic 93, 3) := by decide +kernel
theorem dX1_fillWays_101 : decode cX1_fillWays 101 = .ok (.invokestatic 136, 3) := by decide +kernel
theorem dX1_fillWays_104 : decode cX1_fillWays 104 = .ok (.istore 5, 2) := by decide +kernel
theorem dX1_fillWays_106 : decode cX1_fillWays 106 = .ok (.aload_n 0, 1) := by decide +kernel
theorem dX1_fillWays_107 : decode cX1_fillWays 107 = .ok (.getfield 27, 3) := by decide +kernel
theorem dX1_fillWays_110 : decode cX1_fillWays 110 = .ok (.iload 5, 2) := by decide +kernel
theorem dX1_fillWays_112 : decode cX1_fillWays 112 = .ok (.aload_n 0, 1) := by decide +kernel
theorem dX1_fillWays_113 : decode cX1_fillWays 113 = .ok (.getfield 27, 3) := by decide +kernel
theorem dX1_fillWays_116 : decode cX1_fillWays 116 = .ok (.iload 5, 2) := by decide +kernel
theorem dX1_fillWays_118 : decode cX1_fillWays 118 = .ok (.invokestatic 93, 3) := by decide +kernel
theorem dX1_fillWays_121 : decode cX1_fillWays 121 = .ok (.aload_n 0, 1) := by decide +kernel
theorem dX1_fillWays_122 : decode cX1_fillWays 122 = .ok (.getfield 27, 3) := by decide +kernel
theorem dX1_fillWays_125 : decode cX1_fillWays 125 = .ok (.iload_n 2, 1) := by decide +kernel
theorem dX1_fillWays_126 : decode cX1_fillWays 126 = .ok (.iconst 1, 1) := by decide +kernel
theorem dX1_fillWays_127 : decode cX1_fillWays 127 = .ok (.isub, 1) := by decide +kernel
theorem dX1_fillWays_128 : decode cX1_fillWays 128 = .ok (.iload_n 3, 1) := by decide +kernel
theorem dX1_fillWays_129 : decode cX1_fillWays 129 = .ok (.invokestatic 136, 3) := by decide +kernel
theorem dX1_fillWays_132 : decode cX1_fillWays 132 = .ok (.invokestatic 93, 3) := by decide +kernel
theorem dX1_fillWays_135 : decode cX1_fillWays 135 = .ok (.iadd, 1) := by decide +kernel
theorem dX1_fillWays_136 : decode cX1_fillWays 136 = .ok (.invokestatic 64, 3) := by decide +kernel
theorem dX1_fillWays_139 : decode cX1_fillWays 139 = .ok (.iinc 4 1, 3) := by decide +kernel
theorem dX1_fillWays_142 : decode cX1_fillWays 142 = .ok (.goto (-72), 3) := by decide +kernel
theorem dX1_fillWays_145 : decode cX1_fillWays 145 = .ok (.iinc 3 1, 3) := by decide +kernel
theorem dX1_fillWays_148 : decode cX1_fillWays 148 = .ok (.goto (-86), 3) := by decide +kernel
theorem dX1_fillWays_151 : decode cX1_fillWays 151 = .ok (.iinc 2 1, 3) := by decide +kernel
theorem dX1_fillWays_154 : decode cX1_fillWays 154 = .ok (.goto (-99), 3) := by decide +kernel
theorem dX1_fillWays_157 : decode cX1_fillWays 157 = .ok (.return_, 1) := by decide +kernel
set_option maxRecDepth 20000 in
theorem ggX1_waysOf_X1_rowPlace : GoodIn wsX1_waysOf wsX1_rowPlace := goodIn_r _ [5] (by decide +kernel) (by decide +kernel)
set_option maxRecDepth 20000 in
theorem gX1_waysOf_X1_rowPlace : GoodIn wsX1_waysOf (va_wsS RX1 136 yX1_rowPlace wsX1_rowPlace) := goodIn_app (goodIn_of _ (by decide +kernel)) ggX1_waysOf_X1_rowPlace
set_option maxRecDepth 20000 in
theorem ggX1_waysOf_X4_at : GoodIn wsX1_waysOf wsX4_at := goodIn_r _ [8] (by decide +kernel) (by decide +kernel)
set_option maxRecDepth 20000 in
theorem gX1_waysOf_X4_at_n93 : GoodIn wsX1_waysOf (wsX4_at) := ggX1_waysOf_X4_at
theorem dX1_waysOf_0 : decode cX1_waysOf 0 = .ok (.iconst 0, 1) := by decide +kernel
theorem dX1_waysOf_1 : decode cX1_waysOf 1 = .ok (.istore_n 2, 1) := by decide +kernel
theorem dX1_waysOf_2 : decode cX1_waysOf 2 = .ok (.iconst (-1), 1) := by decide +kernel
theorem dX1_waysOf_3 : decode cX1_waysOf 3 = .ok (.istore_n 3, 1) := by decide +kernel
theorem dX1_waysOf_4 : decode cX1_waysOf 4 = .ok (.iload_n 3, 1) := by decide +kernel
theorem dX1_waysOf_5 : decode cX1_waysOf 5 = .ok (.iconst 5, 1) := by decide +kernel
theorem dX1_waysOf_6 : decode cX1_waysOf 6 = .ok (.if_icmp .gt 24, 3) := by decide +kernel
theorem dX1_waysOf_9 : decode cX1_waysOf 9 = .ok (.iload_n 2, 1) := by decide +kernel
theorem dX1_waysOf_10 : decode cX1_waysOf 10 = .ok (.aload_n 0, 1) := by decide +kernel
theorem dX1_waysOf_11 : decode cX1_waysOf 11 = .ok (.getfield 27, 3) := by decide +kernel
theorem dX1_waysOf_14 : decode cX1_waysOf 14 = .ok (.iload_n 1, 1) := by decide +kernel
theorem dX1_waysOf_15 : decode cX1_waysOf 15 = .ok (.iload_n 3, 1) := by decide +kernel
theorem dX1_waysOf_16 : decode cX1_waysOf 16 = .ok (.invokestatic 136, 3) := by decide +kernel
theorem dX1_waysOf_19 : decode cX1_waysOf 19 = .ok (.invokestatic 93, 3) := by decide +kernel
theorem dX1_waysOf_22 : decode cX1_waysOf 22 = .ok (.iadd, 1) := by decide +kernel
theorem dX1_waysOf_23 : decode cX1_waysOf 23 = .ok (.istore_n 2, 1) := by decide +kernel
theorem dX1_waysOf_24 : decode cX1_waysOf 24 = .ok (.iinc 3 1, 3) := by decide +kernel
theorem dX1_waysOf_27 : decode cX1_waysOf 27 = .ok (.goto (-23), 3) := by decide +kernel
theorem dX1_waysOf_30 : decode cX1_waysOf 30 = .ok (.iload_n 2, 1) := by decide +kernel
theorem dX1_waysOf_31 : decode cX1_waysOf 31 = .ok (.ireturn, 1) := by decide +kernel
set_option maxRecDepth 20000 in
theorem ggX1_lastsBehind_X1_rowPlace : GoodIn wsX1_lastsBehind wsX1_rowPlace := goodIn_r _ [5] (by decide +kernel) (by decide +kernel)
set_option maxRecDepth 20000 in
theorem gX1_lastsBehind_X1_rowPlace : GoodIn wsX1_lastsBehind (va_wsS RX1 136 yX1_rowPlace wsX1_rowPlace) := goodIn_app (goodIn_of _ (by decide +kernel)) ggX1_lastsBehind_X1_rowPlace
set_option maxRecDepth 20000 in
theorem ggX1_lastsBehind_X4_at : GoodIn wsX1_lastsBehind wsX4_at := goodIn_r _ [8] (by decide +kernel) (by decide +kernel)
set_option maxRecDepth 20000 in
theorem gX1_lastsBehind_X4_at_n93 : GoodIn wsX1_lastsBehind (wsX4_at) := ggX1_lastsBehind_X4_at
theorem dX1_lastsBehind_0 : decode cX1_lastsBehind 0 = .ok (.iconst 0, 1) := by decide +kernel
theorem dX1_lastsBehind_1 : decode cX1_lastsBehind 1 = .ok (.istore_n 2, 1) := by decide +kernel
theorem dX1_lastsBehind_2 : decode cX1_lastsBehind 2 = .ok (.iconst (-1), 1) := by decide +kernel
theorem dX1_lastsBehind_3 : decode cX1_lastsBehind 3 = .ok (.istore_n 3, 1) := by decide +kernel
theorem dX1_lastsBehind_4 : decode cX1_lastsBehind 4 = .ok (.iload_n 3, 1) := by decide +kernel
theorem dX1_lastsBehind_5 : decode cX1_lastsBehind 5 = .ok (.iconst 5, 1) := by decide +kernel
theorem dX1_lastsBehind_6 : decode cX1_lastsBehind 6 = .ok (.if_icmp .gt 40, 3) := by decide +kernel
theorem dX1_lastsBehind_9 : decode cX1_lastsBehind 9 = .ok (.aload_n 0, 1) := by decide +kernel
theorem dX1_lastsBehind_10 : decode cX1_lastsBehind 10 = .ok (.getfield 27, 3) := by decide +kernel
theorem dX1_lastsBehind_13 : decode cX1_lastsBehind 13 = .ok (.iload_n 1, 1) := by decide +kernel
theorem dX1_lastsBehind_14 : decode cX1_lastsBehind 14 = .ok (.iload_n 3, 1) := by decide +kernel
theorem dX1_lastsBehind_15 : decode cX1_lastsBehind 15 = .ok (.invokestatic 136, 3) := by decide +kernel
theorem dX1_lastsBehind_18 : decode cX1_lastsBehind 18 = .ok (.invokestatic 93, 3) := by decide +kernel
theorem dX1_lastsBehind_21 : decode cX1_lastsBehind 21 = .ok (.ifCond .le 19, 3) := by decide +kernel
theorem dX1_lastsBehind_24 : decode cX1_lastsBehind 24 = .ok (.iload_n 2, 1) := by decide +kernel
theorem dX1_lastsBehind_25 : decode cX1_lastsBehind 25 = .ok (.iconst 1, 1) := by decide +kernel
theorem dX1_lastsBehind_26 : decode cX1_lastsBehind 26 = .ok (.iload_n 3, 1) := by decide +kernel
theorem dX1_lastsBehind_27 : decode cX1_lastsBehind 27 = .ok (.iconst (-1), 1) := by decide +kernel
theorem dX1_lastsBehind_28 : decode cX1_lastsBehind 28 = .ok (.if_icmp .ne 8, 3) := by decide +kernel
theorem dX1_lastsBehind_31 : decode cX1_lastsBehind 31 = .ok (.bipush 6, 2) := by decide +kernel
theorem dX1_lastsBehind_33 : decode cX1_lastsBehind 33 = .ok (.goto 4, 3) := by decide +kernel
theorem dX1_lastsBehind_36 : decode cX1_lastsBehind 36 = .ok (.iload_n 3, 1) := by decide +kernel
theorem dX1_lastsBehind_37 : decode cX1_lastsBehind 37 = .ok (.ishl, 1) := by decide +kernel
theorem dX1_lastsBehind_38 : decode cX1_lastsBehind 38 = .ok (.ior, 1) := by decide +kernel
theorem dX1_lastsBehind_39 : decode cX1_lastsBehind 39 = .ok (.istore_n 2, 1) := by decide +kernel
theorem dX1_lastsBehind_40 : decode cX1_lastsBehind 40 = .ok (.iinc 3 1, 3) := by decide +kernel
theorem dX1_lastsBehind_43 : decode cX1_lastsBehind 43 = .ok (.goto (-39), 3) := by decide +kernel
theorem dX1_lastsBehind_46 : decode cX1_lastsBehind 46 = .ok (.iload_n 2, 1) := by decide +kernel
theorem dX1_lastsBehind_47 : decode cX1_lastsBehind 47 = .ok (.ireturn, 1) := by decide +kernel
set_option maxRecDepth 20000 in
theorem ggX1_bestLook_X1_fillWays : GoodIn wsX1_bestLook wsX1_fillWays := goodIn_r _ [5, 6, 7, 8, 9, 10, 11, 4, 12, 13, 14, 15, 16, 17, 18, 19, 20, 21, 22, 23, 24, 25, 26, 27, 28, 29, 30, 31, 32, 33, 34, 35, 36, 37, 38, 39, 40, 41, 42, 43, 44, 45, 46, 47, 48, 49, 50, 51, 52, 53, 54, 55, 56, 57, 58, 59, 60, 61, 62, 63, 64, 83, 84, 85, 86, 87, 88, 89, 90, 91, 92, 93, 94, 95, 96, 97, 98, 99, 100, 101, 102, 103, 104, 105, 106, 107, 108] (by decide +kernel) (by decide +kernel)
set_option maxRecDepth 20000 in
theorem gX1_bestLook_X1_fillWays : GoodIn wsX1_bestLook (wsV RX1 146 RX1 yX1_fillWays wsX1_fillWays) := goodIn_app (goodIn_of _ (by decide +kernel)) ggX1_bestLook_X1_fillWays
set_option maxRecDepth 20000 in
theorem ggX1_bestLook_X1_waysOf : GoodIn wsX1_bestLook wsX1_waysOf := goodIn_r _ [68, 6, 48, 49, 4, 50, 59, 27, 60, 83, 84, 85, 86, 87, 88, 89, 90, 91, 92] (by decide +kernel) (by decide +kernel)
set_option maxRecDepth 20000 in
theorem gX1_bestLook_X1_waysOf : GoodIn wsX1_bestLook (wsV RX1 149 RX1 yX1_waysOf wsX1_waysOf) := goodIn_app (goodIn_of _ (by decide +kernel)) ggX1_bestLook_X1_waysOf
set_option maxRecDepth 20000 in
theorem ggX1_bestLook_X1_fillEndings : GoodIn wsX1_bestLook wsX1_fillEndings := goodIn_r _ [72, 73, 8, 48, 49, 4, 50, 40, 27, 41, 61, 62, 63, 64, 7, 14, 33, 34, 35, 59, 60, 51, 52, 53, 54, 55, 56, 57, 58, 83, 84, 85, 86, 87, 88, 89, 90, 91, 92, 93, 94, 95, 96, 97, 98, 99, 100, 101, 102, 103, 104] (by decide +kernel) (by decide +kernel)
set_option maxRecDepth 20000 in
theorem gX1_bestLook_X1_fillEndings : GoodIn wsX1_bestLook (wsV RX1 152 RX1 yX1_fillEndings wsX1_fillEndings) := goodIn_app (goodIn_of _ (by decide +kernel)) ggX1_bestLook_X1_fillEndings
set_option maxRecDepth 20000 in
theorem ggX1_bestLook_X1_mostLeft : GoodIn wsX1_bestLook wsX1_mostLeft := goodIn_r _ [77, 78, 6, 14, 73, 8, 79, 80, 81, 82, 46, 27, 47, 48, 49, 4, 50, 59, 60, 61, 62, 63, 64, 7, 33, 34, 35, 51, 52, 53, 54, 55, 56, 57, 58, 40, 41, 83, 84, 85, 86, 87, 88, 89, 90, 91, 92, 93, 94, 95, 96, 97, 98, 99, 100, 101, 102, 103, 104] (by decide +kernel) (by decide +kernel)
set_option maxRecDepth 20000 in
theorem gX1_bestLook_X1_mostLeft : GoodIn wsX1_bestLook (wsV RX1 155 RX1 yX1_mostLeft wsX1_mostLeft) := goodIn_app (goodIn_of _ (by decide +kernel)) ggX1_bestLook_X1_mostLeft
theorem dX1_bestLook_0 : decode cX1_bestLook 0 = .ok (.aload_n 0, 1) := by decide +kernel
theorem dX1_bestLook_1 : decode cX1_bestLook 1 = .ok (.bipush 6, 2) := by decide +kernel
theorem dX1_bestLook_3 : decode cX1_bestLook 3 = .ok (.invokevirtual 146, 3) := by decide +kernel
theorem dX1_bestLook_6 : decode cX1_bestLook 6 = .ok (.aload_n 0, 1) := by decide +kernel
theorem dX1_bestLook_7 : decode cX1_bestLook 7 = .ok (.bipush 6, 2) := by decide +kernel
theorem dX1_bestLook_9 : decode cX1_bestLook 9 = .ok (.invokevirtual 149, 3) := by decide +kernel
theorem dX1_bestLook_12 : decode cX1_bestLook 12 = .ok (.ifCond .ne 5, 3) := by decide +kernel
theorem dX1_bestLook_15 : decode cX1_bestLook 15 = .ok (.iconst (-1), 1) := by decide +kernel
theorem dX1_bestLook_16 : decode cX1_bestLook 16 = .ok (.ireturn, 1) := by decide +kernel
theorem dX1_bestLook_17 : decode cX1_bestLook 17 = .ok (.aload_n 0, 1) := by decide +kernel
theorem dX1_bestLook_18 : decode cX1_bestLook 18 = .ok (.invokevirtual 152, 3) := by decide +kernel
theorem dX1_bestLook_21 : decode cX1_bestLook 21 = .ok (.iconst 1, 1) := by decide +kernel
theorem dX1_bestLook_22 : decode cX1_bestLook 22 = .ok (.istore_n 1, 1) := by decide +kernel
theorem dX1_bestLook_23 : decode cX1_bestLook 23 = .ok (.aload_n 0, 1) := by decide +kernel
theorem dX1_bestLook_24 : decode cX1_bestLook 24 = .ok (.iconst 1, 1) := by decide +kernel
theorem dX1_bestLook_25 : decode cX1_bestLook 25 = .ok (.invokevirtual 155, 3) := by decide +kernel
theorem dX1_bestLook_28 : decode cX1_bestLook 28 = .ok (.istore_n 2, 1) := by decide +kernel
theorem dX1_bestLook_29 : decode cX1_bestLook 29 = .ok (.iconst 2, 1) := by decide +kernel
theorem dX1_bestLook_30 : decode cX1_bestLook 30 = .ok (.istore_n 3, 1) := by decide +kernel
theorem dX1_bestLook_31 : decode cX1_bestLook 31 = .ok (.iload_n 3, 1) := by decide +kernel
theorem dX1_bestLook_32 : decode cX1_bestLook 32 = .ok (.bipush 6, 2) := by decide +kernel
theorem dX1_bestLook_34 : decode cX1_bestLook 34 = .ok (.if_icmp .gt 27, 3) := by decide +kernel
theorem dX1_bestLook_37 : decode cX1_bestLook 37 = .ok (.aload_n 0, 1) := by decide +kernel
theorem dX1_bestLook_38 : decode cX1_bestLook 38 = .ok (.iload_n 3, 1) := by decide +kernel
theorem dX1_bestLook_39 : decode cX1_bestLook 39 = .ok (.invokevirtual 155, 3) := by decide +kernel
theorem dX1_bestLook_42 : decode cX1_bestLook 42 = .ok (.istore 4, 2) := by decide +kernel
theorem dX1_bestLook_44 : decode cX1_bestLook 44 = .ok (.iload 4, 2) := by decide +kernel
theorem dX1_bestLook_46 : decode cX1_bestLook 46 = .ok (.iload_n 2, 1) := by decide +kernel
theorem dX1_bestLook_47 : decode cX1_bestLook 47 = .ok (.if_icmp .ge 8, 3) := by decide +kernel
theorem dX1_bestLook_50 : decode cX1_bestLook 50 = .ok (.iload_n 3, 1) := by decide +kernel
theorem dX1_bestLook_51 : decode cX1_bestLook 51 = .ok (.istore_n 1, 1) := by decide +kernel
theorem dX1_bestLook_52 : decode cX1_bestLook 52 = .ok (.iload 4, 2) := by decide +kernel
theorem dX1_bestLook_54 : decode cX1_bestLook 54 = .ok (.istore_n 2, 1) := by decide +kernel
theorem dX1_bestLook_55 : decode cX1_bestLook 55 = .ok (.iinc 3 1, 3) := by decide +kernel
theorem dX1_bestLook_58 : decode cX1_bestLook 58 = .ok (.goto (-27), 3) := by decide +kernel
theorem dX1_bestLook_61 : decode cX1_bestLook 61 = .ok (.iload_n 1, 1) := by decide +kernel
theorem dX1_bestLook_62 : decode cX1_bestLook 62 = .ok (.ireturn, 1) := by decide +kernel
set_option maxRecDepth 20000 in
theorem ggX1_fillEndings_X1_rowPlace : GoodIn wsX1_fillEndings wsX1_rowPlace := goodIn_r _ [6] (by decide +kernel) (by decide +kernel)
set_option maxRecDepth 20000 in
theorem gX1_fillEndings_X1_rowPlace : GoodIn wsX1_fillEndings (va_wsS RX1 136 yX1_rowPlace wsX1_rowPlace) := goodIn_app (goodIn_of _ (by decide +kernel)) ggX1_fillEndings_X1_rowPlace
set_option maxRecDepth 20000 in
theorem ggX1_fillEndings_X4_put : GoodIn wsX1_fillEndings wsX4_put := goodIn_r _ [9] (by decide +kernel) (by decide +kernel)
set_option maxRecDepth 20000 in
theorem gX1_fillEndings_X4_put_n64 : GoodIn wsX1_fillEndings (wsX4_put) := ggX1_fillEndings_X4_put
set_option maxRecDepth 20000 in
theorem ggX1_fillEndings_X1_canBeWord : GoodIn wsX1_fillEndings wsX1_canBeWord := goodIn_r _ [13, 2, 14, 15, 16, 17, 5, 18, 19, 8, 20, 21, 22, 23, 24, 25, 26, 27, 28, 29, 30, 31, 32, 33, 34, 35, 36, 37, 38, 39, 40, 41, 42, 43, 44, 45, 46, 47, 48, 49, 50] (by decide +kernel) (by decide +kernel)
set_option maxRecDepth 20000 in
theorem gX1_fillEndings_X1_canBeWord : GoodIn wsX1_fillEndings (wsV RX1 143 RX1 yX1_canBeWord wsX1_canBeWord) := goodIn_app (goodIn_of _ (by decide +kernel)) ggX1_fillEndings_X1_canBeWord
set_option maxRecDepth 20000 in
theorem ggX1_fillEndings_X1_wordPlace : GoodIn wsX1_fillEndings wsX1_wordPlace := goodIn_r _ [18] (by decide +kernel) (by decide +kernel)
set_option maxRecDepth 20000 in
theorem gX1_fillEndings_X1_wordPlace : GoodIn wsX1_fillEndings (va_wsS RX1 56 yX1_wordPlace wsX1_wordPlace) := goodIn_app (goodIn_of _ (by decide +kernel)) ggX1_fillEndings_X1_wordPlace
set_option maxRecDepth 20000 in
theorem ggX1_fillEndings_X4_at : GoodIn wsX1_fillEndings wsX4_at := goodIn_r _ [20] (by decide +kernel) (by decide +kernel)
set_option maxRecDepth 20000 in
theorem gX1_fillEndings_X4_at_n93 : GoodIn wsX1_fillEndings (wsX4_at) := ggX1_fillEndings_X4_at
theorem dX1_fillEndings_0 : decode cX1_fillEndings 0 = .ok (.iconst (-1), 1) := by decide +kernel
theorem dX1_fillEndings_1 : decode cX1_fillEndings 1 = .ok (.istore_n 1, 1) := by decide +kernel
theorem dX1_fillEndings_2 : decode cX1_fillEndings 2 = .ok (.iload_n 1, 1) := by decide +kernel
theorem dX1_fillEndings_3 : decode cX1_fillEndings 3 = .ok (.iconst 5, 1) := by decide +kernel
theorem dX1_fillEndings_4 : decode cX1_fillEndings 4 = .ok (.if_icmp .gt 23, 3) := by decide +kernel
theorem dX1_fillEndings_7 : decode cX1_fillEndings 7 = .ok (.aload_n 0, 1) := by decide +kernel
theorem dX1_fillEndings_8 : decode cX1_fillEndings 8 = .ok (.getfield 30, 3) := by decide +kernel
theorem dX1_fillEndings_11 : decode cX1_fillEndings 11 = .ok (.bipush 6, 2) := by decide +kernel
theorem dX1_fillEndings_13 : decode cX1_fillEndings 13 = .ok (.iload_n 1, 1) := by decide +kernel
theorem dX1_fillEndings_14 : decode cX1_fillEndings 14 = .ok (.invokestatic 136, 3) := by decide +kernel
theorem dX1_fillEndings_17 : decode cX1_fillEndings 17 = .ok (.iconst 1, 1) := by decide +kernel
theorem dX1_fillEndings_18 : decode cX1_fillEndings 18 = .ok (.invokestatic 64, 3) := by decide +kernel
theorem dX1_fillEndings_21 : decode cX1_fillEndings 21 = .ok (.iinc 1 1, 3) := by decide +kernel
theorem dX1_fillEndings_24 : decode cX1_fillEndings 24 = .ok (.goto (-22), 3) := by decide +kernel
theorem dX1_fillEndings_27 : decode cX1_fillEndings 27 = .ok (.bipush 6, 2) := by decide +kernel
theorem dX1_fillEndings_29 : decode cX1_fillEndings 29 = .ok (.istore_n 1, 1) := by decide +kernel
theorem dX1_fillEndings_30 : decode cX1_fillEndings 30 = .ok (.iload_n 1, 1) := by decide +kernel
theorem dX1_fillEndings_31 : decode cX1_fillEndings 31 = .ok (.iconst 1, 1) := by decide +kernel
theorem dX1_fillEndings_32 : decode cX1_fillEndings 32 = .ok (.if_icmp .le 92, 3) := by decide +kernel
theorem dX1_fillEndings_35 : decode cX1_fillEndings 35 = .ok (.iconst (-1), 1) := by decide +kernel
theorem dX1_fillEndings_36 : decode cX1_fillEndings 36 = .ok (.istore_n 2, 1) := by decide +kernel
theorem dX1_fillEndings_37 : decode cX1_fillEndings 37 = .ok (.iload_n 2, 1) := by decide +kernel
theorem dX1_fillEndings_38 : decode cX1_fillEndings 38 = .ok (.iconst 5, 1) := by decide +kernel
theorem dX1_fillEndings_39 : decode cX1_fillEndings 39 = .ok (.if_icmp .gt 79, 3) := by decide +kernel
theorem dX1_fillEndings_42 : decode cX1_fillEndings 42 = .ok (.iconst 0, 1) := by decide +kernel
theorem dX1_fillEndings_43 : decode cX1_fillEndings 43 = .ok (.istore_n 3, 1) := by decide +kernel
theorem dX1_fillEndings_44 : decode cX1_fillEndings 44 = .ok (.iconst 0, 1) := by decide +kernel
theorem dX1_fillEndings_45 : decode cX1_fillEndings 45 = .ok (.istore 4, 2) := by decide +kernel
theorem dX1_fillEndings_47 : decode cX1_fillEndings 47 = .ok (.iload 4, 2) := by decide +kernel
theorem dX1_fillEndings_49 : decode cX1_fillEndings 49 = .ok (.iconst 5, 1) := by decide +kernel
theorem dX1_fillEndings_50 : decode cX1_fillEndings 50 = .ok (.if_icmp .ge 47, 3) := by decide +kernel
theorem dX1_fillEndings_53 : decode cX1_fillEndings 53 = .ok (.aload_n 0, 1) := by decide +kernel
theorem dX1_fillEndings_54 : decode cX1_fillEndings 54 = .ok (.iload_n 1, 1) := by decide +kernel
theorem dX1_fillEndings_55 : decode cX1_fillEndings 55 = .ok (.iload 4, 2) := by decide +kernel
theorem dX1_fillEndings_57 : decode cX1_fillEndings 57 = .ok (.iload_n 2, 1) := by decide +kernel
theorem dX1_fillEndings_58 : decode cX1_fillEndings 58 = .ok (.invokevirtual 143, 3) := by decide +kernel
theorem dX1_fillEndings_61 : decode cX1_fillEndings 61 = .ok (.ifCond .eq 30, 3) := by decide +kernel
theorem dX1_fillEndings_64 : decode cX1_fillEndings 64 = .ok (.iload_n 3, 1) := by decide +kernel
theorem dX1_fillEndings_65 : decode cX1_fillEndings 65 = .ok (.aload_n 0, 1) := by decide +kernel
theorem dX1_fillEndings_66 : decode cX1_fillEndings 66 = .ok (.getfield 30, 3) := by decide +kernel
theorem dX1_fillEndings_69 : decode cX1_fillEndings 69 = .ok (.iload_n 1, 1) := by decide +kernel
theorem dX1_fillEndings_70 : decode cX1_fillEndings 70 = .ok (.aload_n 0, 1) := by decide +kernel
theorem dX1_fillEndings_71 : decode cX1_fillEndings 71 = .ok (.getfield 9, 3) := by decide +kernel
theorem dX1_fillEndings_74 : decode cX1_fillEndings 74 = .ok (.iload_n 2, 1) := by decide +kernel
theorem dX1_fillEndings_75 : decode cX1_fillEndings 75 = .ok (.iload 4, 2) := by decide +kernel
theorem dX1_fillEndings_77 : decode cX1_fillEndings 77 = .ok (.invokestatic 56, 3) := by decide +kernel
theorem dX1_fillEndings_80 : decode cX1_fillEndings 80 = .ok (.invokestatic 93, 3) := by decide +kernel
theorem dX1_fillEndings_83 : decode cX1_fillEndings 83 = .ok (.invokestatic 136, 3) := by decide +kernel
theorem dX1_fillEndings_86 : decode cX1_fillEndings 86 = .ok (.invokestatic 93, 3) := by decide +kernel
theorem dX1_fillEndings_89 : decode cX1_fillEndings 89 = .ok (.iadd, 1) := by decide +kernel
theorem dX1_fillEndings_90 : decode cX1_fillEndings 90 = .ok (.istore_n 3, 1) := by decide +kernel
theorem dX1_fillEndings_91 : decode cX1_fillEndings 91 = .ok (.iinc 4 1, 3) := by decide +kernel
theorem dX1_fillEndings_94 : decode cX1_fillEndings 94 = .ok (.goto (-47), 3) := by decide +kernel
theorem dX1_fillEndings_97 : decode cX1_fillEndings 97 = .ok (.aload_n 0, 1) := by decide +kernel
theorem dX1_fillEndings_98 : decode cX1_fillEndings 98 = .ok (.getfield 30, 3) := by decide +kernel
theorem dX1_fillEndings_101 : decode cX1_fillEndings 101 = .ok (.iload_n 1, 1) := by decide +kernel
theorem dX1_fillEndings_102 : decode cX1_fillEndings 102 = .ok (.iconst 1, 1) := by decide +kernel
theorem dX1_fillEndings_103 : decode cX1_fillEndings 103 = .ok (.isub, 1) := by decide +kernel
theorem dX1_fillEndings_104 : decode cX1_fillEndings 104 = .ok (.iload_n 2, 1) := by decide +kernel
theorem dX1_fillEndings_105 : decode cX1_fillEndings 105 = .ok (.invokestatic 136, 3) := by decide +kernel
theorem dX1_fillEndings_108 : decode cX1_fillEndings 108 = .ok (.iload_n 3, 1) := by decide +kernel
theorem dX1_fillEndings_109 : decode cX1_fillEndings 109 = .ok (.invokestatic 64, 3) := by decide +kernel
theorem dX1_fillEndings_112 : decode cX1_fillEndings 112 = .ok (.iinc 2 1, 3) := by decide +kernel
theorem dX1_fillEndings_115 : decode cX1_fillEndings 115 = .ok (.goto (-78), 3) := by decide +kernel
theorem dX1_fillEndings_118 : decode cX1_fillEndings 118 = .ok (.iinc 1 (-1), 3) := by decide +kernel
theorem dX1_fillEndings_121 : decode cX1_fillEndings 121 = .ok (.goto (-91), 3) := by decide +kernel
theorem dX1_fillEndings_124 : decode cX1_fillEndings 124 = .ok (.return_, 1) := by decide +kernel
set_option maxRecDepth 20000 in
theorem ggX1_mostLeft_X4_fill : GoodIn wsX1_mostLeft wsX4_fill := goodIn_r _ [12] (by decide +kernel) (by decide +kernel)
set_option maxRecDepth 20000 in
theorem gX1_mostLeft_X4_fill_n74 : GoodIn wsX1_mostLeft (wsX4_fill) := ggX1_mostLeft_X4_fill
set_option maxRecDepth 20000 in
theorem ggX1_mostLeft_X1_rowPlace : GoodIn wsX1_mostLeft wsX1_rowPlace := goodIn_r _ [16] (by decide +kernel) (by decide +kernel)
set_option maxRecDepth 20000 in
theorem gX1_mostLeft_X1_rowPlace : GoodIn wsX1_mostLeft (va_wsS RX1 136 yX1_rowPlace wsX1_rowPlace) := goodIn_app (goodIn_of _ (by decide +kernel)) ggX1_mostLeft_X1_rowPlace
set_option maxRecDepth 20000 in
theorem ggX1_mostLeft_X4_at : GoodIn wsX1_mostLeft wsX4_at := goodIn_r _ [18] (by decide +kernel) (by decide +kernel)
set_option maxRecDepth 20000 in
theorem gX1_mostLeft_X4_at_n93 : GoodIn wsX1_mostLeft (wsX4_at) := ggX1_mostLeft_X4_at
set_option maxRecDepth 20000 in
theorem ggX1_mostLeft_X1_canBeWord : GoodIn wsX1_mostLeft wsX1_canBeWord := goodIn_r _ [22, 5, 23, 3, 24, 25, 15, 26, 17, 11, 18, 27, 28, 29, 30, 31, 32, 33, 34, 37, 38, 39, 40, 41, 42, 43, 44, 45, 46, 47, 48, 49, 50, 51, 52, 53, 54, 55, 56, 57, 58] (by decide +kernel) (by decide +kernel)
set_option maxRecDepth 20000 in
theorem gX1_mostLeft_X1_canBeWord : GoodIn wsX1_mostLeft (wsV RX1 143 RX1 yX1_canBeWord wsX1_canBeWord) := goodIn_app (goodIn_of _ (by decide +kernel)) ggX1_mostLeft_X1_canBeWord
set_option maxRecDepth 20000 in
theorem ggX1_mostLeft_X1_wordPlace : GoodIn wsX1_mostLeft wsX1_wordPlace := goodIn_r _ [26] (by decide +kernel) (by decide +kernel)
set_option maxRecDepth 20000 in
theorem gX1_mostLeft_X1_wordPlace : GoodIn wsX1_mostLeft (va_wsS RX1 56 yX1_wordPlace wsX1_wordPlace) := goodIn_app (goodIn_of _ (by decide +kernel)) ggX1_mostLeft_X1_wordPlace
set_option maxRecDepth 20000 in
theorem ggX1_mostLeft_X4_put : GoodIn wsX1_mostLeft wsX4_put := goodIn_r _ [36] (by decide +kernel) (by decide +kernel)
set_option maxRecDepth 20000 in
theorem gX1_mostLeft_X4_put_n64 : GoodIn wsX1_mostLeft (wsX4_put) := ggX1_mostLeft_X4_put
theorem dX1_mostLeft_0 : decode cX1_mostLeft 0 = .ok (.aload_n 0, 1) := by decide +kernel
theorem dX1_mostLeft_1 : decode cX1_mostLeft 1 = .ok (.getfield 33, 3) := by decide +kernel
theorem dX1_mostLeft_4 : decode cX1_mostLeft 4 = .ok (.iconst 0, 1) := by decide +kernel
theorem dX1_mostLeft_5 : decode cX1_mostLeft 5 = .ok (.invokestatic 74, 3) := by decide +kernel
theorem dX1_mostLeft_8 : decode cX1_mostLeft 8 = .ok (.iconst 0, 1) := by decide +kernel
theorem dX1_mostLeft_9 : decode cX1_mostLeft 9 = .ok (.istore_n 2, 1) := by decide +kernel
theorem dX1_mostLeft_10 : decode cX1_mostLeft 10 = .ok (.iconst (-1), 1) := by decide +kernel
theorem dX1_mostLeft_11 : decode cX1_mostLeft 11 = .ok (.istore_n 3, 1) := by decide +kernel
theorem dX1_mostLeft_12 : decode cX1_mostLeft 12 = .ok (.iload_n 3, 1) := by decide +kernel
theorem dX1_mostLeft_13 : decode cX1_mostLeft 13 = .ok (.iconst 5, 1) := by decide +kernel
theorem dX1_mostLeft_14 : decode cX1_mostLeft 14 = .ok (.if_icmp .gt 125, 3) := by decide +kernel
theorem dX1_mostLeft_17 : decode cX1_mostLeft 17 = .ok (.aload_n 0, 1) := by decide +kernel
theorem dX1_mostLeft_18 : decode cX1_mostLeft 18 = .ok (.getfield 27, 3) := by decide +kernel
theorem dX1_mostLeft_21 : decode cX1_mostLeft 21 = .ok (.iload_n 1, 1) := by decide +kernel
theorem dX1_mostLeft_22 : decode cX1_mostLeft 22 = .ok (.iconst 1, 1) := by decide +kernel
theorem dX1_mostLeft_23 : decode cX1_mostLeft 23 = .ok (.isub, 1) := by decide +kernel
theorem dX1_mostLeft_24 : decode cX1_mostLeft 24 = .ok (.iload_n 3, 1) := by decide +kernel
theorem dX1_mostLeft_25 : decode cX1_mostLeft 25 = .ok (.invokestatic 136, 3) := by decide +kernel
theorem dX1_mostLeft_28 : decode cX1_mostLeft 28 = .ok (.invokestatic 93, 3) := by decide +kernel
theorem dX1_mostLeft_31 : decode cX1_mostLeft 31 = .ok (.istore 4, 2) := by decide +kernel
theorem dX1_mostLeft_33 : decode cX1_mostLeft 33 = .ok (.iconst 0, 1) := by decide +kernel
theorem dX1_mostLeft_34 : decode cX1_mostLeft 34 = .ok (.istore 5, 2) := by decide +kernel
theorem dX1_mostLeft_36 : decode cX1_mostLeft 36 = .ok (.iload 5, 2) := by decide +kernel
theorem dX1_mostLeft_38 : decode cX1_mostLeft 38 = .ok (.iconst 5, 1) := by decide +kernel
theorem dX1_mostLeft_39 : decode cX1_mostLeft 39 = .ok (.if_icmp .ge 94, 3) := by decide +kernel
theorem dX1_mostLeft_42 : decode cX1_mostLeft 42 = .ok (.aload_n 0, 1) := by decide +kernel
theorem dX1_mostLeft_43 : decode cX1_mostLeft 43 = .ok (.iload_n 1, 1) := by decide +kernel
theorem dX1_mostLeft_44 : decode cX1_mostLeft 44 = .ok (.iload 5, 2) := by decide +kernel
theorem dX1_mostLeft_46 : decode cX1_mostLeft 46 = .ok (.iload_n 3, 1) := by decide +kernel
theorem dX1_mostLeft_47 : decode cX1_mostLeft 47 = .ok (.invokevirtual 143, 3) := by decide +kernel
theorem dX1_mostLeft_50 : decode cX1_mostLeft 50 = .ok (.ifCond .eq 77, 3) := by decide +kernel
theorem dX1_mostLeft_53 : decode cX1_mostLeft 53 = .ok (.iload_n 3, 1) := by decide +kernel
theorem dX1_mostLeft_54 : decode cX1_mostLeft 54 = .ok (.iload 5, 2) := by decide +kernel
theorem dX1_mostLeft_56 : decode cX1_mostLeft 56 = .ok (.invokestatic 56, 3) := by decide +kernel
theorem dX1_mostLeft_59 : decode cX1_mostLeft 59 = .ok (.istore 6, 2) := by decide +kernel
theorem dX1_mostLeft_61 : decode cX1_mostLeft 61 = .ok (.aload_n 0, 1) := by decide +kernel
theorem dX1_mostLeft_62 : decode cX1_mostLeft 62 = .ok (.getfield 15, 3) := by decide +kernel
theorem dX1_mostLeft_65 : decode cX1_mostLeft 65 = .ok (.iload 6, 2) := by decide +kernel
theorem dX1_mostLeft_67 : decode cX1_mostLeft 67 = .ok (.invokestatic 93, 3) := by decide +kernel
theorem dX1_mostLeft_70 : decode cX1_mostLeft 70 = .ok (.iconst 1, 1) := by decide +kernel
theorem dX1_mostLeft_71 : decode cX1_mostLeft 71 = .ok (.iadd, 1) := by decide +kernel
theorem dX1_mostLeft_72 : decode cX1_mostLeft 72 = .ok (.istore 7, 2) := by decide +kernel
theorem dX1_mostLeft_74 : decode cX1_mostLeft 74 = .ok (.aload_n 0, 1) := by decide +kernel
theorem dX1_mostLeft_75 : decode cX1_mostLeft 75 = .ok (.getfield 33, 3) := by decide +kernel
theorem dX1_mostLeft_78 : decode cX1_mostLeft 78 = .ok (.iload 7, 2) := by decide +kernel
theorem dX1_mostLeft_80 : decode cX1_mostLeft 80 = .ok (.invokestatic 93, 3) := by decide +kernel
theorem dX1_mostLeft_83 : decode cX1_mostLeft 83 = .ok (.iload 4, 2) := by decide +kernel
theorem dX1_mostLeft_85 : decode cX1_mostLeft 85 = .ok (.aload_n 0, 1) := by decide +kernel
theorem dX1_mostLeft_86 : decode cX1_mostLeft 86 = .ok (.getfield 30, 3) := by decide +kernel
theorem dX1_mostLeft_89 : decode cX1_mostLeft 89 = .ok (.iload_n 1, 1) := by decide +kernel
theorem dX1_mostLeft_90 : decode cX1_mostLeft 90 = .ok (.aload_n 0, 1) := by decide +kernel
theorem dX1_mostLeft_91 : decode cX1_mostLeft 91 = .ok (.getfield 9, 3) := by decide +kernel
theorem dX1_mostLeft_94 : decode cX1_mostLeft 94 = .ok (.iload 6, 2) := by decide +kernel
theorem dX1_mostLeft_96 : decode cX1_mostLeft 96 = .ok (.invokestatic 93, 3) := by decide +kernel
theorem dX1_mostLeft_99 : decode cX1_mostLeft 99 = .ok (.invokestatic 136, 3) := by decide +kernel
theorem dX1_mostLeft_102 : decode cX1_mostLeft 102 = .ok (.invokestatic 93, 3) := by decide +kernel
theorem dX1_mostLeft_105 : decode cX1_mostLeft 105 = .ok (.imul, 1) := by decide +kernel
theorem dX1_mostLeft_106 : decode cX1_mostLeft 106 = .ok (.iadd, 1) := by decide +kernel
theorem dX1_mostLeft_107 : decode cX1_mostLeft 107 = .ok (.istore 8, 2) := by decide +kernel
theorem dX1_mostLeft_109 : decode cX1_mostLeft 109 = .ok (.aload_n 0, 1) := by decide +kernel
theorem dX1_mostLeft_110 : decode cX1_mostLeft 110 = .ok (.getfield 33, 3) := by decide +kernel
theorem dX1_mostLeft_113 : decode cX1_mostLeft 113 = .ok (.iload 7, 2) := by decide +kernel
theorem dX1_mostLeft_115 : decode cX1_mostLeft 115 = .ok (.iload 8, 2) := by decide +kernel
theorem dX1_mostLeft_117 : decode cX1_mostLeft 117 = .ok (.invokestatic 64, 3) := by decide +kernel
theorem dX1_mostLeft_120 : decode cX1_mostLeft 120 = .ok (.iload_n 2, 1) := by decide +kernel
theorem dX1_mostLeft_121 : decode cX1_mostLeft 121 = .ok (.iload 8, 2) := by decide +kernel
theorem dX1_mostLeft_123 : decode cX1_mostLeft 123 = .ok (.invokestatic 130, 3) := by decide +kernel
theorem dX1_mostLeft_126 : decode cX1_mostLeft 126 = .ok (.istore_n 2, 1) := by decide +kernel
theorem dX1_mostLeft_127 : decode cX1_mostLeft 127 = .ok (.iinc 5 1, 3) := by decide +kernel
theorem dX1_mostLeft_130 : decode cX1_mostLeft 130 = .ok (.goto (-94), 3) := by decide +kernel
theorem dX1_mostLeft_133 : decode cX1_mostLeft 133 = .ok (.iinc 3 1, 3) := by decide +kernel
theorem dX1_mostLeft_136 : decode cX1_mostLeft 136 = .ok (.goto (-124), 3) := by decide +kernel
theorem dX1_mostLeft_139 : decode cX1_mostLeft 139 = .ok (.iload_n 2, 1) := by decide +kernel
theorem dX1_mostLeft_140 : decode cX1_mostLeft 140 = .ok (.ireturn, 1) := by decide +kernel
set_option maxRecDepth 20000 in
theorem ggX1_canBeWord_X1_wordPlace : GoodIn wsX1_canBeWord wsX1_wordPlace := goodIn_r _ [7] (by decide +kernel) (by decide +kernel)
set_option maxRecDepth 20000 in
theorem gX1_canBeWord_X1_wordPlace : GoodIn wsX1_canBeWord (va_wsS RX1 56 yX1_wordPlace wsX1_wordPlace) := goodIn_app (goodIn_of _ (by decide +kernel)) ggX1_canBeWord_X1_wordPlace
set_option maxRecDepth 20000 in
theorem ggX1_canBeWord_X4_at : GoodIn wsX1_canBeWord wsX4_at := goodIn_r _ [10] (by decide +kernel) (by decide +kernel)
set_option maxRecDepth 20000 in
theorem gX1_canBeWord_X4_at_n93 : GoodIn wsX1_canBeWord (wsX4_at) := ggX1_canBeWord_X4_at
set_option maxRecDepth 20000 in
theorem ggX1_canBeWord_X3_allows : GoodIn wsX1_canBeWord wsX3_allows := goodIn_r _ [15, 16, 17, 18, 8, 9, 10, 29, 30, 31, 32, 33, 34, 35, 36, 37, 38, 39, 40] (by decide +kernel) (by decide +kernel)
set_option maxRecDepth 20000 in
theorem gX1_canBeWord_X3_allows : GoodIn wsX1_canBeWord (wsV RX1 139 RX3 yX3_allows wsX3_allows) := goodIn_app (goodIn_of _ (by decide +kernel)) ggX1_canBeWord_X3_allows
theorem dX1_canBeWord_0 : decode cX1_canBeWord 0 = .ok (.iload_n 3, 1) := by decide +kernel
theorem dX1_canBeWord_1 : decode cX1_canBeWord 1 = .ok (.iload_n 2, 1) := by decide +kernel
theorem dX1_canBeWord_2 : decode cX1_canBeWord 2 = .ok (.invokestatic 56, 3) := by decide +kernel
theorem dX1_canBeWord_5 : decode cX1_canBeWord 5 = .ok (.istore 4, 2) := by decide +kernel
theorem dX1_canBeWord_7 : decode cX1_canBeWord 7 = .ok (.aload_n 0, 1) := by decide +kernel
theorem dX1_canBeWord_8 : decode cX1_canBeWord 8 = .ok (.getfield 9, 3) := by decide +kernel
theorem dX1_canBeWord_11 : decode cX1_canBeWord 11 = .ok (.iload 4, 2) := by decide +kernel
theorem dX1_canBeWord_13 : decode cX1_canBeWord 13 = .ok (.invokestatic 93, 3) := by decide +kernel
theorem dX1_canBeWord_16 : decode cX1_canBeWord 16 = .ok (.bipush (-2), 2) := by decide +kernel
theorem dX1_canBeWord_18 : decode cX1_canBeWord 18 = .ok (.if_icmp .eq 27, 3) := by decide +kernel
theorem dX1_canBeWord_21 : decode cX1_canBeWord 21 = .ok (.aload_n 0, 1) := by decide +kernel
theorem dX1_canBeWord_22 : decode cX1_canBeWord 22 = .ok (.getfield 40, 3) := by decide +kernel
theorem dX1_canBeWord_25 : decode cX1_canBeWord 25 = .ok (.iload_n 1, 1) := by decide +kernel
theorem dX1_canBeWord_26 : decode cX1_canBeWord 26 = .ok (.aload_n 0, 1) := by decide +kernel
theorem dX1_canBeWord_27 : decode cX1_canBeWord 27 = .ok (.getfield 15, 3) := by decide +kernel
theorem dX1_canBeWord_30 : decode cX1_canBeWord 30 = .ok (.iload 4, 2) := by decide +kernel
theorem dX1_canBeWord_32 : decode cX1_canBeWord 32 = .ok (.invokestatic 93, 3) := by decide +kernel
theorem dX1_canBeWord_35 : decode cX1_canBeWord 35 = .ok (.invokevirtual 139, 3) := by decide +kernel
theorem dX1_canBeWord_38 : decode cX1_canBeWord 38 = .ok (.ifCond .eq 7, 3) := by decide +kernel
theorem dX1_canBeWord_41 : decode cX1_canBeWord 41 = .ok (.iconst 1, 1) := by decide +kernel
theorem dX1_canBeWord_42 : decode cX1_canBeWord 42 = .ok (.goto 4, 3) := by decide +kernel
theorem dX1_canBeWord_45 : decode cX1_canBeWord 45 = .ok (.iconst 0, 1) := by decide +kernel
theorem dX1_canBeWord_46 : decode cX1_canBeWord 46 = .ok (.ireturn, 1) := by decide +kernel
theorem dX1_rowPlace_0 : decode cX1_rowPlace 0 = .ok (.iload_n 0, 1) := by decide +kernel
theorem dX1_rowPlace_1 : decode cX1_rowPlace 1 = .ok (.bipush 7, 2) := by decide +kernel
theorem dX1_rowPlace_3 : decode cX1_rowPlace 3 = .ok (.imul, 1) := by decide +kernel
theorem dX1_rowPlace_4 : decode cX1_rowPlace 4 = .ok (.iload_n 1, 1) := by decide +kernel
theorem dX1_rowPlace_5 : decode cX1_rowPlace 5 = .ok (.iadd, 1) := by decide +kernel
theorem dX1_rowPlace_6 : decode cX1_rowPlace 6 = .ok (.iconst 1, 1) := by decide +kernel
theorem dX1_rowPlace_7 : decode cX1_rowPlace 7 = .ok (.iadd, 1) := by decide +kernel
theorem dX1_rowPlace_8 : decode cX1_rowPlace 8 = .ok (.ireturn, 1) := by decide +kernel
theorem dX2_init_0 : decode cX2_init 0 = .ok (.aload_n 0, 1) := by decide +kernel
theorem dX2_init_1 : decode cX2_init 1 = .ok (.invokespecial 3, 3) := by decide +kernel
theorem dX2_init_4 : decode cX2_init 4 = .ok (.aload_n 0, 1) := by decide +kernel
theorem dX2_init_5 : decode cX2_init 5 = .ok (.bipush 18, 2) := by decide +kernel
theorem dX2_init_7 : decode cX2_init 7 = .ok (.newarray .int, 2) := by decide +kernel
theorem dX2_init_9 : decode cX2_init 9 = .ok (.putfield 9, 3) := by decide +kernel
theorem dX2_init_12 : decode cX2_init 12 = .ok (.return_, 1) := by decide +kernel
set_option maxRecDepth 20000 in
theorem ggX2_append_X4_put : GoodIn wsX2_append wsX4_put := goodIn_r _ [5] (by decide +kernel) (by decide +kernel)
set_option maxRecDepth 20000 in
theorem gX2_append_X4_put_n19 : GoodIn wsX2_append (wsX4_put) := ggX2_append_X4_put
theorem dX2_append_0 : decode cX2_append 0 = .ok (.aload_n 0, 1) := by decide +kernel
theorem dX2_append_1 : decode cX2_append 1 = .ok (.getfield 15, 3) := by decide +kernel
theorem dX2_append_4 : decode cX2_append 4 = .ok (.bipush 18, 2) := by decide +kernel
theorem dX2_append_6 : decode cX2_append 6 = .ok (.if_icmp .ge 25, 3) := by decide +kernel
theorem dX2_append_9 : decode cX2_append 9 = .ok (.aload_n 0, 1) := by decide +kernel
theorem dX2_append_10 : decode cX2_append 10 = .ok (.getfield 9, 3) := by decide +kernel
theorem dX2_append_13 : decode cX2_append 13 = .ok (.aload_n 0, 1) := by decide +kernel
theorem dX2_append_14 : decode cX2_append 14 = .ok (.getfield 15, 3) := by decide +kernel
theorem dX2_append_17 : decode cX2_append 17 = .ok (.iload_n 1, 1) := by decide +kernel
theorem dX2_append_18 : decode cX2_append 18 = .ok (.invokestatic 19, 3) := by decide +kernel
theorem dX2_append_21 : decode cX2_append 21 = .ok (.aload_n 0, 1) := by decide +kernel
theorem dX2_append_22 : decode cX2_append 22 = .ok (.dup, 1) := by decide +kernel
theorem dX2_append_23 : decode cX2_append 23 = .ok (.getfield 15, 3) := by decide +kernel
theorem dX2_append_26 : decode cX2_append 26 = .ok (.iconst 1, 1) := by decide +kernel
theorem dX2_append_27 : decode cX2_append 27 = .ok (.iadd, 1) := by decide +kernel
theorem dX2_append_28 : decode cX2_append 28 = .ok (.putfield 15, 3) := by decide +kernel
theorem dX2_append_31 : decode cX2_append 31 = .ok (.return_, 1) := by decide +kernel
theorem dX2_wipe_0 : decode cX2_wipe 0 = .ok (.aload_n 0, 1) := by decide +kernel
theorem dX2_wipe_1 : decode cX2_wipe 1 = .ok (.iconst 0, 1) := by decide +kernel
theorem dX2_wipe_2 : decode cX2_wipe 2 = .ok (.putfield 15, 3) := by decide +kernel
theorem dX2_wipe_5 : decode cX2_wipe 5 = .ok (.return_, 1) := by decide +kernel
set_option maxRecDepth 20000 in
theorem ggX2_codeAt_X4_at : GoodIn wsX2_codeAt wsX4_at := goodIn_r _ [5] (by decide +kernel) (by decide +kernel)
set_option maxRecDepth 20000 in
theorem gX2_codeAt_X4_at_n23 : GoodIn wsX2_codeAt (wsX4_at) := ggX2_codeAt_X4_at
theorem dX2_codeAt_0 : decode cX2_codeAt 0 = .ok (.iload_n 1, 1) := by decide +kernel
theorem dX2_codeAt_1 : decode cX2_codeAt 1 = .ok (.ifCond .lt 22, 3) := by decide +kernel
theorem dX2_codeAt_4 : decode cX2_codeAt 4 = .ok (.iload_n 1, 1) := by decide +kernel
theorem dX2_codeAt_5 : decode cX2_codeAt 5 = .ok (.aload_n 0, 1) := by decide +kernel
theorem dX2_codeAt_6 : decode cX2_codeAt 6 = .ok (.getfield 15, 3) := by decide +kernel
theorem dX2_codeAt_9 : decode cX2_codeAt 9 = .ok (.if_icmp .ge 14, 3) := by decide +kernel
theorem dX2_codeAt_12 : decode cX2_codeAt 12 = .ok (.aload_n 0, 1) := by decide +kernel
theorem dX2_codeAt_13 : decode cX2_codeAt 13 = .ok (.getfield 9, 3) := by decide +kernel
theorem dX2_codeAt_16 : decode cX2_codeAt 16 = .ok (.iload_n 1, 1) := by decide +kernel
theorem dX2_codeAt_17 : decode cX2_codeAt 17 = .ok (.invokestatic 23, 3) := by decide +kernel
theorem dX2_codeAt_20 : decode cX2_codeAt 20 = .ok (.goto 4, 3) := by decide +kernel
theorem dX2_codeAt_23 : decode cX2_codeAt 23 = .ok (.iconst 0, 1) := by decide +kernel
theorem dX2_codeAt_24 : decode cX2_codeAt 24 = .ok (.ireturn, 1) := by decide +kernel
set_option maxRecDepth 20000 in
theorem ggX2_firstFault_X2_codeAt : GoodIn wsX2_firstFault wsX2_codeAt := goodIn_r _ [6, 1, 7, 8, 9, 10, 20, 21] (by decide +kernel) (by decide +kernel)
set_option maxRecDepth 20000 in
theorem gX2_firstFault_X2_codeAt : GoodIn wsX2_firstFault (wsV RX2 27 RX2 yX2_codeAt wsX2_codeAt) := goodIn_app (goodIn_of _ (by decide +kernel)) ggX2_firstFault_X2_codeAt
set_option maxRecDepth 20000 in
theorem ggX2_firstFault_X2_dueBehind : GoodIn wsX2_firstFault wsX2_dueBehind := goodIn_r _ [13, 14, 15, 5, 16, 17, 18, 19] (by decide +kernel) (by decide +kernel)
set_option maxRecDepth 20000 in
theorem gX2_firstFault_X2_dueBehind : GoodIn wsX2_firstFault (va_wsS RX2 31 yX2_dueBehind wsX2_dueBehind) := goodIn_app (goodIn_of _ (by decide +kernel)) ggX2_firstFault_X2_dueBehind
theorem dX2_firstFault_0 : decode cX2_firstFault 0 = .ok (.iconst 0, 1) := by decide +kernel
theorem dX2_firstFault_1 : decode cX2_firstFault 1 = .ok (.istore_n 1, 1) := by decide +kernel
theorem dX2_firstFault_2 : decode cX2_firstFault 2 = .ok (.iconst 0, 1) := by decide +kernel
theorem dX2_firstFault_3 : decode cX2_firstFault 3 = .ok (.istore_n 2, 1) := by decide +kernel
theorem dX2_firstFault_4 : decode cX2_firstFault 4 = .ok (.iconst 0, 1) := by decide +kernel
theorem dX2_firstFault_5 : decode cX2_firstFault 5 = .ok (.istore_n 3, 1) := by decide +kernel
theorem dX2_firstFault_6 : decode cX2_firstFault 6 = .ok (.iload_n 3, 1) := by decide +kernel
theorem dX2_firstFault_7 : decode cX2_firstFault 7 = .ok (.aload_n 0, 1) := by decide +kernel
theorem dX2_firstFault_8 : decode cX2_firstFault 8 = .ok (.getfield 15, 3) := by decide +kernel
theorem dX2_firstFault_11 : decode cX2_firstFault 11 = .ok (.if_icmp .ge 38, 3) := by decide +kernel
theorem dX2_firstFault_14 : decode cX2_firstFault 14 = .ok (.aload_n 0, 1) := by decide +kernel
theorem dX2_firstFault_15 : decode cX2_firstFault 15 = .ok (.iload_n 3, 1) := by decide +kernel
theorem dX2_firstFault_16 : decode cX2_firstFault 16 = .ok (.invokevirtual 27, 3) := by decide +kernel
theorem dX2_firstFault_19 : decode cX2_firstFault 19 = .ok (.istore 4, 2) := by decide +kernel
theorem dX2_firstFault_21 : decode cX2_firstFault 21 = .ok (.iload_n 1, 1) := by decide +kernel
theorem dX2_firstFault_22 : decode cX2_firstFault 22 = .ok (.ifCond .ne 6, 3) := by decide +kernel
theorem dX2_firstFault_25 : decode cX2_firstFault 25 = .ok (.iinc 2 1, 3) := by decide +kernel
theorem dX2_firstFault_28 : decode cX2_firstFault 28 = .ok (.iload_n 1, 1) := by decide +kernel
theorem dX2_firstFault_29 : decode cX2_firstFault 29 = .ok (.iload 4, 2) := by decide +kernel
theorem dX2_firstFault_31 : decode cX2_firstFault 31 = .ok (.iload_n 2, 1) := by decide +kernel
theorem dX2_firstFault_32 : decode cX2_firstFault 32 = .ok (.invokestatic 31, 3) := by decide +kernel
theorem dX2_firstFault_35 : decode cX2_firstFault 35 = .ok (.istore_n 1, 1) := by decide +kernel
theorem dX2_firstFault_36 : decode cX2_firstFault 36 = .ok (.iload_n 1, 1) := by decide +kernel
theorem dX2_firstFault_37 : decode cX2_firstFault 37 = .ok (.iconst 5, 1) := by decide +kernel
theorem dX2_firstFault_38 : decode cX2_firstFault 38 = .ok (.if_icmp .ne 5, 3) := by decide +kernel
theorem dX2_firstFault_41 : decode cX2_firstFault 41 = .ok (.iload_n 3, 1) := by decide +kernel
theorem dX2_firstFault_42 : decode cX2_firstFault 42 = .ok (.ireturn, 1) := by decide +kernel
theorem dX2_firstFault_43 : decode cX2_firstFault 43 = .ok (.iinc 3 1, 3) := by decide +kernel
theorem dX2_firstFault_46 : decode cX2_firstFault 46 = .ok (.goto (-40), 3) := by decide +kernel
theorem dX2_firstFault_49 : decode cX2_firstFault 49 = .ok (.aload_n 0, 1) := by decide +kernel
theorem dX2_firstFault_50 : decode cX2_firstFault 50 = .ok (.getfield 15, 3) := by decide +kernel
theorem dX2_firstFault_53 : decode cX2_firstFault 53 = .ok (.ireturn, 1) := by decide +kernel
set_option maxRecDepth 20000 in
theorem ggX2_isWhole_X2_codeAt : GoodIn wsX2_isWhole wsX2_codeAt := goodIn_r _ [6, 1, 7, 8, 9, 10, 24, 25] (by decide +kernel) (by decide +kernel)
set_option maxRecDepth 20000 in
theorem gX2_isWhole_X2_codeAt : GoodIn wsX2_isWhole (wsV RX2 27 RX2 yX2_codeAt wsX2_codeAt) := goodIn_app (goodIn_of _ (by decide +kernel)) ggX2_isWhole_X2_codeAt
set_option maxRecDepth 20000 in
theorem ggX2_isWhole_X2_firstFault : GoodIn wsX2_isWhole wsX2_firstFault := goodIn_r _ [14, 1, 2, 3, 4, 5, 6, 7, 8, 9, 10, 15, 16, 17, 18, 19, 20, 21, 22, 23, 24, 25] (by decide +kernel) (by decide +kernel)
set_option maxRecDepth 20000 in
theorem gX2_isWhole_X2_firstFault : GoodIn wsX2_isWhole (wsV RX2 35 RX2 yX2_firstFault wsX2_firstFault) := goodIn_app (goodIn_of _ (by decide +kernel)) ggX2_isWhole_X2_firstFault
theorem dX2_isWhole_0 : decode cX2_isWhole 0 = .ok (.aload_n 0, 1) := by decide +kernel
theorem dX2_isWhole_1 : decode cX2_isWhole 1 = .ok (.getfield 15, 3) := by decide +kernel
theorem dX2_isWhole_4 : decode cX2_isWhole 4 = .ok (.iconst 2, 1) := by decide +kernel
theorem dX2_isWhole_5 : decode cX2_isWhole 5 = .ok (.if_icmp .lt 33, 3) := by decide +kernel
theorem dX2_isWhole_8 : decode cX2_isWhole 8 = .ok (.aload_n 0, 1) := by decide +kernel
theorem dX2_isWhole_9 : decode cX2_isWhole 9 = .ok (.aload_n 0, 1) := by decide +kernel
theorem dX2_isWhole_10 : decode cX2_isWhole 10 = .ok (.getfield 15, 3) := by decide +kernel
theorem dX2_isWhole_13 : decode cX2_isWhole 13 = .ok (.iconst 2, 1) := by decide +kernel
theorem dX2_isWhole_14 : decode cX2_isWhole 14 = .ok (.isub, 1) := by decide +kernel
theorem dX2_isWhole_15 : decode cX2_isWhole 15 = .ok (.invokevirtual 27, 3) := by decide +kernel
theorem dX2_isWhole_18 : decode cX2_isWhole 18 = .ok (.bipush 59, 2) := by decide +kernel
theorem dX2_isWhole_20 : decode cX2_isWhole 20 = .ok (.if_icmp .ne 18, 3) := by decide +kernel
theorem dX2_isWhole_23 : decode cX2_isWhole 23 = .ok (.aload_n 0, 1) := by decide +kernel
theorem dX2_isWhole_24 : decode cX2_isWhole 24 = .ok (.invokevirtual 35, 3) := by decide +kernel
theorem dX2_isWhole_27 : decode cX2_isWhole 27 = .ok (.aload_n 0, 1) := by decide +kernel
theorem dX2_isWhole_28 : decode cX2_isWhole 28 = .ok (.getfield 15, 3) := by decide +kernel
theorem dX2_isWhole_31 : decode cX2_isWhole 31 = .ok (.if_icmp .ne 7, 3) := by decide +kernel
theorem dX2_isWhole_34 : decode cX2_isWhole 34 = .ok (.iconst 1, 1) := by decide +kernel
theorem dX2_isWhole_35 : decode cX2_isWhole 35 = .ok (.goto 4, 3) := by decide +kernel
theorem dX2_isWhole_38 : decode cX2_isWhole 38 = .ok (.iconst 0, 1) := by decide +kernel
theorem dX2_isWhole_39 : decode cX2_isWhole 39 = .ok (.ireturn, 1) := by decide +kernel
set_option maxRecDepth 20000 in
theorem ggX2_dueBehind_X2_kindOf : GoodIn wsX2_dueBehind wsX2_kindOf := goodIn_r _ [4] (by decide +kernel) (by decide +kernel)
set_option maxRecDepth 20000 in
theorem gX2_dueBehind_X2_kindOf : GoodIn wsX2_dueBehind (va_wsS RX2 39 yX2_kindOf wsX2_kindOf) := goodIn_app (goodIn_of _ (by decide +kernel)) ggX2_dueBehind_X2_kindOf
set_option maxRecDepth 20000 in
theorem ggX2_dueBehind_X2_dueBehindMark : GoodIn wsX2_dueBehind wsX2_dueBehindMark := goodIn_r _ [7] (by decide +kernel) (by decide +kernel)
set_option maxRecDepth 20000 in
theorem gX2_dueBehind_X2_dueBehindMark : GoodIn wsX2_dueBehind (va_wsS RX2 42 yX2_dueBehindMark wsX2_dueBehindMark) := goodIn_app (goodIn_of _ (by decide +kernel)) ggX2_dueBehind_X2_dueBehindMark
theorem dX2_dueBehind_0 : decode cX2_dueBehind 0 = .ok (.iload_n 0, 1) := by decide +kernel
theorem dX2_dueBehind_1 : decode cX2_dueBehind 1 = .ok (.tableswitch 87 0 3 #[31, 45, 63, 69], 31) := by decide +kernel
theorem dX2_dueBehind_32 : decode cX2_dueBehind 32 = .ok (.iload_n 1, 1) := by decide +kernel
theorem dX2_dueBehind_33 : decode cX2_dueBehind 33 = .ok (.invokestatic 39, 3) := by decide +kernel
theorem dX2_dueBehind_36 : decode cX2_dueBehind 36 = .ok (.iconst (-1), 1) := by decide +kernel
theorem dX2_dueBehind_37 : decode cX2_dueBehind 37 = .ok (.if_icmp .eq 7, 3) := by decide +kernel
theorem dX2_dueBehind_40 : decode cX2_dueBehind 40 = .ok (.iconst 1, 1) := by decide +kernel
theorem dX2_dueBehind_41 : decode cX2_dueBehind 41 = .ok (.goto 4, 3) := by decide +kernel
theorem dX2_dueBehind_44 : decode cX2_dueBehind 44 = .ok (.iconst 5, 1) := by decide +kernel
theorem dX2_dueBehind_45 : decode cX2_dueBehind 45 = .ok (.ireturn, 1) := by decide +kernel
theorem dX2_dueBehind_46 : decode cX2_dueBehind 46 = .ok (.iload_n 1, 1) := by decide +kernel
theorem dX2_dueBehind_47 : decode cX2_dueBehind 47 = .ok (.bipush 48, 2) := by decide +kernel
theorem dX2_dueBehind_49 : decode cX2_dueBehind 49 = .ok (.if_icmp .eq 9, 3) := by decide +kernel
theorem dX2_dueBehind_52 : decode cX2_dueBehind 52 = .ok (.iload_n 1, 1) := by decide +kernel
theorem dX2_dueBehind_53 : decode cX2_dueBehind 53 = .ok (.bipush 49, 2) := by decide +kernel
theorem dX2_dueBehind_55 : decode cX2_dueBehind 55 = .ok (.if_icmp .ne 7, 3) := by decide +kernel
theorem dX2_dueBehind_58 : decode cX2_dueBehind 58 = .ok (.iconst 2, 1) := by decide +kernel
theorem dX2_dueBehind_59 : decode cX2_dueBehind 59 = .ok (.goto 4, 3) := by decide +kernel
theorem dX2_dueBehind_62 : decode cX2_dueBehind 62 = .ok (.iconst 5, 1) := by decide +kernel
theorem dX2_dueBehind_63 : decode cX2_dueBehind 63 = .ok (.ireturn, 1) := by decide +kernel
theorem dX2_dueBehind_64 : decode cX2_dueBehind 64 = .ok (.iload_n 1, 1) := by decide +kernel
theorem dX2_dueBehind_65 : decode cX2_dueBehind 65 = .ok (.iload_n 2, 1) := by decide +kernel
theorem dX2_dueBehind_66 : decode cX2_dueBehind 66 = .ok (.invokestatic 42, 3) := by decide +kernel
theorem dX2_dueBehind_69 : decode cX2_dueBehind 69 = .ok (.ireturn, 1) := by decide +kernel
theorem dX2_dueBehind_70 : decode cX2_dueBehind 70 = .ok (.iload_n 1, 1) := by decide +kernel
theorem dX2_dueBehind_71 : decode cX2_dueBehind 71 = .ok (.bipush 49, 2) := by decide +kernel
theorem dX2_dueBehind_73 : decode cX2_dueBehind 73 = .ok (.if_icmp .lt 13, 3) := by decide +kernel
theorem dX2_dueBehind_76 : decode cX2_dueBehind 76 = .ok (.iload_n 1, 1) := by decide +kernel
theorem dX2_dueBehind_77 : decode cX2_dueBehind 77 = .ok (.bipush 57, 2) := by decide +kernel
theorem dX2_dueBehind_79 : decode cX2_dueBehind 79 = .ok (.if_icmp .gt 7, 3) := by decide +kernel
theorem dX2_dueBehind_82 : decode cX2_dueBehind 82 = .ok (.iconst 4, 1) := by decide +kernel
theorem dX2_dueBehind_83 : decode cX2_dueBehind 83 = .ok (.goto 4, 3) := by decide +kernel
theorem dX2_dueBehind_86 : decode cX2_dueBehind 86 = .ok (.iconst 5, 1) := by decide +kernel
theorem dX2_dueBehind_87 : decode cX2_dueBehind 87 = .ok (.ireturn, 1) := by decide +kernel
theorem dX2_dueBehind_88 : decode cX2_dueBehind 88 = .ok (.iconst 5, 1) := by decide +kernel
theorem dX2_dueBehind_89 : decode cX2_dueBehind 89 = .ok (.ireturn, 1) := by decide +kernel
theorem dX2_dueBehindMark_0 : decode cX2_dueBehindMark 0 = .ok (.iload_n 0, 1) := by decide +kernel
theorem dX2_dueBehindMark_1 : decode cX2_dueBehindMark 1 = .ok (.bipush 44, 2) := by decide +kernel
theorem dX2_dueBehindMark_3 : decode cX2_dueBehindMark 3 = .ok (.if_icmp .ne 10, 3) := by decide +kernel
theorem dX2_dueBehindMark_6 : decode cX2_dueBehindMark 6 = .ok (.iload_n 1, 1) := by decide +kernel
theorem dX2_dueBehindMark_7 : decode cX2_dueBehindMark 7 = .ok (.iconst 5, 1) := by decide +kernel
theorem dX2_dueBehindMark_8 : decode cX2_dueBehindMark 8 = .ok (.if_icmp .ge 5, 3) := by decide +kernel
theorem dX2_dueBehindMark_11 : decode cX2_dueBehindMark 11 = .ok (.iconst 0, 1) := by decide +kernel
theorem dX2_dueBehindMark_12 : decode cX2_dueBehindMark 12 = .ok (.ireturn, 1) := by decide +kernel
theorem dX2_dueBehindMark_13 : decode cX2_dueBehindMark 13 = .ok (.iload_n 0, 1) := by decide +kernel
theorem dX2_dueBehindMark_14 : decode cX2_dueBehindMark 14 = .ok (.bipush 59, 2) := by decide +kernel
theorem dX2_dueBehindMark_16 : decode cX2_dueBehindMark 16 = .ok (.if_icmp .ne 12, 3) := by decide +kernel
theorem dX2_dueBehindMark_19 : decode cX2_dueBehindMark 19 = .ok (.iload_n 1, 1) := by decide +kernel
theorem dX2_dueBehindMark_20 : decode cX2_dueBehindMark 20 = .ok (.iconst 2, 1) := by decide +kernel
theorem dX2_dueBehindMark_21 : decode cX2_dueBehindMark 21 = .ok (.if_icmp .lt 7, 3) := by decide +kernel
theorem dX2_dueBehindMark_24 : decode cX2_dueBehindMark 24 = .ok (.iconst 3, 1) := by decide +kernel
theorem dX2_dueBehindMark_25 : decode cX2_dueBehindMark 25 = .ok (.goto 4, 3) := by decide +kernel
theorem dX2_dueBehindMark_28 : decode cX2_dueBehindMark 28 = .ok (.iconst 5, 1) := by decide +kernel
theorem dX2_dueBehindMark_29 : decode cX2_dueBehindMark 29 = .ok (.ireturn, 1) := by decide +kernel
theorem dX2_kindOf_0 : decode cX2_kindOf 0 = .ok (.iload_n 0, 1) := by decide +kernel
theorem dX2_kindOf_1 : decode cX2_kindOf 1 = .ok (.lookupswitch 61 #[(101, 55), (102, 57), (109, 59), (115, 51), (119, 53)], 51) := by decide +kernel
theorem dX2_kindOf_52 : decode cX2_kindOf 52 = .ok (.iconst 0, 1) := by decide +kernel
theorem dX2_kindOf_53 : decode cX2_kindOf 53 = .ok (.ireturn, 1) := by decide +kernel
theorem dX2_kindOf_54 : decode cX2_kindOf 54 = .ok (.iconst 1, 1) := by decide +kernel
theorem dX2_kindOf_55 : decode cX2_kindOf 55 = .ok (.ireturn, 1) := by decide +kernel
theorem dX2_kindOf_56 : decode cX2_kindOf 56 = .ok (.iconst 2, 1) := by decide +kernel
theorem dX2_kindOf_57 : decode cX2_kindOf 57 = .ok (.ireturn, 1) := by decide +kernel
theorem dX2_kindOf_58 : decode cX2_kindOf 58 = .ok (.iconst 3, 1) := by decide +kernel
theorem dX2_kindOf_59 : decode cX2_kindOf 59 = .ok (.ireturn, 1) := by decide +kernel
theorem dX2_kindOf_60 : decode cX2_kindOf 60 = .ok (.iconst 4, 1) := by decide +kernel
theorem dX2_kindOf_61 : decode cX2_kindOf 61 = .ok (.ireturn, 1) := by decide +kernel
theorem dX2_kindOf_62 : decode cX2_kindOf 62 = .ok (.iconst (-1), 1) := by decide +kernel
theorem dX2_kindOf_63 : decode cX2_kindOf 63 = .ok (.ireturn, 1) := by decide +kernel
