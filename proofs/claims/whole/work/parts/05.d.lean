theorem dX5_init_0 : decode cX5_init 0 = .ok (.aload_n 0, 1) := by decide +kernel
theorem dX5_init_1 : decode cX5_init 1 = .ok (.invokespecial 1, 3) := by decide +kernel
theorem dX5_init_4 : decode cX5_init 4 = .ok (.aload_n 0, 1) := by decide +kernel
theorem dX5_init_5 : decode cX5_init 5 = .ok (.bipush 18, 2) := by decide +kernel
theorem dX5_init_7 : decode cX5_init 7 = .ok (.newarray .int, 2) := by decide +kernel
theorem dX5_init_9 : decode cX5_init 9 = .ok (.putfield 7, 3) := by decide +kernel
theorem dX5_init_12 : decode cX5_init 12 = .ok (.aload_n 0, 1) := by decide +kernel
theorem dX5_init_13 : decode cX5_init 13 = .ok (.bipush 10, 2) := by decide +kernel
theorem dX5_init_15 : decode cX5_init 15 = .ok (.newarray .int, 2) := by decide +kernel
theorem dX5_init_17 : decode cX5_init 17 = .ok (.putfield 13, 3) := by decide +kernel
theorem dX5_init_20 : decode cX5_init 20 = .ok (.aload_n 0, 1) := by decide +kernel
theorem dX5_init_21 : decode cX5_init 21 = .ok (.bipush 15, 2) := by decide +kernel
theorem dX5_init_23 : decode cX5_init 23 = .ok (.newarray .int, 2) := by decide +kernel
theorem dX5_init_25 : decode cX5_init 25 = .ok (.putfield 16, 3) := by decide +kernel
theorem dX5_init_28 : decode cX5_init 28 = .ok (.aload_n 0, 1) := by decide +kernel
theorem dX5_init_29 : decode cX5_init 29 = .ok (.bipush 64, 2) := by decide +kernel
theorem dX5_init_31 : decode cX5_init 31 = .ok (.newarray .int, 2) := by decide +kernel
theorem dX5_init_33 : decode cX5_init 33 = .ok (.putfield 19, 3) := by decide +kernel
theorem dX5_init_36 : decode cX5_init 36 = .ok (.aload_n 0, 1) := by decide +kernel
theorem dX5_init_37 : decode cX5_init 37 = .ok (.bipush 64, 2) := by decide +kernel
theorem dX5_init_39 : decode cX5_init 39 = .ok (.newarray .int, 2) := by decide +kernel
theorem dX5_init_41 : decode cX5_init 41 = .ok (.putfield 22, 3) := by decide +kernel
theorem dX5_init_44 : decode cX5_init 44 = .ok (.aload_n 0, 1) := by decide +kernel
theorem dX5_init_45 : decode cX5_init 45 = .ok (.bipush 64, 2) := by decide +kernel
theorem dX5_init_47 : decode cX5_init 47 = .ok (.newarray .int, 2) := by decide +kernel
theorem dX5_init_49 : decode cX5_init 49 = .ok (.putfield 25, 3) := by decide +kernel
theorem dX5_init_52 : decode cX5_init 52 = .ok (.aload_n 0, 1) := by decide +kernel
theorem dX5_init_53 : decode cX5_init 53 = .ok (.bipush 16, 2) := by decide +kernel
theorem dX5_init_55 : decode cX5_init 55 = .ok (.newarray .int, 2) := by decide +kernel
theorem dX5_init_57 : decode cX5_init 57 = .ok (.putfield 28, 3) := by decide +kernel
theorem dX5_init_60 : decode cX5_init 60 = .ok (.aload_n 0, 1) := by decide +kernel
theorem dX5_init_61 : decode cX5_init 61 = .ok (.sipush 448, 3) := by decide +kernel
theorem dX5_init_64 : decode cX5_init 64 = .ok (.newarray .int, 2) := by decide +kernel
theorem dX5_init_66 : decode cX5_init 66 = .ok (.putfield 31, 3) := by decide +kernel
theorem dX5_init_69 : decode cX5_init 69 = .ok (.aload_n 0, 1) := by decide +kernel
theorem dX5_init_70 : decode cX5_init 70 = .ok (.sipush 448, 3) := by decide +kernel
theorem dX5_init_73 : decode cX5_init 73 = .ok (.newarray .int, 2) := by decide +kernel
theorem dX5_init_75 : decode cX5_init 75 = .ok (.putfield 34, 3) := by decide +kernel
theorem dX5_init_78 : decode cX5_init 78 = .ok (.aload_n 0, 1) := by decide +kernel
theorem dX5_init_79 : decode cX5_init 79 = .ok (.bipush 8, 2) := by decide +kernel
theorem dX5_init_81 : decode cX5_init 81 = .ok (.newarray .int, 2) := by decide +kernel
theorem dX5_init_83 : decode cX5_init 83 = .ok (.putfield 37, 3) := by decide +kernel
theorem dX5_init_86 : decode cX5_init 86 = .ok (.aload_n 0, 1) := by decide +kernel
theorem dX5_init_87 : decode cX5_init 87 = .ok (.bipush 15, 2) := by decide +kernel
theorem dX5_init_89 : decode cX5_init 89 = .ok (.newarray .int, 2) := by decide +kernel
theorem dX5_init_91 : decode cX5_init 91 = .ok (.putfield 40, 3) := by decide +kernel
theorem dX5_init_94 : decode cX5_init 94 = .ok (.aload_n 0, 1) := by decide +kernel
theorem dX5_init_95 : decode cX5_init 95 = .ok (.bipush 8, 2) := by decide +kernel
theorem dX5_init_97 : decode cX5_init 97 = .ok (.newarray .int, 2) := by decide +kernel
theorem dX5_init_99 : decode cX5_init 99 = .ok (.putfield 43, 3) := by decide +kernel
theorem dX5_init_102 : decode cX5_init 102 = .ok (.aload_n 0, 1) := by decide +kernel
theorem dX5_init_103 : decode cX5_init 103 = .ok (.bipush 16, 2) := by decide +kernel
theorem dX5_init_105 : decode cX5_init 105 = .ok (.newarray .int, 2) := by decide +kernel
theorem dX5_init_107 : decode cX5_init 107 = .ok (.putfield 46, 3) := by decide +kernel
theorem dX5_init_110 : decode cX5_init 110 = .ok (.aload_n 0, 1) := by decide +kernel
theorem dX5_init_111 : decode cX5_init 111 = .ok (.bipush 15, 2) := by decide +kernel
theorem dX5_init_113 : decode cX5_init 113 = .ok (.newarray .int, 2) := by decide +kernel
theorem dX5_init_115 : decode cX5_init 115 = .ok (.putfield 49, 3) := by decide +kernel
theorem dX5_init_118 : decode cX5_init 118 = .ok (.aload_n 0, 1) := by decide +kernel
theorem dX5_init_119 : decode cX5_init 119 = .ok (.bipush 8, 2) := by decide +kernel
theorem dX5_init_121 : decode cX5_init 121 = .ok (.newarray .int, 2) := by decide +kernel
theorem dX5_init_123 : decode cX5_init 123 = .ok (.putfield 52, 3) := by decide +kernel
theorem dX5_init_126 : decode cX5_init 126 = .ok (.aload_n 0, 1) := by decide +kernel
theorem dX5_init_127 : decode cX5_init 127 = .ok (.iconst (-1), 1) := by decide +kernel
theorem dX5_init_128 : decode cX5_init 128 = .ok (.putfield 55, 3) := by decide +kernel
theorem dX5_init_131 : decode cX5_init 131 = .ok (.aload_n 0, 1) := by decide +kernel
theorem dX5_init_132 : decode cX5_init 132 = .ok (.bipush 63, 2) := by decide +kernel
theorem dX5_init_134 : decode cX5_init 134 = .ok (.putfield 59, 3) := by decide +kernel
theorem dX5_init_137 : decode cX5_init 137 = .ok (.return_, 1) := by decide +kernel
theorem dX5_in_0 : decode cX5_in 0 = .ok (.lload_n 0, 1) := by decide +kernel
theorem dX5_in_1 : decode cX5_in 1 = .ok (.lload_n 2, 1) := by decide +kernel
theorem dX5_in_2 : decode cX5_in 2 = .ok (.lcmp, 1) := by decide +kernel
theorem dX5_in_3 : decode cX5_in 3 = .ok (.ifCond .lt 14, 3) := by decide +kernel
theorem dX5_in_6 : decode cX5_in 6 = .ok (.lload_n 0, 1) := by decide +kernel
theorem dX5_in_7 : decode cX5_in 7 = .ok (.lload 4, 2) := by decide +kernel
theorem dX5_in_9 : decode cX5_in 9 = .ok (.lcmp, 1) := by decide +kernel
theorem dX5_in_10 : decode cX5_in 10 = .ok (.ifCond .gt 7, 3) := by decide +kernel
theorem dX5_in_13 : decode cX5_in 13 = .ok (.iconst 1, 1) := by decide +kernel
theorem dX5_in_14 : decode cX5_in 14 = .ok (.goto 4, 3) := by decide +kernel
theorem dX5_in_17 : decode cX5_in 17 = .ok (.iconst 0, 1) := by decide +kernel
theorem dX5_in_18 : decode cX5_in 18 = .ok (.ireturn, 1) := by decide +kernel
theorem dX5_copy_0 : decode cX5_copy 0 = .ok (.iconst 0, 1) := by decide +kernel
theorem dX5_copy_1 : decode cX5_copy 1 = .ok (.istore_n 2, 1) := by decide +kernel
theorem dX5_copy_2 : decode cX5_copy 2 = .ok (.iload_n 2, 1) := by decide +kernel
theorem dX5_copy_3 : decode cX5_copy 3 = .ok (.aload_n 0, 1) := by decide +kernel
theorem dX5_copy_4 : decode cX5_copy 4 = .ok (.arraylength, 1) := by decide +kernel
theorem dX5_copy_5 : decode cX5_copy 5 = .ok (.if_icmp .ge 15, 3) := by decide +kernel
theorem dX5_copy_8 : decode cX5_copy 8 = .ok (.aload_n 1, 1) := by decide +kernel
theorem dX5_copy_9 : decode cX5_copy 9 = .ok (.iload_n 2, 1) := by decide +kernel
theorem dX5_copy_10 : decode cX5_copy 10 = .ok (.aload_n 0, 1) := by decide +kernel
theorem dX5_copy_11 : decode cX5_copy 11 = .ok (.iload_n 2, 1) := by decide +kernel
theorem dX5_copy_12 : decode cX5_copy 12 = .ok (.iaload, 1) := by decide +kernel
theorem dX5_copy_13 : decode cX5_copy 13 = .ok (.iastore, 1) := by decide +kernel
theorem dX5_copy_14 : decode cX5_copy 14 = .ok (.iinc 2 1, 3) := by decide +kernel
theorem dX5_copy_17 : decode cX5_copy 17 = .ok (.goto (-15), 3) := by decide +kernel
theorem dX5_copy_20 : decode cX5_copy 20 = .ok (.return_, 1) := by decide +kernel
set_option maxRecDepth 20000 in
theorem ggX5_letter_X5_in : GoodIn wsX5_letter wsX5_in := goodIn_r _ [7] (by decide +kernel) (by decide +kernel)
set_option maxRecDepth 20000 in
theorem gX5_letter_X5_in : GoodIn wsX5_letter (va_wsS RX5 64 yX5_in wsX5_in) := goodIn_app (goodIn_of _ (by decide +kernel)) ggX5_letter_X5_in
theorem dX5_letter_0 : decode cX5_letter 0 = .ok (.iload_n 1, 1) := by decide +kernel
theorem dX5_letter_1 : decode cX5_letter 1 = .ok (.i2l, 1) := by decide +kernel
theorem dX5_letter_2 : decode cX5_letter 2 = .ok (.lconst 1, 1) := by decide +kernel
theorem dX5_letter_3 : decode cX5_letter 3 = .ok (.ldc2_w 62, 3) := by decide +kernel
theorem dX5_letter_6 : decode cX5_letter 6 = .ok (.invokestatic 64, 3) := by decide +kernel
theorem dX5_letter_9 : decode cX5_letter 9 = .ok (.ifCond .ne 6, 3) := by decide +kernel
theorem dX5_letter_12 : decode cX5_letter 12 = .ok (.bipush (-102), 2) := by decide +kernel
theorem dX5_letter_14 : decode cX5_letter 14 = .ok (.ireturn, 1) := by decide +kernel
theorem dX5_letter_15 : decode cX5_letter 15 = .ok (.aload_n 0, 1) := by decide +kernel
theorem dX5_letter_16 : decode cX5_letter 16 = .ok (.getfield 68, 3) := by decide +kernel
theorem dX5_letter_19 : decode cX5_letter 19 = .ok (.bipush 18, 2) := by decide +kernel
theorem dX5_letter_21 : decode cX5_letter 21 = .ok (.if_icmp .ne 6, 3) := by decide +kernel
theorem dX5_letter_24 : decode cX5_letter 24 = .ok (.bipush (-104), 2) := by decide +kernel
theorem dX5_letter_26 : decode cX5_letter 26 = .ok (.ireturn, 1) := by decide +kernel
theorem dX5_letter_27 : decode cX5_letter 27 = .ok (.aload_n 0, 1) := by decide +kernel
theorem dX5_letter_28 : decode cX5_letter 28 = .ok (.getfield 7, 3) := by decide +kernel
theorem dX5_letter_31 : decode cX5_letter 31 = .ok (.aload_n 0, 1) := by decide +kernel
theorem dX5_letter_32 : decode cX5_letter 32 = .ok (.getfield 68, 3) := by decide +kernel
theorem dX5_letter_35 : decode cX5_letter 35 = .ok (.iload_n 1, 1) := by decide +kernel
theorem dX5_letter_36 : decode cX5_letter 36 = .ok (.iastore, 1) := by decide +kernel
theorem dX5_letter_37 : decode cX5_letter 37 = .ok (.aload_n 0, 1) := by decide +kernel
theorem dX5_letter_38 : decode cX5_letter 38 = .ok (.dup, 1) := by decide +kernel
theorem dX5_letter_39 : decode cX5_letter 39 = .ok (.getfield 68, 3) := by decide +kernel
theorem dX5_letter_42 : decode cX5_letter 42 = .ok (.iconst 1, 1) := by decide +kernel
theorem dX5_letter_43 : decode cX5_letter 43 = .ok (.iadd, 1) := by decide +kernel
theorem dX5_letter_44 : decode cX5_letter 44 = .ok (.putfield 68, 3) := by decide +kernel
theorem dX5_letter_47 : decode cX5_letter 47 = .ok (.aload_n 0, 1) := by decide +kernel
theorem dX5_letter_48 : decode cX5_letter 48 = .ok (.getfield 68, 3) := by decide +kernel
theorem dX5_letter_51 : decode cX5_letter 51 = .ok (.ireturn, 1) := by decide +kernel
theorem dX5_blank_0 : decode cX5_blank 0 = .ok (.aload_n 0, 1) := by decide +kernel
theorem dX5_blank_1 : decode cX5_blank 1 = .ok (.getfield 68, 3) := by decide +kernel
theorem dX5_blank_4 : decode cX5_blank 4 = .ok (.istore_n 1, 1) := by decide +kernel
theorem dX5_blank_5 : decode cX5_blank 5 = .ok (.aload_n 0, 1) := by decide +kernel
theorem dX5_blank_6 : decode cX5_blank 6 = .ok (.iconst 0, 1) := by decide +kernel
theorem dX5_blank_7 : decode cX5_blank 7 = .ok (.putfield 68, 3) := by decide +kernel
theorem dX5_blank_10 : decode cX5_blank 10 = .ok (.iload_n 1, 1) := by decide +kernel
theorem dX5_blank_11 : decode cX5_blank 11 = .ok (.ireturn, 1) := by decide +kernel
theorem dX5_kindBy_0 : decode cX5_kindBy 0 = .ok (.iload_n 0, 1) := by decide +kernel
theorem dX5_kindBy_1 : decode cX5_kindBy 1 = .ok (.bipush 115, 2) := by decide +kernel
theorem dX5_kindBy_3 : decode cX5_kindBy 3 = .ok (.if_icmp .ne 7, 3) := by decide +kernel
theorem dX5_kindBy_6 : decode cX5_kindBy 6 = .ok (.iconst 0, 1) := by decide +kernel
theorem dX5_kindBy_7 : decode cX5_kindBy 7 = .ok (.goto 44, 3) := by decide +kernel
theorem dX5_kindBy_10 : decode cX5_kindBy 10 = .ok (.iload_n 0, 1) := by decide +kernel
theorem dX5_kindBy_11 : decode cX5_kindBy 11 = .ok (.bipush 119, 2) := by decide +kernel
theorem dX5_kindBy_13 : decode cX5_kindBy 13 = .ok (.if_icmp .ne 7, 3) := by decide +kernel
theorem dX5_kindBy_16 : decode cX5_kindBy 16 = .ok (.iconst 1, 1) := by decide +kernel
theorem dX5_kindBy_17 : decode cX5_kindBy 17 = .ok (.goto 34, 3) := by decide +kernel
theorem dX5_kindBy_20 : decode cX5_kindBy 20 = .ok (.iload_n 0, 1) := by decide +kernel
theorem dX5_kindBy_21 : decode cX5_kindBy 21 = .ok (.bipush 101, 2) := by decide +kernel
theorem dX5_kindBy_23 : decode cX5_kindBy 23 = .ok (.if_icmp .ne 7, 3) := by decide +kernel
theorem dX5_kindBy_26 : decode cX5_kindBy 26 = .ok (.iconst 2, 1) := by decide +kernel
theorem dX5_kindBy_27 : decode cX5_kindBy 27 = .ok (.goto 24, 3) := by decide +kernel
theorem dX5_kindBy_30 : decode cX5_kindBy 30 = .ok (.iload_n 0, 1) := by decide +kernel
theorem dX5_kindBy_31 : decode cX5_kindBy 31 = .ok (.bipush 102, 2) := by decide +kernel
theorem dX5_kindBy_33 : decode cX5_kindBy 33 = .ok (.if_icmp .ne 7, 3) := by decide +kernel
theorem dX5_kindBy_36 : decode cX5_kindBy 36 = .ok (.iconst 3, 1) := by decide +kernel
theorem dX5_kindBy_37 : decode cX5_kindBy 37 = .ok (.goto 14, 3) := by decide +kernel
theorem dX5_kindBy_40 : decode cX5_kindBy 40 = .ok (.iload_n 0, 1) := by decide +kernel
theorem dX5_kindBy_41 : decode cX5_kindBy 41 = .ok (.bipush 109, 2) := by decide +kernel
theorem dX5_kindBy_43 : decode cX5_kindBy 43 = .ok (.if_icmp .ne 7, 3) := by decide +kernel
theorem dX5_kindBy_46 : decode cX5_kindBy 46 = .ok (.iconst 4, 1) := by decide +kernel
theorem dX5_kindBy_47 : decode cX5_kindBy 47 = .ok (.goto 4, 3) := by decide +kernel
theorem dX5_kindBy_50 : decode cX5_kindBy 50 = .ok (.iconst (-1), 1) := by decide +kernel
theorem dX5_kindBy_51 : decode cX5_kindBy 51 = .ok (.ireturn, 1) := by decide +kernel
set_option maxRecDepth 20000 in
theorem ggX5_go_X5_kindBy : GoodIn wsX5_go wsX5_kindBy := goodIn_r _ [9] (by decide +kernel) (by decide +kernel)
set_option maxRecDepth 20000 in
theorem gX5_go_X5_kindBy : GoodIn wsX5_go (va_wsS RX5 77 yX5_kindBy wsX5_kindBy) := goodIn_app (goodIn_of _ (by decide +kernel)) ggX5_go_X5_kindBy
set_option maxRecDepth 20000 in
theorem ggX5_go_X5_in : GoodIn wsX5_go wsX5_in := goodIn_r _ [12] (by decide +kernel) (by decide +kernel)
set_option maxRecDepth 20000 in
theorem gX5_go_X5_in : GoodIn wsX5_go (va_wsS RX5 64 yX5_in wsX5_in) := goodIn_app (goodIn_of _ (by decide +kernel)) ggX5_go_X5_in
theorem dX5_go_0 : decode cX5_go 0 = .ok (.iload_n 1, 1) := by decide +kernel
theorem dX5_go_1 : decode cX5_go 1 = .ok (.bipush 48, 2) := by decide +kernel
theorem dX5_go_3 : decode cX5_go 3 = .ok (.isub, 1) := by decide +kernel
theorem dX5_go_4 : decode cX5_go 4 = .ok (.istore_n 2, 1) := by decide +kernel
theorem dX5_go_5 : decode cX5_go 5 = .ok (.aload_n 0, 1) := by decide +kernel
theorem dX5_go_6 : decode cX5_go 6 = .ok (.getfield 71, 3) := by decide +kernel
theorem dX5_go_9 : decode cX5_go 9 = .ok (.istore_n 3, 1) := by decide +kernel
theorem dX5_go_10 : decode cX5_go 10 = .ok (.aload_n 0, 1) := by decide +kernel
theorem dX5_go_11 : decode cX5_go 11 = .ok (.dup, 1) := by decide +kernel
theorem dX5_go_12 : decode cX5_go 12 = .ok (.getfield 71, 3) := by decide +kernel
theorem dX5_go_15 : decode cX5_go 15 = .ok (.iconst 1, 1) := by decide +kernel
theorem dX5_go_16 : decode cX5_go 16 = .ok (.iadd, 1) := by decide +kernel
theorem dX5_go_17 : decode cX5_go 17 = .ok (.putfield 71, 3) := by decide +kernel
theorem dX5_go_20 : decode cX5_go 20 = .ok (.iload_n 3, 1) := by decide +kernel
theorem dX5_go_21 : decode cX5_go 21 = .ok (.tableswitch 164 0 3 #[31, 60, 92, 149], 31) := by decide +kernel
theorem dX5_go_52 : decode cX5_go 52 = .ok (.aload_n 0, 1) := by decide +kernel
theorem dX5_go_53 : decode cX5_go 53 = .ok (.getfield 13, 3) := by decide +kernel
theorem dX5_go_56 : decode cX5_go 56 = .ok (.iconst 2, 1) := by decide +kernel
theorem dX5_go_57 : decode cX5_go 57 = .ok (.aload_n 0, 1) := by decide +kernel
theorem dX5_go_58 : decode cX5_go 58 = .ok (.getfield 74, 3) := by decide +kernel
theorem dX5_go_61 : decode cX5_go 61 = .ok (.imul, 1) := by decide +kernel
theorem dX5_go_62 : decode cX5_go 62 = .ok (.iload_n 1, 1) := by decide +kernel
theorem dX5_go_63 : decode cX5_go 63 = .ok (.invokestatic 77, 3) := by decide +kernel
theorem dX5_go_66 : decode cX5_go 66 = .ok (.iastore, 1) := by decide +kernel
theorem dX5_go_67 : decode cX5_go 67 = .ok (.iload_n 1, 1) := by decide +kernel
theorem dX5_go_68 : decode cX5_go 68 = .ok (.invokestatic 77, 3) := by decide +kernel
theorem dX5_go_71 : decode cX5_go 71 = .ok (.iconst (-1), 1) := by decide +kernel
theorem dX5_go_72 : decode cX5_go 72 = .ok (.if_icmp .eq 7, 3) := by decide +kernel
theorem dX5_go_75 : decode cX5_go 75 = .ok (.iconst 1, 1) := by decide +kernel
theorem dX5_go_76 : decode cX5_go 76 = .ok (.goto 4, 3) := by decide +kernel
theorem dX5_go_79 : decode cX5_go 79 = .ok (.iconst 0, 1) := by decide +kernel
theorem dX5_go_80 : decode cX5_go 80 = .ok (.ireturn, 1) := by decide +kernel
theorem dX5_go_81 : decode cX5_go 81 = .ok (.aload_n 0, 1) := by decide +kernel
theorem dX5_go_82 : decode cX5_go 82 = .ok (.getfield 13, 3) := by decide +kernel
theorem dX5_go_85 : decode cX5_go 85 = .ok (.iconst 2, 1) := by decide +kernel
theorem dX5_go_86 : decode cX5_go 86 = .ok (.aload_n 0, 1) := by decide +kernel
theorem dX5_go_87 : decode cX5_go 87 = .ok (.getfield 74, 3) := by decide +kernel
theorem dX5_go_90 : decode cX5_go 90 = .ok (.imul, 1) := by decide +kernel
theorem dX5_go_91 : decode cX5_go 91 = .ok (.iconst 1, 1) := by decide +kernel
theorem dX5_go_92 : decode cX5_go 92 = .ok (.iadd, 1) := by decide +kernel
theorem dX5_go_93 : decode cX5_go 93 = .ok (.iload_n 2, 1) := by decide +kernel
theorem dX5_go_94 : decode cX5_go 94 = .ok (.iastore, 1) := by decide +kernel
theorem dX5_go_95 : decode cX5_go 95 = .ok (.aload_n 0, 1) := by decide +kernel
theorem dX5_go_96 : decode cX5_go 96 = .ok (.dup, 1) := by decide +kernel
theorem dX5_go_97 : decode cX5_go 97 = .ok (.getfield 74, 3) := by decide +kernel
theorem dX5_go_100 : decode cX5_go 100 = .ok (.iconst 1, 1) := by decide +kernel
theorem dX5_go_101 : decode cX5_go 101 = .ok (.iadd, 1) := by decide +kernel
theorem dX5_go_102 : decode cX5_go 102 = .ok (.putfield 74, 3) := by decide +kernel
theorem dX5_go_105 : decode cX5_go 105 = .ok (.iload_n 2, 1) := by decide +kernel
theorem dX5_go_106 : decode cX5_go 106 = .ok (.i2l, 1) := by decide +kernel
theorem dX5_go_107 : decode cX5_go 107 = .ok (.lconst 0, 1) := by decide +kernel
theorem dX5_go_108 : decode cX5_go 108 = .ok (.lconst 1, 1) := by decide +kernel
theorem dX5_go_109 : decode cX5_go 109 = .ok (.invokestatic 64, 3) := by decide +kernel
theorem dX5_go_112 : decode cX5_go 112 = .ok (.ireturn, 1) := by decide +kernel
theorem dX5_go_113 : decode cX5_go 113 = .ok (.aload_n 0, 1) := by decide +kernel
theorem dX5_go_114 : decode cX5_go 114 = .ok (.iload_n 1, 1) := by decide +kernel
theorem dX5_go_115 : decode cX5_go 115 = .ok (.bipush 44, 2) := by decide +kernel
theorem dX5_go_117 : decode cX5_go 117 = .ok (.if_icmp .ne 7, 3) := by decide +kernel
theorem dX5_go_120 : decode cX5_go 120 = .ok (.iconst 0, 1) := by decide +kernel
theorem dX5_go_121 : decode cX5_go 121 = .ok (.goto 4, 3) := by decide +kernel
theorem dX5_go_124 : decode cX5_go 124 = .ok (.iconst 3, 1) := by decide +kernel
theorem dX5_go_125 : decode cX5_go 125 = .ok (.putfield 71, 3) := by decide +kernel
theorem dX5_go_128 : decode cX5_go 128 = .ok (.iload_n 1, 1) := by decide +kernel
theorem dX5_go_129 : decode cX5_go 129 = .ok (.bipush 44, 2) := by decide +kernel
theorem dX5_go_131 : decode cX5_go 131 = .ok (.if_icmp .ne 19, 3) := by decide +kernel
theorem dX5_go_134 : decode cX5_go 134 = .ok (.aload_n 0, 1) := by decide +kernel
theorem dX5_go_135 : decode cX5_go 135 = .ok (.getfield 74, 3) := by decide +kernel
theorem dX5_go_138 : decode cX5_go 138 = .ok (.iconst 5, 1) := by decide +kernel
theorem dX5_go_139 : decode cX5_go 139 = .ok (.if_icmp .ge 7, 3) := by decide +kernel
theorem dX5_go_142 : decode cX5_go 142 = .ok (.iconst 1, 1) := by decide +kernel
theorem dX5_go_143 : decode cX5_go 143 = .ok (.goto 26, 3) := by decide +kernel
theorem dX5_go_146 : decode cX5_go 146 = .ok (.iconst 0, 1) := by decide +kernel
theorem dX5_go_147 : decode cX5_go 147 = .ok (.goto 22, 3) := by decide +kernel
theorem dX5_go_150 : decode cX5_go 150 = .ok (.iload_n 1, 1) := by decide +kernel
theorem dX5_go_151 : decode cX5_go 151 = .ok (.bipush 59, 2) := by decide +kernel
theorem dX5_go_153 : decode cX5_go 153 = .ok (.if_icmp .ne 15, 3) := by decide +kernel
theorem dX5_go_156 : decode cX5_go 156 = .ok (.aload_n 0, 1) := by decide +kernel
theorem dX5_go_157 : decode cX5_go 157 = .ok (.getfield 74, 3) := by decide +kernel
theorem dX5_go_160 : decode cX5_go 160 = .ok (.iconst 1, 1) := by decide +kernel
theorem dX5_go_161 : decode cX5_go 161 = .ok (.if_icmp .le 7, 3) := by decide +kernel
theorem dX5_go_164 : decode cX5_go 164 = .ok (.iconst 1, 1) := by decide +kernel
theorem dX5_go_165 : decode cX5_go 165 = .ok (.goto 4, 3) := by decide +kernel
theorem dX5_go_168 : decode cX5_go 168 = .ok (.iconst 0, 1) := by decide +kernel
theorem dX5_go_169 : decode cX5_go 169 = .ok (.ireturn, 1) := by decide +kernel
theorem dX5_go_170 : decode cX5_go 170 = .ok (.aload_n 0, 1) := by decide +kernel
theorem dX5_go_171 : decode cX5_go 171 = .ok (.iload_n 2, 1) := by decide +kernel
theorem dX5_go_172 : decode cX5_go 172 = .ok (.putfield 81, 3) := by decide +kernel
theorem dX5_go_175 : decode cX5_go 175 = .ok (.iload_n 2, 1) := by decide +kernel
theorem dX5_go_176 : decode cX5_go 176 = .ok (.i2l, 1) := by decide +kernel
theorem dX5_go_177 : decode cX5_go 177 = .ok (.lconst 1, 1) := by decide +kernel
theorem dX5_go_178 : decode cX5_go 178 = .ok (.ldc2_w 84, 3) := by decide +kernel
theorem dX5_go_181 : decode cX5_go 181 = .ok (.invokestatic 64, 3) := by decide +kernel
theorem dX5_go_184 : decode cX5_go 184 = .ok (.ireturn, 1) := by decide +kernel
theorem dX5_go_185 : decode cX5_go 185 = .ok (.iconst 0, 1) := by decide +kernel
theorem dX5_go_186 : decode cX5_go 186 = .ok (.ireturn, 1) := by decide +kernel
set_option maxRecDepth 20000 in
theorem ggX5_faultOf_X5_go : GoodIn wsX5_faultOf wsX5_go := goodIn_r _ [9, 2, 10, 1, 11, 12, 13, 14, 8, 15, 16, 17, 18, 19, 20, 21, 22, 23, 24, 25, 26, 27, 28, 29, 30, 31, 32, 33, 34, 35, 36, 37, 38, 39, 40, 41, 42, 43, 44, 45, 46, 47, 48, 49, 50, 51, 52, 53] (by decide +kernel) (by decide +kernel)
set_option maxRecDepth 20000 in
theorem gX5_faultOf_X5_go : GoodIn wsX5_faultOf (wsV RX5 86 RX5 yX5_go wsX5_go) := goodIn_app (goodIn_of _ (by decide +kernel)) ggX5_faultOf_X5_go
theorem dX5_faultOf_0 : decode cX5_faultOf 0 = .ok (.aload_n 0, 1) := by decide +kernel
theorem dX5_faultOf_1 : decode cX5_faultOf 1 = .ok (.iconst 0, 1) := by decide +kernel
theorem dX5_faultOf_2 : decode cX5_faultOf 2 = .ok (.putfield 74, 3) := by decide +kernel
theorem dX5_faultOf_5 : decode cX5_faultOf 5 = .ok (.aload_n 0, 1) := by decide +kernel
theorem dX5_faultOf_6 : decode cX5_faultOf 6 = .ok (.iconst 0, 1) := by decide +kernel
theorem dX5_faultOf_7 : decode cX5_faultOf 7 = .ok (.putfield 71, 3) := by decide +kernel
theorem dX5_faultOf_10 : decode cX5_faultOf 10 = .ok (.iconst 0, 1) := by decide +kernel
theorem dX5_faultOf_11 : decode cX5_faultOf 11 = .ok (.istore_n 1, 1) := by decide +kernel
theorem dX5_faultOf_12 : decode cX5_faultOf 12 = .ok (.iload_n 1, 1) := by decide +kernel
theorem dX5_faultOf_13 : decode cX5_faultOf 13 = .ok (.aload_n 0, 1) := by decide +kernel
theorem dX5_faultOf_14 : decode cX5_faultOf 14 = .ok (.getfield 68, 3) := by decide +kernel
theorem dX5_faultOf_17 : decode cX5_faultOf 17 = .ok (.if_icmp .ge 22, 3) := by decide +kernel
theorem dX5_faultOf_20 : decode cX5_faultOf 20 = .ok (.aload_n 0, 1) := by decide +kernel
theorem dX5_faultOf_21 : decode cX5_faultOf 21 = .ok (.aload_n 0, 1) := by decide +kernel
theorem dX5_faultOf_22 : decode cX5_faultOf 22 = .ok (.getfield 7, 3) := by decide +kernel
theorem dX5_faultOf_25 : decode cX5_faultOf 25 = .ok (.iload_n 1, 1) := by decide +kernel
theorem dX5_faultOf_26 : decode cX5_faultOf 26 = .ok (.iaload, 1) := by decide +kernel
theorem dX5_faultOf_27 : decode cX5_faultOf 27 = .ok (.invokevirtual 86, 3) := by decide +kernel
theorem dX5_faultOf_30 : decode cX5_faultOf 30 = .ok (.ifCond .eq 9, 3) := by decide +kernel
theorem dX5_faultOf_33 : decode cX5_faultOf 33 = .ok (.iinc 1 1, 3) := by decide +kernel
theorem dX5_faultOf_36 : decode cX5_faultOf 36 = .ok (.goto (-24), 3) := by decide +kernel
theorem dX5_faultOf_39 : decode cX5_faultOf 39 = .ok (.iload_n 1, 1) := by decide +kernel
theorem dX5_faultOf_40 : decode cX5_faultOf 40 = .ok (.ireturn, 1) := by decide +kernel
set_option maxRecDepth 20000 in
theorem ggX5_fault_X5_faultOf : GoodIn wsX5_fault wsX5_faultOf := goodIn_r _ [5, 6, 7, 8, 9, 10, 11, 12, 4, 13, 14, 15, 16, 17, 18, 19, 20, 21, 22, 23, 24, 25, 26, 27, 28, 29, 30, 31, 32, 33, 34, 35, 36, 37, 38, 39, 40, 41, 42, 43, 44, 45, 46, 47, 48, 49, 50, 51, 52, 53, 54, 55, 56, 57] (by decide +kernel) (by decide +kernel)
set_option maxRecDepth 20000 in
theorem gX5_fault_X5_faultOf : GoodIn wsX5_fault (wsV RX5 90 RX5 yX5_faultOf wsX5_faultOf) := goodIn_app (goodIn_of _ (by decide +kernel)) ggX5_fault_X5_faultOf
theorem dX5_fault_0 : decode cX5_fault 0 = .ok (.aload_n 0, 1) := by decide +kernel
theorem dX5_fault_1 : decode cX5_fault 1 = .ok (.invokevirtual 90, 3) := by decide +kernel
theorem dX5_fault_4 : decode cX5_fault 4 = .ok (.ireturn, 1) := by decide +kernel
set_option maxRecDepth 20000 in
theorem ggX5_court_X5_faultOf : GoodIn wsX5_court wsX5_faultOf := goodIn_r _ [22, 3, 2, 1, 23, 24, 25, 26, 21, 27, 8, 5, 28, 29, 30, 31, 32, 33, 34, 35, 36, 37, 38, 39, 40, 41, 42, 43, 44, 45, 46, 47, 48, 49, 50, 51, 52, 53, 54, 55, 56, 57, 58, 59, 60, 61, 62, 63, 64, 65, 66, 67, 68, 69] (by decide +kernel) (by decide +kernel)
set_option maxRecDepth 20000 in
theorem gX5_court_X5_faultOf : GoodIn wsX5_court (wsV RX5 90 RX5 yX5_faultOf wsX5_faultOf) := goodIn_app (goodIn_of _ (by decide +kernel)) ggX5_court_X5_faultOf
theorem dX5_court_0 : decode cX5_court 0 = .ok (.aload_n 0, 1) := by decide +kernel
theorem dX5_court_1 : decode cX5_court 1 = .ok (.invokevirtual 90, 3) := by decide +kernel
theorem dX5_court_4 : decode cX5_court 4 = .ok (.aload_n 0, 1) := by decide +kernel
theorem dX5_court_5 : decode cX5_court 5 = .ok (.getfield 68, 3) := by decide +kernel
theorem dX5_court_8 : decode cX5_court 8 = .ok (.if_icmp .lt 11, 3) := by decide +kernel
theorem dX5_court_11 : decode cX5_court 11 = .ok (.aload_n 0, 1) := by decide +kernel
theorem dX5_court_12 : decode cX5_court 12 = .ok (.getfield 71, 3) := by decide +kernel
theorem dX5_court_15 : decode cX5_court 15 = .ok (.iconst 4, 1) := by decide +kernel
theorem dX5_court_16 : decode cX5_court 16 = .ok (.if_icmp .eq 6, 3) := by decide +kernel
theorem dX5_court_19 : decode cX5_court 19 = .ok (.bipush (-103), 2) := by decide +kernel
theorem dX5_court_21 : decode cX5_court 21 = .ok (.ireturn, 1) := by decide +kernel
theorem dX5_court_22 : decode cX5_court 22 = .ok (.aload_n 0, 1) := by decide +kernel
theorem dX5_court_23 : decode cX5_court 23 = .ok (.aload_n 0, 1) := by decide +kernel
theorem dX5_court_24 : decode cX5_court 24 = .ok (.getfield 74, 3) := by decide +kernel
theorem dX5_court_27 : decode cX5_court 27 = .ok (.putfield 94, 3) := by decide +kernel
theorem dX5_court_30 : decode cX5_court 30 = .ok (.aload_n 0, 1) := by decide +kernel
theorem dX5_court_31 : decode cX5_court 31 = .ok (.aload_n 0, 1) := by decide +kernel
theorem dX5_court_32 : decode cX5_court 32 = .ok (.getfield 81, 3) := by decide +kernel
theorem dX5_court_35 : decode cX5_court 35 = .ok (.putfield 97, 3) := by decide +kernel
theorem dX5_court_38 : decode cX5_court 38 = .ok (.iconst 0, 1) := by decide +kernel
theorem dX5_court_39 : decode cX5_court 39 = .ok (.istore_n 1, 1) := by decide +kernel
theorem dX5_court_40 : decode cX5_court 40 = .ok (.iload_n 1, 1) := by decide +kernel
theorem dX5_court_41 : decode cX5_court 41 = .ok (.aload_n 0, 1) := by decide +kernel
theorem dX5_court_42 : decode cX5_court 42 = .ok (.getfield 94, 3) := by decide +kernel
theorem dX5_court_45 : decode cX5_court 45 = .ok (.if_icmp .ge 56, 3) := by decide +kernel
theorem dX5_court_48 : decode cX5_court 48 = .ok (.aload_n 0, 1) := by decide +kernel
theorem dX5_court_49 : decode cX5_court 49 = .ok (.getfield 16, 3) := by decide +kernel
theorem dX5_court_52 : decode cX5_court 52 = .ok (.iconst 3, 1) := by decide +kernel
theorem dX5_court_53 : decode cX5_court 53 = .ok (.iload_n 1, 1) := by decide +kernel
theorem dX5_court_54 : decode cX5_court 54 = .ok (.imul, 1) := by decide +kernel
theorem dX5_court_55 : decode cX5_court 55 = .ok (.aload_n 0, 1) := by decide +kernel
theorem dX5_court_56 : decode cX5_court 56 = .ok (.getfield 13, 3) := by decide +kernel
theorem dX5_court_59 : decode cX5_court 59 = .ok (.iconst 2, 1) := by decide +kernel
theorem dX5_court_60 : decode cX5_court 60 = .ok (.iload_n 1, 1) := by decide +kernel
theorem dX5_court_61 : decode cX5_court 61 = .ok (.imul, 1) := by decide +kernel
theorem dX5_court_62 : decode cX5_court 62 = .ok (.iaload, 1) := by decide +kernel
theorem dX5_court_63 : decode cX5_court 63 = .ok (.iastore, 1) := by decide +kernel
theorem dX5_court_64 : decode cX5_court 64 = .ok (.aload_n 0, 1) := by decide +kernel
theorem dX5_court_65 : decode cX5_court 65 = .ok (.getfield 16, 3) := by decide +kernel
theorem dX5_court_68 : decode cX5_court 68 = .ok (.iconst 3, 1) := by decide +kernel
theorem dX5_court_69 : decode cX5_court 69 = .ok (.iload_n 1, 1) := by decide +kernel
theorem dX5_court_70 : decode cX5_court 70 = .ok (.imul, 1) := by decide +kernel
theorem dX5_court_71 : decode cX5_court 71 = .ok (.iconst 1, 1) := by decide +kernel
theorem dX5_court_72 : decode cX5_court 72 = .ok (.iadd, 1) := by decide +kernel
theorem dX5_court_73 : decode cX5_court 73 = .ok (.aload_n 0, 1) := by decide +kernel
theorem dX5_court_74 : decode cX5_court 74 = .ok (.getfield 13, 3) := by decide +kernel
theorem dX5_court_77 : decode cX5_court 77 = .ok (.iconst 2, 1) := by decide +kernel
theorem dX5_court_78 : decode cX5_court 78 = .ok (.iload_n 1, 1) := by decide +kernel
theorem dX5_court_79 : decode cX5_court 79 = .ok (.imul, 1) := by decide +kernel
theorem dX5_court_80 : decode cX5_court 80 = .ok (.iconst 1, 1) := by decide +kernel
theorem dX5_court_81 : decode cX5_court 81 = .ok (.iadd, 1) := by decide +kernel
theorem dX5_court_82 : decode cX5_court 82 = .ok (.iaload, 1) := by decide +kernel
theorem dX5_court_83 : decode cX5_court 83 = .ok (.iastore, 1) := by decide +kernel
theorem dX5_court_84 : decode cX5_court 84 = .ok (.aload_n 0, 1) := by decide +kernel
theorem dX5_court_85 : decode cX5_court 85 = .ok (.getfield 16, 3) := by decide +kernel
theorem dX5_court_88 : decode cX5_court 88 = .ok (.iconst 3, 1) := by decide +kernel
theorem dX5_court_89 : decode cX5_court 89 = .ok (.iload_n 1, 1) := by decide +kernel
theorem dX5_court_90 : decode cX5_court 90 = .ok (.imul, 1) := by decide +kernel
theorem dX5_court_91 : decode cX5_court 91 = .ok (.iconst 2, 1) := by decide +kernel
theorem dX5_court_92 : decode cX5_court 92 = .ok (.iadd, 1) := by decide +kernel
theorem dX5_court_93 : decode cX5_court 93 = .ok (.iconst 0, 1) := by decide +kernel
theorem dX5_court_94 : decode cX5_court 94 = .ok (.iastore, 1) := by decide +kernel
theorem dX5_court_95 : decode cX5_court 95 = .ok (.iinc 1 1, 3) := by decide +kernel
theorem dX5_court_98 : decode cX5_court 98 = .ok (.goto (-58), 3) := by decide +kernel
theorem dX5_court_101 : decode cX5_court 101 = .ok (.aload_n 0, 1) := by decide +kernel
theorem dX5_court_102 : decode cX5_court 102 = .ok (.bipush 63, 2) := by decide +kernel
theorem dX5_court_104 : decode cX5_court 104 = .ok (.putfield 59, 3) := by decide +kernel
theorem dX5_court_107 : decode cX5_court 107 = .ok (.aload_n 0, 1) := by decide +kernel
theorem dX5_court_108 : decode cX5_court 108 = .ok (.iconst 0, 1) := by decide +kernel
theorem dX5_court_109 : decode cX5_court 109 = .ok (.putfield 100, 3) := by decide +kernel
theorem dX5_court_112 : decode cX5_court 112 = .ok (.aload_n 0, 1) := by decide +kernel
theorem dX5_court_113 : decode cX5_court 113 = .ok (.iconst 0, 1) := by decide +kernel
theorem dX5_court_114 : decode cX5_court 114 = .ok (.putfield 103, 3) := by decide +kernel
theorem dX5_court_117 : decode cX5_court 117 = .ok (.aload_n 0, 1) := by decide +kernel
theorem dX5_court_118 : decode cX5_court 118 = .ok (.iconst 0, 1) := by decide +kernel
theorem dX5_court_119 : decode cX5_court 119 = .ok (.putfield 106, 3) := by decide +kernel
theorem dX5_court_122 : decode cX5_court 122 = .ok (.aload_n 0, 1) := by decide +kernel
theorem dX5_court_123 : decode cX5_court 123 = .ok (.iconst 0, 1) := by decide +kernel
theorem dX5_court_124 : decode cX5_court 124 = .ok (.putfield 109, 3) := by decide +kernel
theorem dX5_court_127 : decode cX5_court 127 = .ok (.aload_n 0, 1) := by decide +kernel
theorem dX5_court_128 : decode cX5_court 128 = .ok (.iconst 0, 1) := by decide +kernel
theorem dX5_court_129 : decode cX5_court 129 = .ok (.putfield 112, 3) := by decide +kernel
theorem dX5_court_132 : decode cX5_court 132 = .ok (.aload_n 0, 1) := by decide +kernel
theorem dX5_court_133 : decode cX5_court 133 = .ok (.iconst 0, 1) := by decide +kernel
theorem dX5_court_134 : decode cX5_court 134 = .ok (.putfield 115, 3) := by decide +kernel
theorem dX5_court_137 : decode cX5_court 137 = .ok (.aload_n 0, 1) := by decide +kernel
theorem dX5_court_138 : decode cX5_court 138 = .ok (.iconst 0, 1) := by decide +kernel
theorem dX5_court_139 : decode cX5_court 139 = .ok (.putfield 118, 3) := by decide +kernel
theorem dX5_court_142 : decode cX5_court 142 = .ok (.aload_n 0, 1) := by decide +kernel
theorem dX5_court_143 : decode cX5_court 143 = .ok (.dup, 1) := by decide +kernel
theorem dX5_court_144 : decode cX5_court 144 = .ok (.getfield 121, 3) := by decide +kernel
theorem dX5_court_147 : decode cX5_court 147 = .ok (.iconst 1, 1) := by decide +kernel
theorem dX5_court_148 : decode cX5_court 148 = .ok (.iadd, 1) := by decide +kernel
theorem dX5_court_149 : decode cX5_court 149 = .ok (.putfield 121, 3) := by decide +kernel
theorem dX5_court_152 : decode cX5_court 152 = .ok (.aload_n 0, 1) := by decide +kernel
theorem dX5_court_153 : decode cX5_court 153 = .ok (.iconst 0, 1) := by decide +kernel
theorem dX5_court_154 : decode cX5_court 154 = .ok (.putfield 68, 3) := by decide +kernel
theorem dX5_court_157 : decode cX5_court 157 = .ok (.aload_n 0, 1) := by decide +kernel
theorem dX5_court_158 : decode cX5_court 158 = .ok (.getfield 94, 3) := by decide +kernel
theorem dX5_court_161 : decode cX5_court 161 = .ok (.ireturn, 1) := by decide +kernel
theorem dX5_lacks_0 : decode cX5_lacks 0 = .ok (.aload_n 0, 1) := by decide +kernel
theorem dX5_lacks_1 : decode cX5_lacks 1 = .ok (.getfield 94, 3) := by decide +kernel
theorem dX5_lacks_4 : decode cX5_lacks 4 = .ok (.ifCond .ne 7, 3) := by decide +kernel
theorem dX5_lacks_7 : decode cX5_lacks 7 = .ok (.iconst 1, 1) := by decide +kernel
theorem dX5_lacks_8 : decode cX5_lacks 8 = .ok (.goto 4, 3) := by decide +kernel
theorem dX5_lacks_11 : decode cX5_lacks 11 = .ok (.iconst 0, 1) := by decide +kernel
theorem dX5_lacks_12 : decode cX5_lacks 12 = .ok (.ireturn, 1) := by decide +kernel
set_option maxRecDepth 20000 in
theorem ggX5_isSeat_X5_in : GoodIn wsX5_isSeat wsX5_in := goodIn_r _ [5] (by decide +kernel) (by decide +kernel)
set_option maxRecDepth 20000 in
theorem gX5_isSeat_X5_in : GoodIn wsX5_isSeat (va_wsS RX5 64 yX5_in wsX5_in) := goodIn_app (goodIn_of _ (by decide +kernel)) ggX5_isSeat_X5_in
theorem dX5_isSeat_0 : decode cX5_isSeat 0 = .ok (.iload_n 1, 1) := by decide +kernel
theorem dX5_isSeat_1 : decode cX5_isSeat 1 = .ok (.i2l, 1) := by decide +kernel
theorem dX5_isSeat_2 : decode cX5_isSeat 2 = .ok (.lconst 0, 1) := by decide +kernel
theorem dX5_isSeat_3 : decode cX5_isSeat 3 = .ok (.aload_n 0, 1) := by decide +kernel
theorem dX5_isSeat_4 : decode cX5_isSeat 4 = .ok (.getfield 94, 3) := by decide +kernel
theorem dX5_isSeat_7 : decode cX5_isSeat 7 = .ok (.iconst 1, 1) := by decide +kernel
theorem dX5_isSeat_8 : decode cX5_isSeat 8 = .ok (.isub, 1) := by decide +kernel
theorem dX5_isSeat_9 : decode cX5_isSeat 9 = .ok (.i2l, 1) := by decide +kernel
theorem dX5_isSeat_10 : decode cX5_isSeat 10 = .ok (.invokestatic 64, 3) := by decide +kernel
theorem dX5_isSeat_13 : decode cX5_isSeat 13 = .ok (.ireturn, 1) := by decide +kernel
theorem dX5_counts_0 : decode cX5_counts 0 = .ok (.iload_n 2, 1) := by decide +kernel
theorem dX5_counts_1 : decode cX5_counts 1 = .ok (.bipush 8, 2) := by decide +kernel
theorem dX5_counts_3 : decode cX5_counts 3 = .ok (.idiv, 1) := by decide +kernel
theorem dX5_counts_4 : decode cX5_counts 4 = .ok (.istore_n 3, 1) := by decide +kernel
theorem dX5_counts_5 : decode cX5_counts 5 = .ok (.aload_n 0, 1) := by decide +kernel
theorem dX5_counts_6 : decode cX5_counts 6 = .ok (.getfield 16, 3) := by decide +kernel
theorem dX5_counts_9 : decode cX5_counts 9 = .ok (.iconst 3, 1) := by decide +kernel
theorem dX5_counts_10 : decode cX5_counts 10 = .ok (.iload_n 1, 1) := by decide +kernel
theorem dX5_counts_11 : decode cX5_counts 11 = .ok (.imul, 1) := by decide +kernel
theorem dX5_counts_12 : decode cX5_counts 12 = .ok (.iaload, 1) := by decide +kernel
theorem dX5_counts_13 : decode cX5_counts 13 = .ok (.istore 4, 2) := by decide +kernel
theorem dX5_counts_15 : decode cX5_counts 15 = .ok (.iload_n 3, 1) := by decide +kernel
theorem dX5_counts_16 : decode cX5_counts 16 = .ok (.iconst 5, 1) := by decide +kernel
theorem dX5_counts_17 : decode cX5_counts 17 = .ok (.if_icmp .ge 21, 3) := by decide +kernel
theorem dX5_counts_20 : decode cX5_counts 20 = .ok (.iload_n 3, 1) := by decide +kernel
theorem dX5_counts_21 : decode cX5_counts 21 = .ok (.iload_n 1, 1) := by decide +kernel
theorem dX5_counts_22 : decode cX5_counts 22 = .ok (.iconst 1, 1) := by decide +kernel
theorem dX5_counts_23 : decode cX5_counts 23 = .ok (.isub, 1) := by decide +kernel
theorem dX5_counts_24 : decode cX5_counts 24 = .ok (.if_icmp .eq 10, 3) := by decide +kernel
theorem dX5_counts_27 : decode cX5_counts 27 = .ok (.iload_n 3, 1) := by decide +kernel
theorem dX5_counts_28 : decode cX5_counts 28 = .ok (.iload_n 1, 1) := by decide +kernel
theorem dX5_counts_29 : decode cX5_counts 29 = .ok (.iconst 1, 1) := by decide +kernel
theorem dX5_counts_30 : decode cX5_counts 30 = .ok (.iadd, 1) := by decide +kernel
theorem dX5_counts_31 : decode cX5_counts 31 = .ok (.if_icmp .ne 7, 3) := by decide +kernel
theorem dX5_counts_34 : decode cX5_counts 34 = .ok (.iconst 1, 1) := by decide +kernel
theorem dX5_counts_35 : decode cX5_counts 35 = .ok (.goto 4, 3) := by decide +kernel
theorem dX5_counts_38 : decode cX5_counts 38 = .ok (.iconst 0, 1) := by decide +kernel
theorem dX5_counts_39 : decode cX5_counts 39 = .ok (.istore 5, 2) := by decide +kernel
theorem dX5_counts_41 : decode cX5_counts 41 = .ok (.aload_n 0, 1) := by decide +kernel
theorem dX5_counts_42 : decode cX5_counts 42 = .ok (.getfield 100, 3) := by decide +kernel
theorem dX5_counts_45 : decode cX5_counts 45 = .ok (.iload_n 1, 1) := by decide +kernel
theorem dX5_counts_46 : decode cX5_counts 46 = .ok (.ishr, 1) := by decide +kernel
theorem dX5_counts_47 : decode cX5_counts 47 = .ok (.iconst 1, 1) := by decide +kernel
theorem dX5_counts_48 : decode cX5_counts 48 = .ok (.iand, 1) := by decide +kernel
theorem dX5_counts_49 : decode cX5_counts 49 = .ok (.ifCond .ne 24, 3) := by decide +kernel
theorem dX5_counts_52 : decode cX5_counts 52 = .ok (.iload 4, 2) := by decide +kernel
theorem dX5_counts_54 : decode cX5_counts 54 = .ok (.iconst 4, 1) := by decide +kernel
theorem dX5_counts_55 : decode cX5_counts 55 = .ok (.if_icmp .eq 18, 3) := by decide +kernel
theorem dX5_counts_58 : decode cX5_counts 58 = .ok (.iload 4, 2) := by decide +kernel
theorem dX5_counts_60 : decode cX5_counts 60 = .ok (.iconst 1, 1) := by decide +kernel
theorem dX5_counts_61 : decode cX5_counts 61 = .ok (.if_icmp .ne 8, 3) := by decide +kernel
theorem dX5_counts_64 : decode cX5_counts 64 = .ok (.iload 5, 2) := by decide +kernel
theorem dX5_counts_66 : decode cX5_counts 66 = .ok (.ifCond .eq 7, 3) := by decide +kernel
theorem dX5_counts_69 : decode cX5_counts 69 = .ok (.iconst 1, 1) := by decide +kernel
theorem dX5_counts_70 : decode cX5_counts 70 = .ok (.goto 4, 3) := by decide +kernel
theorem dX5_counts_73 : decode cX5_counts 73 = .ok (.iconst 0, 1) := by decide +kernel
theorem dX5_counts_74 : decode cX5_counts 74 = .ok (.ireturn, 1) := by decide +kernel
theorem dX5_behind_0 : decode cX5_behind 0 = .ok (.iload_n 2, 1) := by decide +kernel
theorem dX5_behind_1 : decode cX5_behind 1 = .ok (.bipush 8, 2) := by decide +kernel
theorem dX5_behind_3 : decode cX5_behind 3 = .ok (.idiv, 1) := by decide +kernel
theorem dX5_behind_4 : decode cX5_behind 4 = .ok (.istore_n 3, 1) := by decide +kernel
theorem dX5_behind_5 : decode cX5_behind 5 = .ok (.iload_n 3, 1) := by decide +kernel
theorem dX5_behind_6 : decode cX5_behind 6 = .ok (.iload_n 1, 1) := by decide +kernel
theorem dX5_behind_7 : decode cX5_behind 7 = .ok (.if_icmp .ne 5, 3) := by decide +kernel
theorem dX5_behind_10 : decode cX5_behind 10 = .ok (.iload_n 2, 1) := by decide +kernel
theorem dX5_behind_11 : decode cX5_behind 11 = .ok (.ireturn, 1) := by decide +kernel
theorem dX5_behind_12 : decode cX5_behind 12 = .ok (.aload_n 0, 1) := by decide +kernel
theorem dX5_behind_13 : decode cX5_behind 13 = .ok (.getfield 16, 3) := by decide +kernel
theorem dX5_behind_16 : decode cX5_behind 16 = .ok (.iconst 3, 1) := by decide +kernel
theorem dX5_behind_17 : decode cX5_behind 17 = .ok (.iload_n 1, 1) := by decide +kernel
theorem dX5_behind_18 : decode cX5_behind 18 = .ok (.imul, 1) := by decide +kernel
theorem dX5_behind_19 : decode cX5_behind 19 = .ok (.iaload, 1) := by decide +kernel
theorem dX5_behind_20 : decode cX5_behind 20 = .ok (.istore 4, 2) := by decide +kernel
theorem dX5_behind_22 : decode cX5_behind 22 = .ok (.iload 4, 2) := by decide +kernel
theorem dX5_behind_24 : decode cX5_behind 24 = .ok (.iconst 2, 1) := by decide +kernel
theorem dX5_behind_25 : decode cX5_behind 25 = .ok (.if_icmp .ne 6, 3) := by decide +kernel
theorem dX5_behind_28 : decode cX5_behind 28 = .ok (.bipush 47, 2) := by decide +kernel
theorem dX5_behind_30 : decode cX5_behind 30 = .ok (.ireturn, 1) := by decide +kernel
theorem dX5_behind_31 : decode cX5_behind 31 = .ok (.iload_n 1, 1) := by decide +kernel
theorem dX5_behind_32 : decode cX5_behind 32 = .ok (.ifCond .ne 12, 3) := by decide +kernel
theorem dX5_behind_35 : decode cX5_behind 35 = .ok (.aload_n 0, 1) := by decide +kernel
theorem dX5_behind_36 : decode cX5_behind 36 = .ok (.getfield 94, 3) := by decide +kernel
theorem dX5_behind_39 : decode cX5_behind 39 = .ok (.iconst 1, 1) := by decide +kernel
theorem dX5_behind_40 : decode cX5_behind 40 = .ok (.isub, 1) := by decide +kernel
theorem dX5_behind_41 : decode cX5_behind 41 = .ok (.goto 6, 3) := by decide +kernel
theorem dX5_behind_44 : decode cX5_behind 44 = .ok (.iload_n 1, 1) := by decide +kernel
theorem dX5_behind_45 : decode cX5_behind 45 = .ok (.iconst 1, 1) := by decide +kernel
theorem dX5_behind_46 : decode cX5_behind 46 = .ok (.isub, 1) := by decide +kernel
theorem dX5_behind_47 : decode cX5_behind 47 = .ok (.istore 5, 2) := by decide +kernel
theorem dX5_behind_49 : decode cX5_behind 49 = .ok (.iload_n 3, 1) := by decide +kernel
theorem dX5_behind_50 : decode cX5_behind 50 = .ok (.bipush 7, 2) := by decide +kernel
theorem dX5_behind_52 : decode cX5_behind 52 = .ok (.if_icmp .ne 8, 3) := by decide +kernel
theorem dX5_behind_55 : decode cX5_behind 55 = .ok (.bipush 7, 2) := by decide +kernel
theorem dX5_behind_57 : decode cX5_behind 57 = .ok (.goto 15, 3) := by decide +kernel
theorem dX5_behind_60 : decode cX5_behind 60 = .ok (.iload 4, 2) := by decide +kernel
theorem dX5_behind_62 : decode cX5_behind 62 = .ok (.iconst 3, 1) := by decide +kernel
theorem dX5_behind_63 : decode cX5_behind 63 = .ok (.if_icmp .ne 8, 3) := by decide +kernel
theorem dX5_behind_66 : decode cX5_behind 66 = .ok (.iload 5, 2) := by decide +kernel
theorem dX5_behind_68 : decode cX5_behind 68 = .ok (.goto 4, 3) := by decide +kernel
theorem dX5_behind_71 : decode cX5_behind 71 = .ok (.iload_n 1, 1) := by decide +kernel
theorem dX5_behind_72 : decode cX5_behind 72 = .ok (.istore 6, 2) := by decide +kernel
theorem dX5_behind_74 : decode cX5_behind 74 = .ok (.bipush 8, 2) := by decide +kernel
theorem dX5_behind_76 : decode cX5_behind 76 = .ok (.iload_n 1, 1) := by decide +kernel
theorem dX5_behind_77 : decode cX5_behind 77 = .ok (.imul, 1) := by decide +kernel
theorem dX5_behind_78 : decode cX5_behind 78 = .ok (.iload 6, 2) := by decide +kernel
theorem dX5_behind_80 : decode cX5_behind 80 = .ok (.iadd, 1) := by decide +kernel
theorem dX5_behind_81 : decode cX5_behind 81 = .ok (.ireturn, 1) := by decide +kernel
theorem dX5_ones_0 : decode cX5_ones 0 = .ok (.iconst 0, 1) := by decide +kernel
theorem dX5_ones_1 : decode cX5_ones 1 = .ok (.istore_n 1, 1) := by decide +kernel
theorem dX5_ones_2 : decode cX5_ones 2 = .ok (.iconst 0, 1) := by decide +kernel
theorem dX5_ones_3 : decode cX5_ones 3 = .ok (.istore_n 2, 1) := by decide +kernel
theorem dX5_ones_4 : decode cX5_ones 4 = .ok (.iload_n 2, 1) := by decide +kernel
theorem dX5_ones_5 : decode cX5_ones 5 = .ok (.bipush 8, 2) := by decide +kernel
theorem dX5_ones_7 : decode cX5_ones 7 = .ok (.if_icmp .ge 17, 3) := by decide +kernel
theorem dX5_ones_10 : decode cX5_ones 10 = .ok (.iload_n 1, 1) := by decide +kernel
theorem dX5_ones_11 : decode cX5_ones 11 = .ok (.iload_n 0, 1) := by decide +kernel
theorem dX5_ones_12 : decode cX5_ones 12 = .ok (.iload_n 2, 1) := by decide +kernel
theorem dX5_ones_13 : decode cX5_ones 13 = .ok (.ishr, 1) := by decide +kernel
theorem dX5_ones_14 : decode cX5_ones 14 = .ok (.iconst 1, 1) := by decide +kernel
theorem dX5_ones_15 : decode cX5_ones 15 = .ok (.iand, 1) := by decide +kernel
theorem dX5_ones_16 : decode cX5_ones 16 = .ok (.iadd, 1) := by decide +kernel
theorem dX5_ones_17 : decode cX5_ones 17 = .ok (.istore_n 1, 1) := by decide +kernel
theorem dX5_ones_18 : decode cX5_ones 18 = .ok (.iinc 2 1, 3) := by decide +kernel
theorem dX5_ones_21 : decode cX5_ones 21 = .ok (.goto (-17), 3) := by decide +kernel
theorem dX5_ones_24 : decode cX5_ones 24 = .ok (.iload_n 1, 1) := by decide +kernel
theorem dX5_ones_25 : decode cX5_ones 25 = .ok (.ireturn, 1) := by decide +kernel
set_option maxRecDepth 20000 in
theorem ggX5_counting_X5_counts : GoodIn wsX5_counting wsX5_counts := goodIn_r _ [7, 8, 9, 10, 11, 12, 13, 14, 15, 16, 17, 18, 19, 20, 21, 22, 23, 24, 25, 26, 27, 28, 29, 30, 31, 32, 33, 34, 35, 36, 37, 38, 39, 40, 41, 42, 43, 44] (by decide +kernel) (by decide +kernel)
set_option maxRecDepth 20000 in
theorem gX5_counting_X5_counts : GoodIn wsX5_counting (wsV RX5 124 RX5 yX5_counts wsX5_counts) := goodIn_app (goodIn_of _ (by decide +kernel)) ggX5_counting_X5_counts
theorem dX5_counting_0 : decode cX5_counting 0 = .ok (.iconst 0, 1) := by decide +kernel
theorem dX5_counting_1 : decode cX5_counting 1 = .ok (.istore_n 2, 1) := by decide +kernel
theorem dX5_counting_2 : decode cX5_counting 2 = .ok (.iconst 0, 1) := by decide +kernel
theorem dX5_counting_3 : decode cX5_counting 3 = .ok (.istore_n 3, 1) := by decide +kernel
theorem dX5_counting_4 : decode cX5_counting 4 = .ok (.iload_n 3, 1) := by decide +kernel
theorem dX5_counting_5 : decode cX5_counting 5 = .ok (.aload_n 0, 1) := by decide +kernel
theorem dX5_counting_6 : decode cX5_counting 6 = .ok (.getfield 94, 3) := by decide +kernel
theorem dX5_counting_9 : decode cX5_counting 9 = .ok (.if_icmp .ge 40, 3) := by decide +kernel
theorem dX5_counting_12 : decode cX5_counting 12 = .ok (.iload_n 2, 1) := by decide +kernel
theorem dX5_counting_13 : decode cX5_counting 13 = .ok (.iload_n 1, 1) := by decide +kernel
theorem dX5_counting_14 : decode cX5_counting 14 = .ok (.iload_n 3, 1) := by decide +kernel
theorem dX5_counting_15 : decode cX5_counting 15 = .ok (.ishr, 1) := by decide +kernel
theorem dX5_counting_16 : decode cX5_counting 16 = .ok (.iconst 1, 1) := by decide +kernel
theorem dX5_counting_17 : decode cX5_counting 17 = .ok (.iand, 1) := by decide +kernel
theorem dX5_counting_18 : decode cX5_counting 18 = .ok (.iconst 1, 1) := by decide +kernel
theorem dX5_counting_19 : decode cX5_counting 19 = .ok (.if_icmp .ne 21, 3) := by decide +kernel
theorem dX5_counting_22 : decode cX5_counting 22 = .ok (.aload_n 0, 1) := by decide +kernel
theorem dX5_counting_23 : decode cX5_counting 23 = .ok (.iload_n 3, 1) := by decide +kernel
theorem dX5_counting_24 : decode cX5_counting 24 = .ok (.aload_n 0, 1) := by decide +kernel
theorem dX5_counting_25 : decode cX5_counting 25 = .ok (.getfield 59, 3) := by decide +kernel
theorem dX5_counting_28 : decode cX5_counting 28 = .ok (.invokevirtual 124, 3) := by decide +kernel
theorem dX5_counting_31 : decode cX5_counting 31 = .ok (.ifCond .eq 9, 3) := by decide +kernel
theorem dX5_counting_34 : decode cX5_counting 34 = .ok (.iconst 1, 1) := by decide +kernel
theorem dX5_counting_35 : decode cX5_counting 35 = .ok (.iload_n 3, 1) := by decide +kernel
theorem dX5_counting_36 : decode cX5_counting 36 = .ok (.ishl, 1) := by decide +kernel
theorem dX5_counting_37 : decode cX5_counting 37 = .ok (.goto 4, 3) := by decide +kernel
theorem dX5_counting_40 : decode cX5_counting 40 = .ok (.iconst 0, 1) := by decide +kernel
theorem dX5_counting_41 : decode cX5_counting 41 = .ok (.ior, 1) := by decide +kernel
theorem dX5_counting_42 : decode cX5_counting 42 = .ok (.istore_n 2, 1) := by decide +kernel
theorem dX5_counting_43 : decode cX5_counting 43 = .ok (.iinc 3 1, 3) := by decide +kernel
theorem dX5_counting_46 : decode cX5_counting 46 = .ok (.goto (-42), 3) := by decide +kernel
theorem dX5_counting_49 : decode cX5_counting 49 = .ok (.iload_n 2, 1) := by decide +kernel
theorem dX5_counting_50 : decode cX5_counting 50 = .ok (.ireturn, 1) := by decide +kernel
theorem dX5_ends_0 : decode cX5_ends 0 = .ok (.aload_n 0, 1) := by decide +kernel
theorem dX5_ends_1 : decode cX5_ends 1 = .ok (.getfield 59, 3) := by decide +kernel
theorem dX5_ends_4 : decode cX5_ends 4 = .ok (.bipush 8, 2) := by decide +kernel
theorem dX5_ends_6 : decode cX5_ends 6 = .ok (.irem, 1) := by decide +kernel
theorem dX5_ends_7 : decode cX5_ends 7 = .ok (.istore_n 1, 1) := by decide +kernel
theorem dX5_ends_8 : decode cX5_ends 8 = .ok (.aload_n 0, 1) := by decide +kernel
theorem dX5_ends_9 : decode cX5_ends 9 = .ok (.dup, 1) := by decide +kernel
theorem dX5_ends_10 : decode cX5_ends 10 = .ok (.getfield 106, 3) := by decide +kernel
theorem dX5_ends_13 : decode cX5_ends 13 = .ok (.iconst 1, 1) := by decide +kernel
theorem dX5_ends_14 : decode cX5_ends 14 = .ok (.iadd, 1) := by decide +kernel
theorem dX5_ends_15 : decode cX5_ends 15 = .ok (.putfield 106, 3) := by decide +kernel
theorem dX5_ends_18 : decode cX5_ends 18 = .ok (.aload_n 0, 1) := by decide +kernel
theorem dX5_ends_19 : decode cX5_ends 19 = .ok (.dup, 1) := by decide +kernel
theorem dX5_ends_20 : decode cX5_ends 20 = .ok (.getfield 109, 3) := by decide +kernel
theorem dX5_ends_23 : decode cX5_ends 23 = .ok (.iload_n 1, 1) := by decide +kernel
theorem dX5_ends_24 : decode cX5_ends 24 = .ok (.bipush 7, 2) := by decide +kernel
theorem dX5_ends_26 : decode cX5_ends 26 = .ok (.if_icmp .eq 20, 3) := by decide +kernel
theorem dX5_ends_29 : decode cX5_ends 29 = .ok (.aload_n 0, 1) := by decide +kernel
theorem dX5_ends_30 : decode cX5_ends 30 = .ok (.getfield 16, 3) := by decide +kernel
theorem dX5_ends_33 : decode cX5_ends 33 = .ok (.iconst 3, 1) := by decide +kernel
theorem dX5_ends_34 : decode cX5_ends 34 = .ok (.iload_n 1, 1) := by decide +kernel
theorem dX5_ends_35 : decode cX5_ends 35 = .ok (.imul, 1) := by decide +kernel
theorem dX5_ends_36 : decode cX5_ends 36 = .ok (.iconst 1, 1) := by decide +kernel
theorem dX5_ends_37 : decode cX5_ends 37 = .ok (.iadd, 1) := by decide +kernel
theorem dX5_ends_38 : decode cX5_ends 38 = .ok (.iaload, 1) := by decide +kernel
theorem dX5_ends_39 : decode cX5_ends 39 = .ok (.ifCond .ne 7, 3) := by decide +kernel
theorem dX5_ends_42 : decode cX5_ends 42 = .ok (.iconst 1, 1) := by decide +kernel
theorem dX5_ends_43 : decode cX5_ends 43 = .ok (.goto 4, 3) := by decide +kernel
theorem dX5_ends_46 : decode cX5_ends 46 = .ok (.iconst 0, 1) := by decide +kernel
theorem dX5_ends_47 : decode cX5_ends 47 = .ok (.iadd, 1) := by decide +kernel
theorem dX5_ends_48 : decode cX5_ends 48 = .ok (.putfield 109, 3) := by decide +kernel
theorem dX5_ends_51 : decode cX5_ends 51 = .ok (.aload_n 0, 1) := by decide +kernel
theorem dX5_ends_52 : decode cX5_ends 52 = .ok (.dup, 1) := by decide +kernel
theorem dX5_ends_53 : decode cX5_ends 53 = .ok (.getfield 112, 3) := by decide +kernel
theorem dX5_ends_56 : decode cX5_ends 56 = .ok (.iload_n 1, 1) := by decide +kernel
theorem dX5_ends_57 : decode cX5_ends 57 = .ok (.bipush 7, 2) := by decide +kernel
theorem dX5_ends_59 : decode cX5_ends 59 = .ok (.if_icmp .eq 21, 3) := by decide +kernel
theorem dX5_ends_62 : decode cX5_ends 62 = .ok (.aload_n 0, 1) := by decide +kernel
theorem dX5_ends_63 : decode cX5_ends 63 = .ok (.getfield 16, 3) := by decide +kernel
theorem dX5_ends_66 : decode cX5_ends 66 = .ok (.iconst 3, 1) := by decide +kernel
theorem dX5_ends_67 : decode cX5_ends 67 = .ok (.iload_n 1, 1) := by decide +kernel
theorem dX5_ends_68 : decode cX5_ends 68 = .ok (.imul, 1) := by decide +kernel
theorem dX5_ends_69 : decode cX5_ends 69 = .ok (.iconst 1, 1) := by decide +kernel
theorem dX5_ends_70 : decode cX5_ends 70 = .ok (.iadd, 1) := by decide +kernel
theorem dX5_ends_71 : decode cX5_ends 71 = .ok (.iaload, 1) := by decide +kernel
theorem dX5_ends_72 : decode cX5_ends 72 = .ok (.iconst 1, 1) := by decide +kernel
theorem dX5_ends_73 : decode cX5_ends 73 = .ok (.if_icmp .ne 7, 3) := by decide +kernel
theorem dX5_ends_76 : decode cX5_ends 76 = .ok (.iconst 1, 1) := by decide +kernel
theorem dX5_ends_77 : decode cX5_ends 77 = .ok (.goto 4, 3) := by decide +kernel
theorem dX5_ends_80 : decode cX5_ends 80 = .ok (.iconst 0, 1) := by decide +kernel
theorem dX5_ends_81 : decode cX5_ends 81 = .ok (.iadd, 1) := by decide +kernel
theorem dX5_ends_82 : decode cX5_ends 82 = .ok (.putfield 112, 3) := by decide +kernel
theorem dX5_ends_85 : decode cX5_ends 85 = .ok (.aload_n 0, 1) := by decide +kernel
theorem dX5_ends_86 : decode cX5_ends 86 = .ok (.bipush 63, 2) := by decide +kernel
theorem dX5_ends_88 : decode cX5_ends 88 = .ok (.putfield 59, 3) := by decide +kernel
theorem dX5_ends_91 : decode cX5_ends 91 = .ok (.aload_n 0, 1) := by decide +kernel
theorem dX5_ends_92 : decode cX5_ends 92 = .ok (.iconst 0, 1) := by decide +kernel
theorem dX5_ends_93 : decode cX5_ends 93 = .ok (.putfield 100, 3) := by decide +kernel
theorem dX5_ends_96 : decode cX5_ends 96 = .ok (.aload_n 0, 1) := by decide +kernel
theorem dX5_ends_97 : decode cX5_ends 97 = .ok (.iconst 0, 1) := by decide +kernel
theorem dX5_ends_98 : decode cX5_ends 98 = .ok (.putfield 103, 3) := by decide +kernel
theorem dX5_ends_101 : decode cX5_ends 101 = .ok (.return_, 1) := by decide +kernel
set_option maxRecDepth 20000 in
theorem ggX5_goesBy_X5_counting : GoodIn wsX5_goesBy wsX5_counting := goodIn_r _ [12, 3, 4, 13, 14, 15, 11, 16, 5, 6, 31, 32, 33, 34, 35, 36, 37, 38, 39, 40, 41, 42, 43, 44, 45, 46, 47, 48, 49, 50, 51, 52, 53, 54, 55, 56, 57, 58, 59, 60, 61, 62, 63, 64, 65] (by decide +kernel) (by decide +kernel)
set_option maxRecDepth 20000 in
theorem gX5_goesBy_X5_counting : GoodIn wsX5_goesBy (wsV RX5 128 RX5 yX5_counting wsX5_counting) := goodIn_app (goodIn_of _ (by decide +kernel)) ggX5_goesBy_X5_counting
set_option maxRecDepth 20000 in
theorem ggX5_goesBy_X5_ones : GoodIn wsX5_goesBy wsX5_ones := goodIn_r _ [19] (by decide +kernel) (by decide +kernel)
set_option maxRecDepth 20000 in
theorem gX5_goesBy_X5_ones : GoodIn wsX5_goesBy (va_wsS RX5 131 yX5_ones wsX5_ones) := goodIn_app (goodIn_of _ (by decide +kernel)) ggX5_goesBy_X5_ones
set_option maxRecDepth 20000 in
theorem ggX5_goesBy_X5_behind : GoodIn wsX5_goesBy wsX5_behind := goodIn_r _ [23, 5, 3, 31, 32, 33, 34, 35, 36, 37, 38, 39, 40, 41, 42, 43, 44, 45, 46, 47, 48, 49, 50, 51, 52, 53, 54, 55, 56, 57, 58, 59, 60, 61, 62, 63, 64, 65] (by decide +kernel) (by decide +kernel)
set_option maxRecDepth 20000 in
theorem gX5_goesBy_X5_behind : GoodIn wsX5_goesBy (wsV RX5 134 RX5 yX5_behind wsX5_behind) := goodIn_app (goodIn_of _ (by decide +kernel)) ggX5_goesBy_X5_behind
set_option maxRecDepth 20000 in
theorem ggX5_goesBy_X5_ends : GoodIn wsX5_goesBy wsX5_ends := goodIn_r _ [27, 4, 28, 29, 5, 30, 6, 2, 31, 32, 33, 34, 35, 36, 37, 38, 39, 40, 41, 42, 43, 44, 45, 46, 47, 48, 49, 50, 51, 52, 53, 54, 55, 56, 57, 58, 59, 60, 61, 62, 63, 64, 65] (by decide +kernel) (by decide +kernel)
set_option maxRecDepth 20000 in
theorem gX5_goesBy_X5_ends : GoodIn wsX5_goesBy (wsV RX5 138 RX5 yX5_ends wsX5_ends) := goodIn_app (goodIn_of _ (by decide +kernel)) ggX5_goesBy_X5_ends
theorem dX5_goesBy_0 : decode cX5_goesBy 0 = .ok (.aload_n 0, 1) := by decide +kernel
theorem dX5_goesBy_1 : decode cX5_goesBy 1 = .ok (.iload_n 1, 1) := by decide +kernel
theorem dX5_goesBy_2 : decode cX5_goesBy 2 = .ok (.invokevirtual 128, 3) := by decide +kernel
theorem dX5_goesBy_5 : decode cX5_goesBy 5 = .ok (.istore_n 2, 1) := by decide +kernel
theorem dX5_goesBy_6 : decode cX5_goesBy 6 = .ok (.iload_n 2, 1) := by decide +kernel
theorem dX5_goesBy_7 : decode cX5_goesBy 7 = .ok (.invokestatic 131, 3) := by decide +kernel
theorem dX5_goesBy_10 : decode cX5_goesBy 10 = .ok (.istore_n 3, 1) := by decide +kernel
theorem dX5_goesBy_11 : decode cX5_goesBy 11 = .ok (.aload_n 0, 1) := by decide +kernel
theorem dX5_goesBy_12 : decode cX5_goesBy 12 = .ok (.dup, 1) := by decide +kernel
theorem dX5_goesBy_13 : decode cX5_goesBy 13 = .ok (.getfield 115, 3) := by decide +kernel
theorem dX5_goesBy_16 : decode cX5_goesBy 16 = .ok (.iconst 1, 1) := by decide +kernel
theorem dX5_goesBy_17 : decode cX5_goesBy 17 = .ok (.iadd, 1) := by decide +kernel
theorem dX5_goesBy_18 : decode cX5_goesBy 18 = .ok (.putfield 115, 3) := by decide +kernel
theorem dX5_goesBy_21 : decode cX5_goesBy 21 = .ok (.aload_n 0, 1) := by decide +kernel
theorem dX5_goesBy_22 : decode cX5_goesBy 22 = .ok (.iload_n 3, 1) := by decide +kernel
theorem dX5_goesBy_23 : decode cX5_goesBy 23 = .ok (.ifCond .ne 12, 3) := by decide +kernel
theorem dX5_goesBy_26 : decode cX5_goesBy 26 = .ok (.aload_n 0, 1) := by decide +kernel
theorem dX5_goesBy_27 : decode cX5_goesBy 27 = .ok (.getfield 103, 3) := by decide +kernel
theorem dX5_goesBy_30 : decode cX5_goesBy 30 = .ok (.iconst 1, 1) := by decide +kernel
theorem dX5_goesBy_31 : decode cX5_goesBy 31 = .ok (.iadd, 1) := by decide +kernel
theorem dX5_goesBy_32 : decode cX5_goesBy 32 = .ok (.goto 4, 3) := by decide +kernel
theorem dX5_goesBy_35 : decode cX5_goesBy 35 = .ok (.iconst 0, 1) := by decide +kernel
theorem dX5_goesBy_36 : decode cX5_goesBy 36 = .ok (.putfield 103, 3) := by decide +kernel
theorem dX5_goesBy_39 : decode cX5_goesBy 39 = .ok (.iload_n 3, 1) := by decide +kernel
theorem dX5_goesBy_40 : decode cX5_goesBy 40 = .ok (.iconst 1, 1) := by decide +kernel
theorem dX5_goesBy_41 : decode cX5_goesBy 41 = .ok (.if_icmp .ne 58, 3) := by decide +kernel
theorem dX5_goesBy_44 : decode cX5_goesBy 44 = .ok (.iconst 0, 1) := by decide +kernel
theorem dX5_goesBy_45 : decode cX5_goesBy 45 = .ok (.istore 4, 2) := by decide +kernel
theorem dX5_goesBy_47 : decode cX5_goesBy 47 = .ok (.iload 4, 2) := by decide +kernel
theorem dX5_goesBy_49 : decode cX5_goesBy 49 = .ok (.aload_n 0, 1) := by decide +kernel
theorem dX5_goesBy_50 : decode cX5_goesBy 50 = .ok (.getfield 94, 3) := by decide +kernel
theorem dX5_goesBy_53 : decode cX5_goesBy 53 = .ok (.if_icmp .ge 46, 3) := by decide +kernel
theorem dX5_goesBy_56 : decode cX5_goesBy 56 = .ok (.iload_n 2, 1) := by decide +kernel
theorem dX5_goesBy_57 : decode cX5_goesBy 57 = .ok (.iconst 1, 1) := by decide +kernel
theorem dX5_goesBy_58 : decode cX5_goesBy 58 = .ok (.iload 4, 2) := by decide +kernel
theorem dX5_goesBy_60 : decode cX5_goesBy 60 = .ok (.ishl, 1) := by decide +kernel
theorem dX5_goesBy_61 : decode cX5_goesBy 61 = .ok (.if_icmp .ne 32, 3) := by decide +kernel
theorem dX5_goesBy_64 : decode cX5_goesBy 64 = .ok (.aload_n 0, 1) := by decide +kernel
theorem dX5_goesBy_65 : decode cX5_goesBy 65 = .ok (.aload_n 0, 1) := by decide +kernel
theorem dX5_goesBy_66 : decode cX5_goesBy 66 = .ok (.iload 4, 2) := by decide +kernel
theorem dX5_goesBy_68 : decode cX5_goesBy 68 = .ok (.aload_n 0, 1) := by decide +kernel
theorem dX5_goesBy_69 : decode cX5_goesBy 69 = .ok (.getfield 59, 3) := by decide +kernel
theorem dX5_goesBy_72 : decode cX5_goesBy 72 = .ok (.invokevirtual 134, 3) := by decide +kernel
theorem dX5_goesBy_75 : decode cX5_goesBy 75 = .ok (.putfield 59, 3) := by decide +kernel
theorem dX5_goesBy_78 : decode cX5_goesBy 78 = .ok (.aload_n 0, 1) := by decide +kernel
theorem dX5_goesBy_79 : decode cX5_goesBy 79 = .ok (.getfield 16, 3) := by decide +kernel
theorem dX5_goesBy_82 : decode cX5_goesBy 82 = .ok (.iconst 3, 1) := by decide +kernel
theorem dX5_goesBy_83 : decode cX5_goesBy 83 = .ok (.iload 4, 2) := by decide +kernel
theorem dX5_goesBy_85 : decode cX5_goesBy 85 = .ok (.imul, 1) := by decide +kernel
theorem dX5_goesBy_86 : decode cX5_goesBy 86 = .ok (.iconst 2, 1) := by decide +kernel
theorem dX5_goesBy_87 : decode cX5_goesBy 87 = .ok (.iadd, 1) := by decide +kernel
theorem dX5_goesBy_88 : decode cX5_goesBy 88 = .ok (.dup2, 1) := by decide +kernel
theorem dX5_goesBy_89 : decode cX5_goesBy 89 = .ok (.iaload, 1) := by decide +kernel
theorem dX5_goesBy_90 : decode cX5_goesBy 90 = .ok (.iconst 1, 1) := by decide +kernel
theorem dX5_goesBy_91 : decode cX5_goesBy 91 = .ok (.iadd, 1) := by decide +kernel
theorem dX5_goesBy_92 : decode cX5_goesBy 92 = .ok (.iastore, 1) := by decide +kernel
theorem dX5_goesBy_93 : decode cX5_goesBy 93 = .ok (.iinc 4 1, 3) := by decide +kernel
theorem dX5_goesBy_96 : decode cX5_goesBy 96 = .ok (.goto (-49), 3) := by decide +kernel
theorem dX5_goesBy_99 : decode cX5_goesBy 99 = .ok (.aload_n 0, 1) := by decide +kernel
theorem dX5_goesBy_100 : decode cX5_goesBy 100 = .ok (.dup, 1) := by decide +kernel
theorem dX5_goesBy_101 : decode cX5_goesBy 101 = .ok (.getfield 100, 3) := by decide +kernel
theorem dX5_goesBy_104 : decode cX5_goesBy 104 = .ok (.iload_n 3, 1) := by decide +kernel
theorem dX5_goesBy_105 : decode cX5_goesBy 105 = .ok (.iconst 1, 1) := by decide +kernel
theorem dX5_goesBy_106 : decode cX5_goesBy 106 = .ok (.if_icmp .le 7, 3) := by decide +kernel
theorem dX5_goesBy_109 : decode cX5_goesBy 109 = .ok (.iload_n 2, 1) := by decide +kernel
theorem dX5_goesBy_110 : decode cX5_goesBy 110 = .ok (.goto 4, 3) := by decide +kernel
theorem dX5_goesBy_113 : decode cX5_goesBy 113 = .ok (.iconst 0, 1) := by decide +kernel
theorem dX5_goesBy_114 : decode cX5_goesBy 114 = .ok (.ior, 1) := by decide +kernel
theorem dX5_goesBy_115 : decode cX5_goesBy 115 = .ok (.putfield 100, 3) := by decide +kernel
theorem dX5_goesBy_118 : decode cX5_goesBy 118 = .ok (.aload_n 0, 1) := by decide +kernel
theorem dX5_goesBy_119 : decode cX5_goesBy 119 = .ok (.getfield 103, 3) := by decide +kernel
theorem dX5_goesBy_122 : decode cX5_goesBy 122 = .ok (.aload_n 0, 1) := by decide +kernel
theorem dX5_goesBy_123 : decode cX5_goesBy 123 = .ok (.getfield 97, 3) := by decide +kernel
theorem dX5_goesBy_126 : decode cX5_goesBy 126 = .ok (.if_icmp .ne 7, 3) := by decide +kernel
theorem dX5_goesBy_129 : decode cX5_goesBy 129 = .ok (.aload_n 0, 1) := by decide +kernel
theorem dX5_goesBy_130 : decode cX5_goesBy 130 = .ok (.invokevirtual 138, 3) := by decide +kernel
theorem dX5_goesBy_133 : decode cX5_goesBy 133 = .ok (.iload_n 3, 1) := by decide +kernel
theorem dX5_goesBy_134 : decode cX5_goesBy 134 = .ok (.ireturn, 1) := by decide +kernel
set_option maxRecDepth 20000 in
theorem ggX5_breath_X5_in : GoodIn wsX5_breath wsX5_in := goodIn_r _ [5] (by decide +kernel) (by decide +kernel)
set_option maxRecDepth 20000 in
theorem gX5_breath_X5_in : GoodIn wsX5_breath (va_wsS RX5 64 yX5_in wsX5_in) := goodIn_app (goodIn_of _ (by decide +kernel)) ggX5_breath_X5_in
set_option maxRecDepth 20000 in
theorem ggX5_breath_X5_lacks : GoodIn wsX5_breath wsX5_lacks := goodIn_r _ [9, 1, 42, 43, 44, 45, 46, 47, 48, 49, 50, 51, 52, 53, 54, 55, 56, 57, 58, 59, 60, 61, 62, 63, 64, 65, 66, 67, 68, 69, 70, 71, 72, 73, 74, 75, 76] (by decide +kernel) (by decide +kernel)
set_option maxRecDepth 20000 in
theorem gX5_breath_X5_lacks : GoodIn wsX5_breath (wsV RX5 141 RX5 yX5_lacks wsX5_lacks) := goodIn_app (goodIn_of _ (by decide +kernel)) ggX5_breath_X5_lacks
set_option maxRecDepth 20000 in
theorem ggX5_breath_X5_goesBy : GoodIn wsX5_breath wsX5_goesBy := goodIn_r _ [13, 14, 15, 1, 16, 17, 18, 19, 20, 21, 22, 4, 23, 24, 25, 26, 27, 28, 29, 30, 31, 32, 33, 34, 35, 36, 37, 38, 39, 40, 41, 42, 43, 44, 45, 46, 47, 48, 49, 50, 51, 52, 53, 54, 55, 56, 57, 58, 59, 60, 61, 62, 63, 64, 65, 66, 67, 68, 69, 70, 71, 72, 73, 74, 75, 76] (by decide +kernel) (by decide +kernel)
set_option maxRecDepth 20000 in
theorem gX5_breath_X5_goesBy : GoodIn wsX5_breath (wsV RX5 145 RX5 yX5_goesBy wsX5_goesBy) := goodIn_app (goodIn_of _ (by decide +kernel)) ggX5_breath_X5_goesBy
theorem dX5_breath_0 : decode cX5_breath 0 = .ok (.iload_n 1, 1) := by decide +kernel
theorem dX5_breath_1 : decode cX5_breath 1 = .ok (.i2l, 1) := by decide +kernel
theorem dX5_breath_2 : decode cX5_breath 2 = .ok (.lconst 0, 1) := by decide +kernel
theorem dX5_breath_3 : decode cX5_breath 3 = .ok (.iconst 1, 1) := by decide +kernel
theorem dX5_breath_4 : decode cX5_breath 4 = .ok (.aload_n 0, 1) := by decide +kernel
theorem dX5_breath_5 : decode cX5_breath 5 = .ok (.getfield 94, 3) := by decide +kernel
theorem dX5_breath_8 : decode cX5_breath 8 = .ok (.ishl, 1) := by decide +kernel
theorem dX5_breath_9 : decode cX5_breath 9 = .ok (.iconst 1, 1) := by decide +kernel
theorem dX5_breath_10 : decode cX5_breath 10 = .ok (.isub, 1) := by decide +kernel
theorem dX5_breath_11 : decode cX5_breath 11 = .ok (.i2l, 1) := by decide +kernel
theorem dX5_breath_12 : decode cX5_breath 12 = .ok (.invokestatic 64, 3) := by decide +kernel
theorem dX5_breath_15 : decode cX5_breath 15 = .ok (.ifCond .ne 6, 3) := by decide +kernel
theorem dX5_breath_18 : decode cX5_breath 18 = .ok (.bipush (-102), 2) := by decide +kernel
theorem dX5_breath_20 : decode cX5_breath 20 = .ok (.ireturn, 1) := by decide +kernel
theorem dX5_breath_21 : decode cX5_breath 21 = .ok (.aload_n 0, 1) := by decide +kernel
theorem dX5_breath_22 : decode cX5_breath 22 = .ok (.invokevirtual 141, 3) := by decide +kernel
theorem dX5_breath_25 : decode cX5_breath 25 = .ok (.ifCond .eq 8, 3) := by decide +kernel
theorem dX5_breath_28 : decode cX5_breath 28 = .ok (.bipush (-103), 2) := by decide +kernel
theorem dX5_breath_30 : decode cX5_breath 30 = .ok (.goto 8, 3) := by decide +kernel
theorem dX5_breath_33 : decode cX5_breath 33 = .ok (.aload_n 0, 1) := by decide +kernel
theorem dX5_breath_34 : decode cX5_breath 34 = .ok (.iload_n 1, 1) := by decide +kernel
theorem dX5_breath_35 : decode cX5_breath 35 = .ok (.invokevirtual 145, 3) := by decide +kernel
theorem dX5_breath_38 : decode cX5_breath 38 = .ok (.ireturn, 1) := by decide +kernel
set_option maxRecDepth 20000 in
theorem ggX5_layFar_X5_counts : GoodIn wsX5_layFar wsX5_counts := goodIn_r _ [7, 8, 9, 14, 15, 16, 17, 18, 19, 20, 21, 22, 23, 24, 25, 26, 27, 28, 29, 30, 31, 32, 33, 34, 35, 36, 37, 38, 39, 40, 41, 42, 43, 44, 45, 46, 47, 48] (by decide +kernel) (by decide +kernel)
set_option maxRecDepth 20000 in
theorem gX5_layFar_X5_counts : GoodIn wsX5_layFar (wsV RX5 124 RX5 yX5_counts wsX5_counts) := goodIn_app (goodIn_of _ (by decide +kernel)) ggX5_layFar_X5_counts
set_option maxRecDepth 20000 in
theorem ggX5_layFar_X5_behind : GoodIn wsX5_layFar wsX5_behind := goodIn_r _ [13, 8, 2, 14, 15, 16, 17, 18, 19, 20, 21, 22, 23, 24, 25, 26, 27, 28, 29, 30, 31, 32, 33, 34, 35, 36, 37, 38, 39, 40, 41, 42, 43, 44, 45, 46, 47, 48] (by decide +kernel) (by decide +kernel)
set_option maxRecDepth 20000 in
theorem gX5_layFar_X5_behind : GoodIn wsX5_layFar (wsV RX5 134 RX5 yX5_behind wsX5_behind) := goodIn_app (goodIn_of _ (by decide +kernel)) ggX5_layFar_X5_behind
theorem dX5_layFar_0 : decode cX5_layFar 0 = .ok (.iconst 0, 1) := by decide +kernel
theorem dX5_layFar_1 : decode cX5_layFar 1 = .ok (.istore_n 2, 1) := by decide +kernel
theorem dX5_layFar_2 : decode cX5_layFar 2 = .ok (.iload_n 2, 1) := by decide +kernel
theorem dX5_layFar_3 : decode cX5_layFar 3 = .ok (.bipush 64, 2) := by decide +kernel
theorem dX5_layFar_5 : decode cX5_layFar 5 = .ok (.if_icmp .ge 16, 3) := by decide +kernel
theorem dX5_layFar_8 : decode cX5_layFar 8 = .ok (.aload_n 0, 1) := by decide +kernel
theorem dX5_layFar_9 : decode cX5_layFar 9 = .ok (.getfield 19, 3) := by decide +kernel
theorem dX5_layFar_12 : decode cX5_layFar 12 = .ok (.iload_n 2, 1) := by decide +kernel
theorem dX5_layFar_13 : decode cX5_layFar 13 = .ok (.iconst (-1), 1) := by decide +kernel
theorem dX5_layFar_14 : decode cX5_layFar 14 = .ok (.iastore, 1) := by decide +kernel
theorem dX5_layFar_15 : decode cX5_layFar 15 = .ok (.iinc 2 1, 3) := by decide +kernel
theorem dX5_layFar_18 : decode cX5_layFar 18 = .ok (.goto (-16), 3) := by decide +kernel
theorem dX5_layFar_21 : decode cX5_layFar 21 = .ok (.aload_n 0, 1) := by decide +kernel
theorem dX5_layFar_22 : decode cX5_layFar 22 = .ok (.getfield 19, 3) := by decide +kernel
theorem dX5_layFar_25 : decode cX5_layFar 25 = .ok (.iload_n 1, 1) := by decide +kernel
theorem dX5_layFar_26 : decode cX5_layFar 26 = .ok (.iconst 0, 1) := by decide +kernel
theorem dX5_layFar_27 : decode cX5_layFar 27 = .ok (.iastore, 1) := by decide +kernel
theorem dX5_layFar_28 : decode cX5_layFar 28 = .ok (.iconst 0, 1) := by decide +kernel
theorem dX5_layFar_29 : decode cX5_layFar 29 = .ok (.istore_n 2, 1) := by decide +kernel
theorem dX5_layFar_30 : decode cX5_layFar 30 = .ok (.iload_n 2, 1) := by decide +kernel
theorem dX5_layFar_31 : decode cX5_layFar 31 = .ok (.bipush 64, 2) := by decide +kernel
theorem dX5_layFar_33 : decode cX5_layFar 33 = .ok (.if_icmp .ge 105, 3) := by decide +kernel
theorem dX5_layFar_36 : decode cX5_layFar 36 = .ok (.iconst 0, 1) := by decide +kernel
theorem dX5_layFar_37 : decode cX5_layFar 37 = .ok (.istore_n 3, 1) := by decide +kernel
theorem dX5_layFar_38 : decode cX5_layFar 38 = .ok (.iload_n 3, 1) := by decide +kernel
theorem dX5_layFar_39 : decode cX5_layFar 39 = .ok (.bipush 64, 2) := by decide +kernel
theorem dX5_layFar_41 : decode cX5_layFar 41 = .ok (.if_icmp .ge 91, 3) := by decide +kernel
theorem dX5_layFar_44 : decode cX5_layFar 44 = .ok (.iconst 0, 1) := by decide +kernel
theorem dX5_layFar_45 : decode cX5_layFar 45 = .ok (.istore 4, 2) := by decide +kernel
theorem dX5_layFar_47 : decode cX5_layFar 47 = .ok (.iload 4, 2) := by decide +kernel
theorem dX5_layFar_49 : decode cX5_layFar 49 = .ok (.aload_n 0, 1) := by decide +kernel
theorem dX5_layFar_50 : decode cX5_layFar 50 = .ok (.getfield 94, 3) := by decide +kernel
theorem dX5_layFar_53 : decode cX5_layFar 53 = .ok (.if_icmp .ge 73, 3) := by decide +kernel
theorem dX5_layFar_56 : decode cX5_layFar 56 = .ok (.aload_n 0, 1) := by decide +kernel
theorem dX5_layFar_57 : decode cX5_layFar 57 = .ok (.getfield 19, 3) := by decide +kernel
theorem dX5_layFar_60 : decode cX5_layFar 60 = .ok (.iload_n 3, 1) := by decide +kernel
theorem dX5_layFar_61 : decode cX5_layFar 61 = .ok (.iaload, 1) := by decide +kernel
theorem dX5_layFar_62 : decode cX5_layFar 62 = .ok (.iload_n 2, 1) := by decide +kernel
theorem dX5_layFar_63 : decode cX5_layFar 63 = .ok (.if_icmp .ne 63, 3) := by decide +kernel
theorem dX5_layFar_66 : decode cX5_layFar 66 = .ok (.aload_n 0, 1) := by decide +kernel
theorem dX5_layFar_67 : decode cX5_layFar 67 = .ok (.iload 4, 2) := by decide +kernel
theorem dX5_layFar_69 : decode cX5_layFar 69 = .ok (.iload_n 3, 1) := by decide +kernel
theorem dX5_layFar_70 : decode cX5_layFar 70 = .ok (.invokevirtual 124, 3) := by decide +kernel
theorem dX5_layFar_73 : decode cX5_layFar 73 = .ok (.ifCond .eq 13, 3) := by decide +kernel
theorem dX5_layFar_76 : decode cX5_layFar 76 = .ok (.aload_n 0, 1) := by decide +kernel
theorem dX5_layFar_77 : decode cX5_layFar 77 = .ok (.iload 4, 2) := by decide +kernel
theorem dX5_layFar_79 : decode cX5_layFar 79 = .ok (.iload_n 3, 1) := by decide +kernel
theorem dX5_layFar_80 : decode cX5_layFar 80 = .ok (.invokevirtual 134, 3) := by decide +kernel
theorem dX5_layFar_83 : decode cX5_layFar 83 = .ok (.goto 4, 3) := by decide +kernel
theorem dX5_layFar_86 : decode cX5_layFar 86 = .ok (.iload_n 3, 1) := by decide +kernel
theorem dX5_layFar_87 : decode cX5_layFar 87 = .ok (.istore 5, 2) := by decide +kernel
theorem dX5_layFar_89 : decode cX5_layFar 89 = .ok (.aload_n 0, 1) := by decide +kernel
theorem dX5_layFar_90 : decode cX5_layFar 90 = .ok (.getfield 19, 3) := by decide +kernel
theorem dX5_layFar_93 : decode cX5_layFar 93 = .ok (.iload 5, 2) := by decide +kernel
theorem dX5_layFar_95 : decode cX5_layFar 95 = .ok (.aload_n 0, 1) := by decide +kernel
theorem dX5_layFar_96 : decode cX5_layFar 96 = .ok (.getfield 19, 3) := by decide +kernel
theorem dX5_layFar_99 : decode cX5_layFar 99 = .ok (.iload 5, 2) := by decide +kernel
theorem dX5_layFar_101 : decode cX5_layFar 101 = .ok (.iaload, 1) := by decide +kernel
theorem dX5_layFar_102 : decode cX5_layFar 102 = .ok (.iconst (-1), 1) := by decide +kernel
theorem dX5_layFar_103 : decode cX5_layFar 103 = .ok (.if_icmp .ne 9, 3) := by decide +kernel
theorem dX5_layFar_106 : decode cX5_layFar 106 = .ok (.iload_n 2, 1) := by decide +kernel
theorem dX5_layFar_107 : decode cX5_layFar 107 = .ok (.iconst 1, 1) := by decide +kernel
theorem dX5_layFar_108 : decode cX5_layFar 108 = .ok (.iadd, 1) := by decide +kernel
theorem dX5_layFar_109 : decode cX5_layFar 109 = .ok (.goto 10, 3) := by decide +kernel
theorem dX5_layFar_112 : decode cX5_layFar 112 = .ok (.aload_n 0, 1) := by decide +kernel
theorem dX5_layFar_113 : decode cX5_layFar 113 = .ok (.getfield 19, 3) := by decide +kernel
theorem dX5_layFar_116 : decode cX5_layFar 116 = .ok (.iload 5, 2) := by decide +kernel
theorem dX5_layFar_118 : decode cX5_layFar 118 = .ok (.iaload, 1) := by decide +kernel
theorem dX5_layFar_119 : decode cX5_layFar 119 = .ok (.iastore, 1) := by decide +kernel
theorem dX5_layFar_120 : decode cX5_layFar 120 = .ok (.iinc 4 1, 3) := by decide +kernel
theorem dX5_layFar_123 : decode cX5_layFar 123 = .ok (.goto (-76), 3) := by decide +kernel
theorem dX5_layFar_126 : decode cX5_layFar 126 = .ok (.iinc 3 1, 3) := by decide +kernel
theorem dX5_layFar_129 : decode cX5_layFar 129 = .ok (.goto (-91), 3) := by decide +kernel
theorem dX5_layFar_132 : decode cX5_layFar 132 = .ok (.iinc 2 1, 3) := by decide +kernel
theorem dX5_layFar_135 : decode cX5_layFar 135 = .ok (.goto (-105), 3) := by decide +kernel
theorem dX5_layFar_138 : decode cX5_layFar 138 = .ok (.return_, 1) := by decide +kernel
set_option maxRecDepth 20000 in
theorem ggX5_fewFrom_X5_layFar : GoodIn wsX5_fewFrom wsX5_layFar := goodIn_r _ [6, 1, 7, 8, 9, 10, 5, 11, 12, 13, 14, 15, 16, 17, 18, 19, 20, 21, 22, 23, 24, 25, 26, 27, 28, 29, 30, 31, 32, 33, 34, 35, 36, 37, 38, 39, 40, 41, 42, 43, 44, 45, 46, 47, 48, 49, 50, 51, 52] (by decide +kernel) (by decide +kernel)
set_option maxRecDepth 20000 in
theorem gX5_fewFrom_X5_layFar : GoodIn wsX5_fewFrom (wsV RX5 148 RX5 yX5_layFar wsX5_layFar) := goodIn_app (goodIn_of _ (by decide +kernel)) ggX5_fewFrom_X5_layFar
theorem dX5_fewFrom_0 : decode cX5_fewFrom 0 = .ok (.aload_n 0, 1) := by decide +kernel
theorem dX5_fewFrom_1 : decode cX5_fewFrom 1 = .ok (.iload_n 1, 1) := by decide +kernel
theorem dX5_fewFrom_2 : decode cX5_fewFrom 2 = .ok (.invokevirtual 148, 3) := by decide +kernel
theorem dX5_fewFrom_5 : decode cX5_fewFrom 5 = .ok (.iconst (-1), 1) := by decide +kernel
theorem dX5_fewFrom_6 : decode cX5_fewFrom 6 = .ok (.istore_n 3, 1) := by decide +kernel
theorem dX5_fewFrom_7 : decode cX5_fewFrom 7 = .ok (.iconst 0, 1) := by decide +kernel
theorem dX5_fewFrom_8 : decode cX5_fewFrom 8 = .ok (.istore 4, 2) := by decide +kernel
theorem dX5_fewFrom_10 : decode cX5_fewFrom 10 = .ok (.iload 4, 2) := by decide +kernel
theorem dX5_fewFrom_12 : decode cX5_fewFrom 12 = .ok (.bipush 64, 2) := by decide +kernel
theorem dX5_fewFrom_14 : decode cX5_fewFrom 14 = .ok (.if_icmp .ge 57, 3) := by decide +kernel
theorem dX5_fewFrom_17 : decode cX5_fewFrom 17 = .ok (.iload 4, 2) := by decide +kernel
theorem dX5_fewFrom_19 : decode cX5_fewFrom 19 = .ok (.bipush 8, 2) := by decide +kernel
theorem dX5_fewFrom_21 : decode cX5_fewFrom 21 = .ok (.irem, 1) := by decide +kernel
theorem dX5_fewFrom_22 : decode cX5_fewFrom 22 = .ok (.iload_n 2, 1) := by decide +kernel
theorem dX5_fewFrom_23 : decode cX5_fewFrom 23 = .ok (.if_icmp .ne 40, 3) := by decide +kernel
theorem dX5_fewFrom_26 : decode cX5_fewFrom 26 = .ok (.aload_n 0, 1) := by decide +kernel
theorem dX5_fewFrom_27 : decode cX5_fewFrom 27 = .ok (.getfield 19, 3) := by decide +kernel
theorem dX5_fewFrom_30 : decode cX5_fewFrom 30 = .ok (.iload 4, 2) := by decide +kernel
theorem dX5_fewFrom_32 : decode cX5_fewFrom 32 = .ok (.iaload, 1) := by decide +kernel
theorem dX5_fewFrom_33 : decode cX5_fewFrom 33 = .ok (.iconst (-1), 1) := by decide +kernel
theorem dX5_fewFrom_34 : decode cX5_fewFrom 34 = .ok (.if_icmp .eq 29, 3) := by decide +kernel
theorem dX5_fewFrom_37 : decode cX5_fewFrom 37 = .ok (.iload_n 3, 1) := by decide +kernel
theorem dX5_fewFrom_38 : decode cX5_fewFrom 38 = .ok (.iconst (-1), 1) := by decide +kernel
theorem dX5_fewFrom_39 : decode cX5_fewFrom 39 = .ok (.if_icmp .eq 14, 3) := by decide +kernel
theorem dX5_fewFrom_42 : decode cX5_fewFrom 42 = .ok (.aload_n 0, 1) := by decide +kernel
theorem dX5_fewFrom_43 : decode cX5_fewFrom 43 = .ok (.getfield 19, 3) := by decide +kernel
theorem dX5_fewFrom_46 : decode cX5_fewFrom 46 = .ok (.iload 4, 2) := by decide +kernel
theorem dX5_fewFrom_48 : decode cX5_fewFrom 48 = .ok (.iaload, 1) := by decide +kernel
theorem dX5_fewFrom_49 : decode cX5_fewFrom 49 = .ok (.iload_n 3, 1) := by decide +kernel
theorem dX5_fewFrom_50 : decode cX5_fewFrom 50 = .ok (.if_icmp .ge 13, 3) := by decide +kernel
theorem dX5_fewFrom_53 : decode cX5_fewFrom 53 = .ok (.aload_n 0, 1) := by decide +kernel
theorem dX5_fewFrom_54 : decode cX5_fewFrom 54 = .ok (.getfield 19, 3) := by decide +kernel
theorem dX5_fewFrom_57 : decode cX5_fewFrom 57 = .ok (.iload 4, 2) := by decide +kernel
theorem dX5_fewFrom_59 : decode cX5_fewFrom 59 = .ok (.iaload, 1) := by decide +kernel
theorem dX5_fewFrom_60 : decode cX5_fewFrom 60 = .ok (.goto 4, 3) := by decide +kernel
theorem dX5_fewFrom_63 : decode cX5_fewFrom 63 = .ok (.iload_n 3, 1) := by decide +kernel
theorem dX5_fewFrom_64 : decode cX5_fewFrom 64 = .ok (.istore_n 3, 1) := by decide +kernel
theorem dX5_fewFrom_65 : decode cX5_fewFrom 65 = .ok (.iinc 4 1, 3) := by decide +kernel
theorem dX5_fewFrom_68 : decode cX5_fewFrom 68 = .ok (.goto (-58), 3) := by decide +kernel
theorem dX5_fewFrom_71 : decode cX5_fewFrom 71 = .ok (.iload_n 3, 1) := by decide +kernel
theorem dX5_fewFrom_72 : decode cX5_fewFrom 72 = .ok (.ireturn, 1) := by decide +kernel
set_option maxRecDepth 20000 in
theorem ggX5_firstOf_X5_fewFrom : GoodIn wsX5_firstOf wsX5_fewFrom := goodIn_r _ [7, 8, 9, 10, 11, 6, 12, 2, 13, 14, 15, 16, 17, 18, 19, 20, 21, 22, 23, 24, 25, 26, 27, 28, 29, 30, 31, 32, 33, 34, 35, 36, 37, 38, 39, 40, 41, 42, 43, 44, 45, 46, 47, 48, 49, 50, 51, 52, 53, 54, 55, 56, 57] (by decide +kernel) (by decide +kernel)
set_option maxRecDepth 20000 in
theorem gX5_firstOf_X5_fewFrom : GoodIn wsX5_firstOf (wsV RX5 152 RX5 yX5_fewFrom wsX5_fewFrom) := goodIn_app (goodIn_of _ (by decide +kernel)) ggX5_firstOf_X5_fewFrom
set_option maxRecDepth 20000 in
theorem ggX5_firstOf_X5_counts : GoodIn wsX5_firstOf wsX5_counts := goodIn_r _ [16, 17, 18, 23, 24, 25, 26, 27, 28, 29, 30, 31, 32, 33, 34, 35, 36, 37, 38, 39, 40, 41, 42, 43, 44, 45, 46, 47, 48, 49, 50, 51, 52, 53, 54, 55, 56, 57] (by decide +kernel) (by decide +kernel)
set_option maxRecDepth 20000 in
theorem gX5_firstOf_X5_counts : GoodIn wsX5_firstOf (wsV RX5 124 RX5 yX5_counts wsX5_counts) := goodIn_app (goodIn_of _ (by decide +kernel)) ggX5_firstOf_X5_counts
set_option maxRecDepth 20000 in
theorem ggX5_firstOf_X5_behind : GoodIn wsX5_firstOf wsX5_behind := goodIn_r _ [22, 17, 2, 23, 24, 25, 26, 27, 28, 29, 30, 31, 32, 33, 34, 35, 36, 37, 38, 39, 40, 41, 42, 43, 44, 45, 46, 47, 48, 49, 50, 51, 52, 53, 54, 55, 56, 57] (by decide +kernel) (by decide +kernel)
set_option maxRecDepth 20000 in
theorem gX5_firstOf_X5_behind : GoodIn wsX5_firstOf (wsV RX5 134 RX5 yX5_behind wsX5_behind) := goodIn_app (goodIn_of _ (by decide +kernel)) ggX5_firstOf_X5_behind
theorem dX5_firstOf_0 : decode cX5_firstOf 0 = .ok (.aload_n 0, 1) := by decide +kernel
theorem dX5_firstOf_1 : decode cX5_firstOf 1 = .ok (.aload_n 0, 1) := by decide +kernel
theorem dX5_firstOf_2 : decode cX5_firstOf 2 = .ok (.getfield 59, 3) := by decide +kernel
theorem dX5_firstOf_5 : decode cX5_firstOf 5 = .ok (.iload_n 1, 1) := by decide +kernel
theorem dX5_firstOf_6 : decode cX5_firstOf 6 = .ok (.invokevirtual 152, 3) := by decide +kernel
theorem dX5_firstOf_9 : decode cX5_firstOf 9 = .ok (.istore_n 2, 1) := by decide +kernel
theorem dX5_firstOf_10 : decode cX5_firstOf 10 = .ok (.iconst 0, 1) := by decide +kernel
theorem dX5_firstOf_11 : decode cX5_firstOf 11 = .ok (.istore_n 3, 1) := by decide +kernel
theorem dX5_firstOf_12 : decode cX5_firstOf 12 = .ok (.iload_n 3, 1) := by decide +kernel
theorem dX5_firstOf_13 : decode cX5_firstOf 13 = .ok (.aload_n 0, 1) := by decide +kernel
theorem dX5_firstOf_14 : decode cX5_firstOf 14 = .ok (.getfield 94, 3) := by decide +kernel
theorem dX5_firstOf_17 : decode cX5_firstOf 17 = .ok (.if_icmp .ge 47, 3) := by decide +kernel
theorem dX5_firstOf_20 : decode cX5_firstOf 20 = .ok (.iload_n 2, 1) := by decide +kernel
theorem dX5_firstOf_21 : decode cX5_firstOf 21 = .ok (.ifCond .le 43, 3) := by decide +kernel
theorem dX5_firstOf_24 : decode cX5_firstOf 24 = .ok (.aload_n 0, 1) := by decide +kernel
theorem dX5_firstOf_25 : decode cX5_firstOf 25 = .ok (.iload_n 3, 1) := by decide +kernel
theorem dX5_firstOf_26 : decode cX5_firstOf 26 = .ok (.aload_n 0, 1) := by decide +kernel
theorem dX5_firstOf_27 : decode cX5_firstOf 27 = .ok (.getfield 59, 3) := by decide +kernel
theorem dX5_firstOf_30 : decode cX5_firstOf 30 = .ok (.invokevirtual 124, 3) := by decide +kernel
theorem dX5_firstOf_33 : decode cX5_firstOf 33 = .ok (.ifCond .eq 25, 3) := by decide +kernel
theorem dX5_firstOf_36 : decode cX5_firstOf 36 = .ok (.aload_n 0, 1) := by decide +kernel
theorem dX5_firstOf_37 : decode cX5_firstOf 37 = .ok (.aload_n 0, 1) := by decide +kernel
theorem dX5_firstOf_38 : decode cX5_firstOf 38 = .ok (.iload_n 3, 1) := by decide +kernel
theorem dX5_firstOf_39 : decode cX5_firstOf 39 = .ok (.aload_n 0, 1) := by decide +kernel
theorem dX5_firstOf_40 : decode cX5_firstOf 40 = .ok (.getfield 59, 3) := by decide +kernel
theorem dX5_firstOf_43 : decode cX5_firstOf 43 = .ok (.invokevirtual 134, 3) := by decide +kernel
theorem dX5_firstOf_46 : decode cX5_firstOf 46 = .ok (.iload_n 1, 1) := by decide +kernel
theorem dX5_firstOf_47 : decode cX5_firstOf 47 = .ok (.invokevirtual 152, 3) := by decide +kernel
theorem dX5_firstOf_50 : decode cX5_firstOf 50 = .ok (.iload_n 2, 1) := by decide +kernel
theorem dX5_firstOf_51 : decode cX5_firstOf 51 = .ok (.iconst 1, 1) := by decide +kernel
theorem dX5_firstOf_52 : decode cX5_firstOf 52 = .ok (.isub, 1) := by decide +kernel
theorem dX5_firstOf_53 : decode cX5_firstOf 53 = .ok (.if_icmp .ne 5, 3) := by decide +kernel
theorem dX5_firstOf_56 : decode cX5_firstOf 56 = .ok (.iload_n 3, 1) := by decide +kernel
theorem dX5_firstOf_57 : decode cX5_firstOf 57 = .ok (.ireturn, 1) := by decide +kernel
theorem dX5_firstOf_58 : decode cX5_firstOf 58 = .ok (.iinc 3 1, 3) := by decide +kernel
theorem dX5_firstOf_61 : decode cX5_firstOf 61 = .ok (.goto (-49), 3) := by decide +kernel
theorem dX5_firstOf_64 : decode cX5_firstOf 64 = .ok (.iconst (-1), 1) := by decide +kernel
theorem dX5_firstOf_65 : decode cX5_firstOf 65 = .ok (.ireturn, 1) := by decide +kernel
set_option maxRecDepth 20000 in
theorem ggX5_tell_X5_counts : GoodIn wsX5_tell wsX5_counts := goodIn_r _ [8, 1, 2, 23, 24, 25, 26, 27, 28, 29, 30, 31, 32, 33, 34, 35, 36, 37, 38, 39, 40, 41, 42, 43, 44, 45, 46, 47, 48, 49, 50, 51, 52, 53, 54, 55, 56, 57] (by decide +kernel) (by decide +kernel)
set_option maxRecDepth 20000 in
theorem gX5_tell_X5_counts : GoodIn wsX5_tell (wsV RX5 124 RX5 yX5_counts wsX5_counts) := goodIn_app (goodIn_of _ (by decide +kernel)) ggX5_tell_X5_counts
set_option maxRecDepth 20000 in
theorem ggX5_tell_X5_fewFrom : GoodIn wsX5_tell wsX5_fewFrom := goodIn_r _ [12, 13, 14, 15, 16, 7, 17, 18, 4, 5, 6, 8, 1, 2, 19, 20, 21, 22, 23, 24, 25, 26, 27, 28, 29, 30, 31, 32, 33, 34, 35, 36, 37, 38, 39, 40, 41, 42, 43, 44, 45, 46, 47, 48, 49, 50, 51, 52, 53, 54, 55, 56, 57] (by decide +kernel) (by decide +kernel)
set_option maxRecDepth 20000 in
theorem gX5_tell_X5_fewFrom : GoodIn wsX5_tell (wsV RX5 152 RX5 yX5_fewFrom wsX5_fewFrom) := goodIn_app (goodIn_of _ (by decide +kernel)) ggX5_tell_X5_fewFrom
theorem dX5_tell_0 : decode cX5_tell 0 = .ok (.iload_n 2, 1) := by decide +kernel
theorem dX5_tell_1 : decode cX5_tell 1 = .ok (.tableswitch 98 0 5 #[39, 39, 50, 59, 77, 88], 39) := by decide +kernel
theorem dX5_tell_40 : decode cX5_tell 40 = .ok (.aload_n 0, 1) := by decide +kernel
theorem dX5_tell_41 : decode cX5_tell 41 = .ok (.getfield 16, 3) := by decide +kernel
theorem dX5_tell_44 : decode cX5_tell 44 = .ok (.iconst 3, 1) := by decide +kernel
theorem dX5_tell_45 : decode cX5_tell 45 = .ok (.iload_n 1, 1) := by decide +kernel
theorem dX5_tell_46 : decode cX5_tell 46 = .ok (.imul, 1) := by decide +kernel
theorem dX5_tell_47 : decode cX5_tell 47 = .ok (.iload_n 2, 1) := by decide +kernel
theorem dX5_tell_48 : decode cX5_tell 48 = .ok (.iadd, 1) := by decide +kernel
theorem dX5_tell_49 : decode cX5_tell 49 = .ok (.iaload, 1) := by decide +kernel
theorem dX5_tell_50 : decode cX5_tell 50 = .ok (.ireturn, 1) := by decide +kernel
theorem dX5_tell_51 : decode cX5_tell 51 = .ok (.aload_n 0, 1) := by decide +kernel
theorem dX5_tell_52 : decode cX5_tell 52 = .ok (.getfield 100, 3) := by decide +kernel
theorem dX5_tell_55 : decode cX5_tell 55 = .ok (.iload_n 1, 1) := by decide +kernel
theorem dX5_tell_56 : decode cX5_tell 56 = .ok (.ishr, 1) := by decide +kernel
theorem dX5_tell_57 : decode cX5_tell 57 = .ok (.iconst 1, 1) := by decide +kernel
theorem dX5_tell_58 : decode cX5_tell 58 = .ok (.iand, 1) := by decide +kernel
theorem dX5_tell_59 : decode cX5_tell 59 = .ok (.ireturn, 1) := by decide +kernel
theorem dX5_tell_60 : decode cX5_tell 60 = .ok (.aload_n 0, 1) := by decide +kernel
theorem dX5_tell_61 : decode cX5_tell 61 = .ok (.iload_n 1, 1) := by decide +kernel
theorem dX5_tell_62 : decode cX5_tell 62 = .ok (.aload_n 0, 1) := by decide +kernel
theorem dX5_tell_63 : decode cX5_tell 63 = .ok (.getfield 59, 3) := by decide +kernel
theorem dX5_tell_66 : decode cX5_tell 66 = .ok (.invokevirtual 124, 3) := by decide +kernel
theorem dX5_tell_69 : decode cX5_tell 69 = .ok (.ifCond .eq 7, 3) := by decide +kernel
theorem dX5_tell_72 : decode cX5_tell 72 = .ok (.iconst 1, 1) := by decide +kernel
theorem dX5_tell_73 : decode cX5_tell 73 = .ok (.goto 4, 3) := by decide +kernel
theorem dX5_tell_76 : decode cX5_tell 76 = .ok (.iconst 0, 1) := by decide +kernel
theorem dX5_tell_77 : decode cX5_tell 77 = .ok (.ireturn, 1) := by decide +kernel
theorem dX5_tell_78 : decode cX5_tell 78 = .ok (.aload_n 0, 1) := by decide +kernel
theorem dX5_tell_79 : decode cX5_tell 79 = .ok (.getfield 16, 3) := by decide +kernel
theorem dX5_tell_82 : decode cX5_tell 82 = .ok (.iconst 3, 1) := by decide +kernel
theorem dX5_tell_83 : decode cX5_tell 83 = .ok (.iload_n 1, 1) := by decide +kernel
theorem dX5_tell_84 : decode cX5_tell 84 = .ok (.imul, 1) := by decide +kernel
theorem dX5_tell_85 : decode cX5_tell 85 = .ok (.iconst 2, 1) := by decide +kernel
theorem dX5_tell_86 : decode cX5_tell 86 = .ok (.iadd, 1) := by decide +kernel
theorem dX5_tell_87 : decode cX5_tell 87 = .ok (.iaload, 1) := by decide +kernel
theorem dX5_tell_88 : decode cX5_tell 88 = .ok (.ireturn, 1) := by decide +kernel
theorem dX5_tell_89 : decode cX5_tell 89 = .ok (.aload_n 0, 1) := by decide +kernel
theorem dX5_tell_90 : decode cX5_tell 90 = .ok (.aload_n 0, 1) := by decide +kernel
theorem dX5_tell_91 : decode cX5_tell 91 = .ok (.getfield 59, 3) := by decide +kernel
theorem dX5_tell_94 : decode cX5_tell 94 = .ok (.iload_n 1, 1) := by decide +kernel
theorem dX5_tell_95 : decode cX5_tell 95 = .ok (.invokevirtual 152, 3) := by decide +kernel
theorem dX5_tell_98 : decode cX5_tell 98 = .ok (.ireturn, 1) := by decide +kernel
theorem dX5_tell_99 : decode cX5_tell 99 = .ok (.bipush (-102), 2) := by decide +kernel
theorem dX5_tell_101 : decode cX5_tell 101 = .ok (.ireturn, 1) := by decide +kernel
set_option maxRecDepth 20000 in
theorem ggX5_seat_X5_isSeat : GoodIn wsX5_seat wsX5_isSeat := goodIn_r _ [5, 6, 7, 8, 4, 9, 34, 35, 36, 37, 38, 39, 40, 41, 42, 43, 44, 45, 46, 47, 48, 49, 50, 51, 52, 53, 54, 55, 56, 57, 58, 59, 60, 61, 62, 63, 64, 65, 66, 67, 68] (by decide +kernel) (by decide +kernel)
set_option maxRecDepth 20000 in
theorem gX5_seat_X5_isSeat : GoodIn wsX5_seat (wsV RX5 155 RX5 yX5_isSeat wsX5_isSeat) := goodIn_app (goodIn_of _ (by decide +kernel)) ggX5_seat_X5_isSeat
set_option maxRecDepth 20000 in
theorem ggX5_seat_X5_tell : GoodIn wsX5_seat wsX5_tell := goodIn_r _ [13, 14, 15, 16, 17, 18, 19, 4, 20, 21, 22, 23, 24, 25, 26, 27, 28, 29, 6, 30, 31, 32, 33, 34, 35, 36, 37, 38, 39, 40, 41, 42, 43, 44, 45, 46, 47, 48, 49, 50, 51, 52, 53, 54, 55, 56, 57, 58, 59, 60, 61, 62, 63, 64, 65, 66, 67, 68] (by decide +kernel) (by decide +kernel)
set_option maxRecDepth 20000 in
theorem gX5_seat_X5_tell : GoodIn wsX5_seat (wsV RX5 158 RX5 yX5_tell wsX5_tell) := goodIn_app (goodIn_of _ (by decide +kernel)) ggX5_seat_X5_tell
theorem dX5_seat_0 : decode cX5_seat 0 = .ok (.aload_n 0, 1) := by decide +kernel
theorem dX5_seat_1 : decode cX5_seat 1 = .ok (.iload_n 1, 1) := by decide +kernel
theorem dX5_seat_2 : decode cX5_seat 2 = .ok (.invokevirtual 155, 3) := by decide +kernel
theorem dX5_seat_5 : decode cX5_seat 5 = .ok (.ifCond .eq 12, 3) := by decide +kernel
theorem dX5_seat_8 : decode cX5_seat 8 = .ok (.aload_n 0, 1) := by decide +kernel
theorem dX5_seat_9 : decode cX5_seat 9 = .ok (.iload_n 1, 1) := by decide +kernel
theorem dX5_seat_10 : decode cX5_seat 10 = .ok (.iload_n 2, 1) := by decide +kernel
theorem dX5_seat_11 : decode cX5_seat 11 = .ok (.invokevirtual 158, 3) := by decide +kernel
theorem dX5_seat_14 : decode cX5_seat 14 = .ok (.goto 5, 3) := by decide +kernel
theorem dX5_seat_17 : decode cX5_seat 17 = .ok (.bipush (-101), 2) := by decide +kernel
theorem dX5_seat_19 : decode cX5_seat 19 = .ok (.ireturn, 1) := by decide +kernel
set_option maxRecDepth 20000 in
theorem ggX5_as_X5_isSeat : GoodIn wsX5_as wsX5_isSeat := goodIn_r _ [7, 8, 9, 10, 6, 11, 12, 13, 14, 15, 16, 17, 18, 19, 20, 21, 22, 23, 24, 25, 26, 27, 28, 29, 30, 31, 32, 33, 34, 35, 36, 37, 38, 39, 40, 41, 42, 43, 44, 45, 46] (by decide +kernel) (by decide +kernel)
set_option maxRecDepth 20000 in
theorem gX5_as_X5_isSeat : GoodIn wsX5_as (wsV RX5 155 RX5 yX5_isSeat wsX5_isSeat) := goodIn_app (goodIn_of _ (by decide +kernel)) ggX5_as_X5_isSeat
set_option maxRecDepth 20000 in
theorem ggX5_as_X5_in : GoodIn wsX5_as wsX5_in := goodIn_r _ [11] (by decide +kernel) (by decide +kernel)
set_option maxRecDepth 20000 in
theorem gX5_as_X5_in : GoodIn wsX5_as (va_wsS RX5 64 yX5_in wsX5_in) := goodIn_app (goodIn_of _ (by decide +kernel)) ggX5_as_X5_in
theorem dX5_as_0 : decode cX5_as 0 = .ok (.aload_n 0, 1) := by decide +kernel
theorem dX5_as_1 : decode cX5_as 1 = .ok (.iload_n 1, 1) := by decide +kernel
theorem dX5_as_2 : decode cX5_as 2 = .ok (.invokevirtual 155, 3) := by decide +kernel
theorem dX5_as_5 : decode cX5_as 5 = .ok (.ifCond .ne 6, 3) := by decide +kernel
theorem dX5_as_8 : decode cX5_as 8 = .ok (.bipush (-101), 2) := by decide +kernel
theorem dX5_as_10 : decode cX5_as 10 = .ok (.ireturn, 1) := by decide +kernel
theorem dX5_as_11 : decode cX5_as 11 = .ok (.iload_n 2, 1) := by decide +kernel
theorem dX5_as_12 : decode cX5_as 12 = .ok (.i2l, 1) := by decide +kernel
theorem dX5_as_13 : decode cX5_as 13 = .ok (.lconst 0, 1) := by decide +kernel
theorem dX5_as_14 : decode cX5_as 14 = .ok (.ldc2_w 161, 3) := by decide +kernel
theorem dX5_as_17 : decode cX5_as 17 = .ok (.invokestatic 64, 3) := by decide +kernel
theorem dX5_as_20 : decode cX5_as 20 = .ok (.ifCond .ne 6, 3) := by decide +kernel
theorem dX5_as_23 : decode cX5_as 23 = .ok (.bipush (-102), 2) := by decide +kernel
theorem dX5_as_25 : decode cX5_as 25 = .ok (.ireturn, 1) := by decide +kernel
theorem dX5_as_26 : decode cX5_as 26 = .ok (.aload_n 0, 1) := by decide +kernel
theorem dX5_as_27 : decode cX5_as 27 = .ok (.getfield 16, 3) := by decide +kernel
theorem dX5_as_30 : decode cX5_as 30 = .ok (.iconst 3, 1) := by decide +kernel
theorem dX5_as_31 : decode cX5_as 31 = .ok (.iload_n 1, 1) := by decide +kernel
theorem dX5_as_32 : decode cX5_as 32 = .ok (.imul, 1) := by decide +kernel
theorem dX5_as_33 : decode cX5_as 33 = .ok (.iaload, 1) := by decide +kernel
theorem dX5_as_34 : decode cX5_as 34 = .ok (.istore_n 3, 1) := by decide +kernel
theorem dX5_as_35 : decode cX5_as 35 = .ok (.iload_n 2, 1) := by decide +kernel
theorem dX5_as_36 : decode cX5_as 36 = .ok (.ifCond .eq 18, 3) := by decide +kernel
theorem dX5_as_39 : decode cX5_as 39 = .ok (.iload_n 2, 1) := by decide +kernel
theorem dX5_as_40 : decode cX5_as 40 = .ok (.iload_n 3, 1) := by decide +kernel
theorem dX5_as_41 : decode cX5_as 41 = .ok (.if_icmp .eq 13, 3) := by decide +kernel
theorem dX5_as_44 : decode cX5_as 44 = .ok (.iload_n 2, 1) := by decide +kernel
theorem dX5_as_45 : decode cX5_as 45 = .ok (.iconst 1, 1) := by decide +kernel
theorem dX5_as_46 : decode cX5_as 46 = .ok (.if_icmp .ne 12, 3) := by decide +kernel
theorem dX5_as_49 : decode cX5_as 49 = .ok (.iload_n 3, 1) := by decide +kernel
theorem dX5_as_50 : decode cX5_as 50 = .ok (.iconst 4, 1) := by decide +kernel
theorem dX5_as_51 : decode cX5_as 51 = .ok (.if_icmp .ne 7, 3) := by decide +kernel
theorem dX5_as_54 : decode cX5_as 54 = .ok (.iconst 1, 1) := by decide +kernel
theorem dX5_as_55 : decode cX5_as 55 = .ok (.goto 4, 3) := by decide +kernel
theorem dX5_as_58 : decode cX5_as 58 = .ok (.iconst 0, 1) := by decide +kernel
theorem dX5_as_59 : decode cX5_as 59 = .ok (.istore 4, 2) := by decide +kernel
theorem dX5_as_61 : decode cX5_as 61 = .ok (.iload 4, 2) := by decide +kernel
theorem dX5_as_63 : decode cX5_as 63 = .ok (.ifCond .eq 7, 3) := by decide +kernel
theorem dX5_as_66 : decode cX5_as 66 = .ok (.iload_n 1, 1) := by decide +kernel
theorem dX5_as_67 : decode cX5_as 67 = .ok (.goto 4, 3) := by decide +kernel
theorem dX5_as_70 : decode cX5_as 70 = .ok (.iconst (-1), 1) := by decide +kernel
theorem dX5_as_71 : decode cX5_as 71 = .ok (.ireturn, 1) := by decide +kernel
set_option maxRecDepth 20000 in
theorem ggX5_get_X5_isSeat : GoodIn wsX5_get wsX5_isSeat := goodIn_r _ [6, 7, 8, 9, 5, 10, 34, 35, 36, 37, 38, 39, 40, 41, 42, 43, 44, 45, 46, 47, 48, 49, 50, 51, 52, 53, 54, 55, 56, 57, 58, 59, 60, 61, 62, 63, 64, 65, 66, 67, 68] (by decide +kernel) (by decide +kernel)
set_option maxRecDepth 20000 in
theorem gX5_get_X5_isSeat : GoodIn wsX5_get (wsV RX5 155 RX5 yX5_isSeat wsX5_isSeat) := goodIn_app (goodIn_of _ (by decide +kernel)) ggX5_get_X5_isSeat
set_option maxRecDepth 20000 in
theorem ggX5_get_X5_in : GoodIn wsX5_get wsX5_in := goodIn_r _ [10] (by decide +kernel) (by decide +kernel)
set_option maxRecDepth 20000 in
theorem gX5_get_X5_in : GoodIn wsX5_get (va_wsS RX5 64 yX5_in wsX5_in) := goodIn_app (goodIn_of _ (by decide +kernel)) ggX5_get_X5_in
set_option maxRecDepth 20000 in
theorem ggX5_get_X5_fewFrom : GoodIn wsX5_get wsX5_fewFrom := goodIn_r _ [14, 15, 16, 17, 18, 5, 19, 7, 20, 21, 22, 23, 24, 25, 26, 27, 28, 29, 34, 35, 36, 37, 38, 39, 40, 41, 42, 43, 44, 45, 46, 47, 48, 49, 50, 51, 52, 53, 54, 55, 56, 57, 58, 59, 60, 61, 62, 63, 64, 65, 66, 67, 68] (by decide +kernel) (by decide +kernel)
set_option maxRecDepth 20000 in
theorem gX5_get_X5_fewFrom : GoodIn wsX5_get (wsV RX5 152 RX5 yX5_fewFrom wsX5_fewFrom) := goodIn_app (goodIn_of _ (by decide +kernel)) ggX5_get_X5_fewFrom
set_option maxRecDepth 20000 in
theorem ggX5_get_X5_firstOf : GoodIn wsX5_get wsX5_firstOf := goodIn_r _ [33, 1, 7, 11, 12, 13, 5, 14, 15, 16, 17, 18, 19, 20, 21, 22, 23, 24, 25, 26, 27, 28, 29, 34, 35, 36, 37, 38, 39, 40, 41, 42, 43, 44, 45, 46, 47, 48, 49, 50, 51, 52, 53, 54, 55, 56, 57, 58, 59, 60, 61, 62, 63, 64, 65, 66, 67, 68] (by decide +kernel) (by decide +kernel)
set_option maxRecDepth 20000 in
theorem gX5_get_X5_firstOf : GoodIn wsX5_get (wsV RX5 163 RX5 yX5_firstOf wsX5_firstOf) := goodIn_app (goodIn_of _ (by decide +kernel)) ggX5_get_X5_firstOf
theorem dX5_get_0 : decode cX5_get 0 = .ok (.aload_n 0, 1) := by decide +kernel
theorem dX5_get_1 : decode cX5_get 1 = .ok (.iload_n 1, 1) := by decide +kernel
theorem dX5_get_2 : decode cX5_get 2 = .ok (.invokevirtual 155, 3) := by decide +kernel
theorem dX5_get_5 : decode cX5_get 5 = .ok (.ifCond .ne 6, 3) := by decide +kernel
theorem dX5_get_8 : decode cX5_get 8 = .ok (.bipush (-101), 2) := by decide +kernel
theorem dX5_get_10 : decode cX5_get 10 = .ok (.ireturn, 1) := by decide +kernel
theorem dX5_get_11 : decode cX5_get 11 = .ok (.iload_n 2, 1) := by decide +kernel
theorem dX5_get_12 : decode cX5_get 12 = .ok (.i2l, 1) := by decide +kernel
theorem dX5_get_13 : decode cX5_get 13 = .ok (.lconst 0, 1) := by decide +kernel
theorem dX5_get_14 : decode cX5_get 14 = .ok (.lconst 1, 1) := by decide +kernel
theorem dX5_get_15 : decode cX5_get 15 = .ok (.invokestatic 64, 3) := by decide +kernel
theorem dX5_get_18 : decode cX5_get 18 = .ok (.ifCond .ne 6, 3) := by decide +kernel
theorem dX5_get_21 : decode cX5_get 21 = .ok (.bipush (-102), 2) := by decide +kernel
theorem dX5_get_23 : decode cX5_get 23 = .ok (.ireturn, 1) := by decide +kernel
theorem dX5_get_24 : decode cX5_get 24 = .ok (.iload_n 2, 1) := by decide +kernel
theorem dX5_get_25 : decode cX5_get 25 = .ok (.ifCond .ne 15, 3) := by decide +kernel
theorem dX5_get_28 : decode cX5_get 28 = .ok (.aload_n 0, 1) := by decide +kernel
theorem dX5_get_29 : decode cX5_get 29 = .ok (.aload_n 0, 1) := by decide +kernel
theorem dX5_get_30 : decode cX5_get 30 = .ok (.getfield 59, 3) := by decide +kernel
theorem dX5_get_33 : decode cX5_get 33 = .ok (.iload_n 1, 1) := by decide +kernel
theorem dX5_get_34 : decode cX5_get 34 = .ok (.invokevirtual 152, 3) := by decide +kernel
theorem dX5_get_37 : decode cX5_get 37 = .ok (.goto 8, 3) := by decide +kernel
theorem dX5_get_40 : decode cX5_get 40 = .ok (.aload_n 0, 1) := by decide +kernel
theorem dX5_get_41 : decode cX5_get 41 = .ok (.iload_n 1, 1) := by decide +kernel
theorem dX5_get_42 : decode cX5_get 42 = .ok (.invokevirtual 163, 3) := by decide +kernel
theorem dX5_get_45 : decode cX5_get 45 = .ok (.ireturn, 1) := by decide +kernel
set_option maxRecDepth 20000 in
theorem ggX5_worthAtEnd_X5_isSeat : GoodIn wsX5_worthAtEnd wsX5_isSeat := goodIn_r _ [6, 7, 8, 9, 5, 10, 11, 12, 13, 14, 15, 16, 17, 18, 19, 20, 21, 22, 23, 24, 25, 26, 27, 28, 29, 30, 31, 32, 33, 34, 35, 36, 37, 38, 39, 40, 41, 42, 43, 44, 45] (by decide +kernel) (by decide +kernel)
set_option maxRecDepth 20000 in
theorem gX5_worthAtEnd_X5_isSeat : GoodIn wsX5_worthAtEnd (wsV RX5 155 RX5 yX5_isSeat wsX5_isSeat) := goodIn_app (goodIn_of _ (by decide +kernel)) ggX5_worthAtEnd_X5_isSeat
theorem dX5_worthAtEnd_0 : decode cX5_worthAtEnd 0 = .ok (.iload_n 1, 1) := by decide +kernel
theorem dX5_worthAtEnd_1 : decode cX5_worthAtEnd 1 = .ok (.bipush 8, 2) := by decide +kernel
theorem dX5_worthAtEnd_3 : decode cX5_worthAtEnd 3 = .ok (.irem, 1) := by decide +kernel
theorem dX5_worthAtEnd_4 : decode cX5_worthAtEnd 4 = .ok (.istore_n 2, 1) := by decide +kernel
theorem dX5_worthAtEnd_5 : decode cX5_worthAtEnd 5 = .ok (.aload_n 0, 1) := by decide +kernel
theorem dX5_worthAtEnd_6 : decode cX5_worthAtEnd 6 = .ok (.iload_n 2, 1) := by decide +kernel
theorem dX5_worthAtEnd_7 : decode cX5_worthAtEnd 7 = .ok (.invokevirtual 155, 3) := by decide +kernel
theorem dX5_worthAtEnd_10 : decode cX5_worthAtEnd 10 = .ok (.ifCond .ne 7, 3) := by decide +kernel
theorem dX5_worthAtEnd_13 : decode cX5_worthAtEnd 13 = .ok (.iconst 1, 1) := by decide +kernel
theorem dX5_worthAtEnd_14 : decode cX5_worthAtEnd 14 = .ok (.goto 21, 3) := by decide +kernel
theorem dX5_worthAtEnd_17 : decode cX5_worthAtEnd 17 = .ok (.aload_n 0, 1) := by decide +kernel
theorem dX5_worthAtEnd_18 : decode cX5_worthAtEnd 18 = .ok (.getfield 16, 3) := by decide +kernel
theorem dX5_worthAtEnd_21 : decode cX5_worthAtEnd 21 = .ok (.iconst 3, 1) := by decide +kernel
theorem dX5_worthAtEnd_22 : decode cX5_worthAtEnd 22 = .ok (.iload_n 2, 1) := by decide +kernel
theorem dX5_worthAtEnd_23 : decode cX5_worthAtEnd 23 = .ok (.imul, 1) := by decide +kernel
theorem dX5_worthAtEnd_24 : decode cX5_worthAtEnd 24 = .ok (.iconst 1, 1) := by decide +kernel
theorem dX5_worthAtEnd_25 : decode cX5_worthAtEnd 25 = .ok (.iadd, 1) := by decide +kernel
theorem dX5_worthAtEnd_26 : decode cX5_worthAtEnd 26 = .ok (.iaload, 1) := by decide +kernel
theorem dX5_worthAtEnd_27 : decode cX5_worthAtEnd 27 = .ok (.ifCond .ne 7, 3) := by decide +kernel
theorem dX5_worthAtEnd_30 : decode cX5_worthAtEnd 30 = .ok (.iconst 2, 1) := by decide +kernel
theorem dX5_worthAtEnd_31 : decode cX5_worthAtEnd 31 = .ok (.goto 4, 3) := by decide +kernel
theorem dX5_worthAtEnd_34 : decode cX5_worthAtEnd 34 = .ok (.iconst 0, 1) := by decide +kernel
theorem dX5_worthAtEnd_35 : decode cX5_worthAtEnd 35 = .ok (.ireturn, 1) := by decide +kernel
set_option maxRecDepth 20000 in
theorem ggX5_layPlay_X5_worthAtEnd : GoodIn wsX5_layPlay wsX5_worthAtEnd := goodIn_r _ [11, 3, 12, 13, 14, 10, 15, 2, 16, 17, 18, 31, 32, 33, 34, 35, 36, 37, 38, 39, 40, 41, 42, 43, 44, 45, 46, 47, 48, 49, 50, 51, 52, 53, 54, 55, 56, 57, 58, 59, 60, 61, 62, 63, 64, 65] (by decide +kernel) (by decide +kernel)
set_option maxRecDepth 20000 in
theorem gX5_layPlay_X5_worthAtEnd : GoodIn wsX5_layPlay (wsV RX5 166 RX5 yX5_worthAtEnd wsX5_worthAtEnd) := goodIn_app (goodIn_of _ (by decide +kernel)) ggX5_layPlay_X5_worthAtEnd
set_option maxRecDepth 20000 in
theorem ggX5_layPlay_X5_counts : GoodIn wsX5_layPlay wsX5_counts := goodIn_r _ [22, 3, 23, 31, 32, 33, 34, 35, 36, 37, 38, 39, 40, 41, 42, 43, 44, 45, 46, 47, 48, 49, 50, 51, 52, 53, 54, 55, 56, 57, 58, 59, 60, 61, 62, 63, 64, 65] (by decide +kernel) (by decide +kernel)
set_option maxRecDepth 20000 in
theorem gX5_layPlay_X5_counts : GoodIn wsX5_layPlay (wsV RX5 124 RX5 yX5_counts wsX5_counts) := goodIn_app (goodIn_of _ (by decide +kernel)) ggX5_layPlay_X5_counts
set_option maxRecDepth 20000 in
theorem ggX5_layPlay_X5_behind : GoodIn wsX5_layPlay wsX5_behind := goodIn_r _ [27, 3, 2, 31, 32, 33, 34, 35, 36, 37, 38, 39, 40, 41, 42, 43, 44, 45, 46, 47, 48, 49, 50, 51, 52, 53, 54, 55, 56, 57, 58, 59, 60, 61, 62, 63, 64, 65] (by decide +kernel) (by decide +kernel)
set_option maxRecDepth 20000 in
theorem gX5_layPlay_X5_behind : GoodIn wsX5_layPlay (wsV RX5 134 RX5 yX5_behind wsX5_behind) := goodIn_app (goodIn_of _ (by decide +kernel)) ggX5_layPlay_X5_behind
set_option maxRecDepth 20000 in
theorem ggX5_layPlay_X5_copy : GoodIn wsX5_layPlay wsX5_copy := goodIn_r _ [30] (by decide +kernel) (by decide +kernel)
set_option maxRecDepth 20000 in
theorem gX5_layPlay_X5_copy : GoodIn wsX5_layPlay (va_wsS RX5 172 yX5_copy wsX5_copy) := goodIn_app (goodIn_of _ (by decide +kernel)) ggX5_layPlay_X5_copy
theorem dX5_layPlay_0 : decode cX5_layPlay 0 = .ok (.iconst 0, 1) := by decide +kernel
theorem dX5_layPlay_1 : decode cX5_layPlay 1 = .ok (.istore_n 2, 1) := by decide +kernel
theorem dX5_layPlay_2 : decode cX5_layPlay 2 = .ok (.iload_n 2, 1) := by decide +kernel
theorem dX5_layPlay_3 : decode cX5_layPlay 3 = .ok (.bipush 64, 2) := by decide +kernel
theorem dX5_layPlay_5 : decode cX5_layPlay 5 = .ok (.if_icmp .ge 20, 3) := by decide +kernel
theorem dX5_layPlay_8 : decode cX5_layPlay 8 = .ok (.aload_n 0, 1) := by decide +kernel
theorem dX5_layPlay_9 : decode cX5_layPlay 9 = .ok (.getfield 22, 3) := by decide +kernel
theorem dX5_layPlay_12 : decode cX5_layPlay 12 = .ok (.iload_n 2, 1) := by decide +kernel
theorem dX5_layPlay_13 : decode cX5_layPlay 13 = .ok (.aload_n 0, 1) := by decide +kernel
theorem dX5_layPlay_14 : decode cX5_layPlay 14 = .ok (.iload_n 2, 1) := by decide +kernel
theorem dX5_layPlay_15 : decode cX5_layPlay 15 = .ok (.invokevirtual 166, 3) := by decide +kernel
theorem dX5_layPlay_18 : decode cX5_layPlay 18 = .ok (.iastore, 1) := by decide +kernel
theorem dX5_layPlay_19 : decode cX5_layPlay 19 = .ok (.iinc 2 1, 3) := by decide +kernel
theorem dX5_layPlay_22 : decode cX5_layPlay 22 = .ok (.goto (-20), 3) := by decide +kernel
theorem dX5_layPlay_25 : decode cX5_layPlay 25 = .ok (.iconst 1, 1) := by decide +kernel
theorem dX5_layPlay_26 : decode cX5_layPlay 26 = .ok (.istore_n 2, 1) := by decide +kernel
theorem dX5_layPlay_27 : decode cX5_layPlay 27 = .ok (.iload_n 2, 1) := by decide +kernel
theorem dX5_layPlay_28 : decode cX5_layPlay 28 = .ok (.iload_n 1, 1) := by decide +kernel
theorem dX5_layPlay_29 : decode cX5_layPlay 29 = .ok (.if_icmp .gt 215, 3) := by decide +kernel
theorem dX5_layPlay_32 : decode cX5_layPlay 32 = .ok (.iload_n 1, 1) := by decide +kernel
theorem dX5_layPlay_33 : decode cX5_layPlay 33 = .ok (.iload_n 2, 1) := by decide +kernel
theorem dX5_layPlay_34 : decode cX5_layPlay 34 = .ok (.isub, 1) := by decide +kernel
theorem dX5_layPlay_35 : decode cX5_layPlay 35 = .ok (.iconst 2, 1) := by decide +kernel
theorem dX5_layPlay_36 : decode cX5_layPlay 36 = .ok (.irem, 1) := by decide +kernel
theorem dX5_layPlay_37 : decode cX5_layPlay 37 = .ok (.istore_n 3, 1) := by decide +kernel
theorem dX5_layPlay_38 : decode cX5_layPlay 38 = .ok (.iconst 0, 1) := by decide +kernel
theorem dX5_layPlay_39 : decode cX5_layPlay 39 = .ok (.istore 4, 2) := by decide +kernel
theorem dX5_layPlay_41 : decode cX5_layPlay 41 = .ok (.iload 4, 2) := by decide +kernel
theorem dX5_layPlay_43 : decode cX5_layPlay 43 = .ok (.bipush 64, 2) := by decide +kernel
theorem dX5_layPlay_45 : decode cX5_layPlay 45 = .ok (.if_icmp .ge 182, 3) := by decide +kernel
theorem dX5_layPlay_48 : decode cX5_layPlay 48 = .ok (.aload_n 0, 1) := by decide +kernel
theorem dX5_layPlay_49 : decode cX5_layPlay 49 = .ok (.getfield 22, 3) := by decide +kernel
