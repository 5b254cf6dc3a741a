theorem dX3_init_0 : decode cX3_init 0 = .ok (.aload_n 0, 1) := by decide +kernel
theorem dX3_init_1 : decode cX3_init 1 = .ok (.invokespecial 3, 3) := by decide +kernel
theorem dX3_init_4 : decode cX3_init 4 = .ok (.aload_n 0, 1) := by decide +kernel
theorem dX3_init_5 : decode cX3_init 5 = .ok (.iconst (-1), 1) := by decide +kernel
theorem dX3_init_6 : decode cX3_init 6 = .ok (.putfield 9, 3) := by decide +kernel
theorem dX3_init_9 : decode cX3_init 9 = .ok (.aload_n 0, 1) := by decide +kernel
theorem dX3_init_10 : decode cX3_init 10 = .ok (.iconst (-1), 1) := by decide +kernel
theorem dX3_init_11 : decode cX3_init 11 = .ok (.putfield 15, 3) := by decide +kernel
theorem dX3_init_14 : decode cX3_init 14 = .ok (.aload_n 0, 1) := by decide +kernel
theorem dX3_init_15 : decode cX3_init 15 = .ok (.iconst 5, 1) := by decide +kernel
theorem dX3_init_16 : decode cX3_init 16 = .ok (.newarray .int, 2) := by decide +kernel
theorem dX3_init_18 : decode cX3_init 18 = .ok (.putfield 18, 3) := by decide +kernel
theorem dX3_init_21 : decode cX3_init 21 = .ok (.aload_n 0, 1) := by decide +kernel
theorem dX3_init_22 : decode cX3_init 22 = .ok (.bipush 8, 2) := by decide +kernel
theorem dX3_init_24 : decode cX3_init 24 = .ok (.newarray .int, 2) := by decide +kernel
theorem dX3_init_26 : decode cX3_init 26 = .ok (.putfield 22, 3) := by decide +kernel
theorem dX3_init_29 : decode cX3_init 29 = .ok (.aload_n 0, 1) := by decide +kernel
theorem dX3_init_30 : decode cX3_init 30 = .ok (.bipush 8, 2) := by decide +kernel
theorem dX3_init_32 : decode cX3_init 32 = .ok (.newarray .int, 2) := by decide +kernel
theorem dX3_init_34 : decode cX3_init 34 = .ok (.putfield 25, 3) := by decide +kernel
theorem dX3_init_37 : decode cX3_init 37 = .ok (.return_, 1) := by decide +kernel
set_option maxRecDepth 20000 in
theorem ggX3_beginAll_X3_beginCase : GoodIn wsX3_beginAll wsX3_beginCase := goodIn_r _ [11, 12, 13, 14, 15, 19, 20, 21, 22, 23, 24, 25, 26, 27, 28, 29, 30] (by decide +kernel) (by decide +kernel)
set_option maxRecDepth 20000 in
theorem gX3_beginAll_X3_beginCase : GoodIn wsX3_beginAll (wsV RX3 28 RX3 yX3_beginCase wsX3_beginCase) := goodIn_app (goodIn_of _ (by decide +kernel)) ggX3_beginAll_X3_beginCase
set_option maxRecDepth 20000 in
theorem ggX3_beginAll_X4_fill : GoodIn wsX3_beginAll wsX4_fill := goodIn_r _ [18] (by decide +kernel) (by decide +kernel)
set_option maxRecDepth 20000 in
theorem gX3_beginAll_X4_fill_n46 : GoodIn wsX3_beginAll (wsX4_fill) := ggX3_beginAll_X4_fill
theorem dX3_beginAll_0 : decode cX3_beginAll 0 = .ok (.aload_n 0, 1) := by decide +kernel
theorem dX3_beginAll_1 : decode cX3_beginAll 1 = .ok (.invokevirtual 28, 3) := by decide +kernel
theorem dX3_beginAll_4 : decode cX3_beginAll 4 = .ok (.aload_n 0, 1) := by decide +kernel
theorem dX3_beginAll_5 : decode cX3_beginAll 5 = .ok (.iconst 0, 1) := by decide +kernel
theorem dX3_beginAll_6 : decode cX3_beginAll 6 = .ok (.putfield 31, 3) := by decide +kernel
theorem dX3_beginAll_9 : decode cX3_beginAll 9 = .ok (.aload_n 0, 1) := by decide +kernel
theorem dX3_beginAll_10 : decode cX3_beginAll 10 = .ok (.iconst 0, 1) := by decide +kernel
theorem dX3_beginAll_11 : decode cX3_beginAll 11 = .ok (.putfield 34, 3) := by decide +kernel
theorem dX3_beginAll_14 : decode cX3_beginAll 14 = .ok (.aload_n 0, 1) := by decide +kernel
theorem dX3_beginAll_15 : decode cX3_beginAll 15 = .ok (.iconst 0, 1) := by decide +kernel
theorem dX3_beginAll_16 : decode cX3_beginAll 16 = .ok (.putfield 37, 3) := by decide +kernel
theorem dX3_beginAll_19 : decode cX3_beginAll 19 = .ok (.aload_n 0, 1) := by decide +kernel
theorem dX3_beginAll_20 : decode cX3_beginAll 20 = .ok (.iconst 0, 1) := by decide +kernel
theorem dX3_beginAll_21 : decode cX3_beginAll 21 = .ok (.putfield 40, 3) := by decide +kernel
theorem dX3_beginAll_24 : decode cX3_beginAll 24 = .ok (.aload_n 0, 1) := by decide +kernel
theorem dX3_beginAll_25 : decode cX3_beginAll 25 = .ok (.iconst 0, 1) := by decide +kernel
theorem dX3_beginAll_26 : decode cX3_beginAll 26 = .ok (.putfield 43, 3) := by decide +kernel
theorem dX3_beginAll_29 : decode cX3_beginAll 29 = .ok (.aload_n 0, 1) := by decide +kernel
theorem dX3_beginAll_30 : decode cX3_beginAll 30 = .ok (.getfield 18, 3) := by decide +kernel
theorem dX3_beginAll_33 : decode cX3_beginAll 33 = .ok (.iconst 0, 1) := by decide +kernel
theorem dX3_beginAll_34 : decode cX3_beginAll 34 = .ok (.invokestatic 46, 3) := by decide +kernel
theorem dX3_beginAll_37 : decode cX3_beginAll 37 = .ok (.return_, 1) := by decide +kernel
theorem dX3_beginCase_0 : decode cX3_beginCase 0 = .ok (.aload_n 0, 1) := by decide +kernel
theorem dX3_beginCase_1 : decode cX3_beginCase 1 = .ok (.iconst (-1), 1) := by decide +kernel
theorem dX3_beginCase_2 : decode cX3_beginCase 2 = .ok (.putfield 9, 3) := by decide +kernel
theorem dX3_beginCase_5 : decode cX3_beginCase 5 = .ok (.aload_n 0, 1) := by decide +kernel
theorem dX3_beginCase_6 : decode cX3_beginCase 6 = .ok (.iconst (-1), 1) := by decide +kernel
theorem dX3_beginCase_7 : decode cX3_beginCase 7 = .ok (.putfield 15, 3) := by decide +kernel
theorem dX3_beginCase_10 : decode cX3_beginCase 10 = .ok (.aload_n 0, 1) := by decide +kernel
theorem dX3_beginCase_11 : decode cX3_beginCase 11 = .ok (.iconst 0, 1) := by decide +kernel
theorem dX3_beginCase_12 : decode cX3_beginCase 12 = .ok (.putfield 50, 3) := by decide +kernel
theorem dX3_beginCase_15 : decode cX3_beginCase 15 = .ok (.aload_n 0, 1) := by decide +kernel
theorem dX3_beginCase_16 : decode cX3_beginCase 16 = .ok (.iconst 0, 1) := by decide +kernel
theorem dX3_beginCase_17 : decode cX3_beginCase 17 = .ok (.putfield 53, 3) := by decide +kernel
theorem dX3_beginCase_20 : decode cX3_beginCase 20 = .ok (.return_, 1) := by decide +kernel
set_option maxRecDepth 20000 in
theorem ggX3_takeFrom_X4_copy : GoodIn wsX3_takeFrom wsX4_copy := goodIn_r _ [15, 16, 17, 14, 18] (by decide +kernel) (by decide +kernel)
set_option maxRecDepth 20000 in
theorem gX3_takeFrom_X4_copy_n56 : GoodIn wsX3_takeFrom (wsX4_copy) := ggX3_takeFrom_X4_copy
theorem dX3_takeFrom_0 : decode cX3_takeFrom 0 = .ok (.aload_n 1, 1) := by decide +kernel
theorem dX3_takeFrom_1 : decode cX3_takeFrom 1 = .ok (.ifnonnull 4, 3) := by decide +kernel
theorem dX3_takeFrom_4 : decode cX3_takeFrom 4 = .ok (.return_, 1) := by decide +kernel
theorem dX3_takeFrom_5 : decode cX3_takeFrom 5 = .ok (.aload_n 0, 1) := by decide +kernel
theorem dX3_takeFrom_6 : decode cX3_takeFrom 6 = .ok (.aload_n 1, 1) := by decide +kernel
theorem dX3_takeFrom_7 : decode cX3_takeFrom 7 = .ok (.getfield 9, 3) := by decide +kernel
theorem dX3_takeFrom_10 : decode cX3_takeFrom 10 = .ok (.putfield 9, 3) := by decide +kernel
theorem dX3_takeFrom_13 : decode cX3_takeFrom 13 = .ok (.aload_n 0, 1) := by decide +kernel
theorem dX3_takeFrom_14 : decode cX3_takeFrom 14 = .ok (.aload_n 1, 1) := by decide +kernel
theorem dX3_takeFrom_15 : decode cX3_takeFrom 15 = .ok (.getfield 15, 3) := by decide +kernel
theorem dX3_takeFrom_18 : decode cX3_takeFrom 18 = .ok (.putfield 15, 3) := by decide +kernel
theorem dX3_takeFrom_21 : decode cX3_takeFrom 21 = .ok (.aload_n 0, 1) := by decide +kernel
theorem dX3_takeFrom_22 : decode cX3_takeFrom 22 = .ok (.aload_n 1, 1) := by decide +kernel
theorem dX3_takeFrom_23 : decode cX3_takeFrom 23 = .ok (.getfield 50, 3) := by decide +kernel
theorem dX3_takeFrom_26 : decode cX3_takeFrom 26 = .ok (.putfield 50, 3) := by decide +kernel
theorem dX3_takeFrom_29 : decode cX3_takeFrom 29 = .ok (.aload_n 0, 1) := by decide +kernel
theorem dX3_takeFrom_30 : decode cX3_takeFrom 30 = .ok (.aload_n 1, 1) := by decide +kernel
theorem dX3_takeFrom_31 : decode cX3_takeFrom 31 = .ok (.getfield 53, 3) := by decide +kernel
theorem dX3_takeFrom_34 : decode cX3_takeFrom 34 = .ok (.putfield 53, 3) := by decide +kernel
theorem dX3_takeFrom_37 : decode cX3_takeFrom 37 = .ok (.aload_n 0, 1) := by decide +kernel
theorem dX3_takeFrom_38 : decode cX3_takeFrom 38 = .ok (.aload_n 1, 1) := by decide +kernel
theorem dX3_takeFrom_39 : decode cX3_takeFrom 39 = .ok (.getfield 31, 3) := by decide +kernel
theorem dX3_takeFrom_42 : decode cX3_takeFrom 42 = .ok (.putfield 31, 3) := by decide +kernel
theorem dX3_takeFrom_45 : decode cX3_takeFrom 45 = .ok (.aload_n 0, 1) := by decide +kernel
theorem dX3_takeFrom_46 : decode cX3_takeFrom 46 = .ok (.aload_n 1, 1) := by decide +kernel
theorem dX3_takeFrom_47 : decode cX3_takeFrom 47 = .ok (.getfield 34, 3) := by decide +kernel
theorem dX3_takeFrom_50 : decode cX3_takeFrom 50 = .ok (.putfield 34, 3) := by decide +kernel
theorem dX3_takeFrom_53 : decode cX3_takeFrom 53 = .ok (.aload_n 0, 1) := by decide +kernel
theorem dX3_takeFrom_54 : decode cX3_takeFrom 54 = .ok (.aload_n 1, 1) := by decide +kernel
theorem dX3_takeFrom_55 : decode cX3_takeFrom 55 = .ok (.getfield 37, 3) := by decide +kernel
theorem dX3_takeFrom_58 : decode cX3_takeFrom 58 = .ok (.putfield 37, 3) := by decide +kernel
theorem dX3_takeFrom_61 : decode cX3_takeFrom 61 = .ok (.aload_n 0, 1) := by decide +kernel
theorem dX3_takeFrom_62 : decode cX3_takeFrom 62 = .ok (.aload_n 1, 1) := by decide +kernel
theorem dX3_takeFrom_63 : decode cX3_takeFrom 63 = .ok (.getfield 40, 3) := by decide +kernel
theorem dX3_takeFrom_66 : decode cX3_takeFrom 66 = .ok (.putfield 40, 3) := by decide +kernel
theorem dX3_takeFrom_69 : decode cX3_takeFrom 69 = .ok (.aload_n 0, 1) := by decide +kernel
theorem dX3_takeFrom_70 : decode cX3_takeFrom 70 = .ok (.aload_n 1, 1) := by decide +kernel
theorem dX3_takeFrom_71 : decode cX3_takeFrom 71 = .ok (.getfield 43, 3) := by decide +kernel
theorem dX3_takeFrom_74 : decode cX3_takeFrom 74 = .ok (.putfield 43, 3) := by decide +kernel
theorem dX3_takeFrom_77 : decode cX3_takeFrom 77 = .ok (.aload_n 1, 1) := by decide +kernel
theorem dX3_takeFrom_78 : decode cX3_takeFrom 78 = .ok (.getfield 18, 3) := by decide +kernel
theorem dX3_takeFrom_81 : decode cX3_takeFrom 81 = .ok (.aload_n 0, 1) := by decide +kernel
theorem dX3_takeFrom_82 : decode cX3_takeFrom 82 = .ok (.getfield 18, 3) := by decide +kernel
theorem dX3_takeFrom_85 : decode cX3_takeFrom 85 = .ok (.invokestatic 56, 3) := by decide +kernel
theorem dX3_takeFrom_88 : decode cX3_takeFrom 88 = .ok (.aload_n 1, 1) := by decide +kernel
theorem dX3_takeFrom_89 : decode cX3_takeFrom 89 = .ok (.getfield 22, 3) := by decide +kernel
theorem dX3_takeFrom_92 : decode cX3_takeFrom 92 = .ok (.aload_n 0, 1) := by decide +kernel
theorem dX3_takeFrom_93 : decode cX3_takeFrom 93 = .ok (.getfield 22, 3) := by decide +kernel
theorem dX3_takeFrom_96 : decode cX3_takeFrom 96 = .ok (.invokestatic 56, 3) := by decide +kernel
theorem dX3_takeFrom_99 : decode cX3_takeFrom 99 = .ok (.aload_n 1, 1) := by decide +kernel
theorem dX3_takeFrom_100 : decode cX3_takeFrom 100 = .ok (.getfield 25, 3) := by decide +kernel
theorem dX3_takeFrom_103 : decode cX3_takeFrom 103 = .ok (.aload_n 0, 1) := by decide +kernel
theorem dX3_takeFrom_104 : decode cX3_takeFrom 104 = .ok (.getfield 25, 3) := by decide +kernel
theorem dX3_takeFrom_107 : decode cX3_takeFrom 107 = .ok (.invokestatic 56, 3) := by decide +kernel
theorem dX3_takeFrom_110 : decode cX3_takeFrom 110 = .ok (.return_, 1) := by decide +kernel
set_option maxRecDepth 20000 in
theorem ggX3_breathe_X4_isIn : GoodIn wsX3_breathe wsX4_isIn := goodIn_r _ [7] (by decide +kernel) (by decide +kernel)
set_option maxRecDepth 20000 in
theorem gX3_breathe_X4_isIn_n60 : GoodIn wsX3_breathe (wsX4_isIn) := ggX3_breathe_X4_isIn
set_option maxRecDepth 20000 in
theorem ggX3_breathe_X0_counts : GoodIn wsX3_breathe wsX0_counts := goodIn_r _ [12, 13, 14, 15, 11, 16, 17, 18, 5, 6, 7, 19, 20, 21, 22, 74, 75, 76, 77] (by decide +kernel) (by decide +kernel)
set_option maxRecDepth 20000 in
theorem gX3_breathe_X0_counts : GoodIn wsX3_breathe (wsV RX3 64 RX0 yX0_counts wsX0_counts) := goodIn_app (goodIn_of _ (by decide +kernel)) ggX3_breathe_X0_counts
set_option maxRecDepth 20000 in
theorem ggX3_breathe_X3_keepSilence : GoodIn wsX3_breathe wsX3_keepSilence := goodIn_r _ [27, 4, 28, 29, 30, 31, 11, 32, 17, 33, 34, 35, 36, 26, 37, 38, 39, 40, 41, 42, 43, 44, 1, 2, 62, 63, 64, 65, 66, 67, 68, 69, 70, 71, 72, 73, 74, 75, 76, 77] (by decide +kernel) (by decide +kernel)
set_option maxRecDepth 20000 in
theorem gX3_breathe_X3_keepSilence : GoodIn wsX3_breathe (wsV RX3 70 RX3 yX3_keepSilence wsX3_keepSilence) := goodIn_app (goodIn_of _ (by decide +kernel)) ggX3_breathe_X3_keepSilence
set_option maxRecDepth 20000 in
theorem ggX3_breathe_X3_speak : GoodIn wsX3_breathe wsX3_speak := goodIn_r _ [48, 49, 1, 28, 50, 6, 51, 52, 53, 54, 55, 56, 11, 57, 17, 13, 14, 15, 16, 18, 58, 59, 60, 61, 62, 63, 64, 65, 66, 67, 68, 69, 70, 71, 72, 73, 74, 75, 76, 77] (by decide +kernel) (by decide +kernel)
set_option maxRecDepth 20000 in
theorem gX3_breathe_X3_speak : GoodIn wsX3_breathe (wsV RX3 74 RX3 yX3_speak wsX3_speak) := goodIn_app (goodIn_of _ (by decide +kernel)) ggX3_breathe_X3_speak
theorem dX3_breathe_0 : decode cX3_breathe 0 = .ok (.aload_n 1, 1) := by decide +kernel
theorem dX3_breathe_1 : decode cX3_breathe 1 = .ok (.ifnonnull 5, 3) := by decide +kernel
theorem dX3_breathe_4 : decode cX3_breathe 4 = .ok (.iconst 0, 1) := by decide +kernel
theorem dX3_breathe_5 : decode cX3_breathe 5 = .ok (.ireturn, 1) := by decide +kernel
theorem dX3_breathe_6 : decode cX3_breathe 6 = .ok (.iconst 0, 1) := by decide +kernel
theorem dX3_breathe_7 : decode cX3_breathe 7 = .ok (.istore_n 3, 1) := by decide +kernel
theorem dX3_breathe_8 : decode cX3_breathe 8 = .ok (.iconst 0, 1) := by decide +kernel
theorem dX3_breathe_9 : decode cX3_breathe 9 = .ok (.istore 4, 2) := by decide +kernel
theorem dX3_breathe_11 : decode cX3_breathe 11 = .ok (.iconst (-1), 1) := by decide +kernel
theorem dX3_breathe_12 : decode cX3_breathe 12 = .ok (.istore 5, 2) := by decide +kernel
theorem dX3_breathe_14 : decode cX3_breathe 14 = .ok (.iconst 0, 1) := by decide +kernel
theorem dX3_breathe_15 : decode cX3_breathe 15 = .ok (.istore 6, 2) := by decide +kernel
theorem dX3_breathe_17 : decode cX3_breathe 17 = .ok (.iload 6, 2) := by decide +kernel
theorem dX3_breathe_19 : decode cX3_breathe 19 = .ok (.iconst 5, 1) := by decide +kernel
theorem dX3_breathe_20 : decode cX3_breathe 20 = .ok (.if_icmp .ge 51, 3) := by decide +kernel
theorem dX3_breathe_23 : decode cX3_breathe 23 = .ok (.iload 6, 2) := by decide +kernel
theorem dX3_breathe_25 : decode cX3_breathe 25 = .ok (.iload_n 2, 1) := by decide +kernel
theorem dX3_breathe_26 : decode cX3_breathe 26 = .ok (.invokestatic 60, 3) := by decide +kernel
theorem dX3_breathe_29 : decode cX3_breathe 29 = .ok (.ifCond .eq 36, 3) := by decide +kernel
theorem dX3_breathe_32 : decode cX3_breathe 32 = .ok (.aload_n 1, 1) := by decide +kernel
theorem dX3_breathe_33 : decode cX3_breathe 33 = .ok (.iload 6, 2) := by decide +kernel
theorem dX3_breathe_35 : decode cX3_breathe 35 = .ok (.aload_n 0, 1) := by decide +kernel
theorem dX3_breathe_36 : decode cX3_breathe 36 = .ok (.getfield 9, 3) := by decide +kernel
theorem dX3_breathe_39 : decode cX3_breathe 39 = .ok (.aload_n 0, 1) := by decide +kernel
theorem dX3_breathe_40 : decode cX3_breathe 40 = .ok (.getfield 50, 3) := by decide +kernel
theorem dX3_breathe_43 : decode cX3_breathe 43 = .ok (.invokevirtual 64, 3) := by decide +kernel
theorem dX3_breathe_46 : decode cX3_breathe 46 = .ok (.ifCond .eq 19, 3) := by decide +kernel
theorem dX3_breathe_49 : decode cX3_breathe 49 = .ok (.iinc 3 1, 3) := by decide +kernel
theorem dX3_breathe_52 : decode cX3_breathe 52 = .ok (.iload 4, 2) := by decide +kernel
theorem dX3_breathe_54 : decode cX3_breathe 54 = .ok (.iconst 1, 1) := by decide +kernel
theorem dX3_breathe_55 : decode cX3_breathe 55 = .ok (.iload 6, 2) := by decide +kernel
theorem dX3_breathe_57 : decode cX3_breathe 57 = .ok (.ishl, 1) := by decide +kernel
theorem dX3_breathe_58 : decode cX3_breathe 58 = .ok (.ior, 1) := by decide +kernel
theorem dX3_breathe_59 : decode cX3_breathe 59 = .ok (.istore 4, 2) := by decide +kernel
theorem dX3_breathe_61 : decode cX3_breathe 61 = .ok (.iload 6, 2) := by decide +kernel
theorem dX3_breathe_63 : decode cX3_breathe 63 = .ok (.istore 5, 2) := by decide +kernel
theorem dX3_breathe_65 : decode cX3_breathe 65 = .ok (.iinc 6 1, 3) := by decide +kernel
theorem dX3_breathe_68 : decode cX3_breathe 68 = .ok (.goto (-51), 3) := by decide +kernel
theorem dX3_breathe_71 : decode cX3_breathe 71 = .ok (.aload_n 0, 1) := by decide +kernel
theorem dX3_breathe_72 : decode cX3_breathe 72 = .ok (.dup, 1) := by decide +kernel
theorem dX3_breathe_73 : decode cX3_breathe 73 = .ok (.getfield 40, 3) := by decide +kernel
theorem dX3_breathe_76 : decode cX3_breathe 76 = .ok (.iconst 1, 1) := by decide +kernel
theorem dX3_breathe_77 : decode cX3_breathe 77 = .ok (.iadd, 1) := by decide +kernel
theorem dX3_breathe_78 : decode cX3_breathe 78 = .ok (.putfield 40, 3) := by decide +kernel
theorem dX3_breathe_81 : decode cX3_breathe 81 = .ok (.iload_n 3, 1) := by decide +kernel
theorem dX3_breathe_82 : decode cX3_breathe 82 = .ok (.ifCond .ne 11, 3) := by decide +kernel
theorem dX3_breathe_85 : decode cX3_breathe 85 = .ok (.aload_n 0, 1) := by decide +kernel
theorem dX3_breathe_86 : decode cX3_breathe 86 = .ok (.aload_n 1, 1) := by decide +kernel
theorem dX3_breathe_87 : decode cX3_breathe 87 = .ok (.invokevirtual 70, 3) := by decide +kernel
theorem dX3_breathe_90 : decode cX3_breathe 90 = .ok (.goto 34, 3) := by decide +kernel
theorem dX3_breathe_93 : decode cX3_breathe 93 = .ok (.aload_n 0, 1) := by decide +kernel
theorem dX3_breathe_94 : decode cX3_breathe 94 = .ok (.iconst 0, 1) := by decide +kernel
theorem dX3_breathe_95 : decode cX3_breathe 95 = .ok (.putfield 53, 3) := by decide +kernel
theorem dX3_breathe_98 : decode cX3_breathe 98 = .ok (.iload_n 3, 1) := by decide +kernel
theorem dX3_breathe_99 : decode cX3_breathe 99 = .ok (.iconst 1, 1) := by decide +kernel
theorem dX3_breathe_100 : decode cX3_breathe 100 = .ok (.if_icmp .ne 13, 3) := by decide +kernel
theorem dX3_breathe_103 : decode cX3_breathe 103 = .ok (.aload_n 0, 1) := by decide +kernel
theorem dX3_breathe_104 : decode cX3_breathe 104 = .ok (.aload_n 1, 1) := by decide +kernel
theorem dX3_breathe_105 : decode cX3_breathe 105 = .ok (.iload 5, 2) := by decide +kernel
theorem dX3_breathe_107 : decode cX3_breathe 107 = .ok (.invokevirtual 74, 3) := by decide +kernel
theorem dX3_breathe_110 : decode cX3_breathe 110 = .ok (.goto 14, 3) := by decide +kernel
theorem dX3_breathe_113 : decode cX3_breathe 113 = .ok (.aload_n 0, 1) := by decide +kernel
theorem dX3_breathe_114 : decode cX3_breathe 114 = .ok (.aload_n 0, 1) := by decide +kernel
theorem dX3_breathe_115 : decode cX3_breathe 115 = .ok (.getfield 50, 3) := by decide +kernel
theorem dX3_breathe_118 : decode cX3_breathe 118 = .ok (.iload 4, 2) := by decide +kernel
theorem dX3_breathe_120 : decode cX3_breathe 120 = .ok (.ior, 1) := by decide +kernel
theorem dX3_breathe_121 : decode cX3_breathe 121 = .ok (.putfield 50, 3) := by decide +kernel
theorem dX3_breathe_124 : decode cX3_breathe 124 = .ok (.iload_n 3, 1) := by decide +kernel
theorem dX3_breathe_125 : decode cX3_breathe 125 = .ok (.ireturn, 1) := by decide +kernel
set_option maxRecDepth 20000 in
theorem ggX3_speak_X4_at : GoodIn wsX3_speak wsX4_at := goodIn_r _ [6] (by decide +kernel) (by decide +kernel)
set_option maxRecDepth 20000 in
theorem gX3_speak_X4_at_n78 : GoodIn wsX3_speak (wsX4_at) := ggX3_speak_X4_at
set_option maxRecDepth 20000 in
theorem ggX3_speak_X4_put : GoodIn wsX3_speak wsX4_put := goodIn_r _ [8] (by decide +kernel) (by decide +kernel)
set_option maxRecDepth 20000 in
theorem gX3_speak_X4_put_n82 : GoodIn wsX3_speak (wsX4_put) := ggX3_speak_X4_put
set_option maxRecDepth 20000 in
theorem ggX3_speak_X0_believedBehind : GoodIn wsX3_speak wsX0_believedBehind := goodIn_r _ [13, 14, 15, 16, 17, 12, 18, 19, 36, 37, 38, 39] (by decide +kernel) (by decide +kernel)
set_option maxRecDepth 20000 in
theorem gX3_speak_X0_believedBehind : GoodIn wsX3_speak (wsV RX3 86 RX0 yX0_believedBehind wsX0_believedBehind) := goodIn_app (goodIn_of _ (by decide +kernel)) ggX3_speak_X0_believedBehind
set_option maxRecDepth 20000 in
theorem ggX3_speak_X0_lastBehind : GoodIn wsX3_speak wsX0_lastBehind := goodIn_r _ [23, 15, 16, 17, 12, 18, 14, 19, 36, 37, 38, 39] (by decide +kernel) (by decide +kernel)
set_option maxRecDepth 20000 in
theorem gX3_speak_X0_lastBehind : GoodIn wsX3_speak (wsV RX3 90 RX0 yX0_lastBehind wsX0_lastBehind) := goodIn_app (goodIn_of _ (by decide +kernel)) ggX3_speak_X0_lastBehind
theorem dX3_speak_0 : decode cX3_speak 0 = .ok (.aload_n 0, 1) := by decide +kernel
theorem dX3_speak_1 : decode cX3_speak 1 = .ok (.getfield 18, 3) := by decide +kernel
theorem dX3_speak_4 : decode cX3_speak 4 = .ok (.iload_n 2, 1) := by decide +kernel
theorem dX3_speak_5 : decode cX3_speak 5 = .ok (.aload_n 0, 1) := by decide +kernel
theorem dX3_speak_6 : decode cX3_speak 6 = .ok (.getfield 18, 3) := by decide +kernel
theorem dX3_speak_9 : decode cX3_speak 9 = .ok (.iload_n 2, 1) := by decide +kernel
theorem dX3_speak_10 : decode cX3_speak 10 = .ok (.invokestatic 78, 3) := by decide +kernel
theorem dX3_speak_13 : decode cX3_speak 13 = .ok (.iconst 1, 1) := by decide +kernel
theorem dX3_speak_14 : decode cX3_speak 14 = .ok (.iadd, 1) := by decide +kernel
theorem dX3_speak_15 : decode cX3_speak 15 = .ok (.invokestatic 82, 3) := by decide +kernel
theorem dX3_speak_18 : decode cX3_speak 18 = .ok (.aload_n 1, 1) := by decide +kernel
theorem dX3_speak_19 : decode cX3_speak 19 = .ok (.ifnull 33, 3) := by decide +kernel
theorem dX3_speak_22 : decode cX3_speak 22 = .ok (.iload_n 2, 1) := by decide +kernel
theorem dX3_speak_23 : decode cX3_speak 23 = .ok (.aload_n 0, 1) := by decide +kernel
theorem dX3_speak_24 : decode cX3_speak 24 = .ok (.getfield 9, 3) := by decide +kernel
theorem dX3_speak_27 : decode cX3_speak 27 = .ok (.if_icmp .eq 25, 3) := by decide +kernel
theorem dX3_speak_30 : decode cX3_speak 30 = .ok (.aload_n 0, 1) := by decide +kernel
theorem dX3_speak_31 : decode cX3_speak 31 = .ok (.aload_n 1, 1) := by decide +kernel
theorem dX3_speak_32 : decode cX3_speak 32 = .ok (.iload_n 2, 1) := by decide +kernel
theorem dX3_speak_33 : decode cX3_speak 33 = .ok (.aload_n 0, 1) := by decide +kernel
theorem dX3_speak_34 : decode cX3_speak 34 = .ok (.getfield 9, 3) := by decide +kernel
theorem dX3_speak_37 : decode cX3_speak 37 = .ok (.invokevirtual 86, 3) := by decide +kernel
theorem dX3_speak_40 : decode cX3_speak 40 = .ok (.putfield 15, 3) := by decide +kernel
theorem dX3_speak_43 : decode cX3_speak 43 = .ok (.aload_n 0, 1) := by decide +kernel
theorem dX3_speak_44 : decode cX3_speak 44 = .ok (.aload_n 1, 1) := by decide +kernel
theorem dX3_speak_45 : decode cX3_speak 45 = .ok (.iload_n 2, 1) := by decide +kernel
theorem dX3_speak_46 : decode cX3_speak 46 = .ok (.invokevirtual 90, 3) := by decide +kernel
theorem dX3_speak_49 : decode cX3_speak 49 = .ok (.putfield 9, 3) := by decide +kernel
theorem dX3_speak_52 : decode cX3_speak 52 = .ok (.return_, 1) := by decide +kernel
set_option maxRecDepth 20000 in
theorem ggX3_keepSilence_X0_sideAt : GoodIn wsX3_keepSilence wsX0_sideAt := goodIn_r _ [7, 8, 9, 36, 37, 38, 39] (by decide +kernel) (by decide +kernel)
set_option maxRecDepth 20000 in
theorem gX3_keepSilence_X0_sideAt : GoodIn wsX3_keepSilence (wsV RX3 97 RX0 yX0_sideAt wsX0_sideAt) := goodIn_app (goodIn_of _ (by decide +kernel)) ggX3_keepSilence_X0_sideAt
set_option maxRecDepth 20000 in
theorem ggX3_keepSilence_X3_endCase : GoodIn wsX3_keepSilence wsX3_endCase := goodIn_r _ [14, 15, 16, 17, 18, 19, 20, 13, 21, 22, 2, 23, 1, 24, 25, 26, 27, 28, 29, 30, 31, 32, 33, 34, 35] (by decide +kernel) (by decide +kernel)
set_option maxRecDepth 20000 in
theorem gX3_keepSilence_X3_endCase : GoodIn wsX3_keepSilence (wsV RX3 100 RX3 yX3_endCase wsX3_endCase) := goodIn_app (goodIn_of _ (by decide +kernel)) ggX3_keepSilence_X3_endCase
theorem dX3_keepSilence_0 : decode cX3_keepSilence 0 = .ok (.aload_n 0, 1) := by decide +kernel
theorem dX3_keepSilence_1 : decode cX3_keepSilence 1 = .ok (.dup, 1) := by decide +kernel
theorem dX3_keepSilence_2 : decode cX3_keepSilence 2 = .ok (.getfield 53, 3) := by decide +kernel
theorem dX3_keepSilence_5 : decode cX3_keepSilence 5 = .ok (.iconst 1, 1) := by decide +kernel
theorem dX3_keepSilence_6 : decode cX3_keepSilence 6 = .ok (.iadd, 1) := by decide +kernel
theorem dX3_keepSilence_7 : decode cX3_keepSilence 7 = .ok (.putfield 53, 3) := by decide +kernel
theorem dX3_keepSilence_10 : decode cX3_keepSilence 10 = .ok (.aload_n 1, 1) := by decide +kernel
theorem dX3_keepSilence_11 : decode cX3_keepSilence 11 = .ok (.ifnull 26, 3) := by decide +kernel
theorem dX3_keepSilence_14 : decode cX3_keepSilence 14 = .ok (.aload_n 0, 1) := by decide +kernel
theorem dX3_keepSilence_15 : decode cX3_keepSilence 15 = .ok (.getfield 53, 3) := by decide +kernel
theorem dX3_keepSilence_18 : decode cX3_keepSilence 18 = .ok (.aload_n 1, 1) := by decide +kernel
theorem dX3_keepSilence_19 : decode cX3_keepSilence 19 = .ok (.getfield 94, 3) := by decide +kernel
theorem dX3_keepSilence_22 : decode cX3_keepSilence 22 = .ok (.if_icmp .lt 15, 3) := by decide +kernel
theorem dX3_keepSilence_25 : decode cX3_keepSilence 25 = .ok (.aload_n 0, 1) := by decide +kernel
theorem dX3_keepSilence_26 : decode cX3_keepSilence 26 = .ok (.aload_n 1, 1) := by decide +kernel
theorem dX3_keepSilence_27 : decode cX3_keepSilence 27 = .ok (.aload_n 0, 1) := by decide +kernel
theorem dX3_keepSilence_28 : decode cX3_keepSilence 28 = .ok (.getfield 15, 3) := by decide +kernel
theorem dX3_keepSilence_31 : decode cX3_keepSilence 31 = .ok (.invokevirtual 97, 3) := by decide +kernel
theorem dX3_keepSilence_34 : decode cX3_keepSilence 34 = .ok (.invokevirtual 100, 3) := by decide +kernel
theorem dX3_keepSilence_37 : decode cX3_keepSilence 37 = .ok (.return_, 1) := by decide +kernel
set_option maxRecDepth 20000 in
theorem ggX3_endCase_X3_beginCase : GoodIn wsX3_endCase wsX3_beginCase := goodIn_r _ [8, 9, 10, 11, 12, 13, 14, 15, 16, 17, 18, 19, 20, 21, 22, 23, 24] (by decide +kernel) (by decide +kernel)
set_option maxRecDepth 20000 in
theorem gX3_endCase_X3_beginCase : GoodIn wsX3_endCase (wsV RX3 28 RX3 yX3_beginCase wsX3_beginCase) := goodIn_app (goodIn_of _ (by decide +kernel)) ggX3_endCase_X3_beginCase
theorem dX3_endCase_0 : decode cX3_endCase 0 = .ok (.aload_n 0, 1) := by decide +kernel
theorem dX3_endCase_1 : decode cX3_endCase 1 = .ok (.dup, 1) := by decide +kernel
theorem dX3_endCase_2 : decode cX3_endCase 2 = .ok (.getfield 31, 3) := by decide +kernel
theorem dX3_endCase_5 : decode cX3_endCase 5 = .ok (.iconst 1, 1) := by decide +kernel
theorem dX3_endCase_6 : decode cX3_endCase 6 = .ok (.iadd, 1) := by decide +kernel
theorem dX3_endCase_7 : decode cX3_endCase 7 = .ok (.putfield 31, 3) := by decide +kernel
theorem dX3_endCase_10 : decode cX3_endCase 10 = .ok (.iload_n 1, 1) := by decide +kernel
theorem dX3_endCase_11 : decode cX3_endCase 11 = .ok (.ifCond .ne 13, 3) := by decide +kernel
theorem dX3_endCase_14 : decode cX3_endCase 14 = .ok (.aload_n 0, 1) := by decide +kernel
theorem dX3_endCase_15 : decode cX3_endCase 15 = .ok (.dup, 1) := by decide +kernel
theorem dX3_endCase_16 : decode cX3_endCase 16 = .ok (.getfield 34, 3) := by decide +kernel
theorem dX3_endCase_19 : decode cX3_endCase 19 = .ok (.iconst 1, 1) := by decide +kernel
theorem dX3_endCase_20 : decode cX3_endCase 20 = .ok (.iadd, 1) := by decide +kernel
theorem dX3_endCase_21 : decode cX3_endCase 21 = .ok (.putfield 34, 3) := by decide +kernel
theorem dX3_endCase_24 : decode cX3_endCase 24 = .ok (.iload_n 1, 1) := by decide +kernel
theorem dX3_endCase_25 : decode cX3_endCase 25 = .ok (.iconst 1, 1) := by decide +kernel
theorem dX3_endCase_26 : decode cX3_endCase 26 = .ok (.if_icmp .ne 13, 3) := by decide +kernel
theorem dX3_endCase_29 : decode cX3_endCase 29 = .ok (.aload_n 0, 1) := by decide +kernel
theorem dX3_endCase_30 : decode cX3_endCase 30 = .ok (.dup, 1) := by decide +kernel
theorem dX3_endCase_31 : decode cX3_endCase 31 = .ok (.getfield 37, 3) := by decide +kernel
theorem dX3_endCase_34 : decode cX3_endCase 34 = .ok (.iconst 1, 1) := by decide +kernel
theorem dX3_endCase_35 : decode cX3_endCase 35 = .ok (.iadd, 1) := by decide +kernel
theorem dX3_endCase_36 : decode cX3_endCase 36 = .ok (.putfield 37, 3) := by decide +kernel
theorem dX3_endCase_39 : decode cX3_endCase 39 = .ok (.aload_n 0, 1) := by decide +kernel
theorem dX3_endCase_40 : decode cX3_endCase 40 = .ok (.invokevirtual 28, 3) := by decide +kernel
theorem dX3_endCase_43 : decode cX3_endCase 43 = .ok (.return_, 1) := by decide +kernel
set_option maxRecDepth 20000 in
theorem ggX3_tell_X4_put : GoodIn wsX3_tell wsX4_put := goodIn_r _ [6] (by decide +kernel) (by decide +kernel)
set_option maxRecDepth 20000 in
theorem gX3_tell_X4_put_n82 : GoodIn wsX3_tell (wsX4_put) := ggX3_tell_X4_put
theorem dX3_tell_0 : decode cX3_tell 0 = .ok (.aload_n 0, 1) := by decide +kernel
theorem dX3_tell_1 : decode cX3_tell 1 = .ok (.getfield 43, 3) := by decide +kernel
theorem dX3_tell_4 : decode cX3_tell 4 = .ok (.bipush 8, 2) := by decide +kernel
theorem dX3_tell_6 : decode cX3_tell 6 = .ok (.if_icmp .ge 37, 3) := by decide +kernel
theorem dX3_tell_9 : decode cX3_tell 9 = .ok (.aload_n 0, 1) := by decide +kernel
theorem dX3_tell_10 : decode cX3_tell 10 = .ok (.getfield 22, 3) := by decide +kernel
theorem dX3_tell_13 : decode cX3_tell 13 = .ok (.aload_n 0, 1) := by decide +kernel
theorem dX3_tell_14 : decode cX3_tell 14 = .ok (.getfield 43, 3) := by decide +kernel
theorem dX3_tell_17 : decode cX3_tell 17 = .ok (.iload_n 1, 1) := by decide +kernel
theorem dX3_tell_18 : decode cX3_tell 18 = .ok (.invokestatic 82, 3) := by decide +kernel
theorem dX3_tell_21 : decode cX3_tell 21 = .ok (.aload_n 0, 1) := by decide +kernel
theorem dX3_tell_22 : decode cX3_tell 22 = .ok (.getfield 25, 3) := by decide +kernel
theorem dX3_tell_25 : decode cX3_tell 25 = .ok (.aload_n 0, 1) := by decide +kernel
theorem dX3_tell_26 : decode cX3_tell 26 = .ok (.getfield 43, 3) := by decide +kernel
theorem dX3_tell_29 : decode cX3_tell 29 = .ok (.iload_n 2, 1) := by decide +kernel
theorem dX3_tell_30 : decode cX3_tell 30 = .ok (.invokestatic 82, 3) := by decide +kernel
theorem dX3_tell_33 : decode cX3_tell 33 = .ok (.aload_n 0, 1) := by decide +kernel
theorem dX3_tell_34 : decode cX3_tell 34 = .ok (.dup, 1) := by decide +kernel
theorem dX3_tell_35 : decode cX3_tell 35 = .ok (.getfield 43, 3) := by decide +kernel
theorem dX3_tell_38 : decode cX3_tell 38 = .ok (.iconst 1, 1) := by decide +kernel
theorem dX3_tell_39 : decode cX3_tell 39 = .ok (.iadd, 1) := by decide +kernel
theorem dX3_tell_40 : decode cX3_tell 40 = .ok (.putfield 43, 3) := by decide +kernel
theorem dX3_tell_43 : decode cX3_tell 43 = .ok (.return_, 1) := by decide +kernel
set_option maxRecDepth 20000 in
theorem ggX3_allows_X4_at : GoodIn wsX3_allows wsX4_at := goodIn_r _ [6] (by decide +kernel) (by decide +kernel)
set_option maxRecDepth 20000 in
theorem gX3_allows_X4_at_n78 : GoodIn wsX3_allows (wsX4_at) := ggX3_allows_X4_at
theorem dX3_allows_0 : decode cX3_allows 0 = .ok (.iconst 0, 1) := by decide +kernel
theorem dX3_allows_1 : decode cX3_allows 1 = .ok (.istore_n 3, 1) := by decide +kernel
theorem dX3_allows_2 : decode cX3_allows 2 = .ok (.iload_n 3, 1) := by decide +kernel
theorem dX3_allows_3 : decode cX3_allows 3 = .ok (.aload_n 0, 1) := by decide +kernel
theorem dX3_allows_4 : decode cX3_allows 4 = .ok (.getfield 43, 3) := by decide +kernel
theorem dX3_allows_7 : decode cX3_allows 7 = .ok (.if_icmp .ge 35, 3) := by decide +kernel
theorem dX3_allows_10 : decode cX3_allows 10 = .ok (.aload_n 0, 1) := by decide +kernel
theorem dX3_allows_11 : decode cX3_allows 11 = .ok (.getfield 22, 3) := by decide +kernel
theorem dX3_allows_14 : decode cX3_allows 14 = .ok (.iload_n 3, 1) := by decide +kernel
theorem dX3_allows_15 : decode cX3_allows 15 = .ok (.invokestatic 78, 3) := by decide +kernel
theorem dX3_allows_18 : decode cX3_allows 18 = .ok (.iload_n 1, 1) := by decide +kernel
theorem dX3_allows_19 : decode cX3_allows 19 = .ok (.if_icmp .ne 17, 3) := by decide +kernel
theorem dX3_allows_22 : decode cX3_allows 22 = .ok (.aload_n 0, 1) := by decide +kernel
theorem dX3_allows_23 : decode cX3_allows 23 = .ok (.getfield 25, 3) := by decide +kernel
theorem dX3_allows_26 : decode cX3_allows 26 = .ok (.iload_n 3, 1) := by decide +kernel
theorem dX3_allows_27 : decode cX3_allows 27 = .ok (.invokestatic 78, 3) := by decide +kernel
theorem dX3_allows_30 : decode cX3_allows 30 = .ok (.iload_n 2, 1) := by decide +kernel
theorem dX3_allows_31 : decode cX3_allows 31 = .ok (.if_icmp .eq 5, 3) := by decide +kernel
theorem dX3_allows_34 : decode cX3_allows 34 = .ok (.iconst 0, 1) := by decide +kernel
theorem dX3_allows_35 : decode cX3_allows 35 = .ok (.ireturn, 1) := by decide +kernel
theorem dX3_allows_36 : decode cX3_allows 36 = .ok (.iinc 3 1, 3) := by decide +kernel
theorem dX3_allows_39 : decode cX3_allows 39 = .ok (.goto (-37), 3) := by decide +kernel
theorem dX3_allows_42 : decode cX3_allows 42 = .ok (.iconst 1, 1) := by decide +kernel
theorem dX3_allows_43 : decode cX3_allows 43 = .ok (.ireturn, 1) := by decide +kernel
set_option maxRecDepth 20000 in
theorem ggX4_init_X2_init : GoodIn wsX4_init wsX2_init := goodIn_r _ [25, 26, 2, 3, 27, 28, 56, 57] (by decide +kernel) (by decide +kernel)
set_option maxRecDepth 20000 in
theorem gX4_init_X2_init_n9 : GoodIn wsX4_init (wsX2_init) := ggX4_init_X2_init
set_option maxRecDepth 20000 in
theorem ggX4_init_X0_init : GoodIn wsX4_init wsX0_init := goodIn_r _ [30, 31, 2, 3, 27, 32, 33, 66, 67, 68, 69] (by decide +kernel) (by decide +kernel)
set_option maxRecDepth 20000 in
theorem gX4_init_X0_init_n18 : GoodIn wsX4_init (wsX0_init) := ggX4_init_X0_init
set_option maxRecDepth 20000 in
theorem ggX4_init_X3_init : GoodIn wsX4_init wsX3_init := goodIn_r _ [35, 36, 2, 3, 37, 38, 27, 39, 40, 41, 70, 71, 72, 73, 74, 75, 76, 77, 78, 79, 80, 81] (by decide +kernel) (by decide +kernel)
set_option maxRecDepth 20000 in
theorem gX4_init_X3_init_n25 : GoodIn wsX4_init (wsX3_init) := ggX4_init_X3_init
set_option maxRecDepth 20000 in
theorem ggX4_init_X1_init : GoodIn wsX4_init wsX1_init := goodIn_r _ [44, 45, 2, 3, 27, 46, 47, 48, 49, 50, 51, 52, 53, 54, 55, 82, 83, 84, 85, 86, 87, 88, 89, 90, 91] (by decide +kernel) (by decide +kernel)
set_option maxRecDepth 20000 in
theorem gX4_init_X1_init : GoodIn wsX4_init (wsX1_init) := ggX4_init_X1_init
theorem dX4_init_0 : decode cX4_init 0 = .ok (.aload_n 0, 1) := by decide +kernel
theorem dX4_init_1 : decode cX4_init 1 = .ok (.invokespecial 1, 3) := by decide +kernel
theorem dX4_init_4 : decode cX4_init 4 = .ok (.aload_n 0, 1) := by decide +kernel
theorem dX4_init_5 : decode cX4_init 5 = .ok (.new 7, 3) := by decide +kernel
theorem dX4_init_8 : decode cX4_init 8 = .ok (.dup, 1) := by decide +kernel
theorem dX4_init_9 : decode cX4_init 9 = .ok (.invokespecial 9, 3) := by decide +kernel
theorem dX4_init_12 : decode cX4_init 12 = .ok (.putfield 10, 3) := by decide +kernel
theorem dX4_init_15 : decode cX4_init 15 = .ok (.aload_n 0, 1) := by decide +kernel
theorem dX4_init_16 : decode cX4_init 16 = .ok (.new 16, 3) := by decide +kernel
theorem dX4_init_19 : decode cX4_init 19 = .ok (.dup, 1) := by decide +kernel
theorem dX4_init_20 : decode cX4_init 20 = .ok (.invokespecial 18, 3) := by decide +kernel
theorem dX4_init_23 : decode cX4_init 23 = .ok (.putfield 19, 3) := by decide +kernel
theorem dX4_init_26 : decode cX4_init 26 = .ok (.aload_n 0, 1) := by decide +kernel
theorem dX4_init_27 : decode cX4_init 27 = .ok (.new 23, 3) := by decide +kernel
theorem dX4_init_30 : decode cX4_init 30 = .ok (.dup, 1) := by decide +kernel
theorem dX4_init_31 : decode cX4_init 31 = .ok (.invokespecial 25, 3) := by decide +kernel
theorem dX4_init_34 : decode cX4_init 34 = .ok (.putfield 26, 3) := by decide +kernel
theorem dX4_init_37 : decode cX4_init 37 = .ok (.aload_n 0, 1) := by decide +kernel
theorem dX4_init_38 : decode cX4_init 38 = .ok (.new 23, 3) := by decide +kernel
theorem dX4_init_41 : decode cX4_init 41 = .ok (.dup, 1) := by decide +kernel
theorem dX4_init_42 : decode cX4_init 42 = .ok (.invokespecial 25, 3) := by decide +kernel
theorem dX4_init_45 : decode cX4_init 45 = .ok (.putfield 30, 3) := by decide +kernel
theorem dX4_init_48 : decode cX4_init 48 = .ok (.aload_n 0, 1) := by decide +kernel
theorem dX4_init_49 : decode cX4_init 49 = .ok (.new 23, 3) := by decide +kernel
theorem dX4_init_52 : decode cX4_init 52 = .ok (.dup, 1) := by decide +kernel
theorem dX4_init_53 : decode cX4_init 53 = .ok (.invokespecial 25, 3) := by decide +kernel
theorem dX4_init_56 : decode cX4_init 56 = .ok (.putfield 33, 3) := by decide +kernel
theorem dX4_init_59 : decode cX4_init 59 = .ok (.aload_n 0, 1) := by decide +kernel
theorem dX4_init_60 : decode cX4_init 60 = .ok (.new 36, 3) := by decide +kernel
theorem dX4_init_63 : decode cX4_init 63 = .ok (.dup, 1) := by decide +kernel
theorem dX4_init_64 : decode cX4_init 64 = .ok (.aload_n 0, 1) := by decide +kernel
theorem dX4_init_65 : decode cX4_init 65 = .ok (.getfield 19, 3) := by decide +kernel
theorem dX4_init_68 : decode cX4_init 68 = .ok (.aload_n 0, 1) := by decide +kernel
theorem dX4_init_69 : decode cX4_init 69 = .ok (.getfield 26, 3) := by decide +kernel
theorem dX4_init_72 : decode cX4_init 72 = .ok (.invokespecial 38, 3) := by decide +kernel
theorem dX4_init_75 : decode cX4_init 75 = .ok (.putfield 41, 3) := by decide +kernel
theorem dX4_init_78 : decode cX4_init 78 = .ok (.aload_n 0, 1) := by decide +kernel
theorem dX4_init_79 : decode cX4_init 79 = .ok (.iconst 0, 1) := by decide +kernel
theorem dX4_init_80 : decode cX4_init 80 = .ok (.putfield 45, 3) := by decide +kernel
theorem dX4_init_83 : decode cX4_init 83 = .ok (.aload_n 0, 1) := by decide +kernel
theorem dX4_init_84 : decode cX4_init 84 = .ok (.iconst 0, 1) := by decide +kernel
theorem dX4_init_85 : decode cX4_init 85 = .ok (.putfield 49, 3) := by decide +kernel
theorem dX4_init_88 : decode cX4_init 88 = .ok (.return_, 1) := by decide +kernel
set_option maxRecDepth 20000 in
theorem ggX4_letter_X2_append : GoodIn wsX4_letter wsX2_append := goodIn_r _ [6, 7, 8, 9, 10, 11, 20, 21] (by decide +kernel) (by decide +kernel)
set_option maxRecDepth 20000 in
theorem gX4_letter_X2_append : GoodIn wsX4_letter (wsV RX4 56 RX2 yX2_append wsX2_append) := goodIn_app (goodIn_of _ (by decide +kernel)) ggX4_letter_X2_append
theorem dX4_letter_0 : decode cX4_letter 0 = .ok (.iload_n 1, 1) := by decide +kernel
theorem dX4_letter_1 : decode cX4_letter 1 = .ok (.iconst 1, 1) := by decide +kernel
theorem dX4_letter_2 : decode cX4_letter 2 = .ok (.if_icmp .lt 9, 3) := by decide +kernel
theorem dX4_letter_5 : decode cX4_letter 5 = .ok (.iload_n 1, 1) := by decide +kernel
theorem dX4_letter_6 : decode cX4_letter 6 = .ok (.bipush 126, 2) := by decide +kernel
theorem dX4_letter_8 : decode cX4_letter 8 = .ok (.if_icmp .le 6, 3) := by decide +kernel
theorem dX4_letter_11 : decode cX4_letter 11 = .ok (.bipush (-102), 2) := by decide +kernel
theorem dX4_letter_13 : decode cX4_letter 13 = .ok (.ireturn, 1) := by decide +kernel
theorem dX4_letter_14 : decode cX4_letter 14 = .ok (.aload_n 0, 1) := by decide +kernel
theorem dX4_letter_15 : decode cX4_letter 15 = .ok (.getfield 10, 3) := by decide +kernel
theorem dX4_letter_18 : decode cX4_letter 18 = .ok (.getfield 53, 3) := by decide +kernel
theorem dX4_letter_21 : decode cX4_letter 21 = .ok (.bipush 18, 2) := by decide +kernel
theorem dX4_letter_23 : decode cX4_letter 23 = .ok (.if_icmp .lt 6, 3) := by decide +kernel
theorem dX4_letter_26 : decode cX4_letter 26 = .ok (.bipush (-104), 2) := by decide +kernel
theorem dX4_letter_28 : decode cX4_letter 28 = .ok (.ireturn, 1) := by decide +kernel
theorem dX4_letter_29 : decode cX4_letter 29 = .ok (.aload_n 0, 1) := by decide +kernel
theorem dX4_letter_30 : decode cX4_letter 30 = .ok (.getfield 10, 3) := by decide +kernel
theorem dX4_letter_33 : decode cX4_letter 33 = .ok (.iload_n 1, 1) := by decide +kernel
theorem dX4_letter_34 : decode cX4_letter 34 = .ok (.invokevirtual 56, 3) := by decide +kernel
theorem dX4_letter_37 : decode cX4_letter 37 = .ok (.aload_n 0, 1) := by decide +kernel
theorem dX4_letter_38 : decode cX4_letter 38 = .ok (.getfield 10, 3) := by decide +kernel
theorem dX4_letter_41 : decode cX4_letter 41 = .ok (.getfield 53, 3) := by decide +kernel
theorem dX4_letter_44 : decode cX4_letter 44 = .ok (.ireturn, 1) := by decide +kernel
set_option maxRecDepth 20000 in
theorem ggX4_blank_X2_wipe : GoodIn wsX4_blank wsX2_wipe := goodIn_r _ [6, 7, 16, 17] (by decide +kernel) (by decide +kernel)
set_option maxRecDepth 20000 in
theorem gX4_blank_X2_wipe : GoodIn wsX4_blank (wsV RX4 60 RX2 yX2_wipe wsX2_wipe) := goodIn_app (goodIn_of _ (by decide +kernel)) ggX4_blank_X2_wipe
theorem dX4_blank_0 : decode cX4_blank 0 = .ok (.aload_n 0, 1) := by decide +kernel
theorem dX4_blank_1 : decode cX4_blank 1 = .ok (.getfield 10, 3) := by decide +kernel
theorem dX4_blank_4 : decode cX4_blank 4 = .ok (.getfield 53, 3) := by decide +kernel
theorem dX4_blank_7 : decode cX4_blank 7 = .ok (.istore_n 1, 1) := by decide +kernel
theorem dX4_blank_8 : decode cX4_blank 8 = .ok (.aload_n 0, 1) := by decide +kernel
theorem dX4_blank_9 : decode cX4_blank 9 = .ok (.getfield 10, 3) := by decide +kernel
theorem dX4_blank_12 : decode cX4_blank 12 = .ok (.invokevirtual 60, 3) := by decide +kernel
theorem dX4_blank_15 : decode cX4_blank 15 = .ok (.iload_n 1, 1) := by decide +kernel
theorem dX4_blank_16 : decode cX4_blank 16 = .ok (.ireturn, 1) := by decide +kernel
set_option maxRecDepth 20000 in
theorem ggX4_fault_X2_firstFault : GoodIn wsX4_fault wsX2_firstFault := goodIn_r _ [6, 7, 8, 9, 10, 5, 11, 12, 13, 14, 15, 16, 17, 18, 19, 20, 21, 22, 23, 24, 33, 34] (by decide +kernel) (by decide +kernel)
set_option maxRecDepth 20000 in
theorem gX4_fault_X2_firstFault : GoodIn wsX4_fault (wsV RX4 63 RX2 yX2_firstFault wsX2_firstFault) := goodIn_app (goodIn_of _ (by decide +kernel)) ggX4_fault_X2_firstFault
theorem dX4_fault_0 : decode cX4_fault 0 = .ok (.aload_n 0, 1) := by decide +kernel
theorem dX4_fault_1 : decode cX4_fault 1 = .ok (.getfield 10, 3) := by decide +kernel
theorem dX4_fault_4 : decode cX4_fault 4 = .ok (.invokevirtual 63, 3) := by decide +kernel
theorem dX4_fault_7 : decode cX4_fault 7 = .ok (.ireturn, 1) := by decide +kernel
set_option maxRecDepth 20000 in
theorem ggX4_court_X2_isWhole : GoodIn wsX4_court wsX2_isWhole := goodIn_r _ [10, 11, 12, 13, 14, 9, 15, 16, 17, 18, 19, 20, 21, 22, 23, 24, 25, 26, 27, 28, 29, 30, 31, 32, 87, 88] (by decide +kernel) (by decide +kernel)
set_option maxRecDepth 20000 in
theorem gX4_court_X2_isWhole : GoodIn wsX4_court (wsV RX4 67 RX2 yX2_isWhole wsX2_isWhole) := goodIn_app (goodIn_of _ (by decide +kernel)) ggX4_court_X2_isWhole
set_option maxRecDepth 20000 in
theorem ggX4_court_X0_sitDown : GoodIn wsX4_court wsX0_sitDown := goodIn_r _ [37, 38, 39, 40, 41, 42, 43, 44, 45, 46, 13, 14, 9, 15, 11, 16, 17, 18, 19, 47, 28, 29, 48, 49, 87, 88, 83, 84, 85, 86] (by decide +kernel) (by decide +kernel)
set_option maxRecDepth 20000 in
theorem gX4_court_X0_sitDown : GoodIn wsX4_court (wsV RX4 71 RX0 yX0_sitDown wsX0_sitDown) := goodIn_app (goodIn_of _ (by decide +kernel)) ggX4_court_X0_sitDown
set_option maxRecDepth 20000 in
theorem ggX4_court_X2_wipe : GoodIn wsX4_court wsX2_wipe := goodIn_r _ [53, 11, 87, 88] (by decide +kernel) (by decide +kernel)
set_option maxRecDepth 20000 in
theorem gX4_court_X2_wipe : GoodIn wsX4_court (wsV RX4 60 RX2 yX2_wipe wsX2_wipe) := goodIn_app (goodIn_of _ (by decide +kernel)) ggX4_court_X2_wipe
set_option maxRecDepth 20000 in
theorem ggX4_court_X3_beginAll : GoodIn wsX4_court wsX3_beginAll := goodIn_r _ [58, 59, 60, 61, 62, 63, 64, 65, 66, 67, 57, 68, 69, 70, 71, 72, 73, 18, 74, 89, 90, 91, 92, 93, 94, 95, 96, 97, 98, 99, 100] (by decide +kernel) (by decide +kernel)
set_option maxRecDepth 20000 in
theorem gX4_court_X3_beginAll : GoodIn wsX4_court (wsV RX4 75 RX3 yX3_beginAll wsX3_beginAll) := goodIn_app (goodIn_of _ (by decide +kernel)) ggX4_court_X3_beginAll
theorem dX4_court_0 : decode cX4_court 0 = .ok (.aload_n 0, 1) := by decide +kernel
theorem dX4_court_1 : decode cX4_court 1 = .ok (.getfield 10, 3) := by decide +kernel
theorem dX4_court_4 : decode cX4_court 4 = .ok (.invokevirtual 67, 3) := by decide +kernel
theorem dX4_court_7 : decode cX4_court 7 = .ok (.ifCond .ne 6, 3) := by decide +kernel
theorem dX4_court_10 : decode cX4_court 10 = .ok (.bipush (-103), 2) := by decide +kernel
theorem dX4_court_12 : decode cX4_court 12 = .ok (.ireturn, 1) := by decide +kernel
theorem dX4_court_13 : decode cX4_court 13 = .ok (.aload_n 0, 1) := by decide +kernel
theorem dX4_court_14 : decode cX4_court 14 = .ok (.getfield 19, 3) := by decide +kernel
theorem dX4_court_17 : decode cX4_court 17 = .ok (.aload_n 0, 1) := by decide +kernel
theorem dX4_court_18 : decode cX4_court 18 = .ok (.getfield 10, 3) := by decide +kernel
theorem dX4_court_21 : decode cX4_court 21 = .ok (.invokevirtual 71, 3) := by decide +kernel
theorem dX4_court_24 : decode cX4_court 24 = .ok (.aload_n 0, 1) := by decide +kernel
theorem dX4_court_25 : decode cX4_court 25 = .ok (.getfield 10, 3) := by decide +kernel
theorem dX4_court_28 : decode cX4_court 28 = .ok (.invokevirtual 60, 3) := by decide +kernel
theorem dX4_court_31 : decode cX4_court 31 = .ok (.aload_n 0, 1) := by decide +kernel
theorem dX4_court_32 : decode cX4_court 32 = .ok (.getfield 26, 3) := by decide +kernel
theorem dX4_court_35 : decode cX4_court 35 = .ok (.invokevirtual 75, 3) := by decide +kernel
theorem dX4_court_38 : decode cX4_court 38 = .ok (.aload_n 0, 1) := by decide +kernel
theorem dX4_court_39 : decode cX4_court 39 = .ok (.iconst 0, 1) := by decide +kernel
theorem dX4_court_40 : decode cX4_court 40 = .ok (.putfield 45, 3) := by decide +kernel
theorem dX4_court_43 : decode cX4_court 43 = .ok (.aload_n 0, 1) := by decide +kernel
theorem dX4_court_44 : decode cX4_court 44 = .ok (.dup, 1) := by decide +kernel
theorem dX4_court_45 : decode cX4_court 45 = .ok (.getfield 49, 3) := by decide +kernel
theorem dX4_court_48 : decode cX4_court 48 = .ok (.iconst 1, 1) := by decide +kernel
theorem dX4_court_49 : decode cX4_court 49 = .ok (.iadd, 1) := by decide +kernel
theorem dX4_court_50 : decode cX4_court 50 = .ok (.putfield 49, 3) := by decide +kernel
theorem dX4_court_53 : decode cX4_court 53 = .ok (.aload_n 0, 1) := by decide +kernel
theorem dX4_court_54 : decode cX4_court 54 = .ok (.getfield 19, 3) := by decide +kernel
theorem dX4_court_57 : decode cX4_court 57 = .ok (.getfield 78, 3) := by decide +kernel
theorem dX4_court_60 : decode cX4_court 60 = .ok (.ireturn, 1) := by decide +kernel
set_option maxRecDepth 20000 in
theorem ggX4_seat_X0_has : GoodIn wsX4_seat wsX0_has := goodIn_r _ [8, 9, 98, 99, 100, 101] (by decide +kernel) (by decide +kernel)
set_option maxRecDepth 20000 in
theorem gX4_seat_X0_has : GoodIn wsX4_seat (wsV RX4 81 RX0 yX0_has wsX0_has) := goodIn_app (goodIn_of _ (by decide +kernel)) ggX4_seat_X0_has
set_option maxRecDepth 20000 in
theorem ggX4_seat_X0_kindAt : GoodIn wsX4_seat wsX0_kindAt := goodIn_r _ [13, 9, 14, 98, 99, 100, 101] (by decide +kernel) (by decide +kernel)
set_option maxRecDepth 20000 in
theorem gX4_seat_X0_kindAt : GoodIn wsX4_seat (wsV RX4 85 RX0 yX0_kindAt wsX0_kindAt) := goodIn_app (goodIn_of _ (by decide +kernel)) ggX4_seat_X0_kindAt
set_option maxRecDepth 20000 in
theorem ggX4_seat_X0_sideAt : GoodIn wsX4_seat wsX0_sideAt := goodIn_r _ [18, 9, 19, 98, 99, 100, 101] (by decide +kernel) (by decide +kernel)
set_option maxRecDepth 20000 in
theorem gX4_seat_X0_sideAt : GoodIn wsX4_seat (wsV RX4 89 RX0 yX0_sideAt wsX0_sideAt) := goodIn_app (goodIn_of _ (by decide +kernel)) ggX4_seat_X0_sideAt
set_option maxRecDepth 20000 in
theorem ggX4_seat_X4_isIn : GoodIn wsX4_seat wsX4_isIn := goodIn_r _ [23] (by decide +kernel) (by decide +kernel)
set_option maxRecDepth 20000 in
theorem gX4_seat_X4_isIn : GoodIn wsX4_seat (va_wsS RX4 95 yX4_isIn wsX4_isIn) := goodIn_app (goodIn_of _ (by decide +kernel)) ggX4_seat_X4_isIn
set_option maxRecDepth 20000 in
theorem ggX4_seat_X0_counts : GoodIn wsX4_seat wsX0_counts := goodIn_r _ [27, 28, 11, 12, 7, 13, 9, 14, 21, 22, 23, 29, 30, 31, 32, 98, 99, 100, 101] (by decide +kernel) (by decide +kernel)
set_option maxRecDepth 20000 in
theorem gX4_seat_X0_counts : GoodIn wsX4_seat (wsV RX4 102 RX0 yX0_counts wsX0_counts) := goodIn_app (goodIn_of _ (by decide +kernel)) ggX4_seat_X0_counts
set_option maxRecDepth 20000 in
theorem ggX4_seat_X4_at : GoodIn wsX4_seat wsX4_at := goodIn_r _ [35] (by decide +kernel) (by decide +kernel)
set_option maxRecDepth 20000 in
theorem gX4_seat_X4_at : GoodIn wsX4_seat (va_wsS RX4 110 yX4_at wsX4_at) := goodIn_app (goodIn_of _ (by decide +kernel)) ggX4_seat_X4_at
set_option maxRecDepth 20000 in
theorem ggX4_seat_X1_aimAt : GoodIn wsX4_seat wsX1_aimAt := goodIn_r _ [40, 41, 42, 43, 44, 45, 46, 47, 48, 39, 49, 50, 51, 52, 53, 54, 25, 26, 7, 27, 28, 11, 12, 13, 9, 14, 21, 22, 23, 29, 30, 31, 32, 55, 56, 57, 58, 59, 60, 61, 62, 63, 64, 65, 66, 67, 68, 69, 70, 71, 72, 73, 34, 35, 102, 103, 104, 105, 106, 107, 108, 109, 110, 111, 86, 87, 88, 89, 90, 91, 92, 93, 94, 95, 96, 97, 98, 99, 100, 101] (by decide +kernel) (by decide +kernel)
set_option maxRecDepth 20000 in
theorem gX4_seat_X1_aimAt : GoodIn wsX4_seat (wsV RX4 114 RX1 yX1_aimAt wsX1_aimAt) := goodIn_app (goodIn_of _ (by decide +kernel)) ggX4_seat_X1_aimAt
set_option maxRecDepth 20000 in
theorem ggX4_seat_X1_fewestWords : GoodIn wsX4_seat wsX1_fewestWords := goodIn_r _ [77, 51, 41, 34, 22, 35, 102, 103, 104, 105, 106, 107, 108, 109, 110, 111, 86, 87, 88, 89, 90, 91, 92, 93, 94, 95, 96, 97] (by decide +kernel) (by decide +kernel)
set_option maxRecDepth 20000 in
theorem gX4_seat_X1_fewestWords : GoodIn wsX4_seat (wsV RX4 117 RX1 yX1_fewestWords wsX1_fewestWords) := goodIn_app (goodIn_of _ (by decide +kernel)) ggX4_seat_X1_fewestWords
theorem dX4_seat_0 : decode cX4_seat 0 = .ok (.aload_n 0, 1) := by decide +kernel
theorem dX4_seat_1 : decode cX4_seat 1 = .ok (.getfield 19, 3) := by decide +kernel
theorem dX4_seat_4 : decode cX4_seat 4 = .ok (.iload_n 1, 1) := by decide +kernel
theorem dX4_seat_5 : decode cX4_seat 5 = .ok (.invokevirtual 81, 3) := by decide +kernel
theorem dX4_seat_8 : decode cX4_seat 8 = .ok (.ifCond .ne 6, 3) := by decide +kernel
theorem dX4_seat_11 : decode cX4_seat 11 = .ok (.bipush (-101), 2) := by decide +kernel
theorem dX4_seat_13 : decode cX4_seat 13 = .ok (.ireturn, 1) := by decide +kernel
theorem dX4_seat_14 : decode cX4_seat 14 = .ok (.iload_n 2, 1) := by decide +kernel
theorem dX4_seat_15 : decode cX4_seat 15 = .ok (.tableswitch 135 0 5 #[37, 46, 55, 75, 106, 118], 37) := by decide +kernel
theorem dX4_seat_52 : decode cX4_seat 52 = .ok (.aload_n 0, 1) := by decide +kernel
theorem dX4_seat_53 : decode cX4_seat 53 = .ok (.getfield 19, 3) := by decide +kernel
theorem dX4_seat_56 : decode cX4_seat 56 = .ok (.iload_n 1, 1) := by decide +kernel
theorem dX4_seat_57 : decode cX4_seat 57 = .ok (.invokevirtual 85, 3) := by decide +kernel
theorem dX4_seat_60 : decode cX4_seat 60 = .ok (.ireturn, 1) := by decide +kernel
theorem dX4_seat_61 : decode cX4_seat 61 = .ok (.aload_n 0, 1) := by decide +kernel
theorem dX4_seat_62 : decode cX4_seat 62 = .ok (.getfield 19, 3) := by decide +kernel
theorem dX4_seat_65 : decode cX4_seat 65 = .ok (.iload_n 1, 1) := by decide +kernel
theorem dX4_seat_66 : decode cX4_seat 66 = .ok (.invokevirtual 89, 3) := by decide +kernel
theorem dX4_seat_69 : decode cX4_seat 69 = .ok (.ireturn, 1) := by decide +kernel
theorem dX4_seat_70 : decode cX4_seat 70 = .ok (.iload_n 1, 1) := by decide +kernel
theorem dX4_seat_71 : decode cX4_seat 71 = .ok (.aload_n 0, 1) := by decide +kernel
theorem dX4_seat_72 : decode cX4_seat 72 = .ok (.getfield 26, 3) := by decide +kernel
theorem dX4_seat_75 : decode cX4_seat 75 = .ok (.getfield 92, 3) := by decide +kernel
theorem dX4_seat_78 : decode cX4_seat 78 = .ok (.invokestatic 95, 3) := by decide +kernel
theorem dX4_seat_81 : decode cX4_seat 81 = .ok (.ifCond .eq 7, 3) := by decide +kernel
theorem dX4_seat_84 : decode cX4_seat 84 = .ok (.iconst 1, 1) := by decide +kernel
theorem dX4_seat_85 : decode cX4_seat 85 = .ok (.goto 4, 3) := by decide +kernel
theorem dX4_seat_88 : decode cX4_seat 88 = .ok (.iconst 0, 1) := by decide +kernel
theorem dX4_seat_89 : decode cX4_seat 89 = .ok (.ireturn, 1) := by decide +kernel
theorem dX4_seat_90 : decode cX4_seat 90 = .ok (.aload_n 0, 1) := by decide +kernel
theorem dX4_seat_91 : decode cX4_seat 91 = .ok (.getfield 19, 3) := by decide +kernel
theorem dX4_seat_94 : decode cX4_seat 94 = .ok (.iload_n 1, 1) := by decide +kernel
theorem dX4_seat_95 : decode cX4_seat 95 = .ok (.aload_n 0, 1) := by decide +kernel
theorem dX4_seat_96 : decode cX4_seat 96 = .ok (.getfield 26, 3) := by decide +kernel
theorem dX4_seat_99 : decode cX4_seat 99 = .ok (.getfield 99, 3) := by decide +kernel
theorem dX4_seat_102 : decode cX4_seat 102 = .ok (.aload_n 0, 1) := by decide +kernel
theorem dX4_seat_103 : decode cX4_seat 103 = .ok (.getfield 26, 3) := by decide +kernel
theorem dX4_seat_106 : decode cX4_seat 106 = .ok (.getfield 92, 3) := by decide +kernel
theorem dX4_seat_109 : decode cX4_seat 109 = .ok (.invokevirtual 102, 3) := by decide +kernel
theorem dX4_seat_112 : decode cX4_seat 112 = .ok (.ifCond .eq 7, 3) := by decide +kernel
theorem dX4_seat_115 : decode cX4_seat 115 = .ok (.iconst 1, 1) := by decide +kernel
theorem dX4_seat_116 : decode cX4_seat 116 = .ok (.goto 4, 3) := by decide +kernel
theorem dX4_seat_119 : decode cX4_seat 119 = .ok (.iconst 0, 1) := by decide +kernel
theorem dX4_seat_120 : decode cX4_seat 120 = .ok (.ireturn, 1) := by decide +kernel
theorem dX4_seat_121 : decode cX4_seat 121 = .ok (.aload_n 0, 1) := by decide +kernel
theorem dX4_seat_122 : decode cX4_seat 122 = .ok (.getfield 26, 3) := by decide +kernel
theorem dX4_seat_125 : decode cX4_seat 125 = .ok (.getfield 106, 3) := by decide +kernel
theorem dX4_seat_128 : decode cX4_seat 128 = .ok (.iload_n 1, 1) := by decide +kernel
theorem dX4_seat_129 : decode cX4_seat 129 = .ok (.invokestatic 110, 3) := by decide +kernel
theorem dX4_seat_132 : decode cX4_seat 132 = .ok (.ireturn, 1) := by decide +kernel
theorem dX4_seat_133 : decode cX4_seat 133 = .ok (.aload_n 0, 1) := by decide +kernel
theorem dX4_seat_134 : decode cX4_seat 134 = .ok (.getfield 41, 3) := by decide +kernel
theorem dX4_seat_137 : decode cX4_seat 137 = .ok (.iload_n 1, 1) := by decide +kernel
theorem dX4_seat_138 : decode cX4_seat 138 = .ok (.invokevirtual 114, 3) := by decide +kernel
theorem dX4_seat_141 : decode cX4_seat 141 = .ok (.aload_n 0, 1) := by decide +kernel
theorem dX4_seat_142 : decode cX4_seat 142 = .ok (.getfield 41, 3) := by decide +kernel
theorem dX4_seat_145 : decode cX4_seat 145 = .ok (.iload_n 1, 1) := by decide +kernel
theorem dX4_seat_146 : decode cX4_seat 146 = .ok (.invokevirtual 117, 3) := by decide +kernel
theorem dX4_seat_149 : decode cX4_seat 149 = .ok (.ireturn, 1) := by decide +kernel
theorem dX4_seat_150 : decode cX4_seat 150 = .ok (.bipush (-102), 2) := by decide +kernel
theorem dX4_seat_152 : decode cX4_seat 152 = .ok (.ireturn, 1) := by decide +kernel
set_option maxRecDepth 20000 in
theorem ggX4_as_X0_has : GoodIn wsX4_as wsX0_has := goodIn_r _ [6, 7, 26, 27, 28, 29] (by decide +kernel) (by decide +kernel)
set_option maxRecDepth 20000 in
theorem gX4_as_X0_has : GoodIn wsX4_as (wsV RX4 81 RX0 yX0_has wsX0_has) := goodIn_app (goodIn_of _ (by decide +kernel)) ggX4_as_X0_has
set_option maxRecDepth 20000 in
theorem ggX4_as_X0_isOf : GoodIn wsX4_as wsX0_isOf := goodIn_r _ [11, 12, 13, 14, 5, 15, 7, 16, 17, 3, 4, 6, 26, 27, 28, 29] (by decide +kernel) (by decide +kernel)
set_option maxRecDepth 20000 in
theorem gX4_as_X0_isOf : GoodIn wsX4_as (wsV RX4 120 RX0 yX0_isOf wsX0_isOf) := goodIn_app (goodIn_of _ (by decide +kernel)) ggX4_as_X0_isOf
theorem dX4_as_0 : decode cX4_as 0 = .ok (.aload_n 0, 1) := by decide +kernel
theorem dX4_as_1 : decode cX4_as 1 = .ok (.getfield 19, 3) := by decide +kernel
theorem dX4_as_4 : decode cX4_as 4 = .ok (.iload_n 1, 1) := by decide +kernel
theorem dX4_as_5 : decode cX4_as 5 = .ok (.invokevirtual 81, 3) := by decide +kernel
theorem dX4_as_8 : decode cX4_as 8 = .ok (.ifCond .ne 6, 3) := by decide +kernel
theorem dX4_as_11 : decode cX4_as 11 = .ok (.bipush (-101), 2) := by decide +kernel
theorem dX4_as_13 : decode cX4_as 13 = .ok (.ireturn, 1) := by decide +kernel
theorem dX4_as_14 : decode cX4_as 14 = .ok (.iload_n 2, 1) := by decide +kernel
theorem dX4_as_15 : decode cX4_as 15 = .ok (.ifCond .lt 8, 3) := by decide +kernel
theorem dX4_as_18 : decode cX4_as 18 = .ok (.iload_n 2, 1) := by decide +kernel
theorem dX4_as_19 : decode cX4_as 19 = .ok (.iconst 5, 1) := by decide +kernel
theorem dX4_as_20 : decode cX4_as 20 = .ok (.if_icmp .lt 6, 3) := by decide +kernel
theorem dX4_as_23 : decode cX4_as 23 = .ok (.bipush (-102), 2) := by decide +kernel
theorem dX4_as_25 : decode cX4_as 25 = .ok (.ireturn, 1) := by decide +kernel
theorem dX4_as_26 : decode cX4_as 26 = .ok (.aload_n 0, 1) := by decide +kernel
theorem dX4_as_27 : decode cX4_as 27 = .ok (.getfield 19, 3) := by decide +kernel
theorem dX4_as_30 : decode cX4_as 30 = .ok (.iload_n 1, 1) := by decide +kernel
theorem dX4_as_31 : decode cX4_as 31 = .ok (.iload_n 2, 1) := by decide +kernel
theorem dX4_as_32 : decode cX4_as 32 = .ok (.invokevirtual 120, 3) := by decide +kernel
theorem dX4_as_35 : decode cX4_as 35 = .ok (.ifCond .eq 7, 3) := by decide +kernel
theorem dX4_as_38 : decode cX4_as 38 = .ok (.iload_n 1, 1) := by decide +kernel
theorem dX4_as_39 : decode cX4_as 39 = .ok (.goto 4, 3) := by decide +kernel
theorem dX4_as_42 : decode cX4_as 42 = .ok (.iconst (-1), 1) := by decide +kernel
theorem dX4_as_43 : decode cX4_as 43 = .ok (.ireturn, 1) := by decide +kernel
set_option maxRecDepth 20000 in
theorem ggX4_breath_X0_namesOnlySeats : GoodIn wsX4_breath wsX0_namesOnlySeats := goodIn_r _ [7, 8, 84, 85, 86, 87] (by decide +kernel) (by decide +kernel)
set_option maxRecDepth 20000 in
theorem gX4_breath_X0_namesOnlySeats : GoodIn wsX4_breath (wsV RX4 123 RX0 yX0_namesOnlySeats wsX0_namesOnlySeats) := goodIn_app (goodIn_of _ (by decide +kernel)) ggX4_breath_X0_namesOnlySeats
set_option maxRecDepth 20000 in
theorem ggX4_breath_X0_isSet : GoodIn wsX4_breath wsX0_isSet := goodIn_r _ [12, 8, 84, 85, 86, 87] (by decide +kernel) (by decide +kernel)
set_option maxRecDepth 20000 in
theorem gX4_breath_X0_isSet : GoodIn wsX4_breath (wsV RX4 126 RX0 yX0_isSet wsX0_isSet) := goodIn_app (goodIn_of _ (by decide +kernel)) ggX4_breath_X0_isSet
set_option maxRecDepth 20000 in
theorem ggX4_breath_X3_breathe : GoodIn wsX4_breath wsX3_breathe := goodIn_r _ [17, 18, 19, 20, 21, 22, 23, 24, 25, 26, 27, 6, 28, 29, 30, 31, 32, 8, 33, 34, 35, 36, 37, 38, 39, 40, 16, 41, 42, 43, 44, 45, 46, 47, 48, 49, 50, 51, 52, 53, 54, 55, 56, 57, 58, 59, 60, 61, 62, 63, 64, 65, 66, 67, 68, 69, 70, 71, 72, 73, 74, 75, 88, 89, 90, 91, 92, 93, 94, 95, 96, 97, 98, 99, 84, 85, 86, 87] (by decide +kernel) (by decide +kernel)
set_option maxRecDepth 20000 in
theorem gX4_breath_X3_breathe : GoodIn wsX4_breath (wsV RX4 129 RX3 yX3_breathe wsX3_breathe) := goodIn_app (goodIn_of _ (by decide +kernel)) ggX4_breath_X3_breathe
theorem dX4_breath_0 : decode cX4_breath 0 = .ok (.aload_n 0, 1) := by decide +kernel
theorem dX4_breath_1 : decode cX4_breath 1 = .ok (.getfield 19, 3) := by decide +kernel
theorem dX4_breath_4 : decode cX4_breath 4 = .ok (.iload_n 1, 1) := by decide +kernel
theorem dX4_breath_5 : decode cX4_breath 5 = .ok (.invokevirtual 123, 3) := by decide +kernel
theorem dX4_breath_8 : decode cX4_breath 8 = .ok (.ifCond .ne 6, 3) := by decide +kernel
theorem dX4_breath_11 : decode cX4_breath 11 = .ok (.bipush (-102), 2) := by decide +kernel
theorem dX4_breath_13 : decode cX4_breath 13 = .ok (.ireturn, 1) := by decide +kernel
theorem dX4_breath_14 : decode cX4_breath 14 = .ok (.aload_n 0, 1) := by decide +kernel
theorem dX4_breath_15 : decode cX4_breath 15 = .ok (.getfield 19, 3) := by decide +kernel
theorem dX4_breath_18 : decode cX4_breath 18 = .ok (.invokevirtual 126, 3) := by decide +kernel
theorem dX4_breath_21 : decode cX4_breath 21 = .ok (.ifCond .ne 6, 3) := by decide +kernel
theorem dX4_breath_24 : decode cX4_breath 24 = .ok (.bipush (-103), 2) := by decide +kernel
theorem dX4_breath_26 : decode cX4_breath 26 = .ok (.ireturn, 1) := by decide +kernel
theorem dX4_breath_27 : decode cX4_breath 27 = .ok (.aload_n 0, 1) := by decide +kernel
theorem dX4_breath_28 : decode cX4_breath 28 = .ok (.getfield 26, 3) := by decide +kernel
theorem dX4_breath_31 : decode cX4_breath 31 = .ok (.aload_n 0, 1) := by decide +kernel
theorem dX4_breath_32 : decode cX4_breath 32 = .ok (.getfield 19, 3) := by decide +kernel
theorem dX4_breath_35 : decode cX4_breath 35 = .ok (.iload_n 1, 1) := by decide +kernel
theorem dX4_breath_36 : decode cX4_breath 36 = .ok (.invokevirtual 129, 3) := by decide +kernel
theorem dX4_breath_39 : decode cX4_breath 39 = .ok (.ireturn, 1) := by decide +kernel
set_option maxRecDepth 20000 in
theorem ggX4_get_X0_has : GoodIn wsX4_get wsX0_has := goodIn_r _ [7, 8, 81, 82, 83, 84] (by decide +kernel) (by decide +kernel)
set_option maxRecDepth 20000 in
theorem gX4_get_X0_has : GoodIn wsX4_get (wsV RX4 81 RX0 yX0_has wsX0_has) := goodIn_app (goodIn_of _ (by decide +kernel)) ggX4_get_X0_has
set_option maxRecDepth 20000 in
theorem ggX4_get_X1_aimAt : GoodIn wsX4_get wsX1_aimAt := goodIn_r _ [13, 14, 15, 16, 17, 18, 19, 20, 21, 12, 22, 23, 24, 25, 26, 27, 28, 29, 6, 30, 31, 32, 33, 34, 8, 35, 36, 37, 38, 39, 40, 41, 42, 43, 44, 45, 46, 47, 48, 49, 50, 51, 52, 53, 54, 55, 56, 57, 58, 59, 60, 61, 62, 63, 85, 86, 87, 88, 89, 90, 91, 92, 93, 94, 95, 96, 97, 98, 99, 100, 101, 102, 103, 104, 105, 106, 81, 82, 83, 84] (by decide +kernel) (by decide +kernel)
set_option maxRecDepth 20000 in
theorem gX4_get_X1_aimAt : GoodIn wsX4_get (wsV RX4 114 RX1 yX1_aimAt wsX1_aimAt) := goodIn_app (goodIn_of _ (by decide +kernel)) ggX4_get_X1_aimAt
set_option maxRecDepth 20000 in
theorem ggX4_get_X1_fewestWords : GoodIn wsX4_get wsX1_fewestWords := goodIn_r _ [67, 24, 14, 62, 37, 63, 85, 86, 87, 88, 89, 90, 91, 92, 93, 94, 95, 96, 97, 98, 99, 100, 101, 102, 103, 104, 105, 106] (by decide +kernel) (by decide +kernel)
set_option maxRecDepth 20000 in
theorem gX4_get_X1_fewestWords : GoodIn wsX4_get (wsV RX4 117 RX1 yX1_fewestWords wsX1_fewestWords) := goodIn_app (goodIn_of _ (by decide +kernel)) ggX4_get_X1_fewestWords
set_option maxRecDepth 20000 in
theorem ggX4_get_X1_firstSpeaker : GoodIn wsX4_get wsX1_firstSpeaker := goodIn_r _ [71, 24, 72, 65, 66, 12, 67, 14, 62, 37, 63, 58, 59, 60, 61, 25, 26, 15, 16, 17, 18, 43, 44, 45, 85, 86, 87, 88, 89, 90, 91, 92, 93, 94, 95, 96, 97, 98, 99, 100, 101, 102, 103, 104, 105, 106] (by decide +kernel) (by decide +kernel)
set_option maxRecDepth 20000 in
theorem gX4_get_X1_firstSpeaker : GoodIn wsX4_get (wsV RX4 133 RX1 yX1_firstSpeaker wsX1_firstSpeaker) := goodIn_app (goodIn_of _ (by decide +kernel)) ggX4_get_X1_firstSpeaker
theorem dX4_get_0 : decode cX4_get 0 = .ok (.aload_n 0, 1) := by decide +kernel
theorem dX4_get_1 : decode cX4_get 1 = .ok (.getfield 19, 3) := by decide +kernel
theorem dX4_get_4 : decode cX4_get 4 = .ok (.iload_n 1, 1) := by decide +kernel
theorem dX4_get_5 : decode cX4_get 5 = .ok (.invokevirtual 81, 3) := by decide +kernel
theorem dX4_get_8 : decode cX4_get 8 = .ok (.ifCond .ne 6, 3) := by decide +kernel
theorem dX4_get_11 : decode cX4_get 11 = .ok (.bipush (-101), 2) := by decide +kernel
theorem dX4_get_13 : decode cX4_get 13 = .ok (.ireturn, 1) := by decide +kernel
theorem dX4_get_14 : decode cX4_get 14 = .ok (.iload_n 2, 1) := by decide +kernel
theorem dX4_get_15 : decode cX4_get 15 = .ok (.ifCond .eq 11, 3) := by decide +kernel
theorem dX4_get_18 : decode cX4_get 18 = .ok (.iload_n 2, 1) := by decide +kernel
theorem dX4_get_19 : decode cX4_get 19 = .ok (.iconst 1, 1) := by decide +kernel
theorem dX4_get_20 : decode cX4_get 20 = .ok (.if_icmp .eq 6, 3) := by decide +kernel
theorem dX4_get_23 : decode cX4_get 23 = .ok (.bipush (-102), 2) := by decide +kernel
theorem dX4_get_25 : decode cX4_get 25 = .ok (.ireturn, 1) := by decide +kernel
theorem dX4_get_26 : decode cX4_get 26 = .ok (.aload_n 0, 1) := by decide +kernel
theorem dX4_get_27 : decode cX4_get 27 = .ok (.getfield 41, 3) := by decide +kernel
theorem dX4_get_30 : decode cX4_get 30 = .ok (.iload_n 1, 1) := by decide +kernel
theorem dX4_get_31 : decode cX4_get 31 = .ok (.invokevirtual 114, 3) := by decide +kernel
theorem dX4_get_34 : decode cX4_get 34 = .ok (.iload_n 2, 1) := by decide +kernel
theorem dX4_get_35 : decode cX4_get 35 = .ok (.ifCond .ne 14, 3) := by decide +kernel
theorem dX4_get_38 : decode cX4_get 38 = .ok (.aload_n 0, 1) := by decide +kernel
theorem dX4_get_39 : decode cX4_get 39 = .ok (.getfield 41, 3) := by decide +kernel
theorem dX4_get_42 : decode cX4_get 42 = .ok (.iload_n 1, 1) := by decide +kernel
theorem dX4_get_43 : decode cX4_get 43 = .ok (.invokevirtual 117, 3) := by decide +kernel
theorem dX4_get_46 : decode cX4_get 46 = .ok (.goto 11, 3) := by decide +kernel
theorem dX4_get_49 : decode cX4_get 49 = .ok (.aload_n 0, 1) := by decide +kernel
theorem dX4_get_50 : decode cX4_get 50 = .ok (.getfield 41, 3) := by decide +kernel
theorem dX4_get_53 : decode cX4_get 53 = .ok (.iload_n 1, 1) := by decide +kernel
theorem dX4_get_54 : decode cX4_get 54 = .ok (.invokevirtual 133, 3) := by decide +kernel
theorem dX4_get_57 : decode cX4_get 57 = .ok (.ireturn, 1) := by decide +kernel
set_option maxRecDepth 20000 in
theorem ggX4_play_X0_isSet : GoodIn wsX4_play wsX0_isSet := goodIn_r _ [7, 8, 113, 114, 115, 116] (by decide +kernel) (by decide +kernel)
set_option maxRecDepth 20000 in
theorem gX4_play_X0_isSet : GoodIn wsX4_play (wsV RX4 126 RX0 yX0_isSet wsX0_isSet) := goodIn_app (goodIn_of _ (by decide +kernel)) ggX4_play_X0_isSet
set_option maxRecDepth 20000 in
theorem ggX4_play_X1_weighReplies : GoodIn wsX4_play wsX1_weighReplies := goodIn_r _ [13, 14, 15, 16, 17, 12, 18, 19, 20, 21, 22, 23, 24, 25, 6, 26, 27, 28, 29, 30, 8, 31, 32, 33, 34, 35, 36, 37, 38, 39, 40, 41, 42, 43, 44, 45, 46, 47, 48, 49, 50, 51, 52, 53, 54, 55, 56, 57, 58, 59, 60, 61, 62, 63, 64, 65, 66, 67, 68, 69, 70, 71, 72, 73, 74, 75, 76, 77, 78, 79, 80, 81, 82, 83, 84, 85, 86, 87, 88, 89, 90, 91, 92, 93, 94, 95, 117, 118, 119, 120, 121, 122, 123, 124, 125, 126, 127, 128, 129, 130, 131, 132, 133, 134, 135, 136, 137, 138, 113, 114, 115, 116] (by decide +kernel) (by decide +kernel)
set_option maxRecDepth 20000 in
theorem gX4_play_X1_weighReplies : GoodIn wsX4_play (wsV RX4 136 RX1 yX1_weighReplies wsX1_weighReplies) := goodIn_app (goodIn_of _ (by decide +kernel)) ggX4_play_X1_weighReplies
set_option maxRecDepth 20000 in
theorem ggX4_play_X1_bestWorth : GoodIn wsX4_play wsX1_bestWorth := goodIn_r _ [99, 14, 20, 52, 53, 12, 54, 77, 33, 78, 69, 70, 71, 72, 73, 74, 75, 76, 19, 21, 59, 60, 61, 6, 62, 8, 63, 39, 40, 41, 79, 80, 81, 82, 22, 83, 84, 85, 86, 87, 88, 89, 90, 91, 92, 117, 118, 119, 120, 121, 122, 123, 124, 125, 126, 127, 128, 129, 130, 131, 132, 133, 134, 135, 136, 137, 138, 113, 114, 115, 116] (by decide +kernel) (by decide +kernel)
set_option maxRecDepth 20000 in
theorem gX4_play_X1_bestWorth : GoodIn wsX4_play (wsV RX4 139 RX1 yX1_bestWorth wsX1_bestWorth) := goodIn_app (goodIn_of _ (by decide +kernel)) ggX4_play_X1_bestWorth
set_option maxRecDepth 20000 in
theorem ggX4_play_X1_bestOpening : GoodIn wsX4_play wsX1_bestOpening := goodIn_r _ [103, 14, 20, 104, 97, 98, 12, 99, 52, 53, 54, 77, 33, 78, 69, 70, 71, 72, 73, 74, 75, 76, 19, 21, 59, 60, 61, 6, 62, 8, 63, 39, 40, 41, 79, 80, 81, 82, 22, 83, 84, 85, 86, 87, 88, 89, 90, 91, 92, 117, 118, 119, 120, 121, 122, 123, 124, 125, 126, 127, 128, 129, 130, 131, 132, 133, 134, 135, 136, 137, 138, 113, 114, 115, 116] (by decide +kernel) (by decide +kernel)
set_option maxRecDepth 20000 in
theorem gX4_play_X1_bestOpening : GoodIn wsX4_play (wsV RX4 142 RX1 yX1_bestOpening wsX1_bestOpening) := goodIn_app (goodIn_of _ (by decide +kernel)) ggX4_play_X1_bestOpening
theorem dX4_play_0 : decode cX4_play 0 = .ok (.iload_n 1, 1) := by decide +kernel
theorem dX4_play_1 : decode cX4_play 1 = .ok (.iconst 1, 1) := by decide +kernel
theorem dX4_play_2 : decode cX4_play 2 = .ok (.if_icmp .lt 18, 3) := by decide +kernel
theorem dX4_play_5 : decode cX4_play 5 = .ok (.iload_n 1, 1) := by decide +kernel
theorem dX4_play_6 : decode cX4_play 6 = .ok (.bipush 6, 2) := by decide +kernel
theorem dX4_play_8 : decode cX4_play 8 = .ok (.if_icmp .gt 12, 3) := by decide +kernel
theorem dX4_play_11 : decode cX4_play 11 = .ok (.iload_n 2, 1) := by decide +kernel
theorem dX4_play_12 : decode cX4_play 12 = .ok (.ifCond .eq 11, 3) := by decide +kernel
theorem dX4_play_15 : decode cX4_play 15 = .ok (.iload_n 2, 1) := by decide +kernel
theorem dX4_play_16 : decode cX4_play 16 = .ok (.iconst 1, 1) := by decide +kernel
theorem dX4_play_17 : decode cX4_play 17 = .ok (.if_icmp .eq 6, 3) := by decide +kernel
theorem dX4_play_20 : decode cX4_play 20 = .ok (.bipush (-102), 2) := by decide +kernel
theorem dX4_play_22 : decode cX4_play 22 = .ok (.ireturn, 1) := by decide +kernel
theorem dX4_play_23 : decode cX4_play 23 = .ok (.aload_n 0, 1) := by decide +kernel
theorem dX4_play_24 : decode cX4_play 24 = .ok (.getfield 19, 3) := by decide +kernel
theorem dX4_play_27 : decode cX4_play 27 = .ok (.invokevirtual 126, 3) := by decide +kernel
theorem dX4_play_30 : decode cX4_play 30 = .ok (.ifCond .ne 6, 3) := by decide +kernel
theorem dX4_play_33 : decode cX4_play 33 = .ok (.bipush (-103), 2) := by decide +kernel
theorem dX4_play_35 : decode cX4_play 35 = .ok (.ireturn, 1) := by decide +kernel
theorem dX4_play_36 : decode cX4_play 36 = .ok (.aload_n 0, 1) := by decide +kernel
theorem dX4_play_37 : decode cX4_play 37 = .ok (.getfield 41, 3) := by decide +kernel
theorem dX4_play_40 : decode cX4_play 40 = .ok (.iload_n 1, 1) := by decide +kernel
theorem dX4_play_41 : decode cX4_play 41 = .ok (.invokevirtual 136, 3) := by decide +kernel
theorem dX4_play_44 : decode cX4_play 44 = .ok (.iload_n 2, 1) := by decide +kernel
theorem dX4_play_45 : decode cX4_play 45 = .ok (.ifCond .ne 15, 3) := by decide +kernel
theorem dX4_play_48 : decode cX4_play 48 = .ok (.aload_n 0, 1) := by decide +kernel
theorem dX4_play_49 : decode cX4_play 49 = .ok (.getfield 41, 3) := by decide +kernel
theorem dX4_play_52 : decode cX4_play 52 = .ok (.invokevirtual 139, 3) := by decide +kernel
theorem dX4_play_55 : decode cX4_play 55 = .ok (.iconst 1, 1) := by decide +kernel
theorem dX4_play_56 : decode cX4_play 56 = .ok (.iadd, 1) := by decide +kernel
theorem dX4_play_57 : decode cX4_play 57 = .ok (.goto 10, 3) := by decide +kernel
theorem dX4_play_60 : decode cX4_play 60 = .ok (.aload_n 0, 1) := by decide +kernel
theorem dX4_play_61 : decode cX4_play 61 = .ok (.getfield 41, 3) := by decide +kernel
theorem dX4_play_64 : decode cX4_play 64 = .ok (.invokevirtual 142, 3) := by decide +kernel
theorem dX4_play_67 : decode cX4_play 67 = .ok (.ireturn, 1) := by decide +kernel
set_option maxRecDepth 20000 in
theorem ggX4_hear_X0_has : GoodIn wsX4_hear wsX0_has := goodIn_r _ [7, 8, 40, 41, 42, 43] (by decide +kernel) (by decide +kernel)
set_option maxRecDepth 20000 in
theorem gX4_hear_X0_has : GoodIn wsX4_hear (wsV RX4 81 RX0 yX0_has wsX0_has) := goodIn_app (goodIn_of _ (by decide +kernel)) ggX4_hear_X0_has
set_option maxRecDepth 20000 in
theorem ggX4_hear_X3_tell : GoodIn wsX4_hear wsX3_tell := goodIn_r _ [13, 14, 15, 16, 17, 18, 19, 28, 29, 30, 31, 32, 33, 34, 35, 36, 37, 38, 39] (by decide +kernel) (by decide +kernel)
set_option maxRecDepth 20000 in
theorem gX4_hear_X3_tell : GoodIn wsX4_hear (wsV RX4 148 RX3 yX3_tell wsX3_tell) := goodIn_app (goodIn_of _ (by decide +kernel)) ggX4_hear_X3_tell
theorem dX4_hear_0 : decode cX4_hear 0 = .ok (.iload_n 1, 1) := by decide +kernel
theorem dX4_hear_1 : decode cX4_hear 1 = .ok (.ifCond .lt 9, 3) := by decide +kernel
theorem dX4_hear_4 : decode cX4_hear 4 = .ok (.iload_n 1, 1) := by decide +kernel
theorem dX4_hear_5 : decode cX4_hear 5 = .ok (.bipush 8, 2) := by decide +kernel
theorem dX4_hear_7 : decode cX4_hear 7 = .ok (.if_icmp .le 6, 3) := by decide +kernel
theorem dX4_hear_10 : decode cX4_hear 10 = .ok (.bipush (-102), 2) := by decide +kernel
theorem dX4_hear_12 : decode cX4_hear 12 = .ok (.ireturn, 1) := by decide +kernel
theorem dX4_hear_13 : decode cX4_hear 13 = .ok (.iload_n 2, 1) := by decide +kernel
theorem dX4_hear_14 : decode cX4_hear 14 = .ok (.iconst (-1), 1) := by decide +kernel
theorem dX4_hear_15 : decode cX4_hear 15 = .ok (.if_icmp .eq 17, 3) := by decide +kernel
theorem dX4_hear_18 : decode cX4_hear 18 = .ok (.aload_n 0, 1) := by decide +kernel
theorem dX4_hear_19 : decode cX4_hear 19 = .ok (.getfield 19, 3) := by decide +kernel
theorem dX4_hear_22 : decode cX4_hear 22 = .ok (.iload_n 2, 1) := by decide +kernel
theorem dX4_hear_23 : decode cX4_hear 23 = .ok (.invokevirtual 81, 3) := by decide +kernel
theorem dX4_hear_26 : decode cX4_hear 26 = .ok (.ifCond .ne 6, 3) := by decide +kernel
theorem dX4_hear_29 : decode cX4_hear 29 = .ok (.bipush (-101), 2) := by decide +kernel
theorem dX4_hear_31 : decode cX4_hear 31 = .ok (.ireturn, 1) := by decide +kernel
theorem dX4_hear_32 : decode cX4_hear 32 = .ok (.aload_n 0, 1) := by decide +kernel
theorem dX4_hear_33 : decode cX4_hear 33 = .ok (.getfield 26, 3) := by decide +kernel
theorem dX4_hear_36 : decode cX4_hear 36 = .ok (.getfield 145, 3) := by decide +kernel
theorem dX4_hear_39 : decode cX4_hear 39 = .ok (.bipush 8, 2) := by decide +kernel
theorem dX4_hear_41 : decode cX4_hear 41 = .ok (.if_icmp .lt 6, 3) := by decide +kernel
theorem dX4_hear_44 : decode cX4_hear 44 = .ok (.bipush (-104), 2) := by decide +kernel
theorem dX4_hear_46 : decode cX4_hear 46 = .ok (.ireturn, 1) := by decide +kernel
theorem dX4_hear_47 : decode cX4_hear 47 = .ok (.aload_n 0, 1) := by decide +kernel
theorem dX4_hear_48 : decode cX4_hear 48 = .ok (.getfield 26, 3) := by decide +kernel
theorem dX4_hear_51 : decode cX4_hear 51 = .ok (.iload_n 1, 1) := by decide +kernel
theorem dX4_hear_52 : decode cX4_hear 52 = .ok (.iload_n 2, 1) := by decide +kernel
theorem dX4_hear_53 : decode cX4_hear 53 = .ok (.invokevirtual 148, 3) := by decide +kernel
theorem dX4_hear_56 : decode cX4_hear 56 = .ok (.aload_n 0, 1) := by decide +kernel
theorem dX4_hear_57 : decode cX4_hear 57 = .ok (.getfield 26, 3) := by decide +kernel
theorem dX4_hear_60 : decode cX4_hear 60 = .ok (.getfield 145, 3) := by decide +kernel
theorem dX4_hear_63 : decode cX4_hear 63 = .ok (.ireturn, 1) := by decide +kernel
theorem dX4_forget_0 : decode cX4_forget 0 = .ok (.aload_n 0, 1) := by decide +kernel
theorem dX4_forget_1 : decode cX4_forget 1 = .ok (.getfield 26, 3) := by decide +kernel
theorem dX4_forget_4 : decode cX4_forget 4 = .ok (.getfield 145, 3) := by decide +kernel
theorem dX4_forget_7 : decode cX4_forget 7 = .ok (.istore_n 1, 1) := by decide +kernel
theorem dX4_forget_8 : decode cX4_forget 8 = .ok (.aload_n 0, 1) := by decide +kernel
theorem dX4_forget_9 : decode cX4_forget 9 = .ok (.getfield 26, 3) := by decide +kernel
theorem dX4_forget_12 : decode cX4_forget 12 = .ok (.iconst 0, 1) := by decide +kernel
theorem dX4_forget_13 : decode cX4_forget 13 = .ok (.putfield 145, 3) := by decide +kernel
theorem dX4_forget_16 : decode cX4_forget 16 = .ok (.iload_n 1, 1) := by decide +kernel
theorem dX4_forget_17 : decode cX4_forget 17 = .ok (.ireturn, 1) := by decide +kernel
set_option maxRecDepth 20000 in
theorem ggX4_rows_X0_isSet : GoodIn wsX4_rows wsX0_isSet := goodIn_r _ [7, 8, 87, 88, 89, 90] (by decide +kernel) (by decide +kernel)
set_option maxRecDepth 20000 in
theorem gX4_rows_X0_isSet : GoodIn wsX4_rows (wsV RX4 126 RX0 yX0_isSet wsX0_isSet) := goodIn_app (goodIn_of _ (by decide +kernel)) ggX4_rows_X0_isSet
set_option maxRecDepth 20000 in
theorem ggX4_rows_X1_fillWays : GoodIn wsX4_rows wsX1_fillWays := goodIn_r _ [13, 14, 15, 16, 17, 18, 19, 12, 20, 21, 22, 23, 24, 25, 6, 26, 27, 28, 29, 30, 8, 31, 32, 33, 34, 35, 36, 37, 38, 39, 40, 41, 42, 43, 44, 45, 46, 47, 48, 49, 50, 51, 52, 53, 54, 55, 56, 57, 58, 59, 60, 61, 62, 63, 64, 65, 66, 67, 68, 69, 70, 91, 92, 93, 94, 95, 96, 97, 98, 99, 100, 101, 102, 103, 104, 105, 106, 107, 108, 109, 110, 111, 112, 87, 88, 89, 90] (by decide +kernel) (by decide +kernel)
set_option maxRecDepth 20000 in
theorem gX4_rows_X1_fillWays : GoodIn wsX4_rows (wsV RX4 152 RX1 yX1_fillWays wsX1_fillWays) := goodIn_app (goodIn_of _ (by decide +kernel)) ggX4_rows_X1_fillWays
set_option maxRecDepth 20000 in
theorem ggX4_rows_X1_waysOf : GoodIn wsX4_rows wsX1_waysOf := goodIn_r _ [74, 14, 54, 55, 12, 56, 65, 33, 66, 91, 92, 93, 94, 95, 96, 97, 98, 99, 100] (by decide +kernel) (by decide +kernel)
set_option maxRecDepth 20000 in
theorem gX4_rows_X1_waysOf : GoodIn wsX4_rows (wsV RX4 155 RX1 yX1_waysOf wsX1_waysOf) := goodIn_app (goodIn_of _ (by decide +kernel)) ggX4_rows_X1_waysOf
set_option maxRecDepth 20000 in
theorem ggX4_rows_X1_lastsBehind : GoodIn wsX4_rows wsX1_lastsBehind := goodIn_r _ [78, 14, 54, 55, 12, 56, 65, 33, 66, 91, 92, 93, 94, 95, 96, 97, 98, 99, 100] (by decide +kernel) (by decide +kernel)
set_option maxRecDepth 20000 in
theorem gX4_rows_X1_lastsBehind : GoodIn wsX4_rows (wsV RX4 158 RX1 yX1_lastsBehind wsX1_lastsBehind) := goodIn_app (goodIn_of _ (by decide +kernel)) ggX4_rows_X1_lastsBehind
theorem dX4_rows_0 : decode cX4_rows 0 = .ok (.iload_n 1, 1) := by decide +kernel
theorem dX4_rows_1 : decode cX4_rows 1 = .ok (.ifCond .lt 18, 3) := by decide +kernel
theorem dX4_rows_4 : decode cX4_rows 4 = .ok (.iload_n 1, 1) := by decide +kernel
theorem dX4_rows_5 : decode cX4_rows 5 = .ok (.bipush 6, 2) := by decide +kernel
theorem dX4_rows_7 : decode cX4_rows 7 = .ok (.if_icmp .gt 12, 3) := by decide +kernel
theorem dX4_rows_10 : decode cX4_rows 10 = .ok (.iload_n 2, 1) := by decide +kernel
theorem dX4_rows_11 : decode cX4_rows 11 = .ok (.ifCond .eq 11, 3) := by decide +kernel
theorem dX4_rows_14 : decode cX4_rows 14 = .ok (.iload_n 2, 1) := by decide +kernel
theorem dX4_rows_15 : decode cX4_rows 15 = .ok (.iconst 1, 1) := by decide +kernel
theorem dX4_rows_16 : decode cX4_rows 16 = .ok (.if_icmp .eq 6, 3) := by decide +kernel
theorem dX4_rows_19 : decode cX4_rows 19 = .ok (.bipush (-102), 2) := by decide +kernel
theorem dX4_rows_21 : decode cX4_rows 21 = .ok (.ireturn, 1) := by decide +kernel
theorem dX4_rows_22 : decode cX4_rows 22 = .ok (.aload_n 0, 1) := by decide +kernel
theorem dX4_rows_23 : decode cX4_rows 23 = .ok (.getfield 19, 3) := by decide +kernel
theorem dX4_rows_26 : decode cX4_rows 26 = .ok (.invokevirtual 126, 3) := by decide +kernel
theorem dX4_rows_29 : decode cX4_rows 29 = .ok (.ifCond .ne 6, 3) := by decide +kernel
theorem dX4_rows_32 : decode cX4_rows 32 = .ok (.bipush (-103), 2) := by decide +kernel
theorem dX4_rows_34 : decode cX4_rows 34 = .ok (.ireturn, 1) := by decide +kernel
theorem dX4_rows_35 : decode cX4_rows 35 = .ok (.aload_n 0, 1) := by decide +kernel
theorem dX4_rows_36 : decode cX4_rows 36 = .ok (.getfield 41, 3) := by decide +kernel
theorem dX4_rows_39 : decode cX4_rows 39 = .ok (.iload_n 1, 1) := by decide +kernel
theorem dX4_rows_40 : decode cX4_rows 40 = .ok (.invokevirtual 152, 3) := by decide +kernel
theorem dX4_rows_43 : decode cX4_rows 43 = .ok (.iload_n 2, 1) := by decide +kernel
theorem dX4_rows_44 : decode cX4_rows 44 = .ok (.ifCond .ne 14, 3) := by decide +kernel
theorem dX4_rows_47 : decode cX4_rows 47 = .ok (.aload_n 0, 1) := by decide +kernel
theorem dX4_rows_48 : decode cX4_rows 48 = .ok (.getfield 41, 3) := by decide +kernel
theorem dX4_rows_51 : decode cX4_rows 51 = .ok (.iload_n 1, 1) := by decide +kernel
theorem dX4_rows_52 : decode cX4_rows 52 = .ok (.invokevirtual 155, 3) := by decide +kernel
theorem dX4_rows_55 : decode cX4_rows 55 = .ok (.goto 11, 3) := by decide +kernel
theorem dX4_rows_58 : decode cX4_rows 58 = .ok (.aload_n 0, 1) := by decide +kernel
theorem dX4_rows_59 : decode cX4_rows 59 = .ok (.getfield 41, 3) := by decide +kernel
theorem dX4_rows_62 : decode cX4_rows 62 = .ok (.iload_n 1, 1) := by decide +kernel
theorem dX4_rows_63 : decode cX4_rows 63 = .ok (.invokevirtual 158, 3) := by decide +kernel
theorem dX4_rows_66 : decode cX4_rows 66 = .ok (.ireturn, 1) := by decide +kernel
set_option maxRecDepth 20000 in
theorem ggX4_when_X0_isSet : GoodIn wsX4_when wsX0_isSet := goodIn_r _ [7, 8, 101, 102, 103, 104] (by decide +kernel) (by decide +kernel)
set_option maxRecDepth 20000 in
theorem gX4_when_X0_isSet : GoodIn wsX4_when (wsV RX4 126 RX0 yX0_isSet wsX0_isSet) := goodIn_app (goodIn_of _ (by decide +kernel)) ggX4_when_X0_isSet
set_option maxRecDepth 20000 in
theorem ggX4_when_X1_bestLook : GoodIn wsX4_when wsX1_bestLook := goodIn_r _ [13, 14, 15, 16, 12, 17, 18, 19, 20, 21, 22, 23, 24, 25, 26, 27, 28, 29, 6, 30, 31, 32, 33, 34, 8, 35, 36, 37, 38, 39, 40, 41, 42, 43, 44, 45, 46, 47, 48, 49, 50, 51, 52, 53, 54, 55, 56, 57, 58, 59, 60, 61, 62, 63, 64, 65, 66, 67, 68, 69, 70, 71, 72, 73, 74, 75, 76, 77, 78, 79, 80, 81, 82, 83, 84, 85, 86, 87, 88, 89, 90, 91, 92, 105, 106, 107, 108, 109, 110, 111, 112, 113, 114, 115, 116, 117, 118, 119, 120, 121, 122, 123, 124, 125, 126, 101, 102, 103, 104] (by decide +kernel) (by decide +kernel)
set_option maxRecDepth 20000 in
theorem gX4_when_X1_bestLook : GoodIn wsX4_when (wsV RX4 161 RX1 yX1_bestLook wsX1_bestLook) := goodIn_app (goodIn_of _ (by decide +kernel)) ggX4_when_X1_bestLook
theorem dX4_when_0 : decode cX4_when 0 = .ok (.aload_n 0, 1) := by decide +kernel
theorem dX4_when_1 : decode cX4_when 1 = .ok (.getfield 19, 3) := by decide +kernel
theorem dX4_when_4 : decode cX4_when 4 = .ok (.invokevirtual 126, 3) := by decide +kernel
theorem dX4_when_7 : decode cX4_when 7 = .ok (.ifCond .ne 6, 3) := by decide +kernel
theorem dX4_when_10 : decode cX4_when 10 = .ok (.bipush (-103), 2) := by decide +kernel
theorem dX4_when_12 : decode cX4_when 12 = .ok (.ireturn, 1) := by decide +kernel
theorem dX4_when_13 : decode cX4_when 13 = .ok (.aload_n 0, 1) := by decide +kernel
theorem dX4_when_14 : decode cX4_when 14 = .ok (.getfield 41, 3) := by decide +kernel
theorem dX4_when_17 : decode cX4_when 17 = .ok (.invokevirtual 161, 3) := by decide +kernel
theorem dX4_when_20 : decode cX4_when 20 = .ok (.ireturn, 1) := by decide +kernel
set_option maxRecDepth 20000 in
theorem ggX4_sessions_X0_isSet : GoodIn wsX4_sessions wsX0_isSet := goodIn_r _ [8, 9, 115, 116, 117, 118] (by decide +kernel) (by decide +kernel)
set_option maxRecDepth 20000 in
theorem gX4_sessions_X0_isSet : GoodIn wsX4_sessions (wsV RX4 126 RX0 yX0_isSet wsX0_isSet) := goodIn_app (goodIn_of _ (by decide +kernel)) ggX4_sessions_X0_isSet
set_option maxRecDepth 20000 in
theorem ggX4_sessions_X3_takeFrom : GoodIn wsX4_sessions wsX3_takeFrom := goodIn_r _ [14, 15, 16, 17, 18, 19, 20, 21, 22, 23, 24, 25, 26, 27, 28, 29, 30, 31, 32, 103, 104, 105, 106, 107, 108, 109, 110, 111, 112, 113, 114] (by decide +kernel) (by decide +kernel)
set_option maxRecDepth 20000 in
theorem gX4_sessions_X3_takeFrom : GoodIn wsX4_sessions (wsV RX4 164 RX3 yX3_takeFrom wsX3_takeFrom) := goodIn_app (goodIn_of _ (by decide +kernel)) ggX4_sessions_X3_takeFrom
set_option maxRecDepth 20000 in
theorem ggX4_sessions_X4_runSessions : GoodIn wsX4_sessions wsX4_runSessions := goodIn_r _ [36, 1, 37, 38, 2, 39, 40, 28, 41, 42, 43, 44, 45, 46, 47, 13, 48, 15, 17, 22, 18, 49, 50, 51, 52, 53, 7, 54, 55, 56, 57, 58, 9, 59, 60, 61, 62, 63, 64, 65, 66, 67, 16, 68, 69, 70, 71, 72, 73, 74, 75, 76, 19, 20, 21, 77, 78, 79, 80, 81, 82, 83, 84, 24, 31, 32, 85, 86, 87, 88, 89, 90, 91, 92, 93, 94, 95, 96, 97, 98, 99, 100, 101, 102, 115, 116, 117, 118, 103, 104, 105, 106, 107, 108, 109, 110, 111, 112, 113, 114] (by decide +kernel) (by decide +kernel)
set_option maxRecDepth 20000 in
theorem gX4_sessions_X4_runSessions : GoodIn wsX4_sessions (wsV RX4 168 RX4 yX4_runSessions wsX4_runSessions) := goodIn_app (goodIn_of _ (by decide +kernel)) ggX4_sessions_X4_runSessions
theorem dX4_sessions_0 : decode cX4_sessions 0 = .ok (.iload_n 1, 1) := by decide +kernel
theorem dX4_sessions_1 : decode cX4_sessions 1 = .ok (.iconst 1, 1) := by decide +kernel
theorem dX4_sessions_2 : decode cX4_sessions 2 = .ok (.if_icmp .lt 22, 3) := by decide +kernel
theorem dX4_sessions_5 : decode cX4_sessions 5 = .ok (.iload_n 1, 1) := by decide +kernel
theorem dX4_sessions_6 : decode cX4_sessions 6 = .ok (.bipush 60, 2) := by decide +kernel
theorem dX4_sessions_8 : decode cX4_sessions 8 = .ok (.if_icmp .gt 16, 3) := by decide +kernel
theorem dX4_sessions_11 : decode cX4_sessions 11 = .ok (.iload_n 2, 1) := by decide +kernel
theorem dX4_sessions_12 : decode cX4_sessions 12 = .ok (.ifCond .lt 12, 3) := by decide +kernel
theorem dX4_sessions_15 : decode cX4_sessions 15 = .ok (.iload_n 3, 1) := by decide +kernel
theorem dX4_sessions_16 : decode cX4_sessions 16 = .ok (.ifCond .lt 8, 3) := by decide +kernel
theorem dX4_sessions_19 : decode cX4_sessions 19 = .ok (.iload_n 3, 1) := by decide +kernel
theorem dX4_sessions_20 : decode cX4_sessions 20 = .ok (.iconst 3, 1) := by decide +kernel
theorem dX4_sessions_21 : decode cX4_sessions 21 = .ok (.if_icmp .lt 6, 3) := by decide +kernel
theorem dX4_sessions_24 : decode cX4_sessions 24 = .ok (.bipush (-102), 2) := by decide +kernel
theorem dX4_sessions_26 : decode cX4_sessions 26 = .ok (.ireturn, 1) := by decide +kernel
theorem dX4_sessions_27 : decode cX4_sessions 27 = .ok (.aload_n 0, 1) := by decide +kernel
theorem dX4_sessions_28 : decode cX4_sessions 28 = .ok (.getfield 19, 3) := by decide +kernel
theorem dX4_sessions_31 : decode cX4_sessions 31 = .ok (.invokevirtual 126, 3) := by decide +kernel
theorem dX4_sessions_34 : decode cX4_sessions 34 = .ok (.ifCond .ne 6, 3) := by decide +kernel
theorem dX4_sessions_37 : decode cX4_sessions 37 = .ok (.bipush (-103), 2) := by decide +kernel
theorem dX4_sessions_39 : decode cX4_sessions 39 = .ok (.ireturn, 1) := by decide +kernel
theorem dX4_sessions_40 : decode cX4_sessions 40 = .ok (.aload_n 0, 1) := by decide +kernel
theorem dX4_sessions_41 : decode cX4_sessions 41 = .ok (.getfield 33, 3) := by decide +kernel
theorem dX4_sessions_44 : decode cX4_sessions 44 = .ok (.aload_n 0, 1) := by decide +kernel
theorem dX4_sessions_45 : decode cX4_sessions 45 = .ok (.getfield 26, 3) := by decide +kernel
theorem dX4_sessions_48 : decode cX4_sessions 48 = .ok (.invokevirtual 164, 3) := by decide +kernel
theorem dX4_sessions_51 : decode cX4_sessions 51 = .ok (.aload_n 0, 1) := by decide +kernel
theorem dX4_sessions_52 : decode cX4_sessions 52 = .ok (.iload_n 1, 1) := by decide +kernel
theorem dX4_sessions_53 : decode cX4_sessions 53 = .ok (.iload_n 2, 1) := by decide +kernel
theorem dX4_sessions_54 : decode cX4_sessions 54 = .ok (.invokevirtual 168, 3) := by decide +kernel
theorem dX4_sessions_57 : decode cX4_sessions 57 = .ok (.istore 4, 2) := by decide +kernel
theorem dX4_sessions_59 : decode cX4_sessions 59 = .ok (.iload_n 3, 1) := by decide +kernel
theorem dX4_sessions_60 : decode cX4_sessions 60 = .ok (.lookupswitch 60 #[(0, 28), (1, 44)], 28) := by decide +kernel
theorem dX4_sessions_88 : decode cX4_sessions 88 = .ok (.aload_n 0, 1) := by decide +kernel
theorem dX4_sessions_89 : decode cX4_sessions 89 = .ok (.getfield 33, 3) := by decide +kernel
theorem dX4_sessions_92 : decode cX4_sessions 92 = .ok (.getfield 172, 3) := by decide +kernel
theorem dX4_sessions_95 : decode cX4_sessions 95 = .ok (.aload_n 0, 1) := by decide +kernel
theorem dX4_sessions_96 : decode cX4_sessions 96 = .ok (.getfield 26, 3) := by decide +kernel
theorem dX4_sessions_99 : decode cX4_sessions 99 = .ok (.getfield 172, 3) := by decide +kernel
theorem dX4_sessions_102 : decode cX4_sessions 102 = .ok (.isub, 1) := by decide +kernel
theorem dX4_sessions_103 : decode cX4_sessions 103 = .ok (.ireturn, 1) := by decide +kernel
theorem dX4_sessions_104 : decode cX4_sessions 104 = .ok (.aload_n 0, 1) := by decide +kernel
theorem dX4_sessions_105 : decode cX4_sessions 105 = .ok (.getfield 33, 3) := by decide +kernel
theorem dX4_sessions_108 : decode cX4_sessions 108 = .ok (.getfield 175, 3) := by decide +kernel
theorem dX4_sessions_111 : decode cX4_sessions 111 = .ok (.aload_n 0, 1) := by decide +kernel
theorem dX4_sessions_112 : decode cX4_sessions 112 = .ok (.getfield 26, 3) := by decide +kernel
theorem dX4_sessions_115 : decode cX4_sessions 115 = .ok (.getfield 175, 3) := by decide +kernel
theorem dX4_sessions_118 : decode cX4_sessions 118 = .ok (.isub, 1) := by decide +kernel
theorem dX4_sessions_119 : decode cX4_sessions 119 = .ok (.ireturn, 1) := by decide +kernel
theorem dX4_sessions_120 : decode cX4_sessions 120 = .ok (.iload 4, 2) := by decide +kernel
theorem dX4_sessions_122 : decode cX4_sessions 122 = .ok (.ireturn, 1) := by decide +kernel
set_option maxRecDepth 20000 in
theorem ggX4_image_X0_isSet : GoodIn wsX4_image wsX0_isSet := goodIn_r _ [9, 10, 54, 55, 56, 57] (by decide +kernel) (by decide +kernel)
set_option maxRecDepth 20000 in
theorem gX4_image_X0_isSet : GoodIn wsX4_image (wsV RX4 126 RX0 yX0_isSet wsX0_isSet) := goodIn_app (goodIn_of _ (by decide +kernel)) ggX4_image_X0_isSet
set_option maxRecDepth 20000 in
theorem ggX4_image_X3_takeFrom : GoodIn wsX4_image wsX3_takeFrom := goodIn_r _ [15, 16, 17, 18, 19, 20, 21, 22, 23, 24, 25, 26, 27, 28, 29, 30, 31, 32, 33, 42, 43, 44, 45, 46, 47, 48, 49, 50, 51, 52, 53] (by decide +kernel) (by decide +kernel)
set_option maxRecDepth 20000 in
theorem gX4_image_X3_takeFrom : GoodIn wsX4_image (wsV RX4 164 RX3 yX3_takeFrom wsX3_takeFrom) := goodIn_app (goodIn_of _ (by decide +kernel)) ggX4_image_X3_takeFrom
theorem dX4_image_0 : decode cX4_image 0 = .ok (.aload_n 0, 1) := by decide +kernel
theorem dX4_image_1 : decode cX4_image 1 = .ok (.getfield 19, 3) := by decide +kernel
theorem dX4_image_4 : decode cX4_image 4 = .ok (.invokevirtual 126, 3) := by decide +kernel
theorem dX4_image_7 : decode cX4_image 7 = .ok (.ifCond .ne 6, 3) := by decide +kernel
theorem dX4_image_10 : decode cX4_image 10 = .ok (.bipush (-103), 2) := by decide +kernel
theorem dX4_image_12 : decode cX4_image 12 = .ok (.ireturn, 1) := by decide +kernel
theorem dX4_image_13 : decode cX4_image 13 = .ok (.aload_n 0, 1) := by decide +kernel
theorem dX4_image_14 : decode cX4_image 14 = .ok (.getfield 30, 3) := by decide +kernel
theorem dX4_image_17 : decode cX4_image 17 = .ok (.aload_n 0, 1) := by decide +kernel
theorem dX4_image_18 : decode cX4_image 18 = .ok (.getfield 26, 3) := by decide +kernel
theorem dX4_image_21 : decode cX4_image 21 = .ok (.invokevirtual 164, 3) := by decide +kernel
theorem dX4_image_24 : decode cX4_image 24 = .ok (.aload_n 0, 1) := by decide +kernel
theorem dX4_image_25 : decode cX4_image 25 = .ok (.iconst 1, 1) := by decide +kernel
theorem dX4_image_26 : decode cX4_image 26 = .ok (.putfield 45, 3) := by decide +kernel
theorem dX4_image_29 : decode cX4_image 29 = .ok (.aload_n 0, 1) := by decide +kernel
theorem dX4_image_30 : decode cX4_image 30 = .ok (.getfield 26, 3) := by decide +kernel
theorem dX4_image_33 : decode cX4_image 33 = .ok (.getfield 178, 3) := by decide +kernel
theorem dX4_image_36 : decode cX4_image 36 = .ok (.ireturn, 1) := by decide +kernel
set_option maxRecDepth 20000 in
theorem ggX4_restore_X3_takeFrom : GoodIn wsX4_restore wsX3_takeFrom := goodIn_r _ [8, 9, 10, 11, 12, 13, 14, 15, 16, 17, 18, 19, 20, 21, 22, 23, 24, 25, 26, 35, 36, 37, 38, 39, 40, 41, 42, 43, 44, 45, 46] (by decide +kernel) (by decide +kernel)
set_option maxRecDepth 20000 in
theorem gX4_restore_X3_takeFrom : GoodIn wsX4_restore (wsV RX4 164 RX3 yX3_takeFrom wsX3_takeFrom) := goodIn_app (goodIn_of _ (by decide +kernel)) ggX4_restore_X3_takeFrom
theorem dX4_restore_0 : decode cX4_restore 0 = .ok (.aload_n 0, 1) := by decide +kernel
theorem dX4_restore_1 : decode cX4_restore 1 = .ok (.getfield 45, 3) := by decide +kernel
theorem dX4_restore_4 : decode cX4_restore 4 = .ok (.ifCond .ne 6, 3) := by decide +kernel
theorem dX4_restore_7 : decode cX4_restore 7 = .ok (.bipush (-103), 2) := by decide +kernel
theorem dX4_restore_9 : decode cX4_restore 9 = .ok (.ireturn, 1) := by decide +kernel
theorem dX4_restore_10 : decode cX4_restore 10 = .ok (.aload_n 0, 1) := by decide +kernel
theorem dX4_restore_11 : decode cX4_restore 11 = .ok (.getfield 26, 3) := by decide +kernel
theorem dX4_restore_14 : decode cX4_restore 14 = .ok (.aload_n 0, 1) := by decide +kernel
theorem dX4_restore_15 : decode cX4_restore 15 = .ok (.getfield 30, 3) := by decide +kernel
theorem dX4_restore_18 : decode cX4_restore 18 = .ok (.invokevirtual 164, 3) := by decide +kernel
theorem dX4_restore_21 : decode cX4_restore 21 = .ok (.aload_n 0, 1) := by decide +kernel
theorem dX4_restore_22 : decode cX4_restore 22 = .ok (.getfield 26, 3) := by decide +kernel
theorem dX4_restore_25 : decode cX4_restore 25 = .ok (.getfield 178, 3) := by decide +kernel
theorem dX4_restore_28 : decode cX4_restore 28 = .ok (.ireturn, 1) := by decide +kernel
theorem dX4_count_0 : decode cX4_count 0 = .ok (.iload_n 1, 1) := by decide +kernel
theorem dX4_count_1 : decode cX4_count 1 = .ok (.tableswitch 156 0 11 #[63, 71, 79, 87, 95, 103, 111, 119, 127, 135, 143, 151], 63) := by decide +kernel
theorem dX4_count_64 : decode cX4_count 64 = .ok (.aload_n 0, 1) := by decide +kernel
theorem dX4_count_65 : decode cX4_count 65 = .ok (.getfield 19, 3) := by decide +kernel
theorem dX4_count_68 : decode cX4_count 68 = .ok (.getfield 78, 3) := by decide +kernel
theorem dX4_count_71 : decode cX4_count 71 = .ok (.ireturn, 1) := by decide +kernel
theorem dX4_count_72 : decode cX4_count 72 = .ok (.aload_n 0, 1) := by decide +kernel
theorem dX4_count_73 : decode cX4_count 73 = .ok (.getfield 19, 3) := by decide +kernel
theorem dX4_count_76 : decode cX4_count 76 = .ok (.getfield 181, 3) := by decide +kernel
theorem dX4_count_79 : decode cX4_count 79 = .ok (.ireturn, 1) := by decide +kernel
theorem dX4_count_80 : decode cX4_count 80 = .ok (.aload_n 0, 1) := by decide +kernel
theorem dX4_count_81 : decode cX4_count 81 = .ok (.getfield 26, 3) := by decide +kernel
theorem dX4_count_84 : decode cX4_count 84 = .ok (.getfield 99, 3) := by decide +kernel
theorem dX4_count_87 : decode cX4_count 87 = .ok (.ireturn, 1) := by decide +kernel
theorem dX4_count_88 : decode cX4_count 88 = .ok (.aload_n 0, 1) := by decide +kernel
theorem dX4_count_89 : decode cX4_count 89 = .ok (.getfield 26, 3) := by decide +kernel
theorem dX4_count_92 : decode cX4_count 92 = .ok (.getfield 184, 3) := by decide +kernel
theorem dX4_count_95 : decode cX4_count 95 = .ok (.ireturn, 1) := by decide +kernel
theorem dX4_count_96 : decode cX4_count 96 = .ok (.aload_n 0, 1) := by decide +kernel
theorem dX4_count_97 : decode cX4_count 97 = .ok (.getfield 26, 3) := by decide +kernel
theorem dX4_count_100 : decode cX4_count 100 = .ok (.getfield 187, 3) := by decide +kernel
theorem dX4_count_103 : decode cX4_count 103 = .ok (.ireturn, 1) := by decide +kernel
theorem dX4_count_104 : decode cX4_count 104 = .ok (.aload_n 0, 1) := by decide +kernel
theorem dX4_count_105 : decode cX4_count 105 = .ok (.getfield 26, 3) := by decide +kernel
theorem dX4_count_108 : decode cX4_count 108 = .ok (.getfield 172, 3) := by decide +kernel
theorem dX4_count_111 : decode cX4_count 111 = .ok (.ireturn, 1) := by decide +kernel
theorem dX4_count_112 : decode cX4_count 112 = .ok (.aload_n 0, 1) := by decide +kernel
theorem dX4_count_113 : decode cX4_count 113 = .ok (.getfield 26, 3) := by decide +kernel
theorem dX4_count_116 : decode cX4_count 116 = .ok (.getfield 175, 3) := by decide +kernel
theorem dX4_count_119 : decode cX4_count 119 = .ok (.ireturn, 1) := by decide +kernel
theorem dX4_count_120 : decode cX4_count 120 = .ok (.aload_n 0, 1) := by decide +kernel
theorem dX4_count_121 : decode cX4_count 121 = .ok (.getfield 26, 3) := by decide +kernel
theorem dX4_count_124 : decode cX4_count 124 = .ok (.getfield 190, 3) := by decide +kernel
theorem dX4_count_127 : decode cX4_count 127 = .ok (.ireturn, 1) := by decide +kernel
theorem dX4_count_128 : decode cX4_count 128 = .ok (.aload_n 0, 1) := by decide +kernel
theorem dX4_count_129 : decode cX4_count 129 = .ok (.getfield 26, 3) := by decide +kernel
theorem dX4_count_132 : decode cX4_count 132 = .ok (.getfield 178, 3) := by decide +kernel
theorem dX4_count_135 : decode cX4_count 135 = .ok (.ireturn, 1) := by decide +kernel
theorem dX4_count_136 : decode cX4_count 136 = .ok (.aload_n 0, 1) := by decide +kernel
theorem dX4_count_137 : decode cX4_count 137 = .ok (.getfield 26, 3) := by decide +kernel
theorem dX4_count_140 : decode cX4_count 140 = .ok (.getfield 145, 3) := by decide +kernel
theorem dX4_count_143 : decode cX4_count 143 = .ok (.ireturn, 1) := by decide +kernel
theorem dX4_count_144 : decode cX4_count 144 = .ok (.aload_n 0, 1) := by decide +kernel
theorem dX4_count_145 : decode cX4_count 145 = .ok (.getfield 10, 3) := by decide +kernel
theorem dX4_count_148 : decode cX4_count 148 = .ok (.getfield 53, 3) := by decide +kernel
theorem dX4_count_151 : decode cX4_count 151 = .ok (.ireturn, 1) := by decide +kernel
theorem dX4_count_152 : decode cX4_count 152 = .ok (.aload_n 0, 1) := by decide +kernel
theorem dX4_count_153 : decode cX4_count 153 = .ok (.getfield 49, 3) := by decide +kernel
theorem dX4_count_156 : decode cX4_count 156 = .ok (.ireturn, 1) := by decide +kernel
theorem dX4_count_157 : decode cX4_count 157 = .ok (.bipush (-102), 2) := by decide +kernel
theorem dX4_count_159 : decode cX4_count 159 = .ok (.ireturn, 1) := by decide +kernel
set_option maxRecDepth 20000 in
theorem ggX4_digest_X4_seat : GoodIn wsX4_digest wsX4_seat := goodIn_r _ [9, 2, 10, 11, 12, 13, 14, 15, 16, 17, 18, 19, 20, 21, 22, 23, 24, 25, 26, 27, 28, 29, 8, 30, 31, 32, 33, 34, 35, 36, 37, 38, 39, 40, 41, 42, 43, 44, 45, 46, 47, 48, 49, 50, 51, 52, 53, 54, 55, 56, 57, 58, 59, 60, 61, 62, 63, 64, 65, 66, 67, 68, 69, 70, 71, 72, 73, 74, 75, 76, 77, 78, 79, 80, 81, 82, 83, 84, 213, 214, 215, 216, 217, 218, 219, 220, 227, 228, 229, 230, 231, 232, 233, 234, 235, 236, 237, 238, 221, 222, 223, 224, 239, 240, 241, 242, 243, 244, 245, 246, 247, 248] (by decide +kernel) (by decide +kernel)
set_option maxRecDepth 20000 in
theorem gX4_digest_X4_seat : GoodIn wsX4_digest (wsV RX4 197 RX4 yX4_seat wsX4_seat) := goodIn_app (goodIn_of _ (by decide +kernel)) ggX4_digest_X4_seat
set_option maxRecDepth 20000 in
theorem ggX4_digest_X4_get : GoodIn wsX4_digest wsX4_get := goodIn_r _ [88, 2, 11, 12, 13, 14, 15, 16, 17, 43, 44, 45, 46, 47, 48, 49, 50, 51, 52, 53, 54, 55, 56, 57, 58, 59, 60, 61, 32, 33, 34, 35, 19, 20, 21, 22, 29, 8, 30, 36, 37, 38, 39, 62, 63, 64, 65, 66, 67, 68, 69, 70, 71, 72, 73, 74, 75, 76, 77, 78, 79, 80, 41, 42, 81, 82, 83, 84, 89, 90, 91, 92, 93, 213, 214, 215, 216, 217, 218, 219, 220, 221, 222, 223, 224, 239, 240, 241, 242, 243, 244, 245, 246, 247, 248, 227, 228, 229, 230, 231, 232, 233, 234, 235, 236, 237, 238] (by decide +kernel) (by decide +kernel)
set_option maxRecDepth 20000 in
theorem gX4_digest_X4_get : GoodIn wsX4_digest (wsV RX4 200 RX4 yX4_get wsX4_get) := goodIn_app (goodIn_of _ (by decide +kernel)) ggX4_digest_X4_get
set_option maxRecDepth 20000 in
theorem ggX4_digest_X0_isSet : GoodIn wsX4_digest wsX0_isSet := goodIn_r _ [97, 17, 221, 222, 223, 224] (by decide +kernel) (by decide +kernel)
set_option maxRecDepth 20000 in
theorem gX4_digest_X0_isSet : GoodIn wsX4_digest (wsV RX4 126 RX0 yX0_isSet wsX0_isSet) := goodIn_app (goodIn_of _ (by decide +kernel)) ggX4_digest_X0_isSet
set_option maxRecDepth 20000 in
theorem ggX4_digest_X4_play : GoodIn wsX4_digest wsX4_play := goodIn_r _ [101, 2, 11, 94, 95, 96, 15, 97, 17, 102, 103, 104, 46, 105, 106, 53, 54, 55, 56, 57, 58, 59, 60, 61, 32, 33, 34, 35, 19, 20, 21, 22, 29, 8, 30, 36, 37, 38, 39, 62, 63, 64, 65, 66, 67, 68, 69, 70, 71, 72, 73, 74, 107, 108, 109, 110, 111, 112, 113, 114, 24, 25, 26, 27, 115, 116, 117, 118, 119, 120, 121, 122, 123, 124, 125, 126, 127, 41, 42, 128, 129, 130, 131, 132, 133, 134, 135, 136, 51, 137, 49, 50, 52, 138, 139, 40, 140, 141, 142, 143, 144, 145, 146, 147, 148, 213, 214, 215, 216, 217, 218, 219, 220, 221, 222, 223, 224, 239, 240, 241, 242, 243, 244, 245, 246, 247, 248, 227, 228, 229, 230, 231, 232, 233, 234, 235, 236, 237, 238] (by decide +kernel) (by decide +kernel)
set_option maxRecDepth 20000 in
theorem gX4_digest_X4_play : GoodIn wsX4_digest (wsV RX4 203 RX4 yX4_play wsX4_play) := goodIn_app (goodIn_of _ (by decide +kernel)) ggX4_digest_X4_play
set_option maxRecDepth 20000 in
theorem ggX4_digest_X4_rows : GoodIn wsX4_digest wsX4_rows := goodIn_r _ [152, 2, 11, 94, 95, 96, 15, 97, 17, 153, 154, 155, 46, 156, 157, 58, 59, 53, 54, 55, 56, 57, 60, 61, 32, 33, 34, 35, 19, 20, 21, 22, 29, 8, 30, 36, 37, 38, 39, 62, 63, 64, 65, 66, 67, 68, 69, 70, 71, 72, 73, 74, 75, 76, 158, 159, 160, 161, 162, 163, 164, 165, 166, 167, 168, 41, 42, 169, 170, 171, 172, 173, 174, 175, 176, 177, 178, 179, 180, 213, 214, 215, 216, 217, 218, 219, 220, 221, 222, 223, 224, 239, 240, 241, 242, 243, 244, 245, 246, 247, 248, 227, 228, 229, 230, 231, 232, 233, 234, 235, 236, 237, 238] (by decide +kernel) (by decide +kernel)
set_option maxRecDepth 20000 in
theorem gX4_digest_X4_rows : GoodIn wsX4_digest (wsV RX4 206 RX4 yX4_rows wsX4_rows) := goodIn_app (goodIn_of _ (by decide +kernel)) ggX4_digest_X4_rows
set_option maxRecDepth 20000 in
theorem ggX4_digest_X4_when : GoodIn wsX4_digest wsX4_when := goodIn_r _ [184, 2, 11, 94, 95, 96, 15, 97, 17, 185, 186, 187, 46, 188, 189, 154, 155, 156, 157, 58, 59, 53, 54, 55, 56, 57, 60, 61, 32, 33, 34, 35, 19, 20, 21, 22, 29, 8, 30, 36, 37, 38, 39, 62, 63, 64, 65, 66, 67, 68, 69, 70, 71, 72, 73, 74, 75, 76, 158, 159, 160, 161, 162, 163, 164, 165, 166, 167, 168, 41, 42, 169, 170, 171, 172, 190, 174, 175, 176, 191, 192, 193, 194, 195, 196, 197, 198, 199, 200, 135, 136, 51, 137, 213, 214, 215, 216, 217, 218, 219, 220, 221, 222, 223, 224, 239, 240, 241, 242, 243, 244, 245, 246, 247, 248, 227, 228, 229, 230, 231, 232, 233, 234, 235, 236, 237, 238] (by decide +kernel) (by decide +kernel)
set_option maxRecDepth 20000 in
theorem gX4_digest_X4_when : GoodIn wsX4_digest (wsV RX4 209 RX4 yX4_when wsX4_when) := goodIn_app (goodIn_of _ (by decide +kernel)) ggX4_digest_X4_when
set_option maxRecDepth 20000 in
theorem ggX4_digest_X2_codeAt : GoodIn wsX4_digest wsX2_codeAt := goodIn_r _ [205, 206, 207, 41, 8, 42, 225, 226] (by decide +kernel) (by decide +kernel)
set_option maxRecDepth 20000 in
theorem gX4_digest_X2_codeAt : GoodIn wsX4_digest (wsV RX4 212 RX2 yX2_codeAt wsX2_codeAt) := goodIn_app (goodIn_of _ (by decide +kernel)) ggX4_digest_X2_codeAt
set_option maxRecDepth 20000 in
theorem ggX4_digest_X4_count : GoodIn wsX4_digest wsX4_count := goodIn_r _ [211, 2, 10, 4, 212, 213, 214, 215, 216, 217, 218, 219, 220, 221, 222, 223, 224, 227, 228, 229, 230, 231, 232, 233, 234, 235, 236, 237, 238, 225, 226] (by decide +kernel) (by decide +kernel)
set_option maxRecDepth 20000 in
theorem gX4_digest_X4_count : GoodIn wsX4_digest (wsV RX4 215 RX4 yX4_count wsX4_count) := goodIn_app (goodIn_of _ (by decide +kernel)) ggX4_digest_X4_count
theorem dX4_digest_0 : decode cX4_digest 0 = .ok (.ldc2_w 193, 3) := by decide +kernel
theorem dX4_digest_3 : decode cX4_digest 3 = .ok (.lstore_n 1, 1) := by decide +kernel
theorem dX4_digest_4 : decode cX4_digest 4 = .ok (.iconst 0, 1) := by decide +kernel
theorem dX4_digest_5 : decode cX4_digest 5 = .ok (.istore_n 3, 1) := by decide +kernel
theorem dX4_digest_6 : decode cX4_digest 6 = .ok (.iload_n 3, 1) := by decide +kernel
theorem dX4_digest_7 : decode cX4_digest 7 = .ok (.aload_n 0, 1) := by decide +kernel
theorem dX4_digest_8 : decode cX4_digest 8 = .ok (.getfield 19, 3) := by decide +kernel
theorem dX4_digest_11 : decode cX4_digest 11 = .ok (.getfield 78, 3) := by decide +kernel
theorem dX4_digest_14 : decode cX4_digest 14 = .ok (.if_icmp .ge 54, 3) := by decide +kernel
theorem dX4_digest_17 : decode cX4_digest 17 = .ok (.iconst 0, 1) := by decide +kernel
theorem dX4_digest_18 : decode cX4_digest 18 = .ok (.istore 4, 2) := by decide +kernel
theorem dX4_digest_20 : decode cX4_digest 20 = .ok (.iload 4, 2) := by decide +kernel
theorem dX4_digest_22 : decode cX4_digest 22 = .ok (.bipush 6, 2) := by decide +kernel
theorem dX4_digest_24 : decode cX4_digest 24 = .ok (.if_icmp .ge 24, 3) := by decide +kernel
theorem dX4_digest_27 : decode cX4_digest 27 = .ok (.ldc2_w 195, 3) := by decide +kernel
theorem dX4_digest_30 : decode cX4_digest 30 = .ok (.lload_n 1, 1) := by decide +kernel
theorem dX4_digest_31 : decode cX4_digest 31 = .ok (.lmul, 1) := by decide +kernel
theorem dX4_digest_32 : decode cX4_digest 32 = .ok (.aload_n 0, 1) := by decide +kernel
theorem dX4_digest_33 : decode cX4_digest 33 = .ok (.iload_n 3, 1) := by decide +kernel
theorem dX4_digest_34 : decode cX4_digest 34 = .ok (.iload 4, 2) := by decide +kernel
theorem dX4_digest_36 : decode cX4_digest 36 = .ok (.invokevirtual 197, 3) := by decide +kernel
theorem dX4_digest_39 : decode cX4_digest 39 = .ok (.i2l, 1) := by decide +kernel
theorem dX4_digest_40 : decode cX4_digest 40 = .ok (.ladd, 1) := by decide +kernel
theorem dX4_digest_41 : decode cX4_digest 41 = .ok (.lstore_n 1, 1) := by decide +kernel
theorem dX4_digest_42 : decode cX4_digest 42 = .ok (.iinc 4 1, 3) := by decide +kernel
theorem dX4_digest_45 : decode cX4_digest 45 = .ok (.goto (-25), 3) := by decide +kernel
theorem dX4_digest_48 : decode cX4_digest 48 = .ok (.ldc2_w 195, 3) := by decide +kernel
theorem dX4_digest_51 : decode cX4_digest 51 = .ok (.lload_n 1, 1) := by decide +kernel
theorem dX4_digest_52 : decode cX4_digest 52 = .ok (.lmul, 1) := by decide +kernel
theorem dX4_digest_53 : decode cX4_digest 53 = .ok (.aload_n 0, 1) := by decide +kernel
theorem dX4_digest_54 : decode cX4_digest 54 = .ok (.iload_n 3, 1) := by decide +kernel
theorem dX4_digest_55 : decode cX4_digest 55 = .ok (.iconst 1, 1) := by decide +kernel
theorem dX4_digest_56 : decode cX4_digest 56 = .ok (.invokevirtual 200, 3) := by decide +kernel
theorem dX4_digest_59 : decode cX4_digest 59 = .ok (.i2l, 1) := by decide +kernel
theorem dX4_digest_60 : decode cX4_digest 60 = .ok (.ladd, 1) := by decide +kernel
theorem dX4_digest_61 : decode cX4_digest 61 = .ok (.lstore_n 1, 1) := by decide +kernel
theorem dX4_digest_62 : decode cX4_digest 62 = .ok (.iinc 3 1, 3) := by decide +kernel
theorem dX4_digest_65 : decode cX4_digest 65 = .ok (.goto (-59), 3) := by decide +kernel
theorem dX4_digest_68 : decode cX4_digest 68 = .ok (.aload_n 0, 1) := by decide +kernel
theorem dX4_digest_69 : decode cX4_digest 69 = .ok (.getfield 19, 3) := by decide +kernel
theorem dX4_digest_72 : decode cX4_digest 72 = .ok (.invokevirtual 126, 3) := by decide +kernel
theorem dX4_digest_75 : decode cX4_digest 75 = .ok (.ifCond .eq 93, 3) := by decide +kernel
theorem dX4_digest_78 : decode cX4_digest 78 = .ok (.iconst 1, 1) := by decide +kernel
theorem dX4_digest_79 : decode cX4_digest 79 = .ok (.istore_n 3, 1) := by decide +kernel
theorem dX4_digest_80 : decode cX4_digest 80 = .ok (.iload_n 3, 1) := by decide +kernel
theorem dX4_digest_81 : decode cX4_digest 81 = .ok (.iconst 4, 1) := by decide +kernel
theorem dX4_digest_82 : decode cX4_digest 82 = .ok (.if_icmp .gt 35, 3) := by decide +kernel
theorem dX4_digest_85 : decode cX4_digest 85 = .ok (.ldc2_w 195, 3) := by decide +kernel
theorem dX4_digest_88 : decode cX4_digest 88 = .ok (.ldc2_w 195, 3) := by decide +kernel
theorem dX4_digest_91 : decode cX4_digest 91 = .ok (.lload_n 1, 1) := by decide +kernel
theorem dX4_digest_92 : decode cX4_digest 92 = .ok (.lmul, 1) := by decide +kernel
theorem dX4_digest_93 : decode cX4_digest 93 = .ok (.aload_n 0, 1) := by decide +kernel
theorem dX4_digest_94 : decode cX4_digest 94 = .ok (.iload_n 3, 1) := by decide +kernel
theorem dX4_digest_95 : decode cX4_digest 95 = .ok (.iconst 0, 1) := by decide +kernel
theorem dX4_digest_96 : decode cX4_digest 96 = .ok (.invokevirtual 203, 3) := by decide +kernel
theorem dX4_digest_99 : decode cX4_digest 99 = .ok (.i2l, 1) := by decide +kernel
theorem dX4_digest_100 : decode cX4_digest 100 = .ok (.ladd, 1) := by decide +kernel
theorem dX4_digest_101 : decode cX4_digest 101 = .ok (.lmul, 1) := by decide +kernel
theorem dX4_digest_102 : decode cX4_digest 102 = .ok (.aload_n 0, 1) := by decide +kernel
theorem dX4_digest_103 : decode cX4_digest 103 = .ok (.iload_n 3, 1) := by decide +kernel
theorem dX4_digest_104 : decode cX4_digest 104 = .ok (.iconst 1, 1) := by decide +kernel
theorem dX4_digest_105 : decode cX4_digest 105 = .ok (.invokevirtual 203, 3) := by decide +kernel
theorem dX4_digest_108 : decode cX4_digest 108 = .ok (.i2l, 1) := by decide +kernel
theorem dX4_digest_109 : decode cX4_digest 109 = .ok (.ladd, 1) := by decide +kernel
theorem dX4_digest_110 : decode cX4_digest 110 = .ok (.lstore_n 1, 1) := by decide +kernel
theorem dX4_digest_111 : decode cX4_digest 111 = .ok (.iinc 3 1, 3) := by decide +kernel
theorem dX4_digest_114 : decode cX4_digest 114 = .ok (.goto (-34), 3) := by decide +kernel
theorem dX4_digest_117 : decode cX4_digest 117 = .ok (.iconst 0, 1) := by decide +kernel
theorem dX4_digest_118 : decode cX4_digest 118 = .ok (.istore_n 3, 1) := by decide +kernel
theorem dX4_digest_119 : decode cX4_digest 119 = .ok (.iload_n 3, 1) := by decide +kernel
theorem dX4_digest_120 : decode cX4_digest 120 = .ok (.iconst 4, 1) := by decide +kernel
theorem dX4_digest_121 : decode cX4_digest 121 = .ok (.if_icmp .gt 35, 3) := by decide +kernel
theorem dX4_digest_124 : decode cX4_digest 124 = .ok (.ldc2_w 195, 3) := by decide +kernel
theorem dX4_digest_127 : decode cX4_digest 127 = .ok (.ldc2_w 195, 3) := by decide +kernel
theorem dX4_digest_130 : decode cX4_digest 130 = .ok (.lload_n 1, 1) := by decide +kernel
theorem dX4_digest_131 : decode cX4_digest 131 = .ok (.lmul, 1) := by decide +kernel
theorem dX4_digest_132 : decode cX4_digest 132 = .ok (.aload_n 0, 1) := by decide +kernel
theorem dX4_digest_133 : decode cX4_digest 133 = .ok (.iload_n 3, 1) := by decide +kernel
theorem dX4_digest_134 : decode cX4_digest 134 = .ok (.iconst 0, 1) := by decide +kernel
theorem dX4_digest_135 : decode cX4_digest 135 = .ok (.invokevirtual 206, 3) := by decide +kernel
theorem dX4_digest_138 : decode cX4_digest 138 = .ok (.i2l, 1) := by decide +kernel
theorem dX4_digest_139 : decode cX4_digest 139 = .ok (.ladd, 1) := by decide +kernel
theorem dX4_digest_140 : decode cX4_digest 140 = .ok (.lmul, 1) := by decide +kernel
theorem dX4_digest_141 : decode cX4_digest 141 = .ok (.aload_n 0, 1) := by decide +kernel
theorem dX4_digest_142 : decode cX4_digest 142 = .ok (.iload_n 3, 1) := by decide +kernel
theorem dX4_digest_143 : decode cX4_digest 143 = .ok (.iconst 1, 1) := by decide +kernel
theorem dX4_digest_144 : decode cX4_digest 144 = .ok (.invokevirtual 206, 3) := by decide +kernel
theorem dX4_digest_147 : decode cX4_digest 147 = .ok (.i2l, 1) := by decide +kernel
theorem dX4_digest_148 : decode cX4_digest 148 = .ok (.ladd, 1) := by decide +kernel
theorem dX4_digest_149 : decode cX4_digest 149 = .ok (.lstore_n 1, 1) := by decide +kernel
theorem dX4_digest_150 : decode cX4_digest 150 = .ok (.iinc 3 1, 3) := by decide +kernel
theorem dX4_digest_153 : decode cX4_digest 153 = .ok (.goto (-34), 3) := by decide +kernel
theorem dX4_digest_156 : decode cX4_digest 156 = .ok (.ldc2_w 195, 3) := by decide +kernel
theorem dX4_digest_159 : decode cX4_digest 159 = .ok (.lload_n 1, 1) := by decide +kernel
theorem dX4_digest_160 : decode cX4_digest 160 = .ok (.lmul, 1) := by decide +kernel
theorem dX4_digest_161 : decode cX4_digest 161 = .ok (.aload_n 0, 1) := by decide +kernel
theorem dX4_digest_162 : decode cX4_digest 162 = .ok (.invokevirtual 209, 3) := by decide +kernel
theorem dX4_digest_165 : decode cX4_digest 165 = .ok (.i2l, 1) := by decide +kernel
theorem dX4_digest_166 : decode cX4_digest 166 = .ok (.ladd, 1) := by decide +kernel
theorem dX4_digest_167 : decode cX4_digest 167 = .ok (.lstore_n 1, 1) := by decide +kernel
theorem dX4_digest_168 : decode cX4_digest 168 = .ok (.iconst 0, 1) := by decide +kernel
theorem dX4_digest_169 : decode cX4_digest 169 = .ok (.istore_n 3, 1) := by decide +kernel
theorem dX4_digest_170 : decode cX4_digest 170 = .ok (.iload_n 3, 1) := by decide +kernel
theorem dX4_digest_171 : decode cX4_digest 171 = .ok (.aload_n 0, 1) := by decide +kernel
theorem dX4_digest_172 : decode cX4_digest 172 = .ok (.getfield 10, 3) := by decide +kernel
theorem dX4_digest_175 : decode cX4_digest 175 = .ok (.getfield 53, 3) := by decide +kernel
theorem dX4_digest_178 : decode cX4_digest 178 = .ok (.if_icmp .ge 25, 3) := by decide +kernel
theorem dX4_digest_181 : decode cX4_digest 181 = .ok (.ldc2_w 195, 3) := by decide +kernel
theorem dX4_digest_184 : decode cX4_digest 184 = .ok (.lload_n 1, 1) := by decide +kernel
theorem dX4_digest_185 : decode cX4_digest 185 = .ok (.lmul, 1) := by decide +kernel
theorem dX4_digest_186 : decode cX4_digest 186 = .ok (.aload_n 0, 1) := by decide +kernel
theorem dX4_digest_187 : decode cX4_digest 187 = .ok (.getfield 10, 3) := by decide +kernel
theorem dX4_digest_190 : decode cX4_digest 190 = .ok (.iload_n 3, 1) := by decide +kernel
theorem dX4_digest_191 : decode cX4_digest 191 = .ok (.invokevirtual 212, 3) := by decide +kernel
theorem dX4_digest_194 : decode cX4_digest 194 = .ok (.i2l, 1) := by decide +kernel
theorem dX4_digest_195 : decode cX4_digest 195 = .ok (.ladd, 1) := by decide +kernel
theorem dX4_digest_196 : decode cX4_digest 196 = .ok (.lstore_n 1, 1) := by decide +kernel
theorem dX4_digest_197 : decode cX4_digest 197 = .ok (.iinc 3 1, 3) := by decide +kernel
theorem dX4_digest_200 : decode cX4_digest 200 = .ok (.goto (-30), 3) := by decide +kernel
theorem dX4_digest_203 : decode cX4_digest 203 = .ok (.iconst 0, 1) := by decide +kernel
theorem dX4_digest_204 : decode cX4_digest 204 = .ok (.istore_n 3, 1) := by decide +kernel
theorem dX4_digest_205 : decode cX4_digest 205 = .ok (.iload_n 3, 1) := by decide +kernel
theorem dX4_digest_206 : decode cX4_digest 206 = .ok (.bipush 12, 2) := by decide +kernel
theorem dX4_digest_208 : decode cX4_digest 208 = .ok (.if_icmp .ge 22, 3) := by decide +kernel
theorem dX4_digest_211 : decode cX4_digest 211 = .ok (.ldc2_w 195, 3) := by decide +kernel
theorem dX4_digest_214 : decode cX4_digest 214 = .ok (.lload_n 1, 1) := by decide +kernel
theorem dX4_digest_215 : decode cX4_digest 215 = .ok (.lmul, 1) := by decide +kernel
theorem dX4_digest_216 : decode cX4_digest 216 = .ok (.aload_n 0, 1) := by decide +kernel
theorem dX4_digest_217 : decode cX4_digest 217 = .ok (.iload_n 3, 1) := by decide +kernel
theorem dX4_digest_218 : decode cX4_digest 218 = .ok (.invokevirtual 215, 3) := by decide +kernel
theorem dX4_digest_221 : decode cX4_digest 221 = .ok (.i2l, 1) := by decide +kernel
theorem dX4_digest_222 : decode cX4_digest 222 = .ok (.ladd, 1) := by decide +kernel
theorem dX4_digest_223 : decode cX4_digest 223 = .ok (.lstore_n 1, 1) := by decide +kernel
theorem dX4_digest_224 : decode cX4_digest 224 = .ok (.iinc 3 1, 3) := by decide +kernel
theorem dX4_digest_227 : decode cX4_digest 227 = .ok (.goto (-22), 3) := by decide +kernel
theorem dX4_digest_230 : decode cX4_digest 230 = .ok (.lload_n 1, 1) := by decide +kernel
theorem dX4_digest_231 : decode cX4_digest 231 = .ok (.lreturn, 1) := by decide +kernel
set_option maxRecDepth 20000 in
theorem ggX4_runSessions_X4_nextSeed : GoodIn wsX4_runSessions wsX4_nextSeed := goodIn_r _ [8, 9, 10, 11] (by decide +kernel) (by decide +kernel)
set_option maxRecDepth 20000 in
theorem gX4_runSessions_X4_nextSeed : GoodIn wsX4_runSessions (va_wsS RX4 218 yX4_nextSeed wsX4_nextSeed) := goodIn_app (goodIn_of _ (by decide +kernel)) ggX4_runSessions_X4_nextSeed
set_option maxRecDepth 20000 in
theorem ggX4_runSessions_X3_breathe : GoodIn wsX4_runSessions wsX3_breathe := goodIn_r _ [16, 17, 18, 19, 20, 21, 7, 22, 23, 24, 25, 26, 27, 28, 29, 30, 31, 32, 33, 34, 35, 36, 37, 38, 39, 40, 15, 41, 42, 43, 44, 45, 46, 47, 48, 49, 50, 51, 52, 53, 54, 55, 56, 57, 58, 59, 60, 61, 62, 63, 64, 65, 66, 67, 68, 69, 70, 71, 72, 73, 74, 75, 88, 89, 90, 91, 92, 93, 94, 95, 96, 97, 98, 99, 84, 85, 86, 87] (by decide +kernel) (by decide +kernel)
set_option maxRecDepth 20000 in
theorem gX4_runSessions_X3_breathe : GoodIn wsX4_runSessions (wsV RX4 129 RX3 yX3_breathe wsX3_breathe) := goodIn_app (goodIn_of _ (by decide +kernel)) ggX4_runSessions_X3_breathe
theorem dX4_runSessions_0 : decode cX4_runSessions 0 = .ok (.iload_n 2, 1) := by decide +kernel
theorem dX4_runSessions_1 : decode cX4_runSessions 1 = .ok (.i2l, 1) := by decide +kernel
theorem dX4_runSessions_2 : decode cX4_runSessions 2 = .ok (.lstore_n 3, 1) := by decide +kernel
theorem dX4_runSessions_3 : decode cX4_runSessions 3 = .ok (.iconst 0, 1) := by decide +kernel
theorem dX4_runSessions_4 : decode cX4_runSessions 4 = .ok (.istore 5, 2) := by decide +kernel
theorem dX4_runSessions_6 : decode cX4_runSessions 6 = .ok (.iload 5, 2) := by decide +kernel
theorem dX4_runSessions_8 : decode cX4_runSessions 8 = .ok (.iload_n 1, 1) := by decide +kernel
theorem dX4_runSessions_9 : decode cX4_runSessions 9 = .ok (.if_icmp .ge 75, 3) := by decide +kernel
theorem dX4_runSessions_12 : decode cX4_runSessions 12 = .ok (.iconst 0, 1) := by decide +kernel
theorem dX4_runSessions_13 : decode cX4_runSessions 13 = .ok (.istore 6, 2) := by decide +kernel
theorem dX4_runSessions_15 : decode cX4_runSessions 15 = .ok (.iconst 0, 1) := by decide +kernel
theorem dX4_runSessions_16 : decode cX4_runSessions 16 = .ok (.istore 7, 2) := by decide +kernel
theorem dX4_runSessions_18 : decode cX4_runSessions 18 = .ok (.iload 7, 2) := by decide +kernel
theorem dX4_runSessions_20 : decode cX4_runSessions 20 = .ok (.aload_n 0, 1) := by decide +kernel
theorem dX4_runSessions_21 : decode cX4_runSessions 21 = .ok (.getfield 19, 3) := by decide +kernel
theorem dX4_runSessions_24 : decode cX4_runSessions 24 = .ok (.getfield 78, 3) := by decide +kernel
theorem dX4_runSessions_27 : decode cX4_runSessions 27 = .ok (.if_icmp .ge 37, 3) := by decide +kernel
theorem dX4_runSessions_30 : decode cX4_runSessions 30 = .ok (.lload_n 3, 1) := by decide +kernel
theorem dX4_runSessions_31 : decode cX4_runSessions 31 = .ok (.invokestatic 218, 3) := by decide +kernel
theorem dX4_runSessions_34 : decode cX4_runSessions 34 = .ok (.lstore_n 3, 1) := by decide +kernel
theorem dX4_runSessions_35 : decode cX4_runSessions 35 = .ok (.lload_n 3, 1) := by decide +kernel
theorem dX4_runSessions_36 : decode cX4_runSessions 36 = .ok (.ldc2_w 222, 3) := by decide +kernel
theorem dX4_runSessions_39 : decode cX4_runSessions 39 = .ok (.ldiv, 1) := by decide +kernel
theorem dX4_runSessions_40 : decode cX4_runSessions 40 = .ok (.ldc2_w 224, 3) := by decide +kernel
theorem dX4_runSessions_43 : decode cX4_runSessions 43 = .ok (.lrem, 1) := by decide +kernel
theorem dX4_runSessions_44 : decode cX4_runSessions 44 = .ok (.lconst 0, 1) := by decide +kernel
theorem dX4_runSessions_45 : decode cX4_runSessions 45 = .ok (.lcmp, 1) := by decide +kernel
theorem dX4_runSessions_46 : decode cX4_runSessions 46 = .ok (.ifCond .ne 12, 3) := by decide +kernel
theorem dX4_runSessions_49 : decode cX4_runSessions 49 = .ok (.iload 6, 2) := by decide +kernel
theorem dX4_runSessions_51 : decode cX4_runSessions 51 = .ok (.iconst 1, 1) := by decide +kernel
theorem dX4_runSessions_52 : decode cX4_runSessions 52 = .ok (.iload 7, 2) := by decide +kernel
theorem dX4_runSessions_54 : decode cX4_runSessions 54 = .ok (.ishl, 1) := by decide +kernel
theorem dX4_runSessions_55 : decode cX4_runSessions 55 = .ok (.ior, 1) := by decide +kernel
theorem dX4_runSessions_56 : decode cX4_runSessions 56 = .ok (.istore 6, 2) := by decide +kernel
theorem dX4_runSessions_58 : decode cX4_runSessions 58 = .ok (.iinc 7 1, 3) := by decide +kernel
theorem dX4_runSessions_61 : decode cX4_runSessions 61 = .ok (.goto (-43), 3) := by decide +kernel
theorem dX4_runSessions_64 : decode cX4_runSessions 64 = .ok (.aload_n 0, 1) := by decide +kernel
theorem dX4_runSessions_65 : decode cX4_runSessions 65 = .ok (.getfield 33, 3) := by decide +kernel
theorem dX4_runSessions_68 : decode cX4_runSessions 68 = .ok (.aload_n 0, 1) := by decide +kernel
theorem dX4_runSessions_69 : decode cX4_runSessions 69 = .ok (.getfield 19, 3) := by decide +kernel
theorem dX4_runSessions_72 : decode cX4_runSessions 72 = .ok (.iload 6, 2) := by decide +kernel
theorem dX4_runSessions_74 : decode cX4_runSessions 74 = .ok (.invokevirtual 129, 3) := by decide +kernel
theorem dX4_runSessions_77 : decode cX4_runSessions 77 = .ok (.pop, 1) := by decide +kernel
theorem dX4_runSessions_78 : decode cX4_runSessions 78 = .ok (.iinc 5 1, 3) := by decide +kernel
theorem dX4_runSessions_81 : decode cX4_runSessions 81 = .ok (.goto (-75), 3) := by decide +kernel
theorem dX4_runSessions_84 : decode cX4_runSessions 84 = .ok (.lload_n 3, 1) := by decide +kernel
theorem dX4_runSessions_85 : decode cX4_runSessions 85 = .ok (.l2i, 1) := by decide +kernel
theorem dX4_runSessions_86 : decode cX4_runSessions 86 = .ok (.ireturn, 1) := by decide +kernel
theorem dX4_nextSeed_0 : decode cX4_nextSeed 0 = .ok (.ldc2_w 226, 3) := by decide +kernel
theorem dX4_nextSeed_3 : decode cX4_nextSeed 3 = .ok (.lload_n 0, 1) := by decide +kernel
theorem dX4_nextSeed_4 : decode cX4_nextSeed 4 = .ok (.lmul, 1) := by decide +kernel
theorem dX4_nextSeed_5 : decode cX4_nextSeed 5 = .ok (.ldc2_w 228, 3) := by decide +kernel
theorem dX4_nextSeed_8 : decode cX4_nextSeed 8 = .ok (.ladd, 1) := by decide +kernel
theorem dX4_nextSeed_9 : decode cX4_nextSeed 9 = .ok (.ldc2_w 230, 3) := by decide +kernel
theorem dX4_nextSeed_12 : decode cX4_nextSeed 12 = .ok (.lrem, 1) := by decide +kernel
theorem dX4_nextSeed_13 : decode cX4_nextSeed 13 = .ok (.lreturn, 1) := by decide +kernel
theorem dX4_isIn_0 : decode cX4_isIn 0 = .ok (.iload_n 0, 1) := by decide +kernel
theorem dX4_isIn_1 : decode cX4_isIn 1 = .ok (.ifCond .lt 21, 3) := by decide +kernel
theorem dX4_isIn_4 : decode cX4_isIn 4 = .ok (.iload_n 0, 1) := by decide +kernel
theorem dX4_isIn_5 : decode cX4_isIn 5 = .ok (.iconst 5, 1) := by decide +kernel
theorem dX4_isIn_6 : decode cX4_isIn 6 = .ok (.if_icmp .ge 16, 3) := by decide +kernel
theorem dX4_isIn_9 : decode cX4_isIn 9 = .ok (.iload_n 1, 1) := by decide +kernel
theorem dX4_isIn_10 : decode cX4_isIn 10 = .ok (.iload_n 0, 1) := by decide +kernel
theorem dX4_isIn_11 : decode cX4_isIn 11 = .ok (.ishr, 1) := by decide +kernel
theorem dX4_isIn_12 : decode cX4_isIn 12 = .ok (.iconst 1, 1) := by decide +kernel
theorem dX4_isIn_13 : decode cX4_isIn 13 = .ok (.iand, 1) := by decide +kernel
theorem dX4_isIn_14 : decode cX4_isIn 14 = .ok (.iconst 1, 1) := by decide +kernel
theorem dX4_isIn_15 : decode cX4_isIn 15 = .ok (.if_icmp .ne 7, 3) := by decide +kernel
theorem dX4_isIn_18 : decode cX4_isIn 18 = .ok (.iconst 1, 1) := by decide +kernel
theorem dX4_isIn_19 : decode cX4_isIn 19 = .ok (.goto 4, 3) := by decide +kernel
theorem dX4_isIn_22 : decode cX4_isIn 22 = .ok (.iconst 0, 1) := by decide +kernel
theorem dX4_isIn_23 : decode cX4_isIn 23 = .ok (.ireturn, 1) := by decide +kernel
theorem dX4_at_0 : decode cX4_at 0 = .ok (.aload_n 0, 1) := by decide +kernel
theorem dX4_at_1 : decode cX4_at 1 = .ok (.ifnull 19, 3) := by decide +kernel
theorem dX4_at_4 : decode cX4_at 4 = .ok (.iload_n 1, 1) := by decide +kernel
theorem dX4_at_5 : decode cX4_at 5 = .ok (.ifCond .lt 15, 3) := by decide +kernel
theorem dX4_at_8 : decode cX4_at 8 = .ok (.iload_n 1, 1) := by decide +kernel
theorem dX4_at_9 : decode cX4_at 9 = .ok (.aload_n 0, 1) := by decide +kernel
theorem dX4_at_10 : decode cX4_at 10 = .ok (.arraylength, 1) := by decide +kernel
theorem dX4_at_11 : decode cX4_at 11 = .ok (.if_icmp .ge 9, 3) := by decide +kernel
theorem dX4_at_14 : decode cX4_at 14 = .ok (.aload_n 0, 1) := by decide +kernel
theorem dX4_at_15 : decode cX4_at 15 = .ok (.iload_n 1, 1) := by decide +kernel
theorem dX4_at_16 : decode cX4_at 16 = .ok (.iaload, 1) := by decide +kernel
theorem dX4_at_17 : decode cX4_at 17 = .ok (.goto 4, 3) := by decide +kernel
theorem dX4_at_20 : decode cX4_at 20 = .ok (.iconst 0, 1) := by decide +kernel
theorem dX4_at_21 : decode cX4_at 21 = .ok (.ireturn, 1) := by decide +kernel
theorem dX4_put_0 : decode cX4_put 0 = .ok (.aload_n 0, 1) := by decide +kernel
theorem dX4_put_1 : decode cX4_put 1 = .ok (.ifnull 17, 3) := by decide +kernel
theorem dX4_put_4 : decode cX4_put 4 = .ok (.iload_n 1, 1) := by decide +kernel
theorem dX4_put_5 : decode cX4_put 5 = .ok (.ifCond .lt 13, 3) := by decide +kernel
theorem dX4_put_8 : decode cX4_put 8 = .ok (.iload_n 1, 1) := by decide +kernel
theorem dX4_put_9 : decode cX4_put 9 = .ok (.aload_n 0, 1) := by decide +kernel
theorem dX4_put_10 : decode cX4_put 10 = .ok (.arraylength, 1) := by decide +kernel
theorem dX4_put_11 : decode cX4_put 11 = .ok (.if_icmp .ge 7, 3) := by decide +kernel
theorem dX4_put_14 : decode cX4_put 14 = .ok (.aload_n 0, 1) := by decide +kernel
theorem dX4_put_15 : decode cX4_put 15 = .ok (.iload_n 1, 1) := by decide +kernel
theorem dX4_put_16 : decode cX4_put 16 = .ok (.iload_n 2, 1) := by decide +kernel
theorem dX4_put_17 : decode cX4_put 17 = .ok (.iastore, 1) := by decide +kernel
theorem dX4_put_18 : decode cX4_put 18 = .ok (.return_, 1) := by decide +kernel
theorem dX4_fill_0 : decode cX4_fill 0 = .ok (.aload_n 0, 1) := by decide +kernel
theorem dX4_fill_1 : decode cX4_fill 1 = .ok (.ifnull 21, 3) := by decide +kernel
theorem dX4_fill_4 : decode cX4_fill 4 = .ok (.iconst 0, 1) := by decide +kernel
theorem dX4_fill_5 : decode cX4_fill 5 = .ok (.istore_n 2, 1) := by decide +kernel
theorem dX4_fill_6 : decode cX4_fill 6 = .ok (.iload_n 2, 1) := by decide +kernel
theorem dX4_fill_7 : decode cX4_fill 7 = .ok (.aload_n 0, 1) := by decide +kernel
theorem dX4_fill_8 : decode cX4_fill 8 = .ok (.arraylength, 1) := by decide +kernel
theorem dX4_fill_9 : decode cX4_fill 9 = .ok (.if_icmp .ge 13, 3) := by decide +kernel
theorem dX4_fill_12 : decode cX4_fill 12 = .ok (.aload_n 0, 1) := by decide +kernel
theorem dX4_fill_13 : decode cX4_fill 13 = .ok (.iload_n 2, 1) := by decide +kernel
theorem dX4_fill_14 : decode cX4_fill 14 = .ok (.iload_n 1, 1) := by decide +kernel
theorem dX4_fill_15 : decode cX4_fill 15 = .ok (.iastore, 1) := by decide +kernel
theorem dX4_fill_16 : decode cX4_fill 16 = .ok (.iinc 2 1, 3) := by decide +kernel
theorem dX4_fill_19 : decode cX4_fill 19 = .ok (.goto (-13), 3) := by decide +kernel
theorem dX4_fill_22 : decode cX4_fill 22 = .ok (.return_, 1) := by decide +kernel
set_option maxRecDepth 20000 in
theorem ggX4_copy_X4_at : GoodIn wsX4_copy wsX4_at := goodIn_r _ [4] (by decide +kernel) (by decide +kernel)
set_option maxRecDepth 20000 in
theorem gX4_copy_X4_at : GoodIn wsX4_copy (va_wsS RX4 110 yX4_at wsX4_at) := goodIn_app (goodIn_of _ (by decide +kernel)) ggX4_copy_X4_at
theorem dX4_copy_0 : decode cX4_copy 0 = .ok (.aload_n 1, 1) := by decide +kernel
theorem dX4_copy_1 : decode cX4_copy 1 = .ok (.ifnull 25, 3) := by decide +kernel
theorem dX4_copy_4 : decode cX4_copy 4 = .ok (.iconst 0, 1) := by decide +kernel
theorem dX4_copy_5 : decode cX4_copy 5 = .ok (.istore_n 2, 1) := by decide +kernel
theorem dX4_copy_6 : decode cX4_copy 6 = .ok (.iload_n 2, 1) := by decide +kernel
theorem dX4_copy_7 : decode cX4_copy 7 = .ok (.aload_n 1, 1) := by decide +kernel
theorem dX4_copy_8 : decode cX4_copy 8 = .ok (.arraylength, 1) := by decide +kernel
theorem dX4_copy_9 : decode cX4_copy 9 = .ok (.if_icmp .ge 17, 3) := by decide +kernel
theorem dX4_copy_12 : decode cX4_copy 12 = .ok (.aload_n 1, 1) := by decide +kernel
theorem dX4_copy_13 : decode cX4_copy 13 = .ok (.iload_n 2, 1) := by decide +kernel
theorem dX4_copy_14 : decode cX4_copy 14 = .ok (.aload_n 0, 1) := by decide +kernel
theorem dX4_copy_15 : decode cX4_copy 15 = .ok (.iload_n 2, 1) := by decide +kernel
theorem dX4_copy_16 : decode cX4_copy 16 = .ok (.invokestatic 110, 3) := by decide +kernel
theorem dX4_copy_19 : decode cX4_copy 19 = .ok (.iastore, 1) := by decide +kernel
theorem dX4_copy_20 : decode cX4_copy 20 = .ok (.iinc 2 1, 3) := by decide +kernel
theorem dX4_copy_23 : decode cX4_copy 23 = .ok (.goto (-17), 3) := by decide +kernel
theorem dX4_copy_26 : decode cX4_copy 26 = .ok (.return_, 1) := by decide +kernel
