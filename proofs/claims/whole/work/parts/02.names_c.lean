set_option maxRecDepth 20000 in
theorem gX2_fateFromReading_X2_unlikePlaces : GoodIn wsX2_fateFromReading (wsV RX2 115 RX2 yX2_unlikePlaces wsX2_unlikePlaces) := goodIn_app (goodIn_of _ (by decide +kernel)) ggX2_fateFromReading_X2_unlikePlaces
theorem dX2_fateFromReading_0 : decode cX2_fateFromReading 0 = .ok (.aload_n 0, 1) := by decide +kernel
theorem dX2_fateFromReading_1 : decode cX2_fateFromReading 1 = .ok (.getfield 18, 3) := by decide +kernel
theorem dX2_fateFromReading_4 : decode cX2_fateFromReading 4 = .ok (.aload_n 0, 1) := by decide +kernel
theorem dX2_fateFromReading_5 : decode cX2_fateFromReading 5 = .ok (.getfield 27, 3) := by decide +kernel
theorem dX2_fateFromReading_8 : decode cX2_fateFromReading 8 = .ok (.iload 4, 2) := by decide +kernel
theorem dX2_fateFromReading_10 : decode cX2_fateFromReading 10 = .ok (.invokevirtual 99, 3) := by decide +kernel
theorem dX2_fateFromReading_13 : decode cX2_fateFromReading 13 = .ok (.aload_n 0, 1) := by decide +kernel
theorem dX2_fateFromReading_14 : decode cX2_fateFromReading 14 = .ok (.getfield 27, 3) := by decide +kernel
theorem dX2_fateFromReading_17 : decode cX2_fateFromReading 17 = .ok (.getfield 103, 3) := by decide +kernel
theorem dX2_fateFromReading_20 : decode cX2_fateFromReading 20 = .ok (.iload_n 1, 1) := by decide +kernel
theorem dX2_fateFromReading_21 : decode cX2_fateFromReading 21 = .ok (.dup2, 1) := by decide +kernel
theorem dX2_fateFromReading_22 : decode cX2_fateFromReading 22 = .ok (.iaload, 1) := by decide +kernel
theorem dX2_fateFromReading_23 : decode cX2_fateFromReading 23 = .ok (.iconst 1, 1) := by decide +kernel
theorem dX2_fateFromReading_24 : decode cX2_fateFromReading 24 = .ok (.iload_n 3, 1) := by decide +kernel
theorem dX2_fateFromReading_25 : decode cX2_fateFromReading 25 = .ok (.ishl, 1) := by decide +kernel
theorem dX2_fateFromReading_26 : decode cX2_fateFromReading 26 = .ok (.iconst 1, 1) := by decide +kernel
theorem dX2_fateFromReading_27 : decode cX2_fateFromReading 27 = .ok (.isub, 1) := by decide +kernel
theorem dX2_fateFromReading_28 : decode cX2_fateFromReading 28 = .ok (.iload_n 2, 1) := by decide +kernel
theorem dX2_fateFromReading_29 : decode cX2_fateFromReading 29 = .ok (.ishl, 1) := by decide +kernel
theorem dX2_fateFromReading_30 : decode cX2_fateFromReading 30 = .ok (.ixor, 1) := by decide +kernel
theorem dX2_fateFromReading_31 : decode cX2_fateFromReading 31 = .ok (.iastore, 1) := by decide +kernel
theorem dX2_fateFromReading_32 : decode cX2_fateFromReading 32 = .ok (.aload_n 0, 1) := by decide +kernel
theorem dX2_fateFromReading_33 : decode cX2_fateFromReading 33 = .ok (.getfield 27, 3) := by decide +kernel
theorem dX2_fateFromReading_36 : decode cX2_fateFromReading 36 = .ok (.invokevirtual 106, 3) := by decide +kernel
theorem dX2_fateFromReading_39 : decode cX2_fateFromReading 39 = .ok (.aload_n 0, 1) := by decide +kernel
theorem dX2_fateFromReading_40 : decode cX2_fateFromReading 40 = .ok (.getfield 27, 3) := by decide +kernel
theorem dX2_fateFromReading_43 : decode cX2_fateFromReading 43 = .ok (.getfield 109, 3) := by decide +kernel
theorem dX2_fateFromReading_46 : decode cX2_fateFromReading 46 = .ok (.iconst 1, 1) := by decide +kernel
theorem dX2_fateFromReading_47 : decode cX2_fateFromReading 47 = .ok (.if_icmp .ne 17, 3) := by decide +kernel
theorem dX2_fateFromReading_50 : decode cX2_fateFromReading 50 = .ok (.iconst 3, 1) := by decide +kernel
theorem dX2_fateFromReading_51 : decode cX2_fateFromReading 51 = .ok (.iconst 0, 1) := by decide +kernel
theorem dX2_fateFromReading_52 : decode cX2_fateFromReading 52 = .ok (.iconst 0, 1) := by decide +kernel
theorem dX2_fateFromReading_53 : decode cX2_fateFromReading 53 = .ok (.aload_n 0, 1) := by decide +kernel
theorem dX2_fateFromReading_54 : decode cX2_fateFromReading 54 = .ok (.getfield 27, 3) := by decide +kernel
theorem dX2_fateFromReading_57 : decode cX2_fateFromReading 57 = .ok (.getfield 40, 3) := by decide +kernel
theorem dX2_fateFromReading_60 : decode cX2_fateFromReading 60 = .ok (.invokestatic 95, 3) := by decide +kernel
theorem dX2_fateFromReading_63 : decode cX2_fateFromReading 63 = .ok (.ireturn, 1) := by decide +kernel
theorem dX2_fateFromReading_64 : decode cX2_fateFromReading 64 = .ok (.aload_n 0, 1) := by decide +kernel
theorem dX2_fateFromReading_65 : decode cX2_fateFromReading 65 = .ok (.getfield 27, 3) := by decide +kernel
theorem dX2_fateFromReading_68 : decode cX2_fateFromReading 68 = .ok (.getfield 109, 3) := by decide +kernel
theorem dX2_fateFromReading_71 : decode cX2_fateFromReading 71 = .ok (.iconst 2, 1) := by decide +kernel
theorem dX2_fateFromReading_72 : decode cX2_fateFromReading 72 = .ok (.if_icmp .ne 17, 3) := by decide +kernel
theorem dX2_fateFromReading_75 : decode cX2_fateFromReading 75 = .ok (.iconst 4, 1) := by decide +kernel
theorem dX2_fateFromReading_76 : decode cX2_fateFromReading 76 = .ok (.iconst 0, 1) := by decide +kernel
theorem dX2_fateFromReading_77 : decode cX2_fateFromReading 77 = .ok (.iconst 0, 1) := by decide +kernel
theorem dX2_fateFromReading_78 : decode cX2_fateFromReading 78 = .ok (.aload_n 0, 1) := by decide +kernel
theorem dX2_fateFromReading_79 : decode cX2_fateFromReading 79 = .ok (.getfield 27, 3) := by decide +kernel
theorem dX2_fateFromReading_82 : decode cX2_fateFromReading 82 = .ok (.getfield 40, 3) := by decide +kernel
theorem dX2_fateFromReading_85 : decode cX2_fateFromReading 85 = .ok (.invokestatic 95, 3) := by decide +kernel
theorem dX2_fateFromReading_88 : decode cX2_fateFromReading 88 = .ok (.ireturn, 1) := by decide +kernel
theorem dX2_fateFromReading_89 : decode cX2_fateFromReading 89 = .ok (.aload_n 0, 1) := by decide +kernel
theorem dX2_fateFromReading_90 : decode cX2_fateFromReading 90 = .ok (.getfield 27, 3) := by decide +kernel
theorem dX2_fateFromReading_93 : decode cX2_fateFromReading 93 = .ok (.getfield 112, 3) := by decide +kernel
theorem dX2_fateFromReading_96 : decode cX2_fateFromReading 96 = .ok (.iload_n 1, 1) := by decide +kernel
theorem dX2_fateFromReading_97 : decode cX2_fateFromReading 97 = .ok (.ishr, 1) := by decide +kernel
theorem dX2_fateFromReading_98 : decode cX2_fateFromReading 98 = .ok (.iconst 1, 1) := by decide +kernel
theorem dX2_fateFromReading_99 : decode cX2_fateFromReading 99 = .ok (.iand, 1) := by decide +kernel
theorem dX2_fateFromReading_100 : decode cX2_fateFromReading 100 = .ok (.ifCond .ne 7, 3) := by decide +kernel
theorem dX2_fateFromReading_103 : decode cX2_fateFromReading 103 = .ok (.iconst 1, 1) := by decide +kernel
theorem dX2_fateFromReading_104 : decode cX2_fateFromReading 104 = .ok (.goto 4, 3) := by decide +kernel
theorem dX2_fateFromReading_107 : decode cX2_fateFromReading 107 = .ok (.iconst 0, 1) := by decide +kernel
theorem dX2_fateFromReading_108 : decode cX2_fateFromReading 108 = .ok (.istore 5, 2) := by decide +kernel
theorem dX2_fateFromReading_110 : decode cX2_fateFromReading 110 = .ok (.aload_n 0, 1) := by decide +kernel
theorem dX2_fateFromReading_111 : decode cX2_fateFromReading 111 = .ok (.invokevirtual 115, 3) := by decide +kernel
theorem dX2_fateFromReading_114 : decode cX2_fateFromReading 114 = .ok (.istore 6, 2) := by decide +kernel
theorem dX2_fateFromReading_116 : decode cX2_fateFromReading 116 = .ok (.iload 6, 2) := by decide +kernel
theorem dX2_fateFromReading_118 : decode cX2_fateFromReading 118 = .ok (.ifCond .ne 7, 3) := by decide +kernel
theorem dX2_fateFromReading_121 : decode cX2_fateFromReading 121 = .ok (.iconst 1, 1) := by decide +kernel
theorem dX2_fateFromReading_122 : decode cX2_fateFromReading 122 = .ok (.goto 4, 3) := by decide +kernel
theorem dX2_fateFromReading_125 : decode cX2_fateFromReading 125 = .ok (.iconst 5, 1) := by decide +kernel
theorem dX2_fateFromReading_126 : decode cX2_fateFromReading 126 = .ok (.iload 5, 2) := by decide +kernel
theorem dX2_fateFromReading_128 : decode cX2_fateFromReading 128 = .ok (.iload 6, 2) := by decide +kernel
theorem dX2_fateFromReading_130 : decode cX2_fateFromReading 130 = .ok (.aload_n 0, 1) := by decide +kernel
theorem dX2_fateFromReading_131 : decode cX2_fateFromReading 131 = .ok (.getfield 27, 3) := by decide +kernel
theorem dX2_fateFromReading_134 : decode cX2_fateFromReading 134 = .ok (.getfield 40, 3) := by decide +kernel
theorem dX2_fateFromReading_137 : decode cX2_fateFromReading 137 = .ok (.invokestatic 95, 3) := by decide +kernel
theorem dX2_fateFromReading_140 : decode cX2_fateFromReading 140 = .ok (.ireturn, 1) := by decide +kernel
theorem dX2_unlikePlaces_0 : decode cX2_unlikePlaces 0 = .ok (.aload_n 0, 1) := by decide +kernel
theorem dX2_unlikePlaces_1 : decode cX2_unlikePlaces 1 = .ok (.getfield 18, 3) := by decide +kernel
theorem dX2_unlikePlaces_4 : decode cX2_unlikePlaces 4 = .ok (.getfield 35, 3) := by decide +kernel
theorem dX2_unlikePlaces_7 : decode cX2_unlikePlaces 7 = .ok (.astore_n 1, 1) := by decide +kernel
theorem dX2_unlikePlaces_8 : decode cX2_unlikePlaces 8 = .ok (.aload_n 1, 1) := by decide +kernel
theorem dX2_unlikePlaces_9 : decode cX2_unlikePlaces 9 = .ok (.getfield 118, 3) := by decide +kernel
theorem dX2_unlikePlaces_12 : decode cX2_unlikePlaces 12 = .ok (.aload_n 0, 1) := by decide +kernel
theorem dX2_unlikePlaces_13 : decode cX2_unlikePlaces 13 = .ok (.getfield 27, 3) := by decide +kernel
theorem dX2_unlikePlaces_16 : decode cX2_unlikePlaces 16 = .ok (.getfield 118, 3) := by decide +kernel
theorem dX2_unlikePlaces_19 : decode cX2_unlikePlaces 19 = .ok (.invokestatic 121, 3) := by decide +kernel
theorem dX2_unlikePlaces_22 : decode cX2_unlikePlaces 22 = .ok (.istore_n 2, 1) := by decide +kernel
theorem dX2_unlikePlaces_23 : decode cX2_unlikePlaces 23 = .ok (.aload_n 1, 1) := by decide +kernel
theorem dX2_unlikePlaces_24 : decode cX2_unlikePlaces 24 = .ok (.getfield 118, 3) := by decide +kernel
theorem dX2_unlikePlaces_27 : decode cX2_unlikePlaces 27 = .ok (.aload_n 0, 1) := by decide +kernel
theorem dX2_unlikePlaces_28 : decode cX2_unlikePlaces 28 = .ok (.getfield 27, 3) := by decide +kernel
theorem dX2_unlikePlaces_31 : decode cX2_unlikePlaces 31 = .ok (.getfield 118, 3) := by decide +kernel
theorem dX2_unlikePlaces_34 : decode cX2_unlikePlaces 34 = .ok (.invokestatic 126, 3) := by decide +kernel
theorem dX2_unlikePlaces_37 : decode cX2_unlikePlaces 37 = .ok (.iload_n 2, 1) := by decide +kernel
theorem dX2_unlikePlaces_38 : decode cX2_unlikePlaces 38 = .ok (.isub, 1) := by decide +kernel
theorem dX2_unlikePlaces_39 : decode cX2_unlikePlaces 39 = .ok (.istore_n 3, 1) := by decide +kernel
theorem dX2_unlikePlaces_40 : decode cX2_unlikePlaces 40 = .ok (.iconst 0, 1) := by decide +kernel
theorem dX2_unlikePlaces_41 : decode cX2_unlikePlaces 41 = .ok (.istore 4, 2) := by decide +kernel
theorem dX2_unlikePlaces_43 : decode cX2_unlikePlaces 43 = .ok (.iload 4, 2) := by decide +kernel
theorem dX2_unlikePlaces_45 : decode cX2_unlikePlaces 45 = .ok (.iload_n 2, 1) := by decide +kernel
theorem dX2_unlikePlaces_46 : decode cX2_unlikePlaces 46 = .ok (.if_icmp .ge 32, 3) := by decide +kernel
theorem dX2_unlikePlaces_49 : decode cX2_unlikePlaces 49 = .ok (.aload_n 1, 1) := by decide +kernel
theorem dX2_unlikePlaces_50 : decode cX2_unlikePlaces 50 = .ok (.getfield 129, 3) := by decide +kernel
theorem dX2_unlikePlaces_53 : decode cX2_unlikePlaces 53 = .ok (.iload 4, 2) := by decide +kernel
theorem dX2_unlikePlaces_55 : decode cX2_unlikePlaces 55 = .ok (.iaload, 1) := by decide +kernel
theorem dX2_unlikePlaces_56 : decode cX2_unlikePlaces 56 = .ok (.aload_n 0, 1) := by decide +kernel
theorem dX2_unlikePlaces_57 : decode cX2_unlikePlaces 57 = .ok (.getfield 27, 3) := by decide +kernel
theorem dX2_unlikePlaces_60 : decode cX2_unlikePlaces 60 = .ok (.getfield 129, 3) := by decide +kernel
theorem dX2_unlikePlaces_63 : decode cX2_unlikePlaces 63 = .ok (.iload 4, 2) := by decide +kernel
theorem dX2_unlikePlaces_65 : decode cX2_unlikePlaces 65 = .ok (.iaload, 1) := by decide +kernel
theorem dX2_unlikePlaces_66 : decode cX2_unlikePlaces 66 = .ok (.if_icmp .eq 6, 3) := by decide +kernel
theorem dX2_unlikePlaces_69 : decode cX2_unlikePlaces 69 = .ok (.iinc 3 1, 3) := by decide +kernel
theorem dX2_unlikePlaces_72 : decode cX2_unlikePlaces 72 = .ok (.iinc 4 1, 3) := by decide +kernel
theorem dX2_unlikePlaces_75 : decode cX2_unlikePlaces 75 = .ok (.goto (-32), 3) := by decide +kernel
theorem dX2_unlikePlaces_78 : decode cX2_unlikePlaces 78 = .ok (.iload_n 3, 1) := by decide +kernel
theorem dX2_unlikePlaces_79 : decode cX2_unlikePlaces 79 = .ok (.ireturn, 1) := by decide +kernel
theorem dX3_init_0 : decode cX3_init 0 = .ok (.aload_n 0, 1) := by decide +kernel
theorem dX3_init_1 : decode cX3_init 1 = .ok (.invokespecial 3, 3) := by decide +kernel
theorem dX3_init_4 : decode cX3_init 4 = .ok (.aload_n 0, 1) := by decide +kernel
theorem dX3_init_5 : decode cX3_init 5 = .ok (.bipush 8, 2) := by decide +kernel
theorem dX3_init_7 : decode cX3_init 7 = .ok (.newarray .int, 2) := by decide +kernel
theorem dX3_init_9 : decode cX3_init 9 = .ok (.putfield 9, 3) := by decide +kernel
theorem dX3_init_12 : decode cX3_init 12 = .ok (.aload_n 0, 1) := by decide +kernel
theorem dX3_init_13 : decode cX3_init 13 = .ok (.bipush 12, 2) := by decide +kernel
theorem dX3_init_15 : decode cX3_init 15 = .ok (.newarray .int, 2) := by decide +kernel
theorem dX3_init_17 : decode cX3_init 17 = .ok (.putfield 15, 3) := by decide +kernel
theorem dX3_init_20 : decode cX3_init 20 = .ok (.aload_n 0, 1) := by decide +kernel
theorem dX3_init_21 : decode cX3_init 21 = .ok (.iconst 3, 1) := by decide +kernel
theorem dX3_init_22 : decode cX3_init 22 = .ok (.putfield 18, 3) := by decide +kernel
theorem dX3_init_25 : decode cX3_init 25 = .ok (.aload_n 0, 1) := by decide +kernel
theorem dX3_init_26 : decode cX3_init 26 = .ok (.aload_n 1, 1) := by decide +kernel
theorem dX3_init_27 : decode cX3_init 27 = .ok (.putfield 22, 3) := by decide +kernel
theorem dX3_init_30 : decode cX3_init 30 = .ok (.return_, 1) := by decide +kernel
set_option maxRecDepth 20000 in
theorem ggX3_standAt_X4_has : GoodIn wsX3_standAt wsX4_has := goodIn_r _ [11, 12, 23, 24, 25, 26] (by decide +kernel) (by decide +kernel)
set_option maxRecDepth 20000 in
theorem gX3_standAt_X4_has : GoodIn wsX3_standAt (wsV RX3 38 RX4 yX4_has wsX4_has) := goodIn_app (goodIn_of _ (by decide +kernel)) ggX3_standAt_X4_has
theorem dX3_standAt_0 : decode cX3_standAt 0 = .ok (.aload_n 0, 1) := by decide +kernel
theorem dX3_standAt_1 : decode cX3_standAt 1 = .ok (.iload_n 1, 1) := by decide +kernel
theorem dX3_standAt_2 : decode cX3_standAt 2 = .ok (.putfield 26, 3) := by decide +kernel
theorem dX3_standAt_5 : decode cX3_standAt 5 = .ok (.aload_n 0, 1) := by decide +kernel
theorem dX3_standAt_6 : decode cX3_standAt 6 = .ok (.iload_n 2, 1) := by decide +kernel
theorem dX3_standAt_7 : decode cX3_standAt 7 = .ok (.putfield 29, 3) := by decide +kernel
theorem dX3_standAt_10 : decode cX3_standAt 10 = .ok (.aload_n 0, 1) := by decide +kernel
theorem dX3_standAt_11 : decode cX3_standAt 11 = .ok (.iload_n 3, 1) := by decide +kernel
theorem dX3_standAt_12 : decode cX3_standAt 12 = .ok (.putfield 32, 3) := by decide +kernel
theorem dX3_standAt_15 : decode cX3_standAt 15 = .ok (.aload_n 0, 1) := by decide +kernel
theorem dX3_standAt_16 : decode cX3_standAt 16 = .ok (.iconst 0, 1) := by decide +kernel
theorem dX3_standAt_17 : decode cX3_standAt 17 = .ok (.putfield 35, 3) := by decide +kernel
theorem dX3_standAt_20 : decode cX3_standAt 20 = .ok (.aload_n 0, 1) := by decide +kernel
theorem dX3_standAt_21 : decode cX3_standAt 21 = .ok (.aload_n 0, 1) := by decide +kernel
theorem dX3_standAt_22 : decode cX3_standAt 22 = .ok (.getfield 22, 3) := by decide +kernel
theorem dX3_standAt_25 : decode cX3_standAt 25 = .ok (.iload_n 2, 1) := by decide +kernel
theorem dX3_standAt_26 : decode cX3_standAt 26 = .ok (.invokevirtual 38, 3) := by decide +kernel
theorem dX3_standAt_29 : decode cX3_standAt 29 = .ok (.ifCond .eq 7, 3) := by decide +kernel
theorem dX3_standAt_32 : decode cX3_standAt 32 = .ok (.iconst 3, 1) := by decide +kernel
theorem dX3_standAt_33 : decode cX3_standAt 33 = .ok (.goto 4, 3) := by decide +kernel
theorem dX3_standAt_36 : decode cX3_standAt 36 = .ok (.iconst 0, 1) := by decide +kernel
theorem dX3_standAt_37 : decode cX3_standAt 37 = .ok (.putfield 18, 3) := by decide +kernel
theorem dX3_standAt_40 : decode cX3_standAt 40 = .ok (.return_, 1) := by decide +kernel
set_option maxRecDepth 20000 in
theorem ggX3_goOn_X3_step : GoodIn wsX3_goOn wsX3_step := goodIn_r _ [7, 8, 9, 10, 11, 12, 13, 14, 1, 15, 2, 16, 17, 18, 6, 19, 20, 21, 22, 23, 24, 25, 26, 27, 28, 29, 30, 31, 32, 33, 34, 35, 36, 37, 38, 39, 40, 41, 42, 43, 48, 49, 50, 51, 52, 53, 54, 55, 56, 57, 58, 59, 60, 61] (by decide +kernel) (by decide +kernel)
set_option maxRecDepth 20000 in
theorem gX3_goOn_X3_step : GoodIn wsX3_goOn (wsV RX3 44 RX3 yX3_step wsX3_step) := goodIn_app (goodIn_of _ (by decide +kernel)) ggX3_goOn_X3_step
set_option maxRecDepth 20000 in
theorem ggX3_goOn_X3_stopIfGoing : GoodIn wsX3_goOn wsX3_stopIfGoing := goodIn_r _ [47, 2, 48, 49, 50, 51, 52, 53, 54, 55, 56, 57] (by decide +kernel) (by decide +kernel)
set_option maxRecDepth 20000 in
theorem gX3_goOn_X3_stopIfGoing : GoodIn wsX3_goOn (wsV RX3 47 RX3 yX3_stopIfGoing wsX3_stopIfGoing) := goodIn_app (goodIn_of _ (by decide +kernel)) ggX3_goOn_X3_stopIfGoing
theorem dX3_goOn_0 : decode cX3_goOn 0 = .ok (.aload_n 0, 1) := by decide +kernel
theorem dX3_goOn_1 : decode cX3_goOn 1 = .ok (.getfield 26, 3) := by decide +kernel
theorem dX3_goOn_4 : decode cX3_goOn 4 = .ok (.istore_n 1, 1) := by decide +kernel
theorem dX3_goOn_5 : decode cX3_goOn 5 = .ok (.iload_n 1, 1) := by decide +kernel
theorem dX3_goOn_6 : decode cX3_goOn 6 = .ok (.bipush 100, 2) := by decide +kernel
theorem dX3_goOn_8 : decode cX3_goOn 8 = .ok (.if_icmp .ge 21, 3) := by decide +kernel
theorem dX3_goOn_11 : decode cX3_goOn 11 = .ok (.aload_n 0, 1) := by decide +kernel
theorem dX3_goOn_12 : decode cX3_goOn 12 = .ok (.getfield 18, 3) := by decide +kernel
theorem dX3_goOn_15 : decode cX3_goOn 15 = .ok (.iconst 3, 1) := by decide +kernel
theorem dX3_goOn_16 : decode cX3_goOn 16 = .ok (.if_icmp .ne 13, 3) := by decide +kernel
theorem dX3_goOn_19 : decode cX3_goOn 19 = .ok (.aload_n 0, 1) := by decide +kernel
theorem dX3_goOn_20 : decode cX3_goOn 20 = .ok (.invokevirtual 44, 3) := by decide +kernel
theorem dX3_goOn_23 : decode cX3_goOn 23 = .ok (.iinc 1 1, 3) := by decide +kernel
theorem dX3_goOn_26 : decode cX3_goOn 26 = .ok (.goto (-21), 3) := by decide +kernel
theorem dX3_goOn_29 : decode cX3_goOn 29 = .ok (.aload_n 0, 1) := by decide +kernel
theorem dX3_goOn_30 : decode cX3_goOn 30 = .ok (.invokevirtual 47, 3) := by decide +kernel
theorem dX3_goOn_33 : decode cX3_goOn 33 = .ok (.return_, 1) := by decide +kernel
theorem dX3_stopIfGoing_0 : decode cX3_stopIfGoing 0 = .ok (.aload_n 0, 1) := by decide +kernel
theorem dX3_stopIfGoing_1 : decode cX3_stopIfGoing 1 = .ok (.getfield 18, 3) := by decide +kernel
theorem dX3_stopIfGoing_4 : decode cX3_stopIfGoing 4 = .ok (.iconst 3, 1) := by decide +kernel
theorem dX3_stopIfGoing_5 : decode cX3_stopIfGoing 5 = .ok (.if_icmp .ne 8, 3) := by decide +kernel
theorem dX3_stopIfGoing_8 : decode cX3_stopIfGoing 8 = .ok (.aload_n 0, 1) := by decide +kernel
theorem dX3_stopIfGoing_9 : decode cX3_stopIfGoing 9 = .ok (.iconst 2, 1) := by decide +kernel
theorem dX3_stopIfGoing_10 : decode cX3_stopIfGoing 10 = .ok (.putfield 18, 3) := by decide +kernel
theorem dX3_stopIfGoing_13 : decode cX3_stopIfGoing 13 = .ok (.return_, 1) := by decide +kernel
set_option maxRecDepth 20000 in
theorem ggX3_step_X3_obey : GoodIn wsX3_step wsX3_obey := goodIn_r _ [15, 1, 10, 16, 17, 18, 14, 19, 3, 20, 21, 22, 23, 24, 2, 25, 26, 27, 28, 29, 30, 31, 32, 33, 40, 41, 42, 43, 44, 45, 46, 47, 48, 49] (by decide +kernel) (by decide +kernel)
set_option maxRecDepth 20000 in
theorem gX3_step_X3_obey : GoodIn wsX3_step (wsV RX3 65 RX3 yX3_obey wsX3_obey) := goodIn_app (goodIn_of _ (by decide +kernel)) ggX3_step_X3_obey
set_option maxRecDepth 20000 in
theorem ggX3_step_X4_has : GoodIn wsX3_step wsX4_has := goodIn_r _ [38, 39, 50, 51, 52, 53] (by decide +kernel) (by decide +kernel)
set_option maxRecDepth 20000 in
theorem gX3_step_X4_has : GoodIn wsX3_step (wsV RX3 38 RX4 yX4_has wsX4_has) := goodIn_app (goodIn_of _ (by decide +kernel)) ggX3_step_X4_has
theorem dX3_step_0 : decode cX3_step 0 = .ok (.aload_n 0, 1) := by decide +kernel
theorem dX3_step_1 : decode cX3_step 1 = .ok (.getfield 29, 3) := by decide +kernel
theorem dX3_step_4 : decode cX3_step 4 = .ok (.istore_n 1, 1) := by decide +kernel
theorem dX3_step_5 : decode cX3_step 5 = .ok (.aload_n 0, 1) := by decide +kernel
theorem dX3_step_6 : decode cX3_step 6 = .ok (.iconst 0, 1) := by decide +kernel
theorem dX3_step_7 : decode cX3_step 7 = .ok (.putfield 50, 3) := by decide +kernel
theorem dX3_step_10 : decode cX3_step 10 = .ok (.aload_n 0, 1) := by decide +kernel
theorem dX3_step_11 : decode cX3_step 11 = .ok (.iconst 0, 1) := by decide +kernel
theorem dX3_step_12 : decode cX3_step 12 = .ok (.putfield 53, 3) := by decide +kernel
theorem dX3_step_15 : decode cX3_step 15 = .ok (.aload_n 0, 1) := by decide +kernel
theorem dX3_step_16 : decode cX3_step 16 = .ok (.iload_n 1, 1) := by decide +kernel
theorem dX3_step_17 : decode cX3_step 17 = .ok (.iconst 1, 1) := by decide +kernel
theorem dX3_step_18 : decode cX3_step 18 = .ok (.iadd, 1) := by decide +kernel
theorem dX3_step_19 : decode cX3_step 19 = .ok (.putfield 29, 3) := by decide +kernel
theorem dX3_step_22 : decode cX3_step 22 = .ok (.aload_n 0, 1) := by decide +kernel
theorem dX3_step_23 : decode cX3_step 23 = .ok (.aload_n 0, 1) := by decide +kernel
theorem dX3_step_24 : decode cX3_step 24 = .ok (.getfield 22, 3) := by decide +kernel
theorem dX3_step_27 : decode cX3_step 27 = .ok (.getfield 56, 3) := by decide +kernel
theorem dX3_step_30 : decode cX3_step 30 = .ok (.iload_n 1, 1) := by decide +kernel
theorem dX3_step_31 : decode cX3_step 31 = .ok (.iaload, 1) := by decide +kernel
theorem dX3_step_32 : decode cX3_step 32 = .ok (.aload_n 0, 1) := by decide +kernel
theorem dX3_step_33 : decode cX3_step 33 = .ok (.getfield 22, 3) := by decide +kernel
theorem dX3_step_36 : decode cX3_step 36 = .ok (.getfield 59, 3) := by decide +kernel
theorem dX3_step_39 : decode cX3_step 39 = .ok (.iload_n 1, 1) := by decide +kernel
theorem dX3_step_40 : decode cX3_step 40 = .ok (.iaload, 1) := by decide +kernel
theorem dX3_step_41 : decode cX3_step 41 = .ok (.aload_n 0, 1) := by decide +kernel
theorem dX3_step_42 : decode cX3_step 42 = .ok (.getfield 22, 3) := by decide +kernel
theorem dX3_step_45 : decode cX3_step 45 = .ok (.getfield 62, 3) := by decide +kernel
theorem dX3_step_48 : decode cX3_step 48 = .ok (.iload_n 1, 1) := by decide +kernel
theorem dX3_step_49 : decode cX3_step 49 = .ok (.iaload, 1) := by decide +kernel
theorem dX3_step_50 : decode cX3_step 50 = .ok (.invokevirtual 65, 3) := by decide +kernel
theorem dX3_step_53 : decode cX3_step 53 = .ok (.aload_n 0, 1) := by decide +kernel
theorem dX3_step_54 : decode cX3_step 54 = .ok (.dup, 1) := by decide +kernel
theorem dX3_step_55 : decode cX3_step 55 = .ok (.getfield 26, 3) := by decide +kernel
theorem dX3_step_58 : decode cX3_step 58 = .ok (.iconst 1, 1) := by decide +kernel
theorem dX3_step_59 : decode cX3_step 59 = .ok (.iadd, 1) := by decide +kernel
theorem dX3_step_60 : decode cX3_step 60 = .ok (.putfield 26, 3) := by decide +kernel
theorem dX3_step_63 : decode cX3_step 63 = .ok (.aload_n 0, 1) := by decide +kernel
theorem dX3_step_64 : decode cX3_step 64 = .ok (.dup, 1) := by decide +kernel
theorem dX3_step_65 : decode cX3_step 65 = .ok (.getfield 35, 3) := by decide +kernel
theorem dX3_step_68 : decode cX3_step 68 = .ok (.aload_n 0, 1) := by decide +kernel
theorem dX3_step_69 : decode cX3_step 69 = .ok (.getfield 53, 3) := by decide +kernel
theorem dX3_step_72 : decode cX3_step 72 = .ok (.ior, 1) := by decide +kernel
theorem dX3_step_73 : decode cX3_step 73 = .ok (.putfield 35, 3) := by decide +kernel
theorem dX3_step_76 : decode cX3_step 76 = .ok (.aload_n 0, 1) := by decide +kernel
theorem dX3_step_77 : decode cX3_step 77 = .ok (.getfield 18, 3) := by decide +kernel
theorem dX3_step_80 : decode cX3_step 80 = .ok (.iconst 3, 1) := by decide +kernel
theorem dX3_step_81 : decode cX3_step 81 = .ok (.if_icmp .ne 22, 3) := by decide +kernel
theorem dX3_step_84 : decode cX3_step 84 = .ok (.aload_n 0, 1) := by decide +kernel
theorem dX3_step_85 : decode cX3_step 85 = .ok (.getfield 22, 3) := by decide +kernel
theorem dX3_step_88 : decode cX3_step 88 = .ok (.aload_n 0, 1) := by decide +kernel
theorem dX3_step_89 : decode cX3_step 89 = .ok (.getfield 29, 3) := by decide +kernel
theorem dX3_step_92 : decode cX3_step 92 = .ok (.invokevirtual 38, 3) := by decide +kernel
theorem dX3_step_95 : decode cX3_step 95 = .ok (.ifCond .ne 8, 3) := by decide +kernel
theorem dX3_step_98 : decode cX3_step 98 = .ok (.aload_n 0, 1) := by decide +kernel
theorem dX3_step_99 : decode cX3_step 99 = .ok (.iconst 0, 1) := by decide +kernel
theorem dX3_step_100 : decode cX3_step 100 = .ok (.putfield 18, 3) := by decide +kernel
theorem dX3_step_103 : decode cX3_step 103 = .ok (.return_, 1) := by decide +kernel
set_option maxRecDepth 20000 in
theorem ggX3_obey_X3_write : GoodIn wsX3_obey wsX3_write := goodIn_r _ [7, 8, 9, 24, 25, 26, 27, 28, 29, 30, 31, 32, 33] (by decide +kernel) (by decide +kernel)
set_option maxRecDepth 20000 in
theorem gX3_obey_X3_write : GoodIn wsX3_obey (wsV RX3 69 RX3 yX3_write wsX3_write) := goodIn_app (goodIn_of _ (by decide +kernel)) ggX3_obey_X3_write
set_option maxRecDepth 20000 in
theorem ggX3_obey_X3_read : GoodIn wsX3_obey wsX3_read := goodIn_r _ [13, 14, 9, 24, 25, 26, 27, 28, 29, 30, 31, 32, 33] (by decide +kernel) (by decide +kernel)
set_option maxRecDepth 20000 in
theorem gX3_obey_X3_read : GoodIn wsX3_obey (wsV RX3 73 RX3 yX3_read wsX3_read) := goodIn_app (goodIn_of _ (by decide +kernel)) ggX3_obey_X3_read
set_option maxRecDepth 20000 in
theorem ggX3_obey_X3_tell : GoodIn wsX3_obey wsX3_tell := goodIn_r _ [18, 19, 2, 20, 24, 25, 26, 27, 28, 29, 30, 31, 32, 33] (by decide +kernel) (by decide +kernel)
set_option maxRecDepth 20000 in
theorem gX3_obey_X3_tell : GoodIn wsX3_obey (wsV RX3 77 RX3 yX3_tell wsX3_tell) := goodIn_app (goodIn_of _ (by decide +kernel)) ggX3_obey_X3_tell
set_option maxRecDepth 20000 in
theorem ggX3_obey_X6_isCell : GoodIn wsX3_obey wsX6_isCell := goodIn_r _ [23] (by decide +kernel) (by decide +kernel)
set_option maxRecDepth 20000 in
theorem gX3_obey_X6_isCell_n81 : GoodIn wsX3_obey (wsX6_isCell) := ggX3_obey_X6_isCell
theorem dX3_obey_0 : decode cX3_obey 0 = .ok (.iload_n 1, 1) := by decide +kernel
theorem dX3_obey_1 : decode cX3_obey 1 = .ok (.tableswitch 278 0 10 #[59, 68, 81, 104, 123, 142, 157, 165, 188, 200, 237], 59) := by decide +kernel
theorem dX3_obey_60 : decode cX3_obey 60 = .ok (.aload_n 0, 1) := by decide +kernel
theorem dX3_obey_61 : decode cX3_obey 61 = .ok (.iload_n 2, 1) := by decide +kernel
theorem dX3_obey_62 : decode cX3_obey 62 = .ok (.iload_n 3, 1) := by decide +kernel
theorem dX3_obey_63 : decode cX3_obey 63 = .ok (.invokevirtual 69, 3) := by decide +kernel
theorem dX3_obey_66 : decode cX3_obey 66 = .ok (.goto 218, 3) := by decide +kernel
theorem dX3_obey_69 : decode cX3_obey 69 = .ok (.aload_n 0, 1) := by decide +kernel
theorem dX3_obey_70 : decode cX3_obey 70 = .ok (.iload_n 2, 1) := by decide +kernel
theorem dX3_obey_71 : decode cX3_obey 71 = .ok (.aload_n 0, 1) := by decide +kernel
theorem dX3_obey_72 : decode cX3_obey 72 = .ok (.iload_n 3, 1) := by decide +kernel
theorem dX3_obey_73 : decode cX3_obey 73 = .ok (.invokevirtual 73, 3) := by decide +kernel
theorem dX3_obey_76 : decode cX3_obey 76 = .ok (.invokevirtual 69, 3) := by decide +kernel
theorem dX3_obey_79 : decode cX3_obey 79 = .ok (.goto 205, 3) := by decide +kernel
theorem dX3_obey_82 : decode cX3_obey 82 = .ok (.aload_n 0, 1) := by decide +kernel
theorem dX3_obey_83 : decode cX3_obey 83 = .ok (.iload_n 2, 1) := by decide +kernel
theorem dX3_obey_84 : decode cX3_obey 84 = .ok (.aload_n 0, 1) := by decide +kernel
theorem dX3_obey_85 : decode cX3_obey 85 = .ok (.iload_n 2, 1) := by decide +kernel
theorem dX3_obey_86 : decode cX3_obey 86 = .ok (.invokevirtual 73, 3) := by decide +kernel
theorem dX3_obey_89 : decode cX3_obey 89 = .ok (.aload_n 0, 1) := by decide +kernel
theorem dX3_obey_90 : decode cX3_obey 90 = .ok (.iload_n 3, 1) := by decide +kernel
theorem dX3_obey_91 : decode cX3_obey 91 = .ok (.invokevirtual 73, 3) := by decide +kernel
theorem dX3_obey_94 : decode cX3_obey 94 = .ok (.iadd, 1) := by decide +kernel
theorem dX3_obey_95 : decode cX3_obey 95 = .ok (.sipush 255, 3) := by decide +kernel
theorem dX3_obey_98 : decode cX3_obey 98 = .ok (.iand, 1) := by decide +kernel
theorem dX3_obey_99 : decode cX3_obey 99 = .ok (.invokevirtual 69, 3) := by decide +kernel
theorem dX3_obey_102 : decode cX3_obey 102 = .ok (.goto 182, 3) := by decide +kernel
theorem dX3_obey_105 : decode cX3_obey 105 = .ok (.aload_n 0, 1) := by decide +kernel
theorem dX3_obey_106 : decode cX3_obey 106 = .ok (.iload_n 2, 1) := by decide +kernel
theorem dX3_obey_107 : decode cX3_obey 107 = .ok (.aload_n 0, 1) := by decide +kernel
theorem dX3_obey_108 : decode cX3_obey 108 = .ok (.iload_n 2, 1) := by decide +kernel
theorem dX3_obey_109 : decode cX3_obey 109 = .ok (.invokevirtual 73, 3) := by decide +kernel
theorem dX3_obey_112 : decode cX3_obey 112 = .ok (.aload_n 0, 1) := by decide +kernel
theorem dX3_obey_113 : decode cX3_obey 113 = .ok (.iload_n 3, 1) := by decide +kernel
theorem dX3_obey_114 : decode cX3_obey 114 = .ok (.invokevirtual 73, 3) := by decide +kernel
theorem dX3_obey_117 : decode cX3_obey 117 = .ok (.iand, 1) := by decide +kernel
theorem dX3_obey_118 : decode cX3_obey 118 = .ok (.invokevirtual 69, 3) := by decide +kernel
theorem dX3_obey_121 : decode cX3_obey 121 = .ok (.goto 163, 3) := by decide +kernel
theorem dX3_obey_124 : decode cX3_obey 124 = .ok (.aload_n 0, 1) := by decide +kernel
theorem dX3_obey_125 : decode cX3_obey 125 = .ok (.iload_n 2, 1) := by decide +kernel
theorem dX3_obey_126 : decode cX3_obey 126 = .ok (.aload_n 0, 1) := by decide +kernel
theorem dX3_obey_127 : decode cX3_obey 127 = .ok (.iload_n 2, 1) := by decide +kernel
theorem dX3_obey_128 : decode cX3_obey 128 = .ok (.invokevirtual 73, 3) := by decide +kernel
theorem dX3_obey_131 : decode cX3_obey 131 = .ok (.aload_n 0, 1) := by decide +kernel
theorem dX3_obey_132 : decode cX3_obey 132 = .ok (.iload_n 3, 1) := by decide +kernel
theorem dX3_obey_133 : decode cX3_obey 133 = .ok (.invokevirtual 73, 3) := by decide +kernel
theorem dX3_obey_136 : decode cX3_obey 136 = .ok (.ixor, 1) := by decide +kernel
theorem dX3_obey_137 : decode cX3_obey 137 = .ok (.invokevirtual 69, 3) := by decide +kernel
theorem dX3_obey_140 : decode cX3_obey 140 = .ok (.goto 144, 3) := by decide +kernel
theorem dX3_obey_143 : decode cX3_obey 143 = .ok (.aload_n 0, 1) := by decide +kernel
theorem dX3_obey_144 : decode cX3_obey 144 = .ok (.iload_n 2, 1) := by decide +kernel
theorem dX3_obey_145 : decode cX3_obey 145 = .ok (.aload_n 0, 1) := by decide +kernel
theorem dX3_obey_146 : decode cX3_obey 146 = .ok (.iload_n 2, 1) := by decide +kernel
theorem dX3_obey_147 : decode cX3_obey 147 = .ok (.invokevirtual 73, 3) := by decide +kernel
theorem dX3_obey_150 : decode cX3_obey 150 = .ok (.iconst 1, 1) := by decide +kernel
theorem dX3_obey_151 : decode cX3_obey 151 = .ok (.ishr, 1) := by decide +kernel
theorem dX3_obey_152 : decode cX3_obey 152 = .ok (.invokevirtual 69, 3) := by decide +kernel
theorem dX3_obey_155 : decode cX3_obey 155 = .ok (.goto 129, 3) := by decide +kernel
theorem dX3_obey_158 : decode cX3_obey 158 = .ok (.aload_n 0, 1) := by decide +kernel
theorem dX3_obey_159 : decode cX3_obey 159 = .ok (.iload_n 2, 1) := by decide +kernel
theorem dX3_obey_160 : decode cX3_obey 160 = .ok (.putfield 29, 3) := by decide +kernel
theorem dX3_obey_163 : decode cX3_obey 163 = .ok (.goto 121, 3) := by decide +kernel
theorem dX3_obey_166 : decode cX3_obey 166 = .ok (.aload_n 0, 1) := by decide +kernel
theorem dX3_obey_167 : decode cX3_obey 167 = .ok (.aload_n 0, 1) := by decide +kernel
theorem dX3_obey_168 : decode cX3_obey 168 = .ok (.iload_n 2, 1) := by decide +kernel
theorem dX3_obey_169 : decode cX3_obey 169 = .ok (.invokevirtual 73, 3) := by decide +kernel
theorem dX3_obey_172 : decode cX3_obey 172 = .ok (.ifCond .eq 7, 3) := by decide +kernel
theorem dX3_obey_175 : decode cX3_obey 175 = .ok (.iload_n 3, 1) := by decide +kernel
theorem dX3_obey_176 : decode cX3_obey 176 = .ok (.goto 7, 3) := by decide +kernel
theorem dX3_obey_179 : decode cX3_obey 179 = .ok (.aload_n 0, 1) := by decide +kernel
theorem dX3_obey_180 : decode cX3_obey 180 = .ok (.getfield 29, 3) := by decide +kernel
theorem dX3_obey_183 : decode cX3_obey 183 = .ok (.putfield 29, 3) := by decide +kernel
theorem dX3_obey_186 : decode cX3_obey 186 = .ok (.goto 98, 3) := by decide +kernel
theorem dX3_obey_189 : decode cX3_obey 189 = .ok (.aload_n 0, 1) := by decide +kernel
theorem dX3_obey_190 : decode cX3_obey 190 = .ok (.aload_n 0, 1) := by decide +kernel
theorem dX3_obey_191 : decode cX3_obey 191 = .ok (.iload_n 2, 1) := by decide +kernel
theorem dX3_obey_192 : decode cX3_obey 192 = .ok (.invokevirtual 73, 3) := by decide +kernel
theorem dX3_obey_195 : decode cX3_obey 195 = .ok (.invokevirtual 77, 3) := by decide +kernel
theorem dX3_obey_198 : decode cX3_obey 198 = .ok (.goto 86, 3) := by decide +kernel
theorem dX3_obey_201 : decode cX3_obey 201 = .ok (.aload_n 0, 1) := by decide +kernel
theorem dX3_obey_202 : decode cX3_obey 202 = .ok (.iload_n 3, 1) := by decide +kernel
theorem dX3_obey_203 : decode cX3_obey 203 = .ok (.invokevirtual 73, 3) := by decide +kernel
theorem dX3_obey_206 : decode cX3_obey 206 = .ok (.istore 4, 2) := by decide +kernel
theorem dX3_obey_208 : decode cX3_obey 208 = .ok (.iload 4, 2) := by decide +kernel
theorem dX3_obey_210 : decode cX3_obey 210 = .ok (.invokestatic 81, 3) := by decide +kernel
theorem dX3_obey_213 : decode cX3_obey 213 = .ok (.ifCond .eq 17, 3) := by decide +kernel
theorem dX3_obey_216 : decode cX3_obey 216 = .ok (.aload_n 0, 1) := by decide +kernel
theorem dX3_obey_217 : decode cX3_obey 217 = .ok (.iload_n 2, 1) := by decide +kernel
theorem dX3_obey_218 : decode cX3_obey 218 = .ok (.aload_n 0, 1) := by decide +kernel
theorem dX3_obey_219 : decode cX3_obey 219 = .ok (.iload 4, 2) := by decide +kernel
theorem dX3_obey_221 : decode cX3_obey 221 = .ok (.invokevirtual 73, 3) := by decide +kernel
theorem dX3_obey_224 : decode cX3_obey 224 = .ok (.invokevirtual 69, 3) := by decide +kernel
theorem dX3_obey_227 : decode cX3_obey 227 = .ok (.goto 57, 3) := by decide +kernel
theorem dX3_obey_230 : decode cX3_obey 230 = .ok (.aload_n 0, 1) := by decide +kernel
theorem dX3_obey_231 : decode cX3_obey 231 = .ok (.iconst 1, 1) := by decide +kernel
theorem dX3_obey_232 : decode cX3_obey 232 = .ok (.putfield 18, 3) := by decide +kernel
theorem dX3_obey_235 : decode cX3_obey 235 = .ok (.goto 49, 3) := by decide +kernel
theorem dX3_obey_238 : decode cX3_obey 238 = .ok (.aload_n 0, 1) := by decide +kernel
theorem dX3_obey_239 : decode cX3_obey 239 = .ok (.iload_n 2, 1) := by decide +kernel
theorem dX3_obey_240 : decode cX3_obey 240 = .ok (.invokevirtual 73, 3) := by decide +kernel
theorem dX3_obey_243 : decode cX3_obey 243 = .ok (.istore 5, 2) := by decide +kernel
theorem dX3_obey_245 : decode cX3_obey 245 = .ok (.aload_n 0, 1) := by decide +kernel
theorem dX3_obey_246 : decode cX3_obey 246 = .ok (.iload_n 3, 1) := by decide +kernel
theorem dX3_obey_247 : decode cX3_obey 247 = .ok (.invokevirtual 73, 3) := by decide +kernel
theorem dX3_obey_250 : decode cX3_obey 250 = .ok (.istore 6, 2) := by decide +kernel
theorem dX3_obey_252 : decode cX3_obey 252 = .ok (.iload 5, 2) := by decide +kernel
theorem dX3_obey_254 : decode cX3_obey 254 = .ok (.invokestatic 81, 3) := by decide +kernel
theorem dX3_obey_257 : decode cX3_obey 257 = .ok (.ifCond .eq 14, 3) := by decide +kernel
theorem dX3_obey_260 : decode cX3_obey 260 = .ok (.aload_n 0, 1) := by decide +kernel
theorem dX3_obey_261 : decode cX3_obey 261 = .ok (.iload 5, 2) := by decide +kernel
theorem dX3_obey_263 : decode cX3_obey 263 = .ok (.iload 6, 2) := by decide +kernel
theorem dX3_obey_265 : decode cX3_obey 265 = .ok (.invokevirtual 69, 3) := by decide +kernel
theorem dX3_obey_268 : decode cX3_obey 268 = .ok (.goto 16, 3) := by decide +kernel
theorem dX3_obey_271 : decode cX3_obey 271 = .ok (.aload_n 0, 1) := by decide +kernel
theorem dX3_obey_272 : decode cX3_obey 272 = .ok (.iconst 1, 1) := by decide +kernel
theorem dX3_obey_273 : decode cX3_obey 273 = .ok (.putfield 18, 3) := by decide +kernel
theorem dX3_obey_276 : decode cX3_obey 276 = .ok (.goto 8, 3) := by decide +kernel
theorem dX3_obey_279 : decode cX3_obey 279 = .ok (.aload_n 0, 1) := by decide +kernel
theorem dX3_obey_280 : decode cX3_obey 280 = .ok (.iconst 0, 1) := by decide +kernel
theorem dX3_obey_281 : decode cX3_obey 281 = .ok (.putfield 18, 3) := by decide +kernel
theorem dX3_obey_284 : decode cX3_obey 284 = .ok (.return_, 1) := by decide +kernel
theorem dX3_tell_0 : decode cX3_tell 0 = .ok (.aload_n 0, 1) := by decide +kernel
theorem dX3_tell_1 : decode cX3_tell 1 = .ok (.getfield 32, 3) := by decide +kernel
theorem dX3_tell_4 : decode cX3_tell 4 = .ok (.bipush 12, 2) := by decide +kernel
theorem dX3_tell_6 : decode cX3_tell 6 = .ok (.if_icmp .lt 9, 3) := by decide +kernel
theorem dX3_tell_9 : decode cX3_tell 9 = .ok (.aload_n 0, 1) := by decide +kernel
theorem dX3_tell_10 : decode cX3_tell 10 = .ok (.iconst 1, 1) := by decide +kernel
theorem dX3_tell_11 : decode cX3_tell 11 = .ok (.putfield 18, 3) := by decide +kernel
theorem dX3_tell_14 : decode cX3_tell 14 = .ok (.return_, 1) := by decide +kernel
theorem dX3_tell_15 : decode cX3_tell 15 = .ok (.aload_n 0, 1) := by decide +kernel
theorem dX3_tell_16 : decode cX3_tell 16 = .ok (.getfield 15, 3) := by decide +kernel
theorem dX3_tell_19 : decode cX3_tell 19 = .ok (.aload_n 0, 1) := by decide +kernel
theorem dX3_tell_20 : decode cX3_tell 20 = .ok (.getfield 32, 3) := by decide +kernel
theorem dX3_tell_23 : decode cX3_tell 23 = .ok (.iload_n 1, 1) := by decide +kernel
theorem dX3_tell_24 : decode cX3_tell 24 = .ok (.iastore, 1) := by decide +kernel
theorem dX3_tell_25 : decode cX3_tell 25 = .ok (.aload_n 0, 1) := by decide +kernel
theorem dX3_tell_26 : decode cX3_tell 26 = .ok (.dup, 1) := by decide +kernel
theorem dX3_tell_27 : decode cX3_tell 27 = .ok (.getfield 32, 3) := by decide +kernel
theorem dX3_tell_30 : decode cX3_tell 30 = .ok (.iconst 1, 1) := by decide +kernel
theorem dX3_tell_31 : decode cX3_tell 31 = .ok (.iadd, 1) := by decide +kernel
theorem dX3_tell_32 : decode cX3_tell 32 = .ok (.putfield 32, 3) := by decide +kernel
theorem dX3_tell_35 : decode cX3_tell 35 = .ok (.return_, 1) := by decide +kernel
theorem dX3_read_0 : decode cX3_read 0 = .ok (.aload_n 0, 1) := by decide +kernel
theorem dX3_read_1 : decode cX3_read 1 = .ok (.dup, 1) := by decide +kernel
theorem dX3_read_2 : decode cX3_read 2 = .ok (.getfield 50, 3) := by decide +kernel
theorem dX3_read_5 : decode cX3_read 5 = .ok (.iconst 1, 1) := by decide +kernel
theorem dX3_read_6 : decode cX3_read 6 = .ok (.iload_n 1, 1) := by decide +kernel
theorem dX3_read_7 : decode cX3_read 7 = .ok (.ishl, 1) := by decide +kernel
theorem dX3_read_8 : decode cX3_read 8 = .ok (.ior, 1) := by decide +kernel
theorem dX3_read_9 : decode cX3_read 9 = .ok (.putfield 50, 3) := by decide +kernel
theorem dX3_read_12 : decode cX3_read 12 = .ok (.aload_n 0, 1) := by decide +kernel
theorem dX3_read_13 : decode cX3_read 13 = .ok (.getfield 9, 3) := by decide +kernel
theorem dX3_read_16 : decode cX3_read 16 = .ok (.iload_n 1, 1) := by decide +kernel
theorem dX3_read_17 : decode cX3_read 17 = .ok (.iaload, 1) := by decide +kernel
theorem dX3_read_18 : decode cX3_read 18 = .ok (.ireturn, 1) := by decide +kernel
theorem dX3_write_0 : decode cX3_write 0 = .ok (.aload_n 0, 1) := by decide +kernel
theorem dX3_write_1 : decode cX3_write 1 = .ok (.dup, 1) := by decide +kernel
theorem dX3_write_2 : decode cX3_write 2 = .ok (.getfield 53, 3) := by decide +kernel
theorem dX3_write_5 : decode cX3_write 5 = .ok (.iconst 1, 1) := by decide +kernel
theorem dX3_write_6 : decode cX3_write 6 = .ok (.iload_n 1, 1) := by decide +kernel
theorem dX3_write_7 : decode cX3_write 7 = .ok (.ishl, 1) := by decide +kernel
theorem dX3_write_8 : decode cX3_write 8 = .ok (.ior, 1) := by decide +kernel
theorem dX3_write_9 : decode cX3_write 9 = .ok (.putfield 53, 3) := by decide +kernel
theorem dX3_write_12 : decode cX3_write 12 = .ok (.aload_n 0, 1) := by decide +kernel
theorem dX3_write_13 : decode cX3_write 13 = .ok (.getfield 9, 3) := by decide +kernel
theorem dX3_write_16 : decode cX3_write 16 = .ok (.iload_n 1, 1) := by decide +kernel
theorem dX3_write_17 : decode cX3_write 17 = .ok (.iload_n 2, 1) := by decide +kernel
theorem dX3_write_18 : decode cX3_write 18 = .ok (.iastore, 1) := by decide +kernel
theorem dX3_write_19 : decode cX3_write 19 = .ok (.return_, 1) := by decide +kernel
theorem dX4_init_0 : decode cX4_init 0 = .ok (.aload_n 0, 1) := by decide +kernel
theorem dX4_init_1 : decode cX4_init 1 = .ok (.invokespecial 3, 3) := by decide +kernel
theorem dX4_init_4 : decode cX4_init 4 = .ok (.aload_n 0, 1) := by decide +kernel
theorem dX4_init_5 : decode cX4_init 5 = .ok (.bipush 20, 2) := by decide +kernel
theorem dX4_init_7 : decode cX4_init 7 = .ok (.newarray .int, 2) := by decide +kernel
theorem dX4_init_9 : decode cX4_init 9 = .ok (.putfield 9, 3) := by decide +kernel
theorem dX4_init_12 : decode cX4_init 12 = .ok (.aload_n 0, 1) := by decide +kernel
theorem dX4_init_13 : decode cX4_init 13 = .ok (.bipush 20, 2) := by decide +kernel
theorem dX4_init_15 : decode cX4_init 15 = .ok (.newarray .int, 2) := by decide +kernel
theorem dX4_init_17 : decode cX4_init 17 = .ok (.putfield 15, 3) := by decide +kernel
theorem dX4_init_20 : decode cX4_init 20 = .ok (.aload_n 0, 1) := by decide +kernel
theorem dX4_init_21 : decode cX4_init 21 = .ok (.bipush 20, 2) := by decide +kernel
theorem dX4_init_23 : decode cX4_init 23 = .ok (.newarray .int, 2) := by decide +kernel
theorem dX4_init_25 : decode cX4_init 25 = .ok (.putfield 18, 3) := by decide +kernel
theorem dX4_init_28 : decode cX4_init 28 = .ok (.return_, 1) := by decide +kernel
set_option maxRecDepth 20000 in
theorem ggX4_fits_X6_isCell : GoodIn wsX4_fits wsX6_isCell := goodIn_r _ [3] (by decide +kernel) (by decide +kernel)
set_option maxRecDepth 20000 in
theorem gX4_fits_X6_isCell_n21 : GoodIn wsX4_fits (wsX6_isCell) := ggX4_fits_X6_isCell
set_option maxRecDepth 20000 in
theorem ggX4_fits_X4_isTarget : GoodIn wsX4_fits wsX4_isTarget := goodIn_r _ [7] (by decide +kernel) (by decide +kernel)
set_option maxRecDepth 20000 in
theorem gX4_fits_X4_isTarget : GoodIn wsX4_fits (va_wsS RX4 25 yX4_isTarget wsX4_isTarget) := goodIn_app (goodIn_of _ (by decide +kernel)) ggX4_fits_X4_isTarget
theorem dX4_fits_0 : decode cX4_fits 0 = .ok (.iload_n 0, 1) := by decide +kernel
theorem dX4_fits_1 : decode cX4_fits 1 = .ok (.tableswitch 133 0 10 #[59, 83, 83, 83, 83, 103, 108, 113, 103, 83, 83], 59) := by decide +kernel
theorem dX4_fits_60 : decode cX4_fits 60 = .ok (.iload_n 1, 1) := by decide +kernel
theorem dX4_fits_61 : decode cX4_fits 61 = .ok (.invokestatic 21, 3) := by decide +kernel
theorem dX4_fits_64 : decode cX4_fits 64 = .ok (.ifCond .eq 18, 3) := by decide +kernel
theorem dX4_fits_67 : decode cX4_fits 67 = .ok (.iload_n 2, 1) := by decide +kernel
theorem dX4_fits_68 : decode cX4_fits 68 = .ok (.ifCond .lt 14, 3) := by decide +kernel
theorem dX4_fits_71 : decode cX4_fits 71 = .ok (.iload_n 2, 1) := by decide +kernel
theorem dX4_fits_72 : decode cX4_fits 72 = .ok (.sipush 255, 3) := by decide +kernel
theorem dX4_fits_75 : decode cX4_fits 75 = .ok (.if_icmp .gt 7, 3) := by decide +kernel
theorem dX4_fits_78 : decode cX4_fits 78 = .ok (.iconst 1, 1) := by decide +kernel
theorem dX4_fits_79 : decode cX4_fits 79 = .ok (.goto 4, 3) := by decide +kernel
theorem dX4_fits_82 : decode cX4_fits 82 = .ok (.iconst 0, 1) := by decide +kernel
theorem dX4_fits_83 : decode cX4_fits 83 = .ok (.ireturn, 1) := by decide +kernel
theorem dX4_fits_84 : decode cX4_fits 84 = .ok (.iload_n 1, 1) := by decide +kernel
theorem dX4_fits_85 : decode cX4_fits 85 = .ok (.invokestatic 21, 3) := by decide +kernel
theorem dX4_fits_88 : decode cX4_fits 88 = .ok (.ifCond .eq 14, 3) := by decide +kernel
theorem dX4_fits_91 : decode cX4_fits 91 = .ok (.iload_n 2, 1) := by decide +kernel
theorem dX4_fits_92 : decode cX4_fits 92 = .ok (.invokestatic 21, 3) := by decide +kernel
theorem dX4_fits_95 : decode cX4_fits 95 = .ok (.ifCond .eq 7, 3) := by decide +kernel
theorem dX4_fits_98 : decode cX4_fits 98 = .ok (.iconst 1, 1) := by decide +kernel
theorem dX4_fits_99 : decode cX4_fits 99 = .ok (.goto 4, 3) := by decide +kernel
theorem dX4_fits_102 : decode cX4_fits 102 = .ok (.iconst 0, 1) := by decide +kernel
theorem dX4_fits_103 : decode cX4_fits 103 = .ok (.ireturn, 1) := by decide +kernel
theorem dX4_fits_104 : decode cX4_fits 104 = .ok (.iload_n 1, 1) := by decide +kernel
theorem dX4_fits_105 : decode cX4_fits 105 = .ok (.invokestatic 21, 3) := by decide +kernel
theorem dX4_fits_108 : decode cX4_fits 108 = .ok (.ireturn, 1) := by decide +kernel
theorem dX4_fits_109 : decode cX4_fits 109 = .ok (.iload_n 1, 1) := by decide +kernel
theorem dX4_fits_110 : decode cX4_fits 110 = .ok (.invokestatic 25, 3) := by decide +kernel
theorem dX4_fits_113 : decode cX4_fits 113 = .ok (.ireturn, 1) := by decide +kernel
theorem dX4_fits_114 : decode cX4_fits 114 = .ok (.iload_n 1, 1) := by decide +kernel
theorem dX4_fits_115 : decode cX4_fits 115 = .ok (.invokestatic 21, 3) := by decide +kernel
theorem dX4_fits_118 : decode cX4_fits 118 = .ok (.ifCond .eq 14, 3) := by decide +kernel
theorem dX4_fits_121 : decode cX4_fits 121 = .ok (.iload_n 2, 1) := by decide +kernel
theorem dX4_fits_122 : decode cX4_fits 122 = .ok (.invokestatic 25, 3) := by decide +kernel
theorem dX4_fits_125 : decode cX4_fits 125 = .ok (.ifCond .eq 7, 3) := by decide +kernel
theorem dX4_fits_128 : decode cX4_fits 128 = .ok (.iconst 1, 1) := by decide +kernel
theorem dX4_fits_129 : decode cX4_fits 129 = .ok (.goto 4, 3) := by decide +kernel
theorem dX4_fits_132 : decode cX4_fits 132 = .ok (.iconst 0, 1) := by decide +kernel
theorem dX4_fits_133 : decode cX4_fits 133 = .ok (.ireturn, 1) := by decide +kernel
theorem dX4_fits_134 : decode cX4_fits 134 = .ok (.iload_n 0, 1) := by decide +kernel
theorem dX4_fits_135 : decode cX4_fits 135 = .ok (.bipush 11, 2) := by decide +kernel
theorem dX4_fits_137 : decode cX4_fits 137 = .ok (.if_icmp .ne 7, 3) := by decide +kernel
theorem dX4_fits_140 : decode cX4_fits 140 = .ok (.iconst 1, 1) := by decide +kernel
theorem dX4_fits_141 : decode cX4_fits 141 = .ok (.goto 4, 3) := by decide +kernel
theorem dX4_fits_144 : decode cX4_fits 144 = .ok (.iconst 0, 1) := by decide +kernel
theorem dX4_fits_145 : decode cX4_fits 145 = .ok (.ireturn, 1) := by decide +kernel
theorem dX4_has_0 : decode cX4_has 0 = .ok (.iload_n 1, 1) := by decide +kernel
theorem dX4_has_1 : decode cX4_has 1 = .ok (.ifCond .lt 15, 3) := by decide +kernel
theorem dX4_has_4 : decode cX4_has 4 = .ok (.iload_n 1, 1) := by decide +kernel
theorem dX4_has_5 : decode cX4_has 5 = .ok (.aload_n 0, 1) := by decide +kernel
theorem dX4_has_6 : decode cX4_has 6 = .ok (.getfield 28, 3) := by decide +kernel
theorem dX4_has_9 : decode cX4_has 9 = .ok (.if_icmp .ge 7, 3) := by decide +kernel
theorem dX4_has_12 : decode cX4_has 12 = .ok (.iconst 1, 1) := by decide +kernel
theorem dX4_has_13 : decode cX4_has 13 = .ok (.goto 4, 3) := by decide +kernel
theorem dX4_has_16 : decode cX4_has 16 = .ok (.iconst 0, 1) := by decide +kernel
theorem dX4_has_17 : decode cX4_has 17 = .ok (.ireturn, 1) := by decide +kernel
theorem dX4_put_0 : decode cX4_put 0 = .ok (.iload_n 2, 1) := by decide +kernel
theorem dX4_put_1 : decode cX4_put 1 = .ok (.bipush 11, 2) := by decide +kernel
theorem dX4_put_3 : decode cX4_put 3 = .ok (.if_icmp .eq 7, 3) := by decide +kernel
theorem dX4_put_6 : decode cX4_put 6 = .ok (.iconst 1, 1) := by decide +kernel
theorem dX4_put_7 : decode cX4_put 7 = .ok (.goto 4, 3) := by decide +kernel
theorem dX4_put_10 : decode cX4_put 10 = .ok (.iconst 0, 1) := by decide +kernel
theorem dX4_put_11 : decode cX4_put 11 = .ok (.istore 5, 2) := by decide +kernel
theorem dX4_put_13 : decode cX4_put 13 = .ok (.iload 5, 2) := by decide +kernel
theorem dX4_put_15 : decode cX4_put 15 = .ok (.ifCond .eq 24, 3) := by decide +kernel
theorem dX4_put_18 : decode cX4_put 18 = .ok (.iload_n 2, 1) := by decide +kernel
theorem dX4_put_19 : decode cX4_put 19 = .ok (.iconst 5, 1) := by decide +kernel
theorem dX4_put_20 : decode cX4_put 20 = .ok (.if_icmp .eq 19, 3) := by decide +kernel
theorem dX4_put_23 : decode cX4_put 23 = .ok (.iload_n 2, 1) := by decide +kernel
theorem dX4_put_24 : decode cX4_put 24 = .ok (.bipush 8, 2) := by decide +kernel
theorem dX4_put_26 : decode cX4_put 26 = .ok (.if_icmp .eq 13, 3) := by decide +kernel
theorem dX4_put_29 : decode cX4_put 29 = .ok (.iload_n 2, 1) := by decide +kernel
theorem dX4_put_30 : decode cX4_put 30 = .ok (.bipush 6, 2) := by decide +kernel
theorem dX4_put_32 : decode cX4_put 32 = .ok (.if_icmp .eq 7, 3) := by decide +kernel
theorem dX4_put_35 : decode cX4_put 35 = .ok (.iconst 1, 1) := by decide +kernel
theorem dX4_put_36 : decode cX4_put 36 = .ok (.goto 4, 3) := by decide +kernel
theorem dX4_put_39 : decode cX4_put 39 = .ok (.iconst 0, 1) := by decide +kernel
theorem dX4_put_40 : decode cX4_put 40 = .ok (.istore 6, 2) := by decide +kernel
theorem dX4_put_42 : decode cX4_put 42 = .ok (.aload_n 0, 1) := by decide +kernel
theorem dX4_put_43 : decode cX4_put 43 = .ok (.getfield 9, 3) := by decide +kernel
theorem dX4_put_46 : decode cX4_put 46 = .ok (.iload_n 1, 1) := by decide +kernel
theorem dX4_put_47 : decode cX4_put 47 = .ok (.iload_n 2, 1) := by decide +kernel
theorem dX4_put_48 : decode cX4_put 48 = .ok (.iastore, 1) := by decide +kernel
theorem dX4_put_49 : decode cX4_put 49 = .ok (.aload_n 0, 1) := by decide +kernel
theorem dX4_put_50 : decode cX4_put 50 = .ok (.getfield 15, 3) := by decide +kernel
theorem dX4_put_53 : decode cX4_put 53 = .ok (.iload_n 1, 1) := by decide +kernel
theorem dX4_put_54 : decode cX4_put 54 = .ok (.iload 5, 2) := by decide +kernel
theorem dX4_put_56 : decode cX4_put 56 = .ok (.ifCond .eq 7, 3) := by decide +kernel
theorem dX4_put_59 : decode cX4_put 59 = .ok (.iload_n 3, 1) := by decide +kernel
theorem dX4_put_60 : decode cX4_put 60 = .ok (.goto 4, 3) := by decide +kernel
theorem dX4_put_63 : decode cX4_put 63 = .ok (.iconst 0, 1) := by decide +kernel
theorem dX4_put_64 : decode cX4_put 64 = .ok (.iastore, 1) := by decide +kernel
theorem dX4_put_65 : decode cX4_put 65 = .ok (.aload_n 0, 1) := by decide +kernel
theorem dX4_put_66 : decode cX4_put 66 = .ok (.getfield 18, 3) := by decide +kernel
theorem dX4_put_69 : decode cX4_put 69 = .ok (.iload_n 1, 1) := by decide +kernel
theorem dX4_put_70 : decode cX4_put 70 = .ok (.iload 6, 2) := by decide +kernel
theorem dX4_put_72 : decode cX4_put 72 = .ok (.ifCond .eq 8, 3) := by decide +kernel
theorem dX4_put_75 : decode cX4_put 75 = .ok (.iload 4, 2) := by decide +kernel
theorem dX4_put_77 : decode cX4_put 77 = .ok (.goto 4, 3) := by decide +kernel
theorem dX4_put_80 : decode cX4_put 80 = .ok (.iconst 0, 1) := by decide +kernel
theorem dX4_put_81 : decode cX4_put 81 = .ok (.iastore, 1) := by decide +kernel
theorem dX4_put_82 : decode cX4_put 82 = .ok (.return_, 1) := by decide +kernel
theorem dX4_isTarget_0 : decode cX4_isTarget 0 = .ok (.iload_n 0, 1) := by decide +kernel
theorem dX4_isTarget_1 : decode cX4_isTarget 1 = .ok (.ifCond .lt 13, 3) := by decide +kernel
theorem dX4_isTarget_4 : decode cX4_isTarget 4 = .ok (.iload_n 0, 1) := by decide +kernel
theorem dX4_isTarget_5 : decode cX4_isTarget 5 = .ok (.bipush 20, 2) := by decide +kernel
theorem dX4_isTarget_7 : decode cX4_isTarget 7 = .ok (.if_icmp .ge 7, 3) := by decide +kernel
theorem dX4_isTarget_10 : decode cX4_isTarget 10 = .ok (.iconst 1, 1) := by decide +kernel
theorem dX4_isTarget_11 : decode cX4_isTarget 11 = .ok (.goto 4, 3) := by decide +kernel
theorem dX4_isTarget_14 : decode cX4_isTarget 14 = .ok (.iconst 0, 1) := by decide +kernel
theorem dX4_isTarget_15 : decode cX4_isTarget 15 = .ok (.ireturn, 1) := by decide +kernel
set_option maxRecDepth 20000 in
theorem ggX5_init_X3_init : GoodIn wsX5_init wsX3_init := goodIn_r _ [16, 17, 2, 3, 4, 18, 19, 20, 21, 28, 29, 30, 31, 32, 33, 34, 35, 36, 37] (by decide +kernel) (by decide +kernel)
set_option maxRecDepth 20000 in
theorem gX5_init_X3_init : GoodIn wsX5_init (wsX3_init) := ggX5_init_X3_init
theorem dX5_init_0 : decode cX5_init 0 = .ok (.aload_n 0, 1) := by decide +kernel
theorem dX5_init_1 : decode cX5_init 1 = .ok (.invokespecial 3, 3) := by decide +kernel
theorem dX5_init_4 : decode cX5_init 4 = .ok (.aload_n 0, 1) := by decide +kernel
theorem dX5_init_5 : decode cX5_init 5 = .ok (.sipush 800, 3) := by decide +kernel
theorem dX5_init_8 : decode cX5_init 8 = .ok (.newarray .int, 2) := by decide +kernel
theorem dX5_init_10 : decode cX5_init 10 = .ok (.putfield 9, 3) := by decide +kernel
theorem dX5_init_13 : decode cX5_init 13 = .ok (.aload_n 0, 1) := by decide +kernel
theorem dX5_init_14 : decode cX5_init 14 = .ok (.bipush 100, 2) := by decide +kernel
theorem dX5_init_16 : decode cX5_init 16 = .ok (.newarray .int, 2) := by decide +kernel
theorem dX5_init_18 : decode cX5_init 18 = .ok (.putfield 15, 3) := by decide +kernel
theorem dX5_init_21 : decode cX5_init 21 = .ok (.aload_n 0, 1) := by decide +kernel
theorem dX5_init_22 : decode cX5_init 22 = .ok (.bipush 100, 2) := by decide +kernel
theorem dX5_init_24 : decode cX5_init 24 = .ok (.newarray .int, 2) := by decide +kernel
theorem dX5_init_26 : decode cX5_init 26 = .ok (.putfield 18, 3) := by decide +kernel
theorem dX5_init_29 : decode cX5_init 29 = .ok (.aload_n 0, 1) := by decide +kernel
theorem dX5_init_30 : decode cX5_init 30 = .ok (.bipush 100, 2) := by decide +kernel
theorem dX5_init_32 : decode cX5_init 32 = .ok (.newarray .int, 2) := by decide +kernel
theorem dX5_init_34 : decode cX5_init 34 = .ok (.putfield 21, 3) := by decide +kernel
theorem dX5_init_37 : decode cX5_init 37 = .ok (.aload_n 0, 1) := by decide +kernel
theorem dX5_init_38 : decode cX5_init 38 = .ok (.bipush 100, 2) := by decide +kernel
theorem dX5_init_40 : decode cX5_init 40 = .ok (.newarray .int, 2) := by decide +kernel
theorem dX5_init_42 : decode cX5_init 42 = .ok (.putfield 24, 3) := by decide +kernel
theorem dX5_init_45 : decode cX5_init 45 = .ok (.aload_n 0, 1) := by decide +kernel
theorem dX5_init_46 : decode cX5_init 46 = .ok (.new 27, 3) := by decide +kernel
theorem dX5_init_49 : decode cX5_init 49 = .ok (.dup, 1) := by decide +kernel
theorem dX5_init_50 : decode cX5_init 50 = .ok (.aload_n 1, 1) := by decide +kernel
theorem dX5_init_51 : decode cX5_init 51 = .ok (.invokespecial 29, 3) := by decide +kernel
theorem dX5_init_54 : decode cX5_init 54 = .ok (.putfield 32, 3) := by decide +kernel
theorem dX5_init_57 : decode cX5_init 57 = .ok (.return_, 1) := by decide +kernel
set_option maxRecDepth 20000 in
theorem ggX5_follow_X3_standAt : GoodIn wsX5_follow wsX3_standAt := goodIn_r _ [21, 22, 23, 24, 25, 26, 27, 28, 29, 30, 31, 32, 33, 74, 75, 76, 77, 78, 79, 80, 81, 82, 83, 84, 85, 86, 87] (by decide +kernel) (by decide +kernel)
set_option maxRecDepth 20000 in
theorem gX5_follow_X3_standAt : GoodIn wsX5_follow (wsV RX5 45 RX3 yX3_standAt wsX3_standAt) := goodIn_app (goodIn_of _ (by decide +kernel)) ggX5_follow_X3_standAt
set_option maxRecDepth 20000 in
theorem ggX5_follow_X3_step : GoodIn wsX5_follow wsX3_step := goodIn_r _ [37, 23, 38, 39, 26, 40, 41, 42, 22, 25, 27, 43, 44, 45, 20, 46, 47, 48, 49, 50, 51, 52, 53, 54, 55, 56, 57, 58, 59, 24, 60, 61, 62, 63, 28, 29, 30, 31, 32, 33, 74, 75, 76, 77, 78, 79, 80, 81, 82, 83, 84, 85, 86, 87] (by decide +kernel) (by decide +kernel)
set_option maxRecDepth 20000 in
theorem gX5_follow_X3_step : GoodIn wsX5_follow (wsV RX5 59 RX3 yX3_step wsX3_step) := goodIn_app (goodIn_of _ (by decide +kernel)) ggX5_follow_X3_step
set_option maxRecDepth 20000 in
theorem ggX5_follow_X3_stopIfGoing : GoodIn wsX5_follow wsX3_stopIfGoing := goodIn_r _ [67, 27, 74, 75, 76, 77, 78, 79, 80, 81, 82, 83] (by decide +kernel) (by decide +kernel)
set_option maxRecDepth 20000 in
theorem gX5_follow_X3_stopIfGoing : GoodIn wsX5_follow (wsV RX5 68 RX3 yX3_stopIfGoing wsX3_stopIfGoing) := goodIn_app (goodIn_of _ (by decide +kernel)) ggX5_follow_X3_stopIfGoing
theorem dX5_follow_0 : decode cX5_follow 0 = .ok (.aload_n 1, 1) := by decide +kernel
theorem dX5_follow_1 : decode cX5_follow 1 = .ok (.iconst 0, 1) := by decide +kernel
theorem dX5_follow_2 : decode cX5_follow 2 = .ok (.aload_n 0, 1) := by decide +kernel
theorem dX5_follow_3 : decode cX5_follow 3 = .ok (.getfield 32, 3) := by decide +kernel
theorem dX5_follow_6 : decode cX5_follow 6 = .ok (.getfield 36, 3) := by decide +kernel
theorem dX5_follow_9 : decode cX5_follow 9 = .ok (.iconst 0, 1) := by decide +kernel
theorem dX5_follow_10 : decode cX5_follow 10 = .ok (.bipush 8, 2) := by decide +kernel
theorem dX5_follow_12 : decode cX5_follow 12 = .ok (.invokestatic 39, 3) := by decide +kernel
theorem dX5_follow_15 : decode cX5_follow 15 = .ok (.aload_n 0, 1) := by decide +kernel
theorem dX5_follow_16 : decode cX5_follow 16 = .ok (.getfield 32, 3) := by decide +kernel
theorem dX5_follow_19 : decode cX5_follow 19 = .ok (.iconst 0, 1) := by decide +kernel
theorem dX5_follow_20 : decode cX5_follow 20 = .ok (.iconst 0, 1) := by decide +kernel
theorem dX5_follow_21 : decode cX5_follow 21 = .ok (.iconst 0, 1) := by decide +kernel
theorem dX5_follow_22 : decode cX5_follow 22 = .ok (.invokevirtual 45, 3) := by decide +kernel
theorem dX5_follow_25 : decode cX5_follow 25 = .ok (.iconst 0, 1) := by decide +kernel
theorem dX5_follow_26 : decode cX5_follow 26 = .ok (.istore_n 2, 1) := by decide +kernel
theorem dX5_follow_27 : decode cX5_follow 27 = .ok (.iload_n 2, 1) := by decide +kernel
theorem dX5_follow_28 : decode cX5_follow 28 = .ok (.bipush 100, 2) := by decide +kernel
theorem dX5_follow_30 : decode cX5_follow 30 = .ok (.if_icmp .ge 100, 3) := by decide +kernel
theorem dX5_follow_33 : decode cX5_follow 33 = .ok (.aload_n 0, 1) := by decide +kernel
theorem dX5_follow_34 : decode cX5_follow 34 = .ok (.getfield 32, 3) := by decide +kernel
theorem dX5_follow_37 : decode cX5_follow 37 = .ok (.getfield 49, 3) := by decide +kernel
theorem dX5_follow_40 : decode cX5_follow 40 = .ok (.iconst 3, 1) := by decide +kernel
theorem dX5_follow_41 : decode cX5_follow 41 = .ok (.if_icmp .ne 89, 3) := by decide +kernel
theorem dX5_follow_44 : decode cX5_follow 44 = .ok (.aload_n 0, 1) := by decide +kernel
theorem dX5_follow_45 : decode cX5_follow 45 = .ok (.getfield 32, 3) := by decide +kernel
theorem dX5_follow_48 : decode cX5_follow 48 = .ok (.getfield 36, 3) := by decide +kernel
theorem dX5_follow_51 : decode cX5_follow 51 = .ok (.iconst 0, 1) := by decide +kernel
theorem dX5_follow_52 : decode cX5_follow 52 = .ok (.aload_n 0, 1) := by decide +kernel
theorem dX5_follow_53 : decode cX5_follow 53 = .ok (.getfield 9, 3) := by decide +kernel
theorem dX5_follow_56 : decode cX5_follow 56 = .ok (.iload_n 2, 1) := by decide +kernel
theorem dX5_follow_57 : decode cX5_follow 57 = .ok (.bipush 8, 2) := by decide +kernel
theorem dX5_follow_59 : decode cX5_follow 59 = .ok (.imul, 1) := by decide +kernel
theorem dX5_follow_60 : decode cX5_follow 60 = .ok (.bipush 8, 2) := by decide +kernel
theorem dX5_follow_62 : decode cX5_follow 62 = .ok (.invokestatic 39, 3) := by decide +kernel
theorem dX5_follow_65 : decode cX5_follow 65 = .ok (.aload_n 0, 1) := by decide +kernel
theorem dX5_follow_66 : decode cX5_follow 66 = .ok (.getfield 15, 3) := by decide +kernel
theorem dX5_follow_69 : decode cX5_follow 69 = .ok (.iload_n 2, 1) := by decide +kernel
theorem dX5_follow_70 : decode cX5_follow 70 = .ok (.aload_n 0, 1) := by decide +kernel
theorem dX5_follow_71 : decode cX5_follow 71 = .ok (.getfield 32, 3) := by decide +kernel
theorem dX5_follow_74 : decode cX5_follow 74 = .ok (.getfield 53, 3) := by decide +kernel
theorem dX5_follow_77 : decode cX5_follow 77 = .ok (.iastore, 1) := by decide +kernel
theorem dX5_follow_78 : decode cX5_follow 78 = .ok (.aload_n 0, 1) := by decide +kernel
theorem dX5_follow_79 : decode cX5_follow 79 = .ok (.getfield 18, 3) := by decide +kernel
theorem dX5_follow_82 : decode cX5_follow 82 = .ok (.iload_n 2, 1) := by decide +kernel
theorem dX5_follow_83 : decode cX5_follow 83 = .ok (.aload_n 0, 1) := by decide +kernel
theorem dX5_follow_84 : decode cX5_follow 84 = .ok (.getfield 32, 3) := by decide +kernel
theorem dX5_follow_87 : decode cX5_follow 87 = .ok (.getfield 56, 3) := by decide +kernel
theorem dX5_follow_90 : decode cX5_follow 90 = .ok (.iastore, 1) := by decide +kernel
theorem dX5_follow_91 : decode cX5_follow 91 = .ok (.aload_n 0, 1) := by decide +kernel
theorem dX5_follow_92 : decode cX5_follow 92 = .ok (.getfield 32, 3) := by decide +kernel
theorem dX5_follow_95 : decode cX5_follow 95 = .ok (.invokevirtual 59, 3) := by decide +kernel
theorem dX5_follow_98 : decode cX5_follow 98 = .ok (.aload_n 0, 1) := by decide +kernel
theorem dX5_follow_99 : decode cX5_follow 99 = .ok (.getfield 21, 3) := by decide +kernel
theorem dX5_follow_102 : decode cX5_follow 102 = .ok (.iload_n 2, 1) := by decide +kernel
theorem dX5_follow_103 : decode cX5_follow 103 = .ok (.aload_n 0, 1) := by decide +kernel
theorem dX5_follow_104 : decode cX5_follow 104 = .ok (.getfield 32, 3) := by decide +kernel
theorem dX5_follow_107 : decode cX5_follow 107 = .ok (.getfield 62, 3) := by decide +kernel
theorem dX5_follow_110 : decode cX5_follow 110 = .ok (.iastore, 1) := by decide +kernel
theorem dX5_follow_111 : decode cX5_follow 111 = .ok (.aload_n 0, 1) := by decide +kernel
theorem dX5_follow_112 : decode cX5_follow 112 = .ok (.getfield 24, 3) := by decide +kernel
theorem dX5_follow_115 : decode cX5_follow 115 = .ok (.iload_n 2, 1) := by decide +kernel
theorem dX5_follow_116 : decode cX5_follow 116 = .ok (.aload_n 0, 1) := by decide +kernel
theorem dX5_follow_117 : decode cX5_follow 117 = .ok (.getfield 32, 3) := by decide +kernel
theorem dX5_follow_120 : decode cX5_follow 120 = .ok (.getfield 65, 3) := by decide +kernel
theorem dX5_follow_123 : decode cX5_follow 123 = .ok (.iastore, 1) := by decide +kernel
theorem dX5_follow_124 : decode cX5_follow 124 = .ok (.iinc 2 1, 3) := by decide +kernel
theorem dX5_follow_127 : decode cX5_follow 127 = .ok (.goto (-100), 3) := by decide +kernel
theorem dX5_follow_130 : decode cX5_follow 130 = .ok (.aload_n 0, 1) := by decide +kernel
theorem dX5_follow_131 : decode cX5_follow 131 = .ok (.getfield 32, 3) := by decide +kernel
theorem dX5_follow_134 : decode cX5_follow 134 = .ok (.invokevirtual 68, 3) := by decide +kernel
theorem dX5_follow_137 : decode cX5_follow 137 = .ok (.return_, 1) := by decide +kernel
set_option maxRecDepth 20000 in
theorem ggX5_lead_X3_standAt : GoodIn wsX5_lead wsX3_standAt := goodIn_r _ [15, 16, 17, 18, 19, 20, 21, 22, 23, 24, 25, 26, 27, 34, 35, 36, 37, 38, 39, 40, 41, 42, 43, 44, 45, 46, 47] (by decide +kernel) (by decide +kernel)
set_option maxRecDepth 20000 in
theorem gX5_lead_X3_standAt : GoodIn wsX5_lead (wsV RX5 45 RX3 yX3_standAt wsX3_standAt) := goodIn_app (goodIn_of _ (by decide +kernel)) ggX5_lead_X3_standAt
theorem dX5_lead_0 : decode cX5_lead 0 = .ok (.aload_n 0, 1) := by decide +kernel
theorem dX5_lead_1 : decode cX5_lead 1 = .ok (.getfield 9, 3) := by decide +kernel
theorem dX5_lead_4 : decode cX5_lead 4 = .ok (.iload_n 2, 1) := by decide +kernel
theorem dX5_lead_5 : decode cX5_lead 5 = .ok (.bipush 8, 2) := by decide +kernel
theorem dX5_lead_7 : decode cX5_lead 7 = .ok (.imul, 1) := by decide +kernel
theorem dX5_lead_8 : decode cX5_lead 8 = .ok (.aload_n 1, 1) := by decide +kernel
theorem dX5_lead_9 : decode cX5_lead 9 = .ok (.getfield 36, 3) := by decide +kernel
theorem dX5_lead_12 : decode cX5_lead 12 = .ok (.iconst 0, 1) := by decide +kernel
theorem dX5_lead_13 : decode cX5_lead 13 = .ok (.bipush 8, 2) := by decide +kernel
theorem dX5_lead_15 : decode cX5_lead 15 = .ok (.invokestatic 39, 3) := by decide +kernel
theorem dX5_lead_18 : decode cX5_lead 18 = .ok (.aload_n 0, 1) := by decide +kernel
theorem dX5_lead_19 : decode cX5_lead 19 = .ok (.getfield 32, 3) := by decide +kernel
theorem dX5_lead_22 : decode cX5_lead 22 = .ok (.getfield 71, 3) := by decide +kernel
theorem dX5_lead_25 : decode cX5_lead 25 = .ok (.iconst 0, 1) := by decide +kernel
theorem dX5_lead_26 : decode cX5_lead 26 = .ok (.aload_n 1, 1) := by decide +kernel
theorem dX5_lead_27 : decode cX5_lead 27 = .ok (.getfield 71, 3) := by decide +kernel
theorem dX5_lead_30 : decode cX5_lead 30 = .ok (.iconst 0, 1) := by decide +kernel
theorem dX5_lead_31 : decode cX5_lead 31 = .ok (.aload_n 0, 1) := by decide +kernel
theorem dX5_lead_32 : decode cX5_lead 32 = .ok (.getfield 18, 3) := by decide +kernel
theorem dX5_lead_35 : decode cX5_lead 35 = .ok (.iload_n 2, 1) := by decide +kernel
theorem dX5_lead_36 : decode cX5_lead 36 = .ok (.iaload, 1) := by decide +kernel
theorem dX5_lead_37 : decode cX5_lead 37 = .ok (.invokestatic 39, 3) := by decide +kernel
theorem dX5_lead_40 : decode cX5_lead 40 = .ok (.aload_n 1, 1) := by decide +kernel
theorem dX5_lead_41 : decode cX5_lead 41 = .ok (.iload_n 2, 1) := by decide +kernel
theorem dX5_lead_42 : decode cX5_lead 42 = .ok (.aload_n 0, 1) := by decide +kernel
theorem dX5_lead_43 : decode cX5_lead 43 = .ok (.getfield 15, 3) := by decide +kernel
theorem dX5_lead_46 : decode cX5_lead 46 = .ok (.iload_n 2, 1) := by decide +kernel
theorem dX5_lead_47 : decode cX5_lead 47 = .ok (.iaload, 1) := by decide +kernel
theorem dX5_lead_48 : decode cX5_lead 48 = .ok (.aload_n 0, 1) := by decide +kernel
theorem dX5_lead_49 : decode cX5_lead 49 = .ok (.getfield 18, 3) := by decide +kernel
theorem dX5_lead_52 : decode cX5_lead 52 = .ok (.iload_n 2, 1) := by decide +kernel
theorem dX5_lead_53 : decode cX5_lead 53 = .ok (.iaload, 1) := by decide +kernel
theorem dX5_lead_54 : decode cX5_lead 54 = .ok (.invokevirtual 45, 3) := by decide +kernel
theorem dX5_lead_57 : decode cX5_lead 57 = .ok (.return_, 1) := by decide +kernel
theorem dX5_nextUse_0 : decode cX5_nextUse 0 = .ok (.iload_n 2, 1) := by decide +kernel
theorem dX5_nextUse_1 : decode cX5_nextUse 1 = .ok (.istore_n 3, 1) := by decide +kernel
