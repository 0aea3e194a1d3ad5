theorem dX0_init_0 : decode cX0_init 0 = .ok (.aload_n 0, 1) := by decide +kernel
theorem dX0_init_1 : decode cX0_init 1 = .ok (.invokespecial 3, 3) := by decide +kernel
theorem dX0_init_4 : decode cX0_init 4 = .ok (.aload_n 0, 1) := by decide +kernel
theorem dX0_init_5 : decode cX0_init 5 = .ok (.bipush 8, 2) := by decide +kernel
theorem dX0_init_7 : decode cX0_init 7 = .ok (.newarray .int, 2) := by decide +kernel
theorem dX0_init_9 : decode cX0_init 9 = .ok (.putfield 9, 3) := by decide +kernel
theorem dX0_init_12 : decode cX0_init 12 = .ok (.aload_n 0, 1) := by decide +kernel
theorem dX0_init_13 : decode cX0_init 13 = .ok (.bipush 32, 2) := by decide +kernel
theorem dX0_init_15 : decode cX0_init 15 = .ok (.newarray .int, 2) := by decide +kernel
theorem dX0_init_17 : decode cX0_init 17 = .ok (.putfield 15, 3) := by decide +kernel
theorem dX0_init_20 : decode cX0_init 20 = .ok (.aload_n 0, 1) := by decide +kernel
theorem dX0_init_21 : decode cX0_init 21 = .ok (.sipush 585, 3) := by decide +kernel
theorem dX0_init_24 : decode cX0_init 24 = .ok (.newarray .int, 2) := by decide +kernel
theorem dX0_init_26 : decode cX0_init 26 = .ok (.putfield 18, 3) := by decide +kernel
theorem dX0_init_29 : decode cX0_init 29 = .ok (.return_, 1) := by decide +kernel
set_option maxRecDepth 20000 in
theorem ggX0_find_X0_tallySilent : GoodIn wsX0_find wsX0_tallySilent := goodIn_r _ [7, 8, 9, 10, 11, 12, 13, 14, 15, 16, 17, 18, 19, 20, 21, 22, 23, 24, 6, 25, 26, 27, 28, 29, 30, 31, 32, 33, 34, 35, 36, 37, 38, 39, 40, 66, 67, 68, 69, 70, 71, 72, 73, 74, 75, 76, 77, 78, 79, 80, 81, 82, 83, 84, 85, 86, 87, 88, 89, 90] (by decide +kernel) (by decide +kernel)
set_option maxRecDepth 20000 in
theorem gX0_find_X0_tallySilent : GoodIn wsX0_find (wsV RX0 21 RX0 yX0_tallySilent wsX0_tallySilent) := goodIn_app (goodIn_of _ (by decide +kernel)) ggX0_find_X0_tallySilent
set_option maxRecDepth 20000 in
theorem ggX0_find_X0_fewestFrom : GoodIn wsX0_find wsX0_fewestFrom := goodIn_r _ [44, 45, 46, 47, 48, 49, 50, 51, 6, 52, 8, 1, 66, 67, 68, 69] (by decide +kernel) (by decide +kernel)
set_option maxRecDepth 20000 in
theorem gX0_find_X0_fewestFrom : GoodIn wsX0_find (wsV RX0 25 RX0 yX0_fewestFrom wsX0_fewestFrom) := goodIn_app (goodIn_of _ (by decide +kernel)) ggX0_find_X0_fewestFrom
set_option maxRecDepth 20000 in
theorem ggX0_find_X0_leastPurse : GoodIn wsX0_find wsX0_leastPurse := goodIn_r _ [56, 1, 66, 67, 68, 69] (by decide +kernel) (by decide +kernel)
set_option maxRecDepth 20000 in
theorem gX0_find_X0_leastPurse : GoodIn wsX0_find (wsV RX0 33 RX0 yX0_leastPurse wsX0_leastPurse) := goodIn_app (goodIn_of _ (by decide +kernel)) ggX0_find_X0_leastPurse
set_option maxRecDepth 20000 in
theorem ggX0_find_X0_pick : GoodIn wsX0_find wsX0_pick := goodIn_r _ [60, 61, 62, 63, 64, 6, 65, 1, 49, 50, 51, 52, 8, 66, 67, 68, 69] (by decide +kernel) (by decide +kernel)
set_option maxRecDepth 20000 in
theorem gX0_find_X0_pick : GoodIn wsX0_find (wsV RX0 37 RX0 yX0_pick wsX0_pick) := goodIn_app (goodIn_of _ (by decide +kernel)) ggX0_find_X0_pick
theorem dX0_find_0 : decode cX0_find 0 = .ok (.aload_n 0, 1) := by decide +kernel
theorem dX0_find_1 : decode cX0_find 1 = .ok (.aload_n 1, 1) := by decide +kernel
theorem dX0_find_2 : decode cX0_find 2 = .ok (.invokevirtual 21, 3) := by decide +kernel
theorem dX0_find_5 : decode cX0_find 5 = .ok (.bipush 7, 2) := by decide +kernel
theorem dX0_find_7 : decode cX0_find 7 = .ok (.istore_n 3, 1) := by decide +kernel
theorem dX0_find_8 : decode cX0_find 8 = .ok (.iload_n 3, 1) := by decide +kernel
theorem dX0_find_9 : decode cX0_find 9 = .ok (.ifCond .lt 43, 3) := by decide +kernel
theorem dX0_find_12 : decode cX0_find 12 = .ok (.iconst 0, 1) := by decide +kernel
theorem dX0_find_13 : decode cX0_find 13 = .ok (.istore 4, 2) := by decide +kernel
theorem dX0_find_15 : decode cX0_find 15 = .ok (.iload 4, 2) := by decide +kernel
theorem dX0_find_17 : decode cX0_find 17 = .ok (.iload_n 2, 1) := by decide +kernel
theorem dX0_find_18 : decode cX0_find 18 = .ok (.if_icmp .gt 28, 3) := by decide +kernel
theorem dX0_find_21 : decode cX0_find 21 = .ok (.aload_n 0, 1) := by decide +kernel
theorem dX0_find_22 : decode cX0_find 22 = .ok (.getfield 18, 3) := by decide +kernel
theorem dX0_find_25 : decode cX0_find 25 = .ok (.iload_n 3, 1) := by decide +kernel
theorem dX0_find_26 : decode cX0_find 26 = .ok (.bipush 65, 2) := by decide +kernel
theorem dX0_find_28 : decode cX0_find 28 = .ok (.imul, 1) := by decide +kernel
theorem dX0_find_29 : decode cX0_find 29 = .ok (.iload 4, 2) := by decide +kernel
theorem dX0_find_31 : decode cX0_find 31 = .ok (.iadd, 1) := by decide +kernel
theorem dX0_find_32 : decode cX0_find 32 = .ok (.aload_n 0, 1) := by decide +kernel
theorem dX0_find_33 : decode cX0_find 33 = .ok (.iload_n 3, 1) := by decide +kernel
theorem dX0_find_34 : decode cX0_find 34 = .ok (.iload 4, 2) := by decide +kernel
theorem dX0_find_36 : decode cX0_find 36 = .ok (.invokevirtual 25, 3) := by decide +kernel
theorem dX0_find_39 : decode cX0_find 39 = .ok (.iastore, 1) := by decide +kernel
theorem dX0_find_40 : decode cX0_find 40 = .ok (.iinc 4 1, 3) := by decide +kernel
theorem dX0_find_43 : decode cX0_find 43 = .ok (.goto (-28), 3) := by decide +kernel
theorem dX0_find_46 : decode cX0_find 46 = .ok (.iinc 3 (-1), 3) := by decide +kernel
theorem dX0_find_49 : decode cX0_find 49 = .ok (.goto (-41), 3) := by decide +kernel
theorem dX0_find_52 : decode cX0_find 52 = .ok (.aload_n 0, 1) := by decide +kernel
theorem dX0_find_53 : decode cX0_find 53 = .ok (.iconst 1, 1) := by decide +kernel
theorem dX0_find_54 : decode cX0_find 54 = .ok (.putfield 29, 3) := by decide +kernel
theorem dX0_find_57 : decode cX0_find 57 = .ok (.aload_n 0, 1) := by decide +kernel
theorem dX0_find_58 : decode cX0_find 58 = .ok (.aload_n 0, 1) := by decide +kernel
theorem dX0_find_59 : decode cX0_find 59 = .ok (.iload_n 2, 1) := by decide +kernel
theorem dX0_find_60 : decode cX0_find 60 = .ok (.invokevirtual 33, 3) := by decide +kernel
theorem dX0_find_63 : decode cX0_find 63 = .ok (.invokevirtual 37, 3) := by decide +kernel
theorem dX0_find_66 : decode cX0_find 66 = .ok (.aload_n 0, 1) := by decide +kernel
theorem dX0_find_67 : decode cX0_find 67 = .ok (.getfield 18, 3) := by decide +kernel
theorem dX0_find_70 : decode cX0_find 70 = .ok (.iload_n 2, 1) := by decide +kernel
theorem dX0_find_71 : decode cX0_find 71 = .ok (.iaload, 1) := by decide +kernel
theorem dX0_find_72 : decode cX0_find 72 = .ok (.ireturn, 1) := by decide +kernel
set_option maxRecDepth 20000 in
theorem ggX0_tallySilent_X2_codes : GoodIn wsX0_tallySilent wsX2_codes := goodIn_r _ [6, 7, 8, 9, 39, 40, 41, 42, 43, 44, 45, 46, 47, 48, 49, 50, 51, 52, 53, 54, 55, 56, 57, 58, 59] (by decide +kernel) (by decide +kernel)
set_option maxRecDepth 20000 in
theorem gX0_tallySilent_X2_codes : GoodIn wsX0_tallySilent (wsV RX0 41 RX2 yX2_codes wsX2_codes) := goodIn_app (goodIn_of _ (by decide +kernel)) ggX0_tallySilent_X2_codes
set_option maxRecDepth 20000 in
theorem ggX0_tallySilent_X2_isFlip : GoodIn wsX0_tallySilent wsX2_isFlip := goodIn_r _ [13, 14, 39, 40, 41, 42, 43] (by decide +kernel) (by decide +kernel)
set_option maxRecDepth 20000 in
theorem gX0_tallySilent_X2_isFlip : GoodIn wsX0_tallySilent (wsV RX0 47 RX2 yX2_isFlip wsX2_isFlip) := goodIn_app (goodIn_of _ (by decide +kernel)) ggX0_tallySilent_X2_isFlip
set_option maxRecDepth 20000 in
theorem ggX0_tallySilent_X0_tallyFlip : GoodIn wsX0_tallySilent wsX0_tallyFlip := goodIn_r _ [19, 1, 20, 21, 22, 5, 23, 24, 14, 25, 26, 27, 28, 29, 30, 31, 32, 33, 34, 35, 36, 37, 38, 39, 40, 41, 42, 43] (by decide +kernel) (by decide +kernel)
set_option maxRecDepth 20000 in
theorem gX0_tallySilent_X0_tallyFlip : GoodIn wsX0_tallySilent (wsV RX0 51 RX0 yX0_tallyFlip wsX0_tallyFlip) := goodIn_app (goodIn_of _ (by decide +kernel)) ggX0_tallySilent_X0_tallyFlip
theorem dX0_tallySilent_0 : decode cX0_tallySilent 0 = .ok (.iconst 0, 1) := by decide +kernel
theorem dX0_tallySilent_1 : decode cX0_tallySilent 1 = .ok (.istore_n 2, 1) := by decide +kernel
theorem dX0_tallySilent_2 : decode cX0_tallySilent 2 = .ok (.iload_n 2, 1) := by decide +kernel
theorem dX0_tallySilent_3 : decode cX0_tallySilent 3 = .ok (.bipush 32, 2) := by decide +kernel
theorem dX0_tallySilent_5 : decode cX0_tallySilent 5 = .ok (.if_icmp .ge 16, 3) := by decide +kernel
theorem dX0_tallySilent_8 : decode cX0_tallySilent 8 = .ok (.aload_n 0, 1) := by decide +kernel
theorem dX0_tallySilent_9 : decode cX0_tallySilent 9 = .ok (.getfield 15, 3) := by decide +kernel
theorem dX0_tallySilent_12 : decode cX0_tallySilent 12 = .ok (.iload_n 2, 1) := by decide +kernel
theorem dX0_tallySilent_13 : decode cX0_tallySilent 13 = .ok (.iconst 0, 1) := by decide +kernel
theorem dX0_tallySilent_14 : decode cX0_tallySilent 14 = .ok (.iastore, 1) := by decide +kernel
theorem dX0_tallySilent_15 : decode cX0_tallySilent 15 = .ok (.iinc 2 1, 3) := by decide +kernel
theorem dX0_tallySilent_18 : decode cX0_tallySilent 18 = .ok (.goto (-16), 3) := by decide +kernel
theorem dX0_tallySilent_21 : decode cX0_tallySilent 21 = .ok (.iconst 0, 1) := by decide +kernel
theorem dX0_tallySilent_22 : decode cX0_tallySilent 22 = .ok (.istore_n 2, 1) := by decide +kernel
theorem dX0_tallySilent_23 : decode cX0_tallySilent 23 = .ok (.iload_n 2, 1) := by decide +kernel
theorem dX0_tallySilent_24 : decode cX0_tallySilent 24 = .ok (.aload_n 1, 1) := by decide +kernel
theorem dX0_tallySilent_25 : decode cX0_tallySilent 25 = .ok (.invokevirtual 41, 3) := by decide +kernel
theorem dX0_tallySilent_28 : decode cX0_tallySilent 28 = .ok (.if_icmp .ge 23, 3) := by decide +kernel
theorem dX0_tallySilent_31 : decode cX0_tallySilent 31 = .ok (.aload_n 1, 1) := by decide +kernel
theorem dX0_tallySilent_32 : decode cX0_tallySilent 32 = .ok (.iload_n 2, 1) := by decide +kernel
theorem dX0_tallySilent_33 : decode cX0_tallySilent 33 = .ok (.invokevirtual 47, 3) := by decide +kernel
theorem dX0_tallySilent_36 : decode cX0_tallySilent 36 = .ok (.ifCond .eq 9, 3) := by decide +kernel
theorem dX0_tallySilent_39 : decode cX0_tallySilent 39 = .ok (.aload_n 0, 1) := by decide +kernel
theorem dX0_tallySilent_40 : decode cX0_tallySilent 40 = .ok (.aload_n 1, 1) := by decide +kernel
theorem dX0_tallySilent_41 : decode cX0_tallySilent 41 = .ok (.iload_n 2, 1) := by decide +kernel
theorem dX0_tallySilent_42 : decode cX0_tallySilent 42 = .ok (.invokevirtual 51, 3) := by decide +kernel
theorem dX0_tallySilent_45 : decode cX0_tallySilent 45 = .ok (.iinc 2 1, 3) := by decide +kernel
theorem dX0_tallySilent_48 : decode cX0_tallySilent 48 = .ok (.goto (-25), 3) := by decide +kernel
theorem dX0_tallySilent_51 : decode cX0_tallySilent 51 = .ok (.return_, 1) := by decide +kernel
set_option maxRecDepth 20000 in
theorem ggX0_tallyFlip_X2_isSilentUnder : GoodIn wsX0_tallyFlip wsX2_isSilentUnder := goodIn_r _ [6, 7, 8, 9, 10, 11, 12, 13, 14, 15, 23, 24, 25, 26, 27] (by decide +kernel) (by decide +kernel)
set_option maxRecDepth 20000 in
theorem gX0_tallyFlip_X2_isSilentUnder : GoodIn wsX0_tallyFlip (wsV RX0 55 RX2 yX2_isSilentUnder wsX2_isSilentUnder) := goodIn_app (goodIn_of _ (by decide +kernel)) ggX0_tallyFlip_X2_isSilentUnder
set_option maxRecDepth 20000 in
theorem ggX0_tallyFlip_X2_cellOf : GoodIn wsX0_tallyFlip wsX2_cellOf := goodIn_r _ [18] (by decide +kernel) (by decide +kernel)
set_option maxRecDepth 20000 in
theorem gX0_tallyFlip_X2_cellOf : GoodIn wsX0_tallyFlip (va_wsS RX0 59 yX2_cellOf wsX2_cellOf) := goodIn_app (goodIn_of _ (by decide +kernel)) ggX0_tallyFlip_X2_cellOf
theorem dX0_tallyFlip_0 : decode cX0_tallyFlip 0 = .ok (.iconst 0, 1) := by decide +kernel
theorem dX0_tallyFlip_1 : decode cX0_tallyFlip 1 = .ok (.istore_n 3, 1) := by decide +kernel
theorem dX0_tallyFlip_2 : decode cX0_tallyFlip 2 = .ok (.iload_n 3, 1) := by decide +kernel
theorem dX0_tallyFlip_3 : decode cX0_tallyFlip 3 = .ok (.iconst 4, 1) := by decide +kernel
theorem dX0_tallyFlip_4 : decode cX0_tallyFlip 4 = .ok (.if_icmp .ge 35, 3) := by decide +kernel
theorem dX0_tallyFlip_7 : decode cX0_tallyFlip 7 = .ok (.aload_n 1, 1) := by decide +kernel
theorem dX0_tallyFlip_8 : decode cX0_tallyFlip 8 = .ok (.iload_n 2, 1) := by decide +kernel
theorem dX0_tallyFlip_9 : decode cX0_tallyFlip 9 = .ok (.iload_n 3, 1) := by decide +kernel
theorem dX0_tallyFlip_10 : decode cX0_tallyFlip 10 = .ok (.invokevirtual 55, 3) := by decide +kernel
theorem dX0_tallyFlip_13 : decode cX0_tallyFlip 13 = .ok (.ifCond .eq 20, 3) := by decide +kernel
theorem dX0_tallyFlip_16 : decode cX0_tallyFlip 16 = .ok (.aload_n 0, 1) := by decide +kernel
theorem dX0_tallyFlip_17 : decode cX0_tallyFlip 17 = .ok (.getfield 15, 3) := by decide +kernel
theorem dX0_tallyFlip_20 : decode cX0_tallyFlip 20 = .ok (.iload_n 2, 1) := by decide +kernel
theorem dX0_tallyFlip_21 : decode cX0_tallyFlip 21 = .ok (.invokestatic 59, 3) := by decide +kernel
theorem dX0_tallyFlip_24 : decode cX0_tallyFlip 24 = .ok (.iconst 4, 1) := by decide +kernel
theorem dX0_tallyFlip_25 : decode cX0_tallyFlip 25 = .ok (.imul, 1) := by decide +kernel
theorem dX0_tallyFlip_26 : decode cX0_tallyFlip 26 = .ok (.iload_n 3, 1) := by decide +kernel
theorem dX0_tallyFlip_27 : decode cX0_tallyFlip 27 = .ok (.iadd, 1) := by decide +kernel
theorem dX0_tallyFlip_28 : decode cX0_tallyFlip 28 = .ok (.dup2, 1) := by decide +kernel
theorem dX0_tallyFlip_29 : decode cX0_tallyFlip 29 = .ok (.iaload, 1) := by decide +kernel
theorem dX0_tallyFlip_30 : decode cX0_tallyFlip 30 = .ok (.iconst 1, 1) := by decide +kernel
theorem dX0_tallyFlip_31 : decode cX0_tallyFlip 31 = .ok (.iadd, 1) := by decide +kernel
theorem dX0_tallyFlip_32 : decode cX0_tallyFlip 32 = .ok (.iastore, 1) := by decide +kernel
theorem dX0_tallyFlip_33 : decode cX0_tallyFlip 33 = .ok (.iinc 3 1, 3) := by decide +kernel
theorem dX0_tallyFlip_36 : decode cX0_tallyFlip 36 = .ok (.goto (-34), 3) := by decide +kernel
theorem dX0_tallyFlip_39 : decode cX0_tallyFlip 39 = .ok (.return_, 1) := by decide +kernel
set_option maxRecDepth 20000 in
theorem ggX0_fewestFrom_X0_fewestWith : GoodIn wsX0_fewestFrom wsX0_fewestWith := goodIn_r _ [9, 10, 11, 12, 13, 14, 15] (by decide +kernel) (by decide +kernel)
set_option maxRecDepth 20000 in
theorem gX0_fewestFrom_X0_fewestWith : GoodIn wsX0_fewestFrom (wsV RX0 62 RX0 yX0_fewestWith wsX0_fewestWith) := goodIn_app (goodIn_of _ (by decide +kernel)) ggX0_fewestFrom_X0_fewestWith
theorem dX0_fewestFrom_0 : decode cX0_fewestFrom 0 = .ok (.aload_n 0, 1) := by decide +kernel
theorem dX0_fewestFrom_1 : decode cX0_fewestFrom 1 = .ok (.iload_n 1, 1) := by decide +kernel
theorem dX0_fewestFrom_2 : decode cX0_fewestFrom 2 = .ok (.iload_n 2, 1) := by decide +kernel
theorem dX0_fewestFrom_3 : decode cX0_fewestFrom 3 = .ok (.iconst 0, 1) := by decide +kernel
theorem dX0_fewestFrom_4 : decode cX0_fewestFrom 4 = .ok (.invokevirtual 62, 3) := by decide +kernel
theorem dX0_fewestFrom_7 : decode cX0_fewestFrom 7 = .ok (.istore_n 3, 1) := by decide +kernel
theorem dX0_fewestFrom_8 : decode cX0_fewestFrom 8 = .ok (.iconst 1, 1) := by decide +kernel
theorem dX0_fewestFrom_9 : decode cX0_fewestFrom 9 = .ok (.istore 4, 2) := by decide +kernel
theorem dX0_fewestFrom_11 : decode cX0_fewestFrom 11 = .ok (.iload 4, 2) := by decide +kernel
theorem dX0_fewestFrom_13 : decode cX0_fewestFrom 13 = .ok (.iconst 4, 1) := by decide +kernel
theorem dX0_fewestFrom_14 : decode cX0_fewestFrom 14 = .ok (.if_icmp .ge 32, 3) := by decide +kernel
theorem dX0_fewestFrom_17 : decode cX0_fewestFrom 17 = .ok (.getstatic 66, 3) := by decide +kernel
theorem dX0_fewestFrom_20 : decode cX0_fewestFrom 20 = .ok (.iload 4, 2) := by decide +kernel
theorem dX0_fewestFrom_22 : decode cX0_fewestFrom 22 = .ok (.iaload, 1) := by decide +kernel
theorem dX0_fewestFrom_23 : decode cX0_fewestFrom 23 = .ok (.iload_n 2, 1) := by decide +kernel
theorem dX0_fewestFrom_24 : decode cX0_fewestFrom 24 = .ok (.if_icmp .gt 16, 3) := by decide +kernel
theorem dX0_fewestFrom_27 : decode cX0_fewestFrom 27 = .ok (.iload_n 3, 1) := by decide +kernel
theorem dX0_fewestFrom_28 : decode cX0_fewestFrom 28 = .ok (.aload_n 0, 1) := by decide +kernel
theorem dX0_fewestFrom_29 : decode cX0_fewestFrom 29 = .ok (.iload_n 1, 1) := by decide +kernel
theorem dX0_fewestFrom_30 : decode cX0_fewestFrom 30 = .ok (.iload_n 2, 1) := by decide +kernel
theorem dX0_fewestFrom_31 : decode cX0_fewestFrom 31 = .ok (.iload 4, 2) := by decide +kernel
theorem dX0_fewestFrom_33 : decode cX0_fewestFrom 33 = .ok (.invokevirtual 62, 3) := by decide +kernel
theorem dX0_fewestFrom_36 : decode cX0_fewestFrom 36 = .ok (.invokestatic 69, 3) := by decide +kernel
theorem dX0_fewestFrom_39 : decode cX0_fewestFrom 39 = .ok (.istore_n 3, 1) := by decide +kernel
theorem dX0_fewestFrom_40 : decode cX0_fewestFrom 40 = .ok (.iinc 4 1, 3) := by decide +kernel
theorem dX0_fewestFrom_43 : decode cX0_fewestFrom 43 = .ok (.goto (-32), 3) := by decide +kernel
theorem dX0_fewestFrom_46 : decode cX0_fewestFrom 46 = .ok (.iload_n 3, 1) := by decide +kernel
theorem dX0_fewestFrom_47 : decode cX0_fewestFrom 47 = .ok (.ireturn, 1) := by decide +kernel
theorem dX0_fewestWith_0 : decode cX0_fewestWith 0 = .ok (.aload_n 0, 1) := by decide +kernel
theorem dX0_fewestWith_1 : decode cX0_fewestWith 1 = .ok (.getfield 15, 3) := by decide +kernel
theorem dX0_fewestWith_4 : decode cX0_fewestWith 4 = .ok (.iload_n 1, 1) := by decide +kernel
theorem dX0_fewestWith_5 : decode cX0_fewestWith 5 = .ok (.iconst 4, 1) := by decide +kernel
theorem dX0_fewestWith_6 : decode cX0_fewestWith 6 = .ok (.imul, 1) := by decide +kernel
theorem dX0_fewestWith_7 : decode cX0_fewestWith 7 = .ok (.iload_n 3, 1) := by decide +kernel
theorem dX0_fewestWith_8 : decode cX0_fewestWith 8 = .ok (.iadd, 1) := by decide +kernel
theorem dX0_fewestWith_9 : decode cX0_fewestWith 9 = .ok (.iaload, 1) := by decide +kernel
theorem dX0_fewestWith_10 : decode cX0_fewestWith 10 = .ok (.aload_n 0, 1) := by decide +kernel
theorem dX0_fewestWith_11 : decode cX0_fewestWith 11 = .ok (.getfield 18, 3) := by decide +kernel
theorem dX0_fewestWith_14 : decode cX0_fewestWith 14 = .ok (.iload_n 1, 1) := by decide +kernel
theorem dX0_fewestWith_15 : decode cX0_fewestWith 15 = .ok (.iconst 1, 1) := by decide +kernel
theorem dX0_fewestWith_16 : decode cX0_fewestWith 16 = .ok (.iadd, 1) := by decide +kernel
theorem dX0_fewestWith_17 : decode cX0_fewestWith 17 = .ok (.bipush 65, 2) := by decide +kernel
theorem dX0_fewestWith_19 : decode cX0_fewestWith 19 = .ok (.imul, 1) := by decide +kernel
theorem dX0_fewestWith_20 : decode cX0_fewestWith 20 = .ok (.iload_n 2, 1) := by decide +kernel
theorem dX0_fewestWith_21 : decode cX0_fewestWith 21 = .ok (.iadd, 1) := by decide +kernel
theorem dX0_fewestWith_22 : decode cX0_fewestWith 22 = .ok (.getstatic 66, 3) := by decide +kernel
theorem dX0_fewestWith_25 : decode cX0_fewestWith 25 = .ok (.iload_n 3, 1) := by decide +kernel
theorem dX0_fewestWith_26 : decode cX0_fewestWith 26 = .ok (.iaload, 1) := by decide +kernel
theorem dX0_fewestWith_27 : decode cX0_fewestWith 27 = .ok (.isub, 1) := by decide +kernel
theorem dX0_fewestWith_28 : decode cX0_fewestWith 28 = .ok (.iaload, 1) := by decide +kernel
theorem dX0_fewestWith_29 : decode cX0_fewestWith 29 = .ok (.iadd, 1) := by decide +kernel
theorem dX0_fewestWith_30 : decode cX0_fewestWith 30 = .ok (.ireturn, 1) := by decide +kernel
theorem dX0_leastPurse_0 : decode cX0_leastPurse 0 = .ok (.iload_n 1, 1) := by decide +kernel
theorem dX0_leastPurse_1 : decode cX0_leastPurse 1 = .ok (.istore_n 2, 1) := by decide +kernel
theorem dX0_leastPurse_2 : decode cX0_leastPurse 2 = .ok (.iload_n 2, 1) := by decide +kernel
theorem dX0_leastPurse_3 : decode cX0_leastPurse 3 = .ok (.ifCond .le 26, 3) := by decide +kernel
theorem dX0_leastPurse_6 : decode cX0_leastPurse 6 = .ok (.aload_n 0, 1) := by decide +kernel
theorem dX0_leastPurse_7 : decode cX0_leastPurse 7 = .ok (.getfield 18, 3) := by decide +kernel
theorem dX0_leastPurse_10 : decode cX0_leastPurse 10 = .ok (.iload_n 2, 1) := by decide +kernel
theorem dX0_leastPurse_11 : decode cX0_leastPurse 11 = .ok (.iconst 1, 1) := by decide +kernel
theorem dX0_leastPurse_12 : decode cX0_leastPurse 12 = .ok (.isub, 1) := by decide +kernel
theorem dX0_leastPurse_13 : decode cX0_leastPurse 13 = .ok (.iaload, 1) := by decide +kernel
theorem dX0_leastPurse_14 : decode cX0_leastPurse 14 = .ok (.aload_n 0, 1) := by decide +kernel
theorem dX0_leastPurse_15 : decode cX0_leastPurse 15 = .ok (.getfield 18, 3) := by decide +kernel
theorem dX0_leastPurse_18 : decode cX0_leastPurse 18 = .ok (.iload_n 1, 1) := by decide +kernel
theorem dX0_leastPurse_19 : decode cX0_leastPurse 19 = .ok (.iaload, 1) := by decide +kernel
theorem dX0_leastPurse_20 : decode cX0_leastPurse 20 = .ok (.if_icmp .ne 9, 3) := by decide +kernel
theorem dX0_leastPurse_23 : decode cX0_leastPurse 23 = .ok (.iinc 2 (-1), 3) := by decide +kernel
theorem dX0_leastPurse_26 : decode cX0_leastPurse 26 = .ok (.goto (-24), 3) := by decide +kernel
theorem dX0_leastPurse_29 : decode cX0_leastPurse 29 = .ok (.iload_n 2, 1) := by decide +kernel
theorem dX0_leastPurse_30 : decode cX0_leastPurse 30 = .ok (.ireturn, 1) := by decide +kernel
set_option maxRecDepth 20000 in
theorem ggX0_pick_X0_leastCheck : GoodIn wsX0_pick wsX0_leastCheck := goodIn_r _ [6, 7, 8, 9, 10, 5, 11, 12, 13, 14, 15, 16] (by decide +kernel) (by decide +kernel)
set_option maxRecDepth 20000 in
theorem gX0_pick_X0_leastCheck : GoodIn wsX0_pick (wsV RX0 74 RX0 yX0_leastCheck wsX0_leastCheck) := goodIn_app (goodIn_of _ (by decide +kernel)) ggX0_pick_X0_leastCheck
theorem dX0_pick_0 : decode cX0_pick 0 = .ok (.iload_n 1, 1) := by decide +kernel
theorem dX0_pick_1 : decode cX0_pick 1 = .ok (.istore_n 2, 1) := by decide +kernel
theorem dX0_pick_2 : decode cX0_pick 2 = .ok (.iconst 0, 1) := by decide +kernel
theorem dX0_pick_3 : decode cX0_pick 3 = .ok (.istore_n 3, 1) := by decide +kernel
theorem dX0_pick_4 : decode cX0_pick 4 = .ok (.iload_n 3, 1) := by decide +kernel
theorem dX0_pick_5 : decode cX0_pick 5 = .ok (.bipush 8, 2) := by decide +kernel
theorem dX0_pick_7 : decode cX0_pick 7 = .ok (.if_icmp .ge 34, 3) := by decide +kernel
theorem dX0_pick_10 : decode cX0_pick 10 = .ok (.aload_n 0, 1) := by decide +kernel
theorem dX0_pick_11 : decode cX0_pick 11 = .ok (.iload_n 3, 1) := by decide +kernel
theorem dX0_pick_12 : decode cX0_pick 12 = .ok (.iload_n 2, 1) := by decide +kernel
theorem dX0_pick_13 : decode cX0_pick 13 = .ok (.invokevirtual 74, 3) := by decide +kernel
theorem dX0_pick_16 : decode cX0_pick 16 = .ok (.istore 4, 2) := by decide +kernel
theorem dX0_pick_18 : decode cX0_pick 18 = .ok (.aload_n 0, 1) := by decide +kernel
theorem dX0_pick_19 : decode cX0_pick 19 = .ok (.getfield 9, 3) := by decide +kernel
theorem dX0_pick_22 : decode cX0_pick 22 = .ok (.iload_n 3, 1) := by decide +kernel
theorem dX0_pick_23 : decode cX0_pick 23 = .ok (.iload 4, 2) := by decide +kernel
theorem dX0_pick_25 : decode cX0_pick 25 = .ok (.iastore, 1) := by decide +kernel
theorem dX0_pick_26 : decode cX0_pick 26 = .ok (.iload_n 2, 1) := by decide +kernel
theorem dX0_pick_27 : decode cX0_pick 27 = .ok (.getstatic 66, 3) := by decide +kernel
theorem dX0_pick_30 : decode cX0_pick 30 = .ok (.iload 4, 2) := by decide +kernel
theorem dX0_pick_32 : decode cX0_pick 32 = .ok (.iaload, 1) := by decide +kernel
theorem dX0_pick_33 : decode cX0_pick 33 = .ok (.isub, 1) := by decide +kernel
theorem dX0_pick_34 : decode cX0_pick 34 = .ok (.istore_n 2, 1) := by decide +kernel
theorem dX0_pick_35 : decode cX0_pick 35 = .ok (.iinc 3 1, 3) := by decide +kernel
theorem dX0_pick_38 : decode cX0_pick 38 = .ok (.goto (-34), 3) := by decide +kernel
theorem dX0_pick_41 : decode cX0_pick 41 = .ok (.return_, 1) := by decide +kernel
set_option maxRecDepth 20000 in
theorem ggX0_leastCheck_X0_fewestWith : GoodIn wsX0_leastCheck wsX0_fewestWith := goodIn_r _ [6, 7, 1, 8, 9, 10, 11] (by decide +kernel) (by decide +kernel)
set_option maxRecDepth 20000 in
theorem gX0_leastCheck_X0_fewestWith : GoodIn wsX0_leastCheck (wsV RX0 62 RX0 yX0_fewestWith wsX0_fewestWith) := goodIn_app (goodIn_of _ (by decide +kernel)) ggX0_leastCheck_X0_fewestWith
theorem dX0_leastCheck_0 : decode cX0_leastCheck 0 = .ok (.iconst 0, 1) := by decide +kernel
theorem dX0_leastCheck_1 : decode cX0_leastCheck 1 = .ok (.istore_n 3, 1) := by decide +kernel
theorem dX0_leastCheck_2 : decode cX0_leastCheck 2 = .ok (.iload_n 3, 1) := by decide +kernel
theorem dX0_leastCheck_3 : decode cX0_leastCheck 3 = .ok (.iconst 4, 1) := by decide +kernel
theorem dX0_leastCheck_4 : decode cX0_leastCheck 4 = .ok (.if_icmp .ge 41, 3) := by decide +kernel
theorem dX0_leastCheck_7 : decode cX0_leastCheck 7 = .ok (.getstatic 66, 3) := by decide +kernel
theorem dX0_leastCheck_10 : decode cX0_leastCheck 10 = .ok (.iload_n 3, 1) := by decide +kernel
theorem dX0_leastCheck_11 : decode cX0_leastCheck 11 = .ok (.iaload, 1) := by decide +kernel
theorem dX0_leastCheck_12 : decode cX0_leastCheck 12 = .ok (.iload_n 2, 1) := by decide +kernel
theorem dX0_leastCheck_13 : decode cX0_leastCheck 13 = .ok (.if_icmp .gt 26, 3) := by decide +kernel
theorem dX0_leastCheck_16 : decode cX0_leastCheck 16 = .ok (.aload_n 0, 1) := by decide +kernel
theorem dX0_leastCheck_17 : decode cX0_leastCheck 17 = .ok (.iload_n 1, 1) := by decide +kernel
theorem dX0_leastCheck_18 : decode cX0_leastCheck 18 = .ok (.iload_n 2, 1) := by decide +kernel
theorem dX0_leastCheck_19 : decode cX0_leastCheck 19 = .ok (.iload_n 3, 1) := by decide +kernel
theorem dX0_leastCheck_20 : decode cX0_leastCheck 20 = .ok (.invokevirtual 62, 3) := by decide +kernel
theorem dX0_leastCheck_23 : decode cX0_leastCheck 23 = .ok (.aload_n 0, 1) := by decide +kernel
theorem dX0_leastCheck_24 : decode cX0_leastCheck 24 = .ok (.getfield 18, 3) := by decide +kernel
theorem dX0_leastCheck_27 : decode cX0_leastCheck 27 = .ok (.iload_n 1, 1) := by decide +kernel
theorem dX0_leastCheck_28 : decode cX0_leastCheck 28 = .ok (.bipush 65, 2) := by decide +kernel
theorem dX0_leastCheck_30 : decode cX0_leastCheck 30 = .ok (.imul, 1) := by decide +kernel
theorem dX0_leastCheck_31 : decode cX0_leastCheck 31 = .ok (.iload_n 2, 1) := by decide +kernel
theorem dX0_leastCheck_32 : decode cX0_leastCheck 32 = .ok (.iadd, 1) := by decide +kernel
theorem dX0_leastCheck_33 : decode cX0_leastCheck 33 = .ok (.iaload, 1) := by decide +kernel
theorem dX0_leastCheck_34 : decode cX0_leastCheck 34 = .ok (.if_icmp .ne 5, 3) := by decide +kernel
theorem dX0_leastCheck_37 : decode cX0_leastCheck 37 = .ok (.iload_n 3, 1) := by decide +kernel
theorem dX0_leastCheck_38 : decode cX0_leastCheck 38 = .ok (.ireturn, 1) := by decide +kernel
theorem dX0_leastCheck_39 : decode cX0_leastCheck 39 = .ok (.iinc 3 1, 3) := by decide +kernel
theorem dX0_leastCheck_42 : decode cX0_leastCheck 42 = .ok (.goto (-40), 3) := by decide +kernel
theorem dX0_leastCheck_45 : decode cX0_leastCheck 45 = .ok (.iconst 0, 1) := by decide +kernel
theorem dX0_leastCheck_46 : decode cX0_leastCheck 46 = .ok (.ireturn, 1) := by decide +kernel
theorem dX1_of_0 : decode cX1_of 0 = .ok (.iload_n 0, 1) := by decide +kernel
theorem dX1_of_1 : decode cX1_of 1 = .ok (.iload_n 1, 1) := by decide +kernel
theorem dX1_of_2 : decode cX1_of 2 = .ok (.ifCond .eq 8, 3) := by decide +kernel
theorem dX1_of_5 : decode cX1_of 5 = .ok (.bipush 8, 2) := by decide +kernel
theorem dX1_of_7 : decode cX1_of 7 = .ok (.goto 4, 3) := by decide +kernel
theorem dX1_of_10 : decode cX1_of 10 = .ok (.iconst 0, 1) := by decide +kernel
theorem dX1_of_11 : decode cX1_of 11 = .ok (.ior, 1) := by decide +kernel
theorem dX1_of_12 : decode cX1_of 12 = .ok (.iload_n 2, 1) := by decide +kernel
theorem dX1_of_13 : decode cX1_of 13 = .ok (.iconst 4, 1) := by decide +kernel
theorem dX1_of_14 : decode cX1_of 14 = .ok (.ishl, 1) := by decide +kernel
theorem dX1_of_15 : decode cX1_of 15 = .ok (.ior, 1) := by decide +kernel
theorem dX1_of_16 : decode cX1_of 16 = .ok (.iload_n 3, 1) := by decide +kernel
theorem dX1_of_17 : decode cX1_of 17 = .ok (.bipush 8, 2) := by decide +kernel
theorem dX1_of_19 : decode cX1_of 19 = .ok (.ishl, 1) := by decide +kernel
theorem dX1_of_20 : decode cX1_of 20 = .ok (.ior, 1) := by decide +kernel
theorem dX1_of_21 : decode cX1_of 21 = .ok (.ireturn, 1) := by decide +kernel
theorem dX1_ticksOf_0 : decode cX1_ticksOf 0 = .ok (.iload_n 0, 1) := by decide +kernel
theorem dX1_ticksOf_1 : decode cX1_ticksOf 1 = .ok (.bipush 8, 2) := by decide +kernel
theorem dX1_ticksOf_3 : decode cX1_ticksOf 3 = .ok (.ishr, 1) := by decide +kernel
theorem dX1_ticksOf_4 : decode cX1_ticksOf 4 = .ok (.ireturn, 1) := by decide +kernel
theorem dX1_isCaughtReading_0 : decode cX1_isCaughtReading 0 = .ok (.iload_n 1, 1) := by decide +kernel
theorem dX1_isCaughtReading_1 : decode cX1_isCaughtReading 1 = .ok (.iconst 2, 1) := by decide +kernel
theorem dX1_isCaughtReading_2 : decode cX1_isCaughtReading 2 = .ok (.if_icmp .eq 13, 3) := by decide +kernel
theorem dX1_isCaughtReading_5 : decode cX1_isCaughtReading 5 = .ok (.iload_n 1, 1) := by decide +kernel
theorem dX1_isCaughtReading_6 : decode cX1_isCaughtReading 6 = .ok (.iconst 1, 1) := by decide +kernel
theorem dX1_isCaughtReading_7 : decode cX1_isCaughtReading 7 = .ok (.if_icmp .ne 12, 3) := by decide +kernel
theorem dX1_isCaughtReading_10 : decode cX1_isCaughtReading 10 = .ok (.iload_n 2, 1) := by decide +kernel
theorem dX1_isCaughtReading_11 : decode cX1_isCaughtReading 11 = .ok (.iconst 1, 1) := by decide +kernel
theorem dX1_isCaughtReading_12 : decode cX1_isCaughtReading 12 = .ok (.if_icmp .ne 7, 3) := by decide +kernel
theorem dX1_isCaughtReading_15 : decode cX1_isCaughtReading 15 = .ok (.iconst 1, 1) := by decide +kernel
theorem dX1_isCaughtReading_16 : decode cX1_isCaughtReading 16 = .ok (.goto 4, 3) := by decide +kernel
theorem dX1_isCaughtReading_19 : decode cX1_isCaughtReading 19 = .ok (.iconst 0, 1) := by decide +kernel
theorem dX1_isCaughtReading_20 : decode cX1_isCaughtReading 20 = .ok (.istore_n 3, 1) := by decide +kernel
theorem dX1_isCaughtReading_21 : decode cX1_isCaughtReading 21 = .ok (.iload_n 3, 1) := by decide +kernel
theorem dX1_isCaughtReading_22 : decode cX1_isCaughtReading 22 = .ok (.ifCond .eq 14, 3) := by decide +kernel
theorem dX1_isCaughtReading_25 : decode cX1_isCaughtReading 25 = .ok (.iload_n 0, 1) := by decide +kernel
theorem dX1_isCaughtReading_26 : decode cX1_isCaughtReading 26 = .ok (.bipush 7, 2) := by decide +kernel
theorem dX1_isCaughtReading_28 : decode cX1_isCaughtReading 28 = .ok (.iand, 1) := by decide +kernel
theorem dX1_isCaughtReading_29 : decode cX1_isCaughtReading 29 = .ok (.ifCond .eq 7, 3) := by decide +kernel
theorem dX1_isCaughtReading_32 : decode cX1_isCaughtReading 32 = .ok (.iconst 1, 1) := by decide +kernel
theorem dX1_isCaughtReading_33 : decode cX1_isCaughtReading 33 = .ok (.goto 4, 3) := by decide +kernel
theorem dX1_isCaughtReading_36 : decode cX1_isCaughtReading 36 = .ok (.iconst 0, 1) := by decide +kernel
theorem dX1_isCaughtReading_37 : decode cX1_isCaughtReading 37 = .ok (.ireturn, 1) := by decide +kernel
set_option maxRecDepth 20000 in
theorem ggX1_kindUnder_X1_isCaughtReading : GoodIn wsX1_kindUnder wsX1_isCaughtReading := goodIn_r _ [4] (by decide +kernel) (by decide +kernel)
set_option maxRecDepth 20000 in
theorem gX1_kindUnder_X1_isCaughtReading : GoodIn wsX1_kindUnder (va_wsS RX1 11 yX1_isCaughtReading wsX1_isCaughtReading) := goodIn_app (goodIn_of _ (by decide +kernel)) ggX1_kindUnder_X1_isCaughtReading
theorem dX1_kindUnder_0 : decode cX1_kindUnder 0 = .ok (.iload_n 1, 1) := by decide +kernel
theorem dX1_kindUnder_1 : decode cX1_kindUnder 1 = .ok (.iconst 3, 1) := by decide +kernel
theorem dX1_kindUnder_2 : decode cX1_kindUnder 2 = .ok (.if_icmp .ne 14, 3) := by decide +kernel
theorem dX1_kindUnder_5 : decode cX1_kindUnder 5 = .ok (.iload_n 0, 1) := by decide +kernel
theorem dX1_kindUnder_6 : decode cX1_kindUnder 6 = .ok (.bipush 8, 2) := by decide +kernel
theorem dX1_kindUnder_8 : decode cX1_kindUnder 8 = .ok (.iand, 1) := by decide +kernel
theorem dX1_kindUnder_9 : decode cX1_kindUnder 9 = .ok (.ifCond .eq 7, 3) := by decide +kernel
theorem dX1_kindUnder_12 : decode cX1_kindUnder 12 = .ok (.iconst 1, 1) := by decide +kernel
theorem dX1_kindUnder_13 : decode cX1_kindUnder 13 = .ok (.goto 4, 3) := by decide +kernel
theorem dX1_kindUnder_16 : decode cX1_kindUnder 16 = .ok (.iconst 0, 1) := by decide +kernel
theorem dX1_kindUnder_17 : decode cX1_kindUnder 17 = .ok (.istore_n 3, 1) := by decide +kernel
theorem dX1_kindUnder_18 : decode cX1_kindUnder 18 = .ok (.iload_n 3, 1) := by decide +kernel
theorem dX1_kindUnder_19 : decode cX1_kindUnder 19 = .ok (.ifCond .ne 12, 3) := by decide +kernel
theorem dX1_kindUnder_22 : decode cX1_kindUnder 22 = .ok (.iload_n 0, 1) := by decide +kernel
theorem dX1_kindUnder_23 : decode cX1_kindUnder 23 = .ok (.iload_n 1, 1) := by decide +kernel
theorem dX1_kindUnder_24 : decode cX1_kindUnder 24 = .ok (.iload_n 2, 1) := by decide +kernel
theorem dX1_kindUnder_25 : decode cX1_kindUnder 25 = .ok (.invokestatic 11, 3) := by decide +kernel
theorem dX1_kindUnder_28 : decode cX1_kindUnder 28 = .ok (.ifCond .eq 5, 3) := by decide +kernel
theorem dX1_kindUnder_31 : decode cX1_kindUnder 31 = .ok (.iconst 2, 1) := by decide +kernel
theorem dX1_kindUnder_32 : decode cX1_kindUnder 32 = .ok (.ireturn, 1) := by decide +kernel
theorem dX1_kindUnder_33 : decode cX1_kindUnder 33 = .ok (.iload_n 0, 1) := by decide +kernel
theorem dX1_kindUnder_34 : decode cX1_kindUnder 34 = .ok (.bipush 7, 2) := by decide +kernel
theorem dX1_kindUnder_36 : decode cX1_kindUnder 36 = .ok (.iand, 1) := by decide +kernel
theorem dX1_kindUnder_37 : decode cX1_kindUnder 37 = .ok (.ireturn, 1) := by decide +kernel
set_option maxRecDepth 20000 in
theorem ggX1_harmUnder_X1_kindUnder : GoodIn wsX1_harmUnder wsX1_kindUnder := goodIn_r _ [4, 5, 6, 3, 7] (by decide +kernel) (by decide +kernel)
set_option maxRecDepth 20000 in
theorem gX1_harmUnder_X1_kindUnder : GoodIn wsX1_harmUnder (va_wsS RX1 15 yX1_kindUnder wsX1_kindUnder) := goodIn_app (goodIn_of _ (by decide +kernel)) ggX1_harmUnder_X1_kindUnder
theorem dX1_harmUnder_0 : decode cX1_harmUnder 0 = .ok (.iload_n 0, 1) := by decide +kernel
theorem dX1_harmUnder_1 : decode cX1_harmUnder 1 = .ok (.iload_n 1, 1) := by decide +kernel
theorem dX1_harmUnder_2 : decode cX1_harmUnder 2 = .ok (.iload_n 2, 1) := by decide +kernel
theorem dX1_harmUnder_3 : decode cX1_harmUnder 3 = .ok (.invokestatic 15, 3) := by decide +kernel
theorem dX1_harmUnder_6 : decode cX1_harmUnder 6 = .ok (.iconst 5, 1) := by decide +kernel
theorem dX1_harmUnder_7 : decode cX1_harmUnder 7 = .ok (.if_icmp .ne 12, 3) := by decide +kernel
theorem dX1_harmUnder_10 : decode cX1_harmUnder 10 = .ok (.iload_n 0, 1) := by decide +kernel
theorem dX1_harmUnder_11 : decode cX1_harmUnder 11 = .ok (.iconst 4, 1) := by decide +kernel
theorem dX1_harmUnder_12 : decode cX1_harmUnder 12 = .ok (.ishr, 1) := by decide +kernel
theorem dX1_harmUnder_13 : decode cX1_harmUnder 13 = .ok (.bipush 15, 2) := by decide +kernel
theorem dX1_harmUnder_15 : decode cX1_harmUnder 15 = .ok (.iand, 1) := by decide +kernel
theorem dX1_harmUnder_16 : decode cX1_harmUnder 16 = .ok (.goto 4, 3) := by decide +kernel
theorem dX1_harmUnder_19 : decode cX1_harmUnder 19 = .ok (.iconst 0, 1) := by decide +kernel
theorem dX1_harmUnder_20 : decode cX1_harmUnder 20 = .ok (.ireturn, 1) := by decide +kernel
set_option maxRecDepth 20000 in
theorem ggX2_init_X3_init : GoodIn wsX2_init wsX3_init := goodIn_r _ [14, 15, 2, 3, 4, 16, 17, 18, 19, 25, 26, 27, 28, 29, 30, 31, 32, 33, 34] (by decide +kernel) (by decide +kernel)
set_option maxRecDepth 20000 in
theorem gX2_init_X3_init : GoodIn wsX2_init (wsX3_init) := ggX2_init_X3_init
theorem dX2_init_0 : decode cX2_init 0 = .ok (.aload_n 0, 1) := by decide +kernel
theorem dX2_init_1 : decode cX2_init 1 = .ok (.invokespecial 3, 3) := by decide +kernel
theorem dX2_init_4 : decode cX2_init 4 = .ok (.aload_n 0, 1) := by decide +kernel
theorem dX2_init_5 : decode cX2_init 5 = .ok (.sipush 6400, 3) := by decide +kernel
theorem dX2_init_8 : decode cX2_init 8 = .ok (.newarray .int, 2) := by decide +kernel
theorem dX2_init_10 : decode cX2_init 10 = .ok (.putfield 11, 3) := by decide +kernel
theorem dX2_init_13 : decode cX2_init 13 = .ok (.aload_n 0, 1) := by decide +kernel
theorem dX2_init_14 : decode cX2_init 14 = .ok (.bipush 13, 2) := by decide +kernel
theorem dX2_init_16 : decode cX2_init 16 = .ok (.newarray .int, 2) := by decide +kernel
theorem dX2_init_18 : decode cX2_init 18 = .ok (.putfield 15, 3) := by decide +kernel
theorem dX2_init_21 : decode cX2_init 21 = .ok (.aload_n 0, 1) := by decide +kernel
theorem dX2_init_22 : decode cX2_init 22 = .ok (.aload_n 2, 1) := by decide +kernel
theorem dX2_init_23 : decode cX2_init 23 = .ok (.putfield 18, 3) := by decide +kernel
theorem dX2_init_26 : decode cX2_init 26 = .ok (.aload_n 0, 1) := by decide +kernel
theorem dX2_init_27 : decode cX2_init 27 = .ok (.new 22, 3) := by decide +kernel
theorem dX2_init_30 : decode cX2_init 30 = .ok (.dup, 1) := by decide +kernel
theorem dX2_init_31 : decode cX2_init 31 = .ok (.aload_n 1, 1) := by decide +kernel
theorem dX2_init_32 : decode cX2_init 32 = .ok (.invokespecial 24, 3) := by decide +kernel
theorem dX2_init_35 : decode cX2_init 35 = .ok (.putfield 27, 3) := by decide +kernel
theorem dX2_init_38 : decode cX2_init 38 = .ok (.return_, 1) := by decide +kernel
theorem dX2_cellOf_0 : decode cX2_cellOf 0 = .ok (.iload_n 0, 1) := by decide +kernel
theorem dX2_cellOf_1 : decode cX2_cellOf 1 = .ok (.bipush 8, 2) := by decide +kernel
theorem dX2_cellOf_3 : decode cX2_cellOf 3 = .ok (.idiv, 1) := by decide +kernel
theorem dX2_cellOf_4 : decode cX2_cellOf 4 = .ok (.bipush 8, 2) := by decide +kernel
theorem dX2_cellOf_6 : decode cX2_cellOf 6 = .ok (.irem, 1) := by decide +kernel
theorem dX2_cellOf_7 : decode cX2_cellOf 7 = .ok (.ireturn, 1) := by decide +kernel
theorem dX2_forget_0 : decode cX2_forget 0 = .ok (.aload_n 0, 1) := by decide +kernel
theorem dX2_forget_1 : decode cX2_forget 1 = .ok (.iconst 0, 1) := by decide +kernel
theorem dX2_forget_2 : decode cX2_forget 2 = .ok (.putfield 31, 3) := by decide +kernel
theorem dX2_forget_5 : decode cX2_forget 5 = .ok (.return_, 1) := by decide +kernel
theorem dX2_codes_0 : decode cX2_codes 0 = .ok (.aload_n 0, 1) := by decide +kernel
theorem dX2_codes_1 : decode cX2_codes 1 = .ok (.getfield 18, 3) := by decide +kernel
theorem dX2_codes_4 : decode cX2_codes 4 = .ok (.getfield 35, 3) := by decide +kernel
theorem dX2_codes_7 : decode cX2_codes 7 = .ok (.getfield 40, 3) := by decide +kernel
theorem dX2_codes_10 : decode cX2_codes 10 = .ok (.bipush 64, 2) := by decide +kernel
theorem dX2_codes_12 : decode cX2_codes 12 = .ok (.imul, 1) := by decide +kernel
theorem dX2_codes_13 : decode cX2_codes 13 = .ok (.ireturn, 1) := by decide +kernel
theorem dX2_isFlip_0 : decode cX2_isFlip 0 = .ok (.iload_n 1, 1) := by decide +kernel
theorem dX2_isFlip_1 : decode cX2_isFlip 1 = .ok (.bipush 8, 2) := by decide +kernel
theorem dX2_isFlip_3 : decode cX2_isFlip 3 = .ok (.irem, 1) := by decide +kernel
theorem dX2_isFlip_4 : decode cX2_isFlip 4 = .ok (.aload_n 0, 1) := by decide +kernel
theorem dX2_isFlip_5 : decode cX2_isFlip 5 = .ok (.getfield 31, 3) := by decide +kernel
theorem dX2_isFlip_8 : decode cX2_isFlip 8 = .ok (.iadd, 1) := by decide +kernel
theorem dX2_isFlip_9 : decode cX2_isFlip 9 = .ok (.bipush 8, 2) := by decide +kernel
theorem dX2_isFlip_11 : decode cX2_isFlip 11 = .ok (.if_icmp .gt 7, 3) := by decide +kernel
theorem dX2_isFlip_14 : decode cX2_isFlip 14 = .ok (.iconst 1, 1) := by decide +kernel
theorem dX2_isFlip_15 : decode cX2_isFlip 15 = .ok (.goto 4, 3) := by decide +kernel
theorem dX2_isFlip_18 : decode cX2_isFlip 18 = .ok (.iconst 0, 1) := by decide +kernel
theorem dX2_isFlip_19 : decode cX2_isFlip 19 = .ok (.ireturn, 1) := by decide +kernel
set_option maxRecDepth 20000 in
theorem ggX2_fateOf_X5_nextUse : GoodIn wsX2_fateOf wsX5_nextUse := goodIn_r _ [6, 7, 8, 9, 10, 124, 125, 126, 127, 128, 129, 130, 131, 132, 133, 134, 135, 136, 137, 138, 139] (by decide +kernel) (by decide +kernel)
set_option maxRecDepth 20000 in
theorem gX2_fateOf_X5_nextUse : GoodIn wsX2_fateOf (wsV RX2 43 RX5 yX5_nextUse wsX5_nextUse) := goodIn_app (goodIn_of _ (by decide +kernel)) ggX2_fateOf_X5_nextUse
set_option maxRecDepth 20000 in
theorem ggX2_fateOf_X5_isRead : GoodIn wsX2_fateOf wsX5_isRead := goodIn_r _ [14, 7, 8, 9, 124, 125, 126, 127, 128, 129, 130, 131, 132, 133, 134, 135, 136, 137, 138, 139] (by decide +kernel) (by decide +kernel)
set_option maxRecDepth 20000 in
theorem gX2_fateOf_X5_isRead : GoodIn wsX2_fateOf (wsV RX2 47 RX5 yX5_isRead wsX5_isRead) := goodIn_app (goodIn_of _ (by decide +kernel)) ggX2_fateOf_X5_isRead
set_option maxRecDepth 20000 in
theorem ggX2_fateOf_X2_fateFromReading : GoodIn wsX2_fateOf wsX2_fateFromReading := goodIn_r _ [19, 1, 20, 21, 22, 23, 24, 25, 26, 27, 5, 28, 29, 30, 31, 32, 33, 34, 7, 35, 36, 37, 38, 39, 40, 41, 42, 43, 44, 45, 46, 47, 48, 49, 50, 51, 52, 53, 54, 55, 56, 57, 58, 59, 60, 61, 62, 63, 64, 65, 66, 67, 68, 69, 70, 71, 72, 73, 74, 75, 76, 77, 78, 79, 80, 81, 82, 83, 84, 85, 86, 87, 88, 89, 90, 91, 92, 93, 94, 95, 96, 97, 98, 99, 18, 100, 101, 102, 103, 104, 105, 106, 107, 108, 109, 110, 119, 120, 121, 122, 123, 130, 131, 132, 133, 134, 135, 136, 137, 138, 139, 124, 125, 126, 127, 128, 129, 140, 141, 142, 143] (by decide +kernel) (by decide +kernel)
set_option maxRecDepth 20000 in
theorem gX2_fateOf_X2_fateFromReading : GoodIn wsX2_fateOf (wsV RX2 51 RX2 yX2_fateFromReading wsX2_fateFromReading) := goodIn_app (goodIn_of _ (by decide +kernel)) ggX2_fateOf_X2_fateFromReading
set_option maxRecDepth 20000 in
theorem ggX2_fateOf_X5_isWritten : GoodIn wsX2_fateOf wsX5_isWritten := goodIn_r _ [114, 7, 8, 10, 124, 125, 126, 127, 128, 129, 130, 131, 132, 133, 134, 135, 136, 137, 138, 139] (by decide +kernel) (by decide +kernel)
set_option maxRecDepth 20000 in
theorem gX2_fateOf_X5_isWritten : GoodIn wsX2_fateOf (wsV RX2 55 RX5 yX5_isWritten wsX5_isWritten) := goodIn_app (goodIn_of _ (by decide +kernel)) ggX2_fateOf_X5_isWritten
set_option maxRecDepth 20000 in
theorem ggX2_fateOf_X2_unreadFate : GoodIn wsX2_fateOf wsX2_unreadFate := goodIn_r _ [118, 1, 101, 23, 93, 94, 95, 96, 119, 120, 121, 122, 123, 124, 125, 126, 127, 128, 129, 130, 131, 132, 133, 134, 135, 136, 137, 138, 139] (by decide +kernel) (by decide +kernel)
set_option maxRecDepth 20000 in
theorem gX2_fateOf_X2_unreadFate : GoodIn wsX2_fateOf (wsV RX2 58 RX2 yX2_unreadFate wsX2_unreadFate) := goodIn_app (goodIn_of _ (by decide +kernel)) ggX2_fateOf_X2_unreadFate
theorem dX2_fateOf_0 : decode cX2_fateOf 0 = .ok (.aload_n 0, 1) := by decide +kernel
theorem dX2_fateOf_1 : decode cX2_fateOf 1 = .ok (.getfield 18, 3) := by decide +kernel
theorem dX2_fateOf_4 : decode cX2_fateOf 4 = .ok (.iload_n 1, 1) := by decide +kernel
theorem dX2_fateOf_5 : decode cX2_fateOf 5 = .ok (.iload 4, 2) := by decide +kernel
theorem dX2_fateOf_7 : decode cX2_fateOf 7 = .ok (.invokevirtual 43, 3) := by decide +kernel
theorem dX2_fateOf_10 : decode cX2_fateOf 10 = .ok (.istore 5, 2) := by decide +kernel
theorem dX2_fateOf_12 : decode cX2_fateOf 12 = .ok (.aload_n 0, 1) := by decide +kernel
theorem dX2_fateOf_13 : decode cX2_fateOf 13 = .ok (.getfield 18, 3) := by decide +kernel
theorem dX2_fateOf_16 : decode cX2_fateOf 16 = .ok (.iload_n 1, 1) := by decide +kernel
theorem dX2_fateOf_17 : decode cX2_fateOf 17 = .ok (.iload 5, 2) := by decide +kernel
theorem dX2_fateOf_19 : decode cX2_fateOf 19 = .ok (.invokevirtual 47, 3) := by decide +kernel
theorem dX2_fateOf_22 : decode cX2_fateOf 22 = .ok (.ifCond .eq 13, 3) := by decide +kernel
theorem dX2_fateOf_25 : decode cX2_fateOf 25 = .ok (.aload_n 0, 1) := by decide +kernel
theorem dX2_fateOf_26 : decode cX2_fateOf 26 = .ok (.iload_n 1, 1) := by decide +kernel
theorem dX2_fateOf_27 : decode cX2_fateOf 27 = .ok (.iload_n 2, 1) := by decide +kernel
theorem dX2_fateOf_28 : decode cX2_fateOf 28 = .ok (.iload_n 3, 1) := by decide +kernel
theorem dX2_fateOf_29 : decode cX2_fateOf 29 = .ok (.iload 5, 2) := by decide +kernel
theorem dX2_fateOf_31 : decode cX2_fateOf 31 = .ok (.invokevirtual 51, 3) := by decide +kernel
theorem dX2_fateOf_34 : decode cX2_fateOf 34 = .ok (.ireturn, 1) := by decide +kernel
theorem dX2_fateOf_35 : decode cX2_fateOf 35 = .ok (.aload_n 0, 1) := by decide +kernel
theorem dX2_fateOf_36 : decode cX2_fateOf 36 = .ok (.aload_n 0, 1) := by decide +kernel
theorem dX2_fateOf_37 : decode cX2_fateOf 37 = .ok (.getfield 18, 3) := by decide +kernel
theorem dX2_fateOf_40 : decode cX2_fateOf 40 = .ok (.iload_n 1, 1) := by decide +kernel
theorem dX2_fateOf_41 : decode cX2_fateOf 41 = .ok (.iload 5, 2) := by decide +kernel
theorem dX2_fateOf_43 : decode cX2_fateOf 43 = .ok (.invokevirtual 55, 3) := by decide +kernel
theorem dX2_fateOf_46 : decode cX2_fateOf 46 = .ok (.ifCond .ne 7, 3) := by decide +kernel
theorem dX2_fateOf_49 : decode cX2_fateOf 49 = .ok (.iconst 1, 1) := by decide +kernel
theorem dX2_fateOf_50 : decode cX2_fateOf 50 = .ok (.goto 4, 3) := by decide +kernel
theorem dX2_fateOf_53 : decode cX2_fateOf 53 = .ok (.iconst 0, 1) := by decide +kernel
theorem dX2_fateOf_54 : decode cX2_fateOf 54 = .ok (.invokevirtual 58, 3) := by decide +kernel
theorem dX2_fateOf_57 : decode cX2_fateOf 57 = .ok (.ireturn, 1) := by decide +kernel
set_option maxRecDepth 20000 in
theorem ggX2_tryAll_X2_cellOf : GoodIn wsX2_tryAll wsX2_cellOf := goodIn_r _ [9] (by decide +kernel) (by decide +kernel)
set_option maxRecDepth 20000 in
theorem gX2_tryAll_X2_cellOf : GoodIn wsX2_tryAll (va_wsS RX2 62 yX2_cellOf wsX2_cellOf) := goodIn_app (goodIn_of _ (by decide +kernel)) ggX2_tryAll_X2_cellOf
set_option maxRecDepth 20000 in
theorem ggX2_tryAll_X2_unreadFate : GoodIn wsX2_tryAll wsX2_unreadFate := goodIn_r _ [13, 2, 3, 4, 14, 15, 16, 17, 124, 125, 126, 127, 128, 129, 130, 131, 132, 133, 134, 135, 136, 137, 138, 139, 140, 141, 142, 143, 144] (by decide +kernel) (by decide +kernel)
set_option maxRecDepth 20000 in
theorem gX2_tryAll_X2_unreadFate : GoodIn wsX2_tryAll (wsV RX2 58 RX2 yX2_unreadFate wsX2_unreadFate) := goodIn_app (goodIn_of _ (by decide +kernel)) ggX2_tryAll_X2_unreadFate
set_option maxRecDepth 20000 in
theorem ggX2_tryAll_X2_isFlip : GoodIn wsX2_tryAll wsX2_isFlip := goodIn_r _ [21, 1, 124, 125, 126, 127, 128] (by decide +kernel) (by decide +kernel)
set_option maxRecDepth 20000 in
theorem gX2_tryAll_X2_isFlip : GoodIn wsX2_tryAll (wsV RX2 66 RX2 yX2_isFlip wsX2_isFlip) := goodIn_app (goodIn_of _ (by decide +kernel)) ggX2_tryAll_X2_isFlip
set_option maxRecDepth 20000 in
theorem ggX2_tryAll_X5_isRead : GoodIn wsX2_tryAll wsX5_isRead := goodIn_r _ [26, 27, 28, 29, 129, 130, 131, 132, 133, 134, 135, 136, 137, 138, 139, 140, 141, 142, 143, 144] (by decide +kernel) (by decide +kernel)
set_option maxRecDepth 20000 in
theorem gX2_tryAll_X5_isRead : GoodIn wsX2_tryAll (wsV RX2 47 RX5 yX5_isRead wsX5_isRead) := goodIn_app (goodIn_of _ (by decide +kernel)) ggX2_tryAll_X5_isRead
set_option maxRecDepth 20000 in
theorem ggX2_tryAll_X2_fateFromReading : GoodIn wsX2_tryAll wsX2_fateFromReading := goodIn_r _ [33, 2, 34, 35, 36, 4, 37, 38, 39, 40, 25, 41, 42, 43, 44, 45, 46, 47, 27, 48, 49, 50, 51, 52, 53, 54, 55, 56, 57, 58, 59, 60, 61, 62, 63, 64, 65, 66, 67, 68, 69, 70, 71, 72, 73, 74, 75, 76, 77, 78, 79, 80, 81, 82, 83, 84, 85, 86, 87, 88, 89, 90, 91, 92, 93, 94, 95, 96, 97, 98, 99, 100, 101, 102, 103, 104, 105, 14, 15, 16, 17, 106, 107, 108, 8, 109, 3, 110, 111, 112, 113, 114, 115, 116, 117, 118, 124, 125, 126, 127, 128, 135, 136, 137, 138, 139, 140, 141, 142, 143, 144, 129, 130, 131, 132, 133, 134, 145, 146, 147, 148] (by decide +kernel) (by decide +kernel)
set_option maxRecDepth 20000 in
theorem gX2_tryAll_X2_fateFromReading : GoodIn wsX2_tryAll (wsV RX2 51 RX2 yX2_fateFromReading wsX2_fateFromReading) := goodIn_app (goodIn_of _ (by decide +kernel)) ggX2_tryAll_X2_fateFromReading
set_option maxRecDepth 20000 in
theorem ggX2_tryAll_X5_isWritten : GoodIn wsX2_tryAll wsX5_isWritten := goodIn_r _ [122, 27, 28, 123, 129, 130, 131, 132, 133, 134, 135, 136, 137, 138, 139, 140, 141, 142, 143, 144] (by decide +kernel) (by decide +kernel)
set_option maxRecDepth 20000 in
theorem gX2_tryAll_X5_isWritten : GoodIn wsX2_tryAll (wsV RX2 55 RX5 yX5_isWritten wsX5_isWritten) := goodIn_app (goodIn_of _ (by decide +kernel)) ggX2_tryAll_X5_isWritten
theorem dX2_tryAll_0 : decode cX2_tryAll 0 = .ok (.aload_n 0, 1) := by decide +kernel
theorem dX2_tryAll_1 : decode cX2_tryAll 1 = .ok (.getfield 31, 3) := by decide +kernel
theorem dX2_tryAll_4 : decode cX2_tryAll 4 = .ok (.iload_n 1, 1) := by decide +kernel
theorem dX2_tryAll_5 : decode cX2_tryAll 5 = .ok (.if_icmp .ne 4, 3) := by decide +kernel
theorem dX2_tryAll_8 : decode cX2_tryAll 8 = .ok (.return_, 1) := by decide +kernel
theorem dX2_tryAll_9 : decode cX2_tryAll 9 = .ok (.aload_n 0, 1) := by decide +kernel
theorem dX2_tryAll_10 : decode cX2_tryAll 10 = .ok (.iload_n 1, 1) := by decide +kernel
theorem dX2_tryAll_11 : decode cX2_tryAll 11 = .ok (.putfield 31, 3) := by decide +kernel
theorem dX2_tryAll_14 : decode cX2_tryAll 14 = .ok (.iconst 0, 1) := by decide +kernel
theorem dX2_tryAll_15 : decode cX2_tryAll 15 = .ok (.istore_n 2, 1) := by decide +kernel
theorem dX2_tryAll_16 : decode cX2_tryAll 16 = .ok (.iload_n 2, 1) := by decide +kernel
theorem dX2_tryAll_17 : decode cX2_tryAll 17 = .ok (.bipush 64, 2) := by decide +kernel
theorem dX2_tryAll_19 : decode cX2_tryAll 19 = .ok (.if_icmp .ge 118, 3) := by decide +kernel
theorem dX2_tryAll_22 : decode cX2_tryAll 22 = .ok (.iload_n 2, 1) := by decide +kernel
theorem dX2_tryAll_23 : decode cX2_tryAll 23 = .ok (.invokestatic 62, 3) := by decide +kernel
theorem dX2_tryAll_26 : decode cX2_tryAll 26 = .ok (.istore_n 3, 1) := by decide +kernel
theorem dX2_tryAll_27 : decode cX2_tryAll 27 = .ok (.aload_n 0, 1) := by decide +kernel
theorem dX2_tryAll_28 : decode cX2_tryAll 28 = .ok (.iconst 1, 1) := by decide +kernel
theorem dX2_tryAll_29 : decode cX2_tryAll 29 = .ok (.invokevirtual 58, 3) := by decide +kernel
theorem dX2_tryAll_32 : decode cX2_tryAll 32 = .ok (.istore 4, 2) := by decide +kernel
theorem dX2_tryAll_34 : decode cX2_tryAll 34 = .ok (.aload_n 0, 1) := by decide +kernel
theorem dX2_tryAll_35 : decode cX2_tryAll 35 = .ok (.getfield 18, 3) := by decide +kernel
theorem dX2_tryAll_38 : decode cX2_tryAll 38 = .ok (.getfield 35, 3) := by decide +kernel
theorem dX2_tryAll_41 : decode cX2_tryAll 41 = .ok (.getfield 40, 3) := by decide +kernel
theorem dX2_tryAll_44 : decode cX2_tryAll 44 = .ok (.iconst 1, 1) := by decide +kernel
theorem dX2_tryAll_45 : decode cX2_tryAll 45 = .ok (.isub, 1) := by decide +kernel
theorem dX2_tryAll_46 : decode cX2_tryAll 46 = .ok (.istore 5, 2) := by decide +kernel
theorem dX2_tryAll_48 : decode cX2_tryAll 48 = .ok (.iload 5, 2) := by decide +kernel
theorem dX2_tryAll_50 : decode cX2_tryAll 50 = .ok (.ifCond .lt 81, 3) := by decide +kernel
theorem dX2_tryAll_53 : decode cX2_tryAll 53 = .ok (.aload_n 0, 1) := by decide +kernel
theorem dX2_tryAll_54 : decode cX2_tryAll 54 = .ok (.iload_n 2, 1) := by decide +kernel
theorem dX2_tryAll_55 : decode cX2_tryAll 55 = .ok (.invokevirtual 66, 3) := by decide +kernel
theorem dX2_tryAll_58 : decode cX2_tryAll 58 = .ok (.ifCond .eq 73, 3) := by decide +kernel
theorem dX2_tryAll_61 : decode cX2_tryAll 61 = .ok (.aload_n 0, 1) := by decide +kernel
theorem dX2_tryAll_62 : decode cX2_tryAll 62 = .ok (.getfield 18, 3) := by decide +kernel
theorem dX2_tryAll_65 : decode cX2_tryAll 65 = .ok (.iload_n 3, 1) := by decide +kernel
theorem dX2_tryAll_66 : decode cX2_tryAll 66 = .ok (.iload 5, 2) := by decide +kernel
theorem dX2_tryAll_68 : decode cX2_tryAll 68 = .ok (.invokevirtual 47, 3) := by decide +kernel
theorem dX2_tryAll_71 : decode cX2_tryAll 71 = .ok (.ifCond .eq 20, 3) := by decide +kernel
theorem dX2_tryAll_74 : decode cX2_tryAll 74 = .ok (.aload_n 0, 1) := by decide +kernel
theorem dX2_tryAll_75 : decode cX2_tryAll 75 = .ok (.iload_n 3, 1) := by decide +kernel
theorem dX2_tryAll_76 : decode cX2_tryAll 76 = .ok (.iload_n 2, 1) := by decide +kernel
theorem dX2_tryAll_77 : decode cX2_tryAll 77 = .ok (.bipush 8, 2) := by decide +kernel
theorem dX2_tryAll_79 : decode cX2_tryAll 79 = .ok (.irem, 1) := by decide +kernel
theorem dX2_tryAll_80 : decode cX2_tryAll 80 = .ok (.iload_n 1, 1) := by decide +kernel
theorem dX2_tryAll_81 : decode cX2_tryAll 81 = .ok (.iload 5, 2) := by decide +kernel
theorem dX2_tryAll_83 : decode cX2_tryAll 83 = .ok (.invokevirtual 51, 3) := by decide +kernel
theorem dX2_tryAll_86 : decode cX2_tryAll 86 = .ok (.istore 4, 2) := by decide +kernel
theorem dX2_tryAll_88 : decode cX2_tryAll 88 = .ok (.goto 23, 3) := by decide +kernel
theorem dX2_tryAll_91 : decode cX2_tryAll 91 = .ok (.aload_n 0, 1) := by decide +kernel
theorem dX2_tryAll_92 : decode cX2_tryAll 92 = .ok (.getfield 18, 3) := by decide +kernel
theorem dX2_tryAll_95 : decode cX2_tryAll 95 = .ok (.iload_n 3, 1) := by decide +kernel
theorem dX2_tryAll_96 : decode cX2_tryAll 96 = .ok (.iload 5, 2) := by decide +kernel
theorem dX2_tryAll_98 : decode cX2_tryAll 98 = .ok (.invokevirtual 55, 3) := by decide +kernel
theorem dX2_tryAll_101 : decode cX2_tryAll 101 = .ok (.ifCond .eq 10, 3) := by decide +kernel
theorem dX2_tryAll_104 : decode cX2_tryAll 104 = .ok (.aload_n 0, 1) := by decide +kernel
theorem dX2_tryAll_105 : decode cX2_tryAll 105 = .ok (.iconst 0, 1) := by decide +kernel
theorem dX2_tryAll_106 : decode cX2_tryAll 106 = .ok (.invokevirtual 58, 3) := by decide +kernel
theorem dX2_tryAll_109 : decode cX2_tryAll 109 = .ok (.istore 4, 2) := by decide +kernel
theorem dX2_tryAll_111 : decode cX2_tryAll 111 = .ok (.aload_n 0, 1) := by decide +kernel
theorem dX2_tryAll_112 : decode cX2_tryAll 112 = .ok (.getfield 11, 3) := by decide +kernel
theorem dX2_tryAll_115 : decode cX2_tryAll 115 = .ok (.iload 5, 2) := by decide +kernel
theorem dX2_tryAll_117 : decode cX2_tryAll 117 = .ok (.bipush 64, 2) := by decide +kernel
theorem dX2_tryAll_119 : decode cX2_tryAll 119 = .ok (.imul, 1) := by decide +kernel
theorem dX2_tryAll_120 : decode cX2_tryAll 120 = .ok (.iload_n 2, 1) := by decide +kernel
theorem dX2_tryAll_121 : decode cX2_tryAll 121 = .ok (.iadd, 1) := by decide +kernel
theorem dX2_tryAll_122 : decode cX2_tryAll 122 = .ok (.iload 4, 2) := by decide +kernel
theorem dX2_tryAll_124 : decode cX2_tryAll 124 = .ok (.iastore, 1) := by decide +kernel
theorem dX2_tryAll_125 : decode cX2_tryAll 125 = .ok (.iinc 5 (-1), 3) := by decide +kernel
theorem dX2_tryAll_128 : decode cX2_tryAll 128 = .ok (.goto (-80), 3) := by decide +kernel
theorem dX2_tryAll_131 : decode cX2_tryAll 131 = .ok (.iinc 2 1, 3) := by decide +kernel
theorem dX2_tryAll_134 : decode cX2_tryAll 134 = .ok (.goto (-118), 3) := by decide +kernel
theorem dX2_tryAll_137 : decode cX2_tryAll 137 = .ok (.return_, 1) := by decide +kernel
set_option maxRecDepth 20000 in
theorem ggX2_kindOf_X2_cellOf : GoodIn wsX2_kindOf wsX2_cellOf := goodIn_r _ [6] (by decide +kernel) (by decide +kernel)
set_option maxRecDepth 20000 in
theorem gX2_kindOf_X2_cellOf : GoodIn wsX2_kindOf (va_wsS RX2 62 yX2_cellOf wsX2_cellOf) := goodIn_app (goodIn_of _ (by decide +kernel)) ggX2_kindOf_X2_cellOf
set_option maxRecDepth 20000 in
theorem ggX2_kindOf_X1_kindUnder : GoodIn wsX2_kindOf wsX1_kindUnder := goodIn_r _ [10, 11, 12, 9, 13] (by decide +kernel) (by decide +kernel)
set_option maxRecDepth 20000 in
theorem gX2_kindOf_X1_kindUnder : GoodIn wsX2_kindOf (va_wsS RX2 70 yX1_kindUnder wsX1_kindUnder) := goodIn_app (goodIn_of _ (by decide +kernel)) ggX2_kindOf_X1_kindUnder
theorem dX2_kindOf_0 : decode cX2_kindOf 0 = .ok (.aload_n 0, 1) := by decide +kernel
theorem dX2_kindOf_1 : decode cX2_kindOf 1 = .ok (.getfield 11, 3) := by decide +kernel
theorem dX2_kindOf_4 : decode cX2_kindOf 4 = .ok (.iload_n 1, 1) := by decide +kernel
theorem dX2_kindOf_5 : decode cX2_kindOf 5 = .ok (.iaload, 1) := by decide +kernel
theorem dX2_kindOf_6 : decode cX2_kindOf 6 = .ok (.aload_n 2, 1) := by decide +kernel
theorem dX2_kindOf_7 : decode cX2_kindOf 7 = .ok (.iload_n 1, 1) := by decide +kernel
theorem dX2_kindOf_8 : decode cX2_kindOf 8 = .ok (.invokestatic 62, 3) := by decide +kernel
theorem dX2_kindOf_11 : decode cX2_kindOf 11 = .ok (.iaload, 1) := by decide +kernel
theorem dX2_kindOf_12 : decode cX2_kindOf 12 = .ok (.aload_n 0, 1) := by decide +kernel
theorem dX2_kindOf_13 : decode cX2_kindOf 13 = .ok (.getfield 31, 3) := by decide +kernel
theorem dX2_kindOf_16 : decode cX2_kindOf 16 = .ok (.invokestatic 70, 3) := by decide +kernel
theorem dX2_kindOf_19 : decode cX2_kindOf 19 = .ok (.ireturn, 1) := by decide +kernel
set_option maxRecDepth 20000 in
theorem ggX2_harmOf_X2_cellOf : GoodIn wsX2_harmOf wsX2_cellOf := goodIn_r _ [6] (by decide +kernel) (by decide +kernel)
set_option maxRecDepth 20000 in
theorem gX2_harmOf_X2_cellOf : GoodIn wsX2_harmOf (va_wsS RX2 62 yX2_cellOf wsX2_cellOf) := goodIn_app (goodIn_of _ (by decide +kernel)) ggX2_harmOf_X2_cellOf
set_option maxRecDepth 20000 in
theorem ggX2_harmOf_X1_harmUnder : GoodIn wsX2_harmOf wsX1_harmUnder := goodIn_r _ [10, 11, 12, 9, 13, 14, 15, 16] (by decide +kernel) (by decide +kernel)
set_option maxRecDepth 20000 in
theorem gX2_harmOf_X1_harmUnder : GoodIn wsX2_harmOf (va_wsS RX2 76 yX1_harmUnder wsX1_harmUnder) := goodIn_app (goodIn_of _ (by decide +kernel)) ggX2_harmOf_X1_harmUnder
theorem dX2_harmOf_0 : decode cX2_harmOf 0 = .ok (.aload_n 0, 1) := by decide +kernel
theorem dX2_harmOf_1 : decode cX2_harmOf 1 = .ok (.getfield 11, 3) := by decide +kernel
theorem dX2_harmOf_4 : decode cX2_harmOf 4 = .ok (.iload_n 1, 1) := by decide +kernel
theorem dX2_harmOf_5 : decode cX2_harmOf 5 = .ok (.iaload, 1) := by decide +kernel
theorem dX2_harmOf_6 : decode cX2_harmOf 6 = .ok (.aload_n 2, 1) := by decide +kernel
theorem dX2_harmOf_7 : decode cX2_harmOf 7 = .ok (.iload_n 1, 1) := by decide +kernel
theorem dX2_harmOf_8 : decode cX2_harmOf 8 = .ok (.invokestatic 62, 3) := by decide +kernel
theorem dX2_harmOf_11 : decode cX2_harmOf 11 = .ok (.iaload, 1) := by decide +kernel
theorem dX2_harmOf_12 : decode cX2_harmOf 12 = .ok (.aload_n 0, 1) := by decide +kernel
theorem dX2_harmOf_13 : decode cX2_harmOf 13 = .ok (.getfield 31, 3) := by decide +kernel
theorem dX2_harmOf_16 : decode cX2_harmOf 16 = .ok (.invokestatic 76, 3) := by decide +kernel
theorem dX2_harmOf_19 : decode cX2_harmOf 19 = .ok (.ireturn, 1) := by decide +kernel
set_option maxRecDepth 20000 in
theorem ggX2_isSilentUnder_X1_kindUnder : GoodIn wsX2_isSilentUnder wsX1_kindUnder := goodIn_r _ [6, 7, 8, 5, 9] (by decide +kernel) (by decide +kernel)
set_option maxRecDepth 20000 in
theorem gX2_isSilentUnder_X1_kindUnder : GoodIn wsX2_isSilentUnder (va_wsS RX2 70 yX1_kindUnder wsX1_kindUnder) := goodIn_app (goodIn_of _ (by decide +kernel)) ggX2_isSilentUnder_X1_kindUnder
theorem dX2_isSilentUnder_0 : decode cX2_isSilentUnder 0 = .ok (.aload_n 0, 1) := by decide +kernel
theorem dX2_isSilentUnder_1 : decode cX2_isSilentUnder 1 = .ok (.getfield 11, 3) := by decide +kernel
theorem dX2_isSilentUnder_4 : decode cX2_isSilentUnder 4 = .ok (.iload_n 1, 1) := by decide +kernel
theorem dX2_isSilentUnder_5 : decode cX2_isSilentUnder 5 = .ok (.iaload, 1) := by decide +kernel
theorem dX2_isSilentUnder_6 : decode cX2_isSilentUnder 6 = .ok (.iload_n 2, 1) := by decide +kernel
theorem dX2_isSilentUnder_7 : decode cX2_isSilentUnder 7 = .ok (.aload_n 0, 1) := by decide +kernel
theorem dX2_isSilentUnder_8 : decode cX2_isSilentUnder 8 = .ok (.getfield 31, 3) := by decide +kernel
theorem dX2_isSilentUnder_11 : decode cX2_isSilentUnder 11 = .ok (.invokestatic 70, 3) := by decide +kernel
theorem dX2_isSilentUnder_14 : decode cX2_isSilentUnder 14 = .ok (.iconst 5, 1) := by decide +kernel
theorem dX2_isSilentUnder_15 : decode cX2_isSilentUnder 15 = .ok (.if_icmp .ne 7, 3) := by decide +kernel
theorem dX2_isSilentUnder_18 : decode cX2_isSilentUnder 18 = .ok (.iconst 1, 1) := by decide +kernel
theorem dX2_isSilentUnder_19 : decode cX2_isSilentUnder 19 = .ok (.goto 4, 3) := by decide +kernel
theorem dX2_isSilentUnder_22 : decode cX2_isSilentUnder 22 = .ok (.iconst 0, 1) := by decide +kernel
theorem dX2_isSilentUnder_23 : decode cX2_isSilentUnder 23 = .ok (.ireturn, 1) := by decide +kernel
set_option maxRecDepth 20000 in
theorem ggX2_worstCode_X2_tallyHarm : GoodIn wsX2_worstCode wsX2_tallyHarm := goodIn_r _ [6, 1, 7, 8, 9, 5, 10, 11, 12, 13, 14, 15, 16, 17, 18, 19, 20, 21, 22, 23, 24, 25, 26, 27, 28, 29, 30, 31, 32, 33, 34, 35, 36, 41, 42, 43, 44, 45, 46, 47, 48, 49, 50, 51, 52, 53, 54, 55, 56, 57, 58, 59, 60, 61] (by decide +kernel) (by decide +kernel)
set_option maxRecDepth 20000 in
theorem gX2_worstCode_X2_tallyHarm : GoodIn wsX2_worstCode (wsV RX2 79 RX2 yX2_tallyHarm wsX2_tallyHarm) := goodIn_app (goodIn_of _ (by decide +kernel)) ggX2_worstCode_X2_tallyHarm
set_option maxRecDepth 20000 in
theorem ggX2_worstCode_X2_codeOfHarm : GoodIn wsX2_worstCode wsX2_codeOfHarm := goodIn_r _ [40, 7, 8, 9, 5, 10, 11, 12, 13, 14, 15, 16, 17, 18, 19, 20, 21, 22, 23, 24, 25, 26, 27, 28, 29, 30, 31, 32, 33, 34, 35, 36, 41, 42, 43, 44, 45, 46, 47, 48, 49, 50, 51, 52, 53, 54, 55, 56, 57, 58, 59, 60, 61] (by decide +kernel) (by decide +kernel)
set_option maxRecDepth 20000 in
theorem gX2_worstCode_X2_codeOfHarm : GoodIn wsX2_worstCode (wsV RX2 83 RX2 yX2_codeOfHarm wsX2_codeOfHarm) := goodIn_app (goodIn_of _ (by decide +kernel)) ggX2_worstCode_X2_codeOfHarm
theorem dX2_worstCode_0 : decode cX2_worstCode 0 = .ok (.iload_n 1, 1) := by decide +kernel
theorem dX2_worstCode_1 : decode cX2_worstCode 1 = .ok (.ifCond .ge 5, 3) := by decide +kernel
theorem dX2_worstCode_4 : decode cX2_worstCode 4 = .ok (.iconst (-1), 1) := by decide +kernel
theorem dX2_worstCode_5 : decode cX2_worstCode 5 = .ok (.ireturn, 1) := by decide +kernel
theorem dX2_worstCode_6 : decode cX2_worstCode 6 = .ok (.aload_n 0, 1) := by decide +kernel
theorem dX2_worstCode_7 : decode cX2_worstCode 7 = .ok (.aload_n 2, 1) := by decide +kernel
theorem dX2_worstCode_8 : decode cX2_worstCode 8 = .ok (.invokevirtual 79, 3) := by decide +kernel
theorem dX2_worstCode_11 : decode cX2_worstCode 11 = .ok (.iload_n 1, 1) := by decide +kernel
theorem dX2_worstCode_12 : decode cX2_worstCode 12 = .ok (.istore_n 3, 1) := by decide +kernel
theorem dX2_worstCode_13 : decode cX2_worstCode 13 = .ok (.bipush 12, 2) := by decide +kernel
theorem dX2_worstCode_15 : decode cX2_worstCode 15 = .ok (.istore 4, 2) := by decide +kernel
theorem dX2_worstCode_17 : decode cX2_worstCode 17 = .ok (.iload 4, 2) := by decide +kernel
theorem dX2_worstCode_19 : decode cX2_worstCode 19 = .ok (.ifCond .le 39, 3) := by decide +kernel
theorem dX2_worstCode_22 : decode cX2_worstCode 22 = .ok (.iload_n 3, 1) := by decide +kernel
theorem dX2_worstCode_23 : decode cX2_worstCode 23 = .ok (.aload_n 0, 1) := by decide +kernel
theorem dX2_worstCode_24 : decode cX2_worstCode 24 = .ok (.getfield 15, 3) := by decide +kernel
theorem dX2_worstCode_27 : decode cX2_worstCode 27 = .ok (.iload 4, 2) := by decide +kernel
theorem dX2_worstCode_29 : decode cX2_worstCode 29 = .ok (.iaload, 1) := by decide +kernel
theorem dX2_worstCode_30 : decode cX2_worstCode 30 = .ok (.if_icmp .ge 12, 3) := by decide +kernel
theorem dX2_worstCode_33 : decode cX2_worstCode 33 = .ok (.aload_n 0, 1) := by decide +kernel
theorem dX2_worstCode_34 : decode cX2_worstCode 34 = .ok (.iload 4, 2) := by decide +kernel
theorem dX2_worstCode_36 : decode cX2_worstCode 36 = .ok (.iload_n 3, 1) := by decide +kernel
theorem dX2_worstCode_37 : decode cX2_worstCode 37 = .ok (.aload_n 2, 1) := by decide +kernel
theorem dX2_worstCode_38 : decode cX2_worstCode 38 = .ok (.invokevirtual 83, 3) := by decide +kernel
theorem dX2_worstCode_41 : decode cX2_worstCode 41 = .ok (.ireturn, 1) := by decide +kernel
theorem dX2_worstCode_42 : decode cX2_worstCode 42 = .ok (.iload_n 3, 1) := by decide +kernel
theorem dX2_worstCode_43 : decode cX2_worstCode 43 = .ok (.aload_n 0, 1) := by decide +kernel
theorem dX2_worstCode_44 : decode cX2_worstCode 44 = .ok (.getfield 15, 3) := by decide +kernel
theorem dX2_worstCode_47 : decode cX2_worstCode 47 = .ok (.iload 4, 2) := by decide +kernel
theorem dX2_worstCode_49 : decode cX2_worstCode 49 = .ok (.iaload, 1) := by decide +kernel
theorem dX2_worstCode_50 : decode cX2_worstCode 50 = .ok (.isub, 1) := by decide +kernel
theorem dX2_worstCode_51 : decode cX2_worstCode 51 = .ok (.istore_n 3, 1) := by decide +kernel
theorem dX2_worstCode_52 : decode cX2_worstCode 52 = .ok (.iinc 4 (-1), 3) := by decide +kernel
theorem dX2_worstCode_55 : decode cX2_worstCode 55 = .ok (.goto (-38), 3) := by decide +kernel
theorem dX2_worstCode_58 : decode cX2_worstCode 58 = .ok (.iconst (-1), 1) := by decide +kernel
theorem dX2_worstCode_59 : decode cX2_worstCode 59 = .ok (.ireturn, 1) := by decide +kernel
set_option maxRecDepth 20000 in
theorem ggX2_tallyHarm_X2_codes : GoodIn wsX2_tallyHarm wsX2_codes := goodIn_r _ [6, 7, 8, 9, 33, 34, 35, 36, 37, 38, 39, 40, 41, 42, 43, 44, 45, 46, 47, 48, 49, 50, 51, 52, 53] (by decide +kernel) (by decide +kernel)
set_option maxRecDepth 20000 in
theorem gX2_tallyHarm_X2_codes : GoodIn wsX2_tallyHarm (wsV RX2 87 RX2 yX2_codes wsX2_codes) := goodIn_app (goodIn_of _ (by decide +kernel)) ggX2_tallyHarm_X2_codes
set_option maxRecDepth 20000 in
theorem ggX2_tallyHarm_X2_isFlip : GoodIn wsX2_tallyHarm wsX2_isFlip := goodIn_r _ [13, 14, 33, 34, 35, 36, 37] (by decide +kernel) (by decide +kernel)
set_option maxRecDepth 20000 in
theorem gX2_tallyHarm_X2_isFlip : GoodIn wsX2_tallyHarm (wsV RX2 66 RX2 yX2_isFlip wsX2_isFlip) := goodIn_app (goodIn_of _ (by decide +kernel)) ggX2_tallyHarm_X2_isFlip
set_option maxRecDepth 20000 in
theorem ggX2_tallyHarm_X2_harmOf : GoodIn wsX2_tallyHarm wsX2_harmOf := goodIn_r _ [18, 19, 14, 20, 21, 5, 22, 23, 24, 25, 26, 27, 28, 29, 30, 31, 32, 33, 34, 35, 36, 37] (by decide +kernel) (by decide +kernel)
set_option maxRecDepth 20000 in
theorem gX2_tallyHarm_X2_harmOf : GoodIn wsX2_tallyHarm (wsV RX2 91 RX2 yX2_harmOf wsX2_harmOf) := goodIn_app (goodIn_of _ (by decide +kernel)) ggX2_tallyHarm_X2_harmOf
theorem dX2_tallyHarm_0 : decode cX2_tallyHarm 0 = .ok (.iconst 0, 1) := by decide +kernel
theorem dX2_tallyHarm_1 : decode cX2_tallyHarm 1 = .ok (.istore_n 2, 1) := by decide +kernel
theorem dX2_tallyHarm_2 : decode cX2_tallyHarm 2 = .ok (.iload_n 2, 1) := by decide +kernel
theorem dX2_tallyHarm_3 : decode cX2_tallyHarm 3 = .ok (.bipush 12, 2) := by decide +kernel
theorem dX2_tallyHarm_5 : decode cX2_tallyHarm 5 = .ok (.if_icmp .gt 16, 3) := by decide +kernel
theorem dX2_tallyHarm_8 : decode cX2_tallyHarm 8 = .ok (.aload_n 0, 1) := by decide +kernel
theorem dX2_tallyHarm_9 : decode cX2_tallyHarm 9 = .ok (.getfield 15, 3) := by decide +kernel
theorem dX2_tallyHarm_12 : decode cX2_tallyHarm 12 = .ok (.iload_n 2, 1) := by decide +kernel
theorem dX2_tallyHarm_13 : decode cX2_tallyHarm 13 = .ok (.iconst 0, 1) := by decide +kernel
theorem dX2_tallyHarm_14 : decode cX2_tallyHarm 14 = .ok (.iastore, 1) := by decide +kernel
theorem dX2_tallyHarm_15 : decode cX2_tallyHarm 15 = .ok (.iinc 2 1, 3) := by decide +kernel
theorem dX2_tallyHarm_18 : decode cX2_tallyHarm 18 = .ok (.goto (-16), 3) := by decide +kernel
theorem dX2_tallyHarm_21 : decode cX2_tallyHarm 21 = .ok (.iconst 0, 1) := by decide +kernel
theorem dX2_tallyHarm_22 : decode cX2_tallyHarm 22 = .ok (.istore_n 2, 1) := by decide +kernel
theorem dX2_tallyHarm_23 : decode cX2_tallyHarm 23 = .ok (.iload_n 2, 1) := by decide +kernel
theorem dX2_tallyHarm_24 : decode cX2_tallyHarm 24 = .ok (.aload_n 0, 1) := by decide +kernel
theorem dX2_tallyHarm_25 : decode cX2_tallyHarm 25 = .ok (.invokevirtual 87, 3) := by decide +kernel
theorem dX2_tallyHarm_28 : decode cX2_tallyHarm 28 = .ok (.if_icmp .ge 32, 3) := by decide +kernel
theorem dX2_tallyHarm_31 : decode cX2_tallyHarm 31 = .ok (.aload_n 0, 1) := by decide +kernel
theorem dX2_tallyHarm_32 : decode cX2_tallyHarm 32 = .ok (.iload_n 2, 1) := by decide +kernel
theorem dX2_tallyHarm_33 : decode cX2_tallyHarm 33 = .ok (.invokevirtual 66, 3) := by decide +kernel
theorem dX2_tallyHarm_36 : decode cX2_tallyHarm 36 = .ok (.ifCond .eq 18, 3) := by decide +kernel
theorem dX2_tallyHarm_39 : decode cX2_tallyHarm 39 = .ok (.aload_n 0, 1) := by decide +kernel
theorem dX2_tallyHarm_40 : decode cX2_tallyHarm 40 = .ok (.getfield 15, 3) := by decide +kernel
theorem dX2_tallyHarm_43 : decode cX2_tallyHarm 43 = .ok (.aload_n 0, 1) := by decide +kernel
theorem dX2_tallyHarm_44 : decode cX2_tallyHarm 44 = .ok (.iload_n 2, 1) := by decide +kernel
theorem dX2_tallyHarm_45 : decode cX2_tallyHarm 45 = .ok (.aload_n 1, 1) := by decide +kernel
theorem dX2_tallyHarm_46 : decode cX2_tallyHarm 46 = .ok (.invokevirtual 91, 3) := by decide +kernel
theorem dX2_tallyHarm_49 : decode cX2_tallyHarm 49 = .ok (.dup2, 1) := by decide +kernel
theorem dX2_tallyHarm_50 : decode cX2_tallyHarm 50 = .ok (.iaload, 1) := by decide +kernel
theorem dX2_tallyHarm_51 : decode cX2_tallyHarm 51 = .ok (.iconst 1, 1) := by decide +kernel
theorem dX2_tallyHarm_52 : decode cX2_tallyHarm 52 = .ok (.iadd, 1) := by decide +kernel
theorem dX2_tallyHarm_53 : decode cX2_tallyHarm 53 = .ok (.iastore, 1) := by decide +kernel
theorem dX2_tallyHarm_54 : decode cX2_tallyHarm 54 = .ok (.iinc 2 1, 3) := by decide +kernel
theorem dX2_tallyHarm_57 : decode cX2_tallyHarm 57 = .ok (.goto (-34), 3) := by decide +kernel
theorem dX2_tallyHarm_60 : decode cX2_tallyHarm 60 = .ok (.return_, 1) := by decide +kernel
set_option maxRecDepth 20000 in
theorem ggX2_codeOfHarm_X2_codes : GoodIn wsX2_codeOfHarm wsX2_codes := goodIn_r _ [5, 6, 7, 8, 32, 33, 34, 35, 36, 37, 38, 39, 40, 41, 42, 43, 44, 45, 46, 47, 48, 49, 50, 51, 52] (by decide +kernel) (by decide +kernel)
set_option maxRecDepth 20000 in
theorem gX2_codeOfHarm_X2_codes : GoodIn wsX2_codeOfHarm (wsV RX2 87 RX2 yX2_codes wsX2_codes) := goodIn_app (goodIn_of _ (by decide +kernel)) ggX2_codeOfHarm_X2_codes
set_option maxRecDepth 20000 in
theorem ggX2_codeOfHarm_X2_isFlip : GoodIn wsX2_codeOfHarm wsX2_isFlip := goodIn_r _ [12, 13, 32, 33, 34, 35, 36] (by decide +kernel) (by decide +kernel)
set_option maxRecDepth 20000 in
theorem gX2_codeOfHarm_X2_isFlip : GoodIn wsX2_codeOfHarm (wsV RX2 66 RX2 yX2_isFlip wsX2_isFlip) := goodIn_app (goodIn_of _ (by decide +kernel)) ggX2_codeOfHarm_X2_isFlip
set_option maxRecDepth 20000 in
theorem ggX2_codeOfHarm_X2_harmOf : GoodIn wsX2_codeOfHarm wsX2_harmOf := goodIn_r _ [17, 18, 13, 19, 20, 4, 21, 22, 23, 24, 25, 26, 27, 28, 29, 30, 31, 32, 33, 34, 35, 36] (by decide +kernel) (by decide +kernel)
set_option maxRecDepth 20000 in
theorem gX2_codeOfHarm_X2_harmOf : GoodIn wsX2_codeOfHarm (wsV RX2 91 RX2 yX2_harmOf wsX2_harmOf) := goodIn_app (goodIn_of _ (by decide +kernel)) ggX2_codeOfHarm_X2_harmOf
theorem dX2_codeOfHarm_0 : decode cX2_codeOfHarm 0 = .ok (.iload_n 2, 1) := by decide +kernel
theorem dX2_codeOfHarm_1 : decode cX2_codeOfHarm 1 = .ok (.istore 4, 2) := by decide +kernel
theorem dX2_codeOfHarm_3 : decode cX2_codeOfHarm 3 = .ok (.iconst 0, 1) := by decide +kernel
theorem dX2_codeOfHarm_4 : decode cX2_codeOfHarm 4 = .ok (.istore 5, 2) := by decide +kernel
theorem dX2_codeOfHarm_6 : decode cX2_codeOfHarm 6 = .ok (.iload 5, 2) := by decide +kernel
theorem dX2_codeOfHarm_8 : decode cX2_codeOfHarm 8 = .ok (.aload_n 0, 1) := by decide +kernel
theorem dX2_codeOfHarm_9 : decode cX2_codeOfHarm 9 = .ok (.invokevirtual 87, 3) := by decide +kernel
theorem dX2_codeOfHarm_12 : decode cX2_codeOfHarm 12 = .ok (.if_icmp .ge 40, 3) := by decide +kernel
theorem dX2_codeOfHarm_15 : decode cX2_codeOfHarm 15 = .ok (.aload_n 0, 1) := by decide +kernel
theorem dX2_codeOfHarm_16 : decode cX2_codeOfHarm 16 = .ok (.iload 5, 2) := by decide +kernel
theorem dX2_codeOfHarm_18 : decode cX2_codeOfHarm 18 = .ok (.invokevirtual 66, 3) := by decide +kernel
theorem dX2_codeOfHarm_21 : decode cX2_codeOfHarm 21 = .ok (.ifCond .eq 25, 3) := by decide +kernel
theorem dX2_codeOfHarm_24 : decode cX2_codeOfHarm 24 = .ok (.aload_n 0, 1) := by decide +kernel
theorem dX2_codeOfHarm_25 : decode cX2_codeOfHarm 25 = .ok (.iload 5, 2) := by decide +kernel
theorem dX2_codeOfHarm_27 : decode cX2_codeOfHarm 27 = .ok (.aload_n 3, 1) := by decide +kernel
theorem dX2_codeOfHarm_28 : decode cX2_codeOfHarm 28 = .ok (.invokevirtual 91, 3) := by decide +kernel
theorem dX2_codeOfHarm_31 : decode cX2_codeOfHarm 31 = .ok (.iload_n 1, 1) := by decide +kernel
theorem dX2_codeOfHarm_32 : decode cX2_codeOfHarm 32 = .ok (.if_icmp .ne 14, 3) := by decide +kernel
theorem dX2_codeOfHarm_35 : decode cX2_codeOfHarm 35 = .ok (.iload 4, 2) := by decide +kernel
theorem dX2_codeOfHarm_37 : decode cX2_codeOfHarm 37 = .ok (.ifCond .ne 6, 3) := by decide +kernel
theorem dX2_codeOfHarm_40 : decode cX2_codeOfHarm 40 = .ok (.iload 5, 2) := by decide +kernel
theorem dX2_codeOfHarm_42 : decode cX2_codeOfHarm 42 = .ok (.ireturn, 1) := by decide +kernel
theorem dX2_codeOfHarm_43 : decode cX2_codeOfHarm 43 = .ok (.iinc 4 (-1), 3) := by decide +kernel
theorem dX2_codeOfHarm_46 : decode cX2_codeOfHarm 46 = .ok (.iinc 5 1, 3) := by decide +kernel
theorem dX2_codeOfHarm_49 : decode cX2_codeOfHarm 49 = .ok (.goto (-43), 3) := by decide +kernel
theorem dX2_codeOfHarm_52 : decode cX2_codeOfHarm 52 = .ok (.iconst (-1), 1) := by decide +kernel
theorem dX2_codeOfHarm_53 : decode cX2_codeOfHarm 53 = .ok (.ireturn, 1) := by decide +kernel
set_option maxRecDepth 20000 in
theorem ggX2_unreadFate_X1_of : GoodIn wsX2_unreadFate wsX1_of := goodIn_r _ [7] (by decide +kernel) (by decide +kernel)
set_option maxRecDepth 20000 in
theorem gX2_unreadFate_X1_of : GoodIn wsX2_unreadFate (va_wsS RX2 95 yX1_of wsX1_of) := goodIn_app (goodIn_of _ (by decide +kernel)) ggX2_unreadFate_X1_of
theorem dX2_unreadFate_0 : decode cX2_unreadFate 0 = .ok (.iconst 0, 1) := by decide +kernel
theorem dX2_unreadFate_1 : decode cX2_unreadFate 1 = .ok (.iload_n 1, 1) := by decide +kernel
theorem dX2_unreadFate_2 : decode cX2_unreadFate 2 = .ok (.iconst 0, 1) := by decide +kernel
theorem dX2_unreadFate_3 : decode cX2_unreadFate 3 = .ok (.aload_n 0, 1) := by decide +kernel
theorem dX2_unreadFate_4 : decode cX2_unreadFate 4 = .ok (.getfield 18, 3) := by decide +kernel
theorem dX2_unreadFate_7 : decode cX2_unreadFate 7 = .ok (.getfield 35, 3) := by decide +kernel
theorem dX2_unreadFate_10 : decode cX2_unreadFate 10 = .ok (.getfield 40, 3) := by decide +kernel
theorem dX2_unreadFate_13 : decode cX2_unreadFate 13 = .ok (.invokestatic 95, 3) := by decide +kernel
theorem dX2_unreadFate_16 : decode cX2_unreadFate 16 = .ok (.ireturn, 1) := by decide +kernel
set_option maxRecDepth 20000 in
theorem ggX2_fateFromReading_X5_lead : GoodIn wsX2_fateFromReading wsX5_lead := goodIn_r _ [11, 12, 13, 14, 15, 16, 17, 18, 19, 20, 21, 22, 23, 24, 25, 26, 27, 28, 29, 30, 31, 32, 33, 34, 35, 36, 37, 38, 111, 112, 113, 114, 115, 116, 101, 102, 103, 104, 105, 106, 107, 108, 109, 110, 117, 118, 119, 120] (by decide +kernel) (by decide +kernel)
set_option maxRecDepth 20000 in
theorem gX2_fateFromReading_X5_lead : GoodIn wsX2_fateFromReading (wsV RX2 99 RX5 yX5_lead wsX5_lead) := goodIn_app (goodIn_of _ (by decide +kernel)) ggX2_fateFromReading_X5_lead
set_option maxRecDepth 20000 in
theorem ggX2_fateFromReading_X3_goOn : GoodIn wsX2_fateFromReading wsX3_goOn := goodIn_r _ [42, 27, 32, 43, 44, 45, 25, 46, 28, 47, 48, 31, 49, 50, 51, 30, 52, 53, 54, 55, 56, 57, 58, 59, 60, 61, 62, 63, 64, 65, 66, 67, 68, 29, 69, 70, 71, 72, 33, 34, 35, 36, 37, 38, 73, 74, 75, 76, 101, 102, 103, 104, 105, 106, 107, 108, 109, 110, 117, 118, 119, 120] (by decide +kernel) (by decide +kernel)
set_option maxRecDepth 20000 in
theorem gX2_fateFromReading_X3_goOn : GoodIn wsX2_fateFromReading (wsV RX2 106 RX3 yX3_goOn wsX3_goOn) := goodIn_app (goodIn_of _ (by decide +kernel)) ggX2_fateFromReading_X3_goOn
set_option maxRecDepth 20000 in
theorem ggX2_fateFromReading_X1_of : GoodIn wsX2_fateFromReading wsX1_of := goodIn_r _ [80] (by decide +kernel) (by decide +kernel)
set_option maxRecDepth 20000 in
theorem gX2_fateFromReading_X1_of : GoodIn wsX2_fateFromReading (va_wsS RX2 95 yX1_of wsX1_of) := goodIn_app (goodIn_of _ (by decide +kernel)) ggX2_fateFromReading_X1_of
set_option maxRecDepth 20000 in
theorem ggX2_fateFromReading_X2_unlikePlaces : GoodIn wsX2_fateFromReading wsX2_unlikePlaces := goodIn_r _ [85, 1, 86, 87, 2, 88, 89, 90, 91, 92, 93, 94, 95, 96, 97, 98, 99, 100, 111, 112, 113, 114, 115, 116, 101, 102, 103, 104, 105, 106, 107, 108, 109, 110] (by decide +kernel) (by decide +kernel)
