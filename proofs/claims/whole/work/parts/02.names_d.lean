theorem dX5_nextUse_2 : decode cX5_nextUse 2 = .ok (.iload_n 3, 1) := by decide +kernel
theorem dX5_nextUse_3 : decode cX5_nextUse 3 = .ok (.aload_n 0, 1) := by decide +kernel
theorem dX5_nextUse_4 : decode cX5_nextUse 4 = .ok (.getfield 32, 3) := by decide +kernel
theorem dX5_nextUse_7 : decode cX5_nextUse 7 = .ok (.getfield 74, 3) := by decide +kernel
theorem dX5_nextUse_10 : decode cX5_nextUse 10 = .ok (.if_icmp .ge 31, 3) := by decide +kernel
theorem dX5_nextUse_13 : decode cX5_nextUse 13 = .ok (.aload_n 0, 1) := by decide +kernel
theorem dX5_nextUse_14 : decode cX5_nextUse 14 = .ok (.getfield 21, 3) := by decide +kernel
theorem dX5_nextUse_17 : decode cX5_nextUse 17 = .ok (.iload_n 3, 1) := by decide +kernel
theorem dX5_nextUse_18 : decode cX5_nextUse 18 = .ok (.iaload, 1) := by decide +kernel
theorem dX5_nextUse_19 : decode cX5_nextUse 19 = .ok (.aload_n 0, 1) := by decide +kernel
theorem dX5_nextUse_20 : decode cX5_nextUse 20 = .ok (.getfield 24, 3) := by decide +kernel
theorem dX5_nextUse_23 : decode cX5_nextUse 23 = .ok (.iload_n 3, 1) := by decide +kernel
theorem dX5_nextUse_24 : decode cX5_nextUse 24 = .ok (.iaload, 1) := by decide +kernel
theorem dX5_nextUse_25 : decode cX5_nextUse 25 = .ok (.ior, 1) := by decide +kernel
theorem dX5_nextUse_26 : decode cX5_nextUse 26 = .ok (.iload_n 1, 1) := by decide +kernel
theorem dX5_nextUse_27 : decode cX5_nextUse 27 = .ok (.ishr, 1) := by decide +kernel
theorem dX5_nextUse_28 : decode cX5_nextUse 28 = .ok (.iconst 1, 1) := by decide +kernel
theorem dX5_nextUse_29 : decode cX5_nextUse 29 = .ok (.iand, 1) := by decide +kernel
theorem dX5_nextUse_30 : decode cX5_nextUse 30 = .ok (.ifCond .eq 5, 3) := by decide +kernel
theorem dX5_nextUse_33 : decode cX5_nextUse 33 = .ok (.iload_n 3, 1) := by decide +kernel
theorem dX5_nextUse_34 : decode cX5_nextUse 34 = .ok (.ireturn, 1) := by decide +kernel
theorem dX5_nextUse_35 : decode cX5_nextUse 35 = .ok (.iinc 3 1, 3) := by decide +kernel
theorem dX5_nextUse_38 : decode cX5_nextUse 38 = .ok (.goto (-36), 3) := by decide +kernel
theorem dX5_nextUse_41 : decode cX5_nextUse 41 = .ok (.aload_n 0, 1) := by decide +kernel
theorem dX5_nextUse_42 : decode cX5_nextUse 42 = .ok (.getfield 32, 3) := by decide +kernel
theorem dX5_nextUse_45 : decode cX5_nextUse 45 = .ok (.getfield 74, 3) := by decide +kernel
theorem dX5_nextUse_48 : decode cX5_nextUse 48 = .ok (.ireturn, 1) := by decide +kernel
theorem dX5_isRead_0 : decode cX5_isRead 0 = .ok (.iload_n 2, 1) := by decide +kernel
theorem dX5_isRead_1 : decode cX5_isRead 1 = .ok (.aload_n 0, 1) := by decide +kernel
theorem dX5_isRead_2 : decode cX5_isRead 2 = .ok (.getfield 32, 3) := by decide +kernel
theorem dX5_isRead_5 : decode cX5_isRead 5 = .ok (.getfield 74, 3) := by decide +kernel
theorem dX5_isRead_8 : decode cX5_isRead 8 = .ok (.if_icmp .ge 20, 3) := by decide +kernel
theorem dX5_isRead_11 : decode cX5_isRead 11 = .ok (.aload_n 0, 1) := by decide +kernel
theorem dX5_isRead_12 : decode cX5_isRead 12 = .ok (.getfield 21, 3) := by decide +kernel
theorem dX5_isRead_15 : decode cX5_isRead 15 = .ok (.iload_n 2, 1) := by decide +kernel
theorem dX5_isRead_16 : decode cX5_isRead 16 = .ok (.iaload, 1) := by decide +kernel
theorem dX5_isRead_17 : decode cX5_isRead 17 = .ok (.iload_n 1, 1) := by decide +kernel
theorem dX5_isRead_18 : decode cX5_isRead 18 = .ok (.ishr, 1) := by decide +kernel
theorem dX5_isRead_19 : decode cX5_isRead 19 = .ok (.iconst 1, 1) := by decide +kernel
theorem dX5_isRead_20 : decode cX5_isRead 20 = .ok (.iand, 1) := by decide +kernel
theorem dX5_isRead_21 : decode cX5_isRead 21 = .ok (.ifCond .eq 7, 3) := by decide +kernel
theorem dX5_isRead_24 : decode cX5_isRead 24 = .ok (.iconst 1, 1) := by decide +kernel
theorem dX5_isRead_25 : decode cX5_isRead 25 = .ok (.goto 4, 3) := by decide +kernel
theorem dX5_isRead_28 : decode cX5_isRead 28 = .ok (.iconst 0, 1) := by decide +kernel
theorem dX5_isRead_29 : decode cX5_isRead 29 = .ok (.ireturn, 1) := by decide +kernel
theorem dX5_isWritten_0 : decode cX5_isWritten 0 = .ok (.iload_n 2, 1) := by decide +kernel
theorem dX5_isWritten_1 : decode cX5_isWritten 1 = .ok (.aload_n 0, 1) := by decide +kernel
theorem dX5_isWritten_2 : decode cX5_isWritten 2 = .ok (.getfield 32, 3) := by decide +kernel
theorem dX5_isWritten_5 : decode cX5_isWritten 5 = .ok (.getfield 74, 3) := by decide +kernel
theorem dX5_isWritten_8 : decode cX5_isWritten 8 = .ok (.if_icmp .ge 20, 3) := by decide +kernel
theorem dX5_isWritten_11 : decode cX5_isWritten 11 = .ok (.aload_n 0, 1) := by decide +kernel
theorem dX5_isWritten_12 : decode cX5_isWritten 12 = .ok (.getfield 24, 3) := by decide +kernel
theorem dX5_isWritten_15 : decode cX5_isWritten 15 = .ok (.iload_n 2, 1) := by decide +kernel
theorem dX5_isWritten_16 : decode cX5_isWritten 16 = .ok (.iaload, 1) := by decide +kernel
theorem dX5_isWritten_17 : decode cX5_isWritten 17 = .ok (.iload_n 1, 1) := by decide +kernel
theorem dX5_isWritten_18 : decode cX5_isWritten 18 = .ok (.ishr, 1) := by decide +kernel
theorem dX5_isWritten_19 : decode cX5_isWritten 19 = .ok (.iconst 1, 1) := by decide +kernel
theorem dX5_isWritten_20 : decode cX5_isWritten 20 = .ok (.iand, 1) := by decide +kernel
theorem dX5_isWritten_21 : decode cX5_isWritten 21 = .ok (.ifCond .eq 7, 3) := by decide +kernel
theorem dX5_isWritten_24 : decode cX5_isWritten 24 = .ok (.iconst 1, 1) := by decide +kernel
theorem dX5_isWritten_25 : decode cX5_isWritten 25 = .ok (.goto 4, 3) := by decide +kernel
theorem dX5_isWritten_28 : decode cX5_isWritten 28 = .ok (.iconst 0, 1) := by decide +kernel
theorem dX5_isWritten_29 : decode cX5_isWritten 29 = .ok (.ireturn, 1) := by decide +kernel
set_option maxRecDepth 20000 in
theorem ggX6_init_X4_init : GoodIn wsX6_init wsX4_init := goodIn_r _ [25, 26, 2, 3, 8, 27, 28, 29, 67, 68, 69, 70] (by decide +kernel) (by decide +kernel)
set_option maxRecDepth 20000 in
theorem gX6_init_X4_init_n9 : GoodIn wsX6_init (wsX4_init) := ggX6_init_X4_init
set_option maxRecDepth 20000 in
theorem ggX6_init_X5_init : GoodIn wsX6_init wsX5_init := goodIn_r _ [32, 33, 2, 3, 8, 34, 35, 36, 37, 38, 39, 40, 41, 42, 43, 44, 45, 46, 47, 48, 49, 50, 79, 80, 81, 82, 83, 84, 94, 95, 96, 97, 98, 99, 100, 101, 102, 103] (by decide +kernel) (by decide +kernel)
set_option maxRecDepth 20000 in
theorem gX6_init_X5_init : GoodIn wsX6_init (wsX5_init) := ggX6_init_X5_init
set_option maxRecDepth 20000 in
theorem ggX6_init_X2_init : GoodIn wsX6_init wsX2_init := goodIn_r _ [53, 54, 2, 3, 8, 55, 56, 57, 58, 40, 41, 59, 60, 44, 45, 46, 47, 48, 49, 50, 85, 86, 87, 88, 89, 94, 95, 96, 97, 98, 99, 100, 101, 102, 103] (by decide +kernel) (by decide +kernel)
set_option maxRecDepth 20000 in
theorem gX6_init_X2_init : GoodIn wsX6_init (wsX2_init) := ggX6_init_X2_init
set_option maxRecDepth 20000 in
theorem ggX6_init_X0_init : GoodIn wsX6_init wsX0_init := goodIn_r _ [62, 63, 2, 3, 8, 64, 65, 66, 90, 91, 92, 93] (by decide +kernel) (by decide +kernel)
set_option maxRecDepth 20000 in
theorem gX6_init_X0_init_n43 : GoodIn wsX6_init (wsX0_init) := ggX6_init_X0_init
theorem dX6_init_0 : decode cX6_init 0 = .ok (.aload_n 0, 1) := by decide +kernel
theorem dX6_init_1 : decode cX6_init 1 = .ok (.invokespecial 1, 3) := by decide +kernel
theorem dX6_init_4 : decode cX6_init 4 = .ok (.aload_n 0, 1) := by decide +kernel
theorem dX6_init_5 : decode cX6_init 5 = .ok (.new 7, 3) := by decide +kernel
theorem dX6_init_8 : decode cX6_init 8 = .ok (.dup, 1) := by decide +kernel
theorem dX6_init_9 : decode cX6_init 9 = .ok (.invokespecial 9, 3) := by decide +kernel
theorem dX6_init_12 : decode cX6_init 12 = .ok (.putfield 10, 3) := by decide +kernel
theorem dX6_init_15 : decode cX6_init 15 = .ok (.aload_n 0, 1) := by decide +kernel
theorem dX6_init_16 : decode cX6_init 16 = .ok (.bipush 8, 2) := by decide +kernel
theorem dX6_init_18 : decode cX6_init 18 = .ok (.newarray .int, 2) := by decide +kernel
theorem dX6_init_20 : decode cX6_init 20 = .ok (.putfield 16, 3) := by decide +kernel
theorem dX6_init_23 : decode cX6_init 23 = .ok (.aload_n 0, 1) := by decide +kernel
theorem dX6_init_24 : decode cX6_init 24 = .ok (.bipush 8, 2) := by decide +kernel
theorem dX6_init_26 : decode cX6_init 26 = .ok (.newarray .int, 2) := by decide +kernel
theorem dX6_init_28 : decode cX6_init 28 = .ok (.putfield 20, 3) := by decide +kernel
theorem dX6_init_31 : decode cX6_init 31 = .ok (.aload_n 0, 1) := by decide +kernel
theorem dX6_init_32 : decode cX6_init 32 = .ok (.new 23, 3) := by decide +kernel
theorem dX6_init_35 : decode cX6_init 35 = .ok (.dup, 1) := by decide +kernel
theorem dX6_init_36 : decode cX6_init 36 = .ok (.aload_n 0, 1) := by decide +kernel
theorem dX6_init_37 : decode cX6_init 37 = .ok (.getfield 10, 3) := by decide +kernel
theorem dX6_init_40 : decode cX6_init 40 = .ok (.invokespecial 25, 3) := by decide +kernel
theorem dX6_init_43 : decode cX6_init 43 = .ok (.putfield 28, 3) := by decide +kernel
theorem dX6_init_46 : decode cX6_init 46 = .ok (.aload_n 0, 1) := by decide +kernel
theorem dX6_init_47 : decode cX6_init 47 = .ok (.new 32, 3) := by decide +kernel
theorem dX6_init_50 : decode cX6_init 50 = .ok (.dup, 1) := by decide +kernel
theorem dX6_init_51 : decode cX6_init 51 = .ok (.aload_n 0, 1) := by decide +kernel
theorem dX6_init_52 : decode cX6_init 52 = .ok (.getfield 10, 3) := by decide +kernel
theorem dX6_init_55 : decode cX6_init 55 = .ok (.aload_n 0, 1) := by decide +kernel
theorem dX6_init_56 : decode cX6_init 56 = .ok (.getfield 28, 3) := by decide +kernel
theorem dX6_init_59 : decode cX6_init 59 = .ok (.invokespecial 34, 3) := by decide +kernel
theorem dX6_init_62 : decode cX6_init 62 = .ok (.putfield 37, 3) := by decide +kernel
theorem dX6_init_65 : decode cX6_init 65 = .ok (.aload_n 0, 1) := by decide +kernel
theorem dX6_init_66 : decode cX6_init 66 = .ok (.new 41, 3) := by decide +kernel
theorem dX6_init_69 : decode cX6_init 69 = .ok (.dup, 1) := by decide +kernel
theorem dX6_init_70 : decode cX6_init 70 = .ok (.invokespecial 43, 3) := by decide +kernel
theorem dX6_init_73 : decode cX6_init 73 = .ok (.putfield 44, 3) := by decide +kernel
theorem dX6_init_76 : decode cX6_init 76 = .ok (.aload_n 0, 1) := by decide +kernel
theorem dX6_init_77 : decode cX6_init 77 = .ok (.iconst 1, 1) := by decide +kernel
theorem dX6_init_78 : decode cX6_init 78 = .ok (.putfield 48, 3) := by decide +kernel
theorem dX6_init_81 : decode cX6_init 81 = .ok (.return_, 1) := by decide +kernel
set_option maxRecDepth 20000 in
theorem ggX6_order_X4_fits : GoodIn wsX6_order wsX4_fits := goodIn_r _ [7, 8, 9, 10, 11, 12, 6, 13] (by decide +kernel) (by decide +kernel)
set_option maxRecDepth 20000 in
theorem gX6_order_X4_fits : GoodIn wsX6_order (va_wsS RX6 52 yX4_fits wsX4_fits) := goodIn_app (goodIn_of _ (by decide +kernel)) ggX6_order_X4_fits
set_option maxRecDepth 20000 in
theorem ggX6_order_X4_put : GoodIn wsX6_order wsX4_put := goodIn_r _ [17, 18, 19, 20, 29, 30, 31, 32] (by decide +kernel) (by decide +kernel)
set_option maxRecDepth 20000 in
theorem gX6_order_X4_put : GoodIn wsX6_order (wsV RX6 60 RX4 yX4_put wsX4_put) := goodIn_app (goodIn_of _ (by decide +kernel)) ggX6_order_X4_put
theorem dX6_order_0 : decode cX6_order 0 = .ok (.iload_n 1, 1) := by decide +kernel
theorem dX6_order_1 : decode cX6_order 1 = .ok (.iload_n 2, 1) := by decide +kernel
theorem dX6_order_2 : decode cX6_order 2 = .ok (.iload_n 3, 1) := by decide +kernel
theorem dX6_order_3 : decode cX6_order 3 = .ok (.invokestatic 52, 3) := by decide +kernel
theorem dX6_order_6 : decode cX6_order 6 = .ok (.ifCond .ne 6, 3) := by decide +kernel
theorem dX6_order_9 : decode cX6_order 9 = .ok (.bipush (-102), 2) := by decide +kernel
theorem dX6_order_11 : decode cX6_order 11 = .ok (.ireturn, 1) := by decide +kernel
theorem dX6_order_12 : decode cX6_order 12 = .ok (.aload_n 0, 1) := by decide +kernel
theorem dX6_order_13 : decode cX6_order 13 = .ok (.getfield 10, 3) := by decide +kernel
theorem dX6_order_16 : decode cX6_order 16 = .ok (.getfield 56, 3) := by decide +kernel
theorem dX6_order_19 : decode cX6_order 19 = .ok (.bipush 20, 2) := by decide +kernel
theorem dX6_order_21 : decode cX6_order 21 = .ok (.if_icmp .lt 6, 3) := by decide +kernel
theorem dX6_order_24 : decode cX6_order 24 = .ok (.bipush (-104), 2) := by decide +kernel
theorem dX6_order_26 : decode cX6_order 26 = .ok (.ireturn, 1) := by decide +kernel
theorem dX6_order_27 : decode cX6_order 27 = .ok (.aload_n 0, 1) := by decide +kernel
theorem dX6_order_28 : decode cX6_order 28 = .ok (.getfield 10, 3) := by decide +kernel
theorem dX6_order_31 : decode cX6_order 31 = .ok (.aload_n 0, 1) := by decide +kernel
theorem dX6_order_32 : decode cX6_order 32 = .ok (.getfield 10, 3) := by decide +kernel
theorem dX6_order_35 : decode cX6_order 35 = .ok (.getfield 56, 3) := by decide +kernel
theorem dX6_order_38 : decode cX6_order 38 = .ok (.iload_n 1, 1) := by decide +kernel
theorem dX6_order_39 : decode cX6_order 39 = .ok (.iload_n 2, 1) := by decide +kernel
theorem dX6_order_40 : decode cX6_order 40 = .ok (.iload_n 3, 1) := by decide +kernel
theorem dX6_order_41 : decode cX6_order 41 = .ok (.invokevirtual 60, 3) := by decide +kernel
theorem dX6_order_44 : decode cX6_order 44 = .ok (.aload_n 0, 1) := by decide +kernel
theorem dX6_order_45 : decode cX6_order 45 = .ok (.getfield 10, 3) := by decide +kernel
theorem dX6_order_48 : decode cX6_order 48 = .ok (.dup, 1) := by decide +kernel
theorem dX6_order_49 : decode cX6_order 49 = .ok (.getfield 56, 3) := by decide +kernel
theorem dX6_order_52 : decode cX6_order 52 = .ok (.iconst 1, 1) := by decide +kernel
theorem dX6_order_53 : decode cX6_order 53 = .ok (.iadd, 1) := by decide +kernel
theorem dX6_order_54 : decode cX6_order 54 = .ok (.putfield 56, 3) := by decide +kernel
theorem dX6_order_57 : decode cX6_order 57 = .ok (.aload_n 0, 1) := by decide +kernel
theorem dX6_order_58 : decode cX6_order 58 = .ok (.iconst 1, 1) := by decide +kernel
theorem dX6_order_59 : decode cX6_order 59 = .ok (.putfield 48, 3) := by decide +kernel
theorem dX6_order_62 : decode cX6_order 62 = .ok (.aload_n 0, 1) := by decide +kernel
theorem dX6_order_63 : decode cX6_order 63 = .ok (.getfield 10, 3) := by decide +kernel
theorem dX6_order_66 : decode cX6_order 66 = .ok (.getfield 56, 3) := by decide +kernel
theorem dX6_order_69 : decode cX6_order 69 = .ok (.ireturn, 1) := by decide +kernel
set_option maxRecDepth 20000 in
theorem ggX6_change_X4_has : GoodIn wsX6_change wsX4_has := goodIn_r _ [7, 8, 33, 34, 35, 36] (by decide +kernel) (by decide +kernel)
set_option maxRecDepth 20000 in
theorem gX6_change_X4_has : GoodIn wsX6_change (wsV RX6 64 RX4 yX4_has wsX4_has) := goodIn_app (goodIn_of _ (by decide +kernel)) ggX6_change_X4_has
set_option maxRecDepth 20000 in
theorem ggX6_change_X4_fits : GoodIn wsX6_change wsX4_fits := goodIn_r _ [11, 12, 13, 14, 15, 16, 6, 17] (by decide +kernel) (by decide +kernel)
set_option maxRecDepth 20000 in
theorem gX6_change_X4_fits : GoodIn wsX6_change (va_wsS RX6 52 yX4_fits wsX4_fits) := goodIn_app (goodIn_of _ (by decide +kernel)) ggX6_change_X4_fits
set_option maxRecDepth 20000 in
theorem ggX6_change_X4_put : GoodIn wsX6_change wsX4_put := goodIn_r _ [21, 22, 23, 24, 33, 34, 35, 36] (by decide +kernel) (by decide +kernel)
set_option maxRecDepth 20000 in
theorem gX6_change_X4_put : GoodIn wsX6_change (wsV RX6 60 RX4 yX4_put wsX4_put) := goodIn_app (goodIn_of _ (by decide +kernel)) ggX6_change_X4_put
theorem dX6_change_0 : decode cX6_change 0 = .ok (.aload_n 0, 1) := by decide +kernel
theorem dX6_change_1 : decode cX6_change 1 = .ok (.getfield 10, 3) := by decide +kernel
theorem dX6_change_4 : decode cX6_change 4 = .ok (.iload_n 1, 1) := by decide +kernel
theorem dX6_change_5 : decode cX6_change 5 = .ok (.invokevirtual 64, 3) := by decide +kernel
theorem dX6_change_8 : decode cX6_change 8 = .ok (.ifCond .ne 6, 3) := by decide +kernel
theorem dX6_change_11 : decode cX6_change 11 = .ok (.bipush (-101), 2) := by decide +kernel
theorem dX6_change_13 : decode cX6_change 13 = .ok (.ireturn, 1) := by decide +kernel
theorem dX6_change_14 : decode cX6_change 14 = .ok (.iload_n 2, 1) := by decide +kernel
theorem dX6_change_15 : decode cX6_change 15 = .ok (.iload_n 3, 1) := by decide +kernel
theorem dX6_change_16 : decode cX6_change 16 = .ok (.iload 4, 2) := by decide +kernel
theorem dX6_change_18 : decode cX6_change 18 = .ok (.invokestatic 52, 3) := by decide +kernel
theorem dX6_change_21 : decode cX6_change 21 = .ok (.ifCond .ne 6, 3) := by decide +kernel
theorem dX6_change_24 : decode cX6_change 24 = .ok (.bipush (-102), 2) := by decide +kernel
theorem dX6_change_26 : decode cX6_change 26 = .ok (.ireturn, 1) := by decide +kernel
theorem dX6_change_27 : decode cX6_change 27 = .ok (.aload_n 0, 1) := by decide +kernel
theorem dX6_change_28 : decode cX6_change 28 = .ok (.getfield 10, 3) := by decide +kernel
theorem dX6_change_31 : decode cX6_change 31 = .ok (.iload_n 1, 1) := by decide +kernel
theorem dX6_change_32 : decode cX6_change 32 = .ok (.iload_n 2, 1) := by decide +kernel
theorem dX6_change_33 : decode cX6_change 33 = .ok (.iload_n 3, 1) := by decide +kernel
theorem dX6_change_34 : decode cX6_change 34 = .ok (.iload 4, 2) := by decide +kernel
theorem dX6_change_36 : decode cX6_change 36 = .ok (.invokevirtual 60, 3) := by decide +kernel
theorem dX6_change_39 : decode cX6_change 39 = .ok (.aload_n 0, 1) := by decide +kernel
theorem dX6_change_40 : decode cX6_change 40 = .ok (.iconst 1, 1) := by decide +kernel
theorem dX6_change_41 : decode cX6_change 41 = .ok (.putfield 48, 3) := by decide +kernel
theorem dX6_change_44 : decode cX6_change 44 = .ok (.iconst 1, 1) := by decide +kernel
theorem dX6_change_45 : decode cX6_change 45 = .ok (.ireturn, 1) := by decide +kernel
theorem dX6_clear_0 : decode cX6_clear 0 = .ok (.aload_n 0, 1) := by decide +kernel
theorem dX6_clear_1 : decode cX6_clear 1 = .ok (.getfield 10, 3) := by decide +kernel
theorem dX6_clear_4 : decode cX6_clear 4 = .ok (.getfield 56, 3) := by decide +kernel
theorem dX6_clear_7 : decode cX6_clear 7 = .ok (.istore_n 1, 1) := by decide +kernel
theorem dX6_clear_8 : decode cX6_clear 8 = .ok (.aload_n 0, 1) := by decide +kernel
theorem dX6_clear_9 : decode cX6_clear 9 = .ok (.getfield 10, 3) := by decide +kernel
theorem dX6_clear_12 : decode cX6_clear 12 = .ok (.iconst 0, 1) := by decide +kernel
theorem dX6_clear_13 : decode cX6_clear 13 = .ok (.putfield 56, 3) := by decide +kernel
theorem dX6_clear_16 : decode cX6_clear 16 = .ok (.aload_n 0, 1) := by decide +kernel
theorem dX6_clear_17 : decode cX6_clear 17 = .ok (.iconst 1, 1) := by decide +kernel
theorem dX6_clear_18 : decode cX6_clear 18 = .ok (.putfield 48, 3) := by decide +kernel
theorem dX6_clear_21 : decode cX6_clear 21 = .ok (.iload_n 1, 1) := by decide +kernel
theorem dX6_clear_22 : decode cX6_clear 22 = .ok (.ireturn, 1) := by decide +kernel
set_option maxRecDepth 20000 in
theorem ggX6_cell_X6_isCell : GoodIn wsX6_cell wsX6_isCell := goodIn_r _ [6] (by decide +kernel) (by decide +kernel)
set_option maxRecDepth 20000 in
theorem gX6_cell_X6_isCell : GoodIn wsX6_cell (va_wsS RX6 68 yX6_isCell wsX6_isCell) := goodIn_app (goodIn_of _ (by decide +kernel)) ggX6_cell_X6_isCell
theorem dX6_cell_0 : decode cX6_cell 0 = .ok (.iload_n 1, 1) := by decide +kernel
theorem dX6_cell_1 : decode cX6_cell 1 = .ok (.invokestatic 68, 3) := by decide +kernel
theorem dX6_cell_4 : decode cX6_cell 4 = .ok (.ifCond .ne 6, 3) := by decide +kernel
theorem dX6_cell_7 : decode cX6_cell 7 = .ok (.bipush (-101), 2) := by decide +kernel
theorem dX6_cell_9 : decode cX6_cell 9 = .ok (.ireturn, 1) := by decide +kernel
theorem dX6_cell_10 : decode cX6_cell 10 = .ok (.iload_n 2, 1) := by decide +kernel
theorem dX6_cell_11 : decode cX6_cell 11 = .ok (.ifCond .lt 10, 3) := by decide +kernel
theorem dX6_cell_14 : decode cX6_cell 14 = .ok (.iload_n 2, 1) := by decide +kernel
theorem dX6_cell_15 : decode cX6_cell 15 = .ok (.sipush 255, 3) := by decide +kernel
theorem dX6_cell_18 : decode cX6_cell 18 = .ok (.if_icmp .le 6, 3) := by decide +kernel
theorem dX6_cell_21 : decode cX6_cell 21 = .ok (.bipush (-102), 2) := by decide +kernel
theorem dX6_cell_23 : decode cX6_cell 23 = .ok (.ireturn, 1) := by decide +kernel
theorem dX6_cell_24 : decode cX6_cell 24 = .ok (.aload_n 0, 1) := by decide +kernel
theorem dX6_cell_25 : decode cX6_cell 25 = .ok (.getfield 16, 3) := by decide +kernel
theorem dX6_cell_28 : decode cX6_cell 28 = .ok (.iload_n 1, 1) := by decide +kernel
theorem dX6_cell_29 : decode cX6_cell 29 = .ok (.iaload, 1) := by decide +kernel
theorem dX6_cell_30 : decode cX6_cell 30 = .ok (.istore_n 3, 1) := by decide +kernel
theorem dX6_cell_31 : decode cX6_cell 31 = .ok (.aload_n 0, 1) := by decide +kernel
theorem dX6_cell_32 : decode cX6_cell 32 = .ok (.getfield 16, 3) := by decide +kernel
theorem dX6_cell_35 : decode cX6_cell 35 = .ok (.iload_n 1, 1) := by decide +kernel
theorem dX6_cell_36 : decode cX6_cell 36 = .ok (.iload_n 2, 1) := by decide +kernel
theorem dX6_cell_37 : decode cX6_cell 37 = .ok (.iastore, 1) := by decide +kernel
theorem dX6_cell_38 : decode cX6_cell 38 = .ok (.aload_n 0, 1) := by decide +kernel
theorem dX6_cell_39 : decode cX6_cell 39 = .ok (.iconst 1, 1) := by decide +kernel
theorem dX6_cell_40 : decode cX6_cell 40 = .ok (.putfield 48, 3) := by decide +kernel
theorem dX6_cell_43 : decode cX6_cell 43 = .ok (.iload_n 3, 1) := by decide +kernel
theorem dX6_cell_44 : decode cX6_cell 44 = .ok (.ireturn, 1) := by decide +kernel
set_option maxRecDepth 20000 in
theorem ggX6_check_X6_isCell : GoodIn wsX6_check wsX6_isCell := goodIn_r _ [5] (by decide +kernel) (by decide +kernel)
set_option maxRecDepth 20000 in
theorem gX6_check_X6_isCell : GoodIn wsX6_check (va_wsS RX6 68 yX6_isCell wsX6_isCell) := goodIn_app (goodIn_of _ (by decide +kernel)) ggX6_check_X6_isCell
theorem dX6_check_0 : decode cX6_check 0 = .ok (.iload_n 1, 1) := by decide +kernel
theorem dX6_check_1 : decode cX6_check 1 = .ok (.invokestatic 68, 3) := by decide +kernel
theorem dX6_check_4 : decode cX6_check 4 = .ok (.ifCond .ne 6, 3) := by decide +kernel
theorem dX6_check_7 : decode cX6_check 7 = .ok (.bipush (-101), 2) := by decide +kernel
theorem dX6_check_9 : decode cX6_check 9 = .ok (.ireturn, 1) := by decide +kernel
theorem dX6_check_10 : decode cX6_check 10 = .ok (.iload_n 2, 1) := by decide +kernel
theorem dX6_check_11 : decode cX6_check 11 = .ok (.ifCond .lt 8, 3) := by decide +kernel
theorem dX6_check_14 : decode cX6_check 14 = .ok (.iload_n 2, 1) := by decide +kernel
theorem dX6_check_15 : decode cX6_check 15 = .ok (.iconst 4, 1) := by decide +kernel
theorem dX6_check_16 : decode cX6_check 16 = .ok (.if_icmp .lt 6, 3) := by decide +kernel
theorem dX6_check_19 : decode cX6_check 19 = .ok (.bipush (-102), 2) := by decide +kernel
theorem dX6_check_21 : decode cX6_check 21 = .ok (.ireturn, 1) := by decide +kernel
theorem dX6_check_22 : decode cX6_check 22 = .ok (.aload_n 0, 1) := by decide +kernel
theorem dX6_check_23 : decode cX6_check 23 = .ok (.getfield 20, 3) := by decide +kernel
theorem dX6_check_26 : decode cX6_check 26 = .ok (.iload_n 1, 1) := by decide +kernel
theorem dX6_check_27 : decode cX6_check 27 = .ok (.iaload, 1) := by decide +kernel
theorem dX6_check_28 : decode cX6_check 28 = .ok (.istore_n 3, 1) := by decide +kernel
theorem dX6_check_29 : decode cX6_check 29 = .ok (.aload_n 0, 1) := by decide +kernel
theorem dX6_check_30 : decode cX6_check 30 = .ok (.getfield 20, 3) := by decide +kernel
theorem dX6_check_33 : decode cX6_check 33 = .ok (.iload_n 1, 1) := by decide +kernel
theorem dX6_check_34 : decode cX6_check 34 = .ok (.iload_n 2, 1) := by decide +kernel
theorem dX6_check_35 : decode cX6_check 35 = .ok (.iastore, 1) := by decide +kernel
theorem dX6_check_36 : decode cX6_check 36 = .ok (.iload_n 3, 1) := by decide +kernel
theorem dX6_check_37 : decode cX6_check 37 = .ok (.ireturn, 1) := by decide +kernel
set_option maxRecDepth 20000 in
theorem ggX6_run_X6_plainRun : GoodIn wsX6_run wsX6_plainRun := goodIn_r _ [6, 7, 8, 9, 10, 11, 12, 13, 14, 15, 16, 17, 18, 19, 20, 21, 22, 23, 24, 25, 26, 27, 28, 29, 30, 31, 32, 33, 34, 35, 36, 37, 38, 39, 40, 41, 42, 43, 44, 45, 46, 47, 48, 49, 50, 51, 52, 53, 54, 55, 56, 57, 58, 59, 60, 61, 62, 63, 64, 65, 66, 67, 68, 69, 70, 71, 72, 73, 74, 75, 76, 77, 5, 78, 79, 80, 81, 82, 83, 84, 85, 86, 87, 88, 99, 100, 101, 102, 103, 104, 105, 106, 107, 108, 109, 110, 111, 112, 89, 90, 91, 92, 93, 94, 95, 96, 97, 98, 113, 114, 115, 116, 117, 118, 119, 120, 121] (by decide +kernel) (by decide +kernel)
set_option maxRecDepth 20000 in
theorem gX6_run_X6_plainRun : GoodIn wsX6_run (wsV RX6 71 RX6 yX6_plainRun wsX6_plainRun) := goodIn_app (goodIn_of _ (by decide +kernel)) ggX6_run_X6_plainRun
theorem dX6_run_0 : decode cX6_run 0 = .ok (.aload_n 0, 1) := by decide +kernel
theorem dX6_run_1 : decode cX6_run 1 = .ok (.invokevirtual 71, 3) := by decide +kernel
theorem dX6_run_4 : decode cX6_run 4 = .ok (.getfield 75, 3) := by decide +kernel
theorem dX6_run_7 : decode cX6_run 7 = .ok (.ireturn, 1) := by decide +kernel
set_option maxRecDepth 20000 in
theorem ggX6_ticks_X6_plainRun : GoodIn wsX6_ticks wsX6_plainRun := goodIn_r _ [6, 7, 8, 9, 10, 11, 12, 13, 14, 15, 16, 17, 18, 19, 20, 21, 22, 23, 24, 25, 26, 27, 28, 29, 30, 31, 32, 33, 34, 35, 36, 37, 38, 39, 40, 41, 42, 43, 44, 45, 46, 47, 48, 49, 50, 51, 52, 53, 54, 55, 56, 57, 58, 59, 60, 61, 62, 63, 64, 65, 66, 67, 68, 69, 70, 71, 72, 73, 74, 75, 76, 77, 5, 78, 79, 80, 81, 82, 83, 84, 85, 86, 87, 88, 99, 100, 101, 102, 103, 104, 105, 106, 107, 108, 109, 110, 111, 112, 89, 90, 91, 92, 93, 94, 95, 96, 97, 98, 113, 114, 115, 116, 117, 118, 119, 120, 121] (by decide +kernel) (by decide +kernel)
set_option maxRecDepth 20000 in
theorem gX6_ticks_X6_plainRun : GoodIn wsX6_ticks (wsV RX6 71 RX6 yX6_plainRun wsX6_plainRun) := goodIn_app (goodIn_of _ (by decide +kernel)) ggX6_ticks_X6_plainRun
theorem dX6_ticks_0 : decode cX6_ticks 0 = .ok (.aload_n 0, 1) := by decide +kernel
theorem dX6_ticks_1 : decode cX6_ticks 1 = .ok (.invokevirtual 71, 3) := by decide +kernel
theorem dX6_ticks_4 : decode cX6_ticks 4 = .ok (.getfield 80, 3) := by decide +kernel
theorem dX6_ticks_7 : decode cX6_ticks 7 = .ok (.ireturn, 1) := by decide +kernel
set_option maxRecDepth 20000 in
theorem ggX6_many_X6_plainRun : GoodIn wsX6_many wsX6_plainRun := goodIn_r _ [6, 7, 8, 9, 10, 11, 12, 13, 14, 15, 16, 17, 18, 19, 20, 21, 22, 23, 24, 25, 26, 27, 28, 29, 30, 31, 32, 33, 34, 35, 36, 37, 38, 39, 40, 41, 42, 43, 44, 45, 46, 47, 48, 49, 50, 51, 52, 53, 54, 55, 56, 57, 58, 59, 60, 61, 62, 63, 64, 65, 66, 67, 68, 69, 70, 71, 72, 73, 74, 75, 76, 77, 5, 78, 79, 80, 81, 82, 83, 84, 85, 86, 87, 88, 99, 100, 101, 102, 103, 104, 105, 106, 107, 108, 109, 110, 111, 112, 89, 90, 91, 92, 93, 94, 95, 96, 97, 98, 113, 114, 115, 116, 117, 118, 119, 120, 121] (by decide +kernel) (by decide +kernel)
set_option maxRecDepth 20000 in
theorem gX6_many_X6_plainRun : GoodIn wsX6_many (wsV RX6 71 RX6 yX6_plainRun wsX6_plainRun) := goodIn_app (goodIn_of _ (by decide +kernel)) ggX6_many_X6_plainRun
theorem dX6_many_0 : decode cX6_many 0 = .ok (.aload_n 0, 1) := by decide +kernel
theorem dX6_many_1 : decode cX6_many 1 = .ok (.invokevirtual 71, 3) := by decide +kernel
theorem dX6_many_4 : decode cX6_many 4 = .ok (.getfield 83, 3) := by decide +kernel
theorem dX6_many_7 : decode cX6_many 7 = .ok (.ireturn, 1) := by decide +kernel
set_option maxRecDepth 20000 in
theorem ggX6_told_X6_plainRun : GoodIn wsX6_told wsX6_plainRun := goodIn_r _ [7, 8, 9, 10, 11, 12, 13, 14, 15, 16, 17, 18, 19, 20, 21, 22, 23, 24, 25, 26, 27, 28, 29, 30, 31, 32, 33, 34, 35, 36, 37, 38, 39, 40, 41, 42, 43, 44, 45, 46, 47, 48, 49, 50, 51, 52, 53, 54, 55, 56, 57, 58, 59, 60, 61, 62, 63, 64, 65, 66, 67, 68, 69, 70, 71, 72, 73, 74, 75, 76, 77, 78, 6, 79, 80, 81, 82, 83, 84, 85, 86, 87, 88, 89, 100, 101, 102, 103, 104, 105, 106, 107, 108, 109, 110, 111, 112, 113, 90, 91, 92, 93, 94, 95, 96, 97, 98, 99, 114, 115, 116, 117, 118, 119, 120, 121, 122] (by decide +kernel) (by decide +kernel)
set_option maxRecDepth 20000 in
theorem gX6_told_X6_plainRun : GoodIn wsX6_told (wsV RX6 71 RX6 yX6_plainRun wsX6_plainRun) := goodIn_app (goodIn_of _ (by decide +kernel)) ggX6_told_X6_plainRun
theorem dX6_told_0 : decode cX6_told 0 = .ok (.aload_n 0, 1) := by decide +kernel
theorem dX6_told_1 : decode cX6_told 1 = .ok (.invokevirtual 71, 3) := by decide +kernel
theorem dX6_told_4 : decode cX6_told 4 = .ok (.astore_n 2, 1) := by decide +kernel
theorem dX6_told_5 : decode cX6_told 5 = .ok (.iload_n 1, 1) := by decide +kernel
theorem dX6_told_6 : decode cX6_told 6 = .ok (.ifCond .lt 11, 3) := by decide +kernel
theorem dX6_told_9 : decode cX6_told 9 = .ok (.iload_n 1, 1) := by decide +kernel
theorem dX6_told_10 : decode cX6_told 10 = .ok (.aload_n 2, 1) := by decide +kernel
theorem dX6_told_11 : decode cX6_told 11 = .ok (.getfield 83, 3) := by decide +kernel
theorem dX6_told_14 : decode cX6_told 14 = .ok (.if_icmp .lt 5, 3) := by decide +kernel
theorem dX6_told_17 : decode cX6_told 17 = .ok (.iconst (-1), 1) := by decide +kernel
theorem dX6_told_18 : decode cX6_told 18 = .ok (.ireturn, 1) := by decide +kernel
theorem dX6_told_19 : decode cX6_told 19 = .ok (.aload_n 2, 1) := by decide +kernel
theorem dX6_told_20 : decode cX6_told 20 = .ok (.getfield 86, 3) := by decide +kernel
theorem dX6_told_23 : decode cX6_told 23 = .ok (.iload_n 1, 1) := by decide +kernel
theorem dX6_told_24 : decode cX6_told 24 = .ok (.iaload, 1) := by decide +kernel
theorem dX6_told_25 : decode cX6_told 25 = .ok (.ireturn, 1) := by decide +kernel
set_option maxRecDepth 20000 in
theorem ggX6_after_X6_isCell : GoodIn wsX6_after wsX6_isCell := goodIn_r _ [5] (by decide +kernel) (by decide +kernel)
set_option maxRecDepth 20000 in
theorem gX6_after_X6_isCell : GoodIn wsX6_after (va_wsS RX6 68 yX6_isCell wsX6_isCell) := goodIn_app (goodIn_of _ (by decide +kernel)) ggX6_after_X6_isCell
set_option maxRecDepth 20000 in
theorem ggX6_after_X6_plainRun : GoodIn wsX6_after wsX6_plainRun := goodIn_r _ [9, 10, 11, 12, 13, 14, 15, 16, 17, 18, 19, 20, 21, 22, 23, 24, 25, 26, 27, 28, 29, 30, 31, 32, 33, 34, 35, 36, 37, 38, 39, 40, 41, 42, 43, 44, 45, 46, 47, 48, 49, 50, 51, 52, 53, 54, 55, 56, 57, 58, 59, 60, 61, 62, 63, 64, 65, 66, 67, 68, 69, 70, 71, 72, 73, 74, 75, 76, 77, 78, 79, 3, 4, 5, 80, 81, 82, 83, 84, 85, 86, 87, 88, 89, 100, 101, 102, 103, 104, 105, 106, 107, 108, 109, 110, 111, 112, 113, 90, 91, 92, 93, 94, 95, 96, 97, 98, 99, 114, 115, 116, 117, 118, 119, 120, 121, 122] (by decide +kernel) (by decide +kernel)
set_option maxRecDepth 20000 in
theorem gX6_after_X6_plainRun : GoodIn wsX6_after (wsV RX6 71 RX6 yX6_plainRun wsX6_plainRun) := goodIn_app (goodIn_of _ (by decide +kernel)) ggX6_after_X6_plainRun
theorem dX6_after_0 : decode cX6_after 0 = .ok (.iload_n 1, 1) := by decide +kernel
theorem dX6_after_1 : decode cX6_after 1 = .ok (.invokestatic 68, 3) := by decide +kernel
theorem dX6_after_4 : decode cX6_after 4 = .ok (.ifCond .ne 6, 3) := by decide +kernel
theorem dX6_after_7 : decode cX6_after 7 = .ok (.bipush (-101), 2) := by decide +kernel
theorem dX6_after_9 : decode cX6_after 9 = .ok (.ireturn, 1) := by decide +kernel
theorem dX6_after_10 : decode cX6_after 10 = .ok (.aload_n 0, 1) := by decide +kernel
theorem dX6_after_11 : decode cX6_after 11 = .ok (.invokevirtual 71, 3) := by decide +kernel
theorem dX6_after_14 : decode cX6_after 14 = .ok (.getfield 89, 3) := by decide +kernel
theorem dX6_after_17 : decode cX6_after 17 = .ok (.iload_n 1, 1) := by decide +kernel
theorem dX6_after_18 : decode cX6_after 18 = .ok (.iaload, 1) := by decide +kernel
theorem dX6_after_19 : decode cX6_after 19 = .ok (.ireturn, 1) := by decide +kernel
set_option maxRecDepth 20000 in
theorem ggX6_dead_X6_isCell : GoodIn wsX6_dead wsX6_isCell := goodIn_r _ [5] (by decide +kernel) (by decide +kernel)
set_option maxRecDepth 20000 in
theorem gX6_dead_X6_isCell : GoodIn wsX6_dead (va_wsS RX6 68 yX6_isCell wsX6_isCell) := goodIn_app (goodIn_of _ (by decide +kernel)) ggX6_dead_X6_isCell
set_option maxRecDepth 20000 in
theorem ggX6_dead_X6_refusalOfTick : GoodIn wsX6_dead wsX6_refusalOfTick := goodIn_r _ [9, 10, 11, 12, 13, 14, 4, 15, 16, 1, 17, 18, 19, 20, 21, 22, 23, 24, 25, 26, 27, 28, 29, 30, 31, 32, 33, 34, 35, 36, 37, 38, 39, 40, 41, 42, 43, 44, 45, 46, 47, 48, 49, 50, 51, 52, 53, 54, 55, 56, 57, 58, 59, 60, 61, 62, 63, 64, 65, 66, 67, 68, 69, 70, 71, 72, 73, 74, 75, 76, 77, 78, 79, 80, 81, 82, 83, 84, 3, 5, 85, 86, 87, 88, 89, 90, 91, 92, 93, 94, 112, 113, 114, 115, 116, 117, 118, 119, 120, 121, 104, 105, 106, 107, 108, 109, 110, 111, 122, 123, 124, 125, 126, 127, 128, 129, 130, 131, 132, 133, 134, 135, 136] (by decide +kernel) (by decide +kernel)
set_option maxRecDepth 20000 in
theorem gX6_dead_X6_refusalOfTick : GoodIn wsX6_dead (wsV RX6 92 RX6 yX6_refusalOfTick wsX6_refusalOfTick) := goodIn_app (goodIn_of _ (by decide +kernel)) ggX6_dead_X6_refusalOfTick
set_option maxRecDepth 20000 in
theorem ggX6_dead_X5_nextUse : GoodIn wsX6_dead wsX5_nextUse := goodIn_r _ [98, 25, 99, 37, 39, 122, 123, 124, 125, 126, 127, 112, 113, 114, 115, 116, 117, 118, 119, 120, 121] (by decide +kernel) (by decide +kernel)
set_option maxRecDepth 20000 in
theorem gX6_dead_X5_nextUse : GoodIn wsX6_dead (wsV RX6 96 RX5 yX5_nextUse wsX5_nextUse) := goodIn_app (goodIn_of _ (by decide +kernel)) ggX6_dead_X5_nextUse
set_option maxRecDepth 20000 in
theorem ggX6_dead_X5_isRead : GoodIn wsX6_dead wsX5_isRead := goodIn_r _ [103, 25, 99, 37, 122, 123, 124, 125, 126, 127, 112, 113, 114, 115, 116, 117, 118, 119, 120, 121] (by decide +kernel) (by decide +kernel)
set_option maxRecDepth 20000 in
theorem gX6_dead_X5_isRead : GoodIn wsX6_dead (wsV RX6 100 RX5 yX5_isRead wsX5_isRead) := goodIn_app (goodIn_of _ (by decide +kernel)) ggX6_dead_X5_isRead
theorem dX6_dead_0 : decode cX6_dead 0 = .ok (.iload_n 1, 1) := by decide +kernel
theorem dX6_dead_1 : decode cX6_dead 1 = .ok (.invokestatic 68, 3) := by decide +kernel
theorem dX6_dead_4 : decode cX6_dead 4 = .ok (.ifCond .ne 6, 3) := by decide +kernel
theorem dX6_dead_7 : decode cX6_dead 7 = .ok (.bipush (-101), 2) := by decide +kernel
theorem dX6_dead_9 : decode cX6_dead 9 = .ok (.ireturn, 1) := by decide +kernel
theorem dX6_dead_10 : decode cX6_dead 10 = .ok (.aload_n 0, 1) := by decide +kernel
theorem dX6_dead_11 : decode cX6_dead 11 = .ok (.iload_n 2, 1) := by decide +kernel
theorem dX6_dead_12 : decode cX6_dead 12 = .ok (.invokevirtual 92, 3) := by decide +kernel
theorem dX6_dead_15 : decode cX6_dead 15 = .ok (.istore_n 3, 1) := by decide +kernel
theorem dX6_dead_16 : decode cX6_dead 16 = .ok (.iload_n 3, 1) := by decide +kernel
theorem dX6_dead_17 : decode cX6_dead 17 = .ok (.ifCond .eq 5, 3) := by decide +kernel
theorem dX6_dead_20 : decode cX6_dead 20 = .ok (.iload_n 3, 1) := by decide +kernel
theorem dX6_dead_21 : decode cX6_dead 21 = .ok (.ireturn, 1) := by decide +kernel
theorem dX6_dead_22 : decode cX6_dead 22 = .ok (.aload_n 0, 1) := by decide +kernel
theorem dX6_dead_23 : decode cX6_dead 23 = .ok (.getfield 28, 3) := by decide +kernel
theorem dX6_dead_26 : decode cX6_dead 26 = .ok (.iload_n 1, 1) := by decide +kernel
theorem dX6_dead_27 : decode cX6_dead 27 = .ok (.aload_n 0, 1) := by decide +kernel
theorem dX6_dead_28 : decode cX6_dead 28 = .ok (.getfield 28, 3) := by decide +kernel
theorem dX6_dead_31 : decode cX6_dead 31 = .ok (.iload_n 1, 1) := by decide +kernel
theorem dX6_dead_32 : decode cX6_dead 32 = .ok (.iload_n 2, 1) := by decide +kernel
theorem dX6_dead_33 : decode cX6_dead 33 = .ok (.invokevirtual 96, 3) := by decide +kernel
theorem dX6_dead_36 : decode cX6_dead 36 = .ok (.invokevirtual 100, 3) := by decide +kernel
theorem dX6_dead_39 : decode cX6_dead 39 = .ok (.ifCond .eq 7, 3) := by decide +kernel
theorem dX6_dead_42 : decode cX6_dead 42 = .ok (.iconst 0, 1) := by decide +kernel
theorem dX6_dead_43 : decode cX6_dead 43 = .ok (.goto 4, 3) := by decide +kernel
theorem dX6_dead_46 : decode cX6_dead 46 = .ok (.iconst 1, 1) := by decide +kernel
theorem dX6_dead_47 : decode cX6_dead 47 = .ok (.ireturn, 1) := by decide +kernel
set_option maxRecDepth 20000 in
theorem ggX6_flip_X6_refusalOfFlip : GoodIn wsX6_flip wsX6_refusalOfFlip := goodIn_r _ [7, 8, 9, 6, 10, 11, 12, 13, 14, 15, 16, 17, 18, 19, 20, 21, 22, 23, 24, 25, 26, 1, 27, 28, 29, 30, 31, 32, 33, 34, 35, 36, 37, 38, 39, 40, 41, 42, 43, 44, 45, 46, 47, 48, 49, 50, 51, 52, 53, 54, 55, 56, 57, 58, 59, 60, 61, 62, 63, 64, 65, 66, 67, 68, 69, 70, 71, 72, 73, 74, 75, 76, 77, 78, 79, 80, 81, 82, 83, 84, 85, 86, 87, 88, 89, 90, 91, 92, 93, 94, 95, 96, 97, 98, 99, 100, 101, 102, 177, 178, 179, 180, 181, 182, 183, 184, 185, 186, 169, 170, 171, 172, 173, 174, 175, 176, 187, 188, 189, 190, 191, 192, 193, 194, 195, 196, 197, 198, 199, 200, 201] (by decide +kernel) (by decide +kernel)
set_option maxRecDepth 20000 in
theorem gX6_flip_X6_refusalOfFlip : GoodIn wsX6_flip (wsV RX6 104 RX6 yX6_refusalOfFlip wsX6_refusalOfFlip) := goodIn_app (goodIn_of _ (by decide +kernel)) ggX6_flip_X6_refusalOfFlip
set_option maxRecDepth 20000 in
theorem ggX6_flip_X2_fateOf : GoodIn wsX6_flip wsX2_fateOf := goodIn_r _ [106, 107, 108, 109, 110, 31, 111, 33, 112, 45, 47, 113, 114, 115, 116, 117, 118, 119, 100, 120, 121, 122, 123, 124, 125, 126, 127, 128, 129, 40, 34, 35, 36, 37, 38, 130, 43, 41, 49, 50, 51, 52, 53, 54, 55, 56, 57, 58, 59, 60, 61, 62, 63, 64, 65, 131, 132, 133, 134, 135, 67, 68, 69, 70, 71, 72, 73, 74, 75, 76, 77, 78, 79, 80, 81, 82, 83, 84, 85, 86, 87, 88, 89, 90, 91, 92, 9, 6, 10, 136, 94, 95, 96, 137, 138, 139, 140, 141, 142, 143, 144, 145, 146, 147, 148, 149, 150, 151, 152, 153, 154, 155, 156, 157, 158, 159, 160, 161, 162, 197, 198, 199, 200, 201, 187, 188, 189, 190, 191, 192, 177, 178, 179, 180, 181, 182, 183, 184, 185, 186, 193, 194, 195, 196] (by decide +kernel) (by decide +kernel)
set_option maxRecDepth 20000 in
theorem gX6_flip_X2_fateOf : GoodIn wsX6_flip (wsV RX6 108 RX2 yX2_fateOf wsX2_fateOf) := goodIn_app (goodIn_of _ (by decide +kernel)) ggX6_flip_X2_fateOf
set_option maxRecDepth 20000 in
theorem ggX6_flip_X1_kindUnder : GoodIn wsX6_flip wsX1_kindUnder := goodIn_r _ [165, 166, 167, 139, 168] (by decide +kernel) (by decide +kernel)
set_option maxRecDepth 20000 in
theorem gX6_flip_X1_kindUnder : GoodIn wsX6_flip (va_wsS RX6 111 yX1_kindUnder wsX1_kindUnder) := goodIn_app (goodIn_of _ (by decide +kernel)) ggX6_flip_X1_kindUnder
theorem dX6_flip_0 : decode cX6_flip 0 = .ok (.aload_n 0, 1) := by decide +kernel
theorem dX6_flip_1 : decode cX6_flip 1 = .ok (.iload_n 1, 1) := by decide +kernel
theorem dX6_flip_2 : decode cX6_flip 2 = .ok (.iload_n 2, 1) := by decide +kernel
theorem dX6_flip_3 : decode cX6_flip 3 = .ok (.iload_n 3, 1) := by decide +kernel
theorem dX6_flip_4 : decode cX6_flip 4 = .ok (.iload 4, 2) := by decide +kernel
theorem dX6_flip_6 : decode cX6_flip 6 = .ok (.invokevirtual 104, 3) := by decide +kernel
theorem dX6_flip_9 : decode cX6_flip 9 = .ok (.istore 5, 2) := by decide +kernel
theorem dX6_flip_11 : decode cX6_flip 11 = .ok (.iload 5, 2) := by decide +kernel
theorem dX6_flip_13 : decode cX6_flip 13 = .ok (.ifCond .eq 6, 3) := by decide +kernel
theorem dX6_flip_16 : decode cX6_flip 16 = .ok (.iload 5, 2) := by decide +kernel
theorem dX6_flip_18 : decode cX6_flip 18 = .ok (.ireturn, 1) := by decide +kernel
theorem dX6_flip_19 : decode cX6_flip 19 = .ok (.aload_n 0, 1) := by decide +kernel
theorem dX6_flip_20 : decode cX6_flip 20 = .ok (.getfield 37, 3) := by decide +kernel
theorem dX6_flip_23 : decode cX6_flip 23 = .ok (.iload_n 1, 1) := by decide +kernel
theorem dX6_flip_24 : decode cX6_flip 24 = .ok (.iload_n 2, 1) := by decide +kernel
theorem dX6_flip_25 : decode cX6_flip 25 = .ok (.iload_n 3, 1) := by decide +kernel
theorem dX6_flip_26 : decode cX6_flip 26 = .ok (.iload 4, 2) := by decide +kernel
theorem dX6_flip_28 : decode cX6_flip 28 = .ok (.invokevirtual 108, 3) := by decide +kernel
theorem dX6_flip_31 : decode cX6_flip 31 = .ok (.aload_n 0, 1) := by decide +kernel
theorem dX6_flip_32 : decode cX6_flip 32 = .ok (.getfield 20, 3) := by decide +kernel
theorem dX6_flip_35 : decode cX6_flip 35 = .ok (.iload_n 1, 1) := by decide +kernel
theorem dX6_flip_36 : decode cX6_flip 36 = .ok (.iaload, 1) := by decide +kernel
theorem dX6_flip_37 : decode cX6_flip 37 = .ok (.iload_n 3, 1) := by decide +kernel
theorem dX6_flip_38 : decode cX6_flip 38 = .ok (.invokestatic 111, 3) := by decide +kernel
theorem dX6_flip_41 : decode cX6_flip 41 = .ok (.ireturn, 1) := by decide +kernel
set_option maxRecDepth 20000 in
theorem ggX6_harm_X6_refusalOfFlip : GoodIn wsX6_harm wsX6_refusalOfFlip := goodIn_r _ [7, 8, 9, 6, 10, 11, 12, 13, 14, 15, 16, 17, 18, 19, 20, 21, 22, 23, 24, 25, 26, 1, 27, 28, 29, 30, 31, 32, 33, 34, 35, 36, 37, 38, 39, 40, 41, 42, 43, 44, 45, 46, 47, 48, 49, 50, 51, 52, 53, 54, 55, 56, 57, 58, 59, 60, 61, 62, 63, 64, 65, 66, 67, 68, 69, 70, 71, 72, 73, 74, 75, 76, 77, 78, 79, 80, 81, 82, 83, 84, 85, 86, 87, 88, 89, 90, 91, 92, 93, 94, 95, 96, 97, 98, 99, 100, 101, 102, 180, 181, 182, 183, 184, 185, 186, 187, 188, 189, 172, 173, 174, 175, 176, 177, 178, 179, 190, 191, 192, 193, 194, 195, 196, 197, 198, 199, 200, 201, 202, 203, 204] (by decide +kernel) (by decide +kernel)
set_option maxRecDepth 20000 in
theorem gX6_harm_X6_refusalOfFlip : GoodIn wsX6_harm (wsV RX6 104 RX6 yX6_refusalOfFlip wsX6_refusalOfFlip) := goodIn_app (goodIn_of _ (by decide +kernel)) ggX6_harm_X6_refusalOfFlip
set_option maxRecDepth 20000 in
theorem ggX6_harm_X2_fateOf : GoodIn wsX6_harm wsX2_fateOf := goodIn_r _ [106, 107, 108, 109, 110, 31, 111, 33, 112, 45, 47, 113, 114, 115, 116, 117, 118, 119, 100, 120, 121, 122, 123, 124, 125, 126, 127, 128, 129, 40, 34, 35, 36, 37, 38, 130, 43, 41, 49, 50, 51, 52, 53, 54, 55, 56, 57, 58, 59, 60, 61, 62, 63, 64, 65, 131, 132, 133, 134, 135, 67, 68, 69, 70, 71, 72, 73, 74, 75, 76, 77, 78, 79, 80, 81, 82, 83, 84, 85, 86, 87, 88, 89, 90, 91, 92, 9, 6, 10, 136, 94, 95, 96, 137, 138, 139, 140, 141, 142, 143, 144, 145, 146, 147, 148, 149, 150, 151, 152, 153, 154, 155, 156, 157, 158, 159, 160, 161, 162, 200, 201, 202, 203, 204, 190, 191, 192, 193, 194, 195, 180, 181, 182, 183, 184, 185, 186, 187, 188, 189, 196, 197, 198, 199] (by decide +kernel) (by decide +kernel)
set_option maxRecDepth 20000 in
theorem gX6_harm_X2_fateOf : GoodIn wsX6_harm (wsV RX6 108 RX2 yX2_fateOf wsX2_fateOf) := goodIn_app (goodIn_of _ (by decide +kernel)) ggX6_harm_X2_fateOf
set_option maxRecDepth 20000 in
theorem ggX6_harm_X1_harmUnder : GoodIn wsX6_harm wsX1_harmUnder := goodIn_r _ [165, 166, 167, 139, 168, 169, 170, 171] (by decide +kernel) (by decide +kernel)
set_option maxRecDepth 20000 in
theorem gX6_harm_X1_harmUnder : GoodIn wsX6_harm (va_wsS RX6 117 yX1_harmUnder wsX1_harmUnder) := goodIn_app (goodIn_of _ (by decide +kernel)) ggX6_harm_X1_harmUnder
theorem dX6_harm_0 : decode cX6_harm 0 = .ok (.aload_n 0, 1) := by decide +kernel
theorem dX6_harm_1 : decode cX6_harm 1 = .ok (.iload_n 1, 1) := by decide +kernel
theorem dX6_harm_2 : decode cX6_harm 2 = .ok (.iload_n 2, 1) := by decide +kernel
theorem dX6_harm_3 : decode cX6_harm 3 = .ok (.iload_n 3, 1) := by decide +kernel
theorem dX6_harm_4 : decode cX6_harm 4 = .ok (.iload 4, 2) := by decide +kernel
theorem dX6_harm_6 : decode cX6_harm 6 = .ok (.invokevirtual 104, 3) := by decide +kernel
theorem dX6_harm_9 : decode cX6_harm 9 = .ok (.istore 5, 2) := by decide +kernel
theorem dX6_harm_11 : decode cX6_harm 11 = .ok (.iload 5, 2) := by decide +kernel
theorem dX6_harm_13 : decode cX6_harm 13 = .ok (.ifCond .eq 6, 3) := by decide +kernel
theorem dX6_harm_16 : decode cX6_harm 16 = .ok (.iload 5, 2) := by decide +kernel
theorem dX6_harm_18 : decode cX6_harm 18 = .ok (.ireturn, 1) := by decide +kernel
theorem dX6_harm_19 : decode cX6_harm 19 = .ok (.aload_n 0, 1) := by decide +kernel
theorem dX6_harm_20 : decode cX6_harm 20 = .ok (.getfield 37, 3) := by decide +kernel
theorem dX6_harm_23 : decode cX6_harm 23 = .ok (.iload_n 1, 1) := by decide +kernel
theorem dX6_harm_24 : decode cX6_harm 24 = .ok (.iload_n 2, 1) := by decide +kernel
theorem dX6_harm_25 : decode cX6_harm 25 = .ok (.iload_n 3, 1) := by decide +kernel
theorem dX6_harm_26 : decode cX6_harm 26 = .ok (.iload 4, 2) := by decide +kernel
theorem dX6_harm_28 : decode cX6_harm 28 = .ok (.invokevirtual 108, 3) := by decide +kernel
theorem dX6_harm_31 : decode cX6_harm 31 = .ok (.aload_n 0, 1) := by decide +kernel
theorem dX6_harm_32 : decode cX6_harm 32 = .ok (.getfield 20, 3) := by decide +kernel
theorem dX6_harm_35 : decode cX6_harm 35 = .ok (.iload_n 1, 1) := by decide +kernel
theorem dX6_harm_36 : decode cX6_harm 36 = .ok (.iaload, 1) := by decide +kernel
theorem dX6_harm_37 : decode cX6_harm 37 = .ok (.iload_n 3, 1) := by decide +kernel
theorem dX6_harm_38 : decode cX6_harm 38 = .ok (.invokestatic 117, 3) := by decide +kernel
theorem dX6_harm_41 : decode cX6_harm 41 = .ok (.ireturn, 1) := by decide +kernel
set_option maxRecDepth 20000 in
theorem ggX6_lasts_X6_refusalOfFlip : GoodIn wsX6_lasts wsX6_refusalOfFlip := goodIn_r _ [8, 9, 10, 7, 11, 12, 13, 14, 15, 16, 17, 18, 19, 20, 21, 22, 23, 24, 25, 3, 26, 1, 27, 28, 29, 30, 31, 32, 33, 34, 35, 36, 37, 38, 39, 40, 41, 42, 43, 44, 45, 46, 47, 48, 49, 50, 51, 52, 53, 54, 55, 56, 57, 58, 59, 60, 61, 62, 63, 64, 65, 66, 67, 68, 69, 70, 71, 72, 73, 74, 75, 76, 77, 78, 79, 80, 81, 82, 83, 84, 85, 86, 87, 88, 89, 90, 91, 92, 93, 94, 95, 96, 97, 98, 99, 100, 101, 102, 178, 179, 180, 181, 182, 183, 184, 185, 186, 187, 170, 171, 172, 173, 174, 175, 176, 177, 188, 189, 190, 191, 192, 193, 194, 195, 196, 197, 198, 199, 200, 201, 202] (by decide +kernel) (by decide +kernel)
set_option maxRecDepth 20000 in
theorem gX6_lasts_X6_refusalOfFlip : GoodIn wsX6_lasts (wsV RX6 104 RX6 yX6_refusalOfFlip wsX6_refusalOfFlip) := goodIn_app (goodIn_of _ (by decide +kernel)) ggX6_lasts_X6_refusalOfFlip
set_option maxRecDepth 20000 in
theorem ggX6_lasts_X2_fateOf : GoodIn wsX6_lasts wsX2_fateOf := goodIn_r _ [106, 107, 108, 109, 110, 31, 111, 33, 112, 45, 47, 113, 114, 115, 116, 117, 118, 119, 100, 120, 121, 122, 123, 124, 125, 126, 127, 128, 129, 40, 34, 35, 36, 37, 38, 130, 43, 41, 49, 50, 51, 52, 53, 54, 55, 56, 57, 58, 59, 60, 61, 62, 63, 64, 65, 131, 132, 133, 134, 135, 67, 68, 69, 70, 71, 72, 73, 74, 75, 76, 77, 78, 79, 80, 81, 82, 83, 84, 85, 86, 87, 88, 89, 90, 91, 92, 10, 7, 11, 136, 94, 95, 96, 137, 138, 139, 140, 141, 142, 143, 144, 145, 146, 147, 148, 149, 150, 151, 152, 153, 154, 155, 156, 157, 158, 159, 160, 161, 162, 198, 199, 200, 201, 202, 188, 189, 190, 191, 192, 193, 178, 179, 180, 181, 182, 183, 184, 185, 186, 187, 194, 195, 196, 197] (by decide +kernel) (by decide +kernel)
set_option maxRecDepth 20000 in
theorem gX6_lasts_X2_fateOf : GoodIn wsX6_lasts (wsV RX6 108 RX2 yX2_fateOf wsX2_fateOf) := goodIn_app (goodIn_of _ (by decide +kernel)) ggX6_lasts_X2_fateOf
set_option maxRecDepth 20000 in
theorem ggX6_lasts_X1_isCaughtReading : GoodIn wsX6_lasts wsX1_isCaughtReading := goodIn_r _ [165] (by decide +kernel) (by decide +kernel)
set_option maxRecDepth 20000 in
theorem gX6_lasts_X1_isCaughtReading : GoodIn wsX6_lasts (va_wsS RX6 120 yX1_isCaughtReading wsX1_isCaughtReading) := goodIn_app (goodIn_of _ (by decide +kernel)) ggX6_lasts_X1_isCaughtReading
set_option maxRecDepth 20000 in
theorem ggX6_lasts_X5_nextUse : GoodIn wsX6_lasts wsX5_nextUse := goodIn_r _ [111, 33, 112, 45, 47, 188, 189, 190, 191, 192, 193, 178, 179, 180, 181, 182, 183, 184, 185, 186, 187] (by decide +kernel) (by decide +kernel)
set_option maxRecDepth 20000 in
theorem gX6_lasts_X5_nextUse : GoodIn wsX6_lasts (wsV RX6 96 RX5 yX5_nextUse wsX5_nextUse) := goodIn_app (goodIn_of _ (by decide +kernel)) ggX6_lasts_X5_nextUse
set_option maxRecDepth 20000 in
theorem ggX6_lasts_X1_ticksOf : GoodIn wsX6_lasts wsX1_ticksOf := goodIn_r _ [169] (by decide +kernel) (by decide +kernel)
set_option maxRecDepth 20000 in
theorem gX6_lasts_X1_ticksOf : GoodIn wsX6_lasts (va_wsS RX6 123 yX1_ticksOf wsX1_ticksOf) := goodIn_app (goodIn_of _ (by decide +kernel)) ggX6_lasts_X1_ticksOf
theorem dX6_lasts_0 : decode cX6_lasts 0 = .ok (.aload_n 0, 1) := by decide +kernel
theorem dX6_lasts_1 : decode cX6_lasts 1 = .ok (.iload_n 1, 1) := by decide +kernel
theorem dX6_lasts_2 : decode cX6_lasts 2 = .ok (.iload_n 2, 1) := by decide +kernel
theorem dX6_lasts_3 : decode cX6_lasts 3 = .ok (.iload_n 3, 1) := by decide +kernel
theorem dX6_lasts_4 : decode cX6_lasts 4 = .ok (.iload 4, 2) := by decide +kernel
theorem dX6_lasts_6 : decode cX6_lasts 6 = .ok (.invokevirtual 104, 3) := by decide +kernel
theorem dX6_lasts_9 : decode cX6_lasts 9 = .ok (.istore 5, 2) := by decide +kernel
theorem dX6_lasts_11 : decode cX6_lasts 11 = .ok (.iload 5, 2) := by decide +kernel
theorem dX6_lasts_13 : decode cX6_lasts 13 = .ok (.ifCond .eq 6, 3) := by decide +kernel
theorem dX6_lasts_16 : decode cX6_lasts 16 = .ok (.iload 5, 2) := by decide +kernel
theorem dX6_lasts_18 : decode cX6_lasts 18 = .ok (.ireturn, 1) := by decide +kernel
theorem dX6_lasts_19 : decode cX6_lasts 19 = .ok (.aload_n 0, 1) := by decide +kernel
theorem dX6_lasts_20 : decode cX6_lasts 20 = .ok (.getfield 37, 3) := by decide +kernel
theorem dX6_lasts_23 : decode cX6_lasts 23 = .ok (.iload_n 1, 1) := by decide +kernel
theorem dX6_lasts_24 : decode cX6_lasts 24 = .ok (.iload_n 2, 1) := by decide +kernel
theorem dX6_lasts_25 : decode cX6_lasts 25 = .ok (.iload_n 3, 1) := by decide +kernel
theorem dX6_lasts_26 : decode cX6_lasts 26 = .ok (.iload 4, 2) := by decide +kernel
theorem dX6_lasts_28 : decode cX6_lasts 28 = .ok (.invokevirtual 108, 3) := by decide +kernel
theorem dX6_lasts_31 : decode cX6_lasts 31 = .ok (.istore 6, 2) := by decide +kernel
theorem dX6_lasts_33 : decode cX6_lasts 33 = .ok (.iload 6, 2) := by decide +kernel
theorem dX6_lasts_35 : decode cX6_lasts 35 = .ok (.aload_n 0, 1) := by decide +kernel
theorem dX6_lasts_36 : decode cX6_lasts 36 = .ok (.getfield 20, 3) := by decide +kernel
theorem dX6_lasts_39 : decode cX6_lasts 39 = .ok (.iload_n 1, 1) := by decide +kernel
theorem dX6_lasts_40 : decode cX6_lasts 40 = .ok (.iaload, 1) := by decide +kernel
theorem dX6_lasts_41 : decode cX6_lasts 41 = .ok (.iload_n 3, 1) := by decide +kernel
theorem dX6_lasts_42 : decode cX6_lasts 42 = .ok (.invokestatic 120, 3) := by decide +kernel
theorem dX6_lasts_45 : decode cX6_lasts 45 = .ok (.ifCond .eq 19, 3) := by decide +kernel
theorem dX6_lasts_48 : decode cX6_lasts 48 = .ok (.aload_n 0, 1) := by decide +kernel
theorem dX6_lasts_49 : decode cX6_lasts 49 = .ok (.getfield 28, 3) := by decide +kernel
theorem dX6_lasts_52 : decode cX6_lasts 52 = .ok (.iload_n 1, 1) := by decide +kernel
theorem dX6_lasts_53 : decode cX6_lasts 53 = .ok (.iload 4, 2) := by decide +kernel
theorem dX6_lasts_55 : decode cX6_lasts 55 = .ok (.invokevirtual 96, 3) := by decide +kernel
theorem dX6_lasts_58 : decode cX6_lasts 58 = .ok (.iconst 1, 1) := by decide +kernel
theorem dX6_lasts_59 : decode cX6_lasts 59 = .ok (.iadd, 1) := by decide +kernel
theorem dX6_lasts_60 : decode cX6_lasts 60 = .ok (.iload 4, 2) := by decide +kernel
theorem dX6_lasts_62 : decode cX6_lasts 62 = .ok (.isub, 1) := by decide +kernel
theorem dX6_lasts_63 : decode cX6_lasts 63 = .ok (.ireturn, 1) := by decide +kernel
theorem dX6_lasts_64 : decode cX6_lasts 64 = .ok (.iload 6, 2) := by decide +kernel
theorem dX6_lasts_66 : decode cX6_lasts 66 = .ok (.invokestatic 123, 3) := by decide +kernel
theorem dX6_lasts_69 : decode cX6_lasts 69 = .ok (.iload 4, 2) := by decide +kernel
theorem dX6_lasts_71 : decode cX6_lasts 71 = .ok (.isub, 1) := by decide +kernel
theorem dX6_lasts_72 : decode cX6_lasts 72 = .ok (.ireturn, 1) := by decide +kernel
set_option maxRecDepth 20000 in
theorem ggX6_count_X6_isCell : GoodIn wsX6_count wsX6_isCell := goodIn_r _ [7] (by decide +kernel) (by decide +kernel)
set_option maxRecDepth 20000 in
theorem gX6_count_X6_isCell : GoodIn wsX6_count (va_wsS RX6 68 yX6_isCell wsX6_isCell) := goodIn_app (goodIn_of _ (by decide +kernel)) ggX6_count_X6_isCell
set_option maxRecDepth 20000 in
theorem ggX6_count_X6_isWidth : GoodIn wsX6_count wsX6_isWidth := goodIn_r _ [10] (by decide +kernel) (by decide +kernel)
set_option maxRecDepth 20000 in
theorem gX6_count_X6_isWidth : GoodIn wsX6_count (va_wsS RX6 126 yX6_isWidth wsX6_isWidth) := goodIn_app (goodIn_of _ (by decide +kernel)) ggX6_count_X6_isWidth
set_option maxRecDepth 20000 in
theorem ggX6_count_X6_refusalOfSearch : GoodIn wsX6_count wsX6_refusalOfSearch := goodIn_r _ [14, 15, 1, 16, 17, 18, 6, 19, 20, 21, 22, 2, 23, 24, 25, 26, 27, 28, 29, 30, 31, 32, 33, 34, 35, 36, 37, 38, 39, 40, 41, 42, 43, 44, 45, 46, 47, 48, 49, 50, 51, 52, 53, 54, 55, 56, 57, 58, 59, 60, 61, 62, 63, 64, 65, 66, 67, 68, 69, 70, 71, 72, 73, 74, 75, 76, 77, 78, 79, 80, 81, 82, 83, 84, 85, 86, 87, 88, 5, 7, 89, 90, 91, 92, 93, 94, 95, 96, 97, 98, 187, 188, 189, 190, 191, 192, 193, 194, 195, 196, 179, 180, 181, 182, 183, 184, 185, 186, 197, 198, 199, 200, 201, 202, 203, 204, 205, 206, 207, 208, 209, 210, 211] (by decide +kernel) (by decide +kernel)
set_option maxRecDepth 20000 in
theorem gX6_count_X6_refusalOfSearch : GoodIn wsX6_count (wsV RX6 129 RX6 yX6_refusalOfSearch wsX6_refusalOfSearch) := goodIn_app (goodIn_of _ (by decide +kernel)) ggX6_count_X6_refusalOfSearch
set_option maxRecDepth 20000 in
theorem ggX6_count_X2_tryAll : GoodIn wsX6_count wsX2_tryAll := goodIn_r _ [102, 98, 103, 104, 105, 106, 107, 108, 96, 109, 110, 111, 112, 113, 114, 115, 116, 117, 118, 119, 120, 121, 122, 123, 124, 27, 125, 29, 126, 41, 127, 128, 129, 130, 131, 132, 133, 134, 135, 136, 137, 138, 36, 30, 31, 32, 33, 34, 139, 39, 37, 45, 46, 47, 48, 49, 50, 51, 52, 53, 54, 55, 56, 57, 58, 59, 60, 61, 140, 141, 142, 143, 144, 63, 64, 65, 66, 67, 68, 69, 70, 71, 72, 73, 74, 75, 76, 77, 78, 79, 80, 81, 82, 83, 84, 85, 86, 87, 88, 5, 6, 7, 145, 90, 91, 92, 146, 147, 148, 149, 150, 151, 152, 153, 154, 155, 156, 157, 158, 159, 160, 161, 162, 43, 207, 208, 209, 210, 211, 197, 198, 199, 200, 201, 202, 187, 188, 189, 190, 191, 192, 193, 194, 195, 196, 203, 204, 205, 206] (by decide +kernel) (by decide +kernel)
set_option maxRecDepth 20000 in
theorem gX6_count_X2_tryAll : GoodIn wsX6_count (wsV RX6 135 RX2 yX2_tryAll wsX2_tryAll) := goodIn_app (goodIn_of _ (by decide +kernel)) ggX6_count_X2_tryAll
set_option maxRecDepth 20000 in
theorem ggX6_count_X2_codes : GoodIn wsX6_count wsX2_codes := goodIn_r _ [166, 103, 104, 105, 207, 208, 209, 210, 211, 197, 198, 199, 200, 201, 202, 187, 188, 189, 190, 191, 192, 193, 194, 195, 196] (by decide +kernel) (by decide +kernel)
set_option maxRecDepth 20000 in
theorem gX6_count_X2_codes : GoodIn wsX6_count (wsV RX6 139 RX2 yX2_codes wsX2_codes) := goodIn_app (goodIn_of _ (by decide +kernel)) ggX6_count_X2_codes
set_option maxRecDepth 20000 in
theorem ggX6_count_X2_cellOf : GoodIn wsX6_count wsX2_cellOf := goodIn_r _ [109] (by decide +kernel) (by decide +kernel)
set_option maxRecDepth 20000 in
theorem gX6_count_X2_cellOf : GoodIn wsX6_count (va_wsS RX6 143 yX2_cellOf wsX2_cellOf) := goodIn_app (goodIn_of _ (by decide +kernel)) ggX6_count_X2_cellOf
set_option maxRecDepth 20000 in
theorem ggX6_count_X2_isFlip : GoodIn wsX6_count wsX2_isFlip := goodIn_r _ [121, 98, 207, 208, 209, 210, 211] (by decide +kernel) (by decide +kernel)
set_option maxRecDepth 20000 in
theorem gX6_count_X2_isFlip : GoodIn wsX6_count (wsV RX6 146 RX2 yX2_isFlip wsX2_isFlip) := goodIn_app (goodIn_of _ (by decide +kernel)) ggX6_count_X2_isFlip
set_option maxRecDepth 20000 in
theorem ggX6_count_X2_kindOf : GoodIn wsX6_count wsX2_kindOf := goodIn_r _ [172, 106, 98, 107, 108, 96, 109, 173, 174, 116, 175, 176, 177, 178, 207, 208, 209, 210, 211] (by decide +kernel) (by decide +kernel)
set_option maxRecDepth 20000 in
theorem gX6_count_X2_kindOf : GoodIn wsX6_count (wsV RX6 149 RX2 yX2_kindOf wsX2_kindOf) := goodIn_app (goodIn_of _ (by decide +kernel)) ggX6_count_X2_kindOf
theorem dX6_count_0 : decode cX6_count 0 = .ok (.iload_n 1, 1) := by decide +kernel
theorem dX6_count_1 : decode cX6_count 1 = .ok (.invokestatic 68, 3) := by decide +kernel
theorem dX6_count_4 : decode cX6_count 4 = .ok (.ifCond .ne 12, 3) := by decide +kernel
theorem dX6_count_7 : decode cX6_count 7 = .ok (.iload_n 1, 1) := by decide +kernel
theorem dX6_count_8 : decode cX6_count 8 = .ok (.bipush 8, 2) := by decide +kernel
theorem dX6_count_10 : decode cX6_count 10 = .ok (.if_icmp .eq 6, 3) := by decide +kernel
theorem dX6_count_13 : decode cX6_count 13 = .ok (.bipush (-101), 2) := by decide +kernel
theorem dX6_count_15 : decode cX6_count 15 = .ok (.ireturn, 1) := by decide +kernel
theorem dX6_count_16 : decode cX6_count 16 = .ok (.iload_n 2, 1) := by decide +kernel
theorem dX6_count_17 : decode cX6_count 17 = .ok (.invokestatic 126, 3) := by decide +kernel
theorem dX6_count_20 : decode cX6_count 20 = .ok (.ifCond .eq 13, 3) := by decide +kernel
theorem dX6_count_23 : decode cX6_count 23 = .ok (.iload_n 3, 1) := by decide +kernel
theorem dX6_count_24 : decode cX6_count 24 = .ok (.ifCond .lt 9, 3) := by decide +kernel
theorem dX6_count_27 : decode cX6_count 27 = .ok (.iload_n 3, 1) := by decide +kernel
theorem dX6_count_28 : decode cX6_count 28 = .ok (.bipush 6, 2) := by decide +kernel
theorem dX6_count_30 : decode cX6_count 30 = .ok (.if_icmp .lt 6, 3) := by decide +kernel
theorem dX6_count_33 : decode cX6_count 33 = .ok (.bipush (-102), 2) := by decide +kernel
theorem dX6_count_35 : decode cX6_count 35 = .ok (.ireturn, 1) := by decide +kernel
theorem dX6_count_36 : decode cX6_count 36 = .ok (.aload_n 0, 1) := by decide +kernel
theorem dX6_count_37 : decode cX6_count 37 = .ok (.iconst 1, 1) := by decide +kernel
theorem dX6_count_38 : decode cX6_count 38 = .ok (.invokevirtual 129, 3) := by decide +kernel
theorem dX6_count_41 : decode cX6_count 41 = .ok (.istore 4, 2) := by decide +kernel
theorem dX6_count_43 : decode cX6_count 43 = .ok (.iload 4, 2) := by decide +kernel
theorem dX6_count_45 : decode cX6_count 45 = .ok (.ifCond .eq 6, 3) := by decide +kernel
theorem dX6_count_48 : decode cX6_count 48 = .ok (.iload 4, 2) := by decide +kernel
theorem dX6_count_50 : decode cX6_count 50 = .ok (.ireturn, 1) := by decide +kernel
theorem dX6_count_51 : decode cX6_count 51 = .ok (.aload_n 0, 1) := by decide +kernel
theorem dX6_count_52 : decode cX6_count 52 = .ok (.dup, 1) := by decide +kernel
theorem dX6_count_53 : decode cX6_count 53 = .ok (.getfield 132, 3) := by decide +kernel
theorem dX6_count_56 : decode cX6_count 56 = .ok (.iconst 1, 1) := by decide +kernel
theorem dX6_count_57 : decode cX6_count 57 = .ok (.iadd, 1) := by decide +kernel
theorem dX6_count_58 : decode cX6_count 58 = .ok (.putfield 132, 3) := by decide +kernel
theorem dX6_count_61 : decode cX6_count 61 = .ok (.aload_n 0, 1) := by decide +kernel
theorem dX6_count_62 : decode cX6_count 62 = .ok (.getfield 37, 3) := by decide +kernel
theorem dX6_count_65 : decode cX6_count 65 = .ok (.iload_n 2, 1) := by decide +kernel
theorem dX6_count_66 : decode cX6_count 66 = .ok (.invokevirtual 135, 3) := by decide +kernel
theorem dX6_count_69 : decode cX6_count 69 = .ok (.iconst 0, 1) := by decide +kernel
theorem dX6_count_70 : decode cX6_count 70 = .ok (.istore 5, 2) := by decide +kernel
theorem dX6_count_72 : decode cX6_count 72 = .ok (.iconst 0, 1) := by decide +kernel
theorem dX6_count_73 : decode cX6_count 73 = .ok (.istore 6, 2) := by decide +kernel
theorem dX6_count_75 : decode cX6_count 75 = .ok (.iload 6, 2) := by decide +kernel
theorem dX6_count_77 : decode cX6_count 77 = .ok (.aload_n 0, 1) := by decide +kernel
theorem dX6_count_78 : decode cX6_count 78 = .ok (.getfield 37, 3) := by decide +kernel
theorem dX6_count_81 : decode cX6_count 81 = .ok (.invokevirtual 139, 3) := by decide +kernel
theorem dX6_count_84 : decode cX6_count 84 = .ok (.if_icmp .ge 68, 3) := by decide +kernel
theorem dX6_count_87 : decode cX6_count 87 = .ok (.iload_n 1, 1) := by decide +kernel
theorem dX6_count_88 : decode cX6_count 88 = .ok (.bipush 8, 2) := by decide +kernel
theorem dX6_count_90 : decode cX6_count 90 = .ok (.if_icmp .eq 12, 3) := by decide +kernel
theorem dX6_count_93 : decode cX6_count 93 = .ok (.iload_n 1, 1) := by decide +kernel
theorem dX6_count_94 : decode cX6_count 94 = .ok (.iload 6, 2) := by decide +kernel
theorem dX6_count_96 : decode cX6_count 96 = .ok (.invokestatic 143, 3) := by decide +kernel
theorem dX6_count_99 : decode cX6_count 99 = .ok (.if_icmp .ne 7, 3) := by decide +kernel
theorem dX6_count_102 : decode cX6_count 102 = .ok (.iconst 1, 1) := by decide +kernel
theorem dX6_count_103 : decode cX6_count 103 = .ok (.goto 4, 3) := by decide +kernel
theorem dX6_count_106 : decode cX6_count 106 = .ok (.iconst 0, 1) := by decide +kernel
theorem dX6_count_107 : decode cX6_count 107 = .ok (.istore 7, 2) := by decide +kernel
theorem dX6_count_109 : decode cX6_count 109 = .ok (.iload 7, 2) := by decide +kernel
theorem dX6_count_111 : decode cX6_count 111 = .ok (.ifCond .eq 35, 3) := by decide +kernel
theorem dX6_count_114 : decode cX6_count 114 = .ok (.aload_n 0, 1) := by decide +kernel
theorem dX6_count_115 : decode cX6_count 115 = .ok (.getfield 37, 3) := by decide +kernel
theorem dX6_count_118 : decode cX6_count 118 = .ok (.iload 6, 2) := by decide +kernel
theorem dX6_count_120 : decode cX6_count 120 = .ok (.invokevirtual 146, 3) := by decide +kernel
theorem dX6_count_123 : decode cX6_count 123 = .ok (.ifCond .eq 23, 3) := by decide +kernel
theorem dX6_count_126 : decode cX6_count 126 = .ok (.aload_n 0, 1) := by decide +kernel
theorem dX6_count_127 : decode cX6_count 127 = .ok (.getfield 37, 3) := by decide +kernel
theorem dX6_count_130 : decode cX6_count 130 = .ok (.iload 6, 2) := by decide +kernel
theorem dX6_count_132 : decode cX6_count 132 = .ok (.aload_n 0, 1) := by decide +kernel
theorem dX6_count_133 : decode cX6_count 133 = .ok (.getfield 20, 3) := by decide +kernel
theorem dX6_count_136 : decode cX6_count 136 = .ok (.invokevirtual 149, 3) := by decide +kernel
theorem dX6_count_139 : decode cX6_count 139 = .ok (.iload_n 3, 1) := by decide +kernel
theorem dX6_count_140 : decode cX6_count 140 = .ok (.if_icmp .ne 6, 3) := by decide +kernel
theorem dX6_count_143 : decode cX6_count 143 = .ok (.iinc 5 1, 3) := by decide +kernel
theorem dX6_count_146 : decode cX6_count 146 = .ok (.iinc 6 1, 3) := by decide +kernel
theorem dX6_count_149 : decode cX6_count 149 = .ok (.goto (-74), 3) := by decide +kernel
theorem dX6_count_152 : decode cX6_count 152 = .ok (.iload 5, 2) := by decide +kernel
theorem dX6_count_154 : decode cX6_count 154 = .ok (.ireturn, 1) := by decide +kernel
set_option maxRecDepth 20000 in
theorem ggX6_all_X6_isWidth : GoodIn wsX6_all wsX6_isWidth := goodIn_r _ [7] (by decide +kernel) (by decide +kernel)
set_option maxRecDepth 20000 in
theorem gX6_all_X6_isWidth : GoodIn wsX6_all (va_wsS RX6 126 yX6_isWidth wsX6_isWidth) := goodIn_app (goodIn_of _ (by decide +kernel)) ggX6_all_X6_isWidth
set_option maxRecDepth 20000 in
theorem ggX6_all_X6_refusalOfSearch : GoodIn wsX6_all wsX6_refusalOfSearch := goodIn_r _ [11, 12, 1, 13, 14, 15, 6, 16, 17, 18, 19, 2, 20, 21, 22, 23, 24, 25, 26, 27, 28, 29, 30, 31, 32, 33, 34, 35, 36, 37, 38, 39, 40, 41, 42, 43, 44, 45, 46, 47, 48, 49, 50, 51, 52, 53, 54, 55, 56, 57, 58, 59, 60, 61, 62, 63, 64, 65, 66, 67, 68, 69, 70, 71, 72, 73, 74, 75, 76, 77, 78, 79, 80, 81, 82, 83, 84, 85, 86, 87, 88, 89, 90, 91, 92, 93, 94, 95, 96, 97, 188, 189, 190, 191, 192, 193, 194, 195, 196, 197, 180, 181, 182, 183, 184, 185, 186, 187, 198, 199, 200, 201, 202, 203, 204, 205, 206, 207, 208, 209, 210, 211, 212] (by decide +kernel) (by decide +kernel)
set_option maxRecDepth 20000 in
theorem gX6_all_X6_refusalOfSearch : GoodIn wsX6_all (wsV RX6 129 RX6 yX6_refusalOfSearch wsX6_refusalOfSearch) := goodIn_app (goodIn_of _ (by decide +kernel)) ggX6_all_X6_refusalOfSearch
set_option maxRecDepth 20000 in
theorem ggX6_all_X2_tryAll : GoodIn wsX6_all wsX2_tryAll := goodIn_r _ [101, 97, 102, 103, 104, 105, 106, 107, 95, 108, 109, 110, 111, 112, 113, 114, 115, 116, 117, 118, 119, 120, 121, 122, 123, 24, 124, 26, 125, 38, 126, 127, 128, 129, 130, 131, 132, 133, 134, 135, 136, 137, 33, 27, 28, 29, 30, 31, 138, 36, 34, 42, 43, 44, 45, 46, 47, 48, 49, 50, 51, 52, 53, 54, 55, 56, 57, 58, 139, 140, 141, 142, 143, 60, 61, 62, 63, 64, 65, 66, 67, 68, 69, 70, 71, 72, 73, 74, 75, 76, 77, 78, 79, 80, 81, 82, 83, 84, 85, 86, 6, 87, 144, 89, 90, 91, 145, 146, 147, 148, 149, 150, 151, 152, 153, 154, 155, 156, 157, 158, 159, 160, 161, 40, 208, 209, 210, 211, 212, 198, 199, 200, 201, 202, 203, 188, 189, 190, 191, 192, 193, 194, 195, 196, 197, 204, 205, 206, 207] (by decide +kernel) (by decide +kernel)
set_option maxRecDepth 20000 in
theorem gX6_all_X2_tryAll : GoodIn wsX6_all (wsV RX6 135 RX2 yX2_tryAll wsX2_tryAll) := goodIn_app (goodIn_of _ (by decide +kernel)) ggX6_all_X2_tryAll
set_option maxRecDepth 20000 in
theorem ggX6_all_X2_codes : GoodIn wsX6_all wsX2_codes := goodIn_r _ [165, 102, 103, 104, 208, 209, 210, 211, 212, 198, 199, 200, 201, 202, 203, 188, 189, 190, 191, 192, 193, 194, 195, 196, 197] (by decide +kernel) (by decide +kernel)
set_option maxRecDepth 20000 in
theorem gX6_all_X2_codes : GoodIn wsX6_all (wsV RX6 139 RX2 yX2_codes wsX2_codes) := goodIn_app (goodIn_of _ (by decide +kernel)) ggX6_all_X2_codes
set_option maxRecDepth 20000 in
theorem ggX6_all_X2_isFlip : GoodIn wsX6_all wsX2_isFlip := goodIn_r _ [120, 97, 208, 209, 210, 211, 212] (by decide +kernel) (by decide +kernel)
set_option maxRecDepth 20000 in
theorem gX6_all_X2_isFlip : GoodIn wsX6_all (wsV RX6 146 RX2 yX2_isFlip wsX2_isFlip) := goodIn_app (goodIn_of _ (by decide +kernel)) ggX6_all_X2_isFlip
set_option maxRecDepth 20000 in
theorem ggX6_all_X2_harmOf : GoodIn wsX6_all wsX2_harmOf := goodIn_r _ [170, 105, 97, 106, 107, 95, 108, 171, 172, 115, 173, 174, 175, 176, 177, 178, 179, 208, 209, 210, 211, 212] (by decide +kernel) (by decide +kernel)
set_option maxRecDepth 20000 in
theorem gX6_all_X2_harmOf : GoodIn wsX6_all (wsV RX6 153 RX2 yX2_harmOf wsX2_harmOf) := goodIn_app (goodIn_of _ (by decide +kernel)) ggX6_all_X2_harmOf
theorem dX6_all_0 : decode cX6_all 0 = .ok (.iload_n 1, 1) := by decide +kernel
theorem dX6_all_1 : decode cX6_all 1 = .ok (.invokestatic 126, 3) := by decide +kernel
theorem dX6_all_4 : decode cX6_all 4 = .ok (.ifCond .ne 6, 3) := by decide +kernel
theorem dX6_all_7 : decode cX6_all 7 = .ok (.bipush (-102), 2) := by decide +kernel
theorem dX6_all_9 : decode cX6_all 9 = .ok (.ireturn, 1) := by decide +kernel
theorem dX6_all_10 : decode cX6_all 10 = .ok (.aload_n 0, 1) := by decide +kernel
theorem dX6_all_11 : decode cX6_all 11 = .ok (.iconst 1, 1) := by decide +kernel
theorem dX6_all_12 : decode cX6_all 12 = .ok (.invokevirtual 129, 3) := by decide +kernel
theorem dX6_all_15 : decode cX6_all 15 = .ok (.istore_n 2, 1) := by decide +kernel
theorem dX6_all_16 : decode cX6_all 16 = .ok (.iload_n 2, 1) := by decide +kernel
theorem dX6_all_17 : decode cX6_all 17 = .ok (.ifCond .eq 5, 3) := by decide +kernel
theorem dX6_all_20 : decode cX6_all 20 = .ok (.iload_n 2, 1) := by decide +kernel
theorem dX6_all_21 : decode cX6_all 21 = .ok (.ireturn, 1) := by decide +kernel
theorem dX6_all_22 : decode cX6_all 22 = .ok (.aload_n 0, 1) := by decide +kernel
theorem dX6_all_23 : decode cX6_all 23 = .ok (.dup, 1) := by decide +kernel
theorem dX6_all_24 : decode cX6_all 24 = .ok (.getfield 132, 3) := by decide +kernel
theorem dX6_all_27 : decode cX6_all 27 = .ok (.iconst 1, 1) := by decide +kernel
theorem dX6_all_28 : decode cX6_all 28 = .ok (.iadd, 1) := by decide +kernel
theorem dX6_all_29 : decode cX6_all 29 = .ok (.putfield 132, 3) := by decide +kernel
theorem dX6_all_32 : decode cX6_all 32 = .ok (.aload_n 0, 1) := by decide +kernel
theorem dX6_all_33 : decode cX6_all 33 = .ok (.getfield 37, 3) := by decide +kernel
theorem dX6_all_36 : decode cX6_all 36 = .ok (.iload_n 1, 1) := by decide +kernel
theorem dX6_all_37 : decode cX6_all 37 = .ok (.invokevirtual 135, 3) := by decide +kernel
theorem dX6_all_40 : decode cX6_all 40 = .ok (.iconst 0, 1) := by decide +kernel
theorem dX6_all_41 : decode cX6_all 41 = .ok (.istore_n 3, 1) := by decide +kernel
theorem dX6_all_42 : decode cX6_all 42 = .ok (.iconst 0, 1) := by decide +kernel
theorem dX6_all_43 : decode cX6_all 43 = .ok (.istore 4, 2) := by decide +kernel
theorem dX6_all_45 : decode cX6_all 45 = .ok (.iload 4, 2) := by decide +kernel
theorem dX6_all_47 : decode cX6_all 47 = .ok (.aload_n 0, 1) := by decide +kernel
theorem dX6_all_48 : decode cX6_all 48 = .ok (.getfield 37, 3) := by decide +kernel
theorem dX6_all_51 : decode cX6_all 51 = .ok (.invokevirtual 139, 3) := by decide +kernel
theorem dX6_all_54 : decode cX6_all 54 = .ok (.if_icmp .ge 37, 3) := by decide +kernel
theorem dX6_all_57 : decode cX6_all 57 = .ok (.aload_n 0, 1) := by decide +kernel
theorem dX6_all_58 : decode cX6_all 58 = .ok (.getfield 37, 3) := by decide +kernel
theorem dX6_all_61 : decode cX6_all 61 = .ok (.iload 4, 2) := by decide +kernel
theorem dX6_all_63 : decode cX6_all 63 = .ok (.invokevirtual 146, 3) := by decide +kernel
theorem dX6_all_66 : decode cX6_all 66 = .ok (.ifCond .eq 19, 3) := by decide +kernel
theorem dX6_all_69 : decode cX6_all 69 = .ok (.iload_n 3, 1) := by decide +kernel
theorem dX6_all_70 : decode cX6_all 70 = .ok (.aload_n 0, 1) := by decide +kernel
theorem dX6_all_71 : decode cX6_all 71 = .ok (.getfield 37, 3) := by decide +kernel
theorem dX6_all_74 : decode cX6_all 74 = .ok (.iload 4, 2) := by decide +kernel
theorem dX6_all_76 : decode cX6_all 76 = .ok (.aload_n 0, 1) := by decide +kernel
theorem dX6_all_77 : decode cX6_all 77 = .ok (.getfield 20, 3) := by decide +kernel
theorem dX6_all_80 : decode cX6_all 80 = .ok (.invokevirtual 153, 3) := by decide +kernel
theorem dX6_all_83 : decode cX6_all 83 = .ok (.iadd, 1) := by decide +kernel
theorem dX6_all_84 : decode cX6_all 84 = .ok (.istore_n 3, 1) := by decide +kernel
theorem dX6_all_85 : decode cX6_all 85 = .ok (.iinc 4 1, 3) := by decide +kernel
theorem dX6_all_88 : decode cX6_all 88 = .ok (.goto (-43), 3) := by decide +kernel
theorem dX6_all_91 : decode cX6_all 91 = .ok (.iload_n 3, 1) := by decide +kernel
theorem dX6_all_92 : decode cX6_all 92 = .ok (.ireturn, 1) := by decide +kernel
set_option maxRecDepth 20000 in
theorem ggX6_worst_X6_isWidth : GoodIn wsX6_worst wsX6_isWidth := goodIn_r _ [7] (by decide +kernel) (by decide +kernel)
set_option maxRecDepth 20000 in
theorem gX6_worst_X6_isWidth : GoodIn wsX6_worst (va_wsS RX6 126 yX6_isWidth wsX6_isWidth) := goodIn_app (goodIn_of _ (by decide +kernel)) ggX6_worst_X6_isWidth
set_option maxRecDepth 20000 in
theorem ggX6_worst_X6_refusalOfSearch : GoodIn wsX6_worst wsX6_refusalOfSearch := goodIn_r _ [11, 12, 1, 13, 14, 15, 6, 16, 17, 18, 19, 2, 20, 21, 22, 23, 24, 25, 26, 27, 28, 29, 30, 31, 32, 33, 34, 35, 36, 37, 38, 39, 40, 41, 42, 43, 44, 45, 46, 47, 48, 49, 50, 51, 52, 53, 54, 55, 56, 57, 58, 59, 60, 61, 62, 63, 64, 65, 66, 67, 68, 69, 70, 71, 72, 73, 74, 75, 76, 77, 78, 79, 80, 81, 82, 83, 84, 85, 86, 87, 88, 89, 90, 91, 92, 93, 94, 95, 96, 97, 200, 201, 202, 203, 204, 205, 206, 207, 208, 209, 192, 193, 194, 195, 196, 197, 198, 199, 210, 211, 212, 213, 214, 215, 216, 217, 218, 219, 220, 221, 222, 223, 224] (by decide +kernel) (by decide +kernel)
set_option maxRecDepth 20000 in
theorem gX6_worst_X6_refusalOfSearch : GoodIn wsX6_worst (wsV RX6 129 RX6 yX6_refusalOfSearch wsX6_refusalOfSearch) := goodIn_app (goodIn_of _ (by decide +kernel)) ggX6_worst_X6_refusalOfSearch
set_option maxRecDepth 20000 in
theorem ggX6_worst_X2_tryAll : GoodIn wsX6_worst wsX2_tryAll := goodIn_r _ [101, 97, 102, 103, 104, 105, 106, 107, 95, 108, 109, 110, 111, 112, 113, 114, 115, 116, 117, 118, 119, 120, 121, 122, 123, 24, 124, 26, 125, 38, 126, 127, 128, 129, 130, 131, 132, 133, 134, 135, 136, 137, 33, 27, 28, 29, 30, 31, 138, 36, 34, 42, 43, 44, 45, 46, 47, 48, 49, 50, 51, 52, 53, 54, 55, 56, 57, 58, 139, 140, 141, 142, 143, 60, 61, 62, 63, 64, 65, 66, 67, 68, 69, 70, 71, 72, 73, 74, 75, 76, 77, 78, 79, 80, 81, 82, 83, 84, 85, 86, 6, 87, 144, 89, 90, 91, 145, 146, 147, 148, 149, 150, 151, 152, 153, 154, 155, 156, 157, 158, 159, 160, 161, 40, 220, 221, 222, 223, 224, 210, 211, 212, 213, 214, 215, 200, 201, 202, 203, 204, 205, 206, 207, 208, 209, 216, 217, 218, 219] (by decide +kernel) (by decide +kernel)
set_option maxRecDepth 20000 in
theorem gX6_worst_X2_tryAll : GoodIn wsX6_worst (wsV RX6 135 RX2 yX2_tryAll wsX2_tryAll) := goodIn_app (goodIn_of _ (by decide +kernel)) ggX6_worst_X2_tryAll
set_option maxRecDepth 20000 in
theorem ggX6_worst_X2_worstCode : GoodIn wsX6_worst wsX2_worstCode := goodIn_r _ [165, 166, 167, 168, 169, 95, 170, 171, 172, 173, 174, 102, 103, 104, 117, 118, 119, 120, 97, 175, 176, 177, 178, 105, 106, 107, 108, 179, 180, 115, 181, 182, 183, 184, 185, 186, 187, 188, 189, 190, 191, 220, 221, 222, 223, 224, 210, 211, 212, 213, 214, 215, 200, 201, 202, 203, 204, 205, 206, 207, 208, 209] (by decide +kernel) (by decide +kernel)
set_option maxRecDepth 20000 in
theorem gX6_worst_X2_worstCode : GoodIn wsX6_worst (wsV RX6 156 RX2 yX2_worstCode wsX2_worstCode) := goodIn_app (goodIn_of _ (by decide +kernel)) ggX6_worst_X2_worstCode
theorem dX6_worst_0 : decode cX6_worst 0 = .ok (.iload_n 1, 1) := by decide +kernel
theorem dX6_worst_1 : decode cX6_worst 1 = .ok (.invokestatic 126, 3) := by decide +kernel
theorem dX6_worst_4 : decode cX6_worst 4 = .ok (.ifCond .ne 6, 3) := by decide +kernel
theorem dX6_worst_7 : decode cX6_worst 7 = .ok (.bipush (-102), 2) := by decide +kernel
theorem dX6_worst_9 : decode cX6_worst 9 = .ok (.ireturn, 1) := by decide +kernel
theorem dX6_worst_10 : decode cX6_worst 10 = .ok (.aload_n 0, 1) := by decide +kernel
theorem dX6_worst_11 : decode cX6_worst 11 = .ok (.iconst 1, 1) := by decide +kernel
theorem dX6_worst_12 : decode cX6_worst 12 = .ok (.invokevirtual 129, 3) := by decide +kernel
theorem dX6_worst_15 : decode cX6_worst 15 = .ok (.istore_n 3, 1) := by decide +kernel
theorem dX6_worst_16 : decode cX6_worst 16 = .ok (.iload_n 3, 1) := by decide +kernel
theorem dX6_worst_17 : decode cX6_worst 17 = .ok (.ifCond .eq 5, 3) := by decide +kernel
theorem dX6_worst_20 : decode cX6_worst 20 = .ok (.iload_n 3, 1) := by decide +kernel
theorem dX6_worst_21 : decode cX6_worst 21 = .ok (.ireturn, 1) := by decide +kernel
theorem dX6_worst_22 : decode cX6_worst 22 = .ok (.aload_n 0, 1) := by decide +kernel
theorem dX6_worst_23 : decode cX6_worst 23 = .ok (.dup, 1) := by decide +kernel
theorem dX6_worst_24 : decode cX6_worst 24 = .ok (.getfield 132, 3) := by decide +kernel
theorem dX6_worst_27 : decode cX6_worst 27 = .ok (.iconst 1, 1) := by decide +kernel
theorem dX6_worst_28 : decode cX6_worst 28 = .ok (.iadd, 1) := by decide +kernel
theorem dX6_worst_29 : decode cX6_worst 29 = .ok (.putfield 132, 3) := by decide +kernel
theorem dX6_worst_32 : decode cX6_worst 32 = .ok (.aload_n 0, 1) := by decide +kernel
theorem dX6_worst_33 : decode cX6_worst 33 = .ok (.getfield 37, 3) := by decide +kernel
theorem dX6_worst_36 : decode cX6_worst 36 = .ok (.iload_n 1, 1) := by decide +kernel
theorem dX6_worst_37 : decode cX6_worst 37 = .ok (.invokevirtual 135, 3) := by decide +kernel
theorem dX6_worst_40 : decode cX6_worst 40 = .ok (.aload_n 0, 1) := by decide +kernel
theorem dX6_worst_41 : decode cX6_worst 41 = .ok (.getfield 37, 3) := by decide +kernel
theorem dX6_worst_44 : decode cX6_worst 44 = .ok (.iload_n 2, 1) := by decide +kernel
theorem dX6_worst_45 : decode cX6_worst 45 = .ok (.aload_n 0, 1) := by decide +kernel
theorem dX6_worst_46 : decode cX6_worst 46 = .ok (.getfield 20, 3) := by decide +kernel
theorem dX6_worst_49 : decode cX6_worst 49 = .ok (.invokevirtual 156, 3) := by decide +kernel
theorem dX6_worst_52 : decode cX6_worst 52 = .ok (.ireturn, 1) := by decide +kernel
set_option maxRecDepth 20000 in
theorem ggX6_costs_X6_priceOf : GoodIn wsX6_costs wsX6_priceOf := goodIn_r _ [5, 6] (by decide +kernel) (by decide +kernel)
set_option maxRecDepth 20000 in
theorem gX6_costs_X6_priceOf : GoodIn wsX6_costs (va_wsS RX6 159 yX6_priceOf wsX6_priceOf) := goodIn_app (goodIn_of _ (by decide +kernel)) ggX6_costs_X6_priceOf
theorem dX6_costs_0 : decode cX6_costs 0 = .ok (.aload_n 0, 1) := by decide +kernel
theorem dX6_costs_1 : decode cX6_costs 1 = .ok (.getfield 20, 3) := by decide +kernel
theorem dX6_costs_4 : decode cX6_costs 4 = .ok (.invokestatic 159, 3) := by decide +kernel
theorem dX6_costs_7 : decode cX6_costs 7 = .ok (.ireturn, 1) := by decide +kernel
set_option maxRecDepth 20000 in
theorem ggX6_best_X6_isWidth : GoodIn wsX6_best wsX6_isWidth := goodIn_r _ [7] (by decide +kernel) (by decide +kernel)
set_option maxRecDepth 20000 in
theorem gX6_best_X6_isWidth : GoodIn wsX6_best (va_wsS RX6 126 yX6_isWidth wsX6_isWidth) := goodIn_app (goodIn_of _ (by decide +kernel)) ggX6_best_X6_isWidth
set_option maxRecDepth 20000 in
theorem ggX6_best_X6_refusalOfSearch : GoodIn wsX6_best wsX6_refusalOfSearch := goodIn_r _ [11, 12, 1, 13, 14, 15, 6, 16, 17, 18, 19, 2, 20, 21, 22, 23, 24, 25, 26, 27, 28, 29, 30, 31, 32, 33, 34, 35, 36, 37, 38, 39, 40, 41, 42, 43, 44, 45, 46, 47, 48, 49, 50, 51, 52, 53, 54, 55, 56, 57, 58, 59, 60, 61, 62, 63, 64, 65, 66, 67, 68, 69, 70, 71, 72, 73, 74, 75, 76, 77, 78, 79, 80, 81, 82, 83, 84, 85, 86, 87, 88, 89, 90, 91, 92, 93, 94, 95, 96, 97, 224, 225, 226, 227, 228, 229, 230, 231, 232, 233, 216, 217, 218, 219, 220, 221, 222, 223, 234, 235, 236, 237, 238, 239, 240, 241, 242, 243, 244, 245, 246, 247, 248] (by decide +kernel) (by decide +kernel)
set_option maxRecDepth 20000 in
theorem gX6_best_X6_refusalOfSearch : GoodIn wsX6_best (wsV RX6 129 RX6 yX6_refusalOfSearch wsX6_refusalOfSearch) := goodIn_app (goodIn_of _ (by decide +kernel)) ggX6_best_X6_refusalOfSearch
set_option maxRecDepth 20000 in
theorem ggX6_best_X2_tryAll : GoodIn wsX6_best wsX2_tryAll := goodIn_r _ [101, 97, 102, 103, 104, 105, 106, 107, 95, 108, 109, 110, 111, 112, 113, 114, 115, 116, 117, 118, 119, 120, 121, 122, 123, 24, 124, 26, 125, 38, 126, 127, 128, 129, 130, 131, 132, 133, 134, 135, 136, 137, 33, 27, 28, 29, 30, 31, 138, 36, 34, 42, 43, 44, 45, 46, 47, 48, 49, 50, 51, 52, 53, 54, 55, 56, 57, 58, 139, 140, 141, 142, 143, 60, 61, 62, 63, 64, 65, 66, 67, 68, 69, 70, 71, 72, 73, 74, 75, 76, 77, 78, 79, 80, 81, 82, 83, 84, 85, 86, 6, 87, 144, 89, 90, 91, 145, 146, 147, 148, 149, 150, 151, 152, 153, 154, 155, 156, 157, 158, 159, 160, 161, 40, 244, 245, 246, 247, 248, 234, 235, 236, 237, 238, 239, 224, 225, 226, 227, 228, 229, 230, 231, 232, 233, 240, 241, 242, 243] (by decide +kernel) (by decide +kernel)
set_option maxRecDepth 20000 in
theorem gX6_best_X2_tryAll : GoodIn wsX6_best (wsV RX6 135 RX2 yX2_tryAll wsX2_tryAll) := goodIn_app (goodIn_of _ (by decide +kernel)) ggX6_best_X2_tryAll
set_option maxRecDepth 20000 in
theorem ggX6_best_X0_find : GoodIn wsX6_best wsX0_find := goodIn_r _ [166, 167, 168, 169, 170, 171, 165, 172, 173, 174, 175, 176, 95, 177, 102, 103, 104, 178, 118, 119, 120, 97, 179, 180, 181, 182, 183, 184, 185, 186, 105, 187, 188, 115, 189, 190, 191, 192, 193, 107, 108, 194, 195, 196, 197, 198, 151, 152, 153, 199, 200, 201, 202, 203, 204, 205, 206, 207, 208, 209, 210, 211, 212, 213, 214, 215, 249, 250, 251, 252, 244, 245, 246, 247, 248, 234, 235, 236, 237, 238, 239, 224, 225, 226, 227, 228, 229, 230, 231, 232, 233] (by decide +kernel) (by decide +kernel)
set_option maxRecDepth 20000 in
theorem gX6_best_X0_find : GoodIn wsX6_best (wsV RX6 163 RX0 yX0_find wsX0_find) := goodIn_app (goodIn_of _ (by decide +kernel)) ggX6_best_X0_find
theorem dX6_best_0 : decode cX6_best 0 = .ok (.iload_n 1, 1) := by decide +kernel
theorem dX6_best_1 : decode cX6_best 1 = .ok (.invokestatic 126, 3) := by decide +kernel
theorem dX6_best_4 : decode cX6_best 4 = .ok (.ifCond .eq 13, 3) := by decide +kernel
theorem dX6_best_7 : decode cX6_best 7 = .ok (.iload_n 2, 1) := by decide +kernel
theorem dX6_best_8 : decode cX6_best 8 = .ok (.ifCond .lt 9, 3) := by decide +kernel
theorem dX6_best_11 : decode cX6_best 11 = .ok (.iload_n 2, 1) := by decide +kernel
theorem dX6_best_12 : decode cX6_best 12 = .ok (.bipush 64, 2) := by decide +kernel
theorem dX6_best_14 : decode cX6_best 14 = .ok (.if_icmp .le 6, 3) := by decide +kernel
theorem dX6_best_17 : decode cX6_best 17 = .ok (.bipush (-102), 2) := by decide +kernel
theorem dX6_best_19 : decode cX6_best 19 = .ok (.ireturn, 1) := by decide +kernel
theorem dX6_best_20 : decode cX6_best 20 = .ok (.aload_n 0, 1) := by decide +kernel
theorem dX6_best_21 : decode cX6_best 21 = .ok (.iconst 4, 1) := by decide +kernel
theorem dX6_best_22 : decode cX6_best 22 = .ok (.invokevirtual 129, 3) := by decide +kernel
theorem dX6_best_25 : decode cX6_best 25 = .ok (.istore_n 3, 1) := by decide +kernel
theorem dX6_best_26 : decode cX6_best 26 = .ok (.iload_n 3, 1) := by decide +kernel
theorem dX6_best_27 : decode cX6_best 27 = .ok (.ifCond .eq 5, 3) := by decide +kernel
theorem dX6_best_30 : decode cX6_best 30 = .ok (.iload_n 3, 1) := by decide +kernel
theorem dX6_best_31 : decode cX6_best 31 = .ok (.ireturn, 1) := by decide +kernel
theorem dX6_best_32 : decode cX6_best 32 = .ok (.aload_n 0, 1) := by decide +kernel
theorem dX6_best_33 : decode cX6_best 33 = .ok (.dup, 1) := by decide +kernel
theorem dX6_best_34 : decode cX6_best 34 = .ok (.getfield 132, 3) := by decide +kernel
theorem dX6_best_37 : decode cX6_best 37 = .ok (.iconst 4, 1) := by decide +kernel
theorem dX6_best_38 : decode cX6_best 38 = .ok (.iadd, 1) := by decide +kernel
theorem dX6_best_39 : decode cX6_best 39 = .ok (.putfield 132, 3) := by decide +kernel
theorem dX6_best_42 : decode cX6_best 42 = .ok (.aload_n 0, 1) := by decide +kernel
theorem dX6_best_43 : decode cX6_best 43 = .ok (.getfield 37, 3) := by decide +kernel
theorem dX6_best_46 : decode cX6_best 46 = .ok (.iload_n 1, 1) := by decide +kernel
theorem dX6_best_47 : decode cX6_best 47 = .ok (.invokevirtual 135, 3) := by decide +kernel
theorem dX6_best_50 : decode cX6_best 50 = .ok (.aload_n 0, 1) := by decide +kernel
theorem dX6_best_51 : decode cX6_best 51 = .ok (.getfield 44, 3) := by decide +kernel
theorem dX6_best_54 : decode cX6_best 54 = .ok (.aload_n 0, 1) := by decide +kernel
theorem dX6_best_55 : decode cX6_best 55 = .ok (.getfield 37, 3) := by decide +kernel
theorem dX6_best_58 : decode cX6_best 58 = .ok (.iload_n 2, 1) := by decide +kernel
theorem dX6_best_59 : decode cX6_best 59 = .ok (.invokevirtual 163, 3) := by decide +kernel
theorem dX6_best_62 : decode cX6_best 62 = .ok (.ireturn, 1) := by decide +kernel
set_option maxRecDepth 20000 in
theorem ggX6_chosen_X6_isCell : GoodIn wsX6_chosen wsX6_isCell := goodIn_r _ [4] (by decide +kernel) (by decide +kernel)
set_option maxRecDepth 20000 in
theorem gX6_chosen_X6_isCell : GoodIn wsX6_chosen (va_wsS RX6 68 yX6_isCell wsX6_isCell) := goodIn_app (goodIn_of _ (by decide +kernel)) ggX6_chosen_X6_isCell
set_option maxRecDepth 20000 in
theorem ggX6_chosen_X6_chosenOrNone : GoodIn wsX6_chosen wsX6_chosenOrNone := goodIn_r _ [8, 9, 10, 11, 12, 13, 14, 15, 16, 17, 18, 19, 20, 21, 22, 23] (by decide +kernel) (by decide +kernel)
set_option maxRecDepth 20000 in
theorem gX6_chosen_X6_chosenOrNone : GoodIn wsX6_chosen (wsV RX6 167 RX6 yX6_chosenOrNone wsX6_chosenOrNone) := goodIn_app (goodIn_of _ (by decide +kernel)) ggX6_chosen_X6_chosenOrNone
theorem dX6_chosen_0 : decode cX6_chosen 0 = .ok (.iload_n 1, 1) := by decide +kernel
theorem dX6_chosen_1 : decode cX6_chosen 1 = .ok (.invokestatic 68, 3) := by decide +kernel
theorem dX6_chosen_4 : decode cX6_chosen 4 = .ok (.ifCond .ne 6, 3) := by decide +kernel
theorem dX6_chosen_7 : decode cX6_chosen 7 = .ok (.bipush (-101), 2) := by decide +kernel
theorem dX6_chosen_9 : decode cX6_chosen 9 = .ok (.ireturn, 1) := by decide +kernel
theorem dX6_chosen_10 : decode cX6_chosen 10 = .ok (.aload_n 0, 1) := by decide +kernel
theorem dX6_chosen_11 : decode cX6_chosen 11 = .ok (.iload_n 1, 1) := by decide +kernel
theorem dX6_chosen_12 : decode cX6_chosen 12 = .ok (.invokevirtual 167, 3) := by decide +kernel
theorem dX6_chosen_15 : decode cX6_chosen 15 = .ok (.ireturn, 1) := by decide +kernel
