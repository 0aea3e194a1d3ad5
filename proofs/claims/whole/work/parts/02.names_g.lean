theorem dX7_harm_46 : decode cX7_harm 46 = .ok (.ireturn, 1) := by decide +kernel
set_option maxRecDepth 20000 in
theorem ggX7_lasts_X7_barred : GoodIn wsX7_lasts wsX7_barred := goodIn_r _ [7, 8, 9, 10, 11, 6, 12, 13, 14, 15, 16, 17, 18, 19, 20, 2, 21, 22, 23, 24, 25, 26, 27, 28, 29, 30, 31, 32, 33, 34, 35, 36, 37, 38, 39, 40, 41, 42, 43, 44, 45, 46, 47, 48, 49, 50, 51, 52, 53, 54, 55, 56, 57, 58, 59, 60, 61, 62, 63, 64, 65, 66, 75, 76, 77, 78, 79, 80, 81, 82, 83, 84, 85, 86, 87, 88, 89, 90, 91, 92, 93, 94, 95, 96, 97, 98, 99, 100, 101, 102, 103, 104] (by decide +kernel) (by decide +kernel)
set_option maxRecDepth 20000 in
theorem gX7_lasts_X7_barred : GoodIn wsX7_lasts (wsV RX7 145 RX7 yX7_barred wsX7_barred) := goodIn_app (goodIn_of _ (by decide +kernel)) ggX7_lasts_X7_barred
set_option maxRecDepth 20000 in
theorem ggX7_lasts_X7_kindOf : GoodIn wsX7_lasts wsX7_kindOf := goodIn_r _ [70, 36, 35, 20, 25, 26, 27, 6, 28, 29, 30, 31, 32, 33, 2, 21, 34, 37, 38, 39, 40, 41, 42, 43, 44, 45, 24, 46, 47, 48, 49, 13, 14, 15, 50, 51, 52, 53, 54, 55, 56, 57, 58, 59, 60, 61, 62, 63, 64, 65, 66, 71, 72, 73, 74, 22, 23, 75, 76, 77, 78, 79, 80, 81, 82, 83, 84, 85, 86, 87, 88, 89, 90, 91, 92, 93, 94, 95, 96, 97, 98, 99, 100, 101, 102, 103, 104] (by decide +kernel) (by decide +kernel)
set_option maxRecDepth 20000 in
theorem gX7_lasts_X7_kindOf : GoodIn wsX7_lasts (wsV RX7 149 RX7 yX7_kindOf wsX7_kindOf) := goodIn_app (goodIn_of _ (by decide +kernel)) ggX7_lasts_X7_kindOf
theorem dX7_lasts_0 : decode cX7_lasts 0 = .ok (.aload_n 0, 1) := by decide +kernel
theorem dX7_lasts_1 : decode cX7_lasts 1 = .ok (.iload_n 1, 1) := by decide +kernel
theorem dX7_lasts_2 : decode cX7_lasts 2 = .ok (.iload_n 2, 1) := by decide +kernel
theorem dX7_lasts_3 : decode cX7_lasts 3 = .ok (.iload_n 3, 1) := by decide +kernel
theorem dX7_lasts_4 : decode cX7_lasts 4 = .ok (.iload 4, 2) := by decide +kernel
theorem dX7_lasts_6 : decode cX7_lasts 6 = .ok (.invokevirtual 145, 3) := by decide +kernel
theorem dX7_lasts_9 : decode cX7_lasts 9 = .ok (.istore 5, 2) := by decide +kernel
theorem dX7_lasts_11 : decode cX7_lasts 11 = .ok (.iload 5, 2) := by decide +kernel
theorem dX7_lasts_13 : decode cX7_lasts 13 = .ok (.ifCond .eq 6, 3) := by decide +kernel
theorem dX7_lasts_16 : decode cX7_lasts 16 = .ok (.iload 5, 2) := by decide +kernel
theorem dX7_lasts_18 : decode cX7_lasts 18 = .ok (.ireturn, 1) := by decide +kernel
theorem dX7_lasts_19 : decode cX7_lasts 19 = .ok (.aload_n 0, 1) := by decide +kernel
theorem dX7_lasts_20 : decode cX7_lasts 20 = .ok (.iload_n 1, 1) := by decide +kernel
theorem dX7_lasts_21 : decode cX7_lasts 21 = .ok (.iload_n 2, 1) := by decide +kernel
theorem dX7_lasts_22 : decode cX7_lasts 22 = .ok (.iload_n 3, 1) := by decide +kernel
theorem dX7_lasts_23 : decode cX7_lasts 23 = .ok (.iload 4, 2) := by decide +kernel
theorem dX7_lasts_25 : decode cX7_lasts 25 = .ok (.aload_n 0, 1) := by decide +kernel
theorem dX7_lasts_26 : decode cX7_lasts 26 = .ok (.getfield 22, 3) := by decide +kernel
theorem dX7_lasts_29 : decode cX7_lasts 29 = .ok (.iload_n 1, 1) := by decide +kernel
theorem dX7_lasts_30 : decode cX7_lasts 30 = .ok (.iaload, 1) := by decide +kernel
theorem dX7_lasts_31 : decode cX7_lasts 31 = .ok (.invokevirtual 149, 3) := by decide +kernel
theorem dX7_lasts_34 : decode cX7_lasts 34 = .ok (.pop, 1) := by decide +kernel
theorem dX7_lasts_35 : decode cX7_lasts 35 = .ok (.aload_n 0, 1) := by decide +kernel
theorem dX7_lasts_36 : decode cX7_lasts 36 = .ok (.getfield 71, 3) := by decide +kernel
theorem dX7_lasts_39 : decode cX7_lasts 39 = .ok (.iload 4, 2) := by decide +kernel
theorem dX7_lasts_41 : decode cX7_lasts 41 = .ok (.isub, 1) := by decide +kernel
theorem dX7_lasts_42 : decode cX7_lasts 42 = .ok (.ireturn, 1) := by decide +kernel
set_option maxRecDepth 20000 in
theorem ggX7_shut_X7_in : GoodIn wsX7_shut wsX7_in := goodIn_r _ [6] (by decide +kernel) (by decide +kernel)
set_option maxRecDepth 20000 in
theorem gX7_shut_X7_in : GoodIn wsX7_shut (va_wsS RX7 43 yX7_in wsX7_in) := goodIn_app (goodIn_of _ (by decide +kernel)) ggX7_shut_X7_in
set_option maxRecDepth 20000 in
theorem ggX7_shut_X7_goPlain : GoodIn wsX7_shut wsX7_goPlain := goodIn_r _ [10, 11, 1, 12, 13, 14, 15, 16, 17, 18, 19, 20, 5, 21, 22, 23, 24, 25, 26, 27, 28, 29, 30, 31, 32, 33, 34, 35, 36, 37, 38, 39, 40, 41, 42, 3, 4, 6, 43, 44, 45, 46, 47, 48, 49, 50, 51, 52, 53, 54, 55, 56, 57, 58, 59, 60, 61, 62, 63, 64, 65, 66, 67, 68, 69, 70, 71, 72, 73, 74, 75, 76, 77, 78, 79, 80, 81, 82, 83, 84, 85, 86, 87, 88, 89] (by decide +kernel) (by decide +kernel)
set_option maxRecDepth 20000 in
theorem gX7_shut_X7_goPlain : GoodIn wsX7_shut (wsV RX7 138 RX7 yX7_goPlain wsX7_goPlain) := goodIn_app (goodIn_of _ (by decide +kernel)) ggX7_shut_X7_goPlain
theorem dX7_shut_0 : decode cX7_shut 0 = .ok (.iload_n 1, 1) := by decide +kernel
theorem dX7_shut_1 : decode cX7_shut 1 = .ok (.iconst 1, 1) := by decide +kernel
theorem dX7_shut_2 : decode cX7_shut 2 = .ok (.iconst 2, 1) := by decide +kernel
theorem dX7_shut_3 : decode cX7_shut 3 = .ok (.invokestatic 43, 3) := by decide +kernel
theorem dX7_shut_6 : decode cX7_shut 6 = .ok (.ifCond .ne 6, 3) := by decide +kernel
theorem dX7_shut_9 : decode cX7_shut 9 = .ok (.bipush (-102), 2) := by decide +kernel
theorem dX7_shut_11 : decode cX7_shut 11 = .ok (.ireturn, 1) := by decide +kernel
theorem dX7_shut_12 : decode cX7_shut 12 = .ok (.aload_n 0, 1) := by decide +kernel
theorem dX7_shut_13 : decode cX7_shut 13 = .ok (.invokevirtual 138, 3) := by decide +kernel
theorem dX7_shut_16 : decode cX7_shut 16 = .ok (.aload_n 0, 1) := by decide +kernel
theorem dX7_shut_17 : decode cX7_shut 17 = .ok (.getfield 129, 3) := by decide +kernel
theorem dX7_shut_20 : decode cX7_shut 20 = .ok (.iconst 1, 1) := by decide +kernel
theorem dX7_shut_21 : decode cX7_shut 21 = .ok (.if_icmp .eq 6, 3) := by decide +kernel
theorem dX7_shut_24 : decode cX7_shut 24 = .ok (.bipush (-103), 2) := by decide +kernel
theorem dX7_shut_26 : decode cX7_shut 26 = .ok (.ireturn, 1) := by decide +kernel
theorem dX7_shut_27 : decode cX7_shut 27 = .ok (.aload_n 0, 1) := by decide +kernel
theorem dX7_shut_28 : decode cX7_shut 28 = .ok (.getfield 153, 3) := by decide +kernel
theorem dX7_shut_31 : decode cX7_shut 31 = .ok (.iload_n 2, 1) := by decide +kernel
theorem dX7_shut_32 : decode cX7_shut 32 = .ok (.iadd, 1) := by decide +kernel
theorem dX7_shut_33 : decode cX7_shut 33 = .ok (.bipush 60, 2) := by decide +kernel
theorem dX7_shut_35 : decode cX7_shut 35 = .ok (.if_icmp .le 6, 3) := by decide +kernel
theorem dX7_shut_38 : decode cX7_shut 38 = .ok (.bipush (-104), 2) := by decide +kernel
theorem dX7_shut_40 : decode cX7_shut 40 = .ok (.ireturn, 1) := by decide +kernel
theorem dX7_shut_41 : decode cX7_shut 41 = .ok (.aload_n 0, 1) := by decide +kernel
theorem dX7_shut_42 : decode cX7_shut 42 = .ok (.dup, 1) := by decide +kernel
theorem dX7_shut_43 : decode cX7_shut 43 = .ok (.getfield 153, 3) := by decide +kernel
theorem dX7_shut_46 : decode cX7_shut 46 = .ok (.iload_n 2, 1) := by decide +kernel
theorem dX7_shut_47 : decode cX7_shut 47 = .ok (.iadd, 1) := by decide +kernel
theorem dX7_shut_48 : decode cX7_shut 48 = .ok (.putfield 153, 3) := by decide +kernel
theorem dX7_shut_51 : decode cX7_shut 51 = .ok (.iconst 0, 1) := by decide +kernel
theorem dX7_shut_52 : decode cX7_shut 52 = .ok (.ireturn, 1) := by decide +kernel
set_option maxRecDepth 20000 in
theorem ggX7_counted_X7_kindOf : GoodIn wsX7_counted wsX7_kindOf := goodIn_r _ [6, 7, 8, 9, 10, 11, 12, 5, 13, 14, 15, 16, 17, 18, 19, 20, 21, 22, 23, 24, 25, 26, 27, 28, 29, 30, 31, 32, 33, 34, 35, 36, 37, 38, 39, 40, 41, 42, 43, 44, 45, 46, 47, 48, 49, 50, 51, 52, 53, 54, 55, 56, 57, 58, 59, 60, 61, 62, 63, 64, 65, 66, 67, 68, 69, 70, 71, 72, 73, 74, 75, 76, 77, 78, 79, 80, 81, 82, 83, 84, 85, 86, 87, 88, 89, 90, 91] (by decide +kernel) (by decide +kernel)
set_option maxRecDepth 20000 in
theorem gX7_counted_X7_kindOf : GoodIn wsX7_counted (wsV RX7 149 RX7 yX7_kindOf wsX7_kindOf) := goodIn_app (goodIn_of _ (by decide +kernel)) ggX7_counted_X7_kindOf
theorem dX7_counted_0 : decode cX7_counted 0 = .ok (.iconst 0, 1) := by decide +kernel
theorem dX7_counted_1 : decode cX7_counted 1 = .ok (.istore 5, 2) := by decide +kernel
theorem dX7_counted_3 : decode cX7_counted 3 = .ok (.iconst 0, 1) := by decide +kernel
theorem dX7_counted_4 : decode cX7_counted 4 = .ok (.istore 6, 2) := by decide +kernel
theorem dX7_counted_6 : decode cX7_counted 6 = .ok (.iload 6, 2) := by decide +kernel
theorem dX7_counted_8 : decode cX7_counted 8 = .ok (.aload_n 0, 1) := by decide +kernel
theorem dX7_counted_9 : decode cX7_counted 9 = .ok (.getfield 132, 3) := by decide +kernel
theorem dX7_counted_12 : decode cX7_counted 12 = .ok (.if_icmp .ge 53, 3) := by decide +kernel
theorem dX7_counted_15 : decode cX7_counted 15 = .ok (.iconst 0, 1) := by decide +kernel
theorem dX7_counted_16 : decode cX7_counted 16 = .ok (.istore 7, 2) := by decide +kernel
theorem dX7_counted_18 : decode cX7_counted 18 = .ok (.iload 7, 2) := by decide +kernel
theorem dX7_counted_20 : decode cX7_counted 20 = .ok (.bipush 8, 2) := by decide +kernel
theorem dX7_counted_22 : decode cX7_counted 22 = .ok (.iload_n 2, 1) := by decide +kernel
theorem dX7_counted_23 : decode cX7_counted 23 = .ok (.isub, 1) := by decide +kernel
theorem dX7_counted_24 : decode cX7_counted 24 = .ok (.if_icmp .gt 35, 3) := by decide +kernel
theorem dX7_counted_27 : decode cX7_counted 27 = .ok (.iload 5, 2) := by decide +kernel
theorem dX7_counted_29 : decode cX7_counted 29 = .ok (.aload_n 0, 1) := by decide +kernel
theorem dX7_counted_30 : decode cX7_counted 30 = .ok (.iload_n 1, 1) := by decide +kernel
theorem dX7_counted_31 : decode cX7_counted 31 = .ok (.iload 7, 2) := by decide +kernel
theorem dX7_counted_33 : decode cX7_counted 33 = .ok (.iload_n 2, 1) := by decide +kernel
theorem dX7_counted_34 : decode cX7_counted 34 = .ok (.iload 6, 2) := by decide +kernel
theorem dX7_counted_36 : decode cX7_counted 36 = .ok (.iload 4, 2) := by decide +kernel
theorem dX7_counted_38 : decode cX7_counted 38 = .ok (.invokevirtual 149, 3) := by decide +kernel
theorem dX7_counted_41 : decode cX7_counted 41 = .ok (.iload_n 3, 1) := by decide +kernel
theorem dX7_counted_42 : decode cX7_counted 42 = .ok (.if_icmp .ne 7, 3) := by decide +kernel
theorem dX7_counted_45 : decode cX7_counted 45 = .ok (.iconst 1, 1) := by decide +kernel
theorem dX7_counted_46 : decode cX7_counted 46 = .ok (.goto 4, 3) := by decide +kernel
theorem dX7_counted_49 : decode cX7_counted 49 = .ok (.iconst 0, 1) := by decide +kernel
theorem dX7_counted_50 : decode cX7_counted 50 = .ok (.iadd, 1) := by decide +kernel
theorem dX7_counted_51 : decode cX7_counted 51 = .ok (.istore 5, 2) := by decide +kernel
theorem dX7_counted_53 : decode cX7_counted 53 = .ok (.iinc 7 1, 3) := by decide +kernel
theorem dX7_counted_56 : decode cX7_counted 56 = .ok (.goto (-38), 3) := by decide +kernel
theorem dX7_counted_59 : decode cX7_counted 59 = .ok (.iinc 6 1, 3) := by decide +kernel
theorem dX7_counted_62 : decode cX7_counted 62 = .ok (.goto (-56), 3) := by decide +kernel
theorem dX7_counted_65 : decode cX7_counted 65 = .ok (.iload 5, 2) := by decide +kernel
theorem dX7_counted_67 : decode cX7_counted 67 = .ok (.ireturn, 1) := by decide +kernel
set_option maxRecDepth 20000 in
theorem ggX7_count_X7_in : GoodIn wsX7_count wsX7_in := goodIn_r _ [5] (by decide +kernel) (by decide +kernel)
set_option maxRecDepth 20000 in
theorem gX7_count_X7_in : GoodIn wsX7_count (va_wsS RX7 43 yX7_in wsX7_in) := goodIn_app (goodIn_of _ (by decide +kernel)) ggX7_count_X7_in
set_option maxRecDepth 20000 in
theorem ggX7_count_X7_shut : GoodIn wsX7_count wsX7_shut := goodIn_r _ [9, 10, 11, 2, 3, 4, 5, 12, 13, 14, 15, 16, 17, 18, 19, 20, 21, 22, 23, 24, 25, 26, 27, 28, 29, 30, 31, 32, 33, 34, 35, 36, 37, 38, 39, 40, 41, 42, 43, 44, 45, 46, 47, 48, 49, 50, 51, 52, 53, 54, 55, 56, 57, 58, 59, 60, 61, 62, 63, 64, 77, 78, 79, 80, 81, 82, 83, 84, 85, 86, 87, 88, 89, 90, 91, 92, 93, 94, 95, 96, 97, 98, 99, 100, 101, 102, 103, 104, 105, 106] (by decide +kernel) (by decide +kernel)
set_option maxRecDepth 20000 in
theorem gX7_count_X7_shut : GoodIn wsX7_count (wsV RX7 156 RX7 yX7_shut wsX7_shut) := goodIn_app (goodIn_of _ (by decide +kernel)) ggX7_count_X7_shut
set_option maxRecDepth 20000 in
theorem ggX7_count_X7_counted : GoodIn wsX7_count wsX7_counted := goodIn_r _ [68, 18, 69, 70, 71, 4, 72, 34, 33, 16, 23, 24, 25, 26, 27, 28, 29, 30, 31, 17, 19, 32, 35, 36, 37, 38, 39, 40, 41, 42, 43, 22, 44, 45, 46, 47, 2, 3, 5, 48, 49, 50, 51, 52, 53, 54, 55, 56, 57, 58, 59, 60, 61, 62, 63, 64, 73, 74, 75, 76, 20, 21, 77, 78, 79, 80, 81, 82, 83, 84, 85, 86, 87, 88, 89, 90, 91, 92, 93, 94, 95, 96, 97, 98, 99, 100, 101, 102, 103, 104, 105, 106] (by decide +kernel) (by decide +kernel)
set_option maxRecDepth 20000 in
theorem gX7_count_X7_counted : GoodIn wsX7_count (wsV RX7 160 RX7 yX7_counted wsX7_counted) := goodIn_app (goodIn_of _ (by decide +kernel)) ggX7_count_X7_counted
theorem dX7_count_0 : decode cX7_count 0 = .ok (.iload_n 1, 1) := by decide +kernel
theorem dX7_count_1 : decode cX7_count 1 = .ok (.iconst 0, 1) := by decide +kernel
theorem dX7_count_2 : decode cX7_count 2 = .ok (.bipush 8, 2) := by decide +kernel
theorem dX7_count_4 : decode cX7_count 4 = .ok (.invokestatic 43, 3) := by decide +kernel
theorem dX7_count_7 : decode cX7_count 7 = .ok (.ifCond .ne 6, 3) := by decide +kernel
theorem dX7_count_10 : decode cX7_count 10 = .ok (.bipush (-101), 2) := by decide +kernel
theorem dX7_count_12 : decode cX7_count 12 = .ok (.ireturn, 1) := by decide +kernel
theorem dX7_count_13 : decode cX7_count 13 = .ok (.iload_n 3, 1) := by decide +kernel
theorem dX7_count_14 : decode cX7_count 14 = .ok (.iconst 0, 1) := by decide +kernel
theorem dX7_count_15 : decode cX7_count 15 = .ok (.iconst 5, 1) := by decide +kernel
theorem dX7_count_16 : decode cX7_count 16 = .ok (.invokestatic 43, 3) := by decide +kernel
theorem dX7_count_19 : decode cX7_count 19 = .ok (.ifCond .ne 6, 3) := by decide +kernel
theorem dX7_count_22 : decode cX7_count 22 = .ok (.bipush (-102), 2) := by decide +kernel
theorem dX7_count_24 : decode cX7_count 24 = .ok (.ireturn, 1) := by decide +kernel
theorem dX7_count_25 : decode cX7_count 25 = .ok (.aload_n 0, 1) := by decide +kernel
theorem dX7_count_26 : decode cX7_count 26 = .ok (.iload_n 2, 1) := by decide +kernel
theorem dX7_count_27 : decode cX7_count 27 = .ok (.iconst 1, 1) := by decide +kernel
theorem dX7_count_28 : decode cX7_count 28 = .ok (.invokevirtual 156, 3) := by decide +kernel
theorem dX7_count_31 : decode cX7_count 31 = .ok (.istore 4, 2) := by decide +kernel
theorem dX7_count_33 : decode cX7_count 33 = .ok (.iload 4, 2) := by decide +kernel
theorem dX7_count_35 : decode cX7_count 35 = .ok (.ifCond .eq 6, 3) := by decide +kernel
theorem dX7_count_38 : decode cX7_count 38 = .ok (.iload 4, 2) := by decide +kernel
theorem dX7_count_40 : decode cX7_count 40 = .ok (.ireturn, 1) := by decide +kernel
theorem dX7_count_41 : decode cX7_count 41 = .ok (.iconst 0, 1) := by decide +kernel
theorem dX7_count_42 : decode cX7_count 42 = .ok (.istore 5, 2) := by decide +kernel
theorem dX7_count_44 : decode cX7_count 44 = .ok (.iconst 0, 1) := by decide +kernel
theorem dX7_count_45 : decode cX7_count 45 = .ok (.istore 6, 2) := by decide +kernel
theorem dX7_count_47 : decode cX7_count 47 = .ok (.iload 6, 2) := by decide +kernel
theorem dX7_count_49 : decode cX7_count 49 = .ok (.bipush 8, 2) := by decide +kernel
theorem dX7_count_51 : decode cX7_count 51 = .ok (.if_icmp .ge 45, 3) := by decide +kernel
theorem dX7_count_54 : decode cX7_count 54 = .ok (.iload 5, 2) := by decide +kernel
theorem dX7_count_56 : decode cX7_count 56 = .ok (.iload_n 1, 1) := by decide +kernel
theorem dX7_count_57 : decode cX7_count 57 = .ok (.bipush 8, 2) := by decide +kernel
theorem dX7_count_59 : decode cX7_count 59 = .ok (.if_icmp .eq 9, 3) := by decide +kernel
theorem dX7_count_62 : decode cX7_count 62 = .ok (.iload_n 1, 1) := by decide +kernel
theorem dX7_count_63 : decode cX7_count 63 = .ok (.iload 6, 2) := by decide +kernel
theorem dX7_count_65 : decode cX7_count 65 = .ok (.if_icmp .ne 21, 3) := by decide +kernel
theorem dX7_count_68 : decode cX7_count 68 = .ok (.aload_n 0, 1) := by decide +kernel
theorem dX7_count_69 : decode cX7_count 69 = .ok (.iload 6, 2) := by decide +kernel
theorem dX7_count_71 : decode cX7_count 71 = .ok (.iload_n 2, 1) := by decide +kernel
theorem dX7_count_72 : decode cX7_count 72 = .ok (.iload_n 3, 1) := by decide +kernel
theorem dX7_count_73 : decode cX7_count 73 = .ok (.aload_n 0, 1) := by decide +kernel
theorem dX7_count_74 : decode cX7_count 74 = .ok (.getfield 22, 3) := by decide +kernel
theorem dX7_count_77 : decode cX7_count 77 = .ok (.iload 6, 2) := by decide +kernel
theorem dX7_count_79 : decode cX7_count 79 = .ok (.iaload, 1) := by decide +kernel
theorem dX7_count_80 : decode cX7_count 80 = .ok (.invokevirtual 160, 3) := by decide +kernel
theorem dX7_count_83 : decode cX7_count 83 = .ok (.goto 4, 3) := by decide +kernel
theorem dX7_count_86 : decode cX7_count 86 = .ok (.iconst 0, 1) := by decide +kernel
theorem dX7_count_87 : decode cX7_count 87 = .ok (.iadd, 1) := by decide +kernel
theorem dX7_count_88 : decode cX7_count 88 = .ok (.istore 5, 2) := by decide +kernel
theorem dX7_count_90 : decode cX7_count 90 = .ok (.iinc 6 1, 3) := by decide +kernel
theorem dX7_count_93 : decode cX7_count 93 = .ok (.goto (-46), 3) := by decide +kernel
theorem dX7_count_96 : decode cX7_count 96 = .ok (.iload 5, 2) := by decide +kernel
theorem dX7_count_98 : decode cX7_count 98 = .ok (.ireturn, 1) := by decide +kernel
set_option maxRecDepth 20000 in
theorem ggX7_harmAll_X7_kindOf : GoodIn wsX7_harmAll wsX7_kindOf := goodIn_r _ [8, 9, 10, 11, 12, 13, 14, 7, 15, 16, 17, 18, 19, 20, 21, 22, 23, 24, 25, 26, 27, 28, 29, 30, 31, 32, 33, 34, 35, 36, 37, 38, 39, 40, 41, 42, 43, 44, 45, 46, 47, 48, 49, 50, 51, 52, 53, 54, 55, 56, 57, 58, 59, 60, 61, 62, 63, 64, 65, 66, 67, 68, 69, 70, 71, 72, 73, 74, 75, 76, 77, 78, 79, 80, 81, 82, 83, 84, 85, 86, 87, 88, 89, 90, 91, 92, 93] (by decide +kernel) (by decide +kernel)
set_option maxRecDepth 20000 in
theorem gX7_harmAll_X7_kindOf : GoodIn wsX7_harmAll (wsV RX7 149 RX7 yX7_kindOf wsX7_kindOf) := goodIn_app (goodIn_of _ (by decide +kernel)) ggX7_harmAll_X7_kindOf
set_option maxRecDepth 20000 in
theorem ggX7_harmAll_X7_harmNow : GoodIn wsX7_harmAll wsX7_harmNow := goodIn_r _ [61, 22, 62, 33, 63, 64, 65, 66, 67, 68, 69, 70, 71, 72, 73, 74, 75, 76, 77, 78, 79, 80, 81, 82, 83, 84, 85, 86, 87, 88, 89, 90, 91, 92, 93] (by decide +kernel) (by decide +kernel)
set_option maxRecDepth 20000 in
theorem gX7_harmAll_X7_harmNow : GoodIn wsX7_harmAll (wsV RX7 141 RX7 yX7_harmNow wsX7_harmNow) := goodIn_app (goodIn_of _ (by decide +kernel)) ggX7_harmAll_X7_harmNow
theorem dX7_harmAll_0 : decode cX7_harmAll 0 = .ok (.iconst 0, 1) := by decide +kernel
theorem dX7_harmAll_1 : decode cX7_harmAll 1 = .ok (.istore_n 2, 1) := by decide +kernel
theorem dX7_harmAll_2 : decode cX7_harmAll 2 = .ok (.iload_n 2, 1) := by decide +kernel
theorem dX7_harmAll_3 : decode cX7_harmAll 3 = .ok (.sipush 6400, 3) := by decide +kernel
theorem dX7_harmAll_6 : decode cX7_harmAll 6 = .ok (.if_icmp .ge 81, 3) := by decide +kernel
theorem dX7_harmAll_9 : decode cX7_harmAll 9 = .ok (.iload_n 2, 1) := by decide +kernel
theorem dX7_harmAll_10 : decode cX7_harmAll 10 = .ok (.bipush 64, 2) := by decide +kernel
theorem dX7_harmAll_12 : decode cX7_harmAll 12 = .ok (.idiv, 1) := by decide +kernel
theorem dX7_harmAll_13 : decode cX7_harmAll 13 = .ok (.istore_n 3, 1) := by decide +kernel
theorem dX7_harmAll_14 : decode cX7_harmAll 14 = .ok (.iload_n 2, 1) := by decide +kernel
theorem dX7_harmAll_15 : decode cX7_harmAll 15 = .ok (.bipush 8, 2) := by decide +kernel
theorem dX7_harmAll_17 : decode cX7_harmAll 17 = .ok (.idiv, 1) := by decide +kernel
theorem dX7_harmAll_18 : decode cX7_harmAll 18 = .ok (.bipush 8, 2) := by decide +kernel
theorem dX7_harmAll_20 : decode cX7_harmAll 20 = .ok (.irem, 1) := by decide +kernel
theorem dX7_harmAll_21 : decode cX7_harmAll 21 = .ok (.istore 4, 2) := by decide +kernel
theorem dX7_harmAll_23 : decode cX7_harmAll 23 = .ok (.iload_n 2, 1) := by decide +kernel
theorem dX7_harmAll_24 : decode cX7_harmAll 24 = .ok (.bipush 8, 2) := by decide +kernel
theorem dX7_harmAll_26 : decode cX7_harmAll 26 = .ok (.irem, 1) := by decide +kernel
theorem dX7_harmAll_27 : decode cX7_harmAll 27 = .ok (.istore 5, 2) := by decide +kernel
theorem dX7_harmAll_29 : decode cX7_harmAll 29 = .ok (.aload_n 0, 1) := by decide +kernel
theorem dX7_harmAll_30 : decode cX7_harmAll 30 = .ok (.getfield 37, 3) := by decide +kernel
theorem dX7_harmAll_33 : decode cX7_harmAll 33 = .ok (.iload_n 2, 1) := by decide +kernel
theorem dX7_harmAll_34 : decode cX7_harmAll 34 = .ok (.iload_n 3, 1) := by decide +kernel
theorem dX7_harmAll_35 : decode cX7_harmAll 35 = .ok (.aload_n 0, 1) := by decide +kernel
theorem dX7_harmAll_36 : decode cX7_harmAll 36 = .ok (.getfield 132, 3) := by decide +kernel
theorem dX7_harmAll_39 : decode cX7_harmAll 39 = .ok (.if_icmp .ge 40, 3) := by decide +kernel
theorem dX7_harmAll_42 : decode cX7_harmAll 42 = .ok (.iload 5, 2) := by decide +kernel
theorem dX7_harmAll_44 : decode cX7_harmAll 44 = .ok (.bipush 8, 2) := by decide +kernel
theorem dX7_harmAll_46 : decode cX7_harmAll 46 = .ok (.iload_n 1, 1) := by decide +kernel
theorem dX7_harmAll_47 : decode cX7_harmAll 47 = .ok (.isub, 1) := by decide +kernel
theorem dX7_harmAll_48 : decode cX7_harmAll 48 = .ok (.if_icmp .gt 31, 3) := by decide +kernel
theorem dX7_harmAll_51 : decode cX7_harmAll 51 = .ok (.aload_n 0, 1) := by decide +kernel
theorem dX7_harmAll_52 : decode cX7_harmAll 52 = .ok (.iload 4, 2) := by decide +kernel
theorem dX7_harmAll_54 : decode cX7_harmAll 54 = .ok (.iload 5, 2) := by decide +kernel
theorem dX7_harmAll_56 : decode cX7_harmAll 56 = .ok (.iload_n 1, 1) := by decide +kernel
theorem dX7_harmAll_57 : decode cX7_harmAll 57 = .ok (.iload_n 3, 1) := by decide +kernel
theorem dX7_harmAll_58 : decode cX7_harmAll 58 = .ok (.aload_n 0, 1) := by decide +kernel
theorem dX7_harmAll_59 : decode cX7_harmAll 59 = .ok (.getfield 22, 3) := by decide +kernel
theorem dX7_harmAll_62 : decode cX7_harmAll 62 = .ok (.iload 4, 2) := by decide +kernel
theorem dX7_harmAll_64 : decode cX7_harmAll 64 = .ok (.iaload, 1) := by decide +kernel
theorem dX7_harmAll_65 : decode cX7_harmAll 65 = .ok (.invokevirtual 149, 3) := by decide +kernel
theorem dX7_harmAll_68 : decode cX7_harmAll 68 = .ok (.iconst 5, 1) := by decide +kernel
theorem dX7_harmAll_69 : decode cX7_harmAll 69 = .ok (.if_icmp .ne 10, 3) := by decide +kernel
theorem dX7_harmAll_72 : decode cX7_harmAll 72 = .ok (.aload_n 0, 1) := by decide +kernel
theorem dX7_harmAll_73 : decode cX7_harmAll 73 = .ok (.invokevirtual 141, 3) := by decide +kernel
theorem dX7_harmAll_76 : decode cX7_harmAll 76 = .ok (.goto 4, 3) := by decide +kernel
theorem dX7_harmAll_79 : decode cX7_harmAll 79 = .ok (.iconst 0, 1) := by decide +kernel
theorem dX7_harmAll_80 : decode cX7_harmAll 80 = .ok (.iastore, 1) := by decide +kernel
theorem dX7_harmAll_81 : decode cX7_harmAll 81 = .ok (.iinc 2 1, 3) := by decide +kernel
theorem dX7_harmAll_84 : decode cX7_harmAll 84 = .ok (.goto (-82), 3) := by decide +kernel
theorem dX7_harmAll_87 : decode cX7_harmAll 87 = .ok (.return_, 1) := by decide +kernel
set_option maxRecDepth 20000 in
theorem ggX7_all_X7_shut : GoodIn wsX7_all wsX7_shut := goodIn_r _ [6, 7, 8, 9, 10, 5, 11, 12, 13, 14, 15, 16, 17, 18, 19, 20, 21, 22, 23, 24, 25, 26, 27, 28, 29, 30, 31, 32, 33, 34, 35, 36, 37, 38, 39, 40, 41, 42, 43, 44, 45, 46, 47, 48, 49, 50, 51, 52, 53, 54, 55, 56, 57, 58, 59, 60, 61, 62, 63, 64, 78, 79, 80, 81, 82, 83, 84, 85, 86, 87, 88, 89, 90, 91, 92, 93, 94, 95, 96, 97, 98, 99, 100, 101, 102, 103, 104, 105, 106, 107] (by decide +kernel) (by decide +kernel)
set_option maxRecDepth 20000 in
theorem gX7_all_X7_shut : GoodIn wsX7_all (wsV RX7 156 RX7 yX7_shut wsX7_shut) := goodIn_app (goodIn_of _ (by decide +kernel)) ggX7_all_X7_shut
set_option maxRecDepth 20000 in
theorem ggX7_all_X7_harmAll : GoodIn wsX7_all wsX7_harmAll := goodIn_r _ [68, 1, 18, 69, 70, 71, 72, 5, 73, 34, 33, 16, 23, 24, 25, 26, 27, 28, 29, 30, 31, 17, 19, 32, 35, 36, 37, 38, 39, 40, 41, 42, 43, 22, 44, 45, 46, 47, 9, 10, 11, 48, 49, 50, 51, 52, 53, 54, 55, 56, 57, 58, 59, 60, 61, 62, 63, 64, 74, 75, 76, 77, 20, 21, 78, 79, 80, 81, 82, 83, 84, 85, 86, 87, 88, 89, 90, 91, 92, 93, 94, 95, 96, 97, 98, 99, 100, 101, 102, 103, 104, 105, 106, 107] (by decide +kernel) (by decide +kernel)
set_option maxRecDepth 20000 in
theorem gX7_all_X7_harmAll : GoodIn wsX7_all (wsV RX7 163 RX7 yX7_harmAll wsX7_harmAll) := goodIn_app (goodIn_of _ (by decide +kernel)) ggX7_all_X7_harmAll
theorem dX7_all_0 : decode cX7_all 0 = .ok (.aload_n 0, 1) := by decide +kernel
theorem dX7_all_1 : decode cX7_all 1 = .ok (.iload_n 1, 1) := by decide +kernel
theorem dX7_all_2 : decode cX7_all 2 = .ok (.iconst 1, 1) := by decide +kernel
theorem dX7_all_3 : decode cX7_all 3 = .ok (.invokevirtual 156, 3) := by decide +kernel
theorem dX7_all_6 : decode cX7_all 6 = .ok (.istore_n 2, 1) := by decide +kernel
theorem dX7_all_7 : decode cX7_all 7 = .ok (.iload_n 2, 1) := by decide +kernel
theorem dX7_all_8 : decode cX7_all 8 = .ok (.ifCond .eq 5, 3) := by decide +kernel
theorem dX7_all_11 : decode cX7_all 11 = .ok (.iload_n 2, 1) := by decide +kernel
theorem dX7_all_12 : decode cX7_all 12 = .ok (.ireturn, 1) := by decide +kernel
theorem dX7_all_13 : decode cX7_all 13 = .ok (.aload_n 0, 1) := by decide +kernel
theorem dX7_all_14 : decode cX7_all 14 = .ok (.iload_n 1, 1) := by decide +kernel
theorem dX7_all_15 : decode cX7_all 15 = .ok (.invokevirtual 163, 3) := by decide +kernel
theorem dX7_all_18 : decode cX7_all 18 = .ok (.iconst 0, 1) := by decide +kernel
theorem dX7_all_19 : decode cX7_all 19 = .ok (.istore_n 3, 1) := by decide +kernel
theorem dX7_all_20 : decode cX7_all 20 = .ok (.iconst 0, 1) := by decide +kernel
theorem dX7_all_21 : decode cX7_all 21 = .ok (.istore 4, 2) := by decide +kernel
theorem dX7_all_23 : decode cX7_all 23 = .ok (.iload 4, 2) := by decide +kernel
theorem dX7_all_25 : decode cX7_all 25 = .ok (.sipush 6400, 3) := by decide +kernel
theorem dX7_all_28 : decode cX7_all 28 = .ok (.if_icmp .ge 19, 3) := by decide +kernel
theorem dX7_all_31 : decode cX7_all 31 = .ok (.iload_n 3, 1) := by decide +kernel
theorem dX7_all_32 : decode cX7_all 32 = .ok (.aload_n 0, 1) := by decide +kernel
theorem dX7_all_33 : decode cX7_all 33 = .ok (.getfield 37, 3) := by decide +kernel
theorem dX7_all_36 : decode cX7_all 36 = .ok (.iload 4, 2) := by decide +kernel
theorem dX7_all_38 : decode cX7_all 38 = .ok (.iaload, 1) := by decide +kernel
theorem dX7_all_39 : decode cX7_all 39 = .ok (.iadd, 1) := by decide +kernel
theorem dX7_all_40 : decode cX7_all 40 = .ok (.istore_n 3, 1) := by decide +kernel
theorem dX7_all_41 : decode cX7_all 41 = .ok (.iinc 4 1, 3) := by decide +kernel
theorem dX7_all_44 : decode cX7_all 44 = .ok (.goto (-21), 3) := by decide +kernel
theorem dX7_all_47 : decode cX7_all 47 = .ok (.iload_n 3, 1) := by decide +kernel
theorem dX7_all_48 : decode cX7_all 48 = .ok (.ireturn, 1) := by decide +kernel
set_option maxRecDepth 20000 in
theorem ggX7_worst_X7_shut : GoodIn wsX7_worst wsX7_shut := goodIn_r _ [6, 7, 8, 9, 10, 5, 11, 12, 13, 14, 15, 16, 17, 18, 19, 20, 21, 22, 23, 24, 25, 26, 27, 28, 29, 30, 31, 32, 33, 34, 35, 36, 37, 38, 39, 40, 41, 42, 43, 44, 45, 46, 47, 48, 49, 50, 51, 52, 53, 54, 55, 56, 57, 58, 59, 60, 61, 62, 63, 64, 78, 79, 80, 81, 82, 83, 84, 85, 86, 87, 88, 89, 90, 91, 92, 93, 94, 95, 96, 97, 98, 99, 100, 101, 102, 103, 104, 105, 106, 107] (by decide +kernel) (by decide +kernel)
set_option maxRecDepth 20000 in
theorem gX7_worst_X7_shut : GoodIn wsX7_worst (wsV RX7 156 RX7 yX7_shut wsX7_shut) := goodIn_app (goodIn_of _ (by decide +kernel)) ggX7_worst_X7_shut
set_option maxRecDepth 20000 in
theorem ggX7_worst_X7_harmAll : GoodIn wsX7_worst wsX7_harmAll := goodIn_r _ [68, 1, 18, 69, 70, 71, 72, 5, 73, 34, 33, 16, 23, 24, 25, 26, 27, 28, 29, 30, 31, 17, 19, 32, 35, 36, 37, 38, 39, 40, 41, 42, 43, 22, 44, 45, 46, 47, 9, 10, 11, 48, 49, 50, 51, 52, 53, 54, 55, 56, 57, 58, 59, 60, 61, 62, 63, 64, 74, 75, 76, 77, 20, 21, 78, 79, 80, 81, 82, 83, 84, 85, 86, 87, 88, 89, 90, 91, 92, 93, 94, 95, 96, 97, 98, 99, 100, 101, 102, 103, 104, 105, 106, 107] (by decide +kernel) (by decide +kernel)
set_option maxRecDepth 20000 in
theorem gX7_worst_X7_harmAll : GoodIn wsX7_worst (wsV RX7 163 RX7 yX7_harmAll wsX7_harmAll) := goodIn_app (goodIn_of _ (by decide +kernel)) ggX7_worst_X7_harmAll
theorem dX7_worst_0 : decode cX7_worst 0 = .ok (.aload_n 0, 1) := by decide +kernel
theorem dX7_worst_1 : decode cX7_worst 1 = .ok (.iload_n 1, 1) := by decide +kernel
theorem dX7_worst_2 : decode cX7_worst 2 = .ok (.iconst 1, 1) := by decide +kernel
theorem dX7_worst_3 : decode cX7_worst 3 = .ok (.invokevirtual 156, 3) := by decide +kernel
theorem dX7_worst_6 : decode cX7_worst 6 = .ok (.istore_n 3, 1) := by decide +kernel
theorem dX7_worst_7 : decode cX7_worst 7 = .ok (.iload_n 3, 1) := by decide +kernel
theorem dX7_worst_8 : decode cX7_worst 8 = .ok (.ifCond .eq 5, 3) := by decide +kernel
theorem dX7_worst_11 : decode cX7_worst 11 = .ok (.iload_n 3, 1) := by decide +kernel
theorem dX7_worst_12 : decode cX7_worst 12 = .ok (.ireturn, 1) := by decide +kernel
theorem dX7_worst_13 : decode cX7_worst 13 = .ok (.aload_n 0, 1) := by decide +kernel
theorem dX7_worst_14 : decode cX7_worst 14 = .ok (.iload_n 1, 1) := by decide +kernel
theorem dX7_worst_15 : decode cX7_worst 15 = .ok (.invokevirtual 163, 3) := by decide +kernel
theorem dX7_worst_18 : decode cX7_worst 18 = .ok (.iload_n 2, 1) := by decide +kernel
theorem dX7_worst_19 : decode cX7_worst 19 = .ok (.istore 4, 2) := by decide +kernel
theorem dX7_worst_21 : decode cX7_worst 21 = .ok (.bipush 12, 2) := by decide +kernel
theorem dX7_worst_23 : decode cX7_worst 23 = .ok (.istore 5, 2) := by decide +kernel
theorem dX7_worst_25 : decode cX7_worst 25 = .ok (.iload 5, 2) := by decide +kernel
theorem dX7_worst_27 : decode cX7_worst 27 = .ok (.ifCond .le 53, 3) := by decide +kernel
theorem dX7_worst_30 : decode cX7_worst 30 = .ok (.iload_n 2, 1) := by decide +kernel
theorem dX7_worst_31 : decode cX7_worst 31 = .ok (.ifCond .lt 49, 3) := by decide +kernel
theorem dX7_worst_34 : decode cX7_worst 34 = .ok (.iconst 0, 1) := by decide +kernel
theorem dX7_worst_35 : decode cX7_worst 35 = .ok (.istore 6, 2) := by decide +kernel
theorem dX7_worst_37 : decode cX7_worst 37 = .ok (.iload 6, 2) := by decide +kernel
theorem dX7_worst_39 : decode cX7_worst 39 = .ok (.sipush 6400, 3) := by decide +kernel
theorem dX7_worst_42 : decode cX7_worst 42 = .ok (.if_icmp .ge 32, 3) := by decide +kernel
theorem dX7_worst_45 : decode cX7_worst 45 = .ok (.aload_n 0, 1) := by decide +kernel
theorem dX7_worst_46 : decode cX7_worst 46 = .ok (.getfield 37, 3) := by decide +kernel
theorem dX7_worst_49 : decode cX7_worst 49 = .ok (.iload 6, 2) := by decide +kernel
theorem dX7_worst_51 : decode cX7_worst 51 = .ok (.iaload, 1) := by decide +kernel
theorem dX7_worst_52 : decode cX7_worst 52 = .ok (.iload 5, 2) := by decide +kernel
theorem dX7_worst_54 : decode cX7_worst 54 = .ok (.if_icmp .ne 14, 3) := by decide +kernel
theorem dX7_worst_57 : decode cX7_worst 57 = .ok (.iload 4, 2) := by decide +kernel
theorem dX7_worst_59 : decode cX7_worst 59 = .ok (.ifCond .ne 6, 3) := by decide +kernel
theorem dX7_worst_62 : decode cX7_worst 62 = .ok (.iload 6, 2) := by decide +kernel
theorem dX7_worst_64 : decode cX7_worst 64 = .ok (.ireturn, 1) := by decide +kernel
theorem dX7_worst_65 : decode cX7_worst 65 = .ok (.iinc 4 (-1), 3) := by decide +kernel
theorem dX7_worst_68 : decode cX7_worst 68 = .ok (.iinc 6 1, 3) := by decide +kernel
theorem dX7_worst_71 : decode cX7_worst 71 = .ok (.goto (-34), 3) := by decide +kernel
theorem dX7_worst_74 : decode cX7_worst 74 = .ok (.iinc 5 (-1), 3) := by decide +kernel
theorem dX7_worst_77 : decode cX7_worst 77 = .ok (.goto (-52), 3) := by decide +kernel
theorem dX7_worst_80 : decode cX7_worst 80 = .ok (.iconst (-1), 1) := by decide +kernel
theorem dX7_worst_81 : decode cX7_worst 81 = .ok (.ireturn, 1) := by decide +kernel
theorem dX7_priceOf_0 : decode cX7_priceOf 0 = .ok (.iload_n 0, 1) := by decide +kernel
theorem dX7_priceOf_1 : decode cX7_priceOf 1 = .ok (.iconst 1, 1) := by decide +kernel
theorem dX7_priceOf_2 : decode cX7_priceOf 2 = .ok (.if_icmp .ne 7, 3) := by decide +kernel
theorem dX7_priceOf_5 : decode cX7_priceOf 5 = .ok (.iconst 1, 1) := by decide +kernel
theorem dX7_priceOf_6 : decode cX7_priceOf 6 = .ok (.goto 23, 3) := by decide +kernel
theorem dX7_priceOf_9 : decode cX7_priceOf 9 = .ok (.iload_n 0, 1) := by decide +kernel
theorem dX7_priceOf_10 : decode cX7_priceOf 10 = .ok (.iconst 2, 1) := by decide +kernel
theorem dX7_priceOf_11 : decode cX7_priceOf 11 = .ok (.if_icmp .ne 8, 3) := by decide +kernel
theorem dX7_priceOf_14 : decode cX7_priceOf 14 = .ok (.bipush 8, 2) := by decide +kernel
theorem dX7_priceOf_16 : decode cX7_priceOf 16 = .ok (.goto 13, 3) := by decide +kernel
theorem dX7_priceOf_19 : decode cX7_priceOf 19 = .ok (.iload_n 0, 1) := by decide +kernel
theorem dX7_priceOf_20 : decode cX7_priceOf 20 = .ok (.iconst 3, 1) := by decide +kernel
theorem dX7_priceOf_21 : decode cX7_priceOf 21 = .ok (.if_icmp .ne 7, 3) := by decide +kernel
theorem dX7_priceOf_24 : decode cX7_priceOf 24 = .ok (.iconst 2, 1) := by decide +kernel
theorem dX7_priceOf_25 : decode cX7_priceOf 25 = .ok (.goto 4, 3) := by decide +kernel
theorem dX7_priceOf_28 : decode cX7_priceOf 28 = .ok (.iconst 0, 1) := by decide +kernel
theorem dX7_priceOf_29 : decode cX7_priceOf 29 = .ok (.ireturn, 1) := by decide +kernel
set_option maxRecDepth 20000 in
theorem ggX7_costs_X7_priceOf : GoodIn wsX7_costs wsX7_priceOf := goodIn_r _ [5] (by decide +kernel) (by decide +kernel)
set_option maxRecDepth 20000 in
theorem gX7_costs_X7_priceOf : GoodIn wsX7_costs (va_wsS RX7 166 yX7_priceOf wsX7_priceOf) := goodIn_app (goodIn_of _ (by decide +kernel)) ggX7_costs_X7_priceOf
theorem dX7_costs_0 : decode cX7_costs 0 = .ok (.iconst 0, 1) := by decide +kernel
theorem dX7_costs_1 : decode cX7_costs 1 = .ok (.istore_n 1, 1) := by decide +kernel
theorem dX7_costs_2 : decode cX7_costs 2 = .ok (.iconst 0, 1) := by decide +kernel
theorem dX7_costs_3 : decode cX7_costs 3 = .ok (.istore_n 2, 1) := by decide +kernel
theorem dX7_costs_4 : decode cX7_costs 4 = .ok (.iload_n 2, 1) := by decide +kernel
theorem dX7_costs_5 : decode cX7_costs 5 = .ok (.bipush 8, 2) := by decide +kernel
theorem dX7_costs_7 : decode cX7_costs 7 = .ok (.if_icmp .ge 21, 3) := by decide +kernel
theorem dX7_costs_10 : decode cX7_costs 10 = .ok (.iload_n 1, 1) := by decide +kernel
theorem dX7_costs_11 : decode cX7_costs 11 = .ok (.aload_n 0, 1) := by decide +kernel
theorem dX7_costs_12 : decode cX7_costs 12 = .ok (.getfield 22, 3) := by decide +kernel
theorem dX7_costs_15 : decode cX7_costs 15 = .ok (.iload_n 2, 1) := by decide +kernel
theorem dX7_costs_16 : decode cX7_costs 16 = .ok (.iaload, 1) := by decide +kernel
theorem dX7_costs_17 : decode cX7_costs 17 = .ok (.invokestatic 166, 3) := by decide +kernel
theorem dX7_costs_20 : decode cX7_costs 20 = .ok (.iadd, 1) := by decide +kernel
theorem dX7_costs_21 : decode cX7_costs 21 = .ok (.istore_n 1, 1) := by decide +kernel
theorem dX7_costs_22 : decode cX7_costs 22 = .ok (.iinc 2 1, 3) := by decide +kernel
theorem dX7_costs_25 : decode cX7_costs 25 = .ok (.goto (-21), 3) := by decide +kernel
theorem dX7_costs_28 : decode cX7_costs 28 = .ok (.iload_n 1, 1) := by decide +kernel
theorem dX7_costs_29 : decode cX7_costs 29 = .ok (.ireturn, 1) := by decide +kernel
set_option maxRecDepth 20000 in
theorem ggX7_best_X7_in : GoodIn wsX7_best wsX7_in := goodIn_r _ [8] (by decide +kernel) (by decide +kernel)
set_option maxRecDepth 20000 in
theorem gX7_best_X7_in : GoodIn wsX7_best (va_wsS RX7 43 yX7_in wsX7_in) := goodIn_app (goodIn_of _ (by decide +kernel)) ggX7_best_X7_in
set_option maxRecDepth 20000 in
theorem ggX7_best_X7_shut : GoodIn wsX7_best wsX7_shut := goodIn_r _ [12, 13, 14, 5, 6, 7, 8, 15, 16, 17, 18, 19, 20, 21, 22, 23, 24, 25, 26, 27, 28, 29, 30, 31, 32, 33, 34, 35, 36, 37, 38, 39, 40, 41, 42, 43, 44, 45, 46, 47, 48, 49, 50, 51, 52, 53, 54, 55, 56, 57, 58, 59, 60, 61, 62, 63, 64, 65, 66, 67, 83, 84, 85, 86, 87, 88, 89, 90, 91, 92, 93, 94, 95, 96, 97, 98, 99, 100, 101, 102, 103, 104, 105, 106, 107, 108, 109, 110, 111, 112] (by decide +kernel) (by decide +kernel)
set_option maxRecDepth 20000 in
theorem gX7_best_X7_shut : GoodIn wsX7_best (wsV RX7 156 RX7 yX7_shut wsX7_shut) := goodIn_app (goodIn_of _ (by decide +kernel)) ggX7_best_X7_shut
set_option maxRecDepth 20000 in
theorem ggX7_best_X7_counted : GoodIn wsX7_best wsX7_counted := goodIn_r _ [71, 21, 72, 73, 74, 7, 75, 37, 36, 19, 26, 27, 28, 29, 30, 31, 32, 33, 34, 20, 22, 35, 38, 39, 40, 41, 42, 43, 44, 45, 46, 25, 47, 48, 49, 50, 5, 6, 8, 51, 52, 53, 54, 55, 56, 57, 58, 59, 60, 61, 62, 63, 64, 65, 66, 67, 76, 77, 78, 79, 23, 24, 83, 84, 85, 86, 87, 88, 89, 90, 91, 92, 93, 94, 95, 96, 97, 98, 99, 100, 101, 102, 103, 104, 105, 106, 107, 108, 109, 110, 111, 112] (by decide +kernel) (by decide +kernel)
set_option maxRecDepth 20000 in
theorem gX7_best_X7_counted : GoodIn wsX7_best (wsV RX7 160 RX7 yX7_counted wsX7_counted) := goodIn_app (goodIn_of _ (by decide +kernel)) ggX7_best_X7_counted
set_option maxRecDepth 20000 in
theorem ggX7_best_X7_priceOf : GoodIn wsX7_best wsX7_priceOf := goodIn_r _ [82] (by decide +kernel) (by decide +kernel)
set_option maxRecDepth 20000 in
theorem gX7_best_X7_priceOf : GoodIn wsX7_best (va_wsS RX7 166 yX7_priceOf wsX7_priceOf) := goodIn_app (goodIn_of _ (by decide +kernel)) ggX7_best_X7_priceOf
theorem dX7_best_0 : decode cX7_best 0 = .ok (.iload_n 2, 1) := by decide +kernel
theorem dX7_best_1 : decode cX7_best 1 = .ok (.iconst 0, 1) := by decide +kernel
theorem dX7_best_2 : decode cX7_best 2 = .ok (.bipush 64, 2) := by decide +kernel
theorem dX7_best_4 : decode cX7_best 4 = .ok (.invokestatic 43, 3) := by decide +kernel
theorem dX7_best_7 : decode cX7_best 7 = .ok (.ifCond .ne 6, 3) := by decide +kernel
theorem dX7_best_10 : decode cX7_best 10 = .ok (.bipush (-102), 2) := by decide +kernel
theorem dX7_best_12 : decode cX7_best 12 = .ok (.ireturn, 1) := by decide +kernel
theorem dX7_best_13 : decode cX7_best 13 = .ok (.aload_n 0, 1) := by decide +kernel
theorem dX7_best_14 : decode cX7_best 14 = .ok (.iload_n 1, 1) := by decide +kernel
theorem dX7_best_15 : decode cX7_best 15 = .ok (.iconst 4, 1) := by decide +kernel
theorem dX7_best_16 : decode cX7_best 16 = .ok (.invokevirtual 156, 3) := by decide +kernel
theorem dX7_best_19 : decode cX7_best 19 = .ok (.istore_n 3, 1) := by decide +kernel
theorem dX7_best_20 : decode cX7_best 20 = .ok (.iload_n 3, 1) := by decide +kernel
theorem dX7_best_21 : decode cX7_best 21 = .ok (.ifCond .eq 5, 3) := by decide +kernel
theorem dX7_best_24 : decode cX7_best 24 = .ok (.iload_n 3, 1) := by decide +kernel
theorem dX7_best_25 : decode cX7_best 25 = .ok (.ireturn, 1) := by decide +kernel
theorem dX7_best_26 : decode cX7_best 26 = .ok (.iconst 0, 1) := by decide +kernel
theorem dX7_best_27 : decode cX7_best 27 = .ok (.istore 4, 2) := by decide +kernel
theorem dX7_best_29 : decode cX7_best 29 = .ok (.iload 4, 2) := by decide +kernel
theorem dX7_best_31 : decode cX7_best 31 = .ok (.bipush 32, 2) := by decide +kernel
theorem dX7_best_33 : decode cX7_best 33 = .ok (.if_icmp .ge 30, 3) := by decide +kernel
theorem dX7_best_36 : decode cX7_best 36 = .ok (.aload_n 0, 1) := by decide +kernel
theorem dX7_best_37 : decode cX7_best 37 = .ok (.getfield 40, 3) := by decide +kernel
theorem dX7_best_40 : decode cX7_best 40 = .ok (.iload 4, 2) := by decide +kernel
theorem dX7_best_42 : decode cX7_best 42 = .ok (.aload_n 0, 1) := by decide +kernel
theorem dX7_best_43 : decode cX7_best 43 = .ok (.iload 4, 2) := by decide +kernel
theorem dX7_best_45 : decode cX7_best 45 = .ok (.iconst 4, 1) := by decide +kernel
theorem dX7_best_46 : decode cX7_best 46 = .ok (.idiv, 1) := by decide +kernel
theorem dX7_best_47 : decode cX7_best 47 = .ok (.iload_n 1, 1) := by decide +kernel
theorem dX7_best_48 : decode cX7_best 48 = .ok (.iconst 5, 1) := by decide +kernel
theorem dX7_best_49 : decode cX7_best 49 = .ok (.iload 4, 2) := by decide +kernel
theorem dX7_best_51 : decode cX7_best 51 = .ok (.iconst 4, 1) := by decide +kernel
theorem dX7_best_52 : decode cX7_best 52 = .ok (.irem, 1) := by decide +kernel
theorem dX7_best_53 : decode cX7_best 53 = .ok (.invokevirtual 160, 3) := by decide +kernel
theorem dX7_best_56 : decode cX7_best 56 = .ok (.iastore, 1) := by decide +kernel
theorem dX7_best_57 : decode cX7_best 57 = .ok (.iinc 4 1, 3) := by decide +kernel
theorem dX7_best_60 : decode cX7_best 60 = .ok (.goto (-31), 3) := by decide +kernel
theorem dX7_best_63 : decode cX7_best 63 = .ok (.iconst (-1), 1) := by decide +kernel
theorem dX7_best_64 : decode cX7_best 64 = .ok (.istore 4, 2) := by decide +kernel
theorem dX7_best_66 : decode cX7_best 66 = .ok (.iconst 0, 1) := by decide +kernel
theorem dX7_best_67 : decode cX7_best 67 = .ok (.istore 5, 2) := by decide +kernel
theorem dX7_best_69 : decode cX7_best 69 = .ok (.iconst 0, 1) := by decide +kernel
theorem dX7_best_70 : decode cX7_best 70 = .ok (.istore 6, 2) := by decide +kernel
theorem dX7_best_72 : decode cX7_best 72 = .ok (.iconst 0, 1) := by decide +kernel
theorem dX7_best_73 : decode cX7_best 73 = .ok (.istore 7, 2) := by decide +kernel
theorem dX7_best_75 : decode cX7_best 75 = .ok (.iload 7, 2) := by decide +kernel
theorem dX7_best_77 : decode cX7_best 77 = .ok (.ldc 169, 2) := by decide +kernel
theorem dX7_best_79 : decode cX7_best 79 = .ok (.if_icmp .ge 117, 3) := by decide +kernel
theorem dX7_best_82 : decode cX7_best 82 = .ok (.iconst 0, 1) := by decide +kernel
theorem dX7_best_83 : decode cX7_best 83 = .ok (.istore 8, 2) := by decide +kernel
theorem dX7_best_85 : decode cX7_best 85 = .ok (.iconst 0, 1) := by decide +kernel
theorem dX7_best_86 : decode cX7_best 86 = .ok (.istore 9, 2) := by decide +kernel
theorem dX7_best_88 : decode cX7_best 88 = .ok (.iconst 0, 1) := by decide +kernel
theorem dX7_best_89 : decode cX7_best 89 = .ok (.istore 10, 2) := by decide +kernel
theorem dX7_best_91 : decode cX7_best 91 = .ok (.iload 10, 2) := by decide +kernel
theorem dX7_best_93 : decode cX7_best 93 = .ok (.bipush 8, 2) := by decide +kernel
theorem dX7_best_95 : decode cX7_best 95 = .ok (.if_icmp .ge 50, 3) := by decide +kernel
theorem dX7_best_98 : decode cX7_best 98 = .ok (.iload 7, 2) := by decide +kernel
theorem dX7_best_100 : decode cX7_best 100 = .ok (.bipush 14, 2) := by decide +kernel
theorem dX7_best_102 : decode cX7_best 102 = .ok (.iconst 2, 1) := by decide +kernel
theorem dX7_best_103 : decode cX7_best 103 = .ok (.iload 10, 2) := by decide +kernel
theorem dX7_best_105 : decode cX7_best 105 = .ok (.imul, 1) := by decide +kernel
theorem dX7_best_106 : decode cX7_best 106 = .ok (.isub, 1) := by decide +kernel
theorem dX7_best_107 : decode cX7_best 107 = .ok (.ishr, 1) := by decide +kernel
theorem dX7_best_108 : decode cX7_best 108 = .ok (.iconst 3, 1) := by decide +kernel
theorem dX7_best_109 : decode cX7_best 109 = .ok (.iand, 1) := by decide +kernel
theorem dX7_best_110 : decode cX7_best 110 = .ok (.istore 11, 2) := by decide +kernel
theorem dX7_best_112 : decode cX7_best 112 = .ok (.iload 8, 2) := by decide +kernel
theorem dX7_best_114 : decode cX7_best 114 = .ok (.aload_n 0, 1) := by decide +kernel
theorem dX7_best_115 : decode cX7_best 115 = .ok (.getfield 40, 3) := by decide +kernel
theorem dX7_best_118 : decode cX7_best 118 = .ok (.iconst 4, 1) := by decide +kernel
theorem dX7_best_119 : decode cX7_best 119 = .ok (.iload 10, 2) := by decide +kernel
theorem dX7_best_121 : decode cX7_best 121 = .ok (.imul, 1) := by decide +kernel
theorem dX7_best_122 : decode cX7_best 122 = .ok (.iload 11, 2) := by decide +kernel
theorem dX7_best_124 : decode cX7_best 124 = .ok (.iadd, 1) := by decide +kernel
theorem dX7_best_125 : decode cX7_best 125 = .ok (.iaload, 1) := by decide +kernel
theorem dX7_best_126 : decode cX7_best 126 = .ok (.iadd, 1) := by decide +kernel
theorem dX7_best_127 : decode cX7_best 127 = .ok (.istore 8, 2) := by decide +kernel
theorem dX7_best_129 : decode cX7_best 129 = .ok (.iload 9, 2) := by decide +kernel
theorem dX7_best_131 : decode cX7_best 131 = .ok (.iload 11, 2) := by decide +kernel
theorem dX7_best_133 : decode cX7_best 133 = .ok (.invokestatic 166, 3) := by decide +kernel
theorem dX7_best_136 : decode cX7_best 136 = .ok (.iadd, 1) := by decide +kernel
theorem dX7_best_137 : decode cX7_best 137 = .ok (.istore 9, 2) := by decide +kernel
theorem dX7_best_139 : decode cX7_best 139 = .ok (.iinc 10 1, 3) := by decide +kernel
theorem dX7_best_142 : decode cX7_best 142 = .ok (.goto (-51), 3) := by decide +kernel
theorem dX7_best_145 : decode cX7_best 145 = .ok (.iload 9, 2) := by decide +kernel
theorem dX7_best_147 : decode cX7_best 147 = .ok (.iload_n 2, 1) := by decide +kernel
theorem dX7_best_148 : decode cX7_best 148 = .ok (.if_icmp .gt 42, 3) := by decide +kernel
theorem dX7_best_151 : decode cX7_best 151 = .ok (.iload 4, 2) := by decide +kernel
theorem dX7_best_153 : decode cX7_best 153 = .ok (.iconst (-1), 1) := by decide +kernel
theorem dX7_best_154 : decode cX7_best 154 = .ok (.if_icmp .eq 24, 3) := by decide +kernel
theorem dX7_best_157 : decode cX7_best 157 = .ok (.iload 8, 2) := by decide +kernel
theorem dX7_best_159 : decode cX7_best 159 = .ok (.iload 4, 2) := by decide +kernel
theorem dX7_best_161 : decode cX7_best 161 = .ok (.if_icmp .lt 17, 3) := by decide +kernel
theorem dX7_best_164 : decode cX7_best 164 = .ok (.iload 8, 2) := by decide +kernel
theorem dX7_best_166 : decode cX7_best 166 = .ok (.iload 4, 2) := by decide +kernel
theorem dX7_best_168 : decode cX7_best 168 = .ok (.if_icmp .ne 22, 3) := by decide +kernel
theorem dX7_best_171 : decode cX7_best 171 = .ok (.iload 9, 2) := by decide +kernel
theorem dX7_best_173 : decode cX7_best 173 = .ok (.iload 5, 2) := by decide +kernel
theorem dX7_best_175 : decode cX7_best 175 = .ok (.if_icmp .ge 15, 3) := by decide +kernel
theorem dX7_best_178 : decode cX7_best 178 = .ok (.iload 8, 2) := by decide +kernel
theorem dX7_best_180 : decode cX7_best 180 = .ok (.istore 4, 2) := by decide +kernel
theorem dX7_best_182 : decode cX7_best 182 = .ok (.iload 9, 2) := by decide +kernel
theorem dX7_best_184 : decode cX7_best 184 = .ok (.istore 5, 2) := by decide +kernel
theorem dX7_best_186 : decode cX7_best 186 = .ok (.iload 7, 2) := by decide +kernel
theorem dX7_best_188 : decode cX7_best 188 = .ok (.istore 6, 2) := by decide +kernel
theorem dX7_best_190 : decode cX7_best 190 = .ok (.iinc 7 1, 3) := by decide +kernel
theorem dX7_best_193 : decode cX7_best 193 = .ok (.goto (-118), 3) := by decide +kernel
theorem dX7_best_196 : decode cX7_best 196 = .ok (.iconst 0, 1) := by decide +kernel
theorem dX7_best_197 : decode cX7_best 197 = .ok (.istore 7, 2) := by decide +kernel
theorem dX7_best_199 : decode cX7_best 199 = .ok (.iload 7, 2) := by decide +kernel
theorem dX7_best_201 : decode cX7_best 201 = .ok (.bipush 8, 2) := by decide +kernel
theorem dX7_best_203 : decode cX7_best 203 = .ok (.if_icmp .ge 28, 3) := by decide +kernel
theorem dX7_best_206 : decode cX7_best 206 = .ok (.aload_n 0, 1) := by decide +kernel
theorem dX7_best_207 : decode cX7_best 207 = .ok (.getfield 25, 3) := by decide +kernel
theorem dX7_best_210 : decode cX7_best 210 = .ok (.iload 7, 2) := by decide +kernel
theorem dX7_best_212 : decode cX7_best 212 = .ok (.iload 6, 2) := by decide +kernel
theorem dX7_best_214 : decode cX7_best 214 = .ok (.bipush 14, 2) := by decide +kernel
theorem dX7_best_216 : decode cX7_best 216 = .ok (.iconst 2, 1) := by decide +kernel
theorem dX7_best_217 : decode cX7_best 217 = .ok (.iload 7, 2) := by decide +kernel
theorem dX7_best_219 : decode cX7_best 219 = .ok (.imul, 1) := by decide +kernel
theorem dX7_best_220 : decode cX7_best 220 = .ok (.isub, 1) := by decide +kernel
theorem dX7_best_221 : decode cX7_best 221 = .ok (.ishr, 1) := by decide +kernel
theorem dX7_best_222 : decode cX7_best 222 = .ok (.iconst 3, 1) := by decide +kernel
theorem dX7_best_223 : decode cX7_best 223 = .ok (.iand, 1) := by decide +kernel
theorem dX7_best_224 : decode cX7_best 224 = .ok (.iastore, 1) := by decide +kernel
theorem dX7_best_225 : decode cX7_best 225 = .ok (.iinc 7 1, 3) := by decide +kernel
theorem dX7_best_228 : decode cX7_best 228 = .ok (.goto (-29), 3) := by decide +kernel
theorem dX7_best_231 : decode cX7_best 231 = .ok (.aload_n 0, 1) := by decide +kernel
theorem dX7_best_232 : decode cX7_best 232 = .ok (.iconst 1, 1) := by decide +kernel
theorem dX7_best_233 : decode cX7_best 233 = .ok (.putfield 170, 3) := by decide +kernel
theorem dX7_best_236 : decode cX7_best 236 = .ok (.iload 4, 2) := by decide +kernel
theorem dX7_best_238 : decode cX7_best 238 = .ok (.ireturn, 1) := by decide +kernel
set_option maxRecDepth 20000 in
theorem ggX7_chosen_X7_isCell : GoodIn wsX7_chosen wsX7_isCell := goodIn_r _ [6, 7, 8, 5, 9] (by decide +kernel) (by decide +kernel)
set_option maxRecDepth 20000 in
theorem gX7_chosen_X7_isCell : GoodIn wsX7_chosen (va_wsS RX7 51 yX7_isCell wsX7_isCell) := goodIn_app (goodIn_of _ (by decide +kernel)) ggX7_chosen_X7_isCell
theorem dX7_chosen_0 : decode cX7_chosen 0 = .ok (.iload_n 1, 1) := by decide +kernel
theorem dX7_chosen_1 : decode cX7_chosen 1 = .ok (.invokestatic 51, 3) := by decide +kernel
theorem dX7_chosen_4 : decode cX7_chosen 4 = .ok (.ifCond .ne 8, 3) := by decide +kernel
theorem dX7_chosen_7 : decode cX7_chosen 7 = .ok (.bipush (-101), 2) := by decide +kernel
theorem dX7_chosen_9 : decode cX7_chosen 9 = .ok (.goto 20, 3) := by decide +kernel
theorem dX7_chosen_12 : decode cX7_chosen 12 = .ok (.aload_n 0, 1) := by decide +kernel
theorem dX7_chosen_13 : decode cX7_chosen 13 = .ok (.getfield 170, 3) := by decide +kernel
theorem dX7_chosen_16 : decode cX7_chosen 16 = .ok (.ifCond .eq 12, 3) := by decide +kernel
theorem dX7_chosen_19 : decode cX7_chosen 19 = .ok (.aload_n 0, 1) := by decide +kernel
theorem dX7_chosen_20 : decode cX7_chosen 20 = .ok (.getfield 25, 3) := by decide +kernel
theorem dX7_chosen_23 : decode cX7_chosen 23 = .ok (.iload_n 1, 1) := by decide +kernel
theorem dX7_chosen_24 : decode cX7_chosen 24 = .ok (.iaload, 1) := by decide +kernel
theorem dX7_chosen_25 : decode cX7_chosen 25 = .ok (.goto 4, 3) := by decide +kernel
theorem dX7_chosen_28 : decode cX7_chosen 28 = .ok (.iconst (-1), 1) := by decide +kernel
theorem dX7_chosen_29 : decode cX7_chosen 29 = .ok (.ireturn, 1) := by decide +kernel
set_option maxRecDepth 20000 in
theorem ggX7_take_X7_costs : GoodIn wsX7_take wsX7_costs := goodIn_r _ [8, 2, 9, 10, 7, 11, 12, 13, 14, 15, 16, 17, 18, 19, 20, 21, 22, 23, 24, 25, 26, 27, 28, 29, 30, 31, 32, 33, 34, 35, 36, 37, 38, 39, 40, 41] (by decide +kernel) (by decide +kernel)
set_option maxRecDepth 20000 in
theorem gX7_take_X7_costs : GoodIn wsX7_take (wsV RX7 173 RX7 yX7_costs wsX7_costs) := goodIn_app (goodIn_of _ (by decide +kernel)) ggX7_take_X7_costs
theorem dX7_take_0 : decode cX7_take 0 = .ok (.aload_n 0, 1) := by decide +kernel
theorem dX7_take_1 : decode cX7_take 1 = .ok (.getfield 170, 3) := by decide +kernel
theorem dX7_take_4 : decode cX7_take 4 = .ok (.ifCond .ne 5, 3) := by decide +kernel
theorem dX7_take_7 : decode cX7_take 7 = .ok (.iconst (-1), 1) := by decide +kernel
theorem dX7_take_8 : decode cX7_take 8 = .ok (.ireturn, 1) := by decide +kernel
theorem dX7_take_9 : decode cX7_take 9 = .ok (.iconst 0, 1) := by decide +kernel
theorem dX7_take_10 : decode cX7_take 10 = .ok (.istore_n 1, 1) := by decide +kernel
theorem dX7_take_11 : decode cX7_take 11 = .ok (.iload_n 1, 1) := by decide +kernel
theorem dX7_take_12 : decode cX7_take 12 = .ok (.bipush 8, 2) := by decide +kernel
theorem dX7_take_14 : decode cX7_take 14 = .ok (.if_icmp .ge 21, 3) := by decide +kernel
theorem dX7_take_17 : decode cX7_take 17 = .ok (.aload_n 0, 1) := by decide +kernel
theorem dX7_take_18 : decode cX7_take 18 = .ok (.getfield 22, 3) := by decide +kernel
theorem dX7_take_21 : decode cX7_take 21 = .ok (.iload_n 1, 1) := by decide +kernel
theorem dX7_take_22 : decode cX7_take 22 = .ok (.aload_n 0, 1) := by decide +kernel
theorem dX7_take_23 : decode cX7_take 23 = .ok (.getfield 25, 3) := by decide +kernel
theorem dX7_take_26 : decode cX7_take 26 = .ok (.iload_n 1, 1) := by decide +kernel
theorem dX7_take_27 : decode cX7_take 27 = .ok (.iaload, 1) := by decide +kernel
theorem dX7_take_28 : decode cX7_take 28 = .ok (.iastore, 1) := by decide +kernel
theorem dX7_take_29 : decode cX7_take 29 = .ok (.iinc 1 1, 3) := by decide +kernel
theorem dX7_take_32 : decode cX7_take 32 = .ok (.goto (-21), 3) := by decide +kernel
theorem dX7_take_35 : decode cX7_take 35 = .ok (.aload_n 0, 1) := by decide +kernel
theorem dX7_take_36 : decode cX7_take 36 = .ok (.invokevirtual 173, 3) := by decide +kernel
theorem dX7_take_39 : decode cX7_take 39 = .ok (.ireturn, 1) := by decide +kernel
theorem dX7_orderOf_0 : decode cX7_orderOf 0 = .ok (.iload_n 2, 1) := by decide +kernel
theorem dX7_orderOf_1 : decode cX7_orderOf 1 = .ok (.ifCond .ne 12, 3) := by decide +kernel
theorem dX7_orderOf_4 : decode cX7_orderOf 4 = .ok (.aload_n 0, 1) := by decide +kernel
theorem dX7_orderOf_5 : decode cX7_orderOf 5 = .ok (.getfield 7, 3) := by decide +kernel
theorem dX7_orderOf_8 : decode cX7_orderOf 8 = .ok (.iload_n 1, 1) := by decide +kernel
theorem dX7_orderOf_9 : decode cX7_orderOf 9 = .ok (.iaload, 1) := by decide +kernel
theorem dX7_orderOf_10 : decode cX7_orderOf 10 = .ok (.goto 23, 3) := by decide +kernel
theorem dX7_orderOf_13 : decode cX7_orderOf 13 = .ok (.iload_n 2, 1) := by decide +kernel
theorem dX7_orderOf_14 : decode cX7_orderOf 14 = .ok (.iconst 1, 1) := by decide +kernel
theorem dX7_orderOf_15 : decode cX7_orderOf 15 = .ok (.if_icmp .ne 12, 3) := by decide +kernel
theorem dX7_orderOf_18 : decode cX7_orderOf 18 = .ok (.aload_n 0, 1) := by decide +kernel
theorem dX7_orderOf_19 : decode cX7_orderOf 19 = .ok (.getfield 13, 3) := by decide +kernel
theorem dX7_orderOf_22 : decode cX7_orderOf 22 = .ok (.iload_n 1, 1) := by decide +kernel
theorem dX7_orderOf_23 : decode cX7_orderOf 23 = .ok (.iaload, 1) := by decide +kernel
theorem dX7_orderOf_24 : decode cX7_orderOf 24 = .ok (.goto 9, 3) := by decide +kernel
theorem dX7_orderOf_27 : decode cX7_orderOf 27 = .ok (.aload_n 0, 1) := by decide +kernel
theorem dX7_orderOf_28 : decode cX7_orderOf 28 = .ok (.getfield 16, 3) := by decide +kernel
theorem dX7_orderOf_31 : decode cX7_orderOf 31 = .ok (.iload_n 1, 1) := by decide +kernel
theorem dX7_orderOf_32 : decode cX7_orderOf 32 = .ok (.iaload, 1) := by decide +kernel
theorem dX7_orderOf_33 : decode cX7_orderOf 33 = .ok (.ireturn, 1) := by decide +kernel
set_option maxRecDepth 20000 in
theorem ggX7_about_X7_in : GoodIn wsX7_about wsX7_in := goodIn_r _ [5] (by decide +kernel) (by decide +kernel)
set_option maxRecDepth 20000 in
theorem gX7_about_X7_in : GoodIn wsX7_about (va_wsS RX7 43 yX7_in wsX7_in) := goodIn_app (goodIn_of _ (by decide +kernel)) ggX7_about_X7_in
set_option maxRecDepth 20000 in
theorem ggX7_about_X7_orderOf : GoodIn wsX7_about wsX7_orderOf := goodIn_r _ [9, 10, 11, 12, 13, 14, 15, 16, 17, 18, 19, 20, 21, 22, 23, 24, 25, 26, 27, 28, 29, 30, 31, 32, 33, 34, 35, 36, 37, 38, 39, 40, 41, 42] (by decide +kernel) (by decide +kernel)
set_option maxRecDepth 20000 in
theorem gX7_about_X7_orderOf : GoodIn wsX7_about (wsV RX7 176 RX7 yX7_orderOf wsX7_orderOf) := goodIn_app (goodIn_of _ (by decide +kernel)) ggX7_about_X7_orderOf
theorem dX7_about_0 : decode cX7_about 0 = .ok (.iload_n 1, 1) := by decide +kernel
theorem dX7_about_1 : decode cX7_about 1 = .ok (.iconst 0, 1) := by decide +kernel
theorem dX7_about_2 : decode cX7_about 2 = .ok (.aload_n 0, 1) := by decide +kernel
theorem dX7_about_3 : decode cX7_about 3 = .ok (.getfield 60, 3) := by decide +kernel
theorem dX7_about_6 : decode cX7_about 6 = .ok (.iconst 1, 1) := by decide +kernel
theorem dX7_about_7 : decode cX7_about 7 = .ok (.isub, 1) := by decide +kernel
theorem dX7_about_8 : decode cX7_about 8 = .ok (.invokestatic 43, 3) := by decide +kernel
theorem dX7_about_11 : decode cX7_about 11 = .ok (.ifCond .ne 6, 3) := by decide +kernel
theorem dX7_about_14 : decode cX7_about 14 = .ok (.bipush (-101), 2) := by decide +kernel
theorem dX7_about_16 : decode cX7_about 16 = .ok (.ireturn, 1) := by decide +kernel
theorem dX7_about_17 : decode cX7_about 17 = .ok (.iload_n 2, 1) := by decide +kernel
theorem dX7_about_18 : decode cX7_about 18 = .ok (.iconst 0, 1) := by decide +kernel
theorem dX7_about_19 : decode cX7_about 19 = .ok (.iconst 2, 1) := by decide +kernel
theorem dX7_about_20 : decode cX7_about 20 = .ok (.invokestatic 43, 3) := by decide +kernel
theorem dX7_about_23 : decode cX7_about 23 = .ok (.ifCond .eq 12, 3) := by decide +kernel
theorem dX7_about_26 : decode cX7_about 26 = .ok (.aload_n 0, 1) := by decide +kernel
theorem dX7_about_27 : decode cX7_about 27 = .ok (.iload_n 1, 1) := by decide +kernel
theorem dX7_about_28 : decode cX7_about 28 = .ok (.iload_n 2, 1) := by decide +kernel
theorem dX7_about_29 : decode cX7_about 29 = .ok (.invokevirtual 176, 3) := by decide +kernel
theorem dX7_about_32 : decode cX7_about 32 = .ok (.goto 5, 3) := by decide +kernel
theorem dX7_about_35 : decode cX7_about 35 = .ok (.bipush (-102), 2) := by decide +kernel
theorem dX7_about_37 : decode cX7_about 37 = .ok (.ireturn, 1) := by decide +kernel
theorem dX7_size_0 : decode cX7_size 0 = .ok (.iconst 0, 1) := by decide +kernel
theorem dX7_size_1 : decode cX7_size 1 = .ok (.istore_n 2, 1) := by decide +kernel
theorem dX7_size_2 : decode cX7_size 2 = .ok (.iconst 0, 1) := by decide +kernel
theorem dX7_size_3 : decode cX7_size 3 = .ok (.istore_n 3, 1) := by decide +kernel
theorem dX7_size_4 : decode cX7_size 4 = .ok (.iload_n 3, 1) := by decide +kernel
theorem dX7_size_5 : decode cX7_size 5 = .ok (.bipush 8, 2) := by decide +kernel
theorem dX7_size_7 : decode cX7_size 7 = .ok (.if_icmp .ge 26, 3) := by decide +kernel
theorem dX7_size_10 : decode cX7_size 10 = .ok (.iload_n 2, 1) := by decide +kernel
theorem dX7_size_11 : decode cX7_size 11 = .ok (.aload_n 0, 1) := by decide +kernel
theorem dX7_size_12 : decode cX7_size 12 = .ok (.getfield 22, 3) := by decide +kernel
theorem dX7_size_15 : decode cX7_size 15 = .ok (.iload_n 3, 1) := by decide +kernel
theorem dX7_size_16 : decode cX7_size 16 = .ok (.iaload, 1) := by decide +kernel
theorem dX7_size_17 : decode cX7_size 17 = .ok (.ifCond .le 7, 3) := by decide +kernel
theorem dX7_size_20 : decode cX7_size 20 = .ok (.iconst 1, 1) := by decide +kernel
theorem dX7_size_21 : decode cX7_size 21 = .ok (.goto 4, 3) := by decide +kernel
theorem dX7_size_24 : decode cX7_size 24 = .ok (.iconst 0, 1) := by decide +kernel
theorem dX7_size_25 : decode cX7_size 25 = .ok (.iadd, 1) := by decide +kernel
theorem dX7_size_26 : decode cX7_size 26 = .ok (.istore_n 2, 1) := by decide +kernel
theorem dX7_size_27 : decode cX7_size 27 = .ok (.iinc 3 1, 3) := by decide +kernel
theorem dX7_size_30 : decode cX7_size 30 = .ok (.goto (-26), 3) := by decide +kernel
theorem dX7_size_33 : decode cX7_size 33 = .ok (.iload_n 1, 1) := by decide +kernel
theorem dX7_size_34 : decode cX7_size 34 = .ok (.ifCond .ne 10, 3) := by decide +kernel
theorem dX7_size_37 : decode cX7_size 37 = .ok (.aload_n 0, 1) := by decide +kernel
theorem dX7_size_38 : decode cX7_size 38 = .ok (.getfield 60, 3) := by decide +kernel
theorem dX7_size_41 : decode cX7_size 41 = .ok (.goto 26, 3) := by decide +kernel
theorem dX7_size_44 : decode cX7_size 44 = .ok (.iload_n 1, 1) := by decide +kernel
theorem dX7_size_45 : decode cX7_size 45 = .ok (.iconst 1, 1) := by decide +kernel
theorem dX7_size_46 : decode cX7_size 46 = .ok (.if_icmp .ne 7, 3) := by decide +kernel
theorem dX7_size_49 : decode cX7_size 49 = .ok (.iload_n 2, 1) := by decide +kernel
theorem dX7_size_50 : decode cX7_size 50 = .ok (.goto 17, 3) := by decide +kernel
theorem dX7_size_53 : decode cX7_size 53 = .ok (.iload_n 1, 1) := by decide +kernel
theorem dX7_size_54 : decode cX7_size 54 = .ok (.iconst 2, 1) := by decide +kernel
theorem dX7_size_55 : decode cX7_size 55 = .ok (.if_icmp .ne 10, 3) := by decide +kernel
theorem dX7_size_58 : decode cX7_size 58 = .ok (.aload_n 0, 1) := by decide +kernel
theorem dX7_size_59 : decode cX7_size 59 = .ok (.getfield 153, 3) := by decide +kernel
theorem dX7_size_62 : decode cX7_size 62 = .ok (.goto 5, 3) := by decide +kernel
theorem dX7_size_65 : decode cX7_size 65 = .ok (.bipush (-102), 2) := by decide +kernel
theorem dX7_size_67 : decode cX7_size 67 = .ok (.ireturn, 1) := by decide +kernel
theorem dX7_mix_0 : decode cX7_mix 0 = .ok (.aload_n 0, 1) := by decide +kernel
theorem dX7_mix_1 : decode cX7_mix 1 = .ok (.ldc2_w 179, 3) := by decide +kernel
theorem dX7_mix_4 : decode cX7_mix 4 = .ok (.aload_n 0, 1) := by decide +kernel
theorem dX7_mix_5 : decode cX7_mix 5 = .ok (.getfield 181, 3) := by decide +kernel
theorem dX7_mix_8 : decode cX7_mix 8 = .ok (.lmul, 1) := by decide +kernel
theorem dX7_mix_9 : decode cX7_mix 9 = .ok (.lload_n 1, 1) := by decide +kernel
theorem dX7_mix_10 : decode cX7_mix 10 = .ok (.ladd, 1) := by decide +kernel
theorem dX7_mix_11 : decode cX7_mix 11 = .ok (.putfield 181, 3) := by decide +kernel
theorem dX7_mix_14 : decode cX7_mix 14 = .ok (.return_, 1) := by decide +kernel
set_option maxRecDepth 20000 in
theorem ggX7_digest_X7_orderOf : GoodIn wsX7_digest wsX7_orderOf := goodIn_r _ [12, 13, 14, 15, 85, 86, 87, 88, 89, 90, 91, 92, 93, 94, 95, 96, 97, 98, 99, 100, 101, 102, 103, 104, 105, 106, 107, 108, 109, 110, 111, 112, 113, 114] (by decide +kernel) (by decide +kernel)
set_option maxRecDepth 20000 in
theorem gX7_digest_X7_orderOf : GoodIn wsX7_digest (wsV RX7 176 RX7 yX7_orderOf wsX7_orderOf) := goodIn_app (goodIn_of _ (by decide +kernel)) ggX7_digest_X7_orderOf
set_option maxRecDepth 20000 in
theorem ggX7_digest_X7_mix : GoodIn wsX7_digest wsX7_mix := goodIn_r _ [19, 20, 2, 85, 86, 87, 88, 89, 90, 91, 92, 93, 94, 95, 96, 97, 98, 99, 100, 101, 102, 103, 104, 105, 106, 107, 108, 109, 110, 111, 112, 113, 114] (by decide +kernel) (by decide +kernel)
set_option maxRecDepth 20000 in
theorem gX7_digest_X7_mix : GoodIn wsX7_digest (wsV RX7 187 RX7 yX7_mix wsX7_mix) := goodIn_app (goodIn_of _ (by decide +kernel)) ggX7_digest_X7_mix
set_option maxRecDepth 20000 in
theorem ggX7_digest_X7_chosen : GoodIn wsX7_digest wsX7_chosen := goodIn_r _ [24, 25, 26, 27, 28, 11, 29, 30, 31, 32, 85, 86, 87, 88, 89, 90, 91, 92, 93, 94, 95, 96, 97, 98, 99, 100, 101, 102, 103, 104, 105, 106, 107, 108, 109, 110, 111, 112, 113, 114] (by decide +kernel) (by decide +kernel)
set_option maxRecDepth 20000 in
theorem gX7_digest_X7_chosen : GoodIn wsX7_digest (wsV RX7 191 RX7 yX7_chosen wsX7_chosen) := goodIn_app (goodIn_of _ (by decide +kernel)) ggX7_digest_X7_chosen
set_option maxRecDepth 20000 in
theorem ggX7_digest_X7_run : GoodIn wsX7_digest wsX7_run := goodIn_r _ [36, 37, 38, 39, 40, 11, 41, 42, 43, 6, 44, 45, 46, 47, 48, 49, 50, 51, 52, 4, 53, 54, 55, 56, 57, 58, 59, 3, 60, 61, 62, 63, 13, 14, 15, 64, 65, 66, 67, 30, 31, 32, 68, 69, 70, 71, 72, 73, 74, 75, 76, 77, 78, 79, 80, 81, 82, 83, 84, 85, 86, 87, 88, 89, 90, 91, 92, 93, 94, 95, 96, 97, 98, 99, 100, 101, 102, 103, 104, 105, 106, 107, 108, 109, 110, 111, 112, 113, 114] (by decide +kernel) (by decide +kernel)
set_option maxRecDepth 20000 in
theorem gX7_digest_X7_run : GoodIn wsX7_digest (wsV RX7 194 RX7 yX7_run wsX7_run) := goodIn_app (goodIn_of _ (by decide +kernel)) ggX7_digest_X7_run
theorem dX7_digest_0 : decode cX7_digest 0 = .ok (.aload_n 0, 1) := by decide +kernel
theorem dX7_digest_1 : decode cX7_digest 1 = .ok (.ldc2_w 185, 3) := by decide +kernel
theorem dX7_digest_4 : decode cX7_digest 4 = .ok (.putfield 181, 3) := by decide +kernel
theorem dX7_digest_7 : decode cX7_digest 7 = .ok (.iconst 0, 1) := by decide +kernel
theorem dX7_digest_8 : decode cX7_digest 8 = .ok (.istore_n 1, 1) := by decide +kernel
theorem dX7_digest_9 : decode cX7_digest 9 = .ok (.iload_n 1, 1) := by decide +kernel
theorem dX7_digest_10 : decode cX7_digest 10 = .ok (.aload_n 0, 1) := by decide +kernel
theorem dX7_digest_11 : decode cX7_digest 11 = .ok (.getfield 60, 3) := by decide +kernel
theorem dX7_digest_14 : decode cX7_digest 14 = .ok (.if_icmp .ge 33, 3) := by decide +kernel
theorem dX7_digest_17 : decode cX7_digest 17 = .ok (.iconst 0, 1) := by decide +kernel
theorem dX7_digest_18 : decode cX7_digest 18 = .ok (.istore_n 2, 1) := by decide +kernel
theorem dX7_digest_19 : decode cX7_digest 19 = .ok (.iload_n 2, 1) := by decide +kernel
theorem dX7_digest_20 : decode cX7_digest 20 = .ok (.iconst 3, 1) := by decide +kernel
theorem dX7_digest_21 : decode cX7_digest 21 = .ok (.if_icmp .ge 20, 3) := by decide +kernel
theorem dX7_digest_24 : decode cX7_digest 24 = .ok (.aload_n 0, 1) := by decide +kernel
theorem dX7_digest_25 : decode cX7_digest 25 = .ok (.aload_n 0, 1) := by decide +kernel
theorem dX7_digest_26 : decode cX7_digest 26 = .ok (.iload_n 1, 1) := by decide +kernel
theorem dX7_digest_27 : decode cX7_digest 27 = .ok (.iload_n 2, 1) := by decide +kernel
theorem dX7_digest_28 : decode cX7_digest 28 = .ok (.invokevirtual 176, 3) := by decide +kernel
theorem dX7_digest_31 : decode cX7_digest 31 = .ok (.i2l, 1) := by decide +kernel
theorem dX7_digest_32 : decode cX7_digest 32 = .ok (.invokevirtual 187, 3) := by decide +kernel
theorem dX7_digest_35 : decode cX7_digest 35 = .ok (.iinc 2 1, 3) := by decide +kernel
theorem dX7_digest_38 : decode cX7_digest 38 = .ok (.goto (-19), 3) := by decide +kernel
theorem dX7_digest_41 : decode cX7_digest 41 = .ok (.iinc 1 1, 3) := by decide +kernel
theorem dX7_digest_44 : decode cX7_digest 44 = .ok (.goto (-35), 3) := by decide +kernel
theorem dX7_digest_47 : decode cX7_digest 47 = .ok (.iconst 0, 1) := by decide +kernel
theorem dX7_digest_48 : decode cX7_digest 48 = .ok (.istore_n 1, 1) := by decide +kernel
theorem dX7_digest_49 : decode cX7_digest 49 = .ok (.iload_n 1, 1) := by decide +kernel
theorem dX7_digest_50 : decode cX7_digest 50 = .ok (.bipush 8, 2) := by decide +kernel
theorem dX7_digest_52 : decode cX7_digest 52 = .ok (.if_icmp .ge 41, 3) := by decide +kernel
theorem dX7_digest_55 : decode cX7_digest 55 = .ok (.aload_n 0, 1) := by decide +kernel
theorem dX7_digest_56 : decode cX7_digest 56 = .ok (.aload_n 0, 1) := by decide +kernel
theorem dX7_digest_57 : decode cX7_digest 57 = .ok (.getfield 19, 3) := by decide +kernel
theorem dX7_digest_60 : decode cX7_digest 60 = .ok (.iload_n 1, 1) := by decide +kernel
theorem dX7_digest_61 : decode cX7_digest 61 = .ok (.iaload, 1) := by decide +kernel
theorem dX7_digest_62 : decode cX7_digest 62 = .ok (.i2l, 1) := by decide +kernel
theorem dX7_digest_63 : decode cX7_digest 63 = .ok (.invokevirtual 187, 3) := by decide +kernel
theorem dX7_digest_66 : decode cX7_digest 66 = .ok (.aload_n 0, 1) := by decide +kernel
theorem dX7_digest_67 : decode cX7_digest 67 = .ok (.aload_n 0, 1) := by decide +kernel
theorem dX7_digest_68 : decode cX7_digest 68 = .ok (.getfield 22, 3) := by decide +kernel
theorem dX7_digest_71 : decode cX7_digest 71 = .ok (.iload_n 1, 1) := by decide +kernel
theorem dX7_digest_72 : decode cX7_digest 72 = .ok (.iaload, 1) := by decide +kernel
theorem dX7_digest_73 : decode cX7_digest 73 = .ok (.i2l, 1) := by decide +kernel
theorem dX7_digest_74 : decode cX7_digest 74 = .ok (.invokevirtual 187, 3) := by decide +kernel
theorem dX7_digest_77 : decode cX7_digest 77 = .ok (.aload_n 0, 1) := by decide +kernel
theorem dX7_digest_78 : decode cX7_digest 78 = .ok (.aload_n 0, 1) := by decide +kernel
theorem dX7_digest_79 : decode cX7_digest 79 = .ok (.iload_n 1, 1) := by decide +kernel
theorem dX7_digest_80 : decode cX7_digest 80 = .ok (.invokevirtual 191, 3) := by decide +kernel
theorem dX7_digest_83 : decode cX7_digest 83 = .ok (.i2l, 1) := by decide +kernel
theorem dX7_digest_84 : decode cX7_digest 84 = .ok (.invokevirtual 187, 3) := by decide +kernel
theorem dX7_digest_87 : decode cX7_digest 87 = .ok (.iinc 1 1, 3) := by decide +kernel
theorem dX7_digest_90 : decode cX7_digest 90 = .ok (.goto (-41), 3) := by decide +kernel
theorem dX7_digest_93 : decode cX7_digest 93 = .ok (.aload_n 0, 1) := by decide +kernel
theorem dX7_digest_94 : decode cX7_digest 94 = .ok (.aload_n 0, 1) := by decide +kernel
theorem dX7_digest_95 : decode cX7_digest 95 = .ok (.invokevirtual 194, 3) := by decide +kernel
theorem dX7_digest_98 : decode cX7_digest 98 = .ok (.i2l, 1) := by decide +kernel
theorem dX7_digest_99 : decode cX7_digest 99 = .ok (.invokevirtual 187, 3) := by decide +kernel
theorem dX7_digest_102 : decode cX7_digest 102 = .ok (.aload_n 0, 1) := by decide +kernel
theorem dX7_digest_103 : decode cX7_digest 103 = .ok (.aload_n 0, 1) := by decide +kernel
theorem dX7_digest_104 : decode cX7_digest 104 = .ok (.getfield 132, 3) := by decide +kernel
theorem dX7_digest_107 : decode cX7_digest 107 = .ok (.i2l, 1) := by decide +kernel
theorem dX7_digest_108 : decode cX7_digest 108 = .ok (.invokevirtual 187, 3) := by decide +kernel
theorem dX7_digest_111 : decode cX7_digest 111 = .ok (.aload_n 0, 1) := by decide +kernel
theorem dX7_digest_112 : decode cX7_digest 112 = .ok (.aload_n 0, 1) := by decide +kernel
theorem dX7_digest_113 : decode cX7_digest 113 = .ok (.getfield 153, 3) := by decide +kernel
theorem dX7_digest_116 : decode cX7_digest 116 = .ok (.i2l, 1) := by decide +kernel
theorem dX7_digest_117 : decode cX7_digest 117 = .ok (.invokevirtual 187, 3) := by decide +kernel
theorem dX7_digest_120 : decode cX7_digest 120 = .ok (.aload_n 0, 1) := by decide +kernel
theorem dX7_digest_121 : decode cX7_digest 121 = .ok (.getfield 181, 3) := by decide +kernel
theorem dX7_digest_124 : decode cX7_digest 124 = .ok (.lreturn, 1) := by decide +kernel
theorem dJ9_max_7cf53_0 : decode cJ9_max_7cf53 0 = .ok (.iload_n 0, 1) := by decide +kernel
theorem dJ9_max_7cf53_1 : decode cJ9_max_7cf53 1 = .ok (.iload_n 1, 1) := by decide +kernel
theorem dJ9_max_7cf53_2 : decode cJ9_max_7cf53 2 = .ok (.if_icmp .lt 7, 3) := by decide +kernel
theorem dJ9_max_7cf53_5 : decode cJ9_max_7cf53 5 = .ok (.iload_n 0, 1) := by decide +kernel
theorem dJ9_max_7cf53_6 : decode cJ9_max_7cf53 6 = .ok (.goto 4, 3) := by decide +kernel
theorem dJ9_max_7cf53_9 : decode cJ9_max_7cf53 9 = .ok (.iload_n 1, 1) := by decide +kernel
theorem dJ9_max_7cf53_10 : decode cJ9_max_7cf53 10 = .ok (.ireturn, 1) := by decide +kernel
theorem dJ9_min_7cf53_0 : decode cJ9_min_7cf53 0 = .ok (.iload_n 0, 1) := by decide +kernel
theorem dJ9_min_7cf53_1 : decode cJ9_min_7cf53 1 = .ok (.iload_n 1, 1) := by decide +kernel
theorem dJ9_min_7cf53_2 : decode cJ9_min_7cf53 2 = .ok (.if_icmp .gt 7, 3) := by decide +kernel
theorem dJ9_min_7cf53_5 : decode cJ9_min_7cf53 5 = .ok (.iload_n 0, 1) := by decide +kernel
theorem dJ9_min_7cf53_6 : decode cJ9_min_7cf53 6 = .ok (.goto 4, 3) := by decide +kernel
theorem dJ9_min_7cf53_9 : decode cJ9_min_7cf53 9 = .ok (.iload_n 1, 1) := by decide +kernel
theorem dJ9_min_7cf53_10 : decode cJ9_min_7cf53 10 = .ok (.ireturn, 1) := by decide +kernel
