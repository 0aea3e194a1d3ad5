set_option maxRecDepth 20000 in
theorem ggX6_take_X6_priceOf : GoodIn wsX6_take wsX6_priceOf := goodIn_r _ [8, 9] (by decide +kernel) (by decide +kernel)
set_option maxRecDepth 20000 in
theorem gX6_take_X6_priceOf : GoodIn wsX6_take (va_wsS RX6 159 yX6_priceOf wsX6_priceOf) := goodIn_app (goodIn_of _ (by decide +kernel)) ggX6_take_X6_priceOf
theorem dX6_take_0 : decode cX6_take 0 = .ok (.aload_n 0, 1) := by decide +kernel
theorem dX6_take_1 : decode cX6_take 1 = .ok (.getfield 44, 3) := by decide +kernel
theorem dX6_take_4 : decode cX6_take 4 = .ok (.getfield 170, 3) := by decide +kernel
theorem dX6_take_7 : decode cX6_take 7 = .ok (.ifCond .ne 5, 3) := by decide +kernel
theorem dX6_take_10 : decode cX6_take 10 = .ok (.iconst (-1), 1) := by decide +kernel
theorem dX6_take_11 : decode cX6_take 11 = .ok (.ireturn, 1) := by decide +kernel
theorem dX6_take_12 : decode cX6_take 12 = .ok (.iconst 0, 1) := by decide +kernel
theorem dX6_take_13 : decode cX6_take 13 = .ok (.istore_n 1, 1) := by decide +kernel
theorem dX6_take_14 : decode cX6_take 14 = .ok (.iload_n 1, 1) := by decide +kernel
theorem dX6_take_15 : decode cX6_take 15 = .ok (.bipush 8, 2) := by decide +kernel
theorem dX6_take_17 : decode cX6_take 17 = .ok (.if_icmp .ge 24, 3) := by decide +kernel
theorem dX6_take_20 : decode cX6_take 20 = .ok (.aload_n 0, 1) := by decide +kernel
theorem dX6_take_21 : decode cX6_take 21 = .ok (.getfield 20, 3) := by decide +kernel
theorem dX6_take_24 : decode cX6_take 24 = .ok (.iload_n 1, 1) := by decide +kernel
theorem dX6_take_25 : decode cX6_take 25 = .ok (.aload_n 0, 1) := by decide +kernel
theorem dX6_take_26 : decode cX6_take 26 = .ok (.getfield 44, 3) := by decide +kernel
theorem dX6_take_29 : decode cX6_take 29 = .ok (.getfield 173, 3) := by decide +kernel
theorem dX6_take_32 : decode cX6_take 32 = .ok (.iload_n 1, 1) := by decide +kernel
theorem dX6_take_33 : decode cX6_take 33 = .ok (.iaload, 1) := by decide +kernel
theorem dX6_take_34 : decode cX6_take 34 = .ok (.iastore, 1) := by decide +kernel
theorem dX6_take_35 : decode cX6_take 35 = .ok (.iinc 1 1, 3) := by decide +kernel
theorem dX6_take_38 : decode cX6_take 38 = .ok (.goto (-24), 3) := by decide +kernel
theorem dX6_take_41 : decode cX6_take 41 = .ok (.aload_n 0, 1) := by decide +kernel
theorem dX6_take_42 : decode cX6_take 42 = .ok (.getfield 20, 3) := by decide +kernel
theorem dX6_take_45 : decode cX6_take 45 = .ok (.invokestatic 159, 3) := by decide +kernel
theorem dX6_take_48 : decode cX6_take 48 = .ok (.ireturn, 1) := by decide +kernel
set_option maxRecDepth 20000 in
theorem ggX6_about_X4_has : GoodIn wsX6_about wsX4_has := goodIn_r _ [9, 10, 19, 20, 21, 22] (by decide +kernel) (by decide +kernel)
set_option maxRecDepth 20000 in
theorem gX6_about_X4_has : GoodIn wsX6_about (wsV RX6 64 RX4 yX4_has wsX4_has) := goodIn_app (goodIn_of _ (by decide +kernel)) ggX6_about_X4_has
theorem dX6_about_0 : decode cX6_about 0 = .ok (.aload_n 0, 1) := by decide +kernel
theorem dX6_about_1 : decode cX6_about 1 = .ok (.getfield 10, 3) := by decide +kernel
theorem dX6_about_4 : decode cX6_about 4 = .ok (.iload_n 1, 1) := by decide +kernel
theorem dX6_about_5 : decode cX6_about 5 = .ok (.invokevirtual 64, 3) := by decide +kernel
theorem dX6_about_8 : decode cX6_about 8 = .ok (.ifCond .ne 6, 3) := by decide +kernel
theorem dX6_about_11 : decode cX6_about 11 = .ok (.bipush (-101), 2) := by decide +kernel
theorem dX6_about_13 : decode cX6_about 13 = .ok (.ireturn, 1) := by decide +kernel
theorem dX6_about_14 : decode cX6_about 14 = .ok (.iload_n 2, 1) := by decide +kernel
theorem dX6_about_15 : decode cX6_about 15 = .ok (.tableswitch 55 0 2 #[25, 35, 45], 25) := by decide +kernel
theorem dX6_about_40 : decode cX6_about 40 = .ok (.aload_n 0, 1) := by decide +kernel
theorem dX6_about_41 : decode cX6_about 41 = .ok (.getfield 10, 3) := by decide +kernel
theorem dX6_about_44 : decode cX6_about 44 = .ok (.getfield 176, 3) := by decide +kernel
theorem dX6_about_47 : decode cX6_about 47 = .ok (.iload_n 1, 1) := by decide +kernel
theorem dX6_about_48 : decode cX6_about 48 = .ok (.iaload, 1) := by decide +kernel
theorem dX6_about_49 : decode cX6_about 49 = .ok (.ireturn, 1) := by decide +kernel
theorem dX6_about_50 : decode cX6_about 50 = .ok (.aload_n 0, 1) := by decide +kernel
theorem dX6_about_51 : decode cX6_about 51 = .ok (.getfield 10, 3) := by decide +kernel
theorem dX6_about_54 : decode cX6_about 54 = .ok (.getfield 179, 3) := by decide +kernel
theorem dX6_about_57 : decode cX6_about 57 = .ok (.iload_n 1, 1) := by decide +kernel
theorem dX6_about_58 : decode cX6_about 58 = .ok (.iaload, 1) := by decide +kernel
theorem dX6_about_59 : decode cX6_about 59 = .ok (.ireturn, 1) := by decide +kernel
theorem dX6_about_60 : decode cX6_about 60 = .ok (.aload_n 0, 1) := by decide +kernel
theorem dX6_about_61 : decode cX6_about 61 = .ok (.getfield 10, 3) := by decide +kernel
theorem dX6_about_64 : decode cX6_about 64 = .ok (.getfield 182, 3) := by decide +kernel
theorem dX6_about_67 : decode cX6_about 67 = .ok (.iload_n 1, 1) := by decide +kernel
theorem dX6_about_68 : decode cX6_about 68 = .ok (.iaload, 1) := by decide +kernel
theorem dX6_about_69 : decode cX6_about 69 = .ok (.ireturn, 1) := by decide +kernel
theorem dX6_about_70 : decode cX6_about 70 = .ok (.bipush (-102), 2) := by decide +kernel
theorem dX6_about_72 : decode cX6_about 72 = .ok (.ireturn, 1) := by decide +kernel
set_option maxRecDepth 20000 in
theorem ggX6_size_X6_checkedCells : GoodIn wsX6_size wsX6_checkedCells := goodIn_r _ [8, 9, 10, 11, 12, 13, 14, 15, 16, 17] (by decide +kernel) (by decide +kernel)
set_option maxRecDepth 20000 in
theorem gX6_size_X6_checkedCells : GoodIn wsX6_size (wsV RX6 185 RX6 yX6_checkedCells wsX6_checkedCells) := goodIn_app (goodIn_of _ (by decide +kernel)) ggX6_size_X6_checkedCells
theorem dX6_size_0 : decode cX6_size 0 = .ok (.iload_n 1, 1) := by decide +kernel
theorem dX6_size_1 : decode cX6_size 1 = .ok (.tableswitch 45 0 2 #[27, 35, 40], 27) := by decide +kernel
theorem dX6_size_28 : decode cX6_size 28 = .ok (.aload_n 0, 1) := by decide +kernel
theorem dX6_size_29 : decode cX6_size 29 = .ok (.getfield 10, 3) := by decide +kernel
theorem dX6_size_32 : decode cX6_size 32 = .ok (.getfield 56, 3) := by decide +kernel
theorem dX6_size_35 : decode cX6_size 35 = .ok (.ireturn, 1) := by decide +kernel
theorem dX6_size_36 : decode cX6_size 36 = .ok (.aload_n 0, 1) := by decide +kernel
theorem dX6_size_37 : decode cX6_size 37 = .ok (.invokevirtual 185, 3) := by decide +kernel
theorem dX6_size_40 : decode cX6_size 40 = .ok (.ireturn, 1) := by decide +kernel
theorem dX6_size_41 : decode cX6_size 41 = .ok (.aload_n 0, 1) := by decide +kernel
theorem dX6_size_42 : decode cX6_size 42 = .ok (.getfield 132, 3) := by decide +kernel
theorem dX6_size_45 : decode cX6_size 45 = .ok (.ireturn, 1) := by decide +kernel
theorem dX6_size_46 : decode cX6_size 46 = .ok (.bipush (-102), 2) := by decide +kernel
theorem dX6_size_48 : decode cX6_size 48 = .ok (.ireturn, 1) := by decide +kernel
set_option maxRecDepth 20000 in
theorem ggX6_digest_X6_chosenOrNone : GoodIn wsX6_digest wsX6_chosenOrNone := goodIn_r _ [17, 18, 19, 20, 106, 107, 108, 109, 110, 111, 112, 113, 128, 129, 130, 131] (by decide +kernel) (by decide +kernel)
set_option maxRecDepth 20000 in
theorem gX6_digest_X6_chosenOrNone : GoodIn wsX6_digest (wsV RX6 167 RX6 yX6_chosenOrNone wsX6_chosenOrNone) := goodIn_app (goodIn_of _ (by decide +kernel)) ggX6_digest_X6_chosenOrNone
set_option maxRecDepth 20000 in
theorem ggX6_digest_X6_plainRun : GoodIn wsX6_digest wsX6_plainRun := goodIn_r _ [24, 25, 26, 8, 27, 28, 29, 30, 31, 32, 33, 34, 35, 36, 37, 38, 39, 40, 41, 42, 43, 44, 45, 46, 47, 48, 49, 50, 51, 52, 53, 54, 55, 56, 57, 58, 59, 60, 61, 62, 63, 64, 65, 66, 67, 68, 69, 70, 71, 72, 73, 74, 75, 76, 77, 78, 79, 80, 81, 82, 83, 84, 85, 86, 87, 88, 89, 90, 91, 92, 93, 94, 16, 95, 96, 97, 98, 99, 100, 101, 102, 103, 104, 105, 106, 107, 108, 109, 110, 111, 112, 113, 132, 133, 134, 135, 136, 137, 118, 119, 120, 121, 122, 123, 124, 125, 126, 127, 114, 115, 116, 117, 138, 139, 140, 141, 142] (by decide +kernel) (by decide +kernel)
set_option maxRecDepth 20000 in
theorem gX6_digest_X6_plainRun : GoodIn wsX6_digest (wsV RX6 71 RX6 yX6_plainRun wsX6_plainRun) := goodIn_app (goodIn_of _ (by decide +kernel)) ggX6_digest_X6_plainRun
theorem dX6_digest_0 : decode cX6_digest 0 = .ok (.ldc2_w 188, 3) := by decide +kernel
theorem dX6_digest_3 : decode cX6_digest 3 = .ok (.lstore_n 1, 1) := by decide +kernel
theorem dX6_digest_4 : decode cX6_digest 4 = .ok (.iconst 0, 1) := by decide +kernel
theorem dX6_digest_5 : decode cX6_digest 5 = .ok (.istore_n 3, 1) := by decide +kernel
theorem dX6_digest_6 : decode cX6_digest 6 = .ok (.iload_n 3, 1) := by decide +kernel
theorem dX6_digest_7 : decode cX6_digest 7 = .ok (.aload_n 0, 1) := by decide +kernel
theorem dX6_digest_8 : decode cX6_digest 8 = .ok (.getfield 10, 3) := by decide +kernel
theorem dX6_digest_11 : decode cX6_digest 11 = .ok (.getfield 56, 3) := by decide +kernel
theorem dX6_digest_14 : decode cX6_digest 14 = .ok (.if_icmp .ge 60, 3) := by decide +kernel
theorem dX6_digest_17 : decode cX6_digest 17 = .ok (.ldc2_w 190, 3) := by decide +kernel
theorem dX6_digest_20 : decode cX6_digest 20 = .ok (.lload_n 1, 1) := by decide +kernel
theorem dX6_digest_21 : decode cX6_digest 21 = .ok (.lmul, 1) := by decide +kernel
theorem dX6_digest_22 : decode cX6_digest 22 = .ok (.aload_n 0, 1) := by decide +kernel
theorem dX6_digest_23 : decode cX6_digest 23 = .ok (.getfield 10, 3) := by decide +kernel
theorem dX6_digest_26 : decode cX6_digest 26 = .ok (.getfield 176, 3) := by decide +kernel
theorem dX6_digest_29 : decode cX6_digest 29 = .ok (.iload_n 3, 1) := by decide +kernel
theorem dX6_digest_30 : decode cX6_digest 30 = .ok (.iaload, 1) := by decide +kernel
theorem dX6_digest_31 : decode cX6_digest 31 = .ok (.i2l, 1) := by decide +kernel
theorem dX6_digest_32 : decode cX6_digest 32 = .ok (.ladd, 1) := by decide +kernel
theorem dX6_digest_33 : decode cX6_digest 33 = .ok (.lstore_n 1, 1) := by decide +kernel
theorem dX6_digest_34 : decode cX6_digest 34 = .ok (.ldc2_w 190, 3) := by decide +kernel
theorem dX6_digest_37 : decode cX6_digest 37 = .ok (.lload_n 1, 1) := by decide +kernel
theorem dX6_digest_38 : decode cX6_digest 38 = .ok (.lmul, 1) := by decide +kernel
theorem dX6_digest_39 : decode cX6_digest 39 = .ok (.aload_n 0, 1) := by decide +kernel
theorem dX6_digest_40 : decode cX6_digest 40 = .ok (.getfield 10, 3) := by decide +kernel
theorem dX6_digest_43 : decode cX6_digest 43 = .ok (.getfield 179, 3) := by decide +kernel
theorem dX6_digest_46 : decode cX6_digest 46 = .ok (.iload_n 3, 1) := by decide +kernel
theorem dX6_digest_47 : decode cX6_digest 47 = .ok (.iaload, 1) := by decide +kernel
theorem dX6_digest_48 : decode cX6_digest 48 = .ok (.i2l, 1) := by decide +kernel
theorem dX6_digest_49 : decode cX6_digest 49 = .ok (.ladd, 1) := by decide +kernel
theorem dX6_digest_50 : decode cX6_digest 50 = .ok (.lstore_n 1, 1) := by decide +kernel
theorem dX6_digest_51 : decode cX6_digest 51 = .ok (.ldc2_w 190, 3) := by decide +kernel
theorem dX6_digest_54 : decode cX6_digest 54 = .ok (.lload_n 1, 1) := by decide +kernel
theorem dX6_digest_55 : decode cX6_digest 55 = .ok (.lmul, 1) := by decide +kernel
theorem dX6_digest_56 : decode cX6_digest 56 = .ok (.aload_n 0, 1) := by decide +kernel
theorem dX6_digest_57 : decode cX6_digest 57 = .ok (.getfield 10, 3) := by decide +kernel
theorem dX6_digest_60 : decode cX6_digest 60 = .ok (.getfield 182, 3) := by decide +kernel
theorem dX6_digest_63 : decode cX6_digest 63 = .ok (.iload_n 3, 1) := by decide +kernel
theorem dX6_digest_64 : decode cX6_digest 64 = .ok (.iaload, 1) := by decide +kernel
theorem dX6_digest_65 : decode cX6_digest 65 = .ok (.i2l, 1) := by decide +kernel
theorem dX6_digest_66 : decode cX6_digest 66 = .ok (.ladd, 1) := by decide +kernel
theorem dX6_digest_67 : decode cX6_digest 67 = .ok (.lstore_n 1, 1) := by decide +kernel
theorem dX6_digest_68 : decode cX6_digest 68 = .ok (.iinc 3 1, 3) := by decide +kernel
theorem dX6_digest_71 : decode cX6_digest 71 = .ok (.goto (-65), 3) := by decide +kernel
theorem dX6_digest_74 : decode cX6_digest 74 = .ok (.iconst 0, 1) := by decide +kernel
theorem dX6_digest_75 : decode cX6_digest 75 = .ok (.istore_n 3, 1) := by decide +kernel
theorem dX6_digest_76 : decode cX6_digest 76 = .ok (.iload_n 3, 1) := by decide +kernel
theorem dX6_digest_77 : decode cX6_digest 77 = .ok (.bipush 8, 2) := by decide +kernel
theorem dX6_digest_79 : decode cX6_digest 79 = .ok (.if_icmp .ge 50, 3) := by decide +kernel
theorem dX6_digest_82 : decode cX6_digest 82 = .ok (.ldc2_w 190, 3) := by decide +kernel
theorem dX6_digest_85 : decode cX6_digest 85 = .ok (.lload_n 1, 1) := by decide +kernel
theorem dX6_digest_86 : decode cX6_digest 86 = .ok (.lmul, 1) := by decide +kernel
theorem dX6_digest_87 : decode cX6_digest 87 = .ok (.aload_n 0, 1) := by decide +kernel
theorem dX6_digest_88 : decode cX6_digest 88 = .ok (.getfield 16, 3) := by decide +kernel
theorem dX6_digest_91 : decode cX6_digest 91 = .ok (.iload_n 3, 1) := by decide +kernel
theorem dX6_digest_92 : decode cX6_digest 92 = .ok (.iaload, 1) := by decide +kernel
theorem dX6_digest_93 : decode cX6_digest 93 = .ok (.i2l, 1) := by decide +kernel
theorem dX6_digest_94 : decode cX6_digest 94 = .ok (.ladd, 1) := by decide +kernel
theorem dX6_digest_95 : decode cX6_digest 95 = .ok (.lstore_n 1, 1) := by decide +kernel
theorem dX6_digest_96 : decode cX6_digest 96 = .ok (.ldc2_w 190, 3) := by decide +kernel
theorem dX6_digest_99 : decode cX6_digest 99 = .ok (.lload_n 1, 1) := by decide +kernel
theorem dX6_digest_100 : decode cX6_digest 100 = .ok (.lmul, 1) := by decide +kernel
theorem dX6_digest_101 : decode cX6_digest 101 = .ok (.aload_n 0, 1) := by decide +kernel
theorem dX6_digest_102 : decode cX6_digest 102 = .ok (.getfield 20, 3) := by decide +kernel
theorem dX6_digest_105 : decode cX6_digest 105 = .ok (.iload_n 3, 1) := by decide +kernel
theorem dX6_digest_106 : decode cX6_digest 106 = .ok (.iaload, 1) := by decide +kernel
theorem dX6_digest_107 : decode cX6_digest 107 = .ok (.i2l, 1) := by decide +kernel
theorem dX6_digest_108 : decode cX6_digest 108 = .ok (.ladd, 1) := by decide +kernel
theorem dX6_digest_109 : decode cX6_digest 109 = .ok (.lstore_n 1, 1) := by decide +kernel
theorem dX6_digest_110 : decode cX6_digest 110 = .ok (.ldc2_w 190, 3) := by decide +kernel
theorem dX6_digest_113 : decode cX6_digest 113 = .ok (.lload_n 1, 1) := by decide +kernel
theorem dX6_digest_114 : decode cX6_digest 114 = .ok (.lmul, 1) := by decide +kernel
theorem dX6_digest_115 : decode cX6_digest 115 = .ok (.aload_n 0, 1) := by decide +kernel
theorem dX6_digest_116 : decode cX6_digest 116 = .ok (.iload_n 3, 1) := by decide +kernel
theorem dX6_digest_117 : decode cX6_digest 117 = .ok (.invokevirtual 167, 3) := by decide +kernel
theorem dX6_digest_120 : decode cX6_digest 120 = .ok (.i2l, 1) := by decide +kernel
theorem dX6_digest_121 : decode cX6_digest 121 = .ok (.ladd, 1) := by decide +kernel
theorem dX6_digest_122 : decode cX6_digest 122 = .ok (.lstore_n 1, 1) := by decide +kernel
theorem dX6_digest_123 : decode cX6_digest 123 = .ok (.iinc 3 1, 3) := by decide +kernel
theorem dX6_digest_126 : decode cX6_digest 126 = .ok (.goto (-50), 3) := by decide +kernel
theorem dX6_digest_129 : decode cX6_digest 129 = .ok (.aload_n 0, 1) := by decide +kernel
theorem dX6_digest_130 : decode cX6_digest 130 = .ok (.invokevirtual 71, 3) := by decide +kernel
theorem dX6_digest_133 : decode cX6_digest 133 = .ok (.astore_n 3, 1) := by decide +kernel
theorem dX6_digest_134 : decode cX6_digest 134 = .ok (.ldc2_w 190, 3) := by decide +kernel
theorem dX6_digest_137 : decode cX6_digest 137 = .ok (.lload_n 1, 1) := by decide +kernel
theorem dX6_digest_138 : decode cX6_digest 138 = .ok (.lmul, 1) := by decide +kernel
theorem dX6_digest_139 : decode cX6_digest 139 = .ok (.aload_n 3, 1) := by decide +kernel
theorem dX6_digest_140 : decode cX6_digest 140 = .ok (.getfield 75, 3) := by decide +kernel
theorem dX6_digest_143 : decode cX6_digest 143 = .ok (.i2l, 1) := by decide +kernel
theorem dX6_digest_144 : decode cX6_digest 144 = .ok (.ladd, 1) := by decide +kernel
theorem dX6_digest_145 : decode cX6_digest 145 = .ok (.lstore_n 1, 1) := by decide +kernel
theorem dX6_digest_146 : decode cX6_digest 146 = .ok (.ldc2_w 190, 3) := by decide +kernel
theorem dX6_digest_149 : decode cX6_digest 149 = .ok (.lload_n 1, 1) := by decide +kernel
theorem dX6_digest_150 : decode cX6_digest 150 = .ok (.lmul, 1) := by decide +kernel
theorem dX6_digest_151 : decode cX6_digest 151 = .ok (.aload_n 3, 1) := by decide +kernel
theorem dX6_digest_152 : decode cX6_digest 152 = .ok (.getfield 80, 3) := by decide +kernel
theorem dX6_digest_155 : decode cX6_digest 155 = .ok (.i2l, 1) := by decide +kernel
theorem dX6_digest_156 : decode cX6_digest 156 = .ok (.ladd, 1) := by decide +kernel
theorem dX6_digest_157 : decode cX6_digest 157 = .ok (.lstore_n 1, 1) := by decide +kernel
theorem dX6_digest_158 : decode cX6_digest 158 = .ok (.ldc2_w 190, 3) := by decide +kernel
theorem dX6_digest_161 : decode cX6_digest 161 = .ok (.lload_n 1, 1) := by decide +kernel
theorem dX6_digest_162 : decode cX6_digest 162 = .ok (.lmul, 1) := by decide +kernel
theorem dX6_digest_163 : decode cX6_digest 163 = .ok (.aload_n 0, 1) := by decide +kernel
theorem dX6_digest_164 : decode cX6_digest 164 = .ok (.getfield 132, 3) := by decide +kernel
theorem dX6_digest_167 : decode cX6_digest 167 = .ok (.i2l, 1) := by decide +kernel
theorem dX6_digest_168 : decode cX6_digest 168 = .ok (.ladd, 1) := by decide +kernel
theorem dX6_digest_169 : decode cX6_digest 169 = .ok (.lreturn, 1) := by decide +kernel
set_option maxRecDepth 20000 in
theorem ggX6_plainRun_X5_follow : GoodIn wsX6_plainRun wsX5_follow := goodIn_r _ [10, 11, 12, 13, 14, 15, 16, 17, 18, 19, 20, 21, 22, 23, 24, 25, 26, 27, 28, 29, 30, 31, 32, 33, 34, 35, 36, 37, 38, 39, 40, 41, 42, 43, 44, 45, 46, 47, 48, 49, 50, 51, 52, 53, 54, 55, 56, 57, 58, 59, 60, 61, 62, 63, 64, 65, 66, 67, 68, 69, 70, 71, 72, 73, 74, 75, 76, 77, 92, 93, 94, 95, 96, 97, 98, 99, 100, 101, 102, 103, 104, 105, 106, 107, 108, 109, 110, 111] (by decide +kernel) (by decide +kernel)
set_option maxRecDepth 20000 in
theorem gX6_plainRun_X5_follow : GoodIn wsX6_plainRun (wsV RX6 192 RX5 yX5_follow wsX5_follow) := goodIn_app (goodIn_of _ (by decide +kernel)) ggX6_plainRun_X5_follow
set_option maxRecDepth 20000 in
theorem ggX6_plainRun_X2_forget : GoodIn wsX6_plainRun wsX2_forget := goodIn_r _ [82, 83, 112, 113, 114, 115, 116] (by decide +kernel) (by decide +kernel)
set_option maxRecDepth 20000 in
theorem gX6_plainRun_X2_forget : GoodIn wsX6_plainRun (wsV RX6 196 RX2 yX2_forget wsX2_forget) := goodIn_app (goodIn_of _ (by decide +kernel)) ggX6_plainRun_X2_forget
theorem dX6_plainRun_0 : decode cX6_plainRun 0 = .ok (.aload_n 0, 1) := by decide +kernel
theorem dX6_plainRun_1 : decode cX6_plainRun 1 = .ok (.getfield 48, 3) := by decide +kernel
theorem dX6_plainRun_4 : decode cX6_plainRun 4 = .ok (.ifCond .eq 26, 3) := by decide +kernel
theorem dX6_plainRun_7 : decode cX6_plainRun 7 = .ok (.aload_n 0, 1) := by decide +kernel
theorem dX6_plainRun_8 : decode cX6_plainRun 8 = .ok (.getfield 28, 3) := by decide +kernel
theorem dX6_plainRun_11 : decode cX6_plainRun 11 = .ok (.aload_n 0, 1) := by decide +kernel
theorem dX6_plainRun_12 : decode cX6_plainRun 12 = .ok (.getfield 16, 3) := by decide +kernel
theorem dX6_plainRun_15 : decode cX6_plainRun 15 = .ok (.invokevirtual 192, 3) := by decide +kernel
theorem dX6_plainRun_18 : decode cX6_plainRun 18 = .ok (.aload_n 0, 1) := by decide +kernel
theorem dX6_plainRun_19 : decode cX6_plainRun 19 = .ok (.getfield 37, 3) := by decide +kernel
theorem dX6_plainRun_22 : decode cX6_plainRun 22 = .ok (.invokevirtual 196, 3) := by decide +kernel
theorem dX6_plainRun_25 : decode cX6_plainRun 25 = .ok (.aload_n 0, 1) := by decide +kernel
theorem dX6_plainRun_26 : decode cX6_plainRun 26 = .ok (.iconst 0, 1) := by decide +kernel
theorem dX6_plainRun_27 : decode cX6_plainRun 27 = .ok (.putfield 48, 3) := by decide +kernel
theorem dX6_plainRun_30 : decode cX6_plainRun 30 = .ok (.aload_n 0, 1) := by decide +kernel
theorem dX6_plainRun_31 : decode cX6_plainRun 31 = .ok (.getfield 28, 3) := by decide +kernel
theorem dX6_plainRun_34 : decode cX6_plainRun 34 = .ok (.getfield 199, 3) := by decide +kernel
theorem dX6_plainRun_37 : decode cX6_plainRun 37 = .ok (.areturn, 1) := by decide +kernel
set_option maxRecDepth 20000 in
theorem ggX6_refusalOfTick_X6_plainRun : GoodIn wsX6_refusalOfTick wsX6_plainRun := goodIn_r _ [7, 8, 9, 10, 11, 12, 13, 14, 15, 16, 17, 18, 19, 20, 21, 22, 23, 24, 25, 26, 27, 28, 29, 30, 31, 32, 33, 34, 35, 36, 37, 38, 39, 40, 41, 42, 43, 44, 45, 46, 47, 48, 49, 50, 51, 52, 53, 54, 55, 56, 57, 58, 59, 60, 61, 62, 63, 64, 65, 66, 67, 68, 69, 70, 71, 72, 73, 74, 75, 76, 77, 78, 6, 79, 80, 81, 82, 83, 84, 85, 86, 87, 88, 89, 100, 101, 102, 103, 104, 105, 106, 107, 108, 109, 110, 111, 112, 113, 90, 91, 92, 93, 94, 95, 96, 97, 98, 99, 114, 115, 116, 117, 118, 119, 120, 121, 122] (by decide +kernel) (by decide +kernel)
set_option maxRecDepth 20000 in
theorem gX6_refusalOfTick_X6_plainRun : GoodIn wsX6_refusalOfTick (wsV RX6 71 RX6 yX6_plainRun wsX6_plainRun) := goodIn_app (goodIn_of _ (by decide +kernel)) ggX6_refusalOfTick_X6_plainRun
theorem dX6_refusalOfTick_0 : decode cX6_refusalOfTick 0 = .ok (.aload_n 0, 1) := by decide +kernel
theorem dX6_refusalOfTick_1 : decode cX6_refusalOfTick 1 = .ok (.invokevirtual 71, 3) := by decide +kernel
theorem dX6_refusalOfTick_4 : decode cX6_refusalOfTick 4 = .ok (.astore_n 2, 1) := by decide +kernel
theorem dX6_refusalOfTick_5 : decode cX6_refusalOfTick 5 = .ok (.aload_n 2, 1) := by decide +kernel
theorem dX6_refusalOfTick_6 : decode cX6_refusalOfTick 6 = .ok (.getfield 75, 3) := by decide +kernel
theorem dX6_refusalOfTick_9 : decode cX6_refusalOfTick 9 = .ok (.ifCond .eq 6, 3) := by decide +kernel
theorem dX6_refusalOfTick_12 : decode cX6_refusalOfTick 12 = .ok (.bipush (-103), 2) := by decide +kernel
theorem dX6_refusalOfTick_14 : decode cX6_refusalOfTick 14 = .ok (.ireturn, 1) := by decide +kernel
theorem dX6_refusalOfTick_15 : decode cX6_refusalOfTick 15 = .ok (.iload_n 1, 1) := by decide +kernel
theorem dX6_refusalOfTick_16 : decode cX6_refusalOfTick 16 = .ok (.ifCond .lt 11, 3) := by decide +kernel
theorem dX6_refusalOfTick_19 : decode cX6_refusalOfTick 19 = .ok (.iload_n 1, 1) := by decide +kernel
theorem dX6_refusalOfTick_20 : decode cX6_refusalOfTick 20 = .ok (.aload_n 2, 1) := by decide +kernel
theorem dX6_refusalOfTick_21 : decode cX6_refusalOfTick 21 = .ok (.getfield 80, 3) := by decide +kernel
theorem dX6_refusalOfTick_24 : decode cX6_refusalOfTick 24 = .ok (.if_icmp .lt 8, 3) := by decide +kernel
theorem dX6_refusalOfTick_27 : decode cX6_refusalOfTick 27 = .ok (.bipush (-102), 2) := by decide +kernel
theorem dX6_refusalOfTick_29 : decode cX6_refusalOfTick 29 = .ok (.goto 4, 3) := by decide +kernel
theorem dX6_refusalOfTick_32 : decode cX6_refusalOfTick 32 = .ok (.iconst 0, 1) := by decide +kernel
theorem dX6_refusalOfTick_33 : decode cX6_refusalOfTick 33 = .ok (.ireturn, 1) := by decide +kernel
set_option maxRecDepth 20000 in
theorem ggX6_refusalOfFlip_X6_isCell : GoodIn wsX6_refusalOfFlip wsX6_isCell := goodIn_r _ [4] (by decide +kernel) (by decide +kernel)
set_option maxRecDepth 20000 in
theorem gX6_refusalOfFlip_X6_isCell : GoodIn wsX6_refusalOfFlip (va_wsS RX6 68 yX6_isCell wsX6_isCell) := goodIn_app (goodIn_of _ (by decide +kernel)) ggX6_refusalOfFlip_X6_isCell
set_option maxRecDepth 20000 in
theorem ggX6_refusalOfFlip_X6_isWidth : GoodIn wsX6_refusalOfFlip wsX6_isWidth := goodIn_r _ [7] (by decide +kernel) (by decide +kernel)
set_option maxRecDepth 20000 in
theorem gX6_refusalOfFlip_X6_isWidth : GoodIn wsX6_refusalOfFlip (va_wsS RX6 126 yX6_isWidth wsX6_isWidth) := goodIn_app (goodIn_of _ (by decide +kernel)) ggX6_refusalOfFlip_X6_isWidth
set_option maxRecDepth 20000 in
theorem ggX6_refusalOfFlip_X6_refusalOfTick : GoodIn wsX6_refusalOfFlip wsX6_refusalOfTick := goodIn_r _ [11, 12, 13, 14, 15, 16, 3, 17, 18, 19, 20, 21, 22, 23, 24, 25, 26, 27, 28, 29, 30, 31, 32, 33, 34, 35, 36, 37, 38, 39, 40, 41, 42, 43, 44, 45, 46, 47, 48, 49, 50, 51, 52, 53, 54, 55, 56, 57, 58, 59, 60, 61, 62, 63, 64, 65, 66, 67, 68, 69, 70, 71, 72, 73, 74, 75, 76, 77, 78, 79, 80, 81, 82, 83, 84, 85, 86, 87, 2, 4, 88, 89, 90, 91, 92, 93, 94, 95, 96, 97, 98, 99, 100, 101, 102, 103, 104, 105, 106, 107, 108, 109, 110, 111, 112, 113, 114, 115, 116, 117, 118, 119, 120, 121, 122, 123, 124, 125, 126, 127, 128, 129, 130] (by decide +kernel) (by decide +kernel)
set_option maxRecDepth 20000 in
theorem gX6_refusalOfFlip_X6_refusalOfTick : GoodIn wsX6_refusalOfFlip (wsV RX6 92 RX6 yX6_refusalOfTick wsX6_refusalOfTick) := goodIn_app (goodIn_of _ (by decide +kernel)) ggX6_refusalOfFlip_X6_refusalOfTick
theorem dX6_refusalOfFlip_0 : decode cX6_refusalOfFlip 0 = .ok (.iload_n 1, 1) := by decide +kernel
theorem dX6_refusalOfFlip_1 : decode cX6_refusalOfFlip 1 = .ok (.invokestatic 68, 3) := by decide +kernel
theorem dX6_refusalOfFlip_4 : decode cX6_refusalOfFlip 4 = .ok (.ifCond .ne 6, 3) := by decide +kernel
theorem dX6_refusalOfFlip_7 : decode cX6_refusalOfFlip 7 = .ok (.bipush (-101), 2) := by decide +kernel
theorem dX6_refusalOfFlip_9 : decode cX6_refusalOfFlip 9 = .ok (.ireturn, 1) := by decide +kernel
theorem dX6_refusalOfFlip_10 : decode cX6_refusalOfFlip 10 = .ok (.iload_n 3, 1) := by decide +kernel
theorem dX6_refusalOfFlip_11 : decode cX6_refusalOfFlip 11 = .ok (.invokestatic 126, 3) := by decide +kernel
theorem dX6_refusalOfFlip_14 : decode cX6_refusalOfFlip 14 = .ok (.ifCond .eq 15, 3) := by decide +kernel
theorem dX6_refusalOfFlip_17 : decode cX6_refusalOfFlip 17 = .ok (.iload_n 2, 1) := by decide +kernel
theorem dX6_refusalOfFlip_18 : decode cX6_refusalOfFlip 18 = .ok (.ifCond .lt 11, 3) := by decide +kernel
theorem dX6_refusalOfFlip_21 : decode cX6_refusalOfFlip 21 = .ok (.iload_n 2, 1) := by decide +kernel
theorem dX6_refusalOfFlip_22 : decode cX6_refusalOfFlip 22 = .ok (.bipush 8, 2) := by decide +kernel
theorem dX6_refusalOfFlip_24 : decode cX6_refusalOfFlip 24 = .ok (.iload_n 3, 1) := by decide +kernel
theorem dX6_refusalOfFlip_25 : decode cX6_refusalOfFlip 25 = .ok (.isub, 1) := by decide +kernel
theorem dX6_refusalOfFlip_26 : decode cX6_refusalOfFlip 26 = .ok (.if_icmp .le 6, 3) := by decide +kernel
theorem dX6_refusalOfFlip_29 : decode cX6_refusalOfFlip 29 = .ok (.bipush (-102), 2) := by decide +kernel
theorem dX6_refusalOfFlip_31 : decode cX6_refusalOfFlip 31 = .ok (.ireturn, 1) := by decide +kernel
theorem dX6_refusalOfFlip_32 : decode cX6_refusalOfFlip 32 = .ok (.aload_n 0, 1) := by decide +kernel
theorem dX6_refusalOfFlip_33 : decode cX6_refusalOfFlip 33 = .ok (.iload 4, 2) := by decide +kernel
theorem dX6_refusalOfFlip_35 : decode cX6_refusalOfFlip 35 = .ok (.invokevirtual 92, 3) := by decide +kernel
theorem dX6_refusalOfFlip_38 : decode cX6_refusalOfFlip 38 = .ok (.ireturn, 1) := by decide +kernel
set_option maxRecDepth 20000 in
theorem ggX6_refusalOfSearch_X6_plainRun : GoodIn wsX6_refusalOfSearch wsX6_plainRun := goodIn_r _ [7, 8, 9, 10, 11, 12, 13, 14, 15, 16, 17, 18, 19, 20, 21, 22, 23, 24, 25, 26, 27, 28, 29, 30, 31, 32, 33, 34, 35, 36, 37, 38, 39, 40, 41, 42, 43, 44, 45, 46, 47, 48, 49, 50, 51, 52, 53, 54, 55, 56, 57, 58, 59, 60, 61, 62, 63, 64, 65, 66, 67, 68, 69, 70, 71, 72, 73, 74, 75, 76, 77, 78, 6, 79, 80, 81, 82, 83, 84, 85, 86, 87, 88, 89, 100, 101, 102, 103, 104, 105, 106, 107, 108, 109, 110, 111, 112, 113, 90, 91, 92, 93, 94, 95, 96, 97, 98, 99, 114, 115, 116, 117, 118, 119, 120, 121, 122] (by decide +kernel) (by decide +kernel)
set_option maxRecDepth 20000 in
theorem gX6_refusalOfSearch_X6_plainRun : GoodIn wsX6_refusalOfSearch (wsV RX6 71 RX6 yX6_plainRun wsX6_plainRun) := goodIn_app (goodIn_of _ (by decide +kernel)) ggX6_refusalOfSearch_X6_plainRun
theorem dX6_refusalOfSearch_0 : decode cX6_refusalOfSearch 0 = .ok (.aload_n 0, 1) := by decide +kernel
theorem dX6_refusalOfSearch_1 : decode cX6_refusalOfSearch 1 = .ok (.invokevirtual 71, 3) := by decide +kernel
theorem dX6_refusalOfSearch_4 : decode cX6_refusalOfSearch 4 = .ok (.getfield 75, 3) := by decide +kernel
theorem dX6_refusalOfSearch_7 : decode cX6_refusalOfSearch 7 = .ok (.ifCond .eq 6, 3) := by decide +kernel
theorem dX6_refusalOfSearch_10 : decode cX6_refusalOfSearch 10 = .ok (.bipush (-103), 2) := by decide +kernel
theorem dX6_refusalOfSearch_12 : decode cX6_refusalOfSearch 12 = .ok (.ireturn, 1) := by decide +kernel
theorem dX6_refusalOfSearch_13 : decode cX6_refusalOfSearch 13 = .ok (.aload_n 0, 1) := by decide +kernel
theorem dX6_refusalOfSearch_14 : decode cX6_refusalOfSearch 14 = .ok (.getfield 132, 3) := by decide +kernel
theorem dX6_refusalOfSearch_17 : decode cX6_refusalOfSearch 17 = .ok (.iload_n 1, 1) := by decide +kernel
theorem dX6_refusalOfSearch_18 : decode cX6_refusalOfSearch 18 = .ok (.iadd, 1) := by decide +kernel
theorem dX6_refusalOfSearch_19 : decode cX6_refusalOfSearch 19 = .ok (.bipush 60, 2) := by decide +kernel
theorem dX6_refusalOfSearch_21 : decode cX6_refusalOfSearch 21 = .ok (.if_icmp .le 8, 3) := by decide +kernel
theorem dX6_refusalOfSearch_24 : decode cX6_refusalOfSearch 24 = .ok (.bipush (-104), 2) := by decide +kernel
theorem dX6_refusalOfSearch_26 : decode cX6_refusalOfSearch 26 = .ok (.goto 4, 3) := by decide +kernel
theorem dX6_refusalOfSearch_29 : decode cX6_refusalOfSearch 29 = .ok (.iconst 0, 1) := by decide +kernel
theorem dX6_refusalOfSearch_30 : decode cX6_refusalOfSearch 30 = .ok (.ireturn, 1) := by decide +kernel
theorem dX6_chosenOrNone_0 : decode cX6_chosenOrNone 0 = .ok (.aload_n 0, 1) := by decide +kernel
theorem dX6_chosenOrNone_1 : decode cX6_chosenOrNone 1 = .ok (.getfield 44, 3) := by decide +kernel
theorem dX6_chosenOrNone_4 : decode cX6_chosenOrNone 4 = .ok (.getfield 170, 3) := by decide +kernel
theorem dX6_chosenOrNone_7 : decode cX6_chosenOrNone 7 = .ok (.ifCond .eq 15, 3) := by decide +kernel
theorem dX6_chosenOrNone_10 : decode cX6_chosenOrNone 10 = .ok (.aload_n 0, 1) := by decide +kernel
theorem dX6_chosenOrNone_11 : decode cX6_chosenOrNone 11 = .ok (.getfield 44, 3) := by decide +kernel
theorem dX6_chosenOrNone_14 : decode cX6_chosenOrNone 14 = .ok (.getfield 173, 3) := by decide +kernel
theorem dX6_chosenOrNone_17 : decode cX6_chosenOrNone 17 = .ok (.iload_n 1, 1) := by decide +kernel
theorem dX6_chosenOrNone_18 : decode cX6_chosenOrNone 18 = .ok (.iaload, 1) := by decide +kernel
theorem dX6_chosenOrNone_19 : decode cX6_chosenOrNone 19 = .ok (.goto 4, 3) := by decide +kernel
theorem dX6_chosenOrNone_22 : decode cX6_chosenOrNone 22 = .ok (.iconst (-1), 1) := by decide +kernel
theorem dX6_chosenOrNone_23 : decode cX6_chosenOrNone 23 = .ok (.ireturn, 1) := by decide +kernel
theorem dX6_checkedCells_0 : decode cX6_checkedCells 0 = .ok (.iconst 0, 1) := by decide +kernel
theorem dX6_checkedCells_1 : decode cX6_checkedCells 1 = .ok (.istore_n 1, 1) := by decide +kernel
theorem dX6_checkedCells_2 : decode cX6_checkedCells 2 = .ok (.iconst 0, 1) := by decide +kernel
theorem dX6_checkedCells_3 : decode cX6_checkedCells 3 = .ok (.istore_n 2, 1) := by decide +kernel
theorem dX6_checkedCells_4 : decode cX6_checkedCells 4 = .ok (.iload_n 2, 1) := by decide +kernel
theorem dX6_checkedCells_5 : decode cX6_checkedCells 5 = .ok (.bipush 8, 2) := by decide +kernel
theorem dX6_checkedCells_7 : decode cX6_checkedCells 7 = .ok (.if_icmp .ge 21, 3) := by decide +kernel
theorem dX6_checkedCells_10 : decode cX6_checkedCells 10 = .ok (.aload_n 0, 1) := by decide +kernel
theorem dX6_checkedCells_11 : decode cX6_checkedCells 11 = .ok (.getfield 20, 3) := by decide +kernel
theorem dX6_checkedCells_14 : decode cX6_checkedCells 14 = .ok (.iload_n 2, 1) := by decide +kernel
theorem dX6_checkedCells_15 : decode cX6_checkedCells 15 = .ok (.iaload, 1) := by decide +kernel
theorem dX6_checkedCells_16 : decode cX6_checkedCells 16 = .ok (.ifCond .eq 6, 3) := by decide +kernel
theorem dX6_checkedCells_19 : decode cX6_checkedCells 19 = .ok (.iinc 1 1, 3) := by decide +kernel
theorem dX6_checkedCells_22 : decode cX6_checkedCells 22 = .ok (.iinc 2 1, 3) := by decide +kernel
theorem dX6_checkedCells_25 : decode cX6_checkedCells 25 = .ok (.goto (-21), 3) := by decide +kernel
theorem dX6_checkedCells_28 : decode cX6_checkedCells 28 = .ok (.iload_n 1, 1) := by decide +kernel
theorem dX6_checkedCells_29 : decode cX6_checkedCells 29 = .ok (.ireturn, 1) := by decide +kernel
theorem dX6_priceOf_0 : decode cX6_priceOf 0 = .ok (.iconst 0, 1) := by decide +kernel
theorem dX6_priceOf_1 : decode cX6_priceOf 1 = .ok (.istore_n 1, 1) := by decide +kernel
theorem dX6_priceOf_2 : decode cX6_priceOf 2 = .ok (.iconst 0, 1) := by decide +kernel
theorem dX6_priceOf_3 : decode cX6_priceOf 3 = .ok (.istore_n 2, 1) := by decide +kernel
theorem dX6_priceOf_4 : decode cX6_priceOf 4 = .ok (.iload_n 2, 1) := by decide +kernel
theorem dX6_priceOf_5 : decode cX6_priceOf 5 = .ok (.bipush 8, 2) := by decide +kernel
theorem dX6_priceOf_7 : decode cX6_priceOf 7 = .ok (.if_icmp .ge 19, 3) := by decide +kernel
theorem dX6_priceOf_10 : decode cX6_priceOf 10 = .ok (.iload_n 1, 1) := by decide +kernel
theorem dX6_priceOf_11 : decode cX6_priceOf 11 = .ok (.getstatic 203, 3) := by decide +kernel
theorem dX6_priceOf_14 : decode cX6_priceOf 14 = .ok (.aload_n 0, 1) := by decide +kernel
theorem dX6_priceOf_15 : decode cX6_priceOf 15 = .ok (.iload_n 2, 1) := by decide +kernel
theorem dX6_priceOf_16 : decode cX6_priceOf 16 = .ok (.iaload, 1) := by decide +kernel
theorem dX6_priceOf_17 : decode cX6_priceOf 17 = .ok (.iaload, 1) := by decide +kernel
theorem dX6_priceOf_18 : decode cX6_priceOf 18 = .ok (.iadd, 1) := by decide +kernel
theorem dX6_priceOf_19 : decode cX6_priceOf 19 = .ok (.istore_n 1, 1) := by decide +kernel
theorem dX6_priceOf_20 : decode cX6_priceOf 20 = .ok (.iinc 2 1, 3) := by decide +kernel
theorem dX6_priceOf_23 : decode cX6_priceOf 23 = .ok (.goto (-19), 3) := by decide +kernel
theorem dX6_priceOf_26 : decode cX6_priceOf 26 = .ok (.iload_n 1, 1) := by decide +kernel
theorem dX6_priceOf_27 : decode cX6_priceOf 27 = .ok (.ireturn, 1) := by decide +kernel
theorem dX6_isCell_0 : decode cX6_isCell 0 = .ok (.iload_n 0, 1) := by decide +kernel
theorem dX6_isCell_1 : decode cX6_isCell 1 = .ok (.ifCond .lt 13, 3) := by decide +kernel
theorem dX6_isCell_4 : decode cX6_isCell 4 = .ok (.iload_n 0, 1) := by decide +kernel
theorem dX6_isCell_5 : decode cX6_isCell 5 = .ok (.bipush 8, 2) := by decide +kernel
theorem dX6_isCell_7 : decode cX6_isCell 7 = .ok (.if_icmp .ge 7, 3) := by decide +kernel
theorem dX6_isCell_10 : decode cX6_isCell 10 = .ok (.iconst 1, 1) := by decide +kernel
theorem dX6_isCell_11 : decode cX6_isCell 11 = .ok (.goto 4, 3) := by decide +kernel
theorem dX6_isCell_14 : decode cX6_isCell 14 = .ok (.iconst 0, 1) := by decide +kernel
theorem dX6_isCell_15 : decode cX6_isCell 15 = .ok (.ireturn, 1) := by decide +kernel
theorem dX6_isWidth_0 : decode cX6_isWidth 0 = .ok (.iload_n 0, 1) := by decide +kernel
theorem dX6_isWidth_1 : decode cX6_isWidth 1 = .ok (.iconst 1, 1) := by decide +kernel
theorem dX6_isWidth_2 : decode cX6_isWidth 2 = .ok (.if_icmp .eq 8, 3) := by decide +kernel
theorem dX6_isWidth_5 : decode cX6_isWidth 5 = .ok (.iload_n 0, 1) := by decide +kernel
theorem dX6_isWidth_6 : decode cX6_isWidth 6 = .ok (.iconst 2, 1) := by decide +kernel
theorem dX6_isWidth_7 : decode cX6_isWidth 7 = .ok (.if_icmp .ne 7, 3) := by decide +kernel
theorem dX6_isWidth_10 : decode cX6_isWidth 10 = .ok (.iconst 1, 1) := by decide +kernel
theorem dX6_isWidth_11 : decode cX6_isWidth 11 = .ok (.goto 4, 3) := by decide +kernel
theorem dX6_isWidth_14 : decode cX6_isWidth 14 = .ok (.iconst 0, 1) := by decide +kernel
theorem dX6_isWidth_15 : decode cX6_isWidth 15 = .ok (.ireturn, 1) := by decide +kernel
theorem dX7_init_0 : decode cX7_init 0 = .ok (.aload_n 0, 1) := by decide +kernel
theorem dX7_init_1 : decode cX7_init 1 = .ok (.invokespecial 1, 3) := by decide +kernel
theorem dX7_init_4 : decode cX7_init 4 = .ok (.aload_n 0, 1) := by decide +kernel
theorem dX7_init_5 : decode cX7_init 5 = .ok (.bipush 20, 2) := by decide +kernel
theorem dX7_init_7 : decode cX7_init 7 = .ok (.newarray .int, 2) := by decide +kernel
theorem dX7_init_9 : decode cX7_init 9 = .ok (.putfield 7, 3) := by decide +kernel
theorem dX7_init_12 : decode cX7_init 12 = .ok (.aload_n 0, 1) := by decide +kernel
theorem dX7_init_13 : decode cX7_init 13 = .ok (.bipush 20, 2) := by decide +kernel
theorem dX7_init_15 : decode cX7_init 15 = .ok (.newarray .int, 2) := by decide +kernel
theorem dX7_init_17 : decode cX7_init 17 = .ok (.putfield 13, 3) := by decide +kernel
theorem dX7_init_20 : decode cX7_init 20 = .ok (.aload_n 0, 1) := by decide +kernel
theorem dX7_init_21 : decode cX7_init 21 = .ok (.bipush 20, 2) := by decide +kernel
theorem dX7_init_23 : decode cX7_init 23 = .ok (.newarray .int, 2) := by decide +kernel
theorem dX7_init_25 : decode cX7_init 25 = .ok (.putfield 16, 3) := by decide +kernel
theorem dX7_init_28 : decode cX7_init 28 = .ok (.aload_n 0, 1) := by decide +kernel
theorem dX7_init_29 : decode cX7_init 29 = .ok (.bipush 8, 2) := by decide +kernel
theorem dX7_init_31 : decode cX7_init 31 = .ok (.newarray .int, 2) := by decide +kernel
theorem dX7_init_33 : decode cX7_init 33 = .ok (.putfield 19, 3) := by decide +kernel
theorem dX7_init_36 : decode cX7_init 36 = .ok (.aload_n 0, 1) := by decide +kernel
theorem dX7_init_37 : decode cX7_init 37 = .ok (.bipush 8, 2) := by decide +kernel
theorem dX7_init_39 : decode cX7_init 39 = .ok (.newarray .int, 2) := by decide +kernel
theorem dX7_init_41 : decode cX7_init 41 = .ok (.putfield 22, 3) := by decide +kernel
theorem dX7_init_44 : decode cX7_init 44 = .ok (.aload_n 0, 1) := by decide +kernel
theorem dX7_init_45 : decode cX7_init 45 = .ok (.bipush 8, 2) := by decide +kernel
theorem dX7_init_47 : decode cX7_init 47 = .ok (.newarray .int, 2) := by decide +kernel
theorem dX7_init_49 : decode cX7_init 49 = .ok (.putfield 25, 3) := by decide +kernel
theorem dX7_init_52 : decode cX7_init 52 = .ok (.aload_n 0, 1) := by decide +kernel
theorem dX7_init_53 : decode cX7_init 53 = .ok (.bipush 8, 2) := by decide +kernel
theorem dX7_init_55 : decode cX7_init 55 = .ok (.newarray .int, 2) := by decide +kernel
theorem dX7_init_57 : decode cX7_init 57 = .ok (.putfield 28, 3) := by decide +kernel
theorem dX7_init_60 : decode cX7_init 60 = .ok (.aload_n 0, 1) := by decide +kernel
theorem dX7_init_61 : decode cX7_init 61 = .ok (.bipush 12, 2) := by decide +kernel
theorem dX7_init_63 : decode cX7_init 63 = .ok (.newarray .int, 2) := by decide +kernel
theorem dX7_init_65 : decode cX7_init 65 = .ok (.putfield 31, 3) := by decide +kernel
theorem dX7_init_68 : decode cX7_init 68 = .ok (.aload_n 0, 1) := by decide +kernel
theorem dX7_init_69 : decode cX7_init 69 = .ok (.bipush 12, 2) := by decide +kernel
theorem dX7_init_71 : decode cX7_init 71 = .ok (.newarray .int, 2) := by decide +kernel
theorem dX7_init_73 : decode cX7_init 73 = .ok (.putfield 34, 3) := by decide +kernel
theorem dX7_init_76 : decode cX7_init 76 = .ok (.aload_n 0, 1) := by decide +kernel
theorem dX7_init_77 : decode cX7_init 77 = .ok (.sipush 6400, 3) := by decide +kernel
theorem dX7_init_80 : decode cX7_init 80 = .ok (.newarray .int, 2) := by decide +kernel
theorem dX7_init_82 : decode cX7_init 82 = .ok (.putfield 37, 3) := by decide +kernel
theorem dX7_init_85 : decode cX7_init 85 = .ok (.aload_n 0, 1) := by decide +kernel
theorem dX7_init_86 : decode cX7_init 86 = .ok (.bipush 32, 2) := by decide +kernel
theorem dX7_init_88 : decode cX7_init 88 = .ok (.newarray .int, 2) := by decide +kernel
theorem dX7_init_90 : decode cX7_init 90 = .ok (.putfield 40, 3) := by decide +kernel
theorem dX7_init_93 : decode cX7_init 93 = .ok (.return_, 1) := by decide +kernel
theorem dX7_in_0 : decode cX7_in 0 = .ok (.iload_n 0, 1) := by decide +kernel
theorem dX7_in_1 : decode cX7_in 1 = .ok (.iload_n 1, 1) := by decide +kernel
theorem dX7_in_2 : decode cX7_in 2 = .ok (.if_icmp .lt 12, 3) := by decide +kernel
theorem dX7_in_5 : decode cX7_in 5 = .ok (.iload_n 0, 1) := by decide +kernel
theorem dX7_in_6 : decode cX7_in 6 = .ok (.iload_n 2, 1) := by decide +kernel
theorem dX7_in_7 : decode cX7_in 7 = .ok (.if_icmp .gt 7, 3) := by decide +kernel
theorem dX7_in_10 : decode cX7_in 10 = .ok (.iconst 1, 1) := by decide +kernel
theorem dX7_in_11 : decode cX7_in 11 = .ok (.goto 4, 3) := by decide +kernel
theorem dX7_in_14 : decode cX7_in 14 = .ok (.iconst 0, 1) := by decide +kernel
theorem dX7_in_15 : decode cX7_in 15 = .ok (.ireturn, 1) := by decide +kernel
set_option maxRecDepth 20000 in
theorem ggX7_isCell_X7_in : GoodIn wsX7_isCell wsX7_in := goodIn_r _ [4] (by decide +kernel) (by decide +kernel)
set_option maxRecDepth 20000 in
theorem gX7_isCell_X7_in : GoodIn wsX7_isCell (va_wsS RX7 43 yX7_in wsX7_in) := goodIn_app (goodIn_of _ (by decide +kernel)) ggX7_isCell_X7_in
theorem dX7_isCell_0 : decode cX7_isCell 0 = .ok (.iload_n 0, 1) := by decide +kernel
theorem dX7_isCell_1 : decode cX7_isCell 1 = .ok (.iconst 0, 1) := by decide +kernel
theorem dX7_isCell_2 : decode cX7_isCell 2 = .ok (.bipush 7, 2) := by decide +kernel
theorem dX7_isCell_4 : decode cX7_isCell 4 = .ok (.invokestatic 43, 3) := by decide +kernel
theorem dX7_isCell_7 : decode cX7_isCell 7 = .ok (.ireturn, 1) := by decide +kernel
theorem dX7_takesCell_0 : decode cX7_takesCell 0 = .ok (.iload_n 0, 1) := by decide +kernel
theorem dX7_takesCell_1 : decode cX7_takesCell 1 = .ok (.bipush 6, 2) := by decide +kernel
theorem dX7_takesCell_3 : decode cX7_takesCell 3 = .ok (.if_icmp .eq 13, 3) := by decide +kernel
theorem dX7_takesCell_6 : decode cX7_takesCell 6 = .ok (.iload_n 0, 1) := by decide +kernel
theorem dX7_takesCell_7 : decode cX7_takesCell 7 = .ok (.bipush 11, 2) := by decide +kernel
theorem dX7_takesCell_9 : decode cX7_takesCell 9 = .ok (.if_icmp .eq 7, 3) := by decide +kernel
theorem dX7_takesCell_12 : decode cX7_takesCell 12 = .ok (.iconst 1, 1) := by decide +kernel
theorem dX7_takesCell_13 : decode cX7_takesCell 13 = .ok (.goto 4, 3) := by decide +kernel
theorem dX7_takesCell_16 : decode cX7_takesCell 16 = .ok (.iconst 0, 1) := by decide +kernel
theorem dX7_takesCell_17 : decode cX7_takesCell 17 = .ok (.ireturn, 1) := by decide +kernel
set_option maxRecDepth 20000 in
theorem ggX7_takesOther_X7_in : GoodIn wsX7_takesOther wsX7_in := goodIn_r _ [4] (by decide +kernel) (by decide +kernel)
set_option maxRecDepth 20000 in
theorem gX7_takesOther_X7_in : GoodIn wsX7_takesOther (va_wsS RX7 43 yX7_in wsX7_in) := goodIn_app (goodIn_of _ (by decide +kernel)) ggX7_takesOther_X7_in
theorem dX7_takesOther_0 : decode cX7_takesOther 0 = .ok (.iload_n 0, 1) := by decide +kernel
theorem dX7_takesOther_1 : decode cX7_takesOther 1 = .ok (.iconst 1, 1) := by decide +kernel
theorem dX7_takesOther_2 : decode cX7_takesOther 2 = .ok (.iconst 4, 1) := by decide +kernel
theorem dX7_takesOther_3 : decode cX7_takesOther 3 = .ok (.invokestatic 43, 3) := by decide +kernel
theorem dX7_takesOther_6 : decode cX7_takesOther 6 = .ok (.ifCond .ne 15, 3) := by decide +kernel
theorem dX7_takesOther_9 : decode cX7_takesOther 9 = .ok (.iload_n 0, 1) := by decide +kernel
theorem dX7_takesOther_10 : decode cX7_takesOther 10 = .ok (.bipush 9, 2) := by decide +kernel
theorem dX7_takesOther_12 : decode cX7_takesOther 12 = .ok (.if_icmp .eq 9, 3) := by decide +kernel
theorem dX7_takesOther_15 : decode cX7_takesOther 15 = .ok (.iload_n 0, 1) := by decide +kernel
theorem dX7_takesOther_16 : decode cX7_takesOther 16 = .ok (.bipush 10, 2) := by decide +kernel
theorem dX7_takesOther_18 : decode cX7_takesOther 18 = .ok (.if_icmp .ne 7, 3) := by decide +kernel
theorem dX7_takesOther_21 : decode cX7_takesOther 21 = .ok (.iconst 1, 1) := by decide +kernel
theorem dX7_takesOther_22 : decode cX7_takesOther 22 = .ok (.goto 4, 3) := by decide +kernel
theorem dX7_takesOther_25 : decode cX7_takesOther 25 = .ok (.iconst 0, 1) := by decide +kernel
theorem dX7_takesOther_26 : decode cX7_takesOther 26 = .ok (.ireturn, 1) := by decide +kernel
set_option maxRecDepth 20000 in
theorem ggX7_isOrder_X7_in : GoodIn wsX7_isOrder wsX7_in := goodIn_r _ [4] (by decide +kernel) (by decide +kernel)
set_option maxRecDepth 20000 in
theorem gX7_isOrder_X7_in : GoodIn wsX7_isOrder (va_wsS RX7 43 yX7_in wsX7_in) := goodIn_app (goodIn_of _ (by decide +kernel)) ggX7_isOrder_X7_in
set_option maxRecDepth 20000 in
theorem ggX7_isOrder_X7_takesCell : GoodIn wsX7_isOrder wsX7_takesCell := goodIn_r _ [7] (by decide +kernel) (by decide +kernel)
set_option maxRecDepth 20000 in
theorem gX7_isOrder_X7_takesCell : GoodIn wsX7_isOrder (va_wsS RX7 47 yX7_takesCell wsX7_takesCell) := goodIn_app (goodIn_of _ (by decide +kernel)) ggX7_isOrder_X7_takesCell
set_option maxRecDepth 20000 in
theorem ggX7_isOrder_X7_isCell : GoodIn wsX7_isOrder wsX7_isCell := goodIn_r _ [10, 1, 2, 3, 4] (by decide +kernel) (by decide +kernel)
set_option maxRecDepth 20000 in
theorem gX7_isOrder_X7_isCell : GoodIn wsX7_isOrder (va_wsS RX7 51 yX7_isCell wsX7_isCell) := goodIn_app (goodIn_of _ (by decide +kernel)) ggX7_isOrder_X7_isCell
set_option maxRecDepth 20000 in
theorem ggX7_isOrder_X7_takesOther : GoodIn wsX7_isOrder wsX7_takesOther := goodIn_r _ [13, 1, 2, 3, 4] (by decide +kernel) (by decide +kernel)
set_option maxRecDepth 20000 in
theorem gX7_isOrder_X7_takesOther : GoodIn wsX7_isOrder (va_wsS RX7 54 yX7_takesOther wsX7_takesOther) := goodIn_app (goodIn_of _ (by decide +kernel)) ggX7_isOrder_X7_takesOther
theorem dX7_isOrder_0 : decode cX7_isOrder 0 = .ok (.iload_n 0, 1) := by decide +kernel
theorem dX7_isOrder_1 : decode cX7_isOrder 1 = .ok (.iconst 0, 1) := by decide +kernel
theorem dX7_isOrder_2 : decode cX7_isOrder 2 = .ok (.bipush 11, 2) := by decide +kernel
theorem dX7_isOrder_4 : decode cX7_isOrder 4 = .ok (.invokestatic 43, 3) := by decide +kernel
theorem dX7_isOrder_7 : decode cX7_isOrder 7 = .ok (.ifCond .eq 31, 3) := by decide +kernel
theorem dX7_isOrder_10 : decode cX7_isOrder 10 = .ok (.iload_n 0, 1) := by decide +kernel
theorem dX7_isOrder_11 : decode cX7_isOrder 11 = .ok (.invokestatic 47, 3) := by decide +kernel
theorem dX7_isOrder_14 : decode cX7_isOrder 14 = .ok (.ifCond .eq 10, 3) := by decide +kernel
theorem dX7_isOrder_17 : decode cX7_isOrder 17 = .ok (.iload_n 1, 1) := by decide +kernel
theorem dX7_isOrder_18 : decode cX7_isOrder 18 = .ok (.invokestatic 51, 3) := by decide +kernel
theorem dX7_isOrder_21 : decode cX7_isOrder 21 = .ok (.ifCond .eq 17, 3) := by decide +kernel
theorem dX7_isOrder_24 : decode cX7_isOrder 24 = .ok (.iload_n 0, 1) := by decide +kernel
theorem dX7_isOrder_25 : decode cX7_isOrder 25 = .ok (.invokestatic 54, 3) := by decide +kernel
theorem dX7_isOrder_28 : decode cX7_isOrder 28 = .ok (.ifCond .eq 12, 3) := by decide +kernel
theorem dX7_isOrder_31 : decode cX7_isOrder 31 = .ok (.iload_n 2, 1) := by decide +kernel
theorem dX7_isOrder_32 : decode cX7_isOrder 32 = .ok (.invokestatic 51, 3) := by decide +kernel
theorem dX7_isOrder_35 : decode cX7_isOrder 35 = .ok (.ifCond .ne 5, 3) := by decide +kernel
theorem dX7_isOrder_38 : decode cX7_isOrder 38 = .ok (.iconst 0, 1) := by decide +kernel
theorem dX7_isOrder_39 : decode cX7_isOrder 39 = .ok (.ireturn, 1) := by decide +kernel
theorem dX7_isOrder_40 : decode cX7_isOrder 40 = .ok (.iload_n 0, 1) := by decide +kernel
theorem dX7_isOrder_41 : decode cX7_isOrder 41 = .ok (.ifCond .ne 14, 3) := by decide +kernel
theorem dX7_isOrder_44 : decode cX7_isOrder 44 = .ok (.iload_n 2, 1) := by decide +kernel
theorem dX7_isOrder_45 : decode cX7_isOrder 45 = .ok (.iconst 0, 1) := by decide +kernel
theorem dX7_isOrder_46 : decode cX7_isOrder 46 = .ok (.sipush 255, 3) := by decide +kernel
theorem dX7_isOrder_49 : decode cX7_isOrder 49 = .ok (.invokestatic 43, 3) := by decide +kernel
theorem dX7_isOrder_52 : decode cX7_isOrder 52 = .ok (.ifCond .eq 39, 3) := by decide +kernel
theorem dX7_isOrder_55 : decode cX7_isOrder 55 = .ok (.iload_n 0, 1) := by decide +kernel
theorem dX7_isOrder_56 : decode cX7_isOrder 56 = .ok (.bipush 6, 2) := by decide +kernel
theorem dX7_isOrder_58 : decode cX7_isOrder 58 = .ok (.if_icmp .ne 13, 3) := by decide +kernel
theorem dX7_isOrder_61 : decode cX7_isOrder 61 = .ok (.iload_n 1, 1) := by decide +kernel
theorem dX7_isOrder_62 : decode cX7_isOrder 62 = .ok (.iconst 0, 1) := by decide +kernel
theorem dX7_isOrder_63 : decode cX7_isOrder 63 = .ok (.bipush 19, 2) := by decide +kernel
theorem dX7_isOrder_65 : decode cX7_isOrder 65 = .ok (.invokestatic 43, 3) := by decide +kernel
theorem dX7_isOrder_68 : decode cX7_isOrder 68 = .ok (.ifCond .eq 23, 3) := by decide +kernel
theorem dX7_isOrder_71 : decode cX7_isOrder 71 = .ok (.iload_n 0, 1) := by decide +kernel
theorem dX7_isOrder_72 : decode cX7_isOrder 72 = .ok (.bipush 7, 2) := by decide +kernel
theorem dX7_isOrder_74 : decode cX7_isOrder 74 = .ok (.if_icmp .ne 13, 3) := by decide +kernel
theorem dX7_isOrder_77 : decode cX7_isOrder 77 = .ok (.iload_n 2, 1) := by decide +kernel
theorem dX7_isOrder_78 : decode cX7_isOrder 78 = .ok (.iconst 0, 1) := by decide +kernel
theorem dX7_isOrder_79 : decode cX7_isOrder 79 = .ok (.bipush 19, 2) := by decide +kernel
theorem dX7_isOrder_81 : decode cX7_isOrder 81 = .ok (.invokestatic 43, 3) := by decide +kernel
theorem dX7_isOrder_84 : decode cX7_isOrder 84 = .ok (.ifCond .eq 7, 3) := by decide +kernel
theorem dX7_isOrder_87 : decode cX7_isOrder 87 = .ok (.iconst 1, 1) := by decide +kernel
theorem dX7_isOrder_88 : decode cX7_isOrder 88 = .ok (.goto 4, 3) := by decide +kernel
theorem dX7_isOrder_91 : decode cX7_isOrder 91 = .ok (.iconst 0, 1) := by decide +kernel
theorem dX7_isOrder_92 : decode cX7_isOrder 92 = .ok (.ireturn, 1) := by decide +kernel
set_option maxRecDepth 20000 in
theorem ggX7_set_X7_takesOther : GoodIn wsX7_set wsX7_takesOther := goodIn_r _ [7, 8, 9, 6, 10] (by decide +kernel) (by decide +kernel)
set_option maxRecDepth 20000 in
theorem gX7_set_X7_takesOther : GoodIn wsX7_set (va_wsS RX7 54 yX7_takesOther wsX7_takesOther) := goodIn_app (goodIn_of _ (by decide +kernel)) ggX7_set_X7_takesOther
theorem dX7_set_0 : decode cX7_set 0 = .ok (.aload_n 0, 1) := by decide +kernel
theorem dX7_set_1 : decode cX7_set 1 = .ok (.getfield 7, 3) := by decide +kernel
theorem dX7_set_4 : decode cX7_set 4 = .ok (.iload_n 1, 1) := by decide +kernel
theorem dX7_set_5 : decode cX7_set 5 = .ok (.iload_n 2, 1) := by decide +kernel
theorem dX7_set_6 : decode cX7_set 6 = .ok (.iastore, 1) := by decide +kernel
theorem dX7_set_7 : decode cX7_set 7 = .ok (.aload_n 0, 1) := by decide +kernel
theorem dX7_set_8 : decode cX7_set 8 = .ok (.getfield 13, 3) := by decide +kernel
theorem dX7_set_11 : decode cX7_set 11 = .ok (.iload_n 1, 1) := by decide +kernel
theorem dX7_set_12 : decode cX7_set 12 = .ok (.iload_n 2, 1) := by decide +kernel
theorem dX7_set_13 : decode cX7_set 13 = .ok (.bipush 11, 2) := by decide +kernel
theorem dX7_set_15 : decode cX7_set 15 = .ok (.if_icmp .ne 7, 3) := by decide +kernel
theorem dX7_set_18 : decode cX7_set 18 = .ok (.iconst 0, 1) := by decide +kernel
theorem dX7_set_19 : decode cX7_set 19 = .ok (.goto 4, 3) := by decide +kernel
theorem dX7_set_22 : decode cX7_set 22 = .ok (.iload_n 3, 1) := by decide +kernel
theorem dX7_set_23 : decode cX7_set 23 = .ok (.iastore, 1) := by decide +kernel
theorem dX7_set_24 : decode cX7_set 24 = .ok (.aload_n 0, 1) := by decide +kernel
theorem dX7_set_25 : decode cX7_set 25 = .ok (.getfield 16, 3) := by decide +kernel
theorem dX7_set_28 : decode cX7_set 28 = .ok (.iload_n 1, 1) := by decide +kernel
theorem dX7_set_29 : decode cX7_set 29 = .ok (.iload_n 2, 1) := by decide +kernel
theorem dX7_set_30 : decode cX7_set 30 = .ok (.ifCond .eq 16, 3) := by decide +kernel
theorem dX7_set_33 : decode cX7_set 33 = .ok (.iload_n 2, 1) := by decide +kernel
theorem dX7_set_34 : decode cX7_set 34 = .ok (.bipush 7, 2) := by decide +kernel
theorem dX7_set_36 : decode cX7_set 36 = .ok (.if_icmp .eq 10, 3) := by decide +kernel
theorem dX7_set_39 : decode cX7_set 39 = .ok (.iload_n 2, 1) := by decide +kernel
theorem dX7_set_40 : decode cX7_set 40 = .ok (.invokestatic 54, 3) := by decide +kernel
theorem dX7_set_43 : decode cX7_set 43 = .ok (.ifCond .eq 8, 3) := by decide +kernel
theorem dX7_set_46 : decode cX7_set 46 = .ok (.iload 4, 2) := by decide +kernel
theorem dX7_set_48 : decode cX7_set 48 = .ok (.goto 4, 3) := by decide +kernel
theorem dX7_set_51 : decode cX7_set 51 = .ok (.iconst 0, 1) := by decide +kernel
theorem dX7_set_52 : decode cX7_set 52 = .ok (.iastore, 1) := by decide +kernel
theorem dX7_set_53 : decode cX7_set 53 = .ok (.return_, 1) := by decide +kernel
set_option maxRecDepth 20000 in
theorem ggX7_order_X7_isOrder : GoodIn wsX7_order wsX7_isOrder := goodIn_r _ [5, 6, 7, 4, 8, 9, 10, 11, 12, 13, 14, 15, 16, 17] (by decide +kernel) (by decide +kernel)
set_option maxRecDepth 20000 in
theorem gX7_order_X7_isOrder : GoodIn wsX7_order (va_wsS RX7 57 yX7_isOrder wsX7_isOrder) := goodIn_app (goodIn_of _ (by decide +kernel)) ggX7_order_X7_isOrder
set_option maxRecDepth 20000 in
theorem ggX7_order_X7_set : GoodIn wsX7_order wsX7_set := goodIn_r _ [21, 22, 23, 24, 15, 16, 4, 17, 6, 7, 8, 25, 26, 27, 28, 29, 30, 31, 32, 33, 34, 35, 36, 37, 38, 39, 40, 41, 42, 43, 44, 45, 46, 47, 48, 49, 50, 51, 52, 53, 54] (by decide +kernel) (by decide +kernel)
set_option maxRecDepth 20000 in
theorem gX7_order_X7_set : GoodIn wsX7_order (wsV RX7 64 RX7 yX7_set wsX7_set) := goodIn_app (goodIn_of _ (by decide +kernel)) ggX7_order_X7_set
theorem dX7_order_0 : decode cX7_order 0 = .ok (.iload_n 1, 1) := by decide +kernel
theorem dX7_order_1 : decode cX7_order 1 = .ok (.iload_n 2, 1) := by decide +kernel
theorem dX7_order_2 : decode cX7_order 2 = .ok (.iload_n 3, 1) := by decide +kernel
theorem dX7_order_3 : decode cX7_order 3 = .ok (.invokestatic 57, 3) := by decide +kernel
theorem dX7_order_6 : decode cX7_order 6 = .ok (.ifCond .ne 6, 3) := by decide +kernel
theorem dX7_order_9 : decode cX7_order 9 = .ok (.bipush (-102), 2) := by decide +kernel
theorem dX7_order_11 : decode cX7_order 11 = .ok (.ireturn, 1) := by decide +kernel
theorem dX7_order_12 : decode cX7_order 12 = .ok (.aload_n 0, 1) := by decide +kernel
theorem dX7_order_13 : decode cX7_order 13 = .ok (.getfield 60, 3) := by decide +kernel
theorem dX7_order_16 : decode cX7_order 16 = .ok (.bipush 20, 2) := by decide +kernel
theorem dX7_order_18 : decode cX7_order 18 = .ok (.if_icmp .ne 6, 3) := by decide +kernel
theorem dX7_order_21 : decode cX7_order 21 = .ok (.bipush (-104), 2) := by decide +kernel
theorem dX7_order_23 : decode cX7_order 23 = .ok (.ireturn, 1) := by decide +kernel
theorem dX7_order_24 : decode cX7_order 24 = .ok (.aload_n 0, 1) := by decide +kernel
theorem dX7_order_25 : decode cX7_order 25 = .ok (.aload_n 0, 1) := by decide +kernel
theorem dX7_order_26 : decode cX7_order 26 = .ok (.getfield 60, 3) := by decide +kernel
theorem dX7_order_29 : decode cX7_order 29 = .ok (.iload_n 1, 1) := by decide +kernel
theorem dX7_order_30 : decode cX7_order 30 = .ok (.iload_n 2, 1) := by decide +kernel
theorem dX7_order_31 : decode cX7_order 31 = .ok (.iload_n 3, 1) := by decide +kernel
theorem dX7_order_32 : decode cX7_order 32 = .ok (.invokevirtual 64, 3) := by decide +kernel
theorem dX7_order_35 : decode cX7_order 35 = .ok (.aload_n 0, 1) := by decide +kernel
theorem dX7_order_36 : decode cX7_order 36 = .ok (.dup, 1) := by decide +kernel
theorem dX7_order_37 : decode cX7_order 37 = .ok (.getfield 60, 3) := by decide +kernel
theorem dX7_order_40 : decode cX7_order 40 = .ok (.iconst 1, 1) := by decide +kernel
theorem dX7_order_41 : decode cX7_order 41 = .ok (.iadd, 1) := by decide +kernel
theorem dX7_order_42 : decode cX7_order 42 = .ok (.putfield 60, 3) := by decide +kernel
theorem dX7_order_45 : decode cX7_order 45 = .ok (.aload_n 0, 1) := by decide +kernel
theorem dX7_order_46 : decode cX7_order 46 = .ok (.getfield 60, 3) := by decide +kernel
theorem dX7_order_49 : decode cX7_order 49 = .ok (.ireturn, 1) := by decide +kernel
set_option maxRecDepth 20000 in
theorem ggX7_change_X7_in : GoodIn wsX7_change wsX7_in := goodIn_r _ [5] (by decide +kernel) (by decide +kernel)
set_option maxRecDepth 20000 in
theorem gX7_change_X7_in : GoodIn wsX7_change (va_wsS RX7 43 yX7_in wsX7_in) := goodIn_app (goodIn_of _ (by decide +kernel)) ggX7_change_X7_in
set_option maxRecDepth 20000 in
theorem ggX7_change_X7_isOrder : GoodIn wsX7_change wsX7_isOrder := goodIn_r _ [8, 2, 3, 4, 5, 9, 10, 11, 12, 13, 14, 15, 16, 17] (by decide +kernel) (by decide +kernel)
set_option maxRecDepth 20000 in
theorem gX7_change_X7_isOrder : GoodIn wsX7_change (va_wsS RX7 57 yX7_isOrder wsX7_isOrder) := goodIn_app (goodIn_of _ (by decide +kernel)) ggX7_change_X7_isOrder
set_option maxRecDepth 20000 in
theorem ggX7_change_X7_set : GoodIn wsX7_change wsX7_set := goodIn_r _ [21, 22, 23, 24, 15, 16, 4, 17, 2, 3, 5, 25, 26, 27, 28, 29, 30, 31, 32, 33, 34, 35, 36, 37, 38, 39, 40, 41, 42, 43, 44, 45, 46, 47, 48, 49, 50, 51, 52, 53, 54] (by decide +kernel) (by decide +kernel)
set_option maxRecDepth 20000 in
theorem gX7_change_X7_set : GoodIn wsX7_change (wsV RX7 64 RX7 yX7_set wsX7_set) := goodIn_app (goodIn_of _ (by decide +kernel)) ggX7_change_X7_set
theorem dX7_change_0 : decode cX7_change 0 = .ok (.iload_n 1, 1) := by decide +kernel
theorem dX7_change_1 : decode cX7_change 1 = .ok (.iconst 0, 1) := by decide +kernel
theorem dX7_change_2 : decode cX7_change 2 = .ok (.aload_n 0, 1) := by decide +kernel
theorem dX7_change_3 : decode cX7_change 3 = .ok (.getfield 60, 3) := by decide +kernel
theorem dX7_change_6 : decode cX7_change 6 = .ok (.iconst 1, 1) := by decide +kernel
theorem dX7_change_7 : decode cX7_change 7 = .ok (.isub, 1) := by decide +kernel
theorem dX7_change_8 : decode cX7_change 8 = .ok (.invokestatic 43, 3) := by decide +kernel
theorem dX7_change_11 : decode cX7_change 11 = .ok (.ifCond .ne 6, 3) := by decide +kernel
theorem dX7_change_14 : decode cX7_change 14 = .ok (.bipush (-101), 2) := by decide +kernel
theorem dX7_change_16 : decode cX7_change 16 = .ok (.ireturn, 1) := by decide +kernel
theorem dX7_change_17 : decode cX7_change 17 = .ok (.iload_n 2, 1) := by decide +kernel
theorem dX7_change_18 : decode cX7_change 18 = .ok (.iload_n 3, 1) := by decide +kernel
theorem dX7_change_19 : decode cX7_change 19 = .ok (.iload 4, 2) := by decide +kernel
theorem dX7_change_21 : decode cX7_change 21 = .ok (.invokestatic 57, 3) := by decide +kernel
theorem dX7_change_24 : decode cX7_change 24 = .ok (.ifCond .ne 6, 3) := by decide +kernel
theorem dX7_change_27 : decode cX7_change 27 = .ok (.bipush (-102), 2) := by decide +kernel
theorem dX7_change_29 : decode cX7_change 29 = .ok (.ireturn, 1) := by decide +kernel
theorem dX7_change_30 : decode cX7_change 30 = .ok (.aload_n 0, 1) := by decide +kernel
theorem dX7_change_31 : decode cX7_change 31 = .ok (.iload_n 1, 1) := by decide +kernel
theorem dX7_change_32 : decode cX7_change 32 = .ok (.iload_n 2, 1) := by decide +kernel
theorem dX7_change_33 : decode cX7_change 33 = .ok (.iload_n 3, 1) := by decide +kernel
theorem dX7_change_34 : decode cX7_change 34 = .ok (.iload 4, 2) := by decide +kernel
theorem dX7_change_36 : decode cX7_change 36 = .ok (.invokevirtual 64, 3) := by decide +kernel
theorem dX7_change_39 : decode cX7_change 39 = .ok (.iconst 1, 1) := by decide +kernel
theorem dX7_change_40 : decode cX7_change 40 = .ok (.ireturn, 1) := by decide +kernel
theorem dX7_clear_0 : decode cX7_clear 0 = .ok (.aload_n 0, 1) := by decide +kernel
theorem dX7_clear_1 : decode cX7_clear 1 = .ok (.getfield 60, 3) := by decide +kernel
theorem dX7_clear_4 : decode cX7_clear 4 = .ok (.istore_n 1, 1) := by decide +kernel
theorem dX7_clear_5 : decode cX7_clear 5 = .ok (.aload_n 0, 1) := by decide +kernel
theorem dX7_clear_6 : decode cX7_clear 6 = .ok (.iconst 0, 1) := by decide +kernel
theorem dX7_clear_7 : decode cX7_clear 7 = .ok (.putfield 60, 3) := by decide +kernel
theorem dX7_clear_10 : decode cX7_clear 10 = .ok (.iload_n 1, 1) := by decide +kernel
theorem dX7_clear_11 : decode cX7_clear 11 = .ok (.ireturn, 1) := by decide +kernel
set_option maxRecDepth 20000 in
theorem ggX7_cell_X7_isCell : GoodIn wsX7_cell wsX7_isCell := goodIn_r _ [5, 6, 7, 4, 8] (by decide +kernel) (by decide +kernel)
set_option maxRecDepth 20000 in
theorem gX7_cell_X7_isCell : GoodIn wsX7_cell (va_wsS RX7 51 yX7_isCell wsX7_isCell) := goodIn_app (goodIn_of _ (by decide +kernel)) ggX7_cell_X7_isCell
set_option maxRecDepth 20000 in
theorem ggX7_cell_X7_in : GoodIn wsX7_cell wsX7_in := goodIn_r _ [8] (by decide +kernel) (by decide +kernel)
set_option maxRecDepth 20000 in
theorem gX7_cell_X7_in : GoodIn wsX7_cell (va_wsS RX7 43 yX7_in wsX7_in) := goodIn_app (goodIn_of _ (by decide +kernel)) ggX7_cell_X7_in
theorem dX7_cell_0 : decode cX7_cell 0 = .ok (.iload_n 1, 1) := by decide +kernel
theorem dX7_cell_1 : decode cX7_cell 1 = .ok (.invokestatic 51, 3) := by decide +kernel
theorem dX7_cell_4 : decode cX7_cell 4 = .ok (.ifCond .ne 6, 3) := by decide +kernel
theorem dX7_cell_7 : decode cX7_cell 7 = .ok (.bipush (-101), 2) := by decide +kernel
theorem dX7_cell_9 : decode cX7_cell 9 = .ok (.ireturn, 1) := by decide +kernel
theorem dX7_cell_10 : decode cX7_cell 10 = .ok (.iload_n 2, 1) := by decide +kernel
theorem dX7_cell_11 : decode cX7_cell 11 = .ok (.iconst 0, 1) := by decide +kernel
theorem dX7_cell_12 : decode cX7_cell 12 = .ok (.sipush 255, 3) := by decide +kernel
theorem dX7_cell_15 : decode cX7_cell 15 = .ok (.invokestatic 43, 3) := by decide +kernel
theorem dX7_cell_18 : decode cX7_cell 18 = .ok (.ifCond .ne 6, 3) := by decide +kernel
theorem dX7_cell_21 : decode cX7_cell 21 = .ok (.bipush (-102), 2) := by decide +kernel
theorem dX7_cell_23 : decode cX7_cell 23 = .ok (.ireturn, 1) := by decide +kernel
theorem dX7_cell_24 : decode cX7_cell 24 = .ok (.aload_n 0, 1) := by decide +kernel
theorem dX7_cell_25 : decode cX7_cell 25 = .ok (.getfield 19, 3) := by decide +kernel
theorem dX7_cell_28 : decode cX7_cell 28 = .ok (.iload_n 1, 1) := by decide +kernel
theorem dX7_cell_29 : decode cX7_cell 29 = .ok (.iaload, 1) := by decide +kernel
theorem dX7_cell_30 : decode cX7_cell 30 = .ok (.istore_n 3, 1) := by decide +kernel
theorem dX7_cell_31 : decode cX7_cell 31 = .ok (.aload_n 0, 1) := by decide +kernel
theorem dX7_cell_32 : decode cX7_cell 32 = .ok (.getfield 19, 3) := by decide +kernel
theorem dX7_cell_35 : decode cX7_cell 35 = .ok (.iload_n 1, 1) := by decide +kernel
theorem dX7_cell_36 : decode cX7_cell 36 = .ok (.iload_n 2, 1) := by decide +kernel
theorem dX7_cell_37 : decode cX7_cell 37 = .ok (.iastore, 1) := by decide +kernel
theorem dX7_cell_38 : decode cX7_cell 38 = .ok (.iload_n 3, 1) := by decide +kernel
theorem dX7_cell_39 : decode cX7_cell 39 = .ok (.ireturn, 1) := by decide +kernel
set_option maxRecDepth 20000 in
theorem ggX7_check_X7_isCell : GoodIn wsX7_check wsX7_isCell := goodIn_r _ [5, 6, 7, 4, 8] (by decide +kernel) (by decide +kernel)
set_option maxRecDepth 20000 in
theorem gX7_check_X7_isCell : GoodIn wsX7_check (va_wsS RX7 51 yX7_isCell wsX7_isCell) := goodIn_app (goodIn_of _ (by decide +kernel)) ggX7_check_X7_isCell
set_option maxRecDepth 20000 in
theorem ggX7_check_X7_in : GoodIn wsX7_check wsX7_in := goodIn_r _ [8] (by decide +kernel) (by decide +kernel)
set_option maxRecDepth 20000 in
theorem gX7_check_X7_in : GoodIn wsX7_check (va_wsS RX7 43 yX7_in wsX7_in) := goodIn_app (goodIn_of _ (by decide +kernel)) ggX7_check_X7_in
theorem dX7_check_0 : decode cX7_check 0 = .ok (.iload_n 1, 1) := by decide +kernel
theorem dX7_check_1 : decode cX7_check 1 = .ok (.invokestatic 51, 3) := by decide +kernel
theorem dX7_check_4 : decode cX7_check 4 = .ok (.ifCond .ne 6, 3) := by decide +kernel
theorem dX7_check_7 : decode cX7_check 7 = .ok (.bipush (-101), 2) := by decide +kernel
theorem dX7_check_9 : decode cX7_check 9 = .ok (.ireturn, 1) := by decide +kernel
theorem dX7_check_10 : decode cX7_check 10 = .ok (.iload_n 2, 1) := by decide +kernel
theorem dX7_check_11 : decode cX7_check 11 = .ok (.iconst 0, 1) := by decide +kernel
theorem dX7_check_12 : decode cX7_check 12 = .ok (.iconst 3, 1) := by decide +kernel
theorem dX7_check_13 : decode cX7_check 13 = .ok (.invokestatic 43, 3) := by decide +kernel
theorem dX7_check_16 : decode cX7_check 16 = .ok (.ifCond .ne 6, 3) := by decide +kernel
theorem dX7_check_19 : decode cX7_check 19 = .ok (.bipush (-102), 2) := by decide +kernel
theorem dX7_check_21 : decode cX7_check 21 = .ok (.ireturn, 1) := by decide +kernel
theorem dX7_check_22 : decode cX7_check 22 = .ok (.aload_n 0, 1) := by decide +kernel
theorem dX7_check_23 : decode cX7_check 23 = .ok (.getfield 22, 3) := by decide +kernel
theorem dX7_check_26 : decode cX7_check 26 = .ok (.iload_n 1, 1) := by decide +kernel
theorem dX7_check_27 : decode cX7_check 27 = .ok (.iaload, 1) := by decide +kernel
theorem dX7_check_28 : decode cX7_check 28 = .ok (.istore_n 3, 1) := by decide +kernel
theorem dX7_check_29 : decode cX7_check 29 = .ok (.aload_n 0, 1) := by decide +kernel
theorem dX7_check_30 : decode cX7_check 30 = .ok (.getfield 22, 3) := by decide +kernel
theorem dX7_check_33 : decode cX7_check 33 = .ok (.iload_n 1, 1) := by decide +kernel
theorem dX7_check_34 : decode cX7_check 34 = .ok (.iload_n 2, 1) := by decide +kernel
theorem dX7_check_35 : decode cX7_check 35 = .ok (.iastore, 1) := by decide +kernel
theorem dX7_check_36 : decode cX7_check 36 = .ok (.iload_n 3, 1) := by decide +kernel
theorem dX7_check_37 : decode cX7_check 37 = .ok (.ireturn, 1) := by decide +kernel
theorem dX7_read_0 : decode cX7_read 0 = .ok (.iload_n 1, 1) := by decide +kernel
theorem dX7_read_1 : decode cX7_read 1 = .ok (.aload_n 0, 1) := by decide +kernel
theorem dX7_read_2 : decode cX7_read 2 = .ok (.getfield 68, 3) := by decide +kernel
theorem dX7_read_5 : decode cX7_read 5 = .ok (.if_icmp .ne 26, 3) := by decide +kernel
theorem dX7_read_8 : decode cX7_read 8 = .ok (.aload_n 0, 1) := by decide +kernel
theorem dX7_read_9 : decode cX7_read 9 = .ok (.getfield 71, 3) := by decide +kernel
theorem dX7_read_12 : decode cX7_read 12 = .ok (.aload_n 0, 1) := by decide +kernel
theorem dX7_read_13 : decode cX7_read 13 = .ok (.getfield 74, 3) := by decide +kernel
theorem dX7_read_16 : decode cX7_read 16 = .ok (.if_icmp .lt 15, 3) := by decide +kernel
theorem dX7_read_19 : decode cX7_read 19 = .ok (.aload_n 0, 1) := by decide +kernel
theorem dX7_read_20 : decode cX7_read 20 = .ok (.getfield 77, 3) := by decide +kernel
theorem dX7_read_23 : decode cX7_read 23 = .ok (.ifCond .ne 8, 3) := by decide +kernel
theorem dX7_read_26 : decode cX7_read 26 = .ok (.aload_n 0, 1) := by decide +kernel
theorem dX7_read_27 : decode cX7_read 27 = .ok (.iconst 1, 1) := by decide +kernel
theorem dX7_read_28 : decode cX7_read 28 = .ok (.putfield 77, 3) := by decide +kernel
theorem dX7_read_31 : decode cX7_read 31 = .ok (.iload_n 1, 1) := by decide +kernel
theorem dX7_read_32 : decode cX7_read 32 = .ok (.aload_n 0, 1) := by decide +kernel
theorem dX7_read_33 : decode cX7_read 33 = .ok (.getfield 80, 3) := by decide +kernel
theorem dX7_read_36 : decode cX7_read 36 = .ok (.if_icmp .ne 55, 3) := by decide +kernel
theorem dX7_read_39 : decode cX7_read 39 = .ok (.aload_n 0, 1) := by decide +kernel
theorem dX7_read_40 : decode cX7_read 40 = .ok (.getfield 83, 3) := by decide +kernel
theorem dX7_read_43 : decode cX7_read 43 = .ok (.ifCond .eq 48, 3) := by decide +kernel
theorem dX7_read_46 : decode cX7_read 46 = .ok (.aload_n 0, 1) := by decide +kernel
theorem dX7_read_47 : decode cX7_read 47 = .ok (.iconst 1, 1) := by decide +kernel
theorem dX7_read_48 : decode cX7_read 48 = .ok (.putfield 87, 3) := by decide +kernel
theorem dX7_read_51 : decode cX7_read 51 = .ok (.aload_n 0, 1) := by decide +kernel
theorem dX7_read_52 : decode cX7_read 52 = .ok (.aload_n 0, 1) := by decide +kernel
theorem dX7_read_53 : decode cX7_read 53 = .ok (.getfield 90, 3) := by decide +kernel
theorem dX7_read_56 : decode cX7_read 56 = .ok (.ifCond .ne 27, 3) := by decide +kernel
theorem dX7_read_59 : decode cX7_read 59 = .ok (.aload_n 0, 1) := by decide +kernel
theorem dX7_read_60 : decode cX7_read 60 = .ok (.getfield 93, 3) := by decide +kernel
theorem dX7_read_63 : decode cX7_read 63 = .ok (.iconst 1, 1) := by decide +kernel
theorem dX7_read_64 : decode cX7_read 64 = .ok (.if_icmp .ne 11, 3) := by decide +kernel
theorem dX7_read_67 : decode cX7_read 67 = .ok (.aload_n 0, 1) := by decide +kernel
theorem dX7_read_68 : decode cX7_read 68 = .ok (.getfield 96, 3) := by decide +kernel
theorem dX7_read_71 : decode cX7_read 71 = .ok (.iconst 1, 1) := by decide +kernel
theorem dX7_read_72 : decode cX7_read 72 = .ok (.if_icmp .eq 11, 3) := by decide +kernel
theorem dX7_read_75 : decode cX7_read 75 = .ok (.aload_n 0, 1) := by decide +kernel
theorem dX7_read_76 : decode cX7_read 76 = .ok (.getfield 93, 3) := by decide +kernel
theorem dX7_read_79 : decode cX7_read 79 = .ok (.iconst 2, 1) := by decide +kernel
theorem dX7_read_80 : decode cX7_read 80 = .ok (.if_icmp .ne 7, 3) := by decide +kernel
theorem dX7_read_83 : decode cX7_read 83 = .ok (.iconst 1, 1) := by decide +kernel
theorem dX7_read_84 : decode cX7_read 84 = .ok (.goto 4, 3) := by decide +kernel
theorem dX7_read_87 : decode cX7_read 87 = .ok (.iconst 0, 1) := by decide +kernel
theorem dX7_read_88 : decode cX7_read 88 = .ok (.putfield 90, 3) := by decide +kernel
theorem dX7_read_91 : decode cX7_read 91 = .ok (.return_, 1) := by decide +kernel
theorem dX7_write_0 : decode cX7_write 0 = .ok (.iload_n 1, 1) := by decide +kernel
theorem dX7_write_1 : decode cX7_write 1 = .ok (.aload_n 0, 1) := by decide +kernel
theorem dX7_write_2 : decode cX7_write 2 = .ok (.getfield 68, 3) := by decide +kernel
theorem dX7_write_5 : decode cX7_write 5 = .ok (.if_icmp .ne 26, 3) := by decide +kernel
theorem dX7_write_8 : decode cX7_write 8 = .ok (.aload_n 0, 1) := by decide +kernel
theorem dX7_write_9 : decode cX7_write 9 = .ok (.getfield 71, 3) := by decide +kernel
theorem dX7_write_12 : decode cX7_write 12 = .ok (.aload_n 0, 1) := by decide +kernel
theorem dX7_write_13 : decode cX7_write 13 = .ok (.getfield 74, 3) := by decide +kernel
theorem dX7_write_16 : decode cX7_write 16 = .ok (.if_icmp .lt 15, 3) := by decide +kernel
theorem dX7_write_19 : decode cX7_write 19 = .ok (.aload_n 0, 1) := by decide +kernel
theorem dX7_write_20 : decode cX7_write 20 = .ok (.getfield 77, 3) := by decide +kernel
theorem dX7_write_23 : decode cX7_write 23 = .ok (.ifCond .ne 8, 3) := by decide +kernel
theorem dX7_write_26 : decode cX7_write 26 = .ok (.aload_n 0, 1) := by decide +kernel
