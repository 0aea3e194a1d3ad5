theorem dX7_write_27 : decode cX7_write 27 = .ok (.iconst 2, 1) := by decide +kernel
theorem dX7_write_28 : decode cX7_write 28 = .ok (.putfield 77, 3) := by decide +kernel
theorem dX7_write_31 : decode cX7_write 31 = .ok (.iload_n 1, 1) := by decide +kernel
theorem dX7_write_32 : decode cX7_write 32 = .ok (.aload_n 0, 1) := by decide +kernel
theorem dX7_write_33 : decode cX7_write 33 = .ok (.getfield 80, 3) := by decide +kernel
theorem dX7_write_36 : decode cX7_write 36 = .ok (.if_icmp .ne 8, 3) := by decide +kernel
theorem dX7_write_39 : decode cX7_write 39 = .ok (.aload_n 0, 1) := by decide +kernel
theorem dX7_write_40 : decode cX7_write 40 = .ok (.iconst 0, 1) := by decide +kernel
theorem dX7_write_41 : decode cX7_write 41 = .ok (.putfield 83, 3) := by decide +kernel
theorem dX7_write_44 : decode cX7_write 44 = .ok (.aload_n 0, 1) := by decide +kernel
theorem dX7_write_45 : decode cX7_write 45 = .ok (.getfield 28, 3) := by decide +kernel
theorem dX7_write_48 : decode cX7_write 48 = .ok (.iload_n 1, 1) := by decide +kernel
theorem dX7_write_49 : decode cX7_write 49 = .ok (.iload_n 2, 1) := by decide +kernel
theorem dX7_write_50 : decode cX7_write 50 = .ok (.sipush 255, 3) := by decide +kernel
theorem dX7_write_53 : decode cX7_write 53 = .ok (.iand, 1) := by decide +kernel
theorem dX7_write_54 : decode cX7_write 54 = .ok (.iastore, 1) := by decide +kernel
theorem dX7_write_55 : decode cX7_write 55 = .ok (.return_, 1) := by decide +kernel
set_option maxRecDepth 20000 in
theorem ggX7_readAll_X7_in : GoodIn wsX7_readAll wsX7_in := goodIn_r _ [4] (by decide +kernel) (by decide +kernel)
set_option maxRecDepth 20000 in
theorem gX7_readAll_X7_in : GoodIn wsX7_readAll (va_wsS RX7 43 yX7_in wsX7_in) := goodIn_app (goodIn_of _ (by decide +kernel)) ggX7_readAll_X7_in
set_option maxRecDepth 20000 in
theorem ggX7_readAll_X7_read : GoodIn wsX7_readAll wsX7_read := goodIn_r _ [8, 9, 10, 11, 12, 13, 14, 15, 16, 17, 18, 22, 23, 24, 25, 26, 27, 28, 29, 30, 31, 32, 33, 34, 35, 36, 37, 38, 39, 40, 41, 42, 43, 44, 45, 46, 47, 48, 49, 50, 51] (by decide +kernel) (by decide +kernel)
set_option maxRecDepth 20000 in
theorem gX7_readAll_X7_read : GoodIn wsX7_readAll (wsV RX7 99 RX7 yX7_read wsX7_read) := goodIn_app (goodIn_of _ (by decide +kernel)) ggX7_readAll_X7_read
set_option maxRecDepth 20000 in
theorem ggX7_readAll_X7_takesOther : GoodIn wsX7_readAll wsX7_takesOther := goodIn_r _ [21, 1, 2, 3, 4] (by decide +kernel) (by decide +kernel)
set_option maxRecDepth 20000 in
theorem gX7_readAll_X7_takesOther : GoodIn wsX7_readAll (va_wsS RX7 54 yX7_takesOther wsX7_takesOther) := goodIn_app (goodIn_of _ (by decide +kernel)) ggX7_readAll_X7_takesOther
theorem dX7_readAll_0 : decode cX7_readAll 0 = .ok (.iload_n 1, 1) := by decide +kernel
theorem dX7_readAll_1 : decode cX7_readAll 1 = .ok (.iconst 2, 1) := by decide +kernel
theorem dX7_readAll_2 : decode cX7_readAll 2 = .ok (.iconst 5, 1) := by decide +kernel
theorem dX7_readAll_3 : decode cX7_readAll 3 = .ok (.invokestatic 43, 3) := by decide +kernel
theorem dX7_readAll_6 : decode cX7_readAll 6 = .ok (.ifCond .ne 21, 3) := by decide +kernel
theorem dX7_readAll_9 : decode cX7_readAll 9 = .ok (.iload_n 1, 1) := by decide +kernel
theorem dX7_readAll_10 : decode cX7_readAll 10 = .ok (.bipush 7, 2) := by decide +kernel
theorem dX7_readAll_12 : decode cX7_readAll 12 = .ok (.if_icmp .eq 15, 3) := by decide +kernel
theorem dX7_readAll_15 : decode cX7_readAll 15 = .ok (.iload_n 1, 1) := by decide +kernel
theorem dX7_readAll_16 : decode cX7_readAll 16 = .ok (.bipush 8, 2) := by decide +kernel
theorem dX7_readAll_18 : decode cX7_readAll 18 = .ok (.if_icmp .eq 9, 3) := by decide +kernel
theorem dX7_readAll_21 : decode cX7_readAll 21 = .ok (.iload_n 1, 1) := by decide +kernel
theorem dX7_readAll_22 : decode cX7_readAll 22 = .ok (.bipush 10, 2) := by decide +kernel
theorem dX7_readAll_24 : decode cX7_readAll 24 = .ok (.if_icmp .ne 8, 3) := by decide +kernel
theorem dX7_readAll_27 : decode cX7_readAll 27 = .ok (.aload_n 0, 1) := by decide +kernel
theorem dX7_readAll_28 : decode cX7_readAll 28 = .ok (.iload_n 2, 1) := by decide +kernel
theorem dX7_readAll_29 : decode cX7_readAll 29 = .ok (.invokevirtual 99, 3) := by decide +kernel
theorem dX7_readAll_32 : decode cX7_readAll 32 = .ok (.iload_n 1, 1) := by decide +kernel
theorem dX7_readAll_33 : decode cX7_readAll 33 = .ok (.invokestatic 54, 3) := by decide +kernel
theorem dX7_readAll_36 : decode cX7_readAll 36 = .ok (.ifCond .eq 8, 3) := by decide +kernel
theorem dX7_readAll_39 : decode cX7_readAll 39 = .ok (.aload_n 0, 1) := by decide +kernel
theorem dX7_readAll_40 : decode cX7_readAll 40 = .ok (.iload_n 3, 1) := by decide +kernel
theorem dX7_readAll_41 : decode cX7_readAll 41 = .ok (.invokevirtual 99, 3) := by decide +kernel
theorem dX7_readAll_44 : decode cX7_readAll 44 = .ok (.return_, 1) := by decide +kernel
theorem dX7_made_0 : decode cX7_made 0 = .ok (.iload_n 1, 1) := by decide +kernel
theorem dX7_made_1 : decode cX7_made 1 = .ok (.tableswitch 86 0 4 #[35, 37, 44, 58, 72], 35) := by decide +kernel
theorem dX7_made_36 : decode cX7_made 36 = .ok (.iload_n 3, 1) := by decide +kernel
theorem dX7_made_37 : decode cX7_made 37 = .ok (.ireturn, 1) := by decide +kernel
theorem dX7_made_38 : decode cX7_made 38 = .ok (.aload_n 0, 1) := by decide +kernel
theorem dX7_made_39 : decode cX7_made 39 = .ok (.getfield 28, 3) := by decide +kernel
theorem dX7_made_42 : decode cX7_made 42 = .ok (.iload_n 3, 1) := by decide +kernel
theorem dX7_made_43 : decode cX7_made 43 = .ok (.iaload, 1) := by decide +kernel
theorem dX7_made_44 : decode cX7_made 44 = .ok (.ireturn, 1) := by decide +kernel
theorem dX7_made_45 : decode cX7_made 45 = .ok (.aload_n 0, 1) := by decide +kernel
theorem dX7_made_46 : decode cX7_made 46 = .ok (.getfield 28, 3) := by decide +kernel
theorem dX7_made_49 : decode cX7_made 49 = .ok (.iload_n 2, 1) := by decide +kernel
theorem dX7_made_50 : decode cX7_made 50 = .ok (.iaload, 1) := by decide +kernel
theorem dX7_made_51 : decode cX7_made 51 = .ok (.aload_n 0, 1) := by decide +kernel
theorem dX7_made_52 : decode cX7_made 52 = .ok (.getfield 28, 3) := by decide +kernel
theorem dX7_made_55 : decode cX7_made 55 = .ok (.iload_n 3, 1) := by decide +kernel
theorem dX7_made_56 : decode cX7_made 56 = .ok (.iaload, 1) := by decide +kernel
theorem dX7_made_57 : decode cX7_made 57 = .ok (.iadd, 1) := by decide +kernel
theorem dX7_made_58 : decode cX7_made 58 = .ok (.ireturn, 1) := by decide +kernel
theorem dX7_made_59 : decode cX7_made 59 = .ok (.aload_n 0, 1) := by decide +kernel
theorem dX7_made_60 : decode cX7_made 60 = .ok (.getfield 28, 3) := by decide +kernel
theorem dX7_made_63 : decode cX7_made 63 = .ok (.iload_n 2, 1) := by decide +kernel
theorem dX7_made_64 : decode cX7_made 64 = .ok (.iaload, 1) := by decide +kernel
theorem dX7_made_65 : decode cX7_made 65 = .ok (.aload_n 0, 1) := by decide +kernel
theorem dX7_made_66 : decode cX7_made 66 = .ok (.getfield 28, 3) := by decide +kernel
theorem dX7_made_69 : decode cX7_made 69 = .ok (.iload_n 3, 1) := by decide +kernel
theorem dX7_made_70 : decode cX7_made 70 = .ok (.iaload, 1) := by decide +kernel
theorem dX7_made_71 : decode cX7_made 71 = .ok (.iand, 1) := by decide +kernel
theorem dX7_made_72 : decode cX7_made 72 = .ok (.ireturn, 1) := by decide +kernel
theorem dX7_made_73 : decode cX7_made 73 = .ok (.aload_n 0, 1) := by decide +kernel
theorem dX7_made_74 : decode cX7_made 74 = .ok (.getfield 28, 3) := by decide +kernel
theorem dX7_made_77 : decode cX7_made 77 = .ok (.iload_n 2, 1) := by decide +kernel
theorem dX7_made_78 : decode cX7_made 78 = .ok (.iaload, 1) := by decide +kernel
theorem dX7_made_79 : decode cX7_made 79 = .ok (.aload_n 0, 1) := by decide +kernel
theorem dX7_made_80 : decode cX7_made 80 = .ok (.getfield 28, 3) := by decide +kernel
theorem dX7_made_83 : decode cX7_made 83 = .ok (.iload_n 3, 1) := by decide +kernel
theorem dX7_made_84 : decode cX7_made 84 = .ok (.iaload, 1) := by decide +kernel
theorem dX7_made_85 : decode cX7_made 85 = .ok (.ixor, 1) := by decide +kernel
theorem dX7_made_86 : decode cX7_made 86 = .ok (.ireturn, 1) := by decide +kernel
theorem dX7_made_87 : decode cX7_made 87 = .ok (.aload_n 0, 1) := by decide +kernel
theorem dX7_made_88 : decode cX7_made 88 = .ok (.getfield 28, 3) := by decide +kernel
theorem dX7_made_91 : decode cX7_made 91 = .ok (.iload_n 2, 1) := by decide +kernel
theorem dX7_made_92 : decode cX7_made 92 = .ok (.iaload, 1) := by decide +kernel
theorem dX7_made_93 : decode cX7_made 93 = .ok (.iconst 2, 1) := by decide +kernel
theorem dX7_made_94 : decode cX7_made 94 = .ok (.idiv, 1) := by decide +kernel
theorem dX7_made_95 : decode cX7_made 95 = .ok (.ireturn, 1) := by decide +kernel
set_option maxRecDepth 20000 in
theorem ggX7_does_X7_readAll : GoodIn wsX7_does wsX7_readAll := goodIn_r _ [12, 13, 14, 11, 15, 16, 17, 18, 19, 20, 21, 22, 23, 24, 25, 26, 4, 27, 28, 29, 30, 31, 40, 41, 42, 43, 44, 45, 46, 47, 48, 49, 50, 51, 52, 53, 54, 55, 56, 57, 58, 59, 60, 61, 62, 63, 64, 65, 66, 67, 68, 69] (by decide +kernel) (by decide +kernel)
set_option maxRecDepth 20000 in
theorem gX7_does_X7_readAll : GoodIn wsX7_does (wsV RX7 103 RX7 yX7_readAll wsX7_readAll) := goodIn_app (goodIn_of _ (by decide +kernel)) ggX7_does_X7_readAll
set_option maxRecDepth 20000 in
theorem ggX7_does_X7_made : GoodIn wsX7_does wsX7_made := goodIn_r _ [35, 5, 40, 41, 42, 43, 44, 45, 46, 47, 48, 49, 50, 51, 52, 53, 54, 55, 56, 57, 58, 59, 60, 61, 62, 63, 64, 65, 66, 67, 68, 69] (by decide +kernel) (by decide +kernel)
set_option maxRecDepth 20000 in
theorem gX7_does_X7_made : GoodIn wsX7_does (wsV RX7 107 RX7 yX7_made wsX7_made) := goodIn_app (goodIn_of _ (by decide +kernel)) ggX7_does_X7_made
set_option maxRecDepth 20000 in
theorem ggX7_does_X7_write : GoodIn wsX7_does wsX7_write := goodIn_r _ [39, 20, 21, 22, 23, 24, 25, 5, 40, 41, 42, 43, 44, 45, 46, 47, 48, 49, 50, 51, 52, 53, 54, 55, 56, 57, 58, 59, 60, 61, 62, 63, 64, 65, 66, 67, 68, 69] (by decide +kernel) (by decide +kernel)
set_option maxRecDepth 20000 in
theorem gX7_does_X7_write : GoodIn wsX7_does (wsV RX7 111 RX7 yX7_write wsX7_write) := goodIn_app (goodIn_of _ (by decide +kernel)) ggX7_does_X7_write
set_option maxRecDepth 20000 in
theorem ggX7_does_X7_read : GoodIn wsX7_does wsX7_read := goodIn_r _ [19, 20, 21, 22, 23, 24, 25, 26, 4, 27, 28, 40, 41, 42, 43, 44, 45, 46, 47, 48, 49, 50, 51, 52, 53, 54, 55, 56, 57, 58, 59, 60, 61, 62, 63, 64, 65, 66, 67, 68, 69] (by decide +kernel) (by decide +kernel)
set_option maxRecDepth 20000 in
theorem gX7_does_X7_read : GoodIn wsX7_does (wsV RX7 99 RX7 yX7_read wsX7_read) := goodIn_app (goodIn_of _ (by decide +kernel)) ggX7_does_X7_read
theorem dX7_does_0 : decode cX7_does 0 = .ok (.aload_n 0, 1) := by decide +kernel
theorem dX7_does_1 : decode cX7_does 1 = .ok (.getfield 7, 3) := by decide +kernel
theorem dX7_does_4 : decode cX7_does 4 = .ok (.iload_n 1, 1) := by decide +kernel
theorem dX7_does_5 : decode cX7_does 5 = .ok (.iaload, 1) := by decide +kernel
theorem dX7_does_6 : decode cX7_does 6 = .ok (.istore_n 2, 1) := by decide +kernel
theorem dX7_does_7 : decode cX7_does 7 = .ok (.aload_n 0, 1) := by decide +kernel
theorem dX7_does_8 : decode cX7_does 8 = .ok (.getfield 13, 3) := by decide +kernel
theorem dX7_does_11 : decode cX7_does 11 = .ok (.iload_n 1, 1) := by decide +kernel
theorem dX7_does_12 : decode cX7_does 12 = .ok (.iaload, 1) := by decide +kernel
theorem dX7_does_13 : decode cX7_does 13 = .ok (.istore_n 3, 1) := by decide +kernel
theorem dX7_does_14 : decode cX7_does 14 = .ok (.aload_n 0, 1) := by decide +kernel
theorem dX7_does_15 : decode cX7_does 15 = .ok (.getfield 16, 3) := by decide +kernel
theorem dX7_does_18 : decode cX7_does 18 = .ok (.iload_n 1, 1) := by decide +kernel
theorem dX7_does_19 : decode cX7_does 19 = .ok (.iaload, 1) := by decide +kernel
theorem dX7_does_20 : decode cX7_does 20 = .ok (.istore 4, 2) := by decide +kernel
theorem dX7_does_22 : decode cX7_does 22 = .ok (.aload_n 0, 1) := by decide +kernel
theorem dX7_does_23 : decode cX7_does 23 = .ok (.iload_n 2, 1) := by decide +kernel
theorem dX7_does_24 : decode cX7_does 24 = .ok (.iload_n 3, 1) := by decide +kernel
theorem dX7_does_25 : decode cX7_does 25 = .ok (.iload 4, 2) := by decide +kernel
theorem dX7_does_27 : decode cX7_does 27 = .ok (.invokevirtual 103, 3) := by decide +kernel
theorem dX7_does_30 : decode cX7_does 30 = .ok (.aload_n 0, 1) := by decide +kernel
theorem dX7_does_31 : decode cX7_does 31 = .ok (.getfield 90, 3) := by decide +kernel
theorem dX7_does_34 : decode cX7_does 34 = .ok (.ifCond .eq 5, 3) := by decide +kernel
theorem dX7_does_37 : decode cX7_does 37 = .ok (.iload_n 1, 1) := by decide +kernel
theorem dX7_does_38 : decode cX7_does 38 = .ok (.ireturn, 1) := by decide +kernel
theorem dX7_does_39 : decode cX7_does 39 = .ok (.iload_n 2, 1) := by decide +kernel
theorem dX7_does_40 : decode cX7_does 40 = .ok (.iconst 5, 1) := by decide +kernel
theorem dX7_does_41 : decode cX7_does 41 = .ok (.if_icmp .gt 19, 3) := by decide +kernel
theorem dX7_does_44 : decode cX7_does 44 = .ok (.aload_n 0, 1) := by decide +kernel
theorem dX7_does_45 : decode cX7_does 45 = .ok (.iload_n 3, 1) := by decide +kernel
theorem dX7_does_46 : decode cX7_does 46 = .ok (.aload_n 0, 1) := by decide +kernel
theorem dX7_does_47 : decode cX7_does 47 = .ok (.iload_n 2, 1) := by decide +kernel
theorem dX7_does_48 : decode cX7_does 48 = .ok (.iload_n 3, 1) := by decide +kernel
theorem dX7_does_49 : decode cX7_does 49 = .ok (.iload 4, 2) := by decide +kernel
theorem dX7_does_51 : decode cX7_does 51 = .ok (.invokevirtual 107, 3) := by decide +kernel
theorem dX7_does_54 : decode cX7_does 54 = .ok (.invokevirtual 111, 3) := by decide +kernel
theorem dX7_does_57 : decode cX7_does 57 = .ok (.goto 180, 3) := by decide +kernel
theorem dX7_does_60 : decode cX7_does 60 = .ok (.iload_n 2, 1) := by decide +kernel
theorem dX7_does_61 : decode cX7_does 61 = .ok (.bipush 6, 2) := by decide +kernel
theorem dX7_does_63 : decode cX7_does 63 = .ok (.if_icmp .ne 5, 3) := by decide +kernel
theorem dX7_does_66 : decode cX7_does 66 = .ok (.iload_n 3, 1) := by decide +kernel
theorem dX7_does_67 : decode cX7_does 67 = .ok (.ireturn, 1) := by decide +kernel
theorem dX7_does_68 : decode cX7_does 68 = .ok (.iload_n 2, 1) := by decide +kernel
theorem dX7_does_69 : decode cX7_does 69 = .ok (.bipush 7, 2) := by decide +kernel
theorem dX7_does_71 : decode cX7_does 71 = .ok (.if_icmp .ne 21, 3) := by decide +kernel
theorem dX7_does_74 : decode cX7_does 74 = .ok (.aload_n 0, 1) := by decide +kernel
theorem dX7_does_75 : decode cX7_does 75 = .ok (.getfield 28, 3) := by decide +kernel
theorem dX7_does_78 : decode cX7_does 78 = .ok (.iload_n 3, 1) := by decide +kernel
theorem dX7_does_79 : decode cX7_does 79 = .ok (.iaload, 1) := by decide +kernel
theorem dX7_does_80 : decode cX7_does 80 = .ok (.ifCond .eq 8, 3) := by decide +kernel
theorem dX7_does_83 : decode cX7_does 83 = .ok (.iload 4, 2) := by decide +kernel
theorem dX7_does_85 : decode cX7_does 85 = .ok (.goto 6, 3) := by decide +kernel
theorem dX7_does_88 : decode cX7_does 88 = .ok (.iload_n 1, 1) := by decide +kernel
theorem dX7_does_89 : decode cX7_does 89 = .ok (.iconst 1, 1) := by decide +kernel
theorem dX7_does_90 : decode cX7_does 90 = .ok (.iadd, 1) := by decide +kernel
theorem dX7_does_91 : decode cX7_does 91 = .ok (.ireturn, 1) := by decide +kernel
theorem dX7_does_92 : decode cX7_does 92 = .ok (.iload_n 2, 1) := by decide +kernel
theorem dX7_does_93 : decode cX7_does 93 = .ok (.bipush 8, 2) := by decide +kernel
theorem dX7_does_95 : decode cX7_does 95 = .ok (.if_icmp .ne 42, 3) := by decide +kernel
theorem dX7_does_98 : decode cX7_does 98 = .ok (.aload_n 0, 1) := by decide +kernel
theorem dX7_does_99 : decode cX7_does 99 = .ok (.getfield 115, 3) := by decide +kernel
theorem dX7_does_102 : decode cX7_does 102 = .ok (.bipush 12, 2) := by decide +kernel
theorem dX7_does_104 : decode cX7_does 104 = .ok (.if_icmp .ne 5, 3) := by decide +kernel
theorem dX7_does_107 : decode cX7_does 107 = .ok (.iconst (-1), 1) := by decide +kernel
theorem dX7_does_108 : decode cX7_does 108 = .ok (.ireturn, 1) := by decide +kernel
theorem dX7_does_109 : decode cX7_does 109 = .ok (.aload_n 0, 1) := by decide +kernel
theorem dX7_does_110 : decode cX7_does 110 = .ok (.getfield 31, 3) := by decide +kernel
theorem dX7_does_113 : decode cX7_does 113 = .ok (.aload_n 0, 1) := by decide +kernel
theorem dX7_does_114 : decode cX7_does 114 = .ok (.getfield 115, 3) := by decide +kernel
theorem dX7_does_117 : decode cX7_does 117 = .ok (.aload_n 0, 1) := by decide +kernel
theorem dX7_does_118 : decode cX7_does 118 = .ok (.getfield 28, 3) := by decide +kernel
theorem dX7_does_121 : decode cX7_does 121 = .ok (.iload_n 3, 1) := by decide +kernel
theorem dX7_does_122 : decode cX7_does 122 = .ok (.iaload, 1) := by decide +kernel
theorem dX7_does_123 : decode cX7_does 123 = .ok (.iastore, 1) := by decide +kernel
theorem dX7_does_124 : decode cX7_does 124 = .ok (.aload_n 0, 1) := by decide +kernel
theorem dX7_does_125 : decode cX7_does 125 = .ok (.dup, 1) := by decide +kernel
theorem dX7_does_126 : decode cX7_does 126 = .ok (.getfield 115, 3) := by decide +kernel
theorem dX7_does_129 : decode cX7_does 129 = .ok (.iconst 1, 1) := by decide +kernel
theorem dX7_does_130 : decode cX7_does 130 = .ok (.iadd, 1) := by decide +kernel
theorem dX7_does_131 : decode cX7_does 131 = .ok (.putfield 115, 3) := by decide +kernel
theorem dX7_does_134 : decode cX7_does 134 = .ok (.goto 103, 3) := by decide +kernel
theorem dX7_does_137 : decode cX7_does 137 = .ok (.iload_n 2, 1) := by decide +kernel
theorem dX7_does_138 : decode cX7_does 138 = .ok (.bipush 9, 2) := by decide +kernel
theorem dX7_does_140 : decode cX7_does 140 = .ok (.if_icmp .ne 55, 3) := by decide +kernel
theorem dX7_does_143 : decode cX7_does 143 = .ok (.aload_n 0, 1) := by decide +kernel
theorem dX7_does_144 : decode cX7_does 144 = .ok (.getfield 28, 3) := by decide +kernel
theorem dX7_does_147 : decode cX7_does 147 = .ok (.iload 4, 2) := by decide +kernel
theorem dX7_does_149 : decode cX7_does 149 = .ok (.iaload, 1) := by decide +kernel
theorem dX7_does_150 : decode cX7_does 150 = .ok (.bipush 8, 2) := by decide +kernel
theorem dX7_does_152 : decode cX7_does 152 = .ok (.if_icmp .lt 5, 3) := by decide +kernel
theorem dX7_does_155 : decode cX7_does 155 = .ok (.iconst (-1), 1) := by decide +kernel
theorem dX7_does_156 : decode cX7_does 156 = .ok (.ireturn, 1) := by decide +kernel
theorem dX7_does_157 : decode cX7_does 157 = .ok (.aload_n 0, 1) := by decide +kernel
theorem dX7_does_158 : decode cX7_does 158 = .ok (.aload_n 0, 1) := by decide +kernel
theorem dX7_does_159 : decode cX7_does 159 = .ok (.getfield 28, 3) := by decide +kernel
theorem dX7_does_162 : decode cX7_does 162 = .ok (.iload 4, 2) := by decide +kernel
theorem dX7_does_164 : decode cX7_does 164 = .ok (.iaload, 1) := by decide +kernel
theorem dX7_does_165 : decode cX7_does 165 = .ok (.invokevirtual 99, 3) := by decide +kernel
theorem dX7_does_168 : decode cX7_does 168 = .ok (.aload_n 0, 1) := by decide +kernel
theorem dX7_does_169 : decode cX7_does 169 = .ok (.getfield 90, 3) := by decide +kernel
theorem dX7_does_172 : decode cX7_does 172 = .ok (.ifCond .ne 65, 3) := by decide +kernel
theorem dX7_does_175 : decode cX7_does 175 = .ok (.aload_n 0, 1) := by decide +kernel
theorem dX7_does_176 : decode cX7_does 176 = .ok (.iload_n 3, 1) := by decide +kernel
theorem dX7_does_177 : decode cX7_does 177 = .ok (.aload_n 0, 1) := by decide +kernel
theorem dX7_does_178 : decode cX7_does 178 = .ok (.getfield 28, 3) := by decide +kernel
theorem dX7_does_181 : decode cX7_does 181 = .ok (.aload_n 0, 1) := by decide +kernel
theorem dX7_does_182 : decode cX7_does 182 = .ok (.getfield 28, 3) := by decide +kernel
theorem dX7_does_185 : decode cX7_does 185 = .ok (.iload 4, 2) := by decide +kernel
theorem dX7_does_187 : decode cX7_does 187 = .ok (.iaload, 1) := by decide +kernel
theorem dX7_does_188 : decode cX7_does 188 = .ok (.iaload, 1) := by decide +kernel
theorem dX7_does_189 : decode cX7_does 189 = .ok (.invokevirtual 111, 3) := by decide +kernel
theorem dX7_does_192 : decode cX7_does 192 = .ok (.goto 45, 3) := by decide +kernel
theorem dX7_does_195 : decode cX7_does 195 = .ok (.iload_n 2, 1) := by decide +kernel
theorem dX7_does_196 : decode cX7_does 196 = .ok (.bipush 10, 2) := by decide +kernel
theorem dX7_does_198 : decode cX7_does 198 = .ok (.if_icmp .ne 36, 3) := by decide +kernel
theorem dX7_does_201 : decode cX7_does 201 = .ok (.aload_n 0, 1) := by decide +kernel
theorem dX7_does_202 : decode cX7_does 202 = .ok (.getfield 28, 3) := by decide +kernel
theorem dX7_does_205 : decode cX7_does 205 = .ok (.iload_n 3, 1) := by decide +kernel
theorem dX7_does_206 : decode cX7_does 206 = .ok (.iaload, 1) := by decide +kernel
theorem dX7_does_207 : decode cX7_does 207 = .ok (.bipush 8, 2) := by decide +kernel
theorem dX7_does_209 : decode cX7_does 209 = .ok (.if_icmp .lt 5, 3) := by decide +kernel
theorem dX7_does_212 : decode cX7_does 212 = .ok (.iconst (-1), 1) := by decide +kernel
theorem dX7_does_213 : decode cX7_does 213 = .ok (.ireturn, 1) := by decide +kernel
theorem dX7_does_214 : decode cX7_does 214 = .ok (.aload_n 0, 1) := by decide +kernel
theorem dX7_does_215 : decode cX7_does 215 = .ok (.aload_n 0, 1) := by decide +kernel
theorem dX7_does_216 : decode cX7_does 216 = .ok (.getfield 28, 3) := by decide +kernel
theorem dX7_does_219 : decode cX7_does 219 = .ok (.iload_n 3, 1) := by decide +kernel
theorem dX7_does_220 : decode cX7_does 220 = .ok (.iaload, 1) := by decide +kernel
theorem dX7_does_221 : decode cX7_does 221 = .ok (.aload_n 0, 1) := by decide +kernel
theorem dX7_does_222 : decode cX7_does 222 = .ok (.getfield 28, 3) := by decide +kernel
theorem dX7_does_225 : decode cX7_does 225 = .ok (.iload 4, 2) := by decide +kernel
theorem dX7_does_227 : decode cX7_does 227 = .ok (.iaload, 1) := by decide +kernel
theorem dX7_does_228 : decode cX7_does 228 = .ok (.invokevirtual 111, 3) := by decide +kernel
theorem dX7_does_231 : decode cX7_does 231 = .ok (.goto 6, 3) := by decide +kernel
theorem dX7_does_234 : decode cX7_does 234 = .ok (.bipush 20, 2) := by decide +kernel
theorem dX7_does_236 : decode cX7_does 236 = .ok (.ireturn, 1) := by decide +kernel
theorem dX7_does_237 : decode cX7_does 237 = .ok (.iload_n 1, 1) := by decide +kernel
theorem dX7_does_238 : decode cX7_does 238 = .ok (.iconst 1, 1) := by decide +kernel
theorem dX7_does_239 : decode cX7_does 239 = .ok (.iadd, 1) := by decide +kernel
theorem dX7_does_240 : decode cX7_does 240 = .ok (.ireturn, 1) := by decide +kernel
set_option maxRecDepth 20000 in
theorem ggX7_go_X7_does : GoodIn wsX7_go wsX7_does := goodIn_r _ [18, 19, 20, 21, 10, 1, 7, 22, 23, 24, 25, 17, 26, 27, 28, 29, 30, 31, 32, 33, 34, 6, 35, 11, 3, 8, 9, 5, 4, 36, 37, 38, 39, 40, 41, 42, 43, 44, 45, 46, 47, 48, 49, 50, 51, 52, 53, 54, 55, 56, 57, 58, 59, 60, 61, 62, 63, 64, 65, 66, 67, 68, 69, 70, 71, 72, 73, 74, 75, 76] (by decide +kernel) (by decide +kernel)
set_option maxRecDepth 20000 in
theorem gX7_go_X7_does : GoodIn wsX7_go (wsV RX7 121 RX7 yX7_does wsX7_does) := goodIn_app (goodIn_of _ (by decide +kernel)) ggX7_go_X7_does
theorem dX7_go_0 : decode cX7_go 0 = .ok (.iconst 0, 1) := by decide +kernel
theorem dX7_go_1 : decode cX7_go 1 = .ok (.istore 6, 2) := by decide +kernel
theorem dX7_go_3 : decode cX7_go 3 = .ok (.iload 6, 2) := by decide +kernel
theorem dX7_go_5 : decode cX7_go 5 = .ok (.bipush 8, 2) := by decide +kernel
theorem dX7_go_7 : decode cX7_go 7 = .ok (.if_icmp .ge 23, 3) := by decide +kernel
theorem dX7_go_10 : decode cX7_go 10 = .ok (.aload_n 0, 1) := by decide +kernel
theorem dX7_go_11 : decode cX7_go 11 = .ok (.getfield 28, 3) := by decide +kernel
theorem dX7_go_14 : decode cX7_go 14 = .ok (.iload 6, 2) := by decide +kernel
theorem dX7_go_16 : decode cX7_go 16 = .ok (.aload_n 0, 1) := by decide +kernel
theorem dX7_go_17 : decode cX7_go 17 = .ok (.getfield 19, 3) := by decide +kernel
theorem dX7_go_20 : decode cX7_go 20 = .ok (.iload 6, 2) := by decide +kernel
theorem dX7_go_22 : decode cX7_go 22 = .ok (.iaload, 1) := by decide +kernel
theorem dX7_go_23 : decode cX7_go 23 = .ok (.iastore, 1) := by decide +kernel
theorem dX7_go_24 : decode cX7_go 24 = .ok (.iinc 6 1, 3) := by decide +kernel
theorem dX7_go_27 : decode cX7_go 27 = .ok (.goto (-24), 3) := by decide +kernel
theorem dX7_go_30 : decode cX7_go 30 = .ok (.aload_n 0, 1) := by decide +kernel
theorem dX7_go_31 : decode cX7_go 31 = .ok (.iload_n 1, 1) := by decide +kernel
theorem dX7_go_32 : decode cX7_go 32 = .ok (.putfield 80, 3) := by decide +kernel
theorem dX7_go_35 : decode cX7_go 35 = .ok (.aload_n 0, 1) := by decide +kernel
theorem dX7_go_36 : decode cX7_go 36 = .ok (.iload_n 3, 1) := by decide +kernel
theorem dX7_go_37 : decode cX7_go 37 = .ok (.putfield 96, 3) := by decide +kernel
theorem dX7_go_40 : decode cX7_go 40 = .ok (.aload_n 0, 1) := by decide +kernel
theorem dX7_go_41 : decode cX7_go 41 = .ok (.iload 5, 2) := by decide +kernel
theorem dX7_go_43 : decode cX7_go 43 = .ok (.putfield 93, 3) := by decide +kernel
theorem dX7_go_46 : decode cX7_go 46 = .ok (.aload_n 0, 1) := by decide +kernel
theorem dX7_go_47 : decode cX7_go 47 = .ok (.iconst 0, 1) := by decide +kernel
theorem dX7_go_48 : decode cX7_go 48 = .ok (.putfield 71, 3) := by decide +kernel
theorem dX7_go_51 : decode cX7_go 51 = .ok (.aload_n 0, 1) := by decide +kernel
theorem dX7_go_52 : decode cX7_go 52 = .ok (.iconst 0, 1) := by decide +kernel
theorem dX7_go_53 : decode cX7_go 53 = .ok (.putfield 115, 3) := by decide +kernel
theorem dX7_go_56 : decode cX7_go 56 = .ok (.aload_n 0, 1) := by decide +kernel
theorem dX7_go_57 : decode cX7_go 57 = .ok (.iconst 0, 1) := by decide +kernel
theorem dX7_go_58 : decode cX7_go 58 = .ok (.putfield 83, 3) := by decide +kernel
theorem dX7_go_61 : decode cX7_go 61 = .ok (.aload_n 0, 1) := by decide +kernel
theorem dX7_go_62 : decode cX7_go 62 = .ok (.iconst 0, 1) := by decide +kernel
theorem dX7_go_63 : decode cX7_go 63 = .ok (.putfield 87, 3) := by decide +kernel
theorem dX7_go_66 : decode cX7_go 66 = .ok (.aload_n 0, 1) := by decide +kernel
theorem dX7_go_67 : decode cX7_go 67 = .ok (.iconst 0, 1) := by decide +kernel
theorem dX7_go_68 : decode cX7_go 68 = .ok (.putfield 90, 3) := by decide +kernel
theorem dX7_go_71 : decode cX7_go 71 = .ok (.aload_n 0, 1) := by decide +kernel
theorem dX7_go_72 : decode cX7_go 72 = .ok (.iconst 0, 1) := by decide +kernel
theorem dX7_go_73 : decode cX7_go 73 = .ok (.putfield 77, 3) := by decide +kernel
theorem dX7_go_76 : decode cX7_go 76 = .ok (.iconst 0, 1) := by decide +kernel
theorem dX7_go_77 : decode cX7_go 77 = .ok (.istore 6, 2) := by decide +kernel
theorem dX7_go_79 : decode cX7_go 79 = .ok (.aload_n 0, 1) := by decide +kernel
theorem dX7_go_80 : decode cX7_go 80 = .ok (.iconst 1, 1) := by decide +kernel
theorem dX7_go_81 : decode cX7_go 81 = .ok (.putfield 118, 3) := by decide +kernel
theorem dX7_go_84 : decode cX7_go 84 = .ok (.iload 6, 2) := by decide +kernel
theorem dX7_go_86 : decode cX7_go 86 = .ok (.ifCond .lt 111, 3) := by decide +kernel
theorem dX7_go_89 : decode cX7_go 89 = .ok (.iload 6, 2) := by decide +kernel
theorem dX7_go_91 : decode cX7_go 91 = .ok (.aload_n 0, 1) := by decide +kernel
theorem dX7_go_92 : decode cX7_go 92 = .ok (.getfield 60, 3) := by decide +kernel
theorem dX7_go_95 : decode cX7_go 95 = .ok (.if_icmp .ge 102, 3) := by decide +kernel
theorem dX7_go_98 : decode cX7_go 98 = .ok (.aload_n 0, 1) := by decide +kernel
theorem dX7_go_99 : decode cX7_go 99 = .ok (.getfield 90, 3) := by decide +kernel
theorem dX7_go_102 : decode cX7_go 102 = .ok (.ifCond .ne 95, 3) := by decide +kernel
theorem dX7_go_105 : decode cX7_go 105 = .ok (.aload_n 0, 1) := by decide +kernel
theorem dX7_go_106 : decode cX7_go 106 = .ok (.getfield 118, 3) := by decide +kernel
theorem dX7_go_109 : decode cX7_go 109 = .ok (.iconst 1, 1) := by decide +kernel
theorem dX7_go_110 : decode cX7_go 110 = .ok (.if_icmp .ne 87, 3) := by decide +kernel
theorem dX7_go_113 : decode cX7_go 113 = .ok (.aload_n 0, 1) := by decide +kernel
theorem dX7_go_114 : decode cX7_go 114 = .ok (.getfield 71, 3) := by decide +kernel
theorem dX7_go_117 : decode cX7_go 117 = .ok (.bipush 100, 2) := by decide +kernel
theorem dX7_go_119 : decode cX7_go 119 = .ok (.if_icmp .ne 11, 3) := by decide +kernel
theorem dX7_go_122 : decode cX7_go 122 = .ok (.aload_n 0, 1) := by decide +kernel
theorem dX7_go_123 : decode cX7_go 123 = .ok (.iconst 4, 1) := by decide +kernel
theorem dX7_go_124 : decode cX7_go 124 = .ok (.putfield 118, 3) := by decide +kernel
theorem dX7_go_127 : decode cX7_go 127 = .ok (.goto (-43), 3) := by decide +kernel
theorem dX7_go_130 : decode cX7_go 130 = .ok (.iload_n 1, 1) := by decide +kernel
theorem dX7_go_131 : decode cX7_go 131 = .ok (.iconst (-1), 1) := by decide +kernel
theorem dX7_go_132 : decode cX7_go 132 = .ok (.if_icmp .eq 27, 3) := by decide +kernel
theorem dX7_go_135 : decode cX7_go 135 = .ok (.aload_n 0, 1) := by decide +kernel
theorem dX7_go_136 : decode cX7_go 136 = .ok (.getfield 71, 3) := by decide +kernel
theorem dX7_go_139 : decode cX7_go 139 = .ok (.iload 4, 2) := by decide +kernel
theorem dX7_go_141 : decode cX7_go 141 = .ok (.if_icmp .ne 18, 3) := by decide +kernel
theorem dX7_go_144 : decode cX7_go 144 = .ok (.aload_n 0, 1) := by decide +kernel
theorem dX7_go_145 : decode cX7_go 145 = .ok (.getfield 28, 3) := by decide +kernel
theorem dX7_go_148 : decode cX7_go 148 = .ok (.iload_n 1, 1) := by decide +kernel
theorem dX7_go_149 : decode cX7_go 149 = .ok (.dup2, 1) := by decide +kernel
theorem dX7_go_150 : decode cX7_go 150 = .ok (.iaload, 1) := by decide +kernel
theorem dX7_go_151 : decode cX7_go 151 = .ok (.iload_n 2, 1) := by decide +kernel
theorem dX7_go_152 : decode cX7_go 152 = .ok (.ixor, 1) := by decide +kernel
theorem dX7_go_153 : decode cX7_go 153 = .ok (.iastore, 1) := by decide +kernel
theorem dX7_go_154 : decode cX7_go 154 = .ok (.aload_n 0, 1) := by decide +kernel
theorem dX7_go_155 : decode cX7_go 155 = .ok (.iconst 1, 1) := by decide +kernel
theorem dX7_go_156 : decode cX7_go 156 = .ok (.putfield 83, 3) := by decide +kernel
theorem dX7_go_159 : decode cX7_go 159 = .ok (.aload_n 0, 1) := by decide +kernel
theorem dX7_go_160 : decode cX7_go 160 = .ok (.iload 6, 2) := by decide +kernel
theorem dX7_go_162 : decode cX7_go 162 = .ok (.invokevirtual 121, 3) := by decide +kernel
theorem dX7_go_165 : decode cX7_go 165 = .ok (.istore 6, 2) := by decide +kernel
theorem dX7_go_167 : decode cX7_go 167 = .ok (.aload_n 0, 1) := by decide +kernel
theorem dX7_go_168 : decode cX7_go 168 = .ok (.dup, 1) := by decide +kernel
theorem dX7_go_169 : decode cX7_go 169 = .ok (.getfield 71, 3) := by decide +kernel
theorem dX7_go_172 : decode cX7_go 172 = .ok (.iconst 1, 1) := by decide +kernel
theorem dX7_go_173 : decode cX7_go 173 = .ok (.iadd, 1) := by decide +kernel
theorem dX7_go_174 : decode cX7_go 174 = .ok (.putfield 71, 3) := by decide +kernel
theorem dX7_go_177 : decode cX7_go 177 = .ok (.aload_n 0, 1) := by decide +kernel
theorem dX7_go_178 : decode cX7_go 178 = .ok (.iload 6, 2) := by decide +kernel
theorem dX7_go_180 : decode cX7_go 180 = .ok (.ifCond .ge 7, 3) := by decide +kernel
theorem dX7_go_183 : decode cX7_go 183 = .ok (.iconst 3, 1) := by decide +kernel
theorem dX7_go_184 : decode cX7_go 184 = .ok (.goto 7, 3) := by decide +kernel
theorem dX7_go_187 : decode cX7_go 187 = .ok (.aload_n 0, 1) := by decide +kernel
theorem dX7_go_188 : decode cX7_go 188 = .ok (.getfield 118, 3) := by decide +kernel
theorem dX7_go_191 : decode cX7_go 191 = .ok (.putfield 118, 3) := by decide +kernel
theorem dX7_go_194 : decode cX7_go 194 = .ok (.goto (-110), 3) := by decide +kernel
theorem dX7_go_197 : decode cX7_go 197 = .ok (.aload_n 0, 1) := by decide +kernel
theorem dX7_go_198 : decode cX7_go 198 = .ok (.getfield 118, 3) := by decide +kernel
theorem dX7_go_201 : decode cX7_go 201 = .ok (.iconst 1, 1) := by decide +kernel
theorem dX7_go_202 : decode cX7_go 202 = .ok (.if_icmp .ne 23, 3) := by decide +kernel
theorem dX7_go_205 : decode cX7_go 205 = .ok (.aload_n 0, 1) := by decide +kernel
theorem dX7_go_206 : decode cX7_go 206 = .ok (.getfield 83, 3) := by decide +kernel
theorem dX7_go_209 : decode cX7_go 209 = .ok (.ifCond .eq 16, 3) := by decide +kernel
theorem dX7_go_212 : decode cX7_go 212 = .ok (.aload_n 0, 1) := by decide +kernel
theorem dX7_go_213 : decode cX7_go 213 = .ok (.getfield 93, 3) := by decide +kernel
theorem dX7_go_216 : decode cX7_go 216 = .ok (.iconst 3, 1) := by decide +kernel
theorem dX7_go_217 : decode cX7_go 217 = .ok (.if_icmp .ne 8, 3) := by decide +kernel
theorem dX7_go_220 : decode cX7_go 220 = .ok (.aload_n 0, 1) := by decide +kernel
theorem dX7_go_221 : decode cX7_go 221 = .ok (.iconst 1, 1) := by decide +kernel
theorem dX7_go_222 : decode cX7_go 222 = .ok (.putfield 90, 3) := by decide +kernel
theorem dX7_go_225 : decode cX7_go 225 = .ok (.return_, 1) := by decide +kernel
set_option maxRecDepth 20000 in
theorem ggX7_goPlain_X7_go : GoodIn wsX7_goPlain wsX7_go := goodIn_r _ [13, 14, 15, 16, 17, 18, 3, 5, 19, 20, 21, 22, 1, 23, 24, 25, 26, 12, 27, 28, 29, 30, 8, 31, 32, 33, 34, 35, 36, 37, 38, 39, 40, 41, 42, 43, 44, 45, 46, 47, 48, 49, 50, 51, 52, 53, 54, 55, 56, 57, 58, 59, 60, 61, 62, 63, 64, 65, 66, 67, 68, 69, 70, 71, 72, 73, 74, 75, 76, 77, 78, 79, 80, 81, 82, 83, 84] (by decide +kernel) (by decide +kernel)
set_option maxRecDepth 20000 in
theorem gX7_goPlain_X7_go : GoodIn wsX7_goPlain (wsV RX7 125 RX7 yX7_go wsX7_go) := goodIn_app (goodIn_of _ (by decide +kernel)) ggX7_goPlain_X7_go
theorem dX7_goPlain_0 : decode cX7_goPlain 0 = .ok (.aload_n 0, 1) := by decide +kernel
theorem dX7_goPlain_1 : decode cX7_goPlain 1 = .ok (.iconst (-1), 1) := by decide +kernel
theorem dX7_goPlain_2 : decode cX7_goPlain 2 = .ok (.iconst 0, 1) := by decide +kernel
theorem dX7_goPlain_3 : decode cX7_goPlain 3 = .ok (.iconst 0, 1) := by decide +kernel
theorem dX7_goPlain_4 : decode cX7_goPlain 4 = .ok (.iconst 0, 1) := by decide +kernel
theorem dX7_goPlain_5 : decode cX7_goPlain 5 = .ok (.iconst 0, 1) := by decide +kernel
theorem dX7_goPlain_6 : decode cX7_goPlain 6 = .ok (.invokevirtual 125, 3) := by decide +kernel
theorem dX7_goPlain_9 : decode cX7_goPlain 9 = .ok (.aload_n 0, 1) := by decide +kernel
theorem dX7_goPlain_10 : decode cX7_goPlain 10 = .ok (.aload_n 0, 1) := by decide +kernel
theorem dX7_goPlain_11 : decode cX7_goPlain 11 = .ok (.getfield 118, 3) := by decide +kernel
theorem dX7_goPlain_14 : decode cX7_goPlain 14 = .ok (.putfield 129, 3) := by decide +kernel
theorem dX7_goPlain_17 : decode cX7_goPlain 17 = .ok (.aload_n 0, 1) := by decide +kernel
theorem dX7_goPlain_18 : decode cX7_goPlain 18 = .ok (.aload_n 0, 1) := by decide +kernel
theorem dX7_goPlain_19 : decode cX7_goPlain 19 = .ok (.getfield 71, 3) := by decide +kernel
theorem dX7_goPlain_22 : decode cX7_goPlain 22 = .ok (.putfield 132, 3) := by decide +kernel
theorem dX7_goPlain_25 : decode cX7_goPlain 25 = .ok (.aload_n 0, 1) := by decide +kernel
theorem dX7_goPlain_26 : decode cX7_goPlain 26 = .ok (.aload_n 0, 1) := by decide +kernel
theorem dX7_goPlain_27 : decode cX7_goPlain 27 = .ok (.getfield 115, 3) := by decide +kernel
theorem dX7_goPlain_30 : decode cX7_goPlain 30 = .ok (.putfield 135, 3) := by decide +kernel
theorem dX7_goPlain_33 : decode cX7_goPlain 33 = .ok (.iconst 0, 1) := by decide +kernel
theorem dX7_goPlain_34 : decode cX7_goPlain 34 = .ok (.istore_n 1, 1) := by decide +kernel
theorem dX7_goPlain_35 : decode cX7_goPlain 35 = .ok (.iload_n 1, 1) := by decide +kernel
theorem dX7_goPlain_36 : decode cX7_goPlain 36 = .ok (.aload_n 0, 1) := by decide +kernel
theorem dX7_goPlain_37 : decode cX7_goPlain 37 = .ok (.getfield 115, 3) := by decide +kernel
theorem dX7_goPlain_40 : decode cX7_goPlain 40 = .ok (.if_icmp .ge 21, 3) := by decide +kernel
theorem dX7_goPlain_43 : decode cX7_goPlain 43 = .ok (.aload_n 0, 1) := by decide +kernel
theorem dX7_goPlain_44 : decode cX7_goPlain 44 = .ok (.getfield 34, 3) := by decide +kernel
theorem dX7_goPlain_47 : decode cX7_goPlain 47 = .ok (.iload_n 1, 1) := by decide +kernel
theorem dX7_goPlain_48 : decode cX7_goPlain 48 = .ok (.aload_n 0, 1) := by decide +kernel
theorem dX7_goPlain_49 : decode cX7_goPlain 49 = .ok (.getfield 31, 3) := by decide +kernel
theorem dX7_goPlain_52 : decode cX7_goPlain 52 = .ok (.iload_n 1, 1) := by decide +kernel
theorem dX7_goPlain_53 : decode cX7_goPlain 53 = .ok (.iaload, 1) := by decide +kernel
theorem dX7_goPlain_54 : decode cX7_goPlain 54 = .ok (.iastore, 1) := by decide +kernel
theorem dX7_goPlain_55 : decode cX7_goPlain 55 = .ok (.iinc 1 1, 3) := by decide +kernel
theorem dX7_goPlain_58 : decode cX7_goPlain 58 = .ok (.goto (-23), 3) := by decide +kernel
theorem dX7_goPlain_61 : decode cX7_goPlain 61 = .ok (.return_, 1) := by decide +kernel
set_option maxRecDepth 20000 in
theorem ggX7_run_X7_goPlain : GoodIn wsX7_run wsX7_goPlain := goodIn_r _ [6, 7, 1, 8, 9, 10, 11, 12, 13, 14, 15, 16, 5, 17, 18, 19, 20, 21, 22, 23, 24, 25, 26, 27, 28, 29, 30, 31, 32, 33, 34, 35, 36, 37, 38, 39, 40, 41, 42, 43, 44, 45, 46, 47, 48, 49, 50, 51, 52, 53, 54, 55, 56, 57, 58, 59, 60, 61, 62, 63, 64, 65, 66, 67, 68, 69, 70, 71, 72, 73, 74, 75, 76, 77, 78, 79, 80, 81, 82, 83, 84, 85, 86, 87, 88] (by decide +kernel) (by decide +kernel)
set_option maxRecDepth 20000 in
theorem gX7_run_X7_goPlain : GoodIn wsX7_run (wsV RX7 138 RX7 yX7_goPlain wsX7_goPlain) := goodIn_app (goodIn_of _ (by decide +kernel)) ggX7_run_X7_goPlain
theorem dX7_run_0 : decode cX7_run 0 = .ok (.aload_n 0, 1) := by decide +kernel
theorem dX7_run_1 : decode cX7_run 1 = .ok (.invokevirtual 138, 3) := by decide +kernel
theorem dX7_run_4 : decode cX7_run 4 = .ok (.aload_n 0, 1) := by decide +kernel
theorem dX7_run_5 : decode cX7_run 5 = .ok (.getfield 129, 3) := by decide +kernel
theorem dX7_run_8 : decode cX7_run 8 = .ok (.iconst 1, 1) := by decide +kernel
theorem dX7_run_9 : decode cX7_run 9 = .ok (.if_icmp .ne 7, 3) := by decide +kernel
theorem dX7_run_12 : decode cX7_run 12 = .ok (.iconst 0, 1) := by decide +kernel
theorem dX7_run_13 : decode cX7_run 13 = .ok (.goto 16, 3) := by decide +kernel
theorem dX7_run_16 : decode cX7_run 16 = .ok (.aload_n 0, 1) := by decide +kernel
theorem dX7_run_17 : decode cX7_run 17 = .ok (.getfield 129, 3) := by decide +kernel
theorem dX7_run_20 : decode cX7_run 20 = .ok (.iconst 3, 1) := by decide +kernel
theorem dX7_run_21 : decode cX7_run 21 = .ok (.if_icmp .ne 7, 3) := by decide +kernel
theorem dX7_run_24 : decode cX7_run 24 = .ok (.iconst 1, 1) := by decide +kernel
theorem dX7_run_25 : decode cX7_run 25 = .ok (.goto 4, 3) := by decide +kernel
theorem dX7_run_28 : decode cX7_run 28 = .ok (.iconst 2, 1) := by decide +kernel
theorem dX7_run_29 : decode cX7_run 29 = .ok (.ireturn, 1) := by decide +kernel
set_option maxRecDepth 20000 in
theorem ggX7_ticks_X7_goPlain : GoodIn wsX7_ticks wsX7_goPlain := goodIn_r _ [6, 7, 8, 9, 1, 10, 11, 12, 13, 14, 15, 16, 5, 17, 18, 19, 20, 21, 22, 23, 24, 25, 26, 27, 28, 29, 30, 31, 32, 33, 34, 35, 36, 37, 38, 39, 40, 41, 42, 43, 44, 45, 46, 47, 48, 49, 50, 51, 52, 53, 54, 55, 56, 57, 58, 59, 60, 61, 62, 63, 64, 65, 66, 67, 68, 69, 70, 71, 72, 73, 74, 75, 76, 77, 78, 79, 80, 81, 82, 83, 84, 85, 86, 87, 88] (by decide +kernel) (by decide +kernel)
set_option maxRecDepth 20000 in
theorem gX7_ticks_X7_goPlain : GoodIn wsX7_ticks (wsV RX7 138 RX7 yX7_goPlain wsX7_goPlain) := goodIn_app (goodIn_of _ (by decide +kernel)) ggX7_ticks_X7_goPlain
theorem dX7_ticks_0 : decode cX7_ticks 0 = .ok (.aload_n 0, 1) := by decide +kernel
theorem dX7_ticks_1 : decode cX7_ticks 1 = .ok (.invokevirtual 138, 3) := by decide +kernel
theorem dX7_ticks_4 : decode cX7_ticks 4 = .ok (.aload_n 0, 1) := by decide +kernel
theorem dX7_ticks_5 : decode cX7_ticks 5 = .ok (.getfield 132, 3) := by decide +kernel
theorem dX7_ticks_8 : decode cX7_ticks 8 = .ok (.ireturn, 1) := by decide +kernel
set_option maxRecDepth 20000 in
theorem ggX7_many_X7_goPlain : GoodIn wsX7_many wsX7_goPlain := goodIn_r _ [6, 7, 8, 9, 10, 11, 1, 12, 13, 14, 15, 16, 5, 17, 18, 19, 20, 21, 22, 23, 24, 25, 26, 27, 28, 29, 30, 31, 32, 33, 34, 35, 36, 37, 38, 39, 40, 41, 42, 43, 44, 45, 46, 47, 48, 49, 50, 51, 52, 53, 54, 55, 56, 57, 58, 59, 60, 61, 62, 63, 64, 65, 66, 67, 68, 69, 70, 71, 72, 73, 74, 75, 76, 77, 78, 79, 80, 81, 82, 83, 84, 85, 86, 87, 88] (by decide +kernel) (by decide +kernel)
set_option maxRecDepth 20000 in
theorem gX7_many_X7_goPlain : GoodIn wsX7_many (wsV RX7 138 RX7 yX7_goPlain wsX7_goPlain) := goodIn_app (goodIn_of _ (by decide +kernel)) ggX7_many_X7_goPlain
theorem dX7_many_0 : decode cX7_many 0 = .ok (.aload_n 0, 1) := by decide +kernel
theorem dX7_many_1 : decode cX7_many 1 = .ok (.invokevirtual 138, 3) := by decide +kernel
theorem dX7_many_4 : decode cX7_many 4 = .ok (.aload_n 0, 1) := by decide +kernel
theorem dX7_many_5 : decode cX7_many 5 = .ok (.getfield 135, 3) := by decide +kernel
theorem dX7_many_8 : decode cX7_many 8 = .ok (.ireturn, 1) := by decide +kernel
set_option maxRecDepth 20000 in
theorem ggX7_told_X7_goPlain : GoodIn wsX7_told wsX7_goPlain := goodIn_r _ [7, 8, 9, 10, 11, 12, 1, 2, 13, 14, 15, 16, 6, 17, 18, 19, 20, 21, 22, 23, 24, 25, 26, 27, 28, 29, 30, 31, 32, 33, 34, 35, 36, 37, 38, 39, 40, 41, 42, 43, 44, 45, 46, 47, 48, 49, 50, 51, 52, 53, 54, 55, 56, 57, 58, 59, 60, 61, 62, 63, 64, 65, 66, 67, 68, 69, 70, 71, 72, 73, 74, 75, 76, 77, 78, 79, 80, 81, 82, 83, 84, 85, 86, 87, 88] (by decide +kernel) (by decide +kernel)
set_option maxRecDepth 20000 in
theorem gX7_told_X7_goPlain : GoodIn wsX7_told (wsV RX7 138 RX7 yX7_goPlain wsX7_goPlain) := goodIn_app (goodIn_of _ (by decide +kernel)) ggX7_told_X7_goPlain
set_option maxRecDepth 20000 in
theorem ggX7_told_X7_in : GoodIn wsX7_told wsX7_in := goodIn_r _ [41] (by decide +kernel) (by decide +kernel)
set_option maxRecDepth 20000 in
theorem gX7_told_X7_in : GoodIn wsX7_told (va_wsS RX7 43 yX7_in wsX7_in) := goodIn_app (goodIn_of _ (by decide +kernel)) ggX7_told_X7_in
theorem dX7_told_0 : decode cX7_told 0 = .ok (.aload_n 0, 1) := by decide +kernel
theorem dX7_told_1 : decode cX7_told 1 = .ok (.invokevirtual 138, 3) := by decide +kernel
theorem dX7_told_4 : decode cX7_told 4 = .ok (.iload_n 1, 1) := by decide +kernel
theorem dX7_told_5 : decode cX7_told 5 = .ok (.iconst 0, 1) := by decide +kernel
theorem dX7_told_6 : decode cX7_told 6 = .ok (.aload_n 0, 1) := by decide +kernel
theorem dX7_told_7 : decode cX7_told 7 = .ok (.getfield 135, 3) := by decide +kernel
theorem dX7_told_10 : decode cX7_told 10 = .ok (.iconst 1, 1) := by decide +kernel
theorem dX7_told_11 : decode cX7_told 11 = .ok (.isub, 1) := by decide +kernel
theorem dX7_told_12 : decode cX7_told 12 = .ok (.invokestatic 43, 3) := by decide +kernel
theorem dX7_told_15 : decode cX7_told 15 = .ok (.ifCond .eq 12, 3) := by decide +kernel
theorem dX7_told_18 : decode cX7_told 18 = .ok (.aload_n 0, 1) := by decide +kernel
theorem dX7_told_19 : decode cX7_told 19 = .ok (.getfield 34, 3) := by decide +kernel
theorem dX7_told_22 : decode cX7_told 22 = .ok (.iload_n 1, 1) := by decide +kernel
theorem dX7_told_23 : decode cX7_told 23 = .ok (.iaload, 1) := by decide +kernel
theorem dX7_told_24 : decode cX7_told 24 = .ok (.goto 4, 3) := by decide +kernel
theorem dX7_told_27 : decode cX7_told 27 = .ok (.iconst (-1), 1) := by decide +kernel
theorem dX7_told_28 : decode cX7_told 28 = .ok (.ireturn, 1) := by decide +kernel
set_option maxRecDepth 20000 in
theorem ggX7_after_X7_isCell : GoodIn wsX7_after wsX7_isCell := goodIn_r _ [5, 6, 7, 4, 8] (by decide +kernel) (by decide +kernel)
set_option maxRecDepth 20000 in
theorem gX7_after_X7_isCell : GoodIn wsX7_after (va_wsS RX7 51 yX7_isCell wsX7_isCell) := goodIn_app (goodIn_of _ (by decide +kernel)) ggX7_after_X7_isCell
set_option maxRecDepth 20000 in
theorem ggX7_after_X7_goPlain : GoodIn wsX7_after wsX7_goPlain := goodIn_r _ [12, 13, 14, 15, 16, 17, 18, 19, 20, 21, 22, 23, 4, 24, 1, 25, 26, 27, 28, 29, 30, 31, 32, 33, 34, 35, 36, 37, 38, 39, 40, 41, 42, 43, 44, 6, 7, 8, 45, 46, 47, 48, 49, 50, 51, 52, 53, 54, 55, 56, 57, 58, 59, 60, 61, 62, 63, 64, 65, 66, 67, 68, 69, 70, 71, 72, 73, 74, 75, 76, 77, 78, 79, 80, 81, 82, 83, 84, 85, 86, 87, 88, 89, 90, 91] (by decide +kernel) (by decide +kernel)
set_option maxRecDepth 20000 in
theorem gX7_after_X7_goPlain : GoodIn wsX7_after (wsV RX7 138 RX7 yX7_goPlain wsX7_goPlain) := goodIn_app (goodIn_of _ (by decide +kernel)) ggX7_after_X7_goPlain
theorem dX7_after_0 : decode cX7_after 0 = .ok (.iload_n 1, 1) := by decide +kernel
theorem dX7_after_1 : decode cX7_after 1 = .ok (.invokestatic 51, 3) := by decide +kernel
theorem dX7_after_4 : decode cX7_after 4 = .ok (.ifCond .ne 6, 3) := by decide +kernel
theorem dX7_after_7 : decode cX7_after 7 = .ok (.bipush (-101), 2) := by decide +kernel
theorem dX7_after_9 : decode cX7_after 9 = .ok (.ireturn, 1) := by decide +kernel
theorem dX7_after_10 : decode cX7_after 10 = .ok (.aload_n 0, 1) := by decide +kernel
theorem dX7_after_11 : decode cX7_after 11 = .ok (.invokevirtual 138, 3) := by decide +kernel
theorem dX7_after_14 : decode cX7_after 14 = .ok (.aload_n 0, 1) := by decide +kernel
theorem dX7_after_15 : decode cX7_after 15 = .ok (.getfield 28, 3) := by decide +kernel
theorem dX7_after_18 : decode cX7_after 18 = .ok (.iload_n 1, 1) := by decide +kernel
theorem dX7_after_19 : decode cX7_after 19 = .ok (.iaload, 1) := by decide +kernel
theorem dX7_after_20 : decode cX7_after 20 = .ok (.ireturn, 1) := by decide +kernel
set_option maxRecDepth 20000 in
theorem ggX7_dead_X7_isCell : GoodIn wsX7_dead wsX7_isCell := goodIn_r _ [9, 10, 11, 8, 12] (by decide +kernel) (by decide +kernel)
set_option maxRecDepth 20000 in
theorem gX7_dead_X7_isCell : GoodIn wsX7_dead (va_wsS RX7 51 yX7_isCell wsX7_isCell) := goodIn_app (goodIn_of _ (by decide +kernel)) ggX7_dead_X7_isCell
set_option maxRecDepth 20000 in
theorem ggX7_dead_X7_goPlain : GoodIn wsX7_dead wsX7_goPlain := goodIn_r _ [16, 17, 1, 18, 2, 19, 20, 21, 22, 23, 24, 25, 8, 26, 27, 28, 29, 30, 31, 32, 33, 34, 5, 35, 36, 37, 38, 39, 40, 41, 42, 43, 44, 45, 46, 10, 11, 12, 47, 48, 49, 50, 3, 4, 51, 52, 53, 54, 55, 56, 57, 58, 59, 60, 61, 62, 63, 64, 65, 66, 67, 68, 69, 70, 71, 72, 73, 74, 75, 76, 77, 78, 79, 80, 81, 82, 83, 84, 85, 86, 87, 88, 89, 90, 91] (by decide +kernel) (by decide +kernel)
set_option maxRecDepth 20000 in
theorem gX7_dead_X7_goPlain : GoodIn wsX7_dead (wsV RX7 138 RX7 yX7_goPlain wsX7_goPlain) := goodIn_app (goodIn_of _ (by decide +kernel)) ggX7_dead_X7_goPlain
set_option maxRecDepth 20000 in
theorem ggX7_dead_X7_in : GoodIn wsX7_dead wsX7_in := goodIn_r _ [12] (by decide +kernel) (by decide +kernel)
set_option maxRecDepth 20000 in
theorem gX7_dead_X7_in : GoodIn wsX7_dead (va_wsS RX7 43 yX7_in wsX7_in) := goodIn_app (goodIn_of _ (by decide +kernel)) ggX7_dead_X7_in
theorem dX7_dead_0 : decode cX7_dead 0 = .ok (.iload_n 1, 1) := by decide +kernel
theorem dX7_dead_1 : decode cX7_dead 1 = .ok (.invokestatic 51, 3) := by decide +kernel
theorem dX7_dead_4 : decode cX7_dead 4 = .ok (.ifCond .ne 6, 3) := by decide +kernel
theorem dX7_dead_7 : decode cX7_dead 7 = .ok (.bipush (-101), 2) := by decide +kernel
theorem dX7_dead_9 : decode cX7_dead 9 = .ok (.ireturn, 1) := by decide +kernel
theorem dX7_dead_10 : decode cX7_dead 10 = .ok (.aload_n 0, 1) := by decide +kernel
theorem dX7_dead_11 : decode cX7_dead 11 = .ok (.invokevirtual 138, 3) := by decide +kernel
theorem dX7_dead_14 : decode cX7_dead 14 = .ok (.aload_n 0, 1) := by decide +kernel
theorem dX7_dead_15 : decode cX7_dead 15 = .ok (.getfield 129, 3) := by decide +kernel
theorem dX7_dead_18 : decode cX7_dead 18 = .ok (.iconst 1, 1) := by decide +kernel
theorem dX7_dead_19 : decode cX7_dead 19 = .ok (.if_icmp .eq 6, 3) := by decide +kernel
theorem dX7_dead_22 : decode cX7_dead 22 = .ok (.bipush (-103), 2) := by decide +kernel
theorem dX7_dead_24 : decode cX7_dead 24 = .ok (.ireturn, 1) := by decide +kernel
theorem dX7_dead_25 : decode cX7_dead 25 = .ok (.iload_n 2, 1) := by decide +kernel
theorem dX7_dead_26 : decode cX7_dead 26 = .ok (.iconst 0, 1) := by decide +kernel
theorem dX7_dead_27 : decode cX7_dead 27 = .ok (.aload_n 0, 1) := by decide +kernel
theorem dX7_dead_28 : decode cX7_dead 28 = .ok (.getfield 132, 3) := by decide +kernel
theorem dX7_dead_31 : decode cX7_dead 31 = .ok (.iconst 1, 1) := by decide +kernel
theorem dX7_dead_32 : decode cX7_dead 32 = .ok (.isub, 1) := by decide +kernel
theorem dX7_dead_33 : decode cX7_dead 33 = .ok (.invokestatic 43, 3) := by decide +kernel
theorem dX7_dead_36 : decode cX7_dead 36 = .ok (.ifCond .ne 6, 3) := by decide +kernel
theorem dX7_dead_39 : decode cX7_dead 39 = .ok (.bipush (-102), 2) := by decide +kernel
theorem dX7_dead_41 : decode cX7_dead 41 = .ok (.ireturn, 1) := by decide +kernel
theorem dX7_dead_42 : decode cX7_dead 42 = .ok (.aload_n 0, 1) := by decide +kernel
theorem dX7_dead_43 : decode cX7_dead 43 = .ok (.iload_n 1, 1) := by decide +kernel
theorem dX7_dead_44 : decode cX7_dead 44 = .ok (.putfield 68, 3) := by decide +kernel
theorem dX7_dead_47 : decode cX7_dead 47 = .ok (.aload_n 0, 1) := by decide +kernel
theorem dX7_dead_48 : decode cX7_dead 48 = .ok (.iload_n 2, 1) := by decide +kernel
theorem dX7_dead_49 : decode cX7_dead 49 = .ok (.putfield 74, 3) := by decide +kernel
theorem dX7_dead_52 : decode cX7_dead 52 = .ok (.aload_n 0, 1) := by decide +kernel
theorem dX7_dead_53 : decode cX7_dead 53 = .ok (.invokevirtual 138, 3) := by decide +kernel
theorem dX7_dead_56 : decode cX7_dead 56 = .ok (.aload_n 0, 1) := by decide +kernel
theorem dX7_dead_57 : decode cX7_dead 57 = .ok (.getfield 77, 3) := by decide +kernel
theorem dX7_dead_60 : decode cX7_dead 60 = .ok (.iconst 1, 1) := by decide +kernel
theorem dX7_dead_61 : decode cX7_dead 61 = .ok (.if_icmp .ne 7, 3) := by decide +kernel
theorem dX7_dead_64 : decode cX7_dead 64 = .ok (.iconst 0, 1) := by decide +kernel
theorem dX7_dead_65 : decode cX7_dead 65 = .ok (.goto 4, 3) := by decide +kernel
theorem dX7_dead_68 : decode cX7_dead 68 = .ok (.iconst 1, 1) := by decide +kernel
theorem dX7_dead_69 : decode cX7_dead 69 = .ok (.ireturn, 1) := by decide +kernel
theorem dX7_harmNow_0 : decode cX7_harmNow 0 = .ok (.aload_n 0, 1) := by decide +kernel
theorem dX7_harmNow_1 : decode cX7_harmNow 1 = .ok (.getfield 115, 3) := by decide +kernel
theorem dX7_harmNow_4 : decode cX7_harmNow 4 = .ok (.aload_n 0, 1) := by decide +kernel
theorem dX7_harmNow_5 : decode cX7_harmNow 5 = .ok (.getfield 135, 3) := by decide +kernel
theorem dX7_harmNow_8 : decode cX7_harmNow 8 = .ok (.if_icmp .le 10, 3) := by decide +kernel
theorem dX7_harmNow_11 : decode cX7_harmNow 11 = .ok (.aload_n 0, 1) := by decide +kernel
theorem dX7_harmNow_12 : decode cX7_harmNow 12 = .ok (.getfield 115, 3) := by decide +kernel
theorem dX7_harmNow_15 : decode cX7_harmNow 15 = .ok (.goto 7, 3) := by decide +kernel
theorem dX7_harmNow_18 : decode cX7_harmNow 18 = .ok (.aload_n 0, 1) := by decide +kernel
theorem dX7_harmNow_19 : decode cX7_harmNow 19 = .ok (.getfield 135, 3) := by decide +kernel
theorem dX7_harmNow_22 : decode cX7_harmNow 22 = .ok (.istore_n 1, 1) := by decide +kernel
theorem dX7_harmNow_23 : decode cX7_harmNow 23 = .ok (.iconst 0, 1) := by decide +kernel
theorem dX7_harmNow_24 : decode cX7_harmNow 24 = .ok (.istore_n 2, 1) := by decide +kernel
theorem dX7_harmNow_25 : decode cX7_harmNow 25 = .ok (.iconst 0, 1) := by decide +kernel
theorem dX7_harmNow_26 : decode cX7_harmNow 26 = .ok (.istore_n 3, 1) := by decide +kernel
theorem dX7_harmNow_27 : decode cX7_harmNow 27 = .ok (.iload_n 3, 1) := by decide +kernel
theorem dX7_harmNow_28 : decode cX7_harmNow 28 = .ok (.iload_n 1, 1) := by decide +kernel
theorem dX7_harmNow_29 : decode cX7_harmNow 29 = .ok (.if_icmp .ge 48, 3) := by decide +kernel
theorem dX7_harmNow_32 : decode cX7_harmNow 32 = .ok (.iload_n 2, 1) := by decide +kernel
theorem dX7_harmNow_33 : decode cX7_harmNow 33 = .ok (.iload_n 3, 1) := by decide +kernel
theorem dX7_harmNow_34 : decode cX7_harmNow 34 = .ok (.aload_n 0, 1) := by decide +kernel
theorem dX7_harmNow_35 : decode cX7_harmNow 35 = .ok (.getfield 115, 3) := by decide +kernel
theorem dX7_harmNow_38 : decode cX7_harmNow 38 = .ok (.if_icmp .ge 26, 3) := by decide +kernel
theorem dX7_harmNow_41 : decode cX7_harmNow 41 = .ok (.iload_n 3, 1) := by decide +kernel
theorem dX7_harmNow_42 : decode cX7_harmNow 42 = .ok (.aload_n 0, 1) := by decide +kernel
theorem dX7_harmNow_43 : decode cX7_harmNow 43 = .ok (.getfield 135, 3) := by decide +kernel
theorem dX7_harmNow_46 : decode cX7_harmNow 46 = .ok (.if_icmp .ge 18, 3) := by decide +kernel
theorem dX7_harmNow_49 : decode cX7_harmNow 49 = .ok (.aload_n 0, 1) := by decide +kernel
theorem dX7_harmNow_50 : decode cX7_harmNow 50 = .ok (.getfield 31, 3) := by decide +kernel
theorem dX7_harmNow_53 : decode cX7_harmNow 53 = .ok (.iload_n 3, 1) := by decide +kernel
theorem dX7_harmNow_54 : decode cX7_harmNow 54 = .ok (.iaload, 1) := by decide +kernel
theorem dX7_harmNow_55 : decode cX7_harmNow 55 = .ok (.aload_n 0, 1) := by decide +kernel
theorem dX7_harmNow_56 : decode cX7_harmNow 56 = .ok (.getfield 34, 3) := by decide +kernel
theorem dX7_harmNow_59 : decode cX7_harmNow 59 = .ok (.iload_n 3, 1) := by decide +kernel
theorem dX7_harmNow_60 : decode cX7_harmNow 60 = .ok (.iaload, 1) := by decide +kernel
theorem dX7_harmNow_61 : decode cX7_harmNow 61 = .ok (.if_icmp .eq 7, 3) := by decide +kernel
theorem dX7_harmNow_64 : decode cX7_harmNow 64 = .ok (.iconst 1, 1) := by decide +kernel
theorem dX7_harmNow_65 : decode cX7_harmNow 65 = .ok (.goto 4, 3) := by decide +kernel
theorem dX7_harmNow_68 : decode cX7_harmNow 68 = .ok (.iconst 0, 1) := by decide +kernel
theorem dX7_harmNow_69 : decode cX7_harmNow 69 = .ok (.iadd, 1) := by decide +kernel
theorem dX7_harmNow_70 : decode cX7_harmNow 70 = .ok (.istore_n 2, 1) := by decide +kernel
theorem dX7_harmNow_71 : decode cX7_harmNow 71 = .ok (.iinc 3 1, 3) := by decide +kernel
theorem dX7_harmNow_74 : decode cX7_harmNow 74 = .ok (.goto (-47), 3) := by decide +kernel
theorem dX7_harmNow_77 : decode cX7_harmNow 77 = .ok (.iload_n 2, 1) := by decide +kernel
theorem dX7_harmNow_78 : decode cX7_harmNow 78 = .ok (.ireturn, 1) := by decide +kernel
set_option maxRecDepth 20000 in
theorem ggX7_kindOf_X7_go : GoodIn wsX7_kindOf wsX7_go := goodIn_r _ [8, 9, 10, 11, 12, 13, 14, 15, 16, 2, 1, 17, 3, 18, 19, 20, 21, 7, 22, 23, 24, 25, 26, 27, 28, 29, 30, 31, 32, 33, 34, 35, 36, 37, 38, 39, 40, 41, 42, 43, 44, 45, 46, 47, 48, 49, 50, 57, 58, 59, 60, 61, 62, 63, 64, 65, 66, 67, 68, 69, 70, 71, 72, 73, 74, 75, 76, 77, 78, 79, 80, 81, 82, 83, 84, 85, 86] (by decide +kernel) (by decide +kernel)
set_option maxRecDepth 20000 in
theorem gX7_kindOf_X7_go : GoodIn wsX7_kindOf (wsV RX7 125 RX7 yX7_go wsX7_go) := goodIn_app (goodIn_of _ (by decide +kernel)) ggX7_kindOf_X7_go
set_option maxRecDepth 20000 in
theorem ggX7_kindOf_X7_harmNow : GoodIn wsX7_kindOf wsX7_harmNow := goodIn_r _ [54, 15, 55, 26, 56, 57, 58, 59, 60, 61, 62, 63, 64, 65, 66, 67, 68, 69, 70, 71, 72, 73, 74, 75, 76, 77, 78, 79, 80, 81, 82, 83, 84, 85, 86] (by decide +kernel) (by decide +kernel)
set_option maxRecDepth 20000 in
theorem gX7_kindOf_X7_harmNow : GoodIn wsX7_kindOf (wsV RX7 141 RX7 yX7_harmNow wsX7_harmNow) := goodIn_app (goodIn_of _ (by decide +kernel)) ggX7_kindOf_X7_harmNow
theorem dX7_kindOf_0 : decode cX7_kindOf 0 = .ok (.aload_n 0, 1) := by decide +kernel
theorem dX7_kindOf_1 : decode cX7_kindOf 1 = .ok (.iload_n 1, 1) := by decide +kernel
theorem dX7_kindOf_2 : decode cX7_kindOf 2 = .ok (.iload_n 3, 1) := by decide +kernel
theorem dX7_kindOf_3 : decode cX7_kindOf 3 = .ok (.iconst 1, 1) := by decide +kernel
theorem dX7_kindOf_4 : decode cX7_kindOf 4 = .ok (.if_icmp .ne 7, 3) := by decide +kernel
theorem dX7_kindOf_7 : decode cX7_kindOf 7 = .ok (.iconst 1, 1) := by decide +kernel
theorem dX7_kindOf_8 : decode cX7_kindOf 8 = .ok (.goto 4, 3) := by decide +kernel
theorem dX7_kindOf_11 : decode cX7_kindOf 11 = .ok (.iconst 3, 1) := by decide +kernel
theorem dX7_kindOf_12 : decode cX7_kindOf 12 = .ok (.iload_n 2, 1) := by decide +kernel
theorem dX7_kindOf_13 : decode cX7_kindOf 13 = .ok (.ishl, 1) := by decide +kernel
theorem dX7_kindOf_14 : decode cX7_kindOf 14 = .ok (.iload_n 3, 1) := by decide +kernel
theorem dX7_kindOf_15 : decode cX7_kindOf 15 = .ok (.iload 4, 2) := by decide +kernel
theorem dX7_kindOf_17 : decode cX7_kindOf 17 = .ok (.iload 5, 2) := by decide +kernel
theorem dX7_kindOf_19 : decode cX7_kindOf 19 = .ok (.invokevirtual 125, 3) := by decide +kernel
theorem dX7_kindOf_22 : decode cX7_kindOf 22 = .ok (.aload_n 0, 1) := by decide +kernel
theorem dX7_kindOf_23 : decode cX7_kindOf 23 = .ok (.getfield 90, 3) := by decide +kernel
theorem dX7_kindOf_26 : decode cX7_kindOf 26 = .ok (.ifCond .eq 5, 3) := by decide +kernel
theorem dX7_kindOf_29 : decode cX7_kindOf 29 = .ok (.iconst 2, 1) := by decide +kernel
theorem dX7_kindOf_30 : decode cX7_kindOf 30 = .ok (.ireturn, 1) := by decide +kernel
theorem dX7_kindOf_31 : decode cX7_kindOf 31 = .ok (.aload_n 0, 1) := by decide +kernel
theorem dX7_kindOf_32 : decode cX7_kindOf 32 = .ok (.getfield 87, 3) := by decide +kernel
theorem dX7_kindOf_35 : decode cX7_kindOf 35 = .ok (.ifCond .ne 5, 3) := by decide +kernel
theorem dX7_kindOf_38 : decode cX7_kindOf 38 = .ok (.iconst 0, 1) := by decide +kernel
theorem dX7_kindOf_39 : decode cX7_kindOf 39 = .ok (.ireturn, 1) := by decide +kernel
theorem dX7_kindOf_40 : decode cX7_kindOf 40 = .ok (.aload_n 0, 1) := by decide +kernel
theorem dX7_kindOf_41 : decode cX7_kindOf 41 = .ok (.getfield 118, 3) := by decide +kernel
theorem dX7_kindOf_44 : decode cX7_kindOf 44 = .ok (.iconst 1, 1) := by decide +kernel
theorem dX7_kindOf_45 : decode cX7_kindOf 45 = .ok (.if_icmp .eq 10, 3) := by decide +kernel
theorem dX7_kindOf_48 : decode cX7_kindOf 48 = .ok (.aload_n 0, 1) := by decide +kernel
theorem dX7_kindOf_49 : decode cX7_kindOf 49 = .ok (.getfield 118, 3) := by decide +kernel
theorem dX7_kindOf_52 : decode cX7_kindOf 52 = .ok (.goto 15, 3) := by decide +kernel
theorem dX7_kindOf_55 : decode cX7_kindOf 55 = .ok (.aload_n 0, 1) := by decide +kernel
theorem dX7_kindOf_56 : decode cX7_kindOf 56 = .ok (.invokevirtual 141, 3) := by decide +kernel
theorem dX7_kindOf_59 : decode cX7_kindOf 59 = .ok (.ifCond .le 7, 3) := by decide +kernel
theorem dX7_kindOf_62 : decode cX7_kindOf 62 = .ok (.iconst 5, 1) := by decide +kernel
theorem dX7_kindOf_63 : decode cX7_kindOf 63 = .ok (.goto 4, 3) := by decide +kernel
theorem dX7_kindOf_66 : decode cX7_kindOf 66 = .ok (.iconst 1, 1) := by decide +kernel
theorem dX7_kindOf_67 : decode cX7_kindOf 67 = .ok (.ireturn, 1) := by decide +kernel
set_option maxRecDepth 20000 in
theorem ggX7_barred_X7_isCell : GoodIn wsX7_barred wsX7_isCell := goodIn_r _ [6, 7, 8, 5, 9] (by decide +kernel) (by decide +kernel)
set_option maxRecDepth 20000 in
theorem gX7_barred_X7_isCell : GoodIn wsX7_barred (va_wsS RX7 51 yX7_isCell wsX7_isCell) := goodIn_app (goodIn_of _ (by decide +kernel)) ggX7_barred_X7_isCell
set_option maxRecDepth 20000 in
theorem ggX7_barred_X7_in : GoodIn wsX7_barred wsX7_in := goodIn_r _ [9] (by decide +kernel) (by decide +kernel)
set_option maxRecDepth 20000 in
theorem gX7_barred_X7_in : GoodIn wsX7_barred (va_wsS RX7 43 yX7_in wsX7_in) := goodIn_app (goodIn_of _ (by decide +kernel)) ggX7_barred_X7_in
set_option maxRecDepth 20000 in
theorem ggX7_barred_X7_goPlain : GoodIn wsX7_barred wsX7_goPlain := goodIn_r _ [13, 14, 1, 15, 2, 16, 17, 18, 19, 20, 21, 22, 5, 23, 24, 25, 26, 27, 28, 29, 30, 31, 32, 33, 34, 35, 36, 37, 38, 39, 40, 41, 42, 43, 44, 7, 8, 9, 45, 46, 47, 48, 49, 50, 51, 52, 53, 54, 55, 56, 57, 58, 59, 60, 61, 62, 63, 64, 65, 66, 67, 68, 69, 70, 71, 72, 73, 74, 75, 76, 77, 78, 79, 80, 81, 82, 83, 84, 85, 86, 87, 88, 89, 90, 91] (by decide +kernel) (by decide +kernel)
set_option maxRecDepth 20000 in
theorem gX7_barred_X7_goPlain : GoodIn wsX7_barred (wsV RX7 138 RX7 yX7_goPlain wsX7_goPlain) := goodIn_app (goodIn_of _ (by decide +kernel)) ggX7_barred_X7_goPlain
theorem dX7_barred_0 : decode cX7_barred 0 = .ok (.iload_n 1, 1) := by decide +kernel
theorem dX7_barred_1 : decode cX7_barred 1 = .ok (.invokestatic 51, 3) := by decide +kernel
theorem dX7_barred_4 : decode cX7_barred 4 = .ok (.ifCond .ne 6, 3) := by decide +kernel
theorem dX7_barred_7 : decode cX7_barred 7 = .ok (.bipush (-101), 2) := by decide +kernel
theorem dX7_barred_9 : decode cX7_barred 9 = .ok (.ireturn, 1) := by decide +kernel
theorem dX7_barred_10 : decode cX7_barred 10 = .ok (.iload_n 3, 1) := by decide +kernel
theorem dX7_barred_11 : decode cX7_barred 11 = .ok (.iconst 1, 1) := by decide +kernel
theorem dX7_barred_12 : decode cX7_barred 12 = .ok (.iconst 2, 1) := by decide +kernel
theorem dX7_barred_13 : decode cX7_barred 13 = .ok (.invokestatic 43, 3) := by decide +kernel
theorem dX7_barred_16 : decode cX7_barred 16 = .ok (.ifCond .eq 15, 3) := by decide +kernel
theorem dX7_barred_19 : decode cX7_barred 19 = .ok (.iload_n 2, 1) := by decide +kernel
theorem dX7_barred_20 : decode cX7_barred 20 = .ok (.iconst 0, 1) := by decide +kernel
theorem dX7_barred_21 : decode cX7_barred 21 = .ok (.bipush 8, 2) := by decide +kernel
theorem dX7_barred_23 : decode cX7_barred 23 = .ok (.iload_n 3, 1) := by decide +kernel
theorem dX7_barred_24 : decode cX7_barred 24 = .ok (.isub, 1) := by decide +kernel
theorem dX7_barred_25 : decode cX7_barred 25 = .ok (.invokestatic 43, 3) := by decide +kernel
theorem dX7_barred_28 : decode cX7_barred 28 = .ok (.ifCond .ne 6, 3) := by decide +kernel
theorem dX7_barred_31 : decode cX7_barred 31 = .ok (.bipush (-102), 2) := by decide +kernel
theorem dX7_barred_33 : decode cX7_barred 33 = .ok (.ireturn, 1) := by decide +kernel
theorem dX7_barred_34 : decode cX7_barred 34 = .ok (.aload_n 0, 1) := by decide +kernel
theorem dX7_barred_35 : decode cX7_barred 35 = .ok (.invokevirtual 138, 3) := by decide +kernel
theorem dX7_barred_38 : decode cX7_barred 38 = .ok (.aload_n 0, 1) := by decide +kernel
theorem dX7_barred_39 : decode cX7_barred 39 = .ok (.getfield 129, 3) := by decide +kernel
theorem dX7_barred_42 : decode cX7_barred 42 = .ok (.iconst 1, 1) := by decide +kernel
theorem dX7_barred_43 : decode cX7_barred 43 = .ok (.if_icmp .eq 8, 3) := by decide +kernel
theorem dX7_barred_46 : decode cX7_barred 46 = .ok (.bipush (-103), 2) := by decide +kernel
theorem dX7_barred_48 : decode cX7_barred 48 = .ok (.goto 24, 3) := by decide +kernel
theorem dX7_barred_51 : decode cX7_barred 51 = .ok (.iload 4, 2) := by decide +kernel
theorem dX7_barred_53 : decode cX7_barred 53 = .ok (.iconst 0, 1) := by decide +kernel
theorem dX7_barred_54 : decode cX7_barred 54 = .ok (.aload_n 0, 1) := by decide +kernel
theorem dX7_barred_55 : decode cX7_barred 55 = .ok (.getfield 132, 3) := by decide +kernel
theorem dX7_barred_58 : decode cX7_barred 58 = .ok (.iconst 1, 1) := by decide +kernel
theorem dX7_barred_59 : decode cX7_barred 59 = .ok (.isub, 1) := by decide +kernel
theorem dX7_barred_60 : decode cX7_barred 60 = .ok (.invokestatic 43, 3) := by decide +kernel
theorem dX7_barred_63 : decode cX7_barred 63 = .ok (.ifCond .eq 7, 3) := by decide +kernel
theorem dX7_barred_66 : decode cX7_barred 66 = .ok (.iconst 0, 1) := by decide +kernel
theorem dX7_barred_67 : decode cX7_barred 67 = .ok (.goto 5, 3) := by decide +kernel
theorem dX7_barred_70 : decode cX7_barred 70 = .ok (.bipush (-102), 2) := by decide +kernel
theorem dX7_barred_72 : decode cX7_barred 72 = .ok (.ireturn, 1) := by decide +kernel
set_option maxRecDepth 20000 in
theorem ggX7_flip_X7_barred : GoodIn wsX7_flip wsX7_barred := goodIn_r _ [6, 7, 8, 9, 10, 5, 11, 12, 13, 14, 15, 16, 17, 18, 19, 20, 21, 22, 23, 24, 25, 26, 27, 28, 29, 30, 31, 32, 33, 34, 35, 36, 37, 38, 39, 40, 41, 42, 43, 44, 45, 46, 47, 48, 49, 50, 51, 52, 53, 54, 55, 56, 57, 58, 59, 60, 61, 62, 63, 64, 65, 66, 75, 76, 77, 78, 79, 80, 81, 82, 83, 84, 85, 86, 87, 88, 89, 90, 91, 92, 93, 94, 95, 96, 97, 98, 99, 100, 101, 102, 103, 104] (by decide +kernel) (by decide +kernel)
set_option maxRecDepth 20000 in
theorem gX7_flip_X7_barred : GoodIn wsX7_flip (wsV RX7 145 RX7 yX7_barred wsX7_barred) := goodIn_app (goodIn_of _ (by decide +kernel)) ggX7_flip_X7_barred
set_option maxRecDepth 20000 in
theorem ggX7_flip_X7_kindOf : GoodIn wsX7_flip wsX7_kindOf := goodIn_r _ [70, 36, 35, 19, 25, 26, 27, 5, 28, 29, 30, 31, 32, 33, 20, 21, 34, 37, 38, 39, 40, 41, 42, 43, 44, 45, 24, 46, 47, 48, 49, 12, 13, 14, 50, 51, 52, 53, 54, 55, 56, 57, 58, 59, 60, 61, 62, 63, 64, 65, 66, 71, 72, 73, 74, 22, 23, 75, 76, 77, 78, 79, 80, 81, 82, 83, 84, 85, 86, 87, 88, 89, 90, 91, 92, 93, 94, 95, 96, 97, 98, 99, 100, 101, 102, 103, 104] (by decide +kernel) (by decide +kernel)
set_option maxRecDepth 20000 in
theorem gX7_flip_X7_kindOf : GoodIn wsX7_flip (wsV RX7 149 RX7 yX7_kindOf wsX7_kindOf) := goodIn_app (goodIn_of _ (by decide +kernel)) ggX7_flip_X7_kindOf
theorem dX7_flip_0 : decode cX7_flip 0 = .ok (.aload_n 0, 1) := by decide +kernel
theorem dX7_flip_1 : decode cX7_flip 1 = .ok (.iload_n 1, 1) := by decide +kernel
theorem dX7_flip_2 : decode cX7_flip 2 = .ok (.iload_n 2, 1) := by decide +kernel
theorem dX7_flip_3 : decode cX7_flip 3 = .ok (.iload_n 3, 1) := by decide +kernel
theorem dX7_flip_4 : decode cX7_flip 4 = .ok (.iload 4, 2) := by decide +kernel
theorem dX7_flip_6 : decode cX7_flip 6 = .ok (.invokevirtual 145, 3) := by decide +kernel
theorem dX7_flip_9 : decode cX7_flip 9 = .ok (.istore 5, 2) := by decide +kernel
theorem dX7_flip_11 : decode cX7_flip 11 = .ok (.iload 5, 2) := by decide +kernel
theorem dX7_flip_13 : decode cX7_flip 13 = .ok (.ifCond .eq 8, 3) := by decide +kernel
theorem dX7_flip_16 : decode cX7_flip 16 = .ok (.iload 5, 2) := by decide +kernel
theorem dX7_flip_18 : decode cX7_flip 18 = .ok (.goto 18, 3) := by decide +kernel
theorem dX7_flip_21 : decode cX7_flip 21 = .ok (.aload_n 0, 1) := by decide +kernel
theorem dX7_flip_22 : decode cX7_flip 22 = .ok (.iload_n 1, 1) := by decide +kernel
theorem dX7_flip_23 : decode cX7_flip 23 = .ok (.iload_n 2, 1) := by decide +kernel
theorem dX7_flip_24 : decode cX7_flip 24 = .ok (.iload_n 3, 1) := by decide +kernel
theorem dX7_flip_25 : decode cX7_flip 25 = .ok (.iload 4, 2) := by decide +kernel
theorem dX7_flip_27 : decode cX7_flip 27 = .ok (.aload_n 0, 1) := by decide +kernel
theorem dX7_flip_28 : decode cX7_flip 28 = .ok (.getfield 22, 3) := by decide +kernel
theorem dX7_flip_31 : decode cX7_flip 31 = .ok (.iload_n 1, 1) := by decide +kernel
theorem dX7_flip_32 : decode cX7_flip 32 = .ok (.iaload, 1) := by decide +kernel
theorem dX7_flip_33 : decode cX7_flip 33 = .ok (.invokevirtual 149, 3) := by decide +kernel
theorem dX7_flip_36 : decode cX7_flip 36 = .ok (.ireturn, 1) := by decide +kernel
set_option maxRecDepth 20000 in
theorem ggX7_harm_X7_barred : GoodIn wsX7_harm wsX7_barred := goodIn_r _ [6, 7, 8, 9, 10, 5, 11, 12, 13, 14, 15, 16, 17, 18, 19, 20, 21, 22, 23, 24, 25, 26, 27, 28, 29, 30, 31, 32, 33, 34, 35, 36, 37, 38, 39, 40, 41, 42, 43, 44, 45, 46, 47, 48, 49, 50, 51, 52, 53, 54, 55, 56, 57, 58, 59, 60, 61, 62, 63, 64, 65, 66, 75, 76, 77, 78, 79, 80, 81, 82, 83, 84, 85, 86, 87, 88, 89, 90, 91, 92, 93, 94, 95, 96, 97, 98, 99, 100, 101, 102, 103, 104] (by decide +kernel) (by decide +kernel)
set_option maxRecDepth 20000 in
theorem gX7_harm_X7_barred : GoodIn wsX7_harm (wsV RX7 145 RX7 yX7_barred wsX7_barred) := goodIn_app (goodIn_of _ (by decide +kernel)) ggX7_harm_X7_barred
set_option maxRecDepth 20000 in
theorem ggX7_harm_X7_kindOf : GoodIn wsX7_harm wsX7_kindOf := goodIn_r _ [70, 36, 35, 19, 25, 26, 27, 5, 28, 29, 30, 31, 32, 33, 20, 21, 34, 37, 38, 39, 40, 41, 42, 43, 44, 45, 24, 46, 47, 48, 49, 12, 13, 14, 50, 51, 52, 53, 54, 55, 56, 57, 58, 59, 60, 61, 62, 63, 64, 65, 66, 71, 72, 73, 74, 22, 23, 75, 76, 77, 78, 79, 80, 81, 82, 83, 84, 85, 86, 87, 88, 89, 90, 91, 92, 93, 94, 95, 96, 97, 98, 99, 100, 101, 102, 103, 104] (by decide +kernel) (by decide +kernel)
set_option maxRecDepth 20000 in
theorem gX7_harm_X7_kindOf : GoodIn wsX7_harm (wsV RX7 149 RX7 yX7_kindOf wsX7_kindOf) := goodIn_app (goodIn_of _ (by decide +kernel)) ggX7_harm_X7_kindOf
set_option maxRecDepth 20000 in
theorem ggX7_harm_X7_harmNow : GoodIn wsX7_harm wsX7_harmNow := goodIn_r _ [74, 21, 22, 24, 23, 75, 76, 77, 78, 79, 80, 81, 82, 83, 84, 85, 86, 87, 88, 89, 90, 91, 92, 93, 94, 95, 96, 97, 98, 99, 100, 101, 102, 103, 104] (by decide +kernel) (by decide +kernel)
set_option maxRecDepth 20000 in
theorem gX7_harm_X7_harmNow : GoodIn wsX7_harm (wsV RX7 141 RX7 yX7_harmNow wsX7_harmNow) := goodIn_app (goodIn_of _ (by decide +kernel)) ggX7_harm_X7_harmNow
theorem dX7_harm_0 : decode cX7_harm 0 = .ok (.aload_n 0, 1) := by decide +kernel
theorem dX7_harm_1 : decode cX7_harm 1 = .ok (.iload_n 1, 1) := by decide +kernel
theorem dX7_harm_2 : decode cX7_harm 2 = .ok (.iload_n 2, 1) := by decide +kernel
theorem dX7_harm_3 : decode cX7_harm 3 = .ok (.iload_n 3, 1) := by decide +kernel
theorem dX7_harm_4 : decode cX7_harm 4 = .ok (.iload 4, 2) := by decide +kernel
theorem dX7_harm_6 : decode cX7_harm 6 = .ok (.invokevirtual 145, 3) := by decide +kernel
theorem dX7_harm_9 : decode cX7_harm 9 = .ok (.istore 5, 2) := by decide +kernel
theorem dX7_harm_11 : decode cX7_harm 11 = .ok (.iload 5, 2) := by decide +kernel
theorem dX7_harm_13 : decode cX7_harm 13 = .ok (.ifCond .eq 6, 3) := by decide +kernel
theorem dX7_harm_16 : decode cX7_harm 16 = .ok (.iload 5, 2) := by decide +kernel
theorem dX7_harm_18 : decode cX7_harm 18 = .ok (.ireturn, 1) := by decide +kernel
theorem dX7_harm_19 : decode cX7_harm 19 = .ok (.aload_n 0, 1) := by decide +kernel
theorem dX7_harm_20 : decode cX7_harm 20 = .ok (.iload_n 1, 1) := by decide +kernel
theorem dX7_harm_21 : decode cX7_harm 21 = .ok (.iload_n 2, 1) := by decide +kernel
theorem dX7_harm_22 : decode cX7_harm 22 = .ok (.iload_n 3, 1) := by decide +kernel
theorem dX7_harm_23 : decode cX7_harm 23 = .ok (.iload 4, 2) := by decide +kernel
theorem dX7_harm_25 : decode cX7_harm 25 = .ok (.aload_n 0, 1) := by decide +kernel
theorem dX7_harm_26 : decode cX7_harm 26 = .ok (.getfield 22, 3) := by decide +kernel
theorem dX7_harm_29 : decode cX7_harm 29 = .ok (.iload_n 1, 1) := by decide +kernel
theorem dX7_harm_30 : decode cX7_harm 30 = .ok (.iaload, 1) := by decide +kernel
theorem dX7_harm_31 : decode cX7_harm 31 = .ok (.invokevirtual 149, 3) := by decide +kernel
theorem dX7_harm_34 : decode cX7_harm 34 = .ok (.iconst 5, 1) := by decide +kernel
theorem dX7_harm_35 : decode cX7_harm 35 = .ok (.if_icmp .ne 10, 3) := by decide +kernel
theorem dX7_harm_38 : decode cX7_harm 38 = .ok (.aload_n 0, 1) := by decide +kernel
theorem dX7_harm_39 : decode cX7_harm 39 = .ok (.invokevirtual 141, 3) := by decide +kernel
theorem dX7_harm_42 : decode cX7_harm 42 = .ok (.goto 4, 3) := by decide +kernel
theorem dX7_harm_45 : decode cX7_harm 45 = .ok (.iconst 0, 1) := by decide +kernel
