set_option maxRecDepth 20000 in
theorem ggX5_init_X5_begins : GoodIn wsX5_init wsX5_begins := goodIn_r _ [25, 13, 11, 9, 8, 26, 27, 28, 29, 30, 31, 32, 33, 34, 35, 36, 37, 38, 39, 40, 41, 42, 43, 44, 45, 46, 47, 48, 49, 50, 51, 52, 53, 54] (by decide +kernel) (by decide +kernel)
set_option maxRecDepth 20000 in
theorem gX5_init_X5_begins : GoodIn wsX5_init (wsV RX5 56 RX5 yX5_begins wsX5_begins) := goodIn_app (goodIn_of _ (by decide +kernel)) ggX5_init_X5_begins
theorem dX5_init_0 : decode cX5_init 0 = .ok (.aload_n 0, 1) := by decide +kernel
theorem dX5_init_1 : decode cX5_init 1 = .ok (.invokespecial 1, 3) := by decide +kernel
theorem dX5_init_4 : decode cX5_init 4 = .ok (.aload_n 0, 1) := by decide +kernel
theorem dX5_init_5 : decode cX5_init 5 = .ok (.sipush 400, 3) := by decide +kernel
theorem dX5_init_8 : decode cX5_init 8 = .ok (.newarray .int, 2) := by decide +kernel
theorem dX5_init_10 : decode cX5_init 10 = .ok (.putfield 7, 3) := by decide +kernel
theorem dX5_init_13 : decode cX5_init 13 = .ok (.aload_n 0, 1) := by decide +kernel
theorem dX5_init_14 : decode cX5_init 14 = .ok (.bipush 12, 2) := by decide +kernel
theorem dX5_init_16 : decode cX5_init 16 = .ok (.newarray .int, 2) := by decide +kernel
theorem dX5_init_18 : decode cX5_init 18 = .ok (.putfield 13, 3) := by decide +kernel
theorem dX5_init_21 : decode cX5_init 21 = .ok (.aload_n 0, 1) := by decide +kernel
theorem dX5_init_22 : decode cX5_init 22 = .ok (.bipush 12, 2) := by decide +kernel
theorem dX5_init_24 : decode cX5_init 24 = .ok (.newarray .int, 2) := by decide +kernel
theorem dX5_init_26 : decode cX5_init 26 = .ok (.putfield 16, 3) := by decide +kernel
theorem dX5_init_29 : decode cX5_init 29 = .ok (.aload_n 0, 1) := by decide +kernel
theorem dX5_init_30 : decode cX5_init 30 = .ok (.bipush 72, 2) := by decide +kernel
theorem dX5_init_32 : decode cX5_init 32 = .ok (.newarray .int, 2) := by decide +kernel
theorem dX5_init_34 : decode cX5_init 34 = .ok (.putfield 19, 3) := by decide +kernel
theorem dX5_init_37 : decode cX5_init 37 = .ok (.aload_n 0, 1) := by decide +kernel
theorem dX5_init_38 : decode cX5_init 38 = .ok (.bipush 12, 2) := by decide +kernel
theorem dX5_init_40 : decode cX5_init 40 = .ok (.newarray .int, 2) := by decide +kernel
theorem dX5_init_42 : decode cX5_init 42 = .ok (.putfield 22, 3) := by decide +kernel
theorem dX5_init_45 : decode cX5_init 45 = .ok (.aload_n 0, 1) := by decide +kernel
theorem dX5_init_46 : decode cX5_init 46 = .ok (.bipush 12, 2) := by decide +kernel
theorem dX5_init_48 : decode cX5_init 48 = .ok (.newarray .int, 2) := by decide +kernel
theorem dX5_init_50 : decode cX5_init 50 = .ok (.putfield 25, 3) := by decide +kernel
theorem dX5_init_53 : decode cX5_init 53 = .ok (.aload_n 0, 1) := by decide +kernel
theorem dX5_init_54 : decode cX5_init 54 = .ok (.bipush 12, 2) := by decide +kernel
theorem dX5_init_56 : decode cX5_init 56 = .ok (.newarray .int, 2) := by decide +kernel
theorem dX5_init_58 : decode cX5_init 58 = .ok (.putfield 28, 3) := by decide +kernel
theorem dX5_init_61 : decode cX5_init 61 = .ok (.aload_n 0, 1) := by decide +kernel
theorem dX5_init_62 : decode cX5_init 62 = .ok (.iconst 3, 1) := by decide +kernel
theorem dX5_init_63 : decode cX5_init 63 = .ok (.newarray .int, 2) := by decide +kernel
theorem dX5_init_65 : decode cX5_init 65 = .ok (.putfield 31, 3) := by decide +kernel
theorem dX5_init_68 : decode cX5_init 68 = .ok (.aload_n 0, 1) := by decide +kernel
theorem dX5_init_69 : decode cX5_init 69 = .ok (.bipush 105, 2) := by decide +kernel
theorem dX5_init_71 : decode cX5_init 71 = .ok (.newarray .int, 2) := by decide +kernel
theorem dX5_init_73 : decode cX5_init 73 = .ok (.putfield 34, 3) := by decide +kernel
theorem dX5_init_76 : decode cX5_init 76 = .ok (.aload_n 0, 1) := by decide +kernel
theorem dX5_init_77 : decode cX5_init 77 = .ok (.bipush 105, 2) := by decide +kernel
theorem dX5_init_79 : decode cX5_init 79 = .ok (.newarray .int, 2) := by decide +kernel
theorem dX5_init_81 : decode cX5_init 81 = .ok (.putfield 37, 3) := by decide +kernel
theorem dX5_init_84 : decode cX5_init 84 = .ok (.aload_n 0, 1) := by decide +kernel
theorem dX5_init_85 : decode cX5_init 85 = .ok (.sipush 210, 3) := by decide +kernel
theorem dX5_init_88 : decode cX5_init 88 = .ok (.newarray .int, 2) := by decide +kernel
theorem dX5_init_90 : decode cX5_init 90 = .ok (.putfield 40, 3) := by decide +kernel
theorem dX5_init_93 : decode cX5_init 93 = .ok (.aload_n 0, 1) := by decide +kernel
theorem dX5_init_94 : decode cX5_init 94 = .ok (.iconst 2, 1) := by decide +kernel
theorem dX5_init_95 : decode cX5_init 95 = .ok (.newarray .boolean, 2) := by decide +kernel
theorem dX5_init_97 : decode cX5_init 97 = .ok (.putfield 43, 3) := by decide +kernel
theorem dX5_init_100 : decode cX5_init 100 = .ok (.aload_n 0, 1) := by decide +kernel
theorem dX5_init_101 : decode cX5_init 101 = .ok (.bipush 6, 2) := by decide +kernel
theorem dX5_init_103 : decode cX5_init 103 = .ok (.newarray .int, 2) := by decide +kernel
theorem dX5_init_105 : decode cX5_init 105 = .ok (.putfield 47, 3) := by decide +kernel
theorem dX5_init_108 : decode cX5_init 108 = .ok (.aload_n 0, 1) := by decide +kernel
theorem dX5_init_109 : decode cX5_init 109 = .ok (.bipush 6, 2) := by decide +kernel
theorem dX5_init_111 : decode cX5_init 111 = .ok (.newarray .int, 2) := by decide +kernel
theorem dX5_init_113 : decode cX5_init 113 = .ok (.putfield 50, 3) := by decide +kernel
theorem dX5_init_116 : decode cX5_init 116 = .ok (.aload_n 0, 1) := by decide +kernel
theorem dX5_init_117 : decode cX5_init 117 = .ok (.bipush 6, 2) := by decide +kernel
theorem dX5_init_119 : decode cX5_init 119 = .ok (.newarray .int, 2) := by decide +kernel
theorem dX5_init_121 : decode cX5_init 121 = .ok (.putfield 53, 3) := by decide +kernel
theorem dX5_init_124 : decode cX5_init 124 = .ok (.aload_n 0, 1) := by decide +kernel
theorem dX5_init_125 : decode cX5_init 125 = .ok (.getfield 31, 3) := by decide +kernel
theorem dX5_init_128 : decode cX5_init 128 = .ok (.iconst 0, 1) := by decide +kernel
theorem dX5_init_129 : decode cX5_init 129 = .ok (.iconst 4, 1) := by decide +kernel
theorem dX5_init_130 : decode cX5_init 130 = .ok (.iastore, 1) := by decide +kernel
theorem dX5_init_131 : decode cX5_init 131 = .ok (.aload_n 0, 1) := by decide +kernel
theorem dX5_init_132 : decode cX5_init 132 = .ok (.getfield 31, 3) := by decide +kernel
theorem dX5_init_135 : decode cX5_init 135 = .ok (.iconst 1, 1) := by decide +kernel
theorem dX5_init_136 : decode cX5_init 136 = .ok (.iconst 5, 1) := by decide +kernel
theorem dX5_init_137 : decode cX5_init 137 = .ok (.iastore, 1) := by decide +kernel
theorem dX5_init_138 : decode cX5_init 138 = .ok (.aload_n 0, 1) := by decide +kernel
theorem dX5_init_139 : decode cX5_init 139 = .ok (.getfield 31, 3) := by decide +kernel
theorem dX5_init_142 : decode cX5_init 142 = .ok (.iconst 2, 1) := by decide +kernel
theorem dX5_init_143 : decode cX5_init 143 = .ok (.bipush 10, 2) := by decide +kernel
theorem dX5_init_145 : decode cX5_init 145 = .ok (.iastore, 1) := by decide +kernel
theorem dX5_init_146 : decode cX5_init 146 = .ok (.aload_n 0, 1) := by decide +kernel
theorem dX5_init_147 : decode cX5_init 147 = .ok (.invokevirtual 56, 3) := by decide +kernel
theorem dX5_init_150 : decode cX5_init 150 = .ok (.return_, 1) := by decide +kernel
theorem dX5_in_0 : decode cX5_in 0 = .ok (.iload_n 0, 1) := by decide +kernel
theorem dX5_in_1 : decode cX5_in 1 = .ok (.iload_n 1, 1) := by decide +kernel
theorem dX5_in_2 : decode cX5_in 2 = .ok (.if_icmp .lt 12, 3) := by decide +kernel
theorem dX5_in_5 : decode cX5_in 5 = .ok (.iload_n 0, 1) := by decide +kernel
theorem dX5_in_6 : decode cX5_in 6 = .ok (.iload_n 2, 1) := by decide +kernel
theorem dX5_in_7 : decode cX5_in 7 = .ok (.if_icmp .gt 7, 3) := by decide +kernel
theorem dX5_in_10 : decode cX5_in 10 = .ok (.iconst 1, 1) := by decide +kernel
theorem dX5_in_11 : decode cX5_in 11 = .ok (.goto 4, 3) := by decide +kernel
theorem dX5_in_14 : decode cX5_in 14 = .ok (.iconst 0, 1) := by decide +kernel
theorem dX5_in_15 : decode cX5_in 15 = .ok (.ireturn, 1) := by decide +kernel
set_option maxRecDepth 20000 in
theorem ggX5_type_X5_in : GoodIn wsX5_type wsX5_in := goodIn_r _ [8] (by decide +kernel) (by decide +kernel)
set_option maxRecDepth 20000 in
theorem gX5_type_X5_in : GoodIn wsX5_type (va_wsS RX5 63 yX5_in wsX5_in) := goodIn_app (goodIn_of _ (by decide +kernel)) ggX5_type_X5_in
theorem dX5_type_0 : decode cX5_type 0 = .ok (.aload_n 0, 1) := by decide +kernel
theorem dX5_type_1 : decode cX5_type 1 = .ok (.iconst 0, 1) := by decide +kernel
theorem dX5_type_2 : decode cX5_type 2 = .ok (.putfield 59, 3) := by decide +kernel
theorem dX5_type_5 : decode cX5_type 5 = .ok (.iload_n 3, 1) := by decide +kernel
theorem dX5_type_6 : decode cX5_type 6 = .ok (.iconst 1, 1) := by decide +kernel
theorem dX5_type_7 : decode cX5_type 7 = .ok (.bipush 8, 2) := by decide +kernel
theorem dX5_type_9 : decode cX5_type 9 = .ok (.invokestatic 63, 3) := by decide +kernel
theorem dX5_type_12 : decode cX5_type 12 = .ok (.ifCond .ne 5, 3) := by decide +kernel
theorem dX5_type_15 : decode cX5_type 15 = .ok (.iconst (-1), 1) := by decide +kernel
theorem dX5_type_16 : decode cX5_type 16 = .ok (.ireturn, 1) := by decide +kernel
theorem dX5_type_17 : decode cX5_type 17 = .ok (.aload_n 0, 1) := by decide +kernel
theorem dX5_type_18 : decode cX5_type 18 = .ok (.getfield 67, 3) := by decide +kernel
theorem dX5_type_21 : decode cX5_type 21 = .ok (.iload_n 3, 1) := by decide +kernel
theorem dX5_type_22 : decode cX5_type 22 = .ok (.iadd, 1) := by decide +kernel
theorem dX5_type_23 : decode cX5_type 23 = .ok (.sipush 400, 3) := by decide +kernel
theorem dX5_type_26 : decode cX5_type 26 = .ok (.if_icmp .le 6, 3) := by decide +kernel
theorem dX5_type_29 : decode cX5_type 29 = .ok (.bipush (-3), 2) := by decide +kernel
theorem dX5_type_31 : decode cX5_type 31 = .ok (.ireturn, 1) := by decide +kernel
theorem dX5_type_32 : decode cX5_type 32 = .ok (.iload_n 3, 1) := by decide +kernel
theorem dX5_type_33 : decode cX5_type 33 = .ok (.iconst 1, 1) := by decide +kernel
theorem dX5_type_34 : decode cX5_type 34 = .ok (.isub, 1) := by decide +kernel
theorem dX5_type_35 : decode cX5_type 35 = .ok (.istore 4, 2) := by decide +kernel
theorem dX5_type_37 : decode cX5_type 37 = .ok (.iload 4, 2) := by decide +kernel
theorem dX5_type_39 : decode cX5_type 39 = .ok (.ifCond .lt 40, 3) := by decide +kernel
theorem dX5_type_42 : decode cX5_type 42 = .ok (.aload_n 0, 1) := by decide +kernel
theorem dX5_type_43 : decode cX5_type 43 = .ok (.getfield 7, 3) := by decide +kernel
theorem dX5_type_46 : decode cX5_type 46 = .ok (.aload_n 0, 1) := by decide +kernel
theorem dX5_type_47 : decode cX5_type 47 = .ok (.getfield 67, 3) := by decide +kernel
theorem dX5_type_50 : decode cX5_type 50 = .ok (.lload_n 1, 1) := by decide +kernel
theorem dX5_type_51 : decode cX5_type 51 = .ok (.bipush 8, 2) := by decide +kernel
theorem dX5_type_53 : decode cX5_type 53 = .ok (.iload 4, 2) := by decide +kernel
theorem dX5_type_55 : decode cX5_type 55 = .ok (.imul, 1) := by decide +kernel
theorem dX5_type_56 : decode cX5_type 56 = .ok (.lshr, 1) := by decide +kernel
theorem dX5_type_57 : decode cX5_type 57 = .ok (.ldc2_w 70, 3) := by decide +kernel
theorem dX5_type_60 : decode cX5_type 60 = .ok (.land, 1) := by decide +kernel
theorem dX5_type_61 : decode cX5_type 61 = .ok (.l2i, 1) := by decide +kernel
theorem dX5_type_62 : decode cX5_type 62 = .ok (.iastore, 1) := by decide +kernel
theorem dX5_type_63 : decode cX5_type 63 = .ok (.aload_n 0, 1) := by decide +kernel
theorem dX5_type_64 : decode cX5_type 64 = .ok (.dup, 1) := by decide +kernel
theorem dX5_type_65 : decode cX5_type 65 = .ok (.getfield 67, 3) := by decide +kernel
theorem dX5_type_68 : decode cX5_type 68 = .ok (.iconst 1, 1) := by decide +kernel
theorem dX5_type_69 : decode cX5_type 69 = .ok (.iadd, 1) := by decide +kernel
theorem dX5_type_70 : decode cX5_type 70 = .ok (.putfield 67, 3) := by decide +kernel
theorem dX5_type_73 : decode cX5_type 73 = .ok (.iinc 4 (-1), 3) := by decide +kernel
theorem dX5_type_76 : decode cX5_type 76 = .ok (.goto (-39), 3) := by decide +kernel
theorem dX5_type_79 : decode cX5_type 79 = .ok (.aload_n 0, 1) := by decide +kernel
theorem dX5_type_80 : decode cX5_type 80 = .ok (.getfield 67, 3) := by decide +kernel
theorem dX5_type_83 : decode cX5_type 83 = .ok (.ireturn, 1) := by decide +kernel
theorem dX5_clear_0 : decode cX5_clear 0 = .ok (.aload_n 0, 1) := by decide +kernel
theorem dX5_clear_1 : decode cX5_clear 1 = .ok (.iconst 0, 1) := by decide +kernel
theorem dX5_clear_2 : decode cX5_clear 2 = .ok (.putfield 59, 3) := by decide +kernel
theorem dX5_clear_5 : decode cX5_clear 5 = .ok (.aload_n 0, 1) := by decide +kernel
theorem dX5_clear_6 : decode cX5_clear 6 = .ok (.getfield 67, 3) := by decide +kernel
theorem dX5_clear_9 : decode cX5_clear 9 = .ok (.istore_n 1, 1) := by decide +kernel
theorem dX5_clear_10 : decode cX5_clear 10 = .ok (.aload_n 0, 1) := by decide +kernel
theorem dX5_clear_11 : decode cX5_clear 11 = .ok (.iconst 0, 1) := by decide +kernel
theorem dX5_clear_12 : decode cX5_clear 12 = .ok (.putfield 67, 3) := by decide +kernel
theorem dX5_clear_15 : decode cX5_clear 15 = .ok (.iload_n 1, 1) := by decide +kernel
theorem dX5_clear_16 : decode cX5_clear 16 = .ok (.ireturn, 1) := by decide +kernel
theorem dX5_byteAt_0 : decode cX5_byteAt 0 = .ok (.iload_n 1, 1) := by decide +kernel
theorem dX5_byteAt_1 : decode cX5_byteAt 1 = .ok (.aload_n 0, 1) := by decide +kernel
theorem dX5_byteAt_2 : decode cX5_byteAt 2 = .ok (.getfield 67, 3) := by decide +kernel
theorem dX5_byteAt_5 : decode cX5_byteAt 5 = .ok (.if_icmp .ge 12, 3) := by decide +kernel
theorem dX5_byteAt_8 : decode cX5_byteAt 8 = .ok (.aload_n 0, 1) := by decide +kernel
theorem dX5_byteAt_9 : decode cX5_byteAt 9 = .ok (.getfield 7, 3) := by decide +kernel
theorem dX5_byteAt_12 : decode cX5_byteAt 12 = .ok (.iload_n 1, 1) := by decide +kernel
theorem dX5_byteAt_13 : decode cX5_byteAt 13 = .ok (.iaload, 1) := by decide +kernel
theorem dX5_byteAt_14 : decode cX5_byteAt 14 = .ok (.goto 4, 3) := by decide +kernel
theorem dX5_byteAt_17 : decode cX5_byteAt 17 = .ok (.iconst (-1), 1) := by decide +kernel
theorem dX5_byteAt_18 : decode cX5_byteAt 18 = .ok (.ireturn, 1) := by decide +kernel
theorem dX5_add_0 : decode cX5_add 0 = .ok (.iload_n 2, 1) := by decide +kernel
theorem dX5_add_1 : decode cX5_add 1 = .ok (.ifCond .ne 7, 3) := by decide +kernel
theorem dX5_add_4 : decode cX5_add 4 = .ok (.lload_n 0, 1) := by decide +kernel
theorem dX5_add_5 : decode cX5_add 5 = .ok (.goto 11, 3) := by decide +kernel
theorem dX5_add_8 : decode cX5_add 8 = .ok (.ldc2_w 72, 3) := by decide +kernel
theorem dX5_add_11 : decode cX5_add 11 = .ok (.lload_n 0, 1) := by decide +kernel
theorem dX5_add_12 : decode cX5_add 12 = .ok (.lmul, 1) := by decide +kernel
theorem dX5_add_13 : decode cX5_add 13 = .ok (.iload_n 2, 1) := by decide +kernel
theorem dX5_add_14 : decode cX5_add 14 = .ok (.i2l, 1) := by decide +kernel
theorem dX5_add_15 : decode cX5_add 15 = .ok (.ladd, 1) := by decide +kernel
theorem dX5_add_16 : decode cX5_add 16 = .ok (.lreturn, 1) := by decide +kernel
set_option maxRecDepth 20000 in
theorem ggX5_named_X5_add : GoodIn wsX5_named wsX5_add := goodIn_r _ [4, 5] (by decide +kernel) (by decide +kernel)
set_option maxRecDepth 20000 in
theorem gX5_named_X5_add : GoodIn wsX5_named (va_wsS RX5 74 yX5_add wsX5_add) := goodIn_app (goodIn_of _ (by decide +kernel)) ggX5_named_X5_add
theorem dX5_named_0 : decode cX5_named 0 = .ok (.lconst 0, 1) := by decide +kernel
theorem dX5_named_1 : decode cX5_named 1 = .ok (.iload_n 0, 1) := by decide +kernel
theorem dX5_named_2 : decode cX5_named 2 = .ok (.invokestatic 74, 3) := by decide +kernel
theorem dX5_named_5 : decode cX5_named 5 = .ok (.iload_n 1, 1) := by decide +kernel
theorem dX5_named_6 : decode cX5_named 6 = .ok (.invokestatic 74, 3) := by decide +kernel
theorem dX5_named_9 : decode cX5_named 9 = .ok (.iload_n 2, 1) := by decide +kernel
theorem dX5_named_10 : decode cX5_named 10 = .ok (.invokestatic 74, 3) := by decide +kernel
theorem dX5_named_13 : decode cX5_named 13 = .ok (.iload_n 3, 1) := by decide +kernel
theorem dX5_named_14 : decode cX5_named 14 = .ok (.invokestatic 74, 3) := by decide +kernel
theorem dX5_named_17 : decode cX5_named 17 = .ok (.iload 4, 2) := by decide +kernel
theorem dX5_named_19 : decode cX5_named 19 = .ok (.invokestatic 74, 3) := by decide +kernel
theorem dX5_named_22 : decode cX5_named 22 = .ok (.iload 5, 2) := by decide +kernel
theorem dX5_named_24 : decode cX5_named 24 = .ok (.invokestatic 74, 3) := by decide +kernel
theorem dX5_named_27 : decode cX5_named 27 = .ok (.lreturn, 1) := by decide +kernel
set_option maxRecDepth 20000 in
theorem ggX5_wordOf_X5_named : GoodIn wsX5_wordOf wsX5_named := goodIn_r _ [4, 5, 6, 3, 7, 8] (by decide +kernel) (by decide +kernel)
set_option maxRecDepth 20000 in
theorem gX5_wordOf_X5_named : GoodIn wsX5_wordOf (va_wsS RX5 78 yX5_named wsX5_named) := goodIn_app (goodIn_of _ (by decide +kernel)) ggX5_wordOf_X5_named
theorem dX5_wordOf_0 : decode cX5_wordOf 0 = .ok (.lload_n 0, 1) := by decide +kernel
theorem dX5_wordOf_1 : decode cX5_wordOf 1 = .ok (.bipush 116, 2) := by decide +kernel
theorem dX5_wordOf_3 : decode cX5_wordOf 3 = .ok (.bipush 114, 2) := by decide +kernel
theorem dX5_wordOf_5 : decode cX5_wordOf 5 = .ok (.bipush 97, 2) := by decide +kernel
theorem dX5_wordOf_7 : decode cX5_wordOf 7 = .ok (.bipush 100, 2) := by decide +kernel
theorem dX5_wordOf_9 : decode cX5_wordOf 9 = .ok (.bipush 101, 2) := by decide +kernel
theorem dX5_wordOf_11 : decode cX5_wordOf 11 = .ok (.iconst 0, 1) := by decide +kernel
theorem dX5_wordOf_12 : decode cX5_wordOf 12 = .ok (.invokestatic 78, 3) := by decide +kernel
theorem dX5_wordOf_15 : decode cX5_wordOf 15 = .ok (.lcmp, 1) := by decide +kernel
theorem dX5_wordOf_16 : decode cX5_wordOf 16 = .ok (.ifCond .ne 7, 3) := by decide +kernel
theorem dX5_wordOf_19 : decode cX5_wordOf 19 = .ok (.iconst 0, 1) := by decide +kernel
theorem dX5_wordOf_20 : decode cX5_wordOf 20 = .ok (.goto 52, 3) := by decide +kernel
theorem dX5_wordOf_23 : decode cX5_wordOf 23 = .ok (.lload_n 0, 1) := by decide +kernel
theorem dX5_wordOf_24 : decode cX5_wordOf 24 = .ok (.bipush 112, 2) := by decide +kernel
theorem dX5_wordOf_26 : decode cX5_wordOf 26 = .ok (.bipush 101, 2) := by decide +kernel
theorem dX5_wordOf_28 : decode cX5_wordOf 28 = .ok (.bipush 114, 2) := by decide +kernel
theorem dX5_wordOf_30 : decode cX5_wordOf 30 = .ok (.bipush 115, 2) := by decide +kernel
theorem dX5_wordOf_32 : decode cX5_wordOf 32 = .ok (.bipush 111, 2) := by decide +kernel
theorem dX5_wordOf_34 : decode cX5_wordOf 34 = .ok (.bipush 110, 2) := by decide +kernel
theorem dX5_wordOf_36 : decode cX5_wordOf 36 = .ok (.invokestatic 78, 3) := by decide +kernel
theorem dX5_wordOf_39 : decode cX5_wordOf 39 = .ok (.lcmp, 1) := by decide +kernel
theorem dX5_wordOf_40 : decode cX5_wordOf 40 = .ok (.ifCond .ne 7, 3) := by decide +kernel
theorem dX5_wordOf_43 : decode cX5_wordOf 43 = .ok (.iconst 1, 1) := by decide +kernel
theorem dX5_wordOf_44 : decode cX5_wordOf 44 = .ok (.goto 28, 3) := by decide +kernel
theorem dX5_wordOf_47 : decode cX5_wordOf 47 = .ok (.lload_n 0, 1) := by decide +kernel
theorem dX5_wordOf_48 : decode cX5_wordOf 48 = .ok (.bipush 115, 2) := by decide +kernel
theorem dX5_wordOf_50 : decode cX5_wordOf 50 = .ok (.bipush 107, 2) := by decide +kernel
theorem dX5_wordOf_52 : decode cX5_wordOf 52 = .ok (.bipush 105, 2) := by decide +kernel
theorem dX5_wordOf_54 : decode cX5_wordOf 54 = .ok (.bipush 108, 2) := by decide +kernel
theorem dX5_wordOf_56 : decode cX5_wordOf 56 = .ok (.bipush 108, 2) := by decide +kernel
theorem dX5_wordOf_58 : decode cX5_wordOf 58 = .ok (.iconst 0, 1) := by decide +kernel
theorem dX5_wordOf_59 : decode cX5_wordOf 59 = .ok (.invokestatic 78, 3) := by decide +kernel
theorem dX5_wordOf_62 : decode cX5_wordOf 62 = .ok (.lcmp, 1) := by decide +kernel
theorem dX5_wordOf_63 : decode cX5_wordOf 63 = .ok (.ifCond .ne 7, 3) := by decide +kernel
theorem dX5_wordOf_66 : decode cX5_wordOf 66 = .ok (.iconst 2, 1) := by decide +kernel
theorem dX5_wordOf_67 : decode cX5_wordOf 67 = .ok (.goto 5, 3) := by decide +kernel
theorem dX5_wordOf_70 : decode cX5_wordOf 70 = .ok (.bipush (-9), 2) := by decide +kernel
theorem dX5_wordOf_72 : decode cX5_wordOf 72 = .ok (.istore_n 2, 1) := by decide +kernel
theorem dX5_wordOf_73 : decode cX5_wordOf 73 = .ok (.iload_n 2, 1) := by decide +kernel
theorem dX5_wordOf_74 : decode cX5_wordOf 74 = .ok (.bipush (-9), 2) := by decide +kernel
theorem dX5_wordOf_76 : decode cX5_wordOf 76 = .ok (.if_icmp .eq 7, 3) := by decide +kernel
theorem dX5_wordOf_79 : decode cX5_wordOf 79 = .ok (.iload_n 2, 1) := by decide +kernel
theorem dX5_wordOf_80 : decode cX5_wordOf 80 = .ok (.goto 70, 3) := by decide +kernel
theorem dX5_wordOf_83 : decode cX5_wordOf 83 = .ok (.lload_n 0, 1) := by decide +kernel
theorem dX5_wordOf_84 : decode cX5_wordOf 84 = .ok (.bipush 115, 2) := by decide +kernel
theorem dX5_wordOf_86 : decode cX5_wordOf 86 = .ok (.bipush 107, 2) := by decide +kernel
theorem dX5_wordOf_88 : decode cX5_wordOf 88 = .ok (.bipush 105, 2) := by decide +kernel
theorem dX5_wordOf_90 : decode cX5_wordOf 90 = .ok (.bipush 112, 2) := by decide +kernel
theorem dX5_wordOf_92 : decode cX5_wordOf 92 = .ok (.iconst 0, 1) := by decide +kernel
theorem dX5_wordOf_93 : decode cX5_wordOf 93 = .ok (.iconst 0, 1) := by decide +kernel
theorem dX5_wordOf_94 : decode cX5_wordOf 94 = .ok (.invokestatic 78, 3) := by decide +kernel
theorem dX5_wordOf_97 : decode cX5_wordOf 97 = .ok (.lcmp, 1) := by decide +kernel
theorem dX5_wordOf_98 : decode cX5_wordOf 98 = .ok (.ifCond .ne 7, 3) := by decide +kernel
theorem dX5_wordOf_101 : decode cX5_wordOf 101 = .ok (.iconst 3, 1) := by decide +kernel
theorem dX5_wordOf_102 : decode cX5_wordOf 102 = .ok (.goto 48, 3) := by decide +kernel
theorem dX5_wordOf_105 : decode cX5_wordOf 105 = .ok (.lload_n 0, 1) := by decide +kernel
theorem dX5_wordOf_106 : decode cX5_wordOf 106 = .ok (.bipush 97, 2) := by decide +kernel
theorem dX5_wordOf_108 : decode cX5_wordOf 108 = .ok (.bipush 116, 2) := by decide +kernel
theorem dX5_wordOf_110 : decode cX5_wordOf 110 = .ok (.iconst 0, 1) := by decide +kernel
theorem dX5_wordOf_111 : decode cX5_wordOf 111 = .ok (.iconst 0, 1) := by decide +kernel
theorem dX5_wordOf_112 : decode cX5_wordOf 112 = .ok (.iconst 0, 1) := by decide +kernel
theorem dX5_wordOf_113 : decode cX5_wordOf 113 = .ok (.iconst 0, 1) := by decide +kernel
theorem dX5_wordOf_114 : decode cX5_wordOf 114 = .ok (.invokestatic 78, 3) := by decide +kernel
theorem dX5_wordOf_117 : decode cX5_wordOf 117 = .ok (.lcmp, 1) := by decide +kernel
theorem dX5_wordOf_118 : decode cX5_wordOf 118 = .ok (.ifCond .ne 7, 3) := by decide +kernel
theorem dX5_wordOf_121 : decode cX5_wordOf 121 = .ok (.iconst 4, 1) := by decide +kernel
theorem dX5_wordOf_122 : decode cX5_wordOf 122 = .ok (.goto 28, 3) := by decide +kernel
theorem dX5_wordOf_125 : decode cX5_wordOf 125 = .ok (.lload_n 0, 1) := by decide +kernel
theorem dX5_wordOf_126 : decode cX5_wordOf 126 = .ok (.bipush 119, 2) := by decide +kernel
theorem dX5_wordOf_128 : decode cX5_wordOf 128 = .ok (.bipush 104, 2) := by decide +kernel
theorem dX5_wordOf_130 : decode cX5_wordOf 130 = .ok (.bipush 101, 2) := by decide +kernel
theorem dX5_wordOf_132 : decode cX5_wordOf 132 = .ok (.bipush 101, 2) := by decide +kernel
theorem dX5_wordOf_134 : decode cX5_wordOf 134 = .ok (.bipush 108, 2) := by decide +kernel
theorem dX5_wordOf_136 : decode cX5_wordOf 136 = .ok (.iconst 0, 1) := by decide +kernel
theorem dX5_wordOf_137 : decode cX5_wordOf 137 = .ok (.invokestatic 78, 3) := by decide +kernel
theorem dX5_wordOf_140 : decode cX5_wordOf 140 = .ok (.lcmp, 1) := by decide +kernel
theorem dX5_wordOf_141 : decode cX5_wordOf 141 = .ok (.ifCond .ne 7, 3) := by decide +kernel
theorem dX5_wordOf_144 : decode cX5_wordOf 144 = .ok (.iconst 5, 1) := by decide +kernel
theorem dX5_wordOf_145 : decode cX5_wordOf 145 = .ok (.goto 5, 3) := by decide +kernel
theorem dX5_wordOf_148 : decode cX5_wordOf 148 = .ok (.bipush (-9), 2) := by decide +kernel
theorem dX5_wordOf_150 : decode cX5_wordOf 150 = .ok (.ireturn, 1) := by decide +kernel
set_option maxRecDepth 20000 in
theorem ggX5_advances_X5_byteAt : GoodIn wsX5_advances wsX5_byteAt := goodIn_r _ [9, 10, 11, 25, 26, 27, 28, 29, 30, 31, 32, 33, 34, 35, 36, 37, 38, 39, 40, 41, 42, 43, 44, 45, 46, 47, 48, 49, 50, 51, 52, 53] (by decide +kernel) (by decide +kernel)
set_option maxRecDepth 20000 in
theorem gX5_advances_X5_byteAt : GoodIn wsX5_advances (wsV RX5 85 RX5 yX5_byteAt wsX5_byteAt) := goodIn_app (goodIn_of _ (by decide +kernel)) ggX5_advances_X5_byteAt
set_option maxRecDepth 20000 in
theorem ggX5_advances_X5_in : GoodIn wsX5_advances wsX5_in := goodIn_r _ [14] (by decide +kernel) (by decide +kernel)
set_option maxRecDepth 20000 in
theorem gX5_advances_X5_in : GoodIn wsX5_advances (va_wsS RX5 63 yX5_in wsX5_in) := goodIn_app (goodIn_of _ (by decide +kernel)) ggX5_advances_X5_in
set_option maxRecDepth 20000 in
theorem ggX5_advances_X5_add : GoodIn wsX5_advances wsX5_add := goodIn_r _ [17, 18] (by decide +kernel) (by decide +kernel)
set_option maxRecDepth 20000 in
theorem gX5_advances_X5_add : GoodIn wsX5_advances (va_wsS RX5 74 yX5_add wsX5_add) := goodIn_app (goodIn_of _ (by decide +kernel)) ggX5_advances_X5_add
set_option maxRecDepth 20000 in
theorem ggX5_advances_X5_wordOf : GoodIn wsX5_advances wsX5_wordOf := goodIn_r _ [21, 22, 23, 8, 24, 15, 16, 17, 18] (by decide +kernel) (by decide +kernel)
set_option maxRecDepth 20000 in
theorem gX5_advances_X5_wordOf : GoodIn wsX5_advances (va_wsS RX5 95 yX5_wordOf wsX5_wordOf) := goodIn_app (goodIn_of _ (by decide +kernel)) ggX5_advances_X5_wordOf
theorem dX5_advances_0 : decode cX5_advances 0 = .ok (.aload_n 0, 1) := by decide +kernel
theorem dX5_advances_1 : decode cX5_advances 1 = .ok (.aload_n 0, 1) := by decide +kernel
theorem dX5_advances_2 : decode cX5_advances 2 = .ok (.getfield 82, 3) := by decide +kernel
theorem dX5_advances_5 : decode cX5_advances 5 = .ok (.invokevirtual 85, 3) := by decide +kernel
theorem dX5_advances_8 : decode cX5_advances 8 = .ok (.bipush 32, 2) := by decide +kernel
theorem dX5_advances_10 : decode cX5_advances 10 = .ok (.if_icmp .ne 16, 3) := by decide +kernel
theorem dX5_advances_13 : decode cX5_advances 13 = .ok (.aload_n 0, 1) := by decide +kernel
theorem dX5_advances_14 : decode cX5_advances 14 = .ok (.dup, 1) := by decide +kernel
theorem dX5_advances_15 : decode cX5_advances 15 = .ok (.getfield 82, 3) := by decide +kernel
theorem dX5_advances_18 : decode cX5_advances 18 = .ok (.iconst 1, 1) := by decide +kernel
theorem dX5_advances_19 : decode cX5_advances 19 = .ok (.iadd, 1) := by decide +kernel
theorem dX5_advances_20 : decode cX5_advances 20 = .ok (.putfield 82, 3) := by decide +kernel
theorem dX5_advances_23 : decode cX5_advances 23 = .ok (.goto (-23), 3) := by decide +kernel
theorem dX5_advances_26 : decode cX5_advances 26 = .ok (.aload_n 0, 1) := by decide +kernel
theorem dX5_advances_27 : decode cX5_advances 27 = .ok (.aload_n 0, 1) := by decide +kernel
theorem dX5_advances_28 : decode cX5_advances 28 = .ok (.getfield 82, 3) := by decide +kernel
theorem dX5_advances_31 : decode cX5_advances 31 = .ok (.putfield 89, 3) := by decide +kernel
theorem dX5_advances_34 : decode cX5_advances 34 = .ok (.aload_n 0, 1) := by decide +kernel
theorem dX5_advances_35 : decode cX5_advances 35 = .ok (.aload_n 0, 1) := by decide +kernel
theorem dX5_advances_36 : decode cX5_advances 36 = .ok (.getfield 82, 3) := by decide +kernel
theorem dX5_advances_39 : decode cX5_advances 39 = .ok (.invokevirtual 85, 3) := by decide +kernel
theorem dX5_advances_42 : decode cX5_advances 42 = .ok (.istore_n 1, 1) := by decide +kernel
theorem dX5_advances_43 : decode cX5_advances 43 = .ok (.iload_n 1, 1) := by decide +kernel
theorem dX5_advances_44 : decode cX5_advances 44 = .ok (.ifCond .ge 11, 3) := by decide +kernel
theorem dX5_advances_47 : decode cX5_advances 47 = .ok (.aload_n 0, 1) := by decide +kernel
theorem dX5_advances_48 : decode cX5_advances 48 = .ok (.iconst 0, 1) := by decide +kernel
theorem dX5_advances_49 : decode cX5_advances 49 = .ok (.putfield 92, 3) := by decide +kernel
theorem dX5_advances_52 : decode cX5_advances 52 = .ok (.goto 258, 3) := by decide +kernel
theorem dX5_advances_55 : decode cX5_advances 55 = .ok (.iload_n 1, 1) := by decide +kernel
theorem dX5_advances_56 : decode cX5_advances 56 = .ok (.bipush 97, 2) := by decide +kernel
theorem dX5_advances_58 : decode cX5_advances 58 = .ok (.bipush 122, 2) := by decide +kernel
theorem dX5_advances_60 : decode cX5_advances 60 = .ok (.invokestatic 63, 3) := by decide +kernel
theorem dX5_advances_63 : decode cX5_advances 63 = .ok (.ifCond .eq 96, 3) := by decide +kernel
theorem dX5_advances_66 : decode cX5_advances 66 = .ok (.lconst 0, 1) := by decide +kernel
theorem dX5_advances_67 : decode cX5_advances 67 = .ok (.lstore_n 2, 1) := by decide +kernel
theorem dX5_advances_68 : decode cX5_advances 68 = .ok (.aload_n 0, 1) := by decide +kernel
theorem dX5_advances_69 : decode cX5_advances 69 = .ok (.aload_n 0, 1) := by decide +kernel
theorem dX5_advances_70 : decode cX5_advances 70 = .ok (.getfield 82, 3) := by decide +kernel
theorem dX5_advances_73 : decode cX5_advances 73 = .ok (.invokevirtual 85, 3) := by decide +kernel
theorem dX5_advances_76 : decode cX5_advances 76 = .ok (.bipush 97, 2) := by decide +kernel
theorem dX5_advances_78 : decode cX5_advances 78 = .ok (.bipush 122, 2) := by decide +kernel
theorem dX5_advances_80 : decode cX5_advances 80 = .ok (.invokestatic 63, 3) := by decide +kernel
theorem dX5_advances_83 : decode cX5_advances 83 = .ok (.ifCond .eq 47, 3) := by decide +kernel
theorem dX5_advances_86 : decode cX5_advances 86 = .ok (.aload_n 0, 1) := by decide +kernel
theorem dX5_advances_87 : decode cX5_advances 87 = .ok (.getfield 82, 3) := by decide +kernel
theorem dX5_advances_90 : decode cX5_advances 90 = .ok (.aload_n 0, 1) := by decide +kernel
theorem dX5_advances_91 : decode cX5_advances 91 = .ok (.getfield 89, 3) := by decide +kernel
theorem dX5_advances_94 : decode cX5_advances 94 = .ok (.isub, 1) := by decide +kernel
theorem dX5_advances_95 : decode cX5_advances 95 = .ok (.bipush 7, 2) := by decide +kernel
theorem dX5_advances_97 : decode cX5_advances 97 = .ok (.if_icmp .ge 18, 3) := by decide +kernel
theorem dX5_advances_100 : decode cX5_advances 100 = .ok (.lload_n 2, 1) := by decide +kernel
theorem dX5_advances_101 : decode cX5_advances 101 = .ok (.aload_n 0, 1) := by decide +kernel
theorem dX5_advances_102 : decode cX5_advances 102 = .ok (.aload_n 0, 1) := by decide +kernel
theorem dX5_advances_103 : decode cX5_advances 103 = .ok (.getfield 82, 3) := by decide +kernel
theorem dX5_advances_106 : decode cX5_advances 106 = .ok (.invokevirtual 85, 3) := by decide +kernel
theorem dX5_advances_109 : decode cX5_advances 109 = .ok (.invokestatic 74, 3) := by decide +kernel
theorem dX5_advances_112 : decode cX5_advances 112 = .ok (.goto 4, 3) := by decide +kernel
theorem dX5_advances_115 : decode cX5_advances 115 = .ok (.lload_n 2, 1) := by decide +kernel
theorem dX5_advances_116 : decode cX5_advances 116 = .ok (.lstore_n 2, 1) := by decide +kernel
theorem dX5_advances_117 : decode cX5_advances 117 = .ok (.aload_n 0, 1) := by decide +kernel
theorem dX5_advances_118 : decode cX5_advances 118 = .ok (.dup, 1) := by decide +kernel
theorem dX5_advances_119 : decode cX5_advances 119 = .ok (.getfield 82, 3) := by decide +kernel
theorem dX5_advances_122 : decode cX5_advances 122 = .ok (.iconst 1, 1) := by decide +kernel
theorem dX5_advances_123 : decode cX5_advances 123 = .ok (.iadd, 1) := by decide +kernel
theorem dX5_advances_124 : decode cX5_advances 124 = .ok (.putfield 82, 3) := by decide +kernel
theorem dX5_advances_127 : decode cX5_advances 127 = .ok (.goto (-59), 3) := by decide +kernel
theorem dX5_advances_130 : decode cX5_advances 130 = .ok (.aload_n 0, 1) := by decide +kernel
theorem dX5_advances_131 : decode cX5_advances 131 = .ok (.lload_n 2, 1) := by decide +kernel
theorem dX5_advances_132 : decode cX5_advances 132 = .ok (.invokestatic 95, 3) := by decide +kernel
theorem dX5_advances_135 : decode cX5_advances 135 = .ok (.putfield 99, 3) := by decide +kernel
theorem dX5_advances_138 : decode cX5_advances 138 = .ok (.aload_n 0, 1) := by decide +kernel
theorem dX5_advances_139 : decode cX5_advances 139 = .ok (.aload_n 0, 1) := by decide +kernel
theorem dX5_advances_140 : decode cX5_advances 140 = .ok (.getfield 99, 3) := by decide +kernel
theorem dX5_advances_143 : decode cX5_advances 143 = .ok (.bipush (-9), 2) := by decide +kernel
theorem dX5_advances_145 : decode cX5_advances 145 = .ok (.if_icmp .ne 7, 3) := by decide +kernel
theorem dX5_advances_148 : decode cX5_advances 148 = .ok (.iconst 4, 1) := by decide +kernel
theorem dX5_advances_149 : decode cX5_advances 149 = .ok (.goto 4, 3) := by decide +kernel
theorem dX5_advances_152 : decode cX5_advances 152 = .ok (.iconst 1, 1) := by decide +kernel
theorem dX5_advances_153 : decode cX5_advances 153 = .ok (.putfield 92, 3) := by decide +kernel
theorem dX5_advances_156 : decode cX5_advances 156 = .ok (.goto 154, 3) := by decide +kernel
theorem dX5_advances_159 : decode cX5_advances 159 = .ok (.iload_n 1, 1) := by decide +kernel
theorem dX5_advances_160 : decode cX5_advances 160 = .ok (.bipush 48, 2) := by decide +kernel
theorem dX5_advances_162 : decode cX5_advances 162 = .ok (.bipush 57, 2) := by decide +kernel
theorem dX5_advances_164 : decode cX5_advances 164 = .ok (.invokestatic 63, 3) := by decide +kernel
theorem dX5_advances_167 : decode cX5_advances 167 = .ok (.ifCond .eq 118, 3) := by decide +kernel
theorem dX5_advances_170 : decode cX5_advances 170 = .ok (.aload_n 0, 1) := by decide +kernel
theorem dX5_advances_171 : decode cX5_advances 171 = .ok (.iconst 0, 1) := by decide +kernel
theorem dX5_advances_172 : decode cX5_advances 172 = .ok (.putfield 99, 3) := by decide +kernel
theorem dX5_advances_175 : decode cX5_advances 175 = .ok (.aload_n 0, 1) := by decide +kernel
theorem dX5_advances_176 : decode cX5_advances 176 = .ok (.aload_n 0, 1) := by decide +kernel
theorem dX5_advances_177 : decode cX5_advances 177 = .ok (.getfield 82, 3) := by decide +kernel
theorem dX5_advances_180 : decode cX5_advances 180 = .ok (.invokevirtual 85, 3) := by decide +kernel
theorem dX5_advances_183 : decode cX5_advances 183 = .ok (.bipush 48, 2) := by decide +kernel
theorem dX5_advances_185 : decode cX5_advances 185 = .ok (.bipush 57, 2) := by decide +kernel
theorem dX5_advances_187 : decode cX5_advances 187 = .ok (.invokestatic 63, 3) := by decide +kernel
theorem dX5_advances_190 : decode cX5_advances 190 = .ok (.ifCond .eq 55, 3) := by decide +kernel
theorem dX5_advances_193 : decode cX5_advances 193 = .ok (.aload_n 0, 1) := by decide +kernel
theorem dX5_advances_194 : decode cX5_advances 194 = .ok (.aload_n 0, 1) := by decide +kernel
theorem dX5_advances_195 : decode cX5_advances 195 = .ok (.getfield 99, 3) := by decide +kernel
theorem dX5_advances_198 : decode cX5_advances 198 = .ok (.bipush 99, 2) := by decide +kernel
theorem dX5_advances_200 : decode cX5_advances 200 = .ok (.if_icmp .le 10, 3) := by decide +kernel
theorem dX5_advances_203 : decode cX5_advances 203 = .ok (.aload_n 0, 1) := by decide +kernel
theorem dX5_advances_204 : decode cX5_advances 204 = .ok (.getfield 99, 3) := by decide +kernel
theorem dX5_advances_207 : decode cX5_advances 207 = .ok (.goto 22, 3) := by decide +kernel
theorem dX5_advances_210 : decode cX5_advances 210 = .ok (.bipush 10, 2) := by decide +kernel
theorem dX5_advances_212 : decode cX5_advances 212 = .ok (.aload_n 0, 1) := by decide +kernel
theorem dX5_advances_213 : decode cX5_advances 213 = .ok (.getfield 99, 3) := by decide +kernel
theorem dX5_advances_216 : decode cX5_advances 216 = .ok (.imul, 1) := by decide +kernel
theorem dX5_advances_217 : decode cX5_advances 217 = .ok (.aload_n 0, 1) := by decide +kernel
theorem dX5_advances_218 : decode cX5_advances 218 = .ok (.aload_n 0, 1) := by decide +kernel
theorem dX5_advances_219 : decode cX5_advances 219 = .ok (.getfield 82, 3) := by decide +kernel
theorem dX5_advances_222 : decode cX5_advances 222 = .ok (.invokevirtual 85, 3) := by decide +kernel
theorem dX5_advances_225 : decode cX5_advances 225 = .ok (.iadd, 1) := by decide +kernel
theorem dX5_advances_226 : decode cX5_advances 226 = .ok (.bipush 48, 2) := by decide +kernel
theorem dX5_advances_228 : decode cX5_advances 228 = .ok (.isub, 1) := by decide +kernel
theorem dX5_advances_229 : decode cX5_advances 229 = .ok (.putfield 99, 3) := by decide +kernel
theorem dX5_advances_232 : decode cX5_advances 232 = .ok (.aload_n 0, 1) := by decide +kernel
theorem dX5_advances_233 : decode cX5_advances 233 = .ok (.dup, 1) := by decide +kernel
theorem dX5_advances_234 : decode cX5_advances 234 = .ok (.getfield 82, 3) := by decide +kernel
theorem dX5_advances_237 : decode cX5_advances 237 = .ok (.iconst 1, 1) := by decide +kernel
theorem dX5_advances_238 : decode cX5_advances 238 = .ok (.iadd, 1) := by decide +kernel
theorem dX5_advances_239 : decode cX5_advances 239 = .ok (.putfield 82, 3) := by decide +kernel
theorem dX5_advances_242 : decode cX5_advances 242 = .ok (.goto (-67), 3) := by decide +kernel
theorem dX5_advances_245 : decode cX5_advances 245 = .ok (.aload_n 0, 1) := by decide +kernel
theorem dX5_advances_246 : decode cX5_advances 246 = .ok (.aload_n 0, 1) := by decide +kernel
theorem dX5_advances_247 : decode cX5_advances 247 = .ok (.getfield 99, 3) := by decide +kernel
theorem dX5_advances_250 : decode cX5_advances 250 = .ok (.bipush 99, 2) := by decide +kernel
theorem dX5_advances_252 : decode cX5_advances 252 = .ok (.if_icmp .gt 22, 3) := by decide +kernel
theorem dX5_advances_255 : decode cX5_advances 255 = .ok (.iload_n 1, 1) := by decide +kernel
theorem dX5_advances_256 : decode cX5_advances 256 = .ok (.bipush 48, 2) := by decide +kernel
theorem dX5_advances_258 : decode cX5_advances 258 = .ok (.if_icmp .ne 20, 3) := by decide +kernel
theorem dX5_advances_261 : decode cX5_advances 261 = .ok (.aload_n 0, 1) := by decide +kernel
theorem dX5_advances_262 : decode cX5_advances 262 = .ok (.getfield 82, 3) := by decide +kernel
theorem dX5_advances_265 : decode cX5_advances 265 = .ok (.aload_n 0, 1) := by decide +kernel
theorem dX5_advances_266 : decode cX5_advances 266 = .ok (.getfield 89, 3) := by decide +kernel
theorem dX5_advances_269 : decode cX5_advances 269 = .ok (.isub, 1) := by decide +kernel
theorem dX5_advances_270 : decode cX5_advances 270 = .ok (.iconst 1, 1) := by decide +kernel
theorem dX5_advances_271 : decode cX5_advances 271 = .ok (.if_icmp .le 7, 3) := by decide +kernel
theorem dX5_advances_274 : decode cX5_advances 274 = .ok (.iconst 4, 1) := by decide +kernel
theorem dX5_advances_275 : decode cX5_advances 275 = .ok (.goto 4, 3) := by decide +kernel
theorem dX5_advances_278 : decode cX5_advances 278 = .ok (.iconst 2, 1) := by decide +kernel
theorem dX5_advances_279 : decode cX5_advances 279 = .ok (.putfield 92, 3) := by decide +kernel
theorem dX5_advances_282 : decode cX5_advances 282 = .ok (.goto 28, 3) := by decide +kernel
theorem dX5_advances_285 : decode cX5_advances 285 = .ok (.aload_n 0, 1) := by decide +kernel
theorem dX5_advances_286 : decode cX5_advances 286 = .ok (.dup, 1) := by decide +kernel
theorem dX5_advances_287 : decode cX5_advances 287 = .ok (.getfield 82, 3) := by decide +kernel
theorem dX5_advances_290 : decode cX5_advances 290 = .ok (.iconst 1, 1) := by decide +kernel
theorem dX5_advances_291 : decode cX5_advances 291 = .ok (.iadd, 1) := by decide +kernel
theorem dX5_advances_292 : decode cX5_advances 292 = .ok (.putfield 82, 3) := by decide +kernel
theorem dX5_advances_295 : decode cX5_advances 295 = .ok (.aload_n 0, 1) := by decide +kernel
theorem dX5_advances_296 : decode cX5_advances 296 = .ok (.iload_n 1, 1) := by decide +kernel
theorem dX5_advances_297 : decode cX5_advances 297 = .ok (.bipush 59, 2) := by decide +kernel
theorem dX5_advances_299 : decode cX5_advances 299 = .ok (.if_icmp .ne 7, 3) := by decide +kernel
theorem dX5_advances_302 : decode cX5_advances 302 = .ok (.iconst 3, 1) := by decide +kernel
theorem dX5_advances_303 : decode cX5_advances 303 = .ok (.goto 4, 3) := by decide +kernel
theorem dX5_advances_306 : decode cX5_advances 306 = .ok (.iconst 4, 1) := by decide +kernel
theorem dX5_advances_307 : decode cX5_advances 307 = .ok (.putfield 92, 3) := by decide +kernel
theorem dX5_advances_310 : decode cX5_advances 310 = .ok (.return_, 1) := by decide +kernel
theorem dX5_isWell_0 : decode cX5_isWell 0 = .ok (.aload_n 0, 1) := by decide +kernel
theorem dX5_isWell_1 : decode cX5_isWell 1 = .ok (.getfield 102, 3) := by decide +kernel
theorem dX5_isWell_4 : decode cX5_isWell 4 = .ok (.ifCond .ge 7, 3) := by decide +kernel
theorem dX5_isWell_7 : decode cX5_isWell 7 = .ok (.iconst 1, 1) := by decide +kernel
theorem dX5_isWell_8 : decode cX5_isWell 8 = .ok (.goto 4, 3) := by decide +kernel
theorem dX5_isWell_11 : decode cX5_isWell 11 = .ok (.iconst 0, 1) := by decide +kernel
theorem dX5_isWell_12 : decode cX5_isWell 12 = .ok (.ireturn, 1) := by decide +kernel
set_option maxRecDepth 20000 in
theorem ggX5_takes_X5_isWell : GoodIn wsX5_takes wsX5_isWell := goodIn_r _ [8, 2, 34, 35, 36, 37, 38, 39, 40, 41, 42, 43, 44, 45, 46, 47, 48, 49, 50, 51, 52, 53, 54, 55, 56, 57, 58, 59, 60, 61, 62] (by decide +kernel) (by decide +kernel)
set_option maxRecDepth 20000 in
theorem gX5_takes_X5_isWell : GoodIn wsX5_takes (wsV RX5 105 RX5 yX5_isWell wsX5_isWell) := goodIn_app (goodIn_of _ (by decide +kernel)) ggX5_takes_X5_isWell
set_option maxRecDepth 20000 in
theorem ggX5_takes_X5_advances : GoodIn wsX5_takes wsX5_advances := goodIn_r _ [12, 13, 1, 14, 3, 15, 16, 17, 7, 18, 19, 20, 21, 22, 23, 24, 25, 26, 27, 28, 29, 30, 31, 32, 33, 34, 35, 36, 37, 38, 39, 40, 41, 42, 43, 44, 45, 46, 47, 48, 49, 50, 51, 52, 53, 54, 55, 56, 57, 58, 59, 60, 61, 62] (by decide +kernel) (by decide +kernel)
set_option maxRecDepth 20000 in
theorem gX5_takes_X5_advances : GoodIn wsX5_takes (wsV RX5 109 RX5 yX5_advances wsX5_advances) := goodIn_app (goodIn_of _ (by decide +kernel)) ggX5_takes_X5_advances
theorem dX5_takes_0 : decode cX5_takes 0 = .ok (.aload_n 0, 1) := by decide +kernel
theorem dX5_takes_1 : decode cX5_takes 1 = .ok (.invokevirtual 105, 3) := by decide +kernel
theorem dX5_takes_4 : decode cX5_takes 4 = .ok (.ifCond .ne 5, 3) := by decide +kernel
theorem dX5_takes_7 : decode cX5_takes 7 = .ok (.iconst 0, 1) := by decide +kernel
theorem dX5_takes_8 : decode cX5_takes 8 = .ok (.ireturn, 1) := by decide +kernel
theorem dX5_takes_9 : decode cX5_takes 9 = .ok (.iload_n 1, 1) := by decide +kernel
theorem dX5_takes_10 : decode cX5_takes 10 = .ok (.ifCond .ne 13, 3) := by decide +kernel
theorem dX5_takes_13 : decode cX5_takes 13 = .ok (.aload_n 0, 1) := by decide +kernel
theorem dX5_takes_14 : decode cX5_takes 14 = .ok (.aload_n 0, 1) := by decide +kernel
theorem dX5_takes_15 : decode cX5_takes 15 = .ok (.getfield 89, 3) := by decide +kernel
theorem dX5_takes_18 : decode cX5_takes 18 = .ok (.putfield 102, 3) := by decide +kernel
theorem dX5_takes_21 : decode cX5_takes 21 = .ok (.iconst 0, 1) := by decide +kernel
theorem dX5_takes_22 : decode cX5_takes 22 = .ok (.ireturn, 1) := by decide +kernel
theorem dX5_takes_23 : decode cX5_takes 23 = .ok (.aload_n 0, 1) := by decide +kernel
theorem dX5_takes_24 : decode cX5_takes 24 = .ok (.getfield 99, 3) := by decide +kernel
theorem dX5_takes_27 : decode cX5_takes 27 = .ok (.istore_n 2, 1) := by decide +kernel
theorem dX5_takes_28 : decode cX5_takes 28 = .ok (.aload_n 0, 1) := by decide +kernel
theorem dX5_takes_29 : decode cX5_takes 29 = .ok (.invokevirtual 109, 3) := by decide +kernel
theorem dX5_takes_32 : decode cX5_takes 32 = .ok (.iload_n 2, 1) := by decide +kernel
theorem dX5_takes_33 : decode cX5_takes 33 = .ok (.ireturn, 1) := by decide +kernel
set_option maxRecDepth 20000 in
theorem ggX5_number_X5_in : GoodIn wsX5_number wsX5_in := goodIn_r _ [6] (by decide +kernel) (by decide +kernel)
set_option maxRecDepth 20000 in
theorem gX5_number_X5_in : GoodIn wsX5_number (va_wsS RX5 63 yX5_in wsX5_in) := goodIn_app (goodIn_of _ (by decide +kernel)) ggX5_number_X5_in
set_option maxRecDepth 20000 in
theorem ggX5_number_X5_takes : GoodIn wsX5_number wsX5_takes := goodIn_r _ [10, 11, 12, 2, 13, 14, 15, 5, 16, 17, 18, 19, 20, 21, 1, 22, 23, 24, 25, 26, 27, 3, 4, 6, 28, 29, 30, 31, 32, 33, 34, 35, 36, 37, 38, 39, 40, 41, 42, 43, 44, 45, 46, 47, 48, 49, 50, 51, 52, 53, 54, 55, 56, 57, 58, 59, 60, 61, 62, 63, 64, 65, 66] (by decide +kernel) (by decide +kernel)
set_option maxRecDepth 20000 in
theorem gX5_number_X5_takes : GoodIn wsX5_number (wsV RX5 112 RX5 yX5_takes wsX5_takes) := goodIn_app (goodIn_of _ (by decide +kernel)) ggX5_number_X5_takes
theorem dX5_number_0 : decode cX5_number 0 = .ok (.aload_n 0, 1) := by decide +kernel
theorem dX5_number_1 : decode cX5_number 1 = .ok (.aload_n 0, 1) := by decide +kernel
theorem dX5_number_2 : decode cX5_number 2 = .ok (.getfield 92, 3) := by decide +kernel
theorem dX5_number_5 : decode cX5_number 5 = .ok (.iconst 2, 1) := by decide +kernel
theorem dX5_number_6 : decode cX5_number 6 = .ok (.if_icmp .ne 19, 3) := by decide +kernel
theorem dX5_number_9 : decode cX5_number 9 = .ok (.aload_n 0, 1) := by decide +kernel
theorem dX5_number_10 : decode cX5_number 10 = .ok (.getfield 99, 3) := by decide +kernel
theorem dX5_number_13 : decode cX5_number 13 = .ok (.iload_n 1, 1) := by decide +kernel
theorem dX5_number_14 : decode cX5_number 14 = .ok (.iload_n 2, 1) := by decide +kernel
theorem dX5_number_15 : decode cX5_number 15 = .ok (.invokestatic 63, 3) := by decide +kernel
theorem dX5_number_18 : decode cX5_number 18 = .ok (.ifCond .eq 7, 3) := by decide +kernel
theorem dX5_number_21 : decode cX5_number 21 = .ok (.iconst 1, 1) := by decide +kernel
theorem dX5_number_22 : decode cX5_number 22 = .ok (.goto 4, 3) := by decide +kernel
theorem dX5_number_25 : decode cX5_number 25 = .ok (.iconst 0, 1) := by decide +kernel
theorem dX5_number_26 : decode cX5_number 26 = .ok (.invokevirtual 112, 3) := by decide +kernel
theorem dX5_number_29 : decode cX5_number 29 = .ok (.ireturn, 1) := by decide +kernel
set_option maxRecDepth 20000 in
theorem ggX5_readsWheel_X5_in : GoodIn wsX5_readsWheel wsX5_in := goodIn_r _ [8] (by decide +kernel) (by decide +kernel)
set_option maxRecDepth 20000 in
theorem gX5_readsWheel_X5_in : GoodIn wsX5_readsWheel (va_wsS RX5 63 yX5_in wsX5_in) := goodIn_app (goodIn_of _ (by decide +kernel)) ggX5_readsWheel_X5_in
set_option maxRecDepth 20000 in
theorem ggX5_readsWheel_X5_takes : GoodIn wsX5_readsWheel wsX5_takes := goodIn_r _ [12, 13, 14, 3, 15, 16, 17, 7, 18, 19, 20, 21, 22, 23, 2, 24, 25, 26, 27, 28, 29, 5, 6, 8, 30, 31, 32, 33, 34, 35, 36, 37, 38, 39, 40, 41, 42, 43, 44, 45, 46, 47, 48, 49, 50, 51, 52, 53, 54, 55, 56, 57, 58, 59, 60, 61, 62, 63, 64, 65, 66, 67, 68] (by decide +kernel) (by decide +kernel)
set_option maxRecDepth 20000 in
theorem gX5_readsWheel_X5_takes : GoodIn wsX5_readsWheel (wsV RX5 112 RX5 yX5_takes wsX5_takes) := goodIn_app (goodIn_of _ (by decide +kernel)) ggX5_readsWheel_X5_takes
set_option maxRecDepth 20000 in
theorem ggX5_readsWheel_X5_isWell : GoodIn wsX5_readsWheel wsX5_isWell := goodIn_r _ [18, 14, 40, 41, 42, 43, 44, 45, 46, 47, 48, 49, 50, 51, 52, 53, 54, 55, 56, 57, 58, 59, 60, 61, 62, 63, 64, 65, 66, 67, 68] (by decide +kernel) (by decide +kernel)
set_option maxRecDepth 20000 in
theorem gX5_readsWheel_X5_isWell : GoodIn wsX5_readsWheel (wsV RX5 105 RX5 yX5_isWell wsX5_isWell) := goodIn_app (goodIn_of _ (by decide +kernel)) ggX5_readsWheel_X5_isWell
theorem dX5_readsWheel_0 : decode cX5_readsWheel 0 = .ok (.iconst 0, 1) := by decide +kernel
theorem dX5_readsWheel_1 : decode cX5_readsWheel 1 = .ok (.istore_n 1, 1) := by decide +kernel
theorem dX5_readsWheel_2 : decode cX5_readsWheel 2 = .ok (.iconst 0, 1) := by decide +kernel
theorem dX5_readsWheel_3 : decode cX5_readsWheel 3 = .ok (.istore_n 2, 1) := by decide +kernel
theorem dX5_readsWheel_4 : decode cX5_readsWheel 4 = .ok (.iload_n 2, 1) := by decide +kernel
theorem dX5_readsWheel_5 : decode cX5_readsWheel 5 = .ok (.aload_n 0, 1) := by decide +kernel
theorem dX5_readsWheel_6 : decode cX5_readsWheel 6 = .ok (.getfield 116, 3) := by decide +kernel
theorem dX5_readsWheel_9 : decode cX5_readsWheel 9 = .ok (.if_icmp .ge 78, 3) := by decide +kernel
theorem dX5_readsWheel_12 : decode cX5_readsWheel 12 = .ok (.aload_n 0, 1) := by decide +kernel
theorem dX5_readsWheel_13 : decode cX5_readsWheel 13 = .ok (.aload_n 0, 1) := by decide +kernel
theorem dX5_readsWheel_14 : decode cX5_readsWheel 14 = .ok (.getfield 92, 3) := by decide +kernel
theorem dX5_readsWheel_17 : decode cX5_readsWheel 17 = .ok (.iconst 2, 1) := by decide +kernel
theorem dX5_readsWheel_18 : decode cX5_readsWheel 18 = .ok (.if_icmp .ne 35, 3) := by decide +kernel
theorem dX5_readsWheel_21 : decode cX5_readsWheel 21 = .ok (.aload_n 0, 1) := by decide +kernel
theorem dX5_readsWheel_22 : decode cX5_readsWheel 22 = .ok (.getfield 99, 3) := by decide +kernel
theorem dX5_readsWheel_25 : decode cX5_readsWheel 25 = .ok (.iconst 0, 1) := by decide +kernel
theorem dX5_readsWheel_26 : decode cX5_readsWheel 26 = .ok (.aload_n 0, 1) := by decide +kernel
theorem dX5_readsWheel_27 : decode cX5_readsWheel 27 = .ok (.getfield 116, 3) := by decide +kernel
theorem dX5_readsWheel_30 : decode cX5_readsWheel 30 = .ok (.iconst 1, 1) := by decide +kernel
theorem dX5_readsWheel_31 : decode cX5_readsWheel 31 = .ok (.isub, 1) := by decide +kernel
theorem dX5_readsWheel_32 : decode cX5_readsWheel 32 = .ok (.invokestatic 63, 3) := by decide +kernel
theorem dX5_readsWheel_35 : decode cX5_readsWheel 35 = .ok (.ifCond .eq 18, 3) := by decide +kernel
theorem dX5_readsWheel_38 : decode cX5_readsWheel 38 = .ok (.iload_n 1, 1) := by decide +kernel
theorem dX5_readsWheel_39 : decode cX5_readsWheel 39 = .ok (.aload_n 0, 1) := by decide +kernel
theorem dX5_readsWheel_40 : decode cX5_readsWheel 40 = .ok (.getfield 99, 3) := by decide +kernel
theorem dX5_readsWheel_43 : decode cX5_readsWheel 43 = .ok (.ishr, 1) := by decide +kernel
theorem dX5_readsWheel_44 : decode cX5_readsWheel 44 = .ok (.iconst 1, 1) := by decide +kernel
theorem dX5_readsWheel_45 : decode cX5_readsWheel 45 = .ok (.iand, 1) := by decide +kernel
theorem dX5_readsWheel_46 : decode cX5_readsWheel 46 = .ok (.ifCond .ne 7, 3) := by decide +kernel
theorem dX5_readsWheel_49 : decode cX5_readsWheel 49 = .ok (.iconst 1, 1) := by decide +kernel
theorem dX5_readsWheel_50 : decode cX5_readsWheel 50 = .ok (.goto 4, 3) := by decide +kernel
theorem dX5_readsWheel_53 : decode cX5_readsWheel 53 = .ok (.iconst 0, 1) := by decide +kernel
theorem dX5_readsWheel_54 : decode cX5_readsWheel 54 = .ok (.invokevirtual 112, 3) := by decide +kernel
theorem dX5_readsWheel_57 : decode cX5_readsWheel 57 = .ok (.istore_n 3, 1) := by decide +kernel
theorem dX5_readsWheel_58 : decode cX5_readsWheel 58 = .ok (.iload_n 1, 1) := by decide +kernel
theorem dX5_readsWheel_59 : decode cX5_readsWheel 59 = .ok (.iconst 1, 1) := by decide +kernel
theorem dX5_readsWheel_60 : decode cX5_readsWheel 60 = .ok (.iload_n 3, 1) := by decide +kernel
theorem dX5_readsWheel_61 : decode cX5_readsWheel 61 = .ok (.ishl, 1) := by decide +kernel
theorem dX5_readsWheel_62 : decode cX5_readsWheel 62 = .ok (.ior, 1) := by decide +kernel
theorem dX5_readsWheel_63 : decode cX5_readsWheel 63 = .ok (.istore_n 1, 1) := by decide +kernel
theorem dX5_readsWheel_64 : decode cX5_readsWheel 64 = .ok (.aload_n 0, 1) := by decide +kernel
theorem dX5_readsWheel_65 : decode cX5_readsWheel 65 = .ok (.invokevirtual 105, 3) := by decide +kernel
theorem dX5_readsWheel_68 : decode cX5_readsWheel 68 = .ok (.ifCond .eq 13, 3) := by decide +kernel
theorem dX5_readsWheel_71 : decode cX5_readsWheel 71 = .ok (.aload_n 0, 1) := by decide +kernel
theorem dX5_readsWheel_72 : decode cX5_readsWheel 72 = .ok (.getfield 28, 3) := by decide +kernel
theorem dX5_readsWheel_75 : decode cX5_readsWheel 75 = .ok (.bipush 6, 2) := by decide +kernel
theorem dX5_readsWheel_77 : decode cX5_readsWheel 77 = .ok (.iload_n 2, 1) := by decide +kernel
theorem dX5_readsWheel_78 : decode cX5_readsWheel 78 = .ok (.iadd, 1) := by decide +kernel
theorem dX5_readsWheel_79 : decode cX5_readsWheel 79 = .ok (.iload_n 3, 1) := by decide +kernel
theorem dX5_readsWheel_80 : decode cX5_readsWheel 80 = .ok (.iastore, 1) := by decide +kernel
theorem dX5_readsWheel_81 : decode cX5_readsWheel 81 = .ok (.iinc 2 1, 3) := by decide +kernel
theorem dX5_readsWheel_84 : decode cX5_readsWheel 84 = .ok (.goto (-80), 3) := by decide +kernel
theorem dX5_readsWheel_87 : decode cX5_readsWheel 87 = .ok (.return_, 1) := by decide +kernel
set_option maxRecDepth 20000 in
theorem ggX5_readsItem_X5_number : GoodIn wsX5_readsItem wsX5_number := goodIn_r _ [14, 15, 16, 17, 18, 13, 19, 20, 21, 22, 23, 24, 25, 26, 27, 28, 29, 30, 31, 32, 33, 34, 35, 36, 37, 38, 39, 40, 41, 42, 43, 44, 45, 46, 47, 48, 49, 50, 55, 56, 57, 58, 59, 60, 61, 62, 63, 64, 65, 66, 67, 68, 69, 70, 71, 72, 73, 74, 75, 76, 77, 78, 79, 80, 81, 82, 83] (by decide +kernel) (by decide +kernel)
set_option maxRecDepth 20000 in
theorem gX5_readsItem_X5_number : GoodIn wsX5_readsItem (wsV RX5 119 RX5 yX5_number wsX5_number) := goodIn_app (goodIn_of _ (by decide +kernel)) ggX5_readsItem_X5_number
set_option maxRecDepth 20000 in
theorem ggX5_readsItem_X5_readsWheel : GoodIn wsX5_readsItem wsX5_readsWheel := goodIn_r _ [54, 2, 15, 16, 4, 17, 18, 13, 19, 20, 21, 22, 23, 24, 25, 26, 27, 28, 29, 30, 31, 32, 33, 34, 35, 36, 37, 38, 39, 40, 41, 42, 43, 44, 45, 46, 47, 48, 49, 50, 55, 56, 57, 58, 59, 60, 61, 62, 63, 64, 65, 66, 67, 68, 69, 70, 71, 72, 73, 74, 75, 76, 77, 78, 79, 80, 81, 82, 83] (by decide +kernel) (by decide +kernel)
set_option maxRecDepth 20000 in
theorem gX5_readsItem_X5_readsWheel : GoodIn wsX5_readsItem (wsV RX5 126 RX5 yX5_readsWheel wsX5_readsWheel) := goodIn_app (goodIn_of _ (by decide +kernel)) ggX5_readsItem_X5_readsWheel
set_option maxRecDepth 20000 in
theorem ggX5_readsItem_X5_isWell : GoodIn wsX5_readsItem wsX5_isWell := goodIn_r _ [29, 25, 55, 56, 57, 58, 59, 60, 61, 62, 63, 64, 65, 66, 67, 68, 69, 70, 71, 72, 73, 74, 75, 76, 77, 78, 79, 80, 81, 82, 83] (by decide +kernel) (by decide +kernel)
set_option maxRecDepth 20000 in
theorem gX5_readsItem_X5_isWell : GoodIn wsX5_readsItem (wsV RX5 105 RX5 yX5_isWell wsX5_isWell) := goodIn_app (goodIn_of _ (by decide +kernel)) ggX5_readsItem_X5_isWell
theorem dX5_readsItem_0 : decode cX5_readsItem 0 = .ok (.iload_n 1, 1) := by decide +kernel
theorem dX5_readsItem_1 : decode cX5_readsItem 1 = .ok (.ifCond .ne 70, 3) := by decide +kernel
theorem dX5_readsItem_4 : decode cX5_readsItem 4 = .ok (.aload_n 0, 1) := by decide +kernel
theorem dX5_readsItem_5 : decode cX5_readsItem 5 = .ok (.getfield 13, 3) := by decide +kernel
theorem dX5_readsItem_8 : decode cX5_readsItem 8 = .ok (.bipush 6, 2) := by decide +kernel
theorem dX5_readsItem_10 : decode cX5_readsItem 10 = .ok (.aload_n 0, 1) := by decide +kernel
theorem dX5_readsItem_11 : decode cX5_readsItem 11 = .ok (.getfield 116, 3) := by decide +kernel
theorem dX5_readsItem_14 : decode cX5_readsItem 14 = .ok (.iadd, 1) := by decide +kernel
theorem dX5_readsItem_15 : decode cX5_readsItem 15 = .ok (.aload_n 0, 1) := by decide +kernel
theorem dX5_readsItem_16 : decode cX5_readsItem 16 = .ok (.iconst 0, 1) := by decide +kernel
theorem dX5_readsItem_17 : decode cX5_readsItem 17 = .ok (.bipush 99, 2) := by decide +kernel
theorem dX5_readsItem_19 : decode cX5_readsItem 19 = .ok (.invokevirtual 119, 3) := by decide +kernel
theorem dX5_readsItem_22 : decode cX5_readsItem 22 = .ok (.iastore, 1) := by decide +kernel
theorem dX5_readsItem_23 : decode cX5_readsItem 23 = .ok (.aload_n 0, 1) := by decide +kernel
theorem dX5_readsItem_24 : decode cX5_readsItem 24 = .ok (.getfield 16, 3) := by decide +kernel
theorem dX5_readsItem_27 : decode cX5_readsItem 27 = .ok (.bipush 6, 2) := by decide +kernel
theorem dX5_readsItem_29 : decode cX5_readsItem 29 = .ok (.aload_n 0, 1) := by decide +kernel
theorem dX5_readsItem_30 : decode cX5_readsItem 30 = .ok (.getfield 116, 3) := by decide +kernel
theorem dX5_readsItem_33 : decode cX5_readsItem 33 = .ok (.iadd, 1) := by decide +kernel
theorem dX5_readsItem_34 : decode cX5_readsItem 34 = .ok (.aload_n 0, 1) := by decide +kernel
theorem dX5_readsItem_35 : decode cX5_readsItem 35 = .ok (.iconst 1, 1) := by decide +kernel
theorem dX5_readsItem_36 : decode cX5_readsItem 36 = .ok (.bipush 9, 2) := by decide +kernel
theorem dX5_readsItem_38 : decode cX5_readsItem 38 = .ok (.invokevirtual 119, 3) := by decide +kernel
theorem dX5_readsItem_41 : decode cX5_readsItem 41 = .ok (.iastore, 1) := by decide +kernel
theorem dX5_readsItem_42 : decode cX5_readsItem 42 = .ok (.aload_n 0, 1) := by decide +kernel
theorem dX5_readsItem_43 : decode cX5_readsItem 43 = .ok (.getfield 28, 3) := by decide +kernel
theorem dX5_readsItem_46 : decode cX5_readsItem 46 = .ok (.bipush 6, 2) := by decide +kernel
theorem dX5_readsItem_48 : decode cX5_readsItem 48 = .ok (.aload_n 0, 1) := by decide +kernel
theorem dX5_readsItem_49 : decode cX5_readsItem 49 = .ok (.getfield 116, 3) := by decide +kernel
theorem dX5_readsItem_52 : decode cX5_readsItem 52 = .ok (.iadd, 1) := by decide +kernel
theorem dX5_readsItem_53 : decode cX5_readsItem 53 = .ok (.aload_n 0, 1) := by decide +kernel
theorem dX5_readsItem_54 : decode cX5_readsItem 54 = .ok (.getfield 116, 3) := by decide +kernel
theorem dX5_readsItem_57 : decode cX5_readsItem 57 = .ok (.iastore, 1) := by decide +kernel
theorem dX5_readsItem_58 : decode cX5_readsItem 58 = .ok (.aload_n 0, 1) := by decide +kernel
theorem dX5_readsItem_59 : decode cX5_readsItem 59 = .ok (.dup, 1) := by decide +kernel
theorem dX5_readsItem_60 : decode cX5_readsItem 60 = .ok (.getfield 116, 3) := by decide +kernel
theorem dX5_readsItem_63 : decode cX5_readsItem 63 = .ok (.iconst 1, 1) := by decide +kernel
theorem dX5_readsItem_64 : decode cX5_readsItem 64 = .ok (.iadd, 1) := by decide +kernel
theorem dX5_readsItem_65 : decode cX5_readsItem 65 = .ok (.putfield 116, 3) := by decide +kernel
theorem dX5_readsItem_68 : decode cX5_readsItem 68 = .ok (.goto 212, 3) := by decide +kernel
theorem dX5_readsItem_71 : decode cX5_readsItem 71 = .ok (.iload_n 1, 1) := by decide +kernel
theorem dX5_readsItem_72 : decode cX5_readsItem 72 = .ok (.iconst 1, 1) := by decide +kernel
theorem dX5_readsItem_73 : decode cX5_readsItem 73 = .ok (.if_icmp .ne 75, 3) := by decide +kernel
theorem dX5_readsItem_76 : decode cX5_readsItem 76 = .ok (.iconst 0, 1) := by decide +kernel
theorem dX5_readsItem_77 : decode cX5_readsItem 77 = .ok (.istore_n 2, 1) := by decide +kernel
theorem dX5_readsItem_78 : decode cX5_readsItem 78 = .ok (.iload_n 2, 1) := by decide +kernel
theorem dX5_readsItem_79 : decode cX5_readsItem 79 = .ok (.bipush 6, 2) := by decide +kernel
theorem dX5_readsItem_81 : decode cX5_readsItem 81 = .ok (.if_icmp .ge 27, 3) := by decide +kernel
theorem dX5_readsItem_84 : decode cX5_readsItem 84 = .ok (.aload_n 0, 1) := by decide +kernel
theorem dX5_readsItem_85 : decode cX5_readsItem 85 = .ok (.getfield 19, 3) := by decide +kernel
theorem dX5_readsItem_88 : decode cX5_readsItem 88 = .ok (.bipush 36, 2) := by decide +kernel
theorem dX5_readsItem_90 : decode cX5_readsItem 90 = .ok (.bipush 6, 2) := by decide +kernel
theorem dX5_readsItem_92 : decode cX5_readsItem 92 = .ok (.aload_n 0, 1) := by decide +kernel
theorem dX5_readsItem_93 : decode cX5_readsItem 93 = .ok (.getfield 123, 3) := by decide +kernel
theorem dX5_readsItem_96 : decode cX5_readsItem 96 = .ok (.imul, 1) := by decide +kernel
theorem dX5_readsItem_97 : decode cX5_readsItem 97 = .ok (.iadd, 1) := by decide +kernel
theorem dX5_readsItem_98 : decode cX5_readsItem 98 = .ok (.iload_n 2, 1) := by decide +kernel
theorem dX5_readsItem_99 : decode cX5_readsItem 99 = .ok (.iadd, 1) := by decide +kernel
theorem dX5_readsItem_100 : decode cX5_readsItem 100 = .ok (.iconst 3, 1) := by decide +kernel
theorem dX5_readsItem_101 : decode cX5_readsItem 101 = .ok (.iastore, 1) := by decide +kernel
theorem dX5_readsItem_102 : decode cX5_readsItem 102 = .ok (.iinc 2 1, 3) := by decide +kernel
theorem dX5_readsItem_105 : decode cX5_readsItem 105 = .ok (.goto (-27), 3) := by decide +kernel
theorem dX5_readsItem_108 : decode cX5_readsItem 108 = .ok (.aload_n 0, 1) := by decide +kernel
theorem dX5_readsItem_109 : decode cX5_readsItem 109 = .ok (.getfield 22, 3) := by decide +kernel
theorem dX5_readsItem_112 : decode cX5_readsItem 112 = .ok (.bipush 6, 2) := by decide +kernel
theorem dX5_readsItem_114 : decode cX5_readsItem 114 = .ok (.aload_n 0, 1) := by decide +kernel
theorem dX5_readsItem_115 : decode cX5_readsItem 115 = .ok (.getfield 123, 3) := by decide +kernel
theorem dX5_readsItem_118 : decode cX5_readsItem 118 = .ok (.iadd, 1) := by decide +kernel
theorem dX5_readsItem_119 : decode cX5_readsItem 119 = .ok (.bipush (-9), 2) := by decide +kernel
theorem dX5_readsItem_121 : decode cX5_readsItem 121 = .ok (.iastore, 1) := by decide +kernel
theorem dX5_readsItem_122 : decode cX5_readsItem 122 = .ok (.aload_n 0, 1) := by decide +kernel
theorem dX5_readsItem_123 : decode cX5_readsItem 123 = .ok (.getfield 25, 3) := by decide +kernel
theorem dX5_readsItem_126 : decode cX5_readsItem 126 = .ok (.bipush 6, 2) := by decide +kernel
theorem dX5_readsItem_128 : decode cX5_readsItem 128 = .ok (.aload_n 0, 1) := by decide +kernel
theorem dX5_readsItem_129 : decode cX5_readsItem 129 = .ok (.getfield 123, 3) := by decide +kernel
theorem dX5_readsItem_132 : decode cX5_readsItem 132 = .ok (.iadd, 1) := by decide +kernel
theorem dX5_readsItem_133 : decode cX5_readsItem 133 = .ok (.iconst 0, 1) := by decide +kernel
theorem dX5_readsItem_134 : decode cX5_readsItem 134 = .ok (.iastore, 1) := by decide +kernel
theorem dX5_readsItem_135 : decode cX5_readsItem 135 = .ok (.aload_n 0, 1) := by decide +kernel
theorem dX5_readsItem_136 : decode cX5_readsItem 136 = .ok (.dup, 1) := by decide +kernel
theorem dX5_readsItem_137 : decode cX5_readsItem 137 = .ok (.getfield 123, 3) := by decide +kernel
theorem dX5_readsItem_140 : decode cX5_readsItem 140 = .ok (.iconst 1, 1) := by decide +kernel
theorem dX5_readsItem_141 : decode cX5_readsItem 141 = .ok (.iadd, 1) := by decide +kernel
theorem dX5_readsItem_142 : decode cX5_readsItem 142 = .ok (.putfield 123, 3) := by decide +kernel
theorem dX5_readsItem_145 : decode cX5_readsItem 145 = .ok (.goto 135, 3) := by decide +kernel
theorem dX5_readsItem_148 : decode cX5_readsItem 148 = .ok (.iload_n 1, 1) := by decide +kernel
theorem dX5_readsItem_149 : decode cX5_readsItem 149 = .ok (.iconst 5, 1) := by decide +kernel
theorem dX5_readsItem_150 : decode cX5_readsItem 150 = .ok (.if_icmp .ne 10, 3) := by decide +kernel
theorem dX5_readsItem_153 : decode cX5_readsItem 153 = .ok (.aload_n 0, 1) := by decide +kernel
theorem dX5_readsItem_154 : decode cX5_readsItem 154 = .ok (.invokevirtual 126, 3) := by decide +kernel
theorem dX5_readsItem_157 : decode cX5_readsItem 157 = .ok (.goto 123, 3) := by decide +kernel
theorem dX5_readsItem_160 : decode cX5_readsItem 160 = .ok (.aload_n 0, 1) := by decide +kernel
theorem dX5_readsItem_161 : decode cX5_readsItem 161 = .ok (.iconst 0, 1) := by decide +kernel
theorem dX5_readsItem_162 : decode cX5_readsItem 162 = .ok (.aload_n 0, 1) := by decide +kernel
theorem dX5_readsItem_163 : decode cX5_readsItem 163 = .ok (.getfield 123, 3) := by decide +kernel
theorem dX5_readsItem_166 : decode cX5_readsItem 166 = .ok (.iconst 1, 1) := by decide +kernel
theorem dX5_readsItem_167 : decode cX5_readsItem 167 = .ok (.isub, 1) := by decide +kernel
theorem dX5_readsItem_168 : decode cX5_readsItem 168 = .ok (.invokevirtual 119, 3) := by decide +kernel
theorem dX5_readsItem_171 : decode cX5_readsItem 171 = .ok (.istore_n 2, 1) := by decide +kernel
theorem dX5_readsItem_172 : decode cX5_readsItem 172 = .ok (.aload_n 0, 1) := by decide +kernel
theorem dX5_readsItem_173 : decode cX5_readsItem 173 = .ok (.iconst 0, 1) := by decide +kernel
theorem dX5_readsItem_174 : decode cX5_readsItem 174 = .ok (.aload_n 0, 1) := by decide +kernel
theorem dX5_readsItem_175 : decode cX5_readsItem 175 = .ok (.getfield 116, 3) := by decide +kernel
theorem dX5_readsItem_178 : decode cX5_readsItem 178 = .ok (.iconst 1, 1) := by decide +kernel
theorem dX5_readsItem_179 : decode cX5_readsItem 179 = .ok (.isub, 1) := by decide +kernel
theorem dX5_readsItem_180 : decode cX5_readsItem 180 = .ok (.invokevirtual 119, 3) := by decide +kernel
theorem dX5_readsItem_183 : decode cX5_readsItem 183 = .ok (.istore_n 3, 1) := by decide +kernel
theorem dX5_readsItem_184 : decode cX5_readsItem 184 = .ok (.iload_n 1, 1) := by decide +kernel
theorem dX5_readsItem_185 : decode cX5_readsItem 185 = .ok (.iconst 2, 1) := by decide +kernel
theorem dX5_readsItem_186 : decode cX5_readsItem 186 = .ok (.if_icmp .ne 13, 3) := by decide +kernel
theorem dX5_readsItem_189 : decode cX5_readsItem 189 = .ok (.aload_n 0, 1) := by decide +kernel
theorem dX5_readsItem_190 : decode cX5_readsItem 190 = .ok (.iconst 0, 1) := by decide +kernel
theorem dX5_readsItem_191 : decode cX5_readsItem 191 = .ok (.bipush 9, 2) := by decide +kernel
theorem dX5_readsItem_193 : decode cX5_readsItem 193 = .ok (.invokevirtual 119, 3) := by decide +kernel
theorem dX5_readsItem_196 : decode cX5_readsItem 196 = .ok (.goto 4, 3) := by decide +kernel
theorem dX5_readsItem_199 : decode cX5_readsItem 199 = .ok (.iconst 0, 1) := by decide +kernel
theorem dX5_readsItem_200 : decode cX5_readsItem 200 = .ok (.istore 4, 2) := by decide +kernel
theorem dX5_readsItem_202 : decode cX5_readsItem 202 = .ok (.aload_n 0, 1) := by decide +kernel
theorem dX5_readsItem_203 : decode cX5_readsItem 203 = .ok (.invokevirtual 105, 3) := by decide +kernel
theorem dX5_readsItem_206 : decode cX5_readsItem 206 = .ok (.ifCond .eq 27, 3) := by decide +kernel
theorem dX5_readsItem_209 : decode cX5_readsItem 209 = .ok (.iload_n 1, 1) := by decide +kernel
theorem dX5_readsItem_210 : decode cX5_readsItem 210 = .ok (.iconst 2, 1) := by decide +kernel
theorem dX5_readsItem_211 : decode cX5_readsItem 211 = .ok (.if_icmp .ne 22, 3) := by decide +kernel
theorem dX5_readsItem_214 : decode cX5_readsItem 214 = .ok (.aload_n 0, 1) := by decide +kernel
theorem dX5_readsItem_215 : decode cX5_readsItem 215 = .ok (.getfield 19, 3) := by decide +kernel
theorem dX5_readsItem_218 : decode cX5_readsItem 218 = .ok (.bipush 36, 2) := by decide +kernel
theorem dX5_readsItem_220 : decode cX5_readsItem 220 = .ok (.bipush 6, 2) := by decide +kernel
theorem dX5_readsItem_222 : decode cX5_readsItem 222 = .ok (.iload_n 2, 1) := by decide +kernel
theorem dX5_readsItem_223 : decode cX5_readsItem 223 = .ok (.imul, 1) := by decide +kernel
theorem dX5_readsItem_224 : decode cX5_readsItem 224 = .ok (.iadd, 1) := by decide +kernel
theorem dX5_readsItem_225 : decode cX5_readsItem 225 = .ok (.iload_n 3, 1) := by decide +kernel
theorem dX5_readsItem_226 : decode cX5_readsItem 226 = .ok (.iadd, 1) := by decide +kernel
theorem dX5_readsItem_227 : decode cX5_readsItem 227 = .ok (.iload 4, 2) := by decide +kernel
theorem dX5_readsItem_229 : decode cX5_readsItem 229 = .ok (.iastore, 1) := by decide +kernel
theorem dX5_readsItem_230 : decode cX5_readsItem 230 = .ok (.goto 50, 3) := by decide +kernel
theorem dX5_readsItem_233 : decode cX5_readsItem 233 = .ok (.aload_n 0, 1) := by decide +kernel
theorem dX5_readsItem_234 : decode cX5_readsItem 234 = .ok (.invokevirtual 105, 3) := by decide +kernel
theorem dX5_readsItem_237 : decode cX5_readsItem 237 = .ok (.ifCond .eq 26, 3) := by decide +kernel
theorem dX5_readsItem_240 : decode cX5_readsItem 240 = .ok (.iload_n 1, 1) := by decide +kernel
theorem dX5_readsItem_241 : decode cX5_readsItem 241 = .ok (.iconst 3, 1) := by decide +kernel
theorem dX5_readsItem_242 : decode cX5_readsItem 242 = .ok (.if_icmp .ne 21, 3) := by decide +kernel
theorem dX5_readsItem_245 : decode cX5_readsItem 245 = .ok (.aload_n 0, 1) := by decide +kernel
theorem dX5_readsItem_246 : decode cX5_readsItem 246 = .ok (.getfield 25, 3) := by decide +kernel
theorem dX5_readsItem_249 : decode cX5_readsItem 249 = .ok (.bipush 6, 2) := by decide +kernel
theorem dX5_readsItem_251 : decode cX5_readsItem 251 = .ok (.iload_n 2, 1) := by decide +kernel
theorem dX5_readsItem_252 : decode cX5_readsItem 252 = .ok (.iadd, 1) := by decide +kernel
theorem dX5_readsItem_253 : decode cX5_readsItem 253 = .ok (.dup2, 1) := by decide +kernel
theorem dX5_readsItem_254 : decode cX5_readsItem 254 = .ok (.iaload, 1) := by decide +kernel
theorem dX5_readsItem_255 : decode cX5_readsItem 255 = .ok (.iconst 1, 1) := by decide +kernel
theorem dX5_readsItem_256 : decode cX5_readsItem 256 = .ok (.iload_n 3, 1) := by decide +kernel
theorem dX5_readsItem_257 : decode cX5_readsItem 257 = .ok (.ishl, 1) := by decide +kernel
theorem dX5_readsItem_258 : decode cX5_readsItem 258 = .ok (.ior, 1) := by decide +kernel
theorem dX5_readsItem_259 : decode cX5_readsItem 259 = .ok (.iastore, 1) := by decide +kernel
theorem dX5_readsItem_260 : decode cX5_readsItem 260 = .ok (.goto 20, 3) := by decide +kernel
theorem dX5_readsItem_263 : decode cX5_readsItem 263 = .ok (.aload_n 0, 1) := by decide +kernel
theorem dX5_readsItem_264 : decode cX5_readsItem 264 = .ok (.invokevirtual 105, 3) := by decide +kernel
theorem dX5_readsItem_267 : decode cX5_readsItem 267 = .ok (.ifCond .eq 13, 3) := by decide +kernel
theorem dX5_readsItem_270 : decode cX5_readsItem 270 = .ok (.aload_n 0, 1) := by decide +kernel
theorem dX5_readsItem_271 : decode cX5_readsItem 271 = .ok (.getfield 22, 3) := by decide +kernel
theorem dX5_readsItem_274 : decode cX5_readsItem 274 = .ok (.bipush 6, 2) := by decide +kernel
theorem dX5_readsItem_276 : decode cX5_readsItem 276 = .ok (.iload_n 2, 1) := by decide +kernel
theorem dX5_readsItem_277 : decode cX5_readsItem 277 = .ok (.iadd, 1) := by decide +kernel
theorem dX5_readsItem_278 : decode cX5_readsItem 278 = .ok (.iload_n 3, 1) := by decide +kernel
theorem dX5_readsItem_279 : decode cX5_readsItem 279 = .ok (.iastore, 1) := by decide +kernel
theorem dX5_readsItem_280 : decode cX5_readsItem 280 = .ok (.aload_n 0, 1) := by decide +kernel
theorem dX5_readsItem_281 : decode cX5_readsItem 281 = .ok (.aload_n 0, 1) := by decide +kernel
theorem dX5_readsItem_282 : decode cX5_readsItem 282 = .ok (.getfield 129, 3) := by decide +kernel
theorem dX5_readsItem_285 : decode cX5_readsItem 285 = .ok (.ifCond .ne 8, 3) := by decide +kernel
theorem dX5_readsItem_288 : decode cX5_readsItem 288 = .ok (.iload_n 1, 1) := by decide +kernel
theorem dX5_readsItem_289 : decode cX5_readsItem 289 = .ok (.iconst 1, 1) := by decide +kernel
theorem dX5_readsItem_290 : decode cX5_readsItem 290 = .ok (.if_icmp .le 7, 3) := by decide +kernel
theorem dX5_readsItem_293 : decode cX5_readsItem 293 = .ok (.iconst 1, 1) := by decide +kernel
theorem dX5_readsItem_294 : decode cX5_readsItem 294 = .ok (.goto 4, 3) := by decide +kernel
theorem dX5_readsItem_297 : decode cX5_readsItem 297 = .ok (.iconst 0, 1) := by decide +kernel
theorem dX5_readsItem_298 : decode cX5_readsItem 298 = .ok (.putfield 129, 3) := by decide +kernel
theorem dX5_readsItem_301 : decode cX5_readsItem 301 = .ok (.return_, 1) := by decide +kernel
set_option maxRecDepth 20000 in
theorem ggX5_read_X5_advances : GoodIn wsX5_read wsX5_advances := goodIn_r _ [23, 3, 24, 7, 8, 25, 26, 27, 22, 28, 17, 29, 30, 31, 32, 33, 34, 35, 36, 37, 38, 39, 40, 41, 42, 68, 69, 70, 71, 72, 73, 74, 75, 76, 77, 78, 79, 80, 81, 82, 83, 84, 85, 86, 87, 88, 89, 90, 91, 92, 93, 94, 95, 96] (by decide +kernel) (by decide +kernel)
set_option maxRecDepth 20000 in
theorem gX5_read_X5_advances : GoodIn wsX5_read (wsV RX5 109 RX5 yX5_advances wsX5_advances) := goodIn_app (goodIn_of _ (by decide +kernel)) ggX5_read_X5_advances
set_option maxRecDepth 20000 in
theorem ggX5_read_X5_isWell : GoodIn wsX5_read wsX5_isWell := goodIn_r _ [46, 2, 68, 69, 70, 71, 72, 73, 74, 75, 76, 77, 78, 79, 80, 81, 82, 83, 84, 85, 86, 87, 88, 89, 90, 91, 92, 93, 94, 95, 96] (by decide +kernel) (by decide +kernel)
set_option maxRecDepth 20000 in
theorem gX5_read_X5_isWell : GoodIn wsX5_read (wsV RX5 105 RX5 yX5_isWell wsX5_isWell) := goodIn_app (goodIn_of _ (by decide +kernel)) ggX5_read_X5_isWell
set_option maxRecDepth 20000 in
theorem ggX5_read_X5_takes : GoodIn wsX5_read wsX5_takes := goodIn_r _ [50, 24, 2, 8, 43, 44, 45, 22, 46, 19, 20, 21, 23, 3, 7, 25, 26, 27, 28, 17, 29, 30, 31, 32, 33, 34, 35, 36, 37, 38, 39, 40, 41, 42, 68, 69, 70, 71, 72, 73, 74, 75, 76, 77, 78, 79, 80, 81, 82, 83, 84, 85, 86, 87, 88, 89, 90, 91, 92, 93, 94, 95, 96] (by decide +kernel) (by decide +kernel)
set_option maxRecDepth 20000 in
theorem gX5_read_X5_takes : GoodIn wsX5_read (wsV RX5 112 RX5 yX5_takes wsX5_takes) := goodIn_app (goodIn_of _ (by decide +kernel)) ggX5_read_X5_takes
set_option maxRecDepth 20000 in
theorem ggX5_read_X5_readsItem : GoodIn wsX5_read wsX5_readsItem := goodIn_r _ [54, 11, 4, 12, 14, 16, 5, 15, 13, 6, 55, 56, 57, 22, 58, 7, 8, 30, 31, 32, 47, 48, 49, 50, 24, 2, 43, 44, 45, 46, 19, 20, 21, 23, 3, 25, 26, 27, 28, 17, 29, 33, 34, 35, 36, 37, 38, 39, 40, 41, 42, 59, 60, 61, 62, 68, 69, 70, 71, 72, 73, 74, 75, 76, 77, 78, 79, 80, 81, 82, 83, 84, 85, 86, 87, 88, 89, 90, 91, 92, 93, 94, 95, 96] (by decide +kernel) (by decide +kernel)
set_option maxRecDepth 20000 in
theorem gX5_read_X5_readsItem : GoodIn wsX5_read (wsV RX5 133 RX5 yX5_readsItem wsX5_readsItem) := goodIn_app (goodIn_of _ (by decide +kernel)) ggX5_read_X5_readsItem
set_option maxRecDepth 20000 in
theorem ggX5_read_X5_begins : GoodIn wsX5_read wsX5_begins := goodIn_r _ [66, 67, 14, 15, 16, 68, 69, 70, 71, 72, 73, 74, 75, 76, 77, 78, 79, 80, 81, 82, 83, 84, 85, 86, 87, 88, 89, 90, 91, 92, 93, 94, 95, 96] (by decide +kernel) (by decide +kernel)
set_option maxRecDepth 20000 in
theorem gX5_read_X5_begins : GoodIn wsX5_read (wsV RX5 56 RX5 yX5_begins wsX5_begins) := goodIn_app (goodIn_of _ (by decide +kernel)) ggX5_read_X5_begins
theorem dX5_read_0 : decode cX5_read 0 = .ok (.aload_n 0, 1) := by decide +kernel
theorem dX5_read_1 : decode cX5_read 1 = .ok (.iconst 0, 1) := by decide +kernel
theorem dX5_read_2 : decode cX5_read 2 = .ok (.putfield 59, 3) := by decide +kernel
theorem dX5_read_5 : decode cX5_read 5 = .ok (.aload_n 0, 1) := by decide +kernel
theorem dX5_read_6 : decode cX5_read 6 = .ok (.iconst (-1), 1) := by decide +kernel
theorem dX5_read_7 : decode cX5_read 7 = .ok (.putfield 102, 3) := by decide +kernel
theorem dX5_read_10 : decode cX5_read 10 = .ok (.aload_n 0, 1) := by decide +kernel
theorem dX5_read_11 : decode cX5_read 11 = .ok (.iconst 0, 1) := by decide +kernel
theorem dX5_read_12 : decode cX5_read 12 = .ok (.putfield 82, 3) := by decide +kernel
theorem dX5_read_15 : decode cX5_read 15 = .ok (.iconst 0, 1) := by decide +kernel
theorem dX5_read_16 : decode cX5_read 16 = .ok (.istore_n 1, 1) := by decide +kernel
theorem dX5_read_17 : decode cX5_read 17 = .ok (.aload_n 0, 1) := by decide +kernel
theorem dX5_read_18 : decode cX5_read 18 = .ok (.iconst 0, 1) := by decide +kernel
theorem dX5_read_19 : decode cX5_read 19 = .ok (.putfield 116, 3) := by decide +kernel
theorem dX5_read_22 : decode cX5_read 22 = .ok (.aload_n 0, 1) := by decide +kernel
theorem dX5_read_23 : decode cX5_read 23 = .ok (.iconst 0, 1) := by decide +kernel
theorem dX5_read_24 : decode cX5_read 24 = .ok (.putfield 123, 3) := by decide +kernel
theorem dX5_read_27 : decode cX5_read 27 = .ok (.aload_n 0, 1) := by decide +kernel
theorem dX5_read_28 : decode cX5_read 28 = .ok (.iconst 0, 1) := by decide +kernel
theorem dX5_read_29 : decode cX5_read 29 = .ok (.putfield 129, 3) := by decide +kernel
theorem dX5_read_32 : decode cX5_read 32 = .ok (.aload_n 0, 1) := by decide +kernel
theorem dX5_read_33 : decode cX5_read 33 = .ok (.invokevirtual 109, 3) := by decide +kernel
theorem dX5_read_36 : decode cX5_read 36 = .ok (.aload_n 0, 1) := by decide +kernel
theorem dX5_read_37 : decode cX5_read 37 = .ok (.invokevirtual 105, 3) := by decide +kernel
theorem dX5_read_40 : decode cX5_read 40 = .ok (.ifCond .eq 145, 3) := by decide +kernel
theorem dX5_read_43 : decode cX5_read 43 = .ok (.aload_n 0, 1) := by decide +kernel
theorem dX5_read_44 : decode cX5_read 44 = .ok (.getfield 92, 3) := by decide +kernel
theorem dX5_read_47 : decode cX5_read 47 = .ok (.ifCond .eq 138, 3) := by decide +kernel
theorem dX5_read_50 : decode cX5_read 50 = .ok (.aload_n 0, 1) := by decide +kernel
theorem dX5_read_51 : decode cX5_read 51 = .ok (.getfield 99, 3) := by decide +kernel
theorem dX5_read_54 : decode cX5_read 54 = .ok (.ifCond .ne 27, 3) := by decide +kernel
theorem dX5_read_57 : decode cX5_read 57 = .ok (.aload_n 0, 1) := by decide +kernel
theorem dX5_read_58 : decode cX5_read 58 = .ok (.getfield 116, 3) := by decide +kernel
theorem dX5_read_61 : decode cX5_read 61 = .ok (.bipush 6, 2) := by decide +kernel
theorem dX5_read_63 : decode cX5_read 63 = .ok (.if_icmp .ge 14, 3) := by decide +kernel
theorem dX5_read_66 : decode cX5_read 66 = .ok (.aload_n 0, 1) := by decide +kernel
theorem dX5_read_67 : decode cX5_read 67 = .ok (.getfield 129, 3) := by decide +kernel
theorem dX5_read_70 : decode cX5_read 70 = .ok (.ifCond .ne 7, 3) := by decide +kernel
theorem dX5_read_73 : decode cX5_read 73 = .ok (.iconst 1, 1) := by decide +kernel
theorem dX5_read_74 : decode cX5_read 74 = .ok (.goto 52, 3) := by decide +kernel
theorem dX5_read_77 : decode cX5_read 77 = .ok (.iconst 0, 1) := by decide +kernel
theorem dX5_read_78 : decode cX5_read 78 = .ok (.goto 48, 3) := by decide +kernel
theorem dX5_read_81 : decode cX5_read 81 = .ok (.aload_n 0, 1) := by decide +kernel
theorem dX5_read_82 : decode cX5_read 82 = .ok (.getfield 99, 3) := by decide +kernel
theorem dX5_read_85 : decode cX5_read 85 = .ok (.iconst 1, 1) := by decide +kernel
theorem dX5_read_86 : decode cX5_read 86 = .ok (.if_icmp .ne 20, 3) := by decide +kernel
theorem dX5_read_89 : decode cX5_read 89 = .ok (.aload_n 0, 1) := by decide +kernel
theorem dX5_read_90 : decode cX5_read 90 = .ok (.getfield 123, 3) := by decide +kernel
theorem dX5_read_93 : decode cX5_read 93 = .ok (.bipush 6, 2) := by decide +kernel
theorem dX5_read_95 : decode cX5_read 95 = .ok (.if_icmp .ge 7, 3) := by decide +kernel
theorem dX5_read_98 : decode cX5_read 98 = .ok (.iconst 1, 1) := by decide +kernel
theorem dX5_read_99 : decode cX5_read 99 = .ok (.goto 27, 3) := by decide +kernel
theorem dX5_read_102 : decode cX5_read 102 = .ok (.iconst 0, 1) := by decide +kernel
theorem dX5_read_103 : decode cX5_read 103 = .ok (.goto 23, 3) := by decide +kernel
theorem dX5_read_106 : decode cX5_read 106 = .ok (.aload_n 0, 1) := by decide +kernel
theorem dX5_read_107 : decode cX5_read 107 = .ok (.getfield 99, 3) := by decide +kernel
theorem dX5_read_110 : decode cX5_read 110 = .ok (.iconst 5, 1) := by decide +kernel
theorem dX5_read_111 : decode cX5_read 111 = .ok (.if_icmp .ne 10, 3) := by decide +kernel
theorem dX5_read_114 : decode cX5_read 114 = .ok (.aload_n 0, 1) := by decide +kernel
theorem dX5_read_115 : decode cX5_read 115 = .ok (.getfield 116, 3) := by decide +kernel
theorem dX5_read_118 : decode cX5_read 118 = .ok (.ifCond .le 7, 3) := by decide +kernel
theorem dX5_read_121 : decode cX5_read 121 = .ok (.iconst 1, 1) := by decide +kernel
theorem dX5_read_122 : decode cX5_read 122 = .ok (.goto 4, 3) := by decide +kernel
theorem dX5_read_125 : decode cX5_read 125 = .ok (.iconst 0, 1) := by decide +kernel
theorem dX5_read_126 : decode cX5_read 126 = .ok (.istore_n 2, 1) := by decide +kernel
theorem dX5_read_127 : decode cX5_read 127 = .ok (.aload_n 0, 1) := by decide +kernel
theorem dX5_read_128 : decode cX5_read 128 = .ok (.aload_n 0, 1) := by decide +kernel
theorem dX5_read_129 : decode cX5_read 129 = .ok (.getfield 92, 3) := by decide +kernel
theorem dX5_read_132 : decode cX5_read 132 = .ok (.iconst 1, 1) := by decide +kernel
theorem dX5_read_133 : decode cX5_read 133 = .ok (.if_icmp .ne 11, 3) := by decide +kernel
theorem dX5_read_136 : decode cX5_read 136 = .ok (.iload_n 2, 1) := by decide +kernel
theorem dX5_read_137 : decode cX5_read 137 = .ok (.ifCond .eq 7, 3) := by decide +kernel
theorem dX5_read_140 : decode cX5_read 140 = .ok (.iconst 1, 1) := by decide +kernel
theorem dX5_read_141 : decode cX5_read 141 = .ok (.goto 4, 3) := by decide +kernel
theorem dX5_read_144 : decode cX5_read 144 = .ok (.iconst 0, 1) := by decide +kernel
theorem dX5_read_145 : decode cX5_read 145 = .ok (.invokevirtual 112, 3) := by decide +kernel
theorem dX5_read_148 : decode cX5_read 148 = .ok (.istore_n 3, 1) := by decide +kernel
theorem dX5_read_149 : decode cX5_read 149 = .ok (.aload_n 0, 1) := by decide +kernel
theorem dX5_read_150 : decode cX5_read 150 = .ok (.invokevirtual 105, 3) := by decide +kernel
theorem dX5_read_153 : decode cX5_read 153 = .ok (.ifCond .eq 8, 3) := by decide +kernel
theorem dX5_read_156 : decode cX5_read 156 = .ok (.aload_n 0, 1) := by decide +kernel
theorem dX5_read_157 : decode cX5_read 157 = .ok (.iload_n 3, 1) := by decide +kernel
theorem dX5_read_158 : decode cX5_read 158 = .ok (.invokevirtual 133, 3) := by decide +kernel
theorem dX5_read_161 : decode cX5_read 161 = .ok (.aload_n 0, 1) := by decide +kernel
theorem dX5_read_162 : decode cX5_read 162 = .ok (.aload_n 0, 1) := by decide +kernel
theorem dX5_read_163 : decode cX5_read 163 = .ok (.getfield 92, 3) := by decide +kernel
theorem dX5_read_166 : decode cX5_read 166 = .ok (.iconst 3, 1) := by decide +kernel
theorem dX5_read_167 : decode cX5_read 167 = .ok (.if_icmp .ne 7, 3) := by decide +kernel
theorem dX5_read_170 : decode cX5_read 170 = .ok (.iconst 1, 1) := by decide +kernel
theorem dX5_read_171 : decode cX5_read 171 = .ok (.goto 4, 3) := by decide +kernel
theorem dX5_read_174 : decode cX5_read 174 = .ok (.iconst 0, 1) := by decide +kernel
theorem dX5_read_175 : decode cX5_read 175 = .ok (.invokevirtual 112, 3) := by decide +kernel
theorem dX5_read_178 : decode cX5_read 178 = .ok (.pop, 1) := by decide +kernel
theorem dX5_read_179 : decode cX5_read 179 = .ok (.iinc 1 1, 3) := by decide +kernel
theorem dX5_read_182 : decode cX5_read 182 = .ok (.goto (-146), 3) := by decide +kernel
theorem dX5_read_185 : decode cX5_read 185 = .ok (.aload_n 0, 1) := by decide +kernel
theorem dX5_read_186 : decode cX5_read 186 = .ok (.invokevirtual 105, 3) := by decide +kernel
theorem dX5_read_189 : decode cX5_read 189 = .ok (.ifCond .ne 11, 3) := by decide +kernel
theorem dX5_read_192 : decode cX5_read 192 = .ok (.bipush (-10), 2) := by decide +kernel
theorem dX5_read_194 : decode cX5_read 194 = .ok (.aload_n 0, 1) := by decide +kernel
theorem dX5_read_195 : decode cX5_read 195 = .ok (.getfield 102, 3) := by decide +kernel
theorem dX5_read_198 : decode cX5_read 198 = .ok (.isub, 1) := by decide +kernel
theorem dX5_read_199 : decode cX5_read 199 = .ok (.ireturn, 1) := by decide +kernel
theorem dX5_read_200 : decode cX5_read 200 = .ok (.aload_n 0, 1) := by decide +kernel
theorem dX5_read_201 : decode cX5_read 201 = .ok (.aload_n 0, 1) := by decide +kernel
theorem dX5_read_202 : decode cX5_read 202 = .ok (.getfield 116, 3) := by decide +kernel
theorem dX5_read_205 : decode cX5_read 205 = .ok (.putfield 137, 3) := by decide +kernel
theorem dX5_read_208 : decode cX5_read 208 = .ok (.aload_n 0, 1) := by decide +kernel
theorem dX5_read_209 : decode cX5_read 209 = .ok (.aload_n 0, 1) := by decide +kernel
theorem dX5_read_210 : decode cX5_read 210 = .ok (.getfield 123, 3) := by decide +kernel
theorem dX5_read_213 : decode cX5_read 213 = .ok (.putfield 140, 3) := by decide +kernel
theorem dX5_read_216 : decode cX5_read 216 = .ok (.iconst 0, 1) := by decide +kernel
theorem dX5_read_217 : decode cX5_read 217 = .ok (.istore_n 2, 1) := by decide +kernel
theorem dX5_read_218 : decode cX5_read 218 = .ok (.iload_n 2, 1) := by decide +kernel
theorem dX5_read_219 : decode cX5_read 219 = .ok (.bipush 6, 2) := by decide +kernel
theorem dX5_read_221 : decode cX5_read 221 = .ok (.if_icmp .ge 126, 3) := by decide +kernel
theorem dX5_read_224 : decode cX5_read 224 = .ok (.aload_n 0, 1) := by decide +kernel
theorem dX5_read_225 : decode cX5_read 225 = .ok (.getfield 13, 3) := by decide +kernel
theorem dX5_read_228 : decode cX5_read 228 = .ok (.iload_n 2, 1) := by decide +kernel
theorem dX5_read_229 : decode cX5_read 229 = .ok (.aload_n 0, 1) := by decide +kernel
theorem dX5_read_230 : decode cX5_read 230 = .ok (.getfield 13, 3) := by decide +kernel
theorem dX5_read_233 : decode cX5_read 233 = .ok (.bipush 6, 2) := by decide +kernel
theorem dX5_read_235 : decode cX5_read 235 = .ok (.iload_n 2, 1) := by decide +kernel
theorem dX5_read_236 : decode cX5_read 236 = .ok (.iadd, 1) := by decide +kernel
theorem dX5_read_237 : decode cX5_read 237 = .ok (.iaload, 1) := by decide +kernel
theorem dX5_read_238 : decode cX5_read 238 = .ok (.iastore, 1) := by decide +kernel
theorem dX5_read_239 : decode cX5_read 239 = .ok (.aload_n 0, 1) := by decide +kernel
theorem dX5_read_240 : decode cX5_read 240 = .ok (.getfield 16, 3) := by decide +kernel
theorem dX5_read_243 : decode cX5_read 243 = .ok (.iload_n 2, 1) := by decide +kernel
theorem dX5_read_244 : decode cX5_read 244 = .ok (.aload_n 0, 1) := by decide +kernel
theorem dX5_read_245 : decode cX5_read 245 = .ok (.getfield 16, 3) := by decide +kernel
theorem dX5_read_248 : decode cX5_read 248 = .ok (.bipush 6, 2) := by decide +kernel
theorem dX5_read_250 : decode cX5_read 250 = .ok (.iload_n 2, 1) := by decide +kernel
theorem dX5_read_251 : decode cX5_read 251 = .ok (.iadd, 1) := by decide +kernel
theorem dX5_read_252 : decode cX5_read 252 = .ok (.iaload, 1) := by decide +kernel
theorem dX5_read_253 : decode cX5_read 253 = .ok (.iastore, 1) := by decide +kernel
theorem dX5_read_254 : decode cX5_read 254 = .ok (.aload_n 0, 1) := by decide +kernel
theorem dX5_read_255 : decode cX5_read 255 = .ok (.getfield 25, 3) := by decide +kernel
theorem dX5_read_258 : decode cX5_read 258 = .ok (.iload_n 2, 1) := by decide +kernel
theorem dX5_read_259 : decode cX5_read 259 = .ok (.aload_n 0, 1) := by decide +kernel
theorem dX5_read_260 : decode cX5_read 260 = .ok (.getfield 25, 3) := by decide +kernel
theorem dX5_read_263 : decode cX5_read 263 = .ok (.bipush 6, 2) := by decide +kernel
theorem dX5_read_265 : decode cX5_read 265 = .ok (.iload_n 2, 1) := by decide +kernel
theorem dX5_read_266 : decode cX5_read 266 = .ok (.iadd, 1) := by decide +kernel
theorem dX5_read_267 : decode cX5_read 267 = .ok (.iaload, 1) := by decide +kernel
theorem dX5_read_268 : decode cX5_read 268 = .ok (.iastore, 1) := by decide +kernel
theorem dX5_read_269 : decode cX5_read 269 = .ok (.aload_n 0, 1) := by decide +kernel
theorem dX5_read_270 : decode cX5_read 270 = .ok (.getfield 28, 3) := by decide +kernel
theorem dX5_read_273 : decode cX5_read 273 = .ok (.iload_n 2, 1) := by decide +kernel
theorem dX5_read_274 : decode cX5_read 274 = .ok (.aload_n 0, 1) := by decide +kernel
theorem dX5_read_275 : decode cX5_read 275 = .ok (.getfield 28, 3) := by decide +kernel
theorem dX5_read_278 : decode cX5_read 278 = .ok (.bipush 6, 2) := by decide +kernel
theorem dX5_read_280 : decode cX5_read 280 = .ok (.iload_n 2, 1) := by decide +kernel
theorem dX5_read_281 : decode cX5_read 281 = .ok (.iadd, 1) := by decide +kernel
theorem dX5_read_282 : decode cX5_read 282 = .ok (.iaload, 1) := by decide +kernel
theorem dX5_read_283 : decode cX5_read 283 = .ok (.iastore, 1) := by decide +kernel
theorem dX5_read_284 : decode cX5_read 284 = .ok (.aload_n 0, 1) := by decide +kernel
theorem dX5_read_285 : decode cX5_read 285 = .ok (.getfield 22, 3) := by decide +kernel
theorem dX5_read_288 : decode cX5_read 288 = .ok (.iload_n 2, 1) := by decide +kernel
theorem dX5_read_289 : decode cX5_read 289 = .ok (.iload_n 2, 1) := by decide +kernel
theorem dX5_read_290 : decode cX5_read 290 = .ok (.aload_n 0, 1) := by decide +kernel
theorem dX5_read_291 : decode cX5_read 291 = .ok (.getfield 140, 3) := by decide +kernel
theorem dX5_read_294 : decode cX5_read 294 = .ok (.if_icmp .ge 10, 3) := by decide +kernel
theorem dX5_read_297 : decode cX5_read 297 = .ok (.aload_n 0, 1) := by decide +kernel
theorem dX5_read_298 : decode cX5_read 298 = .ok (.getfield 137, 3) := by decide +kernel
theorem dX5_read_301 : decode cX5_read 301 = .ok (.ifCond .ne 7, 3) := by decide +kernel
theorem dX5_read_304 : decode cX5_read 304 = .ok (.iconst 0, 1) := by decide +kernel
theorem dX5_read_305 : decode cX5_read 305 = .ok (.goto 35, 3) := by decide +kernel
theorem dX5_read_308 : decode cX5_read 308 = .ok (.aload_n 0, 1) := by decide +kernel
theorem dX5_read_309 : decode cX5_read 309 = .ok (.getfield 22, 3) := by decide +kernel
theorem dX5_read_312 : decode cX5_read 312 = .ok (.bipush 6, 2) := by decide +kernel
theorem dX5_read_314 : decode cX5_read 314 = .ok (.iload_n 2, 1) := by decide +kernel
theorem dX5_read_315 : decode cX5_read 315 = .ok (.iadd, 1) := by decide +kernel
theorem dX5_read_316 : decode cX5_read 316 = .ok (.iaload, 1) := by decide +kernel
theorem dX5_read_317 : decode cX5_read 317 = .ok (.bipush (-9), 2) := by decide +kernel
theorem dX5_read_319 : decode cX5_read 319 = .ok (.if_icmp .eq 15, 3) := by decide +kernel
theorem dX5_read_322 : decode cX5_read 322 = .ok (.aload_n 0, 1) := by decide +kernel
theorem dX5_read_323 : decode cX5_read 323 = .ok (.getfield 22, 3) := by decide +kernel
theorem dX5_read_326 : decode cX5_read 326 = .ok (.bipush 6, 2) := by decide +kernel
theorem dX5_read_328 : decode cX5_read 328 = .ok (.iload_n 2, 1) := by decide +kernel
theorem dX5_read_329 : decode cX5_read 329 = .ok (.iadd, 1) := by decide +kernel
theorem dX5_read_330 : decode cX5_read 330 = .ok (.iaload, 1) := by decide +kernel
theorem dX5_read_331 : decode cX5_read 331 = .ok (.goto 9, 3) := by decide +kernel
theorem dX5_read_334 : decode cX5_read 334 = .ok (.iload_n 2, 1) := by decide +kernel
theorem dX5_read_335 : decode cX5_read 335 = .ok (.aload_n 0, 1) := by decide +kernel
theorem dX5_read_336 : decode cX5_read 336 = .ok (.getfield 137, 3) := by decide +kernel
theorem dX5_read_339 : decode cX5_read 339 = .ok (.irem, 1) := by decide +kernel
theorem dX5_read_340 : decode cX5_read 340 = .ok (.iastore, 1) := by decide +kernel
theorem dX5_read_341 : decode cX5_read 341 = .ok (.iinc 2 1, 3) := by decide +kernel
theorem dX5_read_344 : decode cX5_read 344 = .ok (.goto (-126), 3) := by decide +kernel
theorem dX5_read_347 : decode cX5_read 347 = .ok (.iconst 0, 1) := by decide +kernel
theorem dX5_read_348 : decode cX5_read 348 = .ok (.istore_n 2, 1) := by decide +kernel
theorem dX5_read_349 : decode cX5_read 349 = .ok (.iload_n 2, 1) := by decide +kernel
theorem dX5_read_350 : decode cX5_read 350 = .ok (.bipush 36, 2) := by decide +kernel
theorem dX5_read_352 : decode cX5_read 352 = .ok (.if_icmp .ge 24, 3) := by decide +kernel
theorem dX5_read_355 : decode cX5_read 355 = .ok (.aload_n 0, 1) := by decide +kernel
theorem dX5_read_356 : decode cX5_read 356 = .ok (.getfield 19, 3) := by decide +kernel
theorem dX5_read_359 : decode cX5_read 359 = .ok (.iload_n 2, 1) := by decide +kernel
theorem dX5_read_360 : decode cX5_read 360 = .ok (.aload_n 0, 1) := by decide +kernel
theorem dX5_read_361 : decode cX5_read 361 = .ok (.getfield 19, 3) := by decide +kernel
theorem dX5_read_364 : decode cX5_read 364 = .ok (.bipush 36, 2) := by decide +kernel
theorem dX5_read_366 : decode cX5_read 366 = .ok (.iload_n 2, 1) := by decide +kernel
theorem dX5_read_367 : decode cX5_read 367 = .ok (.iadd, 1) := by decide +kernel
theorem dX5_read_368 : decode cX5_read 368 = .ok (.iaload, 1) := by decide +kernel
theorem dX5_read_369 : decode cX5_read 369 = .ok (.iastore, 1) := by decide +kernel
theorem dX5_read_370 : decode cX5_read 370 = .ok (.iinc 2 1, 3) := by decide +kernel
theorem dX5_read_373 : decode cX5_read 373 = .ok (.goto (-24), 3) := by decide +kernel
theorem dX5_read_376 : decode cX5_read 376 = .ok (.aload_n 0, 1) := by decide +kernel
theorem dX5_read_377 : decode cX5_read 377 = .ok (.iconst 0, 1) := by decide +kernel
theorem dX5_read_378 : decode cX5_read 378 = .ok (.putfield 67, 3) := by decide +kernel
theorem dX5_read_381 : decode cX5_read 381 = .ok (.aload_n 0, 1) := by decide +kernel
theorem dX5_read_382 : decode cX5_read 382 = .ok (.getfield 43, 3) := by decide +kernel
theorem dX5_read_385 : decode cX5_read 385 = .ok (.iconst 0, 1) := by decide +kernel
theorem dX5_read_386 : decode cX5_read 386 = .ok (.iconst 0, 1) := by decide +kernel
theorem dX5_read_387 : decode cX5_read 387 = .ok (.bastore, 1) := by decide +kernel
theorem dX5_read_388 : decode cX5_read 388 = .ok (.aload_n 0, 1) := by decide +kernel
theorem dX5_read_389 : decode cX5_read 389 = .ok (.getfield 43, 3) := by decide +kernel
theorem dX5_read_392 : decode cX5_read 392 = .ok (.iconst 1, 1) := by decide +kernel
theorem dX5_read_393 : decode cX5_read 393 = .ok (.iconst 0, 1) := by decide +kernel
theorem dX5_read_394 : decode cX5_read 394 = .ok (.bastore, 1) := by decide +kernel
theorem dX5_read_395 : decode cX5_read 395 = .ok (.aload_n 0, 1) := by decide +kernel
theorem dX5_read_396 : decode cX5_read 396 = .ok (.invokevirtual 56, 3) := by decide +kernel
theorem dX5_read_399 : decode cX5_read 399 = .ok (.iload_n 1, 1) := by decide +kernel
theorem dX5_read_400 : decode cX5_read 400 = .ok (.ireturn, 1) := by decide +kernel
theorem dX5_begins_0 : decode cX5_begins 0 = .ok (.iconst 0, 1) := by decide +kernel
theorem dX5_begins_1 : decode cX5_begins 1 = .ok (.istore_n 1, 1) := by decide +kernel
theorem dX5_begins_2 : decode cX5_begins 2 = .ok (.iload_n 1, 1) := by decide +kernel
theorem dX5_begins_3 : decode cX5_begins 3 = .ok (.bipush 105, 2) := by decide +kernel
theorem dX5_begins_5 : decode cX5_begins 5 = .ok (.if_icmp .ge 16, 3) := by decide +kernel
theorem dX5_begins_8 : decode cX5_begins 8 = .ok (.aload_n 0, 1) := by decide +kernel
theorem dX5_begins_9 : decode cX5_begins 9 = .ok (.getfield 34, 3) := by decide +kernel
theorem dX5_begins_12 : decode cX5_begins 12 = .ok (.iload_n 1, 1) := by decide +kernel
theorem dX5_begins_13 : decode cX5_begins 13 = .ok (.iconst 0, 1) := by decide +kernel
theorem dX5_begins_14 : decode cX5_begins 14 = .ok (.iastore, 1) := by decide +kernel
theorem dX5_begins_15 : decode cX5_begins 15 = .ok (.iinc 1 1, 3) := by decide +kernel
theorem dX5_begins_18 : decode cX5_begins 18 = .ok (.goto (-16), 3) := by decide +kernel
theorem dX5_begins_21 : decode cX5_begins 21 = .ok (.iconst 0, 1) := by decide +kernel
theorem dX5_begins_22 : decode cX5_begins 22 = .ok (.istore_n 1, 1) := by decide +kernel
theorem dX5_begins_23 : decode cX5_begins 23 = .ok (.iload_n 1, 1) := by decide +kernel
theorem dX5_begins_24 : decode cX5_begins 24 = .ok (.bipush 6, 2) := by decide +kernel
theorem dX5_begins_26 : decode cX5_begins 26 = .ok (.if_icmp .ge 50, 3) := by decide +kernel
theorem dX5_begins_29 : decode cX5_begins 29 = .ok (.aload_n 0, 1) := by decide +kernel
theorem dX5_begins_30 : decode cX5_begins 30 = .ok (.getfield 34, 3) := by decide +kernel
theorem dX5_begins_33 : decode cX5_begins 33 = .ok (.bipush 14, 2) := by decide +kernel
theorem dX5_begins_35 : decode cX5_begins 35 = .ok (.iload_n 1, 1) := by decide +kernel
theorem dX5_begins_36 : decode cX5_begins 36 = .ok (.iadd, 1) := by decide +kernel
theorem dX5_begins_37 : decode cX5_begins 37 = .ok (.aload_n 0, 1) := by decide +kernel
theorem dX5_begins_38 : decode cX5_begins 38 = .ok (.getfield 28, 3) := by decide +kernel
theorem dX5_begins_41 : decode cX5_begins 41 = .ok (.iload_n 1, 1) := by decide +kernel
theorem dX5_begins_42 : decode cX5_begins 42 = .ok (.iaload, 1) := by decide +kernel
theorem dX5_begins_43 : decode cX5_begins 43 = .ok (.iastore, 1) := by decide +kernel
theorem dX5_begins_44 : decode cX5_begins 44 = .ok (.aload_n 0, 1) := by decide +kernel
theorem dX5_begins_45 : decode cX5_begins 45 = .ok (.getfield 34, 3) := by decide +kernel
theorem dX5_begins_48 : decode cX5_begins 48 = .ok (.bipush 20, 2) := by decide +kernel
theorem dX5_begins_50 : decode cX5_begins 50 = .ok (.iload_n 1, 1) := by decide +kernel
theorem dX5_begins_51 : decode cX5_begins 51 = .ok (.iadd, 1) := by decide +kernel
theorem dX5_begins_52 : decode cX5_begins 52 = .ok (.aload_n 0, 1) := by decide +kernel
theorem dX5_begins_53 : decode cX5_begins 53 = .ok (.getfield 22, 3) := by decide +kernel
theorem dX5_begins_56 : decode cX5_begins 56 = .ok (.iload_n 1, 1) := by decide +kernel
theorem dX5_begins_57 : decode cX5_begins 57 = .ok (.iaload, 1) := by decide +kernel
theorem dX5_begins_58 : decode cX5_begins 58 = .ok (.iastore, 1) := by decide +kernel
theorem dX5_begins_59 : decode cX5_begins 59 = .ok (.aload_n 0, 1) := by decide +kernel
theorem dX5_begins_60 : decode cX5_begins 60 = .ok (.getfield 34, 3) := by decide +kernel
theorem dX5_begins_63 : decode cX5_begins 63 = .ok (.bipush 26, 2) := by decide +kernel
theorem dX5_begins_65 : decode cX5_begins 65 = .ok (.iload_n 1, 1) := by decide +kernel
theorem dX5_begins_66 : decode cX5_begins 66 = .ok (.iadd, 1) := by decide +kernel
theorem dX5_begins_67 : decode cX5_begins 67 = .ok (.bipush (-9), 2) := by decide +kernel
theorem dX5_begins_69 : decode cX5_begins 69 = .ok (.iastore, 1) := by decide +kernel
theorem dX5_begins_70 : decode cX5_begins 70 = .ok (.iinc 1 1, 3) := by decide +kernel
theorem dX5_begins_73 : decode cX5_begins 73 = .ok (.goto (-50), 3) := by decide +kernel
theorem dX5_begins_76 : decode cX5_begins 76 = .ok (.iconst 0, 1) := by decide +kernel
theorem dX5_begins_77 : decode cX5_begins 77 = .ok (.istore_n 1, 1) := by decide +kernel
theorem dX5_begins_78 : decode cX5_begins 78 = .ok (.iload_n 1, 1) := by decide +kernel
theorem dX5_begins_79 : decode cX5_begins 79 = .ok (.bipush 36, 2) := by decide +kernel
theorem dX5_begins_81 : decode cX5_begins 81 = .ok (.if_icmp .ge 24, 3) := by decide +kernel
theorem dX5_begins_84 : decode cX5_begins 84 = .ok (.aload_n 0, 1) := by decide +kernel
theorem dX5_begins_85 : decode cX5_begins 85 = .ok (.getfield 34, 3) := by decide +kernel
theorem dX5_begins_88 : decode cX5_begins 88 = .ok (.bipush 33, 2) := by decide +kernel
theorem dX5_begins_90 : decode cX5_begins 90 = .ok (.iload_n 1, 1) := by decide +kernel
theorem dX5_begins_91 : decode cX5_begins 91 = .ok (.iadd, 1) := by decide +kernel
theorem dX5_begins_92 : decode cX5_begins 92 = .ok (.aload_n 0, 1) := by decide +kernel
theorem dX5_begins_93 : decode cX5_begins 93 = .ok (.getfield 19, 3) := by decide +kernel
theorem dX5_begins_96 : decode cX5_begins 96 = .ok (.iload_n 1, 1) := by decide +kernel
theorem dX5_begins_97 : decode cX5_begins 97 = .ok (.iaload, 1) := by decide +kernel
theorem dX5_begins_98 : decode cX5_begins 98 = .ok (.iastore, 1) := by decide +kernel
theorem dX5_begins_99 : decode cX5_begins 99 = .ok (.iinc 1 1, 3) := by decide +kernel
theorem dX5_begins_102 : decode cX5_begins 102 = .ok (.goto (-24), 3) := by decide +kernel
theorem dX5_begins_105 : decode cX5_begins 105 = .ok (.return_, 1) := by decide +kernel
set_option maxRecDepth 20000 in
theorem ggX5_isTrade_X5_in : GoodIn wsX5_isTrade wsX5_in := goodIn_r _ [5] (by decide +kernel) (by decide +kernel)
set_option maxRecDepth 20000 in
theorem gX5_isTrade_X5_in : GoodIn wsX5_isTrade (va_wsS RX5 63 yX5_in wsX5_in) := goodIn_app (goodIn_of _ (by decide +kernel)) ggX5_isTrade_X5_in
theorem dX5_isTrade_0 : decode cX5_isTrade 0 = .ok (.iload_n 1, 1) := by decide +kernel
theorem dX5_isTrade_1 : decode cX5_isTrade 1 = .ok (.iconst 0, 1) := by decide +kernel
theorem dX5_isTrade_2 : decode cX5_isTrade 2 = .ok (.aload_n 0, 1) := by decide +kernel
theorem dX5_isTrade_3 : decode cX5_isTrade 3 = .ok (.getfield 137, 3) := by decide +kernel
theorem dX5_isTrade_6 : decode cX5_isTrade 6 = .ok (.iconst 1, 1) := by decide +kernel
theorem dX5_isTrade_7 : decode cX5_isTrade 7 = .ok (.isub, 1) := by decide +kernel
theorem dX5_isTrade_8 : decode cX5_isTrade 8 = .ok (.invokestatic 63, 3) := by decide +kernel
theorem dX5_isTrade_11 : decode cX5_isTrade 11 = .ok (.ireturn, 1) := by decide +kernel
set_option maxRecDepth 20000 in
theorem ggX5_isPerson_X5_in : GoodIn wsX5_isPerson wsX5_in := goodIn_r _ [5] (by decide +kernel) (by decide +kernel)
set_option maxRecDepth 20000 in
theorem gX5_isPerson_X5_in : GoodIn wsX5_isPerson (va_wsS RX5 63 yX5_in wsX5_in) := goodIn_app (goodIn_of _ (by decide +kernel)) ggX5_isPerson_X5_in
theorem dX5_isPerson_0 : decode cX5_isPerson 0 = .ok (.iload_n 1, 1) := by decide +kernel
theorem dX5_isPerson_1 : decode cX5_isPerson 1 = .ok (.iconst 0, 1) := by decide +kernel
theorem dX5_isPerson_2 : decode cX5_isPerson 2 = .ok (.aload_n 0, 1) := by decide +kernel
theorem dX5_isPerson_3 : decode cX5_isPerson 3 = .ok (.getfield 140, 3) := by decide +kernel
theorem dX5_isPerson_6 : decode cX5_isPerson 6 = .ok (.iconst 1, 1) := by decide +kernel
theorem dX5_isPerson_7 : decode cX5_isPerson 7 = .ok (.isub, 1) := by decide +kernel
theorem dX5_isPerson_8 : decode cX5_isPerson 8 = .ok (.invokestatic 63, 3) := by decide +kernel
theorem dX5_isPerson_11 : decode cX5_isPerson 11 = .ok (.ireturn, 1) := by decide +kernel
set_option maxRecDepth 20000 in
theorem ggX5_trade_X5_isTrade : GoodIn wsX5_trade wsX5_isTrade := goodIn_r _ [9, 10, 11, 12, 8, 13, 14, 15, 16, 17, 18, 19, 20, 21, 22, 23, 24, 25, 26, 27, 28, 29, 30, 31, 32, 33, 34, 35, 36, 37, 38, 39, 40, 41, 42] (by decide +kernel) (by decide +kernel)
set_option maxRecDepth 20000 in
theorem gX5_trade_X5_isTrade : GoodIn wsX5_trade (wsV RX5 143 RX5 yX5_isTrade wsX5_isTrade) := goodIn_app (goodIn_of _ (by decide +kernel)) ggX5_trade_X5_isTrade
set_option maxRecDepth 20000 in
theorem ggX5_trade_X5_in : GoodIn wsX5_trade wsX5_in := goodIn_r _ [13] (by decide +kernel) (by decide +kernel)
set_option maxRecDepth 20000 in
theorem gX5_trade_X5_in : GoodIn wsX5_trade (va_wsS RX5 63 yX5_in wsX5_in) := goodIn_app (goodIn_of _ (by decide +kernel)) ggX5_trade_X5_in
theorem dX5_trade_0 : decode cX5_trade 0 = .ok (.aload_n 0, 1) := by decide +kernel
theorem dX5_trade_1 : decode cX5_trade 1 = .ok (.iconst 0, 1) := by decide +kernel
theorem dX5_trade_2 : decode cX5_trade 2 = .ok (.putfield 59, 3) := by decide +kernel
theorem dX5_trade_5 : decode cX5_trade 5 = .ok (.aload_n 0, 1) := by decide +kernel
theorem dX5_trade_6 : decode cX5_trade 6 = .ok (.iload_n 1, 1) := by decide +kernel
theorem dX5_trade_7 : decode cX5_trade 7 = .ok (.invokevirtual 143, 3) := by decide +kernel
theorem dX5_trade_10 : decode cX5_trade 10 = .ok (.ifCond .eq 12, 3) := by decide +kernel
theorem dX5_trade_13 : decode cX5_trade 13 = .ok (.iload_n 2, 1) := by decide +kernel
theorem dX5_trade_14 : decode cX5_trade 14 = .ok (.iconst 0, 1) := by decide +kernel
theorem dX5_trade_15 : decode cX5_trade 15 = .ok (.iconst 3, 1) := by decide +kernel
theorem dX5_trade_16 : decode cX5_trade 16 = .ok (.invokestatic 63, 3) := by decide +kernel
theorem dX5_trade_19 : decode cX5_trade 19 = .ok (.ifCond .ne 5, 3) := by decide +kernel
theorem dX5_trade_22 : decode cX5_trade 22 = .ok (.iconst (-1), 1) := by decide +kernel
theorem dX5_trade_23 : decode cX5_trade 23 = .ok (.ireturn, 1) := by decide +kernel
theorem dX5_trade_24 : decode cX5_trade 24 = .ok (.iload_n 2, 1) := by decide +kernel
theorem dX5_trade_25 : decode cX5_trade 25 = .ok (.ifCond .ne 12, 3) := by decide +kernel
theorem dX5_trade_28 : decode cX5_trade 28 = .ok (.aload_n 0, 1) := by decide +kernel
theorem dX5_trade_29 : decode cX5_trade 29 = .ok (.getfield 13, 3) := by decide +kernel
theorem dX5_trade_32 : decode cX5_trade 32 = .ok (.iload_n 1, 1) := by decide +kernel
theorem dX5_trade_33 : decode cX5_trade 33 = .ok (.iaload, 1) := by decide +kernel
theorem dX5_trade_34 : decode cX5_trade 34 = .ok (.goto 42, 3) := by decide +kernel
theorem dX5_trade_37 : decode cX5_trade 37 = .ok (.iload_n 2, 1) := by decide +kernel
theorem dX5_trade_38 : decode cX5_trade 38 = .ok (.iconst 1, 1) := by decide +kernel
theorem dX5_trade_39 : decode cX5_trade 39 = .ok (.if_icmp .ne 12, 3) := by decide +kernel
theorem dX5_trade_42 : decode cX5_trade 42 = .ok (.aload_n 0, 1) := by decide +kernel
theorem dX5_trade_43 : decode cX5_trade 43 = .ok (.getfield 16, 3) := by decide +kernel
theorem dX5_trade_46 : decode cX5_trade 46 = .ok (.iload_n 1, 1) := by decide +kernel
theorem dX5_trade_47 : decode cX5_trade 47 = .ok (.iaload, 1) := by decide +kernel
theorem dX5_trade_48 : decode cX5_trade 48 = .ok (.goto 28, 3) := by decide +kernel
theorem dX5_trade_51 : decode cX5_trade 51 = .ok (.iload_n 2, 1) := by decide +kernel
theorem dX5_trade_52 : decode cX5_trade 52 = .ok (.iconst 2, 1) := by decide +kernel
theorem dX5_trade_53 : decode cX5_trade 53 = .ok (.if_icmp .ne 14, 3) := by decide +kernel
theorem dX5_trade_56 : decode cX5_trade 56 = .ok (.aload_n 0, 1) := by decide +kernel
theorem dX5_trade_57 : decode cX5_trade 57 = .ok (.getfield 34, 3) := by decide +kernel
theorem dX5_trade_60 : decode cX5_trade 60 = .ok (.iconst 2, 1) := by decide +kernel
theorem dX5_trade_61 : decode cX5_trade 61 = .ok (.iload_n 1, 1) := by decide +kernel
theorem dX5_trade_62 : decode cX5_trade 62 = .ok (.iadd, 1) := by decide +kernel
theorem dX5_trade_63 : decode cX5_trade 63 = .ok (.iaload, 1) := by decide +kernel
theorem dX5_trade_64 : decode cX5_trade 64 = .ok (.goto 12, 3) := by decide +kernel
theorem dX5_trade_67 : decode cX5_trade 67 = .ok (.aload_n 0, 1) := by decide +kernel
theorem dX5_trade_68 : decode cX5_trade 68 = .ok (.getfield 34, 3) := by decide +kernel
theorem dX5_trade_71 : decode cX5_trade 71 = .ok (.bipush 8, 2) := by decide +kernel
theorem dX5_trade_73 : decode cX5_trade 73 = .ok (.iload_n 1, 1) := by decide +kernel
theorem dX5_trade_74 : decode cX5_trade 74 = .ok (.iadd, 1) := by decide +kernel
theorem dX5_trade_75 : decode cX5_trade 75 = .ok (.iaload, 1) := by decide +kernel
theorem dX5_trade_76 : decode cX5_trade 76 = .ok (.ireturn, 1) := by decide +kernel
set_option maxRecDepth 20000 in
theorem ggX5_skill_X5_isPerson : GoodIn wsX5_skill wsX5_isPerson := goodIn_r _ [7, 8, 9, 10, 6, 11, 17, 18, 19, 20, 21, 22, 23, 24, 25, 26, 27, 28, 29, 30, 31, 32, 33, 34, 35, 36, 37, 38, 39, 40, 41, 42, 43, 44, 45] (by decide +kernel) (by decide +kernel)
set_option maxRecDepth 20000 in
theorem gX5_skill_X5_isPerson : GoodIn wsX5_skill (wsV RX5 147 RX5 yX5_isPerson wsX5_isPerson) := goodIn_app (goodIn_of _ (by decide +kernel)) ggX5_skill_X5_isPerson
set_option maxRecDepth 20000 in
theorem ggX5_skill_X5_isTrade : GoodIn wsX5_skill wsX5_isTrade := goodIn_r _ [15, 16, 9, 10, 6, 11, 17, 18, 19, 20, 21, 22, 23, 24, 25, 26, 27, 28, 29, 30, 31, 32, 33, 34, 35, 36, 37, 38, 39, 40, 41, 42, 43, 44, 45] (by decide +kernel) (by decide +kernel)
set_option maxRecDepth 20000 in
theorem gX5_skill_X5_isTrade : GoodIn wsX5_skill (wsV RX5 143 RX5 yX5_isTrade wsX5_isTrade) := goodIn_app (goodIn_of _ (by decide +kernel)) ggX5_skill_X5_isTrade
theorem dX5_skill_0 : decode cX5_skill 0 = .ok (.aload_n 0, 1) := by decide +kernel
theorem dX5_skill_1 : decode cX5_skill 1 = .ok (.iconst 0, 1) := by decide +kernel
theorem dX5_skill_2 : decode cX5_skill 2 = .ok (.putfield 59, 3) := by decide +kernel
theorem dX5_skill_5 : decode cX5_skill 5 = .ok (.aload_n 0, 1) := by decide +kernel
theorem dX5_skill_6 : decode cX5_skill 6 = .ok (.iload_n 1, 1) := by decide +kernel
theorem dX5_skill_7 : decode cX5_skill 7 = .ok (.invokevirtual 147, 3) := by decide +kernel
theorem dX5_skill_10 : decode cX5_skill 10 = .ok (.ifCond .eq 28, 3) := by decide +kernel
theorem dX5_skill_13 : decode cX5_skill 13 = .ok (.aload_n 0, 1) := by decide +kernel
theorem dX5_skill_14 : decode cX5_skill 14 = .ok (.iload_n 2, 1) := by decide +kernel
theorem dX5_skill_15 : decode cX5_skill 15 = .ok (.invokevirtual 143, 3) := by decide +kernel
theorem dX5_skill_18 : decode cX5_skill 18 = .ok (.ifCond .eq 20, 3) := by decide +kernel
theorem dX5_skill_21 : decode cX5_skill 21 = .ok (.aload_n 0, 1) := by decide +kernel
theorem dX5_skill_22 : decode cX5_skill 22 = .ok (.getfield 34, 3) := by decide +kernel
theorem dX5_skill_25 : decode cX5_skill 25 = .ok (.bipush 33, 2) := by decide +kernel
theorem dX5_skill_27 : decode cX5_skill 27 = .ok (.bipush 6, 2) := by decide +kernel
theorem dX5_skill_29 : decode cX5_skill 29 = .ok (.iload_n 1, 1) := by decide +kernel
theorem dX5_skill_30 : decode cX5_skill 30 = .ok (.imul, 1) := by decide +kernel
theorem dX5_skill_31 : decode cX5_skill 31 = .ok (.iadd, 1) := by decide +kernel
theorem dX5_skill_32 : decode cX5_skill 32 = .ok (.iload_n 2, 1) := by decide +kernel
theorem dX5_skill_33 : decode cX5_skill 33 = .ok (.iadd, 1) := by decide +kernel
theorem dX5_skill_34 : decode cX5_skill 34 = .ok (.iaload, 1) := by decide +kernel
theorem dX5_skill_35 : decode cX5_skill 35 = .ok (.goto 4, 3) := by decide +kernel
theorem dX5_skill_38 : decode cX5_skill 38 = .ok (.iconst (-1), 1) := by decide +kernel
theorem dX5_skill_39 : decode cX5_skill 39 = .ok (.ireturn, 1) := by decide +kernel
theorem dX5_placeOf_0 : decode cX5_placeOf 0 = .ok (.iconst 0, 1) := by decide +kernel
theorem dX5_placeOf_1 : decode cX5_placeOf 1 = .ok (.istore_n 2, 1) := by decide +kernel
theorem dX5_placeOf_2 : decode cX5_placeOf 2 = .ok (.iload_n 2, 1) := by decide +kernel
theorem dX5_placeOf_3 : decode cX5_placeOf 3 = .ok (.aload_n 0, 1) := by decide +kernel
theorem dX5_placeOf_4 : decode cX5_placeOf 4 = .ok (.getfield 137, 3) := by decide +kernel
theorem dX5_placeOf_7 : decode cX5_placeOf 7 = .ok (.if_icmp .ge 49, 3) := by decide +kernel
theorem dX5_placeOf_10 : decode cX5_placeOf 10 = .ok (.aload_n 0, 1) := by decide +kernel
theorem dX5_placeOf_11 : decode cX5_placeOf 11 = .ok (.getfield 34, 3) := by decide +kernel
theorem dX5_placeOf_14 : decode cX5_placeOf 14 = .ok (.bipush 20, 2) := by decide +kernel
theorem dX5_placeOf_16 : decode cX5_placeOf 16 = .ok (.iload_n 1, 1) := by decide +kernel
theorem dX5_placeOf_17 : decode cX5_placeOf 17 = .ok (.iadd, 1) := by decide +kernel
theorem dX5_placeOf_18 : decode cX5_placeOf 18 = .ok (.iaload, 1) := by decide +kernel
theorem dX5_placeOf_19 : decode cX5_placeOf 19 = .ok (.iload_n 2, 1) := by decide +kernel
theorem dX5_placeOf_20 : decode cX5_placeOf 20 = .ok (.iadd, 1) := by decide +kernel
theorem dX5_placeOf_21 : decode cX5_placeOf 21 = .ok (.aload_n 0, 1) := by decide +kernel
theorem dX5_placeOf_22 : decode cX5_placeOf 22 = .ok (.getfield 137, 3) := by decide +kernel
theorem dX5_placeOf_25 : decode cX5_placeOf 25 = .ok (.irem, 1) := by decide +kernel
theorem dX5_placeOf_26 : decode cX5_placeOf 26 = .ok (.istore_n 3, 1) := by decide +kernel
theorem dX5_placeOf_27 : decode cX5_placeOf 27 = .ok (.aload_n 0, 1) := by decide +kernel
theorem dX5_placeOf_28 : decode cX5_placeOf 28 = .ok (.getfield 25, 3) := by decide +kernel
theorem dX5_placeOf_31 : decode cX5_placeOf 31 = .ok (.iload_n 1, 1) := by decide +kernel
theorem dX5_placeOf_32 : decode cX5_placeOf 32 = .ok (.iaload, 1) := by decide +kernel
theorem dX5_placeOf_33 : decode cX5_placeOf 33 = .ok (.aload_n 0, 1) := by decide +kernel
theorem dX5_placeOf_34 : decode cX5_placeOf 34 = .ok (.getfield 34, 3) := by decide +kernel
theorem dX5_placeOf_37 : decode cX5_placeOf 37 = .ok (.bipush 14, 2) := by decide +kernel
theorem dX5_placeOf_39 : decode cX5_placeOf 39 = .ok (.iload_n 3, 1) := by decide +kernel
theorem dX5_placeOf_40 : decode cX5_placeOf 40 = .ok (.iadd, 1) := by decide +kernel
theorem dX5_placeOf_41 : decode cX5_placeOf 41 = .ok (.iaload, 1) := by decide +kernel
theorem dX5_placeOf_42 : decode cX5_placeOf 42 = .ok (.ishr, 1) := by decide +kernel
theorem dX5_placeOf_43 : decode cX5_placeOf 43 = .ok (.iconst 1, 1) := by decide +kernel
theorem dX5_placeOf_44 : decode cX5_placeOf 44 = .ok (.iand, 1) := by decide +kernel
theorem dX5_placeOf_45 : decode cX5_placeOf 45 = .ok (.ifCond .ne 5, 3) := by decide +kernel
theorem dX5_placeOf_48 : decode cX5_placeOf 48 = .ok (.iload_n 3, 1) := by decide +kernel
theorem dX5_placeOf_49 : decode cX5_placeOf 49 = .ok (.ireturn, 1) := by decide +kernel
theorem dX5_placeOf_50 : decode cX5_placeOf 50 = .ok (.iinc 2 1, 3) := by decide +kernel
theorem dX5_placeOf_53 : decode cX5_placeOf 53 = .ok (.goto (-51), 3) := by decide +kernel
theorem dX5_placeOf_56 : decode cX5_placeOf 56 = .ok (.bipush (-9), 2) := by decide +kernel
theorem dX5_placeOf_58 : decode cX5_placeOf 58 = .ok (.ireturn, 1) := by decide +kernel
set_option maxRecDepth 20000 in
theorem ggX5_worksAt_X5_placeOf : GoodIn wsX5_worksAt wsX5_placeOf := goodIn_r _ [6, 7, 1, 8, 9, 10, 11, 12, 13, 14, 15, 16, 17, 18, 19, 20, 21, 22, 23, 24, 25, 26, 27, 28, 29, 30, 31, 32, 33, 34, 35, 36, 37] (by decide +kernel) (by decide +kernel)
set_option maxRecDepth 20000 in
theorem gX5_worksAt_X5_placeOf : GoodIn wsX5_worksAt (wsV RX5 150 RX5 yX5_placeOf wsX5_placeOf) := goodIn_app (goodIn_of _ (by decide +kernel)) ggX5_worksAt_X5_placeOf
theorem dX5_worksAt_0 : decode cX5_worksAt 0 = .ok (.aload_n 0, 1) := by decide +kernel
theorem dX5_worksAt_1 : decode cX5_worksAt 1 = .ok (.iload_n 1, 1) := by decide +kernel
theorem dX5_worksAt_2 : decode cX5_worksAt 2 = .ok (.invokevirtual 150, 3) := by decide +kernel
theorem dX5_worksAt_5 : decode cX5_worksAt 5 = .ok (.istore_n 2, 1) := by decide +kernel
theorem dX5_worksAt_6 : decode cX5_worksAt 6 = .ok (.iload_n 2, 1) := by decide +kernel
theorem dX5_worksAt_7 : decode cX5_worksAt 7 = .ok (.bipush (-9), 2) := by decide +kernel
theorem dX5_worksAt_9 : decode cX5_worksAt 9 = .ok (.if_icmp .ne 8, 3) := by decide +kernel
theorem dX5_worksAt_12 : decode cX5_worksAt 12 = .ok (.bipush (-9), 2) := by decide +kernel
theorem dX5_worksAt_14 : decode cX5_worksAt 14 = .ok (.goto 12, 3) := by decide +kernel
theorem dX5_worksAt_17 : decode cX5_worksAt 17 = .ok (.aload_n 0, 1) := by decide +kernel
theorem dX5_worksAt_18 : decode cX5_worksAt 18 = .ok (.getfield 34, 3) := by decide +kernel
theorem dX5_worksAt_21 : decode cX5_worksAt 21 = .ok (.bipush 14, 2) := by decide +kernel
theorem dX5_worksAt_23 : decode cX5_worksAt 23 = .ok (.iload_n 2, 1) := by decide +kernel
theorem dX5_worksAt_24 : decode cX5_worksAt 24 = .ok (.iadd, 1) := by decide +kernel
theorem dX5_worksAt_25 : decode cX5_worksAt 25 = .ok (.iaload, 1) := by decide +kernel
theorem dX5_worksAt_26 : decode cX5_worksAt 26 = .ok (.ireturn, 1) := by decide +kernel
theorem dX5_isIll_0 : decode cX5_isIll 0 = .ok (.aload_n 0, 1) := by decide +kernel
theorem dX5_isIll_1 : decode cX5_isIll 1 = .ok (.getfield 34, 3) := by decide +kernel
theorem dX5_isIll_4 : decode cX5_isIll 4 = .ok (.bipush 32, 2) := by decide +kernel
theorem dX5_isIll_6 : decode cX5_isIll 6 = .ok (.iaload, 1) := by decide +kernel
theorem dX5_isIll_7 : decode cX5_isIll 7 = .ok (.iload_n 1, 1) := by decide +kernel
theorem dX5_isIll_8 : decode cX5_isIll 8 = .ok (.ishr, 1) := by decide +kernel
theorem dX5_isIll_9 : decode cX5_isIll 9 = .ok (.iconst 1, 1) := by decide +kernel
theorem dX5_isIll_10 : decode cX5_isIll 10 = .ok (.iand, 1) := by decide +kernel
theorem dX5_isIll_11 : decode cX5_isIll 11 = .ok (.iconst 1, 1) := by decide +kernel
theorem dX5_isIll_12 : decode cX5_isIll 12 = .ok (.if_icmp .ne 7, 3) := by decide +kernel
theorem dX5_isIll_15 : decode cX5_isIll 15 = .ok (.iconst 1, 1) := by decide +kernel
theorem dX5_isIll_16 : decode cX5_isIll 16 = .ok (.goto 4, 3) := by decide +kernel
theorem dX5_isIll_19 : decode cX5_isIll 19 = .ok (.iconst 0, 1) := by decide +kernel
theorem dX5_isIll_20 : decode cX5_isIll 20 = .ok (.ireturn, 1) := by decide +kernel
set_option maxRecDepth 20000 in
theorem ggX5_person_X5_isPerson : GoodIn wsX5_person wsX5_isPerson := goodIn_r _ [8, 9, 10, 11, 7, 12, 22, 23, 24, 25, 26, 27, 28, 29, 30, 31, 32, 33, 34, 35, 36, 37, 38, 39, 40, 41, 42, 43, 44, 45, 46, 47, 48, 49, 50] (by decide +kernel) (by decide +kernel)
set_option maxRecDepth 20000 in
theorem gX5_person_X5_isPerson : GoodIn wsX5_person (wsV RX5 147 RX5 yX5_isPerson wsX5_isPerson) := goodIn_app (goodIn_of _ (by decide +kernel)) ggX5_person_X5_isPerson
set_option maxRecDepth 20000 in
theorem ggX5_person_X5_in : GoodIn wsX5_person wsX5_in := goodIn_r _ [12] (by decide +kernel) (by decide +kernel)
set_option maxRecDepth 20000 in
theorem gX5_person_X5_in : GoodIn wsX5_person (va_wsS RX5 63 yX5_in wsX5_in) := goodIn_app (goodIn_of _ (by decide +kernel)) ggX5_person_X5_in
set_option maxRecDepth 20000 in
theorem ggX5_person_X5_worksAt : GoodIn wsX5_person wsX5_worksAt := goodIn_r _ [16, 2, 17, 18, 19, 7, 20, 21, 3, 22, 23, 24, 25, 26, 27, 28, 29, 30, 31, 32, 33, 34, 35, 36, 37, 38, 39, 40, 41, 42, 43, 44, 45, 46, 47, 48, 49, 50] (by decide +kernel) (by decide +kernel)
set_option maxRecDepth 20000 in
theorem gX5_person_X5_worksAt : GoodIn wsX5_person (wsV RX5 153 RX5 yX5_worksAt wsX5_worksAt) := goodIn_app (goodIn_of _ (by decide +kernel)) ggX5_person_X5_worksAt
theorem dX5_person_0 : decode cX5_person 0 = .ok (.aload_n 0, 1) := by decide +kernel
theorem dX5_person_1 : decode cX5_person 1 = .ok (.iconst 0, 1) := by decide +kernel
theorem dX5_person_2 : decode cX5_person 2 = .ok (.putfield 59, 3) := by decide +kernel
theorem dX5_person_5 : decode cX5_person 5 = .ok (.aload_n 0, 1) := by decide +kernel
theorem dX5_person_6 : decode cX5_person 6 = .ok (.iload_n 1, 1) := by decide +kernel
theorem dX5_person_7 : decode cX5_person 7 = .ok (.invokevirtual 147, 3) := by decide +kernel
theorem dX5_person_10 : decode cX5_person 10 = .ok (.ifCond .eq 12, 3) := by decide +kernel
theorem dX5_person_13 : decode cX5_person 13 = .ok (.iload_n 2, 1) := by decide +kernel
theorem dX5_person_14 : decode cX5_person 14 = .ok (.iconst 0, 1) := by decide +kernel
theorem dX5_person_15 : decode cX5_person 15 = .ok (.iconst 4, 1) := by decide +kernel
theorem dX5_person_16 : decode cX5_person 16 = .ok (.invokestatic 63, 3) := by decide +kernel
theorem dX5_person_19 : decode cX5_person 19 = .ok (.ifCond .ne 5, 3) := by decide +kernel
theorem dX5_person_22 : decode cX5_person 22 = .ok (.iconst (-1), 1) := by decide +kernel
theorem dX5_person_23 : decode cX5_person 23 = .ok (.ireturn, 1) := by decide +kernel
theorem dX5_person_24 : decode cX5_person 24 = .ok (.iload_n 2, 1) := by decide +kernel
theorem dX5_person_25 : decode cX5_person 25 = .ok (.ifCond .ne 15, 3) := by decide +kernel
theorem dX5_person_28 : decode cX5_person 28 = .ok (.aload_n 0, 1) := by decide +kernel
theorem dX5_person_29 : decode cX5_person 29 = .ok (.getfield 34, 3) := by decide +kernel
theorem dX5_person_32 : decode cX5_person 32 = .ok (.bipush 20, 2) := by decide +kernel
theorem dX5_person_34 : decode cX5_person 34 = .ok (.iload_n 1, 1) := by decide +kernel
theorem dX5_person_35 : decode cX5_person 35 = .ok (.iadd, 1) := by decide +kernel
theorem dX5_person_36 : decode cX5_person 36 = .ok (.iaload, 1) := by decide +kernel
theorem dX5_person_37 : decode cX5_person 37 = .ok (.goto 58, 3) := by decide +kernel
theorem dX5_person_40 : decode cX5_person 40 = .ok (.iload_n 2, 1) := by decide +kernel
theorem dX5_person_41 : decode cX5_person 41 = .ok (.iconst 1, 1) := by decide +kernel
theorem dX5_person_42 : decode cX5_person 42 = .ok (.if_icmp .ne 11, 3) := by decide +kernel
theorem dX5_person_45 : decode cX5_person 45 = .ok (.aload_n 0, 1) := by decide +kernel
theorem dX5_person_46 : decode cX5_person 46 = .ok (.iload_n 1, 1) := by decide +kernel
theorem dX5_person_47 : decode cX5_person 47 = .ok (.invokevirtual 153, 3) := by decide +kernel
theorem dX5_person_50 : decode cX5_person 50 = .ok (.goto 45, 3) := by decide +kernel
theorem dX5_person_53 : decode cX5_person 53 = .ok (.iload_n 2, 1) := by decide +kernel
theorem dX5_person_54 : decode cX5_person 54 = .ok (.iconst 2, 1) := by decide +kernel
theorem dX5_person_55 : decode cX5_person 55 = .ok (.if_icmp .ne 17, 3) := by decide +kernel
theorem dX5_person_58 : decode cX5_person 58 = .ok (.aload_n 0, 1) := by decide +kernel
theorem dX5_person_59 : decode cX5_person 59 = .ok (.getfield 34, 3) := by decide +kernel
theorem dX5_person_62 : decode cX5_person 62 = .ok (.bipush 32, 2) := by decide +kernel
theorem dX5_person_64 : decode cX5_person 64 = .ok (.iaload, 1) := by decide +kernel
theorem dX5_person_65 : decode cX5_person 65 = .ok (.iload_n 1, 1) := by decide +kernel
theorem dX5_person_66 : decode cX5_person 66 = .ok (.ishr, 1) := by decide +kernel
theorem dX5_person_67 : decode cX5_person 67 = .ok (.iconst 1, 1) := by decide +kernel
theorem dX5_person_68 : decode cX5_person 68 = .ok (.iand, 1) := by decide +kernel
theorem dX5_person_69 : decode cX5_person 69 = .ok (.goto 26, 3) := by decide +kernel
theorem dX5_person_72 : decode cX5_person 72 = .ok (.iload_n 2, 1) := by decide +kernel
theorem dX5_person_73 : decode cX5_person 73 = .ok (.iconst 3, 1) := by decide +kernel
theorem dX5_person_74 : decode cX5_person 74 = .ok (.if_icmp .ne 15, 3) := by decide +kernel
theorem dX5_person_77 : decode cX5_person 77 = .ok (.aload_n 0, 1) := by decide +kernel
theorem dX5_person_78 : decode cX5_person 78 = .ok (.getfield 34, 3) := by decide +kernel
theorem dX5_person_81 : decode cX5_person 81 = .ok (.bipush 26, 2) := by decide +kernel
theorem dX5_person_83 : decode cX5_person 83 = .ok (.iload_n 1, 1) := by decide +kernel
theorem dX5_person_84 : decode cX5_person 84 = .ok (.iadd, 1) := by decide +kernel
theorem dX5_person_85 : decode cX5_person 85 = .ok (.iaload, 1) := by decide +kernel
theorem dX5_person_86 : decode cX5_person 86 = .ok (.goto 9, 3) := by decide +kernel
theorem dX5_person_89 : decode cX5_person 89 = .ok (.aload_n 0, 1) := by decide +kernel
theorem dX5_person_90 : decode cX5_person 90 = .ok (.getfield 25, 3) := by decide +kernel
theorem dX5_person_93 : decode cX5_person 93 = .ok (.iload_n 1, 1) := by decide +kernel
theorem dX5_person_94 : decode cX5_person 94 = .ok (.iaload, 1) := by decide +kernel
theorem dX5_person_95 : decode cX5_person 95 = .ok (.ireturn, 1) := by decide +kernel
set_option maxRecDepth 20000 in
theorem ggX5_wheel_X5_isTrade : GoodIn wsX5_wheel wsX5_isTrade := goodIn_r _ [7, 8, 9, 10, 6, 11, 12, 13, 14, 15, 16, 17, 18, 19, 20, 21, 22, 23, 24, 25, 26, 27, 28, 29, 30, 31, 32, 33, 34, 35, 36, 37, 38, 39, 40] (by decide +kernel) (by decide +kernel)
set_option maxRecDepth 20000 in
theorem gX5_wheel_X5_isTrade : GoodIn wsX5_wheel (wsV RX5 143 RX5 yX5_isTrade wsX5_isTrade) := goodIn_app (goodIn_of _ (by decide +kernel)) ggX5_wheel_X5_isTrade
theorem dX5_wheel_0 : decode cX5_wheel 0 = .ok (.aload_n 0, 1) := by decide +kernel
theorem dX5_wheel_1 : decode cX5_wheel 1 = .ok (.iconst 0, 1) := by decide +kernel
theorem dX5_wheel_2 : decode cX5_wheel 2 = .ok (.putfield 59, 3) := by decide +kernel
theorem dX5_wheel_5 : decode cX5_wheel 5 = .ok (.aload_n 0, 1) := by decide +kernel
theorem dX5_wheel_6 : decode cX5_wheel 6 = .ok (.iload_n 1, 1) := by decide +kernel
theorem dX5_wheel_7 : decode cX5_wheel 7 = .ok (.invokevirtual 143, 3) := by decide +kernel
theorem dX5_wheel_10 : decode cX5_wheel 10 = .ok (.ifCond .eq 15, 3) := by decide +kernel
theorem dX5_wheel_13 : decode cX5_wheel 13 = .ok (.aload_n 0, 1) := by decide +kernel
theorem dX5_wheel_14 : decode cX5_wheel 14 = .ok (.getfield 34, 3) := by decide +kernel
theorem dX5_wheel_17 : decode cX5_wheel 17 = .ok (.bipush 14, 2) := by decide +kernel
theorem dX5_wheel_19 : decode cX5_wheel 19 = .ok (.iload_n 1, 1) := by decide +kernel
theorem dX5_wheel_20 : decode cX5_wheel 20 = .ok (.iadd, 1) := by decide +kernel
theorem dX5_wheel_21 : decode cX5_wheel 21 = .ok (.iaload, 1) := by decide +kernel
theorem dX5_wheel_22 : decode cX5_wheel 22 = .ok (.goto 4, 3) := by decide +kernel
theorem dX5_wheel_25 : decode cX5_wheel 25 = .ok (.iconst (-1), 1) := by decide +kernel
theorem dX5_wheel_26 : decode cX5_wheel 26 = .ok (.ireturn, 1) := by decide +kernel
set_option maxRecDepth 20000 in
theorem ggX5_tune_X5_in : GoodIn wsX5_tune wsX5_in := goodIn_r _ [6] (by decide +kernel) (by decide +kernel)
set_option maxRecDepth 20000 in
theorem gX5_tune_X5_in : GoodIn wsX5_tune (va_wsS RX5 63 yX5_in wsX5_in) := goodIn_app (goodIn_of _ (by decide +kernel)) ggX5_tune_X5_in
theorem dX5_tune_0 : decode cX5_tune 0 = .ok (.aload_n 0, 1) := by decide +kernel
theorem dX5_tune_1 : decode cX5_tune 1 = .ok (.iconst 0, 1) := by decide +kernel
theorem dX5_tune_2 : decode cX5_tune 2 = .ok (.putfield 59, 3) := by decide +kernel
theorem dX5_tune_5 : decode cX5_tune 5 = .ok (.iload_n 1, 1) := by decide +kernel
theorem dX5_tune_6 : decode cX5_tune 6 = .ok (.iconst 0, 1) := by decide +kernel
theorem dX5_tune_7 : decode cX5_tune 7 = .ok (.iconst 2, 1) := by decide +kernel
theorem dX5_tune_8 : decode cX5_tune 8 = .ok (.invokestatic 63, 3) := by decide +kernel
theorem dX5_tune_11 : decode cX5_tune 11 = .ok (.ifCond .eq 41, 3) := by decide +kernel
theorem dX5_tune_14 : decode cX5_tune 14 = .ok (.iload_n 2, 1) := by decide +kernel
theorem dX5_tune_15 : decode cX5_tune 15 = .ok (.iload_n 1, 1) := by decide +kernel
theorem dX5_tune_16 : decode cX5_tune 16 = .ok (.iconst 2, 1) := by decide +kernel
theorem dX5_tune_17 : decode cX5_tune 17 = .ok (.if_icmp .ne 7, 3) := by decide +kernel
theorem dX5_tune_20 : decode cX5_tune 20 = .ok (.iconst 1, 1) := by decide +kernel
theorem dX5_tune_21 : decode cX5_tune 21 = .ok (.goto 4, 3) := by decide +kernel
theorem dX5_tune_24 : decode cX5_tune 24 = .ok (.iconst 0, 1) := by decide +kernel
theorem dX5_tune_25 : decode cX5_tune 25 = .ok (.iload_n 1, 1) := by decide +kernel
theorem dX5_tune_26 : decode cX5_tune 26 = .ok (.ifCond .ne 8, 3) := by decide +kernel
theorem dX5_tune_29 : decode cX5_tune 29 = .ok (.bipush 9, 2) := by decide +kernel
theorem dX5_tune_31 : decode cX5_tune 31 = .ok (.goto 15, 3) := by decide +kernel
theorem dX5_tune_34 : decode cX5_tune 34 = .ok (.iload_n 1, 1) := by decide +kernel
theorem dX5_tune_35 : decode cX5_tune 35 = .ok (.iconst 1, 1) := by decide +kernel
theorem dX5_tune_36 : decode cX5_tune 36 = .ok (.if_icmp .ne 8, 3) := by decide +kernel
theorem dX5_tune_39 : decode cX5_tune 39 = .ok (.bipush 20, 2) := by decide +kernel
theorem dX5_tune_41 : decode cX5_tune 41 = .ok (.goto 5, 3) := by decide +kernel
theorem dX5_tune_44 : decode cX5_tune 44 = .ok (.bipush 99, 2) := by decide +kernel
theorem dX5_tune_46 : decode cX5_tune 46 = .ok (.invokestatic 63, 3) := by decide +kernel
theorem dX5_tune_49 : decode cX5_tune 49 = .ok (.ifCond .ne 5, 3) := by decide +kernel
theorem dX5_tune_52 : decode cX5_tune 52 = .ok (.iconst (-1), 1) := by decide +kernel
theorem dX5_tune_53 : decode cX5_tune 53 = .ok (.ireturn, 1) := by decide +kernel
theorem dX5_tune_54 : decode cX5_tune 54 = .ok (.aload_n 0, 1) := by decide +kernel
theorem dX5_tune_55 : decode cX5_tune 55 = .ok (.getfield 31, 3) := by decide +kernel
theorem dX5_tune_58 : decode cX5_tune 58 = .ok (.iload_n 1, 1) := by decide +kernel
theorem dX5_tune_59 : decode cX5_tune 59 = .ok (.iaload, 1) := by decide +kernel
theorem dX5_tune_60 : decode cX5_tune 60 = .ok (.istore_n 3, 1) := by decide +kernel
theorem dX5_tune_61 : decode cX5_tune 61 = .ok (.aload_n 0, 1) := by decide +kernel
theorem dX5_tune_62 : decode cX5_tune 62 = .ok (.getfield 31, 3) := by decide +kernel
theorem dX5_tune_65 : decode cX5_tune 65 = .ok (.iload_n 1, 1) := by decide +kernel
theorem dX5_tune_66 : decode cX5_tune 66 = .ok (.iload_n 2, 1) := by decide +kernel
theorem dX5_tune_67 : decode cX5_tune 67 = .ok (.iastore, 1) := by decide +kernel
theorem dX5_tune_68 : decode cX5_tune 68 = .ok (.iload_n 3, 1) := by decide +kernel
theorem dX5_tune_69 : decode cX5_tune 69 = .ok (.ireturn, 1) := by decide +kernel
theorem dX5_helperOf_0 : decode cX5_helperOf 0 = .ok (.iconst 0, 1) := by decide +kernel
theorem dX5_helperOf_1 : decode cX5_helperOf 1 = .ok (.istore_n 2, 1) := by decide +kernel
theorem dX5_helperOf_2 : decode cX5_helperOf 2 = .ok (.iload_n 2, 1) := by decide +kernel
theorem dX5_helperOf_3 : decode cX5_helperOf 3 = .ok (.aload_n 0, 1) := by decide +kernel
theorem dX5_helperOf_4 : decode cX5_helperOf 4 = .ok (.getfield 140, 3) := by decide +kernel
theorem dX5_helperOf_7 : decode cX5_helperOf 7 = .ok (.if_icmp .ge 24, 3) := by decide +kernel
theorem dX5_helperOf_10 : decode cX5_helperOf 10 = .ok (.aload_n 0, 1) := by decide +kernel
theorem dX5_helperOf_11 : decode cX5_helperOf 11 = .ok (.getfield 34, 3) := by decide +kernel
theorem dX5_helperOf_14 : decode cX5_helperOf 14 = .ok (.bipush 26, 2) := by decide +kernel
theorem dX5_helperOf_16 : decode cX5_helperOf 16 = .ok (.iload_n 2, 1) := by decide +kernel
theorem dX5_helperOf_17 : decode cX5_helperOf 17 = .ok (.iadd, 1) := by decide +kernel
theorem dX5_helperOf_18 : decode cX5_helperOf 18 = .ok (.iaload, 1) := by decide +kernel
theorem dX5_helperOf_19 : decode cX5_helperOf 19 = .ok (.iload_n 1, 1) := by decide +kernel
theorem dX5_helperOf_20 : decode cX5_helperOf 20 = .ok (.if_icmp .ne 5, 3) := by decide +kernel
theorem dX5_helperOf_23 : decode cX5_helperOf 23 = .ok (.iload_n 2, 1) := by decide +kernel
theorem dX5_helperOf_24 : decode cX5_helperOf 24 = .ok (.ireturn, 1) := by decide +kernel
theorem dX5_helperOf_25 : decode cX5_helperOf 25 = .ok (.iinc 2 1, 3) := by decide +kernel
theorem dX5_helperOf_28 : decode cX5_helperOf 28 = .ok (.goto (-26), 3) := by decide +kernel
theorem dX5_helperOf_31 : decode cX5_helperOf 31 = .ok (.bipush (-9), 2) := by decide +kernel
theorem dX5_helperOf_33 : decode cX5_helperOf 33 = .ok (.ireturn, 1) := by decide +kernel
set_option maxRecDepth 20000 in
theorem ggX5_workAll_X5_worksAt : GoodIn wsX5_workAll wsX5_worksAt := goodIn_r _ [10, 4, 11, 12, 13, 9, 14, 15, 16, 25, 26, 27, 28, 29, 30, 31, 32, 33, 34, 35, 36, 37, 38, 39, 40, 41, 42, 43, 44, 45, 46, 47, 48, 49, 50, 51, 52, 53] (by decide +kernel) (by decide +kernel)
set_option maxRecDepth 20000 in
theorem gX5_workAll_X5_worksAt : GoodIn wsX5_workAll (wsV RX5 153 RX5 yX5_worksAt wsX5_worksAt) := goodIn_app (goodIn_of _ (by decide +kernel)) ggX5_workAll_X5_worksAt
set_option maxRecDepth 20000 in
theorem ggX5_workAll_X5_isIll : GoodIn wsX5_workAll wsX5_isIll := goodIn_r _ [20, 4, 25, 26, 27, 28, 29, 30, 31, 32, 33, 34, 35, 36, 37, 38, 39, 40, 41, 42, 43, 44, 45, 46, 47, 48, 49, 50, 51, 52, 53] (by decide +kernel) (by decide +kernel)
set_option maxRecDepth 20000 in
theorem gX5_workAll_X5_isIll : GoodIn wsX5_workAll (wsV RX5 156 RX5 yX5_isIll wsX5_isIll) := goodIn_app (goodIn_of _ (by decide +kernel)) ggX5_workAll_X5_isIll
set_option maxRecDepth 20000 in
theorem ggX5_workAll_X5_helperOf : GoodIn wsX5_workAll wsX5_helperOf := goodIn_r _ [24, 1, 4, 25, 26, 27, 28, 29, 30, 31, 32, 33, 34, 35, 36, 37, 38, 39, 40, 41, 42, 43, 44, 45, 46, 47, 48, 49, 50, 51, 52, 53] (by decide +kernel) (by decide +kernel)
set_option maxRecDepth 20000 in
theorem gX5_workAll_X5_helperOf : GoodIn wsX5_workAll (wsV RX5 159 RX5 yX5_helperOf wsX5_helperOf) := goodIn_app (goodIn_of _ (by decide +kernel)) ggX5_workAll_X5_helperOf
theorem dX5_workAll_0 : decode cX5_workAll 0 = .ok (.iconst 0, 1) := by decide +kernel
theorem dX5_workAll_1 : decode cX5_workAll 1 = .ok (.istore_n 1, 1) := by decide +kernel
theorem dX5_workAll_2 : decode cX5_workAll 2 = .ok (.iload_n 1, 1) := by decide +kernel
theorem dX5_workAll_3 : decode cX5_workAll 3 = .ok (.aload_n 0, 1) := by decide +kernel
theorem dX5_workAll_4 : decode cX5_workAll 4 = .ok (.getfield 140, 3) := by decide +kernel
theorem dX5_workAll_7 : decode cX5_workAll 7 = .ok (.if_icmp .ge 132, 3) := by decide +kernel
theorem dX5_workAll_10 : decode cX5_workAll 10 = .ok (.aload_n 0, 1) := by decide +kernel
theorem dX5_workAll_11 : decode cX5_workAll 11 = .ok (.getfield 50, 3) := by decide +kernel
theorem dX5_workAll_14 : decode cX5_workAll 14 = .ok (.iload_n 1, 1) := by decide +kernel
theorem dX5_workAll_15 : decode cX5_workAll 15 = .ok (.aload_n 0, 1) := by decide +kernel
theorem dX5_workAll_16 : decode cX5_workAll 16 = .ok (.iload_n 1, 1) := by decide +kernel
theorem dX5_workAll_17 : decode cX5_workAll 17 = .ok (.invokevirtual 153, 3) := by decide +kernel
theorem dX5_workAll_20 : decode cX5_workAll 20 = .ok (.iastore, 1) := by decide +kernel
theorem dX5_workAll_21 : decode cX5_workAll 21 = .ok (.aload_n 0, 1) := by decide +kernel
theorem dX5_workAll_22 : decode cX5_workAll 22 = .ok (.getfield 47, 3) := by decide +kernel
theorem dX5_workAll_25 : decode cX5_workAll 25 = .ok (.iload_n 1, 1) := by decide +kernel
theorem dX5_workAll_26 : decode cX5_workAll 26 = .ok (.iconst 0, 1) := by decide +kernel
theorem dX5_workAll_27 : decode cX5_workAll 27 = .ok (.iastore, 1) := by decide +kernel
theorem dX5_workAll_28 : decode cX5_workAll 28 = .ok (.aload_n 0, 1) := by decide +kernel
theorem dX5_workAll_29 : decode cX5_workAll 29 = .ok (.getfield 50, 3) := by decide +kernel
theorem dX5_workAll_32 : decode cX5_workAll 32 = .ok (.iload_n 1, 1) := by decide +kernel
theorem dX5_workAll_33 : decode cX5_workAll 33 = .ok (.iaload, 1) := by decide +kernel
theorem dX5_workAll_34 : decode cX5_workAll 34 = .ok (.istore_n 2, 1) := by decide +kernel
theorem dX5_workAll_35 : decode cX5_workAll 35 = .ok (.iload_n 2, 1) := by decide +kernel
theorem dX5_workAll_36 : decode cX5_workAll 36 = .ok (.bipush (-9), 2) := by decide +kernel
theorem dX5_workAll_38 : decode cX5_workAll 38 = .ok (.if_icmp .eq 95, 3) := by decide +kernel
theorem dX5_workAll_41 : decode cX5_workAll 41 = .ok (.aload_n 0, 1) := by decide +kernel
theorem dX5_workAll_42 : decode cX5_workAll 42 = .ok (.iload_n 1, 1) := by decide +kernel
theorem dX5_workAll_43 : decode cX5_workAll 43 = .ok (.invokevirtual 156, 3) := by decide +kernel
theorem dX5_workAll_46 : decode cX5_workAll 46 = .ok (.ifCond .ne 87, 3) := by decide +kernel
theorem dX5_workAll_49 : decode cX5_workAll 49 = .ok (.aload_n 0, 1) := by decide +kernel
theorem dX5_workAll_50 : decode cX5_workAll 50 = .ok (.getfield 34, 3) := by decide +kernel
theorem dX5_workAll_53 : decode cX5_workAll 53 = .ok (.bipush 33, 2) := by decide +kernel
theorem dX5_workAll_55 : decode cX5_workAll 55 = .ok (.bipush 6, 2) := by decide +kernel
theorem dX5_workAll_57 : decode cX5_workAll 57 = .ok (.iload_n 1, 1) := by decide +kernel
theorem dX5_workAll_58 : decode cX5_workAll 58 = .ok (.imul, 1) := by decide +kernel
theorem dX5_workAll_59 : decode cX5_workAll 59 = .ok (.iadd, 1) := by decide +kernel
theorem dX5_workAll_60 : decode cX5_workAll 60 = .ok (.iload_n 2, 1) := by decide +kernel
theorem dX5_workAll_61 : decode cX5_workAll 61 = .ok (.iadd, 1) := by decide +kernel
theorem dX5_workAll_62 : decode cX5_workAll 62 = .ok (.iaload, 1) := by decide +kernel
theorem dX5_workAll_63 : decode cX5_workAll 63 = .ok (.istore_n 3, 1) := by decide +kernel
theorem dX5_workAll_64 : decode cX5_workAll 64 = .ok (.aload_n 0, 1) := by decide +kernel
theorem dX5_workAll_65 : decode cX5_workAll 65 = .ok (.iload_n 1, 1) := by decide +kernel
theorem dX5_workAll_66 : decode cX5_workAll 66 = .ok (.invokevirtual 159, 3) := by decide +kernel
theorem dX5_workAll_69 : decode cX5_workAll 69 = .ok (.istore 4, 2) := by decide +kernel
theorem dX5_workAll_71 : decode cX5_workAll 71 = .ok (.iload 4, 2) := by decide +kernel
theorem dX5_workAll_73 : decode cX5_workAll 73 = .ok (.bipush (-9), 2) := by decide +kernel
theorem dX5_workAll_75 : decode cX5_workAll 75 = .ok (.if_icmp .eq 30, 3) := by decide +kernel
theorem dX5_workAll_78 : decode cX5_workAll 78 = .ok (.aload_n 0, 1) := by decide +kernel
theorem dX5_workAll_79 : decode cX5_workAll 79 = .ok (.iload 4, 2) := by decide +kernel
theorem dX5_workAll_81 : decode cX5_workAll 81 = .ok (.invokevirtual 156, 3) := by decide +kernel
theorem dX5_workAll_84 : decode cX5_workAll 84 = .ok (.ifCond .ne 21, 3) := by decide +kernel
theorem dX5_workAll_87 : decode cX5_workAll 87 = .ok (.aload_n 0, 1) := by decide +kernel
theorem dX5_workAll_88 : decode cX5_workAll 88 = .ok (.getfield 34, 3) := by decide +kernel
theorem dX5_workAll_91 : decode cX5_workAll 91 = .ok (.bipush 33, 2) := by decide +kernel
theorem dX5_workAll_93 : decode cX5_workAll 93 = .ok (.bipush 6, 2) := by decide +kernel
theorem dX5_workAll_95 : decode cX5_workAll 95 = .ok (.iload 4, 2) := by decide +kernel
theorem dX5_workAll_97 : decode cX5_workAll 97 = .ok (.imul, 1) := by decide +kernel
theorem dX5_workAll_98 : decode cX5_workAll 98 = .ok (.iadd, 1) := by decide +kernel
theorem dX5_workAll_99 : decode cX5_workAll 99 = .ok (.iload_n 2, 1) := by decide +kernel
theorem dX5_workAll_100 : decode cX5_workAll 100 = .ok (.iadd, 1) := by decide +kernel
theorem dX5_workAll_101 : decode cX5_workAll 101 = .ok (.iaload, 1) := by decide +kernel
theorem dX5_workAll_102 : decode cX5_workAll 102 = .ok (.goto 4, 3) := by decide +kernel
theorem dX5_workAll_105 : decode cX5_workAll 105 = .ok (.iconst 0, 1) := by decide +kernel
theorem dX5_workAll_106 : decode cX5_workAll 106 = .ok (.istore 5, 2) := by decide +kernel
theorem dX5_workAll_108 : decode cX5_workAll 108 = .ok (.aload_n 0, 1) := by decide +kernel
theorem dX5_workAll_109 : decode cX5_workAll 109 = .ok (.getfield 47, 3) := by decide +kernel
theorem dX5_workAll_112 : decode cX5_workAll 112 = .ok (.iload_n 1, 1) := by decide +kernel
theorem dX5_workAll_113 : decode cX5_workAll 113 = .ok (.aload_n 0, 1) := by decide +kernel
theorem dX5_workAll_114 : decode cX5_workAll 114 = .ok (.getfield 16, 3) := by decide +kernel
theorem dX5_workAll_117 : decode cX5_workAll 117 = .ok (.iload_n 2, 1) := by decide +kernel
theorem dX5_workAll_118 : decode cX5_workAll 118 = .ok (.iaload, 1) := by decide +kernel
theorem dX5_workAll_119 : decode cX5_workAll 119 = .ok (.iload 5, 2) := by decide +kernel
theorem dX5_workAll_121 : decode cX5_workAll 121 = .ok (.iload_n 3, 1) := by decide +kernel
theorem dX5_workAll_122 : decode cX5_workAll 122 = .ok (.if_icmp .le 8, 3) := by decide +kernel
theorem dX5_workAll_125 : decode cX5_workAll 125 = .ok (.iload 5, 2) := by decide +kernel
theorem dX5_workAll_127 : decode cX5_workAll 127 = .ok (.goto 4, 3) := by decide +kernel
theorem dX5_workAll_130 : decode cX5_workAll 130 = .ok (.iload_n 3, 1) := by decide +kernel
theorem dX5_workAll_131 : decode cX5_workAll 131 = .ok (.imul, 1) := by decide +kernel
theorem dX5_workAll_132 : decode cX5_workAll 132 = .ok (.iastore, 1) := by decide +kernel
theorem dX5_workAll_133 : decode cX5_workAll 133 = .ok (.iinc 1 1, 3) := by decide +kernel
theorem dX5_workAll_136 : decode cX5_workAll 136 = .ok (.goto (-134), 3) := by decide +kernel
theorem dX5_workAll_139 : decode cX5_workAll 139 = .ok (.iconst 0, 1) := by decide +kernel
theorem dX5_workAll_140 : decode cX5_workAll 140 = .ok (.istore_n 1, 1) := by decide +kernel
theorem dX5_workAll_141 : decode cX5_workAll 141 = .ok (.iload_n 1, 1) := by decide +kernel
theorem dX5_workAll_142 : decode cX5_workAll 142 = .ok (.aload_n 0, 1) := by decide +kernel
theorem dX5_workAll_143 : decode cX5_workAll 143 = .ok (.getfield 140, 3) := by decide +kernel
theorem dX5_workAll_146 : decode cX5_workAll 146 = .ok (.if_icmp .ge 42, 3) := by decide +kernel
theorem dX5_workAll_149 : decode cX5_workAll 149 = .ok (.aload_n 0, 1) := by decide +kernel
theorem dX5_workAll_150 : decode cX5_workAll 150 = .ok (.getfield 50, 3) := by decide +kernel
theorem dX5_workAll_153 : decode cX5_workAll 153 = .ok (.iload_n 1, 1) := by decide +kernel
theorem dX5_workAll_154 : decode cX5_workAll 154 = .ok (.iaload, 1) := by decide +kernel
theorem dX5_workAll_155 : decode cX5_workAll 155 = .ok (.bipush (-9), 2) := by decide +kernel
theorem dX5_workAll_157 : decode cX5_workAll 157 = .ok (.if_icmp .eq 25, 3) := by decide +kernel
theorem dX5_workAll_160 : decode cX5_workAll 160 = .ok (.aload_n 0, 1) := by decide +kernel
theorem dX5_workAll_161 : decode cX5_workAll 161 = .ok (.getfield 34, 3) := by decide +kernel
theorem dX5_workAll_164 : decode cX5_workAll 164 = .ok (.iconst 2, 1) := by decide +kernel
theorem dX5_workAll_165 : decode cX5_workAll 165 = .ok (.aload_n 0, 1) := by decide +kernel
theorem dX5_workAll_166 : decode cX5_workAll 166 = .ok (.getfield 50, 3) := by decide +kernel
theorem dX5_workAll_169 : decode cX5_workAll 169 = .ok (.iload_n 1, 1) := by decide +kernel
theorem dX5_workAll_170 : decode cX5_workAll 170 = .ok (.iaload, 1) := by decide +kernel
theorem dX5_workAll_171 : decode cX5_workAll 171 = .ok (.iadd, 1) := by decide +kernel
theorem dX5_workAll_172 : decode cX5_workAll 172 = .ok (.dup2, 1) := by decide +kernel
theorem dX5_workAll_173 : decode cX5_workAll 173 = .ok (.iaload, 1) := by decide +kernel
theorem dX5_workAll_174 : decode cX5_workAll 174 = .ok (.aload_n 0, 1) := by decide +kernel
theorem dX5_workAll_175 : decode cX5_workAll 175 = .ok (.getfield 47, 3) := by decide +kernel
theorem dX5_workAll_178 : decode cX5_workAll 178 = .ok (.iload_n 1, 1) := by decide +kernel
theorem dX5_workAll_179 : decode cX5_workAll 179 = .ok (.iaload, 1) := by decide +kernel
theorem dX5_workAll_180 : decode cX5_workAll 180 = .ok (.iadd, 1) := by decide +kernel
theorem dX5_workAll_181 : decode cX5_workAll 181 = .ok (.iastore, 1) := by decide +kernel
theorem dX5_workAll_182 : decode cX5_workAll 182 = .ok (.iinc 1 1, 3) := by decide +kernel
theorem dX5_workAll_185 : decode cX5_workAll 185 = .ok (.goto (-44), 3) := by decide +kernel
theorem dX5_workAll_188 : decode cX5_workAll 188 = .ok (.return_, 1) := by decide +kernel
theorem dX5_takesNeeds_0 : decode cX5_takesNeeds 0 = .ok (.iconst 0, 1) := by decide +kernel
theorem dX5_takesNeeds_1 : decode cX5_takesNeeds 1 = .ok (.istore_n 1, 1) := by decide +kernel
theorem dX5_takesNeeds_2 : decode cX5_takesNeeds 2 = .ok (.iconst 0, 1) := by decide +kernel
theorem dX5_takesNeeds_3 : decode cX5_takesNeeds 3 = .ok (.istore_n 2, 1) := by decide +kernel
theorem dX5_takesNeeds_4 : decode cX5_takesNeeds 4 = .ok (.iload_n 2, 1) := by decide +kernel
theorem dX5_takesNeeds_5 : decode cX5_takesNeeds 5 = .ok (.aload_n 0, 1) := by decide +kernel
theorem dX5_takesNeeds_6 : decode cX5_takesNeeds 6 = .ok (.getfield 137, 3) := by decide +kernel
theorem dX5_takesNeeds_9 : decode cX5_takesNeeds 9 = .ok (.if_icmp .ge 124, 3) := by decide +kernel
theorem dX5_takesNeeds_12 : decode cX5_takesNeeds 12 = .ok (.aload_n 0, 1) := by decide +kernel
theorem dX5_takesNeeds_13 : decode cX5_takesNeeds 13 = .ok (.getfield 34, 3) := by decide +kernel
theorem dX5_takesNeeds_16 : decode cX5_takesNeeds 16 = .ok (.iconst 0, 1) := by decide +kernel
theorem dX5_takesNeeds_17 : decode cX5_takesNeeds 17 = .ok (.iaload, 1) := by decide +kernel
theorem dX5_takesNeeds_18 : decode cX5_takesNeeds 18 = .ok (.iconst 4, 1) := by decide +kernel
theorem dX5_takesNeeds_19 : decode cX5_takesNeeds 19 = .ok (.irem, 1) := by decide +kernel
theorem dX5_takesNeeds_20 : decode cX5_takesNeeds 20 = .ok (.iconst 3, 1) := by decide +kernel
theorem dX5_takesNeeds_21 : decode cX5_takesNeeds 21 = .ok (.if_icmp .ne 25, 3) := by decide +kernel
theorem dX5_takesNeeds_24 : decode cX5_takesNeeds 24 = .ok (.aload_n 0, 1) := by decide +kernel
theorem dX5_takesNeeds_25 : decode cX5_takesNeeds 25 = .ok (.getfield 13, 3) := by decide +kernel
theorem dX5_takesNeeds_28 : decode cX5_takesNeeds 28 = .ok (.iload_n 2, 1) := by decide +kernel
theorem dX5_takesNeeds_29 : decode cX5_takesNeeds 29 = .ok (.iaload, 1) := by decide +kernel
theorem dX5_takesNeeds_30 : decode cX5_takesNeeds 30 = .ok (.bipush 10, 2) := by decide +kernel
theorem dX5_takesNeeds_32 : decode cX5_takesNeeds 32 = .ok (.aload_n 0, 1) := by decide +kernel
theorem dX5_takesNeeds_33 : decode cX5_takesNeeds 33 = .ok (.getfield 31, 3) := by decide +kernel
theorem dX5_takesNeeds_36 : decode cX5_takesNeeds 36 = .ok (.iconst 1, 1) := by decide +kernel
theorem dX5_takesNeeds_37 : decode cX5_takesNeeds 37 = .ok (.iaload, 1) := by decide +kernel
theorem dX5_takesNeeds_38 : decode cX5_takesNeeds 38 = .ok (.iadd, 1) := by decide +kernel
theorem dX5_takesNeeds_39 : decode cX5_takesNeeds 39 = .ok (.imul, 1) := by decide +kernel
theorem dX5_takesNeeds_40 : decode cX5_takesNeeds 40 = .ok (.bipush 10, 2) := by decide +kernel
theorem dX5_takesNeeds_42 : decode cX5_takesNeeds 42 = .ok (.idiv, 1) := by decide +kernel
theorem dX5_takesNeeds_43 : decode cX5_takesNeeds 43 = .ok (.goto 9, 3) := by decide +kernel
theorem dX5_takesNeeds_46 : decode cX5_takesNeeds 46 = .ok (.aload_n 0, 1) := by decide +kernel
theorem dX5_takesNeeds_47 : decode cX5_takesNeeds 47 = .ok (.getfield 13, 3) := by decide +kernel
theorem dX5_takesNeeds_50 : decode cX5_takesNeeds 50 = .ok (.iload_n 2, 1) := by decide +kernel
theorem dX5_takesNeeds_51 : decode cX5_takesNeeds 51 = .ok (.iaload, 1) := by decide +kernel
theorem dX5_takesNeeds_52 : decode cX5_takesNeeds 52 = .ok (.istore_n 3, 1) := by decide +kernel
theorem dX5_takesNeeds_53 : decode cX5_takesNeeds 53 = .ok (.iload_n 3, 1) := by decide +kernel
theorem dX5_takesNeeds_54 : decode cX5_takesNeeds 54 = .ok (.aload_n 0, 1) := by decide +kernel
theorem dX5_takesNeeds_55 : decode cX5_takesNeeds 55 = .ok (.getfield 34, 3) := by decide +kernel
theorem dX5_takesNeeds_58 : decode cX5_takesNeeds 58 = .ok (.iconst 2, 1) := by decide +kernel
theorem dX5_takesNeeds_59 : decode cX5_takesNeeds 59 = .ok (.iload_n 2, 1) := by decide +kernel
theorem dX5_takesNeeds_60 : decode cX5_takesNeeds 60 = .ok (.iadd, 1) := by decide +kernel
theorem dX5_takesNeeds_61 : decode cX5_takesNeeds 61 = .ok (.iaload, 1) := by decide +kernel
theorem dX5_takesNeeds_62 : decode cX5_takesNeeds 62 = .ok (.if_icmp .le 16, 3) := by decide +kernel
theorem dX5_takesNeeds_65 : decode cX5_takesNeeds 65 = .ok (.iload_n 3, 1) := by decide +kernel
theorem dX5_takesNeeds_66 : decode cX5_takesNeeds 66 = .ok (.aload_n 0, 1) := by decide +kernel
theorem dX5_takesNeeds_67 : decode cX5_takesNeeds 67 = .ok (.getfield 34, 3) := by decide +kernel
theorem dX5_takesNeeds_70 : decode cX5_takesNeeds 70 = .ok (.iconst 2, 1) := by decide +kernel
theorem dX5_takesNeeds_71 : decode cX5_takesNeeds 71 = .ok (.iload_n 2, 1) := by decide +kernel
theorem dX5_takesNeeds_72 : decode cX5_takesNeeds 72 = .ok (.iadd, 1) := by decide +kernel
theorem dX5_takesNeeds_73 : decode cX5_takesNeeds 73 = .ok (.iaload, 1) := by decide +kernel
theorem dX5_takesNeeds_74 : decode cX5_takesNeeds 74 = .ok (.isub, 1) := by decide +kernel
theorem dX5_takesNeeds_75 : decode cX5_takesNeeds 75 = .ok (.goto 4, 3) := by decide +kernel
theorem dX5_takesNeeds_78 : decode cX5_takesNeeds 78 = .ok (.iconst 0, 1) := by decide +kernel
theorem dX5_takesNeeds_79 : decode cX5_takesNeeds 79 = .ok (.istore 4, 2) := by decide +kernel
theorem dX5_takesNeeds_81 : decode cX5_takesNeeds 81 = .ok (.aload_n 0, 1) := by decide +kernel
theorem dX5_takesNeeds_82 : decode cX5_takesNeeds 82 = .ok (.getfield 34, 3) := by decide +kernel
theorem dX5_takesNeeds_85 : decode cX5_takesNeeds 85 = .ok (.iconst 2, 1) := by decide +kernel
theorem dX5_takesNeeds_86 : decode cX5_takesNeeds 86 = .ok (.iload_n 2, 1) := by decide +kernel
theorem dX5_takesNeeds_87 : decode cX5_takesNeeds 87 = .ok (.iadd, 1) := by decide +kernel
theorem dX5_takesNeeds_88 : decode cX5_takesNeeds 88 = .ok (.iload 4, 2) := by decide +kernel
theorem dX5_takesNeeds_90 : decode cX5_takesNeeds 90 = .ok (.ifCond .le 7, 3) := by decide +kernel
theorem dX5_takesNeeds_93 : decode cX5_takesNeeds 93 = .ok (.iconst 0, 1) := by decide +kernel
theorem dX5_takesNeeds_94 : decode cX5_takesNeeds 94 = .ok (.goto 13, 3) := by decide +kernel
theorem dX5_takesNeeds_97 : decode cX5_takesNeeds 97 = .ok (.aload_n 0, 1) := by decide +kernel
theorem dX5_takesNeeds_98 : decode cX5_takesNeeds 98 = .ok (.getfield 34, 3) := by decide +kernel
theorem dX5_takesNeeds_101 : decode cX5_takesNeeds 101 = .ok (.iconst 2, 1) := by decide +kernel
theorem dX5_takesNeeds_102 : decode cX5_takesNeeds 102 = .ok (.iload_n 2, 1) := by decide +kernel
theorem dX5_takesNeeds_103 : decode cX5_takesNeeds 103 = .ok (.iadd, 1) := by decide +kernel
theorem dX5_takesNeeds_104 : decode cX5_takesNeeds 104 = .ok (.iaload, 1) := by decide +kernel
theorem dX5_takesNeeds_105 : decode cX5_takesNeeds 105 = .ok (.iload_n 3, 1) := by decide +kernel
theorem dX5_takesNeeds_106 : decode cX5_takesNeeds 106 = .ok (.isub, 1) := by decide +kernel
theorem dX5_takesNeeds_107 : decode cX5_takesNeeds 107 = .ok (.iastore, 1) := by decide +kernel
theorem dX5_takesNeeds_108 : decode cX5_takesNeeds 108 = .ok (.aload_n 0, 1) := by decide +kernel
theorem dX5_takesNeeds_109 : decode cX5_takesNeeds 109 = .ok (.getfield 34, 3) := by decide +kernel
theorem dX5_takesNeeds_112 : decode cX5_takesNeeds 112 = .ok (.bipush 8, 2) := by decide +kernel
theorem dX5_takesNeeds_114 : decode cX5_takesNeeds 114 = .ok (.iload_n 2, 1) := by decide +kernel
theorem dX5_takesNeeds_115 : decode cX5_takesNeeds 115 = .ok (.iadd, 1) := by decide +kernel
theorem dX5_takesNeeds_116 : decode cX5_takesNeeds 116 = .ok (.dup2, 1) := by decide +kernel
theorem dX5_takesNeeds_117 : decode cX5_takesNeeds 117 = .ok (.iaload, 1) := by decide +kernel
theorem dX5_takesNeeds_118 : decode cX5_takesNeeds 118 = .ok (.iload 4, 2) := by decide +kernel
theorem dX5_takesNeeds_120 : decode cX5_takesNeeds 120 = .ok (.iadd, 1) := by decide +kernel
theorem dX5_takesNeeds_121 : decode cX5_takesNeeds 121 = .ok (.iastore, 1) := by decide +kernel
theorem dX5_takesNeeds_122 : decode cX5_takesNeeds 122 = .ok (.iload_n 1, 1) := by decide +kernel
theorem dX5_takesNeeds_123 : decode cX5_takesNeeds 123 = .ok (.iload 4, 2) := by decide +kernel
theorem dX5_takesNeeds_125 : decode cX5_takesNeeds 125 = .ok (.iadd, 1) := by decide +kernel
theorem dX5_takesNeeds_126 : decode cX5_takesNeeds 126 = .ok (.istore_n 1, 1) := by decide +kernel
theorem dX5_takesNeeds_127 : decode cX5_takesNeeds 127 = .ok (.iinc 2 1, 3) := by decide +kernel
theorem dX5_takesNeeds_130 : decode cX5_takesNeeds 130 = .ok (.goto (-126), 3) := by decide +kernel
theorem dX5_takesNeeds_133 : decode cX5_takesNeeds 133 = .ok (.aload_n 0, 1) := by decide +kernel
theorem dX5_takesNeeds_134 : decode cX5_takesNeeds 134 = .ok (.getfield 34, 3) := by decide +kernel
theorem dX5_takesNeeds_137 : decode cX5_takesNeeds 137 = .ok (.iconst 1, 1) := by decide +kernel
theorem dX5_takesNeeds_138 : decode cX5_takesNeeds 138 = .ok (.dup2, 1) := by decide +kernel
theorem dX5_takesNeeds_139 : decode cX5_takesNeeds 139 = .ok (.iaload, 1) := by decide +kernel
theorem dX5_takesNeeds_140 : decode cX5_takesNeeds 140 = .ok (.iload_n 1, 1) := by decide +kernel
theorem dX5_takesNeeds_141 : decode cX5_takesNeeds 141 = .ok (.aload_n 0, 1) := by decide +kernel
theorem dX5_takesNeeds_142 : decode cX5_takesNeeds 142 = .ok (.getfield 31, 3) := by decide +kernel
theorem dX5_takesNeeds_145 : decode cX5_takesNeeds 145 = .ok (.iconst 2, 1) := by decide +kernel
theorem dX5_takesNeeds_146 : decode cX5_takesNeeds 146 = .ok (.iaload, 1) := by decide +kernel
theorem dX5_takesNeeds_147 : decode cX5_takesNeeds 147 = .ok (.if_icmp .lt 7, 3) := by decide +kernel
theorem dX5_takesNeeds_150 : decode cX5_takesNeeds 150 = .ok (.iconst 1, 1) := by decide +kernel
theorem dX5_takesNeeds_151 : decode cX5_takesNeeds 151 = .ok (.goto 4, 3) := by decide +kernel
theorem dX5_takesNeeds_154 : decode cX5_takesNeeds 154 = .ok (.iconst 0, 1) := by decide +kernel
theorem dX5_takesNeeds_155 : decode cX5_takesNeeds 155 = .ok (.iadd, 1) := by decide +kernel
theorem dX5_takesNeeds_156 : decode cX5_takesNeeds 156 = .ok (.iastore, 1) := by decide +kernel
theorem dX5_takesNeeds_157 : decode cX5_takesNeeds 157 = .ok (.iload_n 1, 1) := by decide +kernel
theorem dX5_takesNeeds_158 : decode cX5_takesNeeds 158 = .ok (.ireturn, 1) := by decide +kernel
