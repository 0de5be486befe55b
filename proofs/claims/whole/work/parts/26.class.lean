set_option maxRecDepth 20000 in
theorem ggX4_init_X0_init : GoodIn wsX4_init wsX0_init := goodIn_r _ [29, 30, 2, 3, 31, 32, 33, 20, 34, 35, 36, 37, 81, 82, 83, 84, 85, 86] (by decide +kernel) (by decide +kernel)
set_option maxRecDepth 20000 in
theorem gX4_init_X0_init_n9 : GoodIn wsX4_init (wsX0_init) := ggX4_init_X0_init
set_option maxRecDepth 20000 in
theorem ggX4_init_X2_init : GoodIn wsX4_init wsX2_init := goodIn_r _ [39, 40, 2, 3, 41, 42, 43, 97, 98, 99] (by decide +kernel) (by decide +kernel)
set_option maxRecDepth 20000 in
theorem gX4_init_X2_init_n18 : GoodIn wsX4_init (wsX2_init) := ggX4_init_X2_init
set_option maxRecDepth 20000 in
theorem ggX4_init_X3_init : GoodIn wsX4_init wsX3_init := goodIn_r _ [45, 46, 2, 3, 47, 48, 49, 20, 50, 51, 52, 53, 54, 55, 56, 57, 100, 101, 102, 103, 104, 105, 106, 107, 108, 109, 110] (by decide +kernel) (by decide +kernel)
set_option maxRecDepth 20000 in
theorem gX4_init_X3_init_n25 : GoodIn wsX4_init (wsX3_init) := ggX4_init_X3_init
set_option maxRecDepth 20000 in
theorem ggX4_init_X1_init : GoodIn wsX4_init wsX1_init := goodIn_r _ [59, 60, 2, 3, 61, 62, 20, 63, 64, 65, 66, 67, 68, 69, 111, 112, 113, 114, 115, 116, 117, 118, 119] (by decide +kernel) (by decide +kernel)
set_option maxRecDepth 20000 in
theorem gX4_init_X1_init_n47 : GoodIn wsX4_init (wsX1_init) := ggX4_init_X1_init
set_option maxRecDepth 20000 in
theorem ggX4_init_X3_startAs : GoodIn wsX4_init wsX3_startAs := goodIn_r _ [73, 47, 48, 49, 74, 50, 75, 76, 77, 78, 79, 51, 80, 56, 52, 53, 54, 55, 100, 101, 102, 103, 104, 105, 106, 107, 108, 109, 110, 111, 112, 113, 114, 115, 116, 117, 118, 119] (by decide +kernel) (by decide +kernel)
set_option maxRecDepth 20000 in
theorem gX4_init_X3_startAs : GoodIn wsX4_init (wsV RX4 59 RX3 yX3_startAs wsX3_startAs) := goodIn_app (goodIn_of _ (by decide +kernel)) ggX4_init_X3_startAs
theorem dX4_init_0 : decode cX4_init 0 = .ok (.aload_n 0, 1) := by decide +kernel
theorem dX4_init_1 : decode cX4_init 1 = .ok (.invokespecial 1, 3) := by decide +kernel
theorem dX4_init_4 : decode cX4_init 4 = .ok (.aload_n 0, 1) := by decide +kernel
theorem dX4_init_5 : decode cX4_init 5 = .ok (.new 7, 3) := by decide +kernel
theorem dX4_init_8 : decode cX4_init 8 = .ok (.dup, 1) := by decide +kernel
theorem dX4_init_9 : decode cX4_init 9 = .ok (.invokespecial 9, 3) := by decide +kernel
theorem dX4_init_12 : decode cX4_init 12 = .ok (.putfield 10, 3) := by decide +kernel
theorem dX4_init_15 : decode cX4_init 15 = .ok (.aload_n 0, 1) := by decide +kernel
theorem dX4_init_16 : decode cX4_init 16 = .ok (.new 16, 3) := by decide +kernel
theorem dX4_init_19 : decode cX4_init 19 = .ok (.dup, 1) := by decide +kernel
theorem dX4_init_20 : decode cX4_init 20 = .ok (.invokespecial 18, 3) := by decide +kernel
theorem dX4_init_23 : decode cX4_init 23 = .ok (.putfield 19, 3) := by decide +kernel
theorem dX4_init_26 : decode cX4_init 26 = .ok (.aload_n 0, 1) := by decide +kernel
theorem dX4_init_27 : decode cX4_init 27 = .ok (.new 23, 3) := by decide +kernel
theorem dX4_init_30 : decode cX4_init 30 = .ok (.dup, 1) := by decide +kernel
theorem dX4_init_31 : decode cX4_init 31 = .ok (.invokespecial 25, 3) := by decide +kernel
theorem dX4_init_34 : decode cX4_init 34 = .ok (.putfield 26, 3) := by decide +kernel
theorem dX4_init_37 : decode cX4_init 37 = .ok (.aload_n 0, 1) := by decide +kernel
theorem dX4_init_38 : decode cX4_init 38 = .ok (.new 23, 3) := by decide +kernel
theorem dX4_init_41 : decode cX4_init 41 = .ok (.dup, 1) := by decide +kernel
theorem dX4_init_42 : decode cX4_init 42 = .ok (.invokespecial 25, 3) := by decide +kernel
theorem dX4_init_45 : decode cX4_init 45 = .ok (.putfield 30, 3) := by decide +kernel
theorem dX4_init_48 : decode cX4_init 48 = .ok (.aload_n 0, 1) := by decide +kernel
theorem dX4_init_49 : decode cX4_init 49 = .ok (.iconst 2, 1) := by decide +kernel
theorem dX4_init_50 : decode cX4_init 50 = .ok (.anewarray 23, 3) := by decide +kernel
theorem dX4_init_53 : decode cX4_init 53 = .ok (.putfield 33, 3) := by decide +kernel
theorem dX4_init_56 : decode cX4_init 56 = .ok (.aload_n 0, 1) := by decide +kernel
theorem dX4_init_57 : decode cX4_init 57 = .ok (.iconst 2, 1) := by decide +kernel
theorem dX4_init_58 : decode cX4_init 58 = .ok (.newarray .boolean, 2) := by decide +kernel
theorem dX4_init_60 : decode cX4_init 60 = .ok (.putfield 37, 3) := by decide +kernel
theorem dX4_init_63 : decode cX4_init 63 = .ok (.aload_n 0, 1) := by decide +kernel
theorem dX4_init_64 : decode cX4_init 64 = .ok (.bipush 6, 2) := by decide +kernel
theorem dX4_init_66 : decode cX4_init 66 = .ok (.newarray .int, 2) := by decide +kernel
theorem dX4_init_68 : decode cX4_init 68 = .ok (.putfield 41, 3) := by decide +kernel
theorem dX4_init_71 : decode cX4_init 71 = .ok (.aload_n 0, 1) := by decide +kernel
theorem dX4_init_72 : decode cX4_init 72 = .ok (.new 45, 3) := by decide +kernel
theorem dX4_init_75 : decode cX4_init 75 = .ok (.dup, 1) := by decide +kernel
theorem dX4_init_76 : decode cX4_init 76 = .ok (.invokespecial 47, 3) := by decide +kernel
theorem dX4_init_79 : decode cX4_init 79 = .ok (.putfield 48, 3) := by decide +kernel
theorem dX4_init_82 : decode cX4_init 82 = .ok (.aload_n 0, 1) := by decide +kernel
theorem dX4_init_83 : decode cX4_init 83 = .ok (.new 45, 3) := by decide +kernel
theorem dX4_init_86 : decode cX4_init 86 = .ok (.dup, 1) := by decide +kernel
theorem dX4_init_87 : decode cX4_init 87 = .ok (.invokespecial 47, 3) := by decide +kernel
theorem dX4_init_90 : decode cX4_init 90 = .ok (.putfield 52, 3) := by decide +kernel
theorem dX4_init_93 : decode cX4_init 93 = .ok (.aload_n 0, 1) := by decide +kernel
theorem dX4_init_94 : decode cX4_init 94 = .ok (.lconst 0, 1) := by decide +kernel
theorem dX4_init_95 : decode cX4_init 95 = .ok (.putfield 55, 3) := by decide +kernel
theorem dX4_init_98 : decode cX4_init 98 = .ok (.iconst 0, 1) := by decide +kernel
theorem dX4_init_99 : decode cX4_init 99 = .ok (.istore_n 1, 1) := by decide +kernel
theorem dX4_init_100 : decode cX4_init 100 = .ok (.iload_n 1, 1) := by decide +kernel
theorem dX4_init_101 : decode cX4_init 101 = .ok (.iconst 2, 1) := by decide +kernel
theorem dX4_init_102 : decode cX4_init 102 = .ok (.if_icmp .ge 22, 3) := by decide +kernel
theorem dX4_init_105 : decode cX4_init 105 = .ok (.aload_n 0, 1) := by decide +kernel
theorem dX4_init_106 : decode cX4_init 106 = .ok (.getfield 33, 3) := by decide +kernel
theorem dX4_init_109 : decode cX4_init 109 = .ok (.iload_n 1, 1) := by decide +kernel
theorem dX4_init_110 : decode cX4_init 110 = .ok (.new 23, 3) := by decide +kernel
theorem dX4_init_113 : decode cX4_init 113 = .ok (.dup, 1) := by decide +kernel
theorem dX4_init_114 : decode cX4_init 114 = .ok (.invokespecial 25, 3) := by decide +kernel
theorem dX4_init_117 : decode cX4_init 117 = .ok (.aastore, 1) := by decide +kernel
theorem dX4_init_118 : decode cX4_init 118 = .ok (.iinc 1 1, 3) := by decide +kernel
theorem dX4_init_121 : decode cX4_init 121 = .ok (.goto (-21), 3) := by decide +kernel
theorem dX4_init_124 : decode cX4_init 124 = .ok (.aload_n 0, 1) := by decide +kernel
theorem dX4_init_125 : decode cX4_init 125 = .ok (.getfield 26, 3) := by decide +kernel
theorem dX4_init_128 : decode cX4_init 128 = .ok (.aload_n 0, 1) := by decide +kernel
theorem dX4_init_129 : decode cX4_init 129 = .ok (.getfield 48, 3) := by decide +kernel
theorem dX4_init_132 : decode cX4_init 132 = .ok (.invokevirtual 59, 3) := by decide +kernel
theorem dX4_init_135 : decode cX4_init 135 = .ok (.return_, 1) := by decide +kernel
set_option maxRecDepth 20000 in
theorem ggX4_type_X4_within : GoodIn wsX4_type wsX4_within := goodIn_r _ [6] (by decide +kernel) (by decide +kernel)
set_option maxRecDepth 20000 in
theorem gX4_type_X4_within : GoodIn wsX4_type (va_wsS RX4 63 yX4_within wsX4_within) := goodIn_app (goodIn_of _ (by decide +kernel)) ggX4_type_X4_within
set_option maxRecDepth 20000 in
theorem ggX4_type_X0_add : GoodIn wsX4_type wsX0_add := goodIn_r _ [11, 12, 13, 14, 25, 26, 27, 28, 29, 30] (by decide +kernel) (by decide +kernel)
set_option maxRecDepth 20000 in
theorem gX4_type_X0_add : GoodIn wsX4_type (wsV RX4 71 RX0 yX0_add wsX0_add) := goodIn_app (goodIn_of _ (by decide +kernel)) ggX4_type_X0_add
theorem dX4_type_0 : decode cX4_type 0 = .ok (.iload_n 3, 1) := by decide +kernel
theorem dX4_type_1 : decode cX4_type 1 = .ok (.iconst 1, 1) := by decide +kernel
theorem dX4_type_2 : decode cX4_type 2 = .ok (.bipush 8, 2) := by decide +kernel
theorem dX4_type_4 : decode cX4_type 4 = .ok (.invokestatic 63, 3) := by decide +kernel
theorem dX4_type_7 : decode cX4_type 7 = .ok (.ifCond .ne 5, 3) := by decide +kernel
theorem dX4_type_10 : decode cX4_type 10 = .ok (.iconst (-1), 1) := by decide +kernel
theorem dX4_type_11 : decode cX4_type 11 = .ok (.ireturn, 1) := by decide +kernel
theorem dX4_type_12 : decode cX4_type 12 = .ok (.aload_n 0, 1) := by decide +kernel
theorem dX4_type_13 : decode cX4_type 13 = .ok (.getfield 10, 3) := by decide +kernel
theorem dX4_type_16 : decode cX4_type 16 = .ok (.getfield 67, 3) := by decide +kernel
theorem dX4_type_19 : decode cX4_type 19 = .ok (.iload_n 3, 1) := by decide +kernel
theorem dX4_type_20 : decode cX4_type 20 = .ok (.iadd, 1) := by decide +kernel
theorem dX4_type_21 : decode cX4_type 21 = .ok (.sipush 400, 3) := by decide +kernel
theorem dX4_type_24 : decode cX4_type 24 = .ok (.if_icmp .le 6, 3) := by decide +kernel
theorem dX4_type_27 : decode cX4_type 27 = .ok (.bipush (-3), 2) := by decide +kernel
theorem dX4_type_29 : decode cX4_type 29 = .ok (.ireturn, 1) := by decide +kernel
theorem dX4_type_30 : decode cX4_type 30 = .ok (.aload_n 0, 1) := by decide +kernel
theorem dX4_type_31 : decode cX4_type 31 = .ok (.getfield 10, 3) := by decide +kernel
theorem dX4_type_34 : decode cX4_type 34 = .ok (.lload_n 1, 1) := by decide +kernel
theorem dX4_type_35 : decode cX4_type 35 = .ok (.iload_n 3, 1) := by decide +kernel
theorem dX4_type_36 : decode cX4_type 36 = .ok (.invokevirtual 71, 3) := by decide +kernel
theorem dX4_type_39 : decode cX4_type 39 = .ok (.aload_n 0, 1) := by decide +kernel
theorem dX4_type_40 : decode cX4_type 40 = .ok (.getfield 10, 3) := by decide +kernel
theorem dX4_type_43 : decode cX4_type 43 = .ok (.getfield 67, 3) := by decide +kernel
theorem dX4_type_46 : decode cX4_type 46 = .ok (.ireturn, 1) := by decide +kernel
theorem dX4_clear_0 : decode cX4_clear 0 = .ok (.aload_n 0, 1) := by decide +kernel
theorem dX4_clear_1 : decode cX4_clear 1 = .ok (.getfield 10, 3) := by decide +kernel
theorem dX4_clear_4 : decode cX4_clear 4 = .ok (.getfield 67, 3) := by decide +kernel
theorem dX4_clear_7 : decode cX4_clear 7 = .ok (.istore_n 1, 1) := by decide +kernel
theorem dX4_clear_8 : decode cX4_clear 8 = .ok (.aload_n 0, 1) := by decide +kernel
theorem dX4_clear_9 : decode cX4_clear 9 = .ok (.getfield 10, 3) := by decide +kernel
theorem dX4_clear_12 : decode cX4_clear 12 = .ok (.iconst 0, 1) := by decide +kernel
theorem dX4_clear_13 : decode cX4_clear 13 = .ok (.putfield 67, 3) := by decide +kernel
theorem dX4_clear_16 : decode cX4_clear 16 = .ok (.iload_n 1, 1) := by decide +kernel
theorem dX4_clear_17 : decode cX4_clear 17 = .ok (.ireturn, 1) := by decide +kernel
set_option maxRecDepth 20000 in
theorem ggX4_read_X0_cut : GoodIn wsX4_read wsX0_cut := goodIn_r _ [11, 12, 13, 14, 15, 16, 17, 18, 10, 19, 20, 21, 22, 23, 24, 25, 26, 27, 28, 29, 30, 31, 32, 33, 34, 35, 36, 37, 38, 39, 40, 41, 42, 43, 44, 45, 46, 47, 48, 49, 50, 51, 52, 53, 54, 55, 56, 57, 58, 59, 60, 61, 62, 63, 64, 65, 66, 67, 68, 69, 70, 71, 72, 73, 74, 75, 76, 77, 78, 79, 80, 81, 82, 83, 84, 85, 86, 87, 88, 89, 90, 91, 92, 93, 94, 95, 96, 97, 98, 208, 209, 210, 211, 212, 213] (by decide +kernel) (by decide +kernel)
set_option maxRecDepth 20000 in
theorem gX4_read_X0_cut : GoodIn wsX4_read (wsV RX4 75 RX0 yX0_cut wsX0_cut) := goodIn_app (goodIn_of _ (by decide +kernel)) ggX4_read_X0_cut
set_option maxRecDepth 20000 in
theorem ggX4_read_X1_readAll : GoodIn wsX4_read wsX1_readAll := goodIn_r _ [103, 104, 105, 106, 102, 107, 108, 109, 110, 111, 112, 113, 114, 115, 116, 117, 10, 118, 97, 13, 119, 120, 121, 122, 123, 124, 125, 126, 127, 128, 129, 130, 12, 131, 132, 133, 134, 135, 136, 137, 138, 139, 140, 141, 142, 143, 144, 145, 146, 147, 148, 149, 150, 151, 152, 153, 154, 155, 156, 157, 158, 159, 160, 161, 162, 163, 164, 165, 166, 167, 168, 169, 170, 171, 214, 215, 216, 217, 218, 219, 220, 221, 222, 208, 209, 210, 211, 212, 213] (by decide +kernel) (by decide +kernel)
set_option maxRecDepth 20000 in
theorem gX4_read_X1_readAll : GoodIn wsX4_read (wsV RX4 78 RX1 yX1_readAll wsX1_readAll) := goodIn_app (goodIn_of _ (by decide +kernel)) ggX4_read_X1_readAll
set_option maxRecDepth 20000 in
theorem ggX4_read_X0_start : GoodIn wsX4_read wsX0_start := goodIn_r _ [175, 98, 13, 208, 209, 210, 211, 212, 213] (by decide +kernel) (by decide +kernel)
set_option maxRecDepth 20000 in
theorem gX4_read_X0_start : GoodIn wsX4_read (wsV RX4 82 RX0 yX0_start wsX0_start) := goodIn_app (goodIn_of _ (by decide +kernel)) ggX4_read_X0_start
set_option maxRecDepth 20000 in
theorem ggX4_read_X3_startAs : GoodIn wsX4_read wsX3_startAs := goodIn_r _ [180, 181, 182, 183, 184, 185, 186, 187, 188, 189, 190, 191, 192, 193, 194, 195, 196, 197, 223, 224, 225, 226, 227, 228, 229, 230, 231, 232, 233, 214, 215, 216, 217, 218, 219, 220, 221, 222] (by decide +kernel) (by decide +kernel)
set_option maxRecDepth 20000 in
theorem gX4_read_X3_startAs : GoodIn wsX4_read (wsV RX4 59 RX3 yX3_startAs wsX3_startAs) := goodIn_app (goodIn_of _ (by decide +kernel)) ggX4_read_X3_startAs
theorem dX4_read_0 : decode cX4_read 0 = .ok (.aload_n 0, 1) := by decide +kernel
theorem dX4_read_1 : decode cX4_read 1 = .ok (.getfield 10, 3) := by decide +kernel
theorem dX4_read_4 : decode cX4_read 4 = .ok (.invokevirtual 75, 3) := by decide +kernel
theorem dX4_read_7 : decode cX4_read 7 = .ok (.aload_n 0, 1) := by decide +kernel
theorem dX4_read_8 : decode cX4_read 8 = .ok (.getfield 52, 3) := by decide +kernel
theorem dX4_read_11 : decode cX4_read 11 = .ok (.aload_n 0, 1) := by decide +kernel
theorem dX4_read_12 : decode cX4_read 12 = .ok (.getfield 10, 3) := by decide +kernel
theorem dX4_read_15 : decode cX4_read 15 = .ok (.invokevirtual 78, 3) := by decide +kernel
theorem dX4_read_18 : decode cX4_read 18 = .ok (.istore_n 1, 1) := by decide +kernel
theorem dX4_read_19 : decode cX4_read 19 = .ok (.iload_n 1, 1) := by decide +kernel
theorem dX4_read_20 : decode cX4_read 20 = .ok (.bipush (-9), 2) := by decide +kernel
theorem dX4_read_22 : decode cX4_read 22 = .ok (.if_icmp .ne 14, 3) := by decide +kernel
theorem dX4_read_25 : decode cX4_read 25 = .ok (.bipush (-10), 2) := by decide +kernel
theorem dX4_read_27 : decode cX4_read 27 = .ok (.aload_n 0, 1) := by decide +kernel
theorem dX4_read_28 : decode cX4_read 28 = .ok (.getfield 10, 3) := by decide +kernel
theorem dX4_read_31 : decode cX4_read 31 = .ok (.invokevirtual 82, 3) := by decide +kernel
theorem dX4_read_34 : decode cX4_read 34 = .ok (.isub, 1) := by decide +kernel
theorem dX4_read_35 : decode cX4_read 35 = .ok (.ireturn, 1) := by decide +kernel
theorem dX4_read_36 : decode cX4_read 36 = .ok (.aload_n 0, 1) := by decide +kernel
theorem dX4_read_37 : decode cX4_read 37 = .ok (.getfield 48, 3) := by decide +kernel
theorem dX4_read_40 : decode cX4_read 40 = .ok (.astore_n 2, 1) := by decide +kernel
theorem dX4_read_41 : decode cX4_read 41 = .ok (.aload_n 0, 1) := by decide +kernel
theorem dX4_read_42 : decode cX4_read 42 = .ok (.aload_n 0, 1) := by decide +kernel
theorem dX4_read_43 : decode cX4_read 43 = .ok (.getfield 52, 3) := by decide +kernel
theorem dX4_read_46 : decode cX4_read 46 = .ok (.putfield 48, 3) := by decide +kernel
theorem dX4_read_49 : decode cX4_read 49 = .ok (.aload_n 0, 1) := by decide +kernel
theorem dX4_read_50 : decode cX4_read 50 = .ok (.aload_n 2, 1) := by decide +kernel
theorem dX4_read_51 : decode cX4_read 51 = .ok (.putfield 52, 3) := by decide +kernel
theorem dX4_read_54 : decode cX4_read 54 = .ok (.aload_n 0, 1) := by decide +kernel
theorem dX4_read_55 : decode cX4_read 55 = .ok (.getfield 10, 3) := by decide +kernel
theorem dX4_read_58 : decode cX4_read 58 = .ok (.iconst 0, 1) := by decide +kernel
theorem dX4_read_59 : decode cX4_read 59 = .ok (.putfield 67, 3) := by decide +kernel
theorem dX4_read_62 : decode cX4_read 62 = .ok (.aload_n 0, 1) := by decide +kernel
theorem dX4_read_63 : decode cX4_read 63 = .ok (.getfield 26, 3) := by decide +kernel
theorem dX4_read_66 : decode cX4_read 66 = .ok (.aload_n 0, 1) := by decide +kernel
theorem dX4_read_67 : decode cX4_read 67 = .ok (.getfield 48, 3) := by decide +kernel
theorem dX4_read_70 : decode cX4_read 70 = .ok (.invokevirtual 59, 3) := by decide +kernel
theorem dX4_read_73 : decode cX4_read 73 = .ok (.iconst 0, 1) := by decide +kernel
theorem dX4_read_74 : decode cX4_read 74 = .ok (.istore_n 3, 1) := by decide +kernel
theorem dX4_read_75 : decode cX4_read 75 = .ok (.iload_n 3, 1) := by decide +kernel
theorem dX4_read_76 : decode cX4_read 76 = .ok (.iconst 2, 1) := by decide +kernel
theorem dX4_read_77 : decode cX4_read 77 = .ok (.if_icmp .ge 16, 3) := by decide +kernel
theorem dX4_read_80 : decode cX4_read 80 = .ok (.aload_n 0, 1) := by decide +kernel
theorem dX4_read_81 : decode cX4_read 81 = .ok (.getfield 37, 3) := by decide +kernel
theorem dX4_read_84 : decode cX4_read 84 = .ok (.iload_n 3, 1) := by decide +kernel
theorem dX4_read_85 : decode cX4_read 85 = .ok (.iconst 0, 1) := by decide +kernel
theorem dX4_read_86 : decode cX4_read 86 = .ok (.bastore, 1) := by decide +kernel
theorem dX4_read_87 : decode cX4_read 87 = .ok (.iinc 3 1, 3) := by decide +kernel
theorem dX4_read_90 : decode cX4_read 90 = .ok (.goto (-15), 3) := by decide +kernel
theorem dX4_read_93 : decode cX4_read 93 = .ok (.iload_n 1, 1) := by decide +kernel
theorem dX4_read_94 : decode cX4_read 94 = .ok (.ireturn, 1) := by decide +kernel
set_option maxRecDepth 20000 in
theorem ggX4_trade_X4_isTrade : GoodIn wsX4_trade wsX4_isTrade := goodIn_r _ [11, 1, 12, 13, 14, 10, 15, 16, 17, 18, 19, 20, 21, 22, 23, 24, 25, 26, 27, 28, 29, 30, 31, 32, 33, 34] (by decide +kernel) (by decide +kernel)
set_option maxRecDepth 20000 in
theorem gX4_trade_X4_isTrade : GoodIn wsX4_trade (wsV RX4 86 RX4 yX4_isTrade wsX4_isTrade) := goodIn_app (goodIn_of _ (by decide +kernel)) ggX4_trade_X4_isTrade
theorem dX4_trade_0 : decode cX4_trade 0 = .ok (.aload_n 0, 1) := by decide +kernel
theorem dX4_trade_1 : decode cX4_trade 1 = .ok (.iload_n 1, 1) := by decide +kernel
theorem dX4_trade_2 : decode cX4_trade 2 = .ok (.invokevirtual 86, 3) := by decide +kernel
theorem dX4_trade_5 : decode cX4_trade 5 = .ok (.ifCond .ne 5, 3) := by decide +kernel
theorem dX4_trade_8 : decode cX4_trade 8 = .ok (.iconst (-1), 1) := by decide +kernel
theorem dX4_trade_9 : decode cX4_trade 9 = .ok (.ireturn, 1) := by decide +kernel
theorem dX4_trade_10 : decode cX4_trade 10 = .ok (.iload_n 2, 1) := by decide +kernel
theorem dX4_trade_11 : decode cX4_trade 11 = .ok (.tableswitch 69 0 3 #[29, 39, 49, 59], 29) := by decide +kernel
theorem dX4_trade_40 : decode cX4_trade 40 = .ok (.aload_n 0, 1) := by decide +kernel
theorem dX4_trade_41 : decode cX4_trade 41 = .ok (.getfield 48, 3) := by decide +kernel
theorem dX4_trade_44 : decode cX4_trade 44 = .ok (.getfield 90, 3) := by decide +kernel
theorem dX4_trade_47 : decode cX4_trade 47 = .ok (.iload_n 1, 1) := by decide +kernel
theorem dX4_trade_48 : decode cX4_trade 48 = .ok (.iaload, 1) := by decide +kernel
theorem dX4_trade_49 : decode cX4_trade 49 = .ok (.ireturn, 1) := by decide +kernel
theorem dX4_trade_50 : decode cX4_trade 50 = .ok (.aload_n 0, 1) := by decide +kernel
theorem dX4_trade_51 : decode cX4_trade 51 = .ok (.getfield 48, 3) := by decide +kernel
theorem dX4_trade_54 : decode cX4_trade 54 = .ok (.getfield 93, 3) := by decide +kernel
theorem dX4_trade_57 : decode cX4_trade 57 = .ok (.iload_n 1, 1) := by decide +kernel
theorem dX4_trade_58 : decode cX4_trade 58 = .ok (.iaload, 1) := by decide +kernel
theorem dX4_trade_59 : decode cX4_trade 59 = .ok (.ireturn, 1) := by decide +kernel
theorem dX4_trade_60 : decode cX4_trade 60 = .ok (.aload_n 0, 1) := by decide +kernel
theorem dX4_trade_61 : decode cX4_trade 61 = .ok (.getfield 26, 3) := by decide +kernel
theorem dX4_trade_64 : decode cX4_trade 64 = .ok (.getfield 96, 3) := by decide +kernel
theorem dX4_trade_67 : decode cX4_trade 67 = .ok (.iload_n 1, 1) := by decide +kernel
theorem dX4_trade_68 : decode cX4_trade 68 = .ok (.iaload, 1) := by decide +kernel
theorem dX4_trade_69 : decode cX4_trade 69 = .ok (.ireturn, 1) := by decide +kernel
theorem dX4_trade_70 : decode cX4_trade 70 = .ok (.aload_n 0, 1) := by decide +kernel
theorem dX4_trade_71 : decode cX4_trade 71 = .ok (.getfield 26, 3) := by decide +kernel
theorem dX4_trade_74 : decode cX4_trade 74 = .ok (.getfield 99, 3) := by decide +kernel
theorem dX4_trade_77 : decode cX4_trade 77 = .ok (.iload_n 1, 1) := by decide +kernel
theorem dX4_trade_78 : decode cX4_trade 78 = .ok (.iaload, 1) := by decide +kernel
theorem dX4_trade_79 : decode cX4_trade 79 = .ok (.ireturn, 1) := by decide +kernel
theorem dX4_trade_80 : decode cX4_trade 80 = .ok (.iconst (-1), 1) := by decide +kernel
theorem dX4_trade_81 : decode cX4_trade 81 = .ok (.ireturn, 1) := by decide +kernel
set_option maxRecDepth 20000 in
theorem ggX4_skill_X4_isPerson : GoodIn wsX4_skill wsX4_isPerson := goodIn_r _ [7, 8, 9, 10, 11, 6, 12, 21, 22, 23, 24, 25, 26, 27, 28, 29, 30, 42, 43, 44, 45, 46, 47, 48, 49, 50] (by decide +kernel) (by decide +kernel)
set_option maxRecDepth 20000 in
theorem gX4_skill_X4_isPerson : GoodIn wsX4_skill (wsV RX4 102 RX4 yX4_isPerson wsX4_isPerson) := goodIn_app (goodIn_of _ (by decide +kernel)) ggX4_skill_X4_isPerson
set_option maxRecDepth 20000 in
theorem ggX4_skill_X4_isTrade : GoodIn wsX4_skill wsX4_isTrade := goodIn_r _ [16, 8, 17, 10, 11, 6, 12, 21, 22, 23, 24, 25, 26, 27, 28, 29, 30, 42, 43, 44, 45, 46, 47, 48, 49, 50] (by decide +kernel) (by decide +kernel)
set_option maxRecDepth 20000 in
theorem gX4_skill_X4_isTrade : GoodIn wsX4_skill (wsV RX4 86 RX4 yX4_isTrade wsX4_isTrade) := goodIn_app (goodIn_of _ (by decide +kernel)) ggX4_skill_X4_isTrade
set_option maxRecDepth 20000 in
theorem ggX4_skill_X4_cell : GoodIn wsX4_skill wsX4_cell := goodIn_r _ [20] (by decide +kernel) (by decide +kernel)
set_option maxRecDepth 20000 in
theorem gX4_skill_X4_cell : GoodIn wsX4_skill (va_wsS RX4 108 yX4_cell wsX4_cell) := goodIn_app (goodIn_of _ (by decide +kernel)) ggX4_skill_X4_cell
theorem dX4_skill_0 : decode cX4_skill 0 = .ok (.aload_n 0, 1) := by decide +kernel
theorem dX4_skill_1 : decode cX4_skill 1 = .ok (.iload_n 1, 1) := by decide +kernel
theorem dX4_skill_2 : decode cX4_skill 2 = .ok (.invokevirtual 102, 3) := by decide +kernel
theorem dX4_skill_5 : decode cX4_skill 5 = .ok (.ifCond .eq 11, 3) := by decide +kernel
theorem dX4_skill_8 : decode cX4_skill 8 = .ok (.aload_n 0, 1) := by decide +kernel
theorem dX4_skill_9 : decode cX4_skill 9 = .ok (.iload_n 2, 1) := by decide +kernel
theorem dX4_skill_10 : decode cX4_skill 10 = .ok (.invokevirtual 86, 3) := by decide +kernel
theorem dX4_skill_13 : decode cX4_skill 13 = .ok (.ifCond .ne 5, 3) := by decide +kernel
theorem dX4_skill_16 : decode cX4_skill 16 = .ok (.iconst (-1), 1) := by decide +kernel
theorem dX4_skill_17 : decode cX4_skill 17 = .ok (.ireturn, 1) := by decide +kernel
theorem dX4_skill_18 : decode cX4_skill 18 = .ok (.aload_n 0, 1) := by decide +kernel
theorem dX4_skill_19 : decode cX4_skill 19 = .ok (.getfield 26, 3) := by decide +kernel
theorem dX4_skill_22 : decode cX4_skill 22 = .ok (.getfield 105, 3) := by decide +kernel
theorem dX4_skill_25 : decode cX4_skill 25 = .ok (.iload_n 1, 1) := by decide +kernel
theorem dX4_skill_26 : decode cX4_skill 26 = .ok (.iload_n 2, 1) := by decide +kernel
theorem dX4_skill_27 : decode cX4_skill 27 = .ok (.invokestatic 108, 3) := by decide +kernel
theorem dX4_skill_30 : decode cX4_skill 30 = .ok (.iaload, 1) := by decide +kernel
theorem dX4_skill_31 : decode cX4_skill 31 = .ok (.ireturn, 1) := by decide +kernel
set_option maxRecDepth 20000 in
theorem ggX4_person_X4_isPerson : GoodIn wsX4_person wsX4_isPerson := goodIn_r _ [9, 3, 10, 11, 12, 8, 13, 43, 44, 45, 46, 47, 48, 49, 50, 51, 52, 64, 65, 66, 67, 68, 69, 70, 71, 72] (by decide +kernel) (by decide +kernel)
set_option maxRecDepth 20000 in
theorem gX4_person_X4_isPerson : GoodIn wsX4_person (wsV RX4 102 RX4 yX4_isPerson wsX4_isPerson) := goodIn_app (goodIn_of _ (by decide +kernel)) ggX4_person_X4_isPerson
set_option maxRecDepth 20000 in
theorem ggX4_person_X3_tradeOf : GoodIn wsX4_person wsX3_tradeOf := goodIn_r _ [18, 19, 20, 21, 22, 17, 23, 24, 25, 26, 27, 28, 29, 30, 31, 32, 53, 54, 55, 56, 57, 58, 59, 60, 61, 62, 63, 64, 65, 66, 67, 68, 69, 70, 71, 72] (by decide +kernel) (by decide +kernel)
set_option maxRecDepth 20000 in
theorem gX4_person_X3_tradeOf : GoodIn wsX4_person (wsV RX4 115 RX3 yX3_tradeOf wsX3_tradeOf) := goodIn_app (goodIn_of _ (by decide +kernel)) ggX4_person_X3_tradeOf
set_option maxRecDepth 20000 in
theorem ggX4_person_X3_isIll : GoodIn wsX4_person wsX3_isIll := goodIn_r _ [36, 37, 53, 54, 55, 56, 57, 58, 59, 60, 61, 62, 63] (by decide +kernel) (by decide +kernel)
set_option maxRecDepth 20000 in
theorem gX4_person_X3_isIll : GoodIn wsX4_person (wsV RX4 119 RX3 yX3_isIll wsX3_isIll) := goodIn_app (goodIn_of _ (by decide +kernel)) ggX4_person_X3_isIll
set_option maxRecDepth 20000 in
theorem ggX4_person_X3_whomHelps : GoodIn wsX4_person wsX3_whomHelps := goodIn_r _ [41, 42, 53, 54, 55, 56, 57, 58, 59, 60, 61, 62, 63] (by decide +kernel) (by decide +kernel)
set_option maxRecDepth 20000 in
theorem gX4_person_X3_whomHelps : GoodIn wsX4_person (wsV RX4 122 RX3 yX3_whomHelps wsX3_whomHelps) := goodIn_app (goodIn_of _ (by decide +kernel)) ggX4_person_X3_whomHelps
theorem dX4_person_0 : decode cX4_person 0 = .ok (.aload_n 0, 1) := by decide +kernel
theorem dX4_person_1 : decode cX4_person 1 = .ok (.iload_n 1, 1) := by decide +kernel
theorem dX4_person_2 : decode cX4_person 2 = .ok (.invokevirtual 102, 3) := by decide +kernel
theorem dX4_person_5 : decode cX4_person 5 = .ok (.ifCond .ne 5, 3) := by decide +kernel
theorem dX4_person_8 : decode cX4_person 8 = .ok (.iconst (-1), 1) := by decide +kernel
theorem dX4_person_9 : decode cX4_person 9 = .ok (.ireturn, 1) := by decide +kernel
theorem dX4_person_10 : decode cX4_person 10 = .ok (.iload_n 2, 1) := by decide +kernel
theorem dX4_person_11 : decode cX4_person 11 = .ok (.tableswitch 92 0 4 #[33, 43, 56, 73, 82], 33) := by decide +kernel
theorem dX4_person_44 : decode cX4_person 44 = .ok (.aload_n 0, 1) := by decide +kernel
theorem dX4_person_45 : decode cX4_person 45 = .ok (.getfield 26, 3) := by decide +kernel
theorem dX4_person_48 : decode cX4_person 48 = .ok (.getfield 112, 3) := by decide +kernel
theorem dX4_person_51 : decode cX4_person 51 = .ok (.iload_n 1, 1) := by decide +kernel
theorem dX4_person_52 : decode cX4_person 52 = .ok (.iaload, 1) := by decide +kernel
theorem dX4_person_53 : decode cX4_person 53 = .ok (.ireturn, 1) := by decide +kernel
theorem dX4_person_54 : decode cX4_person 54 = .ok (.aload_n 0, 1) := by decide +kernel
theorem dX4_person_55 : decode cX4_person 55 = .ok (.getfield 26, 3) := by decide +kernel
theorem dX4_person_58 : decode cX4_person 58 = .ok (.iload_n 1, 1) := by decide +kernel
theorem dX4_person_59 : decode cX4_person 59 = .ok (.aload_n 0, 1) := by decide +kernel
theorem dX4_person_60 : decode cX4_person 60 = .ok (.getfield 48, 3) := by decide +kernel
theorem dX4_person_63 : decode cX4_person 63 = .ok (.invokevirtual 115, 3) := by decide +kernel
theorem dX4_person_66 : decode cX4_person 66 = .ok (.ireturn, 1) := by decide +kernel
theorem dX4_person_67 : decode cX4_person 67 = .ok (.aload_n 0, 1) := by decide +kernel
theorem dX4_person_68 : decode cX4_person 68 = .ok (.getfield 26, 3) := by decide +kernel
theorem dX4_person_71 : decode cX4_person 71 = .ok (.iload_n 1, 1) := by decide +kernel
theorem dX4_person_72 : decode cX4_person 72 = .ok (.invokevirtual 119, 3) := by decide +kernel
theorem dX4_person_75 : decode cX4_person 75 = .ok (.ifCond .eq 7, 3) := by decide +kernel
theorem dX4_person_78 : decode cX4_person 78 = .ok (.iconst 1, 1) := by decide +kernel
theorem dX4_person_79 : decode cX4_person 79 = .ok (.goto 4, 3) := by decide +kernel
theorem dX4_person_82 : decode cX4_person 82 = .ok (.iconst 0, 1) := by decide +kernel
theorem dX4_person_83 : decode cX4_person 83 = .ok (.ireturn, 1) := by decide +kernel
theorem dX4_person_84 : decode cX4_person 84 = .ok (.aload_n 0, 1) := by decide +kernel
theorem dX4_person_85 : decode cX4_person 85 = .ok (.getfield 26, 3) := by decide +kernel
theorem dX4_person_88 : decode cX4_person 88 = .ok (.iload_n 1, 1) := by decide +kernel
theorem dX4_person_89 : decode cX4_person 89 = .ok (.invokevirtual 122, 3) := by decide +kernel
theorem dX4_person_92 : decode cX4_person 92 = .ok (.ireturn, 1) := by decide +kernel
theorem dX4_person_93 : decode cX4_person 93 = .ok (.aload_n 0, 1) := by decide +kernel
theorem dX4_person_94 : decode cX4_person 94 = .ok (.getfield 48, 3) := by decide +kernel
theorem dX4_person_97 : decode cX4_person 97 = .ok (.getfield 126, 3) := by decide +kernel
theorem dX4_person_100 : decode cX4_person 100 = .ok (.iload_n 1, 1) := by decide +kernel
theorem dX4_person_101 : decode cX4_person 101 = .ok (.iaload, 1) := by decide +kernel
theorem dX4_person_102 : decode cX4_person 102 = .ok (.ireturn, 1) := by decide +kernel
theorem dX4_person_103 : decode cX4_person 103 = .ok (.iconst (-1), 1) := by decide +kernel
theorem dX4_person_104 : decode cX4_person 104 = .ok (.ireturn, 1) := by decide +kernel
set_option maxRecDepth 20000 in
theorem ggX4_wheel_X4_isTrade : GoodIn wsX4_wheel wsX4_isTrade := goodIn_r _ [7, 8, 9, 10, 11, 6, 12, 13, 14, 15, 16, 17, 18, 19, 20, 21, 22, 34, 35, 36, 37, 38, 39, 40, 41, 42] (by decide +kernel) (by decide +kernel)
set_option maxRecDepth 20000 in
theorem gX4_wheel_X4_isTrade : GoodIn wsX4_wheel (wsV RX4 86 RX4 yX4_isTrade wsX4_isTrade) := goodIn_app (goodIn_of _ (by decide +kernel)) ggX4_wheel_X4_isTrade
theorem dX4_wheel_0 : decode cX4_wheel 0 = .ok (.aload_n 0, 1) := by decide +kernel
theorem dX4_wheel_1 : decode cX4_wheel 1 = .ok (.iload_n 1, 1) := by decide +kernel
theorem dX4_wheel_2 : decode cX4_wheel 2 = .ok (.invokevirtual 86, 3) := by decide +kernel
theorem dX4_wheel_5 : decode cX4_wheel 5 = .ok (.ifCond .eq 15, 3) := by decide +kernel
theorem dX4_wheel_8 : decode cX4_wheel 8 = .ok (.aload_n 0, 1) := by decide +kernel
theorem dX4_wheel_9 : decode cX4_wheel 9 = .ok (.getfield 26, 3) := by decide +kernel
theorem dX4_wheel_12 : decode cX4_wheel 12 = .ok (.getfield 129, 3) := by decide +kernel
theorem dX4_wheel_15 : decode cX4_wheel 15 = .ok (.iload_n 1, 1) := by decide +kernel
theorem dX4_wheel_16 : decode cX4_wheel 16 = .ok (.iaload, 1) := by decide +kernel
theorem dX4_wheel_17 : decode cX4_wheel 17 = .ok (.goto 4, 3) := by decide +kernel
theorem dX4_wheel_20 : decode cX4_wheel 20 = .ok (.iconst (-1), 1) := by decide +kernel
theorem dX4_wheel_21 : decode cX4_wheel 21 = .ok (.ireturn, 1) := by decide +kernel
set_option maxRecDepth 20000 in
theorem ggX4_tune_X4_within : GoodIn wsX4_tune wsX4_within := goodIn_r _ [8] (by decide +kernel) (by decide +kernel)
set_option maxRecDepth 20000 in
theorem gX4_tune_X4_within : GoodIn wsX4_tune (va_wsS RX4 63 yX4_within wsX4_within) := goodIn_app (goodIn_of _ (by decide +kernel)) ggX4_tune_X4_within
theorem dX4_tune_0 : decode cX4_tune 0 = .ok (.iload_n 1, 1) := by decide +kernel
theorem dX4_tune_1 : decode cX4_tune 1 = .ok (.tableswitch 117 0 2 #[27, 57, 87], 27) := by decide +kernel
theorem dX4_tune_28 : decode cX4_tune 28 = .ok (.iload_n 2, 1) := by decide +kernel
theorem dX4_tune_29 : decode cX4_tune 29 = .ok (.iconst 0, 1) := by decide +kernel
theorem dX4_tune_30 : decode cX4_tune 30 = .ok (.bipush 9, 2) := by decide +kernel
theorem dX4_tune_32 : decode cX4_tune 32 = .ok (.invokestatic 63, 3) := by decide +kernel
theorem dX4_tune_35 : decode cX4_tune 35 = .ok (.ifCond .ne 5, 3) := by decide +kernel
theorem dX4_tune_38 : decode cX4_tune 38 = .ok (.iconst (-1), 1) := by decide +kernel
theorem dX4_tune_39 : decode cX4_tune 39 = .ok (.ireturn, 1) := by decide +kernel
theorem dX4_tune_40 : decode cX4_tune 40 = .ok (.aload_n 0, 1) := by decide +kernel
theorem dX4_tune_41 : decode cX4_tune 41 = .ok (.getfield 19, 3) := by decide +kernel
theorem dX4_tune_44 : decode cX4_tune 44 = .ok (.getfield 132, 3) := by decide +kernel
theorem dX4_tune_47 : decode cX4_tune 47 = .ok (.istore_n 3, 1) := by decide +kernel
theorem dX4_tune_48 : decode cX4_tune 48 = .ok (.aload_n 0, 1) := by decide +kernel
theorem dX4_tune_49 : decode cX4_tune 49 = .ok (.getfield 19, 3) := by decide +kernel
theorem dX4_tune_52 : decode cX4_tune 52 = .ok (.iload_n 2, 1) := by decide +kernel
theorem dX4_tune_53 : decode cX4_tune 53 = .ok (.putfield 132, 3) := by decide +kernel
theorem dX4_tune_56 : decode cX4_tune 56 = .ok (.iload_n 3, 1) := by decide +kernel
theorem dX4_tune_57 : decode cX4_tune 57 = .ok (.ireturn, 1) := by decide +kernel
theorem dX4_tune_58 : decode cX4_tune 58 = .ok (.iload_n 2, 1) := by decide +kernel
theorem dX4_tune_59 : decode cX4_tune 59 = .ok (.iconst 0, 1) := by decide +kernel
theorem dX4_tune_60 : decode cX4_tune 60 = .ok (.bipush 20, 2) := by decide +kernel
theorem dX4_tune_62 : decode cX4_tune 62 = .ok (.invokestatic 63, 3) := by decide +kernel
theorem dX4_tune_65 : decode cX4_tune 65 = .ok (.ifCond .ne 5, 3) := by decide +kernel
theorem dX4_tune_68 : decode cX4_tune 68 = .ok (.iconst (-1), 1) := by decide +kernel
theorem dX4_tune_69 : decode cX4_tune 69 = .ok (.ireturn, 1) := by decide +kernel
theorem dX4_tune_70 : decode cX4_tune 70 = .ok (.aload_n 0, 1) := by decide +kernel
theorem dX4_tune_71 : decode cX4_tune 71 = .ok (.getfield 19, 3) := by decide +kernel
theorem dX4_tune_74 : decode cX4_tune 74 = .ok (.getfield 135, 3) := by decide +kernel
theorem dX4_tune_77 : decode cX4_tune 77 = .ok (.istore_n 3, 1) := by decide +kernel
theorem dX4_tune_78 : decode cX4_tune 78 = .ok (.aload_n 0, 1) := by decide +kernel
theorem dX4_tune_79 : decode cX4_tune 79 = .ok (.getfield 19, 3) := by decide +kernel
theorem dX4_tune_82 : decode cX4_tune 82 = .ok (.iload_n 2, 1) := by decide +kernel
theorem dX4_tune_83 : decode cX4_tune 83 = .ok (.putfield 135, 3) := by decide +kernel
theorem dX4_tune_86 : decode cX4_tune 86 = .ok (.iload_n 3, 1) := by decide +kernel
theorem dX4_tune_87 : decode cX4_tune 87 = .ok (.ireturn, 1) := by decide +kernel
theorem dX4_tune_88 : decode cX4_tune 88 = .ok (.iload_n 2, 1) := by decide +kernel
theorem dX4_tune_89 : decode cX4_tune 89 = .ok (.iconst 1, 1) := by decide +kernel
theorem dX4_tune_90 : decode cX4_tune 90 = .ok (.bipush 99, 2) := by decide +kernel
theorem dX4_tune_92 : decode cX4_tune 92 = .ok (.invokestatic 63, 3) := by decide +kernel
theorem dX4_tune_95 : decode cX4_tune 95 = .ok (.ifCond .ne 5, 3) := by decide +kernel
theorem dX4_tune_98 : decode cX4_tune 98 = .ok (.iconst (-1), 1) := by decide +kernel
theorem dX4_tune_99 : decode cX4_tune 99 = .ok (.ireturn, 1) := by decide +kernel
theorem dX4_tune_100 : decode cX4_tune 100 = .ok (.aload_n 0, 1) := by decide +kernel
theorem dX4_tune_101 : decode cX4_tune 101 = .ok (.getfield 19, 3) := by decide +kernel
theorem dX4_tune_104 : decode cX4_tune 104 = .ok (.getfield 138, 3) := by decide +kernel
theorem dX4_tune_107 : decode cX4_tune 107 = .ok (.istore_n 3, 1) := by decide +kernel
theorem dX4_tune_108 : decode cX4_tune 108 = .ok (.aload_n 0, 1) := by decide +kernel
theorem dX4_tune_109 : decode cX4_tune 109 = .ok (.getfield 19, 3) := by decide +kernel
theorem dX4_tune_112 : decode cX4_tune 112 = .ok (.iload_n 2, 1) := by decide +kernel
theorem dX4_tune_113 : decode cX4_tune 113 = .ok (.putfield 138, 3) := by decide +kernel
theorem dX4_tune_116 : decode cX4_tune 116 = .ok (.iload_n 3, 1) := by decide +kernel
theorem dX4_tune_117 : decode cX4_tune 117 = .ok (.ireturn, 1) := by decide +kernel
theorem dX4_tune_118 : decode cX4_tune 118 = .ok (.iconst (-1), 1) := by decide +kernel
theorem dX4_tune_119 : decode cX4_tune 119 = .ok (.ireturn, 1) := by decide +kernel
set_option maxRecDepth 20000 in
theorem ggX4_go_X4_within : GoodIn wsX4_go wsX4_within := goodIn_r _ [10] (by decide +kernel) (by decide +kernel)
set_option maxRecDepth 20000 in
theorem gX4_go_X4_within : GoodIn wsX4_go (va_wsS RX4 63 yX4_within wsX4_within) := goodIn_app (goodIn_of _ (by decide +kernel)) ggX4_go_X4_within
set_option maxRecDepth 20000 in
theorem ggX4_go_X3_goRounds : GoodIn wsX4_go wsX3_goRounds := goodIn_r _ [15, 16, 17, 18, 19, 20, 21, 22, 23, 14, 24, 25, 26, 27, 28, 29, 30, 31, 32, 33, 34, 35, 36, 37, 38, 39, 40, 41, 42, 43, 44, 45, 46, 47, 48, 49, 50, 51, 52, 53, 54, 55, 56, 57, 58, 59, 60, 61, 62, 63, 64, 65, 66, 67, 68, 69, 70, 71, 72, 73, 9, 74, 75, 76, 77, 78, 79, 80, 81, 82, 83, 84, 85, 86, 87, 88, 89, 90, 91, 92, 93, 104, 105, 106, 107, 108, 109, 110, 111, 112, 113, 114, 124, 125, 126, 115, 116, 117, 118, 119, 120, 121, 122, 123] (by decide +kernel) (by decide +kernel)
set_option maxRecDepth 20000 in
theorem gX4_go_X3_goRounds : GoodIn wsX4_go (wsV RX4 148 RX3 yX3_goRounds wsX3_goRounds) := goodIn_app (goodIn_of _ (by decide +kernel)) ggX4_go_X3_goRounds
theorem dX4_go_0 : decode cX4_go 0 = .ok (.iload_n 1, 1) := by decide +kernel
theorem dX4_go_1 : decode cX4_go 1 = .ok (.iconst 1, 1) := by decide +kernel
theorem dX4_go_2 : decode cX4_go 2 = .ok (.bipush 99, 2) := by decide +kernel
theorem dX4_go_4 : decode cX4_go 4 = .ok (.invokestatic 63, 3) := by decide +kernel
theorem dX4_go_7 : decode cX4_go 7 = .ok (.ifCond .ne 5, 3) := by decide +kernel
theorem dX4_go_10 : decode cX4_go 10 = .ok (.iconst (-1), 1) := by decide +kernel
theorem dX4_go_11 : decode cX4_go 11 = .ok (.ireturn, 1) := by decide +kernel
theorem dX4_go_12 : decode cX4_go 12 = .ok (.aload_n 0, 1) := by decide +kernel
theorem dX4_go_13 : decode cX4_go 13 = .ok (.getfield 26, 3) := by decide +kernel
theorem dX4_go_16 : decode cX4_go 16 = .ok (.getfield 141, 3) := by decide +kernel
theorem dX4_go_19 : decode cX4_go 19 = .ok (.bipush 99, 2) := by decide +kernel
theorem dX4_go_21 : decode cX4_go 21 = .ok (.if_icmp .ge 13, 3) := by decide +kernel
theorem dX4_go_24 : decode cX4_go 24 = .ok (.aload_n 0, 1) := by decide +kernel
theorem dX4_go_25 : decode cX4_go 25 = .ok (.getfield 48, 3) := by decide +kernel
theorem dX4_go_28 : decode cX4_go 28 = .ok (.getfield 144, 3) := by decide +kernel
theorem dX4_go_31 : decode cX4_go 31 = .ok (.ifCond .ne 6, 3) := by decide +kernel
theorem dX4_go_34 : decode cX4_go 34 = .ok (.bipush (-2), 2) := by decide +kernel
theorem dX4_go_36 : decode cX4_go 36 = .ok (.ireturn, 1) := by decide +kernel
theorem dX4_go_37 : decode cX4_go 37 = .ok (.aload_n 0, 1) := by decide +kernel
theorem dX4_go_38 : decode cX4_go 38 = .ok (.getfield 26, 3) := by decide +kernel
theorem dX4_go_41 : decode cX4_go 41 = .ok (.iload_n 1, 1) := by decide +kernel
theorem dX4_go_42 : decode cX4_go 42 = .ok (.ldc 147, 2) := by decide +kernel
theorem dX4_go_44 : decode cX4_go 44 = .ok (.aload_n 0, 1) := by decide +kernel
theorem dX4_go_45 : decode cX4_go 45 = .ok (.getfield 48, 3) := by decide +kernel
theorem dX4_go_48 : decode cX4_go 48 = .ok (.aload_n 0, 1) := by decide +kernel
theorem dX4_go_49 : decode cX4_go 49 = .ok (.getfield 19, 3) := by decide +kernel
theorem dX4_go_52 : decode cX4_go 52 = .ok (.invokevirtual 148, 3) := by decide +kernel
theorem dX4_go_55 : decode cX4_go 55 = .ok (.ireturn, 1) := by decide +kernel
set_option maxRecDepth 20000 in
theorem ggX4_help_X4_areTwo : GoodIn wsX4_help wsX4_areTwo := goodIn_r _ [7, 8, 9, 10, 6, 11, 12, 13, 14, 15, 16, 23, 24, 25, 26, 27, 28, 29, 30, 31, 32, 44, 45, 46, 47, 48, 49, 50, 51, 52] (by decide +kernel) (by decide +kernel)
set_option maxRecDepth 20000 in
theorem gX4_help_X4_areTwo : GoodIn wsX4_help (wsV RX4 152 RX4 yX4_areTwo wsX4_areTwo) := goodIn_app (goodIn_of _ (by decide +kernel)) ggX4_help_X4_areTwo
set_option maxRecDepth 20000 in
theorem ggX4_help_X3_whomHelps : GoodIn wsX4_help wsX3_whomHelps := goodIn_r _ [21, 22, 33, 34, 35, 36, 37, 38, 39, 40, 41, 42, 43] (by decide +kernel) (by decide +kernel)
set_option maxRecDepth 20000 in
theorem gX4_help_X3_whomHelps : GoodIn wsX4_help (wsV RX4 122 RX3 yX3_whomHelps wsX3_whomHelps) := goodIn_app (goodIn_of _ (by decide +kernel)) ggX4_help_X3_whomHelps
theorem dX4_help_0 : decode cX4_help 0 = .ok (.aload_n 0, 1) := by decide +kernel
theorem dX4_help_1 : decode cX4_help 1 = .ok (.iload_n 1, 1) := by decide +kernel
theorem dX4_help_2 : decode cX4_help 2 = .ok (.iload_n 2, 1) := by decide +kernel
theorem dX4_help_3 : decode cX4_help 3 = .ok (.invokevirtual 152, 3) := by decide +kernel
theorem dX4_help_6 : decode cX4_help 6 = .ok (.ifCond .ne 5, 3) := by decide +kernel
theorem dX4_help_9 : decode cX4_help 9 = .ok (.iconst (-1), 1) := by decide +kernel
theorem dX4_help_10 : decode cX4_help 10 = .ok (.ireturn, 1) := by decide +kernel
theorem dX4_help_11 : decode cX4_help 11 = .ok (.aload_n 0, 1) := by decide +kernel
theorem dX4_help_12 : decode cX4_help 12 = .ok (.getfield 26, 3) := by decide +kernel
theorem dX4_help_15 : decode cX4_help 15 = .ok (.iload_n 1, 1) := by decide +kernel
theorem dX4_help_16 : decode cX4_help 16 = .ok (.invokevirtual 122, 3) := by decide +kernel
theorem dX4_help_19 : decode cX4_help 19 = .ok (.bipush (-9), 2) := by decide +kernel
theorem dX4_help_21 : decode cX4_help 21 = .ok (.if_icmp .ne 17, 3) := by decide +kernel
theorem dX4_help_24 : decode cX4_help 24 = .ok (.aload_n 0, 1) := by decide +kernel
theorem dX4_help_25 : decode cX4_help 25 = .ok (.getfield 26, 3) := by decide +kernel
theorem dX4_help_28 : decode cX4_help 28 = .ok (.getfield 156, 3) := by decide +kernel
theorem dX4_help_31 : decode cX4_help 31 = .ok (.iload_n 2, 1) := by decide +kernel
theorem dX4_help_32 : decode cX4_help 32 = .ok (.iaload, 1) := by decide +kernel
theorem dX4_help_33 : decode cX4_help 33 = .ok (.bipush (-9), 2) := by decide +kernel
theorem dX4_help_35 : decode cX4_help 35 = .ok (.if_icmp .eq 6, 3) := by decide +kernel
theorem dX4_help_38 : decode cX4_help 38 = .ok (.bipush (-2), 2) := by decide +kernel
theorem dX4_help_40 : decode cX4_help 40 = .ok (.ireturn, 1) := by decide +kernel
theorem dX4_help_41 : decode cX4_help 41 = .ok (.aload_n 0, 1) := by decide +kernel
theorem dX4_help_42 : decode cX4_help 42 = .ok (.getfield 26, 3) := by decide +kernel
theorem dX4_help_45 : decode cX4_help 45 = .ok (.getfield 156, 3) := by decide +kernel
theorem dX4_help_48 : decode cX4_help 48 = .ok (.iload_n 2, 1) := by decide +kernel
theorem dX4_help_49 : decode cX4_help 49 = .ok (.iload_n 1, 1) := by decide +kernel
theorem dX4_help_50 : decode cX4_help 50 = .ok (.iastore, 1) := by decide +kernel
theorem dX4_help_51 : decode cX4_help 51 = .ok (.iconst 1, 1) := by decide +kernel
theorem dX4_help_52 : decode cX4_help 52 = .ok (.ireturn, 1) := by decide +kernel
set_option maxRecDepth 20000 in
theorem ggX4_ill_X4_isPerson : GoodIn wsX4_ill wsX4_isPerson := goodIn_r _ [6, 7, 8, 9, 10, 5, 11, 22, 23, 24, 25, 26, 27, 28, 29, 30, 31, 32, 33, 34, 35, 36, 37, 38, 39, 40] (by decide +kernel) (by decide +kernel)
set_option maxRecDepth 20000 in
theorem gX4_ill_X4_isPerson : GoodIn wsX4_ill (wsV RX4 102 RX4 yX4_isPerson wsX4_isPerson) := goodIn_app (goodIn_of _ (by decide +kernel)) ggX4_ill_X4_isPerson
set_option maxRecDepth 20000 in
theorem ggX4_ill_X3_isIll : GoodIn wsX4_ill wsX3_isIll := goodIn_r _ [16, 17, 41, 42, 43, 44, 45, 46, 47, 48, 49, 50, 51] (by decide +kernel) (by decide +kernel)
set_option maxRecDepth 20000 in
theorem gX4_ill_X3_isIll : GoodIn wsX4_ill (wsV RX4 119 RX3 yX3_isIll wsX3_isIll) := goodIn_app (goodIn_of _ (by decide +kernel)) ggX4_ill_X3_isIll
set_option maxRecDepth 20000 in
theorem ggX4_ill_X3_fallIll : GoodIn wsX4_ill wsX3_fallIll := goodIn_r _ [21, 17, 41, 42, 43, 44, 45, 46, 47, 48, 49, 50, 51] (by decide +kernel) (by decide +kernel)
set_option maxRecDepth 20000 in
theorem gX4_ill_X3_fallIll : GoodIn wsX4_ill (wsV RX4 159 RX3 yX3_fallIll wsX3_fallIll) := goodIn_app (goodIn_of _ (by decide +kernel)) ggX4_ill_X3_fallIll
theorem dX4_ill_0 : decode cX4_ill 0 = .ok (.aload_n 0, 1) := by decide +kernel
theorem dX4_ill_1 : decode cX4_ill 1 = .ok (.iload_n 1, 1) := by decide +kernel
theorem dX4_ill_2 : decode cX4_ill 2 = .ok (.invokevirtual 102, 3) := by decide +kernel
theorem dX4_ill_5 : decode cX4_ill 5 = .ok (.ifCond .ne 5, 3) := by decide +kernel
theorem dX4_ill_8 : decode cX4_ill 8 = .ok (.iconst (-1), 1) := by decide +kernel
theorem dX4_ill_9 : decode cX4_ill 9 = .ok (.ireturn, 1) := by decide +kernel
theorem dX4_ill_10 : decode cX4_ill 10 = .ok (.aload_n 0, 1) := by decide +kernel
theorem dX4_ill_11 : decode cX4_ill 11 = .ok (.getfield 26, 3) := by decide +kernel
theorem dX4_ill_14 : decode cX4_ill 14 = .ok (.iload_n 1, 1) := by decide +kernel
theorem dX4_ill_15 : decode cX4_ill 15 = .ok (.invokevirtual 119, 3) := by decide +kernel
theorem dX4_ill_18 : decode cX4_ill 18 = .ok (.ifCond .eq 5, 3) := by decide +kernel
theorem dX4_ill_21 : decode cX4_ill 21 = .ok (.iconst 0, 1) := by decide +kernel
theorem dX4_ill_22 : decode cX4_ill 22 = .ok (.ireturn, 1) := by decide +kernel
theorem dX4_ill_23 : decode cX4_ill 23 = .ok (.aload_n 0, 1) := by decide +kernel
theorem dX4_ill_24 : decode cX4_ill 24 = .ok (.getfield 26, 3) := by decide +kernel
theorem dX4_ill_27 : decode cX4_ill 27 = .ok (.iload_n 1, 1) := by decide +kernel
theorem dX4_ill_28 : decode cX4_ill 28 = .ok (.invokevirtual 159, 3) := by decide +kernel
theorem dX4_ill_31 : decode cX4_ill 31 = .ok (.iconst 1, 1) := by decide +kernel
theorem dX4_ill_32 : decode cX4_ill 32 = .ok (.ireturn, 1) := by decide +kernel
set_option maxRecDepth 20000 in
theorem ggX4_oil_X4_isTrade : GoodIn wsX4_oil wsX4_isTrade := goodIn_r _ [9, 1, 2, 10, 11, 8, 12, 22, 23, 24, 25, 26, 27, 28, 29, 30, 31, 32, 33, 34, 35, 36, 37, 38, 39, 40] (by decide +kernel) (by decide +kernel)
set_option maxRecDepth 20000 in
theorem gX4_oil_X4_isTrade : GoodIn wsX4_oil (wsV RX4 86 RX4 yX4_isTrade wsX4_isTrade) := goodIn_app (goodIn_of _ (by decide +kernel)) ggX4_oil_X4_isTrade
set_option maxRecDepth 20000 in
theorem ggX4_oil_X1_behind : GoodIn wsX4_oil wsX1_behind := goodIn_r _ [17, 18, 32, 33, 34, 35, 36, 37, 38, 39, 40] (by decide +kernel) (by decide +kernel)
set_option maxRecDepth 20000 in
theorem gX4_oil_X1_behind : GoodIn wsX4_oil (wsV RX4 163 RX1 yX1_behind wsX1_behind) := goodIn_app (goodIn_of _ (by decide +kernel)) ggX4_oil_X1_behind
set_option maxRecDepth 20000 in
theorem ggX4_oil_X4_swap : GoodIn wsX4_oil wsX4_swap := goodIn_r _ [21] (by decide +kernel) (by decide +kernel)
set_option maxRecDepth 20000 in
theorem gX4_oil_X4_swap : GoodIn wsX4_oil (va_wsS RX4 166 yX4_swap wsX4_swap) := goodIn_app (goodIn_of _ (by decide +kernel)) ggX4_oil_X4_swap
theorem dX4_oil_0 : decode cX4_oil 0 = .ok (.aload_n 0, 1) := by decide +kernel
theorem dX4_oil_1 : decode cX4_oil 1 = .ok (.iload_n 1, 1) := by decide +kernel
theorem dX4_oil_2 : decode cX4_oil 2 = .ok (.invokevirtual 86, 3) := by decide +kernel
theorem dX4_oil_5 : decode cX4_oil 5 = .ok (.ifCond .ne 5, 3) := by decide +kernel
theorem dX4_oil_8 : decode cX4_oil 8 = .ok (.iconst (-1), 1) := by decide +kernel
theorem dX4_oil_9 : decode cX4_oil 9 = .ok (.ireturn, 1) := by decide +kernel
theorem dX4_oil_10 : decode cX4_oil 10 = .ok (.aload_n 0, 1) := by decide +kernel
theorem dX4_oil_11 : decode cX4_oil 11 = .ok (.getfield 48, 3) := by decide +kernel
theorem dX4_oil_14 : decode cX4_oil 14 = .ok (.getfield 144, 3) := by decide +kernel
theorem dX4_oil_17 : decode cX4_oil 17 = .ok (.iconst 1, 1) := by decide +kernel
theorem dX4_oil_18 : decode cX4_oil 18 = .ok (.if_icmp .ne 6, 3) := by decide +kernel
theorem dX4_oil_21 : decode cX4_oil 21 = .ok (.bipush (-2), 2) := by decide +kernel
theorem dX4_oil_23 : decode cX4_oil 23 = .ok (.ireturn, 1) := by decide +kernel
theorem dX4_oil_24 : decode cX4_oil 24 = .ok (.aload_n 0, 1) := by decide +kernel
theorem dX4_oil_25 : decode cX4_oil 25 = .ok (.getfield 26, 3) := by decide +kernel
theorem dX4_oil_28 : decode cX4_oil 28 = .ok (.getfield 129, 3) := by decide +kernel
theorem dX4_oil_31 : decode cX4_oil 31 = .ok (.iload_n 1, 1) := by decide +kernel
theorem dX4_oil_32 : decode cX4_oil 32 = .ok (.aload_n 0, 1) := by decide +kernel
theorem dX4_oil_33 : decode cX4_oil 33 = .ok (.getfield 48, 3) := by decide +kernel
theorem dX4_oil_36 : decode cX4_oil 36 = .ok (.iload_n 1, 1) := by decide +kernel
theorem dX4_oil_37 : decode cX4_oil 37 = .ok (.invokevirtual 163, 3) := by decide +kernel
theorem dX4_oil_40 : decode cX4_oil 40 = .ok (.invokestatic 166, 3) := by decide +kernel
theorem dX4_oil_43 : decode cX4_oil 43 = .ok (.aload_n 0, 1) := by decide +kernel
theorem dX4_oil_44 : decode cX4_oil 44 = .ok (.getfield 26, 3) := by decide +kernel
theorem dX4_oil_47 : decode cX4_oil 47 = .ok (.getfield 129, 3) := by decide +kernel
theorem dX4_oil_50 : decode cX4_oil 50 = .ok (.iload_n 1, 1) := by decide +kernel
theorem dX4_oil_51 : decode cX4_oil 51 = .ok (.iaload, 1) := by decide +kernel
theorem dX4_oil_52 : decode cX4_oil 52 = .ok (.ireturn, 1) := by decide +kernel
set_option maxRecDepth 20000 in
theorem ggX4_favours_X4_areTwo : GoodIn wsX4_favours wsX4_areTwo := goodIn_r _ [7, 8, 9, 10, 6, 11, 12, 13, 14, 15, 16, 17, 18, 19, 20, 21, 22, 23, 24, 25, 26, 38, 39, 40, 41, 42, 43, 44, 45, 46] (by decide +kernel) (by decide +kernel)
set_option maxRecDepth 20000 in
theorem gX4_favours_X4_areTwo : GoodIn wsX4_favours (wsV RX4 152 RX4 yX4_areTwo wsX4_areTwo) := goodIn_app (goodIn_of _ (by decide +kernel)) ggX4_favours_X4_areTwo
theorem dX4_favours_0 : decode cX4_favours 0 = .ok (.aload_n 0, 1) := by decide +kernel
theorem dX4_favours_1 : decode cX4_favours 1 = .ok (.iload_n 1, 1) := by decide +kernel
theorem dX4_favours_2 : decode cX4_favours 2 = .ok (.iload_n 2, 1) := by decide +kernel
theorem dX4_favours_3 : decode cX4_favours 3 = .ok (.invokevirtual 152, 3) := by decide +kernel
theorem dX4_favours_6 : decode cX4_favours 6 = .ok (.ifCond .ne 5, 3) := by decide +kernel
theorem dX4_favours_9 : decode cX4_favours 9 = .ok (.iconst (-1), 1) := by decide +kernel
theorem dX4_favours_10 : decode cX4_favours 10 = .ok (.ireturn, 1) := by decide +kernel
theorem dX4_favours_11 : decode cX4_favours 11 = .ok (.aload_n 0, 1) := by decide +kernel
theorem dX4_favours_12 : decode cX4_favours 12 = .ok (.getfield 26, 3) := by decide +kernel
theorem dX4_favours_15 : decode cX4_favours 15 = .ok (.getfield 170, 3) := by decide +kernel
theorem dX4_favours_18 : decode cX4_favours 18 = .ok (.iload_n 1, 1) := by decide +kernel
theorem dX4_favours_19 : decode cX4_favours 19 = .ok (.bipush 6, 2) := by decide +kernel
theorem dX4_favours_21 : decode cX4_favours 21 = .ok (.imul, 1) := by decide +kernel
theorem dX4_favours_22 : decode cX4_favours 22 = .ok (.iload_n 2, 1) := by decide +kernel
theorem dX4_favours_23 : decode cX4_favours 23 = .ok (.iadd, 1) := by decide +kernel
theorem dX4_favours_24 : decode cX4_favours 24 = .ok (.iaload, 1) := by decide +kernel
theorem dX4_favours_25 : decode cX4_favours 25 = .ok (.ireturn, 1) := by decide +kernel
set_option maxRecDepth 20000 in
theorem ggX4_now_X4_sum : GoodIn wsX4_now wsX4_sum := goodIn_r _ [11] (by decide +kernel) (by decide +kernel)
set_option maxRecDepth 20000 in
theorem gX4_now_X4_sum : GoodIn wsX4_now (va_wsS RX4 173 yX4_sum wsX4_sum) := goodIn_app (goodIn_of _ (by decide +kernel)) ggX4_now_X4_sum
theorem dX4_now_0 : decode cX4_now 0 = .ok (.iload_n 1, 1) := by decide +kernel
theorem dX4_now_1 : decode cX4_now 1 = .ok (.tableswitch 83 0 3 #[31, 39, 57, 65], 31) := by decide +kernel
theorem dX4_now_32 : decode cX4_now 32 = .ok (.aload_n 0, 1) := by decide +kernel
theorem dX4_now_33 : decode cX4_now 33 = .ok (.getfield 26, 3) := by decide +kernel
theorem dX4_now_36 : decode cX4_now 36 = .ok (.getfield 141, 3) := by decide +kernel
theorem dX4_now_39 : decode cX4_now 39 = .ok (.ireturn, 1) := by decide +kernel
theorem dX4_now_40 : decode cX4_now 40 = .ok (.aload_n 0, 1) := by decide +kernel
theorem dX4_now_41 : decode cX4_now 41 = .ok (.getfield 26, 3) := by decide +kernel
theorem dX4_now_44 : decode cX4_now 44 = .ok (.getfield 99, 3) := by decide +kernel
theorem dX4_now_47 : decode cX4_now 47 = .ok (.aload_n 0, 1) := by decide +kernel
theorem dX4_now_48 : decode cX4_now 48 = .ok (.getfield 48, 3) := by decide +kernel
theorem dX4_now_51 : decode cX4_now 51 = .ok (.getfield 144, 3) := by decide +kernel
theorem dX4_now_54 : decode cX4_now 54 = .ok (.invokestatic 173, 3) := by decide +kernel
theorem dX4_now_57 : decode cX4_now 57 = .ok (.ireturn, 1) := by decide +kernel
theorem dX4_now_58 : decode cX4_now 58 = .ok (.aload_n 0, 1) := by decide +kernel
theorem dX4_now_59 : decode cX4_now 59 = .ok (.getfield 26, 3) := by decide +kernel
theorem dX4_now_62 : decode cX4_now 62 = .ok (.getfield 177, 3) := by decide +kernel
theorem dX4_now_65 : decode cX4_now 65 = .ok (.ireturn, 1) := by decide +kernel
theorem dX4_now_66 : decode cX4_now 66 = .ok (.aload_n 0, 1) := by decide +kernel
theorem dX4_now_67 : decode cX4_now 67 = .ok (.getfield 26, 3) := by decide +kernel
theorem dX4_now_70 : decode cX4_now 70 = .ok (.getfield 96, 3) := by decide +kernel
theorem dX4_now_73 : decode cX4_now 73 = .ok (.aload_n 0, 1) := by decide +kernel
theorem dX4_now_74 : decode cX4_now 74 = .ok (.getfield 48, 3) := by decide +kernel
theorem dX4_now_77 : decode cX4_now 77 = .ok (.getfield 144, 3) := by decide +kernel
theorem dX4_now_80 : decode cX4_now 80 = .ok (.invokestatic 173, 3) := by decide +kernel
theorem dX4_now_83 : decode cX4_now 83 = .ok (.ireturn, 1) := by decide +kernel
theorem dX4_now_84 : decode cX4_now 84 = .ok (.iconst (-1), 1) := by decide +kernel
theorem dX4_now_85 : decode cX4_now 85 = .ok (.ireturn, 1) := by decide +kernel
set_option maxRecDepth 20000 in
theorem ggX4_anew_X3_startAs : GoodIn wsX4_anew wsX3_startAs := goodIn_r _ [8, 9, 10, 11, 12, 13, 14, 15, 16, 17, 18, 19, 20, 21, 22, 23, 24, 25, 36, 37, 38, 39, 40, 41, 42, 43, 44, 45, 46, 47, 48, 49, 50, 51, 52, 53, 54, 55] (by decide +kernel) (by decide +kernel)
set_option maxRecDepth 20000 in
theorem gX4_anew_X3_startAs : GoodIn wsX4_anew (wsV RX4 59 RX3 yX3_startAs wsX3_startAs) := goodIn_app (goodIn_of _ (by decide +kernel)) ggX4_anew_X3_startAs
theorem dX4_anew_0 : decode cX4_anew 0 = .ok (.aload_n 0, 1) := by decide +kernel
theorem dX4_anew_1 : decode cX4_anew 1 = .ok (.getfield 26, 3) := by decide +kernel
theorem dX4_anew_4 : decode cX4_anew 4 = .ok (.getfield 141, 3) := by decide +kernel
theorem dX4_anew_7 : decode cX4_anew 7 = .ok (.istore_n 1, 1) := by decide +kernel
theorem dX4_anew_8 : decode cX4_anew 8 = .ok (.aload_n 0, 1) := by decide +kernel
theorem dX4_anew_9 : decode cX4_anew 9 = .ok (.getfield 26, 3) := by decide +kernel
theorem dX4_anew_12 : decode cX4_anew 12 = .ok (.aload_n 0, 1) := by decide +kernel
theorem dX4_anew_13 : decode cX4_anew 13 = .ok (.getfield 48, 3) := by decide +kernel
theorem dX4_anew_16 : decode cX4_anew 16 = .ok (.invokevirtual 59, 3) := by decide +kernel
theorem dX4_anew_19 : decode cX4_anew 19 = .ok (.iload_n 1, 1) := by decide +kernel
theorem dX4_anew_20 : decode cX4_anew 20 = .ok (.ireturn, 1) := by decide +kernel
set_option maxRecDepth 20000 in
theorem ggX4_lacking_X4_isForetold : GoodIn wsX4_lacking wsX4_isForetold := goodIn_r _ [11, 12, 13, 10, 14] (by decide +kernel) (by decide +kernel)
set_option maxRecDepth 20000 in
theorem gX4_lacking_X4_isForetold : GoodIn wsX4_lacking (va_wsS RX4 180 yX4_isForetold wsX4_isForetold) := goodIn_app (goodIn_of _ (by decide +kernel)) ggX4_lacking_X4_isForetold
set_option maxRecDepth 20000 in
theorem ggX4_lacking_X3_becomes : GoodIn wsX4_lacking wsX3_becomes := goodIn_r _ [19, 20, 21, 22, 23, 24, 25, 26, 27, 28, 29, 30, 31, 32, 33, 125, 126, 127, 128, 129, 130, 131, 132, 133, 134, 135] (by decide +kernel) (by decide +kernel)
set_option maxRecDepth 20000 in
theorem gX4_lacking_X3_becomes : GoodIn wsX4_lacking (wsV RX4 183 RX3 yX3_becomes wsX3_becomes) := goodIn_app (goodIn_of _ (by decide +kernel)) ggX4_lacking_X3_becomes
set_option maxRecDepth 20000 in
theorem ggX4_lacking_X3_goRounds : GoodIn wsX4_lacking wsX3_goRounds := goodIn_r _ [37, 20, 38, 39, 40, 41, 42, 43, 44, 18, 45, 46, 47, 21, 48, 22, 49, 50, 51, 52, 53, 54, 55, 56, 57, 58, 28, 59, 60, 33, 61, 62, 63, 64, 65, 66, 67, 68, 69, 70, 29, 71, 72, 73, 74, 75, 76, 77, 78, 79, 80, 81, 82, 83, 23, 31, 84, 85, 86, 87, 10, 88, 89, 90, 91, 92, 93, 30, 94, 95, 96, 97, 98, 99, 100, 101, 102, 103, 104, 105, 32, 125, 126, 127, 128, 129, 130, 131, 132, 133, 134, 135, 136, 137, 138, 116, 117, 118, 119, 120, 121, 122, 123, 124] (by decide +kernel) (by decide +kernel)
set_option maxRecDepth 20000 in
theorem gX4_lacking_X3_goRounds : GoodIn wsX4_lacking (wsV RX4 148 RX3 yX3_goRounds wsX3_goRounds) := goodIn_app (goodIn_of _ (by decide +kernel)) ggX4_lacking_X3_goRounds
theorem dX4_lacking_0 : decode cX4_lacking 0 = .ok (.iload_n 1, 1) := by decide +kernel
theorem dX4_lacking_1 : decode cX4_lacking 1 = .ok (.iload_n 2, 1) := by decide +kernel
theorem dX4_lacking_2 : decode cX4_lacking 2 = .ok (.invokestatic 180, 3) := by decide +kernel
theorem dX4_lacking_5 : decode cX4_lacking 5 = .ok (.ifCond .ne 5, 3) := by decide +kernel
theorem dX4_lacking_8 : decode cX4_lacking 8 = .ok (.iconst (-1), 1) := by decide +kernel
theorem dX4_lacking_9 : decode cX4_lacking 9 = .ok (.ireturn, 1) := by decide +kernel
theorem dX4_lacking_10 : decode cX4_lacking 10 = .ok (.aload_n 0, 1) := by decide +kernel
theorem dX4_lacking_11 : decode cX4_lacking 11 = .ok (.getfield 48, 3) := by decide +kernel
theorem dX4_lacking_14 : decode cX4_lacking 14 = .ok (.getfield 144, 3) := by decide +kernel
theorem dX4_lacking_17 : decode cX4_lacking 17 = .ok (.ifCond .ne 6, 3) := by decide +kernel
theorem dX4_lacking_20 : decode cX4_lacking 20 = .ok (.bipush (-2), 2) := by decide +kernel
theorem dX4_lacking_22 : decode cX4_lacking 22 = .ok (.ireturn, 1) := by decide +kernel
theorem dX4_lacking_23 : decode cX4_lacking 23 = .ok (.aload_n 0, 1) := by decide +kernel
theorem dX4_lacking_24 : decode cX4_lacking 24 = .ok (.getfield 30, 3) := by decide +kernel
theorem dX4_lacking_27 : decode cX4_lacking 27 = .ok (.aload_n 0, 1) := by decide +kernel
theorem dX4_lacking_28 : decode cX4_lacking 28 = .ok (.getfield 26, 3) := by decide +kernel
theorem dX4_lacking_31 : decode cX4_lacking 31 = .ok (.invokevirtual 183, 3) := by decide +kernel
theorem dX4_lacking_34 : decode cX4_lacking 34 = .ok (.aload_n 0, 1) := by decide +kernel
theorem dX4_lacking_35 : decode cX4_lacking 35 = .ok (.getfield 30, 3) := by decide +kernel
theorem dX4_lacking_38 : decode cX4_lacking 38 = .ok (.iload_n 1, 1) := by decide +kernel
theorem dX4_lacking_39 : decode cX4_lacking 39 = .ok (.ldc 147, 2) := by decide +kernel
theorem dX4_lacking_41 : decode cX4_lacking 41 = .ok (.aload_n 0, 1) := by decide +kernel
theorem dX4_lacking_42 : decode cX4_lacking 42 = .ok (.getfield 48, 3) := by decide +kernel
theorem dX4_lacking_45 : decode cX4_lacking 45 = .ok (.aload_n 0, 1) := by decide +kernel
theorem dX4_lacking_46 : decode cX4_lacking 46 = .ok (.getfield 19, 3) := by decide +kernel
theorem dX4_lacking_49 : decode cX4_lacking 49 = .ok (.invokevirtual 148, 3) := by decide +kernel
theorem dX4_lacking_52 : decode cX4_lacking 52 = .ok (.istore_n 3, 1) := by decide +kernel
theorem dX4_lacking_53 : decode cX4_lacking 53 = .ok (.iload_n 2, 1) := by decide +kernel
theorem dX4_lacking_54 : decode cX4_lacking 54 = .ok (.ifCond .ne 7, 3) := by decide +kernel
theorem dX4_lacking_57 : decode cX4_lacking 57 = .ok (.iload_n 3, 1) := by decide +kernel
theorem dX4_lacking_58 : decode cX4_lacking 58 = .ok (.goto 18, 3) := by decide +kernel
theorem dX4_lacking_61 : decode cX4_lacking 61 = .ok (.aload_n 0, 1) := by decide +kernel
theorem dX4_lacking_62 : decode cX4_lacking 62 = .ok (.getfield 30, 3) := by decide +kernel
theorem dX4_lacking_65 : decode cX4_lacking 65 = .ok (.getfield 177, 3) := by decide +kernel
theorem dX4_lacking_68 : decode cX4_lacking 68 = .ok (.aload_n 0, 1) := by decide +kernel
theorem dX4_lacking_69 : decode cX4_lacking 69 = .ok (.getfield 26, 3) := by decide +kernel
theorem dX4_lacking_72 : decode cX4_lacking 72 = .ok (.getfield 177, 3) := by decide +kernel
theorem dX4_lacking_75 : decode cX4_lacking 75 = .ok (.isub, 1) := by decide +kernel
theorem dX4_lacking_76 : decode cX4_lacking 76 = .ok (.ireturn, 1) := by decide +kernel
set_option maxRecDepth 20000 in
theorem ggX4_best_X4_isForetold : GoodIn wsX4_best wsX4_isForetold := goodIn_r _ [8, 9, 10, 7, 11] (by decide +kernel) (by decide +kernel)
set_option maxRecDepth 20000 in
theorem gX4_best_X4_isForetold : GoodIn wsX4_best (va_wsS RX4 180 yX4_isForetold wsX4_isForetold) := goodIn_app (goodIn_of _ (by decide +kernel)) ggX4_best_X4_isForetold
set_option maxRecDepth 20000 in
theorem ggX4_best_X4_lackingByOrder : GoodIn wsX4_best wsX4_lackingByOrder := goodIn_r _ [15, 16, 17, 3, 18, 19, 20, 21, 22, 1, 23, 24, 25, 26, 27, 28, 29, 30, 31, 32, 33, 34, 35, 36, 37, 38, 39, 40, 41, 42, 43, 44, 45, 46, 47, 48, 49, 50, 51, 52, 53, 54, 55, 56, 57, 58, 59, 60, 61, 62, 63, 64, 65, 66, 67, 68, 69, 70, 71, 72, 73, 74, 75, 76, 77, 78, 79, 80, 81, 82, 83, 84, 85, 86, 87, 88, 89, 90, 91, 92, 93, 7, 94, 95, 96, 97, 98, 99, 100, 101, 102, 103, 104, 105, 106, 107, 108, 109, 110, 111, 123, 124, 125, 126, 127, 128, 129, 130, 131, 132, 142, 143, 144, 145, 146, 147, 148, 149, 150, 151, 152, 153, 154, 155, 133, 134, 135, 136, 137, 138, 139, 140, 141] (by decide +kernel) (by decide +kernel)
set_option maxRecDepth 20000 in
theorem gX4_best_X4_lackingByOrder : GoodIn wsX4_best (wsV RX4 187 RX4 yX4_lackingByOrder wsX4_lackingByOrder) := goodIn_app (goodIn_of _ (by decide +kernel)) ggX4_best_X4_lackingByOrder
set_option maxRecDepth 20000 in
theorem ggX4_best_X4_orderAsFigures : GoodIn wsX4_best wsX4_orderAsFigures := goodIn_r _ [115, 1, 2, 3, 123, 124, 125, 126, 127, 128, 129, 130, 131, 132, 133, 134, 135, 136, 137, 138, 139, 140, 141] (by decide +kernel) (by decide +kernel)
set_option maxRecDepth 20000 in
theorem gX4_best_X4_orderAsFigures : GoodIn wsX4_best (wsV RX4 190 RX4 yX4_orderAsFigures wsX4_orderAsFigures) := goodIn_app (goodIn_of _ (by decide +kernel)) ggX4_best_X4_orderAsFigures
set_option maxRecDepth 20000 in
theorem ggX4_best_X4_nextOrder : GoodIn wsX4_best wsX4_nextOrder := goodIn_r _ [119, 1, 2, 3, 120, 121, 7, 122, 123, 124, 125, 126, 127, 128, 129, 130, 131, 132, 133, 134, 135, 136, 137, 138, 139, 140, 141] (by decide +kernel) (by decide +kernel)
set_option maxRecDepth 20000 in
theorem gX4_best_X4_nextOrder : GoodIn wsX4_best (wsV RX4 193 RX4 yX4_nextOrder wsX4_nextOrder) := goodIn_app (goodIn_of _ (by decide +kernel)) ggX4_best_X4_nextOrder
theorem dX4_best_0 : decode cX4_best 0 = .ok (.iload_n 1, 1) := by decide +kernel
theorem dX4_best_1 : decode cX4_best 1 = .ok (.iload_n 2, 1) := by decide +kernel
theorem dX4_best_2 : decode cX4_best 2 = .ok (.invokestatic 180, 3) := by decide +kernel
theorem dX4_best_5 : decode cX4_best 5 = .ok (.ifCond .ne 5, 3) := by decide +kernel
theorem dX4_best_8 : decode cX4_best 8 = .ok (.iconst (-1), 1) := by decide +kernel
theorem dX4_best_9 : decode cX4_best 9 = .ok (.ireturn, 1) := by decide +kernel
theorem dX4_best_10 : decode cX4_best 10 = .ok (.aload_n 0, 1) := by decide +kernel
theorem dX4_best_11 : decode cX4_best 11 = .ok (.getfield 48, 3) := by decide +kernel
theorem dX4_best_14 : decode cX4_best 14 = .ok (.getfield 144, 3) := by decide +kernel
theorem dX4_best_17 : decode cX4_best 17 = .ok (.ifCond .ne 6, 3) := by decide +kernel
theorem dX4_best_20 : decode cX4_best 20 = .ok (.bipush (-2), 2) := by decide +kernel
theorem dX4_best_22 : decode cX4_best 22 = .ok (.ireturn, 1) := by decide +kernel
theorem dX4_best_23 : decode cX4_best 23 = .ok (.iconst 0, 1) := by decide +kernel
theorem dX4_best_24 : decode cX4_best 24 = .ok (.istore_n 3, 1) := by decide +kernel
theorem dX4_best_25 : decode cX4_best 25 = .ok (.iload_n 3, 1) := by decide +kernel
theorem dX4_best_26 : decode cX4_best 26 = .ok (.bipush 6, 2) := by decide +kernel
theorem dX4_best_28 : decode cX4_best 28 = .ok (.if_icmp .ge 16, 3) := by decide +kernel
theorem dX4_best_31 : decode cX4_best 31 = .ok (.aload_n 0, 1) := by decide +kernel
theorem dX4_best_32 : decode cX4_best 32 = .ok (.getfield 41, 3) := by decide +kernel
theorem dX4_best_35 : decode cX4_best 35 = .ok (.iload_n 3, 1) := by decide +kernel
theorem dX4_best_36 : decode cX4_best 36 = .ok (.iload_n 3, 1) := by decide +kernel
theorem dX4_best_37 : decode cX4_best 37 = .ok (.iastore, 1) := by decide +kernel
theorem dX4_best_38 : decode cX4_best 38 = .ok (.iinc 3 1, 3) := by decide +kernel
theorem dX4_best_41 : decode cX4_best 41 = .ok (.goto (-16), 3) := by decide +kernel
theorem dX4_best_44 : decode cX4_best 44 = .ok (.ldc 147, 2) := by decide +kernel
theorem dX4_best_46 : decode cX4_best 46 = .ok (.istore_n 3, 1) := by decide +kernel
theorem dX4_best_47 : decode cX4_best 47 = .ok (.iconst 0, 1) := by decide +kernel
theorem dX4_best_48 : decode cX4_best 48 = .ok (.istore 4, 2) := by decide +kernel
theorem dX4_best_50 : decode cX4_best 50 = .ok (.iconst 1, 1) := by decide +kernel
theorem dX4_best_51 : decode cX4_best 51 = .ok (.istore 5, 2) := by decide +kernel
theorem dX4_best_53 : decode cX4_best 53 = .ok (.iconst 0, 1) := by decide +kernel
theorem dX4_best_54 : decode cX4_best 54 = .ok (.istore 6, 2) := by decide +kernel
theorem dX4_best_56 : decode cX4_best 56 = .ok (.iload 6, 2) := by decide +kernel
theorem dX4_best_58 : decode cX4_best 58 = .ok (.sipush 720, 3) := by decide +kernel
theorem dX4_best_61 : decode cX4_best 61 = .ok (.if_icmp .ge 43, 3) := by decide +kernel
theorem dX4_best_64 : decode cX4_best 64 = .ok (.iload 5, 2) := by decide +kernel
theorem dX4_best_66 : decode cX4_best 66 = .ok (.ifCond .eq 38, 3) := by decide +kernel
theorem dX4_best_69 : decode cX4_best 69 = .ok (.aload_n 0, 1) := by decide +kernel
theorem dX4_best_70 : decode cX4_best 70 = .ok (.iload_n 1, 1) := by decide +kernel
theorem dX4_best_71 : decode cX4_best 71 = .ok (.iload_n 3, 1) := by decide +kernel
theorem dX4_best_72 : decode cX4_best 72 = .ok (.invokevirtual 187, 3) := by decide +kernel
theorem dX4_best_75 : decode cX4_best 75 = .ok (.istore 7, 2) := by decide +kernel
theorem dX4_best_77 : decode cX4_best 77 = .ok (.iload 7, 2) := by decide +kernel
theorem dX4_best_79 : decode cX4_best 79 = .ok (.iload_n 3, 1) := by decide +kernel
theorem dX4_best_80 : decode cX4_best 80 = .ok (.if_icmp .ge 12, 3) := by decide +kernel
theorem dX4_best_83 : decode cX4_best 83 = .ok (.iload 7, 2) := by decide +kernel
theorem dX4_best_85 : decode cX4_best 85 = .ok (.istore_n 3, 1) := by decide +kernel
theorem dX4_best_86 : decode cX4_best 86 = .ok (.aload_n 0, 1) := by decide +kernel
theorem dX4_best_87 : decode cX4_best 87 = .ok (.invokevirtual 190, 3) := by decide +kernel
theorem dX4_best_90 : decode cX4_best 90 = .ok (.istore 4, 2) := by decide +kernel
theorem dX4_best_92 : decode cX4_best 92 = .ok (.aload_n 0, 1) := by decide +kernel
theorem dX4_best_93 : decode cX4_best 93 = .ok (.invokevirtual 193, 3) := by decide +kernel
theorem dX4_best_96 : decode cX4_best 96 = .ok (.istore 5, 2) := by decide +kernel
theorem dX4_best_98 : decode cX4_best 98 = .ok (.iinc 6 1, 3) := by decide +kernel
theorem dX4_best_101 : decode cX4_best 101 = .ok (.goto (-45), 3) := by decide +kernel
theorem dX4_best_104 : decode cX4_best 104 = .ok (.iload_n 2, 1) := by decide +kernel
theorem dX4_best_105 : decode cX4_best 105 = .ok (.ifCond .ne 8, 3) := by decide +kernel
theorem dX4_best_108 : decode cX4_best 108 = .ok (.iload 4, 2) := by decide +kernel
theorem dX4_best_110 : decode cX4_best 110 = .ok (.goto 4, 3) := by decide +kernel
theorem dX4_best_113 : decode cX4_best 113 = .ok (.iload_n 3, 1) := by decide +kernel
theorem dX4_best_114 : decode cX4_best 114 = .ok (.ireturn, 1) := by decide +kernel
set_option maxRecDepth 20000 in
theorem ggX4_taught_X4_isForetold : GoodIn wsX4_taught wsX4_isForetold := goodIn_r _ [12, 13, 14, 11, 15] (by decide +kernel) (by decide +kernel)
set_option maxRecDepth 20000 in
theorem gX4_taught_X4_isForetold : GoodIn wsX4_taught (va_wsS RX4 180 yX4_isForetold wsX4_isForetold) := goodIn_app (goodIn_of _ (by decide +kernel)) ggX4_taught_X4_isForetold
set_option maxRecDepth 20000 in
theorem ggX4_taught_X3_becomes : GoodIn wsX4_taught wsX3_becomes := goodIn_r _ [20, 21, 22, 23, 24, 25, 26, 27, 28, 29, 30, 31, 32, 33, 34, 131, 132, 133, 134, 135, 136, 137, 138, 139, 140, 141] (by decide +kernel) (by decide +kernel)
set_option maxRecDepth 20000 in
theorem gX4_taught_X3_becomes : GoodIn wsX4_taught (wsV RX4 183 RX3 yX3_becomes wsX3_becomes) := goodIn_app (goodIn_of _ (by decide +kernel)) ggX4_taught_X3_becomes
set_option maxRecDepth 20000 in
theorem ggX4_taught_X3_goRounds : GoodIn wsX4_taught wsX3_goRounds := goodIn_r _ [38, 21, 39, 40, 41, 42, 43, 44, 45, 19, 46, 47, 48, 22, 49, 23, 50, 51, 52, 53, 54, 55, 56, 57, 58, 59, 29, 60, 61, 34, 62, 63, 64, 65, 66, 67, 68, 69, 70, 71, 30, 72, 73, 74, 75, 76, 77, 78, 79, 80, 81, 82, 83, 84, 24, 32, 85, 86, 87, 88, 11, 89, 90, 91, 92, 93, 94, 31, 95, 96, 97, 98, 99, 100, 101, 102, 103, 104, 105, 106, 33, 131, 132, 133, 134, 135, 136, 137, 138, 139, 140, 141, 142, 143, 144, 122, 123, 124, 125, 126, 127, 128, 129, 130] (by decide +kernel) (by decide +kernel)
set_option maxRecDepth 20000 in
theorem gX4_taught_X3_goRounds : GoodIn wsX4_taught (wsV RX4 148 RX3 yX3_goRounds wsX3_goRounds) := goodIn_app (goodIn_of _ (by decide +kernel)) ggX4_taught_X3_goRounds
set_option maxRecDepth 20000 in
theorem ggX4_taught_X4_cell : GoodIn wsX4_taught wsX4_cell := goodIn_r _ [89] (by decide +kernel) (by decide +kernel)
set_option maxRecDepth 20000 in
theorem gX4_taught_X4_cell : GoodIn wsX4_taught (va_wsS RX4 108 yX4_cell wsX4_cell) := goodIn_app (goodIn_of _ (by decide +kernel)) ggX4_taught_X4_cell
set_option maxRecDepth 20000 in
theorem ggX4_taught_X4_lackingIfTaught : GoodIn wsX4_taught wsX4_lackingIfTaught := goodIn_r _ [111, 3, 4, 8, 1, 6, 16, 17, 18, 19, 20, 21, 22, 23, 24, 25, 26, 27, 28, 29, 30, 31, 32, 33, 34, 107, 88, 11, 89, 35, 36, 37, 38, 39, 40, 41, 42, 43, 44, 45, 46, 47, 48, 49, 50, 51, 52, 53, 54, 55, 56, 57, 58, 59, 60, 61, 62, 63, 64, 65, 66, 67, 68, 69, 70, 71, 72, 73, 74, 75, 76, 77, 78, 79, 80, 81, 82, 83, 84, 85, 86, 87, 90, 91, 92, 93, 94, 95, 96, 97, 98, 99, 100, 101, 102, 103, 104, 105, 106, 112, 113, 114, 115, 116, 117, 118, 119, 120, 121, 131, 132, 133, 134, 135, 136, 137, 138, 139, 140, 141, 142, 143, 144, 122, 123, 124, 125, 126, 127, 128, 129, 130] (by decide +kernel) (by decide +kernel)
set_option maxRecDepth 20000 in
theorem gX4_taught_X4_lackingIfTaught : GoodIn wsX4_taught (wsV RX4 200 RX4 yX4_lackingIfTaught wsX4_lackingIfTaught) := goodIn_app (goodIn_of _ (by decide +kernel)) ggX4_taught_X4_lackingIfTaught
theorem dX4_taught_0 : decode cX4_taught 0 = .ok (.iload_n 1, 1) := by decide +kernel
theorem dX4_taught_1 : decode cX4_taught 1 = .ok (.iload_n 2, 1) := by decide +kernel
theorem dX4_taught_2 : decode cX4_taught 2 = .ok (.invokestatic 180, 3) := by decide +kernel
theorem dX4_taught_5 : decode cX4_taught 5 = .ok (.ifCond .ne 5, 3) := by decide +kernel
theorem dX4_taught_8 : decode cX4_taught 8 = .ok (.iconst (-1), 1) := by decide +kernel
theorem dX4_taught_9 : decode cX4_taught 9 = .ok (.ireturn, 1) := by decide +kernel
theorem dX4_taught_10 : decode cX4_taught 10 = .ok (.aload_n 0, 1) := by decide +kernel
theorem dX4_taught_11 : decode cX4_taught 11 = .ok (.getfield 48, 3) := by decide +kernel
theorem dX4_taught_14 : decode cX4_taught 14 = .ok (.getfield 144, 3) := by decide +kernel
theorem dX4_taught_17 : decode cX4_taught 17 = .ok (.ifCond .ne 6, 3) := by decide +kernel
theorem dX4_taught_20 : decode cX4_taught 20 = .ok (.bipush (-2), 2) := by decide +kernel
theorem dX4_taught_22 : decode cX4_taught 22 = .ok (.ireturn, 1) := by decide +kernel
theorem dX4_taught_23 : decode cX4_taught 23 = .ok (.aload_n 0, 1) := by decide +kernel
theorem dX4_taught_24 : decode cX4_taught 24 = .ok (.getfield 30, 3) := by decide +kernel
theorem dX4_taught_27 : decode cX4_taught 27 = .ok (.aload_n 0, 1) := by decide +kernel
theorem dX4_taught_28 : decode cX4_taught 28 = .ok (.getfield 26, 3) := by decide +kernel
theorem dX4_taught_31 : decode cX4_taught 31 = .ok (.invokevirtual 183, 3) := by decide +kernel
theorem dX4_taught_34 : decode cX4_taught 34 = .ok (.aload_n 0, 1) := by decide +kernel
theorem dX4_taught_35 : decode cX4_taught 35 = .ok (.getfield 30, 3) := by decide +kernel
theorem dX4_taught_38 : decode cX4_taught 38 = .ok (.iload_n 1, 1) := by decide +kernel
theorem dX4_taught_39 : decode cX4_taught 39 = .ok (.ldc 147, 2) := by decide +kernel
theorem dX4_taught_41 : decode cX4_taught 41 = .ok (.aload_n 0, 1) := by decide +kernel
theorem dX4_taught_42 : decode cX4_taught 42 = .ok (.getfield 48, 3) := by decide +kernel
theorem dX4_taught_45 : decode cX4_taught 45 = .ok (.aload_n 0, 1) := by decide +kernel
theorem dX4_taught_46 : decode cX4_taught 46 = .ok (.getfield 19, 3) := by decide +kernel
theorem dX4_taught_49 : decode cX4_taught 49 = .ok (.invokevirtual 148, 3) := by decide +kernel
theorem dX4_taught_52 : decode cX4_taught 52 = .ok (.istore_n 3, 1) := by decide +kernel
theorem dX4_taught_53 : decode cX4_taught 53 = .ok (.bipush (-9), 2) := by decide +kernel
theorem dX4_taught_55 : decode cX4_taught 55 = .ok (.istore 4, 2) := by decide +kernel
theorem dX4_taught_57 : decode cX4_taught 57 = .ok (.iconst 0, 1) := by decide +kernel
theorem dX4_taught_58 : decode cX4_taught 58 = .ok (.istore 5, 2) := by decide +kernel
theorem dX4_taught_60 : decode cX4_taught 60 = .ok (.iload 5, 2) := by decide +kernel
theorem dX4_taught_62 : decode cX4_taught 62 = .ok (.aload_n 0, 1) := by decide +kernel
theorem dX4_taught_63 : decode cX4_taught 63 = .ok (.getfield 48, 3) := by decide +kernel
theorem dX4_taught_66 : decode cX4_taught 66 = .ok (.getfield 197, 3) := by decide +kernel
theorem dX4_taught_69 : decode cX4_taught 69 = .ok (.if_icmp .ge 84, 3) := by decide +kernel
theorem dX4_taught_72 : decode cX4_taught 72 = .ok (.iconst 0, 1) := by decide +kernel
theorem dX4_taught_73 : decode cX4_taught 73 = .ok (.istore 6, 2) := by decide +kernel
theorem dX4_taught_75 : decode cX4_taught 75 = .ok (.iload 6, 2) := by decide +kernel
theorem dX4_taught_77 : decode cX4_taught 77 = .ok (.aload_n 0, 1) := by decide +kernel
theorem dX4_taught_78 : decode cX4_taught 78 = .ok (.getfield 48, 3) := by decide +kernel
theorem dX4_taught_81 : decode cX4_taught 81 = .ok (.getfield 144, 3) := by decide +kernel
theorem dX4_taught_84 : decode cX4_taught 84 = .ok (.if_icmp .ge 63, 3) := by decide +kernel
theorem dX4_taught_87 : decode cX4_taught 87 = .ok (.aload_n 0, 1) := by decide +kernel
theorem dX4_taught_88 : decode cX4_taught 88 = .ok (.getfield 26, 3) := by decide +kernel
theorem dX4_taught_91 : decode cX4_taught 91 = .ok (.getfield 105, 3) := by decide +kernel
theorem dX4_taught_94 : decode cX4_taught 94 = .ok (.iload 5, 2) := by decide +kernel
theorem dX4_taught_96 : decode cX4_taught 96 = .ok (.iload 6, 2) := by decide +kernel
theorem dX4_taught_98 : decode cX4_taught 98 = .ok (.invokestatic 108, 3) := by decide +kernel
theorem dX4_taught_101 : decode cX4_taught 101 = .ok (.iaload, 1) := by decide +kernel
theorem dX4_taught_102 : decode cX4_taught 102 = .ok (.bipush 9, 2) := by decide +kernel
theorem dX4_taught_104 : decode cX4_taught 104 = .ok (.if_icmp .lt 6, 3) := by decide +kernel
theorem dX4_taught_107 : decode cX4_taught 107 = .ok (.goto 34, 3) := by decide +kernel
theorem dX4_taught_110 : decode cX4_taught 110 = .ok (.aload_n 0, 1) := by decide +kernel
theorem dX4_taught_111 : decode cX4_taught 111 = .ok (.iload 5, 2) := by decide +kernel
theorem dX4_taught_113 : decode cX4_taught 113 = .ok (.iload 6, 2) := by decide +kernel
theorem dX4_taught_115 : decode cX4_taught 115 = .ok (.iload_n 1, 1) := by decide +kernel
theorem dX4_taught_116 : decode cX4_taught 116 = .ok (.iload_n 3, 1) := by decide +kernel
theorem dX4_taught_117 : decode cX4_taught 117 = .ok (.invokevirtual 200, 3) := by decide +kernel
theorem dX4_taught_120 : decode cX4_taught 120 = .ok (.istore 7, 2) := by decide +kernel
theorem dX4_taught_122 : decode cX4_taught 122 = .ok (.iload 7, 2) := by decide +kernel
theorem dX4_taught_124 : decode cX4_taught 124 = .ok (.iload_n 3, 1) := by decide +kernel
theorem dX4_taught_125 : decode cX4_taught 125 = .ok (.if_icmp .ge 16, 3) := by decide +kernel
theorem dX4_taught_128 : decode cX4_taught 128 = .ok (.iload 7, 2) := by decide +kernel
theorem dX4_taught_130 : decode cX4_taught 130 = .ok (.istore_n 3, 1) := by decide +kernel
theorem dX4_taught_131 : decode cX4_taught 131 = .ok (.bipush 10, 2) := by decide +kernel
theorem dX4_taught_133 : decode cX4_taught 133 = .ok (.iload 5, 2) := by decide +kernel
theorem dX4_taught_135 : decode cX4_taught 135 = .ok (.imul, 1) := by decide +kernel
theorem dX4_taught_136 : decode cX4_taught 136 = .ok (.iload 6, 2) := by decide +kernel
theorem dX4_taught_138 : decode cX4_taught 138 = .ok (.iadd, 1) := by decide +kernel
theorem dX4_taught_139 : decode cX4_taught 139 = .ok (.istore 4, 2) := by decide +kernel
theorem dX4_taught_141 : decode cX4_taught 141 = .ok (.iinc 6 1, 3) := by decide +kernel
theorem dX4_taught_144 : decode cX4_taught 144 = .ok (.goto (-69), 3) := by decide +kernel
theorem dX4_taught_147 : decode cX4_taught 147 = .ok (.iinc 5 1, 3) := by decide +kernel
theorem dX4_taught_150 : decode cX4_taught 150 = .ok (.goto (-90), 3) := by decide +kernel
theorem dX4_taught_153 : decode cX4_taught 153 = .ok (.iload 4, 2) := by decide +kernel
theorem dX4_taught_155 : decode cX4_taught 155 = .ok (.bipush (-9), 2) := by decide +kernel
theorem dX4_taught_157 : decode cX4_taught 157 = .ok (.if_icmp .ne 6, 3) := by decide +kernel
theorem dX4_taught_160 : decode cX4_taught 160 = .ok (.bipush (-9), 2) := by decide +kernel
theorem dX4_taught_162 : decode cX4_taught 162 = .ok (.ireturn, 1) := by decide +kernel
theorem dX4_taught_163 : decode cX4_taught 163 = .ok (.iload_n 2, 1) := by decide +kernel
theorem dX4_taught_164 : decode cX4_taught 164 = .ok (.ifCond .ne 8, 3) := by decide +kernel
theorem dX4_taught_167 : decode cX4_taught 167 = .ok (.iload 4, 2) := by decide +kernel
theorem dX4_taught_169 : decode cX4_taught 169 = .ok (.goto 4, 3) := by decide +kernel
theorem dX4_taught_172 : decode cX4_taught 172 = .ok (.iload_n 3, 1) := by decide +kernel
theorem dX4_taught_173 : decode cX4_taught 173 = .ok (.ireturn, 1) := by decide +kernel
set_option maxRecDepth 20000 in
theorem ggX4_standsIn_X4_isPerson : GoodIn wsX4_standsIn wsX4_isPerson := goodIn_r _ [9, 1, 4, 10, 11, 8, 12, 119, 120, 121, 122, 123, 124, 125, 126, 127, 128, 129, 130, 131, 132, 133, 134, 135, 136, 137] (by decide +kernel) (by decide +kernel)
set_option maxRecDepth 20000 in
theorem gX4_standsIn_X4_isPerson : GoodIn wsX4_standsIn (wsV RX4 102 RX4 yX4_isPerson wsX4_isPerson) := goodIn_app (goodIn_of _ (by decide +kernel)) ggX4_standsIn_X4_isPerson
set_option maxRecDepth 20000 in
theorem ggX4_standsIn_X4_within : GoodIn wsX4_standsIn wsX4_within := goodIn_r _ [12] (by decide +kernel) (by decide +kernel)
set_option maxRecDepth 20000 in
theorem gX4_standsIn_X4_within : GoodIn wsX4_standsIn (va_wsS RX4 63 yX4_within wsX4_within) := goodIn_app (goodIn_of _ (by decide +kernel)) ggX4_standsIn_X4_within
set_option maxRecDepth 20000 in
theorem ggX4_standsIn_X4_lackingIfChanged : GoodIn wsX4_standsIn wsX4_lackingIfChanged := goodIn_r _ [16, 17, 18, 19, 1, 20, 21, 22, 23, 24, 25, 26, 27, 28, 29, 30, 31, 32, 33, 34, 35, 36, 37, 38, 39, 40, 41, 42, 43, 44, 45, 8, 46, 47, 48, 49, 50, 51, 52, 53, 54, 55, 56, 57, 58, 59, 60, 61, 62, 63, 64, 65, 66, 67, 68, 69, 70, 71, 72, 73, 74, 75, 76, 77, 78, 79, 80, 81, 82, 83, 84, 85, 86, 87, 88, 89, 90, 91, 92, 93, 94, 95, 96, 97, 98, 99, 100, 101, 102, 103, 104, 105, 106, 107, 108, 109, 110, 111, 112, 113, 114, 115, 116, 117, 118, 119, 120, 121, 122, 123, 124, 125, 126, 127, 128, 138, 139, 140, 141, 142, 143, 144, 145, 146, 147, 148, 149, 150, 151, 129, 130, 131, 132, 133, 134, 135, 136, 137] (by decide +kernel) (by decide +kernel)
set_option maxRecDepth 20000 in
theorem gX4_standsIn_X4_lackingIfChanged : GoodIn wsX4_standsIn (wsV RX4 204 RX4 yX4_lackingIfChanged wsX4_lackingIfChanged) := goodIn_app (goodIn_of _ (by decide +kernel)) ggX4_standsIn_X4_lackingIfChanged
theorem dX4_standsIn_0 : decode cX4_standsIn 0 = .ok (.aload_n 0, 1) := by decide +kernel
theorem dX4_standsIn_1 : decode cX4_standsIn 1 = .ok (.iload_n 1, 1) := by decide +kernel
theorem dX4_standsIn_2 : decode cX4_standsIn 2 = .ok (.invokevirtual 102, 3) := by decide +kernel
theorem dX4_standsIn_5 : decode cX4_standsIn 5 = .ok (.ifCond .eq 13, 3) := by decide +kernel
theorem dX4_standsIn_8 : decode cX4_standsIn 8 = .ok (.iload_n 2, 1) := by decide +kernel
theorem dX4_standsIn_9 : decode cX4_standsIn 9 = .ok (.iconst 1, 1) := by decide +kernel
theorem dX4_standsIn_10 : decode cX4_standsIn 10 = .ok (.bipush 40, 2) := by decide +kernel
theorem dX4_standsIn_12 : decode cX4_standsIn 12 = .ok (.invokestatic 63, 3) := by decide +kernel
theorem dX4_standsIn_15 : decode cX4_standsIn 15 = .ok (.ifCond .ne 5, 3) := by decide +kernel
theorem dX4_standsIn_18 : decode cX4_standsIn 18 = .ok (.iconst (-1), 1) := by decide +kernel
theorem dX4_standsIn_19 : decode cX4_standsIn 19 = .ok (.ireturn, 1) := by decide +kernel
theorem dX4_standsIn_20 : decode cX4_standsIn 20 = .ok (.aload_n 0, 1) := by decide +kernel
theorem dX4_standsIn_21 : decode cX4_standsIn 21 = .ok (.getfield 48, 3) := by decide +kernel
theorem dX4_standsIn_24 : decode cX4_standsIn 24 = .ok (.getfield 144, 3) := by decide +kernel
theorem dX4_standsIn_27 : decode cX4_standsIn 27 = .ok (.ifCond .ne 6, 3) := by decide +kernel
theorem dX4_standsIn_30 : decode cX4_standsIn 30 = .ok (.bipush (-2), 2) := by decide +kernel
theorem dX4_standsIn_32 : decode cX4_standsIn 32 = .ok (.ireturn, 1) := by decide +kernel
theorem dX4_standsIn_33 : decode cX4_standsIn 33 = .ok (.aload_n 0, 1) := by decide +kernel
theorem dX4_standsIn_34 : decode cX4_standsIn 34 = .ok (.iload_n 1, 1) := by decide +kernel
theorem dX4_standsIn_35 : decode cX4_standsIn 35 = .ok (.iload_n 1, 1) := by decide +kernel
theorem dX4_standsIn_36 : decode cX4_standsIn 36 = .ok (.iload_n 2, 1) := by decide +kernel
theorem dX4_standsIn_37 : decode cX4_standsIn 37 = .ok (.ldc 147, 2) := by decide +kernel
theorem dX4_standsIn_39 : decode cX4_standsIn 39 = .ok (.invokevirtual 204, 3) := by decide +kernel
theorem dX4_standsIn_42 : decode cX4_standsIn 42 = .ok (.istore_n 3, 1) := by decide +kernel
theorem dX4_standsIn_43 : decode cX4_standsIn 43 = .ok (.iload_n 1, 1) := by decide +kernel
theorem dX4_standsIn_44 : decode cX4_standsIn 44 = .ok (.istore 4, 2) := by decide +kernel
theorem dX4_standsIn_46 : decode cX4_standsIn 46 = .ok (.iconst 0, 1) := by decide +kernel
theorem dX4_standsIn_47 : decode cX4_standsIn 47 = .ok (.istore 5, 2) := by decide +kernel
theorem dX4_standsIn_49 : decode cX4_standsIn 49 = .ok (.iload 5, 2) := by decide +kernel
theorem dX4_standsIn_51 : decode cX4_standsIn 51 = .ok (.aload_n 0, 1) := by decide +kernel
theorem dX4_standsIn_52 : decode cX4_standsIn 52 = .ok (.getfield 48, 3) := by decide +kernel
theorem dX4_standsIn_55 : decode cX4_standsIn 55 = .ok (.getfield 197, 3) := by decide +kernel
theorem dX4_standsIn_58 : decode cX4_standsIn 58 = .ok (.if_icmp .ge 33, 3) := by decide +kernel
theorem dX4_standsIn_61 : decode cX4_standsIn 61 = .ok (.aload_n 0, 1) := by decide +kernel
theorem dX4_standsIn_62 : decode cX4_standsIn 62 = .ok (.iload_n 1, 1) := by decide +kernel
theorem dX4_standsIn_63 : decode cX4_standsIn 63 = .ok (.iload 5, 2) := by decide +kernel
theorem dX4_standsIn_65 : decode cX4_standsIn 65 = .ok (.iload_n 2, 1) := by decide +kernel
theorem dX4_standsIn_66 : decode cX4_standsIn 66 = .ok (.iload_n 3, 1) := by decide +kernel
theorem dX4_standsIn_67 : decode cX4_standsIn 67 = .ok (.invokevirtual 204, 3) := by decide +kernel
theorem dX4_standsIn_70 : decode cX4_standsIn 70 = .ok (.istore 6, 2) := by decide +kernel
theorem dX4_standsIn_72 : decode cX4_standsIn 72 = .ok (.iload 6, 2) := by decide +kernel
theorem dX4_standsIn_74 : decode cX4_standsIn 74 = .ok (.iload_n 3, 1) := by decide +kernel
theorem dX4_standsIn_75 : decode cX4_standsIn 75 = .ok (.if_icmp .ge 10, 3) := by decide +kernel
theorem dX4_standsIn_78 : decode cX4_standsIn 78 = .ok (.iload 6, 2) := by decide +kernel
theorem dX4_standsIn_80 : decode cX4_standsIn 80 = .ok (.istore_n 3, 1) := by decide +kernel
theorem dX4_standsIn_81 : decode cX4_standsIn 81 = .ok (.iload 5, 2) := by decide +kernel
theorem dX4_standsIn_83 : decode cX4_standsIn 83 = .ok (.istore 4, 2) := by decide +kernel
theorem dX4_standsIn_85 : decode cX4_standsIn 85 = .ok (.iinc 5 1, 3) := by decide +kernel
theorem dX4_standsIn_88 : decode cX4_standsIn 88 = .ok (.goto (-39), 3) := by decide +kernel
theorem dX4_standsIn_91 : decode cX4_standsIn 91 = .ok (.iload 4, 2) := by decide +kernel
theorem dX4_standsIn_93 : decode cX4_standsIn 93 = .ok (.ireturn, 1) := by decide +kernel
set_option maxRecDepth 20000 in
theorem ggX4_madeBy_X4_isTrade : GoodIn wsX4_madeBy wsX4_isTrade := goodIn_r _ [13, 5, 14, 15, 16, 12, 17, 115, 116, 117, 118, 119, 120, 121, 122, 123, 124, 136, 137, 138, 139, 140, 141, 142, 143, 144] (by decide +kernel) (by decide +kernel)
set_option maxRecDepth 20000 in
theorem gX4_madeBy_X4_isTrade : GoodIn wsX4_madeBy (wsV RX4 86 RX4 yX4_isTrade wsX4_isTrade) := goodIn_app (goodIn_of _ (by decide +kernel)) ggX4_madeBy_X4_isTrade
set_option maxRecDepth 20000 in
theorem ggX4_madeBy_X4_within : GoodIn wsX4_madeBy wsX4_within := goodIn_r _ [17] (by decide +kernel) (by decide +kernel)
set_option maxRecDepth 20000 in
theorem gX4_madeBy_X4_within : GoodIn wsX4_madeBy (va_wsS RX4 63 yX4_within wsX4_within) := goodIn_app (goodIn_of _ (by decide +kernel)) ggX4_madeBy_X4_within
set_option maxRecDepth 20000 in
theorem ggX4_madeBy_X3_becomes : GoodIn wsX4_madeBy wsX3_becomes := goodIn_r _ [22, 23, 24, 25, 26, 27, 28, 29, 30, 31, 32, 33, 34, 35, 36, 125, 126, 127, 128, 129, 130, 131, 132, 133, 134, 135] (by decide +kernel) (by decide +kernel)
set_option maxRecDepth 20000 in
theorem gX4_madeBy_X3_becomes : GoodIn wsX4_madeBy (wsV RX4 183 RX3 yX3_becomes wsX3_becomes) := goodIn_app (goodIn_of _ (by decide +kernel)) ggX4_madeBy_X3_becomes
set_option maxRecDepth 20000 in
theorem ggX4_madeBy_X3_goRounds : GoodIn wsX4_madeBy wsX3_goRounds := goodIn_r _ [40, 23, 41, 42, 43, 44, 45, 46, 47, 21, 48, 49, 50, 24, 51, 25, 52, 53, 54, 55, 56, 57, 58, 59, 60, 61, 31, 62, 63, 36, 64, 65, 66, 67, 68, 69, 70, 71, 72, 73, 32, 74, 75, 76, 77, 78, 79, 80, 81, 82, 83, 84, 85, 86, 26, 34, 87, 88, 89, 90, 12, 91, 92, 93, 94, 95, 96, 33, 97, 98, 99, 100, 101, 102, 103, 104, 105, 106, 107, 108, 35, 125, 126, 127, 128, 129, 130, 131, 132, 133, 134, 135, 145, 146, 147, 136, 137, 138, 139, 140, 141, 142, 143, 144] (by decide +kernel) (by decide +kernel)
set_option maxRecDepth 20000 in
theorem gX4_madeBy_X3_goRounds : GoodIn wsX4_madeBy (wsV RX4 148 RX3 yX3_goRounds wsX3_goRounds) := goodIn_app (goodIn_of _ (by decide +kernel)) ggX4_madeBy_X3_goRounds
set_option maxRecDepth 20000 in
theorem ggX4_madeBy_X3_tradeOf : GoodIn wsX4_madeBy wsX3_tradeOf := goodIn_r _ [112, 36, 58, 59, 60, 21, 61, 31, 62, 63, 64, 65, 66, 67, 68, 69, 125, 126, 127, 128, 129, 130, 131, 132, 133, 134, 135, 136, 137, 138, 139, 140, 141, 142, 143, 144] (by decide +kernel) (by decide +kernel)
set_option maxRecDepth 20000 in
theorem gX4_madeBy_X3_tradeOf : GoodIn wsX4_madeBy (wsV RX4 115 RX3 yX3_tradeOf wsX3_tradeOf) := goodIn_app (goodIn_of _ (by decide +kernel)) ggX4_madeBy_X3_tradeOf
set_option maxRecDepth 20000 in
theorem ggX4_madeBy_X3_isIll : GoodIn wsX4_madeBy wsX3_isIll := goodIn_r _ [82, 25, 125, 126, 127, 128, 129, 130, 131, 132, 133, 134, 135] (by decide +kernel) (by decide +kernel)
set_option maxRecDepth 20000 in
theorem gX4_madeBy_X3_isIll : GoodIn wsX4_madeBy (wsV RX4 119 RX3 yX3_isIll wsX3_isIll) := goodIn_app (goodIn_of _ (by decide +kernel)) ggX4_madeBy_X3_isIll
set_option maxRecDepth 20000 in
theorem ggX4_madeBy_X4_cell : GoodIn wsX4_madeBy wsX4_cell := goodIn_r _ [91] (by decide +kernel) (by decide +kernel)
set_option maxRecDepth 20000 in
theorem gX4_madeBy_X4_cell : GoodIn wsX4_madeBy (va_wsS RX4 108 yX4_cell wsX4_cell) := goodIn_app (goodIn_of _ (by decide +kernel)) ggX4_madeBy_X4_cell
theorem dX4_madeBy_0 : decode cX4_madeBy 0 = .ok (.aload_n 0, 1) := by decide +kernel
theorem dX4_madeBy_1 : decode cX4_madeBy 1 = .ok (.iload_n 1, 1) := by decide +kernel
theorem dX4_madeBy_2 : decode cX4_madeBy 2 = .ok (.invokevirtual 86, 3) := by decide +kernel
theorem dX4_madeBy_5 : decode cX4_madeBy 5 = .ok (.ifCond .eq 29, 3) := by decide +kernel
theorem dX4_madeBy_8 : decode cX4_madeBy 8 = .ok (.iload_n 2, 1) := by decide +kernel
theorem dX4_madeBy_9 : decode cX4_madeBy 9 = .ok (.iconst 0, 1) := by decide +kernel
theorem dX4_madeBy_10 : decode cX4_madeBy 10 = .ok (.bipush 9, 2) := by decide +kernel
theorem dX4_madeBy_12 : decode cX4_madeBy 12 = .ok (.invokestatic 63, 3) := by decide +kernel
theorem dX4_madeBy_15 : decode cX4_madeBy 15 = .ok (.ifCond .eq 19, 3) := by decide +kernel
theorem dX4_madeBy_18 : decode cX4_madeBy 18 = .ok (.iload_n 3, 1) := by decide +kernel
theorem dX4_madeBy_19 : decode cX4_madeBy 19 = .ok (.aload_n 0, 1) := by decide +kernel
theorem dX4_madeBy_20 : decode cX4_madeBy 20 = .ok (.getfield 26, 3) := by decide +kernel
theorem dX4_madeBy_23 : decode cX4_madeBy 23 = .ok (.getfield 141, 3) := by decide +kernel
theorem dX4_madeBy_26 : decode cX4_madeBy 26 = .ok (.bipush 99, 2) := by decide +kernel
theorem dX4_madeBy_28 : decode cX4_madeBy 28 = .ok (.invokestatic 63, 3) := by decide +kernel
theorem dX4_madeBy_31 : decode cX4_madeBy 31 = .ok (.ifCond .ne 5, 3) := by decide +kernel
theorem dX4_madeBy_34 : decode cX4_madeBy 34 = .ok (.iconst (-1), 1) := by decide +kernel
theorem dX4_madeBy_35 : decode cX4_madeBy 35 = .ok (.ireturn, 1) := by decide +kernel
theorem dX4_madeBy_36 : decode cX4_madeBy 36 = .ok (.aload_n 0, 1) := by decide +kernel
theorem dX4_madeBy_37 : decode cX4_madeBy 37 = .ok (.getfield 30, 3) := by decide +kernel
theorem dX4_madeBy_40 : decode cX4_madeBy 40 = .ok (.aload_n 0, 1) := by decide +kernel
theorem dX4_madeBy_41 : decode cX4_madeBy 41 = .ok (.getfield 26, 3) := by decide +kernel
theorem dX4_madeBy_44 : decode cX4_madeBy 44 = .ok (.invokevirtual 183, 3) := by decide +kernel
theorem dX4_madeBy_47 : decode cX4_madeBy 47 = .ok (.aload_n 0, 1) := by decide +kernel
theorem dX4_madeBy_48 : decode cX4_madeBy 48 = .ok (.getfield 30, 3) := by decide +kernel
theorem dX4_madeBy_51 : decode cX4_madeBy 51 = .ok (.iload_n 3, 1) := by decide +kernel
theorem dX4_madeBy_52 : decode cX4_madeBy 52 = .ok (.aload_n 0, 1) := by decide +kernel
theorem dX4_madeBy_53 : decode cX4_madeBy 53 = .ok (.getfield 26, 3) := by decide +kernel
theorem dX4_madeBy_56 : decode cX4_madeBy 56 = .ok (.getfield 141, 3) := by decide +kernel
theorem dX4_madeBy_59 : decode cX4_madeBy 59 = .ok (.isub, 1) := by decide +kernel
theorem dX4_madeBy_60 : decode cX4_madeBy 60 = .ok (.ldc 147, 2) := by decide +kernel
theorem dX4_madeBy_62 : decode cX4_madeBy 62 = .ok (.aload_n 0, 1) := by decide +kernel
theorem dX4_madeBy_63 : decode cX4_madeBy 63 = .ok (.getfield 48, 3) := by decide +kernel
theorem dX4_madeBy_66 : decode cX4_madeBy 66 = .ok (.aload_n 0, 1) := by decide +kernel
theorem dX4_madeBy_67 : decode cX4_madeBy 67 = .ok (.getfield 19, 3) := by decide +kernel
theorem dX4_madeBy_70 : decode cX4_madeBy 70 = .ok (.invokevirtual 148, 3) := by decide +kernel
theorem dX4_madeBy_73 : decode cX4_madeBy 73 = .ok (.pop, 1) := by decide +kernel
theorem dX4_madeBy_74 : decode cX4_madeBy 74 = .ok (.iconst 0, 1) := by decide +kernel
theorem dX4_madeBy_75 : decode cX4_madeBy 75 = .ok (.istore 4, 2) := by decide +kernel
theorem dX4_madeBy_77 : decode cX4_madeBy 77 = .ok (.iconst 0, 1) := by decide +kernel
theorem dX4_madeBy_78 : decode cX4_madeBy 78 = .ok (.istore 5, 2) := by decide +kernel
theorem dX4_madeBy_80 : decode cX4_madeBy 80 = .ok (.iload 5, 2) := by decide +kernel
theorem dX4_madeBy_82 : decode cX4_madeBy 82 = .ok (.aload_n 0, 1) := by decide +kernel
theorem dX4_madeBy_83 : decode cX4_madeBy 83 = .ok (.getfield 48, 3) := by decide +kernel
theorem dX4_madeBy_86 : decode cX4_madeBy 86 = .ok (.getfield 197, 3) := by decide +kernel
theorem dX4_madeBy_89 : decode cX4_madeBy 89 = .ok (.if_icmp .ge 77, 3) := by decide +kernel
theorem dX4_madeBy_92 : decode cX4_madeBy 92 = .ok (.aload_n 0, 1) := by decide +kernel
theorem dX4_madeBy_93 : decode cX4_madeBy 93 = .ok (.getfield 30, 3) := by decide +kernel
theorem dX4_madeBy_96 : decode cX4_madeBy 96 = .ok (.iload 5, 2) := by decide +kernel
theorem dX4_madeBy_98 : decode cX4_madeBy 98 = .ok (.aload_n 0, 1) := by decide +kernel
theorem dX4_madeBy_99 : decode cX4_madeBy 99 = .ok (.getfield 48, 3) := by decide +kernel
theorem dX4_madeBy_102 : decode cX4_madeBy 102 = .ok (.invokevirtual 115, 3) := by decide +kernel
theorem dX4_madeBy_105 : decode cX4_madeBy 105 = .ok (.iload_n 1, 1) := by decide +kernel
theorem dX4_madeBy_106 : decode cX4_madeBy 106 = .ok (.if_icmp .ne 19, 3) := by decide +kernel
theorem dX4_madeBy_109 : decode cX4_madeBy 109 = .ok (.aload_n 0, 1) := by decide +kernel
theorem dX4_madeBy_110 : decode cX4_madeBy 110 = .ok (.getfield 30, 3) := by decide +kernel
theorem dX4_madeBy_113 : decode cX4_madeBy 113 = .ok (.iload 5, 2) := by decide +kernel
theorem dX4_madeBy_115 : decode cX4_madeBy 115 = .ok (.invokevirtual 119, 3) := by decide +kernel
theorem dX4_madeBy_118 : decode cX4_madeBy 118 = .ok (.ifCond .ne 7, 3) := by decide +kernel
theorem dX4_madeBy_121 : decode cX4_madeBy 121 = .ok (.iconst 1, 1) := by decide +kernel
theorem dX4_madeBy_122 : decode cX4_madeBy 122 = .ok (.goto 4, 3) := by decide +kernel
theorem dX4_madeBy_125 : decode cX4_madeBy 125 = .ok (.iconst 0, 1) := by decide +kernel
theorem dX4_madeBy_126 : decode cX4_madeBy 126 = .ok (.istore 6, 2) := by decide +kernel
theorem dX4_madeBy_128 : decode cX4_madeBy 128 = .ok (.iload 6, 2) := by decide +kernel
theorem dX4_madeBy_130 : decode cX4_madeBy 130 = .ok (.ifCond .eq 30, 3) := by decide +kernel
theorem dX4_madeBy_133 : decode cX4_madeBy 133 = .ok (.aload_n 0, 1) := by decide +kernel
theorem dX4_madeBy_134 : decode cX4_madeBy 134 = .ok (.getfield 30, 3) := by decide +kernel
theorem dX4_madeBy_137 : decode cX4_madeBy 137 = .ok (.getfield 105, 3) := by decide +kernel
theorem dX4_madeBy_140 : decode cX4_madeBy 140 = .ok (.iload 5, 2) := by decide +kernel
theorem dX4_madeBy_142 : decode cX4_madeBy 142 = .ok (.iload_n 1, 1) := by decide +kernel
theorem dX4_madeBy_143 : decode cX4_madeBy 143 = .ok (.invokestatic 108, 3) := by decide +kernel
theorem dX4_madeBy_146 : decode cX4_madeBy 146 = .ok (.iaload, 1) := by decide +kernel
theorem dX4_madeBy_147 : decode cX4_madeBy 147 = .ok (.iload_n 2, 1) := by decide +kernel
theorem dX4_madeBy_148 : decode cX4_madeBy 148 = .ok (.if_icmp .ne 12, 3) := by decide +kernel
theorem dX4_madeBy_151 : decode cX4_madeBy 151 = .ok (.iload 4, 2) := by decide +kernel
theorem dX4_madeBy_153 : decode cX4_madeBy 153 = .ok (.iconst 1, 1) := by decide +kernel
theorem dX4_madeBy_154 : decode cX4_madeBy 154 = .ok (.iload 5, 2) := by decide +kernel
theorem dX4_madeBy_156 : decode cX4_madeBy 156 = .ok (.ishl, 1) := by decide +kernel
theorem dX4_madeBy_157 : decode cX4_madeBy 157 = .ok (.ior, 1) := by decide +kernel
theorem dX4_madeBy_158 : decode cX4_madeBy 158 = .ok (.istore 4, 2) := by decide +kernel
theorem dX4_madeBy_160 : decode cX4_madeBy 160 = .ok (.iinc 5 1, 3) := by decide +kernel
theorem dX4_madeBy_163 : decode cX4_madeBy 163 = .ok (.goto (-83), 3) := by decide +kernel
theorem dX4_madeBy_166 : decode cX4_madeBy 166 = .ok (.iload 4, 2) := by decide +kernel
theorem dX4_madeBy_168 : decode cX4_madeBy 168 = .ok (.ireturn, 1) := by decide +kernel
set_option maxRecDepth 20000 in
theorem ggX4_again_X3_becomes : GoodIn wsX4_again wsX3_becomes := goodIn_r _ [9, 10, 11, 12, 13, 14, 15, 16, 17, 18, 19, 20, 21, 22, 23, 75, 76, 77, 78, 79, 80, 81, 82, 83, 84, 85] (by decide +kernel) (by decide +kernel)
set_option maxRecDepth 20000 in
theorem gX4_again_X3_becomes : GoodIn wsX4_again (wsV RX4 183 RX3 yX3_becomes wsX3_becomes) := goodIn_app (goodIn_of _ (by decide +kernel)) ggX4_again_X3_becomes
set_option maxRecDepth 20000 in
theorem ggX4_again_X3_findWork : GoodIn wsX4_again wsX3_findWork := goodIn_r _ [27, 28, 29, 30, 31, 32, 8, 33, 18, 34, 35, 23, 36, 37, 38, 39, 40, 41, 66, 67, 68, 69, 70, 71, 72, 73, 74, 75, 76, 77, 78, 79, 80, 81, 82, 83, 84, 85] (by decide +kernel) (by decide +kernel)
set_option maxRecDepth 20000 in
theorem gX4_again_X3_findWork : GoodIn wsX4_again (wsV RX4 207 RX3 yX3_findWork wsX3_findWork) := goodIn_app (goodIn_of _ (by decide +kernel)) ggX4_again_X3_findWork
set_option maxRecDepth 20000 in
theorem ggX4_again_X3_moveOn : GoodIn wsX4_again wsX3_moveOn := goodIn_r _ [45, 28, 18, 29, 36, 37, 38, 39, 40, 41, 66, 67, 68, 69, 70, 71, 72, 73, 74, 75, 76, 77, 78, 79, 80, 81, 82, 83, 84, 85] (by decide +kernel) (by decide +kernel)
set_option maxRecDepth 20000 in
theorem gX4_again_X3_moveOn : GoodIn wsX4_again (wsV RX4 210 RX3 yX3_moveOn wsX3_moveOn) := goodIn_app (goodIn_of _ (by decide +kernel)) ggX4_again_X3_moveOn
set_option maxRecDepth 20000 in
theorem ggX4_again_X4_worksAsNow : GoodIn wsX4_again wsX4_worksAsNow := goodIn_r _ [50, 1, 51, 3, 4, 52, 53, 54, 8, 55, 23, 30, 31, 32, 33, 18, 34, 35, 36, 37, 38, 39, 40, 41, 56, 57, 58, 59, 60, 61, 62, 63, 64, 65, 66, 67, 68, 69, 70, 71, 72, 73, 74, 75, 76, 77, 78, 79, 80, 81, 82, 83, 84, 85] (by decide +kernel) (by decide +kernel)
set_option maxRecDepth 20000 in
theorem gX4_again_X4_worksAsNow : GoodIn wsX4_again (wsV RX4 213 RX4 yX4_worksAsNow wsX4_worksAsNow) := goodIn_app (goodIn_of _ (by decide +kernel)) ggX4_again_X4_worksAsNow
theorem dX4_again_0 : decode cX4_again 0 = .ok (.aload_n 0, 1) := by decide +kernel
theorem dX4_again_1 : decode cX4_again 1 = .ok (.getfield 48, 3) := by decide +kernel
theorem dX4_again_4 : decode cX4_again 4 = .ok (.getfield 144, 3) := by decide +kernel
theorem dX4_again_7 : decode cX4_again 7 = .ok (.ifCond .ne 6, 3) := by decide +kernel
theorem dX4_again_10 : decode cX4_again 10 = .ok (.bipush (-2), 2) := by decide +kernel
theorem dX4_again_12 : decode cX4_again 12 = .ok (.ireturn, 1) := by decide +kernel
theorem dX4_again_13 : decode cX4_again 13 = .ok (.aload_n 0, 1) := by decide +kernel
theorem dX4_again_14 : decode cX4_again 14 = .ok (.getfield 30, 3) := by decide +kernel
theorem dX4_again_17 : decode cX4_again 17 = .ok (.aload_n 0, 1) := by decide +kernel
theorem dX4_again_18 : decode cX4_again 18 = .ok (.getfield 26, 3) := by decide +kernel
theorem dX4_again_21 : decode cX4_again 21 = .ok (.invokevirtual 183, 3) := by decide +kernel
theorem dX4_again_24 : decode cX4_again 24 = .ok (.iconst 1, 1) := by decide +kernel
theorem dX4_again_25 : decode cX4_again 25 = .ok (.istore_n 1, 1) := by decide +kernel
theorem dX4_again_26 : decode cX4_again 26 = .ok (.iload_n 1, 1) := by decide +kernel
theorem dX4_again_27 : decode cX4_again 27 = .ok (.bipush 60, 2) := by decide +kernel
theorem dX4_again_29 : decode cX4_again 29 = .ok (.if_icmp .gt 40, 3) := by decide +kernel
theorem dX4_again_32 : decode cX4_again 32 = .ok (.aload_n 0, 1) := by decide +kernel
theorem dX4_again_33 : decode cX4_again 33 = .ok (.getfield 30, 3) := by decide +kernel
theorem dX4_again_36 : decode cX4_again 36 = .ok (.aload_n 0, 1) := by decide +kernel
theorem dX4_again_37 : decode cX4_again 37 = .ok (.getfield 48, 3) := by decide +kernel
theorem dX4_again_40 : decode cX4_again 40 = .ok (.invokevirtual 207, 3) := by decide +kernel
theorem dX4_again_43 : decode cX4_again 43 = .ok (.aload_n 0, 1) := by decide +kernel
theorem dX4_again_44 : decode cX4_again 44 = .ok (.getfield 30, 3) := by decide +kernel
theorem dX4_again_47 : decode cX4_again 47 = .ok (.aload_n 0, 1) := by decide +kernel
theorem dX4_again_48 : decode cX4_again 48 = .ok (.getfield 48, 3) := by decide +kernel
theorem dX4_again_51 : decode cX4_again 51 = .ok (.invokevirtual 210, 3) := by decide +kernel
theorem dX4_again_54 : decode cX4_again 54 = .ok (.aload_n 0, 1) := by decide +kernel
theorem dX4_again_55 : decode cX4_again 55 = .ok (.invokevirtual 213, 3) := by decide +kernel
theorem dX4_again_58 : decode cX4_again 58 = .ok (.ifCond .eq 5, 3) := by decide +kernel
theorem dX4_again_61 : decode cX4_again 61 = .ok (.iload_n 1, 1) := by decide +kernel
theorem dX4_again_62 : decode cX4_again 62 = .ok (.ireturn, 1) := by decide +kernel
theorem dX4_again_63 : decode cX4_again 63 = .ok (.iinc 1 1, 3) := by decide +kernel
theorem dX4_again_66 : decode cX4_again 66 = .ok (.goto (-40), 3) := by decide +kernel
theorem dX4_again_69 : decode cX4_again 69 = .ok (.bipush (-9), 2) := by decide +kernel
theorem dX4_again_71 : decode cX4_again 71 = .ok (.ireturn, 1) := by decide +kernel
set_option maxRecDepth 20000 in
theorem ggX4_rate_X4_isPerson : GoodIn wsX4_rate wsX4_isPerson := goodIn_r _ [6, 7, 8, 9, 10, 5, 11, 57, 58, 59, 60, 61, 62, 63, 64, 65, 66, 67, 68, 69, 70, 71, 72, 73, 74, 75] (by decide +kernel) (by decide +kernel)
set_option maxRecDepth 20000 in
theorem gX4_rate_X4_isPerson : GoodIn wsX4_rate (wsV RX4 102 RX4 yX4_isPerson wsX4_isPerson) := goodIn_app (goodIn_of _ (by decide +kernel)) ggX4_rate_X4_isPerson
set_option maxRecDepth 20000 in
theorem ggX4_rate_X4_asPerson : GoodIn wsX4_rate wsX4_asPerson := goodIn_r _ [15, 16, 7, 17, 18, 19, 20, 21, 5, 22, 57, 58, 59, 60, 61, 62, 63, 64, 65, 66, 67, 68, 69, 70, 71, 72, 73, 74, 75, 76, 77, 78, 79, 80, 81, 82, 83, 84, 85, 86] (by decide +kernel) (by decide +kernel)
set_option maxRecDepth 20000 in
theorem gX4_rate_X4_asPerson : GoodIn wsX4_rate (wsV RX4 217 RX4 yX4_asPerson wsX4_asPerson) := goodIn_app (goodIn_of _ (by decide +kernel)) ggX4_rate_X4_asPerson
set_option maxRecDepth 20000 in
theorem ggX4_rate_X4_asLearner : GoodIn wsX4_rate wsX4_asLearner := goodIn_r _ [26, 16, 27, 18, 28, 12, 13, 14, 5, 15, 7, 17, 19, 20, 21, 22, 57, 58, 59, 60, 61, 62, 63, 64, 65, 66, 76, 77, 78, 79, 80, 81, 82, 83, 84, 85, 86, 67, 68, 69, 70, 71, 72, 73, 74, 75] (by decide +kernel) (by decide +kernel)
set_option maxRecDepth 20000 in
theorem gX4_rate_X4_asLearner : GoodIn wsX4_rate (wsV RX4 220 RX4 yX4_asLearner wsX4_asLearner) := goodIn_app (goodIn_of _ (by decide +kernel)) ggX4_rate_X4_asLearner
set_option maxRecDepth 20000 in
theorem ggX4_rate_X4_asMaster : GoodIn wsX4_rate wsX4_asMaster := goodIn_r _ [32, 16, 33, 7, 17, 18, 19, 34, 35, 36, 37, 20, 21, 5, 22, 12, 13, 14, 15, 57, 58, 59, 60, 61, 62, 63, 64, 65, 66, 67, 68, 69, 70, 71, 72, 73, 74, 75, 76, 77, 78, 79, 80, 81, 82, 83, 84, 85, 86] (by decide +kernel) (by decide +kernel)
set_option maxRecDepth 20000 in
theorem gX4_rate_X4_asMaster : GoodIn wsX4_rate (wsV RX4 223 RX4 yX4_asMaster wsX4_asMaster) := goodIn_app (goodIn_of _ (by decide +kernel)) ggX4_rate_X4_asMaster
set_option maxRecDepth 20000 in
theorem ggX4_rate_X4_asLender : GoodIn wsX4_rate wsX4_asLender := goodIn_r _ [41, 16, 42, 29, 30, 31, 5, 32, 33, 7, 17, 18, 19, 34, 35, 36, 37, 20, 21, 22, 12, 13, 14, 15, 57, 58, 59, 60, 61, 62, 63, 64, 65, 66, 67, 68, 69, 70, 71, 72, 73, 74, 75, 76, 77, 78, 79, 80, 81, 82, 83, 84, 85, 86] (by decide +kernel) (by decide +kernel)
set_option maxRecDepth 20000 in
theorem gX4_rate_X4_asLender : GoodIn wsX4_rate (wsV RX4 226 RX4 yX4_asLender wsX4_asLender) := goodIn_app (goodIn_of _ (by decide +kernel)) ggX4_rate_X4_asLender
set_option maxRecDepth 20000 in
theorem ggX4_rate_X4_asChild : GoodIn wsX4_rate wsX4_asChild := goodIn_r _ [46, 16, 47, 7, 17, 18, 19, 48, 49, 36, 50, 20, 21, 5, 22, 23, 24, 25, 26, 27, 28, 12, 13, 14, 15, 57, 58, 59, 60, 61, 62, 63, 64, 65, 66, 67, 68, 69, 70, 71, 72, 73, 74, 75, 76, 77, 78, 79, 80, 81, 82, 83, 84, 85, 86] (by decide +kernel) (by decide +kernel)
set_option maxRecDepth 20000 in
theorem gX4_rate_X4_asChild : GoodIn wsX4_rate (wsV RX4 229 RX4 yX4_asChild wsX4_asChild) := goodIn_app (goodIn_of _ (by decide +kernel)) ggX4_rate_X4_asChild
set_option maxRecDepth 20000 in
theorem ggX4_rate_X4_asIdle : GoodIn wsX4_rate wsX4_asIdle := goodIn_r _ [54, 16, 55, 18, 56, 12, 13, 14, 5, 15, 7, 17, 19, 20, 21, 22, 57, 58, 59, 60, 61, 62, 63, 64, 65, 66, 76, 77, 78, 79, 80, 81, 82, 83, 84, 85, 86, 67, 68, 69, 70, 71, 72, 73, 74, 75] (by decide +kernel) (by decide +kernel)
set_option maxRecDepth 20000 in
theorem gX4_rate_X4_asIdle : GoodIn wsX4_rate (wsV RX4 232 RX4 yX4_asIdle wsX4_asIdle) := goodIn_app (goodIn_of _ (by decide +kernel)) ggX4_rate_X4_asIdle
theorem dX4_rate_0 : decode cX4_rate 0 = .ok (.aload_n 0, 1) := by decide +kernel
theorem dX4_rate_1 : decode cX4_rate 1 = .ok (.iload_n 2, 1) := by decide +kernel
theorem dX4_rate_2 : decode cX4_rate 2 = .ok (.invokevirtual 102, 3) := by decide +kernel
theorem dX4_rate_5 : decode cX4_rate 5 = .ok (.ifCond .ne 6, 3) := by decide +kernel
theorem dX4_rate_8 : decode cX4_rate 8 = .ok (.ldc 216, 2) := by decide +kernel
theorem dX4_rate_10 : decode cX4_rate 10 = .ok (.ireturn, 1) := by decide +kernel
theorem dX4_rate_11 : decode cX4_rate 11 = .ok (.iload_n 1, 1) := by decide +kernel
theorem dX4_rate_12 : decode cX4_rate 12 = .ok (.tableswitch 76 0 5 #[40, 46, 52, 58, 64, 70], 40) := by decide +kernel
theorem dX4_rate_52 : decode cX4_rate 52 = .ok (.aload_n 0, 1) := by decide +kernel
theorem dX4_rate_53 : decode cX4_rate 53 = .ok (.iload_n 2, 1) := by decide +kernel
theorem dX4_rate_54 : decode cX4_rate 54 = .ok (.invokevirtual 217, 3) := by decide +kernel
theorem dX4_rate_57 : decode cX4_rate 57 = .ok (.ireturn, 1) := by decide +kernel
theorem dX4_rate_58 : decode cX4_rate 58 = .ok (.aload_n 0, 1) := by decide +kernel
theorem dX4_rate_59 : decode cX4_rate 59 = .ok (.iload_n 2, 1) := by decide +kernel
theorem dX4_rate_60 : decode cX4_rate 60 = .ok (.invokevirtual 220, 3) := by decide +kernel
theorem dX4_rate_63 : decode cX4_rate 63 = .ok (.ireturn, 1) := by decide +kernel
theorem dX4_rate_64 : decode cX4_rate 64 = .ok (.aload_n 0, 1) := by decide +kernel
theorem dX4_rate_65 : decode cX4_rate 65 = .ok (.iload_n 2, 1) := by decide +kernel
theorem dX4_rate_66 : decode cX4_rate 66 = .ok (.invokevirtual 223, 3) := by decide +kernel
theorem dX4_rate_69 : decode cX4_rate 69 = .ok (.ireturn, 1) := by decide +kernel
theorem dX4_rate_70 : decode cX4_rate 70 = .ok (.aload_n 0, 1) := by decide +kernel
theorem dX4_rate_71 : decode cX4_rate 71 = .ok (.iload_n 2, 1) := by decide +kernel
theorem dX4_rate_72 : decode cX4_rate 72 = .ok (.invokevirtual 226, 3) := by decide +kernel
theorem dX4_rate_75 : decode cX4_rate 75 = .ok (.ireturn, 1) := by decide +kernel
theorem dX4_rate_76 : decode cX4_rate 76 = .ok (.aload_n 0, 1) := by decide +kernel
theorem dX4_rate_77 : decode cX4_rate 77 = .ok (.iload_n 2, 1) := by decide +kernel
theorem dX4_rate_78 : decode cX4_rate 78 = .ok (.invokevirtual 229, 3) := by decide +kernel
theorem dX4_rate_81 : decode cX4_rate 81 = .ok (.ireturn, 1) := by decide +kernel
theorem dX4_rate_82 : decode cX4_rate 82 = .ok (.aload_n 0, 1) := by decide +kernel
theorem dX4_rate_83 : decode cX4_rate 83 = .ok (.iload_n 2, 1) := by decide +kernel
theorem dX4_rate_84 : decode cX4_rate 84 = .ok (.invokevirtual 232, 3) := by decide +kernel
theorem dX4_rate_87 : decode cX4_rate 87 = .ok (.ireturn, 1) := by decide +kernel
theorem dX4_rate_88 : decode cX4_rate 88 = .ok (.ldc 216, 2) := by decide +kernel
theorem dX4_rate_90 : decode cX4_rate 90 = .ok (.ireturn, 1) := by decide +kernel
set_option maxRecDepth 20000 in
theorem ggX4_keep_X4_within : GoodIn wsX4_keep wsX4_within := goodIn_r _ [8] (by decide +kernel) (by decide +kernel)
set_option maxRecDepth 20000 in
theorem gX4_keep_X4_within : GoodIn wsX4_keep (va_wsS RX4 63 yX4_within wsX4_within) := goodIn_app (goodIn_of _ (by decide +kernel)) ggX4_keep_X4_within
set_option maxRecDepth 20000 in
theorem ggX4_keep_X3_becomes : GoodIn wsX4_keep wsX3_becomes := goodIn_r _ [13, 14, 15, 16, 17, 18, 19, 20, 21, 22, 23, 24, 25, 26, 27, 38, 39, 40, 41, 42, 43, 44, 45, 46, 47, 48] (by decide +kernel) (by decide +kernel)
set_option maxRecDepth 20000 in
theorem gX4_keep_X3_becomes : GoodIn wsX4_keep (wsV RX4 183 RX3 yX3_becomes wsX3_becomes) := goodIn_app (goodIn_of _ (by decide +kernel)) ggX4_keep_X3_becomes
theorem dX4_keep_0 : decode cX4_keep 0 = .ok (.iload_n 1, 1) := by decide +kernel
theorem dX4_keep_1 : decode cX4_keep 1 = .ok (.iconst 0, 1) := by decide +kernel
theorem dX4_keep_2 : decode cX4_keep 2 = .ok (.iconst 1, 1) := by decide +kernel
theorem dX4_keep_3 : decode cX4_keep 3 = .ok (.invokestatic 63, 3) := by decide +kernel
theorem dX4_keep_6 : decode cX4_keep 6 = .ok (.ifCond .ne 5, 3) := by decide +kernel
theorem dX4_keep_9 : decode cX4_keep 9 = .ok (.iconst (-1), 1) := by decide +kernel
theorem dX4_keep_10 : decode cX4_keep 10 = .ok (.ireturn, 1) := by decide +kernel
theorem dX4_keep_11 : decode cX4_keep 11 = .ok (.aload_n 0, 1) := by decide +kernel
theorem dX4_keep_12 : decode cX4_keep 12 = .ok (.getfield 33, 3) := by decide +kernel
theorem dX4_keep_15 : decode cX4_keep 15 = .ok (.iload_n 1, 1) := by decide +kernel
theorem dX4_keep_16 : decode cX4_keep 16 = .ok (.aaload, 1) := by decide +kernel
theorem dX4_keep_17 : decode cX4_keep 17 = .ok (.aload_n 0, 1) := by decide +kernel
theorem dX4_keep_18 : decode cX4_keep 18 = .ok (.getfield 26, 3) := by decide +kernel
theorem dX4_keep_21 : decode cX4_keep 21 = .ok (.invokevirtual 183, 3) := by decide +kernel
theorem dX4_keep_24 : decode cX4_keep 24 = .ok (.aload_n 0, 1) := by decide +kernel
theorem dX4_keep_25 : decode cX4_keep 25 = .ok (.getfield 37, 3) := by decide +kernel
theorem dX4_keep_28 : decode cX4_keep 28 = .ok (.iload_n 1, 1) := by decide +kernel
theorem dX4_keep_29 : decode cX4_keep 29 = .ok (.iconst 1, 1) := by decide +kernel
theorem dX4_keep_30 : decode cX4_keep 30 = .ok (.bastore, 1) := by decide +kernel
theorem dX4_keep_31 : decode cX4_keep 31 = .ok (.aload_n 0, 1) := by decide +kernel
theorem dX4_keep_32 : decode cX4_keep 32 = .ok (.getfield 26, 3) := by decide +kernel
theorem dX4_keep_35 : decode cX4_keep 35 = .ok (.getfield 141, 3) := by decide +kernel
theorem dX4_keep_38 : decode cX4_keep 38 = .ok (.ireturn, 1) := by decide +kernel
set_option maxRecDepth 20000 in
theorem ggX4_back_X4_within : GoodIn wsX4_back wsX4_within := goodIn_r _ [8] (by decide +kernel) (by decide +kernel)
set_option maxRecDepth 20000 in
theorem gX4_back_X4_within : GoodIn wsX4_back (va_wsS RX4 63 yX4_within wsX4_within) := goodIn_app (goodIn_of _ (by decide +kernel)) ggX4_back_X4_within
set_option maxRecDepth 20000 in
theorem ggX4_back_X3_becomes : GoodIn wsX4_back wsX3_becomes := goodIn_r _ [13, 14, 15, 16, 17, 18, 19, 20, 21, 22, 23, 24, 25, 26, 27, 38, 39, 40, 41, 42, 43, 44, 45, 46, 47, 48] (by decide +kernel) (by decide +kernel)
set_option maxRecDepth 20000 in
theorem gX4_back_X3_becomes : GoodIn wsX4_back (wsV RX4 183 RX3 yX3_becomes wsX3_becomes) := goodIn_app (goodIn_of _ (by decide +kernel)) ggX4_back_X3_becomes
theorem dX4_back_0 : decode cX4_back 0 = .ok (.iload_n 1, 1) := by decide +kernel
theorem dX4_back_1 : decode cX4_back 1 = .ok (.iconst 0, 1) := by decide +kernel
theorem dX4_back_2 : decode cX4_back 2 = .ok (.iconst 1, 1) := by decide +kernel
theorem dX4_back_3 : decode cX4_back 3 = .ok (.invokestatic 63, 3) := by decide +kernel
theorem dX4_back_6 : decode cX4_back 6 = .ok (.ifCond .ne 5, 3) := by decide +kernel
theorem dX4_back_9 : decode cX4_back 9 = .ok (.iconst (-1), 1) := by decide +kernel
theorem dX4_back_10 : decode cX4_back 10 = .ok (.ireturn, 1) := by decide +kernel
theorem dX4_back_11 : decode cX4_back 11 = .ok (.aload_n 0, 1) := by decide +kernel
theorem dX4_back_12 : decode cX4_back 12 = .ok (.getfield 37, 3) := by decide +kernel
theorem dX4_back_15 : decode cX4_back 15 = .ok (.iload_n 1, 1) := by decide +kernel
theorem dX4_back_16 : decode cX4_back 16 = .ok (.baload, 1) := by decide +kernel
theorem dX4_back_17 : decode cX4_back 17 = .ok (.ifCond .ne 6, 3) := by decide +kernel
theorem dX4_back_20 : decode cX4_back 20 = .ok (.bipush (-2), 2) := by decide +kernel
theorem dX4_back_22 : decode cX4_back 22 = .ok (.ireturn, 1) := by decide +kernel
theorem dX4_back_23 : decode cX4_back 23 = .ok (.aload_n 0, 1) := by decide +kernel
theorem dX4_back_24 : decode cX4_back 24 = .ok (.getfield 26, 3) := by decide +kernel
theorem dX4_back_27 : decode cX4_back 27 = .ok (.aload_n 0, 1) := by decide +kernel
theorem dX4_back_28 : decode cX4_back 28 = .ok (.getfield 33, 3) := by decide +kernel
theorem dX4_back_31 : decode cX4_back 31 = .ok (.iload_n 1, 1) := by decide +kernel
theorem dX4_back_32 : decode cX4_back 32 = .ok (.aaload, 1) := by decide +kernel
theorem dX4_back_33 : decode cX4_back 33 = .ok (.invokevirtual 183, 3) := by decide +kernel
theorem dX4_back_36 : decode cX4_back 36 = .ok (.aload_n 0, 1) := by decide +kernel
theorem dX4_back_37 : decode cX4_back 37 = .ok (.getfield 26, 3) := by decide +kernel
theorem dX4_back_40 : decode cX4_back 40 = .ok (.getfield 141, 3) := by decide +kernel
theorem dX4_back_43 : decode cX4_back 43 = .ok (.ireturn, 1) := by decide +kernel
set_option maxRecDepth 20000 in
theorem ggX4_count_X3_helpsTold : GoodIn wsX4_count wsX3_helpsTold := goodIn_r _ [12, 13, 40, 41, 42, 43, 44, 45, 46, 47, 48, 49, 50] (by decide +kernel) (by decide +kernel)
set_option maxRecDepth 20000 in
theorem gX4_count_X3_helpsTold : GoodIn wsX4_count (wsV RX4 235 RX3 yX3_helpsTold wsX3_helpsTold) := goodIn_app (goodIn_of _ (by decide +kernel)) ggX4_count_X3_helpsTold
set_option maxRecDepth 20000 in
theorem ggX4_count_J6_bitCount_0f7a4 : GoodIn wsX4_count wsJ6_bitCount_0f7a4 := goodIn_r _ [17, 18, 19, 20] (by decide +kernel) (by decide +kernel)
set_option maxRecDepth 20000 in
theorem gX4_count_J6_bitCount_0f7a4 : GoodIn wsX4_count (va_wsS RX4 241 yJ6_bitCount_0f7a4 wsJ6_bitCount_0f7a4) := goodIn_app (goodIn_of _ (by decide +kernel)) ggX4_count_J6_bitCount_0f7a4
theorem dX4_count_0 : decode cX4_count 0 = .ok (.iload_n 1, 1) := by decide +kernel
theorem dX4_count_1 : decode cX4_count 1 = .ok (.tableswitch 78 0 4 #[35, 43, 51, 59, 70], 35) := by decide +kernel
theorem dX4_count_36 : decode cX4_count 36 = .ok (.aload_n 0, 1) := by decide +kernel
theorem dX4_count_37 : decode cX4_count 37 = .ok (.getfield 48, 3) := by decide +kernel
theorem dX4_count_40 : decode cX4_count 40 = .ok (.getfield 144, 3) := by decide +kernel
theorem dX4_count_43 : decode cX4_count 43 = .ok (.ireturn, 1) := by decide +kernel
theorem dX4_count_44 : decode cX4_count 44 = .ok (.aload_n 0, 1) := by decide +kernel
theorem dX4_count_45 : decode cX4_count 45 = .ok (.getfield 48, 3) := by decide +kernel
theorem dX4_count_48 : decode cX4_count 48 = .ok (.getfield 197, 3) := by decide +kernel
theorem dX4_count_51 : decode cX4_count 51 = .ok (.ireturn, 1) := by decide +kernel
theorem dX4_count_52 : decode cX4_count 52 = .ok (.aload_n 0, 1) := by decide +kernel
theorem dX4_count_53 : decode cX4_count 53 = .ok (.getfield 26, 3) := by decide +kernel
theorem dX4_count_56 : decode cX4_count 56 = .ok (.invokevirtual 235, 3) := by decide +kernel
theorem dX4_count_59 : decode cX4_count 59 = .ok (.ireturn, 1) := by decide +kernel
theorem dX4_count_60 : decode cX4_count 60 = .ok (.aload_n 0, 1) := by decide +kernel
theorem dX4_count_61 : decode cX4_count 61 = .ok (.getfield 26, 3) := by decide +kernel
theorem dX4_count_64 : decode cX4_count 64 = .ok (.getfield 238, 3) := by decide +kernel
theorem dX4_count_67 : decode cX4_count 67 = .ok (.invokestatic 241, 3) := by decide +kernel
theorem dX4_count_70 : decode cX4_count 70 = .ok (.ireturn, 1) := by decide +kernel
theorem dX4_count_71 : decode cX4_count 71 = .ok (.aload_n 0, 1) := by decide +kernel
theorem dX4_count_72 : decode cX4_count 72 = .ok (.getfield 10, 3) := by decide +kernel
theorem dX4_count_75 : decode cX4_count 75 = .ok (.getfield 67, 3) := by decide +kernel
theorem dX4_count_78 : decode cX4_count 78 = .ok (.ireturn, 1) := by decide +kernel
theorem dX4_count_79 : decode cX4_count 79 = .ok (.iconst (-1), 1) := by decide +kernel
theorem dX4_count_80 : decode cX4_count 80 = .ok (.ireturn, 1) := by decide +kernel
theorem dX4_trace_0 : decode cX4_trace 0 = .ok (.aload_n 0, 1) := by decide +kernel
theorem dX4_trace_1 : decode cX4_trace 1 = .ok (.getfield 55, 3) := by decide +kernel
theorem dX4_trace_4 : decode cX4_trace 4 = .ok (.lreturn, 1) := by decide +kernel
set_option maxRecDepth 20000 in
theorem ggX4_isTrade_X4_within : GoodIn wsX4_isTrade wsX4_within := goodIn_r _ [6] (by decide +kernel) (by decide +kernel)
set_option maxRecDepth 20000 in
theorem gX4_isTrade_X4_within : GoodIn wsX4_isTrade (va_wsS RX4 63 yX4_within wsX4_within) := goodIn_app (goodIn_of _ (by decide +kernel)) ggX4_isTrade_X4_within
theorem dX4_isTrade_0 : decode cX4_isTrade 0 = .ok (.iload_n 1, 1) := by decide +kernel
theorem dX4_isTrade_1 : decode cX4_isTrade 1 = .ok (.iconst 0, 1) := by decide +kernel
theorem dX4_isTrade_2 : decode cX4_isTrade 2 = .ok (.aload_n 0, 1) := by decide +kernel
theorem dX4_isTrade_3 : decode cX4_isTrade 3 = .ok (.getfield 48, 3) := by decide +kernel
theorem dX4_isTrade_6 : decode cX4_isTrade 6 = .ok (.getfield 144, 3) := by decide +kernel
theorem dX4_isTrade_9 : decode cX4_isTrade 9 = .ok (.iconst 1, 1) := by decide +kernel
theorem dX4_isTrade_10 : decode cX4_isTrade 10 = .ok (.isub, 1) := by decide +kernel
theorem dX4_isTrade_11 : decode cX4_isTrade 11 = .ok (.invokestatic 63, 3) := by decide +kernel
theorem dX4_isTrade_14 : decode cX4_isTrade 14 = .ok (.ireturn, 1) := by decide +kernel
set_option maxRecDepth 20000 in
theorem ggX4_isPerson_X4_within : GoodIn wsX4_isPerson wsX4_within := goodIn_r _ [6] (by decide +kernel) (by decide +kernel)
set_option maxRecDepth 20000 in
theorem gX4_isPerson_X4_within : GoodIn wsX4_isPerson (va_wsS RX4 63 yX4_within wsX4_within) := goodIn_app (goodIn_of _ (by decide +kernel)) ggX4_isPerson_X4_within
theorem dX4_isPerson_0 : decode cX4_isPerson 0 = .ok (.iload_n 1, 1) := by decide +kernel
theorem dX4_isPerson_1 : decode cX4_isPerson 1 = .ok (.iconst 0, 1) := by decide +kernel
theorem dX4_isPerson_2 : decode cX4_isPerson 2 = .ok (.aload_n 0, 1) := by decide +kernel
theorem dX4_isPerson_3 : decode cX4_isPerson 3 = .ok (.getfield 48, 3) := by decide +kernel
theorem dX4_isPerson_6 : decode cX4_isPerson 6 = .ok (.getfield 197, 3) := by decide +kernel
theorem dX4_isPerson_9 : decode cX4_isPerson 9 = .ok (.iconst 1, 1) := by decide +kernel
theorem dX4_isPerson_10 : decode cX4_isPerson 10 = .ok (.isub, 1) := by decide +kernel
theorem dX4_isPerson_11 : decode cX4_isPerson 11 = .ok (.invokestatic 63, 3) := by decide +kernel
theorem dX4_isPerson_14 : decode cX4_isPerson 14 = .ok (.ireturn, 1) := by decide +kernel
set_option maxRecDepth 20000 in
theorem ggX4_areTwo_X4_isPerson : GoodIn wsX4_areTwo wsX4_isPerson := goodIn_r _ [5, 6, 7, 8, 9, 4, 10, 11, 12, 13, 14, 15, 16, 17, 18, 19, 20, 21, 22, 23, 24, 25, 26, 27, 28, 29] (by decide +kernel) (by decide +kernel)
set_option maxRecDepth 20000 in
theorem gX4_areTwo_X4_isPerson : GoodIn wsX4_areTwo (wsV RX4 102 RX4 yX4_isPerson wsX4_isPerson) := goodIn_app (goodIn_of _ (by decide +kernel)) ggX4_areTwo_X4_isPerson
theorem dX4_areTwo_0 : decode cX4_areTwo 0 = .ok (.aload_n 0, 1) := by decide +kernel
theorem dX4_areTwo_1 : decode cX4_areTwo 1 = .ok (.iload_n 1, 1) := by decide +kernel
theorem dX4_areTwo_2 : decode cX4_areTwo 2 = .ok (.invokevirtual 102, 3) := by decide +kernel
theorem dX4_areTwo_5 : decode cX4_areTwo 5 = .ok (.ifCond .eq 20, 3) := by decide +kernel
theorem dX4_areTwo_8 : decode cX4_areTwo 8 = .ok (.aload_n 0, 1) := by decide +kernel
theorem dX4_areTwo_9 : decode cX4_areTwo 9 = .ok (.iload_n 2, 1) := by decide +kernel
theorem dX4_areTwo_10 : decode cX4_areTwo 10 = .ok (.invokevirtual 102, 3) := by decide +kernel
theorem dX4_areTwo_13 : decode cX4_areTwo 13 = .ok (.ifCond .eq 12, 3) := by decide +kernel
theorem dX4_areTwo_16 : decode cX4_areTwo 16 = .ok (.iload_n 1, 1) := by decide +kernel
theorem dX4_areTwo_17 : decode cX4_areTwo 17 = .ok (.iload_n 2, 1) := by decide +kernel
theorem dX4_areTwo_18 : decode cX4_areTwo 18 = .ok (.if_icmp .eq 7, 3) := by decide +kernel
theorem dX4_areTwo_21 : decode cX4_areTwo 21 = .ok (.iconst 1, 1) := by decide +kernel
theorem dX4_areTwo_22 : decode cX4_areTwo 22 = .ok (.goto 4, 3) := by decide +kernel
theorem dX4_areTwo_25 : decode cX4_areTwo 25 = .ok (.iconst 0, 1) := by decide +kernel
theorem dX4_areTwo_26 : decode cX4_areTwo 26 = .ok (.ireturn, 1) := by decide +kernel
set_option maxRecDepth 20000 in
theorem ggX4_isForetold_X4_within : GoodIn wsX4_isForetold wsX4_within := goodIn_r _ [4] (by decide +kernel) (by decide +kernel)
set_option maxRecDepth 20000 in
theorem gX4_isForetold_X4_within : GoodIn wsX4_isForetold (va_wsS RX4 63 yX4_within wsX4_within) := goodIn_app (goodIn_of _ (by decide +kernel)) ggX4_isForetold_X4_within
theorem dX4_isForetold_0 : decode cX4_isForetold 0 = .ok (.iload_n 0, 1) := by decide +kernel
theorem dX4_isForetold_1 : decode cX4_isForetold 1 = .ok (.iconst 1, 1) := by decide +kernel
theorem dX4_isForetold_2 : decode cX4_isForetold 2 = .ok (.bipush 40, 2) := by decide +kernel
theorem dX4_isForetold_4 : decode cX4_isForetold 4 = .ok (.invokestatic 63, 3) := by decide +kernel
theorem dX4_isForetold_7 : decode cX4_isForetold 7 = .ok (.ifCond .eq 16, 3) := by decide +kernel
theorem dX4_isForetold_10 : decode cX4_isForetold 10 = .ok (.iload_n 1, 1) := by decide +kernel
theorem dX4_isForetold_11 : decode cX4_isForetold 11 = .ok (.iconst 0, 1) := by decide +kernel
theorem dX4_isForetold_12 : decode cX4_isForetold 12 = .ok (.iconst 1, 1) := by decide +kernel
theorem dX4_isForetold_13 : decode cX4_isForetold 13 = .ok (.invokestatic 63, 3) := by decide +kernel
theorem dX4_isForetold_16 : decode cX4_isForetold 16 = .ok (.ifCond .eq 7, 3) := by decide +kernel
theorem dX4_isForetold_19 : decode cX4_isForetold 19 = .ok (.iconst 1, 1) := by decide +kernel
theorem dX4_isForetold_20 : decode cX4_isForetold 20 = .ok (.goto 4, 3) := by decide +kernel
theorem dX4_isForetold_23 : decode cX4_isForetold 23 = .ok (.iconst 0, 1) := by decide +kernel
theorem dX4_isForetold_24 : decode cX4_isForetold 24 = .ok (.ireturn, 1) := by decide +kernel
theorem dX4_swap_0 : decode cX4_swap 0 = .ok (.aload_n 0, 1) := by decide +kernel
theorem dX4_swap_1 : decode cX4_swap 1 = .ok (.iload_n 1, 1) := by decide +kernel
theorem dX4_swap_2 : decode cX4_swap 2 = .ok (.iaload, 1) := by decide +kernel
theorem dX4_swap_3 : decode cX4_swap 3 = .ok (.istore_n 3, 1) := by decide +kernel
theorem dX4_swap_4 : decode cX4_swap 4 = .ok (.aload_n 0, 1) := by decide +kernel
theorem dX4_swap_5 : decode cX4_swap 5 = .ok (.iload_n 1, 1) := by decide +kernel
theorem dX4_swap_6 : decode cX4_swap 6 = .ok (.aload_n 0, 1) := by decide +kernel
theorem dX4_swap_7 : decode cX4_swap 7 = .ok (.iload_n 2, 1) := by decide +kernel
theorem dX4_swap_8 : decode cX4_swap 8 = .ok (.iaload, 1) := by decide +kernel
theorem dX4_swap_9 : decode cX4_swap 9 = .ok (.iastore, 1) := by decide +kernel
theorem dX4_swap_10 : decode cX4_swap 10 = .ok (.aload_n 0, 1) := by decide +kernel
theorem dX4_swap_11 : decode cX4_swap 11 = .ok (.iload_n 2, 1) := by decide +kernel
theorem dX4_swap_12 : decode cX4_swap 12 = .ok (.iload_n 3, 1) := by decide +kernel
theorem dX4_swap_13 : decode cX4_swap 13 = .ok (.iastore, 1) := by decide +kernel
theorem dX4_swap_14 : decode cX4_swap 14 = .ok (.return_, 1) := by decide +kernel
theorem dX4_sum_0 : decode cX4_sum 0 = .ok (.iconst 0, 1) := by decide +kernel
theorem dX4_sum_1 : decode cX4_sum 1 = .ok (.istore_n 2, 1) := by decide +kernel
theorem dX4_sum_2 : decode cX4_sum 2 = .ok (.iconst 0, 1) := by decide +kernel
theorem dX4_sum_3 : decode cX4_sum 3 = .ok (.istore_n 3, 1) := by decide +kernel
theorem dX4_sum_4 : decode cX4_sum 4 = .ok (.iload_n 3, 1) := by decide +kernel
theorem dX4_sum_5 : decode cX4_sum 5 = .ok (.iload_n 1, 1) := by decide +kernel
theorem dX4_sum_6 : decode cX4_sum 6 = .ok (.if_icmp .ge 15, 3) := by decide +kernel
theorem dX4_sum_9 : decode cX4_sum 9 = .ok (.iload_n 2, 1) := by decide +kernel
theorem dX4_sum_10 : decode cX4_sum 10 = .ok (.aload_n 0, 1) := by decide +kernel
theorem dX4_sum_11 : decode cX4_sum 11 = .ok (.iload_n 3, 1) := by decide +kernel
theorem dX4_sum_12 : decode cX4_sum 12 = .ok (.iaload, 1) := by decide +kernel
theorem dX4_sum_13 : decode cX4_sum 13 = .ok (.iadd, 1) := by decide +kernel
theorem dX4_sum_14 : decode cX4_sum 14 = .ok (.istore_n 2, 1) := by decide +kernel
theorem dX4_sum_15 : decode cX4_sum 15 = .ok (.iinc 3 1, 3) := by decide +kernel
theorem dX4_sum_18 : decode cX4_sum 18 = .ok (.goto (-14), 3) := by decide +kernel
theorem dX4_sum_21 : decode cX4_sum 21 = .ok (.iload_n 2, 1) := by decide +kernel
theorem dX4_sum_22 : decode cX4_sum 22 = .ok (.ireturn, 1) := by decide +kernel
set_option maxRecDepth 20000 in
theorem ggX4_lackingByOrder_X3_becomes : GoodIn wsX4_lackingByOrder wsX3_becomes := goodIn_r _ [15, 16, 17, 18, 19, 20, 6, 7, 8, 21, 22, 23, 24, 25, 26, 110, 111, 112, 113, 114, 115, 116, 117, 118, 119, 120] (by decide +kernel) (by decide +kernel)
set_option maxRecDepth 20000 in
theorem gX4_lackingByOrder_X3_becomes : GoodIn wsX4_lackingByOrder (wsV RX4 183 RX3 yX3_becomes wsX3_becomes) := goodIn_app (goodIn_of _ (by decide +kernel)) ggX4_lackingByOrder_X3_becomes
set_option maxRecDepth 20000 in
theorem ggX4_lackingByOrder_X3_goRounds : GoodIn wsX4_lackingByOrder wsX3_goRounds := goodIn_r _ [30, 16, 31, 32, 33, 34, 35, 36, 37, 14, 38, 39, 40, 17, 41, 18, 42, 43, 44, 45, 46, 47, 48, 49, 50, 51, 21, 52, 53, 26, 54, 55, 56, 57, 58, 59, 60, 61, 62, 63, 22, 64, 65, 66, 67, 68, 69, 70, 71, 72, 73, 74, 75, 76, 19, 24, 77, 78, 79, 80, 81, 82, 83, 84, 85, 86, 87, 23, 88, 89, 90, 91, 92, 93, 94, 95, 96, 97, 98, 99, 25, 110, 111, 112, 113, 114, 115, 116, 117, 118, 119, 120, 121, 122, 123, 124, 125, 126, 127, 128, 129, 130, 131, 132] (by decide +kernel) (by decide +kernel)
set_option maxRecDepth 20000 in
theorem gX4_lackingByOrder_X3_goRounds : GoodIn wsX4_lackingByOrder (wsV RX4 148 RX3 yX3_goRounds wsX3_goRounds) := goodIn_app (goodIn_of _ (by decide +kernel)) ggX4_lackingByOrder_X3_goRounds
theorem dX4_lackingByOrder_0 : decode cX4_lackingByOrder 0 = .ok (.aload_n 0, 1) := by decide +kernel
theorem dX4_lackingByOrder_1 : decode cX4_lackingByOrder 1 = .ok (.getfield 30, 3) := by decide +kernel
theorem dX4_lackingByOrder_4 : decode cX4_lackingByOrder 4 = .ok (.aload_n 0, 1) := by decide +kernel
theorem dX4_lackingByOrder_5 : decode cX4_lackingByOrder 5 = .ok (.getfield 26, 3) := by decide +kernel
theorem dX4_lackingByOrder_8 : decode cX4_lackingByOrder 8 = .ok (.invokevirtual 183, 3) := by decide +kernel
theorem dX4_lackingByOrder_11 : decode cX4_lackingByOrder 11 = .ok (.aload_n 0, 1) := by decide +kernel
theorem dX4_lackingByOrder_12 : decode cX4_lackingByOrder 12 = .ok (.getfield 41, 3) := by decide +kernel
theorem dX4_lackingByOrder_15 : decode cX4_lackingByOrder 15 = .ok (.iconst 0, 1) := by decide +kernel
theorem dX4_lackingByOrder_16 : decode cX4_lackingByOrder 16 = .ok (.aload_n 0, 1) := by decide +kernel
theorem dX4_lackingByOrder_17 : decode cX4_lackingByOrder 17 = .ok (.getfield 30, 3) := by decide +kernel
theorem dX4_lackingByOrder_20 : decode cX4_lackingByOrder 20 = .ok (.getfield 129, 3) := by decide +kernel
theorem dX4_lackingByOrder_23 : decode cX4_lackingByOrder 23 = .ok (.iconst 0, 1) := by decide +kernel
theorem dX4_lackingByOrder_24 : decode cX4_lackingByOrder 24 = .ok (.bipush 6, 2) := by decide +kernel
theorem dX4_lackingByOrder_26 : decode cX4_lackingByOrder 26 = .ok (.invokestatic 246, 3) := by decide +kernel
theorem dX4_lackingByOrder_29 : decode cX4_lackingByOrder 29 = .ok (.aload_n 0, 1) := by decide +kernel
theorem dX4_lackingByOrder_30 : decode cX4_lackingByOrder 30 = .ok (.getfield 30, 3) := by decide +kernel
theorem dX4_lackingByOrder_33 : decode cX4_lackingByOrder 33 = .ok (.iload_n 1, 1) := by decide +kernel
theorem dX4_lackingByOrder_34 : decode cX4_lackingByOrder 34 = .ok (.iload_n 2, 1) := by decide +kernel
theorem dX4_lackingByOrder_35 : decode cX4_lackingByOrder 35 = .ok (.aload_n 0, 1) := by decide +kernel
theorem dX4_lackingByOrder_36 : decode cX4_lackingByOrder 36 = .ok (.getfield 48, 3) := by decide +kernel
theorem dX4_lackingByOrder_39 : decode cX4_lackingByOrder 39 = .ok (.aload_n 0, 1) := by decide +kernel
theorem dX4_lackingByOrder_40 : decode cX4_lackingByOrder 40 = .ok (.getfield 19, 3) := by decide +kernel
theorem dX4_lackingByOrder_43 : decode cX4_lackingByOrder 43 = .ok (.invokevirtual 148, 3) := by decide +kernel
theorem dX4_lackingByOrder_46 : decode cX4_lackingByOrder 46 = .ok (.ireturn, 1) := by decide +kernel
set_option maxRecDepth 20000 in
theorem ggX4_lackingIfTaught_X3_becomes : GoodIn wsX4_lackingIfTaught wsX3_becomes := goodIn_r _ [10, 11, 12, 13, 14, 15, 16, 17, 18, 19, 20, 21, 22, 23, 24, 109, 110, 111, 112, 113, 114, 115, 116, 117, 118, 119] (by decide +kernel) (by decide +kernel)
set_option maxRecDepth 20000 in
theorem gX4_lackingIfTaught_X3_becomes : GoodIn wsX4_lackingIfTaught (wsV RX4 183 RX3 yX3_becomes wsX3_becomes) := goodIn_app (goodIn_of _ (by decide +kernel)) ggX4_lackingIfTaught_X3_becomes
set_option maxRecDepth 20000 in
theorem ggX4_lackingIfTaught_X4_cell : GoodIn wsX4_lackingIfTaught wsX4_cell := goodIn_r _ [28] (by decide +kernel) (by decide +kernel)
set_option maxRecDepth 20000 in
theorem gX4_lackingIfTaught_X4_cell : GoodIn wsX4_lackingIfTaught (va_wsS RX4 108 yX4_cell wsX4_cell) := goodIn_app (goodIn_of _ (by decide +kernel)) ggX4_lackingIfTaught_X4_cell
set_option maxRecDepth 20000 in
theorem ggX4_lackingIfTaught_X3_goRounds : GoodIn wsX4_lackingIfTaught wsX3_goRounds := goodIn_r _ [32, 11, 33, 34, 35, 36, 37, 38, 39, 9, 40, 41, 42, 12, 43, 13, 44, 45, 46, 47, 48, 49, 50, 51, 52, 53, 19, 54, 55, 24, 56, 57, 58, 59, 60, 61, 62, 63, 64, 65, 20, 66, 67, 68, 69, 70, 71, 72, 73, 74, 75, 76, 77, 78, 14, 22, 79, 80, 81, 26, 27, 28, 82, 83, 84, 85, 86, 21, 87, 88, 89, 90, 91, 92, 93, 94, 95, 96, 97, 98, 23, 109, 110, 111, 112, 113, 114, 115, 116, 117, 118, 119, 120, 121, 122, 123, 124, 125, 126, 127, 128, 129, 130, 131] (by decide +kernel) (by decide +kernel)
set_option maxRecDepth 20000 in
theorem gX4_lackingIfTaught_X3_goRounds : GoodIn wsX4_lackingIfTaught (wsV RX4 148 RX3 yX3_goRounds wsX3_goRounds) := goodIn_app (goodIn_of _ (by decide +kernel)) ggX4_lackingIfTaught_X3_goRounds
theorem dX4_lackingIfTaught_0 : decode cX4_lackingIfTaught 0 = .ok (.aload_n 0, 1) := by decide +kernel
theorem dX4_lackingIfTaught_1 : decode cX4_lackingIfTaught 1 = .ok (.getfield 30, 3) := by decide +kernel
theorem dX4_lackingIfTaught_4 : decode cX4_lackingIfTaught 4 = .ok (.aload_n 0, 1) := by decide +kernel
theorem dX4_lackingIfTaught_5 : decode cX4_lackingIfTaught 5 = .ok (.getfield 26, 3) := by decide +kernel
theorem dX4_lackingIfTaught_8 : decode cX4_lackingIfTaught 8 = .ok (.invokevirtual 183, 3) := by decide +kernel
theorem dX4_lackingIfTaught_11 : decode cX4_lackingIfTaught 11 = .ok (.aload_n 0, 1) := by decide +kernel
theorem dX4_lackingIfTaught_12 : decode cX4_lackingIfTaught 12 = .ok (.getfield 30, 3) := by decide +kernel
theorem dX4_lackingIfTaught_15 : decode cX4_lackingIfTaught 15 = .ok (.getfield 105, 3) := by decide +kernel
theorem dX4_lackingIfTaught_18 : decode cX4_lackingIfTaught 18 = .ok (.iload_n 1, 1) := by decide +kernel
theorem dX4_lackingIfTaught_19 : decode cX4_lackingIfTaught 19 = .ok (.iload_n 2, 1) := by decide +kernel
theorem dX4_lackingIfTaught_20 : decode cX4_lackingIfTaught 20 = .ok (.invokestatic 108, 3) := by decide +kernel
theorem dX4_lackingIfTaught_23 : decode cX4_lackingIfTaught 23 = .ok (.dup2, 1) := by decide +kernel
theorem dX4_lackingIfTaught_24 : decode cX4_lackingIfTaught 24 = .ok (.iaload, 1) := by decide +kernel
theorem dX4_lackingIfTaught_25 : decode cX4_lackingIfTaught 25 = .ok (.iconst 1, 1) := by decide +kernel
theorem dX4_lackingIfTaught_26 : decode cX4_lackingIfTaught 26 = .ok (.iadd, 1) := by decide +kernel
theorem dX4_lackingIfTaught_27 : decode cX4_lackingIfTaught 27 = .ok (.iastore, 1) := by decide +kernel
theorem dX4_lackingIfTaught_28 : decode cX4_lackingIfTaught 28 = .ok (.aload_n 0, 1) := by decide +kernel
theorem dX4_lackingIfTaught_29 : decode cX4_lackingIfTaught 29 = .ok (.getfield 30, 3) := by decide +kernel
theorem dX4_lackingIfTaught_32 : decode cX4_lackingIfTaught 32 = .ok (.iload_n 3, 1) := by decide +kernel
theorem dX4_lackingIfTaught_33 : decode cX4_lackingIfTaught 33 = .ok (.iload 4, 2) := by decide +kernel
theorem dX4_lackingIfTaught_35 : decode cX4_lackingIfTaught 35 = .ok (.aload_n 0, 1) := by decide +kernel
theorem dX4_lackingIfTaught_36 : decode cX4_lackingIfTaught 36 = .ok (.getfield 48, 3) := by decide +kernel
theorem dX4_lackingIfTaught_39 : decode cX4_lackingIfTaught 39 = .ok (.aload_n 0, 1) := by decide +kernel
theorem dX4_lackingIfTaught_40 : decode cX4_lackingIfTaught 40 = .ok (.getfield 19, 3) := by decide +kernel
theorem dX4_lackingIfTaught_43 : decode cX4_lackingIfTaught 43 = .ok (.invokevirtual 148, 3) := by decide +kernel
theorem dX4_lackingIfTaught_46 : decode cX4_lackingIfTaught 46 = .ok (.ireturn, 1) := by decide +kernel
set_option maxRecDepth 20000 in
theorem ggX4_lackingIfChanged_X3_becomes : GoodIn wsX4_lackingIfChanged wsX3_becomes := goodIn_r _ [10, 11, 12, 13, 14, 15, 16, 17, 18, 19, 20, 21, 22, 23, 24, 115, 116, 117, 118, 119, 120, 121, 122, 123, 124, 125] (by decide +kernel) (by decide +kernel)
set_option maxRecDepth 20000 in
theorem gX4_lackingIfChanged_X3_becomes : GoodIn wsX4_lackingIfChanged (wsV RX4 183 RX3 yX3_becomes wsX3_becomes) := goodIn_app (goodIn_of _ (by decide +kernel)) ggX4_lackingIfChanged_X3_becomes
set_option maxRecDepth 20000 in
theorem ggX4_lackingIfChanged_X3_fallIll : GoodIn wsX4_lackingIfChanged wsX3_fallIll := goodIn_r _ [28, 13, 115, 116, 117, 118, 119, 120, 121, 122, 123, 124, 125] (by decide +kernel) (by decide +kernel)
set_option maxRecDepth 20000 in
theorem gX4_lackingIfChanged_X3_fallIll : GoodIn wsX4_lackingIfChanged (wsV RX4 159 RX3 yX3_fallIll wsX3_fallIll) := goodIn_app (goodIn_of _ (by decide +kernel)) ggX4_lackingIfChanged_X3_fallIll
set_option maxRecDepth 20000 in
theorem ggX4_lackingIfChanged_X4_swap : GoodIn wsX4_lackingIfChanged wsX4_swap := goodIn_r _ [32] (by decide +kernel) (by decide +kernel)
set_option maxRecDepth 20000 in
theorem gX4_lackingIfChanged_X4_swap : GoodIn wsX4_lackingIfChanged (va_wsS RX4 166 yX4_swap wsX4_swap) := goodIn_app (goodIn_of _ (by decide +kernel)) ggX4_lackingIfChanged_X4_swap
set_option maxRecDepth 20000 in
theorem ggX4_lackingIfChanged_X3_goRounds : GoodIn wsX4_lackingIfChanged wsX3_goRounds := goodIn_r _ [36, 11, 37, 38, 39, 40, 41, 42, 43, 9, 44, 45, 46, 12, 47, 13, 48, 49, 50, 51, 52, 53, 54, 55, 56, 57, 19, 58, 59, 24, 60, 61, 62, 63, 64, 65, 66, 67, 68, 69, 20, 70, 71, 72, 73, 74, 75, 76, 77, 78, 79, 80, 81, 82, 14, 22, 83, 84, 85, 86, 31, 87, 88, 89, 90, 91, 92, 21, 93, 94, 95, 96, 97, 98, 99, 100, 101, 102, 103, 104, 23, 115, 116, 117, 118, 119, 120, 121, 122, 123, 124, 125, 126, 127, 128, 129, 130, 131, 132, 133, 134, 135, 136, 137] (by decide +kernel) (by decide +kernel)
set_option maxRecDepth 20000 in
theorem gX4_lackingIfChanged_X3_goRounds : GoodIn wsX4_lackingIfChanged (wsV RX4 148 RX3 yX3_goRounds wsX3_goRounds) := goodIn_app (goodIn_of _ (by decide +kernel)) ggX4_lackingIfChanged_X3_goRounds
theorem dX4_lackingIfChanged_0 : decode cX4_lackingIfChanged 0 = .ok (.aload_n 0, 1) := by decide +kernel
theorem dX4_lackingIfChanged_1 : decode cX4_lackingIfChanged 1 = .ok (.getfield 30, 3) := by decide +kernel
theorem dX4_lackingIfChanged_4 : decode cX4_lackingIfChanged 4 = .ok (.aload_n 0, 1) := by decide +kernel
theorem dX4_lackingIfChanged_5 : decode cX4_lackingIfChanged 5 = .ok (.getfield 26, 3) := by decide +kernel
theorem dX4_lackingIfChanged_8 : decode cX4_lackingIfChanged 8 = .ok (.invokevirtual 183, 3) := by decide +kernel
theorem dX4_lackingIfChanged_11 : decode cX4_lackingIfChanged 11 = .ok (.aload_n 0, 1) := by decide +kernel
theorem dX4_lackingIfChanged_12 : decode cX4_lackingIfChanged 12 = .ok (.getfield 30, 3) := by decide +kernel
theorem dX4_lackingIfChanged_15 : decode cX4_lackingIfChanged 15 = .ok (.iload_n 1, 1) := by decide +kernel
theorem dX4_lackingIfChanged_16 : decode cX4_lackingIfChanged 16 = .ok (.invokevirtual 159, 3) := by decide +kernel
theorem dX4_lackingIfChanged_19 : decode cX4_lackingIfChanged 19 = .ok (.aload_n 0, 1) := by decide +kernel
theorem dX4_lackingIfChanged_20 : decode cX4_lackingIfChanged 20 = .ok (.getfield 30, 3) := by decide +kernel
theorem dX4_lackingIfChanged_23 : decode cX4_lackingIfChanged 23 = .ok (.getfield 112, 3) := by decide +kernel
theorem dX4_lackingIfChanged_26 : decode cX4_lackingIfChanged 26 = .ok (.iload_n 1, 1) := by decide +kernel
theorem dX4_lackingIfChanged_27 : decode cX4_lackingIfChanged 27 = .ok (.iload_n 2, 1) := by decide +kernel
theorem dX4_lackingIfChanged_28 : decode cX4_lackingIfChanged 28 = .ok (.invokestatic 166, 3) := by decide +kernel
theorem dX4_lackingIfChanged_31 : decode cX4_lackingIfChanged 31 = .ok (.aload_n 0, 1) := by decide +kernel
theorem dX4_lackingIfChanged_32 : decode cX4_lackingIfChanged 32 = .ok (.getfield 30, 3) := by decide +kernel
theorem dX4_lackingIfChanged_35 : decode cX4_lackingIfChanged 35 = .ok (.iload_n 3, 1) := by decide +kernel
theorem dX4_lackingIfChanged_36 : decode cX4_lackingIfChanged 36 = .ok (.iload 4, 2) := by decide +kernel
theorem dX4_lackingIfChanged_38 : decode cX4_lackingIfChanged 38 = .ok (.aload_n 0, 1) := by decide +kernel
theorem dX4_lackingIfChanged_39 : decode cX4_lackingIfChanged 39 = .ok (.getfield 48, 3) := by decide +kernel
theorem dX4_lackingIfChanged_42 : decode cX4_lackingIfChanged 42 = .ok (.aload_n 0, 1) := by decide +kernel
theorem dX4_lackingIfChanged_43 : decode cX4_lackingIfChanged 43 = .ok (.getfield 19, 3) := by decide +kernel
theorem dX4_lackingIfChanged_46 : decode cX4_lackingIfChanged 46 = .ok (.invokevirtual 148, 3) := by decide +kernel
theorem dX4_lackingIfChanged_49 : decode cX4_lackingIfChanged 49 = .ok (.ireturn, 1) := by decide +kernel
set_option maxRecDepth 20000 in
theorem ggX4_worksAsNow_X3_tradeOf : GoodIn wsX4_worksAsNow wsX3_tradeOf := goodIn_r _ [9, 10, 11, 12, 13, 8, 14, 15, 16, 17, 18, 19, 20, 21, 22, 23, 43, 44, 45, 46, 47, 48, 49, 50, 51, 52, 53, 34, 35, 36, 37, 38, 39, 40, 41, 42] (by decide +kernel) (by decide +kernel)
set_option maxRecDepth 20000 in
theorem gX4_worksAsNow_X3_tradeOf : GoodIn wsX4_worksAsNow (wsV RX4 115 RX3 yX3_tradeOf wsX3_tradeOf) := goodIn_app (goodIn_of _ (by decide +kernel)) ggX4_worksAsNow_X3_tradeOf
theorem dX4_worksAsNow_0 : decode cX4_worksAsNow 0 = .ok (.iconst 0, 1) := by decide +kernel
theorem dX4_worksAsNow_1 : decode cX4_worksAsNow 1 = .ok (.istore_n 1, 1) := by decide +kernel
theorem dX4_worksAsNow_2 : decode cX4_worksAsNow 2 = .ok (.iload_n 1, 1) := by decide +kernel
theorem dX4_worksAsNow_3 : decode cX4_worksAsNow 3 = .ok (.aload_n 0, 1) := by decide +kernel
theorem dX4_worksAsNow_4 : decode cX4_worksAsNow 4 = .ok (.getfield 48, 3) := by decide +kernel
theorem dX4_worksAsNow_7 : decode cX4_worksAsNow 7 = .ok (.getfield 197, 3) := by decide +kernel
theorem dX4_worksAsNow_10 : decode cX4_worksAsNow 10 = .ok (.if_icmp .ge 38, 3) := by decide +kernel
theorem dX4_worksAsNow_13 : decode cX4_worksAsNow 13 = .ok (.aload_n 0, 1) := by decide +kernel
theorem dX4_worksAsNow_14 : decode cX4_worksAsNow 14 = .ok (.getfield 30, 3) := by decide +kernel
theorem dX4_worksAsNow_17 : decode cX4_worksAsNow 17 = .ok (.iload_n 1, 1) := by decide +kernel
theorem dX4_worksAsNow_18 : decode cX4_worksAsNow 18 = .ok (.aload_n 0, 1) := by decide +kernel
theorem dX4_worksAsNow_19 : decode cX4_worksAsNow 19 = .ok (.getfield 48, 3) := by decide +kernel
theorem dX4_worksAsNow_22 : decode cX4_worksAsNow 22 = .ok (.invokevirtual 115, 3) := by decide +kernel
theorem dX4_worksAsNow_25 : decode cX4_worksAsNow 25 = .ok (.aload_n 0, 1) := by decide +kernel
theorem dX4_worksAsNow_26 : decode cX4_worksAsNow 26 = .ok (.getfield 26, 3) := by decide +kernel
theorem dX4_worksAsNow_29 : decode cX4_worksAsNow 29 = .ok (.iload_n 1, 1) := by decide +kernel
theorem dX4_worksAsNow_30 : decode cX4_worksAsNow 30 = .ok (.aload_n 0, 1) := by decide +kernel
theorem dX4_worksAsNow_31 : decode cX4_worksAsNow 31 = .ok (.getfield 48, 3) := by decide +kernel
theorem dX4_worksAsNow_34 : decode cX4_worksAsNow 34 = .ok (.invokevirtual 115, 3) := by decide +kernel
theorem dX4_worksAsNow_37 : decode cX4_worksAsNow 37 = .ok (.if_icmp .eq 5, 3) := by decide +kernel
theorem dX4_worksAsNow_40 : decode cX4_worksAsNow 40 = .ok (.iconst 0, 1) := by decide +kernel
theorem dX4_worksAsNow_41 : decode cX4_worksAsNow 41 = .ok (.ireturn, 1) := by decide +kernel
theorem dX4_worksAsNow_42 : decode cX4_worksAsNow 42 = .ok (.iinc 1 1, 3) := by decide +kernel
theorem dX4_worksAsNow_45 : decode cX4_worksAsNow 45 = .ok (.goto (-43), 3) := by decide +kernel
theorem dX4_worksAsNow_48 : decode cX4_worksAsNow 48 = .ok (.iconst 1, 1) := by decide +kernel
theorem dX4_worksAsNow_49 : decode cX4_worksAsNow 49 = .ok (.ireturn, 1) := by decide +kernel
theorem dX4_orderAsFigures_0 : decode cX4_orderAsFigures 0 = .ok (.iconst 0, 1) := by decide +kernel
theorem dX4_orderAsFigures_1 : decode cX4_orderAsFigures 1 = .ok (.istore_n 1, 1) := by decide +kernel
theorem dX4_orderAsFigures_2 : decode cX4_orderAsFigures 2 = .ok (.iconst 0, 1) := by decide +kernel
theorem dX4_orderAsFigures_3 : decode cX4_orderAsFigures 3 = .ok (.istore_n 2, 1) := by decide +kernel
theorem dX4_orderAsFigures_4 : decode cX4_orderAsFigures 4 = .ok (.iload_n 2, 1) := by decide +kernel
theorem dX4_orderAsFigures_5 : decode cX4_orderAsFigures 5 = .ok (.aload_n 0, 1) := by decide +kernel
theorem dX4_orderAsFigures_6 : decode cX4_orderAsFigures 6 = .ok (.getfield 48, 3) := by decide +kernel
theorem dX4_orderAsFigures_9 : decode cX4_orderAsFigures 9 = .ok (.getfield 144, 3) := by decide +kernel
theorem dX4_orderAsFigures_12 : decode cX4_orderAsFigures 12 = .ok (.if_icmp .ge 21, 3) := by decide +kernel
theorem dX4_orderAsFigures_15 : decode cX4_orderAsFigures 15 = .ok (.bipush 10, 2) := by decide +kernel
theorem dX4_orderAsFigures_17 : decode cX4_orderAsFigures 17 = .ok (.iload_n 1, 1) := by decide +kernel
theorem dX4_orderAsFigures_18 : decode cX4_orderAsFigures 18 = .ok (.imul, 1) := by decide +kernel
theorem dX4_orderAsFigures_19 : decode cX4_orderAsFigures 19 = .ok (.aload_n 0, 1) := by decide +kernel
theorem dX4_orderAsFigures_20 : decode cX4_orderAsFigures 20 = .ok (.getfield 41, 3) := by decide +kernel
theorem dX4_orderAsFigures_23 : decode cX4_orderAsFigures 23 = .ok (.iload_n 2, 1) := by decide +kernel
theorem dX4_orderAsFigures_24 : decode cX4_orderAsFigures 24 = .ok (.iaload, 1) := by decide +kernel
theorem dX4_orderAsFigures_25 : decode cX4_orderAsFigures 25 = .ok (.iadd, 1) := by decide +kernel
theorem dX4_orderAsFigures_26 : decode cX4_orderAsFigures 26 = .ok (.istore_n 1, 1) := by decide +kernel
theorem dX4_orderAsFigures_27 : decode cX4_orderAsFigures 27 = .ok (.iinc 2 1, 3) := by decide +kernel
theorem dX4_orderAsFigures_30 : decode cX4_orderAsFigures 30 = .ok (.goto (-26), 3) := by decide +kernel
theorem dX4_orderAsFigures_33 : decode cX4_orderAsFigures 33 = .ok (.iload_n 1, 1) := by decide +kernel
theorem dX4_orderAsFigures_34 : decode cX4_orderAsFigures 34 = .ok (.ireturn, 1) := by decide +kernel
set_option maxRecDepth 20000 in
theorem ggX4_nextOrder_X4_swap : GoodIn wsX4_nextOrder wsX4_swap := goodIn_r _ [7] (by decide +kernel) (by decide +kernel)
set_option maxRecDepth 20000 in
theorem gX4_nextOrder_X4_swap : GoodIn wsX4_nextOrder (va_wsS RX4 166 yX4_swap wsX4_swap) := goodIn_app (goodIn_of _ (by decide +kernel)) ggX4_nextOrder_X4_swap
theorem dX4_nextOrder_0 : decode cX4_nextOrder 0 = .ok (.aload_n 0, 1) := by decide +kernel
theorem dX4_nextOrder_1 : decode cX4_nextOrder 1 = .ok (.getfield 48, 3) := by decide +kernel
theorem dX4_nextOrder_4 : decode cX4_nextOrder 4 = .ok (.getfield 144, 3) := by decide +kernel
theorem dX4_nextOrder_7 : decode cX4_nextOrder 7 = .ok (.iconst 1, 1) := by decide +kernel
theorem dX4_nextOrder_8 : decode cX4_nextOrder 8 = .ok (.isub, 1) := by decide +kernel
theorem dX4_nextOrder_9 : decode cX4_nextOrder 9 = .ok (.istore_n 1, 1) := by decide +kernel
theorem dX4_nextOrder_10 : decode cX4_nextOrder 10 = .ok (.iload_n 1, 1) := by decide +kernel
theorem dX4_nextOrder_11 : decode cX4_nextOrder 11 = .ok (.iconst 1, 1) := by decide +kernel
theorem dX4_nextOrder_12 : decode cX4_nextOrder 12 = .ok (.isub, 1) := by decide +kernel
theorem dX4_nextOrder_13 : decode cX4_nextOrder 13 = .ok (.istore_n 2, 1) := by decide +kernel
theorem dX4_nextOrder_14 : decode cX4_nextOrder 14 = .ok (.iload_n 2, 1) := by decide +kernel
theorem dX4_nextOrder_15 : decode cX4_nextOrder 15 = .ok (.ifCond .lt 26, 3) := by decide +kernel
theorem dX4_nextOrder_18 : decode cX4_nextOrder 18 = .ok (.aload_n 0, 1) := by decide +kernel
theorem dX4_nextOrder_19 : decode cX4_nextOrder 19 = .ok (.getfield 41, 3) := by decide +kernel
theorem dX4_nextOrder_22 : decode cX4_nextOrder 22 = .ok (.iload_n 2, 1) := by decide +kernel
theorem dX4_nextOrder_23 : decode cX4_nextOrder 23 = .ok (.iaload, 1) := by decide +kernel
theorem dX4_nextOrder_24 : decode cX4_nextOrder 24 = .ok (.aload_n 0, 1) := by decide +kernel
theorem dX4_nextOrder_25 : decode cX4_nextOrder 25 = .ok (.getfield 41, 3) := by decide +kernel
theorem dX4_nextOrder_28 : decode cX4_nextOrder 28 = .ok (.iload_n 2, 1) := by decide +kernel
theorem dX4_nextOrder_29 : decode cX4_nextOrder 29 = .ok (.iconst 1, 1) := by decide +kernel
theorem dX4_nextOrder_30 : decode cX4_nextOrder 30 = .ok (.iadd, 1) := by decide +kernel
theorem dX4_nextOrder_31 : decode cX4_nextOrder 31 = .ok (.iaload, 1) := by decide +kernel
theorem dX4_nextOrder_32 : decode cX4_nextOrder 32 = .ok (.if_icmp .le 9, 3) := by decide +kernel
theorem dX4_nextOrder_35 : decode cX4_nextOrder 35 = .ok (.iinc 2 (-1), 3) := by decide +kernel
theorem dX4_nextOrder_38 : decode cX4_nextOrder 38 = .ok (.goto (-24), 3) := by decide +kernel
theorem dX4_nextOrder_41 : decode cX4_nextOrder 41 = .ok (.iload_n 2, 1) := by decide +kernel
theorem dX4_nextOrder_42 : decode cX4_nextOrder 42 = .ok (.ifCond .ge 5, 3) := by decide +kernel
theorem dX4_nextOrder_45 : decode cX4_nextOrder 45 = .ok (.iconst 0, 1) := by decide +kernel
theorem dX4_nextOrder_46 : decode cX4_nextOrder 46 = .ok (.ireturn, 1) := by decide +kernel
theorem dX4_nextOrder_47 : decode cX4_nextOrder 47 = .ok (.iload_n 1, 1) := by decide +kernel
theorem dX4_nextOrder_48 : decode cX4_nextOrder 48 = .ok (.istore_n 3, 1) := by decide +kernel
theorem dX4_nextOrder_49 : decode cX4_nextOrder 49 = .ok (.iload_n 3, 1) := by decide +kernel
theorem dX4_nextOrder_50 : decode cX4_nextOrder 50 = .ok (.iload_n 2, 1) := by decide +kernel
theorem dX4_nextOrder_51 : decode cX4_nextOrder 51 = .ok (.if_icmp .le 24, 3) := by decide +kernel
theorem dX4_nextOrder_54 : decode cX4_nextOrder 54 = .ok (.aload_n 0, 1) := by decide +kernel
theorem dX4_nextOrder_55 : decode cX4_nextOrder 55 = .ok (.getfield 41, 3) := by decide +kernel
theorem dX4_nextOrder_58 : decode cX4_nextOrder 58 = .ok (.iload_n 3, 1) := by decide +kernel
theorem dX4_nextOrder_59 : decode cX4_nextOrder 59 = .ok (.iaload, 1) := by decide +kernel
theorem dX4_nextOrder_60 : decode cX4_nextOrder 60 = .ok (.aload_n 0, 1) := by decide +kernel
theorem dX4_nextOrder_61 : decode cX4_nextOrder 61 = .ok (.getfield 41, 3) := by decide +kernel
theorem dX4_nextOrder_64 : decode cX4_nextOrder 64 = .ok (.iload_n 2, 1) := by decide +kernel
theorem dX4_nextOrder_65 : decode cX4_nextOrder 65 = .ok (.iaload, 1) := by decide +kernel
theorem dX4_nextOrder_66 : decode cX4_nextOrder 66 = .ok (.if_icmp .ge 9, 3) := by decide +kernel
theorem dX4_nextOrder_69 : decode cX4_nextOrder 69 = .ok (.iinc 3 (-1), 3) := by decide +kernel
theorem dX4_nextOrder_72 : decode cX4_nextOrder 72 = .ok (.goto (-23), 3) := by decide +kernel
theorem dX4_nextOrder_75 : decode cX4_nextOrder 75 = .ok (.aload_n 0, 1) := by decide +kernel
theorem dX4_nextOrder_76 : decode cX4_nextOrder 76 = .ok (.getfield 41, 3) := by decide +kernel
theorem dX4_nextOrder_79 : decode cX4_nextOrder 79 = .ok (.iload_n 2, 1) := by decide +kernel
theorem dX4_nextOrder_80 : decode cX4_nextOrder 80 = .ok (.iload_n 3, 1) := by decide +kernel
theorem dX4_nextOrder_81 : decode cX4_nextOrder 81 = .ok (.invokestatic 166, 3) := by decide +kernel
theorem dX4_nextOrder_84 : decode cX4_nextOrder 84 = .ok (.iload_n 2, 1) := by decide +kernel
theorem dX4_nextOrder_85 : decode cX4_nextOrder 85 = .ok (.iconst 1, 1) := by decide +kernel
theorem dX4_nextOrder_86 : decode cX4_nextOrder 86 = .ok (.iadd, 1) := by decide +kernel
theorem dX4_nextOrder_87 : decode cX4_nextOrder 87 = .ok (.istore 4, 2) := by decide +kernel
theorem dX4_nextOrder_89 : decode cX4_nextOrder 89 = .ok (.iload_n 1, 1) := by decide +kernel
theorem dX4_nextOrder_90 : decode cX4_nextOrder 90 = .ok (.istore 5, 2) := by decide +kernel
theorem dX4_nextOrder_92 : decode cX4_nextOrder 92 = .ok (.iload 4, 2) := by decide +kernel
theorem dX4_nextOrder_94 : decode cX4_nextOrder 94 = .ok (.iload 5, 2) := by decide +kernel
theorem dX4_nextOrder_96 : decode cX4_nextOrder 96 = .ok (.if_icmp .ge 23, 3) := by decide +kernel
theorem dX4_nextOrder_99 : decode cX4_nextOrder 99 = .ok (.aload_n 0, 1) := by decide +kernel
theorem dX4_nextOrder_100 : decode cX4_nextOrder 100 = .ok (.getfield 41, 3) := by decide +kernel
theorem dX4_nextOrder_103 : decode cX4_nextOrder 103 = .ok (.iload 4, 2) := by decide +kernel
theorem dX4_nextOrder_105 : decode cX4_nextOrder 105 = .ok (.iload 5, 2) := by decide +kernel
theorem dX4_nextOrder_107 : decode cX4_nextOrder 107 = .ok (.invokestatic 166, 3) := by decide +kernel
theorem dX4_nextOrder_110 : decode cX4_nextOrder 110 = .ok (.iinc 4 1, 3) := by decide +kernel
theorem dX4_nextOrder_113 : decode cX4_nextOrder 113 = .ok (.iinc 5 (-1), 3) := by decide +kernel
theorem dX4_nextOrder_116 : decode cX4_nextOrder 116 = .ok (.goto (-24), 3) := by decide +kernel
theorem dX4_nextOrder_119 : decode cX4_nextOrder 119 = .ok (.iconst 1, 1) := by decide +kernel
theorem dX4_nextOrder_120 : decode cX4_nextOrder 120 = .ok (.ireturn, 1) := by decide +kernel
set_option maxRecDepth 20000 in
theorem ggX4_asPerson_X4_cell : GoodIn wsX4_asPerson wsX4_cell := goodIn_r _ [9] (by decide +kernel) (by decide +kernel)
set_option maxRecDepth 20000 in
theorem gX4_asPerson_X4_cell : GoodIn wsX4_asPerson (va_wsS RX4 108 yX4_cell wsX4_cell) := goodIn_app (goodIn_of _ (by decide +kernel)) ggX4_asPerson_X4_cell
theorem dX4_asPerson_0 : decode cX4_asPerson 0 = .ok (.aload_n 0, 1) := by decide +kernel
theorem dX4_asPerson_1 : decode cX4_asPerson 1 = .ok (.dup, 1) := by decide +kernel
theorem dX4_asPerson_2 : decode cX4_asPerson 2 = .ok (.getfield 55, 3) := by decide +kernel
theorem dX4_asPerson_5 : decode cX4_asPerson 5 = .ok (.lconst 1, 1) := by decide +kernel
theorem dX4_asPerson_6 : decode cX4_asPerson 6 = .ok (.ladd, 1) := by decide +kernel
theorem dX4_asPerson_7 : decode cX4_asPerson 7 = .ok (.putfield 55, 3) := by decide +kernel
theorem dX4_asPerson_10 : decode cX4_asPerson 10 = .ok (.iconst 0, 1) := by decide +kernel
theorem dX4_asPerson_11 : decode cX4_asPerson 11 = .ok (.istore_n 2, 1) := by decide +kernel
theorem dX4_asPerson_12 : decode cX4_asPerson 12 = .ok (.iconst 0, 1) := by decide +kernel
theorem dX4_asPerson_13 : decode cX4_asPerson 13 = .ok (.istore_n 3, 1) := by decide +kernel
theorem dX4_asPerson_14 : decode cX4_asPerson 14 = .ok (.iload_n 3, 1) := by decide +kernel
theorem dX4_asPerson_15 : decode cX4_asPerson 15 = .ok (.aload_n 0, 1) := by decide +kernel
theorem dX4_asPerson_16 : decode cX4_asPerson 16 = .ok (.getfield 48, 3) := by decide +kernel
theorem dX4_asPerson_19 : decode cX4_asPerson 19 = .ok (.getfield 144, 3) := by decide +kernel
theorem dX4_asPerson_22 : decode cX4_asPerson 22 = .ok (.if_icmp .ge 25, 3) := by decide +kernel
theorem dX4_asPerson_25 : decode cX4_asPerson 25 = .ok (.iload_n 2, 1) := by decide +kernel
theorem dX4_asPerson_26 : decode cX4_asPerson 26 = .ok (.aload_n 0, 1) := by decide +kernel
theorem dX4_asPerson_27 : decode cX4_asPerson 27 = .ok (.getfield 26, 3) := by decide +kernel
theorem dX4_asPerson_30 : decode cX4_asPerson 30 = .ok (.getfield 105, 3) := by decide +kernel
theorem dX4_asPerson_33 : decode cX4_asPerson 33 = .ok (.iload_n 1, 1) := by decide +kernel
theorem dX4_asPerson_34 : decode cX4_asPerson 34 = .ok (.iload_n 3, 1) := by decide +kernel
theorem dX4_asPerson_35 : decode cX4_asPerson 35 = .ok (.invokestatic 108, 3) := by decide +kernel
theorem dX4_asPerson_38 : decode cX4_asPerson 38 = .ok (.iaload, 1) := by decide +kernel
theorem dX4_asPerson_39 : decode cX4_asPerson 39 = .ok (.iadd, 1) := by decide +kernel
theorem dX4_asPerson_40 : decode cX4_asPerson 40 = .ok (.istore_n 2, 1) := by decide +kernel
theorem dX4_asPerson_41 : decode cX4_asPerson 41 = .ok (.iinc 3 1, 3) := by decide +kernel
theorem dX4_asPerson_44 : decode cX4_asPerson 44 = .ok (.goto (-30), 3) := by decide +kernel
theorem dX4_asPerson_47 : decode cX4_asPerson 47 = .ok (.iload_n 2, 1) := by decide +kernel
theorem dX4_asPerson_48 : decode cX4_asPerson 48 = .ok (.ireturn, 1) := by decide +kernel
set_option maxRecDepth 20000 in
theorem ggX4_asLearner_X4_asPerson : GoodIn wsX4_asLearner wsX4_asPerson := goodIn_r _ [9, 1, 10, 11, 3, 12, 13, 14, 8, 15, 16, 17, 18, 19, 20, 21, 22, 23, 24, 25, 37, 38, 39, 40, 41, 42, 43, 44, 45, 26, 27, 28, 29, 30, 31, 32, 33, 34, 35, 36] (by decide +kernel) (by decide +kernel)
set_option maxRecDepth 20000 in
theorem gX4_asLearner_X4_asPerson : GoodIn wsX4_asLearner (wsV RX4 217 RX4 yX4_asPerson wsX4_asPerson) := goodIn_app (goodIn_of _ (by decide +kernel)) ggX4_asLearner_X4_asPerson
theorem dX4_asLearner_0 : decode cX4_asLearner 0 = .ok (.aload_n 0, 1) := by decide +kernel
theorem dX4_asLearner_1 : decode cX4_asLearner 1 = .ok (.dup, 1) := by decide +kernel
theorem dX4_asLearner_2 : decode cX4_asLearner 2 = .ok (.getfield 55, 3) := by decide +kernel
theorem dX4_asLearner_5 : decode cX4_asLearner 5 = .ok (.ldc2_w 252, 3) := by decide +kernel
theorem dX4_asLearner_8 : decode cX4_asLearner 8 = .ok (.ladd, 1) := by decide +kernel
theorem dX4_asLearner_9 : decode cX4_asLearner 9 = .ok (.putfield 55, 3) := by decide +kernel
theorem dX4_asLearner_12 : decode cX4_asLearner 12 = .ok (.aload_n 0, 1) := by decide +kernel
theorem dX4_asLearner_13 : decode cX4_asLearner 13 = .ok (.iload_n 1, 1) := by decide +kernel
theorem dX4_asLearner_14 : decode cX4_asLearner 14 = .ok (.invokevirtual 217, 3) := by decide +kernel
theorem dX4_asLearner_17 : decode cX4_asLearner 17 = .ok (.aload_n 0, 1) := by decide +kernel
theorem dX4_asLearner_18 : decode cX4_asLearner 18 = .ok (.getfield 26, 3) := by decide +kernel
theorem dX4_asLearner_21 : decode cX4_asLearner 21 = .ok (.getfield 112, 3) := by decide +kernel
theorem dX4_asLearner_24 : decode cX4_asLearner 24 = .ok (.iload_n 1, 1) := by decide +kernel
theorem dX4_asLearner_25 : decode cX4_asLearner 25 = .ok (.iaload, 1) := by decide +kernel
theorem dX4_asLearner_26 : decode cX4_asLearner 26 = .ok (.iadd, 1) := by decide +kernel
theorem dX4_asLearner_27 : decode cX4_asLearner 27 = .ok (.ireturn, 1) := by decide +kernel
set_option maxRecDepth 20000 in
theorem ggX4_asMaster_X4_cell : GoodIn wsX4_asMaster wsX4_cell := goodIn_r _ [14] (by decide +kernel) (by decide +kernel)
set_option maxRecDepth 20000 in
theorem gX4_asMaster_X4_cell : GoodIn wsX4_asMaster (va_wsS RX4 108 yX4_cell wsX4_cell) := goodIn_app (goodIn_of _ (by decide +kernel)) ggX4_asMaster_X4_cell
set_option maxRecDepth 20000 in
theorem ggX4_asMaster_X4_asPerson : GoodIn wsX4_asMaster wsX4_asPerson := goodIn_r _ [18, 1, 3, 4, 5, 6, 11, 12, 13, 14, 19, 20, 21, 22, 23, 24, 25, 26, 27, 28, 29, 30, 31, 32, 33, 34, 35, 36, 37, 38, 39, 40, 41, 42, 43, 44, 45, 46, 47, 48] (by decide +kernel) (by decide +kernel)
set_option maxRecDepth 20000 in
theorem gX4_asMaster_X4_asPerson : GoodIn wsX4_asMaster (wsV RX4 217 RX4 yX4_asPerson wsX4_asPerson) := goodIn_app (goodIn_of _ (by decide +kernel)) ggX4_asMaster_X4_asPerson
theorem dX4_asMaster_0 : decode cX4_asMaster 0 = .ok (.aload_n 0, 1) := by decide +kernel
theorem dX4_asMaster_1 : decode cX4_asMaster 1 = .ok (.dup, 1) := by decide +kernel
theorem dX4_asMaster_2 : decode cX4_asMaster 2 = .ok (.getfield 55, 3) := by decide +kernel
theorem dX4_asMaster_5 : decode cX4_asMaster 5 = .ok (.ldc2_w 254, 3) := by decide +kernel
theorem dX4_asMaster_8 : decode cX4_asMaster 8 = .ok (.ladd, 1) := by decide +kernel
theorem dX4_asMaster_9 : decode cX4_asMaster 9 = .ok (.putfield 55, 3) := by decide +kernel
theorem dX4_asMaster_12 : decode cX4_asMaster 12 = .ok (.iconst 0, 1) := by decide +kernel
theorem dX4_asMaster_13 : decode cX4_asMaster 13 = .ok (.istore_n 2, 1) := by decide +kernel
theorem dX4_asMaster_14 : decode cX4_asMaster 14 = .ok (.iconst 0, 1) := by decide +kernel
theorem dX4_asMaster_15 : decode cX4_asMaster 15 = .ok (.istore_n 3, 1) := by decide +kernel
theorem dX4_asMaster_16 : decode cX4_asMaster 16 = .ok (.iload_n 3, 1) := by decide +kernel
theorem dX4_asMaster_17 : decode cX4_asMaster 17 = .ok (.aload_n 0, 1) := by decide +kernel
theorem dX4_asMaster_18 : decode cX4_asMaster 18 = .ok (.getfield 48, 3) := by decide +kernel
theorem dX4_asMaster_21 : decode cX4_asMaster 21 = .ok (.getfield 144, 3) := by decide +kernel
theorem dX4_asMaster_24 : decode cX4_asMaster 24 = .ok (.if_icmp .ge 27, 3) := by decide +kernel
theorem dX4_asMaster_27 : decode cX4_asMaster 27 = .ok (.iload_n 2, 1) := by decide +kernel
theorem dX4_asMaster_28 : decode cX4_asMaster 28 = .ok (.aload_n 0, 1) := by decide +kernel
theorem dX4_asMaster_29 : decode cX4_asMaster 29 = .ok (.getfield 26, 3) := by decide +kernel
theorem dX4_asMaster_32 : decode cX4_asMaster 32 = .ok (.getfield 105, 3) := by decide +kernel
theorem dX4_asMaster_35 : decode cX4_asMaster 35 = .ok (.iload_n 1, 1) := by decide +kernel
theorem dX4_asMaster_36 : decode cX4_asMaster 36 = .ok (.iload_n 3, 1) := by decide +kernel
theorem dX4_asMaster_37 : decode cX4_asMaster 37 = .ok (.invokestatic 108, 3) := by decide +kernel
theorem dX4_asMaster_40 : decode cX4_asMaster 40 = .ok (.iaload, 1) := by decide +kernel
theorem dX4_asMaster_41 : decode cX4_asMaster 41 = .ok (.invokestatic 256, 3) := by decide +kernel
theorem dX4_asMaster_44 : decode cX4_asMaster 44 = .ok (.istore_n 2, 1) := by decide +kernel
theorem dX4_asMaster_45 : decode cX4_asMaster 45 = .ok (.iinc 3 1, 3) := by decide +kernel
theorem dX4_asMaster_48 : decode cX4_asMaster 48 = .ok (.goto (-32), 3) := by decide +kernel
theorem dX4_asMaster_51 : decode cX4_asMaster 51 = .ok (.aload_n 0, 1) := by decide +kernel
theorem dX4_asMaster_52 : decode cX4_asMaster 52 = .ok (.iload_n 1, 1) := by decide +kernel
theorem dX4_asMaster_53 : decode cX4_asMaster 53 = .ok (.invokevirtual 217, 3) := by decide +kernel
theorem dX4_asMaster_56 : decode cX4_asMaster 56 = .ok (.iload_n 2, 1) := by decide +kernel
theorem dX4_asMaster_57 : decode cX4_asMaster 57 = .ok (.iadd, 1) := by decide +kernel
theorem dX4_asMaster_58 : decode cX4_asMaster 58 = .ok (.ireturn, 1) := by decide +kernel
set_option maxRecDepth 20000 in
theorem ggX4_asLender_X4_asMaster : GoodIn wsX4_asLender wsX4_asMaster := goodIn_r _ [7, 1, 8, 9, 10, 11, 12, 13, 14, 15, 16, 17, 18, 6, 19, 20, 21, 22, 23, 24, 25, 26, 27, 28, 29, 30, 31, 32, 33, 34, 35, 36, 37, 38, 39, 40, 41, 42, 43, 44, 45, 46, 47, 48, 49, 50, 51, 52, 53] (by decide +kernel) (by decide +kernel)
set_option maxRecDepth 20000 in
theorem gX4_asLender_X4_asMaster : GoodIn wsX4_asLender (wsV RX4 223 RX4 yX4_asMaster wsX4_asMaster) := goodIn_app (goodIn_of _ (by decide +kernel)) ggX4_asLender_X4_asMaster
theorem dX4_asLender_0 : decode cX4_asLender 0 = .ok (.aload_n 0, 1) := by decide +kernel
theorem dX4_asLender_1 : decode cX4_asLender 1 = .ok (.dup, 1) := by decide +kernel
theorem dX4_asLender_2 : decode cX4_asLender 2 = .ok (.getfield 55, 3) := by decide +kernel
theorem dX4_asLender_5 : decode cX4_asLender 5 = .ok (.ldc2_w 261, 3) := by decide +kernel
theorem dX4_asLender_8 : decode cX4_asLender 8 = .ok (.ladd, 1) := by decide +kernel
theorem dX4_asLender_9 : decode cX4_asLender 9 = .ok (.putfield 55, 3) := by decide +kernel
theorem dX4_asLender_12 : decode cX4_asLender 12 = .ok (.iconst 2, 1) := by decide +kernel
theorem dX4_asLender_13 : decode cX4_asLender 13 = .ok (.aload_n 0, 1) := by decide +kernel
theorem dX4_asLender_14 : decode cX4_asLender 14 = .ok (.iload_n 1, 1) := by decide +kernel
theorem dX4_asLender_15 : decode cX4_asLender 15 = .ok (.invokevirtual 223, 3) := by decide +kernel
theorem dX4_asLender_18 : decode cX4_asLender 18 = .ok (.imul, 1) := by decide +kernel
theorem dX4_asLender_19 : decode cX4_asLender 19 = .ok (.ireturn, 1) := by decide +kernel
set_option maxRecDepth 20000 in
theorem ggX4_asChild_X4_cell : GoodIn wsX4_asChild wsX4_cell := goodIn_r _ [14] (by decide +kernel) (by decide +kernel)
set_option maxRecDepth 20000 in
theorem gX4_asChild_X4_cell : GoodIn wsX4_asChild (va_wsS RX4 108 yX4_cell wsX4_cell) := goodIn_app (goodIn_of _ (by decide +kernel)) ggX4_asChild_X4_cell
set_option maxRecDepth 20000 in
theorem ggX4_asChild_X4_asLearner : GoodIn wsX4_asChild wsX4_asLearner := goodIn_r _ [18, 1, 19, 5, 20, 21, 22, 23, 13, 24, 3, 4, 6, 11, 12, 14, 25, 26, 27, 28, 29, 30, 31, 32, 33, 34, 44, 45, 46, 47, 48, 49, 50, 51, 52, 53, 54, 35, 36, 37, 38, 39, 40, 41, 42, 43] (by decide +kernel) (by decide +kernel)
set_option maxRecDepth 20000 in
theorem gX4_asChild_X4_asLearner : GoodIn wsX4_asChild (wsV RX4 220 RX4 yX4_asLearner wsX4_asLearner) := goodIn_app (goodIn_of _ (by decide +kernel)) ggX4_asChild_X4_asLearner
theorem dX4_asChild_0 : decode cX4_asChild 0 = .ok (.aload_n 0, 1) := by decide +kernel
theorem dX4_asChild_1 : decode cX4_asChild 1 = .ok (.dup, 1) := by decide +kernel
theorem dX4_asChild_2 : decode cX4_asChild 2 = .ok (.getfield 55, 3) := by decide +kernel
theorem dX4_asChild_5 : decode cX4_asChild 5 = .ok (.ldc2_w 263, 3) := by decide +kernel
theorem dX4_asChild_8 : decode cX4_asChild 8 = .ok (.ladd, 1) := by decide +kernel
theorem dX4_asChild_9 : decode cX4_asChild 9 = .ok (.putfield 55, 3) := by decide +kernel
theorem dX4_asChild_12 : decode cX4_asChild 12 = .ok (.aload_n 0, 1) := by decide +kernel
theorem dX4_asChild_13 : decode cX4_asChild 13 = .ok (.getfield 48, 3) := by decide +kernel
theorem dX4_asChild_16 : decode cX4_asChild 16 = .ok (.getfield 144, 3) := by decide +kernel
theorem dX4_asChild_19 : decode cX4_asChild 19 = .ok (.ifCond .ne 7, 3) := by decide +kernel
theorem dX4_asChild_22 : decode cX4_asChild 22 = .ok (.iconst 0, 1) := by decide +kernel
theorem dX4_asChild_23 : decode cX4_asChild 23 = .ok (.goto 5, 3) := by decide +kernel
theorem dX4_asChild_26 : decode cX4_asChild 26 = .ok (.bipush 9, 2) := by decide +kernel
theorem dX4_asChild_28 : decode cX4_asChild 28 = .ok (.istore_n 2, 1) := by decide +kernel
theorem dX4_asChild_29 : decode cX4_asChild 29 = .ok (.iconst 0, 1) := by decide +kernel
theorem dX4_asChild_30 : decode cX4_asChild 30 = .ok (.istore_n 3, 1) := by decide +kernel
theorem dX4_asChild_31 : decode cX4_asChild 31 = .ok (.iload_n 3, 1) := by decide +kernel
theorem dX4_asChild_32 : decode cX4_asChild 32 = .ok (.aload_n 0, 1) := by decide +kernel
theorem dX4_asChild_33 : decode cX4_asChild 33 = .ok (.getfield 48, 3) := by decide +kernel
theorem dX4_asChild_36 : decode cX4_asChild 36 = .ok (.getfield 144, 3) := by decide +kernel
theorem dX4_asChild_39 : decode cX4_asChild 39 = .ok (.if_icmp .ge 27, 3) := by decide +kernel
theorem dX4_asChild_42 : decode cX4_asChild 42 = .ok (.iload_n 2, 1) := by decide +kernel
theorem dX4_asChild_43 : decode cX4_asChild 43 = .ok (.aload_n 0, 1) := by decide +kernel
theorem dX4_asChild_44 : decode cX4_asChild 44 = .ok (.getfield 26, 3) := by decide +kernel
theorem dX4_asChild_47 : decode cX4_asChild 47 = .ok (.getfield 105, 3) := by decide +kernel
theorem dX4_asChild_50 : decode cX4_asChild 50 = .ok (.iload_n 1, 1) := by decide +kernel
theorem dX4_asChild_51 : decode cX4_asChild 51 = .ok (.iload_n 3, 1) := by decide +kernel
theorem dX4_asChild_52 : decode cX4_asChild 52 = .ok (.invokestatic 108, 3) := by decide +kernel
theorem dX4_asChild_55 : decode cX4_asChild 55 = .ok (.iaload, 1) := by decide +kernel
theorem dX4_asChild_56 : decode cX4_asChild 56 = .ok (.invokestatic 265, 3) := by decide +kernel
theorem dX4_asChild_59 : decode cX4_asChild 59 = .ok (.istore_n 2, 1) := by decide +kernel
theorem dX4_asChild_60 : decode cX4_asChild 60 = .ok (.iinc 3 1, 3) := by decide +kernel
theorem dX4_asChild_63 : decode cX4_asChild 63 = .ok (.goto (-32), 3) := by decide +kernel
theorem dX4_asChild_66 : decode cX4_asChild 66 = .ok (.aload_n 0, 1) := by decide +kernel
theorem dX4_asChild_67 : decode cX4_asChild 67 = .ok (.iload_n 1, 1) := by decide +kernel
theorem dX4_asChild_68 : decode cX4_asChild 68 = .ok (.invokevirtual 220, 3) := by decide +kernel
theorem dX4_asChild_71 : decode cX4_asChild 71 = .ok (.iload_n 2, 1) := by decide +kernel
theorem dX4_asChild_72 : decode cX4_asChild 72 = .ok (.isub, 1) := by decide +kernel
theorem dX4_asChild_73 : decode cX4_asChild 73 = .ok (.ireturn, 1) := by decide +kernel
set_option maxRecDepth 20000 in
theorem ggX4_asIdle_X4_asPerson : GoodIn wsX4_asIdle wsX4_asPerson := goodIn_r _ [9, 1, 10, 11, 3, 12, 13, 14, 8, 15, 16, 17, 18, 19, 20, 21, 22, 23, 24, 25, 37, 38, 39, 40, 41, 42, 43, 44, 45, 26, 27, 28, 29, 30, 31, 32, 33, 34, 35, 36] (by decide +kernel) (by decide +kernel)
set_option maxRecDepth 20000 in
theorem gX4_asIdle_X4_asPerson : GoodIn wsX4_asIdle (wsV RX4 217 RX4 yX4_asPerson wsX4_asPerson) := goodIn_app (goodIn_of _ (by decide +kernel)) ggX4_asIdle_X4_asPerson
theorem dX4_asIdle_0 : decode cX4_asIdle 0 = .ok (.aload_n 0, 1) := by decide +kernel
theorem dX4_asIdle_1 : decode cX4_asIdle 1 = .ok (.dup, 1) := by decide +kernel
theorem dX4_asIdle_2 : decode cX4_asIdle 2 = .ok (.getfield 55, 3) := by decide +kernel
theorem dX4_asIdle_5 : decode cX4_asIdle 5 = .ok (.ldc2_w 268, 3) := by decide +kernel
theorem dX4_asIdle_8 : decode cX4_asIdle 8 = .ok (.ladd, 1) := by decide +kernel
theorem dX4_asIdle_9 : decode cX4_asIdle 9 = .ok (.putfield 55, 3) := by decide +kernel
theorem dX4_asIdle_12 : decode cX4_asIdle 12 = .ok (.aload_n 0, 1) := by decide +kernel
theorem dX4_asIdle_13 : decode cX4_asIdle 13 = .ok (.iload_n 1, 1) := by decide +kernel
theorem dX4_asIdle_14 : decode cX4_asIdle 14 = .ok (.invokevirtual 217, 3) := by decide +kernel
theorem dX4_asIdle_17 : decode cX4_asIdle 17 = .ok (.aload_n 0, 1) := by decide +kernel
theorem dX4_asIdle_18 : decode cX4_asIdle 18 = .ok (.getfield 26, 3) := by decide +kernel
theorem dX4_asIdle_21 : decode cX4_asIdle 21 = .ok (.getfield 141, 3) := by decide +kernel
theorem dX4_asIdle_24 : decode cX4_asIdle 24 = .ok (.isub, 1) := by decide +kernel
theorem dX4_asIdle_25 : decode cX4_asIdle 25 = .ok (.ireturn, 1) := by decide +kernel

