set_option maxRecDepth 20000 in
theorem ggX5_skillsChange_X5_isIll : GoodIn wsX5_skillsChange wsX5_isIll := goodIn_r _ [9, 3, 10, 11, 12, 13, 14, 15, 16, 17, 18, 19, 20, 21, 22, 23, 24, 25, 26, 27, 28, 29, 30, 31, 32, 33, 34, 35, 36, 37, 38] (by decide +kernel) (by decide +kernel)
set_option maxRecDepth 20000 in
theorem gX5_skillsChange_X5_isIll : GoodIn wsX5_skillsChange (wsV RX5 156 RX5 yX5_isIll wsX5_isIll) := goodIn_app (goodIn_of _ (by decide +kernel)) ggX5_skillsChange_X5_isIll
theorem dX5_skillsChange_0 : decode cX5_skillsChange 0 = .ok (.aload_n 0, 1) := by decide +kernel
theorem dX5_skillsChange_1 : decode cX5_skillsChange 1 = .ok (.iload_n 1, 1) := by decide +kernel
theorem dX5_skillsChange_2 : decode cX5_skillsChange 2 = .ok (.invokevirtual 156, 3) := by decide +kernel
theorem dX5_skillsChange_5 : decode cX5_skillsChange 5 = .ok (.ifCond .eq 8, 3) := by decide +kernel
theorem dX5_skillsChange_8 : decode cX5_skillsChange 8 = .ok (.bipush (-9), 2) := by decide +kernel
theorem dX5_skillsChange_10 : decode cX5_skillsChange 10 = .ok (.goto 9, 3) := by decide +kernel
theorem dX5_skillsChange_13 : decode cX5_skillsChange 13 = .ok (.aload_n 0, 1) := by decide +kernel
theorem dX5_skillsChange_14 : decode cX5_skillsChange 14 = .ok (.getfield 50, 3) := by decide +kernel
theorem dX5_skillsChange_17 : decode cX5_skillsChange 17 = .ok (.iload_n 1, 1) := by decide +kernel
theorem dX5_skillsChange_18 : decode cX5_skillsChange 18 = .ok (.iaload, 1) := by decide +kernel
theorem dX5_skillsChange_19 : decode cX5_skillsChange 19 = .ok (.istore_n 2, 1) := by decide +kernel
theorem dX5_skillsChange_20 : decode cX5_skillsChange 20 = .ok (.aload_n 0, 1) := by decide +kernel
theorem dX5_skillsChange_21 : decode cX5_skillsChange 21 = .ok (.getfield 31, 3) := by decide +kernel
theorem dX5_skillsChange_24 : decode cX5_skillsChange 24 = .ok (.iconst 0, 1) := by decide +kernel
theorem dX5_skillsChange_25 : decode cX5_skillsChange 25 = .ok (.iaload, 1) := by decide +kernel
theorem dX5_skillsChange_26 : decode cX5_skillsChange 26 = .ok (.ifCond .le 25, 3) := by decide +kernel
theorem dX5_skillsChange_29 : decode cX5_skillsChange 29 = .ok (.aload_n 0, 1) := by decide +kernel
theorem dX5_skillsChange_30 : decode cX5_skillsChange 30 = .ok (.getfield 34, 3) := by decide +kernel
theorem dX5_skillsChange_33 : decode cX5_skillsChange 33 = .ok (.iconst 0, 1) := by decide +kernel
theorem dX5_skillsChange_34 : decode cX5_skillsChange 34 = .ok (.iaload, 1) := by decide +kernel
theorem dX5_skillsChange_35 : decode cX5_skillsChange 35 = .ok (.iconst 1, 1) := by decide +kernel
theorem dX5_skillsChange_36 : decode cX5_skillsChange 36 = .ok (.iadd, 1) := by decide +kernel
theorem dX5_skillsChange_37 : decode cX5_skillsChange 37 = .ok (.aload_n 0, 1) := by decide +kernel
theorem dX5_skillsChange_38 : decode cX5_skillsChange 38 = .ok (.getfield 31, 3) := by decide +kernel
theorem dX5_skillsChange_41 : decode cX5_skillsChange 41 = .ok (.iconst 0, 1) := by decide +kernel
theorem dX5_skillsChange_42 : decode cX5_skillsChange 42 = .ok (.iaload, 1) := by decide +kernel
theorem dX5_skillsChange_43 : decode cX5_skillsChange 43 = .ok (.irem, 1) := by decide +kernel
theorem dX5_skillsChange_44 : decode cX5_skillsChange 44 = .ok (.ifCond .ne 7, 3) := by decide +kernel
theorem dX5_skillsChange_47 : decode cX5_skillsChange 47 = .ok (.iconst 1, 1) := by decide +kernel
theorem dX5_skillsChange_48 : decode cX5_skillsChange 48 = .ok (.goto 4, 3) := by decide +kernel
theorem dX5_skillsChange_51 : decode cX5_skillsChange 51 = .ok (.iconst 0, 1) := by decide +kernel
theorem dX5_skillsChange_52 : decode cX5_skillsChange 52 = .ok (.istore_n 3, 1) := by decide +kernel
theorem dX5_skillsChange_53 : decode cX5_skillsChange 53 = .ok (.iconst 0, 1) := by decide +kernel
theorem dX5_skillsChange_54 : decode cX5_skillsChange 54 = .ok (.istore 4, 2) := by decide +kernel
theorem dX5_skillsChange_56 : decode cX5_skillsChange 56 = .ok (.iload 4, 2) := by decide +kernel
theorem dX5_skillsChange_58 : decode cX5_skillsChange 58 = .ok (.aload_n 0, 1) := by decide +kernel
theorem dX5_skillsChange_59 : decode cX5_skillsChange 59 = .ok (.getfield 137, 3) := by decide +kernel
theorem dX5_skillsChange_62 : decode cX5_skillsChange 62 = .ok (.if_icmp .ge 86, 3) := by decide +kernel
theorem dX5_skillsChange_65 : decode cX5_skillsChange 65 = .ok (.bipush 33, 2) := by decide +kernel
theorem dX5_skillsChange_67 : decode cX5_skillsChange 67 = .ok (.bipush 6, 2) := by decide +kernel
theorem dX5_skillsChange_69 : decode cX5_skillsChange 69 = .ok (.iload_n 1, 1) := by decide +kernel
theorem dX5_skillsChange_70 : decode cX5_skillsChange 70 = .ok (.imul, 1) := by decide +kernel
theorem dX5_skillsChange_71 : decode cX5_skillsChange 71 = .ok (.iadd, 1) := by decide +kernel
theorem dX5_skillsChange_72 : decode cX5_skillsChange 72 = .ok (.iload 4, 2) := by decide +kernel
theorem dX5_skillsChange_74 : decode cX5_skillsChange 74 = .ok (.iadd, 1) := by decide +kernel
theorem dX5_skillsChange_75 : decode cX5_skillsChange 75 = .ok (.istore 5, 2) := by decide +kernel
theorem dX5_skillsChange_77 : decode cX5_skillsChange 77 = .ok (.iload 4, 2) := by decide +kernel
theorem dX5_skillsChange_79 : decode cX5_skillsChange 79 = .ok (.iload_n 2, 1) := by decide +kernel
theorem dX5_skillsChange_80 : decode cX5_skillsChange 80 = .ok (.if_icmp .ne 33, 3) := by decide +kernel
theorem dX5_skillsChange_83 : decode cX5_skillsChange 83 = .ok (.aload_n 0, 1) := by decide +kernel
theorem dX5_skillsChange_84 : decode cX5_skillsChange 84 = .ok (.getfield 34, 3) := by decide +kernel
theorem dX5_skillsChange_87 : decode cX5_skillsChange 87 = .ok (.iload 5, 2) := by decide +kernel
theorem dX5_skillsChange_89 : decode cX5_skillsChange 89 = .ok (.dup2, 1) := by decide +kernel
theorem dX5_skillsChange_90 : decode cX5_skillsChange 90 = .ok (.iaload, 1) := by decide +kernel
theorem dX5_skillsChange_91 : decode cX5_skillsChange 91 = .ok (.aload_n 0, 1) := by decide +kernel
theorem dX5_skillsChange_92 : decode cX5_skillsChange 92 = .ok (.getfield 34, 3) := by decide +kernel
theorem dX5_skillsChange_95 : decode cX5_skillsChange 95 = .ok (.iload 5, 2) := by decide +kernel
theorem dX5_skillsChange_97 : decode cX5_skillsChange 97 = .ok (.iaload, 1) := by decide +kernel
theorem dX5_skillsChange_98 : decode cX5_skillsChange 98 = .ok (.bipush 9, 2) := by decide +kernel
theorem dX5_skillsChange_100 : decode cX5_skillsChange 100 = .ok (.if_icmp .ge 7, 3) := by decide +kernel
theorem dX5_skillsChange_103 : decode cX5_skillsChange 103 = .ok (.iconst 1, 1) := by decide +kernel
theorem dX5_skillsChange_104 : decode cX5_skillsChange 104 = .ok (.goto 4, 3) := by decide +kernel
theorem dX5_skillsChange_107 : decode cX5_skillsChange 107 = .ok (.iconst 0, 1) := by decide +kernel
theorem dX5_skillsChange_108 : decode cX5_skillsChange 108 = .ok (.iadd, 1) := by decide +kernel
theorem dX5_skillsChange_109 : decode cX5_skillsChange 109 = .ok (.iastore, 1) := by decide +kernel
theorem dX5_skillsChange_110 : decode cX5_skillsChange 110 = .ok (.goto 32, 3) := by decide +kernel
theorem dX5_skillsChange_113 : decode cX5_skillsChange 113 = .ok (.iload_n 3, 1) := by decide +kernel
theorem dX5_skillsChange_114 : decode cX5_skillsChange 114 = .ok (.ifCond .eq 28, 3) := by decide +kernel
theorem dX5_skillsChange_117 : decode cX5_skillsChange 117 = .ok (.aload_n 0, 1) := by decide +kernel
theorem dX5_skillsChange_118 : decode cX5_skillsChange 118 = .ok (.getfield 34, 3) := by decide +kernel
theorem dX5_skillsChange_121 : decode cX5_skillsChange 121 = .ok (.iload 5, 2) := by decide +kernel
theorem dX5_skillsChange_123 : decode cX5_skillsChange 123 = .ok (.dup2, 1) := by decide +kernel
theorem dX5_skillsChange_124 : decode cX5_skillsChange 124 = .ok (.iaload, 1) := by decide +kernel
theorem dX5_skillsChange_125 : decode cX5_skillsChange 125 = .ok (.aload_n 0, 1) := by decide +kernel
theorem dX5_skillsChange_126 : decode cX5_skillsChange 126 = .ok (.getfield 34, 3) := by decide +kernel
theorem dX5_skillsChange_129 : decode cX5_skillsChange 129 = .ok (.iload 5, 2) := by decide +kernel
theorem dX5_skillsChange_131 : decode cX5_skillsChange 131 = .ok (.iaload, 1) := by decide +kernel
theorem dX5_skillsChange_132 : decode cX5_skillsChange 132 = .ok (.ifCond .le 7, 3) := by decide +kernel
theorem dX5_skillsChange_135 : decode cX5_skillsChange 135 = .ok (.iconst 1, 1) := by decide +kernel
theorem dX5_skillsChange_136 : decode cX5_skillsChange 136 = .ok (.goto 4, 3) := by decide +kernel
theorem dX5_skillsChange_139 : decode cX5_skillsChange 139 = .ok (.iconst 0, 1) := by decide +kernel
theorem dX5_skillsChange_140 : decode cX5_skillsChange 140 = .ok (.isub, 1) := by decide +kernel
theorem dX5_skillsChange_141 : decode cX5_skillsChange 141 = .ok (.iastore, 1) := by decide +kernel
theorem dX5_skillsChange_142 : decode cX5_skillsChange 142 = .ok (.iinc 4 1, 3) := by decide +kernel
theorem dX5_skillsChange_145 : decode cX5_skillsChange 145 = .ok (.goto (-89), 3) := by decide +kernel
theorem dX5_skillsChange_148 : decode cX5_skillsChange 148 = .ok (.return_, 1) := by decide +kernel
set_option maxRecDepth 20000 in
theorem ggX5_goesBy_X5_workAll : GoodIn wsX5_goesBy wsX5_workAll := goodIn_r _ [8, 1, 9, 10, 2, 11, 12, 13, 14, 7, 15, 16, 17, 18, 19, 3, 20, 21, 22, 23, 24, 25, 26, 27, 28, 39, 40, 41, 42, 43, 44, 45, 46, 47, 48, 49, 50, 51, 52, 53, 54, 55, 56, 57, 58, 59, 60, 61, 62, 63, 64, 65, 66, 67] (by decide +kernel) (by decide +kernel)
set_option maxRecDepth 20000 in
theorem gX5_goesBy_X5_workAll : GoodIn wsX5_goesBy (wsV RX5 162 RX5 yX5_workAll wsX5_workAll) := goodIn_app (goodIn_of _ (by decide +kernel)) ggX5_goesBy_X5_workAll
set_option maxRecDepth 20000 in
theorem ggX5_goesBy_X5_takesNeeds : GoodIn wsX5_goesBy wsX5_takesNeeds := goodIn_r _ [32, 3, 2, 33, 34, 39, 40, 41, 42, 43, 44, 45, 46, 47, 48, 49, 50, 51, 52, 53, 54, 55, 56, 57, 58, 59, 60, 61, 62, 63, 64, 65, 66, 67] (by decide +kernel) (by decide +kernel)
set_option maxRecDepth 20000 in
theorem gX5_goesBy_X5_takesNeeds : GoodIn wsX5_goesBy (wsV RX5 165 RX5 yX5_takesNeeds wsX5_takesNeeds) := goodIn_app (goodIn_of _ (by decide +kernel)) ggX5_goesBy_X5_takesNeeds
set_option maxRecDepth 20000 in
theorem ggX5_goesBy_X5_placeOf : GoodIn wsX5_goesBy wsX5_placeOf := goodIn_r _ [19, 3, 2, 20, 39, 40, 41, 42, 43, 44, 45, 46, 47, 48, 49, 50, 51, 52, 53, 54, 55, 56, 57, 58, 59, 60, 61, 62, 63, 64, 65, 66, 67] (by decide +kernel) (by decide +kernel)
set_option maxRecDepth 20000 in
theorem gX5_goesBy_X5_placeOf : GoodIn wsX5_goesBy (wsV RX5 150 RX5 yX5_placeOf wsX5_placeOf) := goodIn_app (goodIn_of _ (by decide +kernel)) ggX5_goesBy_X5_placeOf
set_option maxRecDepth 20000 in
theorem ggX5_goesBy_X5_skillsChange : GoodIn wsX5_goesBy wsX5_skillsChange := goodIn_r _ [38, 9, 34, 2, 3, 21, 22, 23, 7, 24, 39, 40, 41, 42, 43, 44, 45, 46, 47, 48, 49, 50, 51, 52, 53, 54, 55, 56, 57, 58, 59, 60, 61, 62, 63, 64, 65, 66, 67] (by decide +kernel) (by decide +kernel)
set_option maxRecDepth 20000 in
theorem gX5_goesBy_X5_skillsChange : GoodIn wsX5_goesBy (wsV RX5 169 RX5 yX5_skillsChange wsX5_skillsChange) := goodIn_app (goodIn_of _ (by decide +kernel)) ggX5_goesBy_X5_skillsChange
theorem dX5_goesBy_0 : decode cX5_goesBy 0 = .ok (.aload_n 0, 1) := by decide +kernel
theorem dX5_goesBy_1 : decode cX5_goesBy 1 = .ok (.invokevirtual 162, 3) := by decide +kernel
theorem dX5_goesBy_4 : decode cX5_goesBy 4 = .ok (.aload_n 0, 1) := by decide +kernel
theorem dX5_goesBy_5 : decode cX5_goesBy 5 = .ok (.invokevirtual 165, 3) := by decide +kernel
theorem dX5_goesBy_8 : decode cX5_goesBy 8 = .ok (.istore_n 1, 1) := by decide +kernel
theorem dX5_goesBy_9 : decode cX5_goesBy 9 = .ok (.iconst 0, 1) := by decide +kernel
theorem dX5_goesBy_10 : decode cX5_goesBy 10 = .ok (.istore_n 2, 1) := by decide +kernel
theorem dX5_goesBy_11 : decode cX5_goesBy 11 = .ok (.iload_n 2, 1) := by decide +kernel
theorem dX5_goesBy_12 : decode cX5_goesBy 12 = .ok (.aload_n 0, 1) := by decide +kernel
theorem dX5_goesBy_13 : decode cX5_goesBy 13 = .ok (.getfield 140, 3) := by decide +kernel
theorem dX5_goesBy_16 : decode cX5_goesBy 16 = .ok (.if_icmp .ge 95, 3) := by decide +kernel
theorem dX5_goesBy_19 : decode cX5_goesBy 19 = .ok (.aload_n 0, 1) := by decide +kernel
theorem dX5_goesBy_20 : decode cX5_goesBy 20 = .ok (.iload_n 2, 1) := by decide +kernel
theorem dX5_goesBy_21 : decode cX5_goesBy 21 = .ok (.invokevirtual 150, 3) := by decide +kernel
theorem dX5_goesBy_24 : decode cX5_goesBy 24 = .ok (.istore_n 3, 1) := by decide +kernel
theorem dX5_goesBy_25 : decode cX5_goesBy 25 = .ok (.aload_n 0, 1) := by decide +kernel
theorem dX5_goesBy_26 : decode cX5_goesBy 26 = .ok (.iload_n 2, 1) := by decide +kernel
theorem dX5_goesBy_27 : decode cX5_goesBy 27 = .ok (.invokevirtual 169, 3) := by decide +kernel
theorem dX5_goesBy_30 : decode cX5_goesBy 30 = .ok (.aload_n 0, 1) := by decide +kernel
theorem dX5_goesBy_31 : decode cX5_goesBy 31 = .ok (.getfield 34, 3) := by decide +kernel
theorem dX5_goesBy_34 : decode cX5_goesBy 34 = .ok (.bipush 20, 2) := by decide +kernel
theorem dX5_goesBy_36 : decode cX5_goesBy 36 = .ok (.iload_n 2, 1) := by decide +kernel
theorem dX5_goesBy_37 : decode cX5_goesBy 37 = .ok (.iadd, 1) := by decide +kernel
theorem dX5_goesBy_38 : decode cX5_goesBy 38 = .ok (.iload_n 3, 1) := by decide +kernel
theorem dX5_goesBy_39 : decode cX5_goesBy 39 = .ok (.bipush (-9), 2) := by decide +kernel
theorem dX5_goesBy_41 : decode cX5_goesBy 41 = .ok (.if_icmp .ne 15, 3) := by decide +kernel
theorem dX5_goesBy_44 : decode cX5_goesBy 44 = .ok (.aload_n 0, 1) := by decide +kernel
theorem dX5_goesBy_45 : decode cX5_goesBy 45 = .ok (.getfield 34, 3) := by decide +kernel
theorem dX5_goesBy_48 : decode cX5_goesBy 48 = .ok (.bipush 20, 2) := by decide +kernel
theorem dX5_goesBy_50 : decode cX5_goesBy 50 = .ok (.iload_n 2, 1) := by decide +kernel
theorem dX5_goesBy_51 : decode cX5_goesBy 51 = .ok (.iadd, 1) := by decide +kernel
theorem dX5_goesBy_52 : decode cX5_goesBy 52 = .ok (.iaload, 1) := by decide +kernel
theorem dX5_goesBy_53 : decode cX5_goesBy 53 = .ok (.goto 4, 3) := by decide +kernel
theorem dX5_goesBy_56 : decode cX5_goesBy 56 = .ok (.iload_n 3, 1) := by decide +kernel
theorem dX5_goesBy_57 : decode cX5_goesBy 57 = .ok (.iconst 1, 1) := by decide +kernel
theorem dX5_goesBy_58 : decode cX5_goesBy 58 = .ok (.iadd, 1) := by decide +kernel
theorem dX5_goesBy_59 : decode cX5_goesBy 59 = .ok (.aload_n 0, 1) := by decide +kernel
theorem dX5_goesBy_60 : decode cX5_goesBy 60 = .ok (.getfield 137, 3) := by decide +kernel
theorem dX5_goesBy_63 : decode cX5_goesBy 63 = .ok (.irem, 1) := by decide +kernel
theorem dX5_goesBy_64 : decode cX5_goesBy 64 = .ok (.iastore, 1) := by decide +kernel
theorem dX5_goesBy_65 : decode cX5_goesBy 65 = .ok (.aload_n 0, 1) := by decide +kernel
theorem dX5_goesBy_66 : decode cX5_goesBy 66 = .ok (.getfield 34, 3) := by decide +kernel
theorem dX5_goesBy_69 : decode cX5_goesBy 69 = .ok (.bipush 26, 2) := by decide +kernel
theorem dX5_goesBy_71 : decode cX5_goesBy 71 = .ok (.iload_n 2, 1) := by decide +kernel
theorem dX5_goesBy_72 : decode cX5_goesBy 72 = .ok (.iadd, 1) := by decide +kernel
theorem dX5_goesBy_73 : decode cX5_goesBy 73 = .ok (.iaload, 1) := by decide +kernel
theorem dX5_goesBy_74 : decode cX5_goesBy 74 = .ok (.bipush (-9), 2) := by decide +kernel
theorem dX5_goesBy_76 : decode cX5_goesBy 76 = .ok (.if_icmp .eq 29, 3) := by decide +kernel
theorem dX5_goesBy_79 : decode cX5_goesBy 79 = .ok (.aload_n 0, 1) := by decide +kernel
theorem dX5_goesBy_80 : decode cX5_goesBy 80 = .ok (.getfield 34, 3) := by decide +kernel
theorem dX5_goesBy_83 : decode cX5_goesBy 83 = .ok (.bipush 69, 2) := by decide +kernel
theorem dX5_goesBy_85 : decode cX5_goesBy 85 = .ok (.bipush 6, 2) := by decide +kernel
theorem dX5_goesBy_87 : decode cX5_goesBy 87 = .ok (.aload_n 0, 1) := by decide +kernel
theorem dX5_goesBy_88 : decode cX5_goesBy 88 = .ok (.getfield 34, 3) := by decide +kernel
theorem dX5_goesBy_91 : decode cX5_goesBy 91 = .ok (.bipush 26, 2) := by decide +kernel
theorem dX5_goesBy_93 : decode cX5_goesBy 93 = .ok (.iload_n 2, 1) := by decide +kernel
theorem dX5_goesBy_94 : decode cX5_goesBy 94 = .ok (.iadd, 1) := by decide +kernel
theorem dX5_goesBy_95 : decode cX5_goesBy 95 = .ok (.iaload, 1) := by decide +kernel
theorem dX5_goesBy_96 : decode cX5_goesBy 96 = .ok (.imul, 1) := by decide +kernel
theorem dX5_goesBy_97 : decode cX5_goesBy 97 = .ok (.iadd, 1) := by decide +kernel
theorem dX5_goesBy_98 : decode cX5_goesBy 98 = .ok (.iload_n 2, 1) := by decide +kernel
theorem dX5_goesBy_99 : decode cX5_goesBy 99 = .ok (.iadd, 1) := by decide +kernel
theorem dX5_goesBy_100 : decode cX5_goesBy 100 = .ok (.dup2, 1) := by decide +kernel
theorem dX5_goesBy_101 : decode cX5_goesBy 101 = .ok (.iaload, 1) := by decide +kernel
theorem dX5_goesBy_102 : decode cX5_goesBy 102 = .ok (.iconst 1, 1) := by decide +kernel
theorem dX5_goesBy_103 : decode cX5_goesBy 103 = .ok (.iadd, 1) := by decide +kernel
theorem dX5_goesBy_104 : decode cX5_goesBy 104 = .ok (.iastore, 1) := by decide +kernel
theorem dX5_goesBy_105 : decode cX5_goesBy 105 = .ok (.iinc 2 1, 3) := by decide +kernel
theorem dX5_goesBy_108 : decode cX5_goesBy 108 = .ok (.goto (-97), 3) := by decide +kernel
theorem dX5_goesBy_111 : decode cX5_goesBy 111 = .ok (.iconst 0, 1) := by decide +kernel
theorem dX5_goesBy_112 : decode cX5_goesBy 112 = .ok (.istore_n 2, 1) := by decide +kernel
theorem dX5_goesBy_113 : decode cX5_goesBy 113 = .ok (.iload_n 2, 1) := by decide +kernel
theorem dX5_goesBy_114 : decode cX5_goesBy 114 = .ok (.aload_n 0, 1) := by decide +kernel
theorem dX5_goesBy_115 : decode cX5_goesBy 115 = .ok (.getfield 140, 3) := by decide +kernel
theorem dX5_goesBy_118 : decode cX5_goesBy 118 = .ok (.if_icmp .ge 20, 3) := by decide +kernel
theorem dX5_goesBy_121 : decode cX5_goesBy 121 = .ok (.aload_n 0, 1) := by decide +kernel
theorem dX5_goesBy_122 : decode cX5_goesBy 122 = .ok (.getfield 34, 3) := by decide +kernel
theorem dX5_goesBy_125 : decode cX5_goesBy 125 = .ok (.bipush 26, 2) := by decide +kernel
theorem dX5_goesBy_127 : decode cX5_goesBy 127 = .ok (.iload_n 2, 1) := by decide +kernel
theorem dX5_goesBy_128 : decode cX5_goesBy 128 = .ok (.iadd, 1) := by decide +kernel
theorem dX5_goesBy_129 : decode cX5_goesBy 129 = .ok (.bipush (-9), 2) := by decide +kernel
theorem dX5_goesBy_131 : decode cX5_goesBy 131 = .ok (.iastore, 1) := by decide +kernel
theorem dX5_goesBy_132 : decode cX5_goesBy 132 = .ok (.iinc 2 1, 3) := by decide +kernel
theorem dX5_goesBy_135 : decode cX5_goesBy 135 = .ok (.goto (-22), 3) := by decide +kernel
theorem dX5_goesBy_138 : decode cX5_goesBy 138 = .ok (.aload_n 0, 1) := by decide +kernel
theorem dX5_goesBy_139 : decode cX5_goesBy 139 = .ok (.getfield 34, 3) := by decide +kernel
theorem dX5_goesBy_142 : decode cX5_goesBy 142 = .ok (.bipush 32, 2) := by decide +kernel
theorem dX5_goesBy_144 : decode cX5_goesBy 144 = .ok (.iconst 0, 1) := by decide +kernel
theorem dX5_goesBy_145 : decode cX5_goesBy 145 = .ok (.iastore, 1) := by decide +kernel
theorem dX5_goesBy_146 : decode cX5_goesBy 146 = .ok (.aload_n 0, 1) := by decide +kernel
theorem dX5_goesBy_147 : decode cX5_goesBy 147 = .ok (.getfield 34, 3) := by decide +kernel
theorem dX5_goesBy_150 : decode cX5_goesBy 150 = .ok (.iconst 0, 1) := by decide +kernel
theorem dX5_goesBy_151 : decode cX5_goesBy 151 = .ok (.dup2, 1) := by decide +kernel
theorem dX5_goesBy_152 : decode cX5_goesBy 152 = .ok (.iaload, 1) := by decide +kernel
theorem dX5_goesBy_153 : decode cX5_goesBy 153 = .ok (.iconst 1, 1) := by decide +kernel
theorem dX5_goesBy_154 : decode cX5_goesBy 154 = .ok (.iadd, 1) := by decide +kernel
theorem dX5_goesBy_155 : decode cX5_goesBy 155 = .ok (.iastore, 1) := by decide +kernel
theorem dX5_goesBy_156 : decode cX5_goesBy 156 = .ok (.iload_n 1, 1) := by decide +kernel
theorem dX5_goesBy_157 : decode cX5_goesBy 157 = .ok (.ireturn, 1) := by decide +kernel
set_option maxRecDepth 20000 in
theorem ggX5_go_X5_in : GoodIn wsX5_go wsX5_in := goodIn_r _ [7] (by decide +kernel) (by decide +kernel)
set_option maxRecDepth 20000 in
theorem gX5_go_X5_in : GoodIn wsX5_go (va_wsS RX5 63 yX5_in wsX5_in) := goodIn_app (goodIn_of _ (by decide +kernel)) ggX5_go_X5_in
set_option maxRecDepth 20000 in
theorem ggX5_go_X5_goesBy : GoodIn wsX5_go wsX5_goesBy := goodIn_r _ [11, 12, 2, 3, 13, 14, 15, 6, 16, 17, 18, 19, 20, 21, 22, 23, 24, 25, 26, 27, 28, 29, 30, 31, 32, 33, 34, 35, 36, 37, 38, 39, 40, 41, 42, 43, 44, 45, 46, 47, 48, 49, 50, 51, 52, 53, 54, 55, 56, 57, 58, 59, 60, 61, 62, 63, 64, 65, 66, 67, 68, 69, 70, 71, 72, 73, 74, 75] (by decide +kernel) (by decide +kernel)
set_option maxRecDepth 20000 in
theorem gX5_go_X5_goesBy : GoodIn wsX5_go (wsV RX5 172 RX5 yX5_goesBy wsX5_goesBy) := goodIn_app (goodIn_of _ (by decide +kernel)) ggX5_go_X5_goesBy
theorem dX5_go_0 : decode cX5_go 0 = .ok (.aload_n 0, 1) := by decide +kernel
theorem dX5_go_1 : decode cX5_go 1 = .ok (.iconst 0, 1) := by decide +kernel
theorem dX5_go_2 : decode cX5_go 2 = .ok (.putfield 59, 3) := by decide +kernel
theorem dX5_go_5 : decode cX5_go 5 = .ok (.iload_n 1, 1) := by decide +kernel
theorem dX5_go_6 : decode cX5_go 6 = .ok (.iconst 1, 1) := by decide +kernel
theorem dX5_go_7 : decode cX5_go 7 = .ok (.bipush 99, 2) := by decide +kernel
theorem dX5_go_9 : decode cX5_go 9 = .ok (.invokestatic 63, 3) := by decide +kernel
theorem dX5_go_12 : decode cX5_go 12 = .ok (.ifCond .ne 5, 3) := by decide +kernel
theorem dX5_go_15 : decode cX5_go 15 = .ok (.iconst (-1), 1) := by decide +kernel
theorem dX5_go_16 : decode cX5_go 16 = .ok (.ireturn, 1) := by decide +kernel
theorem dX5_go_17 : decode cX5_go 17 = .ok (.aload_n 0, 1) := by decide +kernel
theorem dX5_go_18 : decode cX5_go 18 = .ok (.getfield 34, 3) := by decide +kernel
theorem dX5_go_21 : decode cX5_go 21 = .ok (.iconst 0, 1) := by decide +kernel
theorem dX5_go_22 : decode cX5_go 22 = .ok (.iaload, 1) := by decide +kernel
theorem dX5_go_23 : decode cX5_go 23 = .ok (.bipush 99, 2) := by decide +kernel
theorem dX5_go_25 : decode cX5_go 25 = .ok (.if_icmp .eq 10, 3) := by decide +kernel
theorem dX5_go_28 : decode cX5_go 28 = .ok (.aload_n 0, 1) := by decide +kernel
theorem dX5_go_29 : decode cX5_go 29 = .ok (.getfield 137, 3) := by decide +kernel
theorem dX5_go_32 : decode cX5_go 32 = .ok (.ifCond .ne 6, 3) := by decide +kernel
theorem dX5_go_35 : decode cX5_go 35 = .ok (.bipush (-2), 2) := by decide +kernel
theorem dX5_go_37 : decode cX5_go 37 = .ok (.ireturn, 1) := by decide +kernel
theorem dX5_go_38 : decode cX5_go 38 = .ok (.iconst 0, 1) := by decide +kernel
theorem dX5_go_39 : decode cX5_go 39 = .ok (.istore_n 2, 1) := by decide +kernel
theorem dX5_go_40 : decode cX5_go 40 = .ok (.iconst 0, 1) := by decide +kernel
theorem dX5_go_41 : decode cX5_go 41 = .ok (.istore_n 3, 1) := by decide +kernel
theorem dX5_go_42 : decode cX5_go 42 = .ok (.iload_n 3, 1) := by decide +kernel
theorem dX5_go_43 : decode cX5_go 43 = .ok (.iload_n 1, 1) := by decide +kernel
theorem dX5_go_44 : decode cX5_go 44 = .ok (.if_icmp .ge 27, 3) := by decide +kernel
theorem dX5_go_47 : decode cX5_go 47 = .ok (.aload_n 0, 1) := by decide +kernel
theorem dX5_go_48 : decode cX5_go 48 = .ok (.getfield 34, 3) := by decide +kernel
theorem dX5_go_51 : decode cX5_go 51 = .ok (.iconst 0, 1) := by decide +kernel
theorem dX5_go_52 : decode cX5_go 52 = .ok (.iaload, 1) := by decide +kernel
theorem dX5_go_53 : decode cX5_go 53 = .ok (.bipush 99, 2) := by decide +kernel
theorem dX5_go_55 : decode cX5_go 55 = .ok (.if_icmp .ge 16, 3) := by decide +kernel
theorem dX5_go_58 : decode cX5_go 58 = .ok (.iload_n 2, 1) := by decide +kernel
theorem dX5_go_59 : decode cX5_go 59 = .ok (.aload_n 0, 1) := by decide +kernel
theorem dX5_go_60 : decode cX5_go 60 = .ok (.invokevirtual 172, 3) := by decide +kernel
theorem dX5_go_63 : decode cX5_go 63 = .ok (.iadd, 1) := by decide +kernel
theorem dX5_go_64 : decode cX5_go 64 = .ok (.istore_n 2, 1) := by decide +kernel
theorem dX5_go_65 : decode cX5_go 65 = .ok (.iinc 3 1, 3) := by decide +kernel
theorem dX5_go_68 : decode cX5_go 68 = .ok (.goto (-26), 3) := by decide +kernel
theorem dX5_go_71 : decode cX5_go 71 = .ok (.iload_n 2, 1) := by decide +kernel
theorem dX5_go_72 : decode cX5_go 72 = .ok (.ireturn, 1) := by decide +kernel
set_option maxRecDepth 20000 in
theorem ggX5_help_X5_isPerson : GoodIn wsX5_help wsX5_isPerson := goodIn_r _ [7, 8, 9, 10, 6, 11, 16, 17, 18, 19, 20, 21, 22, 23, 24, 25, 26, 27, 28, 29, 30, 31, 32, 33, 34, 35, 36, 37, 38, 39, 40, 41, 42, 43, 44] (by decide +kernel) (by decide +kernel)
set_option maxRecDepth 20000 in
theorem gX5_help_X5_isPerson : GoodIn wsX5_help (wsV RX5 147 RX5 yX5_isPerson wsX5_isPerson) := goodIn_app (goodIn_of _ (by decide +kernel)) ggX5_help_X5_isPerson
set_option maxRecDepth 20000 in
theorem ggX5_help_X5_helperOf : GoodIn wsX5_help wsX5_helperOf := goodIn_r _ [15, 8, 2, 16, 17, 18, 19, 20, 21, 22, 23, 24, 25, 26, 27, 28, 29, 30, 31, 32, 33, 34, 35, 36, 37, 38, 39, 40, 41, 42, 43, 44] (by decide +kernel) (by decide +kernel)
set_option maxRecDepth 20000 in
theorem gX5_help_X5_helperOf : GoodIn wsX5_help (wsV RX5 159 RX5 yX5_helperOf wsX5_helperOf) := goodIn_app (goodIn_of _ (by decide +kernel)) ggX5_help_X5_helperOf
theorem dX5_help_0 : decode cX5_help 0 = .ok (.aload_n 0, 1) := by decide +kernel
theorem dX5_help_1 : decode cX5_help 1 = .ok (.iconst 0, 1) := by decide +kernel
theorem dX5_help_2 : decode cX5_help 2 = .ok (.putfield 59, 3) := by decide +kernel
theorem dX5_help_5 : decode cX5_help 5 = .ok (.aload_n 0, 1) := by decide +kernel
theorem dX5_help_6 : decode cX5_help 6 = .ok (.iload_n 1, 1) := by decide +kernel
theorem dX5_help_7 : decode cX5_help 7 = .ok (.invokevirtual 147, 3) := by decide +kernel
theorem dX5_help_10 : decode cX5_help 10 = .ok (.ifCond .eq 16, 3) := by decide +kernel
theorem dX5_help_13 : decode cX5_help 13 = .ok (.aload_n 0, 1) := by decide +kernel
theorem dX5_help_14 : decode cX5_help 14 = .ok (.iload_n 2, 1) := by decide +kernel
theorem dX5_help_15 : decode cX5_help 15 = .ok (.invokevirtual 147, 3) := by decide +kernel
theorem dX5_help_18 : decode cX5_help 18 = .ok (.ifCond .eq 8, 3) := by decide +kernel
theorem dX5_help_21 : decode cX5_help 21 = .ok (.iload_n 1, 1) := by decide +kernel
theorem dX5_help_22 : decode cX5_help 22 = .ok (.iload_n 2, 1) := by decide +kernel
theorem dX5_help_23 : decode cX5_help 23 = .ok (.if_icmp .ne 5, 3) := by decide +kernel
theorem dX5_help_26 : decode cX5_help 26 = .ok (.iconst (-1), 1) := by decide +kernel
theorem dX5_help_27 : decode cX5_help 27 = .ok (.ireturn, 1) := by decide +kernel
theorem dX5_help_28 : decode cX5_help 28 = .ok (.aload_n 0, 1) := by decide +kernel
theorem dX5_help_29 : decode cX5_help 29 = .ok (.getfield 34, 3) := by decide +kernel
theorem dX5_help_32 : decode cX5_help 32 = .ok (.bipush 26, 2) := by decide +kernel
theorem dX5_help_34 : decode cX5_help 34 = .ok (.iload_n 1, 1) := by decide +kernel
theorem dX5_help_35 : decode cX5_help 35 = .ok (.iadd, 1) := by decide +kernel
theorem dX5_help_36 : decode cX5_help 36 = .ok (.iaload, 1) := by decide +kernel
theorem dX5_help_37 : decode cX5_help 37 = .ok (.bipush (-9), 2) := by decide +kernel
theorem dX5_help_39 : decode cX5_help 39 = .ok (.if_icmp .ne 13, 3) := by decide +kernel
theorem dX5_help_42 : decode cX5_help 42 = .ok (.aload_n 0, 1) := by decide +kernel
theorem dX5_help_43 : decode cX5_help 43 = .ok (.iload_n 2, 1) := by decide +kernel
theorem dX5_help_44 : decode cX5_help 44 = .ok (.invokevirtual 159, 3) := by decide +kernel
theorem dX5_help_47 : decode cX5_help 47 = .ok (.bipush (-9), 2) := by decide +kernel
theorem dX5_help_49 : decode cX5_help 49 = .ok (.if_icmp .eq 6, 3) := by decide +kernel
theorem dX5_help_52 : decode cX5_help 52 = .ok (.bipush (-2), 2) := by decide +kernel
theorem dX5_help_54 : decode cX5_help 54 = .ok (.ireturn, 1) := by decide +kernel
theorem dX5_help_55 : decode cX5_help 55 = .ok (.aload_n 0, 1) := by decide +kernel
theorem dX5_help_56 : decode cX5_help 56 = .ok (.getfield 34, 3) := by decide +kernel
theorem dX5_help_59 : decode cX5_help 59 = .ok (.bipush 26, 2) := by decide +kernel
theorem dX5_help_61 : decode cX5_help 61 = .ok (.iload_n 1, 1) := by decide +kernel
theorem dX5_help_62 : decode cX5_help 62 = .ok (.iadd, 1) := by decide +kernel
theorem dX5_help_63 : decode cX5_help 63 = .ok (.iload_n 2, 1) := by decide +kernel
theorem dX5_help_64 : decode cX5_help 64 = .ok (.iastore, 1) := by decide +kernel
theorem dX5_help_65 : decode cX5_help 65 = .ok (.iconst 1, 1) := by decide +kernel
theorem dX5_help_66 : decode cX5_help 66 = .ok (.ireturn, 1) := by decide +kernel
set_option maxRecDepth 20000 in
theorem ggX5_ill_X5_isPerson : GoodIn wsX5_ill wsX5_isPerson := goodIn_r _ [7, 8, 9, 10, 6, 11, 16, 17, 18, 19, 20, 21, 22, 23, 24, 25, 26, 27, 28, 29, 30, 31, 32, 33, 34, 35, 36, 37, 38, 39, 40, 41, 42, 43, 44] (by decide +kernel) (by decide +kernel)
set_option maxRecDepth 20000 in
theorem gX5_ill_X5_isPerson : GoodIn wsX5_ill (wsV RX5 147 RX5 yX5_isPerson wsX5_isPerson) := goodIn_app (goodIn_of _ (by decide +kernel)) ggX5_ill_X5_isPerson
set_option maxRecDepth 20000 in
theorem ggX5_ill_X5_isIll : GoodIn wsX5_ill wsX5_isIll := goodIn_r _ [15, 2, 16, 17, 18, 19, 20, 21, 22, 23, 24, 25, 26, 27, 28, 29, 30, 31, 32, 33, 34, 35, 36, 37, 38, 39, 40, 41, 42, 43, 44] (by decide +kernel) (by decide +kernel)
set_option maxRecDepth 20000 in
theorem gX5_ill_X5_isIll : GoodIn wsX5_ill (wsV RX5 156 RX5 yX5_isIll wsX5_isIll) := goodIn_app (goodIn_of _ (by decide +kernel)) ggX5_ill_X5_isIll
theorem dX5_ill_0 : decode cX5_ill 0 = .ok (.aload_n 0, 1) := by decide +kernel
theorem dX5_ill_1 : decode cX5_ill 1 = .ok (.iconst 0, 1) := by decide +kernel
theorem dX5_ill_2 : decode cX5_ill 2 = .ok (.putfield 59, 3) := by decide +kernel
theorem dX5_ill_5 : decode cX5_ill 5 = .ok (.aload_n 0, 1) := by decide +kernel
theorem dX5_ill_6 : decode cX5_ill 6 = .ok (.iload_n 1, 1) := by decide +kernel
theorem dX5_ill_7 : decode cX5_ill 7 = .ok (.invokevirtual 147, 3) := by decide +kernel
theorem dX5_ill_10 : decode cX5_ill 10 = .ok (.ifCond .ne 5, 3) := by decide +kernel
theorem dX5_ill_13 : decode cX5_ill 13 = .ok (.iconst (-1), 1) := by decide +kernel
theorem dX5_ill_14 : decode cX5_ill 14 = .ok (.ireturn, 1) := by decide +kernel
theorem dX5_ill_15 : decode cX5_ill 15 = .ok (.aload_n 0, 1) := by decide +kernel
theorem dX5_ill_16 : decode cX5_ill 16 = .ok (.iload_n 1, 1) := by decide +kernel
theorem dX5_ill_17 : decode cX5_ill 17 = .ok (.invokevirtual 156, 3) := by decide +kernel
theorem dX5_ill_20 : decode cX5_ill 20 = .ok (.ifCond .eq 7, 3) := by decide +kernel
theorem dX5_ill_23 : decode cX5_ill 23 = .ok (.iconst 0, 1) := by decide +kernel
theorem dX5_ill_24 : decode cX5_ill 24 = .ok (.goto 4, 3) := by decide +kernel
theorem dX5_ill_27 : decode cX5_ill 27 = .ok (.iconst 1, 1) := by decide +kernel
theorem dX5_ill_28 : decode cX5_ill 28 = .ok (.istore_n 2, 1) := by decide +kernel
theorem dX5_ill_29 : decode cX5_ill 29 = .ok (.aload_n 0, 1) := by decide +kernel
theorem dX5_ill_30 : decode cX5_ill 30 = .ok (.getfield 34, 3) := by decide +kernel
theorem dX5_ill_33 : decode cX5_ill 33 = .ok (.bipush 32, 2) := by decide +kernel
theorem dX5_ill_35 : decode cX5_ill 35 = .ok (.dup2, 1) := by decide +kernel
theorem dX5_ill_36 : decode cX5_ill 36 = .ok (.iaload, 1) := by decide +kernel
theorem dX5_ill_37 : decode cX5_ill 37 = .ok (.iconst 1, 1) := by decide +kernel
theorem dX5_ill_38 : decode cX5_ill 38 = .ok (.iload_n 1, 1) := by decide +kernel
theorem dX5_ill_39 : decode cX5_ill 39 = .ok (.ishl, 1) := by decide +kernel
theorem dX5_ill_40 : decode cX5_ill 40 = .ok (.ior, 1) := by decide +kernel
theorem dX5_ill_41 : decode cX5_ill 41 = .ok (.iastore, 1) := by decide +kernel
theorem dX5_ill_42 : decode cX5_ill 42 = .ok (.iload_n 2, 1) := by decide +kernel
theorem dX5_ill_43 : decode cX5_ill 43 = .ok (.ireturn, 1) := by decide +kernel
set_option maxRecDepth 20000 in
theorem ggX5_oil_X5_isTrade : GoodIn wsX5_oil wsX5_isTrade := goodIn_r _ [8, 2, 9, 10, 7, 11, 12, 13, 14, 15, 16, 17, 18, 19, 20, 21, 22, 23, 24, 25, 26, 27, 28, 29, 30, 31, 32, 33, 34, 35, 36, 37, 38, 39, 40] (by decide +kernel) (by decide +kernel)
set_option maxRecDepth 20000 in
theorem gX5_oil_X5_isTrade : GoodIn wsX5_oil (wsV RX5 143 RX5 yX5_isTrade wsX5_isTrade) := goodIn_app (goodIn_of _ (by decide +kernel)) ggX5_oil_X5_isTrade
theorem dX5_oil_0 : decode cX5_oil 0 = .ok (.aload_n 0, 1) := by decide +kernel
theorem dX5_oil_1 : decode cX5_oil 1 = .ok (.iconst 0, 1) := by decide +kernel
theorem dX5_oil_2 : decode cX5_oil 2 = .ok (.putfield 59, 3) := by decide +kernel
theorem dX5_oil_5 : decode cX5_oil 5 = .ok (.aload_n 0, 1) := by decide +kernel
theorem dX5_oil_6 : decode cX5_oil 6 = .ok (.iload_n 1, 1) := by decide +kernel
theorem dX5_oil_7 : decode cX5_oil 7 = .ok (.invokevirtual 143, 3) := by decide +kernel
theorem dX5_oil_10 : decode cX5_oil 10 = .ok (.ifCond .ne 5, 3) := by decide +kernel
theorem dX5_oil_13 : decode cX5_oil 13 = .ok (.iconst (-1), 1) := by decide +kernel
theorem dX5_oil_14 : decode cX5_oil 14 = .ok (.ireturn, 1) := by decide +kernel
theorem dX5_oil_15 : decode cX5_oil 15 = .ok (.aload_n 0, 1) := by decide +kernel
theorem dX5_oil_16 : decode cX5_oil 16 = .ok (.getfield 137, 3) := by decide +kernel
theorem dX5_oil_19 : decode cX5_oil 19 = .ok (.iconst 1, 1) := by decide +kernel
theorem dX5_oil_20 : decode cX5_oil 20 = .ok (.if_icmp .ne 6, 3) := by decide +kernel
theorem dX5_oil_23 : decode cX5_oil 23 = .ok (.bipush (-2), 2) := by decide +kernel
theorem dX5_oil_25 : decode cX5_oil 25 = .ok (.ireturn, 1) := by decide +kernel
theorem dX5_oil_26 : decode cX5_oil 26 = .ok (.iload_n 1, 1) := by decide +kernel
theorem dX5_oil_27 : decode cX5_oil 27 = .ok (.iconst 1, 1) := by decide +kernel
theorem dX5_oil_28 : decode cX5_oil 28 = .ok (.iadd, 1) := by decide +kernel
theorem dX5_oil_29 : decode cX5_oil 29 = .ok (.aload_n 0, 1) := by decide +kernel
theorem dX5_oil_30 : decode cX5_oil 30 = .ok (.getfield 137, 3) := by decide +kernel
theorem dX5_oil_33 : decode cX5_oil 33 = .ok (.irem, 1) := by decide +kernel
theorem dX5_oil_34 : decode cX5_oil 34 = .ok (.istore_n 2, 1) := by decide +kernel
theorem dX5_oil_35 : decode cX5_oil 35 = .ok (.aload_n 0, 1) := by decide +kernel
theorem dX5_oil_36 : decode cX5_oil 36 = .ok (.getfield 34, 3) := by decide +kernel
theorem dX5_oil_39 : decode cX5_oil 39 = .ok (.bipush 14, 2) := by decide +kernel
theorem dX5_oil_41 : decode cX5_oil 41 = .ok (.iload_n 1, 1) := by decide +kernel
theorem dX5_oil_42 : decode cX5_oil 42 = .ok (.iadd, 1) := by decide +kernel
theorem dX5_oil_43 : decode cX5_oil 43 = .ok (.iaload, 1) := by decide +kernel
theorem dX5_oil_44 : decode cX5_oil 44 = .ok (.istore_n 3, 1) := by decide +kernel
theorem dX5_oil_45 : decode cX5_oil 45 = .ok (.aload_n 0, 1) := by decide +kernel
theorem dX5_oil_46 : decode cX5_oil 46 = .ok (.getfield 34, 3) := by decide +kernel
theorem dX5_oil_49 : decode cX5_oil 49 = .ok (.bipush 14, 2) := by decide +kernel
theorem dX5_oil_51 : decode cX5_oil 51 = .ok (.iload_n 1, 1) := by decide +kernel
theorem dX5_oil_52 : decode cX5_oil 52 = .ok (.iadd, 1) := by decide +kernel
theorem dX5_oil_53 : decode cX5_oil 53 = .ok (.aload_n 0, 1) := by decide +kernel
theorem dX5_oil_54 : decode cX5_oil 54 = .ok (.getfield 34, 3) := by decide +kernel
theorem dX5_oil_57 : decode cX5_oil 57 = .ok (.bipush 14, 2) := by decide +kernel
theorem dX5_oil_59 : decode cX5_oil 59 = .ok (.iload_n 2, 1) := by decide +kernel
theorem dX5_oil_60 : decode cX5_oil 60 = .ok (.iadd, 1) := by decide +kernel
theorem dX5_oil_61 : decode cX5_oil 61 = .ok (.iaload, 1) := by decide +kernel
theorem dX5_oil_62 : decode cX5_oil 62 = .ok (.iastore, 1) := by decide +kernel
theorem dX5_oil_63 : decode cX5_oil 63 = .ok (.aload_n 0, 1) := by decide +kernel
theorem dX5_oil_64 : decode cX5_oil 64 = .ok (.getfield 34, 3) := by decide +kernel
theorem dX5_oil_67 : decode cX5_oil 67 = .ok (.bipush 14, 2) := by decide +kernel
theorem dX5_oil_69 : decode cX5_oil 69 = .ok (.iload_n 2, 1) := by decide +kernel
theorem dX5_oil_70 : decode cX5_oil 70 = .ok (.iadd, 1) := by decide +kernel
theorem dX5_oil_71 : decode cX5_oil 71 = .ok (.iload_n 3, 1) := by decide +kernel
theorem dX5_oil_72 : decode cX5_oil 72 = .ok (.iastore, 1) := by decide +kernel
theorem dX5_oil_73 : decode cX5_oil 73 = .ok (.aload_n 0, 1) := by decide +kernel
theorem dX5_oil_74 : decode cX5_oil 74 = .ok (.getfield 34, 3) := by decide +kernel
theorem dX5_oil_77 : decode cX5_oil 77 = .ok (.bipush 14, 2) := by decide +kernel
theorem dX5_oil_79 : decode cX5_oil 79 = .ok (.iload_n 1, 1) := by decide +kernel
theorem dX5_oil_80 : decode cX5_oil 80 = .ok (.iadd, 1) := by decide +kernel
theorem dX5_oil_81 : decode cX5_oil 81 = .ok (.iaload, 1) := by decide +kernel
theorem dX5_oil_82 : decode cX5_oil 82 = .ok (.ireturn, 1) := by decide +kernel
set_option maxRecDepth 20000 in
theorem ggX5_favours_X5_isPerson : GoodIn wsX5_favours wsX5_isPerson := goodIn_r _ [7, 8, 9, 10, 6, 11, 12, 13, 14, 15, 16, 17, 18, 19, 20, 21, 22, 23, 24, 25, 26, 27, 28, 29, 30, 31, 32, 33, 34, 35, 36, 37, 38, 39, 40] (by decide +kernel) (by decide +kernel)
set_option maxRecDepth 20000 in
theorem gX5_favours_X5_isPerson : GoodIn wsX5_favours (wsV RX5 147 RX5 yX5_isPerson wsX5_isPerson) := goodIn_app (goodIn_of _ (by decide +kernel)) ggX5_favours_X5_isPerson
theorem dX5_favours_0 : decode cX5_favours 0 = .ok (.aload_n 0, 1) := by decide +kernel
theorem dX5_favours_1 : decode cX5_favours 1 = .ok (.iconst 0, 1) := by decide +kernel
theorem dX5_favours_2 : decode cX5_favours 2 = .ok (.putfield 59, 3) := by decide +kernel
theorem dX5_favours_5 : decode cX5_favours 5 = .ok (.aload_n 0, 1) := by decide +kernel
theorem dX5_favours_6 : decode cX5_favours 6 = .ok (.iload_n 2, 1) := by decide +kernel
theorem dX5_favours_7 : decode cX5_favours 7 = .ok (.invokevirtual 147, 3) := by decide +kernel
theorem dX5_favours_10 : decode cX5_favours 10 = .ok (.ifCond .eq 33, 3) := by decide +kernel
theorem dX5_favours_13 : decode cX5_favours 13 = .ok (.aload_n 0, 1) := by decide +kernel
theorem dX5_favours_14 : decode cX5_favours 14 = .ok (.iload_n 1, 1) := by decide +kernel
theorem dX5_favours_15 : decode cX5_favours 15 = .ok (.invokevirtual 147, 3) := by decide +kernel
theorem dX5_favours_18 : decode cX5_favours 18 = .ok (.ifCond .eq 25, 3) := by decide +kernel
theorem dX5_favours_21 : decode cX5_favours 21 = .ok (.iload_n 2, 1) := by decide +kernel
theorem dX5_favours_22 : decode cX5_favours 22 = .ok (.iload_n 1, 1) := by decide +kernel
theorem dX5_favours_23 : decode cX5_favours 23 = .ok (.if_icmp .eq 20, 3) := by decide +kernel
theorem dX5_favours_26 : decode cX5_favours 26 = .ok (.aload_n 0, 1) := by decide +kernel
theorem dX5_favours_27 : decode cX5_favours 27 = .ok (.getfield 34, 3) := by decide +kernel
theorem dX5_favours_30 : decode cX5_favours 30 = .ok (.bipush 69, 2) := by decide +kernel
theorem dX5_favours_32 : decode cX5_favours 32 = .ok (.bipush 6, 2) := by decide +kernel
theorem dX5_favours_34 : decode cX5_favours 34 = .ok (.iload_n 1, 1) := by decide +kernel
theorem dX5_favours_35 : decode cX5_favours 35 = .ok (.imul, 1) := by decide +kernel
theorem dX5_favours_36 : decode cX5_favours 36 = .ok (.iadd, 1) := by decide +kernel
theorem dX5_favours_37 : decode cX5_favours 37 = .ok (.iload_n 2, 1) := by decide +kernel
theorem dX5_favours_38 : decode cX5_favours 38 = .ok (.iadd, 1) := by decide +kernel
theorem dX5_favours_39 : decode cX5_favours 39 = .ok (.iaload, 1) := by decide +kernel
theorem dX5_favours_40 : decode cX5_favours 40 = .ok (.goto 4, 3) := by decide +kernel
theorem dX5_favours_43 : decode cX5_favours 43 = .ok (.iconst (-1), 1) := by decide +kernel
theorem dX5_favours_44 : decode cX5_favours 44 = .ok (.ireturn, 1) := by decide +kernel
theorem dX5_sumOf_0 : decode cX5_sumOf 0 = .ok (.iconst 0, 1) := by decide +kernel
theorem dX5_sumOf_1 : decode cX5_sumOf 1 = .ok (.istore_n 2, 1) := by decide +kernel
theorem dX5_sumOf_2 : decode cX5_sumOf 2 = .ok (.iconst 0, 1) := by decide +kernel
theorem dX5_sumOf_3 : decode cX5_sumOf 3 = .ok (.istore_n 3, 1) := by decide +kernel
theorem dX5_sumOf_4 : decode cX5_sumOf 4 = .ok (.iload_n 3, 1) := by decide +kernel
theorem dX5_sumOf_5 : decode cX5_sumOf 5 = .ok (.aload_n 0, 1) := by decide +kernel
theorem dX5_sumOf_6 : decode cX5_sumOf 6 = .ok (.getfield 137, 3) := by decide +kernel
theorem dX5_sumOf_9 : decode cX5_sumOf 9 = .ok (.if_icmp .ge 20, 3) := by decide +kernel
theorem dX5_sumOf_12 : decode cX5_sumOf 12 = .ok (.iload_n 2, 1) := by decide +kernel
theorem dX5_sumOf_13 : decode cX5_sumOf 13 = .ok (.aload_n 0, 1) := by decide +kernel
theorem dX5_sumOf_14 : decode cX5_sumOf 14 = .ok (.getfield 34, 3) := by decide +kernel
theorem dX5_sumOf_17 : decode cX5_sumOf 17 = .ok (.iload_n 1, 1) := by decide +kernel
theorem dX5_sumOf_18 : decode cX5_sumOf 18 = .ok (.iload_n 3, 1) := by decide +kernel
theorem dX5_sumOf_19 : decode cX5_sumOf 19 = .ok (.iadd, 1) := by decide +kernel
theorem dX5_sumOf_20 : decode cX5_sumOf 20 = .ok (.iaload, 1) := by decide +kernel
theorem dX5_sumOf_21 : decode cX5_sumOf 21 = .ok (.iadd, 1) := by decide +kernel
theorem dX5_sumOf_22 : decode cX5_sumOf 22 = .ok (.istore_n 2, 1) := by decide +kernel
theorem dX5_sumOf_23 : decode cX5_sumOf 23 = .ok (.iinc 3 1, 3) := by decide +kernel
theorem dX5_sumOf_26 : decode cX5_sumOf 26 = .ok (.goto (-22), 3) := by decide +kernel
theorem dX5_sumOf_29 : decode cX5_sumOf 29 = .ok (.iload_n 2, 1) := by decide +kernel
theorem dX5_sumOf_30 : decode cX5_sumOf 30 = .ok (.ireturn, 1) := by decide +kernel
set_option maxRecDepth 20000 in
theorem ggX5_now_X5_sumOf : GoodIn wsX5_now wsX5_sumOf := goodIn_r _ [7, 8, 2, 9, 10, 11, 12, 13, 14, 15, 16, 17, 18, 19, 20, 21, 22, 23, 24, 25, 26, 27, 28, 29, 30, 31, 32, 33, 34, 35, 36, 37] (by decide +kernel) (by decide +kernel)
set_option maxRecDepth 20000 in
theorem gX5_now_X5_sumOf : GoodIn wsX5_now (wsV RX5 175 RX5 yX5_sumOf wsX5_sumOf) := goodIn_app (goodIn_of _ (by decide +kernel)) ggX5_now_X5_sumOf
theorem dX5_now_0 : decode cX5_now 0 = .ok (.aload_n 0, 1) := by decide +kernel
theorem dX5_now_1 : decode cX5_now 1 = .ok (.iconst 0, 1) := by decide +kernel
theorem dX5_now_2 : decode cX5_now 2 = .ok (.putfield 59, 3) := by decide +kernel
theorem dX5_now_5 : decode cX5_now 5 = .ok (.iload_n 1, 1) := by decide +kernel
theorem dX5_now_6 : decode cX5_now 6 = .ok (.ifCond .ne 12, 3) := by decide +kernel
theorem dX5_now_9 : decode cX5_now 9 = .ok (.aload_n 0, 1) := by decide +kernel
theorem dX5_now_10 : decode cX5_now 10 = .ok (.getfield 34, 3) := by decide +kernel
theorem dX5_now_13 : decode cX5_now 13 = .ok (.iconst 0, 1) := by decide +kernel
theorem dX5_now_14 : decode cX5_now 14 = .ok (.iaload, 1) := by decide +kernel
theorem dX5_now_15 : decode cX5_now 15 = .ok (.goto 45, 3) := by decide +kernel
theorem dX5_now_18 : decode cX5_now 18 = .ok (.iload_n 1, 1) := by decide +kernel
theorem dX5_now_19 : decode cX5_now 19 = .ok (.iconst 1, 1) := by decide +kernel
theorem dX5_now_20 : decode cX5_now 20 = .ok (.if_icmp .ne 12, 3) := by decide +kernel
theorem dX5_now_23 : decode cX5_now 23 = .ok (.aload_n 0, 1) := by decide +kernel
theorem dX5_now_24 : decode cX5_now 24 = .ok (.bipush 8, 2) := by decide +kernel
theorem dX5_now_26 : decode cX5_now 26 = .ok (.invokevirtual 175, 3) := by decide +kernel
theorem dX5_now_29 : decode cX5_now 29 = .ok (.goto 31, 3) := by decide +kernel
theorem dX5_now_32 : decode cX5_now 32 = .ok (.iload_n 1, 1) := by decide +kernel
theorem dX5_now_33 : decode cX5_now 33 = .ok (.iconst 2, 1) := by decide +kernel
theorem dX5_now_34 : decode cX5_now 34 = .ok (.if_icmp .ne 12, 3) := by decide +kernel
theorem dX5_now_37 : decode cX5_now 37 = .ok (.aload_n 0, 1) := by decide +kernel
theorem dX5_now_38 : decode cX5_now 38 = .ok (.getfield 34, 3) := by decide +kernel
theorem dX5_now_41 : decode cX5_now 41 = .ok (.iconst 1, 1) := by decide +kernel
theorem dX5_now_42 : decode cX5_now 42 = .ok (.iaload, 1) := by decide +kernel
theorem dX5_now_43 : decode cX5_now 43 = .ok (.goto 17, 3) := by decide +kernel
theorem dX5_now_46 : decode cX5_now 46 = .ok (.iload_n 1, 1) := by decide +kernel
theorem dX5_now_47 : decode cX5_now 47 = .ok (.iconst 3, 1) := by decide +kernel
theorem dX5_now_48 : decode cX5_now 48 = .ok (.if_icmp .ne 11, 3) := by decide +kernel
theorem dX5_now_51 : decode cX5_now 51 = .ok (.aload_n 0, 1) := by decide +kernel
theorem dX5_now_52 : decode cX5_now 52 = .ok (.iconst 2, 1) := by decide +kernel
theorem dX5_now_53 : decode cX5_now 53 = .ok (.invokevirtual 175, 3) := by decide +kernel
theorem dX5_now_56 : decode cX5_now 56 = .ok (.goto 4, 3) := by decide +kernel
theorem dX5_now_59 : decode cX5_now 59 = .ok (.iconst (-1), 1) := by decide +kernel
theorem dX5_now_60 : decode cX5_now 60 = .ok (.ireturn, 1) := by decide +kernel
set_option maxRecDepth 20000 in
theorem ggX5_anew_X5_begins : GoodIn wsX5_anew wsX5_begins := goodIn_r _ [7, 2, 8, 9, 10, 11, 12, 13, 14, 15, 16, 17, 18, 19, 20, 21, 22, 23, 24, 25, 26, 27, 28, 29, 30, 31, 32, 33, 34, 35, 36, 37, 38, 39] (by decide +kernel) (by decide +kernel)
set_option maxRecDepth 20000 in
theorem gX5_anew_X5_begins : GoodIn wsX5_anew (wsV RX5 56 RX5 yX5_begins wsX5_begins) := goodIn_app (goodIn_of _ (by decide +kernel)) ggX5_anew_X5_begins
theorem dX5_anew_0 : decode cX5_anew 0 = .ok (.aload_n 0, 1) := by decide +kernel
theorem dX5_anew_1 : decode cX5_anew 1 = .ok (.iconst 0, 1) := by decide +kernel
theorem dX5_anew_2 : decode cX5_anew 2 = .ok (.putfield 59, 3) := by decide +kernel
theorem dX5_anew_5 : decode cX5_anew 5 = .ok (.aload_n 0, 1) := by decide +kernel
theorem dX5_anew_6 : decode cX5_anew 6 = .ok (.getfield 34, 3) := by decide +kernel
theorem dX5_anew_9 : decode cX5_anew 9 = .ok (.iconst 0, 1) := by decide +kernel
theorem dX5_anew_10 : decode cX5_anew 10 = .ok (.iaload, 1) := by decide +kernel
theorem dX5_anew_11 : decode cX5_anew 11 = .ok (.istore_n 1, 1) := by decide +kernel
theorem dX5_anew_12 : decode cX5_anew 12 = .ok (.aload_n 0, 1) := by decide +kernel
theorem dX5_anew_13 : decode cX5_anew 13 = .ok (.invokevirtual 56, 3) := by decide +kernel
theorem dX5_anew_16 : decode cX5_anew 16 = .ok (.iload_n 1, 1) := by decide +kernel
theorem dX5_anew_17 : decode cX5_anew 17 = .ok (.ireturn, 1) := by decide +kernel
theorem dX5_aside_0 : decode cX5_aside 0 = .ok (.iconst 0, 1) := by decide +kernel
theorem dX5_aside_1 : decode cX5_aside 1 = .ok (.istore_n 2, 1) := by decide +kernel
theorem dX5_aside_2 : decode cX5_aside 2 = .ok (.iload_n 2, 1) := by decide +kernel
theorem dX5_aside_3 : decode cX5_aside 3 = .ok (.bipush 105, 2) := by decide +kernel
theorem dX5_aside_5 : decode cX5_aside 5 = .ok (.if_icmp .ge 40, 3) := by decide +kernel
theorem dX5_aside_8 : decode cX5_aside 8 = .ok (.iload_n 1, 1) := by decide +kernel
theorem dX5_aside_9 : decode cX5_aside 9 = .ok (.ifCond .eq 18, 3) := by decide +kernel
theorem dX5_aside_12 : decode cX5_aside 12 = .ok (.aload_n 0, 1) := by decide +kernel
theorem dX5_aside_13 : decode cX5_aside 13 = .ok (.getfield 37, 3) := by decide +kernel
theorem dX5_aside_16 : decode cX5_aside 16 = .ok (.iload_n 2, 1) := by decide +kernel
theorem dX5_aside_17 : decode cX5_aside 17 = .ok (.aload_n 0, 1) := by decide +kernel
theorem dX5_aside_18 : decode cX5_aside 18 = .ok (.getfield 34, 3) := by decide +kernel
theorem dX5_aside_21 : decode cX5_aside 21 = .ok (.iload_n 2, 1) := by decide +kernel
theorem dX5_aside_22 : decode cX5_aside 22 = .ok (.iaload, 1) := by decide +kernel
theorem dX5_aside_23 : decode cX5_aside 23 = .ok (.iastore, 1) := by decide +kernel
theorem dX5_aside_24 : decode cX5_aside 24 = .ok (.goto 15, 3) := by decide +kernel
theorem dX5_aside_27 : decode cX5_aside 27 = .ok (.aload_n 0, 1) := by decide +kernel
theorem dX5_aside_28 : decode cX5_aside 28 = .ok (.getfield 34, 3) := by decide +kernel
theorem dX5_aside_31 : decode cX5_aside 31 = .ok (.iload_n 2, 1) := by decide +kernel
theorem dX5_aside_32 : decode cX5_aside 32 = .ok (.aload_n 0, 1) := by decide +kernel
theorem dX5_aside_33 : decode cX5_aside 33 = .ok (.getfield 37, 3) := by decide +kernel
theorem dX5_aside_36 : decode cX5_aside 36 = .ok (.iload_n 2, 1) := by decide +kernel
theorem dX5_aside_37 : decode cX5_aside 37 = .ok (.iaload, 1) := by decide +kernel
theorem dX5_aside_38 : decode cX5_aside 38 = .ok (.iastore, 1) := by decide +kernel
theorem dX5_aside_39 : decode cX5_aside 39 = .ok (.iinc 2 1, 3) := by decide +kernel
theorem dX5_aside_42 : decode cX5_aside 42 = .ok (.goto (-40), 3) := by decide +kernel
theorem dX5_aside_45 : decode cX5_aside 45 = .ok (.return_, 1) := by decide +kernel
set_option maxRecDepth 20000 in
theorem ggX5_lacksIn_X5_goesBy : GoodIn wsX5_lacksIn wsX5_goesBy := goodIn_r _ [7, 8, 1, 9, 10, 11, 12, 6, 13, 14, 15, 16, 17, 18, 19, 20, 21, 22, 23, 24, 25, 26, 27, 28, 29, 30, 31, 32, 33, 34, 35, 36, 37, 38, 39, 40, 41, 42, 43, 44, 45, 46, 47, 48, 49, 50, 51, 52, 53, 54, 55, 56, 57, 58, 59, 60, 61, 62, 63, 64, 65, 66, 67, 68, 69, 70, 71, 72] (by decide +kernel) (by decide +kernel)
set_option maxRecDepth 20000 in
theorem gX5_lacksIn_X5_goesBy : GoodIn wsX5_lacksIn (wsV RX5 172 RX5 yX5_goesBy wsX5_goesBy) := goodIn_app (goodIn_of _ (by decide +kernel)) ggX5_lacksIn_X5_goesBy
theorem dX5_lacksIn_0 : decode cX5_lacksIn 0 = .ok (.aload_n 0, 1) := by decide +kernel
theorem dX5_lacksIn_1 : decode cX5_lacksIn 1 = .ok (.getfield 34, 3) := by decide +kernel
theorem dX5_lacksIn_4 : decode cX5_lacksIn 4 = .ok (.iconst 1, 1) := by decide +kernel
theorem dX5_lacksIn_5 : decode cX5_lacksIn 5 = .ok (.iaload, 1) := by decide +kernel
theorem dX5_lacksIn_6 : decode cX5_lacksIn 6 = .ok (.istore_n 2, 1) := by decide +kernel
theorem dX5_lacksIn_7 : decode cX5_lacksIn 7 = .ok (.iconst 0, 1) := by decide +kernel
theorem dX5_lacksIn_8 : decode cX5_lacksIn 8 = .ok (.istore_n 3, 1) := by decide +kernel
theorem dX5_lacksIn_9 : decode cX5_lacksIn 9 = .ok (.iconst 0, 1) := by decide +kernel
theorem dX5_lacksIn_10 : decode cX5_lacksIn 10 = .ok (.istore 4, 2) := by decide +kernel
theorem dX5_lacksIn_12 : decode cX5_lacksIn 12 = .ok (.iload 4, 2) := by decide +kernel
theorem dX5_lacksIn_14 : decode cX5_lacksIn 14 = .ok (.iload_n 1, 1) := by decide +kernel
theorem dX5_lacksIn_15 : decode cX5_lacksIn 15 = .ok (.if_icmp .ge 27, 3) := by decide +kernel
theorem dX5_lacksIn_18 : decode cX5_lacksIn 18 = .ok (.aload_n 0, 1) := by decide +kernel
theorem dX5_lacksIn_19 : decode cX5_lacksIn 19 = .ok (.getfield 34, 3) := by decide +kernel
theorem dX5_lacksIn_22 : decode cX5_lacksIn 22 = .ok (.iconst 0, 1) := by decide +kernel
theorem dX5_lacksIn_23 : decode cX5_lacksIn 23 = .ok (.iaload, 1) := by decide +kernel
theorem dX5_lacksIn_24 : decode cX5_lacksIn 24 = .ok (.bipush 99, 2) := by decide +kernel
theorem dX5_lacksIn_26 : decode cX5_lacksIn 26 = .ok (.if_icmp .ge 16, 3) := by decide +kernel
theorem dX5_lacksIn_29 : decode cX5_lacksIn 29 = .ok (.iload_n 3, 1) := by decide +kernel
theorem dX5_lacksIn_30 : decode cX5_lacksIn 30 = .ok (.aload_n 0, 1) := by decide +kernel
theorem dX5_lacksIn_31 : decode cX5_lacksIn 31 = .ok (.invokevirtual 172, 3) := by decide +kernel
theorem dX5_lacksIn_34 : decode cX5_lacksIn 34 = .ok (.iadd, 1) := by decide +kernel
theorem dX5_lacksIn_35 : decode cX5_lacksIn 35 = .ok (.istore_n 3, 1) := by decide +kernel
theorem dX5_lacksIn_36 : decode cX5_lacksIn 36 = .ok (.iinc 4 1, 3) := by decide +kernel
theorem dX5_lacksIn_39 : decode cX5_lacksIn 39 = .ok (.goto (-27), 3) := by decide +kernel
theorem dX5_lacksIn_42 : decode cX5_lacksIn 42 = .ok (.aload_n 0, 1) := by decide +kernel
theorem dX5_lacksIn_43 : decode cX5_lacksIn 43 = .ok (.aload_n 0, 1) := by decide +kernel
theorem dX5_lacksIn_44 : decode cX5_lacksIn 44 = .ok (.getfield 34, 3) := by decide +kernel
theorem dX5_lacksIn_47 : decode cX5_lacksIn 47 = .ok (.iconst 1, 1) := by decide +kernel
theorem dX5_lacksIn_48 : decode cX5_lacksIn 48 = .ok (.iaload, 1) := by decide +kernel
theorem dX5_lacksIn_49 : decode cX5_lacksIn 49 = .ok (.iload_n 2, 1) := by decide +kernel
theorem dX5_lacksIn_50 : decode cX5_lacksIn 50 = .ok (.isub, 1) := by decide +kernel
theorem dX5_lacksIn_51 : decode cX5_lacksIn 51 = .ok (.putfield 178, 3) := by decide +kernel
theorem dX5_lacksIn_54 : decode cX5_lacksIn 54 = .ok (.iload_n 3, 1) := by decide +kernel
theorem dX5_lacksIn_55 : decode cX5_lacksIn 55 = .ok (.ireturn, 1) := by decide +kernel
set_option maxRecDepth 20000 in
theorem ggX5_areRounds_X5_in : GoodIn wsX5_areRounds wsX5_in := goodIn_r _ [4] (by decide +kernel) (by decide +kernel)
set_option maxRecDepth 20000 in
theorem gX5_areRounds_X5_in : GoodIn wsX5_areRounds (va_wsS RX5 63 yX5_in wsX5_in) := goodIn_app (goodIn_of _ (by decide +kernel)) ggX5_areRounds_X5_in
theorem dX5_areRounds_0 : decode cX5_areRounds 0 = .ok (.iload_n 0, 1) := by decide +kernel
theorem dX5_areRounds_1 : decode cX5_areRounds 1 = .ok (.iconst 1, 1) := by decide +kernel
theorem dX5_areRounds_2 : decode cX5_areRounds 2 = .ok (.bipush 40, 2) := by decide +kernel
theorem dX5_areRounds_4 : decode cX5_areRounds 4 = .ok (.invokestatic 63, 3) := by decide +kernel
theorem dX5_areRounds_7 : decode cX5_areRounds 7 = .ok (.ireturn, 1) := by decide +kernel
set_option maxRecDepth 20000 in
theorem ggX5_lacking_X5_areRounds : GoodIn wsX5_lacking wsX5_areRounds := goodIn_r _ [7, 8, 9, 6, 10] (by decide +kernel) (by decide +kernel)
set_option maxRecDepth 20000 in
theorem gX5_lacking_X5_areRounds : GoodIn wsX5_lacking (va_wsS RX5 181 yX5_areRounds wsX5_areRounds) := goodIn_app (goodIn_of _ (by decide +kernel)) ggX5_lacking_X5_areRounds
set_option maxRecDepth 20000 in
theorem ggX5_lacking_X5_in : GoodIn wsX5_lacking wsX5_in := goodIn_r _ [10] (by decide +kernel) (by decide +kernel)
set_option maxRecDepth 20000 in
theorem gX5_lacking_X5_in : GoodIn wsX5_lacking (va_wsS RX5 63 yX5_in wsX5_in) := goodIn_app (goodIn_of _ (by decide +kernel)) ggX5_lacking_X5_in
set_option maxRecDepth 20000 in
theorem ggX5_lacking_X5_aside : GoodIn wsX5_lacking wsX5_aside := goodIn_r _ [14, 15, 16, 60, 61, 62, 63, 64, 65, 66, 67, 68, 69, 70, 71, 72, 73, 74, 75, 76, 77, 78, 79, 80, 81, 82, 83, 84, 85, 86, 87, 88] (by decide +kernel) (by decide +kernel)
set_option maxRecDepth 20000 in
theorem gX5_lacking_X5_aside : GoodIn wsX5_lacking (wsV RX5 184 RX5 yX5_aside wsX5_aside) := goodIn_app (goodIn_of _ (by decide +kernel)) ggX5_lacking_X5_aside
set_option maxRecDepth 20000 in
theorem ggX5_lacking_X5_lacksIn : GoodIn wsX5_lacking wsX5_lacksIn := goodIn_r _ [20, 16, 3, 21, 22, 23, 6, 24, 25, 2, 26, 27, 28, 29, 30, 31, 32, 33, 34, 35, 36, 37, 38, 39, 40, 41, 42, 43, 44, 45, 46, 47, 48, 49, 50, 51, 52, 53, 54, 55, 56, 57, 58, 59, 60, 61, 62, 63, 64, 65, 66, 67, 68, 69, 70, 71, 72, 73, 74, 75, 76, 77, 78, 79, 80, 81, 82, 83, 84, 85, 86, 87, 88] (by decide +kernel) (by decide +kernel)
set_option maxRecDepth 20000 in
theorem gX5_lacking_X5_lacksIn : GoodIn wsX5_lacking (wsV RX5 188 RX5 yX5_lacksIn wsX5_lacksIn) := goodIn_app (goodIn_of _ (by decide +kernel)) ggX5_lacking_X5_lacksIn
theorem dX5_lacking_0 : decode cX5_lacking 0 = .ok (.aload_n 0, 1) := by decide +kernel
theorem dX5_lacking_1 : decode cX5_lacking 1 = .ok (.iconst 0, 1) := by decide +kernel
theorem dX5_lacking_2 : decode cX5_lacking 2 = .ok (.putfield 59, 3) := by decide +kernel
theorem dX5_lacking_5 : decode cX5_lacking 5 = .ok (.iload_n 1, 1) := by decide +kernel
theorem dX5_lacking_6 : decode cX5_lacking 6 = .ok (.invokestatic 181, 3) := by decide +kernel
theorem dX5_lacking_9 : decode cX5_lacking 9 = .ok (.ifCond .eq 12, 3) := by decide +kernel
theorem dX5_lacking_12 : decode cX5_lacking 12 = .ok (.iload_n 2, 1) := by decide +kernel
theorem dX5_lacking_13 : decode cX5_lacking 13 = .ok (.iconst 0, 1) := by decide +kernel
theorem dX5_lacking_14 : decode cX5_lacking 14 = .ok (.iconst 1, 1) := by decide +kernel
theorem dX5_lacking_15 : decode cX5_lacking 15 = .ok (.invokestatic 63, 3) := by decide +kernel
theorem dX5_lacking_18 : decode cX5_lacking 18 = .ok (.ifCond .ne 5, 3) := by decide +kernel
theorem dX5_lacking_21 : decode cX5_lacking 21 = .ok (.iconst (-1), 1) := by decide +kernel
theorem dX5_lacking_22 : decode cX5_lacking 22 = .ok (.ireturn, 1) := by decide +kernel
theorem dX5_lacking_23 : decode cX5_lacking 23 = .ok (.aload_n 0, 1) := by decide +kernel
theorem dX5_lacking_24 : decode cX5_lacking 24 = .ok (.getfield 137, 3) := by decide +kernel
theorem dX5_lacking_27 : decode cX5_lacking 27 = .ok (.ifCond .ne 6, 3) := by decide +kernel
theorem dX5_lacking_30 : decode cX5_lacking 30 = .ok (.bipush (-2), 2) := by decide +kernel
theorem dX5_lacking_32 : decode cX5_lacking 32 = .ok (.ireturn, 1) := by decide +kernel
theorem dX5_lacking_33 : decode cX5_lacking 33 = .ok (.aload_n 0, 1) := by decide +kernel
theorem dX5_lacking_34 : decode cX5_lacking 34 = .ok (.iconst 1, 1) := by decide +kernel
theorem dX5_lacking_35 : decode cX5_lacking 35 = .ok (.invokevirtual 184, 3) := by decide +kernel
theorem dX5_lacking_38 : decode cX5_lacking 38 = .ok (.aload_n 0, 1) := by decide +kernel
theorem dX5_lacking_39 : decode cX5_lacking 39 = .ok (.iload_n 1, 1) := by decide +kernel
theorem dX5_lacking_40 : decode cX5_lacking 40 = .ok (.invokevirtual 188, 3) := by decide +kernel
theorem dX5_lacking_43 : decode cX5_lacking 43 = .ok (.istore_n 3, 1) := by decide +kernel
theorem dX5_lacking_44 : decode cX5_lacking 44 = .ok (.aload_n 0, 1) := by decide +kernel
theorem dX5_lacking_45 : decode cX5_lacking 45 = .ok (.iconst 0, 1) := by decide +kernel
theorem dX5_lacking_46 : decode cX5_lacking 46 = .ok (.invokevirtual 184, 3) := by decide +kernel
theorem dX5_lacking_49 : decode cX5_lacking 49 = .ok (.iload_n 2, 1) := by decide +kernel
theorem dX5_lacking_50 : decode cX5_lacking 50 = .ok (.ifCond .ne 7, 3) := by decide +kernel
theorem dX5_lacking_53 : decode cX5_lacking 53 = .ok (.iload_n 3, 1) := by decide +kernel
theorem dX5_lacking_54 : decode cX5_lacking 54 = .ok (.goto 7, 3) := by decide +kernel
theorem dX5_lacking_57 : decode cX5_lacking 57 = .ok (.aload_n 0, 1) := by decide +kernel
theorem dX5_lacking_58 : decode cX5_lacking 58 = .ok (.getfield 178, 3) := by decide +kernel
theorem dX5_lacking_61 : decode cX5_lacking 61 = .ok (.ireturn, 1) := by decide +kernel
set_option maxRecDepth 20000 in
theorem ggX5_goesOn_X5_swaps : GoodIn wsX5_goesOn wsX5_swaps := goodIn_r _ [7, 2, 8, 9, 10, 11, 12, 13, 14, 15, 16, 17, 18, 19, 20, 21, 22, 23, 24, 25, 26, 27, 28, 29, 30, 31, 32, 33, 34, 35, 36] (by decide +kernel) (by decide +kernel)
set_option maxRecDepth 20000 in
theorem gX5_goesOn_X5_swaps : GoodIn wsX5_goesOn (wsV RX5 191 RX5 yX5_swaps wsX5_swaps) := goodIn_app (goodIn_of _ (by decide +kernel)) ggX5_goesOn_X5_swaps
theorem dX5_goesOn_0 : decode cX5_goesOn 0 = .ok (.aload_n 0, 1) := by decide +kernel
theorem dX5_goesOn_1 : decode cX5_goesOn 1 = .ok (.getfield 137, 3) := by decide +kernel
theorem dX5_goesOn_4 : decode cX5_goesOn 4 = .ok (.iconst 2, 1) := by decide +kernel
theorem dX5_goesOn_5 : decode cX5_goesOn 5 = .ok (.isub, 1) := by decide +kernel
theorem dX5_goesOn_6 : decode cX5_goesOn 6 = .ok (.istore_n 1, 1) := by decide +kernel
theorem dX5_goesOn_7 : decode cX5_goesOn 7 = .ok (.iload_n 1, 1) := by decide +kernel
theorem dX5_goesOn_8 : decode cX5_goesOn 8 = .ok (.ifCond .lt 26, 3) := by decide +kernel
theorem dX5_goesOn_11 : decode cX5_goesOn 11 = .ok (.aload_n 0, 1) := by decide +kernel
theorem dX5_goesOn_12 : decode cX5_goesOn 12 = .ok (.getfield 53, 3) := by decide +kernel
theorem dX5_goesOn_15 : decode cX5_goesOn 15 = .ok (.iload_n 1, 1) := by decide +kernel
theorem dX5_goesOn_16 : decode cX5_goesOn 16 = .ok (.iaload, 1) := by decide +kernel
theorem dX5_goesOn_17 : decode cX5_goesOn 17 = .ok (.aload_n 0, 1) := by decide +kernel
theorem dX5_goesOn_18 : decode cX5_goesOn 18 = .ok (.getfield 53, 3) := by decide +kernel
theorem dX5_goesOn_21 : decode cX5_goesOn 21 = .ok (.iload_n 1, 1) := by decide +kernel
theorem dX5_goesOn_22 : decode cX5_goesOn 22 = .ok (.iconst 1, 1) := by decide +kernel
theorem dX5_goesOn_23 : decode cX5_goesOn 23 = .ok (.iadd, 1) := by decide +kernel
theorem dX5_goesOn_24 : decode cX5_goesOn 24 = .ok (.iaload, 1) := by decide +kernel
theorem dX5_goesOn_25 : decode cX5_goesOn 25 = .ok (.if_icmp .le 9, 3) := by decide +kernel
theorem dX5_goesOn_28 : decode cX5_goesOn 28 = .ok (.iinc 1 (-1), 3) := by decide +kernel
theorem dX5_goesOn_31 : decode cX5_goesOn 31 = .ok (.goto (-24), 3) := by decide +kernel
theorem dX5_goesOn_34 : decode cX5_goesOn 34 = .ok (.iload_n 1, 1) := by decide +kernel
theorem dX5_goesOn_35 : decode cX5_goesOn 35 = .ok (.ifCond .ge 5, 3) := by decide +kernel
theorem dX5_goesOn_38 : decode cX5_goesOn 38 = .ok (.iconst 0, 1) := by decide +kernel
theorem dX5_goesOn_39 : decode cX5_goesOn 39 = .ok (.ireturn, 1) := by decide +kernel
theorem dX5_goesOn_40 : decode cX5_goesOn 40 = .ok (.aload_n 0, 1) := by decide +kernel
theorem dX5_goesOn_41 : decode cX5_goesOn 41 = .ok (.getfield 137, 3) := by decide +kernel
theorem dX5_goesOn_44 : decode cX5_goesOn 44 = .ok (.iconst 1, 1) := by decide +kernel
theorem dX5_goesOn_45 : decode cX5_goesOn 45 = .ok (.isub, 1) := by decide +kernel
theorem dX5_goesOn_46 : decode cX5_goesOn 46 = .ok (.istore_n 2, 1) := by decide +kernel
theorem dX5_goesOn_47 : decode cX5_goesOn 47 = .ok (.aload_n 0, 1) := by decide +kernel
theorem dX5_goesOn_48 : decode cX5_goesOn 48 = .ok (.getfield 53, 3) := by decide +kernel
theorem dX5_goesOn_51 : decode cX5_goesOn 51 = .ok (.iload_n 2, 1) := by decide +kernel
theorem dX5_goesOn_52 : decode cX5_goesOn 52 = .ok (.iaload, 1) := by decide +kernel
theorem dX5_goesOn_53 : decode cX5_goesOn 53 = .ok (.aload_n 0, 1) := by decide +kernel
theorem dX5_goesOn_54 : decode cX5_goesOn 54 = .ok (.getfield 53, 3) := by decide +kernel
theorem dX5_goesOn_57 : decode cX5_goesOn 57 = .ok (.iload_n 1, 1) := by decide +kernel
theorem dX5_goesOn_58 : decode cX5_goesOn 58 = .ok (.iaload, 1) := by decide +kernel
theorem dX5_goesOn_59 : decode cX5_goesOn 59 = .ok (.if_icmp .ge 9, 3) := by decide +kernel
theorem dX5_goesOn_62 : decode cX5_goesOn 62 = .ok (.iinc 2 (-1), 3) := by decide +kernel
theorem dX5_goesOn_65 : decode cX5_goesOn 65 = .ok (.goto (-18), 3) := by decide +kernel
theorem dX5_goesOn_68 : decode cX5_goesOn 68 = .ok (.aload_n 0, 1) := by decide +kernel
theorem dX5_goesOn_69 : decode cX5_goesOn 69 = .ok (.iload_n 1, 1) := by decide +kernel
theorem dX5_goesOn_70 : decode cX5_goesOn 70 = .ok (.iload_n 2, 1) := by decide +kernel
theorem dX5_goesOn_71 : decode cX5_goesOn 71 = .ok (.invokevirtual 191, 3) := by decide +kernel
theorem dX5_goesOn_74 : decode cX5_goesOn 74 = .ok (.iload_n 1, 1) := by decide +kernel
theorem dX5_goesOn_75 : decode cX5_goesOn 75 = .ok (.iconst 1, 1) := by decide +kernel
theorem dX5_goesOn_76 : decode cX5_goesOn 76 = .ok (.iadd, 1) := by decide +kernel
theorem dX5_goesOn_77 : decode cX5_goesOn 77 = .ok (.istore_n 3, 1) := by decide +kernel
theorem dX5_goesOn_78 : decode cX5_goesOn 78 = .ok (.aload_n 0, 1) := by decide +kernel
theorem dX5_goesOn_79 : decode cX5_goesOn 79 = .ok (.getfield 137, 3) := by decide +kernel
theorem dX5_goesOn_82 : decode cX5_goesOn 82 = .ok (.iconst 1, 1) := by decide +kernel
theorem dX5_goesOn_83 : decode cX5_goesOn 83 = .ok (.isub, 1) := by decide +kernel
theorem dX5_goesOn_84 : decode cX5_goesOn 84 = .ok (.istore 4, 2) := by decide +kernel
theorem dX5_goesOn_86 : decode cX5_goesOn 86 = .ok (.iload_n 3, 1) := by decide +kernel
theorem dX5_goesOn_87 : decode cX5_goesOn 87 = .ok (.iload 4, 2) := by decide +kernel
theorem dX5_goesOn_89 : decode cX5_goesOn 89 = .ok (.if_icmp .ge 19, 3) := by decide +kernel
theorem dX5_goesOn_92 : decode cX5_goesOn 92 = .ok (.aload_n 0, 1) := by decide +kernel
theorem dX5_goesOn_93 : decode cX5_goesOn 93 = .ok (.iload_n 3, 1) := by decide +kernel
theorem dX5_goesOn_94 : decode cX5_goesOn 94 = .ok (.iload 4, 2) := by decide +kernel
theorem dX5_goesOn_96 : decode cX5_goesOn 96 = .ok (.invokevirtual 191, 3) := by decide +kernel
theorem dX5_goesOn_99 : decode cX5_goesOn 99 = .ok (.iinc 3 1, 3) := by decide +kernel
theorem dX5_goesOn_102 : decode cX5_goesOn 102 = .ok (.iinc 4 (-1), 3) := by decide +kernel
theorem dX5_goesOn_105 : decode cX5_goesOn 105 = .ok (.goto (-19), 3) := by decide +kernel
theorem dX5_goesOn_108 : decode cX5_goesOn 108 = .ok (.iconst 1, 1) := by decide +kernel
theorem dX5_goesOn_109 : decode cX5_goesOn 109 = .ok (.ireturn, 1) := by decide +kernel
theorem dX5_swaps_0 : decode cX5_swaps 0 = .ok (.aload_n 0, 1) := by decide +kernel
theorem dX5_swaps_1 : decode cX5_swaps 1 = .ok (.getfield 53, 3) := by decide +kernel
theorem dX5_swaps_4 : decode cX5_swaps 4 = .ok (.iload_n 1, 1) := by decide +kernel
theorem dX5_swaps_5 : decode cX5_swaps 5 = .ok (.iaload, 1) := by decide +kernel
theorem dX5_swaps_6 : decode cX5_swaps 6 = .ok (.istore_n 3, 1) := by decide +kernel
theorem dX5_swaps_7 : decode cX5_swaps 7 = .ok (.aload_n 0, 1) := by decide +kernel
theorem dX5_swaps_8 : decode cX5_swaps 8 = .ok (.getfield 53, 3) := by decide +kernel
theorem dX5_swaps_11 : decode cX5_swaps 11 = .ok (.iload_n 1, 1) := by decide +kernel
theorem dX5_swaps_12 : decode cX5_swaps 12 = .ok (.aload_n 0, 1) := by decide +kernel
theorem dX5_swaps_13 : decode cX5_swaps 13 = .ok (.getfield 53, 3) := by decide +kernel
theorem dX5_swaps_16 : decode cX5_swaps 16 = .ok (.iload_n 2, 1) := by decide +kernel
theorem dX5_swaps_17 : decode cX5_swaps 17 = .ok (.iaload, 1) := by decide +kernel
theorem dX5_swaps_18 : decode cX5_swaps 18 = .ok (.iastore, 1) := by decide +kernel
theorem dX5_swaps_19 : decode cX5_swaps 19 = .ok (.aload_n 0, 1) := by decide +kernel
theorem dX5_swaps_20 : decode cX5_swaps 20 = .ok (.getfield 53, 3) := by decide +kernel
theorem dX5_swaps_23 : decode cX5_swaps 23 = .ok (.iload_n 2, 1) := by decide +kernel
theorem dX5_swaps_24 : decode cX5_swaps 24 = .ok (.iload_n 3, 1) := by decide +kernel
theorem dX5_swaps_25 : decode cX5_swaps 25 = .ok (.iastore, 1) := by decide +kernel
theorem dX5_swaps_26 : decode cX5_swaps 26 = .ok (.return_, 1) := by decide +kernel
set_option maxRecDepth 20000 in
theorem ggX5_best_X5_areRounds : GoodIn wsX5_best wsX5_areRounds := goodIn_r _ [8, 9, 10, 7, 11] (by decide +kernel) (by decide +kernel)
set_option maxRecDepth 20000 in
theorem gX5_best_X5_areRounds : GoodIn wsX5_best (va_wsS RX5 181 yX5_areRounds wsX5_areRounds) := goodIn_app (goodIn_of _ (by decide +kernel)) ggX5_best_X5_areRounds
set_option maxRecDepth 20000 in
theorem ggX5_best_X5_in : GoodIn wsX5_best wsX5_in := goodIn_r _ [11] (by decide +kernel) (by decide +kernel)
set_option maxRecDepth 20000 in
theorem gX5_best_X5_in : GoodIn wsX5_best (va_wsS RX5 63 yX5_in wsX5_in) := goodIn_app (goodIn_of _ (by decide +kernel)) ggX5_best_X5_in
set_option maxRecDepth 20000 in
theorem ggX5_best_X5_aside : GoodIn wsX5_best wsX5_aside := goodIn_r _ [15, 16, 4, 69, 70, 71, 72, 73, 74, 75, 76, 77, 78, 79, 80, 81, 82, 83, 84, 85, 86, 87, 88, 89, 90, 91, 92, 93, 94, 95, 96, 97] (by decide +kernel) (by decide +kernel)
set_option maxRecDepth 20000 in
theorem gX5_best_X5_aside : GoodIn wsX5_best (wsV RX5 184 RX5 yX5_aside wsX5_aside) := goodIn_app (goodIn_of _ (by decide +kernel)) ggX5_best_X5_aside
set_option maxRecDepth 20000 in
theorem ggX5_best_X5_lacksIn : GoodIn wsX5_best wsX5_lacksIn := goodIn_r _ [20, 4, 21, 22, 23, 24, 7, 25, 26, 2, 27, 28, 29, 30, 31, 32, 33, 34, 35, 36, 37, 38, 39, 40, 41, 42, 43, 44, 45, 46, 47, 48, 49, 50, 51, 52, 53, 54, 55, 56, 57, 58, 59, 60, 69, 70, 71, 72, 73, 74, 75, 76, 77, 78, 79, 80, 81, 82, 83, 84, 85, 86, 87, 88, 89, 90, 91, 92, 93, 94, 95, 96, 97] (by decide +kernel) (by decide +kernel)
set_option maxRecDepth 20000 in
theorem gX5_best_X5_lacksIn : GoodIn wsX5_best (wsV RX5 188 RX5 yX5_lacksIn wsX5_lacksIn) := goodIn_app (goodIn_of _ (by decide +kernel)) ggX5_best_X5_lacksIn
set_option maxRecDepth 20000 in
theorem ggX5_best_X5_goesOn : GoodIn wsX5_best wsX5_goesOn := goodIn_r _ [64, 2, 3, 65, 66, 67, 7, 68, 69, 70, 71, 72, 73, 74, 75, 76, 77, 78, 79, 80, 81, 82, 83, 84, 85, 86, 87, 88, 89, 90, 91, 92, 93, 94, 95, 96, 97] (by decide +kernel) (by decide +kernel)
set_option maxRecDepth 20000 in
theorem gX5_best_X5_goesOn : GoodIn wsX5_best (wsV RX5 195 RX5 yX5_goesOn wsX5_goesOn) := goodIn_app (goodIn_of _ (by decide +kernel)) ggX5_best_X5_goesOn
theorem dX5_best_0 : decode cX5_best 0 = .ok (.aload_n 0, 1) := by decide +kernel
theorem dX5_best_1 : decode cX5_best 1 = .ok (.iconst 0, 1) := by decide +kernel
theorem dX5_best_2 : decode cX5_best 2 = .ok (.putfield 59, 3) := by decide +kernel
theorem dX5_best_5 : decode cX5_best 5 = .ok (.iload_n 1, 1) := by decide +kernel
theorem dX5_best_6 : decode cX5_best 6 = .ok (.invokestatic 181, 3) := by decide +kernel
theorem dX5_best_9 : decode cX5_best 9 = .ok (.ifCond .eq 12, 3) := by decide +kernel
theorem dX5_best_12 : decode cX5_best 12 = .ok (.iload_n 2, 1) := by decide +kernel
theorem dX5_best_13 : decode cX5_best 13 = .ok (.iconst 0, 1) := by decide +kernel
theorem dX5_best_14 : decode cX5_best 14 = .ok (.iconst 1, 1) := by decide +kernel
theorem dX5_best_15 : decode cX5_best 15 = .ok (.invokestatic 63, 3) := by decide +kernel
theorem dX5_best_18 : decode cX5_best 18 = .ok (.ifCond .ne 5, 3) := by decide +kernel
theorem dX5_best_21 : decode cX5_best 21 = .ok (.iconst (-1), 1) := by decide +kernel
theorem dX5_best_22 : decode cX5_best 22 = .ok (.ireturn, 1) := by decide +kernel
theorem dX5_best_23 : decode cX5_best 23 = .ok (.aload_n 0, 1) := by decide +kernel
theorem dX5_best_24 : decode cX5_best 24 = .ok (.getfield 137, 3) := by decide +kernel
theorem dX5_best_27 : decode cX5_best 27 = .ok (.ifCond .ne 6, 3) := by decide +kernel
theorem dX5_best_30 : decode cX5_best 30 = .ok (.bipush (-2), 2) := by decide +kernel
theorem dX5_best_32 : decode cX5_best 32 = .ok (.ireturn, 1) := by decide +kernel
theorem dX5_best_33 : decode cX5_best 33 = .ok (.aload_n 0, 1) := by decide +kernel
theorem dX5_best_34 : decode cX5_best 34 = .ok (.iconst 1, 1) := by decide +kernel
theorem dX5_best_35 : decode cX5_best 35 = .ok (.invokevirtual 184, 3) := by decide +kernel
theorem dX5_best_38 : decode cX5_best 38 = .ok (.iconst 0, 1) := by decide +kernel
theorem dX5_best_39 : decode cX5_best 39 = .ok (.istore_n 3, 1) := by decide +kernel
theorem dX5_best_40 : decode cX5_best 40 = .ok (.iload_n 3, 1) := by decide +kernel
theorem dX5_best_41 : decode cX5_best 41 = .ok (.aload_n 0, 1) := by decide +kernel
theorem dX5_best_42 : decode cX5_best 42 = .ok (.getfield 137, 3) := by decide +kernel
theorem dX5_best_45 : decode cX5_best 45 = .ok (.if_icmp .ge 16, 3) := by decide +kernel
theorem dX5_best_48 : decode cX5_best 48 = .ok (.aload_n 0, 1) := by decide +kernel
theorem dX5_best_49 : decode cX5_best 49 = .ok (.getfield 53, 3) := by decide +kernel
theorem dX5_best_52 : decode cX5_best 52 = .ok (.iload_n 3, 1) := by decide +kernel
theorem dX5_best_53 : decode cX5_best 53 = .ok (.iload_n 3, 1) := by decide +kernel
theorem dX5_best_54 : decode cX5_best 54 = .ok (.iastore, 1) := by decide +kernel
theorem dX5_best_55 : decode cX5_best 55 = .ok (.iinc 3 1, 3) := by decide +kernel
theorem dX5_best_58 : decode cX5_best 58 = .ok (.goto (-18), 3) := by decide +kernel
theorem dX5_best_61 : decode cX5_best 61 = .ok (.bipush (-9), 2) := by decide +kernel
theorem dX5_best_63 : decode cX5_best 63 = .ok (.istore_n 3, 1) := by decide +kernel
theorem dX5_best_64 : decode cX5_best 64 = .ok (.iconst 0, 1) := by decide +kernel
theorem dX5_best_65 : decode cX5_best 65 = .ok (.istore 4, 2) := by decide +kernel
theorem dX5_best_67 : decode cX5_best 67 = .ok (.iconst 1, 1) := by decide +kernel
theorem dX5_best_68 : decode cX5_best 68 = .ok (.istore 5, 2) := by decide +kernel
theorem dX5_best_70 : decode cX5_best 70 = .ok (.iload 5, 2) := by decide +kernel
theorem dX5_best_72 : decode cX5_best 72 = .ok (.ifCond .eq 97, 3) := by decide +kernel
theorem dX5_best_75 : decode cX5_best 75 = .ok (.iconst 0, 1) := by decide +kernel
theorem dX5_best_76 : decode cX5_best 76 = .ok (.istore 6, 2) := by decide +kernel
theorem dX5_best_78 : decode cX5_best 78 = .ok (.iconst 0, 1) := by decide +kernel
theorem dX5_best_79 : decode cX5_best 79 = .ok (.istore 7, 2) := by decide +kernel
theorem dX5_best_81 : decode cX5_best 81 = .ok (.iload 7, 2) := by decide +kernel
theorem dX5_best_83 : decode cX5_best 83 = .ok (.aload_n 0, 1) := by decide +kernel
theorem dX5_best_84 : decode cX5_best 84 = .ok (.getfield 137, 3) := by decide +kernel
theorem dX5_best_87 : decode cX5_best 87 = .ok (.if_icmp .ge 41, 3) := by decide +kernel
theorem dX5_best_90 : decode cX5_best 90 = .ok (.aload_n 0, 1) := by decide +kernel
theorem dX5_best_91 : decode cX5_best 91 = .ok (.getfield 34, 3) := by decide +kernel
theorem dX5_best_94 : decode cX5_best 94 = .ok (.bipush 14, 2) := by decide +kernel
theorem dX5_best_96 : decode cX5_best 96 = .ok (.iload 7, 2) := by decide +kernel
theorem dX5_best_98 : decode cX5_best 98 = .ok (.iadd, 1) := by decide +kernel
theorem dX5_best_99 : decode cX5_best 99 = .ok (.aload_n 0, 1) := by decide +kernel
theorem dX5_best_100 : decode cX5_best 100 = .ok (.getfield 53, 3) := by decide +kernel
theorem dX5_best_103 : decode cX5_best 103 = .ok (.iload 7, 2) := by decide +kernel
theorem dX5_best_105 : decode cX5_best 105 = .ok (.iaload, 1) := by decide +kernel
theorem dX5_best_106 : decode cX5_best 106 = .ok (.iastore, 1) := by decide +kernel
theorem dX5_best_107 : decode cX5_best 107 = .ok (.bipush 10, 2) := by decide +kernel
theorem dX5_best_109 : decode cX5_best 109 = .ok (.iload 6, 2) := by decide +kernel
theorem dX5_best_111 : decode cX5_best 111 = .ok (.imul, 1) := by decide +kernel
theorem dX5_best_112 : decode cX5_best 112 = .ok (.aload_n 0, 1) := by decide +kernel
theorem dX5_best_113 : decode cX5_best 113 = .ok (.getfield 53, 3) := by decide +kernel
theorem dX5_best_116 : decode cX5_best 116 = .ok (.iload 7, 2) := by decide +kernel
theorem dX5_best_118 : decode cX5_best 118 = .ok (.iaload, 1) := by decide +kernel
theorem dX5_best_119 : decode cX5_best 119 = .ok (.iadd, 1) := by decide +kernel
theorem dX5_best_120 : decode cX5_best 120 = .ok (.istore 6, 2) := by decide +kernel
theorem dX5_best_122 : decode cX5_best 122 = .ok (.iinc 7 1, 3) := by decide +kernel
theorem dX5_best_125 : decode cX5_best 125 = .ok (.goto (-44), 3) := by decide +kernel
theorem dX5_best_128 : decode cX5_best 128 = .ok (.aload_n 0, 1) := by decide +kernel
theorem dX5_best_129 : decode cX5_best 129 = .ok (.iload_n 1, 1) := by decide +kernel
theorem dX5_best_130 : decode cX5_best 130 = .ok (.invokevirtual 188, 3) := by decide +kernel
theorem dX5_best_133 : decode cX5_best 133 = .ok (.istore 7, 2) := by decide +kernel
theorem dX5_best_135 : decode cX5_best 135 = .ok (.iload_n 3, 1) := by decide +kernel
theorem dX5_best_136 : decode cX5_best 136 = .ok (.bipush (-9), 2) := by decide +kernel
theorem dX5_best_138 : decode cX5_best 138 = .ok (.if_icmp .eq 10, 3) := by decide +kernel
theorem dX5_best_141 : decode cX5_best 141 = .ok (.iload 7, 2) := by decide +kernel
theorem dX5_best_143 : decode cX5_best 143 = .ok (.iload 4, 2) := by decide +kernel
theorem dX5_best_145 : decode cX5_best 145 = .ok (.if_icmp .ge 10, 3) := by decide +kernel
theorem dX5_best_148 : decode cX5_best 148 = .ok (.iload 6, 2) := by decide +kernel
theorem dX5_best_150 : decode cX5_best 150 = .ok (.istore_n 3, 1) := by decide +kernel
theorem dX5_best_151 : decode cX5_best 151 = .ok (.iload 7, 2) := by decide +kernel
theorem dX5_best_153 : decode cX5_best 153 = .ok (.istore 4, 2) := by decide +kernel
theorem dX5_best_155 : decode cX5_best 155 = .ok (.aload_n 0, 1) := by decide +kernel
theorem dX5_best_156 : decode cX5_best 156 = .ok (.iconst 0, 1) := by decide +kernel
theorem dX5_best_157 : decode cX5_best 157 = .ok (.invokevirtual 184, 3) := by decide +kernel
theorem dX5_best_160 : decode cX5_best 160 = .ok (.aload_n 0, 1) := by decide +kernel
theorem dX5_best_161 : decode cX5_best 161 = .ok (.invokevirtual 195, 3) := by decide +kernel
theorem dX5_best_164 : decode cX5_best 164 = .ok (.istore 5, 2) := by decide +kernel
theorem dX5_best_166 : decode cX5_best 166 = .ok (.goto (-96), 3) := by decide +kernel
theorem dX5_best_169 : decode cX5_best 169 = .ok (.iload_n 2, 1) := by decide +kernel
theorem dX5_best_170 : decode cX5_best 170 = .ok (.ifCond .ne 7, 3) := by decide +kernel
theorem dX5_best_173 : decode cX5_best 173 = .ok (.iload_n 3, 1) := by decide +kernel
theorem dX5_best_174 : decode cX5_best 174 = .ok (.goto 5, 3) := by decide +kernel
theorem dX5_best_177 : decode cX5_best 177 = .ok (.iload 4, 2) := by decide +kernel
theorem dX5_best_179 : decode cX5_best 179 = .ok (.ireturn, 1) := by decide +kernel
set_option maxRecDepth 20000 in
theorem ggX5_taught_X5_areRounds : GoodIn wsX5_taught wsX5_areRounds := goodIn_r _ [8, 9, 10, 7, 11] (by decide +kernel) (by decide +kernel)
set_option maxRecDepth 20000 in
theorem gX5_taught_X5_areRounds : GoodIn wsX5_taught (va_wsS RX5 181 yX5_areRounds wsX5_areRounds) := goodIn_app (goodIn_of _ (by decide +kernel)) ggX5_taught_X5_areRounds
set_option maxRecDepth 20000 in
theorem ggX5_taught_X5_in : GoodIn wsX5_taught wsX5_in := goodIn_r _ [11] (by decide +kernel) (by decide +kernel)
set_option maxRecDepth 20000 in
theorem gX5_taught_X5_in : GoodIn wsX5_taught (va_wsS RX5 63 yX5_in wsX5_in) := goodIn_app (goodIn_of _ (by decide +kernel)) ggX5_taught_X5_in
set_option maxRecDepth 20000 in
theorem ggX5_taught_X5_aside : GoodIn wsX5_taught wsX5_aside := goodIn_r _ [15, 16, 4, 60, 61, 62, 63, 64, 65, 66, 67, 68, 69, 70, 71, 72, 73, 74, 75, 76, 77, 78, 79, 80, 81, 82, 83, 84, 85, 86, 87, 88] (by decide +kernel) (by decide +kernel)
set_option maxRecDepth 20000 in
theorem gX5_taught_X5_aside : GoodIn wsX5_taught (wsV RX5 184 RX5 yX5_aside wsX5_aside) := goodIn_app (goodIn_of _ (by decide +kernel)) ggX5_taught_X5_aside
set_option maxRecDepth 20000 in
theorem ggX5_taught_X5_lacksIn : GoodIn wsX5_taught wsX5_lacksIn := goodIn_r _ [20, 4, 21, 22, 23, 24, 7, 25, 3, 2, 26, 27, 28, 29, 30, 31, 32, 33, 34, 35, 36, 37, 38, 39, 40, 41, 42, 43, 44, 45, 46, 47, 48, 49, 50, 51, 52, 53, 54, 55, 56, 57, 58, 59, 60, 61, 62, 63, 64, 65, 66, 67, 68, 69, 70, 71, 72, 73, 74, 75, 76, 77, 78, 79, 80, 81, 82, 83, 84, 85, 86, 87, 88] (by decide +kernel) (by decide +kernel)
set_option maxRecDepth 20000 in
theorem gX5_taught_X5_lacksIn : GoodIn wsX5_taught (wsV RX5 188 RX5 yX5_lacksIn wsX5_lacksIn) := goodIn_app (goodIn_of _ (by decide +kernel)) ggX5_taught_X5_lacksIn
theorem dX5_taught_0 : decode cX5_taught 0 = .ok (.aload_n 0, 1) := by decide +kernel
theorem dX5_taught_1 : decode cX5_taught 1 = .ok (.iconst 0, 1) := by decide +kernel
theorem dX5_taught_2 : decode cX5_taught 2 = .ok (.putfield 59, 3) := by decide +kernel
theorem dX5_taught_5 : decode cX5_taught 5 = .ok (.iload_n 1, 1) := by decide +kernel
theorem dX5_taught_6 : decode cX5_taught 6 = .ok (.invokestatic 181, 3) := by decide +kernel
theorem dX5_taught_9 : decode cX5_taught 9 = .ok (.ifCond .eq 12, 3) := by decide +kernel
theorem dX5_taught_12 : decode cX5_taught 12 = .ok (.iload_n 2, 1) := by decide +kernel
theorem dX5_taught_13 : decode cX5_taught 13 = .ok (.iconst 0, 1) := by decide +kernel
theorem dX5_taught_14 : decode cX5_taught 14 = .ok (.iconst 1, 1) := by decide +kernel
theorem dX5_taught_15 : decode cX5_taught 15 = .ok (.invokestatic 63, 3) := by decide +kernel
theorem dX5_taught_18 : decode cX5_taught 18 = .ok (.ifCond .ne 5, 3) := by decide +kernel
theorem dX5_taught_21 : decode cX5_taught 21 = .ok (.iconst (-1), 1) := by decide +kernel
theorem dX5_taught_22 : decode cX5_taught 22 = .ok (.ireturn, 1) := by decide +kernel
theorem dX5_taught_23 : decode cX5_taught 23 = .ok (.aload_n 0, 1) := by decide +kernel
theorem dX5_taught_24 : decode cX5_taught 24 = .ok (.getfield 137, 3) := by decide +kernel
theorem dX5_taught_27 : decode cX5_taught 27 = .ok (.ifCond .ne 6, 3) := by decide +kernel
theorem dX5_taught_30 : decode cX5_taught 30 = .ok (.bipush (-2), 2) := by decide +kernel
theorem dX5_taught_32 : decode cX5_taught 32 = .ok (.ireturn, 1) := by decide +kernel
theorem dX5_taught_33 : decode cX5_taught 33 = .ok (.aload_n 0, 1) := by decide +kernel
theorem dX5_taught_34 : decode cX5_taught 34 = .ok (.iconst 1, 1) := by decide +kernel
theorem dX5_taught_35 : decode cX5_taught 35 = .ok (.invokevirtual 184, 3) := by decide +kernel
theorem dX5_taught_38 : decode cX5_taught 38 = .ok (.aload_n 0, 1) := by decide +kernel
theorem dX5_taught_39 : decode cX5_taught 39 = .ok (.iload_n 1, 1) := by decide +kernel
theorem dX5_taught_40 : decode cX5_taught 40 = .ok (.invokevirtual 188, 3) := by decide +kernel
theorem dX5_taught_43 : decode cX5_taught 43 = .ok (.istore_n 3, 1) := by decide +kernel
theorem dX5_taught_44 : decode cX5_taught 44 = .ok (.aload_n 0, 1) := by decide +kernel
theorem dX5_taught_45 : decode cX5_taught 45 = .ok (.iconst 0, 1) := by decide +kernel
theorem dX5_taught_46 : decode cX5_taught 46 = .ok (.invokevirtual 184, 3) := by decide +kernel
theorem dX5_taught_49 : decode cX5_taught 49 = .ok (.bipush (-9), 2) := by decide +kernel
theorem dX5_taught_51 : decode cX5_taught 51 = .ok (.istore 4, 2) := by decide +kernel
theorem dX5_taught_53 : decode cX5_taught 53 = .ok (.iconst 0, 1) := by decide +kernel
theorem dX5_taught_54 : decode cX5_taught 54 = .ok (.istore 5, 2) := by decide +kernel
theorem dX5_taught_56 : decode cX5_taught 56 = .ok (.iload 5, 2) := by decide +kernel
theorem dX5_taught_58 : decode cX5_taught 58 = .ok (.aload_n 0, 1) := by decide +kernel
theorem dX5_taught_59 : decode cX5_taught 59 = .ok (.getfield 140, 3) := by decide +kernel
theorem dX5_taught_62 : decode cX5_taught 62 = .ok (.if_icmp .ge 114, 3) := by decide +kernel
theorem dX5_taught_65 : decode cX5_taught 65 = .ok (.iconst 0, 1) := by decide +kernel
theorem dX5_taught_66 : decode cX5_taught 66 = .ok (.istore 6, 2) := by decide +kernel
theorem dX5_taught_68 : decode cX5_taught 68 = .ok (.iload 6, 2) := by decide +kernel
theorem dX5_taught_70 : decode cX5_taught 70 = .ok (.aload_n 0, 1) := by decide +kernel
theorem dX5_taught_71 : decode cX5_taught 71 = .ok (.getfield 137, 3) := by decide +kernel
theorem dX5_taught_74 : decode cX5_taught 74 = .ok (.if_icmp .ge 96, 3) := by decide +kernel
theorem dX5_taught_77 : decode cX5_taught 77 = .ok (.aload_n 0, 1) := by decide +kernel
theorem dX5_taught_78 : decode cX5_taught 78 = .ok (.getfield 34, 3) := by decide +kernel
theorem dX5_taught_81 : decode cX5_taught 81 = .ok (.bipush 33, 2) := by decide +kernel
theorem dX5_taught_83 : decode cX5_taught 83 = .ok (.bipush 6, 2) := by decide +kernel
theorem dX5_taught_85 : decode cX5_taught 85 = .ok (.iload 5, 2) := by decide +kernel
theorem dX5_taught_87 : decode cX5_taught 87 = .ok (.imul, 1) := by decide +kernel
theorem dX5_taught_88 : decode cX5_taught 88 = .ok (.iadd, 1) := by decide +kernel
theorem dX5_taught_89 : decode cX5_taught 89 = .ok (.iload 6, 2) := by decide +kernel
theorem dX5_taught_91 : decode cX5_taught 91 = .ok (.iadd, 1) := by decide +kernel
theorem dX5_taught_92 : decode cX5_taught 92 = .ok (.iaload, 1) := by decide +kernel
theorem dX5_taught_93 : decode cX5_taught 93 = .ok (.bipush 9, 2) := by decide +kernel
theorem dX5_taught_95 : decode cX5_taught 95 = .ok (.if_icmp .ge 69, 3) := by decide +kernel
theorem dX5_taught_98 : decode cX5_taught 98 = .ok (.aload_n 0, 1) := by decide +kernel
theorem dX5_taught_99 : decode cX5_taught 99 = .ok (.getfield 34, 3) := by decide +kernel
theorem dX5_taught_102 : decode cX5_taught 102 = .ok (.bipush 33, 2) := by decide +kernel
theorem dX5_taught_104 : decode cX5_taught 104 = .ok (.bipush 6, 2) := by decide +kernel
theorem dX5_taught_106 : decode cX5_taught 106 = .ok (.iload 5, 2) := by decide +kernel
theorem dX5_taught_108 : decode cX5_taught 108 = .ok (.imul, 1) := by decide +kernel
theorem dX5_taught_109 : decode cX5_taught 109 = .ok (.iadd, 1) := by decide +kernel
theorem dX5_taught_110 : decode cX5_taught 110 = .ok (.iload 6, 2) := by decide +kernel
theorem dX5_taught_112 : decode cX5_taught 112 = .ok (.iadd, 1) := by decide +kernel
theorem dX5_taught_113 : decode cX5_taught 113 = .ok (.dup2, 1) := by decide +kernel
theorem dX5_taught_114 : decode cX5_taught 114 = .ok (.iaload, 1) := by decide +kernel
theorem dX5_taught_115 : decode cX5_taught 115 = .ok (.iconst 1, 1) := by decide +kernel
theorem dX5_taught_116 : decode cX5_taught 116 = .ok (.iadd, 1) := by decide +kernel
theorem dX5_taught_117 : decode cX5_taught 117 = .ok (.iastore, 1) := by decide +kernel
theorem dX5_taught_118 : decode cX5_taught 118 = .ok (.aload_n 0, 1) := by decide +kernel
theorem dX5_taught_119 : decode cX5_taught 119 = .ok (.iload_n 1, 1) := by decide +kernel
theorem dX5_taught_120 : decode cX5_taught 120 = .ok (.invokevirtual 188, 3) := by decide +kernel
theorem dX5_taught_123 : decode cX5_taught 123 = .ok (.istore 7, 2) := by decide +kernel
theorem dX5_taught_125 : decode cX5_taught 125 = .ok (.aload_n 0, 1) := by decide +kernel
theorem dX5_taught_126 : decode cX5_taught 126 = .ok (.iconst 0, 1) := by decide +kernel
theorem dX5_taught_127 : decode cX5_taught 127 = .ok (.invokevirtual 184, 3) := by decide +kernel
theorem dX5_taught_130 : decode cX5_taught 130 = .ok (.iload 7, 2) := by decide +kernel
theorem dX5_taught_132 : decode cX5_taught 132 = .ok (.iload_n 3, 1) := by decide +kernel
theorem dX5_taught_133 : decode cX5_taught 133 = .ok (.if_icmp .ge 14, 3) := by decide +kernel
theorem dX5_taught_136 : decode cX5_taught 136 = .ok (.bipush 10, 2) := by decide +kernel
theorem dX5_taught_138 : decode cX5_taught 138 = .ok (.iload 5, 2) := by decide +kernel
theorem dX5_taught_140 : decode cX5_taught 140 = .ok (.imul, 1) := by decide +kernel
theorem dX5_taught_141 : decode cX5_taught 141 = .ok (.iload 6, 2) := by decide +kernel
theorem dX5_taught_143 : decode cX5_taught 143 = .ok (.iadd, 1) := by decide +kernel
theorem dX5_taught_144 : decode cX5_taught 144 = .ok (.goto 5, 3) := by decide +kernel
theorem dX5_taught_147 : decode cX5_taught 147 = .ok (.iload 4, 2) := by decide +kernel
theorem dX5_taught_149 : decode cX5_taught 149 = .ok (.istore 4, 2) := by decide +kernel
theorem dX5_taught_151 : decode cX5_taught 151 = .ok (.iload 7, 2) := by decide +kernel
theorem dX5_taught_153 : decode cX5_taught 153 = .ok (.iload_n 3, 1) := by decide +kernel
theorem dX5_taught_154 : decode cX5_taught 154 = .ok (.if_icmp .ge 8, 3) := by decide +kernel
theorem dX5_taught_157 : decode cX5_taught 157 = .ok (.iload 7, 2) := by decide +kernel
theorem dX5_taught_159 : decode cX5_taught 159 = .ok (.goto 4, 3) := by decide +kernel
theorem dX5_taught_162 : decode cX5_taught 162 = .ok (.iload_n 3, 1) := by decide +kernel
theorem dX5_taught_163 : decode cX5_taught 163 = .ok (.istore_n 3, 1) := by decide +kernel
theorem dX5_taught_164 : decode cX5_taught 164 = .ok (.iinc 6 1, 3) := by decide +kernel
theorem dX5_taught_167 : decode cX5_taught 167 = .ok (.goto (-99), 3) := by decide +kernel
theorem dX5_taught_170 : decode cX5_taught 170 = .ok (.iinc 5 1, 3) := by decide +kernel
theorem dX5_taught_173 : decode cX5_taught 173 = .ok (.goto (-117), 3) := by decide +kernel
theorem dX5_taught_176 : decode cX5_taught 176 = .ok (.iload 4, 2) := by decide +kernel
theorem dX5_taught_178 : decode cX5_taught 178 = .ok (.bipush (-9), 2) := by decide +kernel
theorem dX5_taught_180 : decode cX5_taught 180 = .ok (.if_icmp .eq 7, 3) := by decide +kernel
theorem dX5_taught_183 : decode cX5_taught 183 = .ok (.iload_n 2, 1) := by decide +kernel
theorem dX5_taught_184 : decode cX5_taught 184 = .ok (.ifCond .ne 8, 3) := by decide +kernel
theorem dX5_taught_187 : decode cX5_taught 187 = .ok (.iload 4, 2) := by decide +kernel
theorem dX5_taught_189 : decode cX5_taught 189 = .ok (.goto 4, 3) := by decide +kernel
theorem dX5_taught_192 : decode cX5_taught 192 = .ok (.iload_n 3, 1) := by decide +kernel
theorem dX5_taught_193 : decode cX5_taught 193 = .ok (.ireturn, 1) := by decide +kernel
set_option maxRecDepth 20000 in
theorem ggX5_standsIn_X5_isPerson : GoodIn wsX5_standsIn wsX5_isPerson := goodIn_r _ [9, 4, 10, 11, 8, 12, 64, 65, 66, 67, 68, 69, 70, 71, 72, 73, 74, 75, 76, 77, 78, 79, 80, 81, 82, 83, 84, 85, 86, 87, 88, 89, 90, 91, 92] (by decide +kernel) (by decide +kernel)
set_option maxRecDepth 20000 in
theorem gX5_standsIn_X5_isPerson : GoodIn wsX5_standsIn (wsV RX5 147 RX5 yX5_isPerson wsX5_isPerson) := goodIn_app (goodIn_of _ (by decide +kernel)) ggX5_standsIn_X5_isPerson
set_option maxRecDepth 20000 in
theorem ggX5_standsIn_X5_areRounds : GoodIn wsX5_standsIn wsX5_areRounds := goodIn_r _ [15, 10, 11, 8, 12] (by decide +kernel) (by decide +kernel)
set_option maxRecDepth 20000 in
theorem gX5_standsIn_X5_areRounds : GoodIn wsX5_standsIn (va_wsS RX5 181 yX5_areRounds wsX5_areRounds) := goodIn_app (goodIn_of _ (by decide +kernel)) ggX5_standsIn_X5_areRounds
set_option maxRecDepth 20000 in
theorem ggX5_standsIn_X5_aside : GoodIn wsX5_standsIn wsX5_aside := goodIn_r _ [19, 20, 3, 64, 65, 66, 67, 68, 69, 70, 71, 72, 73, 74, 75, 76, 77, 78, 79, 80, 81, 82, 83, 84, 85, 86, 87, 88, 89, 90, 91, 92] (by decide +kernel) (by decide +kernel)
set_option maxRecDepth 20000 in
theorem gX5_standsIn_X5_aside : GoodIn wsX5_standsIn (wsV RX5 184 RX5 yX5_aside wsX5_aside) := goodIn_app (goodIn_of _ (by decide +kernel)) ggX5_standsIn_X5_aside
set_option maxRecDepth 20000 in
theorem ggX5_standsIn_X5_lacksIn : GoodIn wsX5_standsIn wsX5_lacksIn := goodIn_r _ [24, 3, 25, 26, 27, 28, 8, 29, 4, 2, 30, 31, 32, 33, 34, 35, 36, 37, 38, 39, 40, 41, 42, 43, 44, 45, 46, 47, 48, 49, 50, 51, 52, 53, 54, 55, 56, 57, 58, 59, 60, 61, 62, 63, 64, 65, 66, 67, 68, 69, 70, 71, 72, 73, 74, 75, 76, 77, 78, 79, 80, 81, 82, 83, 84, 85, 86, 87, 88, 89, 90, 91, 92] (by decide +kernel) (by decide +kernel)
set_option maxRecDepth 20000 in
theorem gX5_standsIn_X5_lacksIn : GoodIn wsX5_standsIn (wsV RX5 188 RX5 yX5_lacksIn wsX5_lacksIn) := goodIn_app (goodIn_of _ (by decide +kernel)) ggX5_standsIn_X5_lacksIn
theorem dX5_standsIn_0 : decode cX5_standsIn 0 = .ok (.aload_n 0, 1) := by decide +kernel
theorem dX5_standsIn_1 : decode cX5_standsIn 1 = .ok (.iconst 0, 1) := by decide +kernel
theorem dX5_standsIn_2 : decode cX5_standsIn 2 = .ok (.putfield 59, 3) := by decide +kernel
theorem dX5_standsIn_5 : decode cX5_standsIn 5 = .ok (.aload_n 0, 1) := by decide +kernel
theorem dX5_standsIn_6 : decode cX5_standsIn 6 = .ok (.iload_n 1, 1) := by decide +kernel
theorem dX5_standsIn_7 : decode cX5_standsIn 7 = .ok (.invokevirtual 147, 3) := by decide +kernel
theorem dX5_standsIn_10 : decode cX5_standsIn 10 = .ok (.ifCond .eq 10, 3) := by decide +kernel
theorem dX5_standsIn_13 : decode cX5_standsIn 13 = .ok (.iload_n 2, 1) := by decide +kernel
theorem dX5_standsIn_14 : decode cX5_standsIn 14 = .ok (.invokestatic 181, 3) := by decide +kernel
theorem dX5_standsIn_17 : decode cX5_standsIn 17 = .ok (.ifCond .ne 5, 3) := by decide +kernel
theorem dX5_standsIn_20 : decode cX5_standsIn 20 = .ok (.iconst (-1), 1) := by decide +kernel
theorem dX5_standsIn_21 : decode cX5_standsIn 21 = .ok (.ireturn, 1) := by decide +kernel
theorem dX5_standsIn_22 : decode cX5_standsIn 22 = .ok (.aload_n 0, 1) := by decide +kernel
theorem dX5_standsIn_23 : decode cX5_standsIn 23 = .ok (.getfield 137, 3) := by decide +kernel
theorem dX5_standsIn_26 : decode cX5_standsIn 26 = .ok (.ifCond .ne 6, 3) := by decide +kernel
theorem dX5_standsIn_29 : decode cX5_standsIn 29 = .ok (.bipush (-2), 2) := by decide +kernel
theorem dX5_standsIn_31 : decode cX5_standsIn 31 = .ok (.ireturn, 1) := by decide +kernel
theorem dX5_standsIn_32 : decode cX5_standsIn 32 = .ok (.aload_n 0, 1) := by decide +kernel
theorem dX5_standsIn_33 : decode cX5_standsIn 33 = .ok (.iconst 1, 1) := by decide +kernel
theorem dX5_standsIn_34 : decode cX5_standsIn 34 = .ok (.invokevirtual 184, 3) := by decide +kernel
theorem dX5_standsIn_37 : decode cX5_standsIn 37 = .ok (.aload_n 0, 1) := by decide +kernel
theorem dX5_standsIn_38 : decode cX5_standsIn 38 = .ok (.getfield 34, 3) := by decide +kernel
theorem dX5_standsIn_41 : decode cX5_standsIn 41 = .ok (.bipush 32, 2) := by decide +kernel
theorem dX5_standsIn_43 : decode cX5_standsIn 43 = .ok (.dup2, 1) := by decide +kernel
theorem dX5_standsIn_44 : decode cX5_standsIn 44 = .ok (.iaload, 1) := by decide +kernel
theorem dX5_standsIn_45 : decode cX5_standsIn 45 = .ok (.iconst 1, 1) := by decide +kernel
theorem dX5_standsIn_46 : decode cX5_standsIn 46 = .ok (.iload_n 1, 1) := by decide +kernel
theorem dX5_standsIn_47 : decode cX5_standsIn 47 = .ok (.ishl, 1) := by decide +kernel
theorem dX5_standsIn_48 : decode cX5_standsIn 48 = .ok (.ior, 1) := by decide +kernel
theorem dX5_standsIn_49 : decode cX5_standsIn 49 = .ok (.iastore, 1) := by decide +kernel
theorem dX5_standsIn_50 : decode cX5_standsIn 50 = .ok (.iload_n 1, 1) := by decide +kernel
theorem dX5_standsIn_51 : decode cX5_standsIn 51 = .ok (.istore_n 3, 1) := by decide +kernel
theorem dX5_standsIn_52 : decode cX5_standsIn 52 = .ok (.aload_n 0, 1) := by decide +kernel
theorem dX5_standsIn_53 : decode cX5_standsIn 53 = .ok (.iload_n 2, 1) := by decide +kernel
theorem dX5_standsIn_54 : decode cX5_standsIn 54 = .ok (.invokevirtual 188, 3) := by decide +kernel
theorem dX5_standsIn_57 : decode cX5_standsIn 57 = .ok (.istore 4, 2) := by decide +kernel
theorem dX5_standsIn_59 : decode cX5_standsIn 59 = .ok (.aload_n 0, 1) := by decide +kernel
theorem dX5_standsIn_60 : decode cX5_standsIn 60 = .ok (.iconst 0, 1) := by decide +kernel
theorem dX5_standsIn_61 : decode cX5_standsIn 61 = .ok (.invokevirtual 184, 3) := by decide +kernel
theorem dX5_standsIn_64 : decode cX5_standsIn 64 = .ok (.iconst 0, 1) := by decide +kernel
theorem dX5_standsIn_65 : decode cX5_standsIn 65 = .ok (.istore 5, 2) := by decide +kernel
theorem dX5_standsIn_67 : decode cX5_standsIn 67 = .ok (.iload 5, 2) := by decide +kernel
theorem dX5_standsIn_69 : decode cX5_standsIn 69 = .ok (.aload_n 0, 1) := by decide +kernel
theorem dX5_standsIn_70 : decode cX5_standsIn 70 = .ok (.getfield 140, 3) := by decide +kernel
theorem dX5_standsIn_73 : decode cX5_standsIn 73 = .ok (.if_icmp .ge 106, 3) := by decide +kernel
theorem dX5_standsIn_76 : decode cX5_standsIn 76 = .ok (.aload_n 0, 1) := by decide +kernel
theorem dX5_standsIn_77 : decode cX5_standsIn 77 = .ok (.getfield 34, 3) := by decide +kernel
theorem dX5_standsIn_80 : decode cX5_standsIn 80 = .ok (.bipush 20, 2) := by decide +kernel
theorem dX5_standsIn_82 : decode cX5_standsIn 82 = .ok (.iload_n 1, 1) := by decide +kernel
theorem dX5_standsIn_83 : decode cX5_standsIn 83 = .ok (.iadd, 1) := by decide +kernel
theorem dX5_standsIn_84 : decode cX5_standsIn 84 = .ok (.iaload, 1) := by decide +kernel
theorem dX5_standsIn_85 : decode cX5_standsIn 85 = .ok (.istore 6, 2) := by decide +kernel
theorem dX5_standsIn_87 : decode cX5_standsIn 87 = .ok (.aload_n 0, 1) := by decide +kernel
theorem dX5_standsIn_88 : decode cX5_standsIn 88 = .ok (.getfield 34, 3) := by decide +kernel
theorem dX5_standsIn_91 : decode cX5_standsIn 91 = .ok (.bipush 20, 2) := by decide +kernel
theorem dX5_standsIn_93 : decode cX5_standsIn 93 = .ok (.iload_n 1, 1) := by decide +kernel
theorem dX5_standsIn_94 : decode cX5_standsIn 94 = .ok (.iadd, 1) := by decide +kernel
theorem dX5_standsIn_95 : decode cX5_standsIn 95 = .ok (.aload_n 0, 1) := by decide +kernel
theorem dX5_standsIn_96 : decode cX5_standsIn 96 = .ok (.getfield 34, 3) := by decide +kernel
theorem dX5_standsIn_99 : decode cX5_standsIn 99 = .ok (.bipush 20, 2) := by decide +kernel
theorem dX5_standsIn_101 : decode cX5_standsIn 101 = .ok (.iload 5, 2) := by decide +kernel
theorem dX5_standsIn_103 : decode cX5_standsIn 103 = .ok (.iadd, 1) := by decide +kernel
theorem dX5_standsIn_104 : decode cX5_standsIn 104 = .ok (.iaload, 1) := by decide +kernel
theorem dX5_standsIn_105 : decode cX5_standsIn 105 = .ok (.iastore, 1) := by decide +kernel
theorem dX5_standsIn_106 : decode cX5_standsIn 106 = .ok (.aload_n 0, 1) := by decide +kernel
theorem dX5_standsIn_107 : decode cX5_standsIn 107 = .ok (.getfield 34, 3) := by decide +kernel
theorem dX5_standsIn_110 : decode cX5_standsIn 110 = .ok (.bipush 20, 2) := by decide +kernel
theorem dX5_standsIn_112 : decode cX5_standsIn 112 = .ok (.iload 5, 2) := by decide +kernel
theorem dX5_standsIn_114 : decode cX5_standsIn 114 = .ok (.iadd, 1) := by decide +kernel
theorem dX5_standsIn_115 : decode cX5_standsIn 115 = .ok (.iload 6, 2) := by decide +kernel
theorem dX5_standsIn_117 : decode cX5_standsIn 117 = .ok (.iastore, 1) := by decide +kernel
theorem dX5_standsIn_118 : decode cX5_standsIn 118 = .ok (.aload_n 0, 1) := by decide +kernel
theorem dX5_standsIn_119 : decode cX5_standsIn 119 = .ok (.getfield 34, 3) := by decide +kernel
theorem dX5_standsIn_122 : decode cX5_standsIn 122 = .ok (.bipush 32, 2) := by decide +kernel
theorem dX5_standsIn_124 : decode cX5_standsIn 124 = .ok (.dup2, 1) := by decide +kernel
theorem dX5_standsIn_125 : decode cX5_standsIn 125 = .ok (.iaload, 1) := by decide +kernel
theorem dX5_standsIn_126 : decode cX5_standsIn 126 = .ok (.iconst 1, 1) := by decide +kernel
theorem dX5_standsIn_127 : decode cX5_standsIn 127 = .ok (.iload_n 1, 1) := by decide +kernel
theorem dX5_standsIn_128 : decode cX5_standsIn 128 = .ok (.ishl, 1) := by decide +kernel
theorem dX5_standsIn_129 : decode cX5_standsIn 129 = .ok (.ior, 1) := by decide +kernel
theorem dX5_standsIn_130 : decode cX5_standsIn 130 = .ok (.iastore, 1) := by decide +kernel
theorem dX5_standsIn_131 : decode cX5_standsIn 131 = .ok (.aload_n 0, 1) := by decide +kernel
theorem dX5_standsIn_132 : decode cX5_standsIn 132 = .ok (.iload_n 2, 1) := by decide +kernel
theorem dX5_standsIn_133 : decode cX5_standsIn 133 = .ok (.invokevirtual 188, 3) := by decide +kernel
theorem dX5_standsIn_136 : decode cX5_standsIn 136 = .ok (.istore 7, 2) := by decide +kernel
theorem dX5_standsIn_138 : decode cX5_standsIn 138 = .ok (.aload_n 0, 1) := by decide +kernel
theorem dX5_standsIn_139 : decode cX5_standsIn 139 = .ok (.iconst 0, 1) := by decide +kernel
theorem dX5_standsIn_140 : decode cX5_standsIn 140 = .ok (.invokevirtual 184, 3) := by decide +kernel
theorem dX5_standsIn_143 : decode cX5_standsIn 143 = .ok (.iload 7, 2) := by decide +kernel
theorem dX5_standsIn_145 : decode cX5_standsIn 145 = .ok (.iload 4, 2) := by decide +kernel
theorem dX5_standsIn_147 : decode cX5_standsIn 147 = .ok (.if_icmp .ge 8, 3) := by decide +kernel
theorem dX5_standsIn_150 : decode cX5_standsIn 150 = .ok (.iload 5, 2) := by decide +kernel
theorem dX5_standsIn_152 : decode cX5_standsIn 152 = .ok (.goto 4, 3) := by decide +kernel
theorem dX5_standsIn_155 : decode cX5_standsIn 155 = .ok (.iload_n 3, 1) := by decide +kernel
theorem dX5_standsIn_156 : decode cX5_standsIn 156 = .ok (.istore_n 3, 1) := by decide +kernel
theorem dX5_standsIn_157 : decode cX5_standsIn 157 = .ok (.iload 7, 2) := by decide +kernel
theorem dX5_standsIn_159 : decode cX5_standsIn 159 = .ok (.iload 4, 2) := by decide +kernel
theorem dX5_standsIn_161 : decode cX5_standsIn 161 = .ok (.if_icmp .ge 8, 3) := by decide +kernel
theorem dX5_standsIn_164 : decode cX5_standsIn 164 = .ok (.iload 7, 2) := by decide +kernel
theorem dX5_standsIn_166 : decode cX5_standsIn 166 = .ok (.goto 5, 3) := by decide +kernel
theorem dX5_standsIn_169 : decode cX5_standsIn 169 = .ok (.iload 4, 2) := by decide +kernel
theorem dX5_standsIn_171 : decode cX5_standsIn 171 = .ok (.istore 4, 2) := by decide +kernel
theorem dX5_standsIn_173 : decode cX5_standsIn 173 = .ok (.iinc 5 1, 3) := by decide +kernel
theorem dX5_standsIn_176 : decode cX5_standsIn 176 = .ok (.goto (-109), 3) := by decide +kernel
theorem dX5_standsIn_179 : decode cX5_standsIn 179 = .ok (.iload_n 3, 1) := by decide +kernel
theorem dX5_standsIn_180 : decode cX5_standsIn 180 = .ok (.ireturn, 1) := by decide +kernel
set_option maxRecDepth 20000 in
theorem ggX5_madeBy_X5_isTrade : GoodIn wsX5_madeBy wsX5_isTrade := goodIn_r _ [8, 9, 10, 11, 7, 12, 56, 57, 58, 59, 60, 61, 62, 63, 64, 65, 66, 67, 68, 69, 70, 71, 72, 73, 74, 75, 76, 77, 78, 79, 80, 81, 82, 83, 84] (by decide +kernel) (by decide +kernel)
set_option maxRecDepth 20000 in
theorem gX5_madeBy_X5_isTrade : GoodIn wsX5_madeBy (wsV RX5 143 RX5 yX5_isTrade wsX5_isTrade) := goodIn_app (goodIn_of _ (by decide +kernel)) ggX5_madeBy_X5_isTrade
set_option maxRecDepth 20000 in
theorem ggX5_madeBy_X5_in : GoodIn wsX5_madeBy wsX5_in := goodIn_r _ [12] (by decide +kernel) (by decide +kernel)
set_option maxRecDepth 20000 in
theorem gX5_madeBy_X5_in : GoodIn wsX5_madeBy (va_wsS RX5 63 yX5_in wsX5_in) := goodIn_app (goodIn_of _ (by decide +kernel)) ggX5_madeBy_X5_in
set_option maxRecDepth 20000 in
theorem ggX5_madeBy_X5_aside : GoodIn wsX5_madeBy wsX5_aside := goodIn_r _ [16, 17, 2, 56, 57, 58, 59, 60, 61, 62, 63, 64, 65, 66, 67, 68, 69, 70, 71, 72, 73, 74, 75, 76, 77, 78, 79, 80, 81, 82, 83, 84] (by decide +kernel) (by decide +kernel)
set_option maxRecDepth 20000 in
theorem gX5_madeBy_X5_aside : GoodIn wsX5_madeBy (wsV RX5 184 RX5 yX5_aside wsX5_aside) := goodIn_app (goodIn_of _ (by decide +kernel)) ggX5_madeBy_X5_aside
set_option maxRecDepth 20000 in
theorem ggX5_madeBy_X5_goesBy : GoodIn wsX5_madeBy wsX5_goesBy := goodIn_r _ [21, 3, 2, 9, 22, 23, 24, 7, 25, 26, 27, 28, 29, 30, 31, 32, 33, 34, 35, 36, 37, 38, 39, 40, 41, 42, 43, 44, 45, 46, 47, 48, 49, 50, 51, 52, 53, 54, 55, 56, 57, 58, 59, 60, 61, 62, 63, 64, 65, 66, 67, 68, 69, 70, 71, 72, 73, 74, 75, 76, 77, 78, 79, 80, 81, 82, 83, 84] (by decide +kernel) (by decide +kernel)
set_option maxRecDepth 20000 in
theorem gX5_madeBy_X5_goesBy : GoodIn wsX5_madeBy (wsV RX5 172 RX5 yX5_goesBy wsX5_goesBy) := goodIn_app (goodIn_of _ (by decide +kernel)) ggX5_madeBy_X5_goesBy
set_option maxRecDepth 20000 in
theorem ggX5_madeBy_X5_isIll : GoodIn wsX5_madeBy wsX5_isIll := goodIn_r _ [41, 2, 56, 57, 58, 59, 60, 61, 62, 63, 64, 65, 66, 67, 68, 69, 70, 71, 72, 73, 74, 75, 76, 77, 78, 79, 80, 81, 82, 83, 84] (by decide +kernel) (by decide +kernel)
set_option maxRecDepth 20000 in
theorem gX5_madeBy_X5_isIll : GoodIn wsX5_madeBy (wsV RX5 156 RX5 yX5_isIll wsX5_isIll) := goodIn_app (goodIn_of _ (by decide +kernel)) ggX5_madeBy_X5_isIll
set_option maxRecDepth 20000 in
theorem ggX5_madeBy_X5_worksAt : GoodIn wsX5_madeBy wsX5_worksAt := goodIn_r _ [32, 2, 33, 34, 35, 7, 36, 9, 37, 56, 57, 58, 59, 60, 61, 62, 63, 64, 65, 66, 67, 68, 69, 70, 71, 72, 73, 74, 75, 76, 77, 78, 79, 80, 81, 82, 83, 84] (by decide +kernel) (by decide +kernel)
set_option maxRecDepth 20000 in
theorem gX5_madeBy_X5_worksAt : GoodIn wsX5_madeBy (wsV RX5 153 RX5 yX5_worksAt wsX5_worksAt) := goodIn_app (goodIn_of _ (by decide +kernel)) ggX5_madeBy_X5_worksAt
theorem dX5_madeBy_0 : decode cX5_madeBy 0 = .ok (.aload_n 0, 1) := by decide +kernel
theorem dX5_madeBy_1 : decode cX5_madeBy 1 = .ok (.iconst 0, 1) := by decide +kernel
theorem dX5_madeBy_2 : decode cX5_madeBy 2 = .ok (.putfield 59, 3) := by decide +kernel
theorem dX5_madeBy_5 : decode cX5_madeBy 5 = .ok (.aload_n 0, 1) := by decide +kernel
theorem dX5_madeBy_6 : decode cX5_madeBy 6 = .ok (.iload_n 1, 1) := by decide +kernel
theorem dX5_madeBy_7 : decode cX5_madeBy 7 = .ok (.invokevirtual 143, 3) := by decide +kernel
theorem dX5_madeBy_10 : decode cX5_madeBy 10 = .ok (.ifCond .eq 28, 3) := by decide +kernel
theorem dX5_madeBy_13 : decode cX5_madeBy 13 = .ok (.iload_n 2, 1) := by decide +kernel
theorem dX5_madeBy_14 : decode cX5_madeBy 14 = .ok (.iconst 0, 1) := by decide +kernel
theorem dX5_madeBy_15 : decode cX5_madeBy 15 = .ok (.bipush 9, 2) := by decide +kernel
theorem dX5_madeBy_17 : decode cX5_madeBy 17 = .ok (.invokestatic 63, 3) := by decide +kernel
theorem dX5_madeBy_20 : decode cX5_madeBy 20 = .ok (.ifCond .eq 18, 3) := by decide +kernel
theorem dX5_madeBy_23 : decode cX5_madeBy 23 = .ok (.iload_n 3, 1) := by decide +kernel
theorem dX5_madeBy_24 : decode cX5_madeBy 24 = .ok (.aload_n 0, 1) := by decide +kernel
theorem dX5_madeBy_25 : decode cX5_madeBy 25 = .ok (.getfield 34, 3) := by decide +kernel
theorem dX5_madeBy_28 : decode cX5_madeBy 28 = .ok (.iconst 0, 1) := by decide +kernel
theorem dX5_madeBy_29 : decode cX5_madeBy 29 = .ok (.iaload, 1) := by decide +kernel
theorem dX5_madeBy_30 : decode cX5_madeBy 30 = .ok (.bipush 99, 2) := by decide +kernel
theorem dX5_madeBy_32 : decode cX5_madeBy 32 = .ok (.invokestatic 63, 3) := by decide +kernel
theorem dX5_madeBy_35 : decode cX5_madeBy 35 = .ok (.ifCond .ne 5, 3) := by decide +kernel
theorem dX5_madeBy_38 : decode cX5_madeBy 38 = .ok (.iconst (-1), 1) := by decide +kernel
theorem dX5_madeBy_39 : decode cX5_madeBy 39 = .ok (.ireturn, 1) := by decide +kernel
theorem dX5_madeBy_40 : decode cX5_madeBy 40 = .ok (.aload_n 0, 1) := by decide +kernel
theorem dX5_madeBy_41 : decode cX5_madeBy 41 = .ok (.iconst 1, 1) := by decide +kernel
theorem dX5_madeBy_42 : decode cX5_madeBy 42 = .ok (.invokevirtual 184, 3) := by decide +kernel
theorem dX5_madeBy_45 : decode cX5_madeBy 45 = .ok (.aload_n 0, 1) := by decide +kernel
theorem dX5_madeBy_46 : decode cX5_madeBy 46 = .ok (.getfield 34, 3) := by decide +kernel
theorem dX5_madeBy_49 : decode cX5_madeBy 49 = .ok (.iconst 0, 1) := by decide +kernel
theorem dX5_madeBy_50 : decode cX5_madeBy 50 = .ok (.iaload, 1) := by decide +kernel
theorem dX5_madeBy_51 : decode cX5_madeBy 51 = .ok (.iload_n 3, 1) := by decide +kernel
theorem dX5_madeBy_52 : decode cX5_madeBy 52 = .ok (.if_icmp .ge 11, 3) := by decide +kernel
theorem dX5_madeBy_55 : decode cX5_madeBy 55 = .ok (.aload_n 0, 1) := by decide +kernel
theorem dX5_madeBy_56 : decode cX5_madeBy 56 = .ok (.invokevirtual 172, 3) := by decide +kernel
theorem dX5_madeBy_59 : decode cX5_madeBy 59 = .ok (.pop, 1) := by decide +kernel
theorem dX5_madeBy_60 : decode cX5_madeBy 60 = .ok (.goto (-15), 3) := by decide +kernel
theorem dX5_madeBy_63 : decode cX5_madeBy 63 = .ok (.iconst 0, 1) := by decide +kernel
theorem dX5_madeBy_64 : decode cX5_madeBy 64 = .ok (.istore 4, 2) := by decide +kernel
theorem dX5_madeBy_66 : decode cX5_madeBy 66 = .ok (.iconst 0, 1) := by decide +kernel
theorem dX5_madeBy_67 : decode cX5_madeBy 67 = .ok (.istore 5, 2) := by decide +kernel
theorem dX5_madeBy_69 : decode cX5_madeBy 69 = .ok (.iload 5, 2) := by decide +kernel
theorem dX5_madeBy_71 : decode cX5_madeBy 71 = .ok (.aload_n 0, 1) := by decide +kernel
theorem dX5_madeBy_72 : decode cX5_madeBy 72 = .ok (.getfield 140, 3) := by decide +kernel
theorem dX5_madeBy_75 : decode cX5_madeBy 75 = .ok (.if_icmp .ge 60, 3) := by decide +kernel
theorem dX5_madeBy_78 : decode cX5_madeBy 78 = .ok (.iload 4, 2) := by decide +kernel
theorem dX5_madeBy_80 : decode cX5_madeBy 80 = .ok (.aload_n 0, 1) := by decide +kernel
theorem dX5_madeBy_81 : decode cX5_madeBy 81 = .ok (.iload 5, 2) := by decide +kernel
theorem dX5_madeBy_83 : decode cX5_madeBy 83 = .ok (.invokevirtual 156, 3) := by decide +kernel
theorem dX5_madeBy_86 : decode cX5_madeBy 86 = .ok (.ifCond .ne 39, 3) := by decide +kernel
theorem dX5_madeBy_89 : decode cX5_madeBy 89 = .ok (.aload_n 0, 1) := by decide +kernel
theorem dX5_madeBy_90 : decode cX5_madeBy 90 = .ok (.iload 5, 2) := by decide +kernel
theorem dX5_madeBy_92 : decode cX5_madeBy 92 = .ok (.invokevirtual 153, 3) := by decide +kernel
theorem dX5_madeBy_95 : decode cX5_madeBy 95 = .ok (.iload_n 1, 1) := by decide +kernel
theorem dX5_madeBy_96 : decode cX5_madeBy 96 = .ok (.if_icmp .ne 29, 3) := by decide +kernel
theorem dX5_madeBy_99 : decode cX5_madeBy 99 = .ok (.aload_n 0, 1) := by decide +kernel
theorem dX5_madeBy_100 : decode cX5_madeBy 100 = .ok (.getfield 34, 3) := by decide +kernel
theorem dX5_madeBy_103 : decode cX5_madeBy 103 = .ok (.bipush 33, 2) := by decide +kernel
theorem dX5_madeBy_105 : decode cX5_madeBy 105 = .ok (.bipush 6, 2) := by decide +kernel
theorem dX5_madeBy_107 : decode cX5_madeBy 107 = .ok (.iload 5, 2) := by decide +kernel
theorem dX5_madeBy_109 : decode cX5_madeBy 109 = .ok (.imul, 1) := by decide +kernel
theorem dX5_madeBy_110 : decode cX5_madeBy 110 = .ok (.iadd, 1) := by decide +kernel
theorem dX5_madeBy_111 : decode cX5_madeBy 111 = .ok (.iload_n 1, 1) := by decide +kernel
theorem dX5_madeBy_112 : decode cX5_madeBy 112 = .ok (.iadd, 1) := by decide +kernel
theorem dX5_madeBy_113 : decode cX5_madeBy 113 = .ok (.iaload, 1) := by decide +kernel
theorem dX5_madeBy_114 : decode cX5_madeBy 114 = .ok (.iload_n 2, 1) := by decide +kernel
theorem dX5_madeBy_115 : decode cX5_madeBy 115 = .ok (.if_icmp .ne 10, 3) := by decide +kernel
theorem dX5_madeBy_118 : decode cX5_madeBy 118 = .ok (.iconst 1, 1) := by decide +kernel
theorem dX5_madeBy_119 : decode cX5_madeBy 119 = .ok (.iload 5, 2) := by decide +kernel
theorem dX5_madeBy_121 : decode cX5_madeBy 121 = .ok (.ishl, 1) := by decide +kernel
theorem dX5_madeBy_122 : decode cX5_madeBy 122 = .ok (.goto 4, 3) := by decide +kernel
theorem dX5_madeBy_125 : decode cX5_madeBy 125 = .ok (.iconst 0, 1) := by decide +kernel
theorem dX5_madeBy_126 : decode cX5_madeBy 126 = .ok (.ior, 1) := by decide +kernel
theorem dX5_madeBy_127 : decode cX5_madeBy 127 = .ok (.istore 4, 2) := by decide +kernel
theorem dX5_madeBy_129 : decode cX5_madeBy 129 = .ok (.iinc 5 1, 3) := by decide +kernel
theorem dX5_madeBy_132 : decode cX5_madeBy 132 = .ok (.goto (-63), 3) := by decide +kernel
theorem dX5_madeBy_135 : decode cX5_madeBy 135 = .ok (.aload_n 0, 1) := by decide +kernel
theorem dX5_madeBy_136 : decode cX5_madeBy 136 = .ok (.iconst 0, 1) := by decide +kernel
theorem dX5_madeBy_137 : decode cX5_madeBy 137 = .ok (.invokevirtual 184, 3) := by decide +kernel
theorem dX5_madeBy_140 : decode cX5_madeBy 140 = .ok (.iload 4, 2) := by decide +kernel
theorem dX5_madeBy_142 : decode cX5_madeBy 142 = .ok (.ireturn, 1) := by decide +kernel
set_option maxRecDepth 20000 in
theorem ggX5_again_X5_aside : GoodIn wsX5_again wsX5_aside := goodIn_r _ [10, 11, 5, 21, 22, 23, 24, 25, 26, 27, 28, 29, 30, 31, 32, 33, 34, 35, 36, 37, 38, 39, 40, 41, 42, 43, 44, 45, 46, 47, 48, 49] (by decide +kernel) (by decide +kernel)
set_option maxRecDepth 20000 in
theorem gX5_again_X5_aside : GoodIn wsX5_again (wsV RX5 184 RX5 yX5_aside wsX5_aside) := goodIn_app (goodIn_of _ (by decide +kernel)) ggX5_again_X5_aside
set_option maxRecDepth 20000 in
theorem ggX5_again_X5_worksAt : GoodIn wsX5_again wsX5_worksAt := goodIn_r _ [15, 5, 16, 17, 18, 9, 19, 2, 20, 21, 22, 23, 24, 25, 26, 27, 28, 29, 30, 31, 32, 33, 34, 35, 36, 37, 38, 39, 40, 41, 42, 43, 44, 45, 46, 47, 48, 49] (by decide +kernel) (by decide +kernel)
set_option maxRecDepth 20000 in
theorem gX5_again_X5_worksAt : GoodIn wsX5_again (wsV RX5 153 RX5 yX5_worksAt wsX5_worksAt) := goodIn_app (goodIn_of _ (by decide +kernel)) ggX5_again_X5_worksAt
set_option maxRecDepth 20000 in
theorem ggX5_again_X5_placeOf : GoodIn wsX5_again wsX5_placeOf := goodIn_r _ [19, 2, 5, 20, 21, 22, 23, 24, 25, 26, 27, 28, 29, 30, 31, 32, 33, 34, 35, 36, 37, 38, 39, 40, 41, 42, 43, 44, 45, 46, 47, 48, 49] (by decide +kernel) (by decide +kernel)
set_option maxRecDepth 20000 in
theorem gX5_again_X5_placeOf : GoodIn wsX5_again (wsV RX5 150 RX5 yX5_placeOf wsX5_placeOf) := goodIn_app (goodIn_of _ (by decide +kernel)) ggX5_again_X5_placeOf
theorem dX5_again_0 : decode cX5_again 0 = .ok (.aload_n 0, 1) := by decide +kernel
theorem dX5_again_1 : decode cX5_again 1 = .ok (.iconst 0, 1) := by decide +kernel
theorem dX5_again_2 : decode cX5_again 2 = .ok (.putfield 59, 3) := by decide +kernel
theorem dX5_again_5 : decode cX5_again 5 = .ok (.aload_n 0, 1) := by decide +kernel
theorem dX5_again_6 : decode cX5_again 6 = .ok (.getfield 137, 3) := by decide +kernel
theorem dX5_again_9 : decode cX5_again 9 = .ok (.ifCond .ne 6, 3) := by decide +kernel
theorem dX5_again_12 : decode cX5_again 12 = .ok (.bipush (-2), 2) := by decide +kernel
theorem dX5_again_14 : decode cX5_again 14 = .ok (.ireturn, 1) := by decide +kernel
theorem dX5_again_15 : decode cX5_again 15 = .ok (.aload_n 0, 1) := by decide +kernel
theorem dX5_again_16 : decode cX5_again 16 = .ok (.iconst 1, 1) := by decide +kernel
theorem dX5_again_17 : decode cX5_again 17 = .ok (.invokevirtual 184, 3) := by decide +kernel
theorem dX5_again_20 : decode cX5_again 20 = .ok (.iconst 0, 1) := by decide +kernel
theorem dX5_again_21 : decode cX5_again 21 = .ok (.istore_n 1, 1) := by decide +kernel
theorem dX5_again_22 : decode cX5_again 22 = .ok (.iload_n 1, 1) := by decide +kernel
theorem dX5_again_23 : decode cX5_again 23 = .ok (.aload_n 0, 1) := by decide +kernel
theorem dX5_again_24 : decode cX5_again 24 = .ok (.getfield 140, 3) := by decide +kernel
theorem dX5_again_27 : decode cX5_again 27 = .ok (.if_icmp .ge 20, 3) := by decide +kernel
theorem dX5_again_30 : decode cX5_again 30 = .ok (.aload_n 0, 1) := by decide +kernel
theorem dX5_again_31 : decode cX5_again 31 = .ok (.getfield 50, 3) := by decide +kernel
theorem dX5_again_34 : decode cX5_again 34 = .ok (.iload_n 1, 1) := by decide +kernel
theorem dX5_again_35 : decode cX5_again 35 = .ok (.aload_n 0, 1) := by decide +kernel
theorem dX5_again_36 : decode cX5_again 36 = .ok (.iload_n 1, 1) := by decide +kernel
theorem dX5_again_37 : decode cX5_again 37 = .ok (.invokevirtual 153, 3) := by decide +kernel
theorem dX5_again_40 : decode cX5_again 40 = .ok (.iastore, 1) := by decide +kernel
theorem dX5_again_41 : decode cX5_again 41 = .ok (.iinc 1 1, 3) := by decide +kernel
theorem dX5_again_44 : decode cX5_again 44 = .ok (.goto (-22), 3) := by decide +kernel
theorem dX5_again_47 : decode cX5_again 47 = .ok (.bipush (-9), 2) := by decide +kernel
theorem dX5_again_49 : decode cX5_again 49 = .ok (.istore_n 1, 1) := by decide +kernel
theorem dX5_again_50 : decode cX5_again 50 = .ok (.iconst 1, 1) := by decide +kernel
theorem dX5_again_51 : decode cX5_again 51 = .ok (.istore_n 2, 1) := by decide +kernel
theorem dX5_again_52 : decode cX5_again 52 = .ok (.iload_n 2, 1) := by decide +kernel
theorem dX5_again_53 : decode cX5_again 53 = .ok (.bipush 61, 2) := by decide +kernel
theorem dX5_again_55 : decode cX5_again 55 = .ok (.if_icmp .ge 119, 3) := by decide +kernel
theorem dX5_again_58 : decode cX5_again 58 = .ok (.iload_n 1, 1) := by decide +kernel
theorem dX5_again_59 : decode cX5_again 59 = .ok (.bipush (-9), 2) := by decide +kernel
theorem dX5_again_61 : decode cX5_again 61 = .ok (.if_icmp .ne 113, 3) := by decide +kernel
theorem dX5_again_64 : decode cX5_again 64 = .ok (.iconst 1, 1) := by decide +kernel
theorem dX5_again_65 : decode cX5_again 65 = .ok (.istore_n 3, 1) := by decide +kernel
theorem dX5_again_66 : decode cX5_again 66 = .ok (.iconst 0, 1) := by decide +kernel
theorem dX5_again_67 : decode cX5_again 67 = .ok (.istore 4, 2) := by decide +kernel
theorem dX5_again_69 : decode cX5_again 69 = .ok (.iload 4, 2) := by decide +kernel
theorem dX5_again_71 : decode cX5_again 71 = .ok (.aload_n 0, 1) := by decide +kernel
theorem dX5_again_72 : decode cX5_again 72 = .ok (.getfield 140, 3) := by decide +kernel
theorem dX5_again_75 : decode cX5_again 75 = .ok (.if_icmp .ge 82, 3) := by decide +kernel
theorem dX5_again_78 : decode cX5_again 78 = .ok (.aload_n 0, 1) := by decide +kernel
theorem dX5_again_79 : decode cX5_again 79 = .ok (.iload 4, 2) := by decide +kernel
theorem dX5_again_81 : decode cX5_again 81 = .ok (.invokevirtual 150, 3) := by decide +kernel
theorem dX5_again_84 : decode cX5_again 84 = .ok (.istore 5, 2) := by decide +kernel
theorem dX5_again_86 : decode cX5_again 86 = .ok (.aload_n 0, 1) := by decide +kernel
theorem dX5_again_87 : decode cX5_again 87 = .ok (.getfield 34, 3) := by decide +kernel
theorem dX5_again_90 : decode cX5_again 90 = .ok (.bipush 20, 2) := by decide +kernel
theorem dX5_again_92 : decode cX5_again 92 = .ok (.iload 4, 2) := by decide +kernel
theorem dX5_again_94 : decode cX5_again 94 = .ok (.iadd, 1) := by decide +kernel
theorem dX5_again_95 : decode cX5_again 95 = .ok (.iload 5, 2) := by decide +kernel
theorem dX5_again_97 : decode cX5_again 97 = .ok (.bipush (-9), 2) := by decide +kernel
theorem dX5_again_99 : decode cX5_again 99 = .ok (.if_icmp .ne 16, 3) := by decide +kernel
theorem dX5_again_102 : decode cX5_again 102 = .ok (.aload_n 0, 1) := by decide +kernel
theorem dX5_again_103 : decode cX5_again 103 = .ok (.getfield 34, 3) := by decide +kernel
theorem dX5_again_106 : decode cX5_again 106 = .ok (.bipush 20, 2) := by decide +kernel
theorem dX5_again_108 : decode cX5_again 108 = .ok (.iload 4, 2) := by decide +kernel
theorem dX5_again_110 : decode cX5_again 110 = .ok (.iadd, 1) := by decide +kernel
theorem dX5_again_111 : decode cX5_again 111 = .ok (.iaload, 1) := by decide +kernel
theorem dX5_again_112 : decode cX5_again 112 = .ok (.goto 5, 3) := by decide +kernel
theorem dX5_again_115 : decode cX5_again 115 = .ok (.iload 5, 2) := by decide +kernel
theorem dX5_again_117 : decode cX5_again 117 = .ok (.iconst 1, 1) := by decide +kernel
theorem dX5_again_118 : decode cX5_again 118 = .ok (.iadd, 1) := by decide +kernel
theorem dX5_again_119 : decode cX5_again 119 = .ok (.aload_n 0, 1) := by decide +kernel
theorem dX5_again_120 : decode cX5_again 120 = .ok (.getfield 137, 3) := by decide +kernel
theorem dX5_again_123 : decode cX5_again 123 = .ok (.irem, 1) := by decide +kernel
theorem dX5_again_124 : decode cX5_again 124 = .ok (.iastore, 1) := by decide +kernel
theorem dX5_again_125 : decode cX5_again 125 = .ok (.iload_n 3, 1) := by decide +kernel
theorem dX5_again_126 : decode cX5_again 126 = .ok (.ifCond .eq 23, 3) := by decide +kernel
theorem dX5_again_129 : decode cX5_again 129 = .ok (.aload_n 0, 1) := by decide +kernel
theorem dX5_again_130 : decode cX5_again 130 = .ok (.iload 4, 2) := by decide +kernel
theorem dX5_again_132 : decode cX5_again 132 = .ok (.invokevirtual 153, 3) := by decide +kernel
theorem dX5_again_135 : decode cX5_again 135 = .ok (.aload_n 0, 1) := by decide +kernel
theorem dX5_again_136 : decode cX5_again 136 = .ok (.getfield 50, 3) := by decide +kernel
theorem dX5_again_139 : decode cX5_again 139 = .ok (.iload 4, 2) := by decide +kernel
theorem dX5_again_141 : decode cX5_again 141 = .ok (.iaload, 1) := by decide +kernel
theorem dX5_again_142 : decode cX5_again 142 = .ok (.if_icmp .ne 7, 3) := by decide +kernel
theorem dX5_again_145 : decode cX5_again 145 = .ok (.iconst 1, 1) := by decide +kernel
theorem dX5_again_146 : decode cX5_again 146 = .ok (.goto 4, 3) := by decide +kernel
theorem dX5_again_149 : decode cX5_again 149 = .ok (.iconst 0, 1) := by decide +kernel
theorem dX5_again_150 : decode cX5_again 150 = .ok (.istore_n 3, 1) := by decide +kernel
theorem dX5_again_151 : decode cX5_again 151 = .ok (.iinc 4 1, 3) := by decide +kernel
theorem dX5_again_154 : decode cX5_again 154 = .ok (.goto (-85), 3) := by decide +kernel
theorem dX5_again_157 : decode cX5_again 157 = .ok (.iload_n 3, 1) := by decide +kernel
theorem dX5_again_158 : decode cX5_again 158 = .ok (.ifCond .eq 7, 3) := by decide +kernel
theorem dX5_again_161 : decode cX5_again 161 = .ok (.iload_n 2, 1) := by decide +kernel
theorem dX5_again_162 : decode cX5_again 162 = .ok (.goto 5, 3) := by decide +kernel
theorem dX5_again_165 : decode cX5_again 165 = .ok (.bipush (-9), 2) := by decide +kernel
theorem dX5_again_167 : decode cX5_again 167 = .ok (.istore_n 1, 1) := by decide +kernel
theorem dX5_again_168 : decode cX5_again 168 = .ok (.iinc 2 1, 3) := by decide +kernel
theorem dX5_again_171 : decode cX5_again 171 = .ok (.goto (-119), 3) := by decide +kernel
theorem dX5_again_174 : decode cX5_again 174 = .ok (.aload_n 0, 1) := by decide +kernel
theorem dX5_again_175 : decode cX5_again 175 = .ok (.iconst 0, 1) := by decide +kernel
theorem dX5_again_176 : decode cX5_again 176 = .ok (.invokevirtual 184, 3) := by decide +kernel
theorem dX5_again_179 : decode cX5_again 179 = .ok (.iload_n 1, 1) := by decide +kernel
theorem dX5_again_180 : decode cX5_again 180 = .ok (.ireturn, 1) := by decide +kernel
set_option maxRecDepth 20000 in
theorem ggX5_rate_X5_in : GoodIn wsX5_rate wsX5_in := goodIn_r _ [14] (by decide +kernel) (by decide +kernel)
set_option maxRecDepth 20000 in
theorem gX5_rate_X5_in : GoodIn wsX5_rate (va_wsS RX5 63 yX5_in wsX5_in) := goodIn_app (goodIn_of _ (by decide +kernel)) ggX5_rate_X5_in
set_option maxRecDepth 20000 in
theorem ggX5_rate_X5_isPerson : GoodIn wsX5_rate wsX5_isPerson := goodIn_r _ [18, 19, 11, 12, 13, 14, 20, 21, 22, 23, 24, 25, 26, 27, 28, 29, 30, 31, 32, 33, 34, 35, 36, 37, 38, 39, 40, 41, 42, 43, 44, 45, 46, 47, 48] (by decide +kernel) (by decide +kernel)
set_option maxRecDepth 20000 in
theorem gX5_rate_X5_isPerson : GoodIn wsX5_rate (wsV RX5 147 RX5 yX5_isPerson wsX5_isPerson) := goodIn_app (goodIn_of _ (by decide +kernel)) ggX5_rate_X5_isPerson
theorem dX5_rate_0 : decode cX5_rate 0 = .ok (.aload_n 0, 1) := by decide +kernel
theorem dX5_rate_1 : decode cX5_rate 1 = .ok (.iconst 0, 1) := by decide +kernel
theorem dX5_rate_2 : decode cX5_rate 2 = .ok (.putfield 59, 3) := by decide +kernel
theorem dX5_rate_5 : decode cX5_rate 5 = .ok (.iload_n 1, 1) := by decide +kernel
theorem dX5_rate_6 : decode cX5_rate 6 = .ok (.iconst 0, 1) := by decide +kernel
theorem dX5_rate_7 : decode cX5_rate 7 = .ok (.iconst 5, 1) := by decide +kernel
theorem dX5_rate_8 : decode cX5_rate 8 = .ok (.invokestatic 63, 3) := by decide +kernel
theorem dX5_rate_11 : decode cX5_rate 11 = .ok (.ifCond .eq 11, 3) := by decide +kernel
theorem dX5_rate_14 : decode cX5_rate 14 = .ok (.aload_n 0, 1) := by decide +kernel
theorem dX5_rate_15 : decode cX5_rate 15 = .ok (.iload_n 2, 1) := by decide +kernel
theorem dX5_rate_16 : decode cX5_rate 16 = .ok (.invokevirtual 147, 3) := by decide +kernel
theorem dX5_rate_19 : decode cX5_rate 19 = .ok (.ifCond .ne 6, 3) := by decide +kernel
theorem dX5_rate_22 : decode cX5_rate 22 = .ok (.ldc 198, 2) := by decide +kernel
theorem dX5_rate_24 : decode cX5_rate 24 = .ok (.ireturn, 1) := by decide +kernel
theorem dX5_rate_25 : decode cX5_rate 25 = .ok (.iconst 0, 1) := by decide +kernel
theorem dX5_rate_26 : decode cX5_rate 26 = .ok (.istore_n 3, 1) := by decide +kernel
theorem dX5_rate_27 : decode cX5_rate 27 = .ok (.iconst 0, 1) := by decide +kernel
theorem dX5_rate_28 : decode cX5_rate 28 = .ok (.istore 4, 2) := by decide +kernel
theorem dX5_rate_30 : decode cX5_rate 30 = .ok (.aload_n 0, 1) := by decide +kernel
theorem dX5_rate_31 : decode cX5_rate 31 = .ok (.getfield 137, 3) := by decide +kernel
theorem dX5_rate_34 : decode cX5_rate 34 = .ok (.ifCond .ne 7, 3) := by decide +kernel
theorem dX5_rate_37 : decode cX5_rate 37 = .ok (.iconst 0, 1) := by decide +kernel
theorem dX5_rate_38 : decode cX5_rate 38 = .ok (.goto 5, 3) := by decide +kernel
theorem dX5_rate_41 : decode cX5_rate 41 = .ok (.bipush 9, 2) := by decide +kernel
theorem dX5_rate_43 : decode cX5_rate 43 = .ok (.istore 5, 2) := by decide +kernel
theorem dX5_rate_45 : decode cX5_rate 45 = .ok (.iconst 0, 1) := by decide +kernel
theorem dX5_rate_46 : decode cX5_rate 46 = .ok (.istore 6, 2) := by decide +kernel
theorem dX5_rate_48 : decode cX5_rate 48 = .ok (.iload 6, 2) := by decide +kernel
theorem dX5_rate_50 : decode cX5_rate 50 = .ok (.aload_n 0, 1) := by decide +kernel
theorem dX5_rate_51 : decode cX5_rate 51 = .ok (.getfield 137, 3) := by decide +kernel
theorem dX5_rate_54 : decode cX5_rate 54 = .ok (.if_icmp .ge 63, 3) := by decide +kernel
theorem dX5_rate_57 : decode cX5_rate 57 = .ok (.aload_n 0, 1) := by decide +kernel
theorem dX5_rate_58 : decode cX5_rate 58 = .ok (.getfield 34, 3) := by decide +kernel
theorem dX5_rate_61 : decode cX5_rate 61 = .ok (.bipush 33, 2) := by decide +kernel
theorem dX5_rate_63 : decode cX5_rate 63 = .ok (.bipush 6, 2) := by decide +kernel
theorem dX5_rate_65 : decode cX5_rate 65 = .ok (.iload_n 2, 1) := by decide +kernel
theorem dX5_rate_66 : decode cX5_rate 66 = .ok (.imul, 1) := by decide +kernel
theorem dX5_rate_67 : decode cX5_rate 67 = .ok (.iadd, 1) := by decide +kernel
theorem dX5_rate_68 : decode cX5_rate 68 = .ok (.iload 6, 2) := by decide +kernel
theorem dX5_rate_70 : decode cX5_rate 70 = .ok (.iadd, 1) := by decide +kernel
theorem dX5_rate_71 : decode cX5_rate 71 = .ok (.iaload, 1) := by decide +kernel
theorem dX5_rate_72 : decode cX5_rate 72 = .ok (.istore 7, 2) := by decide +kernel
theorem dX5_rate_74 : decode cX5_rate 74 = .ok (.iload_n 3, 1) := by decide +kernel
theorem dX5_rate_75 : decode cX5_rate 75 = .ok (.iload 7, 2) := by decide +kernel
theorem dX5_rate_77 : decode cX5_rate 77 = .ok (.iadd, 1) := by decide +kernel
theorem dX5_rate_78 : decode cX5_rate 78 = .ok (.istore_n 3, 1) := by decide +kernel
theorem dX5_rate_79 : decode cX5_rate 79 = .ok (.iload 7, 2) := by decide +kernel
theorem dX5_rate_81 : decode cX5_rate 81 = .ok (.iload 4, 2) := by decide +kernel
theorem dX5_rate_83 : decode cX5_rate 83 = .ok (.if_icmp .le 8, 3) := by decide +kernel
theorem dX5_rate_86 : decode cX5_rate 86 = .ok (.iload 7, 2) := by decide +kernel
theorem dX5_rate_88 : decode cX5_rate 88 = .ok (.goto 5, 3) := by decide +kernel
theorem dX5_rate_91 : decode cX5_rate 91 = .ok (.iload 4, 2) := by decide +kernel
theorem dX5_rate_93 : decode cX5_rate 93 = .ok (.istore 4, 2) := by decide +kernel
theorem dX5_rate_95 : decode cX5_rate 95 = .ok (.iload 7, 2) := by decide +kernel
theorem dX5_rate_97 : decode cX5_rate 97 = .ok (.iload 5, 2) := by decide +kernel
theorem dX5_rate_99 : decode cX5_rate 99 = .ok (.if_icmp .ge 8, 3) := by decide +kernel
theorem dX5_rate_102 : decode cX5_rate 102 = .ok (.iload 7, 2) := by decide +kernel
theorem dX5_rate_104 : decode cX5_rate 104 = .ok (.goto 5, 3) := by decide +kernel
theorem dX5_rate_107 : decode cX5_rate 107 = .ok (.iload 5, 2) := by decide +kernel
theorem dX5_rate_109 : decode cX5_rate 109 = .ok (.istore 5, 2) := by decide +kernel
theorem dX5_rate_111 : decode cX5_rate 111 = .ok (.iinc 6 1, 3) := by decide +kernel
theorem dX5_rate_114 : decode cX5_rate 114 = .ok (.goto (-66), 3) := by decide +kernel
theorem dX5_rate_117 : decode cX5_rate 117 = .ok (.iload_n 3, 1) := by decide +kernel
theorem dX5_rate_118 : decode cX5_rate 118 = .ok (.aload_n 0, 1) := by decide +kernel
theorem dX5_rate_119 : decode cX5_rate 119 = .ok (.getfield 34, 3) := by decide +kernel
theorem dX5_rate_122 : decode cX5_rate 122 = .ok (.bipush 20, 2) := by decide +kernel
theorem dX5_rate_124 : decode cX5_rate 124 = .ok (.iload_n 2, 1) := by decide +kernel
theorem dX5_rate_125 : decode cX5_rate 125 = .ok (.iadd, 1) := by decide +kernel
theorem dX5_rate_126 : decode cX5_rate 126 = .ok (.iaload, 1) := by decide +kernel
theorem dX5_rate_127 : decode cX5_rate 127 = .ok (.iadd, 1) := by decide +kernel
theorem dX5_rate_128 : decode cX5_rate 128 = .ok (.istore 6, 2) := by decide +kernel
theorem dX5_rate_130 : decode cX5_rate 130 = .ok (.aload_n 0, 1) := by decide +kernel
theorem dX5_rate_131 : decode cX5_rate 131 = .ok (.dup, 1) := by decide +kernel
theorem dX5_rate_132 : decode cX5_rate 132 = .ok (.getfield 199, 3) := by decide +kernel
theorem dX5_rate_135 : decode cX5_rate 135 = .ok (.iload_n 1, 1) := by decide +kernel
theorem dX5_rate_136 : decode cX5_rate 136 = .ok (.ifCond .ne 7, 3) := by decide +kernel
theorem dX5_rate_139 : decode cX5_rate 139 = .ok (.lconst 1, 1) := by decide +kernel
theorem dX5_rate_140 : decode cX5_rate 140 = .ok (.goto 50, 3) := by decide +kernel
theorem dX5_rate_143 : decode cX5_rate 143 = .ok (.iload_n 1, 1) := by decide +kernel
theorem dX5_rate_144 : decode cX5_rate 144 = .ok (.iconst 1, 1) := by decide +kernel
theorem dX5_rate_145 : decode cX5_rate 145 = .ok (.if_icmp .ne 9, 3) := by decide +kernel
theorem dX5_rate_148 : decode cX5_rate 148 = .ok (.ldc2_w 203, 3) := by decide +kernel
theorem dX5_rate_151 : decode cX5_rate 151 = .ok (.goto 39, 3) := by decide +kernel
theorem dX5_rate_154 : decode cX5_rate 154 = .ok (.iload_n 1, 1) := by decide +kernel
theorem dX5_rate_155 : decode cX5_rate 155 = .ok (.iconst 2, 1) := by decide +kernel
theorem dX5_rate_156 : decode cX5_rate 156 = .ok (.if_icmp .ne 9, 3) := by decide +kernel
theorem dX5_rate_159 : decode cX5_rate 159 = .ok (.ldc2_w 205, 3) := by decide +kernel
theorem dX5_rate_162 : decode cX5_rate 162 = .ok (.goto 28, 3) := by decide +kernel
theorem dX5_rate_165 : decode cX5_rate 165 = .ok (.iload_n 1, 1) := by decide +kernel
theorem dX5_rate_166 : decode cX5_rate 166 = .ok (.iconst 3, 1) := by decide +kernel
theorem dX5_rate_167 : decode cX5_rate 167 = .ok (.if_icmp .ne 9, 3) := by decide +kernel
theorem dX5_rate_170 : decode cX5_rate 170 = .ok (.ldc2_w 207, 3) := by decide +kernel
theorem dX5_rate_173 : decode cX5_rate 173 = .ok (.goto 17, 3) := by decide +kernel
theorem dX5_rate_176 : decode cX5_rate 176 = .ok (.iload_n 1, 1) := by decide +kernel
theorem dX5_rate_177 : decode cX5_rate 177 = .ok (.iconst 4, 1) := by decide +kernel
theorem dX5_rate_178 : decode cX5_rate 178 = .ok (.if_icmp .ne 9, 3) := by decide +kernel
theorem dX5_rate_181 : decode cX5_rate 181 = .ok (.ldc2_w 209, 3) := by decide +kernel
theorem dX5_rate_184 : decode cX5_rate 184 = .ok (.goto 6, 3) := by decide +kernel
theorem dX5_rate_187 : decode cX5_rate 187 = .ok (.ldc2_w 211, 3) := by decide +kernel
theorem dX5_rate_190 : decode cX5_rate 190 = .ok (.ladd, 1) := by decide +kernel
theorem dX5_rate_191 : decode cX5_rate 191 = .ok (.putfield 199, 3) := by decide +kernel
theorem dX5_rate_194 : decode cX5_rate 194 = .ok (.iload_n 1, 1) := by decide +kernel
theorem dX5_rate_195 : decode cX5_rate 195 = .ok (.ifCond .ne 7, 3) := by decide +kernel
theorem dX5_rate_198 : decode cX5_rate 198 = .ok (.iload_n 3, 1) := by decide +kernel
theorem dX5_rate_199 : decode cX5_rate 199 = .ok (.goto 60, 3) := by decide +kernel
theorem dX5_rate_202 : decode cX5_rate 202 = .ok (.iload_n 1, 1) := by decide +kernel
theorem dX5_rate_203 : decode cX5_rate 203 = .ok (.iconst 1, 1) := by decide +kernel
theorem dX5_rate_204 : decode cX5_rate 204 = .ok (.if_icmp .ne 8, 3) := by decide +kernel
theorem dX5_rate_207 : decode cX5_rate 207 = .ok (.iload 6, 2) := by decide +kernel
theorem dX5_rate_209 : decode cX5_rate 209 = .ok (.goto 50, 3) := by decide +kernel
theorem dX5_rate_212 : decode cX5_rate 212 = .ok (.iload_n 1, 1) := by decide +kernel
theorem dX5_rate_213 : decode cX5_rate 213 = .ok (.iconst 2, 1) := by decide +kernel
theorem dX5_rate_214 : decode cX5_rate 214 = .ok (.if_icmp .ne 10, 3) := by decide +kernel
theorem dX5_rate_217 : decode cX5_rate 217 = .ok (.iload_n 3, 1) := by decide +kernel
theorem dX5_rate_218 : decode cX5_rate 218 = .ok (.iload 4, 2) := by decide +kernel
theorem dX5_rate_220 : decode cX5_rate 220 = .ok (.iadd, 1) := by decide +kernel
theorem dX5_rate_221 : decode cX5_rate 221 = .ok (.goto 38, 3) := by decide +kernel
theorem dX5_rate_224 : decode cX5_rate 224 = .ok (.iload_n 1, 1) := by decide +kernel
theorem dX5_rate_225 : decode cX5_rate 225 = .ok (.iconst 3, 1) := by decide +kernel
theorem dX5_rate_226 : decode cX5_rate 226 = .ok (.if_icmp .ne 12, 3) := by decide +kernel
theorem dX5_rate_229 : decode cX5_rate 229 = .ok (.iconst 2, 1) := by decide +kernel
theorem dX5_rate_230 : decode cX5_rate 230 = .ok (.iload_n 3, 1) := by decide +kernel
theorem dX5_rate_231 : decode cX5_rate 231 = .ok (.iload 4, 2) := by decide +kernel
theorem dX5_rate_233 : decode cX5_rate 233 = .ok (.iadd, 1) := by decide +kernel
theorem dX5_rate_234 : decode cX5_rate 234 = .ok (.imul, 1) := by decide +kernel
theorem dX5_rate_235 : decode cX5_rate 235 = .ok (.goto 24, 3) := by decide +kernel
theorem dX5_rate_238 : decode cX5_rate 238 = .ok (.iload_n 1, 1) := by decide +kernel
theorem dX5_rate_239 : decode cX5_rate 239 = .ok (.iconst 4, 1) := by decide +kernel
theorem dX5_rate_240 : decode cX5_rate 240 = .ok (.if_icmp .ne 11, 3) := by decide +kernel
theorem dX5_rate_243 : decode cX5_rate 243 = .ok (.iload 6, 2) := by decide +kernel
theorem dX5_rate_245 : decode cX5_rate 245 = .ok (.iload 5, 2) := by decide +kernel
theorem dX5_rate_247 : decode cX5_rate 247 = .ok (.isub, 1) := by decide +kernel
theorem dX5_rate_248 : decode cX5_rate 248 = .ok (.goto 11, 3) := by decide +kernel
theorem dX5_rate_251 : decode cX5_rate 251 = .ok (.iload_n 3, 1) := by decide +kernel
theorem dX5_rate_252 : decode cX5_rate 252 = .ok (.aload_n 0, 1) := by decide +kernel
theorem dX5_rate_253 : decode cX5_rate 253 = .ok (.getfield 34, 3) := by decide +kernel
theorem dX5_rate_256 : decode cX5_rate 256 = .ok (.iconst 0, 1) := by decide +kernel
theorem dX5_rate_257 : decode cX5_rate 257 = .ok (.iaload, 1) := by decide +kernel
theorem dX5_rate_258 : decode cX5_rate 258 = .ok (.isub, 1) := by decide +kernel
theorem dX5_rate_259 : decode cX5_rate 259 = .ok (.ireturn, 1) := by decide +kernel
set_option maxRecDepth 20000 in
theorem ggX5_keep_X5_in : GoodIn wsX5_keep wsX5_in := goodIn_r _ [8] (by decide +kernel) (by decide +kernel)
set_option maxRecDepth 20000 in
theorem gX5_keep_X5_in : GoodIn wsX5_keep (va_wsS RX5 63 yX5_in wsX5_in) := goodIn_app (goodIn_of _ (by decide +kernel)) ggX5_keep_X5_in
theorem dX5_keep_0 : decode cX5_keep 0 = .ok (.aload_n 0, 1) := by decide +kernel
theorem dX5_keep_1 : decode cX5_keep 1 = .ok (.iconst 0, 1) := by decide +kernel
theorem dX5_keep_2 : decode cX5_keep 2 = .ok (.putfield 59, 3) := by decide +kernel
theorem dX5_keep_5 : decode cX5_keep 5 = .ok (.iload_n 1, 1) := by decide +kernel
theorem dX5_keep_6 : decode cX5_keep 6 = .ok (.iconst 0, 1) := by decide +kernel
theorem dX5_keep_7 : decode cX5_keep 7 = .ok (.iconst 1, 1) := by decide +kernel
theorem dX5_keep_8 : decode cX5_keep 8 = .ok (.invokestatic 63, 3) := by decide +kernel
theorem dX5_keep_11 : decode cX5_keep 11 = .ok (.ifCond .ne 5, 3) := by decide +kernel
theorem dX5_keep_14 : decode cX5_keep 14 = .ok (.iconst (-1), 1) := by decide +kernel
theorem dX5_keep_15 : decode cX5_keep 15 = .ok (.ireturn, 1) := by decide +kernel
theorem dX5_keep_16 : decode cX5_keep 16 = .ok (.iconst 0, 1) := by decide +kernel
theorem dX5_keep_17 : decode cX5_keep 17 = .ok (.istore_n 2, 1) := by decide +kernel
theorem dX5_keep_18 : decode cX5_keep 18 = .ok (.iload_n 2, 1) := by decide +kernel
theorem dX5_keep_19 : decode cX5_keep 19 = .ok (.bipush 105, 2) := by decide +kernel
theorem dX5_keep_21 : decode cX5_keep 21 = .ok (.if_icmp .ge 26, 3) := by decide +kernel
theorem dX5_keep_24 : decode cX5_keep 24 = .ok (.aload_n 0, 1) := by decide +kernel
theorem dX5_keep_25 : decode cX5_keep 25 = .ok (.getfield 40, 3) := by decide +kernel
theorem dX5_keep_28 : decode cX5_keep 28 = .ok (.bipush 105, 2) := by decide +kernel
theorem dX5_keep_30 : decode cX5_keep 30 = .ok (.iload_n 1, 1) := by decide +kernel
theorem dX5_keep_31 : decode cX5_keep 31 = .ok (.imul, 1) := by decide +kernel
theorem dX5_keep_32 : decode cX5_keep 32 = .ok (.iload_n 2, 1) := by decide +kernel
theorem dX5_keep_33 : decode cX5_keep 33 = .ok (.iadd, 1) := by decide +kernel
theorem dX5_keep_34 : decode cX5_keep 34 = .ok (.aload_n 0, 1) := by decide +kernel
theorem dX5_keep_35 : decode cX5_keep 35 = .ok (.getfield 34, 3) := by decide +kernel
theorem dX5_keep_38 : decode cX5_keep 38 = .ok (.iload_n 2, 1) := by decide +kernel
theorem dX5_keep_39 : decode cX5_keep 39 = .ok (.iaload, 1) := by decide +kernel
theorem dX5_keep_40 : decode cX5_keep 40 = .ok (.iastore, 1) := by decide +kernel
theorem dX5_keep_41 : decode cX5_keep 41 = .ok (.iinc 2 1, 3) := by decide +kernel
theorem dX5_keep_44 : decode cX5_keep 44 = .ok (.goto (-26), 3) := by decide +kernel
theorem dX5_keep_47 : decode cX5_keep 47 = .ok (.aload_n 0, 1) := by decide +kernel
theorem dX5_keep_48 : decode cX5_keep 48 = .ok (.getfield 43, 3) := by decide +kernel
theorem dX5_keep_51 : decode cX5_keep 51 = .ok (.iload_n 1, 1) := by decide +kernel
theorem dX5_keep_52 : decode cX5_keep 52 = .ok (.iconst 1, 1) := by decide +kernel
theorem dX5_keep_53 : decode cX5_keep 53 = .ok (.bastore, 1) := by decide +kernel
theorem dX5_keep_54 : decode cX5_keep 54 = .ok (.aload_n 0, 1) := by decide +kernel
theorem dX5_keep_55 : decode cX5_keep 55 = .ok (.getfield 34, 3) := by decide +kernel
theorem dX5_keep_58 : decode cX5_keep 58 = .ok (.iconst 0, 1) := by decide +kernel
theorem dX5_keep_59 : decode cX5_keep 59 = .ok (.iaload, 1) := by decide +kernel
theorem dX5_keep_60 : decode cX5_keep 60 = .ok (.ireturn, 1) := by decide +kernel
set_option maxRecDepth 20000 in
theorem ggX5_back_X5_in : GoodIn wsX5_back wsX5_in := goodIn_r _ [8] (by decide +kernel) (by decide +kernel)
set_option maxRecDepth 20000 in
theorem gX5_back_X5_in : GoodIn wsX5_back (va_wsS RX5 63 yX5_in wsX5_in) := goodIn_app (goodIn_of _ (by decide +kernel)) ggX5_back_X5_in
theorem dX5_back_0 : decode cX5_back 0 = .ok (.aload_n 0, 1) := by decide +kernel
theorem dX5_back_1 : decode cX5_back 1 = .ok (.iconst 0, 1) := by decide +kernel
theorem dX5_back_2 : decode cX5_back 2 = .ok (.putfield 59, 3) := by decide +kernel
theorem dX5_back_5 : decode cX5_back 5 = .ok (.iload_n 1, 1) := by decide +kernel
theorem dX5_back_6 : decode cX5_back 6 = .ok (.iconst 0, 1) := by decide +kernel
theorem dX5_back_7 : decode cX5_back 7 = .ok (.iconst 1, 1) := by decide +kernel
theorem dX5_back_8 : decode cX5_back 8 = .ok (.invokestatic 63, 3) := by decide +kernel
theorem dX5_back_11 : decode cX5_back 11 = .ok (.ifCond .ne 5, 3) := by decide +kernel
theorem dX5_back_14 : decode cX5_back 14 = .ok (.iconst (-1), 1) := by decide +kernel
theorem dX5_back_15 : decode cX5_back 15 = .ok (.ireturn, 1) := by decide +kernel
theorem dX5_back_16 : decode cX5_back 16 = .ok (.aload_n 0, 1) := by decide +kernel
theorem dX5_back_17 : decode cX5_back 17 = .ok (.getfield 43, 3) := by decide +kernel
theorem dX5_back_20 : decode cX5_back 20 = .ok (.iload_n 1, 1) := by decide +kernel
theorem dX5_back_21 : decode cX5_back 21 = .ok (.baload, 1) := by decide +kernel
theorem dX5_back_22 : decode cX5_back 22 = .ok (.ifCond .ne 6, 3) := by decide +kernel
theorem dX5_back_25 : decode cX5_back 25 = .ok (.bipush (-2), 2) := by decide +kernel
theorem dX5_back_27 : decode cX5_back 27 = .ok (.ireturn, 1) := by decide +kernel
theorem dX5_back_28 : decode cX5_back 28 = .ok (.iconst 0, 1) := by decide +kernel
theorem dX5_back_29 : decode cX5_back 29 = .ok (.istore_n 2, 1) := by decide +kernel
theorem dX5_back_30 : decode cX5_back 30 = .ok (.iload_n 2, 1) := by decide +kernel
theorem dX5_back_31 : decode cX5_back 31 = .ok (.bipush 105, 2) := by decide +kernel
theorem dX5_back_33 : decode cX5_back 33 = .ok (.if_icmp .ge 26, 3) := by decide +kernel
theorem dX5_back_36 : decode cX5_back 36 = .ok (.aload_n 0, 1) := by decide +kernel
theorem dX5_back_37 : decode cX5_back 37 = .ok (.getfield 34, 3) := by decide +kernel
theorem dX5_back_40 : decode cX5_back 40 = .ok (.iload_n 2, 1) := by decide +kernel
theorem dX5_back_41 : decode cX5_back 41 = .ok (.aload_n 0, 1) := by decide +kernel
theorem dX5_back_42 : decode cX5_back 42 = .ok (.getfield 40, 3) := by decide +kernel
theorem dX5_back_45 : decode cX5_back 45 = .ok (.bipush 105, 2) := by decide +kernel
theorem dX5_back_47 : decode cX5_back 47 = .ok (.iload_n 1, 1) := by decide +kernel
theorem dX5_back_48 : decode cX5_back 48 = .ok (.imul, 1) := by decide +kernel
theorem dX5_back_49 : decode cX5_back 49 = .ok (.iload_n 2, 1) := by decide +kernel
theorem dX5_back_50 : decode cX5_back 50 = .ok (.iadd, 1) := by decide +kernel
theorem dX5_back_51 : decode cX5_back 51 = .ok (.iaload, 1) := by decide +kernel
theorem dX5_back_52 : decode cX5_back 52 = .ok (.iastore, 1) := by decide +kernel
theorem dX5_back_53 : decode cX5_back 53 = .ok (.iinc 2 1, 3) := by decide +kernel
theorem dX5_back_56 : decode cX5_back 56 = .ok (.goto (-26), 3) := by decide +kernel
theorem dX5_back_59 : decode cX5_back 59 = .ok (.aload_n 0, 1) := by decide +kernel
theorem dX5_back_60 : decode cX5_back 60 = .ok (.getfield 34, 3) := by decide +kernel
theorem dX5_back_63 : decode cX5_back 63 = .ok (.iconst 0, 1) := by decide +kernel
theorem dX5_back_64 : decode cX5_back 64 = .ok (.iaload, 1) := by decide +kernel
theorem dX5_back_65 : decode cX5_back 65 = .ok (.ireturn, 1) := by decide +kernel
set_option maxRecDepth 20000 in
theorem ggX5_count_X5_isIll : GoodIn wsX5_count wsX5_isIll := goodIn_r _ [10, 3, 11, 12, 13, 14, 15, 16, 17, 18, 19, 20, 21, 22, 23, 24, 25, 26, 27, 28, 29, 30, 31, 32, 33, 34, 35, 36, 37, 38, 39] (by decide +kernel) (by decide +kernel)
set_option maxRecDepth 20000 in
theorem gX5_count_X5_isIll : GoodIn wsX5_count (wsV RX5 156 RX5 yX5_isIll wsX5_isIll) := goodIn_app (goodIn_of _ (by decide +kernel)) ggX5_count_X5_isIll
theorem dX5_count_0 : decode cX5_count 0 = .ok (.aload_n 0, 1) := by decide +kernel
theorem dX5_count_1 : decode cX5_count 1 = .ok (.iconst 0, 1) := by decide +kernel
theorem dX5_count_2 : decode cX5_count 2 = .ok (.putfield 59, 3) := by decide +kernel
theorem dX5_count_5 : decode cX5_count 5 = .ok (.iconst 0, 1) := by decide +kernel
theorem dX5_count_6 : decode cX5_count 6 = .ok (.istore_n 2, 1) := by decide +kernel
theorem dX5_count_7 : decode cX5_count 7 = .ok (.iconst 0, 1) := by decide +kernel
theorem dX5_count_8 : decode cX5_count 8 = .ok (.istore_n 3, 1) := by decide +kernel
theorem dX5_count_9 : decode cX5_count 9 = .ok (.iconst 0, 1) := by decide +kernel
theorem dX5_count_10 : decode cX5_count 10 = .ok (.istore 4, 2) := by decide +kernel
theorem dX5_count_12 : decode cX5_count 12 = .ok (.iload 4, 2) := by decide +kernel
theorem dX5_count_14 : decode cX5_count 14 = .ok (.aload_n 0, 1) := by decide +kernel
theorem dX5_count_15 : decode cX5_count 15 = .ok (.getfield 140, 3) := by decide +kernel
theorem dX5_count_18 : decode cX5_count 18 = .ok (.if_icmp .ge 49, 3) := by decide +kernel
theorem dX5_count_21 : decode cX5_count 21 = .ok (.iload_n 2, 1) := by decide +kernel
theorem dX5_count_22 : decode cX5_count 22 = .ok (.aload_n 0, 1) := by decide +kernel
theorem dX5_count_23 : decode cX5_count 23 = .ok (.getfield 34, 3) := by decide +kernel
theorem dX5_count_26 : decode cX5_count 26 = .ok (.bipush 26, 2) := by decide +kernel
theorem dX5_count_28 : decode cX5_count 28 = .ok (.iload 4, 2) := by decide +kernel
theorem dX5_count_30 : decode cX5_count 30 = .ok (.iadd, 1) := by decide +kernel
theorem dX5_count_31 : decode cX5_count 31 = .ok (.iaload, 1) := by decide +kernel
theorem dX5_count_32 : decode cX5_count 32 = .ok (.bipush (-9), 2) := by decide +kernel
theorem dX5_count_34 : decode cX5_count 34 = .ok (.if_icmp .eq 7, 3) := by decide +kernel
theorem dX5_count_37 : decode cX5_count 37 = .ok (.iconst 1, 1) := by decide +kernel
theorem dX5_count_38 : decode cX5_count 38 = .ok (.goto 4, 3) := by decide +kernel
theorem dX5_count_41 : decode cX5_count 41 = .ok (.iconst 0, 1) := by decide +kernel
theorem dX5_count_42 : decode cX5_count 42 = .ok (.iadd, 1) := by decide +kernel
theorem dX5_count_43 : decode cX5_count 43 = .ok (.istore_n 2, 1) := by decide +kernel
theorem dX5_count_44 : decode cX5_count 44 = .ok (.iload_n 3, 1) := by decide +kernel
theorem dX5_count_45 : decode cX5_count 45 = .ok (.aload_n 0, 1) := by decide +kernel
theorem dX5_count_46 : decode cX5_count 46 = .ok (.iload 4, 2) := by decide +kernel
theorem dX5_count_48 : decode cX5_count 48 = .ok (.invokevirtual 156, 3) := by decide +kernel
theorem dX5_count_51 : decode cX5_count 51 = .ok (.ifCond .eq 7, 3) := by decide +kernel
theorem dX5_count_54 : decode cX5_count 54 = .ok (.iconst 1, 1) := by decide +kernel
theorem dX5_count_55 : decode cX5_count 55 = .ok (.goto 4, 3) := by decide +kernel
theorem dX5_count_58 : decode cX5_count 58 = .ok (.iconst 0, 1) := by decide +kernel
theorem dX5_count_59 : decode cX5_count 59 = .ok (.iadd, 1) := by decide +kernel
theorem dX5_count_60 : decode cX5_count 60 = .ok (.istore_n 3, 1) := by decide +kernel
theorem dX5_count_61 : decode cX5_count 61 = .ok (.iinc 4 1, 3) := by decide +kernel
theorem dX5_count_64 : decode cX5_count 64 = .ok (.goto (-52), 3) := by decide +kernel
theorem dX5_count_67 : decode cX5_count 67 = .ok (.iload_n 1, 1) := by decide +kernel
theorem dX5_count_68 : decode cX5_count 68 = .ok (.ifCond .ne 10, 3) := by decide +kernel
theorem dX5_count_71 : decode cX5_count 71 = .ok (.aload_n 0, 1) := by decide +kernel
theorem dX5_count_72 : decode cX5_count 72 = .ok (.getfield 137, 3) := by decide +kernel
theorem dX5_count_75 : decode cX5_count 75 = .ok (.goto 46, 3) := by decide +kernel
theorem dX5_count_78 : decode cX5_count 78 = .ok (.iload_n 1, 1) := by decide +kernel
theorem dX5_count_79 : decode cX5_count 79 = .ok (.iconst 1, 1) := by decide +kernel
theorem dX5_count_80 : decode cX5_count 80 = .ok (.if_icmp .ne 10, 3) := by decide +kernel
theorem dX5_count_83 : decode cX5_count 83 = .ok (.aload_n 0, 1) := by decide +kernel
theorem dX5_count_84 : decode cX5_count 84 = .ok (.getfield 140, 3) := by decide +kernel
theorem dX5_count_87 : decode cX5_count 87 = .ok (.goto 34, 3) := by decide +kernel
theorem dX5_count_90 : decode cX5_count 90 = .ok (.iload_n 1, 1) := by decide +kernel
theorem dX5_count_91 : decode cX5_count 91 = .ok (.iconst 2, 1) := by decide +kernel
theorem dX5_count_92 : decode cX5_count 92 = .ok (.if_icmp .ne 7, 3) := by decide +kernel
theorem dX5_count_95 : decode cX5_count 95 = .ok (.iload_n 2, 1) := by decide +kernel
theorem dX5_count_96 : decode cX5_count 96 = .ok (.goto 25, 3) := by decide +kernel
theorem dX5_count_99 : decode cX5_count 99 = .ok (.iload_n 1, 1) := by decide +kernel
theorem dX5_count_100 : decode cX5_count 100 = .ok (.iconst 3, 1) := by decide +kernel
theorem dX5_count_101 : decode cX5_count 101 = .ok (.if_icmp .ne 7, 3) := by decide +kernel
theorem dX5_count_104 : decode cX5_count 104 = .ok (.iload_n 3, 1) := by decide +kernel
theorem dX5_count_105 : decode cX5_count 105 = .ok (.goto 16, 3) := by decide +kernel
theorem dX5_count_108 : decode cX5_count 108 = .ok (.iload_n 1, 1) := by decide +kernel
theorem dX5_count_109 : decode cX5_count 109 = .ok (.iconst 4, 1) := by decide +kernel
theorem dX5_count_110 : decode cX5_count 110 = .ok (.if_icmp .ne 10, 3) := by decide +kernel
theorem dX5_count_113 : decode cX5_count 113 = .ok (.aload_n 0, 1) := by decide +kernel
theorem dX5_count_114 : decode cX5_count 114 = .ok (.getfield 67, 3) := by decide +kernel
theorem dX5_count_117 : decode cX5_count 117 = .ok (.goto 4, 3) := by decide +kernel
theorem dX5_count_120 : decode cX5_count 120 = .ok (.iconst (-1), 1) := by decide +kernel
theorem dX5_count_121 : decode cX5_count 121 = .ok (.ireturn, 1) := by decide +kernel
theorem dX5_trace_0 : decode cX5_trace 0 = .ok (.aload_n 0, 1) := by decide +kernel
theorem dX5_trace_1 : decode cX5_trace 1 = .ok (.iconst 0, 1) := by decide +kernel
theorem dX5_trace_2 : decode cX5_trace 2 = .ok (.putfield 59, 3) := by decide +kernel
theorem dX5_trace_5 : decode cX5_trace 5 = .ok (.aload_n 0, 1) := by decide +kernel
theorem dX5_trace_6 : decode cX5_trace 6 = .ok (.getfield 199, 3) := by decide +kernel
theorem dX5_trace_9 : decode cX5_trace 9 = .ok (.lreturn, 1) := by decide +kernel
