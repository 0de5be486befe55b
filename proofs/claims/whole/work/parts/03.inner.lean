theorem dX0_init_0 : decode cX0_init 0 = .ok (.aload_n 0, 1) := by decide +kernel
theorem dX0_init_1 : decode cX0_init 1 = .ok (.invokespecial 3, 3) := by decide +kernel
theorem dX0_init_4 : decode cX0_init 4 = .ok (.aload_n 0, 1) := by decide +kernel
theorem dX0_init_5 : decode cX0_init 5 = .ok (.iconst 0, 1) := by decide +kernel
theorem dX0_init_6 : decode cX0_init 6 = .ok (.putfield 9, 3) := by decide +kernel
theorem dX0_init_9 : decode cX0_init 9 = .ok (.aload_n 0, 1) := by decide +kernel
theorem dX0_init_10 : decode cX0_init 10 = .ok (.sipush 400, 3) := by decide +kernel
theorem dX0_init_13 : decode cX0_init 13 = .ok (.newarray .char, 2) := by decide +kernel
theorem dX0_init_15 : decode cX0_init 15 = .ok (.putfield 15, 3) := by decide +kernel
theorem dX0_init_18 : decode cX0_init 18 = .ok (.aload_n 0, 1) := by decide +kernel
theorem dX0_init_19 : decode cX0_init 19 = .ok (.sipush 401, 3) := by decide +kernel
theorem dX0_init_22 : decode cX0_init 22 = .ok (.newarray .int, 2) := by decide +kernel
theorem dX0_init_24 : decode cX0_init 24 = .ok (.putfield 19, 3) := by decide +kernel
theorem dX0_init_27 : decode cX0_init 27 = .ok (.aload_n 0, 1) := by decide +kernel
theorem dX0_init_28 : decode cX0_init 28 = .ok (.sipush 401, 3) := by decide +kernel
theorem dX0_init_31 : decode cX0_init 31 = .ok (.newarray .int, 2) := by decide +kernel
theorem dX0_init_33 : decode cX0_init 33 = .ok (.putfield 23, 3) := by decide +kernel
theorem dX0_init_36 : decode cX0_init 36 = .ok (.aload_n 0, 1) := by decide +kernel
theorem dX0_init_37 : decode cX0_init 37 = .ok (.iconst 0, 1) := by decide +kernel
theorem dX0_init_38 : decode cX0_init 38 = .ok (.putfield 26, 3) := by decide +kernel
theorem dX0_init_41 : decode cX0_init 41 = .ok (.aload_n 0, 1) := by decide +kernel
theorem dX0_init_42 : decode cX0_init 42 = .ok (.iconst 0, 1) := by decide +kernel
theorem dX0_init_43 : decode cX0_init 43 = .ok (.putfield 29, 3) := by decide +kernel
theorem dX0_init_46 : decode cX0_init 46 = .ok (.return_, 1) := by decide +kernel
theorem dX0_add_0 : decode cX0_add 0 = .ok (.iload_n 3, 1) := by decide +kernel
theorem dX0_add_1 : decode cX0_add 1 = .ok (.iconst 1, 1) := by decide +kernel
theorem dX0_add_2 : decode cX0_add 2 = .ok (.isub, 1) := by decide +kernel
theorem dX0_add_3 : decode cX0_add 3 = .ok (.istore 4, 2) := by decide +kernel
theorem dX0_add_5 : decode cX0_add 5 = .ok (.iload 4, 2) := by decide +kernel
theorem dX0_add_7 : decode cX0_add 7 = .ok (.ifCond .lt 51, 3) := by decide +kernel
theorem dX0_add_10 : decode cX0_add 10 = .ok (.aload_n 0, 1) := by decide +kernel
theorem dX0_add_11 : decode cX0_add 11 = .ok (.getfield 9, 3) := by decide +kernel
theorem dX0_add_14 : decode cX0_add 14 = .ok (.sipush 400, 3) := by decide +kernel
theorem dX0_add_17 : decode cX0_add 17 = .ok (.if_icmp .ge 41, 3) := by decide +kernel
theorem dX0_add_20 : decode cX0_add 20 = .ok (.aload_n 0, 1) := by decide +kernel
theorem dX0_add_21 : decode cX0_add 21 = .ok (.getfield 15, 3) := by decide +kernel
theorem dX0_add_24 : decode cX0_add 24 = .ok (.aload_n 0, 1) := by decide +kernel
theorem dX0_add_25 : decode cX0_add 25 = .ok (.getfield 9, 3) := by decide +kernel
theorem dX0_add_28 : decode cX0_add 28 = .ok (.lload_n 1, 1) := by decide +kernel
theorem dX0_add_29 : decode cX0_add 29 = .ok (.bipush 8, 2) := by decide +kernel
theorem dX0_add_31 : decode cX0_add 31 = .ok (.iload 4, 2) := by decide +kernel
theorem dX0_add_33 : decode cX0_add 33 = .ok (.imul, 1) := by decide +kernel
theorem dX0_add_34 : decode cX0_add 34 = .ok (.lushr, 1) := by decide +kernel
theorem dX0_add_35 : decode cX0_add 35 = .ok (.ldc2_w 32, 3) := by decide +kernel
theorem dX0_add_38 : decode cX0_add 38 = .ok (.land, 1) := by decide +kernel
theorem dX0_add_39 : decode cX0_add 39 = .ok (.l2i, 1) := by decide +kernel
theorem dX0_add_40 : decode cX0_add 40 = .ok (.i2c, 1) := by decide +kernel
theorem dX0_add_41 : decode cX0_add 41 = .ok (.castore, 1) := by decide +kernel
theorem dX0_add_42 : decode cX0_add 42 = .ok (.aload_n 0, 1) := by decide +kernel
theorem dX0_add_43 : decode cX0_add 43 = .ok (.dup, 1) := by decide +kernel
theorem dX0_add_44 : decode cX0_add 44 = .ok (.getfield 9, 3) := by decide +kernel
theorem dX0_add_47 : decode cX0_add 47 = .ok (.iconst 1, 1) := by decide +kernel
theorem dX0_add_48 : decode cX0_add 48 = .ok (.iadd, 1) := by decide +kernel
theorem dX0_add_49 : decode cX0_add 49 = .ok (.putfield 9, 3) := by decide +kernel
theorem dX0_add_52 : decode cX0_add 52 = .ok (.iinc 4 (-1), 3) := by decide +kernel
theorem dX0_add_55 : decode cX0_add 55 = .ok (.goto (-50), 3) := by decide +kernel
theorem dX0_add_58 : decode cX0_add 58 = .ok (.return_, 1) := by decide +kernel
set_option maxRecDepth 20000 in
theorem ggX0_cut_X0_endOfToken : GoodIn wsX0_cut wsX0_endOfToken := goodIn_r _ [9, 3, 10, 11, 12, 8, 13, 4, 14, 15, 16, 17, 89, 90, 91, 92, 93, 94] (by decide +kernel) (by decide +kernel)
set_option maxRecDepth 20000 in
theorem gX0_cut_X0_endOfToken : GoodIn wsX0_cut (wsV RX0 34 RX0 yX0_endOfToken wsX0_endOfToken) := goodIn_app (goodIn_of _ (by decide +kernel)) ggX0_cut_X0_endOfToken
set_option maxRecDepth 20000 in
theorem ggX0_cut_X0_tokenOf : GoodIn wsX0_cut wsX0_tokenOf := goodIn_r _ [21, 4, 10, 11, 12, 8, 13, 22, 23, 24, 25, 26, 27, 28, 29, 30, 31, 32, 33, 34, 35, 36, 37, 38, 39, 40, 41, 42, 43, 44, 45, 46, 47, 48, 49, 50, 51, 52, 53, 54, 55, 56, 57, 58, 59, 60, 61, 62, 63, 64, 65, 66, 67, 68, 69, 70, 71, 72, 73, 74, 75, 76, 77, 78, 14, 15, 16, 17, 79, 80, 81, 82, 89, 90, 91, 92, 93, 94] (by decide +kernel) (by decide +kernel)
set_option maxRecDepth 20000 in
theorem gX0_cut_X0_tokenOf : GoodIn wsX0_cut (wsV RX0 38 RX0 yX0_tokenOf wsX0_tokenOf) := goodIn_app (goodIn_of _ (by decide +kernel)) ggX0_cut_X0_tokenOf
set_option maxRecDepth 20000 in
theorem ggX0_cut_X0_addToken : GoodIn wsX0_cut wsX0_addToken := goodIn_r _ [86, 1, 87, 88, 89, 90, 91, 92, 93, 94] (by decide +kernel) (by decide +kernel)
set_option maxRecDepth 20000 in
theorem gX0_cut_X0_addToken : GoodIn wsX0_cut (wsV RX0 42 RX0 yX0_addToken wsX0_addToken) := goodIn_app (goodIn_of _ (by decide +kernel)) ggX0_cut_X0_addToken
theorem dX0_cut_0 : decode cX0_cut 0 = .ok (.aload_n 0, 1) := by decide +kernel
theorem dX0_cut_1 : decode cX0_cut 1 = .ok (.iconst 0, 1) := by decide +kernel
theorem dX0_cut_2 : decode cX0_cut 2 = .ok (.putfield 26, 3) := by decide +kernel
theorem dX0_cut_5 : decode cX0_cut 5 = .ok (.aload_n 0, 1) := by decide +kernel
theorem dX0_cut_6 : decode cX0_cut 6 = .ok (.iconst 0, 1) := by decide +kernel
theorem dX0_cut_7 : decode cX0_cut 7 = .ok (.putfield 29, 3) := by decide +kernel
theorem dX0_cut_10 : decode cX0_cut 10 = .ok (.iconst 0, 1) := by decide +kernel
theorem dX0_cut_11 : decode cX0_cut 11 = .ok (.istore_n 1, 1) := by decide +kernel
theorem dX0_cut_12 : decode cX0_cut 12 = .ok (.iconst 0, 1) := by decide +kernel
theorem dX0_cut_13 : decode cX0_cut 13 = .ok (.istore_n 2, 1) := by decide +kernel
theorem dX0_cut_14 : decode cX0_cut 14 = .ok (.iload_n 2, 1) := by decide +kernel
theorem dX0_cut_15 : decode cX0_cut 15 = .ok (.aload_n 0, 1) := by decide +kernel
theorem dX0_cut_16 : decode cX0_cut 16 = .ok (.getfield 9, 3) := by decide +kernel
theorem dX0_cut_19 : decode cX0_cut 19 = .ok (.if_icmp .ge 45, 3) := by decide +kernel
theorem dX0_cut_22 : decode cX0_cut 22 = .ok (.iload_n 2, 1) := by decide +kernel
theorem dX0_cut_23 : decode cX0_cut 23 = .ok (.iload_n 1, 1) := by decide +kernel
theorem dX0_cut_24 : decode cX0_cut 24 = .ok (.if_icmp .lt 34, 3) := by decide +kernel
theorem dX0_cut_27 : decode cX0_cut 27 = .ok (.aload_n 0, 1) := by decide +kernel
theorem dX0_cut_28 : decode cX0_cut 28 = .ok (.getfield 15, 3) := by decide +kernel
theorem dX0_cut_31 : decode cX0_cut 31 = .ok (.iload_n 2, 1) := by decide +kernel
theorem dX0_cut_32 : decode cX0_cut 32 = .ok (.caload, 1) := by decide +kernel
theorem dX0_cut_33 : decode cX0_cut 33 = .ok (.bipush 32, 2) := by decide +kernel
theorem dX0_cut_35 : decode cX0_cut 35 = .ok (.if_icmp .ne 6, 3) := by decide +kernel
theorem dX0_cut_38 : decode cX0_cut 38 = .ok (.goto 20, 3) := by decide +kernel
theorem dX0_cut_41 : decode cX0_cut 41 = .ok (.aload_n 0, 1) := by decide +kernel
theorem dX0_cut_42 : decode cX0_cut 42 = .ok (.iload_n 2, 1) := by decide +kernel
theorem dX0_cut_43 : decode cX0_cut 43 = .ok (.invokevirtual 34, 3) := by decide +kernel
theorem dX0_cut_46 : decode cX0_cut 46 = .ok (.istore_n 1, 1) := by decide +kernel
theorem dX0_cut_47 : decode cX0_cut 47 = .ok (.aload_n 0, 1) := by decide +kernel
theorem dX0_cut_48 : decode cX0_cut 48 = .ok (.aload_n 0, 1) := by decide +kernel
theorem dX0_cut_49 : decode cX0_cut 49 = .ok (.iload_n 2, 1) := by decide +kernel
theorem dX0_cut_50 : decode cX0_cut 50 = .ok (.iload_n 1, 1) := by decide +kernel
theorem dX0_cut_51 : decode cX0_cut 51 = .ok (.invokevirtual 38, 3) := by decide +kernel
theorem dX0_cut_54 : decode cX0_cut 54 = .ok (.iload_n 2, 1) := by decide +kernel
theorem dX0_cut_55 : decode cX0_cut 55 = .ok (.invokevirtual 42, 3) := by decide +kernel
theorem dX0_cut_58 : decode cX0_cut 58 = .ok (.iinc 2 1, 3) := by decide +kernel
theorem dX0_cut_61 : decode cX0_cut 61 = .ok (.goto (-47), 3) := by decide +kernel
theorem dX0_cut_64 : decode cX0_cut 64 = .ok (.aload_n 0, 1) := by decide +kernel
theorem dX0_cut_65 : decode cX0_cut 65 = .ok (.iconst (-1), 1) := by decide +kernel
theorem dX0_cut_66 : decode cX0_cut 66 = .ok (.aload_n 0, 1) := by decide +kernel
theorem dX0_cut_67 : decode cX0_cut 67 = .ok (.getfield 9, 3) := by decide +kernel
theorem dX0_cut_70 : decode cX0_cut 70 = .ok (.invokevirtual 42, 3) := by decide +kernel
theorem dX0_cut_73 : decode cX0_cut 73 = .ok (.return_, 1) := by decide +kernel
theorem dX0_token_0 : decode cX0_token 0 = .ok (.aload_n 0, 1) := by decide +kernel
theorem dX0_token_1 : decode cX0_token 1 = .ok (.getfield 19, 3) := by decide +kernel
theorem dX0_token_4 : decode cX0_token 4 = .ok (.aload_n 0, 1) := by decide +kernel
theorem dX0_token_5 : decode cX0_token 5 = .ok (.getfield 29, 3) := by decide +kernel
theorem dX0_token_8 : decode cX0_token 8 = .ok (.iaload, 1) := by decide +kernel
theorem dX0_token_9 : decode cX0_token 9 = .ok (.ireturn, 1) := by decide +kernel
theorem dX0_start_0 : decode cX0_start 0 = .ok (.aload_n 0, 1) := by decide +kernel
theorem dX0_start_1 : decode cX0_start 1 = .ok (.getfield 23, 3) := by decide +kernel
theorem dX0_start_4 : decode cX0_start 4 = .ok (.aload_n 0, 1) := by decide +kernel
theorem dX0_start_5 : decode cX0_start 5 = .ok (.getfield 29, 3) := by decide +kernel
theorem dX0_start_8 : decode cX0_start 8 = .ok (.iaload, 1) := by decide +kernel
theorem dX0_start_9 : decode cX0_start 9 = .ok (.ireturn, 1) := by decide +kernel
theorem dX0_pass_0 : decode cX0_pass 0 = .ok (.aload_n 0, 1) := by decide +kernel
theorem dX0_pass_1 : decode cX0_pass 1 = .ok (.getfield 29, 3) := by decide +kernel
theorem dX0_pass_4 : decode cX0_pass 4 = .ok (.aload_n 0, 1) := by decide +kernel
theorem dX0_pass_5 : decode cX0_pass 5 = .ok (.getfield 26, 3) := by decide +kernel
theorem dX0_pass_8 : decode cX0_pass 8 = .ok (.iconst 1, 1) := by decide +kernel
theorem dX0_pass_9 : decode cX0_pass 9 = .ok (.isub, 1) := by decide +kernel
theorem dX0_pass_10 : decode cX0_pass 10 = .ok (.if_icmp .ge 13, 3) := by decide +kernel
theorem dX0_pass_13 : decode cX0_pass 13 = .ok (.aload_n 0, 1) := by decide +kernel
theorem dX0_pass_14 : decode cX0_pass 14 = .ok (.dup, 1) := by decide +kernel
theorem dX0_pass_15 : decode cX0_pass 15 = .ok (.getfield 29, 3) := by decide +kernel
theorem dX0_pass_18 : decode cX0_pass 18 = .ok (.iconst 1, 1) := by decide +kernel
theorem dX0_pass_19 : decode cX0_pass 19 = .ok (.iadd, 1) := by decide +kernel
theorem dX0_pass_20 : decode cX0_pass 20 = .ok (.putfield 29, 3) := by decide +kernel
theorem dX0_pass_23 : decode cX0_pass 23 = .ok (.return_, 1) := by decide +kernel
set_option maxRecDepth 20000 in
theorem ggX0_number_X0_token : GoodIn wsX0_number wsX0_token := goodIn_r _ [5, 6, 7, 16, 17, 18, 19, 20, 21] (by decide +kernel) (by decide +kernel)
set_option maxRecDepth 20000 in
theorem gX0_number_X0_token : GoodIn wsX0_number (wsV RX0 46 RX0 yX0_token wsX0_token) := goodIn_app (goodIn_of _ (by decide +kernel)) ggX0_number_X0_token
set_option maxRecDepth 20000 in
theorem ggX0_number_X4_within : GoodIn wsX0_number wsX4_within := goodIn_r _ [10] (by decide +kernel) (by decide +kernel)
set_option maxRecDepth 20000 in
theorem gX0_number_X4_within_n50 : GoodIn wsX0_number (wsX4_within) := ggX0_number_X4_within
set_option maxRecDepth 20000 in
theorem ggX0_number_X0_pass : GoodIn wsX0_number wsX0_pass := goodIn_r _ [14, 7, 15, 16, 17, 18, 19, 20, 21] (by decide +kernel) (by decide +kernel)
set_option maxRecDepth 20000 in
theorem gX0_number_X0_pass : GoodIn wsX0_number (wsV RX0 54 RX0 yX0_pass wsX0_pass) := goodIn_app (goodIn_of _ (by decide +kernel)) ggX0_number_X0_pass
theorem dX0_number_0 : decode cX0_number 0 = .ok (.aload_n 0, 1) := by decide +kernel
theorem dX0_number_1 : decode cX0_number 1 = .ok (.invokevirtual 46, 3) := by decide +kernel
theorem dX0_number_4 : decode cX0_number 4 = .ok (.istore_n 3, 1) := by decide +kernel
theorem dX0_number_5 : decode cX0_number 5 = .ok (.iload_n 3, 1) := by decide +kernel
theorem dX0_number_6 : decode cX0_number 6 = .ok (.iload_n 1, 1) := by decide +kernel
theorem dX0_number_7 : decode cX0_number 7 = .ok (.iload_n 2, 1) := by decide +kernel
theorem dX0_number_8 : decode cX0_number 8 = .ok (.invokestatic 50, 3) := by decide +kernel
theorem dX0_number_11 : decode cX0_number 11 = .ok (.ifCond .ne 6, 3) := by decide +kernel
theorem dX0_number_14 : decode cX0_number 14 = .ok (.bipush (-9), 2) := by decide +kernel
theorem dX0_number_16 : decode cX0_number 16 = .ok (.ireturn, 1) := by decide +kernel
theorem dX0_number_17 : decode cX0_number 17 = .ok (.aload_n 0, 1) := by decide +kernel
theorem dX0_number_18 : decode cX0_number 18 = .ok (.invokevirtual 54, 3) := by decide +kernel
theorem dX0_number_21 : decode cX0_number 21 = .ok (.iload_n 3, 1) := by decide +kernel
theorem dX0_number_22 : decode cX0_number 22 = .ok (.ireturn, 1) := by decide +kernel
theorem dX0_addToken_0 : decode cX0_addToken 0 = .ok (.aload_n 0, 1) := by decide +kernel
theorem dX0_addToken_1 : decode cX0_addToken 1 = .ok (.getfield 26, 3) := by decide +kernel
theorem dX0_addToken_4 : decode cX0_addToken 4 = .ok (.sipush 400, 3) := by decide +kernel
theorem dX0_addToken_7 : decode cX0_addToken 7 = .ok (.if_icmp .le 4, 3) := by decide +kernel
theorem dX0_addToken_10 : decode cX0_addToken 10 = .ok (.return_, 1) := by decide +kernel
theorem dX0_addToken_11 : decode cX0_addToken 11 = .ok (.aload_n 0, 1) := by decide +kernel
theorem dX0_addToken_12 : decode cX0_addToken 12 = .ok (.getfield 19, 3) := by decide +kernel
theorem dX0_addToken_15 : decode cX0_addToken 15 = .ok (.aload_n 0, 1) := by decide +kernel
theorem dX0_addToken_16 : decode cX0_addToken 16 = .ok (.getfield 26, 3) := by decide +kernel
theorem dX0_addToken_19 : decode cX0_addToken 19 = .ok (.iload_n 1, 1) := by decide +kernel
theorem dX0_addToken_20 : decode cX0_addToken 20 = .ok (.iastore, 1) := by decide +kernel
theorem dX0_addToken_21 : decode cX0_addToken 21 = .ok (.aload_n 0, 1) := by decide +kernel
theorem dX0_addToken_22 : decode cX0_addToken 22 = .ok (.getfield 23, 3) := by decide +kernel
theorem dX0_addToken_25 : decode cX0_addToken 25 = .ok (.aload_n 0, 1) := by decide +kernel
theorem dX0_addToken_26 : decode cX0_addToken 26 = .ok (.getfield 26, 3) := by decide +kernel
theorem dX0_addToken_29 : decode cX0_addToken 29 = .ok (.iload_n 2, 1) := by decide +kernel
theorem dX0_addToken_30 : decode cX0_addToken 30 = .ok (.iastore, 1) := by decide +kernel
theorem dX0_addToken_31 : decode cX0_addToken 31 = .ok (.aload_n 0, 1) := by decide +kernel
theorem dX0_addToken_32 : decode cX0_addToken 32 = .ok (.dup, 1) := by decide +kernel
theorem dX0_addToken_33 : decode cX0_addToken 33 = .ok (.getfield 26, 3) := by decide +kernel
theorem dX0_addToken_36 : decode cX0_addToken 36 = .ok (.iconst 1, 1) := by decide +kernel
theorem dX0_addToken_37 : decode cX0_addToken 37 = .ok (.iadd, 1) := by decide +kernel
theorem dX0_addToken_38 : decode cX0_addToken 38 = .ok (.putfield 26, 3) := by decide +kernel
theorem dX0_addToken_41 : decode cX0_addToken 41 = .ok (.return_, 1) := by decide +kernel
set_option maxRecDepth 20000 in
theorem ggX0_endOfToken_X0_isLetter : GoodIn wsX0_endOfToken wsX0_isLetter := goodIn_r _ [6, 7, 12, 13, 14, 15, 16, 17] (by decide +kernel) (by decide +kernel)
set_option maxRecDepth 20000 in
theorem gX0_endOfToken_X0_isLetter : GoodIn wsX0_endOfToken (wsV RX0 57 RX0 yX0_isLetter wsX0_isLetter) := goodIn_app (goodIn_of _ (by decide +kernel)) ggX0_endOfToken_X0_isLetter
set_option maxRecDepth 20000 in
theorem ggX0_endOfToken_X0_isFigure : GoodIn wsX0_endOfToken wsX0_isFigure := goodIn_r _ [11, 7, 12, 13, 14, 15, 16, 17] (by decide +kernel) (by decide +kernel)
set_option maxRecDepth 20000 in
theorem gX0_endOfToken_X0_isFigure : GoodIn wsX0_endOfToken (wsV RX0 61 RX0 yX0_isFigure wsX0_isFigure) := goodIn_app (goodIn_of _ (by decide +kernel)) ggX0_endOfToken_X0_isFigure
theorem dX0_endOfToken_0 : decode cX0_endOfToken 0 = .ok (.iload_n 1, 1) := by decide +kernel
theorem dX0_endOfToken_1 : decode cX0_endOfToken 1 = .ok (.iconst 1, 1) := by decide +kernel
theorem dX0_endOfToken_2 : decode cX0_endOfToken 2 = .ok (.iadd, 1) := by decide +kernel
theorem dX0_endOfToken_3 : decode cX0_endOfToken 3 = .ok (.istore_n 2, 1) := by decide +kernel
theorem dX0_endOfToken_4 : decode cX0_endOfToken 4 = .ok (.aload_n 0, 1) := by decide +kernel
theorem dX0_endOfToken_5 : decode cX0_endOfToken 5 = .ok (.iload_n 1, 1) := by decide +kernel
theorem dX0_endOfToken_6 : decode cX0_endOfToken 6 = .ok (.invokevirtual 57, 3) := by decide +kernel
theorem dX0_endOfToken_9 : decode cX0_endOfToken 9 = .ok (.ifCond .eq 25, 3) := by decide +kernel
theorem dX0_endOfToken_12 : decode cX0_endOfToken 12 = .ok (.iload_n 2, 1) := by decide +kernel
theorem dX0_endOfToken_13 : decode cX0_endOfToken 13 = .ok (.aload_n 0, 1) := by decide +kernel
theorem dX0_endOfToken_14 : decode cX0_endOfToken 14 = .ok (.getfield 9, 3) := by decide +kernel
theorem dX0_endOfToken_17 : decode cX0_endOfToken 17 = .ok (.if_icmp .ge 47, 3) := by decide +kernel
theorem dX0_endOfToken_20 : decode cX0_endOfToken 20 = .ok (.aload_n 0, 1) := by decide +kernel
theorem dX0_endOfToken_21 : decode cX0_endOfToken 21 = .ok (.iload_n 2, 1) := by decide +kernel
theorem dX0_endOfToken_22 : decode cX0_endOfToken 22 = .ok (.invokevirtual 57, 3) := by decide +kernel
theorem dX0_endOfToken_25 : decode cX0_endOfToken 25 = .ok (.ifCond .eq 39, 3) := by decide +kernel
theorem dX0_endOfToken_28 : decode cX0_endOfToken 28 = .ok (.iinc 2 1, 3) := by decide +kernel
theorem dX0_endOfToken_31 : decode cX0_endOfToken 31 = .ok (.goto (-19), 3) := by decide +kernel
theorem dX0_endOfToken_34 : decode cX0_endOfToken 34 = .ok (.aload_n 0, 1) := by decide +kernel
theorem dX0_endOfToken_35 : decode cX0_endOfToken 35 = .ok (.iload_n 1, 1) := by decide +kernel
theorem dX0_endOfToken_36 : decode cX0_endOfToken 36 = .ok (.invokevirtual 61, 3) := by decide +kernel
theorem dX0_endOfToken_39 : decode cX0_endOfToken 39 = .ok (.ifCond .eq 25, 3) := by decide +kernel
theorem dX0_endOfToken_42 : decode cX0_endOfToken 42 = .ok (.iload_n 2, 1) := by decide +kernel
theorem dX0_endOfToken_43 : decode cX0_endOfToken 43 = .ok (.aload_n 0, 1) := by decide +kernel
theorem dX0_endOfToken_44 : decode cX0_endOfToken 44 = .ok (.getfield 9, 3) := by decide +kernel
theorem dX0_endOfToken_47 : decode cX0_endOfToken 47 = .ok (.if_icmp .ge 17, 3) := by decide +kernel
theorem dX0_endOfToken_50 : decode cX0_endOfToken 50 = .ok (.aload_n 0, 1) := by decide +kernel
theorem dX0_endOfToken_51 : decode cX0_endOfToken 51 = .ok (.iload_n 2, 1) := by decide +kernel
theorem dX0_endOfToken_52 : decode cX0_endOfToken 52 = .ok (.invokevirtual 61, 3) := by decide +kernel
theorem dX0_endOfToken_55 : decode cX0_endOfToken 55 = .ok (.ifCond .eq 9, 3) := by decide +kernel
theorem dX0_endOfToken_58 : decode cX0_endOfToken 58 = .ok (.iinc 2 1, 3) := by decide +kernel
theorem dX0_endOfToken_61 : decode cX0_endOfToken 61 = .ok (.goto (-19), 3) := by decide +kernel
theorem dX0_endOfToken_64 : decode cX0_endOfToken 64 = .ok (.iload_n 2, 1) := by decide +kernel
theorem dX0_endOfToken_65 : decode cX0_endOfToken 65 = .ok (.ireturn, 1) := by decide +kernel
set_option maxRecDepth 20000 in
theorem ggX0_tokenOf_X0_isLetter : GoodIn wsX0_tokenOf wsX0_isLetter := goodIn_r _ [6, 1, 72, 73, 74, 75, 76, 77] (by decide +kernel) (by decide +kernel)
set_option maxRecDepth 20000 in
theorem gX0_tokenOf_X0_isLetter : GoodIn wsX0_tokenOf (wsV RX0 57 RX0 yX0_isLetter wsX0_isLetter) := goodIn_app (goodIn_of _ (by decide +kernel)) ggX0_tokenOf_X0_isLetter
set_option maxRecDepth 20000 in
theorem ggX0_tokenOf_X0_wordOf : GoodIn wsX0_tokenOf wsX0_wordOf := goodIn_r _ [10, 11, 12, 13, 5, 14, 1, 15, 16, 17, 18, 19, 20, 21, 22, 23, 24, 25, 26, 27, 28, 29, 30, 31, 32, 33, 34, 35, 36, 37, 38, 39, 40, 41, 42, 43, 44, 45, 46, 47, 48, 49, 50, 51, 52, 53, 54, 55, 56, 57, 58, 59, 60, 61, 62, 63, 72, 73, 74, 75, 76, 77] (by decide +kernel) (by decide +kernel)
set_option maxRecDepth 20000 in
theorem gX0_tokenOf_X0_wordOf : GoodIn wsX0_tokenOf (wsV RX0 64 RX0 yX0_wordOf wsX0_wordOf) := goodIn_app (goodIn_of _ (by decide +kernel)) ggX0_tokenOf_X0_wordOf
set_option maxRecDepth 20000 in
theorem ggX0_tokenOf_X0_isFigure : GoodIn wsX0_tokenOf wsX0_isFigure := goodIn_r _ [67, 1, 72, 73, 74, 75, 76, 77] (by decide +kernel) (by decide +kernel)
set_option maxRecDepth 20000 in
theorem gX0_tokenOf_X0_isFigure : GoodIn wsX0_tokenOf (wsV RX0 61 RX0 yX0_isFigure wsX0_isFigure) := goodIn_app (goodIn_of _ (by decide +kernel)) ggX0_tokenOf_X0_isFigure
set_option maxRecDepth 20000 in
theorem ggX0_tokenOf_X0_numberOf : GoodIn wsX0_tokenOf wsX0_numberOf := goodIn_r _ [71, 1, 72, 73, 74, 75, 76, 77] (by decide +kernel) (by decide +kernel)
set_option maxRecDepth 20000 in
theorem gX0_tokenOf_X0_numberOf : GoodIn wsX0_tokenOf (wsV RX0 67 RX0 yX0_numberOf wsX0_numberOf) := goodIn_app (goodIn_of _ (by decide +kernel)) ggX0_tokenOf_X0_numberOf
theorem dX0_tokenOf_0 : decode cX0_tokenOf 0 = .ok (.aload_n 0, 1) := by decide +kernel
theorem dX0_tokenOf_1 : decode cX0_tokenOf 1 = .ok (.iload_n 1, 1) := by decide +kernel
theorem dX0_tokenOf_2 : decode cX0_tokenOf 2 = .ok (.invokevirtual 57, 3) := by decide +kernel
theorem dX0_tokenOf_5 : decode cX0_tokenOf 5 = .ok (.ifCond .eq 10, 3) := by decide +kernel
theorem dX0_tokenOf_8 : decode cX0_tokenOf 8 = .ok (.aload_n 0, 1) := by decide +kernel
theorem dX0_tokenOf_9 : decode cX0_tokenOf 9 = .ok (.iload_n 1, 1) := by decide +kernel
theorem dX0_tokenOf_10 : decode cX0_tokenOf 10 = .ok (.iload_n 2, 1) := by decide +kernel
theorem dX0_tokenOf_11 : decode cX0_tokenOf 11 = .ok (.invokevirtual 64, 3) := by decide +kernel
theorem dX0_tokenOf_14 : decode cX0_tokenOf 14 = .ok (.ireturn, 1) := by decide +kernel
theorem dX0_tokenOf_15 : decode cX0_tokenOf 15 = .ok (.aload_n 0, 1) := by decide +kernel
theorem dX0_tokenOf_16 : decode cX0_tokenOf 16 = .ok (.iload_n 1, 1) := by decide +kernel
theorem dX0_tokenOf_17 : decode cX0_tokenOf 17 = .ok (.invokevirtual 61, 3) := by decide +kernel
theorem dX0_tokenOf_20 : decode cX0_tokenOf 20 = .ok (.ifCond .eq 10, 3) := by decide +kernel
theorem dX0_tokenOf_23 : decode cX0_tokenOf 23 = .ok (.aload_n 0, 1) := by decide +kernel
theorem dX0_tokenOf_24 : decode cX0_tokenOf 24 = .ok (.iload_n 1, 1) := by decide +kernel
theorem dX0_tokenOf_25 : decode cX0_tokenOf 25 = .ok (.iload_n 2, 1) := by decide +kernel
theorem dX0_tokenOf_26 : decode cX0_tokenOf 26 = .ok (.invokevirtual 67, 3) := by decide +kernel
theorem dX0_tokenOf_29 : decode cX0_tokenOf 29 = .ok (.ireturn, 1) := by decide +kernel
theorem dX0_tokenOf_30 : decode cX0_tokenOf 30 = .ok (.aload_n 0, 1) := by decide +kernel
theorem dX0_tokenOf_31 : decode cX0_tokenOf 31 = .ok (.getfield 15, 3) := by decide +kernel
theorem dX0_tokenOf_34 : decode cX0_tokenOf 34 = .ok (.iload_n 1, 1) := by decide +kernel
theorem dX0_tokenOf_35 : decode cX0_tokenOf 35 = .ok (.caload, 1) := by decide +kernel
theorem dX0_tokenOf_36 : decode cX0_tokenOf 36 = .ok (.bipush 59, 2) := by decide +kernel
theorem dX0_tokenOf_38 : decode cX0_tokenOf 38 = .ok (.if_icmp .ne 8, 3) := by decide +kernel
theorem dX0_tokenOf_41 : decode cX0_tokenOf 41 = .ok (.bipush (-2), 2) := by decide +kernel
theorem dX0_tokenOf_43 : decode cX0_tokenOf 43 = .ok (.goto 5, 3) := by decide +kernel
theorem dX0_tokenOf_46 : decode cX0_tokenOf 46 = .ok (.bipush (-3), 2) := by decide +kernel
theorem dX0_tokenOf_48 : decode cX0_tokenOf 48 = .ok (.ireturn, 1) := by decide +kernel
set_option maxRecDepth 20000 in
theorem ggX0_wordOf_X0_says : GoodIn wsX0_wordOf wsX0_says := goodIn_r _ [5, 6, 7, 8, 9, 10, 11, 12, 13, 14, 15, 16, 17, 18, 19, 20, 21, 22, 23, 24, 25, 26, 27, 28, 29, 30, 31, 32, 33, 34, 35, 36, 37, 38, 39, 40, 41, 42, 43, 44, 45, 46, 47, 48, 49, 50, 51, 52, 53, 54, 55, 56, 57, 58, 59, 60, 61] (by decide +kernel) (by decide +kernel)
set_option maxRecDepth 20000 in
theorem gX0_wordOf_X0_says : GoodIn wsX0_wordOf (wsV RX0 72 RX0 yX0_says wsX0_says) := goodIn_app (goodIn_of _ (by decide +kernel)) ggX0_wordOf_X0_says
theorem dX0_wordOf_0 : decode cX0_wordOf 0 = .ok (.aload_n 0, 1) := by decide +kernel
theorem dX0_wordOf_1 : decode cX0_wordOf 1 = .ok (.ldc 70, 2) := by decide +kernel
theorem dX0_wordOf_3 : decode cX0_wordOf 3 = .ok (.iload_n 1, 1) := by decide +kernel
theorem dX0_wordOf_4 : decode cX0_wordOf 4 = .ok (.iload_n 2, 1) := by decide +kernel
theorem dX0_wordOf_5 : decode cX0_wordOf 5 = .ok (.invokevirtual 72, 3) := by decide +kernel
theorem dX0_wordOf_8 : decode cX0_wordOf 8 = .ok (.ifCond .eq 6, 3) := by decide +kernel
theorem dX0_wordOf_11 : decode cX0_wordOf 11 = .ok (.bipush (-4), 2) := by decide +kernel
theorem dX0_wordOf_13 : decode cX0_wordOf 13 = .ok (.ireturn, 1) := by decide +kernel
theorem dX0_wordOf_14 : decode cX0_wordOf 14 = .ok (.aload_n 0, 1) := by decide +kernel
theorem dX0_wordOf_15 : decode cX0_wordOf 15 = .ok (.ldc 76, 2) := by decide +kernel
theorem dX0_wordOf_17 : decode cX0_wordOf 17 = .ok (.iload_n 1, 1) := by decide +kernel
theorem dX0_wordOf_18 : decode cX0_wordOf 18 = .ok (.iload_n 2, 1) := by decide +kernel
theorem dX0_wordOf_19 : decode cX0_wordOf 19 = .ok (.invokevirtual 72, 3) := by decide +kernel
theorem dX0_wordOf_22 : decode cX0_wordOf 22 = .ok (.ifCond .eq 6, 3) := by decide +kernel
theorem dX0_wordOf_25 : decode cX0_wordOf 25 = .ok (.bipush (-5), 2) := by decide +kernel
theorem dX0_wordOf_27 : decode cX0_wordOf 27 = .ok (.ireturn, 1) := by decide +kernel
theorem dX0_wordOf_28 : decode cX0_wordOf 28 = .ok (.aload_n 0, 1) := by decide +kernel
theorem dX0_wordOf_29 : decode cX0_wordOf 29 = .ok (.ldc 78, 2) := by decide +kernel
theorem dX0_wordOf_31 : decode cX0_wordOf 31 = .ok (.iload_n 1, 1) := by decide +kernel
theorem dX0_wordOf_32 : decode cX0_wordOf 32 = .ok (.iload_n 2, 1) := by decide +kernel
theorem dX0_wordOf_33 : decode cX0_wordOf 33 = .ok (.invokevirtual 72, 3) := by decide +kernel
theorem dX0_wordOf_36 : decode cX0_wordOf 36 = .ok (.ifCond .eq 6, 3) := by decide +kernel
theorem dX0_wordOf_39 : decode cX0_wordOf 39 = .ok (.bipush (-6), 2) := by decide +kernel
theorem dX0_wordOf_41 : decode cX0_wordOf 41 = .ok (.ireturn, 1) := by decide +kernel
theorem dX0_wordOf_42 : decode cX0_wordOf 42 = .ok (.aload_n 0, 1) := by decide +kernel
theorem dX0_wordOf_43 : decode cX0_wordOf 43 = .ok (.ldc 80, 2) := by decide +kernel
theorem dX0_wordOf_45 : decode cX0_wordOf 45 = .ok (.iload_n 1, 1) := by decide +kernel
theorem dX0_wordOf_46 : decode cX0_wordOf 46 = .ok (.iload_n 2, 1) := by decide +kernel
theorem dX0_wordOf_47 : decode cX0_wordOf 47 = .ok (.invokevirtual 72, 3) := by decide +kernel
theorem dX0_wordOf_50 : decode cX0_wordOf 50 = .ok (.ifCond .eq 6, 3) := by decide +kernel
theorem dX0_wordOf_53 : decode cX0_wordOf 53 = .ok (.bipush (-7), 2) := by decide +kernel
theorem dX0_wordOf_55 : decode cX0_wordOf 55 = .ok (.ireturn, 1) := by decide +kernel
theorem dX0_wordOf_56 : decode cX0_wordOf 56 = .ok (.aload_n 0, 1) := by decide +kernel
theorem dX0_wordOf_57 : decode cX0_wordOf 57 = .ok (.ldc 82, 2) := by decide +kernel
theorem dX0_wordOf_59 : decode cX0_wordOf 59 = .ok (.iload_n 1, 1) := by decide +kernel
theorem dX0_wordOf_60 : decode cX0_wordOf 60 = .ok (.iload_n 2, 1) := by decide +kernel
theorem dX0_wordOf_61 : decode cX0_wordOf 61 = .ok (.invokevirtual 72, 3) := by decide +kernel
theorem dX0_wordOf_64 : decode cX0_wordOf 64 = .ok (.ifCond .eq 6, 3) := by decide +kernel
theorem dX0_wordOf_67 : decode cX0_wordOf 67 = .ok (.bipush (-8), 2) := by decide +kernel
theorem dX0_wordOf_69 : decode cX0_wordOf 69 = .ok (.ireturn, 1) := by decide +kernel
theorem dX0_wordOf_70 : decode cX0_wordOf 70 = .ok (.aload_n 0, 1) := by decide +kernel
theorem dX0_wordOf_71 : decode cX0_wordOf 71 = .ok (.ldc 84, 2) := by decide +kernel
theorem dX0_wordOf_73 : decode cX0_wordOf 73 = .ok (.iload_n 1, 1) := by decide +kernel
theorem dX0_wordOf_74 : decode cX0_wordOf 74 = .ok (.iload_n 2, 1) := by decide +kernel
theorem dX0_wordOf_75 : decode cX0_wordOf 75 = .ok (.invokevirtual 72, 3) := by decide +kernel
theorem dX0_wordOf_78 : decode cX0_wordOf 78 = .ok (.ifCond .eq 6, 3) := by decide +kernel
theorem dX0_wordOf_81 : decode cX0_wordOf 81 = .ok (.bipush (-9), 2) := by decide +kernel
theorem dX0_wordOf_83 : decode cX0_wordOf 83 = .ok (.ireturn, 1) := by decide +kernel
theorem dX0_wordOf_84 : decode cX0_wordOf 84 = .ok (.bipush (-3), 2) := by decide +kernel
theorem dX0_wordOf_86 : decode cX0_wordOf 86 = .ok (.ireturn, 1) := by decide +kernel
theorem dX0_numberOf_0 : decode cX0_numberOf 0 = .ok (.iload_n 2, 1) := by decide +kernel
theorem dX0_numberOf_1 : decode cX0_numberOf 1 = .ok (.iload_n 1, 1) := by decide +kernel
theorem dX0_numberOf_2 : decode cX0_numberOf 2 = .ok (.isub, 1) := by decide +kernel
theorem dX0_numberOf_3 : decode cX0_numberOf 3 = .ok (.iconst 2, 1) := by decide +kernel
theorem dX0_numberOf_4 : decode cX0_numberOf 4 = .ok (.if_icmp .le 6, 3) := by decide +kernel
theorem dX0_numberOf_7 : decode cX0_numberOf 7 = .ok (.bipush (-3), 2) := by decide +kernel
theorem dX0_numberOf_9 : decode cX0_numberOf 9 = .ok (.ireturn, 1) := by decide +kernel
theorem dX0_numberOf_10 : decode cX0_numberOf 10 = .ok (.iload_n 2, 1) := by decide +kernel
theorem dX0_numberOf_11 : decode cX0_numberOf 11 = .ok (.iload_n 1, 1) := by decide +kernel
theorem dX0_numberOf_12 : decode cX0_numberOf 12 = .ok (.isub, 1) := by decide +kernel
theorem dX0_numberOf_13 : decode cX0_numberOf 13 = .ok (.iconst 1, 1) := by decide +kernel
theorem dX0_numberOf_14 : decode cX0_numberOf 14 = .ok (.if_icmp .ne 13, 3) := by decide +kernel
theorem dX0_numberOf_17 : decode cX0_numberOf 17 = .ok (.aload_n 0, 1) := by decide +kernel
theorem dX0_numberOf_18 : decode cX0_numberOf 18 = .ok (.getfield 15, 3) := by decide +kernel
theorem dX0_numberOf_21 : decode cX0_numberOf 21 = .ok (.iload_n 1, 1) := by decide +kernel
theorem dX0_numberOf_22 : decode cX0_numberOf 22 = .ok (.caload, 1) := by decide +kernel
theorem dX0_numberOf_23 : decode cX0_numberOf 23 = .ok (.bipush 48, 2) := by decide +kernel
theorem dX0_numberOf_25 : decode cX0_numberOf 25 = .ok (.isub, 1) := by decide +kernel
theorem dX0_numberOf_26 : decode cX0_numberOf 26 = .ok (.ireturn, 1) := by decide +kernel
theorem dX0_numberOf_27 : decode cX0_numberOf 27 = .ok (.aload_n 0, 1) := by decide +kernel
theorem dX0_numberOf_28 : decode cX0_numberOf 28 = .ok (.getfield 15, 3) := by decide +kernel
theorem dX0_numberOf_31 : decode cX0_numberOf 31 = .ok (.iload_n 1, 1) := by decide +kernel
theorem dX0_numberOf_32 : decode cX0_numberOf 32 = .ok (.caload, 1) := by decide +kernel
theorem dX0_numberOf_33 : decode cX0_numberOf 33 = .ok (.bipush 48, 2) := by decide +kernel
theorem dX0_numberOf_35 : decode cX0_numberOf 35 = .ok (.if_icmp .ne 6, 3) := by decide +kernel
theorem dX0_numberOf_38 : decode cX0_numberOf 38 = .ok (.bipush (-3), 2) := by decide +kernel
theorem dX0_numberOf_40 : decode cX0_numberOf 40 = .ok (.ireturn, 1) := by decide +kernel
theorem dX0_numberOf_41 : decode cX0_numberOf 41 = .ok (.bipush 10, 2) := by decide +kernel
theorem dX0_numberOf_43 : decode cX0_numberOf 43 = .ok (.aload_n 0, 1) := by decide +kernel
theorem dX0_numberOf_44 : decode cX0_numberOf 44 = .ok (.getfield 15, 3) := by decide +kernel
theorem dX0_numberOf_47 : decode cX0_numberOf 47 = .ok (.iload_n 1, 1) := by decide +kernel
theorem dX0_numberOf_48 : decode cX0_numberOf 48 = .ok (.caload, 1) := by decide +kernel
theorem dX0_numberOf_49 : decode cX0_numberOf 49 = .ok (.bipush 48, 2) := by decide +kernel
theorem dX0_numberOf_51 : decode cX0_numberOf 51 = .ok (.isub, 1) := by decide +kernel
theorem dX0_numberOf_52 : decode cX0_numberOf 52 = .ok (.imul, 1) := by decide +kernel
theorem dX0_numberOf_53 : decode cX0_numberOf 53 = .ok (.aload_n 0, 1) := by decide +kernel
theorem dX0_numberOf_54 : decode cX0_numberOf 54 = .ok (.getfield 15, 3) := by decide +kernel
theorem dX0_numberOf_57 : decode cX0_numberOf 57 = .ok (.iload_n 1, 1) := by decide +kernel
theorem dX0_numberOf_58 : decode cX0_numberOf 58 = .ok (.iconst 1, 1) := by decide +kernel
theorem dX0_numberOf_59 : decode cX0_numberOf 59 = .ok (.iadd, 1) := by decide +kernel
theorem dX0_numberOf_60 : decode cX0_numberOf 60 = .ok (.caload, 1) := by decide +kernel
theorem dX0_numberOf_61 : decode cX0_numberOf 61 = .ok (.iadd, 1) := by decide +kernel
theorem dX0_numberOf_62 : decode cX0_numberOf 62 = .ok (.bipush 48, 2) := by decide +kernel
theorem dX0_numberOf_64 : decode cX0_numberOf 64 = .ok (.isub, 1) := by decide +kernel
theorem dX0_numberOf_65 : decode cX0_numberOf 65 = .ok (.ireturn, 1) := by decide +kernel
set_option maxRecDepth 20000 in
theorem ggX0_says_J0_length_8abf5 : GoodIn wsX0_says wsJ0_length_8abf5 := goodIn_r _ [6, 7, 8, 9, 10, 5, 11, 12, 13] (by decide +kernel) (by decide +kernel)
set_option maxRecDepth 20000 in
theorem gX0_says_J0_length_8abf5 : GoodIn wsX0_says (wsV RX0 86 RJ0 yJ0_length_8abf5 wsJ0_length_8abf5) := goodIn_app (goodIn_of _ (by decide +kernel)) ggX0_says_J0_length_8abf5
set_option maxRecDepth 20000 in
theorem ggX0_says_J0_charAt_5068e : GoodIn wsX0_says wsJ0_charAt_5068e := goodIn_r _ [17, 7, 18, 19, 20, 5, 21, 12, 13, 22, 23, 24, 25, 26, 27, 28, 29, 30, 31, 32, 33, 34, 35, 36, 37, 38, 39, 40, 41, 42, 43, 44, 45, 46, 47, 48, 49, 50] (by decide +kernel) (by decide +kernel)
set_option maxRecDepth 20000 in
theorem gX0_says_J0_charAt_5068e : GoodIn wsX0_says (wsV RX0 90 RJ0 yJ0_charAt_5068e wsJ0_charAt_5068e) := goodIn_app (goodIn_of _ (by decide +kernel)) ggX0_says_J0_charAt_5068e
theorem dX0_says_0 : decode cX0_says 0 = .ok (.aload_n 1, 1) := by decide +kernel
theorem dX0_says_1 : decode cX0_says 1 = .ok (.invokevirtual 86, 3) := by decide +kernel
theorem dX0_says_4 : decode cX0_says 4 = .ok (.iload_n 3, 1) := by decide +kernel
theorem dX0_says_5 : decode cX0_says 5 = .ok (.iload_n 2, 1) := by decide +kernel
theorem dX0_says_6 : decode cX0_says 6 = .ok (.isub, 1) := by decide +kernel
theorem dX0_says_7 : decode cX0_says 7 = .ok (.if_icmp .eq 5, 3) := by decide +kernel
theorem dX0_says_10 : decode cX0_says 10 = .ok (.iconst 0, 1) := by decide +kernel
theorem dX0_says_11 : decode cX0_says 11 = .ok (.ireturn, 1) := by decide +kernel
theorem dX0_says_12 : decode cX0_says 12 = .ok (.iconst 0, 1) := by decide +kernel
theorem dX0_says_13 : decode cX0_says 13 = .ok (.istore 4, 2) := by decide +kernel
theorem dX0_says_15 : decode cX0_says 15 = .ok (.iload 4, 2) := by decide +kernel
theorem dX0_says_17 : decode cX0_says 17 = .ok (.aload_n 1, 1) := by decide +kernel
theorem dX0_says_18 : decode cX0_says 18 = .ok (.invokevirtual 86, 3) := by decide +kernel
theorem dX0_says_21 : decode cX0_says 21 = .ok (.if_icmp .ge 29, 3) := by decide +kernel
theorem dX0_says_24 : decode cX0_says 24 = .ok (.aload_n 1, 1) := by decide +kernel
theorem dX0_says_25 : decode cX0_says 25 = .ok (.iload 4, 2) := by decide +kernel
theorem dX0_says_27 : decode cX0_says 27 = .ok (.invokevirtual 90, 3) := by decide +kernel
theorem dX0_says_30 : decode cX0_says 30 = .ok (.aload_n 0, 1) := by decide +kernel
theorem dX0_says_31 : decode cX0_says 31 = .ok (.getfield 15, 3) := by decide +kernel
theorem dX0_says_34 : decode cX0_says 34 = .ok (.iload_n 2, 1) := by decide +kernel
theorem dX0_says_35 : decode cX0_says 35 = .ok (.iload 4, 2) := by decide +kernel
theorem dX0_says_37 : decode cX0_says 37 = .ok (.iadd, 1) := by decide +kernel
theorem dX0_says_38 : decode cX0_says 38 = .ok (.caload, 1) := by decide +kernel
theorem dX0_says_39 : decode cX0_says 39 = .ok (.if_icmp .eq 5, 3) := by decide +kernel
theorem dX0_says_42 : decode cX0_says 42 = .ok (.iconst 0, 1) := by decide +kernel
theorem dX0_says_43 : decode cX0_says 43 = .ok (.ireturn, 1) := by decide +kernel
theorem dX0_says_44 : decode cX0_says 44 = .ok (.iinc 4 1, 3) := by decide +kernel
theorem dX0_says_47 : decode cX0_says 47 = .ok (.goto (-32), 3) := by decide +kernel
theorem dX0_says_50 : decode cX0_says 50 = .ok (.iconst 1, 1) := by decide +kernel
theorem dX0_says_51 : decode cX0_says 51 = .ok (.ireturn, 1) := by decide +kernel
theorem dX0_isLetter_0 : decode cX0_isLetter 0 = .ok (.bipush 97, 2) := by decide +kernel
theorem dX0_isLetter_2 : decode cX0_isLetter 2 = .ok (.aload_n 0, 1) := by decide +kernel
theorem dX0_isLetter_3 : decode cX0_isLetter 3 = .ok (.getfield 15, 3) := by decide +kernel
theorem dX0_isLetter_6 : decode cX0_isLetter 6 = .ok (.iload_n 1, 1) := by decide +kernel
theorem dX0_isLetter_7 : decode cX0_isLetter 7 = .ok (.caload, 1) := by decide +kernel
theorem dX0_isLetter_8 : decode cX0_isLetter 8 = .ok (.if_icmp .gt 18, 3) := by decide +kernel
theorem dX0_isLetter_11 : decode cX0_isLetter 11 = .ok (.aload_n 0, 1) := by decide +kernel
theorem dX0_isLetter_12 : decode cX0_isLetter 12 = .ok (.getfield 15, 3) := by decide +kernel
theorem dX0_isLetter_15 : decode cX0_isLetter 15 = .ok (.iload_n 1, 1) := by decide +kernel
theorem dX0_isLetter_16 : decode cX0_isLetter 16 = .ok (.caload, 1) := by decide +kernel
theorem dX0_isLetter_17 : decode cX0_isLetter 17 = .ok (.bipush 122, 2) := by decide +kernel
theorem dX0_isLetter_19 : decode cX0_isLetter 19 = .ok (.if_icmp .gt 7, 3) := by decide +kernel
theorem dX0_isLetter_22 : decode cX0_isLetter 22 = .ok (.iconst 1, 1) := by decide +kernel
theorem dX0_isLetter_23 : decode cX0_isLetter 23 = .ok (.goto 4, 3) := by decide +kernel
theorem dX0_isLetter_26 : decode cX0_isLetter 26 = .ok (.iconst 0, 1) := by decide +kernel
theorem dX0_isLetter_27 : decode cX0_isLetter 27 = .ok (.ireturn, 1) := by decide +kernel
theorem dX0_isFigure_0 : decode cX0_isFigure 0 = .ok (.bipush 48, 2) := by decide +kernel
theorem dX0_isFigure_2 : decode cX0_isFigure 2 = .ok (.aload_n 0, 1) := by decide +kernel
theorem dX0_isFigure_3 : decode cX0_isFigure 3 = .ok (.getfield 15, 3) := by decide +kernel
theorem dX0_isFigure_6 : decode cX0_isFigure 6 = .ok (.iload_n 1, 1) := by decide +kernel
theorem dX0_isFigure_7 : decode cX0_isFigure 7 = .ok (.caload, 1) := by decide +kernel
theorem dX0_isFigure_8 : decode cX0_isFigure 8 = .ok (.if_icmp .gt 18, 3) := by decide +kernel
theorem dX0_isFigure_11 : decode cX0_isFigure 11 = .ok (.aload_n 0, 1) := by decide +kernel
theorem dX0_isFigure_12 : decode cX0_isFigure 12 = .ok (.getfield 15, 3) := by decide +kernel
theorem dX0_isFigure_15 : decode cX0_isFigure 15 = .ok (.iload_n 1, 1) := by decide +kernel
theorem dX0_isFigure_16 : decode cX0_isFigure 16 = .ok (.caload, 1) := by decide +kernel
theorem dX0_isFigure_17 : decode cX0_isFigure 17 = .ok (.bipush 57, 2) := by decide +kernel
theorem dX0_isFigure_19 : decode cX0_isFigure 19 = .ok (.if_icmp .gt 7, 3) := by decide +kernel
theorem dX0_isFigure_22 : decode cX0_isFigure 22 = .ok (.iconst 1, 1) := by decide +kernel
theorem dX0_isFigure_23 : decode cX0_isFigure 23 = .ok (.goto 4, 3) := by decide +kernel
theorem dX0_isFigure_26 : decode cX0_isFigure 26 = .ok (.iconst 0, 1) := by decide +kernel
theorem dX0_isFigure_27 : decode cX0_isFigure 27 = .ok (.ireturn, 1) := by decide +kernel
theorem dX1_init_0 : decode cX1_init 0 = .ok (.aload_n 0, 1) := by decide +kernel
theorem dX1_init_1 : decode cX1_init 1 = .ok (.invokespecial 3, 3) := by decide +kernel
theorem dX1_init_4 : decode cX1_init 4 = .ok (.aload_n 0, 1) := by decide +kernel
theorem dX1_init_5 : decode cX1_init 5 = .ok (.iconst 0, 1) := by decide +kernel
theorem dX1_init_6 : decode cX1_init 6 = .ok (.putfield 9, 3) := by decide +kernel
theorem dX1_init_9 : decode cX1_init 9 = .ok (.aload_n 0, 1) := by decide +kernel
theorem dX1_init_10 : decode cX1_init 10 = .ok (.iconst 0, 1) := by decide +kernel
theorem dX1_init_11 : decode cX1_init 11 = .ok (.putfield 15, 3) := by decide +kernel
theorem dX1_init_14 : decode cX1_init 14 = .ok (.aload_n 0, 1) := by decide +kernel
theorem dX1_init_15 : decode cX1_init 15 = .ok (.bipush 6, 2) := by decide +kernel
theorem dX1_init_17 : decode cX1_init 17 = .ok (.newarray .int, 2) := by decide +kernel
theorem dX1_init_19 : decode cX1_init 19 = .ok (.putfield 18, 3) := by decide +kernel
theorem dX1_init_22 : decode cX1_init 22 = .ok (.aload_n 0, 1) := by decide +kernel
theorem dX1_init_23 : decode cX1_init 23 = .ok (.bipush 6, 2) := by decide +kernel
theorem dX1_init_25 : decode cX1_init 25 = .ok (.newarray .int, 2) := by decide +kernel
theorem dX1_init_27 : decode cX1_init 27 = .ok (.putfield 22, 3) := by decide +kernel
theorem dX1_init_30 : decode cX1_init 30 = .ok (.aload_n 0, 1) := by decide +kernel
theorem dX1_init_31 : decode cX1_init 31 = .ok (.bipush 6, 2) := by decide +kernel
theorem dX1_init_33 : decode cX1_init 33 = .ok (.newarray .int, 2) := by decide +kernel
theorem dX1_init_35 : decode cX1_init 35 = .ok (.putfield 25, 3) := by decide +kernel
theorem dX1_init_38 : decode cX1_init 38 = .ok (.aload_n 0, 1) := by decide +kernel
theorem dX1_init_39 : decode cX1_init 39 = .ok (.bipush 36, 2) := by decide +kernel
theorem dX1_init_41 : decode cX1_init 41 = .ok (.newarray .int, 2) := by decide +kernel
theorem dX1_init_43 : decode cX1_init 43 = .ok (.putfield 28, 3) := by decide +kernel
theorem dX1_init_46 : decode cX1_init 46 = .ok (.aload_n 0, 1) := by decide +kernel
theorem dX1_init_47 : decode cX1_init 47 = .ok (.bipush 6, 2) := by decide +kernel
theorem dX1_init_49 : decode cX1_init 49 = .ok (.newarray .int, 2) := by decide +kernel
theorem dX1_init_51 : decode cX1_init 51 = .ok (.putfield 31, 3) := by decide +kernel
theorem dX1_init_54 : decode cX1_init 54 = .ok (.aload_n 0, 1) := by decide +kernel
theorem dX1_init_55 : decode cX1_init 55 = .ok (.bipush 6, 2) := by decide +kernel
theorem dX1_init_57 : decode cX1_init 57 = .ok (.newarray .int, 2) := by decide +kernel
theorem dX1_init_59 : decode cX1_init 59 = .ok (.putfield 34, 3) := by decide +kernel
theorem dX1_init_62 : decode cX1_init 62 = .ok (.aload_n 0, 1) := by decide +kernel
theorem dX1_init_63 : decode cX1_init 63 = .ok (.iconst 0, 1) := by decide +kernel
theorem dX1_init_64 : decode cX1_init 64 = .ok (.putfield 37, 3) := by decide +kernel
theorem dX1_init_67 : decode cX1_init 67 = .ok (.return_, 1) := by decide +kernel
theorem dX1_behind_0 : decode cX1_behind 0 = .ok (.iload_n 1, 1) := by decide +kernel
theorem dX1_behind_1 : decode cX1_behind 1 = .ok (.iconst 1, 1) := by decide +kernel
theorem dX1_behind_2 : decode cX1_behind 2 = .ok (.iadd, 1) := by decide +kernel
theorem dX1_behind_3 : decode cX1_behind 3 = .ok (.aload_n 0, 1) := by decide +kernel
theorem dX1_behind_4 : decode cX1_behind 4 = .ok (.getfield 9, 3) := by decide +kernel
theorem dX1_behind_7 : decode cX1_behind 7 = .ok (.if_icmp .ge 9, 3) := by decide +kernel
theorem dX1_behind_10 : decode cX1_behind 10 = .ok (.iload_n 1, 1) := by decide +kernel
theorem dX1_behind_11 : decode cX1_behind 11 = .ok (.iconst 1, 1) := by decide +kernel
theorem dX1_behind_12 : decode cX1_behind 12 = .ok (.iadd, 1) := by decide +kernel
theorem dX1_behind_13 : decode cX1_behind 13 = .ok (.goto 4, 3) := by decide +kernel
theorem dX1_behind_16 : decode cX1_behind 16 = .ok (.iconst 0, 1) := by decide +kernel
theorem dX1_behind_17 : decode cX1_behind 17 = .ok (.ireturn, 1) := by decide +kernel
set_option maxRecDepth 20000 in
theorem ggX1_readAll_X1_tellNothing : GoodIn wsX1_readAll wsX1_tellNothing := goodIn_r _ [5, 6, 7, 8, 9, 10, 11, 12, 74, 75, 76, 77, 78, 79, 80, 81, 82] (by decide +kernel) (by decide +kernel)
set_option maxRecDepth 20000 in
theorem gX1_readAll_X1_tellNothing : GoodIn wsX1_readAll (wsV RX1 41 RX1 yX1_tellNothing wsX1_tellNothing) := goodIn_app (goodIn_of _ (by decide +kernel)) ggX1_readAll_X1_tellNothing
set_option maxRecDepth 20000 in
theorem ggX1_readAll_X0_token : GoodIn wsX1_readAll wsX0_token := goodIn_r _ [17, 18, 19, 83, 84, 85, 86, 87, 88] (by decide +kernel) (by decide +kernel)
set_option maxRecDepth 20000 in
theorem gX1_readAll_X0_token : GoodIn wsX1_readAll (wsV RX1 44 RX0 yX0_token wsX0_token) := goodIn_app (goodIn_of _ (by decide +kernel)) ggX1_readAll_X0_token
set_option maxRecDepth 20000 in
theorem ggX1_readAll_X1_readItem : GoodIn wsX1_readAll wsX1_readItem := goodIn_r _ [23, 13, 14, 15, 16, 17, 18, 19, 24, 25, 26, 4, 27, 6, 8, 7, 28, 29, 30, 31, 32, 33, 34, 35, 36, 37, 38, 39, 40, 41, 42, 43, 44, 45, 46, 47, 48, 49, 50, 51, 52, 53, 54, 55, 12, 56, 57, 58, 59, 60, 61, 10, 62, 63, 64, 65, 11, 66, 67, 68, 69, 9, 83, 84, 85, 86, 87, 88, 74, 75, 76, 77, 78, 79, 80, 81, 82] (by decide +kernel) (by decide +kernel)
set_option maxRecDepth 20000 in
theorem gX1_readAll_X1_readItem : GoodIn wsX1_readAll (wsV RX1 50 RX1 yX1_readItem wsX1_readItem) := goodIn_app (goodIn_of _ (by decide +kernel)) ggX1_readAll_X1_readItem
set_option maxRecDepth 20000 in
theorem ggX1_readAll_X0_pass : GoodIn wsX1_readAll wsX0_pass := goodIn_r _ [31, 19, 32, 83, 84, 85, 86, 87, 88] (by decide +kernel) (by decide +kernel)
set_option maxRecDepth 20000 in
theorem gX1_readAll_X0_pass : GoodIn wsX1_readAll (wsV RX1 54 RX0 yX0_pass wsX0_pass) := goodIn_app (goodIn_of _ (by decide +kernel)) ggX1_readAll_X0_pass
set_option maxRecDepth 20000 in
theorem ggX1_readAll_X1_placeTheRest : GoodIn wsX1_readAll wsX1_placeTheRest := goodIn_r _ [73, 7, 11, 6, 74, 75, 76, 77, 78, 79, 80, 81, 82] (by decide +kernel) (by decide +kernel)
set_option maxRecDepth 20000 in
theorem gX1_readAll_X1_placeTheRest : GoodIn wsX1_readAll (wsV RX1 57 RX1 yX1_placeTheRest wsX1_placeTheRest) := goodIn_app (goodIn_of _ (by decide +kernel)) ggX1_readAll_X1_placeTheRest
theorem dX1_readAll_0 : decode cX1_readAll 0 = .ok (.aload_n 0, 1) := by decide +kernel
theorem dX1_readAll_1 : decode cX1_readAll 1 = .ok (.invokevirtual 41, 3) := by decide +kernel
theorem dX1_readAll_4 : decode cX1_readAll 4 = .ok (.iconst 0, 1) := by decide +kernel
theorem dX1_readAll_5 : decode cX1_readAll 5 = .ok (.istore_n 2, 1) := by decide +kernel
theorem dX1_readAll_6 : decode cX1_readAll 6 = .ok (.aload_n 1, 1) := by decide +kernel
theorem dX1_readAll_7 : decode cX1_readAll 7 = .ok (.invokevirtual 44, 3) := by decide +kernel
theorem dX1_readAll_10 : decode cX1_readAll 10 = .ok (.iconst (-1), 1) := by decide +kernel
theorem dX1_readAll_11 : decode cX1_readAll 11 = .ok (.if_icmp .eq 40, 3) := by decide +kernel
theorem dX1_readAll_14 : decode cX1_readAll 14 = .ok (.iload_n 2, 1) := by decide +kernel
theorem dX1_readAll_15 : decode cX1_readAll 15 = .ok (.sipush 400, 3) := by decide +kernel
theorem dX1_readAll_18 : decode cX1_readAll 18 = .ok (.if_icmp .ge 33, 3) := by decide +kernel
theorem dX1_readAll_21 : decode cX1_readAll 21 = .ok (.aload_n 0, 1) := by decide +kernel
theorem dX1_readAll_22 : decode cX1_readAll 22 = .ok (.aload_n 1, 1) := by decide +kernel
theorem dX1_readAll_23 : decode cX1_readAll 23 = .ok (.invokevirtual 50, 3) := by decide +kernel
theorem dX1_readAll_26 : decode cX1_readAll 26 = .ok (.ifCond .eq 12, 3) := by decide +kernel
theorem dX1_readAll_29 : decode cX1_readAll 29 = .ok (.aload_n 1, 1) := by decide +kernel
theorem dX1_readAll_30 : decode cX1_readAll 30 = .ok (.invokevirtual 44, 3) := by decide +kernel
theorem dX1_readAll_33 : decode cX1_readAll 33 = .ok (.bipush (-2), 2) := by decide +kernel
theorem dX1_readAll_35 : decode cX1_readAll 35 = .ok (.if_icmp .eq 6, 3) := by decide +kernel
theorem dX1_readAll_38 : decode cX1_readAll 38 = .ok (.bipush (-9), 2) := by decide +kernel
theorem dX1_readAll_40 : decode cX1_readAll 40 = .ok (.ireturn, 1) := by decide +kernel
theorem dX1_readAll_41 : decode cX1_readAll 41 = .ok (.aload_n 1, 1) := by decide +kernel
theorem dX1_readAll_42 : decode cX1_readAll 42 = .ok (.invokevirtual 54, 3) := by decide +kernel
theorem dX1_readAll_45 : decode cX1_readAll 45 = .ok (.iinc 2 1, 3) := by decide +kernel
theorem dX1_readAll_48 : decode cX1_readAll 48 = .ok (.goto (-42), 3) := by decide +kernel
theorem dX1_readAll_51 : decode cX1_readAll 51 = .ok (.aload_n 0, 1) := by decide +kernel
theorem dX1_readAll_52 : decode cX1_readAll 52 = .ok (.invokevirtual 57, 3) := by decide +kernel
theorem dX1_readAll_55 : decode cX1_readAll 55 = .ok (.iload_n 2, 1) := by decide +kernel
theorem dX1_readAll_56 : decode cX1_readAll 56 = .ok (.ireturn, 1) := by decide +kernel
theorem dX1_tellNothing_0 : decode cX1_tellNothing 0 = .ok (.aload_n 0, 1) := by decide +kernel
theorem dX1_tellNothing_1 : decode cX1_tellNothing 1 = .ok (.iconst 0, 1) := by decide +kernel
theorem dX1_tellNothing_2 : decode cX1_tellNothing 2 = .ok (.putfield 9, 3) := by decide +kernel
theorem dX1_tellNothing_5 : decode cX1_tellNothing 5 = .ok (.aload_n 0, 1) := by decide +kernel
theorem dX1_tellNothing_6 : decode cX1_tellNothing 6 = .ok (.iconst 0, 1) := by decide +kernel
theorem dX1_tellNothing_7 : decode cX1_tellNothing 7 = .ok (.putfield 15, 3) := by decide +kernel
theorem dX1_tellNothing_10 : decode cX1_tellNothing 10 = .ok (.aload_n 0, 1) := by decide +kernel
theorem dX1_tellNothing_11 : decode cX1_tellNothing 11 = .ok (.iconst 0, 1) := by decide +kernel
theorem dX1_tellNothing_12 : decode cX1_tellNothing 12 = .ok (.putfield 37, 3) := by decide +kernel
theorem dX1_tellNothing_15 : decode cX1_tellNothing 15 = .ok (.iconst 0, 1) := by decide +kernel
theorem dX1_tellNothing_16 : decode cX1_tellNothing 16 = .ok (.istore_n 1, 1) := by decide +kernel
theorem dX1_tellNothing_17 : decode cX1_tellNothing 17 = .ok (.iload_n 1, 1) := by decide +kernel
theorem dX1_tellNothing_18 : decode cX1_tellNothing 18 = .ok (.bipush 6, 2) := by decide +kernel
theorem dX1_tellNothing_20 : decode cX1_tellNothing 20 = .ok (.if_icmp .ge 16, 3) := by decide +kernel
theorem dX1_tellNothing_23 : decode cX1_tellNothing 23 = .ok (.aload_n 0, 1) := by decide +kernel
theorem dX1_tellNothing_24 : decode cX1_tellNothing 24 = .ok (.getfield 34, 3) := by decide +kernel
theorem dX1_tellNothing_27 : decode cX1_tellNothing 27 = .ok (.iload_n 1, 1) := by decide +kernel
theorem dX1_tellNothing_28 : decode cX1_tellNothing 28 = .ok (.iload_n 1, 1) := by decide +kernel
theorem dX1_tellNothing_29 : decode cX1_tellNothing 29 = .ok (.iastore, 1) := by decide +kernel
theorem dX1_tellNothing_30 : decode cX1_tellNothing 30 = .ok (.iinc 1 1, 3) := by decide +kernel
theorem dX1_tellNothing_33 : decode cX1_tellNothing 33 = .ok (.goto (-16), 3) := by decide +kernel
theorem dX1_tellNothing_36 : decode cX1_tellNothing 36 = .ok (.iconst 0, 1) := by decide +kernel
theorem dX1_tellNothing_37 : decode cX1_tellNothing 37 = .ok (.istore_n 1, 1) := by decide +kernel
theorem dX1_tellNothing_38 : decode cX1_tellNothing 38 = .ok (.iload_n 1, 1) := by decide +kernel
theorem dX1_tellNothing_39 : decode cX1_tellNothing 39 = .ok (.bipush 6, 2) := by decide +kernel
theorem dX1_tellNothing_41 : decode cX1_tellNothing 41 = .ok (.if_icmp .ge 24, 3) := by decide +kernel
theorem dX1_tellNothing_44 : decode cX1_tellNothing 44 = .ok (.aload_n 0, 1) := by decide +kernel
theorem dX1_tellNothing_45 : decode cX1_tellNothing 45 = .ok (.getfield 25, 3) := by decide +kernel
theorem dX1_tellNothing_48 : decode cX1_tellNothing 48 = .ok (.iload_n 1, 1) := by decide +kernel
theorem dX1_tellNothing_49 : decode cX1_tellNothing 49 = .ok (.iconst 0, 1) := by decide +kernel
theorem dX1_tellNothing_50 : decode cX1_tellNothing 50 = .ok (.iastore, 1) := by decide +kernel
theorem dX1_tellNothing_51 : decode cX1_tellNothing 51 = .ok (.aload_n 0, 1) := by decide +kernel
theorem dX1_tellNothing_52 : decode cX1_tellNothing 52 = .ok (.getfield 31, 3) := by decide +kernel
theorem dX1_tellNothing_55 : decode cX1_tellNothing 55 = .ok (.iload_n 1, 1) := by decide +kernel
theorem dX1_tellNothing_56 : decode cX1_tellNothing 56 = .ok (.bipush (-9), 2) := by decide +kernel
theorem dX1_tellNothing_58 : decode cX1_tellNothing 58 = .ok (.iastore, 1) := by decide +kernel
theorem dX1_tellNothing_59 : decode cX1_tellNothing 59 = .ok (.iinc 1 1, 3) := by decide +kernel
theorem dX1_tellNothing_62 : decode cX1_tellNothing 62 = .ok (.goto (-24), 3) := by decide +kernel
theorem dX1_tellNothing_65 : decode cX1_tellNothing 65 = .ok (.iconst 0, 1) := by decide +kernel
theorem dX1_tellNothing_66 : decode cX1_tellNothing 66 = .ok (.istore_n 1, 1) := by decide +kernel
theorem dX1_tellNothing_67 : decode cX1_tellNothing 67 = .ok (.iload_n 1, 1) := by decide +kernel
theorem dX1_tellNothing_68 : decode cX1_tellNothing 68 = .ok (.aload_n 0, 1) := by decide +kernel
theorem dX1_tellNothing_69 : decode cX1_tellNothing 69 = .ok (.getfield 28, 3) := by decide +kernel
theorem dX1_tellNothing_72 : decode cX1_tellNothing 72 = .ok (.arraylength, 1) := by decide +kernel
theorem dX1_tellNothing_73 : decode cX1_tellNothing 73 = .ok (.if_icmp .ge 16, 3) := by decide +kernel
theorem dX1_tellNothing_76 : decode cX1_tellNothing 76 = .ok (.aload_n 0, 1) := by decide +kernel
theorem dX1_tellNothing_77 : decode cX1_tellNothing 77 = .ok (.getfield 28, 3) := by decide +kernel
theorem dX1_tellNothing_80 : decode cX1_tellNothing 80 = .ok (.iload_n 1, 1) := by decide +kernel
theorem dX1_tellNothing_81 : decode cX1_tellNothing 81 = .ok (.iconst 3, 1) := by decide +kernel
theorem dX1_tellNothing_82 : decode cX1_tellNothing 82 = .ok (.iastore, 1) := by decide +kernel
theorem dX1_tellNothing_83 : decode cX1_tellNothing 83 = .ok (.iinc 1 1, 3) := by decide +kernel
theorem dX1_tellNothing_86 : decode cX1_tellNothing 86 = .ok (.goto (-19), 3) := by decide +kernel
theorem dX1_tellNothing_89 : decode cX1_tellNothing 89 = .ok (.return_, 1) := by decide +kernel
theorem dX1_placeTheRest_0 : decode cX1_placeTheRest 0 = .ok (.iconst 0, 1) := by decide +kernel
theorem dX1_placeTheRest_1 : decode cX1_placeTheRest 1 = .ok (.istore_n 1, 1) := by decide +kernel
theorem dX1_placeTheRest_2 : decode cX1_placeTheRest 2 = .ok (.iload_n 1, 1) := by decide +kernel
theorem dX1_placeTheRest_3 : decode cX1_placeTheRest 3 = .ok (.aload_n 0, 1) := by decide +kernel
theorem dX1_placeTheRest_4 : decode cX1_placeTheRest 4 = .ok (.getfield 15, 3) := by decide +kernel
theorem dX1_placeTheRest_7 : decode cX1_placeTheRest 7 = .ok (.if_icmp .ge 43, 3) := by decide +kernel
theorem dX1_placeTheRest_10 : decode cX1_placeTheRest 10 = .ok (.aload_n 0, 1) := by decide +kernel
theorem dX1_placeTheRest_11 : decode cX1_placeTheRest 11 = .ok (.getfield 31, 3) := by decide +kernel
theorem dX1_placeTheRest_14 : decode cX1_placeTheRest 14 = .ok (.iload_n 1, 1) := by decide +kernel
theorem dX1_placeTheRest_15 : decode cX1_placeTheRest 15 = .ok (.iaload, 1) := by decide +kernel
theorem dX1_placeTheRest_16 : decode cX1_placeTheRest 16 = .ok (.bipush (-9), 2) := by decide +kernel
theorem dX1_placeTheRest_18 : decode cX1_placeTheRest 18 = .ok (.if_icmp .ne 26, 3) := by decide +kernel
theorem dX1_placeTheRest_21 : decode cX1_placeTheRest 21 = .ok (.aload_n 0, 1) := by decide +kernel
theorem dX1_placeTheRest_22 : decode cX1_placeTheRest 22 = .ok (.getfield 31, 3) := by decide +kernel
theorem dX1_placeTheRest_25 : decode cX1_placeTheRest 25 = .ok (.iload_n 1, 1) := by decide +kernel
theorem dX1_placeTheRest_26 : decode cX1_placeTheRest 26 = .ok (.aload_n 0, 1) := by decide +kernel
theorem dX1_placeTheRest_27 : decode cX1_placeTheRest 27 = .ok (.getfield 9, 3) := by decide +kernel
theorem dX1_placeTheRest_30 : decode cX1_placeTheRest 30 = .ok (.ifCond .ne 7, 3) := by decide +kernel
theorem dX1_placeTheRest_33 : decode cX1_placeTheRest 33 = .ok (.iconst 0, 1) := by decide +kernel
theorem dX1_placeTheRest_34 : decode cX1_placeTheRest 34 = .ok (.goto 9, 3) := by decide +kernel
theorem dX1_placeTheRest_37 : decode cX1_placeTheRest 37 = .ok (.iload_n 1, 1) := by decide +kernel
theorem dX1_placeTheRest_38 : decode cX1_placeTheRest 38 = .ok (.aload_n 0, 1) := by decide +kernel
theorem dX1_placeTheRest_39 : decode cX1_placeTheRest 39 = .ok (.getfield 9, 3) := by decide +kernel
theorem dX1_placeTheRest_42 : decode cX1_placeTheRest 42 = .ok (.irem, 1) := by decide +kernel
theorem dX1_placeTheRest_43 : decode cX1_placeTheRest 43 = .ok (.iastore, 1) := by decide +kernel
theorem dX1_placeTheRest_44 : decode cX1_placeTheRest 44 = .ok (.iinc 1 1, 3) := by decide +kernel
theorem dX1_placeTheRest_47 : decode cX1_placeTheRest 47 = .ok (.goto (-45), 3) := by decide +kernel
theorem dX1_placeTheRest_50 : decode cX1_placeTheRest 50 = .ok (.return_, 1) := by decide +kernel
set_option maxRecDepth 20000 in
theorem ggX1_readItem_X0_token : GoodIn wsX1_readItem wsX0_token := goodIn_r _ [5, 6, 7, 62, 63, 64, 65, 66, 67] (by decide +kernel) (by decide +kernel)
set_option maxRecDepth 20000 in
theorem gX1_readItem_X0_token : GoodIn wsX1_readItem (wsV RX1 44 RX0 yX0_token wsX0_token) := goodIn_app (goodIn_of _ (by decide +kernel)) ggX1_readItem_X0_token
set_option maxRecDepth 20000 in
theorem ggX1_readItem_X1_canBegin : GoodIn wsX1_readItem wsX1_canBegin := goodIn_r _ [12, 13, 14, 15, 68, 69, 70, 71, 72, 73, 74, 75, 76] (by decide +kernel) (by decide +kernel)
set_option maxRecDepth 20000 in
theorem gX1_readItem_X1_canBegin : GoodIn wsX1_readItem (wsV RX1 60 RX1 yX1_canBegin wsX1_canBegin) := goodIn_app (goodIn_of _ (by decide +kernel)) ggX1_readItem_X1_canBegin
set_option maxRecDepth 20000 in
theorem ggX1_readItem_X0_pass : GoodIn wsX1_readItem wsX0_pass := goodIn_r _ [19, 7, 20, 62, 63, 64, 65, 66, 67] (by decide +kernel) (by decide +kernel)
set_option maxRecDepth 20000 in
theorem gX1_readItem_X0_pass : GoodIn wsX1_readItem (wsV RX1 54 RX0 yX0_pass wsX0_pass) := goodIn_app (goodIn_of _ (by decide +kernel)) ggX1_readItem_X0_pass
set_option maxRecDepth 20000 in
theorem ggX1_readItem_X1_readTrade : GoodIn wsX1_readItem wsX1_readTrade := goodIn_r _ [24, 25, 13, 26, 27, 28, 29, 4, 30, 31, 2, 3, 5, 6, 7, 32, 33, 34, 35, 17, 18, 19, 20, 68, 69, 70, 71, 72, 73, 74, 75, 76, 62, 63, 64, 65, 66, 67] (by decide +kernel) (by decide +kernel)
set_option maxRecDepth 20000 in
theorem gX1_readItem_X1_readTrade : GoodIn wsX1_readItem (wsV RX1 64 RX1 yX1_readTrade wsX1_readTrade) := goodIn_app (goodIn_of _ (by decide +kernel)) ggX1_readItem_X1_readTrade
set_option maxRecDepth 20000 in
theorem ggX1_readItem_X1_readPerson : GoodIn wsX1_readItem wsX1_readPerson := goodIn_r _ [39, 15, 68, 69, 70, 71, 72, 73, 74, 75, 76] (by decide +kernel) (by decide +kernel)
set_option maxRecDepth 20000 in
theorem gX1_readItem_X1_readPerson : GoodIn wsX1_readItem (wsV RX1 67 RX1 yX1_readPerson wsX1_readPerson) := goodIn_app (goodIn_of _ (by decide +kernel)) ggX1_readItem_X1_readPerson
set_option maxRecDepth 20000 in
theorem ggX1_readItem_X1_readSkill : GoodIn wsX1_readItem wsX1_readSkill := goodIn_r _ [43, 14, 15, 13, 44, 27, 28, 29, 4, 30, 31, 2, 3, 5, 6, 7, 32, 33, 34, 35, 17, 18, 19, 20, 45, 46, 68, 69, 70, 71, 72, 73, 74, 75, 76, 62, 63, 64, 65, 66, 67] (by decide +kernel) (by decide +kernel)
set_option maxRecDepth 20000 in
theorem gX1_readItem_X1_readSkill : GoodIn wsX1_readItem (wsV RX1 71 RX1 yX1_readSkill wsX1_readSkill) := goodIn_app (goodIn_of _ (by decide +kernel)) ggX1_readItem_X1_readSkill
set_option maxRecDepth 20000 in
theorem ggX1_readItem_X1_readSkip : GoodIn wsX1_readItem wsX1_readSkip := goodIn_r _ [50, 14, 15, 13, 51, 27, 28, 29, 4, 30, 31, 2, 3, 5, 6, 7, 32, 33, 34, 35, 17, 18, 19, 20, 68, 69, 70, 71, 72, 73, 74, 75, 76, 62, 63, 64, 65, 66, 67] (by decide +kernel) (by decide +kernel)
set_option maxRecDepth 20000 in
theorem gX1_readItem_X1_readSkip : GoodIn wsX1_readItem (wsV RX1 74 RX1 yX1_readSkip wsX1_readSkip) := goodIn_app (goodIn_of _ (by decide +kernel)) ggX1_readItem_X1_readSkip
set_option maxRecDepth 20000 in
theorem ggX1_readItem_X1_readPlace : GoodIn wsX1_readItem wsX1_readPlace := goodIn_r _ [55, 14, 15, 13, 56, 27, 28, 29, 4, 30, 31, 2, 3, 5, 6, 7, 32, 33, 34, 35, 17, 18, 19, 20, 68, 69, 70, 71, 72, 73, 74, 75, 76, 62, 63, 64, 65, 66, 67] (by decide +kernel) (by decide +kernel)
set_option maxRecDepth 20000 in
theorem gX1_readItem_X1_readPlace : GoodIn wsX1_readItem (wsV RX1 77 RX1 yX1_readPlace wsX1_readPlace) := goodIn_app (goodIn_of _ (by decide +kernel)) ggX1_readItem_X1_readPlace
set_option maxRecDepth 20000 in
theorem ggX1_readItem_X1_readWheel : GoodIn wsX1_readItem wsX1_readWheel := goodIn_r _ [60, 14, 13, 61, 1, 2, 3, 4, 5, 6, 7, 32, 33, 34, 16, 17, 18, 19, 20, 68, 69, 70, 71, 72, 73, 74, 75, 76, 62, 63, 64, 65, 66, 67] (by decide +kernel) (by decide +kernel)
set_option maxRecDepth 20000 in
theorem gX1_readItem_X1_readWheel : GoodIn wsX1_readItem (wsV RX1 80 RX1 yX1_readWheel wsX1_readWheel) := goodIn_app (goodIn_of _ (by decide +kernel)) ggX1_readItem_X1_readWheel
theorem dX1_readItem_0 : decode cX1_readItem 0 = .ok (.aload_n 1, 1) := by decide +kernel
theorem dX1_readItem_1 : decode cX1_readItem 1 = .ok (.invokevirtual 44, 3) := by decide +kernel
theorem dX1_readItem_4 : decode cX1_readItem 4 = .ok (.istore_n 2, 1) := by decide +kernel
theorem dX1_readItem_5 : decode cX1_readItem 5 = .ok (.aload_n 0, 1) := by decide +kernel
theorem dX1_readItem_6 : decode cX1_readItem 6 = .ok (.iload_n 2, 1) := by decide +kernel
theorem dX1_readItem_7 : decode cX1_readItem 7 = .ok (.invokevirtual 60, 3) := by decide +kernel
theorem dX1_readItem_10 : decode cX1_readItem 10 = .ok (.ifCond .ne 5, 3) := by decide +kernel
theorem dX1_readItem_13 : decode cX1_readItem 13 = .ok (.iconst 0, 1) := by decide +kernel
theorem dX1_readItem_14 : decode cX1_readItem 14 = .ok (.ireturn, 1) := by decide +kernel
theorem dX1_readItem_15 : decode cX1_readItem 15 = .ok (.aload_n 1, 1) := by decide +kernel
theorem dX1_readItem_16 : decode cX1_readItem 16 = .ok (.invokevirtual 54, 3) := by decide +kernel
theorem dX1_readItem_19 : decode cX1_readItem 19 = .ok (.iload_n 2, 1) := by decide +kernel
theorem dX1_readItem_20 : decode cX1_readItem 20 = .ok (.tableswitch 65 (-8) (-4) #[59, 53, 47, 42, 36], 36) := by decide +kernel
theorem dX1_readItem_56 : decode cX1_readItem 56 = .ok (.aload_n 0, 1) := by decide +kernel
theorem dX1_readItem_57 : decode cX1_readItem 57 = .ok (.aload_n 1, 1) := by decide +kernel
theorem dX1_readItem_58 : decode cX1_readItem 58 = .ok (.invokevirtual 64, 3) := by decide +kernel
theorem dX1_readItem_61 : decode cX1_readItem 61 = .ok (.ireturn, 1) := by decide +kernel
theorem dX1_readItem_62 : decode cX1_readItem 62 = .ok (.aload_n 0, 1) := by decide +kernel
theorem dX1_readItem_63 : decode cX1_readItem 63 = .ok (.invokevirtual 67, 3) := by decide +kernel
theorem dX1_readItem_66 : decode cX1_readItem 66 = .ok (.ireturn, 1) := by decide +kernel
theorem dX1_readItem_67 : decode cX1_readItem 67 = .ok (.aload_n 0, 1) := by decide +kernel
theorem dX1_readItem_68 : decode cX1_readItem 68 = .ok (.aload_n 1, 1) := by decide +kernel
theorem dX1_readItem_69 : decode cX1_readItem 69 = .ok (.invokevirtual 71, 3) := by decide +kernel
theorem dX1_readItem_72 : decode cX1_readItem 72 = .ok (.ireturn, 1) := by decide +kernel
theorem dX1_readItem_73 : decode cX1_readItem 73 = .ok (.aload_n 0, 1) := by decide +kernel
theorem dX1_readItem_74 : decode cX1_readItem 74 = .ok (.aload_n 1, 1) := by decide +kernel
theorem dX1_readItem_75 : decode cX1_readItem 75 = .ok (.invokevirtual 74, 3) := by decide +kernel
theorem dX1_readItem_78 : decode cX1_readItem 78 = .ok (.ireturn, 1) := by decide +kernel
theorem dX1_readItem_79 : decode cX1_readItem 79 = .ok (.aload_n 0, 1) := by decide +kernel
theorem dX1_readItem_80 : decode cX1_readItem 80 = .ok (.aload_n 1, 1) := by decide +kernel
theorem dX1_readItem_81 : decode cX1_readItem 81 = .ok (.invokevirtual 77, 3) := by decide +kernel
theorem dX1_readItem_84 : decode cX1_readItem 84 = .ok (.ireturn, 1) := by decide +kernel
theorem dX1_readItem_85 : decode cX1_readItem 85 = .ok (.aload_n 0, 1) := by decide +kernel
theorem dX1_readItem_86 : decode cX1_readItem 86 = .ok (.aload_n 1, 1) := by decide +kernel
theorem dX1_readItem_87 : decode cX1_readItem 87 = .ok (.invokevirtual 80, 3) := by decide +kernel
theorem dX1_readItem_90 : decode cX1_readItem 90 = .ok (.ireturn, 1) := by decide +kernel
theorem dX1_canBegin_0 : decode cX1_canBegin 0 = .ok (.iload_n 1, 1) := by decide +kernel
theorem dX1_canBegin_1 : decode cX1_canBegin 1 = .ok (.tableswitch 91 (-9) (-4) #[78, 76, 76, 76, 61, 39], 39) := by decide +kernel
theorem dX1_canBegin_40 : decode cX1_canBegin 40 = .ok (.aload_n 0, 1) := by decide +kernel
theorem dX1_canBegin_41 : decode cX1_canBegin 41 = .ok (.getfield 9, 3) := by decide +kernel
theorem dX1_canBegin_44 : decode cX1_canBegin 44 = .ok (.bipush 6, 2) := by decide +kernel
theorem dX1_canBegin_46 : decode cX1_canBegin 46 = .ok (.if_icmp .ge 14, 3) := by decide +kernel
theorem dX1_canBegin_49 : decode cX1_canBegin 49 = .ok (.aload_n 0, 1) := by decide +kernel
theorem dX1_canBegin_50 : decode cX1_canBegin 50 = .ok (.getfield 37, 3) := by decide +kernel
theorem dX1_canBegin_53 : decode cX1_canBegin 53 = .ok (.ifCond .ne 7, 3) := by decide +kernel
theorem dX1_canBegin_56 : decode cX1_canBegin 56 = .ok (.iconst 1, 1) := by decide +kernel
theorem dX1_canBegin_57 : decode cX1_canBegin 57 = .ok (.goto 4, 3) := by decide +kernel
theorem dX1_canBegin_60 : decode cX1_canBegin 60 = .ok (.iconst 0, 1) := by decide +kernel
theorem dX1_canBegin_61 : decode cX1_canBegin 61 = .ok (.ireturn, 1) := by decide +kernel
theorem dX1_canBegin_62 : decode cX1_canBegin 62 = .ok (.aload_n 0, 1) := by decide +kernel
theorem dX1_canBegin_63 : decode cX1_canBegin 63 = .ok (.getfield 15, 3) := by decide +kernel
theorem dX1_canBegin_66 : decode cX1_canBegin 66 = .ok (.bipush 6, 2) := by decide +kernel
theorem dX1_canBegin_68 : decode cX1_canBegin 68 = .ok (.if_icmp .ge 7, 3) := by decide +kernel
theorem dX1_canBegin_71 : decode cX1_canBegin 71 = .ok (.iconst 1, 1) := by decide +kernel
theorem dX1_canBegin_72 : decode cX1_canBegin 72 = .ok (.goto 4, 3) := by decide +kernel
theorem dX1_canBegin_75 : decode cX1_canBegin 75 = .ok (.iconst 0, 1) := by decide +kernel
theorem dX1_canBegin_76 : decode cX1_canBegin 76 = .ok (.ireturn, 1) := by decide +kernel
theorem dX1_canBegin_77 : decode cX1_canBegin 77 = .ok (.iconst 1, 1) := by decide +kernel
theorem dX1_canBegin_78 : decode cX1_canBegin 78 = .ok (.ireturn, 1) := by decide +kernel
theorem dX1_canBegin_79 : decode cX1_canBegin 79 = .ok (.aload_n 0, 1) := by decide +kernel
theorem dX1_canBegin_80 : decode cX1_canBegin 80 = .ok (.getfield 9, 3) := by decide +kernel
theorem dX1_canBegin_83 : decode cX1_canBegin 83 = .ok (.ifCond .le 7, 3) := by decide +kernel
theorem dX1_canBegin_86 : decode cX1_canBegin 86 = .ok (.iconst 1, 1) := by decide +kernel
theorem dX1_canBegin_87 : decode cX1_canBegin 87 = .ok (.goto 4, 3) := by decide +kernel
theorem dX1_canBegin_90 : decode cX1_canBegin 90 = .ok (.iconst 0, 1) := by decide +kernel
theorem dX1_canBegin_91 : decode cX1_canBegin 91 = .ok (.ireturn, 1) := by decide +kernel
theorem dX1_canBegin_92 : decode cX1_canBegin 92 = .ok (.iconst 0, 1) := by decide +kernel
theorem dX1_canBegin_93 : decode cX1_canBegin 93 = .ok (.ireturn, 1) := by decide +kernel
set_option maxRecDepth 20000 in
theorem ggX1_readTrade_X0_number : GoodIn wsX1_readTrade wsX0_number := goodIn_r _ [8, 9, 10, 11, 7, 12, 13, 14, 15, 16, 17, 18, 19, 20, 21, 22, 32, 33, 34, 35, 36, 37] (by decide +kernel) (by decide +kernel)
set_option maxRecDepth 20000 in
theorem gX1_readTrade_X0_number : GoodIn wsX1_readTrade (wsV RX1 83 RX0 yX0_number wsX0_number) := goodIn_app (goodIn_of _ (by decide +kernel)) ggX1_readTrade_X0_number
theorem dX1_readTrade_0 : decode cX1_readTrade 0 = .ok (.aload_n 1, 1) := by decide +kernel
theorem dX1_readTrade_1 : decode cX1_readTrade 1 = .ok (.iconst 0, 1) := by decide +kernel
theorem dX1_readTrade_2 : decode cX1_readTrade 2 = .ok (.bipush 99, 2) := by decide +kernel
theorem dX1_readTrade_4 : decode cX1_readTrade 4 = .ok (.invokevirtual 83, 3) := by decide +kernel
theorem dX1_readTrade_7 : decode cX1_readTrade 7 = .ok (.istore_n 2, 1) := by decide +kernel
theorem dX1_readTrade_8 : decode cX1_readTrade 8 = .ok (.iload_n 2, 1) := by decide +kernel
theorem dX1_readTrade_9 : decode cX1_readTrade 9 = .ok (.bipush (-9), 2) := by decide +kernel
theorem dX1_readTrade_11 : decode cX1_readTrade 11 = .ok (.if_icmp .ne 5, 3) := by decide +kernel
theorem dX1_readTrade_14 : decode cX1_readTrade 14 = .ok (.iconst 0, 1) := by decide +kernel
theorem dX1_readTrade_15 : decode cX1_readTrade 15 = .ok (.ireturn, 1) := by decide +kernel
theorem dX1_readTrade_16 : decode cX1_readTrade 16 = .ok (.aload_n 1, 1) := by decide +kernel
theorem dX1_readTrade_17 : decode cX1_readTrade 17 = .ok (.iconst 1, 1) := by decide +kernel
theorem dX1_readTrade_18 : decode cX1_readTrade 18 = .ok (.bipush 9, 2) := by decide +kernel
theorem dX1_readTrade_20 : decode cX1_readTrade 20 = .ok (.invokevirtual 83, 3) := by decide +kernel
theorem dX1_readTrade_23 : decode cX1_readTrade 23 = .ok (.istore_n 3, 1) := by decide +kernel
theorem dX1_readTrade_24 : decode cX1_readTrade 24 = .ok (.iload_n 3, 1) := by decide +kernel
theorem dX1_readTrade_25 : decode cX1_readTrade 25 = .ok (.bipush (-9), 2) := by decide +kernel
theorem dX1_readTrade_27 : decode cX1_readTrade 27 = .ok (.if_icmp .ne 5, 3) := by decide +kernel
theorem dX1_readTrade_30 : decode cX1_readTrade 30 = .ok (.iconst 0, 1) := by decide +kernel
theorem dX1_readTrade_31 : decode cX1_readTrade 31 = .ok (.ireturn, 1) := by decide +kernel
theorem dX1_readTrade_32 : decode cX1_readTrade 32 = .ok (.aload_n 0, 1) := by decide +kernel
theorem dX1_readTrade_33 : decode cX1_readTrade 33 = .ok (.getfield 18, 3) := by decide +kernel
theorem dX1_readTrade_36 : decode cX1_readTrade 36 = .ok (.aload_n 0, 1) := by decide +kernel
theorem dX1_readTrade_37 : decode cX1_readTrade 37 = .ok (.getfield 9, 3) := by decide +kernel
theorem dX1_readTrade_40 : decode cX1_readTrade 40 = .ok (.iload_n 2, 1) := by decide +kernel
theorem dX1_readTrade_41 : decode cX1_readTrade 41 = .ok (.iastore, 1) := by decide +kernel
theorem dX1_readTrade_42 : decode cX1_readTrade 42 = .ok (.aload_n 0, 1) := by decide +kernel
theorem dX1_readTrade_43 : decode cX1_readTrade 43 = .ok (.getfield 22, 3) := by decide +kernel
theorem dX1_readTrade_46 : decode cX1_readTrade 46 = .ok (.aload_n 0, 1) := by decide +kernel
theorem dX1_readTrade_47 : decode cX1_readTrade 47 = .ok (.getfield 9, 3) := by decide +kernel
theorem dX1_readTrade_50 : decode cX1_readTrade 50 = .ok (.iload_n 3, 1) := by decide +kernel
theorem dX1_readTrade_51 : decode cX1_readTrade 51 = .ok (.iastore, 1) := by decide +kernel
theorem dX1_readTrade_52 : decode cX1_readTrade 52 = .ok (.aload_n 0, 1) := by decide +kernel
theorem dX1_readTrade_53 : decode cX1_readTrade 53 = .ok (.dup, 1) := by decide +kernel
theorem dX1_readTrade_54 : decode cX1_readTrade 54 = .ok (.getfield 9, 3) := by decide +kernel
theorem dX1_readTrade_57 : decode cX1_readTrade 57 = .ok (.iconst 1, 1) := by decide +kernel
theorem dX1_readTrade_58 : decode cX1_readTrade 58 = .ok (.iadd, 1) := by decide +kernel
theorem dX1_readTrade_59 : decode cX1_readTrade 59 = .ok (.putfield 9, 3) := by decide +kernel
theorem dX1_readTrade_62 : decode cX1_readTrade 62 = .ok (.iconst 1, 1) := by decide +kernel
theorem dX1_readTrade_63 : decode cX1_readTrade 63 = .ok (.ireturn, 1) := by decide +kernel
theorem dX1_readPerson_0 : decode cX1_readPerson 0 = .ok (.aload_n 0, 1) := by decide +kernel
theorem dX1_readPerson_1 : decode cX1_readPerson 1 = .ok (.dup, 1) := by decide +kernel
theorem dX1_readPerson_2 : decode cX1_readPerson 2 = .ok (.getfield 15, 3) := by decide +kernel
theorem dX1_readPerson_5 : decode cX1_readPerson 5 = .ok (.iconst 1, 1) := by decide +kernel
theorem dX1_readPerson_6 : decode cX1_readPerson 6 = .ok (.iadd, 1) := by decide +kernel
theorem dX1_readPerson_7 : decode cX1_readPerson 7 = .ok (.putfield 15, 3) := by decide +kernel
theorem dX1_readPerson_10 : decode cX1_readPerson 10 = .ok (.iconst 1, 1) := by decide +kernel
theorem dX1_readPerson_11 : decode cX1_readPerson 11 = .ok (.ireturn, 1) := by decide +kernel
set_option maxRecDepth 20000 in
theorem ggX1_readSkill_X0_number : GoodIn wsX1_readSkill wsX0_number := goodIn_r _ [9, 10, 11, 12, 8, 13, 14, 15, 16, 17, 18, 19, 20, 21, 22, 23, 35, 36, 37, 38, 39, 40] (by decide +kernel) (by decide +kernel)
set_option maxRecDepth 20000 in
theorem gX1_readSkill_X0_number : GoodIn wsX1_readSkill (wsV RX1 83 RX0 yX0_number wsX0_number) := goodIn_app (goodIn_of _ (by decide +kernel)) ggX1_readSkill_X0_number
set_option maxRecDepth 20000 in
theorem ggX1_readSkill_X4_cell : GoodIn wsX1_readSkill wsX4_cell := goodIn_r _ [25] (by decide +kernel) (by decide +kernel)
set_option maxRecDepth 20000 in
theorem gX1_readSkill_X4_cell_n87 : GoodIn wsX1_readSkill (wsX4_cell) := ggX1_readSkill_X4_cell
theorem dX1_readSkill_0 : decode cX1_readSkill 0 = .ok (.aload_n 0, 1) := by decide +kernel
theorem dX1_readSkill_1 : decode cX1_readSkill 1 = .ok (.iconst 1, 1) := by decide +kernel
theorem dX1_readSkill_2 : decode cX1_readSkill 2 = .ok (.putfield 37, 3) := by decide +kernel
theorem dX1_readSkill_5 : decode cX1_readSkill 5 = .ok (.aload_n 1, 1) := by decide +kernel
theorem dX1_readSkill_6 : decode cX1_readSkill 6 = .ok (.iconst 0, 1) := by decide +kernel
theorem dX1_readSkill_7 : decode cX1_readSkill 7 = .ok (.aload_n 0, 1) := by decide +kernel
theorem dX1_readSkill_8 : decode cX1_readSkill 8 = .ok (.getfield 15, 3) := by decide +kernel
theorem dX1_readSkill_11 : decode cX1_readSkill 11 = .ok (.iconst 1, 1) := by decide +kernel
theorem dX1_readSkill_12 : decode cX1_readSkill 12 = .ok (.isub, 1) := by decide +kernel
theorem dX1_readSkill_13 : decode cX1_readSkill 13 = .ok (.invokevirtual 83, 3) := by decide +kernel
theorem dX1_readSkill_16 : decode cX1_readSkill 16 = .ok (.istore_n 2, 1) := by decide +kernel
theorem dX1_readSkill_17 : decode cX1_readSkill 17 = .ok (.iload_n 2, 1) := by decide +kernel
theorem dX1_readSkill_18 : decode cX1_readSkill 18 = .ok (.bipush (-9), 2) := by decide +kernel
theorem dX1_readSkill_20 : decode cX1_readSkill 20 = .ok (.if_icmp .ne 5, 3) := by decide +kernel
theorem dX1_readSkill_23 : decode cX1_readSkill 23 = .ok (.iconst 0, 1) := by decide +kernel
theorem dX1_readSkill_24 : decode cX1_readSkill 24 = .ok (.ireturn, 1) := by decide +kernel
theorem dX1_readSkill_25 : decode cX1_readSkill 25 = .ok (.aload_n 1, 1) := by decide +kernel
theorem dX1_readSkill_26 : decode cX1_readSkill 26 = .ok (.iconst 0, 1) := by decide +kernel
theorem dX1_readSkill_27 : decode cX1_readSkill 27 = .ok (.aload_n 0, 1) := by decide +kernel
theorem dX1_readSkill_28 : decode cX1_readSkill 28 = .ok (.getfield 9, 3) := by decide +kernel
theorem dX1_readSkill_31 : decode cX1_readSkill 31 = .ok (.iconst 1, 1) := by decide +kernel
theorem dX1_readSkill_32 : decode cX1_readSkill 32 = .ok (.isub, 1) := by decide +kernel
theorem dX1_readSkill_33 : decode cX1_readSkill 33 = .ok (.invokevirtual 83, 3) := by decide +kernel
theorem dX1_readSkill_36 : decode cX1_readSkill 36 = .ok (.istore_n 3, 1) := by decide +kernel
theorem dX1_readSkill_37 : decode cX1_readSkill 37 = .ok (.iload_n 3, 1) := by decide +kernel
theorem dX1_readSkill_38 : decode cX1_readSkill 38 = .ok (.bipush (-9), 2) := by decide +kernel
theorem dX1_readSkill_40 : decode cX1_readSkill 40 = .ok (.if_icmp .ne 5, 3) := by decide +kernel
theorem dX1_readSkill_43 : decode cX1_readSkill 43 = .ok (.iconst 0, 1) := by decide +kernel
theorem dX1_readSkill_44 : decode cX1_readSkill 44 = .ok (.ireturn, 1) := by decide +kernel
theorem dX1_readSkill_45 : decode cX1_readSkill 45 = .ok (.aload_n 1, 1) := by decide +kernel
theorem dX1_readSkill_46 : decode cX1_readSkill 46 = .ok (.iconst 0, 1) := by decide +kernel
theorem dX1_readSkill_47 : decode cX1_readSkill 47 = .ok (.bipush 9, 2) := by decide +kernel
theorem dX1_readSkill_49 : decode cX1_readSkill 49 = .ok (.invokevirtual 83, 3) := by decide +kernel
theorem dX1_readSkill_52 : decode cX1_readSkill 52 = .ok (.istore 4, 2) := by decide +kernel
theorem dX1_readSkill_54 : decode cX1_readSkill 54 = .ok (.iload 4, 2) := by decide +kernel
theorem dX1_readSkill_56 : decode cX1_readSkill 56 = .ok (.bipush (-9), 2) := by decide +kernel
theorem dX1_readSkill_58 : decode cX1_readSkill 58 = .ok (.if_icmp .ne 5, 3) := by decide +kernel
theorem dX1_readSkill_61 : decode cX1_readSkill 61 = .ok (.iconst 0, 1) := by decide +kernel
theorem dX1_readSkill_62 : decode cX1_readSkill 62 = .ok (.ireturn, 1) := by decide +kernel
theorem dX1_readSkill_63 : decode cX1_readSkill 63 = .ok (.aload_n 0, 1) := by decide +kernel
theorem dX1_readSkill_64 : decode cX1_readSkill 64 = .ok (.getfield 28, 3) := by decide +kernel
theorem dX1_readSkill_67 : decode cX1_readSkill 67 = .ok (.iload_n 2, 1) := by decide +kernel
theorem dX1_readSkill_68 : decode cX1_readSkill 68 = .ok (.iload_n 3, 1) := by decide +kernel
theorem dX1_readSkill_69 : decode cX1_readSkill 69 = .ok (.invokestatic 87, 3) := by decide +kernel
theorem dX1_readSkill_72 : decode cX1_readSkill 72 = .ok (.iload 4, 2) := by decide +kernel
theorem dX1_readSkill_74 : decode cX1_readSkill 74 = .ok (.iastore, 1) := by decide +kernel
theorem dX1_readSkill_75 : decode cX1_readSkill 75 = .ok (.iconst 1, 1) := by decide +kernel
theorem dX1_readSkill_76 : decode cX1_readSkill 76 = .ok (.ireturn, 1) := by decide +kernel
set_option maxRecDepth 20000 in
theorem ggX1_readSkip_X0_number : GoodIn wsX1_readSkip wsX0_number := goodIn_r _ [9, 10, 11, 12, 8, 13, 14, 15, 16, 17, 18, 19, 20, 21, 22, 23, 33, 34, 35, 36, 37, 38] (by decide +kernel) (by decide +kernel)
set_option maxRecDepth 20000 in
theorem gX1_readSkip_X0_number : GoodIn wsX1_readSkip (wsV RX1 83 RX0 yX0_number wsX0_number) := goodIn_app (goodIn_of _ (by decide +kernel)) ggX1_readSkip_X0_number
theorem dX1_readSkip_0 : decode cX1_readSkip 0 = .ok (.aload_n 0, 1) := by decide +kernel
theorem dX1_readSkip_1 : decode cX1_readSkip 1 = .ok (.iconst 1, 1) := by decide +kernel
theorem dX1_readSkip_2 : decode cX1_readSkip 2 = .ok (.putfield 37, 3) := by decide +kernel
theorem dX1_readSkip_5 : decode cX1_readSkip 5 = .ok (.aload_n 1, 1) := by decide +kernel
theorem dX1_readSkip_6 : decode cX1_readSkip 6 = .ok (.iconst 0, 1) := by decide +kernel
theorem dX1_readSkip_7 : decode cX1_readSkip 7 = .ok (.aload_n 0, 1) := by decide +kernel
theorem dX1_readSkip_8 : decode cX1_readSkip 8 = .ok (.getfield 15, 3) := by decide +kernel
theorem dX1_readSkip_11 : decode cX1_readSkip 11 = .ok (.iconst 1, 1) := by decide +kernel
theorem dX1_readSkip_12 : decode cX1_readSkip 12 = .ok (.isub, 1) := by decide +kernel
theorem dX1_readSkip_13 : decode cX1_readSkip 13 = .ok (.invokevirtual 83, 3) := by decide +kernel
theorem dX1_readSkip_16 : decode cX1_readSkip 16 = .ok (.istore_n 2, 1) := by decide +kernel
theorem dX1_readSkip_17 : decode cX1_readSkip 17 = .ok (.iload_n 2, 1) := by decide +kernel
theorem dX1_readSkip_18 : decode cX1_readSkip 18 = .ok (.bipush (-9), 2) := by decide +kernel
theorem dX1_readSkip_20 : decode cX1_readSkip 20 = .ok (.if_icmp .ne 5, 3) := by decide +kernel
theorem dX1_readSkip_23 : decode cX1_readSkip 23 = .ok (.iconst 0, 1) := by decide +kernel
theorem dX1_readSkip_24 : decode cX1_readSkip 24 = .ok (.ireturn, 1) := by decide +kernel
theorem dX1_readSkip_25 : decode cX1_readSkip 25 = .ok (.aload_n 1, 1) := by decide +kernel
theorem dX1_readSkip_26 : decode cX1_readSkip 26 = .ok (.iconst 0, 1) := by decide +kernel
theorem dX1_readSkip_27 : decode cX1_readSkip 27 = .ok (.aload_n 0, 1) := by decide +kernel
theorem dX1_readSkip_28 : decode cX1_readSkip 28 = .ok (.getfield 9, 3) := by decide +kernel
theorem dX1_readSkip_31 : decode cX1_readSkip 31 = .ok (.iconst 1, 1) := by decide +kernel
theorem dX1_readSkip_32 : decode cX1_readSkip 32 = .ok (.isub, 1) := by decide +kernel
theorem dX1_readSkip_33 : decode cX1_readSkip 33 = .ok (.invokevirtual 83, 3) := by decide +kernel
theorem dX1_readSkip_36 : decode cX1_readSkip 36 = .ok (.istore_n 3, 1) := by decide +kernel
theorem dX1_readSkip_37 : decode cX1_readSkip 37 = .ok (.iload_n 3, 1) := by decide +kernel
theorem dX1_readSkip_38 : decode cX1_readSkip 38 = .ok (.bipush (-9), 2) := by decide +kernel
theorem dX1_readSkip_40 : decode cX1_readSkip 40 = .ok (.if_icmp .ne 5, 3) := by decide +kernel
theorem dX1_readSkip_43 : decode cX1_readSkip 43 = .ok (.iconst 0, 1) := by decide +kernel
theorem dX1_readSkip_44 : decode cX1_readSkip 44 = .ok (.ireturn, 1) := by decide +kernel
theorem dX1_readSkip_45 : decode cX1_readSkip 45 = .ok (.aload_n 0, 1) := by decide +kernel
theorem dX1_readSkip_46 : decode cX1_readSkip 46 = .ok (.getfield 25, 3) := by decide +kernel
theorem dX1_readSkip_49 : decode cX1_readSkip 49 = .ok (.iload_n 2, 1) := by decide +kernel
theorem dX1_readSkip_50 : decode cX1_readSkip 50 = .ok (.dup2, 1) := by decide +kernel
theorem dX1_readSkip_51 : decode cX1_readSkip 51 = .ok (.iaload, 1) := by decide +kernel
theorem dX1_readSkip_52 : decode cX1_readSkip 52 = .ok (.iconst 1, 1) := by decide +kernel
theorem dX1_readSkip_53 : decode cX1_readSkip 53 = .ok (.iload_n 3, 1) := by decide +kernel
theorem dX1_readSkip_54 : decode cX1_readSkip 54 = .ok (.ishl, 1) := by decide +kernel
theorem dX1_readSkip_55 : decode cX1_readSkip 55 = .ok (.ior, 1) := by decide +kernel
theorem dX1_readSkip_56 : decode cX1_readSkip 56 = .ok (.iastore, 1) := by decide +kernel
theorem dX1_readSkip_57 : decode cX1_readSkip 57 = .ok (.iconst 1, 1) := by decide +kernel
theorem dX1_readSkip_58 : decode cX1_readSkip 58 = .ok (.ireturn, 1) := by decide +kernel
set_option maxRecDepth 20000 in
theorem ggX1_readPlace_X0_number : GoodIn wsX1_readPlace wsX0_number := goodIn_r _ [9, 10, 11, 12, 8, 13, 14, 15, 16, 17, 18, 19, 20, 21, 22, 23, 33, 34, 35, 36, 37, 38] (by decide +kernel) (by decide +kernel)
set_option maxRecDepth 20000 in
theorem gX1_readPlace_X0_number : GoodIn wsX1_readPlace (wsV RX1 83 RX0 yX0_number wsX0_number) := goodIn_app (goodIn_of _ (by decide +kernel)) ggX1_readPlace_X0_number
theorem dX1_readPlace_0 : decode cX1_readPlace 0 = .ok (.aload_n 0, 1) := by decide +kernel
theorem dX1_readPlace_1 : decode cX1_readPlace 1 = .ok (.iconst 1, 1) := by decide +kernel
theorem dX1_readPlace_2 : decode cX1_readPlace 2 = .ok (.putfield 37, 3) := by decide +kernel
theorem dX1_readPlace_5 : decode cX1_readPlace 5 = .ok (.aload_n 1, 1) := by decide +kernel
theorem dX1_readPlace_6 : decode cX1_readPlace 6 = .ok (.iconst 0, 1) := by decide +kernel
theorem dX1_readPlace_7 : decode cX1_readPlace 7 = .ok (.aload_n 0, 1) := by decide +kernel
theorem dX1_readPlace_8 : decode cX1_readPlace 8 = .ok (.getfield 15, 3) := by decide +kernel
theorem dX1_readPlace_11 : decode cX1_readPlace 11 = .ok (.iconst 1, 1) := by decide +kernel
theorem dX1_readPlace_12 : decode cX1_readPlace 12 = .ok (.isub, 1) := by decide +kernel
theorem dX1_readPlace_13 : decode cX1_readPlace 13 = .ok (.invokevirtual 83, 3) := by decide +kernel
theorem dX1_readPlace_16 : decode cX1_readPlace 16 = .ok (.istore_n 2, 1) := by decide +kernel
theorem dX1_readPlace_17 : decode cX1_readPlace 17 = .ok (.iload_n 2, 1) := by decide +kernel
theorem dX1_readPlace_18 : decode cX1_readPlace 18 = .ok (.bipush (-9), 2) := by decide +kernel
theorem dX1_readPlace_20 : decode cX1_readPlace 20 = .ok (.if_icmp .ne 5, 3) := by decide +kernel
theorem dX1_readPlace_23 : decode cX1_readPlace 23 = .ok (.iconst 0, 1) := by decide +kernel
theorem dX1_readPlace_24 : decode cX1_readPlace 24 = .ok (.ireturn, 1) := by decide +kernel
theorem dX1_readPlace_25 : decode cX1_readPlace 25 = .ok (.aload_n 1, 1) := by decide +kernel
theorem dX1_readPlace_26 : decode cX1_readPlace 26 = .ok (.iconst 0, 1) := by decide +kernel
theorem dX1_readPlace_27 : decode cX1_readPlace 27 = .ok (.aload_n 0, 1) := by decide +kernel
theorem dX1_readPlace_28 : decode cX1_readPlace 28 = .ok (.getfield 9, 3) := by decide +kernel
theorem dX1_readPlace_31 : decode cX1_readPlace 31 = .ok (.iconst 1, 1) := by decide +kernel
theorem dX1_readPlace_32 : decode cX1_readPlace 32 = .ok (.isub, 1) := by decide +kernel
theorem dX1_readPlace_33 : decode cX1_readPlace 33 = .ok (.invokevirtual 83, 3) := by decide +kernel
theorem dX1_readPlace_36 : decode cX1_readPlace 36 = .ok (.istore_n 3, 1) := by decide +kernel
theorem dX1_readPlace_37 : decode cX1_readPlace 37 = .ok (.iload_n 3, 1) := by decide +kernel
theorem dX1_readPlace_38 : decode cX1_readPlace 38 = .ok (.bipush (-9), 2) := by decide +kernel
theorem dX1_readPlace_40 : decode cX1_readPlace 40 = .ok (.if_icmp .ne 5, 3) := by decide +kernel
theorem dX1_readPlace_43 : decode cX1_readPlace 43 = .ok (.iconst 0, 1) := by decide +kernel
theorem dX1_readPlace_44 : decode cX1_readPlace 44 = .ok (.ireturn, 1) := by decide +kernel
theorem dX1_readPlace_45 : decode cX1_readPlace 45 = .ok (.aload_n 0, 1) := by decide +kernel
theorem dX1_readPlace_46 : decode cX1_readPlace 46 = .ok (.getfield 31, 3) := by decide +kernel
theorem dX1_readPlace_49 : decode cX1_readPlace 49 = .ok (.iload_n 2, 1) := by decide +kernel
theorem dX1_readPlace_50 : decode cX1_readPlace 50 = .ok (.iload_n 3, 1) := by decide +kernel
theorem dX1_readPlace_51 : decode cX1_readPlace 51 = .ok (.iastore, 1) := by decide +kernel
theorem dX1_readPlace_52 : decode cX1_readPlace 52 = .ok (.iconst 1, 1) := by decide +kernel
theorem dX1_readPlace_53 : decode cX1_readPlace 53 = .ok (.ireturn, 1) := by decide +kernel
set_option maxRecDepth 20000 in
theorem ggX1_readWheel_X0_token : GoodIn wsX1_readWheel wsX0_token := goodIn_r _ [8, 9, 10, 28, 29, 30, 31, 32, 33] (by decide +kernel) (by decide +kernel)
set_option maxRecDepth 20000 in
theorem gX1_readWheel_X0_token : GoodIn wsX1_readWheel (wsV RX1 44 RX0 yX0_token wsX0_token) := goodIn_app (goodIn_of _ (by decide +kernel)) ggX1_readWheel_X0_token
set_option maxRecDepth 20000 in
theorem ggX1_readWheel_X4_within : GoodIn wsX1_readWheel wsX4_within := goodIn_r _ [13] (by decide +kernel) (by decide +kernel)
set_option maxRecDepth 20000 in
theorem gX1_readWheel_X4_within_n90 : GoodIn wsX1_readWheel (wsX4_within) := ggX1_readWheel_X4_within
set_option maxRecDepth 20000 in
theorem ggX1_readWheel_X0_pass : GoodIn wsX1_readWheel wsX0_pass := goodIn_r _ [17, 10, 18, 28, 29, 30, 31, 32, 33] (by decide +kernel) (by decide +kernel)
set_option maxRecDepth 20000 in
theorem gX1_readWheel_X0_pass : GoodIn wsX1_readWheel (wsV RX1 54 RX0 yX0_pass wsX0_pass) := goodIn_app (goodIn_of _ (by decide +kernel)) ggX1_readWheel_X0_pass
theorem dX1_readWheel_0 : decode cX1_readWheel 0 = .ok (.aload_n 0, 1) := by decide +kernel
theorem dX1_readWheel_1 : decode cX1_readWheel 1 = .ok (.iconst 1, 1) := by decide +kernel
theorem dX1_readWheel_2 : decode cX1_readWheel 2 = .ok (.putfield 37, 3) := by decide +kernel
theorem dX1_readWheel_5 : decode cX1_readWheel 5 = .ok (.iconst 0, 1) := by decide +kernel
theorem dX1_readWheel_6 : decode cX1_readWheel 6 = .ok (.istore_n 2, 1) := by decide +kernel
theorem dX1_readWheel_7 : decode cX1_readWheel 7 = .ok (.iconst 0, 1) := by decide +kernel
theorem dX1_readWheel_8 : decode cX1_readWheel 8 = .ok (.istore_n 3, 1) := by decide +kernel
theorem dX1_readWheel_9 : decode cX1_readWheel 9 = .ok (.iload_n 3, 1) := by decide +kernel
theorem dX1_readWheel_10 : decode cX1_readWheel 10 = .ok (.aload_n 0, 1) := by decide +kernel
theorem dX1_readWheel_11 : decode cX1_readWheel 11 = .ok (.getfield 9, 3) := by decide +kernel
theorem dX1_readWheel_14 : decode cX1_readWheel 14 = .ok (.if_icmp .ge 60, 3) := by decide +kernel
theorem dX1_readWheel_17 : decode cX1_readWheel 17 = .ok (.aload_n 1, 1) := by decide +kernel
theorem dX1_readWheel_18 : decode cX1_readWheel 18 = .ok (.invokevirtual 44, 3) := by decide +kernel
theorem dX1_readWheel_21 : decode cX1_readWheel 21 = .ok (.istore 4, 2) := by decide +kernel
theorem dX1_readWheel_23 : decode cX1_readWheel 23 = .ok (.iload 4, 2) := by decide +kernel
theorem dX1_readWheel_25 : decode cX1_readWheel 25 = .ok (.iconst 0, 1) := by decide +kernel
theorem dX1_readWheel_26 : decode cX1_readWheel 26 = .ok (.aload_n 0, 1) := by decide +kernel
theorem dX1_readWheel_27 : decode cX1_readWheel 27 = .ok (.getfield 9, 3) := by decide +kernel
theorem dX1_readWheel_30 : decode cX1_readWheel 30 = .ok (.iconst 1, 1) := by decide +kernel
theorem dX1_readWheel_31 : decode cX1_readWheel 31 = .ok (.isub, 1) := by decide +kernel
theorem dX1_readWheel_32 : decode cX1_readWheel 32 = .ok (.invokestatic 90, 3) := by decide +kernel
theorem dX1_readWheel_35 : decode cX1_readWheel 35 = .ok (.ifCond .eq 12, 3) := by decide +kernel
theorem dX1_readWheel_38 : decode cX1_readWheel 38 = .ok (.iload_n 2, 1) := by decide +kernel
theorem dX1_readWheel_39 : decode cX1_readWheel 39 = .ok (.iload 4, 2) := by decide +kernel
theorem dX1_readWheel_41 : decode cX1_readWheel 41 = .ok (.ishr, 1) := by decide +kernel
theorem dX1_readWheel_42 : decode cX1_readWheel 42 = .ok (.iconst 1, 1) := by decide +kernel
theorem dX1_readWheel_43 : decode cX1_readWheel 43 = .ok (.iand, 1) := by decide +kernel
theorem dX1_readWheel_44 : decode cX1_readWheel 44 = .ok (.ifCond .eq 5, 3) := by decide +kernel
theorem dX1_readWheel_47 : decode cX1_readWheel 47 = .ok (.iconst 0, 1) := by decide +kernel
theorem dX1_readWheel_48 : decode cX1_readWheel 48 = .ok (.ireturn, 1) := by decide +kernel
theorem dX1_readWheel_49 : decode cX1_readWheel 49 = .ok (.aload_n 1, 1) := by decide +kernel
theorem dX1_readWheel_50 : decode cX1_readWheel 50 = .ok (.invokevirtual 54, 3) := by decide +kernel
theorem dX1_readWheel_53 : decode cX1_readWheel 53 = .ok (.iload_n 2, 1) := by decide +kernel
theorem dX1_readWheel_54 : decode cX1_readWheel 54 = .ok (.iconst 1, 1) := by decide +kernel
theorem dX1_readWheel_55 : decode cX1_readWheel 55 = .ok (.iload 4, 2) := by decide +kernel
theorem dX1_readWheel_57 : decode cX1_readWheel 57 = .ok (.ishl, 1) := by decide +kernel
theorem dX1_readWheel_58 : decode cX1_readWheel 58 = .ok (.ior, 1) := by decide +kernel
theorem dX1_readWheel_59 : decode cX1_readWheel 59 = .ok (.istore_n 2, 1) := by decide +kernel
theorem dX1_readWheel_60 : decode cX1_readWheel 60 = .ok (.aload_n 0, 1) := by decide +kernel
theorem dX1_readWheel_61 : decode cX1_readWheel 61 = .ok (.getfield 34, 3) := by decide +kernel
theorem dX1_readWheel_64 : decode cX1_readWheel 64 = .ok (.iload_n 3, 1) := by decide +kernel
theorem dX1_readWheel_65 : decode cX1_readWheel 65 = .ok (.iload 4, 2) := by decide +kernel
theorem dX1_readWheel_67 : decode cX1_readWheel 67 = .ok (.iastore, 1) := by decide +kernel
theorem dX1_readWheel_68 : decode cX1_readWheel 68 = .ok (.iinc 3 1, 3) := by decide +kernel
theorem dX1_readWheel_71 : decode cX1_readWheel 71 = .ok (.goto (-62), 3) := by decide +kernel
theorem dX1_readWheel_74 : decode cX1_readWheel 74 = .ok (.iconst 1, 1) := by decide +kernel
theorem dX1_readWheel_75 : decode cX1_readWheel 75 = .ok (.ireturn, 1) := by decide +kernel
theorem dX2_init_0 : decode cX2_init 0 = .ok (.aload_n 0, 1) := by decide +kernel
theorem dX2_init_1 : decode cX2_init 1 = .ok (.invokespecial 1, 3) := by decide +kernel
theorem dX2_init_4 : decode cX2_init 4 = .ok (.aload_n 0, 1) := by decide +kernel
theorem dX2_init_5 : decode cX2_init 5 = .ok (.iconst 4, 1) := by decide +kernel
theorem dX2_init_6 : decode cX2_init 6 = .ok (.putfield 7, 3) := by decide +kernel
theorem dX2_init_9 : decode cX2_init 9 = .ok (.aload_n 0, 1) := by decide +kernel
theorem dX2_init_10 : decode cX2_init 10 = .ok (.iconst 5, 1) := by decide +kernel
theorem dX2_init_11 : decode cX2_init 11 = .ok (.putfield 13, 3) := by decide +kernel
theorem dX2_init_14 : decode cX2_init 14 = .ok (.aload_n 0, 1) := by decide +kernel
theorem dX2_init_15 : decode cX2_init 15 = .ok (.bipush 10, 2) := by decide +kernel
theorem dX2_init_17 : decode cX2_init 17 = .ok (.putfield 16, 3) := by decide +kernel
theorem dX2_init_20 : decode cX2_init 20 = .ok (.return_, 1) := by decide +kernel
theorem dX3_init_0 : decode cX3_init 0 = .ok (.aload_n 0, 1) := by decide +kernel
theorem dX3_init_1 : decode cX3_init 1 = .ok (.invokespecial 3, 3) := by decide +kernel
theorem dX3_init_4 : decode cX3_init 4 = .ok (.aload_n 0, 1) := by decide +kernel
theorem dX3_init_5 : decode cX3_init 5 = .ok (.iconst 0, 1) := by decide +kernel
theorem dX3_init_6 : decode cX3_init 6 = .ok (.putfield 9, 3) := by decide +kernel
theorem dX3_init_9 : decode cX3_init 9 = .ok (.aload_n 0, 1) := by decide +kernel
theorem dX3_init_10 : decode cX3_init 10 = .ok (.iconst 0, 1) := by decide +kernel
theorem dX3_init_11 : decode cX3_init 11 = .ok (.putfield 15, 3) := by decide +kernel
theorem dX3_init_14 : decode cX3_init 14 = .ok (.aload_n 0, 1) := by decide +kernel
theorem dX3_init_15 : decode cX3_init 15 = .ok (.iconst 0, 1) := by decide +kernel
theorem dX3_init_16 : decode cX3_init 16 = .ok (.putfield 18, 3) := by decide +kernel
theorem dX3_init_19 : decode cX3_init 19 = .ok (.aload_n 0, 1) := by decide +kernel
theorem dX3_init_20 : decode cX3_init 20 = .ok (.bipush 36, 2) := by decide +kernel
theorem dX3_init_22 : decode cX3_init 22 = .ok (.newarray .int, 2) := by decide +kernel
theorem dX3_init_24 : decode cX3_init 24 = .ok (.putfield 21, 3) := by decide +kernel
theorem dX3_init_27 : decode cX3_init 27 = .ok (.aload_n 0, 1) := by decide +kernel
theorem dX3_init_28 : decode cX3_init 28 = .ok (.bipush 6, 2) := by decide +kernel
theorem dX3_init_30 : decode cX3_init 30 = .ok (.newarray .int, 2) := by decide +kernel
theorem dX3_init_32 : decode cX3_init 32 = .ok (.putfield 25, 3) := by decide +kernel
theorem dX3_init_35 : decode cX3_init 35 = .ok (.aload_n 0, 1) := by decide +kernel
theorem dX3_init_36 : decode cX3_init 36 = .ok (.bipush 6, 2) := by decide +kernel
theorem dX3_init_38 : decode cX3_init 38 = .ok (.newarray .int, 2) := by decide +kernel
theorem dX3_init_40 : decode cX3_init 40 = .ok (.putfield 28, 3) := by decide +kernel
theorem dX3_init_43 : decode cX3_init 43 = .ok (.aload_n 0, 1) := by decide +kernel
theorem dX3_init_44 : decode cX3_init 44 = .ok (.bipush 6, 2) := by decide +kernel
theorem dX3_init_46 : decode cX3_init 46 = .ok (.newarray .int, 2) := by decide +kernel
theorem dX3_init_48 : decode cX3_init 48 = .ok (.putfield 31, 3) := by decide +kernel
theorem dX3_init_51 : decode cX3_init 51 = .ok (.aload_n 0, 1) := by decide +kernel
theorem dX3_init_52 : decode cX3_init 52 = .ok (.bipush 6, 2) := by decide +kernel
theorem dX3_init_54 : decode cX3_init 54 = .ok (.newarray .int, 2) := by decide +kernel
theorem dX3_init_56 : decode cX3_init 56 = .ok (.putfield 34, 3) := by decide +kernel
theorem dX3_init_59 : decode cX3_init 59 = .ok (.aload_n 0, 1) := by decide +kernel
theorem dX3_init_60 : decode cX3_init 60 = .ok (.bipush 36, 2) := by decide +kernel
theorem dX3_init_62 : decode cX3_init 62 = .ok (.newarray .int, 2) := by decide +kernel
theorem dX3_init_64 : decode cX3_init 64 = .ok (.putfield 37, 3) := by decide +kernel
theorem dX3_init_67 : decode cX3_init 67 = .ok (.aload_n 0, 1) := by decide +kernel
theorem dX3_init_68 : decode cX3_init 68 = .ok (.bipush 6, 2) := by decide +kernel
theorem dX3_init_70 : decode cX3_init 70 = .ok (.newarray .int, 2) := by decide +kernel
theorem dX3_init_72 : decode cX3_init 72 = .ok (.putfield 40, 3) := by decide +kernel
theorem dX3_init_75 : decode cX3_init 75 = .ok (.aload_n 0, 1) := by decide +kernel
theorem dX3_init_76 : decode cX3_init 76 = .ok (.bipush 6, 2) := by decide +kernel
theorem dX3_init_78 : decode cX3_init 78 = .ok (.newarray .int, 2) := by decide +kernel
theorem dX3_init_80 : decode cX3_init 80 = .ok (.putfield 43, 3) := by decide +kernel
theorem dX3_init_83 : decode cX3_init 83 = .ok (.return_, 1) := by decide +kernel
theorem dX3_startAs_0 : decode cX3_startAs 0 = .ok (.aload_n 0, 1) := by decide +kernel
theorem dX3_startAs_1 : decode cX3_startAs 1 = .ok (.iconst 0, 1) := by decide +kernel
theorem dX3_startAs_2 : decode cX3_startAs 2 = .ok (.putfield 9, 3) := by decide +kernel
theorem dX3_startAs_5 : decode cX3_startAs 5 = .ok (.aload_n 0, 1) := by decide +kernel
theorem dX3_startAs_6 : decode cX3_startAs 6 = .ok (.iconst 0, 1) := by decide +kernel
theorem dX3_startAs_7 : decode cX3_startAs 7 = .ok (.putfield 15, 3) := by decide +kernel
theorem dX3_startAs_10 : decode cX3_startAs 10 = .ok (.aload_n 0, 1) := by decide +kernel
theorem dX3_startAs_11 : decode cX3_startAs 11 = .ok (.iconst 0, 1) := by decide +kernel
theorem dX3_startAs_12 : decode cX3_startAs 12 = .ok (.putfield 18, 3) := by decide +kernel
theorem dX3_startAs_15 : decode cX3_startAs 15 = .ok (.aload_n 1, 1) := by decide +kernel
theorem dX3_startAs_16 : decode cX3_startAs 16 = .ok (.getfield 46, 3) := by decide +kernel
theorem dX3_startAs_19 : decode cX3_startAs 19 = .ok (.iconst 0, 1) := by decide +kernel
theorem dX3_startAs_20 : decode cX3_startAs 20 = .ok (.aload_n 0, 1) := by decide +kernel
theorem dX3_startAs_21 : decode cX3_startAs 21 = .ok (.getfield 21, 3) := by decide +kernel
theorem dX3_startAs_24 : decode cX3_startAs 24 = .ok (.iconst 0, 1) := by decide +kernel
theorem dX3_startAs_25 : decode cX3_startAs 25 = .ok (.aload_n 0, 1) := by decide +kernel
theorem dX3_startAs_26 : decode cX3_startAs 26 = .ok (.getfield 21, 3) := by decide +kernel
theorem dX3_startAs_29 : decode cX3_startAs 29 = .ok (.arraylength, 1) := by decide +kernel
theorem dX3_startAs_30 : decode cX3_startAs 30 = .ok (.invokestatic 49, 3) := by decide +kernel
theorem dX3_startAs_33 : decode cX3_startAs 33 = .ok (.aload_n 1, 1) := by decide +kernel
theorem dX3_startAs_34 : decode cX3_startAs 34 = .ok (.getfield 55, 3) := by decide +kernel
theorem dX3_startAs_37 : decode cX3_startAs 37 = .ok (.iconst 0, 1) := by decide +kernel
theorem dX3_startAs_38 : decode cX3_startAs 38 = .ok (.aload_n 0, 1) := by decide +kernel
theorem dX3_startAs_39 : decode cX3_startAs 39 = .ok (.getfield 25, 3) := by decide +kernel
theorem dX3_startAs_42 : decode cX3_startAs 42 = .ok (.iconst 0, 1) := by decide +kernel
theorem dX3_startAs_43 : decode cX3_startAs 43 = .ok (.bipush 6, 2) := by decide +kernel
theorem dX3_startAs_45 : decode cX3_startAs 45 = .ok (.invokestatic 49, 3) := by decide +kernel
theorem dX3_startAs_48 : decode cX3_startAs 48 = .ok (.aload_n 1, 1) := by decide +kernel
theorem dX3_startAs_49 : decode cX3_startAs 49 = .ok (.getfield 56, 3) := by decide +kernel
theorem dX3_startAs_52 : decode cX3_startAs 52 = .ok (.iconst 0, 1) := by decide +kernel
theorem dX3_startAs_53 : decode cX3_startAs 53 = .ok (.aload_n 0, 1) := by decide +kernel
theorem dX3_startAs_54 : decode cX3_startAs 54 = .ok (.getfield 40, 3) := by decide +kernel
theorem dX3_startAs_57 : decode cX3_startAs 57 = .ok (.iconst 0, 1) := by decide +kernel
theorem dX3_startAs_58 : decode cX3_startAs 58 = .ok (.bipush 6, 2) := by decide +kernel
theorem dX3_startAs_60 : decode cX3_startAs 60 = .ok (.invokestatic 49, 3) := by decide +kernel
theorem dX3_startAs_63 : decode cX3_startAs 63 = .ok (.iconst 0, 1) := by decide +kernel
theorem dX3_startAs_64 : decode cX3_startAs 64 = .ok (.istore_n 2, 1) := by decide +kernel
theorem dX3_startAs_65 : decode cX3_startAs 65 = .ok (.iload_n 2, 1) := by decide +kernel
theorem dX3_startAs_66 : decode cX3_startAs 66 = .ok (.bipush 6, 2) := by decide +kernel
theorem dX3_startAs_68 : decode cX3_startAs 68 = .ok (.if_icmp .ge 23, 3) := by decide +kernel
theorem dX3_startAs_71 : decode cX3_startAs 71 = .ok (.aload_n 0, 1) := by decide +kernel
theorem dX3_startAs_72 : decode cX3_startAs 72 = .ok (.getfield 28, 3) := by decide +kernel
theorem dX3_startAs_75 : decode cX3_startAs 75 = .ok (.iload_n 2, 1) := by decide +kernel
theorem dX3_startAs_76 : decode cX3_startAs 76 = .ok (.iconst 0, 1) := by decide +kernel
theorem dX3_startAs_77 : decode cX3_startAs 77 = .ok (.iastore, 1) := by decide +kernel
theorem dX3_startAs_78 : decode cX3_startAs 78 = .ok (.aload_n 0, 1) := by decide +kernel
theorem dX3_startAs_79 : decode cX3_startAs 79 = .ok (.getfield 31, 3) := by decide +kernel
theorem dX3_startAs_82 : decode cX3_startAs 82 = .ok (.iload_n 2, 1) := by decide +kernel
theorem dX3_startAs_83 : decode cX3_startAs 83 = .ok (.iconst 0, 1) := by decide +kernel
theorem dX3_startAs_84 : decode cX3_startAs 84 = .ok (.iastore, 1) := by decide +kernel
theorem dX3_startAs_85 : decode cX3_startAs 85 = .ok (.iinc 2 1, 3) := by decide +kernel
theorem dX3_startAs_88 : decode cX3_startAs 88 = .ok (.goto (-23), 3) := by decide +kernel
theorem dX3_startAs_91 : decode cX3_startAs 91 = .ok (.iconst 0, 1) := by decide +kernel
theorem dX3_startAs_92 : decode cX3_startAs 92 = .ok (.istore_n 2, 1) := by decide +kernel
theorem dX3_startAs_93 : decode cX3_startAs 93 = .ok (.iload_n 2, 1) := by decide +kernel
theorem dX3_startAs_94 : decode cX3_startAs 94 = .ok (.bipush 6, 2) := by decide +kernel
theorem dX3_startAs_96 : decode cX3_startAs 96 = .ok (.if_icmp .ge 17, 3) := by decide +kernel
theorem dX3_startAs_99 : decode cX3_startAs 99 = .ok (.aload_n 0, 1) := by decide +kernel
theorem dX3_startAs_100 : decode cX3_startAs 100 = .ok (.getfield 34, 3) := by decide +kernel
theorem dX3_startAs_103 : decode cX3_startAs 103 = .ok (.iload_n 2, 1) := by decide +kernel
theorem dX3_startAs_104 : decode cX3_startAs 104 = .ok (.bipush (-9), 2) := by decide +kernel
theorem dX3_startAs_106 : decode cX3_startAs 106 = .ok (.iastore, 1) := by decide +kernel
theorem dX3_startAs_107 : decode cX3_startAs 107 = .ok (.iinc 2 1, 3) := by decide +kernel
theorem dX3_startAs_110 : decode cX3_startAs 110 = .ok (.goto (-17), 3) := by decide +kernel
theorem dX3_startAs_113 : decode cX3_startAs 113 = .ok (.iconst 0, 1) := by decide +kernel
theorem dX3_startAs_114 : decode cX3_startAs 114 = .ok (.istore_n 2, 1) := by decide +kernel
theorem dX3_startAs_115 : decode cX3_startAs 115 = .ok (.iload_n 2, 1) := by decide +kernel
theorem dX3_startAs_116 : decode cX3_startAs 116 = .ok (.aload_n 0, 1) := by decide +kernel
theorem dX3_startAs_117 : decode cX3_startAs 117 = .ok (.getfield 37, 3) := by decide +kernel
theorem dX3_startAs_120 : decode cX3_startAs 120 = .ok (.arraylength, 1) := by decide +kernel
theorem dX3_startAs_121 : decode cX3_startAs 121 = .ok (.if_icmp .ge 16, 3) := by decide +kernel
theorem dX3_startAs_124 : decode cX3_startAs 124 = .ok (.aload_n 0, 1) := by decide +kernel
theorem dX3_startAs_125 : decode cX3_startAs 125 = .ok (.getfield 37, 3) := by decide +kernel
theorem dX3_startAs_128 : decode cX3_startAs 128 = .ok (.iload_n 2, 1) := by decide +kernel
theorem dX3_startAs_129 : decode cX3_startAs 129 = .ok (.iconst 0, 1) := by decide +kernel
theorem dX3_startAs_130 : decode cX3_startAs 130 = .ok (.iastore, 1) := by decide +kernel
theorem dX3_startAs_131 : decode cX3_startAs 131 = .ok (.iinc 2 1, 3) := by decide +kernel
theorem dX3_startAs_134 : decode cX3_startAs 134 = .ok (.goto (-19), 3) := by decide +kernel
theorem dX3_startAs_137 : decode cX3_startAs 137 = .ok (.return_, 1) := by decide +kernel
theorem dX3_becomes_0 : decode cX3_becomes 0 = .ok (.aload_n 0, 1) := by decide +kernel
theorem dX3_becomes_1 : decode cX3_becomes 1 = .ok (.aload_n 1, 1) := by decide +kernel
theorem dX3_becomes_2 : decode cX3_becomes 2 = .ok (.getfield 9, 3) := by decide +kernel
theorem dX3_becomes_5 : decode cX3_becomes 5 = .ok (.putfield 9, 3) := by decide +kernel
theorem dX3_becomes_8 : decode cX3_becomes 8 = .ok (.aload_n 0, 1) := by decide +kernel
theorem dX3_becomes_9 : decode cX3_becomes 9 = .ok (.aload_n 1, 1) := by decide +kernel
theorem dX3_becomes_10 : decode cX3_becomes 10 = .ok (.getfield 15, 3) := by decide +kernel
theorem dX3_becomes_13 : decode cX3_becomes 13 = .ok (.putfield 15, 3) := by decide +kernel
theorem dX3_becomes_16 : decode cX3_becomes 16 = .ok (.aload_n 0, 1) := by decide +kernel
theorem dX3_becomes_17 : decode cX3_becomes 17 = .ok (.aload_n 1, 1) := by decide +kernel
theorem dX3_becomes_18 : decode cX3_becomes 18 = .ok (.getfield 18, 3) := by decide +kernel
theorem dX3_becomes_21 : decode cX3_becomes 21 = .ok (.putfield 18, 3) := by decide +kernel
theorem dX3_becomes_24 : decode cX3_becomes 24 = .ok (.aload_n 1, 1) := by decide +kernel
theorem dX3_becomes_25 : decode cX3_becomes 25 = .ok (.getfield 21, 3) := by decide +kernel
theorem dX3_becomes_28 : decode cX3_becomes 28 = .ok (.iconst 0, 1) := by decide +kernel
theorem dX3_becomes_29 : decode cX3_becomes 29 = .ok (.aload_n 0, 1) := by decide +kernel
theorem dX3_becomes_30 : decode cX3_becomes 30 = .ok (.getfield 21, 3) := by decide +kernel
theorem dX3_becomes_33 : decode cX3_becomes 33 = .ok (.iconst 0, 1) := by decide +kernel
theorem dX3_becomes_34 : decode cX3_becomes 34 = .ok (.aload_n 0, 1) := by decide +kernel
theorem dX3_becomes_35 : decode cX3_becomes 35 = .ok (.getfield 21, 3) := by decide +kernel
theorem dX3_becomes_38 : decode cX3_becomes 38 = .ok (.arraylength, 1) := by decide +kernel
theorem dX3_becomes_39 : decode cX3_becomes 39 = .ok (.invokestatic 49, 3) := by decide +kernel
theorem dX3_becomes_42 : decode cX3_becomes 42 = .ok (.aload_n 1, 1) := by decide +kernel
theorem dX3_becomes_43 : decode cX3_becomes 43 = .ok (.getfield 25, 3) := by decide +kernel
theorem dX3_becomes_46 : decode cX3_becomes 46 = .ok (.iconst 0, 1) := by decide +kernel
theorem dX3_becomes_47 : decode cX3_becomes 47 = .ok (.aload_n 0, 1) := by decide +kernel
theorem dX3_becomes_48 : decode cX3_becomes 48 = .ok (.getfield 25, 3) := by decide +kernel
theorem dX3_becomes_51 : decode cX3_becomes 51 = .ok (.iconst 0, 1) := by decide +kernel
theorem dX3_becomes_52 : decode cX3_becomes 52 = .ok (.bipush 6, 2) := by decide +kernel
theorem dX3_becomes_54 : decode cX3_becomes 54 = .ok (.invokestatic 49, 3) := by decide +kernel
theorem dX3_becomes_57 : decode cX3_becomes 57 = .ok (.aload_n 1, 1) := by decide +kernel
theorem dX3_becomes_58 : decode cX3_becomes 58 = .ok (.getfield 28, 3) := by decide +kernel
theorem dX3_becomes_61 : decode cX3_becomes 61 = .ok (.iconst 0, 1) := by decide +kernel
theorem dX3_becomes_62 : decode cX3_becomes 62 = .ok (.aload_n 0, 1) := by decide +kernel
theorem dX3_becomes_63 : decode cX3_becomes 63 = .ok (.getfield 28, 3) := by decide +kernel
theorem dX3_becomes_66 : decode cX3_becomes 66 = .ok (.iconst 0, 1) := by decide +kernel
theorem dX3_becomes_67 : decode cX3_becomes 67 = .ok (.bipush 6, 2) := by decide +kernel
theorem dX3_becomes_69 : decode cX3_becomes 69 = .ok (.invokestatic 49, 3) := by decide +kernel
theorem dX3_becomes_72 : decode cX3_becomes 72 = .ok (.aload_n 1, 1) := by decide +kernel
theorem dX3_becomes_73 : decode cX3_becomes 73 = .ok (.getfield 31, 3) := by decide +kernel
theorem dX3_becomes_76 : decode cX3_becomes 76 = .ok (.iconst 0, 1) := by decide +kernel
theorem dX3_becomes_77 : decode cX3_becomes 77 = .ok (.aload_n 0, 1) := by decide +kernel
theorem dX3_becomes_78 : decode cX3_becomes 78 = .ok (.getfield 31, 3) := by decide +kernel
theorem dX3_becomes_81 : decode cX3_becomes 81 = .ok (.iconst 0, 1) := by decide +kernel
theorem dX3_becomes_82 : decode cX3_becomes 82 = .ok (.bipush 6, 2) := by decide +kernel
theorem dX3_becomes_84 : decode cX3_becomes 84 = .ok (.invokestatic 49, 3) := by decide +kernel
theorem dX3_becomes_87 : decode cX3_becomes 87 = .ok (.aload_n 1, 1) := by decide +kernel
theorem dX3_becomes_88 : decode cX3_becomes 88 = .ok (.getfield 34, 3) := by decide +kernel
theorem dX3_becomes_91 : decode cX3_becomes 91 = .ok (.iconst 0, 1) := by decide +kernel
theorem dX3_becomes_92 : decode cX3_becomes 92 = .ok (.aload_n 0, 1) := by decide +kernel
theorem dX3_becomes_93 : decode cX3_becomes 93 = .ok (.getfield 34, 3) := by decide +kernel
theorem dX3_becomes_96 : decode cX3_becomes 96 = .ok (.iconst 0, 1) := by decide +kernel
theorem dX3_becomes_97 : decode cX3_becomes 97 = .ok (.bipush 6, 2) := by decide +kernel
theorem dX3_becomes_99 : decode cX3_becomes 99 = .ok (.invokestatic 49, 3) := by decide +kernel
theorem dX3_becomes_102 : decode cX3_becomes 102 = .ok (.aload_n 1, 1) := by decide +kernel
theorem dX3_becomes_103 : decode cX3_becomes 103 = .ok (.getfield 37, 3) := by decide +kernel
theorem dX3_becomes_106 : decode cX3_becomes 106 = .ok (.iconst 0, 1) := by decide +kernel
theorem dX3_becomes_107 : decode cX3_becomes 107 = .ok (.aload_n 0, 1) := by decide +kernel
theorem dX3_becomes_108 : decode cX3_becomes 108 = .ok (.getfield 37, 3) := by decide +kernel
theorem dX3_becomes_111 : decode cX3_becomes 111 = .ok (.iconst 0, 1) := by decide +kernel
theorem dX3_becomes_112 : decode cX3_becomes 112 = .ok (.aload_n 0, 1) := by decide +kernel
theorem dX3_becomes_113 : decode cX3_becomes 113 = .ok (.getfield 37, 3) := by decide +kernel
theorem dX3_becomes_116 : decode cX3_becomes 116 = .ok (.arraylength, 1) := by decide +kernel
theorem dX3_becomes_117 : decode cX3_becomes 117 = .ok (.invokestatic 49, 3) := by decide +kernel
theorem dX3_becomes_120 : decode cX3_becomes 120 = .ok (.aload_n 1, 1) := by decide +kernel
theorem dX3_becomes_121 : decode cX3_becomes 121 = .ok (.getfield 40, 3) := by decide +kernel
theorem dX3_becomes_124 : decode cX3_becomes 124 = .ok (.iconst 0, 1) := by decide +kernel
theorem dX3_becomes_125 : decode cX3_becomes 125 = .ok (.aload_n 0, 1) := by decide +kernel
theorem dX3_becomes_126 : decode cX3_becomes 126 = .ok (.getfield 40, 3) := by decide +kernel
theorem dX3_becomes_129 : decode cX3_becomes 129 = .ok (.iconst 0, 1) := by decide +kernel
theorem dX3_becomes_130 : decode cX3_becomes 130 = .ok (.bipush 6, 2) := by decide +kernel
theorem dX3_becomes_132 : decode cX3_becomes 132 = .ok (.invokestatic 49, 3) := by decide +kernel
theorem dX3_becomes_135 : decode cX3_becomes 135 = .ok (.return_, 1) := by decide +kernel
theorem dX3_isIll_0 : decode cX3_isIll 0 = .ok (.aload_n 0, 1) := by decide +kernel
theorem dX3_isIll_1 : decode cX3_isIll 1 = .ok (.getfield 18, 3) := by decide +kernel
theorem dX3_isIll_4 : decode cX3_isIll 4 = .ok (.iload_n 1, 1) := by decide +kernel
theorem dX3_isIll_5 : decode cX3_isIll 5 = .ok (.ishr, 1) := by decide +kernel
theorem dX3_isIll_6 : decode cX3_isIll 6 = .ok (.iconst 1, 1) := by decide +kernel
theorem dX3_isIll_7 : decode cX3_isIll 7 = .ok (.iand, 1) := by decide +kernel
theorem dX3_isIll_8 : decode cX3_isIll 8 = .ok (.ifCond .eq 7, 3) := by decide +kernel
theorem dX3_isIll_11 : decode cX3_isIll 11 = .ok (.iconst 1, 1) := by decide +kernel
theorem dX3_isIll_12 : decode cX3_isIll 12 = .ok (.goto 4, 3) := by decide +kernel
theorem dX3_isIll_15 : decode cX3_isIll 15 = .ok (.iconst 0, 1) := by decide +kernel
theorem dX3_isIll_16 : decode cX3_isIll 16 = .ok (.ireturn, 1) := by decide +kernel
theorem dX3_fallIll_0 : decode cX3_fallIll 0 = .ok (.aload_n 0, 1) := by decide +kernel
theorem dX3_fallIll_1 : decode cX3_fallIll 1 = .ok (.dup, 1) := by decide +kernel
theorem dX3_fallIll_2 : decode cX3_fallIll 2 = .ok (.getfield 18, 3) := by decide +kernel
theorem dX3_fallIll_5 : decode cX3_fallIll 5 = .ok (.iconst 1, 1) := by decide +kernel
theorem dX3_fallIll_6 : decode cX3_fallIll 6 = .ok (.iload_n 1, 1) := by decide +kernel
theorem dX3_fallIll_7 : decode cX3_fallIll 7 = .ok (.ishl, 1) := by decide +kernel
theorem dX3_fallIll_8 : decode cX3_fallIll 8 = .ok (.ior, 1) := by decide +kernel
theorem dX3_fallIll_9 : decode cX3_fallIll 9 = .ok (.putfield 18, 3) := by decide +kernel
theorem dX3_fallIll_12 : decode cX3_fallIll 12 = .ok (.return_, 1) := by decide +kernel
theorem dX3_helpsTold_0 : decode cX3_helpsTold 0 = .ok (.iconst 0, 1) := by decide +kernel
theorem dX3_helpsTold_1 : decode cX3_helpsTold 1 = .ok (.istore_n 1, 1) := by decide +kernel
theorem dX3_helpsTold_2 : decode cX3_helpsTold 2 = .ok (.iconst 0, 1) := by decide +kernel
theorem dX3_helpsTold_3 : decode cX3_helpsTold 3 = .ok (.istore_n 2, 1) := by decide +kernel
theorem dX3_helpsTold_4 : decode cX3_helpsTold 4 = .ok (.iload_n 2, 1) := by decide +kernel
theorem dX3_helpsTold_5 : decode cX3_helpsTold 5 = .ok (.bipush 6, 2) := by decide +kernel
theorem dX3_helpsTold_7 : decode cX3_helpsTold 7 = .ok (.if_icmp .ge 23, 3) := by decide +kernel
theorem dX3_helpsTold_10 : decode cX3_helpsTold 10 = .ok (.aload_n 0, 1) := by decide +kernel
theorem dX3_helpsTold_11 : decode cX3_helpsTold 11 = .ok (.getfield 34, 3) := by decide +kernel
theorem dX3_helpsTold_14 : decode cX3_helpsTold 14 = .ok (.iload_n 2, 1) := by decide +kernel
theorem dX3_helpsTold_15 : decode cX3_helpsTold 15 = .ok (.iaload, 1) := by decide +kernel
theorem dX3_helpsTold_16 : decode cX3_helpsTold 16 = .ok (.bipush (-9), 2) := by decide +kernel
theorem dX3_helpsTold_18 : decode cX3_helpsTold 18 = .ok (.if_icmp .eq 6, 3) := by decide +kernel
theorem dX3_helpsTold_21 : decode cX3_helpsTold 21 = .ok (.iinc 1 1, 3) := by decide +kernel
theorem dX3_helpsTold_24 : decode cX3_helpsTold 24 = .ok (.iinc 2 1, 3) := by decide +kernel
theorem dX3_helpsTold_27 : decode cX3_helpsTold 27 = .ok (.goto (-23), 3) := by decide +kernel
theorem dX3_helpsTold_30 : decode cX3_helpsTold 30 = .ok (.iload_n 1, 1) := by decide +kernel
theorem dX3_helpsTold_31 : decode cX3_helpsTold 31 = .ok (.ireturn, 1) := by decide +kernel
theorem dX3_whomHelps_0 : decode cX3_whomHelps 0 = .ok (.iconst 0, 1) := by decide +kernel
theorem dX3_whomHelps_1 : decode cX3_whomHelps 1 = .ok (.istore_n 2, 1) := by decide +kernel
theorem dX3_whomHelps_2 : decode cX3_whomHelps 2 = .ok (.iload_n 2, 1) := by decide +kernel
theorem dX3_whomHelps_3 : decode cX3_whomHelps 3 = .ok (.bipush 6, 2) := by decide +kernel
theorem dX3_whomHelps_5 : decode cX3_whomHelps 5 = .ok (.if_icmp .ge 21, 3) := by decide +kernel
theorem dX3_whomHelps_8 : decode cX3_whomHelps 8 = .ok (.aload_n 0, 1) := by decide +kernel
theorem dX3_whomHelps_9 : decode cX3_whomHelps 9 = .ok (.getfield 34, 3) := by decide +kernel
theorem dX3_whomHelps_12 : decode cX3_whomHelps 12 = .ok (.iload_n 2, 1) := by decide +kernel
theorem dX3_whomHelps_13 : decode cX3_whomHelps 13 = .ok (.iaload, 1) := by decide +kernel
theorem dX3_whomHelps_14 : decode cX3_whomHelps 14 = .ok (.iload_n 1, 1) := by decide +kernel
theorem dX3_whomHelps_15 : decode cX3_whomHelps 15 = .ok (.if_icmp .ne 5, 3) := by decide +kernel
theorem dX3_whomHelps_18 : decode cX3_whomHelps 18 = .ok (.iload_n 2, 1) := by decide +kernel
theorem dX3_whomHelps_19 : decode cX3_whomHelps 19 = .ok (.ireturn, 1) := by decide +kernel
theorem dX3_whomHelps_20 : decode cX3_whomHelps 20 = .ok (.iinc 2 1, 3) := by decide +kernel
theorem dX3_whomHelps_23 : decode cX3_whomHelps 23 = .ok (.goto (-21), 3) := by decide +kernel
theorem dX3_whomHelps_26 : decode cX3_whomHelps 26 = .ok (.bipush (-9), 2) := by decide +kernel
theorem dX3_whomHelps_28 : decode cX3_whomHelps 28 = .ok (.ireturn, 1) := by decide +kernel
set_option maxRecDepth 20000 in
theorem ggX3_workplace_X1_behind : GoodIn wsX3_workplace wsX1_behind := goodIn_r _ [9, 10, 22, 23, 24, 25, 26, 27, 28, 29, 30] (by decide +kernel) (by decide +kernel)
set_option maxRecDepth 20000 in
theorem gX3_workplace_X1_behind : GoodIn wsX3_workplace (wsV RX3 63 RX1 yX1_behind wsX1_behind) := goodIn_app (goodIn_of _ (by decide +kernel)) ggX3_workplace_X1_behind
theorem dX3_workplace_0 : decode cX3_workplace 0 = .ok (.aload_n 0, 1) := by decide +kernel
theorem dX3_workplace_1 : decode cX3_workplace 1 = .ok (.getfield 25, 3) := by decide +kernel
theorem dX3_workplace_4 : decode cX3_workplace 4 = .ok (.iload_n 1, 1) := by decide +kernel
theorem dX3_workplace_5 : decode cX3_workplace 5 = .ok (.iaload, 1) := by decide +kernel
theorem dX3_workplace_6 : decode cX3_workplace 6 = .ok (.istore_n 3, 1) := by decide +kernel
theorem dX3_workplace_7 : decode cX3_workplace 7 = .ok (.iconst 0, 1) := by decide +kernel
theorem dX3_workplace_8 : decode cX3_workplace 8 = .ok (.istore 4, 2) := by decide +kernel
theorem dX3_workplace_10 : decode cX3_workplace 10 = .ok (.iload 4, 2) := by decide +kernel
theorem dX3_workplace_12 : decode cX3_workplace 12 = .ok (.aload_n 2, 1) := by decide +kernel
theorem dX3_workplace_13 : decode cX3_workplace 13 = .ok (.getfield 57, 3) := by decide +kernel
theorem dX3_workplace_16 : decode cX3_workplace 16 = .ok (.if_icmp .ge 35, 3) := by decide +kernel
theorem dX3_workplace_19 : decode cX3_workplace 19 = .ok (.aload_n 2, 1) := by decide +kernel
theorem dX3_workplace_20 : decode cX3_workplace 20 = .ok (.getfield 60, 3) := by decide +kernel
theorem dX3_workplace_23 : decode cX3_workplace 23 = .ok (.iload_n 1, 1) := by decide +kernel
theorem dX3_workplace_24 : decode cX3_workplace 24 = .ok (.iaload, 1) := by decide +kernel
theorem dX3_workplace_25 : decode cX3_workplace 25 = .ok (.aload_n 0, 1) := by decide +kernel
theorem dX3_workplace_26 : decode cX3_workplace 26 = .ok (.getfield 40, 3) := by decide +kernel
theorem dX3_workplace_29 : decode cX3_workplace 29 = .ok (.iload_n 3, 1) := by decide +kernel
theorem dX3_workplace_30 : decode cX3_workplace 30 = .ok (.iaload, 1) := by decide +kernel
theorem dX3_workplace_31 : decode cX3_workplace 31 = .ok (.ishr, 1) := by decide +kernel
theorem dX3_workplace_32 : decode cX3_workplace 32 = .ok (.iconst 1, 1) := by decide +kernel
theorem dX3_workplace_33 : decode cX3_workplace 33 = .ok (.iand, 1) := by decide +kernel
theorem dX3_workplace_34 : decode cX3_workplace 34 = .ok (.ifCond .ne 5, 3) := by decide +kernel
theorem dX3_workplace_37 : decode cX3_workplace 37 = .ok (.iload_n 3, 1) := by decide +kernel
theorem dX3_workplace_38 : decode cX3_workplace 38 = .ok (.ireturn, 1) := by decide +kernel
theorem dX3_workplace_39 : decode cX3_workplace 39 = .ok (.aload_n 2, 1) := by decide +kernel
theorem dX3_workplace_40 : decode cX3_workplace 40 = .ok (.iload_n 3, 1) := by decide +kernel
theorem dX3_workplace_41 : decode cX3_workplace 41 = .ok (.invokevirtual 63, 3) := by decide +kernel
theorem dX3_workplace_44 : decode cX3_workplace 44 = .ok (.istore_n 3, 1) := by decide +kernel
theorem dX3_workplace_45 : decode cX3_workplace 45 = .ok (.iinc 4 1, 3) := by decide +kernel
theorem dX3_workplace_48 : decode cX3_workplace 48 = .ok (.goto (-38), 3) := by decide +kernel
theorem dX3_workplace_51 : decode cX3_workplace 51 = .ok (.bipush (-9), 2) := by decide +kernel
theorem dX3_workplace_53 : decode cX3_workplace 53 = .ok (.ireturn, 1) := by decide +kernel
set_option maxRecDepth 20000 in
theorem ggX3_tradeOf_X3_workplace : GoodIn wsX3_tradeOf wsX3_workplace := goodIn_r _ [6, 7, 8, 9, 1, 10, 11, 12, 13, 14, 15, 16, 17, 18, 19, 20, 21, 22, 23, 24, 25, 26, 27, 28, 29, 30, 31, 32, 33, 34, 35] (by decide +kernel) (by decide +kernel)
set_option maxRecDepth 20000 in
theorem gX3_tradeOf_X3_workplace : GoodIn wsX3_tradeOf (wsV RX3 67 RX3 yX3_workplace wsX3_workplace) := goodIn_app (goodIn_of _ (by decide +kernel)) ggX3_tradeOf_X3_workplace
theorem dX3_tradeOf_0 : decode cX3_tradeOf 0 = .ok (.aload_n 0, 1) := by decide +kernel
theorem dX3_tradeOf_1 : decode cX3_tradeOf 1 = .ok (.iload_n 1, 1) := by decide +kernel
theorem dX3_tradeOf_2 : decode cX3_tradeOf 2 = .ok (.aload_n 2, 1) := by decide +kernel
theorem dX3_tradeOf_3 : decode cX3_tradeOf 3 = .ok (.invokevirtual 67, 3) := by decide +kernel
theorem dX3_tradeOf_6 : decode cX3_tradeOf 6 = .ok (.istore_n 3, 1) := by decide +kernel
theorem dX3_tradeOf_7 : decode cX3_tradeOf 7 = .ok (.iload_n 3, 1) := by decide +kernel
theorem dX3_tradeOf_8 : decode cX3_tradeOf 8 = .ok (.bipush (-9), 2) := by decide +kernel
theorem dX3_tradeOf_10 : decode cX3_tradeOf 10 = .ok (.if_icmp .ne 8, 3) := by decide +kernel
theorem dX3_tradeOf_13 : decode cX3_tradeOf 13 = .ok (.bipush (-9), 2) := by decide +kernel
theorem dX3_tradeOf_15 : decode cX3_tradeOf 15 = .ok (.goto 9, 3) := by decide +kernel
theorem dX3_tradeOf_18 : decode cX3_tradeOf 18 = .ok (.aload_n 0, 1) := by decide +kernel
theorem dX3_tradeOf_19 : decode cX3_tradeOf 19 = .ok (.getfield 40, 3) := by decide +kernel
theorem dX3_tradeOf_22 : decode cX3_tradeOf 22 = .ok (.iload_n 3, 1) := by decide +kernel
theorem dX3_tradeOf_23 : decode cX3_tradeOf 23 = .ok (.iaload, 1) := by decide +kernel
theorem dX3_tradeOf_24 : decode cX3_tradeOf 24 = .ok (.ireturn, 1) := by decide +kernel
set_option maxRecDepth 20000 in
theorem ggX3_goRounds_X3_goRound : GoodIn wsX3_goRounds wsX3_goRound := goodIn_r _ [10, 11, 12, 13, 14, 15, 1, 16, 17, 18, 9, 19, 20, 21, 22, 23, 24, 25, 26, 27, 28, 29, 30, 31, 32, 33, 34, 35, 36, 37, 38, 39, 40, 41, 42, 43, 44, 45, 46, 47, 48, 49, 50, 51, 52, 53, 54, 55, 56, 57, 4, 58, 59, 60, 61, 62, 63, 64, 65, 66, 67, 68, 69, 70, 71, 2, 3, 5, 72, 73, 74, 75, 76, 77, 78, 79, 80, 92, 93, 94, 81, 82, 83, 84, 85, 86, 87, 88, 89, 90, 91, 95, 96, 97, 98, 99, 100, 101, 102, 103] (by decide +kernel) (by decide +kernel)
set_option maxRecDepth 20000 in
theorem gX3_goRounds_X3_goRound : GoodIn wsX3_goRounds (wsV RX3 77 RX3 yX3_goRound wsX3_goRound) := goodIn_app (goodIn_of _ (by decide +kernel)) ggX3_goRounds_X3_goRound
theorem dX3_goRounds_0 : decode cX3_goRounds 0 = .ok (.iload_n 1, 1) := by decide +kernel
theorem dX3_goRounds_1 : decode cX3_goRounds 1 = .ok (.bipush 99, 2) := by decide +kernel
theorem dX3_goRounds_3 : decode cX3_goRounds 3 = .ok (.aload_n 0, 1) := by decide +kernel
theorem dX3_goRounds_4 : decode cX3_goRounds 4 = .ok (.getfield 9, 3) := by decide +kernel
theorem dX3_goRounds_7 : decode cX3_goRounds 7 = .ok (.isub, 1) := by decide +kernel
theorem dX3_goRounds_8 : decode cX3_goRounds 8 = .ok (.invokestatic 71, 3) := by decide +kernel
theorem dX3_goRounds_11 : decode cX3_goRounds 11 = .ok (.istore 5, 2) := by decide +kernel
theorem dX3_goRounds_13 : decode cX3_goRounds 13 = .ok (.iconst 0, 1) := by decide +kernel
theorem dX3_goRounds_14 : decode cX3_goRounds 14 = .ok (.istore 6, 2) := by decide +kernel
theorem dX3_goRounds_16 : decode cX3_goRounds 16 = .ok (.iconst 0, 1) := by decide +kernel
theorem dX3_goRounds_17 : decode cX3_goRounds 17 = .ok (.istore 7, 2) := by decide +kernel
theorem dX3_goRounds_19 : decode cX3_goRounds 19 = .ok (.iload 7, 2) := by decide +kernel
theorem dX3_goRounds_21 : decode cX3_goRounds 21 = .ok (.iload 5, 2) := by decide +kernel
theorem dX3_goRounds_23 : decode cX3_goRounds 23 = .ok (.if_icmp .ge 27, 3) := by decide +kernel
theorem dX3_goRounds_26 : decode cX3_goRounds 26 = .ok (.iload 6, 2) := by decide +kernel
theorem dX3_goRounds_28 : decode cX3_goRounds 28 = .ok (.iload_n 2, 1) := by decide +kernel
theorem dX3_goRounds_29 : decode cX3_goRounds 29 = .ok (.if_icmp .ge 21, 3) := by decide +kernel
theorem dX3_goRounds_32 : decode cX3_goRounds 32 = .ok (.iload 6, 2) := by decide +kernel
theorem dX3_goRounds_34 : decode cX3_goRounds 34 = .ok (.aload_n 0, 1) := by decide +kernel
theorem dX3_goRounds_35 : decode cX3_goRounds 35 = .ok (.aload_n 3, 1) := by decide +kernel
theorem dX3_goRounds_36 : decode cX3_goRounds 36 = .ok (.aload 4, 2) := by decide +kernel
theorem dX3_goRounds_38 : decode cX3_goRounds 38 = .ok (.invokevirtual 77, 3) := by decide +kernel
theorem dX3_goRounds_41 : decode cX3_goRounds 41 = .ok (.iadd, 1) := by decide +kernel
theorem dX3_goRounds_42 : decode cX3_goRounds 42 = .ok (.istore 6, 2) := by decide +kernel
theorem dX3_goRounds_44 : decode cX3_goRounds 44 = .ok (.iinc 7 1, 3) := by decide +kernel
theorem dX3_goRounds_47 : decode cX3_goRounds 47 = .ok (.goto (-28), 3) := by decide +kernel
theorem dX3_goRounds_50 : decode cX3_goRounds 50 = .ok (.iload 6, 2) := by decide +kernel
theorem dX3_goRounds_52 : decode cX3_goRounds 52 = .ok (.ireturn, 1) := by decide +kernel
set_option maxRecDepth 20000 in
theorem ggX3_goRound_X3_findWork : GoodIn wsX3_goRound wsX3_findWork := goodIn_r _ [11, 12, 13, 14, 15, 16, 10, 17, 18, 19, 20, 21, 22, 23, 24, 25, 26, 27, 91, 92, 93, 94, 95, 96, 97, 98, 99, 80, 81, 82, 83, 84, 85, 86, 87, 88, 89, 90] (by decide +kernel) (by decide +kernel)
set_option maxRecDepth 20000 in
theorem gX3_goRound_X3_findWork : GoodIn wsX3_goRound (wsV RX3 81 RX3 yX3_findWork wsX3_findWork) := goodIn_app (goodIn_of _ (by decide +kernel)) ggX3_goRound_X3_findWork
set_option maxRecDepth 20000 in
theorem ggX3_goRound_X3_makeGoods : GoodIn wsX3_goRound wsX3_makeGoods := goodIn_r _ [31, 12, 32, 33, 34, 35, 36, 10, 37, 13, 21, 38, 39, 40, 41, 5, 42, 43, 44, 45, 46, 47, 48, 49, 50, 51, 52, 53, 54, 91, 92, 93, 94, 95, 96, 97, 98, 99, 80, 81, 82, 83, 84, 85, 86, 87, 88, 89, 90] (by decide +kernel) (by decide +kernel)
set_option maxRecDepth 20000 in
theorem gX3_goRound_X3_makeGoods : GoodIn wsX3_goRound (wsV RX3 85 RX3 yX3_makeGoods wsX3_makeGoods) := goodIn_app (goodIn_of _ (by decide +kernel)) ggX3_goRound_X3_makeGoods
set_option maxRecDepth 20000 in
theorem ggX3_goRound_X3_takeNeeds : GoodIn wsX3_goRound wsX3_takeNeeds := goodIn_r _ [58, 6, 19, 32, 59, 60, 48, 49, 50, 51, 80, 81, 82, 83, 84, 85, 86, 87, 88, 89, 90, 91, 92, 93, 94, 95, 96, 97, 98, 99] (by decide +kernel) (by decide +kernel)
set_option maxRecDepth 20000 in
theorem gX3_goRound_X3_takeNeeds : GoodIn wsX3_goRound (wsV RX3 93 RX3 yX3_takeNeeds wsX3_takeNeeds) := goodIn_app (goodIn_of _ (by decide +kernel)) ggX3_goRound_X3_takeNeeds
set_option maxRecDepth 20000 in
theorem ggX3_goRound_X3_changeSkills : GoodIn wsX3_goRound wsX3_changeSkills := goodIn_r _ [64, 6, 12, 19, 46, 65, 66, 50, 67, 48, 49, 51, 34, 35, 36, 10, 37, 13, 21, 38, 39, 40, 41, 5, 52, 53, 54, 80, 81, 82, 83, 84, 85, 86, 87, 88, 89, 90, 91, 92, 93, 94, 95, 96, 97, 98, 99] (by decide +kernel) (by decide +kernel)
set_option maxRecDepth 20000 in
theorem gX3_goRound_X3_changeSkills : GoodIn wsX3_goRound (wsV RX3 103 RX3 yX3_changeSkills wsX3_changeSkills) := goodIn_app (goodIn_of _ (by decide +kernel)) ggX3_goRound_X3_changeSkills
set_option maxRecDepth 20000 in
theorem ggX3_goRound_X3_moveOn : GoodIn wsX3_goRound wsX3_moveOn := goodIn_r _ [71, 12, 18, 13, 22, 23, 24, 25, 26, 27, 91, 92, 93, 94, 95, 96, 97, 98, 99, 80, 81, 82, 83, 84, 85, 86, 87, 88, 89, 90] (by decide +kernel) (by decide +kernel)
set_option maxRecDepth 20000 in
theorem gX3_goRound_X3_moveOn : GoodIn wsX3_goRound (wsV RX3 107 RX3 yX3_moveOn wsX3_moveOn) := goodIn_app (goodIn_of _ (by decide +kernel)) ggX3_goRound_X3_moveOn
set_option maxRecDepth 20000 in
theorem ggX3_goRound_X3_endHelps : GoodIn wsX3_goRound wsX3_endHelps := goodIn_r _ [75, 47, 76, 80, 81, 82, 83, 84, 85, 86, 87, 88, 89, 90] (by decide +kernel) (by decide +kernel)
set_option maxRecDepth 20000 in
theorem gX3_goRound_X3_endHelps : GoodIn wsX3_goRound (wsV RX3 110 RX3 yX3_endHelps wsX3_endHelps) := goodIn_app (goodIn_of _ (by decide +kernel)) ggX3_goRound_X3_endHelps
theorem dX3_goRound_0 : decode cX3_goRound 0 = .ok (.aload_n 0, 1) := by decide +kernel
theorem dX3_goRound_1 : decode cX3_goRound 1 = .ok (.aload_n 1, 1) := by decide +kernel
theorem dX3_goRound_2 : decode cX3_goRound 2 = .ok (.invokevirtual 81, 3) := by decide +kernel
theorem dX3_goRound_5 : decode cX3_goRound 5 = .ok (.aload_n 0, 1) := by decide +kernel
theorem dX3_goRound_6 : decode cX3_goRound 6 = .ok (.aload_n 1, 1) := by decide +kernel
theorem dX3_goRound_7 : decode cX3_goRound 7 = .ok (.invokevirtual 85, 3) := by decide +kernel
theorem dX3_goRound_10 : decode cX3_goRound 10 = .ok (.aload_n 0, 1) := by decide +kernel
theorem dX3_goRound_11 : decode cX3_goRound 11 = .ok (.aload_n 1, 1) := by decide +kernel
theorem dX3_goRound_12 : decode cX3_goRound 12 = .ok (.aload_n 2, 1) := by decide +kernel
theorem dX3_goRound_13 : decode cX3_goRound 13 = .ok (.getfield 88, 3) := by decide +kernel
theorem dX3_goRound_16 : decode cX3_goRound 16 = .ok (.invokevirtual 93, 3) := by decide +kernel
theorem dX3_goRound_19 : decode cX3_goRound 19 = .ok (.istore_n 3, 1) := by decide +kernel
theorem dX3_goRound_20 : decode cX3_goRound 20 = .ok (.iload_n 3, 1) := by decide +kernel
theorem dX3_goRound_21 : decode cX3_goRound 21 = .ok (.aload_n 2, 1) := by decide +kernel
theorem dX3_goRound_22 : decode cX3_goRound 22 = .ok (.getfield 97, 3) := by decide +kernel
theorem dX3_goRound_25 : decode cX3_goRound 25 = .ok (.if_icmp .lt 13, 3) := by decide +kernel
theorem dX3_goRound_28 : decode cX3_goRound 28 = .ok (.aload_n 0, 1) := by decide +kernel
theorem dX3_goRound_29 : decode cX3_goRound 29 = .ok (.dup, 1) := by decide +kernel
theorem dX3_goRound_30 : decode cX3_goRound 30 = .ok (.getfield 15, 3) := by decide +kernel
theorem dX3_goRound_33 : decode cX3_goRound 33 = .ok (.iconst 1, 1) := by decide +kernel
theorem dX3_goRound_34 : decode cX3_goRound 34 = .ok (.iadd, 1) := by decide +kernel
theorem dX3_goRound_35 : decode cX3_goRound 35 = .ok (.putfield 15, 3) := by decide +kernel
theorem dX3_goRound_38 : decode cX3_goRound 38 = .ok (.aload_n 0, 1) := by decide +kernel
theorem dX3_goRound_39 : decode cX3_goRound 39 = .ok (.aload_n 1, 1) := by decide +kernel
theorem dX3_goRound_40 : decode cX3_goRound 40 = .ok (.aload_n 2, 1) := by decide +kernel
theorem dX3_goRound_41 : decode cX3_goRound 41 = .ok (.getfield 100, 3) := by decide +kernel
theorem dX3_goRound_44 : decode cX3_goRound 44 = .ok (.invokevirtual 103, 3) := by decide +kernel
theorem dX3_goRound_47 : decode cX3_goRound 47 = .ok (.aload_n 0, 1) := by decide +kernel
theorem dX3_goRound_48 : decode cX3_goRound 48 = .ok (.aload_n 1, 1) := by decide +kernel
theorem dX3_goRound_49 : decode cX3_goRound 49 = .ok (.invokevirtual 107, 3) := by decide +kernel
theorem dX3_goRound_52 : decode cX3_goRound 52 = .ok (.aload_n 0, 1) := by decide +kernel
theorem dX3_goRound_53 : decode cX3_goRound 53 = .ok (.invokevirtual 110, 3) := by decide +kernel
theorem dX3_goRound_56 : decode cX3_goRound 56 = .ok (.aload_n 0, 1) := by decide +kernel
theorem dX3_goRound_57 : decode cX3_goRound 57 = .ok (.iconst 0, 1) := by decide +kernel
theorem dX3_goRound_58 : decode cX3_goRound 58 = .ok (.putfield 18, 3) := by decide +kernel
theorem dX3_goRound_61 : decode cX3_goRound 61 = .ok (.aload_n 0, 1) := by decide +kernel
theorem dX3_goRound_62 : decode cX3_goRound 62 = .ok (.dup, 1) := by decide +kernel
theorem dX3_goRound_63 : decode cX3_goRound 63 = .ok (.getfield 9, 3) := by decide +kernel
theorem dX3_goRound_66 : decode cX3_goRound 66 = .ok (.iconst 1, 1) := by decide +kernel
theorem dX3_goRound_67 : decode cX3_goRound 67 = .ok (.iadd, 1) := by decide +kernel
theorem dX3_goRound_68 : decode cX3_goRound 68 = .ok (.putfield 9, 3) := by decide +kernel
theorem dX3_goRound_71 : decode cX3_goRound 71 = .ok (.iload_n 3, 1) := by decide +kernel
theorem dX3_goRound_72 : decode cX3_goRound 72 = .ok (.ireturn, 1) := by decide +kernel
set_option maxRecDepth 20000 in
theorem ggX3_findWork_X3_workplace : GoodIn wsX3_findWork wsX3_workplace := goodIn_r _ [7, 8, 9, 10, 11, 12, 13, 14, 15, 16, 17, 27, 28, 29, 30, 31, 32, 33, 34, 35, 36, 37, 18, 19, 20, 21, 22, 23, 24, 25, 26] (by decide +kernel) (by decide +kernel)
set_option maxRecDepth 20000 in
theorem gX3_findWork_X3_workplace : GoodIn wsX3_findWork (wsV RX3 67 RX3 yX3_workplace wsX3_workplace) := goodIn_app (goodIn_of _ (by decide +kernel)) ggX3_findWork_X3_workplace
theorem dX3_findWork_0 : decode cX3_findWork 0 = .ok (.iconst 0, 1) := by decide +kernel
theorem dX3_findWork_1 : decode cX3_findWork 1 = .ok (.istore_n 2, 1) := by decide +kernel
theorem dX3_findWork_2 : decode cX3_findWork 2 = .ok (.iload_n 2, 1) := by decide +kernel
theorem dX3_findWork_3 : decode cX3_findWork 3 = .ok (.aload_n 1, 1) := by decide +kernel
theorem dX3_findWork_4 : decode cX3_findWork 4 = .ok (.getfield 113, 3) := by decide +kernel
theorem dX3_findWork_7 : decode cX3_findWork 7 = .ok (.if_icmp .ge 21, 3) := by decide +kernel
theorem dX3_findWork_10 : decode cX3_findWork 10 = .ok (.aload_n 0, 1) := by decide +kernel
theorem dX3_findWork_11 : decode cX3_findWork 11 = .ok (.getfield 43, 3) := by decide +kernel
theorem dX3_findWork_14 : decode cX3_findWork 14 = .ok (.iload_n 2, 1) := by decide +kernel
theorem dX3_findWork_15 : decode cX3_findWork 15 = .ok (.aload_n 0, 1) := by decide +kernel
theorem dX3_findWork_16 : decode cX3_findWork 16 = .ok (.iload_n 2, 1) := by decide +kernel
theorem dX3_findWork_17 : decode cX3_findWork 17 = .ok (.aload_n 1, 1) := by decide +kernel
theorem dX3_findWork_18 : decode cX3_findWork 18 = .ok (.invokevirtual 67, 3) := by decide +kernel
theorem dX3_findWork_21 : decode cX3_findWork 21 = .ok (.iastore, 1) := by decide +kernel
theorem dX3_findWork_22 : decode cX3_findWork 22 = .ok (.iinc 2 1, 3) := by decide +kernel
theorem dX3_findWork_25 : decode cX3_findWork 25 = .ok (.goto (-23), 3) := by decide +kernel
theorem dX3_findWork_28 : decode cX3_findWork 28 = .ok (.return_, 1) := by decide +kernel
set_option maxRecDepth 20000 in
theorem ggX3_makeGoods_X3_workedAt : GoodIn wsX3_makeGoods wsX3_workedAt := goodIn_r _ [8, 9, 10, 11, 12, 13, 7, 14, 15, 38, 39, 40, 41, 42, 43, 44, 45, 46, 47, 48] (by decide +kernel) (by decide +kernel)
set_option maxRecDepth 20000 in
theorem gX3_makeGoods_X3_workedAt : GoodIn wsX3_makeGoods (wsV RX3 116 RX3 yX3_workedAt wsX3_workedAt) := goodIn_app (goodIn_of _ (by decide +kernel)) ggX3_makeGoods_X3_workedAt
set_option maxRecDepth 20000 in
theorem ggX3_makeGoods_X3_skillAtHand : GoodIn wsX3_makeGoods wsX3_skillAtHand := goodIn_r _ [19, 20, 21, 22, 23, 24, 25, 26, 27, 28, 11, 12, 13, 7, 14, 15, 38, 39, 40, 41, 42, 43, 44, 45, 46, 47, 48] (by decide +kernel) (by decide +kernel)
set_option maxRecDepth 20000 in
theorem gX3_makeGoods_X3_skillAtHand : GoodIn wsX3_makeGoods (wsV RX3 122 RX3 yX3_skillAtHand wsX3_skillAtHand) := goodIn_app (goodIn_of _ (by decide +kernel)) ggX3_makeGoods_X3_skillAtHand
theorem dX3_makeGoods_0 : decode cX3_makeGoods 0 = .ok (.iconst 0, 1) := by decide +kernel
theorem dX3_makeGoods_1 : decode cX3_makeGoods 1 = .ok (.istore_n 2, 1) := by decide +kernel
theorem dX3_makeGoods_2 : decode cX3_makeGoods 2 = .ok (.iload_n 2, 1) := by decide +kernel
theorem dX3_makeGoods_3 : decode cX3_makeGoods 3 = .ok (.aload_n 1, 1) := by decide +kernel
theorem dX3_makeGoods_4 : decode cX3_makeGoods 4 = .ok (.getfield 113, 3) := by decide +kernel
theorem dX3_makeGoods_7 : decode cX3_makeGoods 7 = .ok (.if_icmp .ge 43, 3) := by decide +kernel
theorem dX3_makeGoods_10 : decode cX3_makeGoods 10 = .ok (.aload_n 0, 1) := by decide +kernel
theorem dX3_makeGoods_11 : decode cX3_makeGoods 11 = .ok (.iload_n 2, 1) := by decide +kernel
theorem dX3_makeGoods_12 : decode cX3_makeGoods 12 = .ok (.invokevirtual 116, 3) := by decide +kernel
theorem dX3_makeGoods_15 : decode cX3_makeGoods 15 = .ok (.istore_n 3, 1) := by decide +kernel
theorem dX3_makeGoods_16 : decode cX3_makeGoods 16 = .ok (.iload_n 3, 1) := by decide +kernel
theorem dX3_makeGoods_17 : decode cX3_makeGoods 17 = .ok (.bipush (-9), 2) := by decide +kernel
theorem dX3_makeGoods_19 : decode cX3_makeGoods 19 = .ok (.if_icmp .eq 25, 3) := by decide +kernel
theorem dX3_makeGoods_22 : decode cX3_makeGoods 22 = .ok (.aload_n 0, 1) := by decide +kernel
theorem dX3_makeGoods_23 : decode cX3_makeGoods 23 = .ok (.getfield 28, 3) := by decide +kernel
theorem dX3_makeGoods_26 : decode cX3_makeGoods 26 = .ok (.iload_n 3, 1) := by decide +kernel
theorem dX3_makeGoods_27 : decode cX3_makeGoods 27 = .ok (.dup2, 1) := by decide +kernel
theorem dX3_makeGoods_28 : decode cX3_makeGoods 28 = .ok (.iaload, 1) := by decide +kernel
theorem dX3_makeGoods_29 : decode cX3_makeGoods 29 = .ok (.aload_n 1, 1) := by decide +kernel
theorem dX3_makeGoods_30 : decode cX3_makeGoods 30 = .ok (.getfield 119, 3) := by decide +kernel
theorem dX3_makeGoods_33 : decode cX3_makeGoods 33 = .ok (.iload_n 3, 1) := by decide +kernel
theorem dX3_makeGoods_34 : decode cX3_makeGoods 34 = .ok (.iaload, 1) := by decide +kernel
theorem dX3_makeGoods_35 : decode cX3_makeGoods 35 = .ok (.aload_n 0, 1) := by decide +kernel
theorem dX3_makeGoods_36 : decode cX3_makeGoods 36 = .ok (.iload_n 2, 1) := by decide +kernel
theorem dX3_makeGoods_37 : decode cX3_makeGoods 37 = .ok (.iload_n 3, 1) := by decide +kernel
theorem dX3_makeGoods_38 : decode cX3_makeGoods 38 = .ok (.invokevirtual 122, 3) := by decide +kernel
theorem dX3_makeGoods_41 : decode cX3_makeGoods 41 = .ok (.imul, 1) := by decide +kernel
theorem dX3_makeGoods_42 : decode cX3_makeGoods 42 = .ok (.iadd, 1) := by decide +kernel
theorem dX3_makeGoods_43 : decode cX3_makeGoods 43 = .ok (.iastore, 1) := by decide +kernel
theorem dX3_makeGoods_44 : decode cX3_makeGoods 44 = .ok (.iinc 2 1, 3) := by decide +kernel
theorem dX3_makeGoods_47 : decode cX3_makeGoods 47 = .ok (.goto (-45), 3) := by decide +kernel
theorem dX3_makeGoods_50 : decode cX3_makeGoods 50 = .ok (.return_, 1) := by decide +kernel
set_option maxRecDepth 20000 in
theorem ggX3_workedAt_X3_isIll : GoodIn wsX3_workedAt wsX3_isIll := goodIn_r _ [7, 8, 9, 10, 11, 12, 13, 14, 15, 16, 17, 18, 19] (by decide +kernel) (by decide +kernel)
set_option maxRecDepth 20000 in
theorem gX3_workedAt_X3_isIll : GoodIn wsX3_workedAt (wsV RX3 125 RX3 yX3_isIll wsX3_isIll) := goodIn_app (goodIn_of _ (by decide +kernel)) ggX3_workedAt_X3_isIll
theorem dX3_workedAt_0 : decode cX3_workedAt 0 = .ok (.aload_n 0, 1) := by decide +kernel
theorem dX3_workedAt_1 : decode cX3_workedAt 1 = .ok (.getfield 43, 3) := by decide +kernel
theorem dX3_workedAt_4 : decode cX3_workedAt 4 = .ok (.iload_n 1, 1) := by decide +kernel
theorem dX3_workedAt_5 : decode cX3_workedAt 5 = .ok (.iaload, 1) := by decide +kernel
theorem dX3_workedAt_6 : decode cX3_workedAt 6 = .ok (.bipush (-9), 2) := by decide +kernel
theorem dX3_workedAt_8 : decode cX3_workedAt 8 = .ok (.if_icmp .eq 11, 3) := by decide +kernel
theorem dX3_workedAt_11 : decode cX3_workedAt 11 = .ok (.aload_n 0, 1) := by decide +kernel
theorem dX3_workedAt_12 : decode cX3_workedAt 12 = .ok (.iload_n 1, 1) := by decide +kernel
theorem dX3_workedAt_13 : decode cX3_workedAt 13 = .ok (.invokevirtual 125, 3) := by decide +kernel
theorem dX3_workedAt_16 : decode cX3_workedAt 16 = .ok (.ifCond .eq 8, 3) := by decide +kernel
theorem dX3_workedAt_19 : decode cX3_workedAt 19 = .ok (.bipush (-9), 2) := by decide +kernel
theorem dX3_workedAt_21 : decode cX3_workedAt 21 = .ok (.goto 14, 3) := by decide +kernel
theorem dX3_workedAt_24 : decode cX3_workedAt 24 = .ok (.aload_n 0, 1) := by decide +kernel
theorem dX3_workedAt_25 : decode cX3_workedAt 25 = .ok (.getfield 40, 3) := by decide +kernel
theorem dX3_workedAt_28 : decode cX3_workedAt 28 = .ok (.aload_n 0, 1) := by decide +kernel
theorem dX3_workedAt_29 : decode cX3_workedAt 29 = .ok (.getfield 43, 3) := by decide +kernel
theorem dX3_workedAt_32 : decode cX3_workedAt 32 = .ok (.iload_n 1, 1) := by decide +kernel
theorem dX3_workedAt_33 : decode cX3_workedAt 33 = .ok (.iaload, 1) := by decide +kernel
theorem dX3_workedAt_34 : decode cX3_workedAt 34 = .ok (.iaload, 1) := by decide +kernel
theorem dX3_workedAt_35 : decode cX3_workedAt 35 = .ok (.ireturn, 1) := by decide +kernel
set_option maxRecDepth 20000 in
theorem ggX3_skillAtHand_X4_cell : GoodIn wsX3_skillAtHand wsX4_cell := goodIn_r _ [9] (by decide +kernel) (by decide +kernel)
set_option maxRecDepth 20000 in
theorem gX3_skillAtHand_X4_cell_n129 : GoodIn wsX3_skillAtHand (wsX4_cell) := ggX3_skillAtHand_X4_cell
set_option maxRecDepth 20000 in
theorem ggX3_skillAtHand_X3_isIll : GoodIn wsX3_skillAtHand wsX3_isIll := goodIn_r _ [14, 15, 16, 17, 18, 19, 20, 21, 22, 23, 24, 25, 26] (by decide +kernel) (by decide +kernel)
set_option maxRecDepth 20000 in
theorem gX3_skillAtHand_X3_isIll : GoodIn wsX3_skillAtHand (wsV RX3 125 RX3 yX3_isIll wsX3_isIll) := goodIn_app (goodIn_of _ (by decide +kernel)) ggX3_skillAtHand_X3_isIll
theorem dX3_skillAtHand_0 : decode cX3_skillAtHand 0 = .ok (.aload_n 0, 1) := by decide +kernel
theorem dX3_skillAtHand_1 : decode cX3_skillAtHand 1 = .ok (.getfield 21, 3) := by decide +kernel
theorem dX3_skillAtHand_4 : decode cX3_skillAtHand 4 = .ok (.iload_n 1, 1) := by decide +kernel
theorem dX3_skillAtHand_5 : decode cX3_skillAtHand 5 = .ok (.iload_n 2, 1) := by decide +kernel
theorem dX3_skillAtHand_6 : decode cX3_skillAtHand 6 = .ok (.invokestatic 129, 3) := by decide +kernel
theorem dX3_skillAtHand_9 : decode cX3_skillAtHand 9 = .ok (.iaload, 1) := by decide +kernel
theorem dX3_skillAtHand_10 : decode cX3_skillAtHand 10 = .ok (.istore_n 3, 1) := by decide +kernel
theorem dX3_skillAtHand_11 : decode cX3_skillAtHand 11 = .ok (.aload_n 0, 1) := by decide +kernel
theorem dX3_skillAtHand_12 : decode cX3_skillAtHand 12 = .ok (.getfield 34, 3) := by decide +kernel
theorem dX3_skillAtHand_15 : decode cX3_skillAtHand 15 = .ok (.iload_n 1, 1) := by decide +kernel
theorem dX3_skillAtHand_16 : decode cX3_skillAtHand 16 = .ok (.iaload, 1) := by decide +kernel
theorem dX3_skillAtHand_17 : decode cX3_skillAtHand 17 = .ok (.istore 4, 2) := by decide +kernel
theorem dX3_skillAtHand_19 : decode cX3_skillAtHand 19 = .ok (.iload 4, 2) := by decide +kernel
theorem dX3_skillAtHand_21 : decode cX3_skillAtHand 21 = .ok (.bipush (-9), 2) := by decide +kernel
theorem dX3_skillAtHand_23 : decode cX3_skillAtHand 23 = .ok (.if_icmp .eq 12, 3) := by decide +kernel
theorem dX3_skillAtHand_26 : decode cX3_skillAtHand 26 = .ok (.aload_n 0, 1) := by decide +kernel
theorem dX3_skillAtHand_27 : decode cX3_skillAtHand 27 = .ok (.iload 4, 2) := by decide +kernel
theorem dX3_skillAtHand_29 : decode cX3_skillAtHand 29 = .ok (.invokevirtual 125, 3) := by decide +kernel
theorem dX3_skillAtHand_32 : decode cX3_skillAtHand 32 = .ok (.ifCond .eq 5, 3) := by decide +kernel
theorem dX3_skillAtHand_35 : decode cX3_skillAtHand 35 = .ok (.iload_n 3, 1) := by decide +kernel
theorem dX3_skillAtHand_36 : decode cX3_skillAtHand 36 = .ok (.ireturn, 1) := by decide +kernel
theorem dX3_skillAtHand_37 : decode cX3_skillAtHand 37 = .ok (.iload_n 3, 1) := by decide +kernel
theorem dX3_skillAtHand_38 : decode cX3_skillAtHand 38 = .ok (.aload_n 0, 1) := by decide +kernel
theorem dX3_skillAtHand_39 : decode cX3_skillAtHand 39 = .ok (.getfield 21, 3) := by decide +kernel
theorem dX3_skillAtHand_42 : decode cX3_skillAtHand 42 = .ok (.iload 4, 2) := by decide +kernel
theorem dX3_skillAtHand_44 : decode cX3_skillAtHand 44 = .ok (.iload_n 2, 1) := by decide +kernel
theorem dX3_skillAtHand_45 : decode cX3_skillAtHand 45 = .ok (.invokestatic 129, 3) := by decide +kernel
theorem dX3_skillAtHand_48 : decode cX3_skillAtHand 48 = .ok (.iaload, 1) := by decide +kernel
theorem dX3_skillAtHand_49 : decode cX3_skillAtHand 49 = .ok (.invokestatic 132, 3) := by decide +kernel
theorem dX3_skillAtHand_52 : decode cX3_skillAtHand 52 = .ok (.ireturn, 1) := by decide +kernel
theorem dX3_takeNeeds_0 : decode cX3_takeNeeds 0 = .ok (.aload_n 0, 1) := by decide +kernel
theorem dX3_takeNeeds_1 : decode cX3_takeNeeds 1 = .ok (.getfield 9, 3) := by decide +kernel
theorem dX3_takeNeeds_4 : decode cX3_takeNeeds 4 = .ok (.iconst 4, 1) := by decide +kernel
theorem dX3_takeNeeds_5 : decode cX3_takeNeeds 5 = .ok (.irem, 1) := by decide +kernel
theorem dX3_takeNeeds_6 : decode cX3_takeNeeds 6 = .ok (.iconst 3, 1) := by decide +kernel
theorem dX3_takeNeeds_7 : decode cX3_takeNeeds 7 = .ok (.if_icmp .ne 10, 3) := by decide +kernel
theorem dX3_takeNeeds_10 : decode cX3_takeNeeds 10 = .ok (.bipush 10, 2) := by decide +kernel
theorem dX3_takeNeeds_12 : decode cX3_takeNeeds 12 = .ok (.iload_n 2, 1) := by decide +kernel
theorem dX3_takeNeeds_13 : decode cX3_takeNeeds 13 = .ok (.iadd, 1) := by decide +kernel
theorem dX3_takeNeeds_14 : decode cX3_takeNeeds 14 = .ok (.goto 5, 3) := by decide +kernel
theorem dX3_takeNeeds_17 : decode cX3_takeNeeds 17 = .ok (.bipush 10, 2) := by decide +kernel
theorem dX3_takeNeeds_19 : decode cX3_takeNeeds 19 = .ok (.istore_n 3, 1) := by decide +kernel
theorem dX3_takeNeeds_20 : decode cX3_takeNeeds 20 = .ok (.iconst 0, 1) := by decide +kernel
theorem dX3_takeNeeds_21 : decode cX3_takeNeeds 21 = .ok (.istore 4, 2) := by decide +kernel
theorem dX3_takeNeeds_23 : decode cX3_takeNeeds 23 = .ok (.iconst 0, 1) := by decide +kernel
theorem dX3_takeNeeds_24 : decode cX3_takeNeeds 24 = .ok (.istore 5, 2) := by decide +kernel
theorem dX3_takeNeeds_26 : decode cX3_takeNeeds 26 = .ok (.iload 5, 2) := by decide +kernel
theorem dX3_takeNeeds_28 : decode cX3_takeNeeds 28 = .ok (.aload_n 1, 1) := by decide +kernel
theorem dX3_takeNeeds_29 : decode cX3_takeNeeds 29 = .ok (.getfield 57, 3) := by decide +kernel
theorem dX3_takeNeeds_32 : decode cX3_takeNeeds 32 = .ok (.if_icmp .ge 68, 3) := by decide +kernel
theorem dX3_takeNeeds_35 : decode cX3_takeNeeds 35 = .ok (.aload_n 0, 1) := by decide +kernel
theorem dX3_takeNeeds_36 : decode cX3_takeNeeds 36 = .ok (.getfield 28, 3) := by decide +kernel
theorem dX3_takeNeeds_39 : decode cX3_takeNeeds 39 = .ok (.iload 5, 2) := by decide +kernel
theorem dX3_takeNeeds_41 : decode cX3_takeNeeds 41 = .ok (.iaload, 1) := by decide +kernel
theorem dX3_takeNeeds_42 : decode cX3_takeNeeds 42 = .ok (.aload_n 1, 1) := by decide +kernel
theorem dX3_takeNeeds_43 : decode cX3_takeNeeds 43 = .ok (.getfield 135, 3) := by decide +kernel
theorem dX3_takeNeeds_46 : decode cX3_takeNeeds 46 = .ok (.iload 5, 2) := by decide +kernel
theorem dX3_takeNeeds_48 : decode cX3_takeNeeds 48 = .ok (.iaload, 1) := by decide +kernel
theorem dX3_takeNeeds_49 : decode cX3_takeNeeds 49 = .ok (.iload_n 3, 1) := by decide +kernel
theorem dX3_takeNeeds_50 : decode cX3_takeNeeds 50 = .ok (.imul, 1) := by decide +kernel
theorem dX3_takeNeeds_51 : decode cX3_takeNeeds 51 = .ok (.bipush 10, 2) := by decide +kernel
theorem dX3_takeNeeds_53 : decode cX3_takeNeeds 53 = .ok (.idiv, 1) := by decide +kernel
theorem dX3_takeNeeds_54 : decode cX3_takeNeeds 54 = .ok (.isub, 1) := by decide +kernel
theorem dX3_takeNeeds_55 : decode cX3_takeNeeds 55 = .ok (.istore 6, 2) := by decide +kernel
theorem dX3_takeNeeds_57 : decode cX3_takeNeeds 57 = .ok (.iload 6, 2) := by decide +kernel
theorem dX3_takeNeeds_59 : decode cX3_takeNeeds 59 = .ok (.ifCond .ge 22, 3) := by decide +kernel
theorem dX3_takeNeeds_62 : decode cX3_takeNeeds 62 = .ok (.aload_n 0, 1) := by decide +kernel
theorem dX3_takeNeeds_63 : decode cX3_takeNeeds 63 = .ok (.getfield 31, 3) := by decide +kernel
theorem dX3_takeNeeds_66 : decode cX3_takeNeeds 66 = .ok (.iload 5, 2) := by decide +kernel
theorem dX3_takeNeeds_68 : decode cX3_takeNeeds 68 = .ok (.dup2, 1) := by decide +kernel
theorem dX3_takeNeeds_69 : decode cX3_takeNeeds 69 = .ok (.iaload, 1) := by decide +kernel
theorem dX3_takeNeeds_70 : decode cX3_takeNeeds 70 = .ok (.iload 6, 2) := by decide +kernel
theorem dX3_takeNeeds_72 : decode cX3_takeNeeds 72 = .ok (.isub, 1) := by decide +kernel
theorem dX3_takeNeeds_73 : decode cX3_takeNeeds 73 = .ok (.iastore, 1) := by decide +kernel
theorem dX3_takeNeeds_74 : decode cX3_takeNeeds 74 = .ok (.iload 4, 2) := by decide +kernel
theorem dX3_takeNeeds_76 : decode cX3_takeNeeds 76 = .ok (.iload 6, 2) := by decide +kernel
theorem dX3_takeNeeds_78 : decode cX3_takeNeeds 78 = .ok (.isub, 1) := by decide +kernel
theorem dX3_takeNeeds_79 : decode cX3_takeNeeds 79 = .ok (.istore 4, 2) := by decide +kernel
theorem dX3_takeNeeds_81 : decode cX3_takeNeeds 81 = .ok (.aload_n 0, 1) := by decide +kernel
theorem dX3_takeNeeds_82 : decode cX3_takeNeeds 82 = .ok (.getfield 28, 3) := by decide +kernel
theorem dX3_takeNeeds_85 : decode cX3_takeNeeds 85 = .ok (.iload 5, 2) := by decide +kernel
theorem dX3_takeNeeds_87 : decode cX3_takeNeeds 87 = .ok (.iload 6, 2) := by decide +kernel
theorem dX3_takeNeeds_89 : decode cX3_takeNeeds 89 = .ok (.iconst 0, 1) := by decide +kernel
theorem dX3_takeNeeds_90 : decode cX3_takeNeeds 90 = .ok (.invokestatic 132, 3) := by decide +kernel
theorem dX3_takeNeeds_93 : decode cX3_takeNeeds 93 = .ok (.iastore, 1) := by decide +kernel
theorem dX3_takeNeeds_94 : decode cX3_takeNeeds 94 = .ok (.iinc 5 1, 3) := by decide +kernel
theorem dX3_takeNeeds_97 : decode cX3_takeNeeds 97 = .ok (.goto (-71), 3) := by decide +kernel
theorem dX3_takeNeeds_100 : decode cX3_takeNeeds 100 = .ok (.iload 4, 2) := by decide +kernel
theorem dX3_takeNeeds_102 : decode cX3_takeNeeds 102 = .ok (.ireturn, 1) := by decide +kernel
set_option maxRecDepth 20000 in
theorem ggX3_changeSkills_X3_workedAt : GoodIn wsX3_changeSkills wsX3_workedAt := goodIn_r _ [16, 17, 18, 19, 20, 21, 15, 22, 23, 27, 28, 29, 30, 31, 32, 33, 34, 35, 36, 37] (by decide +kernel) (by decide +kernel)
set_option maxRecDepth 20000 in
theorem gX3_changeSkills_X3_workedAt : GoodIn wsX3_changeSkills (wsV RX3 116 RX3 yX3_workedAt wsX3_workedAt) := goodIn_app (goodIn_of _ (by decide +kernel)) ggX3_changeSkills_X3_workedAt
set_option maxRecDepth 20000 in
theorem ggX3_changeSkills_X4_cell : GoodIn wsX3_changeSkills wsX4_cell := goodIn_r _ [26] (by decide +kernel) (by decide +kernel)
set_option maxRecDepth 20000 in
theorem gX3_changeSkills_X4_cell_n129 : GoodIn wsX3_changeSkills (wsX4_cell) := ggX3_changeSkills_X4_cell
theorem dX3_changeSkills_0 : decode cX3_changeSkills 0 = .ok (.iload_n 2, 1) := by decide +kernel
theorem dX3_changeSkills_1 : decode cX3_changeSkills 1 = .ok (.ifCond .le 18, 3) := by decide +kernel
theorem dX3_changeSkills_4 : decode cX3_changeSkills 4 = .ok (.aload_n 0, 1) := by decide +kernel
theorem dX3_changeSkills_5 : decode cX3_changeSkills 5 = .ok (.getfield 9, 3) := by decide +kernel
theorem dX3_changeSkills_8 : decode cX3_changeSkills 8 = .ok (.iconst 1, 1) := by decide +kernel
theorem dX3_changeSkills_9 : decode cX3_changeSkills 9 = .ok (.iadd, 1) := by decide +kernel
theorem dX3_changeSkills_10 : decode cX3_changeSkills 10 = .ok (.iload_n 2, 1) := by decide +kernel
theorem dX3_changeSkills_11 : decode cX3_changeSkills 11 = .ok (.irem, 1) := by decide +kernel
theorem dX3_changeSkills_12 : decode cX3_changeSkills 12 = .ok (.ifCond .ne 7, 3) := by decide +kernel
theorem dX3_changeSkills_15 : decode cX3_changeSkills 15 = .ok (.iconst 1, 1) := by decide +kernel
theorem dX3_changeSkills_16 : decode cX3_changeSkills 16 = .ok (.goto 4, 3) := by decide +kernel
theorem dX3_changeSkills_19 : decode cX3_changeSkills 19 = .ok (.iconst 0, 1) := by decide +kernel
theorem dX3_changeSkills_20 : decode cX3_changeSkills 20 = .ok (.istore_n 3, 1) := by decide +kernel
theorem dX3_changeSkills_21 : decode cX3_changeSkills 21 = .ok (.iconst 0, 1) := by decide +kernel
theorem dX3_changeSkills_22 : decode cX3_changeSkills 22 = .ok (.istore 4, 2) := by decide +kernel
theorem dX3_changeSkills_24 : decode cX3_changeSkills 24 = .ok (.iload 4, 2) := by decide +kernel
theorem dX3_changeSkills_26 : decode cX3_changeSkills 26 = .ok (.aload_n 1, 1) := by decide +kernel
theorem dX3_changeSkills_27 : decode cX3_changeSkills 27 = .ok (.getfield 113, 3) := by decide +kernel
theorem dX3_changeSkills_30 : decode cX3_changeSkills 30 = .ok (.if_icmp .ge 99, 3) := by decide +kernel
theorem dX3_changeSkills_33 : decode cX3_changeSkills 33 = .ok (.aload_n 0, 1) := by decide +kernel
theorem dX3_changeSkills_34 : decode cX3_changeSkills 34 = .ok (.iload 4, 2) := by decide +kernel
theorem dX3_changeSkills_36 : decode cX3_changeSkills 36 = .ok (.invokevirtual 116, 3) := by decide +kernel
theorem dX3_changeSkills_39 : decode cX3_changeSkills 39 = .ok (.istore 5, 2) := by decide +kernel
theorem dX3_changeSkills_41 : decode cX3_changeSkills 41 = .ok (.iconst 0, 1) := by decide +kernel
theorem dX3_changeSkills_42 : decode cX3_changeSkills 42 = .ok (.istore 6, 2) := by decide +kernel
theorem dX3_changeSkills_44 : decode cX3_changeSkills 44 = .ok (.iload 6, 2) := by decide +kernel
theorem dX3_changeSkills_46 : decode cX3_changeSkills 46 = .ok (.aload_n 1, 1) := by decide +kernel
theorem dX3_changeSkills_47 : decode cX3_changeSkills 47 = .ok (.getfield 57, 3) := by decide +kernel
theorem dX3_changeSkills_50 : decode cX3_changeSkills 50 = .ok (.if_icmp .ge 73, 3) := by decide +kernel
theorem dX3_changeSkills_53 : decode cX3_changeSkills 53 = .ok (.iload 4, 2) := by decide +kernel
theorem dX3_changeSkills_55 : decode cX3_changeSkills 55 = .ok (.iload 6, 2) := by decide +kernel
theorem dX3_changeSkills_57 : decode cX3_changeSkills 57 = .ok (.invokestatic 129, 3) := by decide +kernel
theorem dX3_changeSkills_60 : decode cX3_changeSkills 60 = .ok (.istore 7, 2) := by decide +kernel
theorem dX3_changeSkills_62 : decode cX3_changeSkills 62 = .ok (.iload 6, 2) := by decide +kernel
theorem dX3_changeSkills_64 : decode cX3_changeSkills 64 = .ok (.iload 5, 2) := by decide +kernel
theorem dX3_changeSkills_66 : decode cX3_changeSkills 66 = .ok (.if_icmp .ne 27, 3) := by decide +kernel
theorem dX3_changeSkills_69 : decode cX3_changeSkills 69 = .ok (.aload_n 0, 1) := by decide +kernel
theorem dX3_changeSkills_70 : decode cX3_changeSkills 70 = .ok (.getfield 21, 3) := by decide +kernel
theorem dX3_changeSkills_73 : decode cX3_changeSkills 73 = .ok (.iload 7, 2) := by decide +kernel
theorem dX3_changeSkills_75 : decode cX3_changeSkills 75 = .ok (.aload_n 0, 1) := by decide +kernel
theorem dX3_changeSkills_76 : decode cX3_changeSkills 76 = .ok (.getfield 21, 3) := by decide +kernel
theorem dX3_changeSkills_79 : decode cX3_changeSkills 79 = .ok (.iload 7, 2) := by decide +kernel
theorem dX3_changeSkills_81 : decode cX3_changeSkills 81 = .ok (.iaload, 1) := by decide +kernel
theorem dX3_changeSkills_82 : decode cX3_changeSkills 82 = .ok (.iconst 1, 1) := by decide +kernel
theorem dX3_changeSkills_83 : decode cX3_changeSkills 83 = .ok (.iadd, 1) := by decide +kernel
theorem dX3_changeSkills_84 : decode cX3_changeSkills 84 = .ok (.bipush 9, 2) := by decide +kernel
theorem dX3_changeSkills_86 : decode cX3_changeSkills 86 = .ok (.invokestatic 71, 3) := by decide +kernel
theorem dX3_changeSkills_89 : decode cX3_changeSkills 89 = .ok (.iastore, 1) := by decide +kernel
theorem dX3_changeSkills_90 : decode cX3_changeSkills 90 = .ok (.goto 27, 3) := by decide +kernel
theorem dX3_changeSkills_93 : decode cX3_changeSkills 93 = .ok (.iload_n 3, 1) := by decide +kernel
theorem dX3_changeSkills_94 : decode cX3_changeSkills 94 = .ok (.ifCond .eq 23, 3) := by decide +kernel
theorem dX3_changeSkills_97 : decode cX3_changeSkills 97 = .ok (.aload_n 0, 1) := by decide +kernel
theorem dX3_changeSkills_98 : decode cX3_changeSkills 98 = .ok (.getfield 21, 3) := by decide +kernel
theorem dX3_changeSkills_101 : decode cX3_changeSkills 101 = .ok (.iload 7, 2) := by decide +kernel
theorem dX3_changeSkills_103 : decode cX3_changeSkills 103 = .ok (.aload_n 0, 1) := by decide +kernel
theorem dX3_changeSkills_104 : decode cX3_changeSkills 104 = .ok (.getfield 21, 3) := by decide +kernel
theorem dX3_changeSkills_107 : decode cX3_changeSkills 107 = .ok (.iload 7, 2) := by decide +kernel
theorem dX3_changeSkills_109 : decode cX3_changeSkills 109 = .ok (.iaload, 1) := by decide +kernel
theorem dX3_changeSkills_110 : decode cX3_changeSkills 110 = .ok (.iconst 1, 1) := by decide +kernel
theorem dX3_changeSkills_111 : decode cX3_changeSkills 111 = .ok (.isub, 1) := by decide +kernel
theorem dX3_changeSkills_112 : decode cX3_changeSkills 112 = .ok (.iconst 0, 1) := by decide +kernel
theorem dX3_changeSkills_113 : decode cX3_changeSkills 113 = .ok (.invokestatic 132, 3) := by decide +kernel
theorem dX3_changeSkills_116 : decode cX3_changeSkills 116 = .ok (.iastore, 1) := by decide +kernel
theorem dX3_changeSkills_117 : decode cX3_changeSkills 117 = .ok (.iinc 6 1, 3) := by decide +kernel
theorem dX3_changeSkills_120 : decode cX3_changeSkills 120 = .ok (.goto (-76), 3) := by decide +kernel
theorem dX3_changeSkills_123 : decode cX3_changeSkills 123 = .ok (.iinc 4 1, 3) := by decide +kernel
theorem dX3_changeSkills_126 : decode cX3_changeSkills 126 = .ok (.goto (-102), 3) := by decide +kernel
theorem dX3_changeSkills_129 : decode cX3_changeSkills 129 = .ok (.return_, 1) := by decide +kernel
set_option maxRecDepth 20000 in
theorem ggX3_moveOn_X1_behind : GoodIn wsX3_moveOn wsX1_behind := goodIn_r _ [8, 9, 10, 11, 12, 13, 14, 15, 16, 17, 18] (by decide +kernel) (by decide +kernel)
set_option maxRecDepth 20000 in
theorem gX3_moveOn_X1_behind : GoodIn wsX3_moveOn (wsV RX3 63 RX1 yX1_behind wsX1_behind) := goodIn_app (goodIn_of _ (by decide +kernel)) ggX3_moveOn_X1_behind
theorem dX3_moveOn_0 : decode cX3_moveOn 0 = .ok (.iconst 0, 1) := by decide +kernel
theorem dX3_moveOn_1 : decode cX3_moveOn 1 = .ok (.istore_n 2, 1) := by decide +kernel
theorem dX3_moveOn_2 : decode cX3_moveOn 2 = .ok (.iload_n 2, 1) := by decide +kernel
theorem dX3_moveOn_3 : decode cX3_moveOn 3 = .ok (.aload_n 1, 1) := by decide +kernel
theorem dX3_moveOn_4 : decode cX3_moveOn 4 = .ok (.getfield 113, 3) := by decide +kernel
theorem dX3_moveOn_7 : decode cX3_moveOn 7 = .ok (.if_icmp .ge 45, 3) := by decide +kernel
theorem dX3_moveOn_10 : decode cX3_moveOn 10 = .ok (.aload_n 0, 1) := by decide +kernel
theorem dX3_moveOn_11 : decode cX3_moveOn 11 = .ok (.getfield 25, 3) := by decide +kernel
theorem dX3_moveOn_14 : decode cX3_moveOn 14 = .ok (.iload_n 2, 1) := by decide +kernel
theorem dX3_moveOn_15 : decode cX3_moveOn 15 = .ok (.aload_n 1, 1) := by decide +kernel
theorem dX3_moveOn_16 : decode cX3_moveOn 16 = .ok (.aload_n 0, 1) := by decide +kernel
theorem dX3_moveOn_17 : decode cX3_moveOn 17 = .ok (.getfield 43, 3) := by decide +kernel
theorem dX3_moveOn_20 : decode cX3_moveOn 20 = .ok (.iload_n 2, 1) := by decide +kernel
theorem dX3_moveOn_21 : decode cX3_moveOn 21 = .ok (.iaload, 1) := by decide +kernel
theorem dX3_moveOn_22 : decode cX3_moveOn 22 = .ok (.bipush (-9), 2) := by decide +kernel
theorem dX3_moveOn_24 : decode cX3_moveOn 24 = .ok (.if_icmp .ne 12, 3) := by decide +kernel
theorem dX3_moveOn_27 : decode cX3_moveOn 27 = .ok (.aload_n 0, 1) := by decide +kernel
theorem dX3_moveOn_28 : decode cX3_moveOn 28 = .ok (.getfield 25, 3) := by decide +kernel
theorem dX3_moveOn_31 : decode cX3_moveOn 31 = .ok (.iload_n 2, 1) := by decide +kernel
theorem dX3_moveOn_32 : decode cX3_moveOn 32 = .ok (.iaload, 1) := by decide +kernel
theorem dX3_moveOn_33 : decode cX3_moveOn 33 = .ok (.goto 9, 3) := by decide +kernel
theorem dX3_moveOn_36 : decode cX3_moveOn 36 = .ok (.aload_n 0, 1) := by decide +kernel
theorem dX3_moveOn_37 : decode cX3_moveOn 37 = .ok (.getfield 43, 3) := by decide +kernel
theorem dX3_moveOn_40 : decode cX3_moveOn 40 = .ok (.iload_n 2, 1) := by decide +kernel
theorem dX3_moveOn_41 : decode cX3_moveOn 41 = .ok (.iaload, 1) := by decide +kernel
theorem dX3_moveOn_42 : decode cX3_moveOn 42 = .ok (.invokevirtual 63, 3) := by decide +kernel
theorem dX3_moveOn_45 : decode cX3_moveOn 45 = .ok (.iastore, 1) := by decide +kernel
theorem dX3_moveOn_46 : decode cX3_moveOn 46 = .ok (.iinc 2 1, 3) := by decide +kernel
theorem dX3_moveOn_49 : decode cX3_moveOn 49 = .ok (.goto (-47), 3) := by decide +kernel
theorem dX3_moveOn_52 : decode cX3_moveOn 52 = .ok (.return_, 1) := by decide +kernel
theorem dX3_endHelps_0 : decode cX3_endHelps 0 = .ok (.iconst 0, 1) := by decide +kernel
theorem dX3_endHelps_1 : decode cX3_endHelps 1 = .ok (.istore_n 1, 1) := by decide +kernel
theorem dX3_endHelps_2 : decode cX3_endHelps 2 = .ok (.iload_n 1, 1) := by decide +kernel
theorem dX3_endHelps_3 : decode cX3_endHelps 3 = .ok (.bipush 6, 2) := by decide +kernel
theorem dX3_endHelps_5 : decode cX3_endHelps 5 = .ok (.if_icmp .ge 48, 3) := by decide +kernel
theorem dX3_endHelps_8 : decode cX3_endHelps 8 = .ok (.aload_n 0, 1) := by decide +kernel
theorem dX3_endHelps_9 : decode cX3_endHelps 9 = .ok (.getfield 34, 3) := by decide +kernel
theorem dX3_endHelps_12 : decode cX3_endHelps 12 = .ok (.iload_n 1, 1) := by decide +kernel
theorem dX3_endHelps_13 : decode cX3_endHelps 13 = .ok (.iaload, 1) := by decide +kernel
theorem dX3_endHelps_14 : decode cX3_endHelps 14 = .ok (.bipush (-9), 2) := by decide +kernel
theorem dX3_endHelps_16 : decode cX3_endHelps 16 = .ok (.if_icmp .eq 23, 3) := by decide +kernel
theorem dX3_endHelps_19 : decode cX3_endHelps 19 = .ok (.aload_n 0, 1) := by decide +kernel
theorem dX3_endHelps_20 : decode cX3_endHelps 20 = .ok (.getfield 37, 3) := by decide +kernel
theorem dX3_endHelps_23 : decode cX3_endHelps 23 = .ok (.iload_n 1, 1) := by decide +kernel
theorem dX3_endHelps_24 : decode cX3_endHelps 24 = .ok (.bipush 6, 2) := by decide +kernel
theorem dX3_endHelps_26 : decode cX3_endHelps 26 = .ok (.imul, 1) := by decide +kernel
theorem dX3_endHelps_27 : decode cX3_endHelps 27 = .ok (.aload_n 0, 1) := by decide +kernel
theorem dX3_endHelps_28 : decode cX3_endHelps 28 = .ok (.getfield 34, 3) := by decide +kernel
theorem dX3_endHelps_31 : decode cX3_endHelps 31 = .ok (.iload_n 1, 1) := by decide +kernel
theorem dX3_endHelps_32 : decode cX3_endHelps 32 = .ok (.iaload, 1) := by decide +kernel
theorem dX3_endHelps_33 : decode cX3_endHelps 33 = .ok (.iadd, 1) := by decide +kernel
theorem dX3_endHelps_34 : decode cX3_endHelps 34 = .ok (.dup2, 1) := by decide +kernel
theorem dX3_endHelps_35 : decode cX3_endHelps 35 = .ok (.iaload, 1) := by decide +kernel
theorem dX3_endHelps_36 : decode cX3_endHelps 36 = .ok (.iconst 1, 1) := by decide +kernel
theorem dX3_endHelps_37 : decode cX3_endHelps 37 = .ok (.iadd, 1) := by decide +kernel
theorem dX3_endHelps_38 : decode cX3_endHelps 38 = .ok (.iastore, 1) := by decide +kernel
theorem dX3_endHelps_39 : decode cX3_endHelps 39 = .ok (.aload_n 0, 1) := by decide +kernel
theorem dX3_endHelps_40 : decode cX3_endHelps 40 = .ok (.getfield 34, 3) := by decide +kernel
theorem dX3_endHelps_43 : decode cX3_endHelps 43 = .ok (.iload_n 1, 1) := by decide +kernel
theorem dX3_endHelps_44 : decode cX3_endHelps 44 = .ok (.bipush (-9), 2) := by decide +kernel
theorem dX3_endHelps_46 : decode cX3_endHelps 46 = .ok (.iastore, 1) := by decide +kernel
theorem dX3_endHelps_47 : decode cX3_endHelps 47 = .ok (.iinc 1 1, 3) := by decide +kernel
theorem dX3_endHelps_50 : decode cX3_endHelps 50 = .ok (.goto (-48), 3) := by decide +kernel
theorem dX3_endHelps_53 : decode cX3_endHelps 53 = .ok (.return_, 1) := by decide +kernel
