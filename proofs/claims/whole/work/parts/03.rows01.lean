theorem dX5_at_22 : decode cX5_at 22 = .ok (.ireturn, 1) := by decide +kernel
set_option maxRecDepth 20000 in
theorem ggX5_firstWrong_X5_fits : GoodIn wsX5_firstWrong wsX5_fits := goodIn_r _ [6, 7, 8, 9, 5, 10, 1, 11, 12, 13, 14, 15, 16, 17, 18, 19, 20, 21, 22, 23, 24, 25, 26, 27, 28, 29, 30, 31, 32, 33, 34, 35, 36, 37, 38, 39, 40, 41, 42, 43, 44, 45, 46, 47, 48, 49, 50, 51, 52, 53, 54, 55, 56, 57, 58, 59, 60, 61, 62, 63, 64, 65, 66, 67, 68, 69, 70, 71, 72, 73, 74, 75, 76, 77, 78, 79, 80, 81, 82, 83, 84, 85, 86, 87, 88, 89, 90, 91, 92, 93, 94, 95, 96, 97, 98, 99, 100, 101, 102] (by decide +kernel) (by decide +kernel)
set_option maxRecDepth 20000 in
theorem gX5_firstWrong_X5_fits : GoodIn wsX5_firstWrong (wsV RX5 19 RX5 yX5_fits wsX5_fits) := goodIn_app (goodIn_of _ (by decide +kernel)) ggX5_firstWrong_X5_fits
theorem dX5_firstWrong_0 : decode cX5_firstWrong 0 = .ok (.iconst 0, 1) := by decide +kernel
theorem dX5_firstWrong_1 : decode cX5_firstWrong 1 = .ok (.istore_n 1, 1) := by decide +kernel
theorem dX5_firstWrong_2 : decode cX5_firstWrong 2 = .ok (.iload_n 1, 1) := by decide +kernel
theorem dX5_firstWrong_3 : decode cX5_firstWrong 3 = .ok (.aload_n 0, 1) := by decide +kernel
theorem dX5_firstWrong_4 : decode cX5_firstWrong 4 = .ok (.getfield 15, 3) := by decide +kernel
theorem dX5_firstWrong_7 : decode cX5_firstWrong 7 = .ok (.if_icmp .ge 19, 3) := by decide +kernel
theorem dX5_firstWrong_10 : decode cX5_firstWrong 10 = .ok (.aload_n 0, 1) := by decide +kernel
theorem dX5_firstWrong_11 : decode cX5_firstWrong 11 = .ok (.iload_n 1, 1) := by decide +kernel
theorem dX5_firstWrong_12 : decode cX5_firstWrong 12 = .ok (.invokevirtual 19, 3) := by decide +kernel
theorem dX5_firstWrong_15 : decode cX5_firstWrong 15 = .ok (.ifCond .ne 5, 3) := by decide +kernel
theorem dX5_firstWrong_18 : decode cX5_firstWrong 18 = .ok (.iload_n 1, 1) := by decide +kernel
theorem dX5_firstWrong_19 : decode cX5_firstWrong 19 = .ok (.ireturn, 1) := by decide +kernel
theorem dX5_firstWrong_20 : decode cX5_firstWrong 20 = .ok (.iinc 1 1, 3) := by decide +kernel
theorem dX5_firstWrong_23 : decode cX5_firstWrong 23 = .ok (.goto (-21), 3) := by decide +kernel
theorem dX5_firstWrong_26 : decode cX5_firstWrong 26 = .ok (.aload_n 0, 1) := by decide +kernel
theorem dX5_firstWrong_27 : decode cX5_firstWrong 27 = .ok (.getfield 15, 3) := by decide +kernel
theorem dX5_firstWrong_30 : decode cX5_firstWrong 30 = .ok (.ireturn, 1) := by decide +kernel
set_option maxRecDepth 20000 in
theorem ggX5_isWhole_X5_firstWrong : GoodIn wsX5_isWhole wsX5_firstWrong := goodIn_r _ [6, 1, 7, 8, 9, 5, 10, 11, 12, 13, 14, 15, 16, 17, 18, 19, 20, 21, 22, 23, 24, 25, 26, 27, 28, 29, 30, 31, 32, 33, 34, 35, 36, 37, 38, 39, 40, 41, 42, 43, 44, 45, 46, 47, 48, 49, 50, 51, 52, 53, 54, 55, 56, 57, 58, 59, 60, 61, 62, 63, 64, 65, 66, 67, 68, 69, 70, 71, 72, 73, 74, 75, 76, 77, 78, 79, 80, 81, 82, 83, 84, 85, 86, 87, 88, 89, 90, 91, 92, 93, 94, 95, 96, 97, 98, 99, 100, 101, 102, 103, 104, 105, 106] (by decide +kernel) (by decide +kernel)
set_option maxRecDepth 20000 in
theorem gX5_isWhole_X5_firstWrong : GoodIn wsX5_isWhole (wsV RX5 23 RX5 yX5_firstWrong wsX5_firstWrong) := goodIn_app (goodIn_of _ (by decide +kernel)) ggX5_isWhole_X5_firstWrong
theorem dX5_isWhole_0 : decode cX5_isWhole 0 = .ok (.aload_n 0, 1) := by decide +kernel
theorem dX5_isWhole_1 : decode cX5_isWhole 1 = .ok (.getfield 15, 3) := by decide +kernel
theorem dX5_isWhole_4 : decode cX5_isWhole 4 = .ok (.iconst 3, 1) := by decide +kernel
theorem dX5_isWhole_5 : decode cX5_isWhole 5 = .ok (.irem, 1) := by decide +kernel
theorem dX5_isWhole_6 : decode cX5_isWhole 6 = .ok (.iconst 2, 1) := by decide +kernel
theorem dX5_isWhole_7 : decode cX5_isWhole 7 = .ok (.if_icmp .ne 18, 3) := by decide +kernel
theorem dX5_isWhole_10 : decode cX5_isWhole 10 = .ok (.aload_n 0, 1) := by decide +kernel
theorem dX5_isWhole_11 : decode cX5_isWhole 11 = .ok (.invokevirtual 23, 3) := by decide +kernel
theorem dX5_isWhole_14 : decode cX5_isWhole 14 = .ok (.aload_n 0, 1) := by decide +kernel
theorem dX5_isWhole_15 : decode cX5_isWhole 15 = .ok (.getfield 15, 3) := by decide +kernel
theorem dX5_isWhole_18 : decode cX5_isWhole 18 = .ok (.if_icmp .ne 7, 3) := by decide +kernel
theorem dX5_isWhole_21 : decode cX5_isWhole 21 = .ok (.iconst 1, 1) := by decide +kernel
theorem dX5_isWhole_22 : decode cX5_isWhole 22 = .ok (.goto 4, 3) := by decide +kernel
theorem dX5_isWhole_25 : decode cX5_isWhole 25 = .ok (.iconst 0, 1) := by decide +kernel
theorem dX5_isWhole_26 : decode cX5_isWhole 26 = .ok (.ireturn, 1) := by decide +kernel
theorem dX5_branches_0 : decode cX5_branches 0 = .ok (.aload_n 0, 1) := by decide +kernel
theorem dX5_branches_1 : decode cX5_branches 1 = .ok (.getfield 15, 3) := by decide +kernel
theorem dX5_branches_4 : decode cX5_branches 4 = .ok (.iconst 1, 1) := by decide +kernel
theorem dX5_branches_5 : decode cX5_branches 5 = .ok (.iadd, 1) := by decide +kernel
theorem dX5_branches_6 : decode cX5_branches 6 = .ok (.iconst 3, 1) := by decide +kernel
theorem dX5_branches_7 : decode cX5_branches 7 = .ok (.idiv, 1) := by decide +kernel
theorem dX5_branches_8 : decode cX5_branches 8 = .ok (.ireturn, 1) := by decide +kernel
set_option maxRecDepth 20000 in
theorem ggX5_kindAt_X5_at : GoodIn wsX5_kindAt wsX5_at := goodIn_r _ [9, 10, 11, 98, 99] (by decide +kernel) (by decide +kernel)
set_option maxRecDepth 20000 in
theorem gX5_kindAt_X5_at : GoodIn wsX5_kindAt (wsV RX5 29 RX5 yX5_at wsX5_at) := goodIn_app (goodIn_of _ (by decide +kernel)) ggX5_kindAt_X5_at
set_option maxRecDepth 20000 in
theorem ggX5_kindAt_J0_indexOf_0f7a4 : GoodIn wsX5_kindAt wsJ0_indexOf_0f7a4 := goodIn_r _ [16, 17, 18, 19, 15, 20, 21, 22, 23, 24, 25, 26, 27, 28, 29, 30, 31, 32, 33, 34, 35, 36, 37, 38, 39, 40, 2, 3, 4, 41, 42, 43, 44, 45, 46, 47, 48, 49, 50, 51, 52, 53, 54, 55, 56, 57, 58, 59, 60, 61, 62, 63, 64, 65, 66, 67, 68, 69, 70, 71, 72, 73, 74, 75, 76, 77, 78, 79, 80, 81, 82, 83, 84, 85, 86, 87, 88, 89, 90, 91, 92, 93, 94, 95, 96, 97] (by decide +kernel) (by decide +kernel)
set_option maxRecDepth 20000 in
theorem gX5_kindAt_J0_indexOf_0f7a4 : GoodIn wsX5_kindAt (wsV RX5 33 RJ0 yJ0_indexOf_0f7a4 wsJ0_indexOf_0f7a4) := goodIn_app (goodIn_of _ (by decide +kernel)) ggX5_kindAt_J0_indexOf_0f7a4
theorem dX5_kindAt_0 : decode cX5_kindAt 0 = .ok (.iconst 0, 1) := by decide +kernel
theorem dX5_kindAt_1 : decode cX5_kindAt 1 = .ok (.ldc 27, 2) := by decide +kernel
theorem dX5_kindAt_3 : decode cX5_kindAt 3 = .ok (.aload_n 0, 1) := by decide +kernel
theorem dX5_kindAt_4 : decode cX5_kindAt 4 = .ok (.iconst 3, 1) := by decide +kernel
theorem dX5_kindAt_5 : decode cX5_kindAt 5 = .ok (.iload_n 1, 1) := by decide +kernel
theorem dX5_kindAt_6 : decode cX5_kindAt 6 = .ok (.imul, 1) := by decide +kernel
theorem dX5_kindAt_7 : decode cX5_kindAt 7 = .ok (.invokevirtual 29, 3) := by decide +kernel
theorem dX5_kindAt_10 : decode cX5_kindAt 10 = .ok (.invokevirtual 33, 3) := by decide +kernel
theorem dX5_kindAt_13 : decode cX5_kindAt 13 = .ok (.invokestatic 39, 3) := by decide +kernel
theorem dX5_kindAt_16 : decode cX5_kindAt 16 = .ok (.ireturn, 1) := by decide +kernel
set_option maxRecDepth 20000 in
theorem ggX5_groundAt_X5_at : GoodIn wsX5_groundAt wsX5_at := goodIn_r _ [5, 6, 7, 8, 9] (by decide +kernel) (by decide +kernel)
set_option maxRecDepth 20000 in
theorem gX5_groundAt_X5_at : GoodIn wsX5_groundAt (wsV RX5 29 RX5 yX5_at wsX5_at) := goodIn_app (goodIn_of _ (by decide +kernel)) ggX5_groundAt_X5_at
theorem dX5_groundAt_0 : decode cX5_groundAt 0 = .ok (.aload_n 0, 1) := by decide +kernel
theorem dX5_groundAt_1 : decode cX5_groundAt 1 = .ok (.iconst 3, 1) := by decide +kernel
theorem dX5_groundAt_2 : decode cX5_groundAt 2 = .ok (.iload_n 1, 1) := by decide +kernel
theorem dX5_groundAt_3 : decode cX5_groundAt 3 = .ok (.imul, 1) := by decide +kernel
theorem dX5_groundAt_4 : decode cX5_groundAt 4 = .ok (.iconst 1, 1) := by decide +kernel
theorem dX5_groundAt_5 : decode cX5_groundAt 5 = .ok (.iadd, 1) := by decide +kernel
theorem dX5_groundAt_6 : decode cX5_groundAt 6 = .ok (.invokevirtual 29, 3) := by decide +kernel
theorem dX5_groundAt_9 : decode cX5_groundAt 9 = .ok (.istore_n 2, 1) := by decide +kernel
theorem dX5_groundAt_10 : decode cX5_groundAt 10 = .ok (.iload_n 2, 1) := by decide +kernel
theorem dX5_groundAt_11 : decode cX5_groundAt 11 = .ok (.bipush 48, 2) := by decide +kernel
theorem dX5_groundAt_13 : decode cX5_groundAt 13 = .ok (.if_icmp .lt 18, 3) := by decide +kernel
theorem dX5_groundAt_16 : decode cX5_groundAt 16 = .ok (.iload_n 2, 1) := by decide +kernel
theorem dX5_groundAt_17 : decode cX5_groundAt 17 = .ok (.bipush 48, 2) := by decide +kernel
theorem dX5_groundAt_19 : decode cX5_groundAt 19 = .ok (.iload_n 1, 1) := by decide +kernel
theorem dX5_groundAt_20 : decode cX5_groundAt 20 = .ok (.iadd, 1) := by decide +kernel
theorem dX5_groundAt_21 : decode cX5_groundAt 21 = .ok (.if_icmp .ge 10, 3) := by decide +kernel
theorem dX5_groundAt_24 : decode cX5_groundAt 24 = .ok (.iload_n 2, 1) := by decide +kernel
theorem dX5_groundAt_25 : decode cX5_groundAt 25 = .ok (.bipush 48, 2) := by decide +kernel
theorem dX5_groundAt_27 : decode cX5_groundAt 27 = .ok (.isub, 1) := by decide +kernel
theorem dX5_groundAt_28 : decode cX5_groundAt 28 = .ok (.goto 4, 3) := by decide +kernel
theorem dX5_groundAt_31 : decode cX5_groundAt 31 = .ok (.iconst (-1), 1) := by decide +kernel
theorem dX5_groundAt_32 : decode cX5_groundAt 32 = .ok (.ireturn, 1) := by decide +kernel
set_option maxRecDepth 20000 in
theorem ggX5_fits_X5_at : GoodIn wsX5_fits wsX5_at := goodIn_r _ [5, 6, 7, 97, 98] (by decide +kernel) (by decide +kernel)
set_option maxRecDepth 20000 in
theorem gX5_fits_X5_at : GoodIn wsX5_fits (wsV RX5 29 RX5 yX5_at wsX5_at) := goodIn_app (goodIn_of _ (by decide +kernel)) ggX5_fits_X5_at
set_option maxRecDepth 20000 in
theorem ggX5_fits_J0_indexOf_0f7a4 : GoodIn wsX5_fits wsJ0_indexOf_0f7a4 := goodIn_r _ [12, 13, 14, 15, 11, 16, 17, 18, 19, 20, 21, 22, 23, 24, 25, 26, 27, 28, 29, 30, 31, 32, 33, 34, 35, 36, 37, 38, 39, 40, 41, 42, 43, 44, 45, 46, 47, 48, 49, 50, 51, 52, 53, 54, 55, 56, 57, 58, 59, 60, 61, 62, 63, 64, 65, 66, 67, 68, 69, 70, 71, 72, 73, 74, 75, 76, 77, 78, 79, 80, 81, 82, 83, 84, 85, 86, 87, 88, 89, 90, 91, 92, 93, 94, 95, 96] (by decide +kernel) (by decide +kernel)
set_option maxRecDepth 20000 in
theorem gX5_fits_J0_indexOf_0f7a4 : GoodIn wsX5_fits (wsV RX5 33 RJ0 yJ0_indexOf_0f7a4 wsJ0_indexOf_0f7a4) := goodIn_app (goodIn_of _ (by decide +kernel)) ggX5_fits_J0_indexOf_0f7a4
theorem dX5_fits_0 : decode cX5_fits 0 = .ok (.iload_n 1, 1) := by decide +kernel
theorem dX5_fits_1 : decode cX5_fits 1 = .ok (.bipush 23, 2) := by decide +kernel
theorem dX5_fits_3 : decode cX5_fits 3 = .ok (.if_icmp .lt 5, 3) := by decide +kernel
theorem dX5_fits_6 : decode cX5_fits 6 = .ok (.iconst 0, 1) := by decide +kernel
theorem dX5_fits_7 : decode cX5_fits 7 = .ok (.ireturn, 1) := by decide +kernel
theorem dX5_fits_8 : decode cX5_fits 8 = .ok (.aload_n 0, 1) := by decide +kernel
theorem dX5_fits_9 : decode cX5_fits 9 = .ok (.iload_n 1, 1) := by decide +kernel
theorem dX5_fits_10 : decode cX5_fits 10 = .ok (.invokevirtual 29, 3) := by decide +kernel
theorem dX5_fits_13 : decode cX5_fits 13 = .ok (.istore_n 2, 1) := by decide +kernel
theorem dX5_fits_14 : decode cX5_fits 14 = .ok (.iload_n 1, 1) := by decide +kernel
theorem dX5_fits_15 : decode cX5_fits 15 = .ok (.iconst 3, 1) := by decide +kernel
theorem dX5_fits_16 : decode cX5_fits 16 = .ok (.irem, 1) := by decide +kernel
theorem dX5_fits_17 : decode cX5_fits 17 = .ok (.lookupswitch 70 #[(0, 27), (1, 42)], 27) := by decide +kernel
theorem dX5_fits_44 : decode cX5_fits 44 = .ok (.ldc 27, 2) := by decide +kernel
theorem dX5_fits_46 : decode cX5_fits 46 = .ok (.iload_n 2, 1) := by decide +kernel
theorem dX5_fits_47 : decode cX5_fits 47 = .ok (.invokevirtual 33, 3) := by decide +kernel
theorem dX5_fits_50 : decode cX5_fits 50 = .ok (.ifCond .lt 7, 3) := by decide +kernel
theorem dX5_fits_53 : decode cX5_fits 53 = .ok (.iconst 1, 1) := by decide +kernel
theorem dX5_fits_54 : decode cX5_fits 54 = .ok (.goto 4, 3) := by decide +kernel
theorem dX5_fits_57 : decode cX5_fits 57 = .ok (.iconst 0, 1) := by decide +kernel
theorem dX5_fits_58 : decode cX5_fits 58 = .ok (.ireturn, 1) := by decide +kernel
theorem dX5_fits_59 : decode cX5_fits 59 = .ok (.iload_n 2, 1) := by decide +kernel
theorem dX5_fits_60 : decode cX5_fits 60 = .ok (.bipush 45, 2) := by decide +kernel
theorem dX5_fits_62 : decode cX5_fits 62 = .ok (.if_icmp .eq 19, 3) := by decide +kernel
theorem dX5_fits_65 : decode cX5_fits 65 = .ok (.iload_n 2, 1) := by decide +kernel
theorem dX5_fits_66 : decode cX5_fits 66 = .ok (.bipush 48, 2) := by decide +kernel
theorem dX5_fits_68 : decode cX5_fits 68 = .ok (.if_icmp .lt 17, 3) := by decide +kernel
theorem dX5_fits_71 : decode cX5_fits 71 = .ok (.iload_n 2, 1) := by decide +kernel
theorem dX5_fits_72 : decode cX5_fits 72 = .ok (.bipush 48, 2) := by decide +kernel
theorem dX5_fits_74 : decode cX5_fits 74 = .ok (.iload_n 1, 1) := by decide +kernel
theorem dX5_fits_75 : decode cX5_fits 75 = .ok (.iconst 3, 1) := by decide +kernel
theorem dX5_fits_76 : decode cX5_fits 76 = .ok (.idiv, 1) := by decide +kernel
theorem dX5_fits_77 : decode cX5_fits 77 = .ok (.iadd, 1) := by decide +kernel
theorem dX5_fits_78 : decode cX5_fits 78 = .ok (.if_icmp .ge 7, 3) := by decide +kernel
theorem dX5_fits_81 : decode cX5_fits 81 = .ok (.iconst 1, 1) := by decide +kernel
theorem dX5_fits_82 : decode cX5_fits 82 = .ok (.goto 4, 3) := by decide +kernel
theorem dX5_fits_85 : decode cX5_fits 85 = .ok (.iconst 0, 1) := by decide +kernel
theorem dX5_fits_86 : decode cX5_fits 86 = .ok (.ireturn, 1) := by decide +kernel
theorem dX5_fits_87 : decode cX5_fits 87 = .ok (.iload_n 2, 1) := by decide +kernel
theorem dX5_fits_88 : decode cX5_fits 88 = .ok (.bipush 44, 2) := by decide +kernel
theorem dX5_fits_90 : decode cX5_fits 90 = .ok (.if_icmp .ne 7, 3) := by decide +kernel
theorem dX5_fits_93 : decode cX5_fits 93 = .ok (.iconst 1, 1) := by decide +kernel
theorem dX5_fits_94 : decode cX5_fits 94 = .ok (.goto 4, 3) := by decide +kernel
theorem dX5_fits_97 : decode cX5_fits 97 = .ok (.iconst 0, 1) := by decide +kernel
theorem dX5_fits_98 : decode cX5_fits 98 = .ok (.ireturn, 1) := by decide +kernel
theorem dX6_init_0 : decode cX6_init 0 = .ok (.aload_n 0, 1) := by decide +kernel
theorem dX6_init_1 : decode cX6_init 1 = .ok (.invokespecial 3, 3) := by decide +kernel
theorem dX6_init_4 : decode cX6_init 4 = .ok (.aload_n 0, 1) := by decide +kernel
theorem dX6_init_5 : decode cX6_init 5 = .ok (.aload_n 1, 1) := by decide +kernel
theorem dX6_init_6 : decode cX6_init 6 = .ok (.putfield 9, 3) := by decide +kernel
theorem dX6_init_9 : decode cX6_init 9 = .ok (.aload_n 0, 1) := by decide +kernel
theorem dX6_init_10 : decode cX6_init 10 = .ok (.aload_n 2, 1) := by decide +kernel
theorem dX6_init_11 : decode cX6_init 11 = .ok (.putfield 15, 3) := by decide +kernel
theorem dX6_init_14 : decode cX6_init 14 = .ok (.return_, 1) := by decide +kernel
theorem dX6_kindsCutBy_0 : decode cX6_kindsCutBy 0 = .ok (.iload_n 1, 1) := by decide +kernel
theorem dX6_kindsCutBy_1 : decode cX6_kindsCutBy 1 = .ok (.iconst 1, 1) := by decide +kernel
theorem dX6_kindsCutBy_2 : decode cX6_kindsCutBy 2 = .ok (.if_icmp .ne 5, 3) := by decide +kernel
theorem dX6_kindsCutBy_5 : decode cX6_kindsCutBy 5 = .ok (.iconst 5, 1) := by decide +kernel
theorem dX6_kindsCutBy_6 : decode cX6_kindsCutBy 6 = .ok (.ireturn, 1) := by decide +kernel
theorem dX6_kindsCutBy_7 : decode cX6_kindsCutBy 7 = .ok (.iload_n 3, 1) := by decide +kernel
theorem dX6_kindsCutBy_8 : decode cX6_kindsCutBy 8 = .ok (.aload_n 0, 1) := by decide +kernel
theorem dX6_kindsCutBy_9 : decode cX6_kindsCutBy 9 = .ok (.getfield 9, 3) := by decide +kernel
theorem dX6_kindsCutBy_12 : decode cX6_kindsCutBy 12 = .ok (.getfield 19, 3) := by decide +kernel
theorem dX6_kindsCutBy_15 : decode cX6_kindsCutBy 15 = .ok (.iload_n 2, 1) := by decide +kernel
theorem dX6_kindsCutBy_16 : decode cX6_kindsCutBy 16 = .ok (.iaload, 1) := by decide +kernel
theorem dX6_kindsCutBy_17 : decode cX6_kindsCutBy 17 = .ok (.iand, 1) := by decide +kernel
theorem dX6_kindsCutBy_18 : decode cX6_kindsCutBy 18 = .ok (.ifCond .ne 7, 3) := by decide +kernel
theorem dX6_kindsCutBy_21 : decode cX6_kindsCutBy 21 = .ok (.iconst 1, 1) := by decide +kernel
theorem dX6_kindsCutBy_22 : decode cX6_kindsCutBy 22 = .ok (.goto 4, 3) := by decide +kernel
theorem dX6_kindsCutBy_25 : decode cX6_kindsCutBy 25 = .ok (.iconst 0, 1) := by decide +kernel
theorem dX6_kindsCutBy_26 : decode cX6_kindsCutBy 26 = .ok (.istore 4, 2) := by decide +kernel
theorem dX6_kindsCutBy_28 : decode cX6_kindsCutBy 28 = .ok (.iload 4, 2) := by decide +kernel
theorem dX6_kindsCutBy_30 : decode cX6_kindsCutBy 30 = .ok (.ifCond .eq 8, 3) := by decide +kernel
theorem dX6_kindsCutBy_33 : decode cX6_kindsCutBy 33 = .ok (.bipush 19, 2) := by decide +kernel
theorem dX6_kindsCutBy_35 : decode cX6_kindsCutBy 35 = .ok (.goto 4, 3) := by decide +kernel
theorem dX6_kindsCutBy_38 : decode cX6_kindsCutBy 38 = .ok (.iconst 3, 1) := by decide +kernel
theorem dX6_kindsCutBy_39 : decode cX6_kindsCutBy 39 = .ok (.ireturn, 1) := by decide +kernel
set_option maxRecDepth 20000 in
theorem ggX6_choices_X6_kindsCutBy : GoodIn wsX6_choices wsX6_kindsCutBy := goodIn_r _ [7, 1, 8, 9, 10, 11, 12, 13, 14] (by decide +kernel) (by decide +kernel)
set_option maxRecDepth 20000 in
theorem gX6_choices_X6_kindsCutBy : GoodIn wsX6_choices (wsV RX6 29 RX6 yX6_kindsCutBy wsX6_kindsCutBy) := goodIn_app (goodIn_of _ (by decide +kernel)) ggX6_choices_X6_kindsCutBy
theorem dX6_choices_0 : decode cX6_choices 0 = .ok (.iconst 0, 1) := by decide +kernel
theorem dX6_choices_1 : decode cX6_choices 1 = .ok (.istore_n 3, 1) := by decide +kernel
theorem dX6_choices_2 : decode cX6_choices 2 = .ok (.iconst 0, 1) := by decide +kernel
theorem dX6_choices_3 : decode cX6_choices 3 = .ok (.istore 4, 2) := by decide +kernel
theorem dX6_choices_5 : decode cX6_choices 5 = .ok (.iload 4, 2) := by decide +kernel
theorem dX6_choices_7 : decode cX6_choices 7 = .ok (.aload_n 0, 1) := by decide +kernel
theorem dX6_choices_8 : decode cX6_choices 8 = .ok (.getfield 9, 3) := by decide +kernel
theorem dX6_choices_11 : decode cX6_choices 11 = .ok (.getfield 25, 3) := by decide +kernel
theorem dX6_choices_14 : decode cX6_choices 14 = .ok (.if_icmp .ge 49, 3) := by decide +kernel
theorem dX6_choices_17 : decode cX6_choices 17 = .ok (.iload_n 2, 1) := by decide +kernel
theorem dX6_choices_18 : decode cX6_choices 18 = .ok (.iload 4, 2) := by decide +kernel
theorem dX6_choices_20 : decode cX6_choices 20 = .ok (.ishr, 1) := by decide +kernel
theorem dX6_choices_21 : decode cX6_choices 21 = .ok (.iconst 1, 1) := by decide +kernel
theorem dX6_choices_22 : decode cX6_choices 22 = .ok (.iand, 1) := by decide +kernel
theorem dX6_choices_23 : decode cX6_choices 23 = .ok (.ifCond .eq 34, 3) := by decide +kernel
theorem dX6_choices_26 : decode cX6_choices 26 = .ok (.aload_n 0, 1) := by decide +kernel
theorem dX6_choices_27 : decode cX6_choices 27 = .ok (.iload_n 1, 1) := by decide +kernel
theorem dX6_choices_28 : decode cX6_choices 28 = .ok (.iload 4, 2) := by decide +kernel
theorem dX6_choices_30 : decode cX6_choices 30 = .ok (.iload_n 2, 1) := by decide +kernel
theorem dX6_choices_31 : decode cX6_choices 31 = .ok (.invokevirtual 29, 3) := by decide +kernel
theorem dX6_choices_34 : decode cX6_choices 34 = .ok (.aload_n 0, 1) := by decide +kernel
theorem dX6_choices_35 : decode cX6_choices 35 = .ok (.getfield 15, 3) := by decide +kernel
theorem dX6_choices_38 : decode cX6_choices 38 = .ok (.getfield 33, 3) := by decide +kernel
theorem dX6_choices_41 : decode cX6_choices 41 = .ok (.iload 4, 2) := by decide +kernel
theorem dX6_choices_43 : decode cX6_choices 43 = .ok (.iaload, 1) := by decide +kernel
theorem dX6_choices_44 : decode cX6_choices 44 = .ok (.ishr, 1) := by decide +kernel
theorem dX6_choices_45 : decode cX6_choices 45 = .ok (.iconst 1, 1) := by decide +kernel
theorem dX6_choices_46 : decode cX6_choices 46 = .ok (.iand, 1) := by decide +kernel
theorem dX6_choices_47 : decode cX6_choices 47 = .ok (.ifCond .eq 10, 3) := by decide +kernel
theorem dX6_choices_50 : decode cX6_choices 50 = .ok (.iload_n 3, 1) := by decide +kernel
theorem dX6_choices_51 : decode cX6_choices 51 = .ok (.iconst 1, 1) := by decide +kernel
theorem dX6_choices_52 : decode cX6_choices 52 = .ok (.iload 4, 2) := by decide +kernel
theorem dX6_choices_54 : decode cX6_choices 54 = .ok (.ishl, 1) := by decide +kernel
theorem dX6_choices_55 : decode cX6_choices 55 = .ok (.ior, 1) := by decide +kernel
theorem dX6_choices_56 : decode cX6_choices 56 = .ok (.istore_n 3, 1) := by decide +kernel
theorem dX6_choices_57 : decode cX6_choices 57 = .ok (.iinc 4 1, 3) := by decide +kernel
theorem dX6_choices_60 : decode cX6_choices 60 = .ok (.goto (-55), 3) := by decide +kernel
theorem dX6_choices_63 : decode cX6_choices 63 = .ok (.iload_n 3, 1) := by decide +kernel
theorem dX6_choices_64 : decode cX6_choices 64 = .ok (.ireturn, 1) := by decide +kernel
theorem dX6_leftBy_0 : decode cX6_leftBy 0 = .ok (.iload_n 2, 1) := by decide +kernel
theorem dX6_leftBy_1 : decode cX6_leftBy 1 = .ok (.aload_n 0, 1) := by decide +kernel
theorem dX6_leftBy_2 : decode cX6_leftBy 2 = .ok (.getfield 9, 3) := by decide +kernel
theorem dX6_leftBy_5 : decode cX6_leftBy 5 = .ok (.getfield 19, 3) := by decide +kernel
theorem dX6_leftBy_8 : decode cX6_leftBy 8 = .ok (.iload_n 1, 1) := by decide +kernel
theorem dX6_leftBy_9 : decode cX6_leftBy 9 = .ok (.iaload, 1) := by decide +kernel
theorem dX6_leftBy_10 : decode cX6_leftBy 10 = .ok (.iconst 1, 1) := by decide +kernel
theorem dX6_leftBy_11 : decode cX6_leftBy 11 = .ok (.iload_n 1, 1) := by decide +kernel
theorem dX6_leftBy_12 : decode cX6_leftBy 12 = .ok (.ishl, 1) := by decide +kernel
theorem dX6_leftBy_13 : decode cX6_leftBy 13 = .ok (.ior, 1) := by decide +kernel
theorem dX6_leftBy_14 : decode cX6_leftBy 14 = .ok (.iconst (-1), 1) := by decide +kernel
theorem dX6_leftBy_15 : decode cX6_leftBy 15 = .ok (.ixor, 1) := by decide +kernel
theorem dX6_leftBy_16 : decode cX6_leftBy 16 = .ok (.iand, 1) := by decide +kernel
theorem dX6_leftBy_17 : decode cX6_leftBy 17 = .ok (.ireturn, 1) := by decide +kernel
theorem dX7_init_0 : decode cX7_init 0 = .ok (.aload_n 0, 1) := by decide +kernel
theorem dX7_init_1 : decode cX7_init 1 = .ok (.invokespecial 3, 3) := by decide +kernel
theorem dX7_init_4 : decode cX7_init 4 = .ok (.aload_n 0, 1) := by decide +kernel
theorem dX7_init_5 : decode cX7_init 5 = .ok (.iconst 0, 1) := by decide +kernel
theorem dX7_init_6 : decode cX7_init 6 = .ok (.putfield 9, 3) := by decide +kernel
theorem dX7_init_9 : decode cX7_init 9 = .ok (.aload_n 0, 1) := by decide +kernel
theorem dX7_init_10 : decode cX7_init 10 = .ok (.bipush 6, 2) := by decide +kernel
theorem dX7_init_12 : decode cX7_init 12 = .ok (.newarray .int, 2) := by decide +kernel
theorem dX7_init_14 : decode cX7_init 14 = .ok (.putfield 15, 3) := by decide +kernel
theorem dX7_init_17 : decode cX7_init 17 = .ok (.aload_n 0, 1) := by decide +kernel
theorem dX7_init_18 : decode cX7_init 18 = .ok (.bipush 6, 2) := by decide +kernel
theorem dX7_init_20 : decode cX7_init 20 = .ok (.newarray .int, 2) := by decide +kernel
theorem dX7_init_22 : decode cX7_init 22 = .ok (.putfield 19, 3) := by decide +kernel
theorem dX7_init_25 : decode cX7_init 25 = .ok (.aload_n 0, 1) := by decide +kernel
theorem dX7_init_26 : decode cX7_init 26 = .ok (.bipush 6, 2) := by decide +kernel
theorem dX7_init_28 : decode cX7_init 28 = .ok (.newarray .boolean, 2) := by decide +kernel
theorem dX7_init_30 : decode cX7_init 30 = .ok (.putfield 22, 3) := by decide +kernel
theorem dX7_init_33 : decode cX7_init 33 = .ok (.return_, 1) := by decide +kernel
theorem dX7_add_0 : decode cX7_add 0 = .ok (.aload_n 0, 1) := by decide +kernel
theorem dX7_add_1 : decode cX7_add 1 = .ok (.getfield 9, 3) := by decide +kernel
theorem dX7_add_4 : decode cX7_add 4 = .ok (.bipush 6, 2) := by decide +kernel
theorem dX7_add_6 : decode cX7_add 6 = .ok (.if_icmp .ge 43, 3) := by decide +kernel
theorem dX7_add_9 : decode cX7_add 9 = .ok (.aload_n 0, 1) := by decide +kernel
theorem dX7_add_10 : decode cX7_add 10 = .ok (.getfield 15, 3) := by decide +kernel
theorem dX7_add_13 : decode cX7_add 13 = .ok (.aload_n 0, 1) := by decide +kernel
theorem dX7_add_14 : decode cX7_add 14 = .ok (.getfield 9, 3) := by decide +kernel
theorem dX7_add_17 : decode cX7_add 17 = .ok (.iload_n 1, 1) := by decide +kernel
theorem dX7_add_18 : decode cX7_add 18 = .ok (.iastore, 1) := by decide +kernel
theorem dX7_add_19 : decode cX7_add 19 = .ok (.aload_n 0, 1) := by decide +kernel
theorem dX7_add_20 : decode cX7_add 20 = .ok (.getfield 19, 3) := by decide +kernel
theorem dX7_add_23 : decode cX7_add 23 = .ok (.aload_n 0, 1) := by decide +kernel
theorem dX7_add_24 : decode cX7_add 24 = .ok (.getfield 9, 3) := by decide +kernel
theorem dX7_add_27 : decode cX7_add 27 = .ok (.iload_n 2, 1) := by decide +kernel
theorem dX7_add_28 : decode cX7_add 28 = .ok (.iastore, 1) := by decide +kernel
theorem dX7_add_29 : decode cX7_add 29 = .ok (.aload_n 0, 1) := by decide +kernel
theorem dX7_add_30 : decode cX7_add 30 = .ok (.getfield 22, 3) := by decide +kernel
theorem dX7_add_33 : decode cX7_add 33 = .ok (.aload_n 0, 1) := by decide +kernel
theorem dX7_add_34 : decode cX7_add 34 = .ok (.getfield 9, 3) := by decide +kernel
theorem dX7_add_37 : decode cX7_add 37 = .ok (.iload_n 3, 1) := by decide +kernel
theorem dX7_add_38 : decode cX7_add 38 = .ok (.bastore, 1) := by decide +kernel
theorem dX7_add_39 : decode cX7_add 39 = .ok (.aload_n 0, 1) := by decide +kernel
theorem dX7_add_40 : decode cX7_add 40 = .ok (.dup, 1) := by decide +kernel
theorem dX7_add_41 : decode cX7_add 41 = .ok (.getfield 9, 3) := by decide +kernel
theorem dX7_add_44 : decode cX7_add 44 = .ok (.iconst 1, 1) := by decide +kernel
theorem dX7_add_45 : decode cX7_add 45 = .ok (.iadd, 1) := by decide +kernel
theorem dX7_add_46 : decode cX7_add 46 = .ok (.putfield 9, 3) := by decide +kernel
theorem dX7_add_49 : decode cX7_add 49 = .ok (.return_, 1) := by decide +kernel
theorem dX7_copyFrom_0 : decode cX7_copyFrom 0 = .ok (.aload_n 0, 1) := by decide +kernel
theorem dX7_copyFrom_1 : decode cX7_copyFrom 1 = .ok (.aload_n 1, 1) := by decide +kernel
theorem dX7_copyFrom_2 : decode cX7_copyFrom 2 = .ok (.getfield 9, 3) := by decide +kernel
theorem dX7_copyFrom_5 : decode cX7_copyFrom 5 = .ok (.putfield 9, 3) := by decide +kernel
theorem dX7_copyFrom_8 : decode cX7_copyFrom 8 = .ok (.iconst 0, 1) := by decide +kernel
theorem dX7_copyFrom_9 : decode cX7_copyFrom 9 = .ok (.istore_n 2, 1) := by decide +kernel
theorem dX7_copyFrom_10 : decode cX7_copyFrom 10 = .ok (.iload_n 2, 1) := by decide +kernel
theorem dX7_copyFrom_11 : decode cX7_copyFrom 11 = .ok (.bipush 6, 2) := by decide +kernel
theorem dX7_copyFrom_13 : decode cX7_copyFrom 13 = .ok (.if_icmp .ge 45, 3) := by decide +kernel
theorem dX7_copyFrom_16 : decode cX7_copyFrom 16 = .ok (.aload_n 0, 1) := by decide +kernel
theorem dX7_copyFrom_17 : decode cX7_copyFrom 17 = .ok (.getfield 15, 3) := by decide +kernel
theorem dX7_copyFrom_20 : decode cX7_copyFrom 20 = .ok (.iload_n 2, 1) := by decide +kernel
theorem dX7_copyFrom_21 : decode cX7_copyFrom 21 = .ok (.aload_n 1, 1) := by decide +kernel
theorem dX7_copyFrom_22 : decode cX7_copyFrom 22 = .ok (.getfield 15, 3) := by decide +kernel
theorem dX7_copyFrom_25 : decode cX7_copyFrom 25 = .ok (.iload_n 2, 1) := by decide +kernel
theorem dX7_copyFrom_26 : decode cX7_copyFrom 26 = .ok (.iaload, 1) := by decide +kernel
theorem dX7_copyFrom_27 : decode cX7_copyFrom 27 = .ok (.iastore, 1) := by decide +kernel
theorem dX7_copyFrom_28 : decode cX7_copyFrom 28 = .ok (.aload_n 0, 1) := by decide +kernel
theorem dX7_copyFrom_29 : decode cX7_copyFrom 29 = .ok (.getfield 19, 3) := by decide +kernel
theorem dX7_copyFrom_32 : decode cX7_copyFrom 32 = .ok (.iload_n 2, 1) := by decide +kernel
theorem dX7_copyFrom_33 : decode cX7_copyFrom 33 = .ok (.aload_n 1, 1) := by decide +kernel
theorem dX7_copyFrom_34 : decode cX7_copyFrom 34 = .ok (.getfield 19, 3) := by decide +kernel
theorem dX7_copyFrom_37 : decode cX7_copyFrom 37 = .ok (.iload_n 2, 1) := by decide +kernel
theorem dX7_copyFrom_38 : decode cX7_copyFrom 38 = .ok (.iaload, 1) := by decide +kernel
theorem dX7_copyFrom_39 : decode cX7_copyFrom 39 = .ok (.iastore, 1) := by decide +kernel
theorem dX7_copyFrom_40 : decode cX7_copyFrom 40 = .ok (.aload_n 0, 1) := by decide +kernel
theorem dX7_copyFrom_41 : decode cX7_copyFrom 41 = .ok (.getfield 22, 3) := by decide +kernel
theorem dX7_copyFrom_44 : decode cX7_copyFrom 44 = .ok (.iload_n 2, 1) := by decide +kernel
theorem dX7_copyFrom_45 : decode cX7_copyFrom 45 = .ok (.aload_n 1, 1) := by decide +kernel
theorem dX7_copyFrom_46 : decode cX7_copyFrom 46 = .ok (.getfield 22, 3) := by decide +kernel
theorem dX7_copyFrom_49 : decode cX7_copyFrom 49 = .ok (.iload_n 2, 1) := by decide +kernel
theorem dX7_copyFrom_50 : decode cX7_copyFrom 50 = .ok (.baload, 1) := by decide +kernel
theorem dX7_copyFrom_51 : decode cX7_copyFrom 51 = .ok (.bastore, 1) := by decide +kernel
theorem dX7_copyFrom_52 : decode cX7_copyFrom 52 = .ok (.iinc 2 1, 3) := by decide +kernel
theorem dX7_copyFrom_55 : decode cX7_copyFrom 55 = .ok (.goto (-45), 3) := by decide +kernel
theorem dX7_copyFrom_58 : decode cX7_copyFrom 58 = .ok (.return_, 1) := by decide +kernel
theorem dX8_init_0 : decode cX8_init 0 = .ok (.aload_n 0, 1) := by decide +kernel
theorem dX8_init_1 : decode cX8_init 1 = .ok (.invokespecial 3, 3) := by decide +kernel
theorem dX8_init_4 : decode cX8_init 4 = .ok (.aload_n 0, 1) := by decide +kernel
theorem dX8_init_5 : decode cX8_init 5 = .ok (.iconst 0, 1) := by decide +kernel
theorem dX8_init_6 : decode cX8_init 6 = .ok (.putfield 9, 3) := by decide +kernel
theorem dX8_init_9 : decode cX8_init 9 = .ok (.aload_n 0, 1) := by decide +kernel
theorem dX8_init_10 : decode cX8_init 10 = .ok (.bipush 8, 2) := by decide +kernel
theorem dX8_init_12 : decode cX8_init 12 = .ok (.newarray .int, 2) := by decide +kernel
theorem dX8_init_14 : decode cX8_init 14 = .ok (.putfield 15, 3) := by decide +kernel
theorem dX8_init_17 : decode cX8_init 17 = .ok (.aload_n 0, 1) := by decide +kernel
theorem dX8_init_18 : decode cX8_init 18 = .ok (.bipush 8, 2) := by decide +kernel
theorem dX8_init_20 : decode cX8_init 20 = .ok (.newarray .int, 2) := by decide +kernel
theorem dX8_init_22 : decode cX8_init 22 = .ok (.putfield 19, 3) := by decide +kernel
theorem dX8_init_25 : decode cX8_init 25 = .ok (.aload_n 0, 1) := by decide +kernel
theorem dX8_init_26 : decode cX8_init 26 = .ok (.sipush 256, 3) := by decide +kernel
theorem dX8_init_29 : decode cX8_init 29 = .ok (.newarray .int, 2) := by decide +kernel
theorem dX8_init_31 : decode cX8_init 31 = .ok (.putfield 22, 3) := by decide +kernel
theorem dX8_init_34 : decode cX8_init 34 = .ok (.aload_n 0, 1) := by decide +kernel
theorem dX8_init_35 : decode cX8_init 35 = .ok (.iconst 0, 1) := by decide +kernel
theorem dX8_init_36 : decode cX8_init 36 = .ok (.putfield 25, 3) := by decide +kernel
theorem dX8_init_39 : decode cX8_init 39 = .ok (.return_, 1) := by decide +kernel
set_option maxRecDepth 20000 in
theorem ggX8_readFrom_X5_branches : GoodIn wsX8_readFrom wsX5_branches := goodIn_r _ [12, 13, 47, 48] (by decide +kernel) (by decide +kernel)
set_option maxRecDepth 20000 in
theorem gX8_readFrom_X5_branches : GoodIn wsX8_readFrom (wsV RX8 28 RX5 yX5_branches wsX5_branches) := goodIn_app (goodIn_of _ (by decide +kernel)) ggX8_readFrom_X5_branches
set_option maxRecDepth 20000 in
theorem ggX8_readFrom_X5_groundAt : GoodIn wsX8_readFrom wsX5_groundAt := goodIn_r _ [17, 18, 19, 20, 11, 21, 13, 22, 47, 48] (by decide +kernel) (by decide +kernel)
set_option maxRecDepth 20000 in
theorem gX8_readFrom_X5_groundAt : GoodIn wsX8_readFrom (wsV RX8 40 RX5 yX5_groundAt wsX5_groundAt) := goodIn_app (goodIn_of _ (by decide +kernel)) ggX8_readFrom_X5_groundAt
set_option maxRecDepth 20000 in
theorem ggX8_readFrom_X8_withAllOn : GoodIn wsX8_readFrom wsX8_withAllOn := goodIn_r _ [27, 7, 42, 43, 44, 45, 46] (by decide +kernel) (by decide +kernel)
set_option maxRecDepth 20000 in
theorem gX8_readFrom_X8_withAllOn : GoodIn wsX8_readFrom (wsV RX8 44 RX8 yX8_withAllOn wsX8_withAllOn) := goodIn_app (goodIn_of _ (by decide +kernel)) ggX8_readFrom_X8_withAllOn
set_option maxRecDepth 20000 in
theorem ggX8_readFrom_X8_findSets : GoodIn wsX8_readFrom wsX8_findSets := goodIn_r _ [31, 32, 5, 33, 34, 35, 36, 26, 37, 38, 39, 40, 41, 6, 42, 43, 44, 45, 46] (by decide +kernel) (by decide +kernel)
set_option maxRecDepth 20000 in
theorem gX8_readFrom_X8_findSets : GoodIn wsX8_readFrom (wsV RX8 47 RX8 yX8_findSets wsX8_findSets) := goodIn_app (goodIn_of _ (by decide +kernel)) ggX8_readFrom_X8_findSets
theorem dX8_readFrom_0 : decode cX8_readFrom 0 = .ok (.aload_n 0, 1) := by decide +kernel
theorem dX8_readFrom_1 : decode cX8_readFrom 1 = .ok (.aload_n 1, 1) := by decide +kernel
theorem dX8_readFrom_2 : decode cX8_readFrom 2 = .ok (.invokevirtual 28, 3) := by decide +kernel
theorem dX8_readFrom_5 : decode cX8_readFrom 5 = .ok (.bipush 8, 2) := by decide +kernel
theorem dX8_readFrom_7 : decode cX8_readFrom 7 = .ok (.invokestatic 34, 3) := by decide +kernel
theorem dX8_readFrom_10 : decode cX8_readFrom 10 = .ok (.putfield 9, 3) := by decide +kernel
theorem dX8_readFrom_13 : decode cX8_readFrom 13 = .ok (.iconst 0, 1) := by decide +kernel
theorem dX8_readFrom_14 : decode cX8_readFrom 14 = .ok (.istore_n 2, 1) := by decide +kernel
theorem dX8_readFrom_15 : decode cX8_readFrom 15 = .ok (.iload_n 2, 1) := by decide +kernel
theorem dX8_readFrom_16 : decode cX8_readFrom 16 = .ok (.aload_n 0, 1) := by decide +kernel
theorem dX8_readFrom_17 : decode cX8_readFrom 17 = .ok (.getfield 9, 3) := by decide +kernel
theorem dX8_readFrom_20 : decode cX8_readFrom 20 = .ok (.if_icmp .ge 27, 3) := by decide +kernel
theorem dX8_readFrom_23 : decode cX8_readFrom 23 = .ok (.aload_n 0, 1) := by decide +kernel
theorem dX8_readFrom_24 : decode cX8_readFrom 24 = .ok (.getfield 15, 3) := by decide +kernel
theorem dX8_readFrom_27 : decode cX8_readFrom 27 = .ok (.iload_n 2, 1) := by decide +kernel
theorem dX8_readFrom_28 : decode cX8_readFrom 28 = .ok (.aload_n 1, 1) := by decide +kernel
theorem dX8_readFrom_29 : decode cX8_readFrom 29 = .ok (.iload_n 2, 1) := by decide +kernel
theorem dX8_readFrom_30 : decode cX8_readFrom 30 = .ok (.invokevirtual 40, 3) := by decide +kernel
theorem dX8_readFrom_33 : decode cX8_readFrom 33 = .ok (.iastore, 1) := by decide +kernel
theorem dX8_readFrom_34 : decode cX8_readFrom 34 = .ok (.aload_n 0, 1) := by decide +kernel
theorem dX8_readFrom_35 : decode cX8_readFrom 35 = .ok (.getfield 19, 3) := by decide +kernel
theorem dX8_readFrom_38 : decode cX8_readFrom 38 = .ok (.iload_n 2, 1) := by decide +kernel
theorem dX8_readFrom_39 : decode cX8_readFrom 39 = .ok (.iconst 0, 1) := by decide +kernel
theorem dX8_readFrom_40 : decode cX8_readFrom 40 = .ok (.iastore, 1) := by decide +kernel
theorem dX8_readFrom_41 : decode cX8_readFrom 41 = .ok (.iinc 2 1, 3) := by decide +kernel
theorem dX8_readFrom_44 : decode cX8_readFrom 44 = .ok (.goto (-29), 3) := by decide +kernel
theorem dX8_readFrom_47 : decode cX8_readFrom 47 = .ok (.aload_n 0, 1) := by decide +kernel
theorem dX8_readFrom_48 : decode cX8_readFrom 48 = .ok (.getfield 9, 3) := by decide +kernel
theorem dX8_readFrom_51 : decode cX8_readFrom 51 = .ok (.iconst 1, 1) := by decide +kernel
theorem dX8_readFrom_52 : decode cX8_readFrom 52 = .ok (.isub, 1) := by decide +kernel
theorem dX8_readFrom_53 : decode cX8_readFrom 53 = .ok (.istore_n 2, 1) := by decide +kernel
theorem dX8_readFrom_54 : decode cX8_readFrom 54 = .ok (.iload_n 2, 1) := by decide +kernel
theorem dX8_readFrom_55 : decode cX8_readFrom 55 = .ok (.ifCond .le 39, 3) := by decide +kernel
theorem dX8_readFrom_58 : decode cX8_readFrom 58 = .ok (.aload_n 0, 1) := by decide +kernel
theorem dX8_readFrom_59 : decode cX8_readFrom 59 = .ok (.getfield 15, 3) := by decide +kernel
theorem dX8_readFrom_62 : decode cX8_readFrom 62 = .ok (.iload_n 2, 1) := by decide +kernel
theorem dX8_readFrom_63 : decode cX8_readFrom 63 = .ok (.iaload, 1) := by decide +kernel
theorem dX8_readFrom_64 : decode cX8_readFrom 64 = .ok (.istore_n 3, 1) := by decide +kernel
theorem dX8_readFrom_65 : decode cX8_readFrom 65 = .ok (.iload_n 3, 1) := by decide +kernel
theorem dX8_readFrom_66 : decode cX8_readFrom 66 = .ok (.ifCond .lt 22, 3) := by decide +kernel
theorem dX8_readFrom_69 : decode cX8_readFrom 69 = .ok (.iload_n 3, 1) := by decide +kernel
theorem dX8_readFrom_70 : decode cX8_readFrom 70 = .ok (.iload_n 2, 1) := by decide +kernel
theorem dX8_readFrom_71 : decode cX8_readFrom 71 = .ok (.if_icmp .ge 17, 3) := by decide +kernel
theorem dX8_readFrom_74 : decode cX8_readFrom 74 = .ok (.aload_n 0, 1) := by decide +kernel
theorem dX8_readFrom_75 : decode cX8_readFrom 75 = .ok (.getfield 19, 3) := by decide +kernel
theorem dX8_readFrom_78 : decode cX8_readFrom 78 = .ok (.iload_n 3, 1) := by decide +kernel
theorem dX8_readFrom_79 : decode cX8_readFrom 79 = .ok (.dup2, 1) := by decide +kernel
theorem dX8_readFrom_80 : decode cX8_readFrom 80 = .ok (.iaload, 1) := by decide +kernel
theorem dX8_readFrom_81 : decode cX8_readFrom 81 = .ok (.aload_n 0, 1) := by decide +kernel
theorem dX8_readFrom_82 : decode cX8_readFrom 82 = .ok (.iload_n 2, 1) := by decide +kernel
theorem dX8_readFrom_83 : decode cX8_readFrom 83 = .ok (.invokevirtual 44, 3) := by decide +kernel
theorem dX8_readFrom_86 : decode cX8_readFrom 86 = .ok (.ior, 1) := by decide +kernel
theorem dX8_readFrom_87 : decode cX8_readFrom 87 = .ok (.iastore, 1) := by decide +kernel
theorem dX8_readFrom_88 : decode cX8_readFrom 88 = .ok (.iinc 2 (-1), 3) := by decide +kernel
theorem dX8_readFrom_91 : decode cX8_readFrom 91 = .ok (.goto (-37), 3) := by decide +kernel
theorem dX8_readFrom_94 : decode cX8_readFrom 94 = .ok (.aload_n 0, 1) := by decide +kernel
theorem dX8_readFrom_95 : decode cX8_readFrom 95 = .ok (.invokevirtual 47, 3) := by decide +kernel
theorem dX8_readFrom_98 : decode cX8_readFrom 98 = .ok (.return_, 1) := by decide +kernel
theorem dX8_withAllOn_0 : decode cX8_withAllOn 0 = .ok (.aload_n 0, 1) := by decide +kernel
theorem dX8_withAllOn_1 : decode cX8_withAllOn 1 = .ok (.getfield 19, 3) := by decide +kernel
theorem dX8_withAllOn_4 : decode cX8_withAllOn 4 = .ok (.iload_n 1, 1) := by decide +kernel
theorem dX8_withAllOn_5 : decode cX8_withAllOn 5 = .ok (.iaload, 1) := by decide +kernel
theorem dX8_withAllOn_6 : decode cX8_withAllOn 6 = .ok (.iconst 1, 1) := by decide +kernel
theorem dX8_withAllOn_7 : decode cX8_withAllOn 7 = .ok (.iload_n 1, 1) := by decide +kernel
theorem dX8_withAllOn_8 : decode cX8_withAllOn 8 = .ok (.ishl, 1) := by decide +kernel
theorem dX8_withAllOn_9 : decode cX8_withAllOn 9 = .ok (.ior, 1) := by decide +kernel
theorem dX8_withAllOn_10 : decode cX8_withAllOn 10 = .ok (.ireturn, 1) := by decide +kernel
theorem dX8_hasFooting_0 : decode cX8_hasFooting 0 = .ok (.aload_n 0, 1) := by decide +kernel
theorem dX8_hasFooting_1 : decode cX8_hasFooting 1 = .ok (.getfield 15, 3) := by decide +kernel
theorem dX8_hasFooting_4 : decode cX8_hasFooting 4 = .ok (.iload_n 1, 1) := by decide +kernel
theorem dX8_hasFooting_5 : decode cX8_hasFooting 5 = .ok (.iaload, 1) := by decide +kernel
theorem dX8_hasFooting_6 : decode cX8_hasFooting 6 = .ok (.iconst (-1), 1) := by decide +kernel
theorem dX8_hasFooting_7 : decode cX8_hasFooting 7 = .ok (.if_icmp .eq 16, 3) := by decide +kernel
theorem dX8_hasFooting_10 : decode cX8_hasFooting 10 = .ok (.iload_n 2, 1) := by decide +kernel
theorem dX8_hasFooting_11 : decode cX8_hasFooting 11 = .ok (.aload_n 0, 1) := by decide +kernel
theorem dX8_hasFooting_12 : decode cX8_hasFooting 12 = .ok (.getfield 15, 3) := by decide +kernel
theorem dX8_hasFooting_15 : decode cX8_hasFooting 15 = .ok (.iload_n 1, 1) := by decide +kernel
theorem dX8_hasFooting_16 : decode cX8_hasFooting 16 = .ok (.iaload, 1) := by decide +kernel
theorem dX8_hasFooting_17 : decode cX8_hasFooting 17 = .ok (.ishr, 1) := by decide +kernel
theorem dX8_hasFooting_18 : decode cX8_hasFooting 18 = .ok (.iconst 1, 1) := by decide +kernel
theorem dX8_hasFooting_19 : decode cX8_hasFooting 19 = .ok (.iand, 1) := by decide +kernel
theorem dX8_hasFooting_20 : decode cX8_hasFooting 20 = .ok (.ifCond .eq 7, 3) := by decide +kernel
theorem dX8_hasFooting_23 : decode cX8_hasFooting 23 = .ok (.iconst 1, 1) := by decide +kernel
theorem dX8_hasFooting_24 : decode cX8_hasFooting 24 = .ok (.goto 4, 3) := by decide +kernel
theorem dX8_hasFooting_27 : decode cX8_hasFooting 27 = .ok (.iconst 0, 1) := by decide +kernel
theorem dX8_hasFooting_28 : decode cX8_hasFooting 28 = .ok (.ireturn, 1) := by decide +kernel
theorem dX8_onTheGround_0 : decode cX8_onTheGround 0 = .ok (.iconst 0, 1) := by decide +kernel
theorem dX8_onTheGround_1 : decode cX8_onTheGround 1 = .ok (.istore_n 1, 1) := by decide +kernel
theorem dX8_onTheGround_2 : decode cX8_onTheGround 2 = .ok (.iconst 0, 1) := by decide +kernel
theorem dX8_onTheGround_3 : decode cX8_onTheGround 3 = .ok (.istore_n 2, 1) := by decide +kernel
theorem dX8_onTheGround_4 : decode cX8_onTheGround 4 = .ok (.iload_n 2, 1) := by decide +kernel
theorem dX8_onTheGround_5 : decode cX8_onTheGround 5 = .ok (.aload_n 0, 1) := by decide +kernel
theorem dX8_onTheGround_6 : decode cX8_onTheGround 6 = .ok (.getfield 9, 3) := by decide +kernel
theorem dX8_onTheGround_9 : decode cX8_onTheGround 9 = .ok (.if_icmp .ge 22, 3) := by decide +kernel
theorem dX8_onTheGround_12 : decode cX8_onTheGround 12 = .ok (.aload_n 0, 1) := by decide +kernel
theorem dX8_onTheGround_13 : decode cX8_onTheGround 13 = .ok (.getfield 15, 3) := by decide +kernel
theorem dX8_onTheGround_16 : decode cX8_onTheGround 16 = .ok (.iload_n 2, 1) := by decide +kernel
theorem dX8_onTheGround_17 : decode cX8_onTheGround 17 = .ok (.iaload, 1) := by decide +kernel
theorem dX8_onTheGround_18 : decode cX8_onTheGround 18 = .ok (.iconst (-1), 1) := by decide +kernel
theorem dX8_onTheGround_19 : decode cX8_onTheGround 19 = .ok (.if_icmp .ne 6, 3) := by decide +kernel
theorem dX8_onTheGround_22 : decode cX8_onTheGround 22 = .ok (.iinc 1 1, 3) := by decide +kernel
theorem dX8_onTheGround_25 : decode cX8_onTheGround 25 = .ok (.iinc 2 1, 3) := by decide +kernel
theorem dX8_onTheGround_28 : decode cX8_onTheGround 28 = .ok (.goto (-24), 3) := by decide +kernel
theorem dX8_onTheGround_31 : decode cX8_onTheGround 31 = .ok (.iload_n 1, 1) := by decide +kernel
theorem dX8_onTheGround_32 : decode cX8_onTheGround 32 = .ok (.ireturn, 1) := by decide +kernel
set_option maxRecDepth 20000 in
theorem ggX8_findSets_X8_canStand : GoodIn wsX8_findSets wsX8_canStand := goodIn_r _ [8, 2, 9, 10, 11, 7, 12, 13, 14, 15, 16, 17, 18] (by decide +kernel) (by decide +kernel)
set_option maxRecDepth 20000 in
theorem gX8_findSets_X8_canStand : GoodIn wsX8_findSets (wsV RX8 50 RX8 yX8_canStand wsX8_canStand) := goodIn_app (goodIn_of _ (by decide +kernel)) ggX8_findSets_X8_canStand
theorem dX8_findSets_0 : decode cX8_findSets 0 = .ok (.aload_n 0, 1) := by decide +kernel
theorem dX8_findSets_1 : decode cX8_findSets 1 = .ok (.iconst 0, 1) := by decide +kernel
theorem dX8_findSets_2 : decode cX8_findSets 2 = .ok (.putfield 25, 3) := by decide +kernel
theorem dX8_findSets_5 : decode cX8_findSets 5 = .ok (.iconst 0, 1) := by decide +kernel
theorem dX8_findSets_6 : decode cX8_findSets 6 = .ok (.istore_n 1, 1) := by decide +kernel
theorem dX8_findSets_7 : decode cX8_findSets 7 = .ok (.iload_n 1, 1) := by decide +kernel
theorem dX8_findSets_8 : decode cX8_findSets 8 = .ok (.iconst 1, 1) := by decide +kernel
theorem dX8_findSets_9 : decode cX8_findSets 9 = .ok (.aload_n 0, 1) := by decide +kernel
theorem dX8_findSets_10 : decode cX8_findSets 10 = .ok (.getfield 9, 3) := by decide +kernel
theorem dX8_findSets_13 : decode cX8_findSets 13 = .ok (.ishl, 1) := by decide +kernel
theorem dX8_findSets_14 : decode cX8_findSets 14 = .ok (.if_icmp .ge 37, 3) := by decide +kernel
theorem dX8_findSets_17 : decode cX8_findSets 17 = .ok (.aload_n 0, 1) := by decide +kernel
theorem dX8_findSets_18 : decode cX8_findSets 18 = .ok (.iload_n 1, 1) := by decide +kernel
theorem dX8_findSets_19 : decode cX8_findSets 19 = .ok (.invokevirtual 50, 3) := by decide +kernel
theorem dX8_findSets_22 : decode cX8_findSets 22 = .ok (.ifCond .eq 23, 3) := by decide +kernel
theorem dX8_findSets_25 : decode cX8_findSets 25 = .ok (.aload_n 0, 1) := by decide +kernel
theorem dX8_findSets_26 : decode cX8_findSets 26 = .ok (.getfield 22, 3) := by decide +kernel
theorem dX8_findSets_29 : decode cX8_findSets 29 = .ok (.aload_n 0, 1) := by decide +kernel
theorem dX8_findSets_30 : decode cX8_findSets 30 = .ok (.getfield 25, 3) := by decide +kernel
theorem dX8_findSets_33 : decode cX8_findSets 33 = .ok (.iload_n 1, 1) := by decide +kernel
theorem dX8_findSets_34 : decode cX8_findSets 34 = .ok (.iastore, 1) := by decide +kernel
theorem dX8_findSets_35 : decode cX8_findSets 35 = .ok (.aload_n 0, 1) := by decide +kernel
theorem dX8_findSets_36 : decode cX8_findSets 36 = .ok (.dup, 1) := by decide +kernel
theorem dX8_findSets_37 : decode cX8_findSets 37 = .ok (.getfield 25, 3) := by decide +kernel
theorem dX8_findSets_40 : decode cX8_findSets 40 = .ok (.iconst 1, 1) := by decide +kernel
theorem dX8_findSets_41 : decode cX8_findSets 41 = .ok (.iadd, 1) := by decide +kernel
theorem dX8_findSets_42 : decode cX8_findSets 42 = .ok (.putfield 25, 3) := by decide +kernel
theorem dX8_findSets_45 : decode cX8_findSets 45 = .ok (.iinc 1 1, 3) := by decide +kernel
theorem dX8_findSets_48 : decode cX8_findSets 48 = .ok (.goto (-41), 3) := by decide +kernel
theorem dX8_findSets_51 : decode cX8_findSets 51 = .ok (.return_, 1) := by decide +kernel
set_option maxRecDepth 20000 in
theorem ggX8_canStand_X8_hasFooting : GoodIn wsX8_canStand wsX8_hasFooting := goodIn_r _ [6, 7, 8, 9, 10, 11, 12] (by decide +kernel) (by decide +kernel)
set_option maxRecDepth 20000 in
theorem gX8_canStand_X8_hasFooting : GoodIn wsX8_canStand (wsV RX8 54 RX8 yX8_hasFooting wsX8_hasFooting) := goodIn_app (goodIn_of _ (by decide +kernel)) ggX8_canStand_X8_hasFooting
theorem dX8_canStand_0 : decode cX8_canStand 0 = .ok (.iconst 0, 1) := by decide +kernel
theorem dX8_canStand_1 : decode cX8_canStand 1 = .ok (.istore_n 2, 1) := by decide +kernel
theorem dX8_canStand_2 : decode cX8_canStand 2 = .ok (.iload_n 2, 1) := by decide +kernel
theorem dX8_canStand_3 : decode cX8_canStand 3 = .ok (.aload_n 0, 1) := by decide +kernel
theorem dX8_canStand_4 : decode cX8_canStand 4 = .ok (.getfield 9, 3) := by decide +kernel
theorem dX8_canStand_7 : decode cX8_canStand 7 = .ok (.if_icmp .ge 28, 3) := by decide +kernel
theorem dX8_canStand_10 : decode cX8_canStand 10 = .ok (.iload_n 1, 1) := by decide +kernel
theorem dX8_canStand_11 : decode cX8_canStand 11 = .ok (.iload_n 2, 1) := by decide +kernel
theorem dX8_canStand_12 : decode cX8_canStand 12 = .ok (.ishr, 1) := by decide +kernel
theorem dX8_canStand_13 : decode cX8_canStand 13 = .ok (.iconst 1, 1) := by decide +kernel
theorem dX8_canStand_14 : decode cX8_canStand 14 = .ok (.iand, 1) := by decide +kernel
theorem dX8_canStand_15 : decode cX8_canStand 15 = .ok (.ifCond .eq 14, 3) := by decide +kernel
theorem dX8_canStand_18 : decode cX8_canStand 18 = .ok (.aload_n 0, 1) := by decide +kernel
theorem dX8_canStand_19 : decode cX8_canStand 19 = .ok (.iload_n 2, 1) := by decide +kernel
theorem dX8_canStand_20 : decode cX8_canStand 20 = .ok (.iload_n 1, 1) := by decide +kernel
theorem dX8_canStand_21 : decode cX8_canStand 21 = .ok (.invokevirtual 54, 3) := by decide +kernel
theorem dX8_canStand_24 : decode cX8_canStand 24 = .ok (.ifCond .ne 5, 3) := by decide +kernel
theorem dX8_canStand_27 : decode cX8_canStand 27 = .ok (.iconst 0, 1) := by decide +kernel
theorem dX8_canStand_28 : decode cX8_canStand 28 = .ok (.ireturn, 1) := by decide +kernel
theorem dX8_canStand_29 : decode cX8_canStand 29 = .ok (.iinc 2 1, 3) := by decide +kernel
theorem dX8_canStand_32 : decode cX8_canStand 32 = .ok (.goto (-30), 3) := by decide +kernel
theorem dX8_canStand_35 : decode cX8_canStand 35 = .ok (.iconst 1, 1) := by decide +kernel
theorem dX8_canStand_36 : decode cX8_canStand 36 = .ok (.ireturn, 1) := by decide +kernel
theorem dX9_init_0 : decode cX9_init 0 = .ok (.aload_n 0, 1) := by decide +kernel
theorem dX9_init_1 : decode cX9_init 1 = .ok (.invokespecial 3, 3) := by decide +kernel
theorem dX9_init_4 : decode cX9_init 4 = .ok (.aload_n 0, 1) := by decide +kernel
theorem dX9_init_5 : decode cX9_init 5 = .ok (.sipush 256, 3) := by decide +kernel
theorem dX9_init_8 : decode cX9_init 8 = .ok (.newarray .int, 2) := by decide +kernel
theorem dX9_init_10 : decode cX9_init 10 = .ok (.putfield 9, 3) := by decide +kernel
theorem dX9_init_13 : decode cX9_init 13 = .ok (.aload_n 0, 1) := by decide +kernel
theorem dX9_init_14 : decode cX9_init 14 = .ok (.aload_n 1, 1) := by decide +kernel
theorem dX9_init_15 : decode cX9_init 15 = .ok (.putfield 15, 3) := by decide +kernel
theorem dX9_init_18 : decode cX9_init 18 = .ok (.return_, 1) := by decide +kernel
theorem dX9_valueOf_0 : decode cX9_valueOf 0 = .ok (.aload_n 0, 1) := by decide +kernel
theorem dX9_valueOf_1 : decode cX9_valueOf 1 = .ok (.getfield 9, 3) := by decide +kernel
theorem dX9_valueOf_4 : decode cX9_valueOf 4 = .ok (.iload_n 1, 1) := by decide +kernel
theorem dX9_valueOf_5 : decode cX9_valueOf 5 = .ok (.iaload, 1) := by decide +kernel
theorem dX9_valueOf_6 : decode cX9_valueOf 6 = .ok (.ireturn, 1) := by decide +kernel
set_option maxRecDepth 20000 in
theorem ggX9_enter_X9_simplestOf : GoodIn wsX9_enter wsX9_simplestOf := goodIn_r _ [6, 7, 8, 9, 1, 10, 11, 12, 13, 14, 15, 16, 17, 18, 19, 20, 21, 22, 23, 24, 5, 25, 26, 27, 28, 29, 30, 31, 32, 33, 34] (by decide +kernel) (by decide +kernel)
set_option maxRecDepth 20000 in
theorem gX9_enter_X9_simplestOf : GoodIn wsX9_enter (wsV RX9 19 RX9 yX9_simplestOf wsX9_simplestOf) := goodIn_app (goodIn_of _ (by decide +kernel)) ggX9_enter_X9_simplestOf
theorem dX9_enter_0 : decode cX9_enter 0 = .ok (.aload_n 0, 1) := by decide +kernel
theorem dX9_enter_1 : decode cX9_enter 1 = .ok (.getfield 9, 3) := by decide +kernel
theorem dX9_enter_4 : decode cX9_enter 4 = .ok (.iload_n 1, 1) := by decide +kernel
theorem dX9_enter_5 : decode cX9_enter 5 = .ok (.aload_n 0, 1) := by decide +kernel
theorem dX9_enter_6 : decode cX9_enter 6 = .ok (.iload_n 1, 1) := by decide +kernel
theorem dX9_enter_7 : decode cX9_enter 7 = .ok (.iload_n 2, 1) := by decide +kernel
theorem dX9_enter_8 : decode cX9_enter 8 = .ok (.iload_n 3, 1) := by decide +kernel
theorem dX9_enter_9 : decode cX9_enter 9 = .ok (.invokevirtual 19, 3) := by decide +kernel
theorem dX9_enter_12 : decode cX9_enter 12 = .ok (.iastore, 1) := by decide +kernel
theorem dX9_enter_13 : decode cX9_enter 13 = .ok (.return_, 1) := by decide +kernel
set_option maxRecDepth 20000 in
theorem ggX9_simplestOf_X6_leftBy : GoodIn wsX9_simplestOf wsX6_leftBy := goodIn_r _ [16, 17, 24, 25, 26, 27, 28, 29, 30] (by decide +kernel) (by decide +kernel)
set_option maxRecDepth 20000 in
theorem gX9_simplestOf_X6_leftBy : GoodIn wsX9_simplestOf (wsV RX9 37 RX6 yX6_leftBy wsX6_leftBy) := goodIn_app (goodIn_of _ (by decide +kernel)) ggX9_simplestOf_X6_leftBy
set_option maxRecDepth 20000 in
theorem ggX9_simplestOf_X9_simplestBetween : GoodIn wsX9_simplestOf wsX9_simplestBetween := goodIn_r _ [21] (by decide +kernel) (by decide +kernel)
set_option maxRecDepth 20000 in
theorem gX9_simplestOf_X9_simplestBetween : GoodIn wsX9_simplestOf (va_wsS RX9 49 yX9_simplestBetween wsX9_simplestBetween) := goodIn_app (goodIn_of _ (by decide +kernel)) ggX9_simplestOf_X9_simplestBetween
theorem dX9_simplestOf_0 : decode cX9_simplestOf 0 = .ok (.ldc 23, 2) := by decide +kernel
theorem dX9_simplestOf_2 : decode cX9_simplestOf 2 = .ok (.istore 4, 2) := by decide +kernel
theorem dX9_simplestOf_4 : decode cX9_simplestOf 4 = .ok (.ldc 24, 2) := by decide +kernel
theorem dX9_simplestOf_6 : decode cX9_simplestOf 6 = .ok (.istore 5, 2) := by decide +kernel
theorem dX9_simplestOf_8 : decode cX9_simplestOf 8 = .ok (.iconst 0, 1) := by decide +kernel
theorem dX9_simplestOf_9 : decode cX9_simplestOf 9 = .ok (.istore 6, 2) := by decide +kernel
theorem dX9_simplestOf_11 : decode cX9_simplestOf 11 = .ok (.iload 6, 2) := by decide +kernel
theorem dX9_simplestOf_13 : decode cX9_simplestOf 13 = .ok (.aload_n 0, 1) := by decide +kernel
theorem dX9_simplestOf_14 : decode cX9_simplestOf 14 = .ok (.getfield 15, 3) := by decide +kernel
theorem dX9_simplestOf_17 : decode cX9_simplestOf 17 = .ok (.getfield 25, 3) := by decide +kernel
theorem dX9_simplestOf_20 : decode cX9_simplestOf 20 = .ok (.getfield 31, 3) := by decide +kernel
theorem dX9_simplestOf_23 : decode cX9_simplestOf 23 = .ok (.if_icmp .ge 85, 3) := by decide +kernel
theorem dX9_simplestOf_26 : decode cX9_simplestOf 26 = .ok (.iload_n 2, 1) := by decide +kernel
theorem dX9_simplestOf_27 : decode cX9_simplestOf 27 = .ok (.iload_n 3, 1) := by decide +kernel
theorem dX9_simplestOf_28 : decode cX9_simplestOf 28 = .ok (.ior, 1) := by decide +kernel
theorem dX9_simplestOf_29 : decode cX9_simplestOf 29 = .ok (.iload 6, 2) := by decide +kernel
theorem dX9_simplestOf_31 : decode cX9_simplestOf 31 = .ok (.ishr, 1) := by decide +kernel
theorem dX9_simplestOf_32 : decode cX9_simplestOf 32 = .ok (.iconst 1, 1) := by decide +kernel
theorem dX9_simplestOf_33 : decode cX9_simplestOf 33 = .ok (.iand, 1) := by decide +kernel
theorem dX9_simplestOf_34 : decode cX9_simplestOf 34 = .ok (.ifCond .eq 68, 3) := by decide +kernel
theorem dX9_simplestOf_37 : decode cX9_simplestOf 37 = .ok (.aload_n 0, 1) := by decide +kernel
theorem dX9_simplestOf_38 : decode cX9_simplestOf 38 = .ok (.getfield 9, 3) := by decide +kernel
theorem dX9_simplestOf_41 : decode cX9_simplestOf 41 = .ok (.aload_n 0, 1) := by decide +kernel
theorem dX9_simplestOf_42 : decode cX9_simplestOf 42 = .ok (.getfield 15, 3) := by decide +kernel
theorem dX9_simplestOf_45 : decode cX9_simplestOf 45 = .ok (.iload 6, 2) := by decide +kernel
theorem dX9_simplestOf_47 : decode cX9_simplestOf 47 = .ok (.iload_n 1, 1) := by decide +kernel
theorem dX9_simplestOf_48 : decode cX9_simplestOf 48 = .ok (.invokevirtual 37, 3) := by decide +kernel
theorem dX9_simplestOf_51 : decode cX9_simplestOf 51 = .ok (.iaload, 1) := by decide +kernel
theorem dX9_simplestOf_52 : decode cX9_simplestOf 52 = .ok (.istore 7, 2) := by decide +kernel
theorem dX9_simplestOf_54 : decode cX9_simplestOf 54 = .ok (.iload 7, 2) := by decide +kernel
theorem dX9_simplestOf_56 : decode cX9_simplestOf 56 = .ok (.sipush (-9999), 3) := by decide +kernel
theorem dX9_simplestOf_59 : decode cX9_simplestOf 59 = .ok (.if_icmp .ne 7, 3) := by decide +kernel
theorem dX9_simplestOf_62 : decode cX9_simplestOf 62 = .ok (.sipush (-9999), 3) := by decide +kernel
theorem dX9_simplestOf_65 : decode cX9_simplestOf 65 = .ok (.ireturn, 1) := by decide +kernel
theorem dX9_simplestOf_66 : decode cX9_simplestOf 66 = .ok (.iload_n 2, 1) := by decide +kernel
theorem dX9_simplestOf_67 : decode cX9_simplestOf 67 = .ok (.iload 6, 2) := by decide +kernel
theorem dX9_simplestOf_69 : decode cX9_simplestOf 69 = .ok (.ishr, 1) := by decide +kernel
theorem dX9_simplestOf_70 : decode cX9_simplestOf 70 = .ok (.iconst 1, 1) := by decide +kernel
theorem dX9_simplestOf_71 : decode cX9_simplestOf 71 = .ok (.iand, 1) := by decide +kernel
theorem dX9_simplestOf_72 : decode cX9_simplestOf 72 = .ok (.ifCond .eq 12, 3) := by decide +kernel
theorem dX9_simplestOf_75 : decode cX9_simplestOf 75 = .ok (.iload 4, 2) := by decide +kernel
theorem dX9_simplestOf_77 : decode cX9_simplestOf 77 = .ok (.iload 7, 2) := by decide +kernel
theorem dX9_simplestOf_79 : decode cX9_simplestOf 79 = .ok (.invokestatic 41, 3) := by decide +kernel
theorem dX9_simplestOf_82 : decode cX9_simplestOf 82 = .ok (.istore 4, 2) := by decide +kernel
theorem dX9_simplestOf_84 : decode cX9_simplestOf 84 = .ok (.iload_n 3, 1) := by decide +kernel
theorem dX9_simplestOf_85 : decode cX9_simplestOf 85 = .ok (.iload 6, 2) := by decide +kernel
theorem dX9_simplestOf_87 : decode cX9_simplestOf 87 = .ok (.ishr, 1) := by decide +kernel
theorem dX9_simplestOf_88 : decode cX9_simplestOf 88 = .ok (.iconst 1, 1) := by decide +kernel
theorem dX9_simplestOf_89 : decode cX9_simplestOf 89 = .ok (.iand, 1) := by decide +kernel
theorem dX9_simplestOf_90 : decode cX9_simplestOf 90 = .ok (.ifCond .eq 12, 3) := by decide +kernel
theorem dX9_simplestOf_93 : decode cX9_simplestOf 93 = .ok (.iload 5, 2) := by decide +kernel
theorem dX9_simplestOf_95 : decode cX9_simplestOf 95 = .ok (.iload 7, 2) := by decide +kernel
theorem dX9_simplestOf_97 : decode cX9_simplestOf 97 = .ok (.invokestatic 46, 3) := by decide +kernel
theorem dX9_simplestOf_100 : decode cX9_simplestOf 100 = .ok (.istore 5, 2) := by decide +kernel
theorem dX9_simplestOf_102 : decode cX9_simplestOf 102 = .ok (.iinc 6 1, 3) := by decide +kernel
theorem dX9_simplestOf_105 : decode cX9_simplestOf 105 = .ok (.goto (-94), 3) := by decide +kernel
theorem dX9_simplestOf_108 : decode cX9_simplestOf 108 = .ok (.iload 4, 2) := by decide +kernel
theorem dX9_simplestOf_110 : decode cX9_simplestOf 110 = .ok (.iload 5, 2) := by decide +kernel
theorem dX9_simplestOf_112 : decode cX9_simplestOf 112 = .ok (.if_icmp .ge 13, 3) := by decide +kernel
theorem dX9_simplestOf_115 : decode cX9_simplestOf 115 = .ok (.iload 4, 2) := by decide +kernel
theorem dX9_simplestOf_117 : decode cX9_simplestOf 117 = .ok (.iload 5, 2) := by decide +kernel
theorem dX9_simplestOf_119 : decode cX9_simplestOf 119 = .ok (.invokestatic 49, 3) := by decide +kernel
theorem dX9_simplestOf_122 : decode cX9_simplestOf 122 = .ok (.goto 6, 3) := by decide +kernel
theorem dX9_simplestOf_125 : decode cX9_simplestOf 125 = .ok (.sipush (-9999), 3) := by decide +kernel
theorem dX9_simplestOf_128 : decode cX9_simplestOf 128 = .ok (.ireturn, 1) := by decide +kernel
theorem dX9_simplestBetween_0 : decode cX9_simplestBetween 0 = .ok (.iload_n 0, 1) := by decide +kernel
theorem dX9_simplestBetween_1 : decode cX9_simplestBetween 1 = .ok (.ifCond .ge 9, 3) := by decide +kernel
theorem dX9_simplestBetween_4 : decode cX9_simplestBetween 4 = .ok (.iload_n 1, 1) := by decide +kernel
theorem dX9_simplestBetween_5 : decode cX9_simplestBetween 5 = .ok (.ifCond .le 5, 3) := by decide +kernel
theorem dX9_simplestBetween_8 : decode cX9_simplestBetween 8 = .ok (.iconst 0, 1) := by decide +kernel
theorem dX9_simplestBetween_9 : decode cX9_simplestBetween 9 = .ok (.ireturn, 1) := by decide +kernel
theorem dX9_simplestBetween_10 : decode cX9_simplestBetween 10 = .ok (.iload_n 0, 1) := by decide +kernel
theorem dX9_simplestBetween_11 : decode cX9_simplestBetween 11 = .ok (.ifCond .lt 7, 3) := by decide +kernel
theorem dX9_simplestBetween_14 : decode cX9_simplestBetween 14 = .ok (.iconst 1, 1) := by decide +kernel
theorem dX9_simplestBetween_15 : decode cX9_simplestBetween 15 = .ok (.goto 4, 3) := by decide +kernel
theorem dX9_simplestBetween_18 : decode cX9_simplestBetween 18 = .ok (.iconst (-1), 1) := by decide +kernel
theorem dX9_simplestBetween_19 : decode cX9_simplestBetween 19 = .ok (.istore_n 2, 1) := by decide +kernel
theorem dX9_simplestBetween_20 : decode cX9_simplestBetween 20 = .ok (.iload_n 0, 1) := by decide +kernel
theorem dX9_simplestBetween_21 : decode cX9_simplestBetween 21 = .ok (.ifCond .lt 7, 3) := by decide +kernel
theorem dX9_simplestBetween_24 : decode cX9_simplestBetween 24 = .ok (.iload_n 0, 1) := by decide +kernel
theorem dX9_simplestBetween_25 : decode cX9_simplestBetween 25 = .ok (.goto 5, 3) := by decide +kernel
theorem dX9_simplestBetween_28 : decode cX9_simplestBetween 28 = .ok (.iload_n 1, 1) := by decide +kernel
theorem dX9_simplestBetween_29 : decode cX9_simplestBetween 29 = .ok (.ineg, 1) := by decide +kernel
theorem dX9_simplestBetween_30 : decode cX9_simplestBetween 30 = .ok (.istore_n 3, 1) := by decide +kernel
theorem dX9_simplestBetween_31 : decode cX9_simplestBetween 31 = .ok (.iload_n 0, 1) := by decide +kernel
theorem dX9_simplestBetween_32 : decode cX9_simplestBetween 32 = .ok (.ifCond .lt 7, 3) := by decide +kernel
theorem dX9_simplestBetween_35 : decode cX9_simplestBetween 35 = .ok (.iload_n 1, 1) := by decide +kernel
theorem dX9_simplestBetween_36 : decode cX9_simplestBetween 36 = .ok (.goto 5, 3) := by decide +kernel
theorem dX9_simplestBetween_39 : decode cX9_simplestBetween 39 = .ok (.iload_n 0, 1) := by decide +kernel
theorem dX9_simplestBetween_40 : decode cX9_simplestBetween 40 = .ok (.ineg, 1) := by decide +kernel
theorem dX9_simplestBetween_41 : decode cX9_simplestBetween 41 = .ok (.istore 4, 2) := by decide +kernel
theorem dX9_simplestBetween_43 : decode cX9_simplestBetween 43 = .ok (.sipush 256, 3) := by decide +kernel
theorem dX9_simplestBetween_46 : decode cX9_simplestBetween 46 = .ok (.istore 5, 2) := by decide +kernel
theorem dX9_simplestBetween_48 : decode cX9_simplestBetween 48 = .ok (.iload 5, 2) := by decide +kernel
theorem dX9_simplestBetween_50 : decode cX9_simplestBetween 50 = .ok (.iconst 1, 1) := by decide +kernel
theorem dX9_simplestBetween_51 : decode cX9_simplestBetween 51 = .ok (.if_icmp .le 35, 3) := by decide +kernel
theorem dX9_simplestBetween_54 : decode cX9_simplestBetween 54 = .ok (.iload_n 3, 1) := by decide +kernel
theorem dX9_simplestBetween_55 : decode cX9_simplestBetween 55 = .ok (.iload 5, 2) := by decide +kernel
theorem dX9_simplestBetween_57 : decode cX9_simplestBetween 57 = .ok (.idiv, 1) := by decide +kernel
theorem dX9_simplestBetween_58 : decode cX9_simplestBetween 58 = .ok (.iconst 1, 1) := by decide +kernel
theorem dX9_simplestBetween_59 : decode cX9_simplestBetween 59 = .ok (.iadd, 1) := by decide +kernel
theorem dX9_simplestBetween_60 : decode cX9_simplestBetween 60 = .ok (.iload 5, 2) := by decide +kernel
theorem dX9_simplestBetween_62 : decode cX9_simplestBetween 62 = .ok (.imul, 1) := by decide +kernel
theorem dX9_simplestBetween_63 : decode cX9_simplestBetween 63 = .ok (.istore 6, 2) := by decide +kernel
theorem dX9_simplestBetween_65 : decode cX9_simplestBetween 65 = .ok (.iload 6, 2) := by decide +kernel
theorem dX9_simplestBetween_67 : decode cX9_simplestBetween 67 = .ok (.iload 4, 2) := by decide +kernel
theorem dX9_simplestBetween_69 : decode cX9_simplestBetween 69 = .ok (.if_icmp .ge 8, 3) := by decide +kernel
theorem dX9_simplestBetween_72 : decode cX9_simplestBetween 72 = .ok (.iload_n 2, 1) := by decide +kernel
theorem dX9_simplestBetween_73 : decode cX9_simplestBetween 73 = .ok (.iload 6, 2) := by decide +kernel
theorem dX9_simplestBetween_75 : decode cX9_simplestBetween 75 = .ok (.imul, 1) := by decide +kernel
theorem dX9_simplestBetween_76 : decode cX9_simplestBetween 76 = .ok (.ireturn, 1) := by decide +kernel
theorem dX9_simplestBetween_77 : decode cX9_simplestBetween 77 = .ok (.iload 5, 2) := by decide +kernel
theorem dX9_simplestBetween_79 : decode cX9_simplestBetween 79 = .ok (.iconst 2, 1) := by decide +kernel
theorem dX9_simplestBetween_80 : decode cX9_simplestBetween 80 = .ok (.idiv, 1) := by decide +kernel
theorem dX9_simplestBetween_81 : decode cX9_simplestBetween 81 = .ok (.istore 5, 2) := by decide +kernel
theorem dX9_simplestBetween_83 : decode cX9_simplestBetween 83 = .ok (.goto (-35), 3) := by decide +kernel
theorem dX9_simplestBetween_86 : decode cX9_simplestBetween 86 = .ok (.iload_n 2, 1) := by decide +kernel
theorem dX9_simplestBetween_87 : decode cX9_simplestBetween 87 = .ok (.iload_n 3, 1) := by decide +kernel
theorem dX9_simplestBetween_88 : decode cX9_simplestBetween 88 = .ok (.iconst 1, 1) := by decide +kernel
theorem dX9_simplestBetween_89 : decode cX9_simplestBetween 89 = .ok (.iadd, 1) := by decide +kernel
theorem dX9_simplestBetween_90 : decode cX9_simplestBetween 90 = .ok (.imul, 1) := by decide +kernel
theorem dX9_simplestBetween_91 : decode cX9_simplestBetween 91 = .ok (.ireturn, 1) := by decide +kernel
set_option maxRecDepth 20000 in
theorem ggX10_init_X5_init : GoodIn wsX10_init wsX5_init := goodIn_r _ [47, 48, 2, 3, 49, 50, 51, 123, 124] (by decide +kernel) (by decide +kernel)
set_option maxRecDepth 20000 in
theorem gX10_init_X5_init : GoodIn wsX10_init (wsX5_init) := ggX10_init_X5_init
set_option maxRecDepth 20000 in
theorem ggX10_init_X8_init : GoodIn wsX10_init wsX8_init := goodIn_r _ [54, 55, 2, 3, 56, 57, 58, 59, 60, 61, 139, 140, 141, 142, 143] (by decide +kernel) (by decide +kernel)
set_option maxRecDepth 20000 in
theorem gX10_init_X8_init : GoodIn wsX10_init (wsX8_init) := ggX10_init_X8_init
set_option maxRecDepth 20000 in
theorem ggX10_init_X3_init : GoodIn wsX10_init wsX3_init := goodIn_r _ [64, 65, 2, 3, 57, 66, 67, 68, 69, 70, 71, 72, 73, 74, 75, 76, 77, 78, 79, 80, 81, 82, 144, 145, 146, 147, 148, 164, 165, 166, 167] (by decide +kernel) (by decide +kernel)
set_option maxRecDepth 20000 in
theorem gX10_init_X3_init : GoodIn wsX10_init (wsX3_init) := ggX10_init_X3_init
set_option maxRecDepth 20000 in
theorem ggX10_init_X6_init : GoodIn wsX10_init wsX6_init := goodIn_r _ [85, 86, 2, 3, 87, 88, 149, 150] (by decide +kernel) (by decide +kernel)
set_option maxRecDepth 20000 in
theorem gX10_init_X6_init : GoodIn wsX10_init (wsX6_init) := ggX10_init_X6_init
set_option maxRecDepth 20000 in
theorem ggX10_init_X4_init : GoodIn wsX10_init wsX4_init := goodIn_r _ [91, 92, 2, 3, 93, 94, 95, 151, 152] (by decide +kernel) (by decide +kernel)
set_option maxRecDepth 20000 in
theorem gX10_init_X4_init : GoodIn wsX10_init (wsX4_init) := ggX10_init_X4_init
set_option maxRecDepth 20000 in
theorem ggX10_init_X1_init : GoodIn wsX10_init wsX1_init := goodIn_r _ [98, 99, 2, 3, 57, 100, 101, 102, 153, 154, 155] (by decide +kernel) (by decide +kernel)
set_option maxRecDepth 20000 in
theorem gX10_init_X1_init : GoodIn wsX10_init (wsX1_init) := ggX10_init_X1_init
set_option maxRecDepth 20000 in
theorem ggX10_init_X9_init : GoodIn wsX10_init wsX9_init := goodIn_r _ [105, 106, 2, 3, 57, 107, 108, 156, 157] (by decide +kernel) (by decide +kernel)
set_option maxRecDepth 20000 in
theorem gX10_init_X9_init : GoodIn wsX10_init (wsX9_init) := ggX10_init_X9_init
set_option maxRecDepth 20000 in
theorem ggX10_init_X0_init : GoodIn wsX10_init wsX0_init := goodIn_r _ [111, 112, 2, 3, 93, 113, 114, 158, 159] (by decide +kernel) (by decide +kernel)
set_option maxRecDepth 20000 in
theorem gX10_init_X0_init : GoodIn wsX10_init (wsX0_init) := ggX10_init_X0_init
set_option maxRecDepth 20000 in
theorem ggX10_init_X2_init : GoodIn wsX10_init wsX2_init := goodIn_r _ [117, 118, 2, 3, 119, 120, 121, 122, 160, 161, 162, 163] (by decide +kernel) (by decide +kernel)
set_option maxRecDepth 20000 in
theorem gX10_init_X2_init : GoodIn wsX10_init (wsX2_init) := ggX10_init_X2_init
theorem dX10_init_0 : decode cX10_init 0 = .ok (.aload_n 0, 1) := by decide +kernel
theorem dX10_init_1 : decode cX10_init 1 = .ok (.invokespecial 1, 3) := by decide +kernel
theorem dX10_init_4 : decode cX10_init 4 = .ok (.aload_n 0, 1) := by decide +kernel
theorem dX10_init_5 : decode cX10_init 5 = .ok (.new 7, 3) := by decide +kernel
theorem dX10_init_8 : decode cX10_init 8 = .ok (.dup, 1) := by decide +kernel
theorem dX10_init_9 : decode cX10_init 9 = .ok (.invokespecial 9, 3) := by decide +kernel
theorem dX10_init_12 : decode cX10_init 12 = .ok (.putfield 10, 3) := by decide +kernel
theorem dX10_init_15 : decode cX10_init 15 = .ok (.aload_n 0, 1) := by decide +kernel
theorem dX10_init_16 : decode cX10_init 16 = .ok (.new 16, 3) := by decide +kernel
theorem dX10_init_19 : decode cX10_init 19 = .ok (.dup, 1) := by decide +kernel
theorem dX10_init_20 : decode cX10_init 20 = .ok (.invokespecial 18, 3) := by decide +kernel
theorem dX10_init_23 : decode cX10_init 23 = .ok (.putfield 19, 3) := by decide +kernel
theorem dX10_init_26 : decode cX10_init 26 = .ok (.aload_n 0, 1) := by decide +kernel
theorem dX10_init_27 : decode cX10_init 27 = .ok (.new 23, 3) := by decide +kernel
theorem dX10_init_30 : decode cX10_init 30 = .ok (.dup, 1) := by decide +kernel
theorem dX10_init_31 : decode cX10_init 31 = .ok (.invokespecial 25, 3) := by decide +kernel
theorem dX10_init_34 : decode cX10_init 34 = .ok (.putfield 26, 3) := by decide +kernel
theorem dX10_init_37 : decode cX10_init 37 = .ok (.aload_n 0, 1) := by decide +kernel
theorem dX10_init_38 : decode cX10_init 38 = .ok (.new 23, 3) := by decide +kernel
theorem dX10_init_41 : decode cX10_init 41 = .ok (.dup, 1) := by decide +kernel
theorem dX10_init_42 : decode cX10_init 42 = .ok (.invokespecial 25, 3) := by decide +kernel
theorem dX10_init_45 : decode cX10_init 45 = .ok (.putfield 30, 3) := by decide +kernel
theorem dX10_init_48 : decode cX10_init 48 = .ok (.aload_n 0, 1) := by decide +kernel
theorem dX10_init_49 : decode cX10_init 49 = .ok (.new 33, 3) := by decide +kernel
theorem dX10_init_52 : decode cX10_init 52 = .ok (.dup, 1) := by decide +kernel
theorem dX10_init_53 : decode cX10_init 53 = .ok (.aload_n 0, 1) := by decide +kernel
theorem dX10_init_54 : decode cX10_init 54 = .ok (.getfield 19, 3) := by decide +kernel
theorem dX10_init_57 : decode cX10_init 57 = .ok (.aload_n 0, 1) := by decide +kernel
theorem dX10_init_58 : decode cX10_init 58 = .ok (.getfield 26, 3) := by decide +kernel
theorem dX10_init_61 : decode cX10_init 61 = .ok (.invokespecial 35, 3) := by decide +kernel
theorem dX10_init_64 : decode cX10_init 64 = .ok (.putfield 38, 3) := by decide +kernel
theorem dX10_init_67 : decode cX10_init 67 = .ok (.aload_n 0, 1) := by decide +kernel
theorem dX10_init_68 : decode cX10_init 68 = .ok (.new 42, 3) := by decide +kernel
theorem dX10_init_71 : decode cX10_init 71 = .ok (.dup, 1) := by decide +kernel
theorem dX10_init_72 : decode cX10_init 72 = .ok (.aload_n 0, 1) := by decide +kernel
theorem dX10_init_73 : decode cX10_init 73 = .ok (.getfield 38, 3) := by decide +kernel
theorem dX10_init_76 : decode cX10_init 76 = .ok (.invokespecial 44, 3) := by decide +kernel
