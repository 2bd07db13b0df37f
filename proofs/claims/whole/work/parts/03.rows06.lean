theorem dX11_partsFrom_46 : decode cX11_partsFrom 46 = .ok (.laload, 1) := by decide +kernel
theorem dX11_partsFrom_47 : decode cX11_partsFrom 47 = .ok (.ladd, 1) := by decide +kernel
theorem dX11_partsFrom_48 : decode cX11_partsFrom 48 = .ok (.lstore_n 3, 1) := by decide +kernel
theorem dX11_partsFrom_49 : decode cX11_partsFrom 49 = .ok (.iinc 5 1, 3) := by decide +kernel
theorem dX11_partsFrom_52 : decode cX11_partsFrom 52 = .ok (.iinc 6 1, 3) := by decide +kernel
theorem dX11_partsFrom_55 : decode cX11_partsFrom 55 = .ok (.goto (-47), 3) := by decide +kernel
theorem dX11_partsFrom_58 : decode cX11_partsFrom 58 = .ok (.iload 5, 2) := by decide +kernel
theorem dX11_partsFrom_60 : decode cX11_partsFrom 60 = .ok (.ifCond .le 11, 3) := by decide +kernel
theorem dX11_partsFrom_63 : decode cX11_partsFrom 63 = .ok (.lload_n 3, 1) := by decide +kernel
theorem dX11_partsFrom_64 : decode cX11_partsFrom 64 = .ok (.iload 5, 2) := by decide +kernel
theorem dX11_partsFrom_66 : decode cX11_partsFrom 66 = .ok (.i2l, 1) := by decide +kernel
theorem dX11_partsFrom_67 : decode cX11_partsFrom 67 = .ok (.ldiv, 1) := by decide +kernel
theorem dX11_partsFrom_68 : decode cX11_partsFrom 68 = .ok (.goto 14, 3) := by decide +kernel
theorem dX11_partsFrom_71 : decode cX11_partsFrom 71 = .ok (.iload_n 2, 1) := by decide +kernel
theorem dX11_partsFrom_72 : decode cX11_partsFrom 72 = .ok (.ifCond .ne 7, 3) := by decide +kernel
theorem dX11_partsFrom_75 : decode cX11_partsFrom 75 = .ok (.lconst 0, 1) := by decide +kernel
theorem dX11_partsFrom_76 : decode cX11_partsFrom 76 = .ok (.goto 6, 3) := by decide +kernel
theorem dX11_partsFrom_79 : decode cX11_partsFrom 79 = .ok (.ldc2_w 182, 3) := by decide +kernel
theorem dX11_partsFrom_82 : decode cX11_partsFrom 82 = .ok (.lreturn, 1) := by decide +kernel
set_option maxRecDepth 20000 in
theorem ggX11_likelyNow_X11_partsFrom : GoodIn wsX11_likelyNow wsX11_partsFrom := goodIn_r _ [9, 10, 2, 4, 11, 12, 13, 8, 14, 15, 16, 17, 18, 19, 20, 21, 22, 23, 24, 25, 26, 27, 28, 29, 30, 31, 32, 33, 34, 35, 36, 37, 38, 39, 40, 41, 42, 43, 44, 45, 46, 47, 48, 49, 50, 51, 52, 53, 54, 55, 56, 57, 58, 59, 60, 61, 62, 63, 64, 65] (by decide +kernel) (by decide +kernel)
set_option maxRecDepth 20000 in
theorem gX11_likelyNow_X11_partsFrom : GoodIn wsX11_likelyNow (wsV RX11 184 RX11 yX11_partsFrom wsX11_partsFrom) := goodIn_app (goodIn_of _ (by decide +kernel)) ggX11_likelyNow_X11_partsFrom
theorem dX11_likelyNow_0 : decode cX11_likelyNow 0 = .ok (.iconst 0, 1) := by decide +kernel
theorem dX11_likelyNow_1 : decode cX11_likelyNow 1 = .ok (.istore_n 2, 1) := by decide +kernel
theorem dX11_likelyNow_2 : decode cX11_likelyNow 2 = .ok (.iload_n 2, 1) := by decide +kernel
theorem dX11_likelyNow_3 : decode cX11_likelyNow 3 = .ok (.aload_n 0, 1) := by decide +kernel
theorem dX11_likelyNow_4 : decode cX11_likelyNow 4 = .ok (.getfield 86, 3) := by decide +kernel
theorem dX11_likelyNow_7 : decode cX11_likelyNow 7 = .ok (.if_icmp .gt 50, 3) := by decide +kernel
theorem dX11_likelyNow_10 : decode cX11_likelyNow 10 = .ok (.iload_n 2, 1) := by decide +kernel
theorem dX11_likelyNow_11 : decode cX11_likelyNow 11 = .ok (.aload_n 0, 1) := by decide +kernel
theorem dX11_likelyNow_12 : decode cX11_likelyNow 12 = .ok (.getfield 86, 3) := by decide +kernel
theorem dX11_likelyNow_15 : decode cX11_likelyNow 15 = .ok (.iconst (-1), 1) := by decide +kernel
theorem dX11_likelyNow_16 : decode cX11_likelyNow 16 = .ok (.ixor, 1) := by decide +kernel
theorem dX11_likelyNow_17 : decode cX11_likelyNow 17 = .ok (.iand, 1) := by decide +kernel
theorem dX11_likelyNow_18 : decode cX11_likelyNow 18 = .ok (.ifCond .ne 33, 3) := by decide +kernel
theorem dX11_likelyNow_21 : decode cX11_likelyNow 21 = .ok (.aload_n 0, 1) := by decide +kernel
theorem dX11_likelyNow_22 : decode cX11_likelyNow 22 = .ok (.getfield 38, 3) := by decide +kernel
theorem dX11_likelyNow_25 : decode cX11_likelyNow 25 = .ok (.iconst 2, 1) := by decide +kernel
theorem dX11_likelyNow_26 : decode cX11_likelyNow 26 = .ok (.iload_n 2, 1) := by decide +kernel
theorem dX11_likelyNow_27 : decode cX11_likelyNow 27 = .ok (.imul, 1) := by decide +kernel
theorem dX11_likelyNow_28 : decode cX11_likelyNow 28 = .ok (.aload_n 0, 1) := by decide +kernel
theorem dX11_likelyNow_29 : decode cX11_likelyNow 29 = .ok (.iload_n 2, 1) := by decide +kernel
theorem dX11_likelyNow_30 : decode cX11_likelyNow 30 = .ok (.iconst 0, 1) := by decide +kernel
theorem dX11_likelyNow_31 : decode cX11_likelyNow 31 = .ok (.invokevirtual 184, 3) := by decide +kernel
theorem dX11_likelyNow_34 : decode cX11_likelyNow 34 = .ok (.lastore, 1) := by decide +kernel
theorem dX11_likelyNow_35 : decode cX11_likelyNow 35 = .ok (.aload_n 0, 1) := by decide +kernel
theorem dX11_likelyNow_36 : decode cX11_likelyNow 36 = .ok (.getfield 38, 3) := by decide +kernel
theorem dX11_likelyNow_39 : decode cX11_likelyNow 39 = .ok (.iconst 2, 1) := by decide +kernel
theorem dX11_likelyNow_40 : decode cX11_likelyNow 40 = .ok (.iload_n 2, 1) := by decide +kernel
theorem dX11_likelyNow_41 : decode cX11_likelyNow 41 = .ok (.imul, 1) := by decide +kernel
theorem dX11_likelyNow_42 : decode cX11_likelyNow 42 = .ok (.iconst 1, 1) := by decide +kernel
theorem dX11_likelyNow_43 : decode cX11_likelyNow 43 = .ok (.iadd, 1) := by decide +kernel
theorem dX11_likelyNow_44 : decode cX11_likelyNow 44 = .ok (.aload_n 0, 1) := by decide +kernel
theorem dX11_likelyNow_45 : decode cX11_likelyNow 45 = .ok (.iload_n 2, 1) := by decide +kernel
theorem dX11_likelyNow_46 : decode cX11_likelyNow 46 = .ok (.iconst 1, 1) := by decide +kernel
theorem dX11_likelyNow_47 : decode cX11_likelyNow 47 = .ok (.invokevirtual 184, 3) := by decide +kernel
theorem dX11_likelyNow_50 : decode cX11_likelyNow 50 = .ok (.lastore, 1) := by decide +kernel
theorem dX11_likelyNow_51 : decode cX11_likelyNow 51 = .ok (.iinc 2 1, 3) := by decide +kernel
theorem dX11_likelyNow_54 : decode cX11_likelyNow 54 = .ok (.goto (-52), 3) := by decide +kernel
theorem dX11_likelyNow_57 : decode cX11_likelyNow 57 = .ok (.aload_n 0, 1) := by decide +kernel
theorem dX11_likelyNow_58 : decode cX11_likelyNow 58 = .ok (.getfield 38, 3) := by decide +kernel
theorem dX11_likelyNow_61 : decode cX11_likelyNow 61 = .ok (.iconst 2, 1) := by decide +kernel
theorem dX11_likelyNow_62 : decode cX11_likelyNow 62 = .ok (.aload_n 0, 1) := by decide +kernel
theorem dX11_likelyNow_63 : decode cX11_likelyNow 63 = .ok (.getfield 86, 3) := by decide +kernel
theorem dX11_likelyNow_66 : decode cX11_likelyNow 66 = .ok (.imul, 1) := by decide +kernel
theorem dX11_likelyNow_67 : decode cX11_likelyNow 67 = .ok (.iload_n 1, 1) := by decide +kernel
theorem dX11_likelyNow_68 : decode cX11_likelyNow 68 = .ok (.iadd, 1) := by decide +kernel
theorem dX11_likelyNow_69 : decode cX11_likelyNow 69 = .ok (.laload, 1) := by decide +kernel
theorem dX11_likelyNow_70 : decode cX11_likelyNow 70 = .ok (.ldc2_w 188, 3) := by decide +kernel
theorem dX11_likelyNow_73 : decode cX11_likelyNow 73 = .ok (.lmul, 1) := by decide +kernel
theorem dX11_likelyNow_74 : decode cX11_likelyNow 74 = .ok (.ldc2_w 182, 3) := by decide +kernel
theorem dX11_likelyNow_77 : decode cX11_likelyNow 77 = .ok (.ldiv, 1) := by decide +kernel
theorem dX11_likelyNow_78 : decode cX11_likelyNow 78 = .ok (.l2i, 1) := by decide +kernel
theorem dX11_likelyNow_79 : decode cX11_likelyNow 79 = .ok (.ireturn, 1) := by decide +kernel
set_option maxRecDepth 20000 in
theorem ggX11_likely_X11_refused : GoodIn wsX11_likely wsX11_refused := goodIn_r _ [5, 6, 7, 8, 4, 9, 43, 44, 45, 46, 47, 48, 49, 50, 51, 52, 53, 54, 55, 56, 57, 58, 59, 60, 61, 62, 63, 64, 65, 66, 67, 68, 69, 70, 71, 72, 73, 74, 75, 76] (by decide +kernel) (by decide +kernel)
set_option maxRecDepth 20000 in
theorem gX11_likely_X11_refused : GoodIn wsX11_likely (wsV RX11 147 RX11 yX11_refused wsX11_refused) := goodIn_app (goodIn_of _ (by decide +kernel)) ggX11_likely_X11_refused
set_option maxRecDepth 20000 in
theorem ggX11_likely_X11_likelyNow : GoodIn wsX11_likely wsX11_likelyNow := goodIn_r _ [13, 14, 15, 16, 17, 18, 19, 20, 4, 21, 6, 22, 23, 24, 25, 26, 27, 28, 29, 30, 31, 32, 33, 34, 35, 36, 37, 38, 39, 40, 41, 42, 43, 44, 45, 46, 47, 48, 49, 50, 51, 52, 53, 54, 55, 56, 57, 58, 59, 60, 61, 62, 63, 64, 65, 66, 67, 68, 69, 70, 71, 72, 73, 74, 75, 76] (by decide +kernel) (by decide +kernel)
set_option maxRecDepth 20000 in
theorem gX11_likely_X11_likelyNow : GoodIn wsX11_likely (wsV RX11 190 RX11 yX11_likelyNow wsX11_likelyNow) := goodIn_app (goodIn_of _ (by decide +kernel)) ggX11_likely_X11_likelyNow
theorem dX11_likely_0 : decode cX11_likely 0 = .ok (.aload_n 0, 1) := by decide +kernel
theorem dX11_likely_1 : decode cX11_likely 1 = .ok (.iload_n 1, 1) := by decide +kernel
theorem dX11_likely_2 : decode cX11_likely 2 = .ok (.invokevirtual 147, 3) := by decide +kernel
theorem dX11_likely_5 : decode cX11_likely 5 = .ok (.ifCond .ge 11, 3) := by decide +kernel
theorem dX11_likely_8 : decode cX11_likely 8 = .ok (.aload_n 0, 1) := by decide +kernel
theorem dX11_likely_9 : decode cX11_likely 9 = .ok (.iload_n 1, 1) := by decide +kernel
theorem dX11_likely_10 : decode cX11_likely 10 = .ok (.invokevirtual 147, 3) := by decide +kernel
theorem dX11_likely_13 : decode cX11_likely 13 = .ok (.goto 8, 3) := by decide +kernel
theorem dX11_likely_16 : decode cX11_likely 16 = .ok (.aload_n 0, 1) := by decide +kernel
theorem dX11_likely_17 : decode cX11_likely 17 = .ok (.iload_n 1, 1) := by decide +kernel
theorem dX11_likely_18 : decode cX11_likely 18 = .ok (.invokevirtual 190, 3) := by decide +kernel
theorem dX11_likely_21 : decode cX11_likely 21 = .ok (.ireturn, 1) := by decide +kernel
set_option maxRecDepth 20000 in
theorem ggX11_see_X11_isBranch : GoodIn wsX11_see wsX11_isBranch := goodIn_r _ [9, 10, 11, 12, 8, 13, 14, 15, 16, 17, 18, 19, 20, 21, 22, 23, 24, 25, 26, 27, 28, 29, 30, 31, 32, 33, 34, 35, 36, 37, 38, 39, 40, 41, 42, 43, 44, 45, 46, 47] (by decide +kernel) (by decide +kernel)
set_option maxRecDepth 20000 in
theorem gX11_see_X11_isBranch : GoodIn wsX11_see (wsV RX11 120 RX11 yX11_isBranch wsX11_isBranch) := goodIn_app (goodIn_of _ (by decide +kernel)) ggX11_see_X11_isBranch
set_option maxRecDepth 20000 in
theorem ggX11_see_X11_within : GoodIn wsX11_see wsX11_within := goodIn_r _ [13] (by decide +kernel) (by decide +kernel)
set_option maxRecDepth 20000 in
theorem gX11_see_X11_within : GoodIn wsX11_see (va_wsS RX11 57 yX11_within wsX11_within) := goodIn_app (goodIn_of _ (by decide +kernel)) ggX11_see_X11_within
theorem dX11_see_0 : decode cX11_see 0 = .ok (.aload_n 0, 1) := by decide +kernel
theorem dX11_see_1 : decode cX11_see 1 = .ok (.iload_n 1, 1) := by decide +kernel
theorem dX11_see_2 : decode cX11_see 2 = .ok (.invokevirtual 120, 3) := by decide +kernel
theorem dX11_see_5 : decode cX11_see 5 = .ok (.ifCond .ne 6, 3) := by decide +kernel
theorem dX11_see_8 : decode cX11_see 8 = .ok (.bipush (-101), 2) := by decide +kernel
theorem dX11_see_10 : decode cX11_see 10 = .ok (.ireturn, 1) := by decide +kernel
theorem dX11_see_11 : decode cX11_see 11 = .ok (.iload_n 2, 1) := by decide +kernel
theorem dX11_see_12 : decode cX11_see 12 = .ok (.iconst 0, 1) := by decide +kernel
theorem dX11_see_13 : decode cX11_see 13 = .ok (.iconst 1, 1) := by decide +kernel
theorem dX11_see_14 : decode cX11_see 14 = .ok (.invokestatic 57, 3) := by decide +kernel
theorem dX11_see_17 : decode cX11_see 17 = .ok (.ifCond .ne 6, 3) := by decide +kernel
theorem dX11_see_20 : decode cX11_see 20 = .ok (.bipush (-102), 2) := by decide +kernel
theorem dX11_see_22 : decode cX11_see 22 = .ok (.ireturn, 1) := by decide +kernel
theorem dX11_see_23 : decode cX11_see 23 = .ok (.aload_n 0, 1) := by decide +kernel
theorem dX11_see_24 : decode cX11_see 24 = .ok (.getfield 98, 3) := by decide +kernel
theorem dX11_see_27 : decode cX11_see 27 = .ok (.bipush 6, 2) := by decide +kernel
theorem dX11_see_29 : decode cX11_see 29 = .ok (.if_icmp .ne 6, 3) := by decide +kernel
theorem dX11_see_32 : decode cX11_see 32 = .ok (.bipush (-104), 2) := by decide +kernel
theorem dX11_see_34 : decode cX11_see 34 = .ok (.ireturn, 1) := by decide +kernel
theorem dX11_see_35 : decode cX11_see 35 = .ok (.aload_n 0, 1) := by decide +kernel
theorem dX11_see_36 : decode cX11_see 36 = .ok (.getfield 16, 3) := by decide +kernel
theorem dX11_see_39 : decode cX11_see 39 = .ok (.aload_n 0, 1) := by decide +kernel
theorem dX11_see_40 : decode cX11_see 40 = .ok (.getfield 98, 3) := by decide +kernel
theorem dX11_see_43 : decode cX11_see 43 = .ok (.iload_n 1, 1) := by decide +kernel
theorem dX11_see_44 : decode cX11_see 44 = .ok (.iastore, 1) := by decide +kernel
theorem dX11_see_45 : decode cX11_see 45 = .ok (.aload_n 0, 1) := by decide +kernel
theorem dX11_see_46 : decode cX11_see 46 = .ok (.getfield 19, 3) := by decide +kernel
theorem dX11_see_49 : decode cX11_see 49 = .ok (.aload_n 0, 1) := by decide +kernel
theorem dX11_see_50 : decode cX11_see 50 = .ok (.getfield 98, 3) := by decide +kernel
theorem dX11_see_53 : decode cX11_see 53 = .ok (.iload_n 2, 1) := by decide +kernel
theorem dX11_see_54 : decode cX11_see 54 = .ok (.iastore, 1) := by decide +kernel
theorem dX11_see_55 : decode cX11_see 55 = .ok (.aload_n 0, 1) := by decide +kernel
theorem dX11_see_56 : decode cX11_see 56 = .ok (.getfield 22, 3) := by decide +kernel
theorem dX11_see_59 : decode cX11_see 59 = .ok (.aload_n 0, 1) := by decide +kernel
theorem dX11_see_60 : decode cX11_see 60 = .ok (.getfield 98, 3) := by decide +kernel
theorem dX11_see_63 : decode cX11_see 63 = .ok (.iload_n 3, 1) := by decide +kernel
theorem dX11_see_64 : decode cX11_see 64 = .ok (.ifCond .eq 7, 3) := by decide +kernel
theorem dX11_see_67 : decode cX11_see 67 = .ok (.iconst 1, 1) := by decide +kernel
theorem dX11_see_68 : decode cX11_see 68 = .ok (.goto 4, 3) := by decide +kernel
theorem dX11_see_71 : decode cX11_see 71 = .ok (.iconst 0, 1) := by decide +kernel
theorem dX11_see_72 : decode cX11_see 72 = .ok (.iastore, 1) := by decide +kernel
theorem dX11_see_73 : decode cX11_see 73 = .ok (.aload_n 0, 1) := by decide +kernel
theorem dX11_see_74 : decode cX11_see 74 = .ok (.dup, 1) := by decide +kernel
theorem dX11_see_75 : decode cX11_see 75 = .ok (.getfield 98, 3) := by decide +kernel
theorem dX11_see_78 : decode cX11_see 78 = .ok (.iconst 1, 1) := by decide +kernel
theorem dX11_see_79 : decode cX11_see 79 = .ok (.iadd, 1) := by decide +kernel
theorem dX11_see_80 : decode cX11_see 80 = .ok (.putfield 98, 3) := by decide +kernel
theorem dX11_see_83 : decode cX11_see 83 = .ok (.aload_n 0, 1) := by decide +kernel
theorem dX11_see_84 : decode cX11_see 84 = .ok (.getfield 98, 3) := by decide +kernel
theorem dX11_see_87 : decode cX11_see 87 = .ok (.ireturn, 1) := by decide +kernel
theorem dX11_forget_0 : decode cX11_forget 0 = .ok (.aload_n 0, 1) := by decide +kernel
theorem dX11_forget_1 : decode cX11_forget 1 = .ok (.getfield 98, 3) := by decide +kernel
theorem dX11_forget_4 : decode cX11_forget 4 = .ok (.istore_n 1, 1) := by decide +kernel
theorem dX11_forget_5 : decode cX11_forget 5 = .ok (.aload_n 0, 1) := by decide +kernel
theorem dX11_forget_6 : decode cX11_forget 6 = .ok (.iconst 0, 1) := by decide +kernel
theorem dX11_forget_7 : decode cX11_forget 7 = .ok (.putfield 98, 3) := by decide +kernel
theorem dX11_forget_10 : decode cX11_forget 10 = .ok (.iload_n 1, 1) := by decide +kernel
theorem dX11_forget_11 : decode cX11_forget 11 = .ok (.ireturn, 1) := by decide +kernel
set_option maxRecDepth 20000 in
theorem ggX11_laySorts_X11_layWinners : GoodIn wsX11_laySorts wsX11_layWinners := goodIn_r _ [9, 4, 3, 10, 11, 12, 8, 13, 14, 15, 16, 17, 18, 1, 19, 20, 21, 22, 23, 24, 25, 26, 27, 28, 29, 30, 31, 32, 33, 34, 35, 36, 37, 38, 39, 40, 41, 42, 43, 44, 45, 46, 47, 48, 49, 50, 51, 52, 53, 54, 55, 56, 57, 58, 59, 60, 61, 62, 63, 64, 65, 66, 67, 68] (by decide +kernel) (by decide +kernel)
set_option maxRecDepth 20000 in
theorem gX11_laySorts_X11_layWinners : GoodIn wsX11_laySorts (wsV RX11 138 RX11 yX11_layWinners wsX11_layWinners) := goodIn_app (goodIn_of _ (by decide +kernel)) ggX11_laySorts_X11_layWinners
theorem dX11_laySorts_0 : decode cX11_laySorts 0 = .ok (.aload_n 0, 1) := by decide +kernel
theorem dX11_laySorts_1 : decode cX11_laySorts 1 = .ok (.getfield 7, 3) := by decide +kernel
theorem dX11_laySorts_4 : decode cX11_laySorts 4 = .ok (.iload_n 1, 1) := by decide +kernel
theorem dX11_laySorts_5 : decode cX11_laySorts 5 = .ok (.iaload, 1) := by decide +kernel
theorem dX11_laySorts_6 : decode cX11_laySorts 6 = .ok (.istore_n 2, 1) := by decide +kernel
theorem dX11_laySorts_7 : decode cX11_laySorts 7 = .ok (.iconst 0, 1) := by decide +kernel
theorem dX11_laySorts_8 : decode cX11_laySorts 8 = .ok (.istore_n 3, 1) := by decide +kernel
theorem dX11_laySorts_9 : decode cX11_laySorts 9 = .ok (.iload_n 3, 1) := by decide +kernel
theorem dX11_laySorts_10 : decode cX11_laySorts 10 = .ok (.iconst 4, 1) := by decide +kernel
theorem dX11_laySorts_11 : decode cX11_laySorts 11 = .ok (.if_icmp .gt 79, 3) := by decide +kernel
theorem dX11_laySorts_14 : decode cX11_laySorts 14 = .ok (.aload_n 0, 1) := by decide +kernel
theorem dX11_laySorts_15 : decode cX11_laySorts 15 = .ok (.getfield 7, 3) := by decide +kernel
theorem dX11_laySorts_18 : decode cX11_laySorts 18 = .ok (.iload_n 1, 1) := by decide +kernel
theorem dX11_laySorts_19 : decode cX11_laySorts 19 = .ok (.iload_n 3, 1) := by decide +kernel
theorem dX11_laySorts_20 : decode cX11_laySorts 20 = .ok (.iastore, 1) := by decide +kernel
theorem dX11_laySorts_21 : decode cX11_laySorts 21 = .ok (.aload_n 0, 1) := by decide +kernel
theorem dX11_laySorts_22 : decode cX11_laySorts 22 = .ok (.invokevirtual 138, 3) := by decide +kernel
theorem dX11_laySorts_25 : decode cX11_laySorts 25 = .ok (.aload_n 0, 1) := by decide +kernel
theorem dX11_laySorts_26 : decode cX11_laySorts 26 = .ok (.getfield 42, 3) := by decide +kernel
theorem dX11_laySorts_29 : decode cX11_laySorts 29 = .ok (.iconst 2, 1) := by decide +kernel
theorem dX11_laySorts_30 : decode cX11_laySorts 30 = .ok (.iload_n 3, 1) := by decide +kernel
theorem dX11_laySorts_31 : decode cX11_laySorts 31 = .ok (.imul, 1) := by decide +kernel
theorem dX11_laySorts_32 : decode cX11_laySorts 32 = .ok (.aload_n 0, 1) := by decide +kernel
theorem dX11_laySorts_33 : decode cX11_laySorts 33 = .ok (.getfield 29, 3) := by decide +kernel
theorem dX11_laySorts_36 : decode cX11_laySorts 36 = .ok (.iconst 2, 1) := by decide +kernel
theorem dX11_laySorts_37 : decode cX11_laySorts 37 = .ok (.aload_n 0, 1) := by decide +kernel
theorem dX11_laySorts_38 : decode cX11_laySorts 38 = .ok (.getfield 86, 3) := by decide +kernel
theorem dX11_laySorts_41 : decode cX11_laySorts 41 = .ok (.imul, 1) := by decide +kernel
theorem dX11_laySorts_42 : decode cX11_laySorts 42 = .ok (.iaload, 1) := by decide +kernel
theorem dX11_laySorts_43 : decode cX11_laySorts 43 = .ok (.ifCond .ne 7, 3) := by decide +kernel
theorem dX11_laySorts_46 : decode cX11_laySorts 46 = .ok (.iconst 1, 1) := by decide +kernel
theorem dX11_laySorts_47 : decode cX11_laySorts 47 = .ok (.goto 4, 3) := by decide +kernel
theorem dX11_laySorts_50 : decode cX11_laySorts 50 = .ok (.iconst 0, 1) := by decide +kernel
theorem dX11_laySorts_51 : decode cX11_laySorts 51 = .ok (.iastore, 1) := by decide +kernel
theorem dX11_laySorts_52 : decode cX11_laySorts 52 = .ok (.aload_n 0, 1) := by decide +kernel
theorem dX11_laySorts_53 : decode cX11_laySorts 53 = .ok (.getfield 42, 3) := by decide +kernel
theorem dX11_laySorts_56 : decode cX11_laySorts 56 = .ok (.iconst 2, 1) := by decide +kernel
theorem dX11_laySorts_57 : decode cX11_laySorts 57 = .ok (.iload_n 3, 1) := by decide +kernel
theorem dX11_laySorts_58 : decode cX11_laySorts 58 = .ok (.imul, 1) := by decide +kernel
theorem dX11_laySorts_59 : decode cX11_laySorts 59 = .ok (.iconst 1, 1) := by decide +kernel
theorem dX11_laySorts_60 : decode cX11_laySorts 60 = .ok (.iadd, 1) := by decide +kernel
theorem dX11_laySorts_61 : decode cX11_laySorts 61 = .ok (.aload_n 0, 1) := by decide +kernel
theorem dX11_laySorts_62 : decode cX11_laySorts 62 = .ok (.getfield 29, 3) := by decide +kernel
theorem dX11_laySorts_65 : decode cX11_laySorts 65 = .ok (.iconst 2, 1) := by decide +kernel
theorem dX11_laySorts_66 : decode cX11_laySorts 66 = .ok (.aload_n 0, 1) := by decide +kernel
theorem dX11_laySorts_67 : decode cX11_laySorts 67 = .ok (.getfield 86, 3) := by decide +kernel
theorem dX11_laySorts_70 : decode cX11_laySorts 70 = .ok (.imul, 1) := by decide +kernel
theorem dX11_laySorts_71 : decode cX11_laySorts 71 = .ok (.iconst 1, 1) := by decide +kernel
theorem dX11_laySorts_72 : decode cX11_laySorts 72 = .ok (.iadd, 1) := by decide +kernel
theorem dX11_laySorts_73 : decode cX11_laySorts 73 = .ok (.iaload, 1) := by decide +kernel
theorem dX11_laySorts_74 : decode cX11_laySorts 74 = .ok (.iconst 1, 1) := by decide +kernel
theorem dX11_laySorts_75 : decode cX11_laySorts 75 = .ok (.if_icmp .ne 7, 3) := by decide +kernel
theorem dX11_laySorts_78 : decode cX11_laySorts 78 = .ok (.iconst 1, 1) := by decide +kernel
theorem dX11_laySorts_79 : decode cX11_laySorts 79 = .ok (.goto 4, 3) := by decide +kernel
theorem dX11_laySorts_82 : decode cX11_laySorts 82 = .ok (.iconst 0, 1) := by decide +kernel
theorem dX11_laySorts_83 : decode cX11_laySorts 83 = .ok (.iastore, 1) := by decide +kernel
theorem dX11_laySorts_84 : decode cX11_laySorts 84 = .ok (.iinc 3 1, 3) := by decide +kernel
theorem dX11_laySorts_87 : decode cX11_laySorts 87 = .ok (.goto (-78), 3) := by decide +kernel
theorem dX11_laySorts_90 : decode cX11_laySorts 90 = .ok (.aload_n 0, 1) := by decide +kernel
theorem dX11_laySorts_91 : decode cX11_laySorts 91 = .ok (.getfield 7, 3) := by decide +kernel
theorem dX11_laySorts_94 : decode cX11_laySorts 94 = .ok (.iload_n 1, 1) := by decide +kernel
theorem dX11_laySorts_95 : decode cX11_laySorts 95 = .ok (.iload_n 2, 1) := by decide +kernel
theorem dX11_laySorts_96 : decode cX11_laySorts 96 = .ok (.iastore, 1) := by decide +kernel
theorem dX11_laySorts_97 : decode cX11_laySorts 97 = .ok (.return_, 1) := by decide +kernel
set_option maxRecDepth 20000 in
theorem ggX11_sortsOf_X11_laySorts : GoodIn wsX11_sortsOf wsX11_laySorts := goodIn_r _ [10, 11, 3, 12, 13, 14, 15, 16, 9, 17, 18, 19, 20, 21, 22, 23, 24, 25, 26, 27, 28, 29, 30, 31, 32, 33, 34, 35, 36, 37, 38, 39, 40, 41, 42, 43, 44, 45, 46, 47, 48, 49, 50, 51, 52, 53, 54, 55, 56, 57, 58, 59, 60, 61, 62, 63, 64, 65, 66, 67, 68, 69, 70, 71, 72, 73, 74, 75, 76] (by decide +kernel) (by decide +kernel)
set_option maxRecDepth 20000 in
theorem gX11_sortsOf_X11_laySorts : GoodIn wsX11_sortsOf (wsV RX11 193 RX11 yX11_laySorts wsX11_laySorts) := goodIn_app (goodIn_of _ (by decide +kernel)) ggX11_sortsOf_X11_laySorts
theorem dX11_sortsOf_0 : decode cX11_sortsOf 0 = .ok (.aload_n 0, 1) := by decide +kernel
theorem dX11_sortsOf_1 : decode cX11_sortsOf 1 = .ok (.iload_n 1, 1) := by decide +kernel
theorem dX11_sortsOf_2 : decode cX11_sortsOf 2 = .ok (.invokevirtual 193, 3) := by decide +kernel
theorem dX11_sortsOf_5 : decode cX11_sortsOf 5 = .ok (.iconst 0, 1) := by decide +kernel
theorem dX11_sortsOf_6 : decode cX11_sortsOf 6 = .ok (.istore_n 2, 1) := by decide +kernel
theorem dX11_sortsOf_7 : decode cX11_sortsOf 7 = .ok (.iconst 0, 1) := by decide +kernel
theorem dX11_sortsOf_8 : decode cX11_sortsOf 8 = .ok (.istore_n 3, 1) := by decide +kernel
theorem dX11_sortsOf_9 : decode cX11_sortsOf 9 = .ok (.iload_n 3, 1) := by decide +kernel
theorem dX11_sortsOf_10 : decode cX11_sortsOf 10 = .ok (.iconst 4, 1) := by decide +kernel
theorem dX11_sortsOf_11 : decode cX11_sortsOf 11 = .ok (.if_icmp .gt 94, 3) := by decide +kernel
theorem dX11_sortsOf_14 : decode cX11_sortsOf 14 = .ok (.iconst 1, 1) := by decide +kernel
theorem dX11_sortsOf_15 : decode cX11_sortsOf 15 = .ok (.istore 4, 2) := by decide +kernel
theorem dX11_sortsOf_17 : decode cX11_sortsOf 17 = .ok (.iconst 0, 1) := by decide +kernel
theorem dX11_sortsOf_18 : decode cX11_sortsOf 18 = .ok (.istore 5, 2) := by decide +kernel
theorem dX11_sortsOf_20 : decode cX11_sortsOf 20 = .ok (.iload 5, 2) := by decide +kernel
theorem dX11_sortsOf_22 : decode cX11_sortsOf 22 = .ok (.aload_n 0, 1) := by decide +kernel
theorem dX11_sortsOf_23 : decode cX11_sortsOf 23 = .ok (.getfield 98, 3) := by decide +kernel
theorem dX11_sortsOf_26 : decode cX11_sortsOf 26 = .ok (.if_icmp .ge 58, 3) := by decide +kernel
theorem dX11_sortsOf_29 : decode cX11_sortsOf 29 = .ok (.iload 4, 2) := by decide +kernel
theorem dX11_sortsOf_31 : decode cX11_sortsOf 31 = .ok (.ifCond .eq 44, 3) := by decide +kernel
theorem dX11_sortsOf_34 : decode cX11_sortsOf 34 = .ok (.aload_n 0, 1) := by decide +kernel
theorem dX11_sortsOf_35 : decode cX11_sortsOf 35 = .ok (.getfield 16, 3) := by decide +kernel
theorem dX11_sortsOf_38 : decode cX11_sortsOf 38 = .ok (.iload 5, 2) := by decide +kernel
theorem dX11_sortsOf_40 : decode cX11_sortsOf 40 = .ok (.iaload, 1) := by decide +kernel
theorem dX11_sortsOf_41 : decode cX11_sortsOf 41 = .ok (.iload_n 1, 1) := by decide +kernel
theorem dX11_sortsOf_42 : decode cX11_sortsOf 42 = .ok (.if_icmp .ne 29, 3) := by decide +kernel
theorem dX11_sortsOf_45 : decode cX11_sortsOf 45 = .ok (.aload_n 0, 1) := by decide +kernel
theorem dX11_sortsOf_46 : decode cX11_sortsOf 46 = .ok (.getfield 42, 3) := by decide +kernel
theorem dX11_sortsOf_49 : decode cX11_sortsOf 49 = .ok (.iconst 2, 1) := by decide +kernel
theorem dX11_sortsOf_50 : decode cX11_sortsOf 50 = .ok (.iload_n 3, 1) := by decide +kernel
theorem dX11_sortsOf_51 : decode cX11_sortsOf 51 = .ok (.imul, 1) := by decide +kernel
theorem dX11_sortsOf_52 : decode cX11_sortsOf 52 = .ok (.aload_n 0, 1) := by decide +kernel
theorem dX11_sortsOf_53 : decode cX11_sortsOf 53 = .ok (.getfield 19, 3) := by decide +kernel
theorem dX11_sortsOf_56 : decode cX11_sortsOf 56 = .ok (.iload 5, 2) := by decide +kernel
theorem dX11_sortsOf_58 : decode cX11_sortsOf 58 = .ok (.iaload, 1) := by decide +kernel
theorem dX11_sortsOf_59 : decode cX11_sortsOf 59 = .ok (.iadd, 1) := by decide +kernel
theorem dX11_sortsOf_60 : decode cX11_sortsOf 60 = .ok (.iaload, 1) := by decide +kernel
theorem dX11_sortsOf_61 : decode cX11_sortsOf 61 = .ok (.aload_n 0, 1) := by decide +kernel
theorem dX11_sortsOf_62 : decode cX11_sortsOf 62 = .ok (.getfield 22, 3) := by decide +kernel
theorem dX11_sortsOf_65 : decode cX11_sortsOf 65 = .ok (.iload 5, 2) := by decide +kernel
theorem dX11_sortsOf_67 : decode cX11_sortsOf 67 = .ok (.iaload, 1) := by decide +kernel
theorem dX11_sortsOf_68 : decode cX11_sortsOf 68 = .ok (.if_icmp .ne 7, 3) := by decide +kernel
theorem dX11_sortsOf_71 : decode cX11_sortsOf 71 = .ok (.iconst 1, 1) := by decide +kernel
theorem dX11_sortsOf_72 : decode cX11_sortsOf 72 = .ok (.goto 4, 3) := by decide +kernel
theorem dX11_sortsOf_75 : decode cX11_sortsOf 75 = .ok (.iconst 0, 1) := by decide +kernel
theorem dX11_sortsOf_76 : decode cX11_sortsOf 76 = .ok (.istore 4, 2) := by decide +kernel
theorem dX11_sortsOf_78 : decode cX11_sortsOf 78 = .ok (.iinc 5 1, 3) := by decide +kernel
theorem dX11_sortsOf_81 : decode cX11_sortsOf 81 = .ok (.goto (-61), 3) := by decide +kernel
theorem dX11_sortsOf_84 : decode cX11_sortsOf 84 = .ok (.iload_n 2, 1) := by decide +kernel
theorem dX11_sortsOf_85 : decode cX11_sortsOf 85 = .ok (.iload 4, 2) := by decide +kernel
theorem dX11_sortsOf_87 : decode cX11_sortsOf 87 = .ok (.ifCond .eq 9, 3) := by decide +kernel
theorem dX11_sortsOf_90 : decode cX11_sortsOf 90 = .ok (.iconst 1, 1) := by decide +kernel
theorem dX11_sortsOf_91 : decode cX11_sortsOf 91 = .ok (.iload_n 3, 1) := by decide +kernel
theorem dX11_sortsOf_92 : decode cX11_sortsOf 92 = .ok (.ishl, 1) := by decide +kernel
theorem dX11_sortsOf_93 : decode cX11_sortsOf 93 = .ok (.goto 4, 3) := by decide +kernel
theorem dX11_sortsOf_96 : decode cX11_sortsOf 96 = .ok (.iconst 0, 1) := by decide +kernel
theorem dX11_sortsOf_97 : decode cX11_sortsOf 97 = .ok (.ior, 1) := by decide +kernel
theorem dX11_sortsOf_98 : decode cX11_sortsOf 98 = .ok (.istore_n 2, 1) := by decide +kernel
theorem dX11_sortsOf_99 : decode cX11_sortsOf 99 = .ok (.iinc 3 1, 3) := by decide +kernel
theorem dX11_sortsOf_102 : decode cX11_sortsOf 102 = .ok (.goto (-93), 3) := by decide +kernel
theorem dX11_sortsOf_105 : decode cX11_sortsOf 105 = .ok (.iload_n 2, 1) := by decide +kernel
theorem dX11_sortsOf_106 : decode cX11_sortsOf 106 = .ok (.ireturn, 1) := by decide +kernel
set_option maxRecDepth 20000 in
theorem ggX11_worstBy_X11_isIn : GoodIn wsX11_worstBy wsX11_isIn := goodIn_r _ [5] (by decide +kernel) (by decide +kernel)
set_option maxRecDepth 20000 in
theorem gX11_worstBy_X11_isIn : GoodIn wsX11_worstBy (va_wsS RX11 101 yX11_isIn wsX11_isIn) := goodIn_app (goodIn_of _ (by decide +kernel)) ggX11_worstBy_X11_isIn
set_option maxRecDepth 20000 in
theorem ggX11_worstBy_X11_size : GoodIn wsX11_worstBy wsX11_size := goodIn_r _ [8] (by decide +kernel) (by decide +kernel)
set_option maxRecDepth 20000 in
theorem gX11_worstBy_X11_size : GoodIn wsX11_worstBy (va_wsS RX11 131 yX11_size wsX11_size) := goodIn_app (goodIn_of _ (by decide +kernel)) ggX11_worstBy_X11_size
theorem dX11_worstBy_0 : decode cX11_worstBy 0 = .ok (.iconst 0, 1) := by decide +kernel
theorem dX11_worstBy_1 : decode cX11_worstBy 1 = .ok (.istore_n 3, 1) := by decide +kernel
theorem dX11_worstBy_2 : decode cX11_worstBy 2 = .ok (.iconst 0, 1) := by decide +kernel
theorem dX11_worstBy_3 : decode cX11_worstBy 3 = .ok (.istore 4, 2) := by decide +kernel
theorem dX11_worstBy_5 : decode cX11_worstBy 5 = .ok (.iload 4, 2) := by decide +kernel
theorem dX11_worstBy_7 : decode cX11_worstBy 7 = .ok (.iconst 4, 1) := by decide +kernel
theorem dX11_worstBy_8 : decode cX11_worstBy 8 = .ok (.if_icmp .gt 36, 3) := by decide +kernel
theorem dX11_worstBy_11 : decode cX11_worstBy 11 = .ok (.iload_n 3, 1) := by decide +kernel
theorem dX11_worstBy_12 : decode cX11_worstBy 12 = .ok (.iload_n 1, 1) := by decide +kernel
theorem dX11_worstBy_13 : decode cX11_worstBy 13 = .ok (.iload 4, 2) := by decide +kernel
theorem dX11_worstBy_15 : decode cX11_worstBy 15 = .ok (.invokestatic 101, 3) := by decide +kernel
theorem dX11_worstBy_18 : decode cX11_worstBy 18 = .ok (.ifCond .eq 17, 3) := by decide +kernel
theorem dX11_worstBy_21 : decode cX11_worstBy 21 = .ok (.aload_n 0, 1) := by decide +kernel
theorem dX11_worstBy_22 : decode cX11_worstBy 22 = .ok (.getfield 42, 3) := by decide +kernel
theorem dX11_worstBy_25 : decode cX11_worstBy 25 = .ok (.iconst 2, 1) := by decide +kernel
theorem dX11_worstBy_26 : decode cX11_worstBy 26 = .ok (.iload 4, 2) := by decide +kernel
theorem dX11_worstBy_28 : decode cX11_worstBy 28 = .ok (.imul, 1) := by decide +kernel
theorem dX11_worstBy_29 : decode cX11_worstBy 29 = .ok (.iload_n 2, 1) := by decide +kernel
theorem dX11_worstBy_30 : decode cX11_worstBy 30 = .ok (.iadd, 1) := by decide +kernel
theorem dX11_worstBy_31 : decode cX11_worstBy 31 = .ok (.iaload, 1) := by decide +kernel
theorem dX11_worstBy_32 : decode cX11_worstBy 32 = .ok (.goto 4, 3) := by decide +kernel
theorem dX11_worstBy_35 : decode cX11_worstBy 35 = .ok (.iconst 0, 1) := by decide +kernel
theorem dX11_worstBy_36 : decode cX11_worstBy 36 = .ok (.iadd, 1) := by decide +kernel
theorem dX11_worstBy_37 : decode cX11_worstBy 37 = .ok (.istore_n 3, 1) := by decide +kernel
theorem dX11_worstBy_38 : decode cX11_worstBy 38 = .ok (.iinc 4 1, 3) := by decide +kernel
theorem dX11_worstBy_41 : decode cX11_worstBy 41 = .ok (.goto (-36), 3) := by decide +kernel
theorem dX11_worstBy_44 : decode cX11_worstBy 44 = .ok (.iload_n 1, 1) := by decide +kernel
theorem dX11_worstBy_45 : decode cX11_worstBy 45 = .ok (.invokestatic 131, 3) := by decide +kernel
theorem dX11_worstBy_48 : decode cX11_worstBy 48 = .ok (.iload_n 3, 1) := by decide +kernel
theorem dX11_worstBy_49 : decode cX11_worstBy 49 = .ok (.isub, 1) := by decide +kernel
theorem dX11_worstBy_50 : decode cX11_worstBy 50 = .ok (.istore 4, 2) := by decide +kernel
theorem dX11_worstBy_52 : decode cX11_worstBy 52 = .ok (.iload_n 3, 1) := by decide +kernel
theorem dX11_worstBy_53 : decode cX11_worstBy 53 = .ok (.iload 4, 2) := by decide +kernel
theorem dX11_worstBy_55 : decode cX11_worstBy 55 = .ok (.if_icmp .le 7, 3) := by decide +kernel
theorem dX11_worstBy_58 : decode cX11_worstBy 58 = .ok (.iload_n 3, 1) := by decide +kernel
theorem dX11_worstBy_59 : decode cX11_worstBy 59 = .ok (.goto 5, 3) := by decide +kernel
theorem dX11_worstBy_62 : decode cX11_worstBy 62 = .ok (.iload 4, 2) := by decide +kernel
theorem dX11_worstBy_64 : decode cX11_worstBy 64 = .ok (.ireturn, 1) := by decide +kernel
set_option maxRecDepth 20000 in
theorem ggX11_letOf_X11_sortsOf : GoodIn wsX11_letOf wsX11_sortsOf := goodIn_r _ [5, 6, 7, 8, 9, 10, 11, 12, 13, 4, 14, 15, 16, 17, 18, 19, 20, 21, 22, 23, 24, 25, 26, 27, 28, 29, 30, 31, 32, 33, 34, 35, 36, 37, 38, 39, 40, 41, 42, 43, 44, 45, 46, 54, 55, 56, 57, 58, 59, 60, 61, 62, 63, 64, 65, 66, 67, 68, 69, 70, 71, 72, 73, 74, 75, 76, 77, 78, 79, 80, 81, 82, 83, 84, 85, 86, 87] (by decide +kernel) (by decide +kernel)
set_option maxRecDepth 20000 in
theorem gX11_letOf_X11_sortsOf : GoodIn wsX11_letOf (wsV RX11 114 RX11 yX11_sortsOf wsX11_sortsOf) := goodIn_app (goodIn_of _ (by decide +kernel)) ggX11_letOf_X11_sortsOf
set_option maxRecDepth 20000 in
theorem ggX11_letOf_X11_worstBy : GoodIn wsX11_letOf wsX11_worstBy := goodIn_r _ [50, 8, 31, 32, 4, 33, 51, 52, 53, 54, 55, 56, 57, 58, 59, 60, 61, 62, 63, 64, 65, 66, 67, 68, 69, 70, 71, 72, 73, 74, 75, 76, 77, 78, 79, 80, 81, 82, 83, 84, 85, 86, 87] (by decide +kernel) (by decide +kernel)
set_option maxRecDepth 20000 in
theorem gX11_letOf_X11_worstBy : GoodIn wsX11_letOf (wsV RX11 197 RX11 yX11_worstBy wsX11_worstBy) := goodIn_app (goodIn_of _ (by decide +kernel)) ggX11_letOf_X11_worstBy
theorem dX11_letOf_0 : decode cX11_letOf 0 = .ok (.aload_n 0, 1) := by decide +kernel
theorem dX11_letOf_1 : decode cX11_letOf 1 = .ok (.iload_n 1, 1) := by decide +kernel
theorem dX11_letOf_2 : decode cX11_letOf 2 = .ok (.invokevirtual 114, 3) := by decide +kernel
theorem dX11_letOf_5 : decode cX11_letOf 5 = .ok (.istore_n 2, 1) := by decide +kernel
theorem dX11_letOf_6 : decode cX11_letOf 6 = .ok (.iload_n 2, 1) := by decide +kernel
theorem dX11_letOf_7 : decode cX11_letOf 7 = .ok (.ifCond .ne 5, 3) := by decide +kernel
theorem dX11_letOf_10 : decode cX11_letOf 10 = .ok (.iconst (-1), 1) := by decide +kernel
theorem dX11_letOf_11 : decode cX11_letOf 11 = .ok (.ireturn, 1) := by decide +kernel
theorem dX11_letOf_12 : decode cX11_letOf 12 = .ok (.aload_n 0, 1) := by decide +kernel
theorem dX11_letOf_13 : decode cX11_letOf 13 = .ok (.iload_n 2, 1) := by decide +kernel
theorem dX11_letOf_14 : decode cX11_letOf 14 = .ok (.iconst 1, 1) := by decide +kernel
theorem dX11_letOf_15 : decode cX11_letOf 15 = .ok (.invokevirtual 197, 3) := by decide +kernel
theorem dX11_letOf_18 : decode cX11_letOf 18 = .ok (.aload_n 0, 1) := by decide +kernel
theorem dX11_letOf_19 : decode cX11_letOf 19 = .ok (.iload_n 2, 1) := by decide +kernel
theorem dX11_letOf_20 : decode cX11_letOf 20 = .ok (.iconst 0, 1) := by decide +kernel
theorem dX11_letOf_21 : decode cX11_letOf 21 = .ok (.invokevirtual 197, 3) := by decide +kernel
theorem dX11_letOf_24 : decode cX11_letOf 24 = .ok (.if_icmp .ge 7, 3) := by decide +kernel
theorem dX11_letOf_27 : decode cX11_letOf 27 = .ok (.iconst 1, 1) := by decide +kernel
theorem dX11_letOf_28 : decode cX11_letOf 28 = .ok (.goto 4, 3) := by decide +kernel
theorem dX11_letOf_31 : decode cX11_letOf 31 = .ok (.iconst 0, 1) := by decide +kernel
theorem dX11_letOf_32 : decode cX11_letOf 32 = .ok (.ireturn, 1) := by decide +kernel
theorem dX11_draw_0 : decode cX11_draw 0 = .ok (.aload_n 0, 1) := by decide +kernel
theorem dX11_draw_1 : decode cX11_draw 1 = .ok (.ldc2_w 200, 3) := by decide +kernel
theorem dX11_draw_4 : decode cX11_draw 4 = .ok (.aload_n 0, 1) := by decide +kernel
theorem dX11_draw_5 : decode cX11_draw 5 = .ok (.getfield 202, 3) := by decide +kernel
theorem dX11_draw_8 : decode cX11_draw 8 = .ok (.lmul, 1) := by decide +kernel
theorem dX11_draw_9 : decode cX11_draw 9 = .ok (.ldc2_w 206, 3) := by decide +kernel
theorem dX11_draw_12 : decode cX11_draw 12 = .ok (.ladd, 1) := by decide +kernel
theorem dX11_draw_13 : decode cX11_draw 13 = .ok (.ldc2_w 208, 3) := by decide +kernel
theorem dX11_draw_16 : decode cX11_draw 16 = .ok (.land, 1) := by decide +kernel
theorem dX11_draw_17 : decode cX11_draw 17 = .ok (.putfield 202, 3) := by decide +kernel
theorem dX11_draw_20 : decode cX11_draw 20 = .ok (.aload_n 0, 1) := by decide +kernel
theorem dX11_draw_21 : decode cX11_draw 21 = .ok (.getfield 202, 3) := by decide +kernel
theorem dX11_draw_24 : decode cX11_draw 24 = .ok (.ldc2_w 210, 3) := by decide +kernel
theorem dX11_draw_27 : decode cX11_draw 27 = .ok (.ldiv, 1) := by decide +kernel
theorem dX11_draw_28 : decode cX11_draw 28 = .ok (.iload_n 1, 1) := by decide +kernel
theorem dX11_draw_29 : decode cX11_draw 29 = .ok (.i2l, 1) := by decide +kernel
theorem dX11_draw_30 : decode cX11_draw 30 = .ok (.lrem, 1) := by decide +kernel
theorem dX11_draw_31 : decode cX11_draw 31 = .ok (.l2i, 1) := by decide +kernel
theorem dX11_draw_32 : decode cX11_draw 32 = .ok (.ireturn, 1) := by decide +kernel
set_option maxRecDepth 20000 in
theorem ggX11_ofSet_X11_isIn : GoodIn wsX11_ofSet wsX11_isIn := goodIn_r _ [4] (by decide +kernel) (by decide +kernel)
set_option maxRecDepth 20000 in
theorem gX11_ofSet_X11_isIn : GoodIn wsX11_ofSet (va_wsS RX11 101 yX11_isIn wsX11_isIn) := goodIn_app (goodIn_of _ (by decide +kernel)) ggX11_ofSet_X11_isIn
theorem dX11_ofSet_0 : decode cX11_ofSet 0 = .ok (.iconst 0, 1) := by decide +kernel
theorem dX11_ofSet_1 : decode cX11_ofSet 1 = .ok (.istore_n 2, 1) := by decide +kernel
theorem dX11_ofSet_2 : decode cX11_ofSet 2 = .ok (.iload_n 1, 1) := by decide +kernel
theorem dX11_ofSet_3 : decode cX11_ofSet 3 = .ok (.istore_n 3, 1) := by decide +kernel
theorem dX11_ofSet_4 : decode cX11_ofSet 4 = .ok (.iload_n 0, 1) := by decide +kernel
theorem dX11_ofSet_5 : decode cX11_ofSet 5 = .ok (.iload_n 2, 1) := by decide +kernel
theorem dX11_ofSet_6 : decode cX11_ofSet 6 = .ok (.invokestatic 101, 3) := by decide +kernel
theorem dX11_ofSet_9 : decode cX11_ofSet 9 = .ok (.ifCond .eq 7, 3) := by decide +kernel
theorem dX11_ofSet_12 : decode cX11_ofSet 12 = .ok (.iload_n 3, 1) := by decide +kernel
theorem dX11_ofSet_13 : decode cX11_ofSet 13 = .ok (.ifCond .le 25, 3) := by decide +kernel
theorem dX11_ofSet_16 : decode cX11_ofSet 16 = .ok (.iload_n 3, 1) := by decide +kernel
theorem dX11_ofSet_17 : decode cX11_ofSet 17 = .ok (.iload_n 0, 1) := by decide +kernel
theorem dX11_ofSet_18 : decode cX11_ofSet 18 = .ok (.iload_n 2, 1) := by decide +kernel
theorem dX11_ofSet_19 : decode cX11_ofSet 19 = .ok (.invokestatic 101, 3) := by decide +kernel
theorem dX11_ofSet_22 : decode cX11_ofSet 22 = .ok (.ifCond .eq 7, 3) := by decide +kernel
theorem dX11_ofSet_25 : decode cX11_ofSet 25 = .ok (.iconst 1, 1) := by decide +kernel
theorem dX11_ofSet_26 : decode cX11_ofSet 26 = .ok (.goto 4, 3) := by decide +kernel
theorem dX11_ofSet_29 : decode cX11_ofSet 29 = .ok (.iconst 0, 1) := by decide +kernel
theorem dX11_ofSet_30 : decode cX11_ofSet 30 = .ok (.isub, 1) := by decide +kernel
theorem dX11_ofSet_31 : decode cX11_ofSet 31 = .ok (.istore_n 3, 1) := by decide +kernel
theorem dX11_ofSet_32 : decode cX11_ofSet 32 = .ok (.iinc 2 1, 3) := by decide +kernel
theorem dX11_ofSet_35 : decode cX11_ofSet 35 = .ok (.goto (-31), 3) := by decide +kernel
theorem dX11_ofSet_38 : decode cX11_ofSet 38 = .ok (.iload_n 2, 1) := by decide +kernel
theorem dX11_ofSet_39 : decode cX11_ofSet 39 = .ok (.ireturn, 1) := by decide +kernel
set_option maxRecDepth 20000 in
theorem ggX11_play_X11_mayCuts : GoodIn wsX11_play wsX11_mayCuts := goodIn_r _ [7, 8, 9, 10, 11, 6, 12, 13, 14, 15, 16, 17, 18, 19, 20, 21, 45, 46, 47, 48, 49, 50, 51, 52, 53, 54, 55, 56, 57, 58, 59, 60, 61, 62, 63, 64, 65, 66, 67, 68, 69, 70, 71, 72, 73, 74, 75, 76, 77, 78] (by decide +kernel) (by decide +kernel)
set_option maxRecDepth 20000 in
theorem gX11_play_X11_mayCuts : GoodIn wsX11_play (wsV RX11 212 RX11 yX11_mayCuts wsX11_mayCuts) := goodIn_app (goodIn_of _ (by decide +kernel)) ggX11_play_X11_mayCuts
set_option maxRecDepth 20000 in
theorem ggX11_play_X11_size : GoodIn wsX11_play wsX11_size := goodIn_r _ [24] (by decide +kernel) (by decide +kernel)
set_option maxRecDepth 20000 in
theorem gX11_play_X11_size : GoodIn wsX11_play (va_wsS RX11 131 yX11_size wsX11_size) := goodIn_app (goodIn_of _ (by decide +kernel)) ggX11_play_X11_size
set_option maxRecDepth 20000 in
theorem ggX11_play_X11_draw : GoodIn wsX11_play wsX11_draw := goodIn_r _ [28, 29, 30, 31, 32, 33, 45, 46, 47, 48, 49, 50, 51, 52, 53, 54, 55, 56, 57, 58, 59, 60, 61, 62, 63, 64, 65, 66, 67, 68, 69, 70, 71, 72, 73, 74, 75, 76, 77, 78] (by decide +kernel) (by decide +kernel)
set_option maxRecDepth 20000 in
theorem gX11_play_X11_draw : GoodIn wsX11_play (wsV RX11 215 RX11 yX11_draw wsX11_draw) := goodIn_app (goodIn_of _ (by decide +kernel)) ggX11_play_X11_draw
set_option maxRecDepth 20000 in
theorem ggX11_play_X11_ofSet : GoodIn wsX11_play wsX11_ofSet := goodIn_r _ [36, 14, 15, 6, 16] (by decide +kernel) (by decide +kernel)
set_option maxRecDepth 20000 in
theorem gX11_play_X11_ofSet : GoodIn wsX11_play (va_wsS RX11 218 yX11_ofSet wsX11_ofSet) := goodIn_app (goodIn_of _ (by decide +kernel)) ggX11_play_X11_ofSet
set_option maxRecDepth 20000 in
theorem ggX11_play_X11_leaves : GoodIn wsX11_play wsX11_leaves := goodIn_r _ [40, 41, 42, 43, 6, 44, 8, 21, 14, 15, 16, 45, 46, 47, 48, 49, 50, 51, 52, 53, 54, 55, 56, 57, 58, 59, 60, 61, 62, 63, 64, 65, 66, 67, 68, 69, 70, 71, 72, 73, 74, 75, 76, 77, 78] (by decide +kernel) (by decide +kernel)
set_option maxRecDepth 20000 in
theorem gX11_play_X11_leaves : GoodIn wsX11_play (wsV RX11 128 RX11 yX11_leaves wsX11_leaves) := goodIn_app (goodIn_of _ (by decide +kernel)) ggX11_play_X11_leaves
theorem dX11_play_0 : decode cX11_play 0 = .ok (.aload_n 0, 1) := by decide +kernel
theorem dX11_play_1 : decode cX11_play 1 = .ok (.getfield 86, 3) := by decide +kernel
theorem dX11_play_4 : decode cX11_play 4 = .ok (.istore_n 2, 1) := by decide +kernel
theorem dX11_play_5 : decode cX11_play 5 = .ok (.iload_n 1, 1) := by decide +kernel
theorem dX11_play_6 : decode cX11_play 6 = .ok (.istore_n 3, 1) := by decide +kernel
theorem dX11_play_7 : decode cX11_play 7 = .ok (.aload_n 0, 1) := by decide +kernel
theorem dX11_play_8 : decode cX11_play 8 = .ok (.iload_n 3, 1) := by decide +kernel
theorem dX11_play_9 : decode cX11_play 9 = .ok (.iload_n 2, 1) := by decide +kernel
theorem dX11_play_10 : decode cX11_play 10 = .ok (.invokevirtual 212, 3) := by decide +kernel
theorem dX11_play_13 : decode cX11_play 13 = .ok (.istore 4, 2) := by decide +kernel
theorem dX11_play_15 : decode cX11_play 15 = .ok (.iload 4, 2) := by decide +kernel
theorem dX11_play_17 : decode cX11_play 17 = .ok (.ifCond .eq 48, 3) := by decide +kernel
theorem dX11_play_20 : decode cX11_play 20 = .ok (.aload_n 0, 1) := by decide +kernel
theorem dX11_play_21 : decode cX11_play 21 = .ok (.iload 4, 2) := by decide +kernel
theorem dX11_play_23 : decode cX11_play 23 = .ok (.aload_n 0, 1) := by decide +kernel
theorem dX11_play_24 : decode cX11_play 24 = .ok (.iload 4, 2) := by decide +kernel
theorem dX11_play_26 : decode cX11_play 26 = .ok (.invokestatic 131, 3) := by decide +kernel
theorem dX11_play_29 : decode cX11_play 29 = .ok (.invokevirtual 215, 3) := by decide +kernel
theorem dX11_play_32 : decode cX11_play 32 = .ok (.invokestatic 218, 3) := by decide +kernel
theorem dX11_play_35 : decode cX11_play 35 = .ok (.iload_n 2, 1) := by decide +kernel
theorem dX11_play_36 : decode cX11_play 36 = .ok (.invokevirtual 128, 3) := by decide +kernel
theorem dX11_play_39 : decode cX11_play 39 = .ok (.istore_n 2, 1) := by decide +kernel
theorem dX11_play_40 : decode cX11_play 40 = .ok (.aload_n 0, 1) := by decide +kernel
theorem dX11_play_41 : decode cX11_play 41 = .ok (.dup, 1) := by decide +kernel
theorem dX11_play_42 : decode cX11_play 42 = .ok (.getfield 221, 3) := by decide +kernel
theorem dX11_play_45 : decode cX11_play 45 = .ok (.iconst 1, 1) := by decide +kernel
theorem dX11_play_46 : decode cX11_play 46 = .ok (.iadd, 1) := by decide +kernel
theorem dX11_play_47 : decode cX11_play 47 = .ok (.putfield 221, 3) := by decide +kernel
theorem dX11_play_50 : decode cX11_play 50 = .ok (.iconst 1, 1) := by decide +kernel
theorem dX11_play_51 : decode cX11_play 51 = .ok (.iload_n 3, 1) := by decide +kernel
theorem dX11_play_52 : decode cX11_play 52 = .ok (.isub, 1) := by decide +kernel
theorem dX11_play_53 : decode cX11_play 53 = .ok (.istore_n 3, 1) := by decide +kernel
theorem dX11_play_54 : decode cX11_play 54 = .ok (.aload_n 0, 1) := by decide +kernel
theorem dX11_play_55 : decode cX11_play 55 = .ok (.iload_n 3, 1) := by decide +kernel
theorem dX11_play_56 : decode cX11_play 56 = .ok (.iload_n 2, 1) := by decide +kernel
theorem dX11_play_57 : decode cX11_play 57 = .ok (.invokevirtual 212, 3) := by decide +kernel
theorem dX11_play_60 : decode cX11_play 60 = .ok (.istore 4, 2) := by decide +kernel
theorem dX11_play_62 : decode cX11_play 62 = .ok (.goto (-47), 3) := by decide +kernel
theorem dX11_play_65 : decode cX11_play 65 = .ok (.iconst 1, 1) := by decide +kernel
theorem dX11_play_66 : decode cX11_play 66 = .ok (.iload_n 3, 1) := by decide +kernel
theorem dX11_play_67 : decode cX11_play 67 = .ok (.isub, 1) := by decide +kernel
theorem dX11_play_68 : decode cX11_play 68 = .ok (.ireturn, 1) := by decide +kernel
set_option maxRecDepth 20000 in
theorem ggX11_gamesNow_X11_play : GoodIn wsX11_gamesNow wsX11_play := goodIn_r _ [7, 8, 2, 9, 10, 11, 6, 12, 13, 14, 15, 16, 17, 18, 19, 20, 21, 22, 23, 24, 25, 26, 27, 28, 29, 30, 31, 32, 33, 34, 1, 35, 36, 37, 38, 39, 40, 41, 42, 43, 44, 45, 46, 47, 48, 49, 50, 51, 52, 53, 54, 55, 56, 57, 58, 59, 60, 61, 62, 63, 64, 65, 66, 67, 68, 69, 70, 71, 72, 73, 74, 75, 76, 77, 78, 79, 80, 81, 82] (by decide +kernel) (by decide +kernel)
set_option maxRecDepth 20000 in
theorem gX11_gamesNow_X11_play : GoodIn wsX11_gamesNow (wsV RX11 224 RX11 yX11_play wsX11_play) := goodIn_app (goodIn_of _ (by decide +kernel)) ggX11_gamesNow_X11_play
theorem dX11_gamesNow_0 : decode cX11_gamesNow 0 = .ok (.aload_n 0, 1) := by decide +kernel
theorem dX11_gamesNow_1 : decode cX11_gamesNow 1 = .ok (.iload_n 2, 1) := by decide +kernel
theorem dX11_gamesNow_2 : decode cX11_gamesNow 2 = .ok (.i2l, 1) := by decide +kernel
theorem dX11_gamesNow_3 : decode cX11_gamesNow 3 = .ok (.putfield 202, 3) := by decide +kernel
theorem dX11_gamesNow_6 : decode cX11_gamesNow 6 = .ok (.aload_n 0, 1) := by decide +kernel
theorem dX11_gamesNow_7 : decode cX11_gamesNow 7 = .ok (.iconst 0, 1) := by decide +kernel
theorem dX11_gamesNow_8 : decode cX11_gamesNow 8 = .ok (.putfield 221, 3) := by decide +kernel
theorem dX11_gamesNow_11 : decode cX11_gamesNow 11 = .ok (.iconst 0, 1) := by decide +kernel
theorem dX11_gamesNow_12 : decode cX11_gamesNow 12 = .ok (.istore 4, 2) := by decide +kernel
theorem dX11_gamesNow_14 : decode cX11_gamesNow 14 = .ok (.iconst 0, 1) := by decide +kernel
theorem dX11_gamesNow_15 : decode cX11_gamesNow 15 = .ok (.istore 5, 2) := by decide +kernel
theorem dX11_gamesNow_17 : decode cX11_gamesNow 17 = .ok (.iload 5, 2) := by decide +kernel
theorem dX11_gamesNow_19 : decode cX11_gamesNow 19 = .ok (.iload_n 1, 1) := by decide +kernel
theorem dX11_gamesNow_20 : decode cX11_gamesNow 20 = .ok (.if_icmp .ge 30, 3) := by decide +kernel
theorem dX11_gamesNow_23 : decode cX11_gamesNow 23 = .ok (.iload 4, 2) := by decide +kernel
theorem dX11_gamesNow_25 : decode cX11_gamesNow 25 = .ok (.aload_n 0, 1) := by decide +kernel
theorem dX11_gamesNow_26 : decode cX11_gamesNow 26 = .ok (.iload 5, 2) := by decide +kernel
theorem dX11_gamesNow_28 : decode cX11_gamesNow 28 = .ok (.iconst 2, 1) := by decide +kernel
theorem dX11_gamesNow_29 : decode cX11_gamesNow 29 = .ok (.irem, 1) := by decide +kernel
theorem dX11_gamesNow_30 : decode cX11_gamesNow 30 = .ok (.invokevirtual 224, 3) := by decide +kernel
theorem dX11_gamesNow_33 : decode cX11_gamesNow 33 = .ok (.ifCond .ne 7, 3) := by decide +kernel
theorem dX11_gamesNow_36 : decode cX11_gamesNow 36 = .ok (.iconst 1, 1) := by decide +kernel
theorem dX11_gamesNow_37 : decode cX11_gamesNow 37 = .ok (.goto 4, 3) := by decide +kernel
theorem dX11_gamesNow_40 : decode cX11_gamesNow 40 = .ok (.iconst 0, 1) := by decide +kernel
theorem dX11_gamesNow_41 : decode cX11_gamesNow 41 = .ok (.iadd, 1) := by decide +kernel
theorem dX11_gamesNow_42 : decode cX11_gamesNow 42 = .ok (.istore 4, 2) := by decide +kernel
theorem dX11_gamesNow_44 : decode cX11_gamesNow 44 = .ok (.iinc 5 1, 3) := by decide +kernel
theorem dX11_gamesNow_47 : decode cX11_gamesNow 47 = .ok (.goto (-30), 3) := by decide +kernel
theorem dX11_gamesNow_50 : decode cX11_gamesNow 50 = .ok (.iload_n 3, 1) := by decide +kernel
theorem dX11_gamesNow_51 : decode cX11_gamesNow 51 = .ok (.ifCond .ne 8, 3) := by decide +kernel
theorem dX11_gamesNow_54 : decode cX11_gamesNow 54 = .ok (.iload 4, 2) := by decide +kernel
theorem dX11_gamesNow_56 : decode cX11_gamesNow 56 = .ok (.goto 20, 3) := by decide +kernel
theorem dX11_gamesNow_59 : decode cX11_gamesNow 59 = .ok (.iload_n 3, 1) := by decide +kernel
theorem dX11_gamesNow_60 : decode cX11_gamesNow 60 = .ok (.iconst 1, 1) := by decide +kernel
theorem dX11_gamesNow_61 : decode cX11_gamesNow 61 = .ok (.if_icmp .ne 10, 3) := by decide +kernel
theorem dX11_gamesNow_64 : decode cX11_gamesNow 64 = .ok (.aload_n 0, 1) := by decide +kernel
theorem dX11_gamesNow_65 : decode cX11_gamesNow 65 = .ok (.getfield 221, 3) := by decide +kernel
theorem dX11_gamesNow_68 : decode cX11_gamesNow 68 = .ok (.goto 8, 3) := by decide +kernel
theorem dX11_gamesNow_71 : decode cX11_gamesNow 71 = .ok (.aload_n 0, 1) := by decide +kernel
theorem dX11_gamesNow_72 : decode cX11_gamesNow 72 = .ok (.getfield 202, 3) := by decide +kernel
theorem dX11_gamesNow_75 : decode cX11_gamesNow 75 = .ok (.l2i, 1) := by decide +kernel
theorem dX11_gamesNow_76 : decode cX11_gamesNow 76 = .ok (.ireturn, 1) := by decide +kernel
set_option maxRecDepth 20000 in
theorem ggX11_games_X11_within : GoodIn wsX11_games wsX11_within := goodIn_r _ [5] (by decide +kernel) (by decide +kernel)
set_option maxRecDepth 20000 in
theorem gX11_games_X11_within : GoodIn wsX11_games (va_wsS RX11 57 yX11_within wsX11_within) := goodIn_app (goodIn_of _ (by decide +kernel)) ggX11_games_X11_within
set_option maxRecDepth 20000 in
theorem ggX11_games_X11_gamesNow : GoodIn wsX11_games wsX11_gamesNow := goodIn_r _ [9, 10, 11, 12, 13, 14, 4, 15, 16, 17, 18, 19, 20, 1, 21, 22, 23, 24, 25, 26, 27, 28, 29, 30, 31, 32, 33, 34, 35, 36, 37, 38, 39, 40, 41, 42, 43, 44, 45, 46, 47, 48, 49, 50, 51, 52, 53, 54, 55, 56, 57, 58, 59, 60, 61, 62, 63, 64, 65, 66, 67, 68, 69, 70, 71, 72, 73, 74, 75, 76, 77, 78, 79, 80, 81, 82, 83, 84, 85, 86, 87, 88, 89] (by decide +kernel) (by decide +kernel)
set_option maxRecDepth 20000 in
theorem gX11_games_X11_gamesNow : GoodIn wsX11_games (wsV RX11 227 RX11 yX11_gamesNow wsX11_gamesNow) := goodIn_app (goodIn_of _ (by decide +kernel)) ggX11_games_X11_gamesNow
theorem dX11_games_0 : decode cX11_games 0 = .ok (.iload_n 1, 1) := by decide +kernel
theorem dX11_games_1 : decode cX11_games 1 = .ok (.iconst 1, 1) := by decide +kernel
theorem dX11_games_2 : decode cX11_games 2 = .ok (.bipush 40, 2) := by decide +kernel
theorem dX11_games_4 : decode cX11_games 4 = .ok (.invokestatic 57, 3) := by decide +kernel
theorem dX11_games_7 : decode cX11_games 7 = .ok (.ifCond .eq 16, 3) := by decide +kernel
theorem dX11_games_10 : decode cX11_games 10 = .ok (.iload_n 2, 1) := by decide +kernel
theorem dX11_games_11 : decode cX11_games 11 = .ok (.ifCond .lt 12, 3) := by decide +kernel
theorem dX11_games_14 : decode cX11_games 14 = .ok (.iload_n 3, 1) := by decide +kernel
theorem dX11_games_15 : decode cX11_games 15 = .ok (.iconst 0, 1) := by decide +kernel
theorem dX11_games_16 : decode cX11_games 16 = .ok (.iconst 2, 1) := by decide +kernel
theorem dX11_games_17 : decode cX11_games 17 = .ok (.invokestatic 57, 3) := by decide +kernel
theorem dX11_games_20 : decode cX11_games 20 = .ok (.ifCond .ne 6, 3) := by decide +kernel
theorem dX11_games_23 : decode cX11_games 23 = .ok (.bipush (-102), 2) := by decide +kernel
theorem dX11_games_25 : decode cX11_games 25 = .ok (.ireturn, 1) := by decide +kernel
theorem dX11_games_26 : decode cX11_games 26 = .ok (.aload_n 0, 1) := by decide +kernel
theorem dX11_games_27 : decode cX11_games 27 = .ok (.getfield 83, 3) := by decide +kernel
theorem dX11_games_30 : decode cX11_games 30 = .ok (.ifCond .ne 8, 3) := by decide +kernel
theorem dX11_games_33 : decode cX11_games 33 = .ok (.bipush (-103), 2) := by decide +kernel
theorem dX11_games_35 : decode cX11_games 35 = .ok (.goto 10, 3) := by decide +kernel
theorem dX11_games_38 : decode cX11_games 38 = .ok (.aload_n 0, 1) := by decide +kernel
theorem dX11_games_39 : decode cX11_games 39 = .ok (.iload_n 1, 1) := by decide +kernel
theorem dX11_games_40 : decode cX11_games 40 = .ok (.iload_n 2, 1) := by decide +kernel
theorem dX11_games_41 : decode cX11_games 41 = .ok (.iload_n 3, 1) := by decide +kernel
theorem dX11_games_42 : decode cX11_games 42 = .ok (.invokevirtual 227, 3) := by decide +kernel
theorem dX11_games_45 : decode cX11_games 45 = .ok (.ireturn, 1) := by decide +kernel
theorem dX11_image_0 : decode cX11_image 0 = .ok (.aload_n 0, 1) := by decide +kernel
theorem dX11_image_1 : decode cX11_image 1 = .ok (.getfield 83, 3) := by decide +kernel
theorem dX11_image_4 : decode cX11_image 4 = .ok (.ifCond .ne 6, 3) := by decide +kernel
theorem dX11_image_7 : decode cX11_image 7 = .ok (.bipush (-103), 2) := by decide +kernel
theorem dX11_image_9 : decode cX11_image 9 = .ok (.ireturn, 1) := by decide +kernel
theorem dX11_image_10 : decode cX11_image 10 = .ok (.aload_n 0, 1) := by decide +kernel
theorem dX11_image_11 : decode cX11_image 11 = .ok (.iconst 1, 1) := by decide +kernel
theorem dX11_image_12 : decode cX11_image 12 = .ok (.putfield 231, 3) := by decide +kernel
theorem dX11_image_15 : decode cX11_image 15 = .ok (.aload_n 0, 1) := by decide +kernel
theorem dX11_image_16 : decode cX11_image 16 = .ok (.aload_n 0, 1) := by decide +kernel
theorem dX11_image_17 : decode cX11_image 17 = .ok (.getfield 95, 3) := by decide +kernel
theorem dX11_image_20 : decode cX11_image 20 = .ok (.putfield 234, 3) := by decide +kernel
theorem dX11_image_23 : decode cX11_image 23 = .ok (.aload_n 0, 1) := by decide +kernel
theorem dX11_image_24 : decode cX11_image 24 = .ok (.aload_n 0, 1) := by decide +kernel
theorem dX11_image_25 : decode cX11_image 25 = .ok (.getfield 86, 3) := by decide +kernel
theorem dX11_image_28 : decode cX11_image 28 = .ok (.putfield 237, 3) := by decide +kernel
theorem dX11_image_31 : decode cX11_image 31 = .ok (.aload_n 0, 1) := by decide +kernel
theorem dX11_image_32 : decode cX11_image 32 = .ok (.aload_n 0, 1) := by decide +kernel
theorem dX11_image_33 : decode cX11_image 33 = .ok (.getfield 89, 3) := by decide +kernel
theorem dX11_image_36 : decode cX11_image 36 = .ok (.putfield 240, 3) := by decide +kernel
theorem dX11_image_39 : decode cX11_image 39 = .ok (.aload_n 0, 1) := by decide +kernel
theorem dX11_image_40 : decode cX11_image 40 = .ok (.aload_n 0, 1) := by decide +kernel
theorem dX11_image_41 : decode cX11_image 41 = .ok (.getfield 92, 3) := by decide +kernel
theorem dX11_image_44 : decode cX11_image 44 = .ok (.putfield 243, 3) := by decide +kernel
theorem dX11_image_47 : decode cX11_image 47 = .ok (.aload_n 0, 1) := by decide +kernel
theorem dX11_image_48 : decode cX11_image 48 = .ok (.aload_n 0, 1) := by decide +kernel
theorem dX11_image_49 : decode cX11_image 49 = .ok (.getfield 98, 3) := by decide +kernel
theorem dX11_image_52 : decode cX11_image 52 = .ok (.putfield 246, 3) := by decide +kernel
theorem dX11_image_55 : decode cX11_image 55 = .ok (.iconst 0, 1) := by decide +kernel
theorem dX11_image_56 : decode cX11_image 56 = .ok (.istore_n 1, 1) := by decide +kernel
theorem dX11_image_57 : decode cX11_image 57 = .ok (.iload_n 1, 1) := by decide +kernel
theorem dX11_image_58 : decode cX11_image 58 = .ok (.bipush 8, 2) := by decide +kernel
theorem dX11_image_60 : decode cX11_image 60 = .ok (.if_icmp .ge 21, 3) := by decide +kernel
theorem dX11_image_63 : decode cX11_image 63 = .ok (.aload_n 0, 1) := by decide +kernel
theorem dX11_image_64 : decode cX11_image 64 = .ok (.getfield 45, 3) := by decide +kernel
theorem dX11_image_67 : decode cX11_image 67 = .ok (.iload_n 1, 1) := by decide +kernel
theorem dX11_image_68 : decode cX11_image 68 = .ok (.aload_n 0, 1) := by decide +kernel
theorem dX11_image_69 : decode cX11_image 69 = .ok (.getfield 7, 3) := by decide +kernel
theorem dX11_image_72 : decode cX11_image 72 = .ok (.iload_n 1, 1) := by decide +kernel
theorem dX11_image_73 : decode cX11_image 73 = .ok (.iaload, 1) := by decide +kernel
theorem dX11_image_74 : decode cX11_image 74 = .ok (.iastore, 1) := by decide +kernel
theorem dX11_image_75 : decode cX11_image 75 = .ok (.iinc 1 1, 3) := by decide +kernel
theorem dX11_image_78 : decode cX11_image 78 = .ok (.goto (-21), 3) := by decide +kernel
theorem dX11_image_81 : decode cX11_image 81 = .ok (.iconst 0, 1) := by decide +kernel
theorem dX11_image_82 : decode cX11_image 82 = .ok (.istore_n 1, 1) := by decide +kernel
theorem dX11_image_83 : decode cX11_image 83 = .ok (.iload_n 1, 1) := by decide +kernel
theorem dX11_image_84 : decode cX11_image 84 = .ok (.bipush 6, 2) := by decide +kernel
theorem dX11_image_86 : decode cX11_image 86 = .ok (.if_icmp .ge 45, 3) := by decide +kernel
theorem dX11_image_89 : decode cX11_image 89 = .ok (.aload_n 0, 1) := by decide +kernel
theorem dX11_image_90 : decode cX11_image 90 = .ok (.getfield 48, 3) := by decide +kernel
theorem dX11_image_93 : decode cX11_image 93 = .ok (.iload_n 1, 1) := by decide +kernel
theorem dX11_image_94 : decode cX11_image 94 = .ok (.aload_n 0, 1) := by decide +kernel
theorem dX11_image_95 : decode cX11_image 95 = .ok (.getfield 16, 3) := by decide +kernel
theorem dX11_image_98 : decode cX11_image 98 = .ok (.iload_n 1, 1) := by decide +kernel
theorem dX11_image_99 : decode cX11_image 99 = .ok (.iaload, 1) := by decide +kernel
theorem dX11_image_100 : decode cX11_image 100 = .ok (.iastore, 1) := by decide +kernel
theorem dX11_image_101 : decode cX11_image 101 = .ok (.aload_n 0, 1) := by decide +kernel
theorem dX11_image_102 : decode cX11_image 102 = .ok (.getfield 51, 3) := by decide +kernel
theorem dX11_image_105 : decode cX11_image 105 = .ok (.iload_n 1, 1) := by decide +kernel
theorem dX11_image_106 : decode cX11_image 106 = .ok (.aload_n 0, 1) := by decide +kernel
theorem dX11_image_107 : decode cX11_image 107 = .ok (.getfield 19, 3) := by decide +kernel
theorem dX11_image_110 : decode cX11_image 110 = .ok (.iload_n 1, 1) := by decide +kernel
theorem dX11_image_111 : decode cX11_image 111 = .ok (.iaload, 1) := by decide +kernel
theorem dX11_image_112 : decode cX11_image 112 = .ok (.iastore, 1) := by decide +kernel
theorem dX11_image_113 : decode cX11_image 113 = .ok (.aload_n 0, 1) := by decide +kernel
theorem dX11_image_114 : decode cX11_image 114 = .ok (.getfield 54, 3) := by decide +kernel
theorem dX11_image_117 : decode cX11_image 117 = .ok (.iload_n 1, 1) := by decide +kernel
theorem dX11_image_118 : decode cX11_image 118 = .ok (.aload_n 0, 1) := by decide +kernel
theorem dX11_image_119 : decode cX11_image 119 = .ok (.getfield 22, 3) := by decide +kernel
theorem dX11_image_122 : decode cX11_image 122 = .ok (.iload_n 1, 1) := by decide +kernel
theorem dX11_image_123 : decode cX11_image 123 = .ok (.iaload, 1) := by decide +kernel
theorem dX11_image_124 : decode cX11_image 124 = .ok (.iastore, 1) := by decide +kernel
theorem dX11_image_125 : decode cX11_image 125 = .ok (.iinc 1 1, 3) := by decide +kernel
theorem dX11_image_128 : decode cX11_image 128 = .ok (.goto (-45), 3) := by decide +kernel
theorem dX11_image_131 : decode cX11_image 131 = .ok (.aload_n 0, 1) := by decide +kernel
theorem dX11_image_132 : decode cX11_image 132 = .ok (.getfield 92, 3) := by decide +kernel
theorem dX11_image_135 : decode cX11_image 135 = .ok (.ireturn, 1) := by decide +kernel
theorem dX11_restore_0 : decode cX11_restore 0 = .ok (.aload_n 0, 1) := by decide +kernel
theorem dX11_restore_1 : decode cX11_restore 1 = .ok (.getfield 231, 3) := by decide +kernel
theorem dX11_restore_4 : decode cX11_restore 4 = .ok (.ifCond .eq 14, 3) := by decide +kernel
theorem dX11_restore_7 : decode cX11_restore 7 = .ok (.aload_n 0, 1) := by decide +kernel
theorem dX11_restore_8 : decode cX11_restore 8 = .ok (.getfield 234, 3) := by decide +kernel
theorem dX11_restore_11 : decode cX11_restore 11 = .ok (.aload_n 0, 1) := by decide +kernel
theorem dX11_restore_12 : decode cX11_restore 12 = .ok (.getfield 95, 3) := by decide +kernel
theorem dX11_restore_15 : decode cX11_restore 15 = .ok (.if_icmp .eq 6, 3) := by decide +kernel
theorem dX11_restore_18 : decode cX11_restore 18 = .ok (.bipush (-103), 2) := by decide +kernel
theorem dX11_restore_20 : decode cX11_restore 20 = .ok (.ireturn, 1) := by decide +kernel
theorem dX11_restore_21 : decode cX11_restore 21 = .ok (.aload_n 0, 1) := by decide +kernel
theorem dX11_restore_22 : decode cX11_restore 22 = .ok (.aload_n 0, 1) := by decide +kernel
theorem dX11_restore_23 : decode cX11_restore 23 = .ok (.getfield 237, 3) := by decide +kernel
theorem dX11_restore_26 : decode cX11_restore 26 = .ok (.putfield 86, 3) := by decide +kernel
theorem dX11_restore_29 : decode cX11_restore 29 = .ok (.aload_n 0, 1) := by decide +kernel
theorem dX11_restore_30 : decode cX11_restore 30 = .ok (.aload_n 0, 1) := by decide +kernel
theorem dX11_restore_31 : decode cX11_restore 31 = .ok (.getfield 240, 3) := by decide +kernel
theorem dX11_restore_34 : decode cX11_restore 34 = .ok (.putfield 89, 3) := by decide +kernel
theorem dX11_restore_37 : decode cX11_restore 37 = .ok (.aload_n 0, 1) := by decide +kernel
theorem dX11_restore_38 : decode cX11_restore 38 = .ok (.aload_n 0, 1) := by decide +kernel
theorem dX11_restore_39 : decode cX11_restore 39 = .ok (.getfield 243, 3) := by decide +kernel
theorem dX11_restore_42 : decode cX11_restore 42 = .ok (.putfield 92, 3) := by decide +kernel
theorem dX11_restore_45 : decode cX11_restore 45 = .ok (.aload_n 0, 1) := by decide +kernel
theorem dX11_restore_46 : decode cX11_restore 46 = .ok (.aload_n 0, 1) := by decide +kernel
theorem dX11_restore_47 : decode cX11_restore 47 = .ok (.getfield 246, 3) := by decide +kernel
theorem dX11_restore_50 : decode cX11_restore 50 = .ok (.putfield 98, 3) := by decide +kernel
theorem dX11_restore_53 : decode cX11_restore 53 = .ok (.iconst 0, 1) := by decide +kernel
theorem dX11_restore_54 : decode cX11_restore 54 = .ok (.istore_n 1, 1) := by decide +kernel
theorem dX11_restore_55 : decode cX11_restore 55 = .ok (.iload_n 1, 1) := by decide +kernel
theorem dX11_restore_56 : decode cX11_restore 56 = .ok (.bipush 8, 2) := by decide +kernel
theorem dX11_restore_58 : decode cX11_restore 58 = .ok (.if_icmp .ge 21, 3) := by decide +kernel
theorem dX11_restore_61 : decode cX11_restore 61 = .ok (.aload_n 0, 1) := by decide +kernel
theorem dX11_restore_62 : decode cX11_restore 62 = .ok (.getfield 7, 3) := by decide +kernel
theorem dX11_restore_65 : decode cX11_restore 65 = .ok (.iload_n 1, 1) := by decide +kernel
theorem dX11_restore_66 : decode cX11_restore 66 = .ok (.aload_n 0, 1) := by decide +kernel
theorem dX11_restore_67 : decode cX11_restore 67 = .ok (.getfield 45, 3) := by decide +kernel
theorem dX11_restore_70 : decode cX11_restore 70 = .ok (.iload_n 1, 1) := by decide +kernel
theorem dX11_restore_71 : decode cX11_restore 71 = .ok (.iaload, 1) := by decide +kernel
theorem dX11_restore_72 : decode cX11_restore 72 = .ok (.iastore, 1) := by decide +kernel
theorem dX11_restore_73 : decode cX11_restore 73 = .ok (.iinc 1 1, 3) := by decide +kernel
theorem dX11_restore_76 : decode cX11_restore 76 = .ok (.goto (-21), 3) := by decide +kernel
theorem dX11_restore_79 : decode cX11_restore 79 = .ok (.iconst 0, 1) := by decide +kernel
theorem dX11_restore_80 : decode cX11_restore 80 = .ok (.istore_n 1, 1) := by decide +kernel
theorem dX11_restore_81 : decode cX11_restore 81 = .ok (.iload_n 1, 1) := by decide +kernel
theorem dX11_restore_82 : decode cX11_restore 82 = .ok (.bipush 6, 2) := by decide +kernel
theorem dX11_restore_84 : decode cX11_restore 84 = .ok (.if_icmp .ge 45, 3) := by decide +kernel
theorem dX11_restore_87 : decode cX11_restore 87 = .ok (.aload_n 0, 1) := by decide +kernel
theorem dX11_restore_88 : decode cX11_restore 88 = .ok (.getfield 16, 3) := by decide +kernel
theorem dX11_restore_91 : decode cX11_restore 91 = .ok (.iload_n 1, 1) := by decide +kernel
theorem dX11_restore_92 : decode cX11_restore 92 = .ok (.aload_n 0, 1) := by decide +kernel
theorem dX11_restore_93 : decode cX11_restore 93 = .ok (.getfield 48, 3) := by decide +kernel
theorem dX11_restore_96 : decode cX11_restore 96 = .ok (.iload_n 1, 1) := by decide +kernel
theorem dX11_restore_97 : decode cX11_restore 97 = .ok (.iaload, 1) := by decide +kernel
theorem dX11_restore_98 : decode cX11_restore 98 = .ok (.iastore, 1) := by decide +kernel
theorem dX11_restore_99 : decode cX11_restore 99 = .ok (.aload_n 0, 1) := by decide +kernel
theorem dX11_restore_100 : decode cX11_restore 100 = .ok (.getfield 19, 3) := by decide +kernel
theorem dX11_restore_103 : decode cX11_restore 103 = .ok (.iload_n 1, 1) := by decide +kernel
theorem dX11_restore_104 : decode cX11_restore 104 = .ok (.aload_n 0, 1) := by decide +kernel
theorem dX11_restore_105 : decode cX11_restore 105 = .ok (.getfield 51, 3) := by decide +kernel
theorem dX11_restore_108 : decode cX11_restore 108 = .ok (.iload_n 1, 1) := by decide +kernel
theorem dX11_restore_109 : decode cX11_restore 109 = .ok (.iaload, 1) := by decide +kernel
theorem dX11_restore_110 : decode cX11_restore 110 = .ok (.iastore, 1) := by decide +kernel
theorem dX11_restore_111 : decode cX11_restore 111 = .ok (.aload_n 0, 1) := by decide +kernel
theorem dX11_restore_112 : decode cX11_restore 112 = .ok (.getfield 22, 3) := by decide +kernel
theorem dX11_restore_115 : decode cX11_restore 115 = .ok (.iload_n 1, 1) := by decide +kernel
theorem dX11_restore_116 : decode cX11_restore 116 = .ok (.aload_n 0, 1) := by decide +kernel
theorem dX11_restore_117 : decode cX11_restore 117 = .ok (.getfield 54, 3) := by decide +kernel
theorem dX11_restore_120 : decode cX11_restore 120 = .ok (.iload_n 1, 1) := by decide +kernel
theorem dX11_restore_121 : decode cX11_restore 121 = .ok (.iaload, 1) := by decide +kernel
theorem dX11_restore_122 : decode cX11_restore 122 = .ok (.iastore, 1) := by decide +kernel
theorem dX11_restore_123 : decode cX11_restore 123 = .ok (.iinc 1 1, 3) := by decide +kernel
theorem dX11_restore_126 : decode cX11_restore 126 = .ok (.goto (-45), 3) := by decide +kernel
theorem dX11_restore_129 : decode cX11_restore 129 = .ok (.aload_n 0, 1) := by decide +kernel
theorem dX11_restore_130 : decode cX11_restore 130 = .ok (.getfield 92, 3) := by decide +kernel
theorem dX11_restore_133 : decode cX11_restore 133 = .ok (.ireturn, 1) := by decide +kernel
theorem dX11_onGround_0 : decode cX11_onGround 0 = .ok (.iconst 0, 1) := by decide +kernel
theorem dX11_onGround_1 : decode cX11_onGround 1 = .ok (.istore_n 1, 1) := by decide +kernel
theorem dX11_onGround_2 : decode cX11_onGround 2 = .ok (.iconst 0, 1) := by decide +kernel
theorem dX11_onGround_3 : decode cX11_onGround 3 = .ok (.istore_n 2, 1) := by decide +kernel
theorem dX11_onGround_4 : decode cX11_onGround 4 = .ok (.iload_n 2, 1) := by decide +kernel
theorem dX11_onGround_5 : decode cX11_onGround 5 = .ok (.aload_n 0, 1) := by decide +kernel
theorem dX11_onGround_6 : decode cX11_onGround 6 = .ok (.getfield 83, 3) := by decide +kernel
theorem dX11_onGround_9 : decode cX11_onGround 9 = .ok (.if_icmp .ge 27, 3) := by decide +kernel
theorem dX11_onGround_12 : decode cX11_onGround 12 = .ok (.iload_n 1, 1) := by decide +kernel
theorem dX11_onGround_13 : decode cX11_onGround 13 = .ok (.aload_n 0, 1) := by decide +kernel
theorem dX11_onGround_14 : decode cX11_onGround 14 = .ok (.getfield 13, 3) := by decide +kernel
theorem dX11_onGround_17 : decode cX11_onGround 17 = .ok (.iload_n 2, 1) := by decide +kernel
theorem dX11_onGround_18 : decode cX11_onGround 18 = .ok (.iaload, 1) := by decide +kernel
theorem dX11_onGround_19 : decode cX11_onGround 19 = .ok (.iconst (-1), 1) := by decide +kernel
theorem dX11_onGround_20 : decode cX11_onGround 20 = .ok (.if_icmp .ne 7, 3) := by decide +kernel
theorem dX11_onGround_23 : decode cX11_onGround 23 = .ok (.iconst 1, 1) := by decide +kernel
theorem dX11_onGround_24 : decode cX11_onGround 24 = .ok (.goto 4, 3) := by decide +kernel
theorem dX11_onGround_27 : decode cX11_onGround 27 = .ok (.iconst 0, 1) := by decide +kernel
theorem dX11_onGround_28 : decode cX11_onGround 28 = .ok (.iadd, 1) := by decide +kernel
theorem dX11_onGround_29 : decode cX11_onGround 29 = .ok (.istore_n 1, 1) := by decide +kernel
theorem dX11_onGround_30 : decode cX11_onGround 30 = .ok (.iinc 2 1, 3) := by decide +kernel
theorem dX11_onGround_33 : decode cX11_onGround 33 = .ok (.goto (-29), 3) := by decide +kernel
theorem dX11_onGround_36 : decode cX11_onGround 36 = .ok (.iload_n 1, 1) := by decide +kernel
theorem dX11_onGround_37 : decode cX11_onGround 37 = .ok (.ireturn, 1) := by decide +kernel
set_option maxRecDepth 20000 in
theorem ggX11_howMany_X11_size : GoodIn wsX11_howMany wsX11_size := goodIn_r _ [12] (by decide +kernel) (by decide +kernel)
set_option maxRecDepth 20000 in
theorem gX11_howMany_X11_size : GoodIn wsX11_howMany (va_wsS RX11 131 yX11_size wsX11_size) := goodIn_app (goodIn_of _ (by decide +kernel)) ggX11_howMany_X11_size
set_option maxRecDepth 20000 in
theorem ggX11_howMany_X11_mayCuts : GoodIn wsX11_howMany wsX11_mayCuts := goodIn_r _ [16, 1, 17, 18, 19, 11, 20, 21, 22, 23, 24, 25, 26, 27, 28, 29, 34, 35, 36, 37, 38, 39, 40, 41, 42, 43, 44, 45, 46, 47, 48, 49, 50, 51, 52, 53, 54, 55, 56, 57, 58, 59, 60, 61, 62, 63, 64, 65, 66, 67] (by decide +kernel) (by decide +kernel)
set_option maxRecDepth 20000 in
theorem gX11_howMany_X11_mayCuts : GoodIn wsX11_howMany (wsV RX11 212 RX11 yX11_mayCuts wsX11_mayCuts) := goodIn_app (goodIn_of _ (by decide +kernel)) ggX11_howMany_X11_mayCuts
set_option maxRecDepth 20000 in
theorem ggX11_howMany_X11_onGround : GoodIn wsX11_howMany wsX11_onGround := goodIn_r _ [33, 1, 29, 34, 35, 36, 37, 38, 39, 40, 41, 42, 43, 44, 45, 46, 47, 48, 49, 50, 51, 52, 53, 54, 55, 56, 57, 58, 59, 60, 61, 62, 63, 64, 65, 66, 67] (by decide +kernel) (by decide +kernel)
set_option maxRecDepth 20000 in
theorem gX11_howMany_X11_onGround : GoodIn wsX11_howMany (wsV RX11 249 RX11 yX11_onGround wsX11_onGround) := goodIn_app (goodIn_of _ (by decide +kernel)) ggX11_howMany_X11_onGround
