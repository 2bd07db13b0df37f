theorem dX11_winnerFrom_35 : decode cX11_winnerFrom 35 = .ok (.isub, 1) := by decide +kernel
theorem dX11_winnerFrom_36 : decode cX11_winnerFrom 36 = .ok (.iaload, 1) := by decide +kernel
theorem dX11_winnerFrom_37 : decode cX11_winnerFrom 37 = .ok (.iload_n 2, 1) := by decide +kernel
theorem dX11_winnerFrom_38 : decode cX11_winnerFrom 38 = .ok (.if_icmp .ne 5, 3) := by decide +kernel
theorem dX11_winnerFrom_41 : decode cX11_winnerFrom 41 = .ok (.iload_n 2, 1) := by decide +kernel
theorem dX11_winnerFrom_42 : decode cX11_winnerFrom 42 = .ok (.ireturn, 1) := by decide +kernel
theorem dX11_winnerFrom_43 : decode cX11_winnerFrom 43 = .ok (.iinc 3 1, 3) := by decide +kernel
theorem dX11_winnerFrom_46 : decode cX11_winnerFrom 46 = .ok (.goto (-44), 3) := by decide +kernel
theorem dX11_winnerFrom_49 : decode cX11_winnerFrom 49 = .ok (.iconst 1, 1) := by decide +kernel
theorem dX11_winnerFrom_50 : decode cX11_winnerFrom 50 = .ok (.iload_n 2, 1) := by decide +kernel
theorem dX11_winnerFrom_51 : decode cX11_winnerFrom 51 = .ok (.isub, 1) := by decide +kernel
theorem dX11_winnerFrom_52 : decode cX11_winnerFrom 52 = .ok (.ireturn, 1) := by decide +kernel
set_option maxRecDepth 20000 in
theorem ggX11_lastingFrom_X11_mayCut : GoodIn wsX11_lastingFrom wsX11_mayCut := goodIn_r _ [9, 10, 11, 12, 8, 13, 14, 15, 16, 17, 3, 18, 27, 28, 29, 30, 31, 32, 33, 34, 35, 36, 37, 38, 39, 40, 41, 42, 43, 44, 45, 46, 47, 48, 49, 50, 51, 52, 53, 54, 55, 56, 57, 58, 59, 60] (by decide +kernel) (by decide +kernel)
set_option maxRecDepth 20000 in
theorem gX11_lastingFrom_X11_mayCut : GoodIn wsX11_lastingFrom (wsV RX11 111 RX11 yX11_mayCut wsX11_mayCut) := goodIn_app (goodIn_of _ (by decide +kernel)) ggX11_lastingFrom_X11_mayCut
set_option maxRecDepth 20000 in
theorem ggX11_lastingFrom_X11_leaves : GoodIn wsX11_lastingFrom wsX11_leaves := goodIn_r _ [22, 23, 24, 25, 8, 26, 3, 18, 11, 12, 13, 27, 28, 29, 30, 31, 32, 33, 34, 35, 36, 37, 38, 39, 40, 41, 42, 43, 44, 45, 46, 47, 48, 49, 50, 51, 52, 53, 54, 55, 56, 57, 58, 59, 60] (by decide +kernel) (by decide +kernel)
set_option maxRecDepth 20000 in
theorem gX11_lastingFrom_X11_leaves : GoodIn wsX11_lastingFrom (wsV RX11 128 RX11 yX11_leaves wsX11_leaves) := goodIn_app (goodIn_of _ (by decide +kernel)) ggX11_lastingFrom_X11_leaves
theorem dX11_lastingFrom_0 : decode cX11_lastingFrom 0 = .ok (.aload_n 0, 1) := by decide +kernel
theorem dX11_lastingFrom_1 : decode cX11_lastingFrom 1 = .ok (.getfield 29, 3) := by decide +kernel
theorem dX11_lastingFrom_4 : decode cX11_lastingFrom 4 = .ok (.iconst 2, 1) := by decide +kernel
theorem dX11_lastingFrom_5 : decode cX11_lastingFrom 5 = .ok (.iload_n 1, 1) := by decide +kernel
theorem dX11_lastingFrom_6 : decode cX11_lastingFrom 6 = .ok (.imul, 1) := by decide +kernel
theorem dX11_lastingFrom_7 : decode cX11_lastingFrom 7 = .ok (.iload_n 2, 1) := by decide +kernel
theorem dX11_lastingFrom_8 : decode cX11_lastingFrom 8 = .ok (.iadd, 1) := by decide +kernel
theorem dX11_lastingFrom_9 : decode cX11_lastingFrom 9 = .ok (.iaload, 1) := by decide +kernel
theorem dX11_lastingFrom_10 : decode cX11_lastingFrom 10 = .ok (.iload_n 2, 1) := by decide +kernel
theorem dX11_lastingFrom_11 : decode cX11_lastingFrom 11 = .ok (.if_icmp .ne 7, 3) := by decide +kernel
theorem dX11_lastingFrom_14 : decode cX11_lastingFrom 14 = .ok (.iconst 1, 1) := by decide +kernel
theorem dX11_lastingFrom_15 : decode cX11_lastingFrom 15 = .ok (.goto 4, 3) := by decide +kernel
theorem dX11_lastingFrom_18 : decode cX11_lastingFrom 18 = .ok (.iconst 0, 1) := by decide +kernel
theorem dX11_lastingFrom_19 : decode cX11_lastingFrom 19 = .ok (.istore_n 3, 1) := by decide +kernel
theorem dX11_lastingFrom_20 : decode cX11_lastingFrom 20 = .ok (.iload_n 3, 1) := by decide +kernel
theorem dX11_lastingFrom_21 : decode cX11_lastingFrom 21 = .ok (.ifCond .eq 8, 3) := by decide +kernel
theorem dX11_lastingFrom_24 : decode cX11_lastingFrom 24 = .ok (.ldc 134, 2) := by decide +kernel
theorem dX11_lastingFrom_26 : decode cX11_lastingFrom 26 = .ok (.goto 4, 3) := by decide +kernel
theorem dX11_lastingFrom_29 : decode cX11_lastingFrom 29 = .ok (.iconst (-1), 1) := by decide +kernel
theorem dX11_lastingFrom_30 : decode cX11_lastingFrom 30 = .ok (.istore 4, 2) := by decide +kernel
theorem dX11_lastingFrom_32 : decode cX11_lastingFrom 32 = .ok (.iconst 0, 1) := by decide +kernel
theorem dX11_lastingFrom_33 : decode cX11_lastingFrom 33 = .ok (.istore 5, 2) := by decide +kernel
theorem dX11_lastingFrom_35 : decode cX11_lastingFrom 35 = .ok (.iload 5, 2) := by decide +kernel
theorem dX11_lastingFrom_37 : decode cX11_lastingFrom 37 = .ok (.aload_n 0, 1) := by decide +kernel
theorem dX11_lastingFrom_38 : decode cX11_lastingFrom 38 = .ok (.getfield 83, 3) := by decide +kernel
theorem dX11_lastingFrom_41 : decode cX11_lastingFrom 41 = .ok (.if_icmp .ge 102, 3) := by decide +kernel
theorem dX11_lastingFrom_44 : decode cX11_lastingFrom 44 = .ok (.aload_n 0, 1) := by decide +kernel
theorem dX11_lastingFrom_45 : decode cX11_lastingFrom 45 = .ok (.iload_n 2, 1) := by decide +kernel
theorem dX11_lastingFrom_46 : decode cX11_lastingFrom 46 = .ok (.iload 5, 2) := by decide +kernel
theorem dX11_lastingFrom_48 : decode cX11_lastingFrom 48 = .ok (.iload_n 1, 1) := by decide +kernel
theorem dX11_lastingFrom_49 : decode cX11_lastingFrom 49 = .ok (.invokevirtual 111, 3) := by decide +kernel
theorem dX11_lastingFrom_52 : decode cX11_lastingFrom 52 = .ok (.ifCond .eq 85, 3) := by decide +kernel
theorem dX11_lastingFrom_55 : decode cX11_lastingFrom 55 = .ok (.iconst 2, 1) := by decide +kernel
theorem dX11_lastingFrom_56 : decode cX11_lastingFrom 56 = .ok (.aload_n 0, 1) := by decide +kernel
theorem dX11_lastingFrom_57 : decode cX11_lastingFrom 57 = .ok (.iload 5, 2) := by decide +kernel
theorem dX11_lastingFrom_59 : decode cX11_lastingFrom 59 = .ok (.iload_n 1, 1) := by decide +kernel
theorem dX11_lastingFrom_60 : decode cX11_lastingFrom 60 = .ok (.invokevirtual 128, 3) := by decide +kernel
theorem dX11_lastingFrom_63 : decode cX11_lastingFrom 63 = .ok (.imul, 1) := by decide +kernel
theorem dX11_lastingFrom_64 : decode cX11_lastingFrom 64 = .ok (.iconst 1, 1) := by decide +kernel
theorem dX11_lastingFrom_65 : decode cX11_lastingFrom 65 = .ok (.iadd, 1) := by decide +kernel
theorem dX11_lastingFrom_66 : decode cX11_lastingFrom 66 = .ok (.iload_n 2, 1) := by decide +kernel
theorem dX11_lastingFrom_67 : decode cX11_lastingFrom 67 = .ok (.isub, 1) := by decide +kernel
theorem dX11_lastingFrom_68 : decode cX11_lastingFrom 68 = .ok (.istore 6, 2) := by decide +kernel
theorem dX11_lastingFrom_70 : decode cX11_lastingFrom 70 = .ok (.aload_n 0, 1) := by decide +kernel
theorem dX11_lastingFrom_71 : decode cX11_lastingFrom 71 = .ok (.getfield 32, 3) := by decide +kernel
theorem dX11_lastingFrom_74 : decode cX11_lastingFrom 74 = .ok (.iload 6, 2) := by decide +kernel
theorem dX11_lastingFrom_76 : decode cX11_lastingFrom 76 = .ok (.iaload, 1) := by decide +kernel
theorem dX11_lastingFrom_77 : decode cX11_lastingFrom 77 = .ok (.istore 7, 2) := by decide +kernel
theorem dX11_lastingFrom_79 : decode cX11_lastingFrom 79 = .ok (.iload_n 3, 1) := by decide +kernel
theorem dX11_lastingFrom_80 : decode cX11_lastingFrom 80 = .ok (.ifCond .eq 29, 3) := by decide +kernel
theorem dX11_lastingFrom_83 : decode cX11_lastingFrom 83 = .ok (.aload_n 0, 1) := by decide +kernel
theorem dX11_lastingFrom_84 : decode cX11_lastingFrom 84 = .ok (.getfield 29, 3) := by decide +kernel
theorem dX11_lastingFrom_87 : decode cX11_lastingFrom 87 = .ok (.iload 6, 2) := by decide +kernel
theorem dX11_lastingFrom_89 : decode cX11_lastingFrom 89 = .ok (.iaload, 1) := by decide +kernel
theorem dX11_lastingFrom_90 : decode cX11_lastingFrom 90 = .ok (.iload_n 2, 1) := by decide +kernel
theorem dX11_lastingFrom_91 : decode cX11_lastingFrom 91 = .ok (.if_icmp .ne 14, 3) := by decide +kernel
theorem dX11_lastingFrom_94 : decode cX11_lastingFrom 94 = .ok (.iload 7, 2) := by decide +kernel
theorem dX11_lastingFrom_96 : decode cX11_lastingFrom 96 = .ok (.iload 4, 2) := by decide +kernel
theorem dX11_lastingFrom_98 : decode cX11_lastingFrom 98 = .ok (.if_icmp .ge 7, 3) := by decide +kernel
theorem dX11_lastingFrom_101 : decode cX11_lastingFrom 101 = .ok (.iconst 1, 1) := by decide +kernel
theorem dX11_lastingFrom_102 : decode cX11_lastingFrom 102 = .ok (.goto 19, 3) := by decide +kernel
theorem dX11_lastingFrom_105 : decode cX11_lastingFrom 105 = .ok (.iconst 0, 1) := by decide +kernel
theorem dX11_lastingFrom_106 : decode cX11_lastingFrom 106 = .ok (.goto 15, 3) := by decide +kernel
theorem dX11_lastingFrom_109 : decode cX11_lastingFrom 109 = .ok (.iload 7, 2) := by decide +kernel
theorem dX11_lastingFrom_111 : decode cX11_lastingFrom 111 = .ok (.iload 4, 2) := by decide +kernel
theorem dX11_lastingFrom_113 : decode cX11_lastingFrom 113 = .ok (.if_icmp .le 7, 3) := by decide +kernel
theorem dX11_lastingFrom_116 : decode cX11_lastingFrom 116 = .ok (.iconst 1, 1) := by decide +kernel
theorem dX11_lastingFrom_117 : decode cX11_lastingFrom 117 = .ok (.goto 4, 3) := by decide +kernel
theorem dX11_lastingFrom_120 : decode cX11_lastingFrom 120 = .ok (.iconst 0, 1) := by decide +kernel
theorem dX11_lastingFrom_121 : decode cX11_lastingFrom 121 = .ok (.istore 8, 2) := by decide +kernel
theorem dX11_lastingFrom_123 : decode cX11_lastingFrom 123 = .ok (.iload 8, 2) := by decide +kernel
theorem dX11_lastingFrom_125 : decode cX11_lastingFrom 125 = .ok (.ifCond .eq 8, 3) := by decide +kernel
theorem dX11_lastingFrom_128 : decode cX11_lastingFrom 128 = .ok (.iload 7, 2) := by decide +kernel
theorem dX11_lastingFrom_130 : decode cX11_lastingFrom 130 = .ok (.goto 5, 3) := by decide +kernel
theorem dX11_lastingFrom_133 : decode cX11_lastingFrom 133 = .ok (.iload 4, 2) := by decide +kernel
theorem dX11_lastingFrom_135 : decode cX11_lastingFrom 135 = .ok (.istore 4, 2) := by decide +kernel
theorem dX11_lastingFrom_137 : decode cX11_lastingFrom 137 = .ok (.iinc 5 1, 3) := by decide +kernel
theorem dX11_lastingFrom_140 : decode cX11_lastingFrom 140 = .ok (.goto (-105), 3) := by decide +kernel
theorem dX11_lastingFrom_143 : decode cX11_lastingFrom 143 = .ok (.iload 4, 2) := by decide +kernel
theorem dX11_lastingFrom_145 : decode cX11_lastingFrom 145 = .ok (.iconst 1, 1) := by decide +kernel
theorem dX11_lastingFrom_146 : decode cX11_lastingFrom 146 = .ok (.iadd, 1) := by decide +kernel
theorem dX11_lastingFrom_147 : decode cX11_lastingFrom 147 = .ok (.ireturn, 1) := by decide +kernel
set_option maxRecDepth 20000 in
theorem ggX11_layWinners_X11_winnerFrom : GoodIn wsX11_layWinners wsX11_winnerFrom := goodIn_r _ [7, 8, 2, 9, 10, 11, 6, 12, 13, 14, 15, 16, 17, 18, 19, 20, 21, 22, 23, 24, 25, 26, 27, 28, 29, 30, 31, 32, 33, 34, 35, 36, 37, 38, 39, 40, 41, 42, 43, 44, 45, 46, 47, 48, 49, 50, 51, 52, 53, 54, 55, 56, 57, 58, 59, 60, 61, 62, 63] (by decide +kernel) (by decide +kernel)
set_option maxRecDepth 20000 in
theorem gX11_layWinners_X11_winnerFrom : GoodIn wsX11_layWinners (wsV RX11 135 RX11 yX11_winnerFrom wsX11_winnerFrom) := goodIn_app (goodIn_of _ (by decide +kernel)) ggX11_layWinners_X11_winnerFrom
theorem dX11_layWinners_0 : decode cX11_layWinners 0 = .ok (.iconst 0, 1) := by decide +kernel
theorem dX11_layWinners_1 : decode cX11_layWinners 1 = .ok (.istore_n 1, 1) := by decide +kernel
theorem dX11_layWinners_2 : decode cX11_layWinners 2 = .ok (.iload_n 1, 1) := by decide +kernel
theorem dX11_layWinners_3 : decode cX11_layWinners 3 = .ok (.aload_n 0, 1) := by decide +kernel
theorem dX11_layWinners_4 : decode cX11_layWinners 4 = .ok (.getfield 86, 3) := by decide +kernel
theorem dX11_layWinners_7 : decode cX11_layWinners 7 = .ok (.if_icmp .gt 50, 3) := by decide +kernel
theorem dX11_layWinners_10 : decode cX11_layWinners 10 = .ok (.iload_n 1, 1) := by decide +kernel
theorem dX11_layWinners_11 : decode cX11_layWinners 11 = .ok (.aload_n 0, 1) := by decide +kernel
theorem dX11_layWinners_12 : decode cX11_layWinners 12 = .ok (.getfield 86, 3) := by decide +kernel
theorem dX11_layWinners_15 : decode cX11_layWinners 15 = .ok (.iconst (-1), 1) := by decide +kernel
theorem dX11_layWinners_16 : decode cX11_layWinners 16 = .ok (.ixor, 1) := by decide +kernel
theorem dX11_layWinners_17 : decode cX11_layWinners 17 = .ok (.iand, 1) := by decide +kernel
theorem dX11_layWinners_18 : decode cX11_layWinners 18 = .ok (.ifCond .ne 33, 3) := by decide +kernel
theorem dX11_layWinners_21 : decode cX11_layWinners 21 = .ok (.aload_n 0, 1) := by decide +kernel
theorem dX11_layWinners_22 : decode cX11_layWinners 22 = .ok (.getfield 29, 3) := by decide +kernel
theorem dX11_layWinners_25 : decode cX11_layWinners 25 = .ok (.iconst 2, 1) := by decide +kernel
theorem dX11_layWinners_26 : decode cX11_layWinners 26 = .ok (.iload_n 1, 1) := by decide +kernel
theorem dX11_layWinners_27 : decode cX11_layWinners 27 = .ok (.imul, 1) := by decide +kernel
theorem dX11_layWinners_28 : decode cX11_layWinners 28 = .ok (.aload_n 0, 1) := by decide +kernel
theorem dX11_layWinners_29 : decode cX11_layWinners 29 = .ok (.iload_n 1, 1) := by decide +kernel
theorem dX11_layWinners_30 : decode cX11_layWinners 30 = .ok (.iconst 0, 1) := by decide +kernel
theorem dX11_layWinners_31 : decode cX11_layWinners 31 = .ok (.invokevirtual 135, 3) := by decide +kernel
theorem dX11_layWinners_34 : decode cX11_layWinners 34 = .ok (.iastore, 1) := by decide +kernel
theorem dX11_layWinners_35 : decode cX11_layWinners 35 = .ok (.aload_n 0, 1) := by decide +kernel
theorem dX11_layWinners_36 : decode cX11_layWinners 36 = .ok (.getfield 29, 3) := by decide +kernel
theorem dX11_layWinners_39 : decode cX11_layWinners 39 = .ok (.iconst 2, 1) := by decide +kernel
theorem dX11_layWinners_40 : decode cX11_layWinners 40 = .ok (.iload_n 1, 1) := by decide +kernel
theorem dX11_layWinners_41 : decode cX11_layWinners 41 = .ok (.imul, 1) := by decide +kernel
theorem dX11_layWinners_42 : decode cX11_layWinners 42 = .ok (.iconst 1, 1) := by decide +kernel
theorem dX11_layWinners_43 : decode cX11_layWinners 43 = .ok (.iadd, 1) := by decide +kernel
theorem dX11_layWinners_44 : decode cX11_layWinners 44 = .ok (.aload_n 0, 1) := by decide +kernel
theorem dX11_layWinners_45 : decode cX11_layWinners 45 = .ok (.iload_n 1, 1) := by decide +kernel
theorem dX11_layWinners_46 : decode cX11_layWinners 46 = .ok (.iconst 1, 1) := by decide +kernel
theorem dX11_layWinners_47 : decode cX11_layWinners 47 = .ok (.invokevirtual 135, 3) := by decide +kernel
theorem dX11_layWinners_50 : decode cX11_layWinners 50 = .ok (.iastore, 1) := by decide +kernel
theorem dX11_layWinners_51 : decode cX11_layWinners 51 = .ok (.iinc 1 1, 3) := by decide +kernel
theorem dX11_layWinners_54 : decode cX11_layWinners 54 = .ok (.goto (-52), 3) := by decide +kernel
theorem dX11_layWinners_57 : decode cX11_layWinners 57 = .ok (.return_, 1) := by decide +kernel
set_option maxRecDepth 20000 in
theorem ggX11_layLasting_X11_layWinners : GoodIn wsX11_layLasting wsX11_layWinners := goodIn_r _ [7, 1, 8, 9, 10, 11, 6, 12, 13, 14, 15, 16, 17, 18, 19, 20, 21, 22, 23, 24, 25, 26, 27, 28, 29, 30, 31, 32, 33, 34, 40, 41, 42, 43, 44, 45, 46, 47, 48, 49, 50, 51, 52, 53, 54, 55, 56, 57, 58, 59, 60, 61, 62, 63, 64, 65, 66, 67, 68, 69, 70, 71, 72, 73] (by decide +kernel) (by decide +kernel)
set_option maxRecDepth 20000 in
theorem gX11_layLasting_X11_layWinners : GoodIn wsX11_layLasting (wsV RX11 138 RX11 yX11_layWinners wsX11_layWinners) := goodIn_app (goodIn_of _ (by decide +kernel)) ggX11_layLasting_X11_layWinners
set_option maxRecDepth 20000 in
theorem ggX11_layLasting_X11_lastingFrom : GoodIn wsX11_layLasting wsX11_lastingFrom := goodIn_r _ [38, 8, 39, 13, 2, 14, 15, 16, 6, 17, 18, 19, 20, 21, 22, 23, 24, 25, 26, 27, 28, 29, 30, 31, 32, 33, 34, 40, 41, 42, 43, 44, 45, 46, 47, 48, 49, 50, 51, 52, 53, 54, 55, 56, 57, 58, 59, 60, 61, 62, 63, 64, 65, 66, 67, 68, 69, 70, 71, 72, 73] (by decide +kernel) (by decide +kernel)
set_option maxRecDepth 20000 in
theorem gX11_layLasting_X11_lastingFrom : GoodIn wsX11_layLasting (wsV RX11 141 RX11 yX11_lastingFrom wsX11_lastingFrom) := goodIn_app (goodIn_of _ (by decide +kernel)) ggX11_layLasting_X11_lastingFrom
theorem dX11_layLasting_0 : decode cX11_layLasting 0 = .ok (.aload_n 0, 1) := by decide +kernel
theorem dX11_layLasting_1 : decode cX11_layLasting 1 = .ok (.invokevirtual 138, 3) := by decide +kernel
theorem dX11_layLasting_4 : decode cX11_layLasting 4 = .ok (.iconst 0, 1) := by decide +kernel
theorem dX11_layLasting_5 : decode cX11_layLasting 5 = .ok (.istore_n 1, 1) := by decide +kernel
theorem dX11_layLasting_6 : decode cX11_layLasting 6 = .ok (.iload_n 1, 1) := by decide +kernel
theorem dX11_layLasting_7 : decode cX11_layLasting 7 = .ok (.aload_n 0, 1) := by decide +kernel
theorem dX11_layLasting_8 : decode cX11_layLasting 8 = .ok (.getfield 86, 3) := by decide +kernel
theorem dX11_layLasting_11 : decode cX11_layLasting 11 = .ok (.if_icmp .gt 50, 3) := by decide +kernel
theorem dX11_layLasting_14 : decode cX11_layLasting 14 = .ok (.iload_n 1, 1) := by decide +kernel
theorem dX11_layLasting_15 : decode cX11_layLasting 15 = .ok (.aload_n 0, 1) := by decide +kernel
theorem dX11_layLasting_16 : decode cX11_layLasting 16 = .ok (.getfield 86, 3) := by decide +kernel
theorem dX11_layLasting_19 : decode cX11_layLasting 19 = .ok (.iconst (-1), 1) := by decide +kernel
theorem dX11_layLasting_20 : decode cX11_layLasting 20 = .ok (.ixor, 1) := by decide +kernel
theorem dX11_layLasting_21 : decode cX11_layLasting 21 = .ok (.iand, 1) := by decide +kernel
theorem dX11_layLasting_22 : decode cX11_layLasting 22 = .ok (.ifCond .ne 33, 3) := by decide +kernel
theorem dX11_layLasting_25 : decode cX11_layLasting 25 = .ok (.aload_n 0, 1) := by decide +kernel
theorem dX11_layLasting_26 : decode cX11_layLasting 26 = .ok (.getfield 32, 3) := by decide +kernel
theorem dX11_layLasting_29 : decode cX11_layLasting 29 = .ok (.iconst 2, 1) := by decide +kernel
theorem dX11_layLasting_30 : decode cX11_layLasting 30 = .ok (.iload_n 1, 1) := by decide +kernel
theorem dX11_layLasting_31 : decode cX11_layLasting 31 = .ok (.imul, 1) := by decide +kernel
theorem dX11_layLasting_32 : decode cX11_layLasting 32 = .ok (.aload_n 0, 1) := by decide +kernel
theorem dX11_layLasting_33 : decode cX11_layLasting 33 = .ok (.iload_n 1, 1) := by decide +kernel
theorem dX11_layLasting_34 : decode cX11_layLasting 34 = .ok (.iconst 0, 1) := by decide +kernel
theorem dX11_layLasting_35 : decode cX11_layLasting 35 = .ok (.invokevirtual 141, 3) := by decide +kernel
theorem dX11_layLasting_38 : decode cX11_layLasting 38 = .ok (.iastore, 1) := by decide +kernel
theorem dX11_layLasting_39 : decode cX11_layLasting 39 = .ok (.aload_n 0, 1) := by decide +kernel
theorem dX11_layLasting_40 : decode cX11_layLasting 40 = .ok (.getfield 32, 3) := by decide +kernel
theorem dX11_layLasting_43 : decode cX11_layLasting 43 = .ok (.iconst 2, 1) := by decide +kernel
theorem dX11_layLasting_44 : decode cX11_layLasting 44 = .ok (.iload_n 1, 1) := by decide +kernel
theorem dX11_layLasting_45 : decode cX11_layLasting 45 = .ok (.imul, 1) := by decide +kernel
theorem dX11_layLasting_46 : decode cX11_layLasting 46 = .ok (.iconst 1, 1) := by decide +kernel
theorem dX11_layLasting_47 : decode cX11_layLasting 47 = .ok (.iadd, 1) := by decide +kernel
theorem dX11_layLasting_48 : decode cX11_layLasting 48 = .ok (.aload_n 0, 1) := by decide +kernel
theorem dX11_layLasting_49 : decode cX11_layLasting 49 = .ok (.iload_n 1, 1) := by decide +kernel
theorem dX11_layLasting_50 : decode cX11_layLasting 50 = .ok (.iconst 1, 1) := by decide +kernel
theorem dX11_layLasting_51 : decode cX11_layLasting 51 = .ok (.invokevirtual 141, 3) := by decide +kernel
theorem dX11_layLasting_54 : decode cX11_layLasting 54 = .ok (.iastore, 1) := by decide +kernel
theorem dX11_layLasting_55 : decode cX11_layLasting 55 = .ok (.iinc 1 1, 3) := by decide +kernel
theorem dX11_layLasting_58 : decode cX11_layLasting 58 = .ok (.goto (-52), 3) := by decide +kernel
theorem dX11_layLasting_61 : decode cX11_layLasting 61 = .ok (.return_, 1) := by decide +kernel
set_option maxRecDepth 20000 in
theorem ggX11_bestNow_X11_layLasting : GoodIn wsX11_bestNow wsX11_layLasting := goodIn_r _ [9, 2, 4, 10, 11, 12, 8, 13, 3, 14, 15, 16, 17, 1, 18, 19, 20, 21, 22, 23, 24, 25, 26, 27, 28, 29, 30, 31, 32, 33, 34, 35, 36, 37, 38, 39, 40, 41, 42, 43, 44, 45, 46, 47, 48, 49, 50, 51, 52, 53, 54, 55, 56, 57, 58, 59, 60, 61, 62, 63, 64, 65, 66, 67, 68, 69, 70, 71, 72, 73, 74, 75, 76, 77] (by decide +kernel) (by decide +kernel)
set_option maxRecDepth 20000 in
theorem gX11_bestNow_X11_layLasting : GoodIn wsX11_bestNow (wsV RX11 144 RX11 yX11_layLasting wsX11_layLasting) := goodIn_app (goodIn_of _ (by decide +kernel)) ggX11_bestNow_X11_layLasting
set_option maxRecDepth 20000 in
theorem ggX11_bestNow_X11_mayCut : GoodIn wsX11_bestNow wsX11_mayCut := goodIn_r _ [21, 22, 23, 24, 8, 25, 26, 27, 28, 29, 1, 30, 44, 45, 46, 47, 48, 49, 50, 51, 52, 53, 54, 55, 56, 57, 58, 59, 60, 61, 62, 63, 64, 65, 66, 67, 68, 69, 70, 71, 72, 73, 74, 75, 76, 77] (by decide +kernel) (by decide +kernel)
set_option maxRecDepth 20000 in
theorem gX11_bestNow_X11_mayCut : GoodIn wsX11_bestNow (wsV RX11 111 RX11 yX11_mayCut wsX11_mayCut) := goodIn_app (goodIn_of _ (by decide +kernel)) ggX11_bestNow_X11_mayCut
set_option maxRecDepth 20000 in
theorem ggX11_bestNow_X11_leaves : GoodIn wsX11_bestNow wsX11_leaves := goodIn_r _ [34, 35, 36, 37, 8, 38, 1, 30, 23, 24, 25, 44, 45, 46, 47, 48, 49, 50, 51, 52, 53, 54, 55, 56, 57, 58, 59, 60, 61, 62, 63, 64, 65, 66, 67, 68, 69, 70, 71, 72, 73, 74, 75, 76, 77] (by decide +kernel) (by decide +kernel)
set_option maxRecDepth 20000 in
theorem gX11_bestNow_X11_leaves : GoodIn wsX11_bestNow (wsV RX11 128 RX11 yX11_leaves wsX11_leaves) := goodIn_app (goodIn_of _ (by decide +kernel)) ggX11_bestNow_X11_leaves
theorem dX11_bestNow_0 : decode cX11_bestNow 0 = .ok (.aload_n 0, 1) := by decide +kernel
theorem dX11_bestNow_1 : decode cX11_bestNow 1 = .ok (.invokevirtual 144, 3) := by decide +kernel
theorem dX11_bestNow_4 : decode cX11_bestNow 4 = .ok (.iconst (-1), 1) := by decide +kernel
theorem dX11_bestNow_5 : decode cX11_bestNow 5 = .ok (.istore_n 2, 1) := by decide +kernel
theorem dX11_bestNow_6 : decode cX11_bestNow 6 = .ok (.iconst (-1), 1) := by decide +kernel
theorem dX11_bestNow_7 : decode cX11_bestNow 7 = .ok (.istore_n 3, 1) := by decide +kernel
theorem dX11_bestNow_8 : decode cX11_bestNow 8 = .ok (.iconst 0, 1) := by decide +kernel
theorem dX11_bestNow_9 : decode cX11_bestNow 9 = .ok (.istore 4, 2) := by decide +kernel
theorem dX11_bestNow_11 : decode cX11_bestNow 11 = .ok (.iload 4, 2) := by decide +kernel
theorem dX11_bestNow_13 : decode cX11_bestNow 13 = .ok (.aload_n 0, 1) := by decide +kernel
theorem dX11_bestNow_14 : decode cX11_bestNow 14 = .ok (.getfield 83, 3) := by decide +kernel
theorem dX11_bestNow_17 : decode cX11_bestNow 17 = .ok (.if_icmp .ge 96, 3) := by decide +kernel
theorem dX11_bestNow_20 : decode cX11_bestNow 20 = .ok (.aload_n 0, 1) := by decide +kernel
theorem dX11_bestNow_21 : decode cX11_bestNow 21 = .ok (.iload_n 1, 1) := by decide +kernel
theorem dX11_bestNow_22 : decode cX11_bestNow 22 = .ok (.iload 4, 2) := by decide +kernel
theorem dX11_bestNow_24 : decode cX11_bestNow 24 = .ok (.aload_n 0, 1) := by decide +kernel
theorem dX11_bestNow_25 : decode cX11_bestNow 25 = .ok (.getfield 86, 3) := by decide +kernel
theorem dX11_bestNow_28 : decode cX11_bestNow 28 = .ok (.invokevirtual 111, 3) := by decide +kernel
theorem dX11_bestNow_31 : decode cX11_bestNow 31 = .ok (.ifCond .eq 76, 3) := by decide +kernel
theorem dX11_bestNow_34 : decode cX11_bestNow 34 = .ok (.iconst 2, 1) := by decide +kernel
theorem dX11_bestNow_35 : decode cX11_bestNow 35 = .ok (.aload_n 0, 1) := by decide +kernel
theorem dX11_bestNow_36 : decode cX11_bestNow 36 = .ok (.iload 4, 2) := by decide +kernel
theorem dX11_bestNow_38 : decode cX11_bestNow 38 = .ok (.aload_n 0, 1) := by decide +kernel
theorem dX11_bestNow_39 : decode cX11_bestNow 39 = .ok (.getfield 86, 3) := by decide +kernel
theorem dX11_bestNow_42 : decode cX11_bestNow 42 = .ok (.invokevirtual 128, 3) := by decide +kernel
theorem dX11_bestNow_45 : decode cX11_bestNow 45 = .ok (.imul, 1) := by decide +kernel
theorem dX11_bestNow_46 : decode cX11_bestNow 46 = .ok (.iconst 1, 1) := by decide +kernel
theorem dX11_bestNow_47 : decode cX11_bestNow 47 = .ok (.iadd, 1) := by decide +kernel
theorem dX11_bestNow_48 : decode cX11_bestNow 48 = .ok (.iload_n 1, 1) := by decide +kernel
theorem dX11_bestNow_49 : decode cX11_bestNow 49 = .ok (.isub, 1) := by decide +kernel
theorem dX11_bestNow_50 : decode cX11_bestNow 50 = .ok (.istore 5, 2) := by decide +kernel
theorem dX11_bestNow_52 : decode cX11_bestNow 52 = .ok (.aload_n 0, 1) := by decide +kernel
theorem dX11_bestNow_53 : decode cX11_bestNow 53 = .ok (.getfield 29, 3) := by decide +kernel
theorem dX11_bestNow_56 : decode cX11_bestNow 56 = .ok (.iload 5, 2) := by decide +kernel
theorem dX11_bestNow_58 : decode cX11_bestNow 58 = .ok (.iaload, 1) := by decide +kernel
theorem dX11_bestNow_59 : decode cX11_bestNow 59 = .ok (.iload_n 1, 1) := by decide +kernel
theorem dX11_bestNow_60 : decode cX11_bestNow 60 = .ok (.if_icmp .ne 6, 3) := by decide +kernel
theorem dX11_bestNow_63 : decode cX11_bestNow 63 = .ok (.iload 4, 2) := by decide +kernel
theorem dX11_bestNow_65 : decode cX11_bestNow 65 = .ok (.ireturn, 1) := by decide +kernel
theorem dX11_bestNow_66 : decode cX11_bestNow 66 = .ok (.aload_n 0, 1) := by decide +kernel
theorem dX11_bestNow_67 : decode cX11_bestNow 67 = .ok (.getfield 32, 3) := by decide +kernel
theorem dX11_bestNow_70 : decode cX11_bestNow 70 = .ok (.iload 5, 2) := by decide +kernel
theorem dX11_bestNow_72 : decode cX11_bestNow 72 = .ok (.iaload, 1) := by decide +kernel
theorem dX11_bestNow_73 : decode cX11_bestNow 73 = .ok (.iload_n 3, 1) := by decide +kernel
theorem dX11_bestNow_74 : decode cX11_bestNow 74 = .ok (.if_icmp .le 8, 3) := by decide +kernel
theorem dX11_bestNow_77 : decode cX11_bestNow 77 = .ok (.iload 4, 2) := by decide +kernel
theorem dX11_bestNow_79 : decode cX11_bestNow 79 = .ok (.goto 4, 3) := by decide +kernel
theorem dX11_bestNow_82 : decode cX11_bestNow 82 = .ok (.iload_n 2, 1) := by decide +kernel
theorem dX11_bestNow_83 : decode cX11_bestNow 83 = .ok (.istore_n 2, 1) := by decide +kernel
theorem dX11_bestNow_84 : decode cX11_bestNow 84 = .ok (.aload_n 0, 1) := by decide +kernel
theorem dX11_bestNow_85 : decode cX11_bestNow 85 = .ok (.getfield 32, 3) := by decide +kernel
theorem dX11_bestNow_88 : decode cX11_bestNow 88 = .ok (.iload 5, 2) := by decide +kernel
theorem dX11_bestNow_90 : decode cX11_bestNow 90 = .ok (.iaload, 1) := by decide +kernel
theorem dX11_bestNow_91 : decode cX11_bestNow 91 = .ok (.iload_n 3, 1) := by decide +kernel
theorem dX11_bestNow_92 : decode cX11_bestNow 92 = .ok (.if_icmp .le 13, 3) := by decide +kernel
theorem dX11_bestNow_95 : decode cX11_bestNow 95 = .ok (.aload_n 0, 1) := by decide +kernel
theorem dX11_bestNow_96 : decode cX11_bestNow 96 = .ok (.getfield 32, 3) := by decide +kernel
theorem dX11_bestNow_99 : decode cX11_bestNow 99 = .ok (.iload 5, 2) := by decide +kernel
theorem dX11_bestNow_101 : decode cX11_bestNow 101 = .ok (.iaload, 1) := by decide +kernel
theorem dX11_bestNow_102 : decode cX11_bestNow 102 = .ok (.goto 4, 3) := by decide +kernel
theorem dX11_bestNow_105 : decode cX11_bestNow 105 = .ok (.iload_n 3, 1) := by decide +kernel
theorem dX11_bestNow_106 : decode cX11_bestNow 106 = .ok (.istore_n 3, 1) := by decide +kernel
theorem dX11_bestNow_107 : decode cX11_bestNow 107 = .ok (.iinc 4 1, 3) := by decide +kernel
theorem dX11_bestNow_110 : decode cX11_bestNow 110 = .ok (.goto (-99), 3) := by decide +kernel
theorem dX11_bestNow_113 : decode cX11_bestNow 113 = .ok (.iload_n 2, 1) := by decide +kernel
theorem dX11_bestNow_114 : decode cX11_bestNow 114 = .ok (.ireturn, 1) := by decide +kernel
set_option maxRecDepth 20000 in
theorem ggX11_winsNow_X11_layWinners : GoodIn wsX11_winsNow wsX11_layWinners := goodIn_r _ [7, 2, 1, 8, 9, 10, 6, 11, 12, 13, 14, 15, 16, 17, 18, 19, 20, 21, 22, 23, 24, 25, 26, 27, 28, 29, 30, 31, 32, 33, 34, 35, 36, 37, 38, 39, 40, 41, 42, 43, 44, 45, 46, 47, 48, 49, 50, 51, 52, 53, 54, 55, 56, 57, 58, 59, 60, 61, 62, 63, 64, 65, 66, 67] (by decide +kernel) (by decide +kernel)
set_option maxRecDepth 20000 in
theorem gX11_winsNow_X11_layWinners : GoodIn wsX11_winsNow (wsV RX11 138 RX11 yX11_layWinners wsX11_layWinners) := goodIn_app (goodIn_of _ (by decide +kernel)) ggX11_winsNow_X11_layWinners
theorem dX11_winsNow_0 : decode cX11_winsNow 0 = .ok (.aload_n 0, 1) := by decide +kernel
theorem dX11_winsNow_1 : decode cX11_winsNow 1 = .ok (.invokevirtual 138, 3) := by decide +kernel
theorem dX11_winsNow_4 : decode cX11_winsNow 4 = .ok (.aload_n 0, 1) := by decide +kernel
theorem dX11_winsNow_5 : decode cX11_winsNow 5 = .ok (.getfield 29, 3) := by decide +kernel
theorem dX11_winsNow_8 : decode cX11_winsNow 8 = .ok (.iconst 2, 1) := by decide +kernel
theorem dX11_winsNow_9 : decode cX11_winsNow 9 = .ok (.aload_n 0, 1) := by decide +kernel
theorem dX11_winsNow_10 : decode cX11_winsNow 10 = .ok (.getfield 86, 3) := by decide +kernel
theorem dX11_winsNow_13 : decode cX11_winsNow 13 = .ok (.imul, 1) := by decide +kernel
theorem dX11_winsNow_14 : decode cX11_winsNow 14 = .ok (.iload_n 1, 1) := by decide +kernel
theorem dX11_winsNow_15 : decode cX11_winsNow 15 = .ok (.iadd, 1) := by decide +kernel
theorem dX11_winsNow_16 : decode cX11_winsNow 16 = .ok (.iaload, 1) := by decide +kernel
theorem dX11_winsNow_17 : decode cX11_winsNow 17 = .ok (.ireturn, 1) := by decide +kernel
set_option maxRecDepth 20000 in
theorem ggX11_lastsNow_X11_layLasting : GoodIn wsX11_lastsNow wsX11_layLasting := goodIn_r _ [7, 2, 1, 8, 9, 10, 6, 11, 12, 13, 14, 15, 16, 17, 18, 19, 20, 21, 22, 23, 24, 25, 26, 27, 28, 29, 30, 31, 32, 33, 34, 35, 36, 37, 38, 39, 40, 41, 42, 43, 44, 45, 46, 47, 48, 49, 50, 51, 52, 53, 54, 55, 56, 57, 58, 59, 60, 61, 62, 63, 64, 65, 66, 67, 68, 69, 70, 71, 72, 73, 74, 75, 76, 77] (by decide +kernel) (by decide +kernel)
set_option maxRecDepth 20000 in
theorem gX11_lastsNow_X11_layLasting : GoodIn wsX11_lastsNow (wsV RX11 144 RX11 yX11_layLasting wsX11_layLasting) := goodIn_app (goodIn_of _ (by decide +kernel)) ggX11_lastsNow_X11_layLasting
theorem dX11_lastsNow_0 : decode cX11_lastsNow 0 = .ok (.aload_n 0, 1) := by decide +kernel
theorem dX11_lastsNow_1 : decode cX11_lastsNow 1 = .ok (.invokevirtual 144, 3) := by decide +kernel
theorem dX11_lastsNow_4 : decode cX11_lastsNow 4 = .ok (.aload_n 0, 1) := by decide +kernel
theorem dX11_lastsNow_5 : decode cX11_lastsNow 5 = .ok (.getfield 32, 3) := by decide +kernel
theorem dX11_lastsNow_8 : decode cX11_lastsNow 8 = .ok (.iconst 2, 1) := by decide +kernel
theorem dX11_lastsNow_9 : decode cX11_lastsNow 9 = .ok (.aload_n 0, 1) := by decide +kernel
theorem dX11_lastsNow_10 : decode cX11_lastsNow 10 = .ok (.getfield 86, 3) := by decide +kernel
theorem dX11_lastsNow_13 : decode cX11_lastsNow 13 = .ok (.imul, 1) := by decide +kernel
theorem dX11_lastsNow_14 : decode cX11_lastsNow 14 = .ok (.iload_n 1, 1) := by decide +kernel
theorem dX11_lastsNow_15 : decode cX11_lastsNow 15 = .ok (.iadd, 1) := by decide +kernel
theorem dX11_lastsNow_16 : decode cX11_lastsNow 16 = .ok (.iaload, 1) := by decide +kernel
theorem dX11_lastsNow_17 : decode cX11_lastsNow 17 = .ok (.ireturn, 1) := by decide +kernel
set_option maxRecDepth 20000 in
theorem ggX11_refused_X11_within : GoodIn wsX11_refused wsX11_within := goodIn_r _ [5] (by decide +kernel) (by decide +kernel)
set_option maxRecDepth 20000 in
theorem gX11_refused_X11_within : GoodIn wsX11_refused (va_wsS RX11 57 yX11_within wsX11_within) := goodIn_app (goodIn_of _ (by decide +kernel)) ggX11_refused_X11_within
theorem dX11_refused_0 : decode cX11_refused 0 = .ok (.iload_n 1, 1) := by decide +kernel
theorem dX11_refused_1 : decode cX11_refused 1 = .ok (.iconst 0, 1) := by decide +kernel
theorem dX11_refused_2 : decode cX11_refused 2 = .ok (.iconst 1, 1) := by decide +kernel
theorem dX11_refused_3 : decode cX11_refused 3 = .ok (.invokestatic 57, 3) := by decide +kernel
theorem dX11_refused_6 : decode cX11_refused 6 = .ok (.ifCond .ne 8, 3) := by decide +kernel
theorem dX11_refused_9 : decode cX11_refused 9 = .ok (.bipush (-102), 2) := by decide +kernel
theorem dX11_refused_11 : decode cX11_refused 11 = .ok (.goto 16, 3) := by decide +kernel
theorem dX11_refused_14 : decode cX11_refused 14 = .ok (.aload_n 0, 1) := by decide +kernel
theorem dX11_refused_15 : decode cX11_refused 15 = .ok (.getfield 83, 3) := by decide +kernel
theorem dX11_refused_18 : decode cX11_refused 18 = .ok (.ifCond .ne 8, 3) := by decide +kernel
theorem dX11_refused_21 : decode cX11_refused 21 = .ok (.bipush (-103), 2) := by decide +kernel
theorem dX11_refused_23 : decode cX11_refused 23 = .ok (.goto 4, 3) := by decide +kernel
theorem dX11_refused_26 : decode cX11_refused 26 = .ok (.iconst 0, 1) := by decide +kernel
theorem dX11_refused_27 : decode cX11_refused 27 = .ok (.ireturn, 1) := by decide +kernel
set_option maxRecDepth 20000 in
theorem ggX11_wins_X11_refused : GoodIn wsX11_wins wsX11_refused := goodIn_r _ [5, 6, 7, 8, 4, 9, 45, 46, 47, 48, 49, 50, 51, 52, 53, 54, 55, 56, 57, 58, 59, 60, 61, 62, 63, 64, 65, 66, 67, 68, 69, 70, 71, 72, 73, 74, 75, 76, 77, 78] (by decide +kernel) (by decide +kernel)
set_option maxRecDepth 20000 in
theorem gX11_wins_X11_refused : GoodIn wsX11_wins (wsV RX11 147 RX11 yX11_refused wsX11_refused) := goodIn_app (goodIn_of _ (by decide +kernel)) ggX11_wins_X11_refused
set_option maxRecDepth 20000 in
theorem ggX11_wins_X11_winsNow : GoodIn wsX11_wins wsX11_winsNow := goodIn_r _ [13, 14, 15, 16, 17, 18, 4, 19, 20, 21, 22, 23, 6, 24, 25, 26, 27, 28, 29, 30, 31, 32, 33, 34, 35, 36, 37, 38, 39, 40, 41, 42, 43, 44, 45, 46, 47, 48, 49, 50, 51, 52, 53, 54, 55, 56, 57, 58, 59, 60, 61, 62, 63, 64, 65, 66, 67, 68, 69, 70, 71, 72, 73, 74, 75, 76, 77, 78] (by decide +kernel) (by decide +kernel)
set_option maxRecDepth 20000 in
theorem gX11_wins_X11_winsNow : GoodIn wsX11_wins (wsV RX11 150 RX11 yX11_winsNow wsX11_winsNow) := goodIn_app (goodIn_of _ (by decide +kernel)) ggX11_wins_X11_winsNow
theorem dX11_wins_0 : decode cX11_wins 0 = .ok (.aload_n 0, 1) := by decide +kernel
theorem dX11_wins_1 : decode cX11_wins 1 = .ok (.iload_n 1, 1) := by decide +kernel
theorem dX11_wins_2 : decode cX11_wins 2 = .ok (.invokevirtual 147, 3) := by decide +kernel
theorem dX11_wins_5 : decode cX11_wins 5 = .ok (.ifCond .ge 11, 3) := by decide +kernel
theorem dX11_wins_8 : decode cX11_wins 8 = .ok (.aload_n 0, 1) := by decide +kernel
theorem dX11_wins_9 : decode cX11_wins 9 = .ok (.iload_n 1, 1) := by decide +kernel
theorem dX11_wins_10 : decode cX11_wins 10 = .ok (.invokevirtual 147, 3) := by decide +kernel
theorem dX11_wins_13 : decode cX11_wins 13 = .ok (.goto 8, 3) := by decide +kernel
theorem dX11_wins_16 : decode cX11_wins 16 = .ok (.aload_n 0, 1) := by decide +kernel
theorem dX11_wins_17 : decode cX11_wins 17 = .ok (.iload_n 1, 1) := by decide +kernel
theorem dX11_wins_18 : decode cX11_wins 18 = .ok (.invokevirtual 150, 3) := by decide +kernel
theorem dX11_wins_21 : decode cX11_wins 21 = .ok (.ireturn, 1) := by decide +kernel
set_option maxRecDepth 20000 in
theorem ggX11_best_X11_refused : GoodIn wsX11_best wsX11_refused := goodIn_r _ [5, 6, 7, 8, 4, 9, 55, 56, 57, 58, 59, 60, 61, 62, 63, 64, 65, 66, 67, 68, 69, 70, 71, 72, 73, 74, 75, 76, 77, 78, 79, 80, 81, 82, 83, 84, 85, 86, 87, 88] (by decide +kernel) (by decide +kernel)
set_option maxRecDepth 20000 in
theorem gX11_best_X11_refused : GoodIn wsX11_best (wsV RX11 147 RX11 yX11_refused wsX11_refused) := goodIn_app (goodIn_of _ (by decide +kernel)) ggX11_best_X11_refused
set_option maxRecDepth 20000 in
theorem ggX11_best_X11_bestNow : GoodIn wsX11_best wsX11_bestNow := goodIn_r _ [13, 6, 14, 15, 16, 17, 18, 19, 4, 20, 21, 22, 23, 24, 25, 26, 27, 28, 29, 30, 31, 32, 33, 34, 35, 36, 37, 38, 39, 40, 41, 42, 43, 44, 45, 46, 47, 48, 49, 50, 51, 52, 53, 54, 55, 56, 57, 58, 59, 60, 61, 62, 63, 64, 65, 66, 67, 68, 69, 70, 71, 72, 73, 74, 75, 76, 77, 78, 79, 80, 81, 82, 83, 84, 85, 86, 87, 88] (by decide +kernel) (by decide +kernel)
set_option maxRecDepth 20000 in
theorem gX11_best_X11_bestNow : GoodIn wsX11_best (wsV RX11 153 RX11 yX11_bestNow wsX11_bestNow) := goodIn_app (goodIn_of _ (by decide +kernel)) ggX11_best_X11_bestNow
theorem dX11_best_0 : decode cX11_best 0 = .ok (.aload_n 0, 1) := by decide +kernel
theorem dX11_best_1 : decode cX11_best 1 = .ok (.iload_n 1, 1) := by decide +kernel
theorem dX11_best_2 : decode cX11_best 2 = .ok (.invokevirtual 147, 3) := by decide +kernel
theorem dX11_best_5 : decode cX11_best 5 = .ok (.ifCond .ge 11, 3) := by decide +kernel
theorem dX11_best_8 : decode cX11_best 8 = .ok (.aload_n 0, 1) := by decide +kernel
theorem dX11_best_9 : decode cX11_best 9 = .ok (.iload_n 1, 1) := by decide +kernel
theorem dX11_best_10 : decode cX11_best 10 = .ok (.invokevirtual 147, 3) := by decide +kernel
theorem dX11_best_13 : decode cX11_best 13 = .ok (.goto 8, 3) := by decide +kernel
theorem dX11_best_16 : decode cX11_best 16 = .ok (.aload_n 0, 1) := by decide +kernel
theorem dX11_best_17 : decode cX11_best 17 = .ok (.iload_n 1, 1) := by decide +kernel
theorem dX11_best_18 : decode cX11_best 18 = .ok (.invokevirtual 153, 3) := by decide +kernel
theorem dX11_best_21 : decode cX11_best 21 = .ok (.ireturn, 1) := by decide +kernel
set_option maxRecDepth 20000 in
theorem ggX11_lasts_X11_refused : GoodIn wsX11_lasts wsX11_refused := goodIn_r _ [5, 6, 7, 8, 4, 9, 55, 56, 57, 58, 59, 60, 61, 62, 63, 64, 65, 66, 67, 68, 69, 70, 71, 72, 73, 74, 75, 76, 77, 78, 79, 80, 81, 82, 83, 84, 85, 86, 87, 88] (by decide +kernel) (by decide +kernel)
set_option maxRecDepth 20000 in
theorem gX11_lasts_X11_refused : GoodIn wsX11_lasts (wsV RX11 147 RX11 yX11_refused wsX11_refused) := goodIn_app (goodIn_of _ (by decide +kernel)) ggX11_lasts_X11_refused
set_option maxRecDepth 20000 in
theorem ggX11_lasts_X11_lastsNow : GoodIn wsX11_lasts wsX11_lastsNow := goodIn_r _ [13, 14, 15, 16, 17, 18, 4, 19, 20, 21, 22, 23, 24, 25, 26, 27, 28, 6, 29, 30, 31, 32, 33, 34, 35, 36, 37, 38, 39, 40, 41, 42, 43, 44, 45, 46, 47, 48, 49, 50, 51, 52, 53, 54, 55, 56, 57, 58, 59, 60, 61, 62, 63, 64, 65, 66, 67, 68, 69, 70, 71, 72, 73, 74, 75, 76, 77, 78, 79, 80, 81, 82, 83, 84, 85, 86, 87, 88] (by decide +kernel) (by decide +kernel)
set_option maxRecDepth 20000 in
theorem gX11_lasts_X11_lastsNow : GoodIn wsX11_lasts (wsV RX11 156 RX11 yX11_lastsNow wsX11_lastsNow) := goodIn_app (goodIn_of _ (by decide +kernel)) ggX11_lasts_X11_lastsNow
theorem dX11_lasts_0 : decode cX11_lasts 0 = .ok (.aload_n 0, 1) := by decide +kernel
theorem dX11_lasts_1 : decode cX11_lasts 1 = .ok (.iload_n 1, 1) := by decide +kernel
theorem dX11_lasts_2 : decode cX11_lasts 2 = .ok (.invokevirtual 147, 3) := by decide +kernel
theorem dX11_lasts_5 : decode cX11_lasts 5 = .ok (.ifCond .ge 11, 3) := by decide +kernel
theorem dX11_lasts_8 : decode cX11_lasts 8 = .ok (.aload_n 0, 1) := by decide +kernel
theorem dX11_lasts_9 : decode cX11_lasts 9 = .ok (.iload_n 1, 1) := by decide +kernel
theorem dX11_lasts_10 : decode cX11_lasts 10 = .ok (.invokevirtual 147, 3) := by decide +kernel
theorem dX11_lasts_13 : decode cX11_lasts 13 = .ok (.goto 8, 3) := by decide +kernel
theorem dX11_lasts_16 : decode cX11_lasts 16 = .ok (.aload_n 0, 1) := by decide +kernel
theorem dX11_lasts_17 : decode cX11_lasts 17 = .ok (.iload_n 1, 1) := by decide +kernel
theorem dX11_lasts_18 : decode cX11_lasts 18 = .ok (.invokevirtual 156, 3) := by decide +kernel
theorem dX11_lasts_21 : decode cX11_lasts 21 = .ok (.ireturn, 1) := by decide +kernel
theorem dX11_simplest_0 : decode cX11_simplest 0 = .ok (.iload_n 0, 1) := by decide +kernel
theorem dX11_simplest_1 : decode cX11_simplest 1 = .ok (.ifCond .ge 9, 3) := by decide +kernel
theorem dX11_simplest_4 : decode cX11_simplest 4 = .ok (.iload_n 1, 1) := by decide +kernel
theorem dX11_simplest_5 : decode cX11_simplest 5 = .ok (.ifCond .le 5, 3) := by decide +kernel
theorem dX11_simplest_8 : decode cX11_simplest 8 = .ok (.iconst 0, 1) := by decide +kernel
theorem dX11_simplest_9 : decode cX11_simplest 9 = .ok (.ireturn, 1) := by decide +kernel
theorem dX11_simplest_10 : decode cX11_simplest 10 = .ok (.sipush 256, 3) := by decide +kernel
theorem dX11_simplest_13 : decode cX11_simplest 13 = .ok (.istore_n 2, 1) := by decide +kernel
theorem dX11_simplest_14 : decode cX11_simplest 14 = .ok (.iload_n 2, 1) := by decide +kernel
theorem dX11_simplest_15 : decode cX11_simplest 15 = .ok (.ifCond .le 67, 3) := by decide +kernel
theorem dX11_simplest_18 : decode cX11_simplest 18 = .ok (.iload_n 0, 1) := by decide +kernel
theorem dX11_simplest_19 : decode cX11_simplest 19 = .ok (.ifCond .lt 13, 3) := by decide +kernel
theorem dX11_simplest_22 : decode cX11_simplest 22 = .ok (.iload_n 0, 1) := by decide +kernel
theorem dX11_simplest_23 : decode cX11_simplest 23 = .ok (.iload_n 2, 1) := by decide +kernel
theorem dX11_simplest_24 : decode cX11_simplest 24 = .ok (.idiv, 1) := by decide +kernel
theorem dX11_simplest_25 : decode cX11_simplest 25 = .ok (.iconst 1, 1) := by decide +kernel
theorem dX11_simplest_26 : decode cX11_simplest 26 = .ok (.iadd, 1) := by decide +kernel
theorem dX11_simplest_27 : decode cX11_simplest 27 = .ok (.iload_n 2, 1) := by decide +kernel
theorem dX11_simplest_28 : decode cX11_simplest 28 = .ok (.imul, 1) := by decide +kernel
theorem dX11_simplest_29 : decode cX11_simplest 29 = .ok (.goto 4, 3) := by decide +kernel
theorem dX11_simplest_32 : decode cX11_simplest 32 = .ok (.iconst 0, 1) := by decide +kernel
theorem dX11_simplest_33 : decode cX11_simplest 33 = .ok (.istore_n 3, 1) := by decide +kernel
theorem dX11_simplest_34 : decode cX11_simplest 34 = .ok (.iload_n 1, 1) := by decide +kernel
theorem dX11_simplest_35 : decode cX11_simplest 35 = .ok (.ifCond .gt 13, 3) := by decide +kernel
theorem dX11_simplest_38 : decode cX11_simplest 38 = .ok (.iload_n 1, 1) := by decide +kernel
theorem dX11_simplest_39 : decode cX11_simplest 39 = .ok (.iload_n 2, 1) := by decide +kernel
theorem dX11_simplest_40 : decode cX11_simplest 40 = .ok (.idiv, 1) := by decide +kernel
theorem dX11_simplest_41 : decode cX11_simplest 41 = .ok (.iconst 1, 1) := by decide +kernel
theorem dX11_simplest_42 : decode cX11_simplest 42 = .ok (.isub, 1) := by decide +kernel
theorem dX11_simplest_43 : decode cX11_simplest 43 = .ok (.iload_n 2, 1) := by decide +kernel
theorem dX11_simplest_44 : decode cX11_simplest 44 = .ok (.imul, 1) := by decide +kernel
theorem dX11_simplest_45 : decode cX11_simplest 45 = .ok (.goto 4, 3) := by decide +kernel
theorem dX11_simplest_48 : decode cX11_simplest 48 = .ok (.iconst 0, 1) := by decide +kernel
theorem dX11_simplest_49 : decode cX11_simplest 49 = .ok (.istore 4, 2) := by decide +kernel
theorem dX11_simplest_51 : decode cX11_simplest 51 = .ok (.iload_n 0, 1) := by decide +kernel
theorem dX11_simplest_52 : decode cX11_simplest 52 = .ok (.ifCond .lt 10, 3) := by decide +kernel
theorem dX11_simplest_55 : decode cX11_simplest 55 = .ok (.iload_n 3, 1) := by decide +kernel
theorem dX11_simplest_56 : decode cX11_simplest 56 = .ok (.iload_n 1, 1) := by decide +kernel
theorem dX11_simplest_57 : decode cX11_simplest 57 = .ok (.if_icmp .ge 5, 3) := by decide +kernel
theorem dX11_simplest_60 : decode cX11_simplest 60 = .ok (.iload_n 3, 1) := by decide +kernel
theorem dX11_simplest_61 : decode cX11_simplest 61 = .ok (.ireturn, 1) := by decide +kernel
theorem dX11_simplest_62 : decode cX11_simplest 62 = .ok (.iload_n 0, 1) := by decide +kernel
theorem dX11_simplest_63 : decode cX11_simplest 63 = .ok (.ifCond .ge 12, 3) := by decide +kernel
theorem dX11_simplest_66 : decode cX11_simplest 66 = .ok (.iload 4, 2) := by decide +kernel
theorem dX11_simplest_68 : decode cX11_simplest 68 = .ok (.iload_n 0, 1) := by decide +kernel
theorem dX11_simplest_69 : decode cX11_simplest 69 = .ok (.if_icmp .le 6, 3) := by decide +kernel
theorem dX11_simplest_72 : decode cX11_simplest 72 = .ok (.iload 4, 2) := by decide +kernel
theorem dX11_simplest_74 : decode cX11_simplest 74 = .ok (.ireturn, 1) := by decide +kernel
theorem dX11_simplest_75 : decode cX11_simplest 75 = .ok (.iload_n 2, 1) := by decide +kernel
theorem dX11_simplest_76 : decode cX11_simplest 76 = .ok (.iconst 2, 1) := by decide +kernel
theorem dX11_simplest_77 : decode cX11_simplest 77 = .ok (.idiv, 1) := by decide +kernel
theorem dX11_simplest_78 : decode cX11_simplest 78 = .ok (.istore_n 2, 1) := by decide +kernel
theorem dX11_simplest_79 : decode cX11_simplest 79 = .ok (.goto (-65), 3) := by decide +kernel
theorem dX11_simplest_82 : decode cX11_simplest 82 = .ok (.sipush (-9999), 3) := by decide +kernel
theorem dX11_simplest_85 : decode cX11_simplest 85 = .ok (.ireturn, 1) := by decide +kernel
set_option maxRecDepth 20000 in
theorem ggX11_worthFrom_X11_leaves : GoodIn wsX11_worthFrom wsX11_leaves := goodIn_r _ [9, 10, 11, 12, 8, 13, 3, 14, 15, 16, 17, 30, 31, 32, 33, 34, 35, 36, 37, 38, 39, 40, 41, 42, 43, 44, 45, 46, 47, 48, 49, 50, 51, 52, 53, 54, 55, 56, 57, 58, 59, 60, 61, 62, 63] (by decide +kernel) (by decide +kernel)
set_option maxRecDepth 20000 in
theorem gX11_worthFrom_X11_leaves : GoodIn wsX11_worthFrom (wsV RX11 128 RX11 yX11_leaves wsX11_leaves) := goodIn_app (goodIn_of _ (by decide +kernel)) ggX11_worthFrom_X11_leaves
set_option maxRecDepth 20000 in
theorem ggX11_worthFrom_X11_mayCut : GoodIn wsX11_worthFrom wsX11_mayCut := goodIn_r _ [21, 22, 15, 16, 8, 17, 23, 24, 25, 26, 3, 14, 30, 31, 32, 33, 34, 35, 36, 37, 38, 39, 40, 41, 42, 43, 44, 45, 46, 47, 48, 49, 50, 51, 52, 53, 54, 55, 56, 57, 58, 59, 60, 61, 62, 63] (by decide +kernel) (by decide +kernel)
set_option maxRecDepth 20000 in
theorem gX11_worthFrom_X11_mayCut : GoodIn wsX11_worthFrom (wsV RX11 111 RX11 yX11_mayCut wsX11_mayCut) := goodIn_app (goodIn_of _ (by decide +kernel)) ggX11_worthFrom_X11_mayCut
set_option maxRecDepth 20000 in
theorem ggX11_worthFrom_X11_simplest : GoodIn wsX11_worthFrom wsX11_simplest := goodIn_r _ [29] (by decide +kernel) (by decide +kernel)
set_option maxRecDepth 20000 in
theorem gX11_worthFrom_X11_simplest : GoodIn wsX11_worthFrom (va_wsS RX11 160 yX11_simplest wsX11_simplest) := goodIn_app (goodIn_of _ (by decide +kernel)) ggX11_worthFrom_X11_simplest
theorem dX11_worthFrom_0 : decode cX11_worthFrom 0 = .ok (.ldc 159, 2) := by decide +kernel
theorem dX11_worthFrom_2 : decode cX11_worthFrom 2 = .ok (.istore_n 2, 1) := by decide +kernel
theorem dX11_worthFrom_3 : decode cX11_worthFrom 3 = .ok (.ldc 134, 2) := by decide +kernel
theorem dX11_worthFrom_5 : decode cX11_worthFrom 5 = .ok (.istore_n 3, 1) := by decide +kernel
theorem dX11_worthFrom_6 : decode cX11_worthFrom 6 = .ok (.iconst 0, 1) := by decide +kernel
theorem dX11_worthFrom_7 : decode cX11_worthFrom 7 = .ok (.istore 4, 2) := by decide +kernel
theorem dX11_worthFrom_9 : decode cX11_worthFrom 9 = .ok (.iload 4, 2) := by decide +kernel
theorem dX11_worthFrom_11 : decode cX11_worthFrom 11 = .ok (.aload_n 0, 1) := by decide +kernel
theorem dX11_worthFrom_12 : decode cX11_worthFrom 12 = .ok (.getfield 83, 3) := by decide +kernel
theorem dX11_worthFrom_15 : decode cX11_worthFrom 15 = .ok (.if_icmp .ge 101, 3) := by decide +kernel
theorem dX11_worthFrom_18 : decode cX11_worthFrom 18 = .ok (.aload_n 0, 1) := by decide +kernel
theorem dX11_worthFrom_19 : decode cX11_worthFrom 19 = .ok (.getfield 35, 3) := by decide +kernel
theorem dX11_worthFrom_22 : decode cX11_worthFrom 22 = .ok (.aload_n 0, 1) := by decide +kernel
theorem dX11_worthFrom_23 : decode cX11_worthFrom 23 = .ok (.iload 4, 2) := by decide +kernel
theorem dX11_worthFrom_25 : decode cX11_worthFrom 25 = .ok (.iload_n 1, 1) := by decide +kernel
theorem dX11_worthFrom_26 : decode cX11_worthFrom 26 = .ok (.invokevirtual 128, 3) := by decide +kernel
theorem dX11_worthFrom_29 : decode cX11_worthFrom 29 = .ok (.iaload, 1) := by decide +kernel
theorem dX11_worthFrom_30 : decode cX11_worthFrom 30 = .ok (.istore 5, 2) := by decide +kernel
theorem dX11_worthFrom_32 : decode cX11_worthFrom 32 = .ok (.aload_n 0, 1) := by decide +kernel
theorem dX11_worthFrom_33 : decode cX11_worthFrom 33 = .ok (.iconst 0, 1) := by decide +kernel
theorem dX11_worthFrom_34 : decode cX11_worthFrom 34 = .ok (.iload 4, 2) := by decide +kernel
theorem dX11_worthFrom_36 : decode cX11_worthFrom 36 = .ok (.iload_n 1, 1) := by decide +kernel
theorem dX11_worthFrom_37 : decode cX11_worthFrom 37 = .ok (.invokevirtual 111, 3) := by decide +kernel
theorem dX11_worthFrom_40 : decode cX11_worthFrom 40 = .ok (.istore 6, 2) := by decide +kernel
theorem dX11_worthFrom_42 : decode cX11_worthFrom 42 = .ok (.aload_n 0, 1) := by decide +kernel
theorem dX11_worthFrom_43 : decode cX11_worthFrom 43 = .ok (.iconst 1, 1) := by decide +kernel
theorem dX11_worthFrom_44 : decode cX11_worthFrom 44 = .ok (.iload 4, 2) := by decide +kernel
theorem dX11_worthFrom_46 : decode cX11_worthFrom 46 = .ok (.iload_n 1, 1) := by decide +kernel
theorem dX11_worthFrom_47 : decode cX11_worthFrom 47 = .ok (.invokevirtual 111, 3) := by decide +kernel
theorem dX11_worthFrom_50 : decode cX11_worthFrom 50 = .ok (.istore 7, 2) := by decide +kernel
theorem dX11_worthFrom_52 : decode cX11_worthFrom 52 = .ok (.iload 6, 2) := by decide +kernel
theorem dX11_worthFrom_54 : decode cX11_worthFrom 54 = .ok (.ifCond .ne 8, 3) := by decide +kernel
theorem dX11_worthFrom_57 : decode cX11_worthFrom 57 = .ok (.iload 7, 2) := by decide +kernel
theorem dX11_worthFrom_59 : decode cX11_worthFrom 59 = .ok (.ifCond .eq 15, 3) := by decide +kernel
theorem dX11_worthFrom_62 : decode cX11_worthFrom 62 = .ok (.iload 5, 2) := by decide +kernel
theorem dX11_worthFrom_64 : decode cX11_worthFrom 64 = .ok (.sipush (-9999), 3) := by decide +kernel
theorem dX11_worthFrom_67 : decode cX11_worthFrom 67 = .ok (.if_icmp .ne 7, 3) := by decide +kernel
theorem dX11_worthFrom_70 : decode cX11_worthFrom 70 = .ok (.sipush (-9999), 3) := by decide +kernel
theorem dX11_worthFrom_73 : decode cX11_worthFrom 73 = .ok (.ireturn, 1) := by decide +kernel
theorem dX11_worthFrom_74 : decode cX11_worthFrom 74 = .ok (.iload 6, 2) := by decide +kernel
theorem dX11_worthFrom_76 : decode cX11_worthFrom 76 = .ok (.ifCond .eq 14, 3) := by decide +kernel
theorem dX11_worthFrom_79 : decode cX11_worthFrom 79 = .ok (.iload 5, 2) := by decide +kernel
theorem dX11_worthFrom_81 : decode cX11_worthFrom 81 = .ok (.iload_n 2, 1) := by decide +kernel
theorem dX11_worthFrom_82 : decode cX11_worthFrom 82 = .ok (.if_icmp .le 8, 3) := by decide +kernel
theorem dX11_worthFrom_85 : decode cX11_worthFrom 85 = .ok (.iload 5, 2) := by decide +kernel
theorem dX11_worthFrom_87 : decode cX11_worthFrom 87 = .ok (.goto 4, 3) := by decide +kernel
theorem dX11_worthFrom_90 : decode cX11_worthFrom 90 = .ok (.iload_n 2, 1) := by decide +kernel
theorem dX11_worthFrom_91 : decode cX11_worthFrom 91 = .ok (.istore_n 2, 1) := by decide +kernel
theorem dX11_worthFrom_92 : decode cX11_worthFrom 92 = .ok (.iload 7, 2) := by decide +kernel
theorem dX11_worthFrom_94 : decode cX11_worthFrom 94 = .ok (.ifCond .eq 14, 3) := by decide +kernel
theorem dX11_worthFrom_97 : decode cX11_worthFrom 97 = .ok (.iload 5, 2) := by decide +kernel
theorem dX11_worthFrom_99 : decode cX11_worthFrom 99 = .ok (.iload_n 3, 1) := by decide +kernel
theorem dX11_worthFrom_100 : decode cX11_worthFrom 100 = .ok (.if_icmp .ge 8, 3) := by decide +kernel
theorem dX11_worthFrom_103 : decode cX11_worthFrom 103 = .ok (.iload 5, 2) := by decide +kernel
theorem dX11_worthFrom_105 : decode cX11_worthFrom 105 = .ok (.goto 4, 3) := by decide +kernel
theorem dX11_worthFrom_108 : decode cX11_worthFrom 108 = .ok (.iload_n 3, 1) := by decide +kernel
theorem dX11_worthFrom_109 : decode cX11_worthFrom 109 = .ok (.istore_n 3, 1) := by decide +kernel
theorem dX11_worthFrom_110 : decode cX11_worthFrom 110 = .ok (.iinc 4 1, 3) := by decide +kernel
theorem dX11_worthFrom_113 : decode cX11_worthFrom 113 = .ok (.goto (-104), 3) := by decide +kernel
theorem dX11_worthFrom_116 : decode cX11_worthFrom 116 = .ok (.iload_n 2, 1) := by decide +kernel
theorem dX11_worthFrom_117 : decode cX11_worthFrom 117 = .ok (.iload_n 3, 1) := by decide +kernel
theorem dX11_worthFrom_118 : decode cX11_worthFrom 118 = .ok (.if_icmp .ge 11, 3) := by decide +kernel
theorem dX11_worthFrom_121 : decode cX11_worthFrom 121 = .ok (.iload_n 2, 1) := by decide +kernel
theorem dX11_worthFrom_122 : decode cX11_worthFrom 122 = .ok (.iload_n 3, 1) := by decide +kernel
theorem dX11_worthFrom_123 : decode cX11_worthFrom 123 = .ok (.invokestatic 160, 3) := by decide +kernel
theorem dX11_worthFrom_126 : decode cX11_worthFrom 126 = .ok (.goto 6, 3) := by decide +kernel
theorem dX11_worthFrom_129 : decode cX11_worthFrom 129 = .ok (.sipush (-9999), 3) := by decide +kernel
theorem dX11_worthFrom_132 : decode cX11_worthFrom 132 = .ok (.ireturn, 1) := by decide +kernel
set_option maxRecDepth 20000 in
theorem ggX11_layWorth_X11_worthFrom : GoodIn wsX11_layWorth wsX11_worthFrom := goodIn_r _ [7, 8, 9, 10, 2, 11, 12, 13, 6, 14, 15, 16, 17, 18, 19, 20, 21, 22, 23, 24, 25, 26, 27, 28, 29, 30, 31, 32, 33, 34, 35, 36, 37, 38, 39, 40, 41, 42, 43, 44, 45, 46, 47, 48, 49, 50, 51, 52, 53, 54, 55, 56, 57, 58, 59, 60, 61, 62, 63, 64, 65, 66, 67, 68] (by decide +kernel) (by decide +kernel)
set_option maxRecDepth 20000 in
theorem gX11_layWorth_X11_worthFrom : GoodIn wsX11_layWorth (wsV RX11 163 RX11 yX11_worthFrom wsX11_worthFrom) := goodIn_app (goodIn_of _ (by decide +kernel)) ggX11_layWorth_X11_worthFrom
theorem dX11_layWorth_0 : decode cX11_layWorth 0 = .ok (.iconst 0, 1) := by decide +kernel
theorem dX11_layWorth_1 : decode cX11_layWorth 1 = .ok (.istore_n 1, 1) := by decide +kernel
theorem dX11_layWorth_2 : decode cX11_layWorth 2 = .ok (.iload_n 1, 1) := by decide +kernel
theorem dX11_layWorth_3 : decode cX11_layWorth 3 = .ok (.aload_n 0, 1) := by decide +kernel
theorem dX11_layWorth_4 : decode cX11_layWorth 4 = .ok (.getfield 86, 3) := by decide +kernel
theorem dX11_layWorth_7 : decode cX11_layWorth 7 = .ok (.if_icmp .gt 31, 3) := by decide +kernel
theorem dX11_layWorth_10 : decode cX11_layWorth 10 = .ok (.iload_n 1, 1) := by decide +kernel
theorem dX11_layWorth_11 : decode cX11_layWorth 11 = .ok (.aload_n 0, 1) := by decide +kernel
theorem dX11_layWorth_12 : decode cX11_layWorth 12 = .ok (.getfield 86, 3) := by decide +kernel
theorem dX11_layWorth_15 : decode cX11_layWorth 15 = .ok (.iconst (-1), 1) := by decide +kernel
theorem dX11_layWorth_16 : decode cX11_layWorth 16 = .ok (.ixor, 1) := by decide +kernel
theorem dX11_layWorth_17 : decode cX11_layWorth 17 = .ok (.iand, 1) := by decide +kernel
theorem dX11_layWorth_18 : decode cX11_layWorth 18 = .ok (.ifCond .ne 14, 3) := by decide +kernel
theorem dX11_layWorth_21 : decode cX11_layWorth 21 = .ok (.aload_n 0, 1) := by decide +kernel
theorem dX11_layWorth_22 : decode cX11_layWorth 22 = .ok (.getfield 35, 3) := by decide +kernel
theorem dX11_layWorth_25 : decode cX11_layWorth 25 = .ok (.iload_n 1, 1) := by decide +kernel
theorem dX11_layWorth_26 : decode cX11_layWorth 26 = .ok (.aload_n 0, 1) := by decide +kernel
theorem dX11_layWorth_27 : decode cX11_layWorth 27 = .ok (.iload_n 1, 1) := by decide +kernel
theorem dX11_layWorth_28 : decode cX11_layWorth 28 = .ok (.invokevirtual 163, 3) := by decide +kernel
theorem dX11_layWorth_31 : decode cX11_layWorth 31 = .ok (.iastore, 1) := by decide +kernel
theorem dX11_layWorth_32 : decode cX11_layWorth 32 = .ok (.iinc 1 1, 3) := by decide +kernel
theorem dX11_layWorth_35 : decode cX11_layWorth 35 = .ok (.goto (-33), 3) := by decide +kernel
theorem dX11_layWorth_38 : decode cX11_layWorth 38 = .ok (.return_, 1) := by decide +kernel
set_option maxRecDepth 20000 in
theorem ggX11_worth_X11_layWorth : GoodIn wsX11_worth wsX11_layWorth := goodIn_r _ [8, 3, 2, 9, 10, 11, 7, 12, 13, 14, 1, 15, 16, 17, 18, 19, 20, 21, 22, 23, 24, 25, 26, 27, 28, 29, 30, 31, 32, 33, 34, 35, 36, 37, 38, 39, 40, 41, 42, 43, 44, 45, 46, 47, 48, 49, 50, 51, 52, 53, 54, 55, 56, 57, 58, 59, 60, 61, 62, 63, 64, 65, 66, 67, 68, 69, 70, 71, 72] (by decide +kernel) (by decide +kernel)
set_option maxRecDepth 20000 in
theorem gX11_worth_X11_layWorth : GoodIn wsX11_worth (wsV RX11 166 RX11 yX11_layWorth wsX11_layWorth) := goodIn_app (goodIn_of _ (by decide +kernel)) ggX11_worth_X11_layWorth
theorem dX11_worth_0 : decode cX11_worth 0 = .ok (.aload_n 0, 1) := by decide +kernel
theorem dX11_worth_1 : decode cX11_worth 1 = .ok (.getfield 83, 3) := by decide +kernel
theorem dX11_worth_4 : decode cX11_worth 4 = .ok (.ifCond .ne 6, 3) := by decide +kernel
theorem dX11_worth_7 : decode cX11_worth 7 = .ok (.bipush (-103), 2) := by decide +kernel
theorem dX11_worth_9 : decode cX11_worth 9 = .ok (.ireturn, 1) := by decide +kernel
theorem dX11_worth_10 : decode cX11_worth 10 = .ok (.aload_n 0, 1) := by decide +kernel
theorem dX11_worth_11 : decode cX11_worth 11 = .ok (.invokevirtual 166, 3) := by decide +kernel
theorem dX11_worth_14 : decode cX11_worth 14 = .ok (.aload_n 0, 1) := by decide +kernel
theorem dX11_worth_15 : decode cX11_worth 15 = .ok (.getfield 35, 3) := by decide +kernel
theorem dX11_worth_18 : decode cX11_worth 18 = .ok (.aload_n 0, 1) := by decide +kernel
theorem dX11_worth_19 : decode cX11_worth 19 = .ok (.getfield 86, 3) := by decide +kernel
theorem dX11_worth_22 : decode cX11_worth 22 = .ok (.iaload, 1) := by decide +kernel
theorem dX11_worth_23 : decode cX11_worth 23 = .ok (.ireturn, 1) := by decide +kernel
set_option maxRecDepth 20000 in
theorem ggX11_treeNow_X11_layWorth : GoodIn wsX11_treeNow wsX11_layWorth := goodIn_r _ [7, 2, 1, 8, 9, 10, 6, 11, 12, 13, 14, 15, 16, 17, 18, 19, 20, 21, 22, 23, 24, 25, 26, 27, 28, 29, 30, 31, 32, 33, 34, 35, 36, 37, 38, 39, 40, 41, 42, 43, 44, 45, 46, 47, 48, 49, 50, 51, 52, 53, 54, 55, 56, 57, 58, 59, 60, 61, 62, 63, 64, 65, 66, 67, 68, 69, 70, 71, 72] (by decide +kernel) (by decide +kernel)
set_option maxRecDepth 20000 in
theorem gX11_treeNow_X11_layWorth : GoodIn wsX11_treeNow (wsV RX11 166 RX11 yX11_layWorth wsX11_layWorth) := goodIn_app (goodIn_of _ (by decide +kernel)) ggX11_treeNow_X11_layWorth
set_option maxRecDepth 20000 in
theorem ggX11_treeNow_X11_above : GoodIn wsX11_treeNow wsX11_above := goodIn_r _ [22, 14, 23, 24, 25, 6, 26, 39, 40, 41, 42, 43, 44, 45, 46, 47, 48, 49, 50, 51, 52, 53, 54, 55, 56, 57, 58, 59, 60, 61, 62, 63, 64, 65, 66, 67, 68, 69, 70, 71, 72] (by decide +kernel) (by decide +kernel)
set_option maxRecDepth 20000 in
theorem gX11_treeNow_X11_above : GoodIn wsX11_treeNow (wsV RX11 108 RX11 yX11_above wsX11_above) := goodIn_app (goodIn_of _ (by decide +kernel)) ggX11_treeNow_X11_above
theorem dX11_treeNow_0 : decode cX11_treeNow 0 = .ok (.aload_n 0, 1) := by decide +kernel
theorem dX11_treeNow_1 : decode cX11_treeNow 1 = .ok (.invokevirtual 166, 3) := by decide +kernel
theorem dX11_treeNow_4 : decode cX11_treeNow 4 = .ok (.aload_n 0, 1) := by decide +kernel
theorem dX11_treeNow_5 : decode cX11_treeNow 5 = .ok (.getfield 35, 3) := by decide +kernel
theorem dX11_treeNow_8 : decode cX11_treeNow 8 = .ok (.aload_n 0, 1) := by decide +kernel
theorem dX11_treeNow_9 : decode cX11_treeNow 9 = .ok (.getfield 86, 3) := by decide +kernel
theorem dX11_treeNow_12 : decode cX11_treeNow 12 = .ok (.aload_n 0, 1) := by decide +kernel
theorem dX11_treeNow_13 : decode cX11_treeNow 13 = .ok (.iload_n 1, 1) := by decide +kernel
theorem dX11_treeNow_14 : decode cX11_treeNow 14 = .ok (.invokevirtual 108, 3) := by decide +kernel
theorem dX11_treeNow_17 : decode cX11_treeNow 17 = .ok (.iconst 1, 1) := by decide +kernel
theorem dX11_treeNow_18 : decode cX11_treeNow 18 = .ok (.iload_n 1, 1) := by decide +kernel
theorem dX11_treeNow_19 : decode cX11_treeNow 19 = .ok (.ishl, 1) := by decide +kernel
theorem dX11_treeNow_20 : decode cX11_treeNow 20 = .ok (.ior, 1) := by decide +kernel
theorem dX11_treeNow_21 : decode cX11_treeNow 21 = .ok (.iand, 1) := by decide +kernel
theorem dX11_treeNow_22 : decode cX11_treeNow 22 = .ok (.iaload, 1) := by decide +kernel
theorem dX11_treeNow_23 : decode cX11_treeNow 23 = .ok (.ireturn, 1) := by decide +kernel
set_option maxRecDepth 20000 in
theorem ggX11_tree_X11_isBranch : GoodIn wsX11_tree wsX11_isBranch := goodIn_r _ [6, 7, 8, 9, 5, 10, 50, 51, 52, 53, 54, 55, 56, 57, 58, 59, 60, 61, 62, 63, 64, 65, 66, 67, 68, 69, 70, 71, 72, 73, 74, 75, 76, 77, 78, 79, 80, 81, 82, 83] (by decide +kernel) (by decide +kernel)
set_option maxRecDepth 20000 in
theorem gX11_tree_X11_isBranch : GoodIn wsX11_tree (wsV RX11 120 RX11 yX11_isBranch wsX11_isBranch) := goodIn_app (goodIn_of _ (by decide +kernel)) ggX11_tree_X11_isBranch
set_option maxRecDepth 20000 in
theorem ggX11_tree_X11_treeNow : GoodIn wsX11_tree wsX11_treeNow := goodIn_r _ [14, 15, 16, 17, 18, 19, 5, 20, 21, 22, 23, 24, 25, 26, 7, 27, 28, 29, 30, 31, 32, 33, 34, 1, 35, 36, 37, 38, 39, 40, 41, 42, 43, 44, 45, 46, 47, 48, 49, 50, 51, 52, 53, 54, 55, 56, 57, 58, 59, 60, 61, 62, 63, 64, 65, 66, 67, 68, 69, 70, 71, 72, 73, 74, 75, 76, 77, 78, 79, 80, 81, 82, 83] (by decide +kernel) (by decide +kernel)
set_option maxRecDepth 20000 in
theorem gX11_tree_X11_treeNow : GoodIn wsX11_tree (wsV RX11 169 RX11 yX11_treeNow wsX11_treeNow) := goodIn_app (goodIn_of _ (by decide +kernel)) ggX11_tree_X11_treeNow
theorem dX11_tree_0 : decode cX11_tree 0 = .ok (.aload_n 0, 1) := by decide +kernel
theorem dX11_tree_1 : decode cX11_tree 1 = .ok (.iload_n 1, 1) := by decide +kernel
theorem dX11_tree_2 : decode cX11_tree 2 = .ok (.invokevirtual 120, 3) := by decide +kernel
theorem dX11_tree_5 : decode cX11_tree 5 = .ok (.ifCond .ne 6, 3) := by decide +kernel
theorem dX11_tree_8 : decode cX11_tree 8 = .ok (.bipush (-101), 2) := by decide +kernel
theorem dX11_tree_10 : decode cX11_tree 10 = .ok (.ireturn, 1) := by decide +kernel
theorem dX11_tree_11 : decode cX11_tree 11 = .ok (.aload_n 0, 1) := by decide +kernel
theorem dX11_tree_12 : decode cX11_tree 12 = .ok (.getfield 13, 3) := by decide +kernel
theorem dX11_tree_15 : decode cX11_tree 15 = .ok (.iload_n 1, 1) := by decide +kernel
theorem dX11_tree_16 : decode cX11_tree 16 = .ok (.iaload, 1) := by decide +kernel
theorem dX11_tree_17 : decode cX11_tree 17 = .ok (.iconst (-1), 1) := by decide +kernel
theorem dX11_tree_18 : decode cX11_tree 18 = .ok (.if_icmp .ne 11, 3) := by decide +kernel
theorem dX11_tree_21 : decode cX11_tree 21 = .ok (.aload_n 0, 1) := by decide +kernel
theorem dX11_tree_22 : decode cX11_tree 22 = .ok (.iload_n 1, 1) := by decide +kernel
theorem dX11_tree_23 : decode cX11_tree 23 = .ok (.invokevirtual 169, 3) := by decide +kernel
theorem dX11_tree_26 : decode cX11_tree 26 = .ok (.goto 5, 3) := by decide +kernel
theorem dX11_tree_29 : decode cX11_tree 29 = .ok (.bipush (-103), 2) := by decide +kernel
theorem dX11_tree_31 : decode cX11_tree 31 = .ok (.ireturn, 1) := by decide +kernel
set_option maxRecDepth 20000 in
theorem ggX11_isEven_X11_layWinners : GoodIn wsX11_isEven wsX11_layWinners := goodIn_r _ [7, 2, 1, 8, 9, 10, 6, 11, 12, 13, 14, 15, 16, 17, 18, 19, 20, 21, 22, 23, 24, 25, 26, 27, 28, 29, 30, 31, 32, 33, 34, 35, 36, 37, 38, 39, 40, 41, 42, 43, 44, 45, 46, 47, 48, 49, 50, 51, 52, 53, 54, 55, 56, 57, 58, 59, 60, 61, 62, 63, 64, 65, 66, 67] (by decide +kernel) (by decide +kernel)
set_option maxRecDepth 20000 in
theorem gX11_isEven_X11_layWinners : GoodIn wsX11_isEven (wsV RX11 138 RX11 yX11_layWinners wsX11_layWinners) := goodIn_app (goodIn_of _ (by decide +kernel)) ggX11_isEven_X11_layWinners
theorem dX11_isEven_0 : decode cX11_isEven 0 = .ok (.aload_n 0, 1) := by decide +kernel
theorem dX11_isEven_1 : decode cX11_isEven 1 = .ok (.invokevirtual 138, 3) := by decide +kernel
theorem dX11_isEven_4 : decode cX11_isEven 4 = .ok (.aload_n 0, 1) := by decide +kernel
theorem dX11_isEven_5 : decode cX11_isEven 5 = .ok (.getfield 29, 3) := by decide +kernel
theorem dX11_isEven_8 : decode cX11_isEven 8 = .ok (.iconst 2, 1) := by decide +kernel
theorem dX11_isEven_9 : decode cX11_isEven 9 = .ok (.aload_n 0, 1) := by decide +kernel
theorem dX11_isEven_10 : decode cX11_isEven 10 = .ok (.getfield 86, 3) := by decide +kernel
theorem dX11_isEven_13 : decode cX11_isEven 13 = .ok (.imul, 1) := by decide +kernel
theorem dX11_isEven_14 : decode cX11_isEven 14 = .ok (.iaload, 1) := by decide +kernel
theorem dX11_isEven_15 : decode cX11_isEven 15 = .ok (.iconst 1, 1) := by decide +kernel
theorem dX11_isEven_16 : decode cX11_isEven 16 = .ok (.if_icmp .ne 23, 3) := by decide +kernel
theorem dX11_isEven_19 : decode cX11_isEven 19 = .ok (.aload_n 0, 1) := by decide +kernel
theorem dX11_isEven_20 : decode cX11_isEven 20 = .ok (.getfield 29, 3) := by decide +kernel
theorem dX11_isEven_23 : decode cX11_isEven 23 = .ok (.iconst 2, 1) := by decide +kernel
theorem dX11_isEven_24 : decode cX11_isEven 24 = .ok (.aload_n 0, 1) := by decide +kernel
theorem dX11_isEven_25 : decode cX11_isEven 25 = .ok (.getfield 86, 3) := by decide +kernel
theorem dX11_isEven_28 : decode cX11_isEven 28 = .ok (.imul, 1) := by decide +kernel
theorem dX11_isEven_29 : decode cX11_isEven 29 = .ok (.iconst 1, 1) := by decide +kernel
theorem dX11_isEven_30 : decode cX11_isEven 30 = .ok (.iadd, 1) := by decide +kernel
theorem dX11_isEven_31 : decode cX11_isEven 31 = .ok (.iaload, 1) := by decide +kernel
theorem dX11_isEven_32 : decode cX11_isEven 32 = .ok (.ifCond .ne 7, 3) := by decide +kernel
theorem dX11_isEven_35 : decode cX11_isEven 35 = .ok (.iconst 1, 1) := by decide +kernel
theorem dX11_isEven_36 : decode cX11_isEven 36 = .ok (.goto 4, 3) := by decide +kernel
theorem dX11_isEven_39 : decode cX11_isEven 39 = .ok (.iconst 0, 1) := by decide +kernel
theorem dX11_isEven_40 : decode cX11_isEven 40 = .ok (.ireturn, 1) := by decide +kernel
set_option maxRecDepth 20000 in
theorem ggX11_evenNow_X11_isEven : GoodIn wsX11_evenNow wsX11_isEven := goodIn_r _ [7, 8, 9, 10, 11, 12, 6, 13, 14, 15, 16, 17, 1, 18, 19, 20, 21, 2, 22, 23, 24, 25, 26, 27, 28, 29, 30, 31, 32, 33, 34, 35, 36, 37, 38, 39, 40, 41, 42, 43, 44, 45, 46, 47, 48, 49, 50, 51, 52, 53, 54, 55, 56, 57, 58, 59, 60, 61, 62, 63, 64, 65, 66, 67, 68, 69, 70, 71] (by decide +kernel) (by decide +kernel)
set_option maxRecDepth 20000 in
theorem gX11_evenNow_X11_isEven : GoodIn wsX11_evenNow (wsV RX11 172 RX11 yX11_isEven wsX11_isEven) := goodIn_app (goodIn_of _ (by decide +kernel)) ggX11_evenNow_X11_isEven
theorem dX11_evenNow_0 : decode cX11_evenNow 0 = .ok (.aload_n 0, 1) := by decide +kernel
theorem dX11_evenNow_1 : decode cX11_evenNow 1 = .ok (.invokevirtual 172, 3) := by decide +kernel
theorem dX11_evenNow_4 : decode cX11_evenNow 4 = .ok (.ifCond .eq 6, 3) := by decide +kernel
theorem dX11_evenNow_7 : decode cX11_evenNow 7 = .ok (.bipush (-2), 2) := by decide +kernel
theorem dX11_evenNow_9 : decode cX11_evenNow 9 = .ok (.ireturn, 1) := by decide +kernel
theorem dX11_evenNow_10 : decode cX11_evenNow 10 = .ok (.iconst (-1), 1) := by decide +kernel
theorem dX11_evenNow_11 : decode cX11_evenNow 11 = .ok (.istore_n 1, 1) := by decide +kernel
theorem dX11_evenNow_12 : decode cX11_evenNow 12 = .ok (.iconst 0, 1) := by decide +kernel
theorem dX11_evenNow_13 : decode cX11_evenNow 13 = .ok (.istore_n 2, 1) := by decide +kernel
theorem dX11_evenNow_14 : decode cX11_evenNow 14 = .ok (.iload_n 2, 1) := by decide +kernel
theorem dX11_evenNow_15 : decode cX11_evenNow 15 = .ok (.aload_n 0, 1) := by decide +kernel
theorem dX11_evenNow_16 : decode cX11_evenNow 16 = .ok (.getfield 83, 3) := by decide +kernel
theorem dX11_evenNow_19 : decode cX11_evenNow 19 = .ok (.if_icmp .ge 83, 3) := by decide +kernel
theorem dX11_evenNow_22 : decode cX11_evenNow 22 = .ok (.aload_n 0, 1) := by decide +kernel
theorem dX11_evenNow_23 : decode cX11_evenNow 23 = .ok (.getfield 7, 3) := by decide +kernel
theorem dX11_evenNow_26 : decode cX11_evenNow 26 = .ok (.iload_n 2, 1) := by decide +kernel
theorem dX11_evenNow_27 : decode cX11_evenNow 27 = .ok (.iaload, 1) := by decide +kernel
theorem dX11_evenNow_28 : decode cX11_evenNow 28 = .ok (.istore_n 3, 1) := by decide +kernel
theorem dX11_evenNow_29 : decode cX11_evenNow 29 = .ok (.iconst 0, 1) := by decide +kernel
theorem dX11_evenNow_30 : decode cX11_evenNow 30 = .ok (.istore 4, 2) := by decide +kernel
theorem dX11_evenNow_32 : decode cX11_evenNow 32 = .ok (.iload 4, 2) := by decide +kernel
theorem dX11_evenNow_34 : decode cX11_evenNow 34 = .ok (.iconst 4, 1) := by decide +kernel
theorem dX11_evenNow_35 : decode cX11_evenNow 35 = .ok (.if_icmp .gt 47, 3) := by decide +kernel
theorem dX11_evenNow_38 : decode cX11_evenNow 38 = .ok (.iload_n 1, 1) := by decide +kernel
theorem dX11_evenNow_39 : decode cX11_evenNow 39 = .ok (.iconst (-1), 1) := by decide +kernel
theorem dX11_evenNow_40 : decode cX11_evenNow 40 = .ok (.if_icmp .ne 42, 3) := by decide +kernel
theorem dX11_evenNow_43 : decode cX11_evenNow 43 = .ok (.aload_n 0, 1) := by decide +kernel
theorem dX11_evenNow_44 : decode cX11_evenNow 44 = .ok (.getfield 7, 3) := by decide +kernel
theorem dX11_evenNow_47 : decode cX11_evenNow 47 = .ok (.iload_n 2, 1) := by decide +kernel
theorem dX11_evenNow_48 : decode cX11_evenNow 48 = .ok (.iload 4, 2) := by decide +kernel
theorem dX11_evenNow_50 : decode cX11_evenNow 50 = .ok (.iastore, 1) := by decide +kernel
theorem dX11_evenNow_51 : decode cX11_evenNow 51 = .ok (.iload 4, 2) := by decide +kernel
theorem dX11_evenNow_53 : decode cX11_evenNow 53 = .ok (.iload_n 3, 1) := by decide +kernel
theorem dX11_evenNow_54 : decode cX11_evenNow 54 = .ok (.if_icmp .eq 20, 3) := by decide +kernel
theorem dX11_evenNow_57 : decode cX11_evenNow 57 = .ok (.aload_n 0, 1) := by decide +kernel
theorem dX11_evenNow_58 : decode cX11_evenNow 58 = .ok (.invokevirtual 172, 3) := by decide +kernel
theorem dX11_evenNow_61 : decode cX11_evenNow 61 = .ok (.ifCond .eq 13, 3) := by decide +kernel
theorem dX11_evenNow_64 : decode cX11_evenNow 64 = .ok (.bipush 10, 2) := by decide +kernel
theorem dX11_evenNow_66 : decode cX11_evenNow 66 = .ok (.iload_n 2, 1) := by decide +kernel
theorem dX11_evenNow_67 : decode cX11_evenNow 67 = .ok (.imul, 1) := by decide +kernel
theorem dX11_evenNow_68 : decode cX11_evenNow 68 = .ok (.iload 4, 2) := by decide +kernel
theorem dX11_evenNow_70 : decode cX11_evenNow 70 = .ok (.iadd, 1) := by decide +kernel
theorem dX11_evenNow_71 : decode cX11_evenNow 71 = .ok (.goto 4, 3) := by decide +kernel
theorem dX11_evenNow_74 : decode cX11_evenNow 74 = .ok (.iconst (-1), 1) := by decide +kernel
theorem dX11_evenNow_75 : decode cX11_evenNow 75 = .ok (.istore_n 1, 1) := by decide +kernel
theorem dX11_evenNow_76 : decode cX11_evenNow 76 = .ok (.iinc 4 1, 3) := by decide +kernel
theorem dX11_evenNow_79 : decode cX11_evenNow 79 = .ok (.goto (-47), 3) := by decide +kernel
theorem dX11_evenNow_82 : decode cX11_evenNow 82 = .ok (.aload_n 0, 1) := by decide +kernel
theorem dX11_evenNow_83 : decode cX11_evenNow 83 = .ok (.getfield 7, 3) := by decide +kernel
theorem dX11_evenNow_86 : decode cX11_evenNow 86 = .ok (.iload_n 2, 1) := by decide +kernel
theorem dX11_evenNow_87 : decode cX11_evenNow 87 = .ok (.iload_n 3, 1) := by decide +kernel
theorem dX11_evenNow_88 : decode cX11_evenNow 88 = .ok (.iastore, 1) := by decide +kernel
theorem dX11_evenNow_89 : decode cX11_evenNow 89 = .ok (.iload_n 1, 1) := by decide +kernel
theorem dX11_evenNow_90 : decode cX11_evenNow 90 = .ok (.iconst (-1), 1) := by decide +kernel
theorem dX11_evenNow_91 : decode cX11_evenNow 91 = .ok (.if_icmp .eq 5, 3) := by decide +kernel
theorem dX11_evenNow_94 : decode cX11_evenNow 94 = .ok (.iload_n 1, 1) := by decide +kernel
theorem dX11_evenNow_95 : decode cX11_evenNow 95 = .ok (.ireturn, 1) := by decide +kernel
theorem dX11_evenNow_96 : decode cX11_evenNow 96 = .ok (.iinc 2 1, 3) := by decide +kernel
theorem dX11_evenNow_99 : decode cX11_evenNow 99 = .ok (.goto (-85), 3) := by decide +kernel
theorem dX11_evenNow_102 : decode cX11_evenNow 102 = .ok (.iconst (-1), 1) := by decide +kernel
theorem dX11_evenNow_103 : decode cX11_evenNow 103 = .ok (.ireturn, 1) := by decide +kernel
set_option maxRecDepth 20000 in
theorem ggX11_even_X11_evenNow : GoodIn wsX11_even wsX11_evenNow := goodIn_r _ [7, 1, 8, 9, 10, 11, 6, 12, 13, 14, 15, 16, 17, 18, 19, 20, 21, 22, 23, 24, 25, 26, 27, 28, 29, 30, 31, 32, 33, 34, 35, 36, 37, 38, 39, 40, 41, 42, 43, 44, 45, 46, 47, 48, 49, 50, 51, 52, 53, 54, 55, 56, 57, 58, 59, 60, 61, 62, 63, 64, 65, 66, 67, 68, 69, 70, 71, 72, 73, 74, 75, 76] (by decide +kernel) (by decide +kernel)
set_option maxRecDepth 20000 in
theorem gX11_even_X11_evenNow : GoodIn wsX11_even (wsV RX11 179 RX11 yX11_evenNow wsX11_evenNow) := goodIn_app (goodIn_of _ (by decide +kernel)) ggX11_even_X11_evenNow
theorem dX11_even_0 : decode cX11_even 0 = .ok (.aload_n 0, 1) := by decide +kernel
theorem dX11_even_1 : decode cX11_even 1 = .ok (.getfield 83, 3) := by decide +kernel
theorem dX11_even_4 : decode cX11_even 4 = .ok (.ifCond .eq 12, 3) := by decide +kernel
theorem dX11_even_7 : decode cX11_even 7 = .ok (.aload_n 0, 1) := by decide +kernel
theorem dX11_even_8 : decode cX11_even 8 = .ok (.getfield 176, 3) := by decide +kernel
theorem dX11_even_11 : decode cX11_even 11 = .ok (.bipush 30, 2) := by decide +kernel
theorem dX11_even_13 : decode cX11_even 13 = .ok (.if_icmp .ne 6, 3) := by decide +kernel
theorem dX11_even_16 : decode cX11_even 16 = .ok (.bipush (-103), 2) := by decide +kernel
theorem dX11_even_18 : decode cX11_even 18 = .ok (.ireturn, 1) := by decide +kernel
theorem dX11_even_19 : decode cX11_even 19 = .ok (.aload_n 0, 1) := by decide +kernel
theorem dX11_even_20 : decode cX11_even 20 = .ok (.dup, 1) := by decide +kernel
theorem dX11_even_21 : decode cX11_even 21 = .ok (.getfield 176, 3) := by decide +kernel
theorem dX11_even_24 : decode cX11_even 24 = .ok (.iconst 1, 1) := by decide +kernel
theorem dX11_even_25 : decode cX11_even 25 = .ok (.iadd, 1) := by decide +kernel
theorem dX11_even_26 : decode cX11_even 26 = .ok (.putfield 176, 3) := by decide +kernel
theorem dX11_even_29 : decode cX11_even 29 = .ok (.aload_n 0, 1) := by decide +kernel
theorem dX11_even_30 : decode cX11_even 30 = .ok (.invokevirtual 179, 3) := by decide +kernel
theorem dX11_even_33 : decode cX11_even 33 = .ok (.ireturn, 1) := by decide +kernel
set_option maxRecDepth 20000 in
theorem ggX11_partsFrom_X11_mayCut : GoodIn wsX11_partsFrom wsX11_mayCut := goodIn_r _ [8, 9, 10, 11, 7, 12, 13, 14, 15, 16, 1, 17, 26, 27, 28, 29, 30, 31, 32, 33, 34, 35, 36, 37, 38, 39, 40, 41, 42, 43, 44, 45, 46, 47, 48, 49, 50, 51, 52, 53, 54, 55, 56, 57, 58, 59] (by decide +kernel) (by decide +kernel)
set_option maxRecDepth 20000 in
theorem gX11_partsFrom_X11_mayCut : GoodIn wsX11_partsFrom (wsV RX11 111 RX11 yX11_mayCut wsX11_mayCut) := goodIn_app (goodIn_of _ (by decide +kernel)) ggX11_partsFrom_X11_mayCut
set_option maxRecDepth 20000 in
theorem ggX11_partsFrom_X11_leaves : GoodIn wsX11_partsFrom wsX11_leaves := goodIn_r _ [21, 22, 23, 24, 7, 25, 1, 17, 10, 11, 12, 26, 27, 28, 29, 30, 31, 32, 33, 34, 35, 36, 37, 38, 39, 40, 41, 42, 43, 44, 45, 46, 47, 48, 49, 50, 51, 52, 53, 54, 55, 56, 57, 58, 59] (by decide +kernel) (by decide +kernel)
set_option maxRecDepth 20000 in
theorem gX11_partsFrom_X11_leaves : GoodIn wsX11_partsFrom (wsV RX11 128 RX11 yX11_leaves wsX11_leaves) := goodIn_app (goodIn_of _ (by decide +kernel)) ggX11_partsFrom_X11_leaves
theorem dX11_partsFrom_0 : decode cX11_partsFrom 0 = .ok (.lconst 0, 1) := by decide +kernel
theorem dX11_partsFrom_1 : decode cX11_partsFrom 1 = .ok (.lstore_n 3, 1) := by decide +kernel
theorem dX11_partsFrom_2 : decode cX11_partsFrom 2 = .ok (.iconst 0, 1) := by decide +kernel
theorem dX11_partsFrom_3 : decode cX11_partsFrom 3 = .ok (.istore 5, 2) := by decide +kernel
theorem dX11_partsFrom_5 : decode cX11_partsFrom 5 = .ok (.iconst 0, 1) := by decide +kernel
theorem dX11_partsFrom_6 : decode cX11_partsFrom 6 = .ok (.istore 6, 2) := by decide +kernel
theorem dX11_partsFrom_8 : decode cX11_partsFrom 8 = .ok (.iload 6, 2) := by decide +kernel
theorem dX11_partsFrom_10 : decode cX11_partsFrom 10 = .ok (.aload_n 0, 1) := by decide +kernel
theorem dX11_partsFrom_11 : decode cX11_partsFrom 11 = .ok (.getfield 83, 3) := by decide +kernel
theorem dX11_partsFrom_14 : decode cX11_partsFrom 14 = .ok (.if_icmp .ge 44, 3) := by decide +kernel
theorem dX11_partsFrom_17 : decode cX11_partsFrom 17 = .ok (.aload_n 0, 1) := by decide +kernel
theorem dX11_partsFrom_18 : decode cX11_partsFrom 18 = .ok (.iload_n 2, 1) := by decide +kernel
theorem dX11_partsFrom_19 : decode cX11_partsFrom 19 = .ok (.iload 6, 2) := by decide +kernel
theorem dX11_partsFrom_21 : decode cX11_partsFrom 21 = .ok (.iload_n 1, 1) := by decide +kernel
theorem dX11_partsFrom_22 : decode cX11_partsFrom 22 = .ok (.invokevirtual 111, 3) := by decide +kernel
theorem dX11_partsFrom_25 : decode cX11_partsFrom 25 = .ok (.ifCond .eq 27, 3) := by decide +kernel
theorem dX11_partsFrom_28 : decode cX11_partsFrom 28 = .ok (.lload_n 3, 1) := by decide +kernel
theorem dX11_partsFrom_29 : decode cX11_partsFrom 29 = .ok (.aload_n 0, 1) := by decide +kernel
theorem dX11_partsFrom_30 : decode cX11_partsFrom 30 = .ok (.getfield 38, 3) := by decide +kernel
theorem dX11_partsFrom_33 : decode cX11_partsFrom 33 = .ok (.iconst 2, 1) := by decide +kernel
theorem dX11_partsFrom_34 : decode cX11_partsFrom 34 = .ok (.aload_n 0, 1) := by decide +kernel
theorem dX11_partsFrom_35 : decode cX11_partsFrom 35 = .ok (.iload 6, 2) := by decide +kernel
theorem dX11_partsFrom_37 : decode cX11_partsFrom 37 = .ok (.iload_n 1, 1) := by decide +kernel
theorem dX11_partsFrom_38 : decode cX11_partsFrom 38 = .ok (.invokevirtual 128, 3) := by decide +kernel
theorem dX11_partsFrom_41 : decode cX11_partsFrom 41 = .ok (.imul, 1) := by decide +kernel
theorem dX11_partsFrom_42 : decode cX11_partsFrom 42 = .ok (.iconst 1, 1) := by decide +kernel
theorem dX11_partsFrom_43 : decode cX11_partsFrom 43 = .ok (.iadd, 1) := by decide +kernel
theorem dX11_partsFrom_44 : decode cX11_partsFrom 44 = .ok (.iload_n 2, 1) := by decide +kernel
theorem dX11_partsFrom_45 : decode cX11_partsFrom 45 = .ok (.isub, 1) := by decide +kernel
