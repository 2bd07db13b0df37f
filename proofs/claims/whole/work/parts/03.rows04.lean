theorem dX11_letter_5 : decode cX11_letter 5 = .ok (.invokestatic 57, 3) := by decide +kernel
theorem dX11_letter_8 : decode cX11_letter 8 = .ok (.ifCond .ne 6, 3) := by decide +kernel
theorem dX11_letter_11 : decode cX11_letter 11 = .ok (.bipush (-102), 2) := by decide +kernel
theorem dX11_letter_13 : decode cX11_letter 13 = .ok (.ireturn, 1) := by decide +kernel
theorem dX11_letter_14 : decode cX11_letter 14 = .ok (.aload_n 0, 1) := by decide +kernel
theorem dX11_letter_15 : decode cX11_letter 15 = .ok (.getfield 61, 3) := by decide +kernel
theorem dX11_letter_18 : decode cX11_letter 18 = .ok (.bipush 26, 2) := by decide +kernel
theorem dX11_letter_20 : decode cX11_letter 20 = .ok (.if_icmp .ne 6, 3) := by decide +kernel
theorem dX11_letter_23 : decode cX11_letter 23 = .ok (.bipush (-104), 2) := by decide +kernel
theorem dX11_letter_25 : decode cX11_letter 25 = .ok (.ireturn, 1) := by decide +kernel
theorem dX11_letter_26 : decode cX11_letter 26 = .ok (.aload_n 0, 1) := by decide +kernel
theorem dX11_letter_27 : decode cX11_letter 27 = .ok (.getfield 25, 3) := by decide +kernel
theorem dX11_letter_30 : decode cX11_letter 30 = .ok (.aload_n 0, 1) := by decide +kernel
theorem dX11_letter_31 : decode cX11_letter 31 = .ok (.getfield 61, 3) := by decide +kernel
theorem dX11_letter_34 : decode cX11_letter 34 = .ok (.iload_n 1, 1) := by decide +kernel
theorem dX11_letter_35 : decode cX11_letter 35 = .ok (.i2b, 1) := by decide +kernel
theorem dX11_letter_36 : decode cX11_letter 36 = .ok (.bastore, 1) := by decide +kernel
theorem dX11_letter_37 : decode cX11_letter 37 = .ok (.aload_n 0, 1) := by decide +kernel
theorem dX11_letter_38 : decode cX11_letter 38 = .ok (.dup, 1) := by decide +kernel
theorem dX11_letter_39 : decode cX11_letter 39 = .ok (.getfield 61, 3) := by decide +kernel
theorem dX11_letter_42 : decode cX11_letter 42 = .ok (.iconst 1, 1) := by decide +kernel
theorem dX11_letter_43 : decode cX11_letter 43 = .ok (.iadd, 1) := by decide +kernel
theorem dX11_letter_44 : decode cX11_letter 44 = .ok (.putfield 61, 3) := by decide +kernel
theorem dX11_letter_47 : decode cX11_letter 47 = .ok (.aload_n 0, 1) := by decide +kernel
theorem dX11_letter_48 : decode cX11_letter 48 = .ok (.getfield 61, 3) := by decide +kernel
theorem dX11_letter_51 : decode cX11_letter 51 = .ok (.ireturn, 1) := by decide +kernel
theorem dX11_blank_0 : decode cX11_blank 0 = .ok (.aload_n 0, 1) := by decide +kernel
theorem dX11_blank_1 : decode cX11_blank 1 = .ok (.getfield 61, 3) := by decide +kernel
theorem dX11_blank_4 : decode cX11_blank 4 = .ok (.istore_n 1, 1) := by decide +kernel
theorem dX11_blank_5 : decode cX11_blank 5 = .ok (.aload_n 0, 1) := by decide +kernel
theorem dX11_blank_6 : decode cX11_blank 6 = .ok (.iconst 0, 1) := by decide +kernel
theorem dX11_blank_7 : decode cX11_blank 7 = .ok (.putfield 61, 3) := by decide +kernel
theorem dX11_blank_10 : decode cX11_blank 10 = .ok (.iload_n 1, 1) := by decide +kernel
theorem dX11_blank_11 : decode cX11_blank 11 = .ok (.ireturn, 1) := by decide +kernel
theorem dX11_kindBy_0 : decode cX11_kindBy 0 = .ok (.iload_n 0, 1) := by decide +kernel
theorem dX11_kindBy_1 : decode cX11_kindBy 1 = .ok (.lookupswitch 61 #[(98, 51), (100, 55), (105, 57), (116, 59), (119, 53)], 51) := by decide +kernel
theorem dX11_kindBy_52 : decode cX11_kindBy 52 = .ok (.iconst 0, 1) := by decide +kernel
theorem dX11_kindBy_53 : decode cX11_kindBy 53 = .ok (.ireturn, 1) := by decide +kernel
theorem dX11_kindBy_54 : decode cX11_kindBy 54 = .ok (.iconst 1, 1) := by decide +kernel
theorem dX11_kindBy_55 : decode cX11_kindBy 55 = .ok (.ireturn, 1) := by decide +kernel
theorem dX11_kindBy_56 : decode cX11_kindBy 56 = .ok (.iconst 2, 1) := by decide +kernel
theorem dX11_kindBy_57 : decode cX11_kindBy 57 = .ok (.ireturn, 1) := by decide +kernel
theorem dX11_kindBy_58 : decode cX11_kindBy 58 = .ok (.iconst 3, 1) := by decide +kernel
theorem dX11_kindBy_59 : decode cX11_kindBy 59 = .ok (.ireturn, 1) := by decide +kernel
theorem dX11_kindBy_60 : decode cX11_kindBy 60 = .ok (.iconst 4, 1) := by decide +kernel
theorem dX11_kindBy_61 : decode cX11_kindBy 61 = .ok (.ireturn, 1) := by decide +kernel
theorem dX11_kindBy_62 : decode cX11_kindBy 62 = .ok (.iconst (-1), 1) := by decide +kernel
theorem dX11_kindBy_63 : decode cX11_kindBy 63 = .ok (.ireturn, 1) := by decide +kernel
theorem dX11_at_0 : decode cX11_at 0 = .ok (.iload_n 1, 1) := by decide +kernel
theorem dX11_at_1 : decode cX11_at 1 = .ok (.aload_n 0, 1) := by decide +kernel
theorem dX11_at_2 : decode cX11_at 2 = .ok (.getfield 61, 3) := by decide +kernel
theorem dX11_at_5 : decode cX11_at 5 = .ok (.if_icmp .ge 12, 3) := by decide +kernel
theorem dX11_at_8 : decode cX11_at 8 = .ok (.aload_n 0, 1) := by decide +kernel
theorem dX11_at_9 : decode cX11_at 9 = .ok (.getfield 25, 3) := by decide +kernel
theorem dX11_at_12 : decode cX11_at 12 = .ok (.iload_n 1, 1) := by decide +kernel
theorem dX11_at_13 : decode cX11_at 13 = .ok (.baload, 1) := by decide +kernel
theorem dX11_at_14 : decode cX11_at 14 = .ok (.goto 4, 3) := by decide +kernel
theorem dX11_at_17 : decode cX11_at 17 = .ok (.iconst 0, 1) := by decide +kernel
theorem dX11_at_18 : decode cX11_at 18 = .ok (.ireturn, 1) := by decide +kernel
set_option maxRecDepth 20000 in
theorem ggX11_read_X11_at : GoodIn wsX11_read wsX11_at := goodIn_r _ [8, 3, 9, 16, 17, 18, 19, 20, 21, 22, 23, 24, 25, 26, 27, 28, 29, 30, 31, 32, 33, 34, 35, 36, 37, 38, 39, 40, 41, 42, 43, 44, 45, 46, 47, 48, 49] (by decide +kernel) (by decide +kernel)
set_option maxRecDepth 20000 in
theorem gX11_read_X11_at : GoodIn wsX11_read (wsV RX11 72 RX11 yX11_at wsX11_at) := goodIn_app (goodIn_of _ (by decide +kernel)) ggX11_read_X11_at
set_option maxRecDepth 20000 in
theorem ggX11_read_X11_kindBy : GoodIn wsX11_read wsX11_kindBy := goodIn_r _ [12] (by decide +kernel) (by decide +kernel)
set_option maxRecDepth 20000 in
theorem gX11_read_X11_kindBy : GoodIn wsX11_read (va_wsS RX11 76 yX11_kindBy wsX11_kindBy) := goodIn_app (goodIn_of _ (by decide +kernel)) ggX11_read_X11_kindBy
set_option maxRecDepth 20000 in
theorem ggX11_read_X11_within : GoodIn wsX11_read wsX11_within := goodIn_r _ [15] (by decide +kernel) (by decide +kernel)
set_option maxRecDepth 20000 in
theorem gX11_read_X11_within : GoodIn wsX11_read (va_wsS RX11 57 yX11_within wsX11_within) := goodIn_app (goodIn_of _ (by decide +kernel)) ggX11_read_X11_within
theorem dX11_read_0 : decode cX11_read 0 = .ok (.aload_n 0, 1) := by decide +kernel
theorem dX11_read_1 : decode cX11_read 1 = .ok (.iconst 0, 1) := by decide +kernel
theorem dX11_read_2 : decode cX11_read 2 = .ok (.putfield 65, 3) := by decide +kernel
theorem dX11_read_5 : decode cX11_read 5 = .ok (.aload_n 0, 1) := by decide +kernel
theorem dX11_read_6 : decode cX11_read 6 = .ok (.iconst 0, 1) := by decide +kernel
theorem dX11_read_7 : decode cX11_read 7 = .ok (.putfield 69, 3) := by decide +kernel
theorem dX11_read_10 : decode cX11_read 10 = .ok (.iconst 0, 1) := by decide +kernel
theorem dX11_read_11 : decode cX11_read 11 = .ok (.istore_n 1, 1) := by decide +kernel
theorem dX11_read_12 : decode cX11_read 12 = .ok (.aload_n 0, 1) := by decide +kernel
theorem dX11_read_13 : decode cX11_read 13 = .ok (.getfield 69, 3) := by decide +kernel
theorem dX11_read_16 : decode cX11_read 16 = .ok (.bipush 8, 2) := by decide +kernel
theorem dX11_read_18 : decode cX11_read 18 = .ok (.if_icmp .ge 113, 3) := by decide +kernel
theorem dX11_read_21 : decode cX11_read 21 = .ok (.aload_n 0, 1) := by decide +kernel
theorem dX11_read_22 : decode cX11_read 22 = .ok (.iload_n 1, 1) := by decide +kernel
theorem dX11_read_23 : decode cX11_read 23 = .ok (.invokevirtual 72, 3) := by decide +kernel
theorem dX11_read_26 : decode cX11_read 26 = .ok (.invokestatic 76, 3) := by decide +kernel
theorem dX11_read_29 : decode cX11_read 29 = .ok (.iconst (-1), 1) := by decide +kernel
theorem dX11_read_30 : decode cX11_read 30 = .ok (.if_icmp .ne 5, 3) := by decide +kernel
theorem dX11_read_33 : decode cX11_read 33 = .ok (.iload_n 1, 1) := by decide +kernel
theorem dX11_read_34 : decode cX11_read 34 = .ok (.ireturn, 1) := by decide +kernel
theorem dX11_read_35 : decode cX11_read 35 = .ok (.aload_n 0, 1) := by decide +kernel
theorem dX11_read_36 : decode cX11_read 36 = .ok (.iload_n 1, 1) := by decide +kernel
theorem dX11_read_37 : decode cX11_read 37 = .ok (.iconst 1, 1) := by decide +kernel
theorem dX11_read_38 : decode cX11_read 38 = .ok (.iadd, 1) := by decide +kernel
theorem dX11_read_39 : decode cX11_read 39 = .ok (.invokevirtual 72, 3) := by decide +kernel
theorem dX11_read_42 : decode cX11_read 42 = .ok (.bipush 45, 2) := by decide +kernel
theorem dX11_read_44 : decode cX11_read 44 = .ok (.if_icmp .eq 30, 3) := by decide +kernel
theorem dX11_read_47 : decode cX11_read 47 = .ok (.aload_n 0, 1) := by decide +kernel
theorem dX11_read_48 : decode cX11_read 48 = .ok (.iload_n 1, 1) := by decide +kernel
theorem dX11_read_49 : decode cX11_read 49 = .ok (.iconst 1, 1) := by decide +kernel
theorem dX11_read_50 : decode cX11_read 50 = .ok (.iadd, 1) := by decide +kernel
theorem dX11_read_51 : decode cX11_read 51 = .ok (.invokevirtual 72, 3) := by decide +kernel
theorem dX11_read_54 : decode cX11_read 54 = .ok (.bipush 48, 2) := by decide +kernel
theorem dX11_read_56 : decode cX11_read 56 = .ok (.isub, 1) := by decide +kernel
theorem dX11_read_57 : decode cX11_read 57 = .ok (.iconst 0, 1) := by decide +kernel
theorem dX11_read_58 : decode cX11_read 58 = .ok (.aload_n 0, 1) := by decide +kernel
theorem dX11_read_59 : decode cX11_read 59 = .ok (.getfield 69, 3) := by decide +kernel
theorem dX11_read_62 : decode cX11_read 62 = .ok (.iconst 1, 1) := by decide +kernel
theorem dX11_read_63 : decode cX11_read 63 = .ok (.isub, 1) := by decide +kernel
theorem dX11_read_64 : decode cX11_read 64 = .ok (.invokestatic 57, 3) := by decide +kernel
theorem dX11_read_67 : decode cX11_read 67 = .ok (.ifCond .ne 7, 3) := by decide +kernel
theorem dX11_read_70 : decode cX11_read 70 = .ok (.iload_n 1, 1) := by decide +kernel
theorem dX11_read_71 : decode cX11_read 71 = .ok (.iconst 1, 1) := by decide +kernel
theorem dX11_read_72 : decode cX11_read 72 = .ok (.iadd, 1) := by decide +kernel
theorem dX11_read_73 : decode cX11_read 73 = .ok (.ireturn, 1) := by decide +kernel
theorem dX11_read_74 : decode cX11_read 74 = .ok (.aload_n 0, 1) := by decide +kernel
theorem dX11_read_75 : decode cX11_read 75 = .ok (.dup, 1) := by decide +kernel
theorem dX11_read_76 : decode cX11_read 76 = .ok (.getfield 69, 3) := by decide +kernel
theorem dX11_read_79 : decode cX11_read 79 = .ok (.iconst 1, 1) := by decide +kernel
theorem dX11_read_80 : decode cX11_read 80 = .ok (.iadd, 1) := by decide +kernel
theorem dX11_read_81 : decode cX11_read 81 = .ok (.putfield 69, 3) := by decide +kernel
theorem dX11_read_84 : decode cX11_read 84 = .ok (.iinc 1 2, 3) := by decide +kernel
theorem dX11_read_87 : decode cX11_read 87 = .ok (.aload_n 0, 1) := by decide +kernel
theorem dX11_read_88 : decode cX11_read 88 = .ok (.iload_n 1, 1) := by decide +kernel
theorem dX11_read_89 : decode cX11_read 89 = .ok (.aload_n 0, 1) := by decide +kernel
theorem dX11_read_90 : decode cX11_read 90 = .ok (.getfield 61, 3) := by decide +kernel
theorem dX11_read_93 : decode cX11_read 93 = .ok (.if_icmp .ne 7, 3) := by decide +kernel
theorem dX11_read_96 : decode cX11_read 96 = .ok (.iconst 1, 1) := by decide +kernel
theorem dX11_read_97 : decode cX11_read 97 = .ok (.goto 4, 3) := by decide +kernel
theorem dX11_read_100 : decode cX11_read 100 = .ok (.iconst 0, 1) := by decide +kernel
theorem dX11_read_101 : decode cX11_read 101 = .ok (.putfield 65, 3) := by decide +kernel
theorem dX11_read_104 : decode cX11_read 104 = .ok (.aload_n 0, 1) := by decide +kernel
theorem dX11_read_105 : decode cX11_read 105 = .ok (.getfield 69, 3) := by decide +kernel
theorem dX11_read_108 : decode cX11_read 108 = .ok (.bipush 8, 2) := by decide +kernel
theorem dX11_read_110 : decode cX11_read 110 = .ok (.if_icmp .eq 13, 3) := by decide +kernel
theorem dX11_read_113 : decode cX11_read 113 = .ok (.aload_n 0, 1) := by decide +kernel
theorem dX11_read_114 : decode cX11_read 114 = .ok (.iload_n 1, 1) := by decide +kernel
theorem dX11_read_115 : decode cX11_read 115 = .ok (.invokevirtual 72, 3) := by decide +kernel
theorem dX11_read_118 : decode cX11_read 118 = .ok (.bipush 44, 2) := by decide +kernel
theorem dX11_read_120 : decode cX11_read 120 = .ok (.if_icmp .eq 5, 3) := by decide +kernel
theorem dX11_read_123 : decode cX11_read 123 = .ok (.iload_n 1, 1) := by decide +kernel
theorem dX11_read_124 : decode cX11_read 124 = .ok (.ireturn, 1) := by decide +kernel
theorem dX11_read_125 : decode cX11_read 125 = .ok (.iinc 1 1, 3) := by decide +kernel
theorem dX11_read_128 : decode cX11_read 128 = .ok (.goto (-116), 3) := by decide +kernel
theorem dX11_read_131 : decode cX11_read 131 = .ok (.iload_n 1, 1) := by decide +kernel
theorem dX11_read_132 : decode cX11_read 132 = .ok (.ireturn, 1) := by decide +kernel
set_option maxRecDepth 20000 in
theorem ggX11_fault_X11_read : GoodIn wsX11_fault wsX11_read := goodIn_r _ [5, 6, 7, 8, 9, 10, 11, 4, 12, 13, 14, 15, 16, 17, 18, 19, 20, 21, 22, 23, 24, 25, 26, 27, 28, 29, 30, 31, 32, 33, 34, 35, 36, 37, 38, 39, 40, 41, 42, 43, 44, 45, 46, 47, 48, 49, 50, 51, 52, 53] (by decide +kernel) (by decide +kernel)
set_option maxRecDepth 20000 in
theorem gX11_fault_X11_read : GoodIn wsX11_fault (wsV RX11 79 RX11 yX11_read wsX11_read) := goodIn_app (goodIn_of _ (by decide +kernel)) ggX11_fault_X11_read
theorem dX11_fault_0 : decode cX11_fault 0 = .ok (.aload_n 0, 1) := by decide +kernel
theorem dX11_fault_1 : decode cX11_fault 1 = .ok (.invokevirtual 79, 3) := by decide +kernel
theorem dX11_fault_4 : decode cX11_fault 4 = .ok (.ireturn, 1) := by decide +kernel
set_option maxRecDepth 20000 in
theorem ggX11_hedge_X11_read : GoodIn wsX11_hedge wsX11_read := goodIn_r _ [17, 1, 2, 12, 18, 19, 20, 16, 21, 5, 22, 23, 24, 25, 26, 27, 28, 29, 30, 31, 32, 33, 34, 35, 36, 37, 38, 39, 40, 41, 42, 43, 44, 45, 46, 47, 48, 49, 50, 51, 52, 53, 54, 55, 56, 57, 58, 59, 60, 61] (by decide +kernel) (by decide +kernel)
set_option maxRecDepth 20000 in
theorem gX11_hedge_X11_read : GoodIn wsX11_hedge (wsV RX11 79 RX11 yX11_read wsX11_read) := goodIn_app (goodIn_of _ (by decide +kernel)) ggX11_hedge_X11_read
set_option maxRecDepth 20000 in
theorem ggX11_hedge_X11_kindBy : GoodIn wsX11_hedge wsX11_kindBy := goodIn_r _ [24] (by decide +kernel) (by decide +kernel)
set_option maxRecDepth 20000 in
theorem gX11_hedge_X11_kindBy : GoodIn wsX11_hedge (va_wsS RX11 76 yX11_kindBy wsX11_kindBy) := goodIn_app (goodIn_of _ (by decide +kernel)) ggX11_hedge_X11_kindBy
theorem dX11_hedge_0 : decode cX11_hedge 0 = .ok (.aload_n 0, 1) := by decide +kernel
theorem dX11_hedge_1 : decode cX11_hedge 1 = .ok (.invokevirtual 79, 3) := by decide +kernel
theorem dX11_hedge_4 : decode cX11_hedge 4 = .ok (.pop, 1) := by decide +kernel
theorem dX11_hedge_5 : decode cX11_hedge 5 = .ok (.aload_n 0, 1) := by decide +kernel
theorem dX11_hedge_6 : decode cX11_hedge 6 = .ok (.getfield 65, 3) := by decide +kernel
theorem dX11_hedge_9 : decode cX11_hedge 9 = .ok (.ifCond .ne 6, 3) := by decide +kernel
theorem dX11_hedge_12 : decode cX11_hedge 12 = .ok (.bipush (-103), 2) := by decide +kernel
theorem dX11_hedge_14 : decode cX11_hedge 14 = .ok (.ireturn, 1) := by decide +kernel
theorem dX11_hedge_15 : decode cX11_hedge 15 = .ok (.aload_n 0, 1) := by decide +kernel
theorem dX11_hedge_16 : decode cX11_hedge 16 = .ok (.aload_n 0, 1) := by decide +kernel
theorem dX11_hedge_17 : decode cX11_hedge 17 = .ok (.getfield 69, 3) := by decide +kernel
theorem dX11_hedge_20 : decode cX11_hedge 20 = .ok (.putfield 83, 3) := by decide +kernel
theorem dX11_hedge_23 : decode cX11_hedge 23 = .ok (.iconst 0, 1) := by decide +kernel
theorem dX11_hedge_24 : decode cX11_hedge 24 = .ok (.istore_n 1, 1) := by decide +kernel
theorem dX11_hedge_25 : decode cX11_hedge 25 = .ok (.iload_n 1, 1) := by decide +kernel
theorem dX11_hedge_26 : decode cX11_hedge 26 = .ok (.aload_n 0, 1) := by decide +kernel
theorem dX11_hedge_27 : decode cX11_hedge 27 = .ok (.getfield 83, 3) := by decide +kernel
theorem dX11_hedge_30 : decode cX11_hedge 30 = .ok (.if_icmp .ge 64, 3) := by decide +kernel
theorem dX11_hedge_33 : decode cX11_hedge 33 = .ok (.aload_n 0, 1) := by decide +kernel
theorem dX11_hedge_34 : decode cX11_hedge 34 = .ok (.getfield 7, 3) := by decide +kernel
theorem dX11_hedge_37 : decode cX11_hedge 37 = .ok (.iload_n 1, 1) := by decide +kernel
theorem dX11_hedge_38 : decode cX11_hedge 38 = .ok (.aload_n 0, 1) := by decide +kernel
theorem dX11_hedge_39 : decode cX11_hedge 39 = .ok (.getfield 25, 3) := by decide +kernel
theorem dX11_hedge_42 : decode cX11_hedge 42 = .ok (.iconst 3, 1) := by decide +kernel
theorem dX11_hedge_43 : decode cX11_hedge 43 = .ok (.iload_n 1, 1) := by decide +kernel
theorem dX11_hedge_44 : decode cX11_hedge 44 = .ok (.imul, 1) := by decide +kernel
theorem dX11_hedge_45 : decode cX11_hedge 45 = .ok (.baload, 1) := by decide +kernel
theorem dX11_hedge_46 : decode cX11_hedge 46 = .ok (.invokestatic 76, 3) := by decide +kernel
theorem dX11_hedge_49 : decode cX11_hedge 49 = .ok (.iastore, 1) := by decide +kernel
theorem dX11_hedge_50 : decode cX11_hedge 50 = .ok (.aload_n 0, 1) := by decide +kernel
theorem dX11_hedge_51 : decode cX11_hedge 51 = .ok (.getfield 13, 3) := by decide +kernel
theorem dX11_hedge_54 : decode cX11_hedge 54 = .ok (.iload_n 1, 1) := by decide +kernel
theorem dX11_hedge_55 : decode cX11_hedge 55 = .ok (.aload_n 0, 1) := by decide +kernel
theorem dX11_hedge_56 : decode cX11_hedge 56 = .ok (.getfield 25, 3) := by decide +kernel
theorem dX11_hedge_59 : decode cX11_hedge 59 = .ok (.iconst 3, 1) := by decide +kernel
theorem dX11_hedge_60 : decode cX11_hedge 60 = .ok (.iload_n 1, 1) := by decide +kernel
theorem dX11_hedge_61 : decode cX11_hedge 61 = .ok (.imul, 1) := by decide +kernel
theorem dX11_hedge_62 : decode cX11_hedge 62 = .ok (.iconst 1, 1) := by decide +kernel
theorem dX11_hedge_63 : decode cX11_hedge 63 = .ok (.iadd, 1) := by decide +kernel
theorem dX11_hedge_64 : decode cX11_hedge 64 = .ok (.baload, 1) := by decide +kernel
theorem dX11_hedge_65 : decode cX11_hedge 65 = .ok (.bipush 45, 2) := by decide +kernel
theorem dX11_hedge_67 : decode cX11_hedge 67 = .ok (.if_icmp .ne 7, 3) := by decide +kernel
theorem dX11_hedge_70 : decode cX11_hedge 70 = .ok (.iconst (-1), 1) := by decide +kernel
theorem dX11_hedge_71 : decode cX11_hedge 71 = .ok (.goto 16, 3) := by decide +kernel
theorem dX11_hedge_74 : decode cX11_hedge 74 = .ok (.aload_n 0, 1) := by decide +kernel
theorem dX11_hedge_75 : decode cX11_hedge 75 = .ok (.getfield 25, 3) := by decide +kernel
theorem dX11_hedge_78 : decode cX11_hedge 78 = .ok (.iconst 3, 1) := by decide +kernel
theorem dX11_hedge_79 : decode cX11_hedge 79 = .ok (.iload_n 1, 1) := by decide +kernel
theorem dX11_hedge_80 : decode cX11_hedge 80 = .ok (.imul, 1) := by decide +kernel
theorem dX11_hedge_81 : decode cX11_hedge 81 = .ok (.iconst 1, 1) := by decide +kernel
theorem dX11_hedge_82 : decode cX11_hedge 82 = .ok (.iadd, 1) := by decide +kernel
theorem dX11_hedge_83 : decode cX11_hedge 83 = .ok (.baload, 1) := by decide +kernel
theorem dX11_hedge_84 : decode cX11_hedge 84 = .ok (.bipush 48, 2) := by decide +kernel
theorem dX11_hedge_86 : decode cX11_hedge 86 = .ok (.isub, 1) := by decide +kernel
theorem dX11_hedge_87 : decode cX11_hedge 87 = .ok (.iastore, 1) := by decide +kernel
theorem dX11_hedge_88 : decode cX11_hedge 88 = .ok (.iinc 1 1, 3) := by decide +kernel
theorem dX11_hedge_91 : decode cX11_hedge 91 = .ok (.goto (-66), 3) := by decide +kernel
theorem dX11_hedge_94 : decode cX11_hedge 94 = .ok (.aload_n 0, 1) := by decide +kernel
theorem dX11_hedge_95 : decode cX11_hedge 95 = .ok (.iconst 1, 1) := by decide +kernel
theorem dX11_hedge_96 : decode cX11_hedge 96 = .ok (.aload_n 0, 1) := by decide +kernel
theorem dX11_hedge_97 : decode cX11_hedge 97 = .ok (.getfield 83, 3) := by decide +kernel
theorem dX11_hedge_100 : decode cX11_hedge 100 = .ok (.ishl, 1) := by decide +kernel
theorem dX11_hedge_101 : decode cX11_hedge 101 = .ok (.iconst 1, 1) := by decide +kernel
theorem dX11_hedge_102 : decode cX11_hedge 102 = .ok (.isub, 1) := by decide +kernel
theorem dX11_hedge_103 : decode cX11_hedge 103 = .ok (.putfield 86, 3) := by decide +kernel
theorem dX11_hedge_106 : decode cX11_hedge 106 = .ok (.aload_n 0, 1) := by decide +kernel
theorem dX11_hedge_107 : decode cX11_hedge 107 = .ok (.iconst 0, 1) := by decide +kernel
theorem dX11_hedge_108 : decode cX11_hedge 108 = .ok (.putfield 89, 3) := by decide +kernel
theorem dX11_hedge_111 : decode cX11_hedge 111 = .ok (.aload_n 0, 1) := by decide +kernel
theorem dX11_hedge_112 : decode cX11_hedge 112 = .ok (.iconst 0, 1) := by decide +kernel
theorem dX11_hedge_113 : decode cX11_hedge 113 = .ok (.putfield 92, 3) := by decide +kernel
theorem dX11_hedge_116 : decode cX11_hedge 116 = .ok (.aload_n 0, 1) := by decide +kernel
theorem dX11_hedge_117 : decode cX11_hedge 117 = .ok (.dup, 1) := by decide +kernel
theorem dX11_hedge_118 : decode cX11_hedge 118 = .ok (.getfield 95, 3) := by decide +kernel
theorem dX11_hedge_121 : decode cX11_hedge 121 = .ok (.iconst 1, 1) := by decide +kernel
theorem dX11_hedge_122 : decode cX11_hedge 122 = .ok (.iadd, 1) := by decide +kernel
theorem dX11_hedge_123 : decode cX11_hedge 123 = .ok (.putfield 95, 3) := by decide +kernel
theorem dX11_hedge_126 : decode cX11_hedge 126 = .ok (.aload_n 0, 1) := by decide +kernel
theorem dX11_hedge_127 : decode cX11_hedge 127 = .ok (.iconst 0, 1) := by decide +kernel
theorem dX11_hedge_128 : decode cX11_hedge 128 = .ok (.putfield 98, 3) := by decide +kernel
theorem dX11_hedge_131 : decode cX11_hedge 131 = .ok (.aload_n 0, 1) := by decide +kernel
theorem dX11_hedge_132 : decode cX11_hedge 132 = .ok (.iconst 0, 1) := by decide +kernel
theorem dX11_hedge_133 : decode cX11_hedge 133 = .ok (.putfield 61, 3) := by decide +kernel
theorem dX11_hedge_136 : decode cX11_hedge 136 = .ok (.aload_n 0, 1) := by decide +kernel
theorem dX11_hedge_137 : decode cX11_hedge 137 = .ok (.getfield 83, 3) := by decide +kernel
theorem dX11_hedge_140 : decode cX11_hedge 140 = .ok (.ireturn, 1) := by decide +kernel
set_option maxRecDepth 20000 in
theorem ggX11_isBranch_X11_within : GoodIn wsX11_isBranch wsX11_within := goodIn_r _ [5] (by decide +kernel) (by decide +kernel)
set_option maxRecDepth 20000 in
theorem gX11_isBranch_X11_within : GoodIn wsX11_isBranch (va_wsS RX11 57 yX11_within wsX11_within) := goodIn_app (goodIn_of _ (by decide +kernel)) ggX11_isBranch_X11_within
theorem dX11_isBranch_0 : decode cX11_isBranch 0 = .ok (.iload_n 1, 1) := by decide +kernel
theorem dX11_isBranch_1 : decode cX11_isBranch 1 = .ok (.iconst 0, 1) := by decide +kernel
theorem dX11_isBranch_2 : decode cX11_isBranch 2 = .ok (.aload_n 0, 1) := by decide +kernel
theorem dX11_isBranch_3 : decode cX11_isBranch 3 = .ok (.getfield 83, 3) := by decide +kernel
theorem dX11_isBranch_6 : decode cX11_isBranch 6 = .ok (.iconst 1, 1) := by decide +kernel
theorem dX11_isBranch_7 : decode cX11_isBranch 7 = .ok (.isub, 1) := by decide +kernel
theorem dX11_isBranch_8 : decode cX11_isBranch 8 = .ok (.invokestatic 57, 3) := by decide +kernel
theorem dX11_isBranch_11 : decode cX11_isBranch 11 = .ok (.ireturn, 1) := by decide +kernel
set_option maxRecDepth 20000 in
theorem ggX11_above_X11_isIn : GoodIn wsX11_above wsX11_isIn := goodIn_r _ [6] (by decide +kernel) (by decide +kernel)
set_option maxRecDepth 20000 in
theorem gX11_above_X11_isIn : GoodIn wsX11_above (va_wsS RX11 101 yX11_isIn wsX11_isIn) := goodIn_app (goodIn_of _ (by decide +kernel)) ggX11_above_X11_isIn
theorem dX11_above_0 : decode cX11_above 0 = .ok (.iconst 0, 1) := by decide +kernel
theorem dX11_above_1 : decode cX11_above 1 = .ok (.istore_n 2, 1) := by decide +kernel
theorem dX11_above_2 : decode cX11_above 2 = .ok (.iload_n 1, 1) := by decide +kernel
theorem dX11_above_3 : decode cX11_above 3 = .ok (.iconst 1, 1) := by decide +kernel
theorem dX11_above_4 : decode cX11_above 4 = .ok (.iadd, 1) := by decide +kernel
theorem dX11_above_5 : decode cX11_above 5 = .ok (.istore_n 3, 1) := by decide +kernel
theorem dX11_above_6 : decode cX11_above 6 = .ok (.iload_n 3, 1) := by decide +kernel
theorem dX11_above_7 : decode cX11_above 7 = .ok (.aload_n 0, 1) := by decide +kernel
theorem dX11_above_8 : decode cX11_above 8 = .ok (.getfield 83, 3) := by decide +kernel
theorem dX11_above_11 : decode cX11_above 11 = .ok (.if_icmp .ge 52, 3) := by decide +kernel
theorem dX11_above_14 : decode cX11_above 14 = .ok (.iload_n 2, 1) := by decide +kernel
theorem dX11_above_15 : decode cX11_above 15 = .ok (.aload_n 0, 1) := by decide +kernel
theorem dX11_above_16 : decode cX11_above 16 = .ok (.getfield 13, 3) := by decide +kernel
theorem dX11_above_19 : decode cX11_above 19 = .ok (.iload_n 3, 1) := by decide +kernel
theorem dX11_above_20 : decode cX11_above 20 = .ok (.iaload, 1) := by decide +kernel
theorem dX11_above_21 : decode cX11_above 21 = .ok (.iload_n 1, 1) := by decide +kernel
theorem dX11_above_22 : decode cX11_above 22 = .ok (.if_icmp .eq 26, 3) := by decide +kernel
theorem dX11_above_25 : decode cX11_above 25 = .ok (.aload_n 0, 1) := by decide +kernel
theorem dX11_above_26 : decode cX11_above 26 = .ok (.getfield 13, 3) := by decide +kernel
theorem dX11_above_29 : decode cX11_above 29 = .ok (.iload_n 3, 1) := by decide +kernel
theorem dX11_above_30 : decode cX11_above 30 = .ok (.iaload, 1) := by decide +kernel
theorem dX11_above_31 : decode cX11_above 31 = .ok (.iconst (-1), 1) := by decide +kernel
theorem dX11_above_32 : decode cX11_above 32 = .ok (.if_icmp .eq 22, 3) := by decide +kernel
theorem dX11_above_35 : decode cX11_above 35 = .ok (.iload_n 2, 1) := by decide +kernel
theorem dX11_above_36 : decode cX11_above 36 = .ok (.aload_n 0, 1) := by decide +kernel
theorem dX11_above_37 : decode cX11_above 37 = .ok (.getfield 13, 3) := by decide +kernel
theorem dX11_above_40 : decode cX11_above 40 = .ok (.iload_n 3, 1) := by decide +kernel
theorem dX11_above_41 : decode cX11_above 41 = .ok (.iaload, 1) := by decide +kernel
theorem dX11_above_42 : decode cX11_above 42 = .ok (.invokestatic 101, 3) := by decide +kernel
theorem dX11_above_45 : decode cX11_above 45 = .ok (.ifCond .eq 9, 3) := by decide +kernel
theorem dX11_above_48 : decode cX11_above 48 = .ok (.iconst 1, 1) := by decide +kernel
theorem dX11_above_49 : decode cX11_above 49 = .ok (.iload_n 3, 1) := by decide +kernel
theorem dX11_above_50 : decode cX11_above 50 = .ok (.ishl, 1) := by decide +kernel
theorem dX11_above_51 : decode cX11_above 51 = .ok (.goto 4, 3) := by decide +kernel
theorem dX11_above_54 : decode cX11_above 54 = .ok (.iconst 0, 1) := by decide +kernel
theorem dX11_above_55 : decode cX11_above 55 = .ok (.ior, 1) := by decide +kernel
theorem dX11_above_56 : decode cX11_above 56 = .ok (.istore_n 2, 1) := by decide +kernel
theorem dX11_above_57 : decode cX11_above 57 = .ok (.iinc 3 1, 3) := by decide +kernel
theorem dX11_above_60 : decode cX11_above 60 = .ok (.goto (-54), 3) := by decide +kernel
theorem dX11_above_63 : decode cX11_above 63 = .ok (.iload_n 2, 1) := by decide +kernel
theorem dX11_above_64 : decode cX11_above 64 = .ok (.ireturn, 1) := by decide +kernel
set_option maxRecDepth 20000 in
theorem ggX11_isBare_X11_isIn : GoodIn wsX11_isBare wsX11_isIn := goodIn_r _ [6] (by decide +kernel) (by decide +kernel)
set_option maxRecDepth 20000 in
theorem gX11_isBare_X11_isIn : GoodIn wsX11_isBare (va_wsS RX11 101 yX11_isIn wsX11_isIn) := goodIn_app (goodIn_of _ (by decide +kernel)) ggX11_isBare_X11_isIn
theorem dX11_isBare_0 : decode cX11_isBare 0 = .ok (.iconst 1, 1) := by decide +kernel
theorem dX11_isBare_1 : decode cX11_isBare 1 = .ok (.istore_n 3, 1) := by decide +kernel
theorem dX11_isBare_2 : decode cX11_isBare 2 = .ok (.iload_n 1, 1) := by decide +kernel
theorem dX11_isBare_3 : decode cX11_isBare 3 = .ok (.iconst 1, 1) := by decide +kernel
theorem dX11_isBare_4 : decode cX11_isBare 4 = .ok (.iadd, 1) := by decide +kernel
theorem dX11_isBare_5 : decode cX11_isBare 5 = .ok (.istore 4, 2) := by decide +kernel
theorem dX11_isBare_7 : decode cX11_isBare 7 = .ok (.iload 4, 2) := by decide +kernel
theorem dX11_isBare_9 : decode cX11_isBare 9 = .ok (.aload_n 0, 1) := by decide +kernel
theorem dX11_isBare_10 : decode cX11_isBare 10 = .ok (.getfield 83, 3) := by decide +kernel
theorem dX11_isBare_13 : decode cX11_isBare 13 = .ok (.if_icmp .ge 39, 3) := by decide +kernel
theorem dX11_isBare_16 : decode cX11_isBare 16 = .ok (.iload_n 3, 1) := by decide +kernel
theorem dX11_isBare_17 : decode cX11_isBare 17 = .ok (.ifCond .eq 27, 3) := by decide +kernel
theorem dX11_isBare_20 : decode cX11_isBare 20 = .ok (.aload_n 0, 1) := by decide +kernel
theorem dX11_isBare_21 : decode cX11_isBare 21 = .ok (.getfield 13, 3) := by decide +kernel
theorem dX11_isBare_24 : decode cX11_isBare 24 = .ok (.iload 4, 2) := by decide +kernel
theorem dX11_isBare_26 : decode cX11_isBare 26 = .ok (.iaload, 1) := by decide +kernel
theorem dX11_isBare_27 : decode cX11_isBare 27 = .ok (.iload_n 1, 1) := by decide +kernel
theorem dX11_isBare_28 : decode cX11_isBare 28 = .ok (.if_icmp .ne 12, 3) := by decide +kernel
theorem dX11_isBare_31 : decode cX11_isBare 31 = .ok (.iload_n 2, 1) := by decide +kernel
theorem dX11_isBare_32 : decode cX11_isBare 32 = .ok (.iload 4, 2) := by decide +kernel
theorem dX11_isBare_34 : decode cX11_isBare 34 = .ok (.invokestatic 101, 3) := by decide +kernel
theorem dX11_isBare_37 : decode cX11_isBare 37 = .ok (.ifCond .ne 7, 3) := by decide +kernel
theorem dX11_isBare_40 : decode cX11_isBare 40 = .ok (.iconst 1, 1) := by decide +kernel
theorem dX11_isBare_41 : decode cX11_isBare 41 = .ok (.goto 4, 3) := by decide +kernel
theorem dX11_isBare_44 : decode cX11_isBare 44 = .ok (.iconst 0, 1) := by decide +kernel
theorem dX11_isBare_45 : decode cX11_isBare 45 = .ok (.istore_n 3, 1) := by decide +kernel
theorem dX11_isBare_46 : decode cX11_isBare 46 = .ok (.iinc 4 1, 3) := by decide +kernel
theorem dX11_isBare_49 : decode cX11_isBare 49 = .ok (.goto (-42), 3) := by decide +kernel
theorem dX11_isBare_52 : decode cX11_isBare 52 = .ok (.iload_n 3, 1) := by decide +kernel
theorem dX11_isBare_53 : decode cX11_isBare 53 = .ok (.ireturn, 1) := by decide +kernel
set_option maxRecDepth 20000 in
theorem ggX11_mayCut_X11_isIn : GoodIn wsX11_mayCut wsX11_isIn := goodIn_r _ [5] (by decide +kernel) (by decide +kernel)
set_option maxRecDepth 20000 in
theorem gX11_mayCut_X11_isIn : GoodIn wsX11_mayCut (va_wsS RX11 101 yX11_isIn wsX11_isIn) := goodIn_app (goodIn_of _ (by decide +kernel)) ggX11_mayCut_X11_isIn
set_option maxRecDepth 20000 in
theorem ggX11_mayCut_X11_isBare : GoodIn wsX11_mayCut wsX11_isBare := goodIn_r _ [9, 10, 11, 2, 3, 4, 5, 12, 13, 14, 15, 16, 17, 18, 19, 20, 21, 22, 23, 24, 25, 26, 27, 28, 29, 30, 31, 32, 33, 34, 35, 36, 37, 38, 39, 40, 41, 42, 43, 44, 45] (by decide +kernel) (by decide +kernel)
set_option maxRecDepth 20000 in
theorem gX11_mayCut_X11_isBare : GoodIn wsX11_mayCut (wsV RX11 105 RX11 yX11_isBare wsX11_isBare) := goodIn_app (goodIn_of _ (by decide +kernel)) ggX11_mayCut_X11_isBare
theorem dX11_mayCut_0 : decode cX11_mayCut 0 = .ok (.iload_n 3, 1) := by decide +kernel
theorem dX11_mayCut_1 : decode cX11_mayCut 1 = .ok (.iload_n 2, 1) := by decide +kernel
theorem dX11_mayCut_2 : decode cX11_mayCut 2 = .ok (.invokestatic 101, 3) := by decide +kernel
theorem dX11_mayCut_5 : decode cX11_mayCut 5 = .ok (.ifCond .ne 5, 3) := by decide +kernel
theorem dX11_mayCut_8 : decode cX11_mayCut 8 = .ok (.iconst 0, 1) := by decide +kernel
theorem dX11_mayCut_9 : decode cX11_mayCut 9 = .ok (.ireturn, 1) := by decide +kernel
theorem dX11_mayCut_10 : decode cX11_mayCut 10 = .ok (.aload_n 0, 1) := by decide +kernel
theorem dX11_mayCut_11 : decode cX11_mayCut 11 = .ok (.getfield 7, 3) := by decide +kernel
theorem dX11_mayCut_14 : decode cX11_mayCut 14 = .ok (.iload_n 2, 1) := by decide +kernel
theorem dX11_mayCut_15 : decode cX11_mayCut 15 = .ok (.iaload, 1) := by decide +kernel
theorem dX11_mayCut_16 : decode cX11_mayCut 16 = .ok (.tableswitch 78 0 4 #[36, 38, 48, 78, 59], 36) := by decide +kernel
theorem dX11_mayCut_52 : decode cX11_mayCut 52 = .ok (.iconst 1, 1) := by decide +kernel
theorem dX11_mayCut_53 : decode cX11_mayCut 53 = .ok (.ireturn, 1) := by decide +kernel
theorem dX11_mayCut_54 : decode cX11_mayCut 54 = .ok (.iload_n 1, 1) := by decide +kernel
theorem dX11_mayCut_55 : decode cX11_mayCut 55 = .ok (.ifCond .ne 7, 3) := by decide +kernel
theorem dX11_mayCut_58 : decode cX11_mayCut 58 = .ok (.iconst 1, 1) := by decide +kernel
theorem dX11_mayCut_59 : decode cX11_mayCut 59 = .ok (.goto 4, 3) := by decide +kernel
theorem dX11_mayCut_62 : decode cX11_mayCut 62 = .ok (.iconst 0, 1) := by decide +kernel
theorem dX11_mayCut_63 : decode cX11_mayCut 63 = .ok (.ireturn, 1) := by decide +kernel
theorem dX11_mayCut_64 : decode cX11_mayCut 64 = .ok (.iload_n 1, 1) := by decide +kernel
theorem dX11_mayCut_65 : decode cX11_mayCut 65 = .ok (.iconst 1, 1) := by decide +kernel
theorem dX11_mayCut_66 : decode cX11_mayCut 66 = .ok (.if_icmp .ne 7, 3) := by decide +kernel
theorem dX11_mayCut_69 : decode cX11_mayCut 69 = .ok (.iconst 1, 1) := by decide +kernel
theorem dX11_mayCut_70 : decode cX11_mayCut 70 = .ok (.goto 4, 3) := by decide +kernel
theorem dX11_mayCut_73 : decode cX11_mayCut 73 = .ok (.iconst 0, 1) := by decide +kernel
theorem dX11_mayCut_74 : decode cX11_mayCut 74 = .ok (.ireturn, 1) := by decide +kernel
theorem dX11_mayCut_75 : decode cX11_mayCut 75 = .ok (.iload_n 1, 1) := by decide +kernel
theorem dX11_mayCut_76 : decode cX11_mayCut 76 = .ok (.ifCond .ne 16, 3) := by decide +kernel
theorem dX11_mayCut_79 : decode cX11_mayCut 79 = .ok (.aload_n 0, 1) := by decide +kernel
theorem dX11_mayCut_80 : decode cX11_mayCut 80 = .ok (.iload_n 2, 1) := by decide +kernel
theorem dX11_mayCut_81 : decode cX11_mayCut 81 = .ok (.iload_n 3, 1) := by decide +kernel
theorem dX11_mayCut_82 : decode cX11_mayCut 82 = .ok (.invokevirtual 105, 3) := by decide +kernel
theorem dX11_mayCut_85 : decode cX11_mayCut 85 = .ok (.ifCond .eq 7, 3) := by decide +kernel
theorem dX11_mayCut_88 : decode cX11_mayCut 88 = .ok (.iconst 1, 1) := by decide +kernel
theorem dX11_mayCut_89 : decode cX11_mayCut 89 = .ok (.goto 4, 3) := by decide +kernel
theorem dX11_mayCut_92 : decode cX11_mayCut 92 = .ok (.iconst 0, 1) := by decide +kernel
theorem dX11_mayCut_93 : decode cX11_mayCut 93 = .ok (.ireturn, 1) := by decide +kernel
theorem dX11_mayCut_94 : decode cX11_mayCut 94 = .ok (.iconst 0, 1) := by decide +kernel
theorem dX11_mayCut_95 : decode cX11_mayCut 95 = .ok (.ireturn, 1) := by decide +kernel
set_option maxRecDepth 20000 in
theorem ggX11_leaves_X11_above : GoodIn wsX11_leaves wsX11_above := goodIn_r _ [5, 6, 7, 8, 9, 4, 10, 11, 12, 13, 14, 15, 16, 17, 18, 19, 20, 21, 22, 23, 24, 25, 26, 27, 28, 29, 30, 31, 32, 33, 34, 35, 36, 37, 38, 39, 40, 41, 42, 43, 44] (by decide +kernel) (by decide +kernel)
set_option maxRecDepth 20000 in
theorem gX11_leaves_X11_above : GoodIn wsX11_leaves (wsV RX11 108 RX11 yX11_above wsX11_above) := goodIn_app (goodIn_of _ (by decide +kernel)) ggX11_leaves_X11_above
theorem dX11_leaves_0 : decode cX11_leaves 0 = .ok (.iload_n 2, 1) := by decide +kernel
theorem dX11_leaves_1 : decode cX11_leaves 1 = .ok (.aload_n 0, 1) := by decide +kernel
theorem dX11_leaves_2 : decode cX11_leaves 2 = .ok (.iload_n 1, 1) := by decide +kernel
theorem dX11_leaves_3 : decode cX11_leaves 3 = .ok (.invokevirtual 108, 3) := by decide +kernel
theorem dX11_leaves_6 : decode cX11_leaves 6 = .ok (.iconst 1, 1) := by decide +kernel
theorem dX11_leaves_7 : decode cX11_leaves 7 = .ok (.iload_n 1, 1) := by decide +kernel
theorem dX11_leaves_8 : decode cX11_leaves 8 = .ok (.ishl, 1) := by decide +kernel
theorem dX11_leaves_9 : decode cX11_leaves 9 = .ok (.ior, 1) := by decide +kernel
theorem dX11_leaves_10 : decode cX11_leaves 10 = .ok (.iconst (-1), 1) := by decide +kernel
theorem dX11_leaves_11 : decode cX11_leaves 11 = .ok (.ixor, 1) := by decide +kernel
theorem dX11_leaves_12 : decode cX11_leaves 12 = .ok (.iand, 1) := by decide +kernel
theorem dX11_leaves_13 : decode cX11_leaves 13 = .ok (.ireturn, 1) := by decide +kernel
set_option maxRecDepth 20000 in
theorem ggX11_mayCuts_X11_mayCut : GoodIn wsX11_mayCuts wsX11_mayCut := goodIn_r _ [6, 7, 8, 9, 5, 10, 11, 12, 13, 14, 1, 15, 16, 17, 18, 19, 20, 21, 22, 23, 24, 25, 26, 27, 28, 29, 30, 31, 32, 33, 34, 35, 36, 37, 38, 39, 40, 41, 42, 43, 44, 45, 46, 47, 48, 49] (by decide +kernel) (by decide +kernel)
set_option maxRecDepth 20000 in
theorem gX11_mayCuts_X11_mayCut : GoodIn wsX11_mayCuts (wsV RX11 111 RX11 yX11_mayCut wsX11_mayCut) := goodIn_app (goodIn_of _ (by decide +kernel)) ggX11_mayCuts_X11_mayCut
theorem dX11_mayCuts_0 : decode cX11_mayCuts 0 = .ok (.iconst 0, 1) := by decide +kernel
theorem dX11_mayCuts_1 : decode cX11_mayCuts 1 = .ok (.istore_n 3, 1) := by decide +kernel
theorem dX11_mayCuts_2 : decode cX11_mayCuts 2 = .ok (.iconst 0, 1) := by decide +kernel
theorem dX11_mayCuts_3 : decode cX11_mayCuts 3 = .ok (.istore 4, 2) := by decide +kernel
theorem dX11_mayCuts_5 : decode cX11_mayCuts 5 = .ok (.iload 4, 2) := by decide +kernel
theorem dX11_mayCuts_7 : decode cX11_mayCuts 7 = .ok (.aload_n 0, 1) := by decide +kernel
theorem dX11_mayCuts_8 : decode cX11_mayCuts 8 = .ok (.getfield 83, 3) := by decide +kernel
theorem dX11_mayCuts_11 : decode cX11_mayCuts 11 = .ok (.if_icmp .ge 31, 3) := by decide +kernel
theorem dX11_mayCuts_14 : decode cX11_mayCuts 14 = .ok (.iload_n 3, 1) := by decide +kernel
theorem dX11_mayCuts_15 : decode cX11_mayCuts 15 = .ok (.aload_n 0, 1) := by decide +kernel
theorem dX11_mayCuts_16 : decode cX11_mayCuts 16 = .ok (.iload_n 1, 1) := by decide +kernel
theorem dX11_mayCuts_17 : decode cX11_mayCuts 17 = .ok (.iload 4, 2) := by decide +kernel
theorem dX11_mayCuts_19 : decode cX11_mayCuts 19 = .ok (.iload_n 2, 1) := by decide +kernel
theorem dX11_mayCuts_20 : decode cX11_mayCuts 20 = .ok (.invokevirtual 111, 3) := by decide +kernel
theorem dX11_mayCuts_23 : decode cX11_mayCuts 23 = .ok (.ifCond .eq 10, 3) := by decide +kernel
theorem dX11_mayCuts_26 : decode cX11_mayCuts 26 = .ok (.iconst 1, 1) := by decide +kernel
theorem dX11_mayCuts_27 : decode cX11_mayCuts 27 = .ok (.iload 4, 2) := by decide +kernel
theorem dX11_mayCuts_29 : decode cX11_mayCuts 29 = .ok (.ishl, 1) := by decide +kernel
theorem dX11_mayCuts_30 : decode cX11_mayCuts 30 = .ok (.goto 4, 3) := by decide +kernel
theorem dX11_mayCuts_33 : decode cX11_mayCuts 33 = .ok (.iconst 0, 1) := by decide +kernel
theorem dX11_mayCuts_34 : decode cX11_mayCuts 34 = .ok (.ior, 1) := by decide +kernel
theorem dX11_mayCuts_35 : decode cX11_mayCuts 35 = .ok (.istore_n 3, 1) := by decide +kernel
theorem dX11_mayCuts_36 : decode cX11_mayCuts 36 = .ok (.iinc 4 1, 3) := by decide +kernel
theorem dX11_mayCuts_39 : decode cX11_mayCuts 39 = .ok (.goto (-34), 3) := by decide +kernel
theorem dX11_mayCuts_42 : decode cX11_mayCuts 42 = .ok (.iload_n 3, 1) := by decide +kernel
theorem dX11_mayCuts_43 : decode cX11_mayCuts 43 = .ok (.ireturn, 1) := by decide +kernel
set_option maxRecDepth 20000 in
theorem ggX11_branchNow_X11_isIn : GoodIn wsX11_branchNow wsX11_isIn := goodIn_r _ [7] (by decide +kernel) (by decide +kernel)
set_option maxRecDepth 20000 in
theorem gX11_branchNow_X11_isIn : GoodIn wsX11_branchNow (va_wsS RX11 101 yX11_isIn wsX11_isIn) := goodIn_app (goodIn_of _ (by decide +kernel)) ggX11_branchNow_X11_isIn
set_option maxRecDepth 20000 in
theorem ggX11_branchNow_X11_mayCut : GoodIn wsX11_branchNow wsX11_mayCut := goodIn_r _ [11, 1, 4, 5, 6, 7, 12, 13, 14, 15, 16, 2, 58, 59, 60, 61, 62, 63, 64, 65, 66, 67, 68, 69, 70, 71, 72, 73, 74, 75, 76, 77, 78, 79, 80, 81, 82, 83, 84, 85, 86, 87, 88, 89, 90, 91] (by decide +kernel) (by decide +kernel)
set_option maxRecDepth 20000 in
theorem gX11_branchNow_X11_mayCut : GoodIn wsX11_branchNow (wsV RX11 111 RX11 yX11_mayCut wsX11_mayCut) := goodIn_app (goodIn_of _ (by decide +kernel)) ggX11_branchNow_X11_mayCut
set_option maxRecDepth 20000 in
theorem ggX11_branchNow_X11_above : GoodIn wsX11_branchNow wsX11_above := goodIn_r _ [20, 16, 2, 4, 5, 6, 7, 58, 59, 60, 61, 62, 63, 64, 65, 66, 67, 68, 69, 70, 71, 72, 73, 74, 75, 76, 77, 78, 79, 80, 81, 82, 83, 84, 85, 86, 87, 88, 89, 90, 91] (by decide +kernel) (by decide +kernel)
set_option maxRecDepth 20000 in
theorem gX11_branchNow_X11_above : GoodIn wsX11_branchNow (wsV RX11 108 RX11 yX11_above wsX11_above) := goodIn_app (goodIn_of _ (by decide +kernel)) ggX11_branchNow_X11_above
set_option maxRecDepth 20000 in
theorem ggX11_branchNow_X11_sortsOf : GoodIn wsX11_branchNow wsX11_sortsOf := goodIn_r _ [24, 25, 26, 27, 28, 29, 30, 31, 32, 6, 33, 1, 34, 3, 35, 36, 37, 38, 39, 40, 41, 42, 16, 8, 9, 10, 11, 4, 5, 7, 12, 13, 14, 15, 2, 43, 44, 45, 46, 17, 18, 19, 20, 58, 59, 60, 61, 62, 63, 64, 65, 66, 67, 68, 69, 70, 71, 72, 73, 74, 75, 76, 77, 78, 79, 80, 81, 82, 83, 84, 85, 86, 87, 88, 89, 90, 91] (by decide +kernel) (by decide +kernel)
set_option maxRecDepth 20000 in
theorem gX11_branchNow_X11_sortsOf : GoodIn wsX11_branchNow (wsV RX11 114 RX11 yX11_sortsOf wsX11_sortsOf) := goodIn_app (goodIn_of _ (by decide +kernel)) ggX11_branchNow_X11_sortsOf
set_option maxRecDepth 20000 in
theorem ggX11_branchNow_X11_letOf : GoodIn wsX11_branchNow wsX11_letOf := goodIn_r _ [50, 21, 22, 23, 6, 24, 25, 26, 27, 28, 29, 30, 31, 32, 33, 1, 34, 3, 35, 36, 37, 38, 39, 40, 41, 42, 16, 8, 9, 10, 11, 4, 5, 7, 12, 13, 14, 15, 2, 43, 44, 45, 46, 17, 18, 19, 20, 51, 52, 53, 54, 55, 56, 57, 58, 59, 60, 61, 62, 63, 64, 65, 66, 67, 68, 69, 70, 71, 72, 73, 74, 75, 76, 77, 78, 79, 80, 81, 82, 83, 84, 85, 86, 87, 88, 89, 90, 91] (by decide +kernel) (by decide +kernel)
set_option maxRecDepth 20000 in
theorem gX11_branchNow_X11_letOf : GoodIn wsX11_branchNow (wsV RX11 117 RX11 yX11_letOf wsX11_letOf) := goodIn_app (goodIn_of _ (by decide +kernel)) ggX11_branchNow_X11_letOf
theorem dX11_branchNow_0 : decode cX11_branchNow 0 = .ok (.iload_n 2, 1) := by decide +kernel
theorem dX11_branchNow_1 : decode cX11_branchNow 1 = .ok (.tableswitch 107 0 6 #[43, 50, 57, 74, 74, 95, 101], 43) := by decide +kernel
theorem dX11_branchNow_44 : decode cX11_branchNow 44 = .ok (.aload_n 0, 1) := by decide +kernel
theorem dX11_branchNow_45 : decode cX11_branchNow 45 = .ok (.getfield 7, 3) := by decide +kernel
theorem dX11_branchNow_48 : decode cX11_branchNow 48 = .ok (.iload_n 1, 1) := by decide +kernel
theorem dX11_branchNow_49 : decode cX11_branchNow 49 = .ok (.iaload, 1) := by decide +kernel
theorem dX11_branchNow_50 : decode cX11_branchNow 50 = .ok (.ireturn, 1) := by decide +kernel
theorem dX11_branchNow_51 : decode cX11_branchNow 51 = .ok (.aload_n 0, 1) := by decide +kernel
theorem dX11_branchNow_52 : decode cX11_branchNow 52 = .ok (.getfield 13, 3) := by decide +kernel
theorem dX11_branchNow_55 : decode cX11_branchNow 55 = .ok (.iload_n 1, 1) := by decide +kernel
theorem dX11_branchNow_56 : decode cX11_branchNow 56 = .ok (.iaload, 1) := by decide +kernel
theorem dX11_branchNow_57 : decode cX11_branchNow 57 = .ok (.ireturn, 1) := by decide +kernel
theorem dX11_branchNow_58 : decode cX11_branchNow 58 = .ok (.aload_n 0, 1) := by decide +kernel
theorem dX11_branchNow_59 : decode cX11_branchNow 59 = .ok (.getfield 86, 3) := by decide +kernel
theorem dX11_branchNow_62 : decode cX11_branchNow 62 = .ok (.iload_n 1, 1) := by decide +kernel
theorem dX11_branchNow_63 : decode cX11_branchNow 63 = .ok (.invokestatic 101, 3) := by decide +kernel
theorem dX11_branchNow_66 : decode cX11_branchNow 66 = .ok (.ifCond .eq 7, 3) := by decide +kernel
theorem dX11_branchNow_69 : decode cX11_branchNow 69 = .ok (.iconst 1, 1) := by decide +kernel
theorem dX11_branchNow_70 : decode cX11_branchNow 70 = .ok (.goto 4, 3) := by decide +kernel
theorem dX11_branchNow_73 : decode cX11_branchNow 73 = .ok (.iconst 0, 1) := by decide +kernel
theorem dX11_branchNow_74 : decode cX11_branchNow 74 = .ok (.ireturn, 1) := by decide +kernel
theorem dX11_branchNow_75 : decode cX11_branchNow 75 = .ok (.aload_n 0, 1) := by decide +kernel
theorem dX11_branchNow_76 : decode cX11_branchNow 76 = .ok (.iload_n 2, 1) := by decide +kernel
theorem dX11_branchNow_77 : decode cX11_branchNow 77 = .ok (.iconst 3, 1) := by decide +kernel
theorem dX11_branchNow_78 : decode cX11_branchNow 78 = .ok (.isub, 1) := by decide +kernel
theorem dX11_branchNow_79 : decode cX11_branchNow 79 = .ok (.iload_n 1, 1) := by decide +kernel
theorem dX11_branchNow_80 : decode cX11_branchNow 80 = .ok (.aload_n 0, 1) := by decide +kernel
theorem dX11_branchNow_81 : decode cX11_branchNow 81 = .ok (.getfield 86, 3) := by decide +kernel
theorem dX11_branchNow_84 : decode cX11_branchNow 84 = .ok (.invokevirtual 111, 3) := by decide +kernel
theorem dX11_branchNow_87 : decode cX11_branchNow 87 = .ok (.ifCond .eq 7, 3) := by decide +kernel
theorem dX11_branchNow_90 : decode cX11_branchNow 90 = .ok (.iconst 1, 1) := by decide +kernel
theorem dX11_branchNow_91 : decode cX11_branchNow 91 = .ok (.goto 4, 3) := by decide +kernel
theorem dX11_branchNow_94 : decode cX11_branchNow 94 = .ok (.iconst 0, 1) := by decide +kernel
theorem dX11_branchNow_95 : decode cX11_branchNow 95 = .ok (.ireturn, 1) := by decide +kernel
theorem dX11_branchNow_96 : decode cX11_branchNow 96 = .ok (.aload_n 0, 1) := by decide +kernel
theorem dX11_branchNow_97 : decode cX11_branchNow 97 = .ok (.iload_n 1, 1) := by decide +kernel
theorem dX11_branchNow_98 : decode cX11_branchNow 98 = .ok (.invokevirtual 108, 3) := by decide +kernel
theorem dX11_branchNow_101 : decode cX11_branchNow 101 = .ok (.ireturn, 1) := by decide +kernel
theorem dX11_branchNow_102 : decode cX11_branchNow 102 = .ok (.aload_n 0, 1) := by decide +kernel
theorem dX11_branchNow_103 : decode cX11_branchNow 103 = .ok (.iload_n 1, 1) := by decide +kernel
theorem dX11_branchNow_104 : decode cX11_branchNow 104 = .ok (.invokevirtual 114, 3) := by decide +kernel
theorem dX11_branchNow_107 : decode cX11_branchNow 107 = .ok (.ireturn, 1) := by decide +kernel
theorem dX11_branchNow_108 : decode cX11_branchNow 108 = .ok (.aload_n 0, 1) := by decide +kernel
theorem dX11_branchNow_109 : decode cX11_branchNow 109 = .ok (.iload_n 1, 1) := by decide +kernel
theorem dX11_branchNow_110 : decode cX11_branchNow 110 = .ok (.invokevirtual 117, 3) := by decide +kernel
theorem dX11_branchNow_113 : decode cX11_branchNow 113 = .ok (.ireturn, 1) := by decide +kernel
set_option maxRecDepth 20000 in
theorem ggX11_branch_X11_isBranch : GoodIn wsX11_branch wsX11_isBranch := goodIn_r _ [5, 6, 7, 8, 4, 9, 69, 70, 71, 72, 73, 74, 75, 76, 77, 78, 79, 80, 81, 82, 83, 84, 85, 86, 87, 88, 89, 90, 91, 92, 93, 94, 95, 96, 97, 98, 99, 100, 101, 102] (by decide +kernel) (by decide +kernel)
set_option maxRecDepth 20000 in
theorem gX11_branch_X11_isBranch : GoodIn wsX11_branch (wsV RX11 120 RX11 yX11_isBranch wsX11_isBranch) := goodIn_app (goodIn_of _ (by decide +kernel)) ggX11_branch_X11_isBranch
set_option maxRecDepth 20000 in
theorem ggX11_branch_X11_within : GoodIn wsX11_branch wsX11_within := goodIn_r _ [9] (by decide +kernel) (by decide +kernel)
set_option maxRecDepth 20000 in
theorem gX11_branch_X11_within : GoodIn wsX11_branch (va_wsS RX11 57 yX11_within wsX11_within) := goodIn_app (goodIn_of _ (by decide +kernel)) ggX11_branch_X11_within
set_option maxRecDepth 20000 in
theorem ggX11_branch_X11_branchNow : GoodIn wsX11_branch wsX11_branchNow := goodIn_r _ [13, 14, 15, 16, 17, 18, 4, 19, 20, 21, 22, 23, 24, 25, 26, 27, 6, 28, 29, 30, 31, 32, 33, 34, 35, 36, 37, 38, 39, 40, 41, 42, 43, 44, 45, 46, 47, 48, 49, 50, 51, 52, 53, 54, 55, 56, 57, 58, 59, 60, 61, 62, 63, 64, 65, 66, 67, 68, 69, 70, 71, 72, 73, 74, 75, 76, 77, 78, 79, 80, 81, 82, 83, 84, 85, 86, 87, 88, 89, 90, 91, 92, 93, 94, 95, 96, 97, 98, 99, 100, 101, 102] (by decide +kernel) (by decide +kernel)
set_option maxRecDepth 20000 in
theorem gX11_branch_X11_branchNow : GoodIn wsX11_branch (wsV RX11 124 RX11 yX11_branchNow wsX11_branchNow) := goodIn_app (goodIn_of _ (by decide +kernel)) ggX11_branch_X11_branchNow
theorem dX11_branch_0 : decode cX11_branch 0 = .ok (.aload_n 0, 1) := by decide +kernel
theorem dX11_branch_1 : decode cX11_branch 1 = .ok (.iload_n 1, 1) := by decide +kernel
theorem dX11_branch_2 : decode cX11_branch 2 = .ok (.invokevirtual 120, 3) := by decide +kernel
theorem dX11_branch_5 : decode cX11_branch 5 = .ok (.ifCond .ne 8, 3) := by decide +kernel
theorem dX11_branch_8 : decode cX11_branch 8 = .ok (.bipush (-101), 2) := by decide +kernel
theorem dX11_branch_10 : decode cX11_branch 10 = .ok (.goto 24, 3) := by decide +kernel
theorem dX11_branch_13 : decode cX11_branch 13 = .ok (.iload_n 2, 1) := by decide +kernel
theorem dX11_branch_14 : decode cX11_branch 14 = .ok (.iconst 0, 1) := by decide +kernel
theorem dX11_branch_15 : decode cX11_branch 15 = .ok (.bipush 7, 2) := by decide +kernel
theorem dX11_branch_17 : decode cX11_branch 17 = .ok (.invokestatic 57, 3) := by decide +kernel
theorem dX11_branch_20 : decode cX11_branch 20 = .ok (.ifCond .eq 12, 3) := by decide +kernel
theorem dX11_branch_23 : decode cX11_branch 23 = .ok (.aload_n 0, 1) := by decide +kernel
theorem dX11_branch_24 : decode cX11_branch 24 = .ok (.iload_n 1, 1) := by decide +kernel
theorem dX11_branch_25 : decode cX11_branch 25 = .ok (.iload_n 2, 1) := by decide +kernel
theorem dX11_branch_26 : decode cX11_branch 26 = .ok (.invokevirtual 124, 3) := by decide +kernel
theorem dX11_branch_29 : decode cX11_branch 29 = .ok (.goto 5, 3) := by decide +kernel
theorem dX11_branch_32 : decode cX11_branch 32 = .ok (.bipush (-102), 2) := by decide +kernel
theorem dX11_branch_34 : decode cX11_branch 34 = .ok (.ireturn, 1) := by decide +kernel
set_option maxRecDepth 20000 in
theorem ggX11_as_X11_isBranch : GoodIn wsX11_as wsX11_isBranch := goodIn_r _ [6, 7, 8, 9, 5, 10, 11, 12, 13, 14, 15, 16, 17, 18, 19, 20, 21, 22, 23, 24, 25, 26, 27, 28, 29, 30, 31, 32, 33, 34, 35, 36, 37, 38, 39, 40, 41, 42, 43, 44] (by decide +kernel) (by decide +kernel)
set_option maxRecDepth 20000 in
theorem gX11_as_X11_isBranch : GoodIn wsX11_as (wsV RX11 120 RX11 yX11_isBranch wsX11_isBranch) := goodIn_app (goodIn_of _ (by decide +kernel)) ggX11_as_X11_isBranch
set_option maxRecDepth 20000 in
theorem ggX11_as_X11_within : GoodIn wsX11_as wsX11_within := goodIn_r _ [10] (by decide +kernel) (by decide +kernel)
set_option maxRecDepth 20000 in
theorem gX11_as_X11_within : GoodIn wsX11_as (va_wsS RX11 57 yX11_within wsX11_within) := goodIn_app (goodIn_of _ (by decide +kernel)) ggX11_as_X11_within
theorem dX11_as_0 : decode cX11_as 0 = .ok (.aload_n 0, 1) := by decide +kernel
theorem dX11_as_1 : decode cX11_as 1 = .ok (.iload_n 1, 1) := by decide +kernel
theorem dX11_as_2 : decode cX11_as 2 = .ok (.invokevirtual 120, 3) := by decide +kernel
theorem dX11_as_5 : decode cX11_as 5 = .ok (.ifCond .ne 6, 3) := by decide +kernel
theorem dX11_as_8 : decode cX11_as 8 = .ok (.bipush (-101), 2) := by decide +kernel
theorem dX11_as_10 : decode cX11_as 10 = .ok (.ireturn, 1) := by decide +kernel
theorem dX11_as_11 : decode cX11_as 11 = .ok (.iload_n 2, 1) := by decide +kernel
theorem dX11_as_12 : decode cX11_as 12 = .ok (.iconst 0, 1) := by decide +kernel
theorem dX11_as_13 : decode cX11_as 13 = .ok (.iconst 4, 1) := by decide +kernel
theorem dX11_as_14 : decode cX11_as 14 = .ok (.invokestatic 57, 3) := by decide +kernel
theorem dX11_as_17 : decode cX11_as 17 = .ok (.ifCond .ne 6, 3) := by decide +kernel
theorem dX11_as_20 : decode cX11_as 20 = .ok (.bipush (-102), 2) := by decide +kernel
theorem dX11_as_22 : decode cX11_as 22 = .ok (.ireturn, 1) := by decide +kernel
theorem dX11_as_23 : decode cX11_as 23 = .ok (.aload_n 0, 1) := by decide +kernel
theorem dX11_as_24 : decode cX11_as 24 = .ok (.getfield 7, 3) := by decide +kernel
theorem dX11_as_27 : decode cX11_as 27 = .ok (.iload_n 1, 1) := by decide +kernel
theorem dX11_as_28 : decode cX11_as 28 = .ok (.iaload, 1) := by decide +kernel
theorem dX11_as_29 : decode cX11_as 29 = .ok (.istore_n 3, 1) := by decide +kernel
theorem dX11_as_30 : decode cX11_as 30 = .ok (.iload_n 2, 1) := by decide +kernel
theorem dX11_as_31 : decode cX11_as 31 = .ok (.ifCond .eq 18, 3) := by decide +kernel
theorem dX11_as_34 : decode cX11_as 34 = .ok (.iload_n 3, 1) := by decide +kernel
theorem dX11_as_35 : decode cX11_as 35 = .ok (.iload_n 2, 1) := by decide +kernel
theorem dX11_as_36 : decode cX11_as 36 = .ok (.if_icmp .eq 13, 3) := by decide +kernel
theorem dX11_as_39 : decode cX11_as 39 = .ok (.iload_n 2, 1) := by decide +kernel
theorem dX11_as_40 : decode cX11_as 40 = .ok (.iconst 1, 1) := by decide +kernel
theorem dX11_as_41 : decode cX11_as 41 = .ok (.if_icmp .ne 12, 3) := by decide +kernel
theorem dX11_as_44 : decode cX11_as 44 = .ok (.iload_n 3, 1) := by decide +kernel
theorem dX11_as_45 : decode cX11_as 45 = .ok (.iconst 4, 1) := by decide +kernel
theorem dX11_as_46 : decode cX11_as 46 = .ok (.if_icmp .ne 7, 3) := by decide +kernel
theorem dX11_as_49 : decode cX11_as 49 = .ok (.iload_n 1, 1) := by decide +kernel
theorem dX11_as_50 : decode cX11_as 50 = .ok (.goto 4, 3) := by decide +kernel
theorem dX11_as_53 : decode cX11_as 53 = .ok (.iconst (-1), 1) := by decide +kernel
theorem dX11_as_54 : decode cX11_as 54 = .ok (.ireturn, 1) := by decide +kernel
set_option maxRecDepth 20000 in
theorem ggX11_cut_X11_isBranch : GoodIn wsX11_cut wsX11_isBranch := goodIn_r _ [8, 9, 10, 11, 7, 12, 37, 38, 39, 40, 41, 42, 43, 44, 45, 46, 47, 48, 49, 50, 51, 52, 53, 54, 55, 56, 57, 58, 59, 60, 61, 62, 63, 64, 65, 66, 67, 68, 69, 70] (by decide +kernel) (by decide +kernel)
set_option maxRecDepth 20000 in
theorem gX11_cut_X11_isBranch : GoodIn wsX11_cut (wsV RX11 120 RX11 yX11_isBranch wsX11_isBranch) := goodIn_app (goodIn_of _ (by decide +kernel)) ggX11_cut_X11_isBranch
set_option maxRecDepth 20000 in
theorem ggX11_cut_X11_mayCut : GoodIn wsX11_cut wsX11_mayCut := goodIn_r _ [16, 17, 18, 19, 7, 20, 21, 22, 23, 24, 9, 25, 37, 38, 39, 40, 41, 42, 43, 44, 45, 46, 47, 48, 49, 50, 51, 52, 53, 54, 55, 56, 57, 58, 59, 60, 61, 62, 63, 64, 65, 66, 67, 68, 69, 70] (by decide +kernel) (by decide +kernel)
set_option maxRecDepth 20000 in
theorem gX11_cut_X11_mayCut : GoodIn wsX11_cut (wsV RX11 111 RX11 yX11_mayCut wsX11_mayCut) := goodIn_app (goodIn_of _ (by decide +kernel)) ggX11_cut_X11_mayCut
set_option maxRecDepth 20000 in
theorem ggX11_cut_X11_leaves : GoodIn wsX11_cut wsX11_leaves := goodIn_r _ [29, 30, 31, 32, 7, 33, 9, 25, 18, 19, 20, 37, 38, 39, 40, 41, 42, 43, 44, 45, 46, 47, 48, 49, 50, 51, 52, 53, 54, 55, 56, 57, 58, 59, 60, 61, 62, 63, 64, 65, 66, 67, 68, 69, 70] (by decide +kernel) (by decide +kernel)
set_option maxRecDepth 20000 in
theorem gX11_cut_X11_leaves : GoodIn wsX11_cut (wsV RX11 128 RX11 yX11_leaves wsX11_leaves) := goodIn_app (goodIn_of _ (by decide +kernel)) ggX11_cut_X11_leaves
set_option maxRecDepth 20000 in
theorem ggX11_cut_X11_size : GoodIn wsX11_cut wsX11_size := goodIn_r _ [36] (by decide +kernel) (by decide +kernel)
set_option maxRecDepth 20000 in
theorem gX11_cut_X11_size : GoodIn wsX11_cut (va_wsS RX11 131 yX11_size wsX11_size) := goodIn_app (goodIn_of _ (by decide +kernel)) ggX11_cut_X11_size
theorem dX11_cut_0 : decode cX11_cut 0 = .ok (.aload_n 0, 1) := by decide +kernel
theorem dX11_cut_1 : decode cX11_cut 1 = .ok (.iload_n 1, 1) := by decide +kernel
theorem dX11_cut_2 : decode cX11_cut 2 = .ok (.invokevirtual 120, 3) := by decide +kernel
theorem dX11_cut_5 : decode cX11_cut 5 = .ok (.ifCond .ne 6, 3) := by decide +kernel
theorem dX11_cut_8 : decode cX11_cut 8 = .ok (.bipush (-101), 2) := by decide +kernel
theorem dX11_cut_10 : decode cX11_cut 10 = .ok (.ireturn, 1) := by decide +kernel
theorem dX11_cut_11 : decode cX11_cut 11 = .ok (.aload_n 0, 1) := by decide +kernel
theorem dX11_cut_12 : decode cX11_cut 12 = .ok (.aload_n 0, 1) := by decide +kernel
theorem dX11_cut_13 : decode cX11_cut 13 = .ok (.getfield 89, 3) := by decide +kernel
theorem dX11_cut_16 : decode cX11_cut 16 = .ok (.iload_n 1, 1) := by decide +kernel
theorem dX11_cut_17 : decode cX11_cut 17 = .ok (.aload_n 0, 1) := by decide +kernel
theorem dX11_cut_18 : decode cX11_cut 18 = .ok (.getfield 86, 3) := by decide +kernel
theorem dX11_cut_21 : decode cX11_cut 21 = .ok (.invokevirtual 111, 3) := by decide +kernel
theorem dX11_cut_24 : decode cX11_cut 24 = .ok (.ifCond .ne 6, 3) := by decide +kernel
theorem dX11_cut_27 : decode cX11_cut 27 = .ok (.bipush (-103), 2) := by decide +kernel
theorem dX11_cut_29 : decode cX11_cut 29 = .ok (.ireturn, 1) := by decide +kernel
theorem dX11_cut_30 : decode cX11_cut 30 = .ok (.aload_n 0, 1) := by decide +kernel
theorem dX11_cut_31 : decode cX11_cut 31 = .ok (.getfield 92, 3) := by decide +kernel
theorem dX11_cut_34 : decode cX11_cut 34 = .ok (.sipush 999, 3) := by decide +kernel
theorem dX11_cut_37 : decode cX11_cut 37 = .ok (.if_icmp .ne 6, 3) := by decide +kernel
theorem dX11_cut_40 : decode cX11_cut 40 = .ok (.bipush (-104), 2) := by decide +kernel
theorem dX11_cut_42 : decode cX11_cut 42 = .ok (.ireturn, 1) := by decide +kernel
theorem dX11_cut_43 : decode cX11_cut 43 = .ok (.aload_n 0, 1) := by decide +kernel
theorem dX11_cut_44 : decode cX11_cut 44 = .ok (.iload_n 1, 1) := by decide +kernel
theorem dX11_cut_45 : decode cX11_cut 45 = .ok (.aload_n 0, 1) := by decide +kernel
theorem dX11_cut_46 : decode cX11_cut 46 = .ok (.getfield 86, 3) := by decide +kernel
theorem dX11_cut_49 : decode cX11_cut 49 = .ok (.invokevirtual 128, 3) := by decide +kernel
theorem dX11_cut_52 : decode cX11_cut 52 = .ok (.istore_n 2, 1) := by decide +kernel
theorem dX11_cut_53 : decode cX11_cut 53 = .ok (.aload_n 0, 1) := by decide +kernel
theorem dX11_cut_54 : decode cX11_cut 54 = .ok (.getfield 86, 3) := by decide +kernel
theorem dX11_cut_57 : decode cX11_cut 57 = .ok (.invokestatic 131, 3) := by decide +kernel
theorem dX11_cut_60 : decode cX11_cut 60 = .ok (.iload_n 2, 1) := by decide +kernel
theorem dX11_cut_61 : decode cX11_cut 61 = .ok (.invokestatic 131, 3) := by decide +kernel
theorem dX11_cut_64 : decode cX11_cut 64 = .ok (.isub, 1) := by decide +kernel
theorem dX11_cut_65 : decode cX11_cut 65 = .ok (.istore_n 3, 1) := by decide +kernel
theorem dX11_cut_66 : decode cX11_cut 66 = .ok (.aload_n 0, 1) := by decide +kernel
theorem dX11_cut_67 : decode cX11_cut 67 = .ok (.iload_n 2, 1) := by decide +kernel
theorem dX11_cut_68 : decode cX11_cut 68 = .ok (.putfield 86, 3) := by decide +kernel
theorem dX11_cut_71 : decode cX11_cut 71 = .ok (.aload_n 0, 1) := by decide +kernel
theorem dX11_cut_72 : decode cX11_cut 72 = .ok (.iconst 1, 1) := by decide +kernel
theorem dX11_cut_73 : decode cX11_cut 73 = .ok (.aload_n 0, 1) := by decide +kernel
theorem dX11_cut_74 : decode cX11_cut 74 = .ok (.getfield 89, 3) := by decide +kernel
theorem dX11_cut_77 : decode cX11_cut 77 = .ok (.isub, 1) := by decide +kernel
theorem dX11_cut_78 : decode cX11_cut 78 = .ok (.putfield 89, 3) := by decide +kernel
theorem dX11_cut_81 : decode cX11_cut 81 = .ok (.aload_n 0, 1) := by decide +kernel
theorem dX11_cut_82 : decode cX11_cut 82 = .ok (.dup, 1) := by decide +kernel
theorem dX11_cut_83 : decode cX11_cut 83 = .ok (.getfield 92, 3) := by decide +kernel
theorem dX11_cut_86 : decode cX11_cut 86 = .ok (.iconst 1, 1) := by decide +kernel
theorem dX11_cut_87 : decode cX11_cut 87 = .ok (.iadd, 1) := by decide +kernel
theorem dX11_cut_88 : decode cX11_cut 88 = .ok (.putfield 92, 3) := by decide +kernel
theorem dX11_cut_91 : decode cX11_cut 91 = .ok (.iload_n 3, 1) := by decide +kernel
theorem dX11_cut_92 : decode cX11_cut 92 = .ok (.ireturn, 1) := by decide +kernel
set_option maxRecDepth 20000 in
theorem ggX11_grow_X11_isBranch : GoodIn wsX11_grow wsX11_isBranch := goodIn_r _ [7, 8, 9, 10, 6, 11, 18, 19, 20, 21, 22, 23, 24, 25, 26, 27, 28, 29, 30, 31, 32, 33, 34, 35, 36, 37, 38, 39, 40, 41, 42, 43, 44, 45, 46, 47, 48, 49, 50, 51] (by decide +kernel) (by decide +kernel)
set_option maxRecDepth 20000 in
theorem gX11_grow_X11_isBranch : GoodIn wsX11_grow (wsV RX11 120 RX11 yX11_isBranch wsX11_isBranch) := goodIn_app (goodIn_of _ (by decide +kernel)) ggX11_grow_X11_isBranch
set_option maxRecDepth 20000 in
theorem ggX11_grow_X11_isIn : GoodIn wsX11_grow wsX11_isIn := goodIn_r _ [14] (by decide +kernel) (by decide +kernel)
set_option maxRecDepth 20000 in
theorem gX11_grow_X11_isIn : GoodIn wsX11_grow (va_wsS RX11 101 yX11_isIn wsX11_isIn) := goodIn_app (goodIn_of _ (by decide +kernel)) ggX11_grow_X11_isIn
set_option maxRecDepth 20000 in
theorem ggX11_grow_X11_size : GoodIn wsX11_grow wsX11_size := goodIn_r _ [17] (by decide +kernel) (by decide +kernel)
set_option maxRecDepth 20000 in
theorem gX11_grow_X11_size : GoodIn wsX11_grow (va_wsS RX11 131 yX11_size wsX11_size) := goodIn_app (goodIn_of _ (by decide +kernel)) ggX11_grow_X11_size
theorem dX11_grow_0 : decode cX11_grow 0 = .ok (.aload_n 0, 1) := by decide +kernel
theorem dX11_grow_1 : decode cX11_grow 1 = .ok (.iload_n 1, 1) := by decide +kernel
theorem dX11_grow_2 : decode cX11_grow 2 = .ok (.invokevirtual 120, 3) := by decide +kernel
theorem dX11_grow_5 : decode cX11_grow 5 = .ok (.ifCond .ne 6, 3) := by decide +kernel
theorem dX11_grow_8 : decode cX11_grow 8 = .ok (.bipush (-101), 2) := by decide +kernel
theorem dX11_grow_10 : decode cX11_grow 10 = .ok (.ireturn, 1) := by decide +kernel
theorem dX11_grow_11 : decode cX11_grow 11 = .ok (.aload_n 0, 1) := by decide +kernel
theorem dX11_grow_12 : decode cX11_grow 12 = .ok (.getfield 86, 3) := by decide +kernel
theorem dX11_grow_15 : decode cX11_grow 15 = .ok (.iload_n 1, 1) := by decide +kernel
theorem dX11_grow_16 : decode cX11_grow 16 = .ok (.invokestatic 101, 3) := by decide +kernel
theorem dX11_grow_19 : decode cX11_grow 19 = .ok (.ifCond .ne 29, 3) := by decide +kernel
theorem dX11_grow_22 : decode cX11_grow 22 = .ok (.aload_n 0, 1) := by decide +kernel
theorem dX11_grow_23 : decode cX11_grow 23 = .ok (.getfield 13, 3) := by decide +kernel
theorem dX11_grow_26 : decode cX11_grow 26 = .ok (.iload_n 1, 1) := by decide +kernel
theorem dX11_grow_27 : decode cX11_grow 27 = .ok (.iaload, 1) := by decide +kernel
theorem dX11_grow_28 : decode cX11_grow 28 = .ok (.iconst (-1), 1) := by decide +kernel
theorem dX11_grow_29 : decode cX11_grow 29 = .ok (.if_icmp .eq 22, 3) := by decide +kernel
theorem dX11_grow_32 : decode cX11_grow 32 = .ok (.aload_n 0, 1) := by decide +kernel
theorem dX11_grow_33 : decode cX11_grow 33 = .ok (.getfield 86, 3) := by decide +kernel
theorem dX11_grow_36 : decode cX11_grow 36 = .ok (.aload_n 0, 1) := by decide +kernel
theorem dX11_grow_37 : decode cX11_grow 37 = .ok (.getfield 13, 3) := by decide +kernel
theorem dX11_grow_40 : decode cX11_grow 40 = .ok (.iload_n 1, 1) := by decide +kernel
theorem dX11_grow_41 : decode cX11_grow 41 = .ok (.iaload, 1) := by decide +kernel
theorem dX11_grow_42 : decode cX11_grow 42 = .ok (.invokestatic 101, 3) := by decide +kernel
theorem dX11_grow_45 : decode cX11_grow 45 = .ok (.ifCond .ne 6, 3) := by decide +kernel
theorem dX11_grow_48 : decode cX11_grow 48 = .ok (.bipush (-103), 2) := by decide +kernel
theorem dX11_grow_50 : decode cX11_grow 50 = .ok (.ireturn, 1) := by decide +kernel
theorem dX11_grow_51 : decode cX11_grow 51 = .ok (.aload_n 0, 1) := by decide +kernel
theorem dX11_grow_52 : decode cX11_grow 52 = .ok (.dup, 1) := by decide +kernel
theorem dX11_grow_53 : decode cX11_grow 53 = .ok (.getfield 86, 3) := by decide +kernel
theorem dX11_grow_56 : decode cX11_grow 56 = .ok (.iconst 1, 1) := by decide +kernel
theorem dX11_grow_57 : decode cX11_grow 57 = .ok (.iload_n 1, 1) := by decide +kernel
theorem dX11_grow_58 : decode cX11_grow 58 = .ok (.ishl, 1) := by decide +kernel
theorem dX11_grow_59 : decode cX11_grow 59 = .ok (.ior, 1) := by decide +kernel
theorem dX11_grow_60 : decode cX11_grow 60 = .ok (.putfield 86, 3) := by decide +kernel
theorem dX11_grow_63 : decode cX11_grow 63 = .ok (.aload_n 0, 1) := by decide +kernel
theorem dX11_grow_64 : decode cX11_grow 64 = .ok (.getfield 86, 3) := by decide +kernel
theorem dX11_grow_67 : decode cX11_grow 67 = .ok (.invokestatic 131, 3) := by decide +kernel
theorem dX11_grow_70 : decode cX11_grow 70 = .ok (.ireturn, 1) := by decide +kernel
theorem dX11_pass_0 : decode cX11_pass 0 = .ok (.aload_n 0, 1) := by decide +kernel
theorem dX11_pass_1 : decode cX11_pass 1 = .ok (.getfield 83, 3) := by decide +kernel
theorem dX11_pass_4 : decode cX11_pass 4 = .ok (.ifCond .ne 6, 3) := by decide +kernel
theorem dX11_pass_7 : decode cX11_pass 7 = .ok (.bipush (-103), 2) := by decide +kernel
theorem dX11_pass_9 : decode cX11_pass 9 = .ok (.ireturn, 1) := by decide +kernel
theorem dX11_pass_10 : decode cX11_pass 10 = .ok (.aload_n 0, 1) := by decide +kernel
theorem dX11_pass_11 : decode cX11_pass 11 = .ok (.iconst 1, 1) := by decide +kernel
theorem dX11_pass_12 : decode cX11_pass 12 = .ok (.aload_n 0, 1) := by decide +kernel
theorem dX11_pass_13 : decode cX11_pass 13 = .ok (.getfield 89, 3) := by decide +kernel
theorem dX11_pass_16 : decode cX11_pass 16 = .ok (.isub, 1) := by decide +kernel
theorem dX11_pass_17 : decode cX11_pass 17 = .ok (.putfield 89, 3) := by decide +kernel
theorem dX11_pass_20 : decode cX11_pass 20 = .ok (.iconst 1, 1) := by decide +kernel
theorem dX11_pass_21 : decode cX11_pass 21 = .ok (.aload_n 0, 1) := by decide +kernel
theorem dX11_pass_22 : decode cX11_pass 22 = .ok (.getfield 89, 3) := by decide +kernel
theorem dX11_pass_25 : decode cX11_pass 25 = .ok (.isub, 1) := by decide +kernel
theorem dX11_pass_26 : decode cX11_pass 26 = .ok (.ireturn, 1) := by decide +kernel
set_option maxRecDepth 20000 in
theorem ggX11_graft_X11_isBranch : GoodIn wsX11_graft wsX11_isBranch := goodIn_r _ [6, 7, 8, 9, 5, 10, 11, 12, 13, 14, 15, 16, 17, 18, 19, 20, 21, 22, 23, 24, 25, 26, 27, 28, 29, 30, 31, 32, 33, 34, 35, 36, 37, 38, 39, 40, 41, 42, 43, 44] (by decide +kernel) (by decide +kernel)
set_option maxRecDepth 20000 in
theorem gX11_graft_X11_isBranch : GoodIn wsX11_graft (wsV RX11 120 RX11 yX11_isBranch wsX11_isBranch) := goodIn_app (goodIn_of _ (by decide +kernel)) ggX11_graft_X11_isBranch
set_option maxRecDepth 20000 in
theorem ggX11_graft_X11_within : GoodIn wsX11_graft wsX11_within := goodIn_r _ [10] (by decide +kernel) (by decide +kernel)
set_option maxRecDepth 20000 in
theorem gX11_graft_X11_within : GoodIn wsX11_graft (va_wsS RX11 57 yX11_within wsX11_within) := goodIn_app (goodIn_of _ (by decide +kernel)) ggX11_graft_X11_within
theorem dX11_graft_0 : decode cX11_graft 0 = .ok (.aload_n 0, 1) := by decide +kernel
theorem dX11_graft_1 : decode cX11_graft 1 = .ok (.iload_n 1, 1) := by decide +kernel
theorem dX11_graft_2 : decode cX11_graft 2 = .ok (.invokevirtual 120, 3) := by decide +kernel
theorem dX11_graft_5 : decode cX11_graft 5 = .ok (.ifCond .ne 6, 3) := by decide +kernel
theorem dX11_graft_8 : decode cX11_graft 8 = .ok (.bipush (-101), 2) := by decide +kernel
theorem dX11_graft_10 : decode cX11_graft 10 = .ok (.ireturn, 1) := by decide +kernel
theorem dX11_graft_11 : decode cX11_graft 11 = .ok (.iload_n 2, 1) := by decide +kernel
theorem dX11_graft_12 : decode cX11_graft 12 = .ok (.iconst 0, 1) := by decide +kernel
theorem dX11_graft_13 : decode cX11_graft 13 = .ok (.iconst 4, 1) := by decide +kernel
theorem dX11_graft_14 : decode cX11_graft 14 = .ok (.invokestatic 57, 3) := by decide +kernel
theorem dX11_graft_17 : decode cX11_graft 17 = .ok (.ifCond .ne 6, 3) := by decide +kernel
theorem dX11_graft_20 : decode cX11_graft 20 = .ok (.bipush (-102), 2) := by decide +kernel
theorem dX11_graft_22 : decode cX11_graft 22 = .ok (.ireturn, 1) := by decide +kernel
theorem dX11_graft_23 : decode cX11_graft 23 = .ok (.aload_n 0, 1) := by decide +kernel
theorem dX11_graft_24 : decode cX11_graft 24 = .ok (.getfield 7, 3) := by decide +kernel
theorem dX11_graft_27 : decode cX11_graft 27 = .ok (.iload_n 1, 1) := by decide +kernel
theorem dX11_graft_28 : decode cX11_graft 28 = .ok (.iaload, 1) := by decide +kernel
theorem dX11_graft_29 : decode cX11_graft 29 = .ok (.istore_n 3, 1) := by decide +kernel
theorem dX11_graft_30 : decode cX11_graft 30 = .ok (.aload_n 0, 1) := by decide +kernel
theorem dX11_graft_31 : decode cX11_graft 31 = .ok (.getfield 7, 3) := by decide +kernel
theorem dX11_graft_34 : decode cX11_graft 34 = .ok (.iload_n 1, 1) := by decide +kernel
theorem dX11_graft_35 : decode cX11_graft 35 = .ok (.iload_n 2, 1) := by decide +kernel
theorem dX11_graft_36 : decode cX11_graft 36 = .ok (.iastore, 1) := by decide +kernel
theorem dX11_graft_37 : decode cX11_graft 37 = .ok (.iload_n 3, 1) := by decide +kernel
theorem dX11_graft_38 : decode cX11_graft 38 = .ok (.ireturn, 1) := by decide +kernel
set_option maxRecDepth 20000 in
theorem ggX11_winnerFrom_X11_mayCut : GoodIn wsX11_winnerFrom wsX11_mayCut := goodIn_r _ [7, 8, 9, 10, 6, 11, 12, 13, 14, 15, 1, 16, 25, 26, 27, 28, 29, 30, 31, 32, 33, 34, 35, 36, 37, 38, 39, 40, 41, 42, 43, 44, 45, 46, 47, 48, 49, 50, 51, 52, 53, 54, 55, 56, 57, 58] (by decide +kernel) (by decide +kernel)
set_option maxRecDepth 20000 in
theorem gX11_winnerFrom_X11_mayCut : GoodIn wsX11_winnerFrom (wsV RX11 111 RX11 yX11_mayCut wsX11_mayCut) := goodIn_app (goodIn_of _ (by decide +kernel)) ggX11_winnerFrom_X11_mayCut
set_option maxRecDepth 20000 in
theorem ggX11_winnerFrom_X11_leaves : GoodIn wsX11_winnerFrom wsX11_leaves := goodIn_r _ [20, 21, 22, 23, 6, 24, 1, 16, 9, 10, 11, 25, 26, 27, 28, 29, 30, 31, 32, 33, 34, 35, 36, 37, 38, 39, 40, 41, 42, 43, 44, 45, 46, 47, 48, 49, 50, 51, 52, 53, 54, 55, 56, 57, 58] (by decide +kernel) (by decide +kernel)
set_option maxRecDepth 20000 in
theorem gX11_winnerFrom_X11_leaves : GoodIn wsX11_winnerFrom (wsV RX11 128 RX11 yX11_leaves wsX11_leaves) := goodIn_app (goodIn_of _ (by decide +kernel)) ggX11_winnerFrom_X11_leaves
theorem dX11_winnerFrom_0 : decode cX11_winnerFrom 0 = .ok (.iconst 0, 1) := by decide +kernel
theorem dX11_winnerFrom_1 : decode cX11_winnerFrom 1 = .ok (.istore_n 3, 1) := by decide +kernel
theorem dX11_winnerFrom_2 : decode cX11_winnerFrom 2 = .ok (.iload_n 3, 1) := by decide +kernel
theorem dX11_winnerFrom_3 : decode cX11_winnerFrom 3 = .ok (.aload_n 0, 1) := by decide +kernel
theorem dX11_winnerFrom_4 : decode cX11_winnerFrom 4 = .ok (.getfield 83, 3) := by decide +kernel
theorem dX11_winnerFrom_7 : decode cX11_winnerFrom 7 = .ok (.if_icmp .ge 42, 3) := by decide +kernel
theorem dX11_winnerFrom_10 : decode cX11_winnerFrom 10 = .ok (.aload_n 0, 1) := by decide +kernel
theorem dX11_winnerFrom_11 : decode cX11_winnerFrom 11 = .ok (.iload_n 2, 1) := by decide +kernel
theorem dX11_winnerFrom_12 : decode cX11_winnerFrom 12 = .ok (.iload_n 3, 1) := by decide +kernel
theorem dX11_winnerFrom_13 : decode cX11_winnerFrom 13 = .ok (.iload_n 1, 1) := by decide +kernel
theorem dX11_winnerFrom_14 : decode cX11_winnerFrom 14 = .ok (.invokevirtual 111, 3) := by decide +kernel
theorem dX11_winnerFrom_17 : decode cX11_winnerFrom 17 = .ok (.ifCond .eq 26, 3) := by decide +kernel
theorem dX11_winnerFrom_20 : decode cX11_winnerFrom 20 = .ok (.aload_n 0, 1) := by decide +kernel
theorem dX11_winnerFrom_21 : decode cX11_winnerFrom 21 = .ok (.getfield 29, 3) := by decide +kernel
theorem dX11_winnerFrom_24 : decode cX11_winnerFrom 24 = .ok (.iconst 2, 1) := by decide +kernel
theorem dX11_winnerFrom_25 : decode cX11_winnerFrom 25 = .ok (.aload_n 0, 1) := by decide +kernel
theorem dX11_winnerFrom_26 : decode cX11_winnerFrom 26 = .ok (.iload_n 3, 1) := by decide +kernel
theorem dX11_winnerFrom_27 : decode cX11_winnerFrom 27 = .ok (.iload_n 1, 1) := by decide +kernel
theorem dX11_winnerFrom_28 : decode cX11_winnerFrom 28 = .ok (.invokevirtual 128, 3) := by decide +kernel
theorem dX11_winnerFrom_31 : decode cX11_winnerFrom 31 = .ok (.imul, 1) := by decide +kernel
theorem dX11_winnerFrom_32 : decode cX11_winnerFrom 32 = .ok (.iconst 1, 1) := by decide +kernel
theorem dX11_winnerFrom_33 : decode cX11_winnerFrom 33 = .ok (.iadd, 1) := by decide +kernel
theorem dX11_winnerFrom_34 : decode cX11_winnerFrom 34 = .ok (.iload_n 2, 1) := by decide +kernel
