abbrev vwCl : List vw_C := [(RX0, TX0, 2), (RX1, TX1, 3), (RX2, TX2, 4), (RX3, TX3, 5), (RX4, TX4, 2), (RX5, TX5, 2), (RX6, TX6, 2), (RX7, TX7, 4), (RX8, TX8, 5), (RX9, TX9, 2), (RX10, TX10, 14), (RX11, TX11, 34)]
theorem dX0_init_0 : decode cX0_init 0 = .ok (.aload_n 0, 1) := by decide +kernel
theorem dX0_init_1 : decode cX0_init 1 = .ok (.invokespecial 3, 3) := by decide +kernel
theorem dX0_init_4 : decode cX0_init 4 = .ok (.aload_n 0, 1) := by decide +kernel
theorem dX0_init_5 : decode cX0_init 5 = .ok (.sipush 512, 3) := by decide +kernel
theorem dX0_init_8 : decode cX0_init 8 = .ok (.newarray .long, 2) := by decide +kernel
theorem dX0_init_10 : decode cX0_init 10 = .ok (.putfield 9, 3) := by decide +kernel
theorem dX0_init_13 : decode cX0_init 13 = .ok (.aload_n 0, 1) := by decide +kernel
theorem dX0_init_14 : decode cX0_init 14 = .ok (.aload_n 1, 1) := by decide +kernel
theorem dX0_init_15 : decode cX0_init 15 = .ok (.putfield 15, 3) := by decide +kernel
theorem dX0_init_18 : decode cX0_init 18 = .ok (.return_, 1) := by decide +kernel
set_option maxRecDepth 20000 in
theorem ggX0_millionths_X10_place : GoodIn wsX0_millionths wsX10_place := goodIn_r _ [6] (by decide +kernel) (by decide +kernel)
set_option maxRecDepth 20000 in
theorem gX0_millionths_X10_place_n19 : GoodIn wsX0_millionths (wsX10_place) := ggX0_millionths_X10_place
theorem dX0_millionths_0 : decode cX0_millionths 0 = .ok (.aload_n 0, 1) := by decide +kernel
theorem dX0_millionths_1 : decode cX0_millionths 1 = .ok (.getfield 9, 3) := by decide +kernel
theorem dX0_millionths_4 : decode cX0_millionths 4 = .ok (.iload_n 1, 1) := by decide +kernel
theorem dX0_millionths_5 : decode cX0_millionths 5 = .ok (.iload_n 2, 1) := by decide +kernel
theorem dX0_millionths_6 : decode cX0_millionths 6 = .ok (.invokestatic 19, 3) := by decide +kernel
theorem dX0_millionths_9 : decode cX0_millionths 9 = .ok (.laload, 1) := by decide +kernel
theorem dX0_millionths_10 : decode cX0_millionths 10 = .ok (.ldc2_w 23, 3) := by decide +kernel
theorem dX0_millionths_13 : decode cX0_millionths 13 = .ok (.lmul, 1) := by decide +kernel
theorem dX0_millionths_14 : decode cX0_millionths 14 = .ok (.ldc2_w 25, 3) := by decide +kernel
theorem dX0_millionths_17 : decode cX0_millionths 17 = .ok (.ldiv, 1) := by decide +kernel
theorem dX0_millionths_18 : decode cX0_millionths 18 = .ok (.l2i, 1) := by decide +kernel
theorem dX0_millionths_19 : decode cX0_millionths 19 = .ok (.ireturn, 1) := by decide +kernel
set_option maxRecDepth 20000 in
theorem ggX0_enter_J6_bitCount_0f7a4 : GoodIn wsX0_enter wsJ6_bitCount_0f7a4 := goodIn_r _ [7, 8, 9, 10] (by decide +kernel) (by decide +kernel)
set_option maxRecDepth 20000 in
theorem gX0_enter_J6_bitCount_0f7a4 : GoodIn wsX0_enter (va_wsS RX0 27 yJ6_bitCount_0f7a4 wsJ6_bitCount_0f7a4) := goodIn_app (goodIn_of _ (by decide +kernel)) ggX0_enter_J6_bitCount_0f7a4
set_option maxRecDepth 20000 in
theorem ggX0_enter_X10_place : GoodIn wsX0_enter wsX10_place := goodIn_r _ [13] (by decide +kernel) (by decide +kernel)
set_option maxRecDepth 20000 in
theorem gX0_enter_X10_place_n19 : GoodIn wsX0_enter (wsX10_place) := ggX0_enter_X10_place
set_option maxRecDepth 20000 in
theorem ggX0_enter_X6_leftBy : GoodIn wsX0_enter wsX6_leftBy := goodIn_r _ [18, 19, 22, 23, 24, 25, 26, 27, 28] (by decide +kernel) (by decide +kernel)
set_option maxRecDepth 20000 in
theorem gX0_enter_X6_leftBy : GoodIn wsX0_enter (wsV RX0 45 RX6 yX6_leftBy wsX6_leftBy) := goodIn_app (goodIn_of _ (by decide +kernel)) ggX0_enter_X6_leftBy
theorem dX0_enter_0 : decode cX0_enter 0 = .ok (.iload_n 3, 1) := by decide +kernel
theorem dX0_enter_1 : decode cX0_enter 1 = .ok (.invokestatic 27, 3) := by decide +kernel
theorem dX0_enter_4 : decode cX0_enter 4 = .ok (.istore 4, 2) := by decide +kernel
theorem dX0_enter_6 : decode cX0_enter 6 = .ok (.iload 4, 2) := by decide +kernel
theorem dX0_enter_8 : decode cX0_enter 8 = .ok (.ifCond .ne 26, 3) := by decide +kernel
theorem dX0_enter_11 : decode cX0_enter 11 = .ok (.aload_n 0, 1) := by decide +kernel
theorem dX0_enter_12 : decode cX0_enter 12 = .ok (.getfield 9, 3) := by decide +kernel
theorem dX0_enter_15 : decode cX0_enter 15 = .ok (.iload_n 1, 1) := by decide +kernel
theorem dX0_enter_16 : decode cX0_enter 16 = .ok (.iload_n 2, 1) := by decide +kernel
theorem dX0_enter_17 : decode cX0_enter 17 = .ok (.invokestatic 19, 3) := by decide +kernel
theorem dX0_enter_20 : decode cX0_enter 20 = .ok (.iload_n 1, 1) := by decide +kernel
theorem dX0_enter_21 : decode cX0_enter 21 = .ok (.iconst 1, 1) := by decide +kernel
theorem dX0_enter_22 : decode cX0_enter 22 = .ok (.if_icmp .ne 9, 3) := by decide +kernel
theorem dX0_enter_25 : decode cX0_enter 25 = .ok (.ldc2_w 25, 3) := by decide +kernel
theorem dX0_enter_28 : decode cX0_enter 28 = .ok (.goto 4, 3) := by decide +kernel
theorem dX0_enter_31 : decode cX0_enter 31 = .ok (.lconst 0, 1) := by decide +kernel
theorem dX0_enter_32 : decode cX0_enter 32 = .ok (.lastore, 1) := by decide +kernel
theorem dX0_enter_33 : decode cX0_enter 33 = .ok (.return_, 1) := by decide +kernel
theorem dX0_enter_34 : decode cX0_enter 34 = .ok (.lconst 0, 1) := by decide +kernel
theorem dX0_enter_35 : decode cX0_enter 35 = .ok (.lstore 5, 2) := by decide +kernel
theorem dX0_enter_37 : decode cX0_enter 37 = .ok (.iconst 0, 1) := by decide +kernel
theorem dX0_enter_38 : decode cX0_enter 38 = .ok (.istore 7, 2) := by decide +kernel
theorem dX0_enter_40 : decode cX0_enter 40 = .ok (.iload 7, 2) := by decide +kernel
theorem dX0_enter_42 : decode cX0_enter 42 = .ok (.aload_n 0, 1) := by decide +kernel
theorem dX0_enter_43 : decode cX0_enter 43 = .ok (.getfield 15, 3) := by decide +kernel
theorem dX0_enter_46 : decode cX0_enter 46 = .ok (.getfield 33, 3) := by decide +kernel
theorem dX0_enter_49 : decode cX0_enter 49 = .ok (.getfield 39, 3) := by decide +kernel
theorem dX0_enter_52 : decode cX0_enter 52 = .ok (.if_icmp .ge 44, 3) := by decide +kernel
theorem dX0_enter_55 : decode cX0_enter 55 = .ok (.iload_n 3, 1) := by decide +kernel
theorem dX0_enter_56 : decode cX0_enter 56 = .ok (.iload 7, 2) := by decide +kernel
theorem dX0_enter_58 : decode cX0_enter 58 = .ok (.ishr, 1) := by decide +kernel
theorem dX0_enter_59 : decode cX0_enter 59 = .ok (.iconst 1, 1) := by decide +kernel
theorem dX0_enter_60 : decode cX0_enter 60 = .ok (.iand, 1) := by decide +kernel
theorem dX0_enter_61 : decode cX0_enter 61 = .ok (.ifCond .eq 29, 3) := by decide +kernel
theorem dX0_enter_64 : decode cX0_enter 64 = .ok (.lload 5, 2) := by decide +kernel
theorem dX0_enter_66 : decode cX0_enter 66 = .ok (.aload_n 0, 1) := by decide +kernel
theorem dX0_enter_67 : decode cX0_enter 67 = .ok (.getfield 9, 3) := by decide +kernel
theorem dX0_enter_70 : decode cX0_enter 70 = .ok (.iconst 1, 1) := by decide +kernel
theorem dX0_enter_71 : decode cX0_enter 71 = .ok (.iload_n 1, 1) := by decide +kernel
theorem dX0_enter_72 : decode cX0_enter 72 = .ok (.isub, 1) := by decide +kernel
theorem dX0_enter_73 : decode cX0_enter 73 = .ok (.aload_n 0, 1) := by decide +kernel
theorem dX0_enter_74 : decode cX0_enter 74 = .ok (.getfield 15, 3) := by decide +kernel
theorem dX0_enter_77 : decode cX0_enter 77 = .ok (.iload 7, 2) := by decide +kernel
theorem dX0_enter_79 : decode cX0_enter 79 = .ok (.iload_n 2, 1) := by decide +kernel
theorem dX0_enter_80 : decode cX0_enter 80 = .ok (.invokevirtual 45, 3) := by decide +kernel
theorem dX0_enter_83 : decode cX0_enter 83 = .ok (.invokestatic 19, 3) := by decide +kernel
theorem dX0_enter_86 : decode cX0_enter 86 = .ok (.laload, 1) := by decide +kernel
theorem dX0_enter_87 : decode cX0_enter 87 = .ok (.ladd, 1) := by decide +kernel
theorem dX0_enter_88 : decode cX0_enter 88 = .ok (.lstore 5, 2) := by decide +kernel
theorem dX0_enter_90 : decode cX0_enter 90 = .ok (.iinc 7 1, 3) := by decide +kernel
theorem dX0_enter_93 : decode cX0_enter 93 = .ok (.goto (-53), 3) := by decide +kernel
theorem dX0_enter_96 : decode cX0_enter 96 = .ok (.aload_n 0, 1) := by decide +kernel
theorem dX0_enter_97 : decode cX0_enter 97 = .ok (.getfield 9, 3) := by decide +kernel
theorem dX0_enter_100 : decode cX0_enter 100 = .ok (.iload_n 1, 1) := by decide +kernel
theorem dX0_enter_101 : decode cX0_enter 101 = .ok (.iload_n 2, 1) := by decide +kernel
theorem dX0_enter_102 : decode cX0_enter 102 = .ok (.invokestatic 19, 3) := by decide +kernel
theorem dX0_enter_105 : decode cX0_enter 105 = .ok (.lload 5, 2) := by decide +kernel
theorem dX0_enter_107 : decode cX0_enter 107 = .ok (.iload 4, 2) := by decide +kernel
theorem dX0_enter_109 : decode cX0_enter 109 = .ok (.i2l, 1) := by decide +kernel
theorem dX0_enter_110 : decode cX0_enter 110 = .ok (.ldiv, 1) := by decide +kernel
theorem dX0_enter_111 : decode cX0_enter 111 = .ok (.lastore, 1) := by decide +kernel
theorem dX0_enter_112 : decode cX0_enter 112 = .ok (.return_, 1) := by decide +kernel
theorem dX1_init_0 : decode cX1_init 0 = .ok (.aload_n 0, 1) := by decide +kernel
theorem dX1_init_1 : decode cX1_init 1 = .ok (.invokespecial 3, 3) := by decide +kernel
theorem dX1_init_4 : decode cX1_init 4 = .ok (.aload_n 0, 1) := by decide +kernel
theorem dX1_init_5 : decode cX1_init 5 = .ok (.sipush 512, 3) := by decide +kernel
theorem dX1_init_8 : decode cX1_init 8 = .ok (.newarray .int, 2) := by decide +kernel
theorem dX1_init_10 : decode cX1_init 10 = .ok (.putfield 9, 3) := by decide +kernel
theorem dX1_init_13 : decode cX1_init 13 = .ok (.aload_n 0, 1) := by decide +kernel
theorem dX1_init_14 : decode cX1_init 14 = .ok (.aload_n 1, 1) := by decide +kernel
theorem dX1_init_15 : decode cX1_init 15 = .ok (.putfield 15, 3) := by decide +kernel
theorem dX1_init_18 : decode cX1_init 18 = .ok (.aload_n 0, 1) := by decide +kernel
theorem dX1_init_19 : decode cX1_init 19 = .ok (.aload_n 2, 1) := by decide +kernel
theorem dX1_init_20 : decode cX1_init 20 = .ok (.putfield 19, 3) := by decide +kernel
theorem dX1_init_23 : decode cX1_init 23 = .ok (.return_, 1) := by decide +kernel
set_option maxRecDepth 20000 in
theorem ggX1_cutsFrom_X10_place : GoodIn wsX1_cutsFrom wsX10_place := goodIn_r _ [4] (by decide +kernel) (by decide +kernel)
set_option maxRecDepth 20000 in
theorem gX1_cutsFrom_X10_place_n23 : GoodIn wsX1_cutsFrom (wsX10_place) := ggX1_cutsFrom_X10_place
theorem dX1_cutsFrom_0 : decode cX1_cutsFrom 0 = .ok (.aload_n 0, 1) := by decide +kernel
theorem dX1_cutsFrom_1 : decode cX1_cutsFrom 1 = .ok (.getfield 9, 3) := by decide +kernel
theorem dX1_cutsFrom_4 : decode cX1_cutsFrom 4 = .ok (.iload_n 1, 1) := by decide +kernel
theorem dX1_cutsFrom_5 : decode cX1_cutsFrom 5 = .ok (.iload_n 2, 1) := by decide +kernel
theorem dX1_cutsFrom_6 : decode cX1_cutsFrom 6 = .ok (.invokestatic 23, 3) := by decide +kernel
theorem dX1_cutsFrom_9 : decode cX1_cutsFrom 9 = .ok (.iaload, 1) := by decide +kernel
theorem dX1_cutsFrom_10 : decode cX1_cutsFrom 10 = .ok (.ireturn, 1) := by decide +kernel
set_option maxRecDepth 20000 in
theorem ggX1_bestCut_X4_isWonBy : GoodIn wsX1_bestCut wsX4_isWonBy := goodIn_r _ [8, 9, 10, 11, 12, 13, 39, 40] (by decide +kernel) (by decide +kernel)
set_option maxRecDepth 20000 in
theorem gX1_bestCut_X4_isWonBy : GoodIn wsX1_bestCut (wsV RX1 27 RX4 yX4_isWonBy wsX4_isWonBy) := goodIn_app (goodIn_of _ (by decide +kernel)) ggX1_bestCut_X4_isWonBy
set_option maxRecDepth 20000 in
theorem ggX1_bestCut_X6_choices : GoodIn wsX1_bestCut wsX6_choices := goodIn_r _ [18, 19, 20, 21, 22, 23, 17, 24, 32, 33, 34, 35, 36, 37, 38, 41, 42, 43, 44, 45] (by decide +kernel) (by decide +kernel)
set_option maxRecDepth 20000 in
theorem gX1_bestCut_X6_choices : GoodIn wsX1_bestCut (wsV RX1 33 RX6 yX6_choices wsX6_choices) := goodIn_app (goodIn_of _ (by decide +kernel)) ggX1_bestCut_X6_choices
set_option maxRecDepth 20000 in
theorem ggX1_bestCut_X6_leftBy : GoodIn wsX1_bestCut wsX6_leftBy := goodIn_r _ [28, 19, 32, 33, 34, 35, 36, 37, 38] (by decide +kernel) (by decide +kernel)
set_option maxRecDepth 20000 in
theorem gX1_bestCut_X6_leftBy : GoodIn wsX1_bestCut (wsV RX1 48 RX6 yX6_leftBy wsX6_leftBy) := goodIn_app (goodIn_of _ (by decide +kernel)) ggX1_bestCut_X6_leftBy
set_option maxRecDepth 20000 in
theorem ggX1_bestCut_X10_place : GoodIn wsX1_bestCut wsX10_place := goodIn_r _ [13] (by decide +kernel) (by decide +kernel)
set_option maxRecDepth 20000 in
theorem gX1_bestCut_X10_place_n23 : GoodIn wsX1_bestCut (wsX10_place) := ggX1_bestCut_X10_place
theorem dX1_bestCut_0 : decode cX1_bestCut 0 = .ok (.aload_n 0, 1) := by decide +kernel
theorem dX1_bestCut_1 : decode cX1_bestCut 1 = .ok (.getfield 19, 3) := by decide +kernel
theorem dX1_bestCut_4 : decode cX1_bestCut 4 = .ok (.iload_n 1, 1) := by decide +kernel
theorem dX1_bestCut_5 : decode cX1_bestCut 5 = .ok (.iload_n 2, 1) := by decide +kernel
theorem dX1_bestCut_6 : decode cX1_bestCut 6 = .ok (.invokevirtual 27, 3) := by decide +kernel
theorem dX1_bestCut_9 : decode cX1_bestCut 9 = .ok (.istore_n 3, 1) := by decide +kernel
theorem dX1_bestCut_10 : decode cX1_bestCut 10 = .ok (.aload_n 0, 1) := by decide +kernel
theorem dX1_bestCut_11 : decode cX1_bestCut 11 = .ok (.getfield 15, 3) := by decide +kernel
theorem dX1_bestCut_14 : decode cX1_bestCut 14 = .ok (.iload_n 1, 1) := by decide +kernel
theorem dX1_bestCut_15 : decode cX1_bestCut 15 = .ok (.iload_n 2, 1) := by decide +kernel
theorem dX1_bestCut_16 : decode cX1_bestCut 16 = .ok (.invokevirtual 33, 3) := by decide +kernel
theorem dX1_bestCut_19 : decode cX1_bestCut 19 = .ok (.istore 4, 2) := by decide +kernel
theorem dX1_bestCut_21 : decode cX1_bestCut 21 = .ok (.iconst (-1), 1) := by decide +kernel
theorem dX1_bestCut_22 : decode cX1_bestCut 22 = .ok (.istore 5, 2) := by decide +kernel
theorem dX1_bestCut_24 : decode cX1_bestCut 24 = .ok (.iconst (-1), 1) := by decide +kernel
theorem dX1_bestCut_25 : decode cX1_bestCut 25 = .ok (.istore 6, 2) := by decide +kernel
theorem dX1_bestCut_27 : decode cX1_bestCut 27 = .ok (.iconst 0, 1) := by decide +kernel
theorem dX1_bestCut_28 : decode cX1_bestCut 28 = .ok (.istore 7, 2) := by decide +kernel
theorem dX1_bestCut_30 : decode cX1_bestCut 30 = .ok (.iload 7, 2) := by decide +kernel
theorem dX1_bestCut_32 : decode cX1_bestCut 32 = .ok (.aload_n 0, 1) := by decide +kernel
theorem dX1_bestCut_33 : decode cX1_bestCut 33 = .ok (.getfield 15, 3) := by decide +kernel
theorem dX1_bestCut_36 : decode cX1_bestCut 36 = .ok (.getfield 38, 3) := by decide +kernel
theorem dX1_bestCut_39 : decode cX1_bestCut 39 = .ok (.getfield 42, 3) := by decide +kernel
theorem dX1_bestCut_42 : decode cX1_bestCut 42 = .ok (.if_icmp .ge 90, 3) := by decide +kernel
theorem dX1_bestCut_45 : decode cX1_bestCut 45 = .ok (.iload 4, 2) := by decide +kernel
theorem dX1_bestCut_47 : decode cX1_bestCut 47 = .ok (.iload 7, 2) := by decide +kernel
theorem dX1_bestCut_49 : decode cX1_bestCut 49 = .ok (.ishr, 1) := by decide +kernel
theorem dX1_bestCut_50 : decode cX1_bestCut 50 = .ok (.iconst 1, 1) := by decide +kernel
theorem dX1_bestCut_51 : decode cX1_bestCut 51 = .ok (.iand, 1) := by decide +kernel
theorem dX1_bestCut_52 : decode cX1_bestCut 52 = .ok (.ifCond .eq 74, 3) := by decide +kernel
theorem dX1_bestCut_55 : decode cX1_bestCut 55 = .ok (.aload_n 0, 1) := by decide +kernel
theorem dX1_bestCut_56 : decode cX1_bestCut 56 = .ok (.getfield 15, 3) := by decide +kernel
theorem dX1_bestCut_59 : decode cX1_bestCut 59 = .ok (.iload 7, 2) := by decide +kernel
theorem dX1_bestCut_61 : decode cX1_bestCut 61 = .ok (.iload_n 2, 1) := by decide +kernel
theorem dX1_bestCut_62 : decode cX1_bestCut 62 = .ok (.invokevirtual 48, 3) := by decide +kernel
theorem dX1_bestCut_65 : decode cX1_bestCut 65 = .ok (.istore 8, 2) := by decide +kernel
theorem dX1_bestCut_67 : decode cX1_bestCut 67 = .ok (.iload_n 3, 1) := by decide +kernel
theorem dX1_bestCut_68 : decode cX1_bestCut 68 = .ok (.ifCond .eq 21, 3) := by decide +kernel
theorem dX1_bestCut_71 : decode cX1_bestCut 71 = .ok (.aload_n 0, 1) := by decide +kernel
theorem dX1_bestCut_72 : decode cX1_bestCut 72 = .ok (.getfield 19, 3) := by decide +kernel
theorem dX1_bestCut_75 : decode cX1_bestCut 75 = .ok (.iconst 1, 1) := by decide +kernel
theorem dX1_bestCut_76 : decode cX1_bestCut 76 = .ok (.iload_n 1, 1) := by decide +kernel
theorem dX1_bestCut_77 : decode cX1_bestCut 77 = .ok (.isub, 1) := by decide +kernel
theorem dX1_bestCut_78 : decode cX1_bestCut 78 = .ok (.iload 8, 2) := by decide +kernel
theorem dX1_bestCut_80 : decode cX1_bestCut 80 = .ok (.invokevirtual 27, 3) := by decide +kernel
theorem dX1_bestCut_83 : decode cX1_bestCut 83 = .ok (.ifCond .ne 6, 3) := by decide +kernel
theorem dX1_bestCut_86 : decode cX1_bestCut 86 = .ok (.iload 7, 2) := by decide +kernel
theorem dX1_bestCut_88 : decode cX1_bestCut 88 = .ok (.ireturn, 1) := by decide +kernel
theorem dX1_bestCut_89 : decode cX1_bestCut 89 = .ok (.aload_n 0, 1) := by decide +kernel
theorem dX1_bestCut_90 : decode cX1_bestCut 90 = .ok (.getfield 9, 3) := by decide +kernel
theorem dX1_bestCut_93 : decode cX1_bestCut 93 = .ok (.iconst 1, 1) := by decide +kernel
theorem dX1_bestCut_94 : decode cX1_bestCut 94 = .ok (.iload_n 1, 1) := by decide +kernel
theorem dX1_bestCut_95 : decode cX1_bestCut 95 = .ok (.isub, 1) := by decide +kernel
theorem dX1_bestCut_96 : decode cX1_bestCut 96 = .ok (.iload 8, 2) := by decide +kernel
theorem dX1_bestCut_98 : decode cX1_bestCut 98 = .ok (.invokestatic 23, 3) := by decide +kernel
theorem dX1_bestCut_101 : decode cX1_bestCut 101 = .ok (.iaload, 1) := by decide +kernel
theorem dX1_bestCut_102 : decode cX1_bestCut 102 = .ok (.iload 6, 2) := by decide +kernel
theorem dX1_bestCut_104 : decode cX1_bestCut 104 = .ok (.if_icmp .le 22, 3) := by decide +kernel
theorem dX1_bestCut_107 : decode cX1_bestCut 107 = .ok (.aload_n 0, 1) := by decide +kernel
theorem dX1_bestCut_108 : decode cX1_bestCut 108 = .ok (.getfield 9, 3) := by decide +kernel
theorem dX1_bestCut_111 : decode cX1_bestCut 111 = .ok (.iconst 1, 1) := by decide +kernel
theorem dX1_bestCut_112 : decode cX1_bestCut 112 = .ok (.iload_n 1, 1) := by decide +kernel
theorem dX1_bestCut_113 : decode cX1_bestCut 113 = .ok (.isub, 1) := by decide +kernel
theorem dX1_bestCut_114 : decode cX1_bestCut 114 = .ok (.iload 8, 2) := by decide +kernel
theorem dX1_bestCut_116 : decode cX1_bestCut 116 = .ok (.invokestatic 23, 3) := by decide +kernel
theorem dX1_bestCut_119 : decode cX1_bestCut 119 = .ok (.iaload, 1) := by decide +kernel
theorem dX1_bestCut_120 : decode cX1_bestCut 120 = .ok (.istore 6, 2) := by decide +kernel
theorem dX1_bestCut_122 : decode cX1_bestCut 122 = .ok (.iload 7, 2) := by decide +kernel
theorem dX1_bestCut_124 : decode cX1_bestCut 124 = .ok (.istore 5, 2) := by decide +kernel
theorem dX1_bestCut_126 : decode cX1_bestCut 126 = .ok (.iinc 7 1, 3) := by decide +kernel
theorem dX1_bestCut_129 : decode cX1_bestCut 129 = .ok (.goto (-99), 3) := by decide +kernel
theorem dX1_bestCut_132 : decode cX1_bestCut 132 = .ok (.iload 5, 2) := by decide +kernel
theorem dX1_bestCut_134 : decode cX1_bestCut 134 = .ok (.ireturn, 1) := by decide +kernel
set_option maxRecDepth 20000 in
theorem ggX1_enter_X4_isWonBy : GoodIn wsX1_enter wsX4_isWonBy := goodIn_r _ [15, 16, 17, 18, 19, 20, 37, 38] (by decide +kernel) (by decide +kernel)
set_option maxRecDepth 20000 in
theorem gX1_enter_X4_isWonBy : GoodIn wsX1_enter (wsV RX1 27 RX4 yX4_isWonBy wsX4_isWonBy) := goodIn_app (goodIn_of _ (by decide +kernel)) ggX1_enter_X4_isWonBy
set_option maxRecDepth 20000 in
theorem ggX1_enter_X6_leftBy : GoodIn wsX1_enter wsX6_leftBy := goodIn_r _ [25, 26, 30, 31, 32, 33, 34, 35, 36] (by decide +kernel) (by decide +kernel)
set_option maxRecDepth 20000 in
theorem gX1_enter_X6_leftBy : GoodIn wsX1_enter (wsV RX1 48 RX6 yX6_leftBy wsX6_leftBy) := goodIn_app (goodIn_of _ (by decide +kernel)) ggX1_enter_X6_leftBy
set_option maxRecDepth 20000 in
theorem ggX1_enter_X10_place : GoodIn wsX1_enter wsX10_place := goodIn_r _ [20] (by decide +kernel) (by decide +kernel)
set_option maxRecDepth 20000 in
theorem gX1_enter_X10_place_n23 : GoodIn wsX1_enter (wsX10_place) := ggX1_enter_X10_place
theorem dX1_enter_0 : decode cX1_enter 0 = .ok (.aload_n 0, 1) := by decide +kernel
theorem dX1_enter_1 : decode cX1_enter 1 = .ok (.getfield 19, 3) := by decide +kernel
theorem dX1_enter_4 : decode cX1_enter 4 = .ok (.iload_n 1, 1) := by decide +kernel
theorem dX1_enter_5 : decode cX1_enter 5 = .ok (.iload_n 2, 1) := by decide +kernel
theorem dX1_enter_6 : decode cX1_enter 6 = .ok (.invokevirtual 27, 3) := by decide +kernel
theorem dX1_enter_9 : decode cX1_enter 9 = .ok (.istore 4, 2) := by decide +kernel
theorem dX1_enter_11 : decode cX1_enter 11 = .ok (.iconst 0, 1) := by decide +kernel
theorem dX1_enter_12 : decode cX1_enter 12 = .ok (.istore 5, 2) := by decide +kernel
theorem dX1_enter_14 : decode cX1_enter 14 = .ok (.iconst 0, 1) := by decide +kernel
theorem dX1_enter_15 : decode cX1_enter 15 = .ok (.istore 6, 2) := by decide +kernel
theorem dX1_enter_17 : decode cX1_enter 17 = .ok (.iload 6, 2) := by decide +kernel
theorem dX1_enter_19 : decode cX1_enter 19 = .ok (.aload_n 0, 1) := by decide +kernel
theorem dX1_enter_20 : decode cX1_enter 20 = .ok (.getfield 15, 3) := by decide +kernel
theorem dX1_enter_23 : decode cX1_enter 23 = .ok (.getfield 38, 3) := by decide +kernel
theorem dX1_enter_26 : decode cX1_enter 26 = .ok (.getfield 42, 3) := by decide +kernel
theorem dX1_enter_29 : decode cX1_enter 29 = .ok (.if_icmp .ge 98, 3) := by decide +kernel
theorem dX1_enter_32 : decode cX1_enter 32 = .ok (.iload_n 3, 1) := by decide +kernel
theorem dX1_enter_33 : decode cX1_enter 33 = .ok (.iload 6, 2) := by decide +kernel
theorem dX1_enter_35 : decode cX1_enter 35 = .ok (.ishr, 1) := by decide +kernel
theorem dX1_enter_36 : decode cX1_enter 36 = .ok (.iconst 1, 1) := by decide +kernel
theorem dX1_enter_37 : decode cX1_enter 37 = .ok (.iand, 1) := by decide +kernel
theorem dX1_enter_38 : decode cX1_enter 38 = .ok (.ifCond .eq 83, 3) := by decide +kernel
theorem dX1_enter_41 : decode cX1_enter 41 = .ok (.aload_n 0, 1) := by decide +kernel
theorem dX1_enter_42 : decode cX1_enter 42 = .ok (.getfield 15, 3) := by decide +kernel
theorem dX1_enter_45 : decode cX1_enter 45 = .ok (.iload 6, 2) := by decide +kernel
theorem dX1_enter_47 : decode cX1_enter 47 = .ok (.iload_n 2, 1) := by decide +kernel
theorem dX1_enter_48 : decode cX1_enter 48 = .ok (.invokevirtual 48, 3) := by decide +kernel
theorem dX1_enter_51 : decode cX1_enter 51 = .ok (.istore 7, 2) := by decide +kernel
theorem dX1_enter_53 : decode cX1_enter 53 = .ok (.iconst 1, 1) := by decide +kernel
theorem dX1_enter_54 : decode cX1_enter 54 = .ok (.aload_n 0, 1) := by decide +kernel
theorem dX1_enter_55 : decode cX1_enter 55 = .ok (.getfield 9, 3) := by decide +kernel
theorem dX1_enter_58 : decode cX1_enter 58 = .ok (.iconst 1, 1) := by decide +kernel
theorem dX1_enter_59 : decode cX1_enter 59 = .ok (.iload_n 1, 1) := by decide +kernel
theorem dX1_enter_60 : decode cX1_enter 60 = .ok (.isub, 1) := by decide +kernel
theorem dX1_enter_61 : decode cX1_enter 61 = .ok (.iload 7, 2) := by decide +kernel
theorem dX1_enter_63 : decode cX1_enter 63 = .ok (.invokestatic 23, 3) := by decide +kernel
theorem dX1_enter_66 : decode cX1_enter 66 = .ok (.iaload, 1) := by decide +kernel
theorem dX1_enter_67 : decode cX1_enter 67 = .ok (.iadd, 1) := by decide +kernel
theorem dX1_enter_68 : decode cX1_enter 68 = .ok (.istore 8, 2) := by decide +kernel
theorem dX1_enter_70 : decode cX1_enter 70 = .ok (.iload 4, 2) := by decide +kernel
theorem dX1_enter_72 : decode cX1_enter 72 = .ok (.ifCond .ne 15, 3) := by decide +kernel
theorem dX1_enter_75 : decode cX1_enter 75 = .ok (.iload 5, 2) := by decide +kernel
theorem dX1_enter_77 : decode cX1_enter 77 = .ok (.iload 8, 2) := by decide +kernel
theorem dX1_enter_79 : decode cX1_enter 79 = .ok (.invokestatic 51, 3) := by decide +kernel
theorem dX1_enter_82 : decode cX1_enter 82 = .ok (.istore 5, 2) := by decide +kernel
theorem dX1_enter_84 : decode cX1_enter 84 = .ok (.goto 37, 3) := by decide +kernel
theorem dX1_enter_87 : decode cX1_enter 87 = .ok (.aload_n 0, 1) := by decide +kernel
theorem dX1_enter_88 : decode cX1_enter 88 = .ok (.getfield 19, 3) := by decide +kernel
theorem dX1_enter_91 : decode cX1_enter 91 = .ok (.iconst 1, 1) := by decide +kernel
theorem dX1_enter_92 : decode cX1_enter 92 = .ok (.iload_n 1, 1) := by decide +kernel
theorem dX1_enter_93 : decode cX1_enter 93 = .ok (.isub, 1) := by decide +kernel
theorem dX1_enter_94 : decode cX1_enter 94 = .ok (.iload 7, 2) := by decide +kernel
theorem dX1_enter_96 : decode cX1_enter 96 = .ok (.invokevirtual 27, 3) := by decide +kernel
theorem dX1_enter_99 : decode cX1_enter 99 = .ok (.ifCond .ne 22, 3) := by decide +kernel
theorem dX1_enter_102 : decode cX1_enter 102 = .ok (.iload 5, 2) := by decide +kernel
theorem dX1_enter_104 : decode cX1_enter 104 = .ok (.ifCond .ne 8, 3) := by decide +kernel
theorem dX1_enter_107 : decode cX1_enter 107 = .ok (.iload 8, 2) := by decide +kernel
theorem dX1_enter_109 : decode cX1_enter 109 = .ok (.goto 10, 3) := by decide +kernel
theorem dX1_enter_112 : decode cX1_enter 112 = .ok (.iload 5, 2) := by decide +kernel
theorem dX1_enter_114 : decode cX1_enter 114 = .ok (.iload 8, 2) := by decide +kernel
theorem dX1_enter_116 : decode cX1_enter 116 = .ok (.invokestatic 56, 3) := by decide +kernel
theorem dX1_enter_119 : decode cX1_enter 119 = .ok (.istore 5, 2) := by decide +kernel
theorem dX1_enter_121 : decode cX1_enter 121 = .ok (.iinc 6 1, 3) := by decide +kernel
theorem dX1_enter_124 : decode cX1_enter 124 = .ok (.goto (-107), 3) := by decide +kernel
theorem dX1_enter_127 : decode cX1_enter 127 = .ok (.aload_n 0, 1) := by decide +kernel
theorem dX1_enter_128 : decode cX1_enter 128 = .ok (.getfield 9, 3) := by decide +kernel
theorem dX1_enter_131 : decode cX1_enter 131 = .ok (.iload_n 1, 1) := by decide +kernel
theorem dX1_enter_132 : decode cX1_enter 132 = .ok (.iload_n 2, 1) := by decide +kernel
theorem dX1_enter_133 : decode cX1_enter 133 = .ok (.invokestatic 23, 3) := by decide +kernel
theorem dX1_enter_136 : decode cX1_enter 136 = .ok (.iload 5, 2) := by decide +kernel
theorem dX1_enter_138 : decode cX1_enter 138 = .ok (.iastore, 1) := by decide +kernel
theorem dX1_enter_139 : decode cX1_enter 139 = .ok (.return_, 1) := by decide +kernel
theorem dX2_init_0 : decode cX2_init 0 = .ok (.aload_n 0, 1) := by decide +kernel
theorem dX2_init_1 : decode cX2_init 1 = .ok (.invokespecial 3, 3) := by decide +kernel
theorem dX2_init_4 : decode cX2_init 4 = .ok (.aload_n 0, 1) := by decide +kernel
theorem dX2_init_5 : decode cX2_init 5 = .ok (.iconst 0, 1) := by decide +kernel
theorem dX2_init_6 : decode cX2_init 6 = .ok (.putfield 9, 3) := by decide +kernel
theorem dX2_init_9 : decode cX2_init 9 = .ok (.aload_n 0, 1) := by decide +kernel
theorem dX2_init_10 : decode cX2_init 10 = .ok (.iconst 0, 1) := by decide +kernel
theorem dX2_init_11 : decode cX2_init 11 = .ok (.putfield 15, 3) := by decide +kernel
theorem dX2_init_14 : decode cX2_init 14 = .ok (.aload_n 0, 1) := by decide +kernel
theorem dX2_init_15 : decode cX2_init 15 = .ok (.iconst 0, 1) := by decide +kernel
theorem dX2_init_16 : decode cX2_init 16 = .ok (.putfield 18, 3) := by decide +kernel
theorem dX2_init_19 : decode cX2_init 19 = .ok (.aload_n 0, 1) := by decide +kernel
theorem dX2_init_20 : decode cX2_init 20 = .ok (.aload_n 1, 1) := by decide +kernel
theorem dX2_init_21 : decode cX2_init 21 = .ok (.putfield 21, 3) := by decide +kernel
theorem dX2_init_24 : decode cX2_init 24 = .ok (.return_, 1) := by decide +kernel
set_option maxRecDepth 20000 in
theorem ggX2_playAll_X2_winnerOf : GoodIn wsX2_playAll wsX2_winnerOf := goodIn_r _ [8, 9, 3, 10, 11, 12, 13, 14, 15, 16, 17, 18, 19, 20, 21, 22, 23, 7, 24, 25, 26, 27, 28, 29, 30, 31, 32, 33, 34, 35, 36, 1, 37, 38, 39, 40, 41, 42, 43, 44, 45, 46, 47, 48, 49, 50, 51, 52, 53, 54, 55, 56, 57, 58, 59] (by decide +kernel) (by decide +kernel)
set_option maxRecDepth 20000 in
theorem gX2_playAll_X2_winnerOf : GoodIn wsX2_playAll (wsV RX2 25 RX2 yX2_winnerOf wsX2_winnerOf) := goodIn_app (goodIn_of _ (by decide +kernel)) ggX2_playAll_X2_winnerOf
theorem dX2_playAll_0 : decode cX2_playAll 0 = .ok (.aload_n 0, 1) := by decide +kernel
theorem dX2_playAll_1 : decode cX2_playAll 1 = .ok (.iload_n 2, 1) := by decide +kernel
theorem dX2_playAll_2 : decode cX2_playAll 2 = .ok (.putfield 9, 3) := by decide +kernel
theorem dX2_playAll_5 : decode cX2_playAll 5 = .ok (.aload_n 0, 1) := by decide +kernel
theorem dX2_playAll_6 : decode cX2_playAll 6 = .ok (.iconst 0, 1) := by decide +kernel
theorem dX2_playAll_7 : decode cX2_playAll 7 = .ok (.putfield 15, 3) := by decide +kernel
theorem dX2_playAll_10 : decode cX2_playAll 10 = .ok (.aload_n 0, 1) := by decide +kernel
theorem dX2_playAll_11 : decode cX2_playAll 11 = .ok (.iconst 0, 1) := by decide +kernel
theorem dX2_playAll_12 : decode cX2_playAll 12 = .ok (.putfield 18, 3) := by decide +kernel
theorem dX2_playAll_15 : decode cX2_playAll 15 = .ok (.iconst 0, 1) := by decide +kernel
theorem dX2_playAll_16 : decode cX2_playAll 16 = .ok (.istore 4, 2) := by decide +kernel
theorem dX2_playAll_18 : decode cX2_playAll 18 = .ok (.iload 4, 2) := by decide +kernel
theorem dX2_playAll_20 : decode cX2_playAll 20 = .ok (.iload_n 1, 1) := by decide +kernel
theorem dX2_playAll_21 : decode cX2_playAll 21 = .ok (.if_icmp .ge 31, 3) := by decide +kernel
theorem dX2_playAll_24 : decode cX2_playAll 24 = .ok (.aload_n 0, 1) := by decide +kernel
theorem dX2_playAll_25 : decode cX2_playAll 25 = .ok (.iload 4, 2) := by decide +kernel
theorem dX2_playAll_27 : decode cX2_playAll 27 = .ok (.iconst 2, 1) := by decide +kernel
theorem dX2_playAll_28 : decode cX2_playAll 28 = .ok (.irem, 1) := by decide +kernel
theorem dX2_playAll_29 : decode cX2_playAll 29 = .ok (.iload_n 3, 1) := by decide +kernel
theorem dX2_playAll_30 : decode cX2_playAll 30 = .ok (.invokevirtual 25, 3) := by decide +kernel
theorem dX2_playAll_33 : decode cX2_playAll 33 = .ok (.ifCond .ne 13, 3) := by decide +kernel
theorem dX2_playAll_36 : decode cX2_playAll 36 = .ok (.aload_n 0, 1) := by decide +kernel
theorem dX2_playAll_37 : decode cX2_playAll 37 = .ok (.dup, 1) := by decide +kernel
theorem dX2_playAll_38 : decode cX2_playAll 38 = .ok (.getfield 15, 3) := by decide +kernel
theorem dX2_playAll_41 : decode cX2_playAll 41 = .ok (.iconst 1, 1) := by decide +kernel
theorem dX2_playAll_42 : decode cX2_playAll 42 = .ok (.iadd, 1) := by decide +kernel
theorem dX2_playAll_43 : decode cX2_playAll 43 = .ok (.putfield 15, 3) := by decide +kernel
theorem dX2_playAll_46 : decode cX2_playAll 46 = .ok (.iinc 4 1, 3) := by decide +kernel
theorem dX2_playAll_49 : decode cX2_playAll 49 = .ok (.goto (-31), 3) := by decide +kernel
theorem dX2_playAll_52 : decode cX2_playAll 52 = .ok (.return_, 1) := by decide +kernel
set_option maxRecDepth 20000 in
theorem ggX2_winnerOf_X6_choices : GoodIn wsX2_winnerOf wsX6_choices := goodIn_r _ [7, 8, 9, 10, 11, 12, 6, 13, 43, 44, 45, 46, 47, 48, 49, 50, 51, 52, 53, 54] (by decide +kernel) (by decide +kernel)
set_option maxRecDepth 20000 in
theorem gX2_winnerOf_X6_choices : GoodIn wsX2_winnerOf (wsV RX2 29 RX6 yX6_choices wsX6_choices) := goodIn_app (goodIn_of _ (by decide +kernel)) ggX2_winnerOf_X6_choices
set_option maxRecDepth 20000 in
theorem ggX2_winnerOf_X2_drawFrom : GoodIn wsX2_winnerOf wsX2_drawFrom := goodIn_r _ [18, 19, 20, 21, 22, 23, 24, 25, 26, 27, 28, 17, 29, 30, 31, 32, 33, 34, 39, 40, 41, 42] (by decide +kernel) (by decide +kernel)
set_option maxRecDepth 20000 in
theorem gX2_winnerOf_X2_drawFrom : GoodIn wsX2_winnerOf (wsV RX2 34 RX2 yX2_drawFrom wsX2_drawFrom) := goodIn_app (goodIn_of _ (by decide +kernel)) ggX2_winnerOf_X2_drawFrom
set_option maxRecDepth 20000 in
theorem ggX2_winnerOf_X6_leftBy : GoodIn wsX2_winnerOf wsX6_leftBy := goodIn_r _ [38, 8, 43, 44, 45, 46, 47, 48, 49] (by decide +kernel) (by decide +kernel)
set_option maxRecDepth 20000 in
theorem gX2_winnerOf_X6_leftBy : GoodIn wsX2_winnerOf (wsV RX2 38 RX6 yX6_leftBy wsX6_leftBy) := goodIn_app (goodIn_of _ (by decide +kernel)) ggX2_winnerOf_X6_leftBy
theorem dX2_winnerOf_0 : decode cX2_winnerOf 0 = .ok (.iload_n 1, 1) := by decide +kernel
theorem dX2_winnerOf_1 : decode cX2_winnerOf 1 = .ok (.istore_n 3, 1) := by decide +kernel
theorem dX2_winnerOf_2 : decode cX2_winnerOf 2 = .ok (.iload_n 2, 1) := by decide +kernel
theorem dX2_winnerOf_3 : decode cX2_winnerOf 3 = .ok (.istore 4, 2) := by decide +kernel
theorem dX2_winnerOf_5 : decode cX2_winnerOf 5 = .ok (.aload_n 0, 1) := by decide +kernel
theorem dX2_winnerOf_6 : decode cX2_winnerOf 6 = .ok (.getfield 21, 3) := by decide +kernel
theorem dX2_winnerOf_9 : decode cX2_winnerOf 9 = .ok (.iload_n 3, 1) := by decide +kernel
theorem dX2_winnerOf_10 : decode cX2_winnerOf 10 = .ok (.iload 4, 2) := by decide +kernel
theorem dX2_winnerOf_12 : decode cX2_winnerOf 12 = .ok (.invokevirtual 29, 3) := by decide +kernel
theorem dX2_winnerOf_15 : decode cX2_winnerOf 15 = .ok (.istore 5, 2) := by decide +kernel
theorem dX2_winnerOf_17 : decode cX2_winnerOf 17 = .ok (.iconst 0, 1) := by decide +kernel
theorem dX2_winnerOf_18 : decode cX2_winnerOf 18 = .ok (.istore 6, 2) := by decide +kernel
theorem dX2_winnerOf_20 : decode cX2_winnerOf 20 = .ok (.iload 6, 2) := by decide +kernel
theorem dX2_winnerOf_22 : decode cX2_winnerOf 22 = .ok (.bipush 8, 2) := by decide +kernel
theorem dX2_winnerOf_24 : decode cX2_winnerOf 24 = .ok (.if_icmp .ge 57, 3) := by decide +kernel
theorem dX2_winnerOf_27 : decode cX2_winnerOf 27 = .ok (.iload 5, 2) := by decide +kernel
theorem dX2_winnerOf_29 : decode cX2_winnerOf 29 = .ok (.ifCond .eq 52, 3) := by decide +kernel
theorem dX2_winnerOf_32 : decode cX2_winnerOf 32 = .ok (.aload_n 0, 1) := by decide +kernel
theorem dX2_winnerOf_33 : decode cX2_winnerOf 33 = .ok (.getfield 21, 3) := by decide +kernel
theorem dX2_winnerOf_36 : decode cX2_winnerOf 36 = .ok (.aload_n 0, 1) := by decide +kernel
theorem dX2_winnerOf_37 : decode cX2_winnerOf 37 = .ok (.iload 5, 2) := by decide +kernel
theorem dX2_winnerOf_39 : decode cX2_winnerOf 39 = .ok (.invokevirtual 34, 3) := by decide +kernel
theorem dX2_winnerOf_42 : decode cX2_winnerOf 42 = .ok (.iload 4, 2) := by decide +kernel
theorem dX2_winnerOf_44 : decode cX2_winnerOf 44 = .ok (.invokevirtual 38, 3) := by decide +kernel
theorem dX2_winnerOf_47 : decode cX2_winnerOf 47 = .ok (.istore 4, 2) := by decide +kernel
theorem dX2_winnerOf_49 : decode cX2_winnerOf 49 = .ok (.aload_n 0, 1) := by decide +kernel
theorem dX2_winnerOf_50 : decode cX2_winnerOf 50 = .ok (.dup, 1) := by decide +kernel
theorem dX2_winnerOf_51 : decode cX2_winnerOf 51 = .ok (.getfield 18, 3) := by decide +kernel
theorem dX2_winnerOf_54 : decode cX2_winnerOf 54 = .ok (.iconst 1, 1) := by decide +kernel
theorem dX2_winnerOf_55 : decode cX2_winnerOf 55 = .ok (.iadd, 1) := by decide +kernel
theorem dX2_winnerOf_56 : decode cX2_winnerOf 56 = .ok (.putfield 18, 3) := by decide +kernel
theorem dX2_winnerOf_59 : decode cX2_winnerOf 59 = .ok (.iconst 1, 1) := by decide +kernel
theorem dX2_winnerOf_60 : decode cX2_winnerOf 60 = .ok (.iload_n 3, 1) := by decide +kernel
theorem dX2_winnerOf_61 : decode cX2_winnerOf 61 = .ok (.isub, 1) := by decide +kernel
theorem dX2_winnerOf_62 : decode cX2_winnerOf 62 = .ok (.istore_n 3, 1) := by decide +kernel
theorem dX2_winnerOf_63 : decode cX2_winnerOf 63 = .ok (.aload_n 0, 1) := by decide +kernel
theorem dX2_winnerOf_64 : decode cX2_winnerOf 64 = .ok (.getfield 21, 3) := by decide +kernel
theorem dX2_winnerOf_67 : decode cX2_winnerOf 67 = .ok (.iload_n 3, 1) := by decide +kernel
theorem dX2_winnerOf_68 : decode cX2_winnerOf 68 = .ok (.iload 4, 2) := by decide +kernel
theorem dX2_winnerOf_70 : decode cX2_winnerOf 70 = .ok (.invokevirtual 29, 3) := by decide +kernel
theorem dX2_winnerOf_73 : decode cX2_winnerOf 73 = .ok (.istore 5, 2) := by decide +kernel
theorem dX2_winnerOf_75 : decode cX2_winnerOf 75 = .ok (.iinc 6 1, 3) := by decide +kernel
theorem dX2_winnerOf_78 : decode cX2_winnerOf 78 = .ok (.goto (-58), 3) := by decide +kernel
theorem dX2_winnerOf_81 : decode cX2_winnerOf 81 = .ok (.iconst 1, 1) := by decide +kernel
theorem dX2_winnerOf_82 : decode cX2_winnerOf 82 = .ok (.iload_n 3, 1) := by decide +kernel
theorem dX2_winnerOf_83 : decode cX2_winnerOf 83 = .ok (.isub, 1) := by decide +kernel
theorem dX2_winnerOf_84 : decode cX2_winnerOf 84 = .ok (.ireturn, 1) := by decide +kernel
set_option maxRecDepth 20000 in
theorem ggX2_drawFrom_J6_bitCount_0f7a4 : GoodIn wsX2_drawFrom wsJ6_bitCount_0f7a4 := goodIn_r _ [4, 5, 6, 7] (by decide +kernel) (by decide +kernel)
set_option maxRecDepth 20000 in
theorem gX2_drawFrom_J6_bitCount_0f7a4 : GoodIn wsX2_drawFrom (va_wsS RX2 41 yJ6_bitCount_0f7a4 wsJ6_bitCount_0f7a4) := goodIn_app (goodIn_of _ (by decide +kernel)) ggX2_drawFrom_J6_bitCount_0f7a4
set_option maxRecDepth 20000 in
theorem ggX2_drawFrom_X2_draw : GoodIn wsX2_drawFrom wsX2_draw := goodIn_r _ [12, 13, 14, 15, 16, 17, 18, 19, 20, 21] (by decide +kernel) (by decide +kernel)
set_option maxRecDepth 20000 in
theorem gX2_drawFrom_X2_draw : GoodIn wsX2_drawFrom (wsV RX2 46 RX2 yX2_draw wsX2_draw) := goodIn_app (goodIn_of _ (by decide +kernel)) ggX2_drawFrom_X2_draw
theorem dX2_drawFrom_0 : decode cX2_drawFrom 0 = .ok (.aload_n 0, 1) := by decide +kernel
theorem dX2_drawFrom_1 : decode cX2_drawFrom 1 = .ok (.iload_n 1, 1) := by decide +kernel
theorem dX2_drawFrom_2 : decode cX2_drawFrom 2 = .ok (.invokestatic 41, 3) := by decide +kernel
theorem dX2_drawFrom_5 : decode cX2_drawFrom 5 = .ok (.invokevirtual 46, 3) := by decide +kernel
theorem dX2_drawFrom_8 : decode cX2_drawFrom 8 = .ok (.istore_n 2, 1) := by decide +kernel
theorem dX2_drawFrom_9 : decode cX2_drawFrom 9 = .ok (.iconst 0, 1) := by decide +kernel
theorem dX2_drawFrom_10 : decode cX2_drawFrom 10 = .ok (.istore_n 3, 1) := by decide +kernel
theorem dX2_drawFrom_11 : decode cX2_drawFrom 11 = .ok (.iload_n 3, 1) := by decide +kernel
theorem dX2_drawFrom_12 : decode cX2_drawFrom 12 = .ok (.bipush 8, 2) := by decide +kernel
theorem dX2_drawFrom_14 : decode cX2_drawFrom 14 = .ok (.if_icmp .ge 26, 3) := by decide +kernel
theorem dX2_drawFrom_17 : decode cX2_drawFrom 17 = .ok (.iload_n 1, 1) := by decide +kernel
theorem dX2_drawFrom_18 : decode cX2_drawFrom 18 = .ok (.iload_n 3, 1) := by decide +kernel
theorem dX2_drawFrom_19 : decode cX2_drawFrom 19 = .ok (.ishr, 1) := by decide +kernel
theorem dX2_drawFrom_20 : decode cX2_drawFrom 20 = .ok (.iconst 1, 1) := by decide +kernel
theorem dX2_drawFrom_21 : decode cX2_drawFrom 21 = .ok (.iand, 1) := by decide +kernel
theorem dX2_drawFrom_22 : decode cX2_drawFrom 22 = .ok (.ifCond .eq 12, 3) := by decide +kernel
theorem dX2_drawFrom_25 : decode cX2_drawFrom 25 = .ok (.iload_n 2, 1) := by decide +kernel
theorem dX2_drawFrom_26 : decode cX2_drawFrom 26 = .ok (.ifCond .ne 5, 3) := by decide +kernel
theorem dX2_drawFrom_29 : decode cX2_drawFrom 29 = .ok (.iload_n 3, 1) := by decide +kernel
theorem dX2_drawFrom_30 : decode cX2_drawFrom 30 = .ok (.ireturn, 1) := by decide +kernel
theorem dX2_drawFrom_31 : decode cX2_drawFrom 31 = .ok (.iinc 2 (-1), 3) := by decide +kernel
theorem dX2_drawFrom_34 : decode cX2_drawFrom 34 = .ok (.iinc 3 1, 3) := by decide +kernel
theorem dX2_drawFrom_37 : decode cX2_drawFrom 37 = .ok (.goto (-26), 3) := by decide +kernel
theorem dX2_drawFrom_40 : decode cX2_drawFrom 40 = .ok (.iconst 0, 1) := by decide +kernel
theorem dX2_drawFrom_41 : decode cX2_drawFrom 41 = .ok (.ireturn, 1) := by decide +kernel
theorem dX2_draw_0 : decode cX2_draw 0 = .ok (.aload_n 0, 1) := by decide +kernel
theorem dX2_draw_1 : decode cX2_draw 1 = .ok (.ldc2_w 49, 3) := by decide +kernel
theorem dX2_draw_4 : decode cX2_draw 4 = .ok (.aload_n 0, 1) := by decide +kernel
theorem dX2_draw_5 : decode cX2_draw 5 = .ok (.getfield 9, 3) := by decide +kernel
theorem dX2_draw_8 : decode cX2_draw 8 = .ok (.i2l, 1) := by decide +kernel
theorem dX2_draw_9 : decode cX2_draw 9 = .ok (.lmul, 1) := by decide +kernel
theorem dX2_draw_10 : decode cX2_draw 10 = .ok (.ldc2_w 51, 3) := by decide +kernel
theorem dX2_draw_13 : decode cX2_draw 13 = .ok (.ladd, 1) := by decide +kernel
theorem dX2_draw_14 : decode cX2_draw 14 = .ok (.ldc2_w 53, 3) := by decide +kernel
theorem dX2_draw_17 : decode cX2_draw 17 = .ok (.lrem, 1) := by decide +kernel
theorem dX2_draw_18 : decode cX2_draw 18 = .ok (.l2i, 1) := by decide +kernel
theorem dX2_draw_19 : decode cX2_draw 19 = .ok (.putfield 9, 3) := by decide +kernel
theorem dX2_draw_22 : decode cX2_draw 22 = .ok (.iload_n 1, 1) := by decide +kernel
theorem dX2_draw_23 : decode cX2_draw 23 = .ok (.ifCond .le 15, 3) := by decide +kernel
theorem dX2_draw_26 : decode cX2_draw 26 = .ok (.aload_n 0, 1) := by decide +kernel
theorem dX2_draw_27 : decode cX2_draw 27 = .ok (.getfield 9, 3) := by decide +kernel
theorem dX2_draw_30 : decode cX2_draw 30 = .ok (.ldc 55, 2) := by decide +kernel
theorem dX2_draw_32 : decode cX2_draw 32 = .ok (.idiv, 1) := by decide +kernel
theorem dX2_draw_33 : decode cX2_draw 33 = .ok (.iload_n 1, 1) := by decide +kernel
theorem dX2_draw_34 : decode cX2_draw 34 = .ok (.irem, 1) := by decide +kernel
theorem dX2_draw_35 : decode cX2_draw 35 = .ok (.goto 4, 3) := by decide +kernel
theorem dX2_draw_38 : decode cX2_draw 38 = .ok (.iconst 0, 1) := by decide +kernel
theorem dX2_draw_39 : decode cX2_draw 39 = .ok (.ireturn, 1) := by decide +kernel
set_option maxRecDepth 20000 in
theorem ggX3_init_X7_init : GoodIn wsX3_init wsX7_init := goodIn_r _ [15, 16, 2, 3, 17, 4, 18, 19, 20, 21, 27, 28, 29, 30] (by decide +kernel) (by decide +kernel)
set_option maxRecDepth 20000 in
theorem gX3_init_X7_init : GoodIn wsX3_init (wsX7_init) := ggX3_init_X7_init
theorem dX3_init_0 : decode cX3_init 0 = .ok (.aload_n 0, 1) := by decide +kernel
theorem dX3_init_1 : decode cX3_init 1 = .ok (.invokespecial 3, 3) := by decide +kernel
theorem dX3_init_4 : decode cX3_init 4 = .ok (.aload_n 0, 1) := by decide +kernel
theorem dX3_init_5 : decode cX3_init 5 = .ok (.bipush 8, 2) := by decide +kernel
theorem dX3_init_7 : decode cX3_init 7 = .ok (.newarray .int, 2) := by decide +kernel
theorem dX3_init_9 : decode cX3_init 9 = .ok (.putfield 9, 3) := by decide +kernel
theorem dX3_init_12 : decode cX3_init 12 = .ok (.aload_n 0, 1) := by decide +kernel
theorem dX3_init_13 : decode cX3_init 13 = .ok (.iconst 0, 1) := by decide +kernel
theorem dX3_init_14 : decode cX3_init 14 = .ok (.putfield 15, 3) := by decide +kernel
theorem dX3_init_17 : decode cX3_init 17 = .ok (.aload_n 0, 1) := by decide +kernel
theorem dX3_init_18 : decode cX3_init 18 = .ok (.iconst 0, 1) := by decide +kernel
theorem dX3_init_19 : decode cX3_init 19 = .ok (.putfield 19, 3) := by decide +kernel
theorem dX3_init_22 : decode cX3_init 22 = .ok (.aload_n 0, 1) := by decide +kernel
theorem dX3_init_23 : decode cX3_init 23 = .ok (.iconst 0, 1) := by decide +kernel
theorem dX3_init_24 : decode cX3_init 24 = .ok (.putfield 22, 3) := by decide +kernel
theorem dX3_init_27 : decode cX3_init 27 = .ok (.aload_n 0, 1) := by decide +kernel
theorem dX3_init_28 : decode cX3_init 28 = .ok (.new 25, 3) := by decide +kernel
theorem dX3_init_31 : decode cX3_init 31 = .ok (.dup, 1) := by decide +kernel
theorem dX3_init_32 : decode cX3_init 32 = .ok (.invokespecial 27, 3) := by decide +kernel
theorem dX3_init_35 : decode cX3_init 35 = .ok (.putfield 28, 3) := by decide +kernel
theorem dX3_init_38 : decode cX3_init 38 = .ok (.return_, 1) := by decide +kernel
set_option maxRecDepth 20000 in
theorem ggX3_beginWith_X5_kindAt : GoodIn wsX3_beginWith wsX5_kindAt := goodIn_r _ [10, 11, 12, 13, 14, 15, 16, 17, 9, 18, 19, 20, 21, 22, 23, 24, 25, 26, 27, 28, 29, 30, 31, 32, 33, 34, 35, 36, 37, 38, 39, 40, 41, 42, 43, 44, 45, 46, 47, 48, 49, 50, 51, 52, 53, 54, 55, 56, 57, 58, 59, 60, 61, 62, 63, 64, 65, 66, 67, 68, 69, 70, 71, 72, 73, 74, 75, 76, 77, 78, 79, 80, 81, 82, 83, 84, 85, 86, 87, 88, 89, 90, 91, 92, 93, 94, 95, 96, 97, 98, 99, 100, 101, 102, 103, 104, 105, 106, 116, 117] (by decide +kernel) (by decide +kernel)
set_option maxRecDepth 20000 in
theorem gX3_beginWith_X5_kindAt : GoodIn wsX3_beginWith (wsV RX3 32 RX5 yX5_kindAt wsX5_kindAt) := goodIn_app (goodIn_of _ (by decide +kernel)) ggX3_beginWith_X5_kindAt
theorem dX3_beginWith_0 : decode cX3_beginWith 0 = .ok (.iconst 0, 1) := by decide +kernel
theorem dX3_beginWith_1 : decode cX3_beginWith 1 = .ok (.istore_n 3, 1) := by decide +kernel
theorem dX3_beginWith_2 : decode cX3_beginWith 2 = .ok (.iload_n 3, 1) := by decide +kernel
theorem dX3_beginWith_3 : decode cX3_beginWith 3 = .ok (.iload_n 2, 1) := by decide +kernel
theorem dX3_beginWith_4 : decode cX3_beginWith 4 = .ok (.if_icmp .ge 20, 3) := by decide +kernel
theorem dX3_beginWith_7 : decode cX3_beginWith 7 = .ok (.aload_n 0, 1) := by decide +kernel
theorem dX3_beginWith_8 : decode cX3_beginWith 8 = .ok (.getfield 9, 3) := by decide +kernel
theorem dX3_beginWith_11 : decode cX3_beginWith 11 = .ok (.iload_n 3, 1) := by decide +kernel
theorem dX3_beginWith_12 : decode cX3_beginWith 12 = .ok (.aload_n 1, 1) := by decide +kernel
theorem dX3_beginWith_13 : decode cX3_beginWith 13 = .ok (.iload_n 3, 1) := by decide +kernel
theorem dX3_beginWith_14 : decode cX3_beginWith 14 = .ok (.invokevirtual 32, 3) := by decide +kernel
theorem dX3_beginWith_17 : decode cX3_beginWith 17 = .ok (.iastore, 1) := by decide +kernel
theorem dX3_beginWith_18 : decode cX3_beginWith 18 = .ok (.iinc 3 1, 3) := by decide +kernel
theorem dX3_beginWith_21 : decode cX3_beginWith 21 = .ok (.goto (-19), 3) := by decide +kernel
theorem dX3_beginWith_24 : decode cX3_beginWith 24 = .ok (.aload_n 0, 1) := by decide +kernel
theorem dX3_beginWith_25 : decode cX3_beginWith 25 = .ok (.iconst 1, 1) := by decide +kernel
theorem dX3_beginWith_26 : decode cX3_beginWith 26 = .ok (.iload_n 2, 1) := by decide +kernel
theorem dX3_beginWith_27 : decode cX3_beginWith 27 = .ok (.ishl, 1) := by decide +kernel
theorem dX3_beginWith_28 : decode cX3_beginWith 28 = .ok (.iconst 1, 1) := by decide +kernel
theorem dX3_beginWith_29 : decode cX3_beginWith 29 = .ok (.isub, 1) := by decide +kernel
theorem dX3_beginWith_30 : decode cX3_beginWith 30 = .ok (.putfield 15, 3) := by decide +kernel
theorem dX3_beginWith_33 : decode cX3_beginWith 33 = .ok (.aload_n 0, 1) := by decide +kernel
theorem dX3_beginWith_34 : decode cX3_beginWith 34 = .ok (.iconst 0, 1) := by decide +kernel
theorem dX3_beginWith_35 : decode cX3_beginWith 35 = .ok (.putfield 19, 3) := by decide +kernel
theorem dX3_beginWith_38 : decode cX3_beginWith 38 = .ok (.aload_n 0, 1) := by decide +kernel
theorem dX3_beginWith_39 : decode cX3_beginWith 39 = .ok (.iconst 0, 1) := by decide +kernel
theorem dX3_beginWith_40 : decode cX3_beginWith 40 = .ok (.putfield 22, 3) := by decide +kernel
theorem dX3_beginWith_43 : decode cX3_beginWith 43 = .ok (.aload_n 0, 1) := by decide +kernel
theorem dX3_beginWith_44 : decode cX3_beginWith 44 = .ok (.getfield 28, 3) := by decide +kernel
theorem dX3_beginWith_47 : decode cX3_beginWith 47 = .ok (.iconst 0, 1) := by decide +kernel
theorem dX3_beginWith_48 : decode cX3_beginWith 48 = .ok (.putfield 38, 3) := by decide +kernel
theorem dX3_beginWith_51 : decode cX3_beginWith 51 = .ok (.return_, 1) := by decide +kernel
set_option maxRecDepth 20000 in
theorem ggX3_copyFrom_X7_copyFrom : GoodIn wsX3_copyFrom wsX7_copyFrom := goodIn_r _ [14, 15, 16, 17, 18, 24, 25, 26, 27] (by decide +kernel) (by decide +kernel)
set_option maxRecDepth 20000 in
theorem gX3_copyFrom_X7_copyFrom : GoodIn wsX3_copyFrom (wsV RX3 47 RX7 yX7_copyFrom wsX7_copyFrom) := goodIn_app (goodIn_of _ (by decide +kernel)) ggX3_copyFrom_X7_copyFrom
theorem dX3_copyFrom_0 : decode cX3_copyFrom 0 = .ok (.aload_n 1, 1) := by decide +kernel
theorem dX3_copyFrom_1 : decode cX3_copyFrom 1 = .ok (.getfield 9, 3) := by decide +kernel
theorem dX3_copyFrom_4 : decode cX3_copyFrom 4 = .ok (.iconst 0, 1) := by decide +kernel
theorem dX3_copyFrom_5 : decode cX3_copyFrom 5 = .ok (.aload_n 0, 1) := by decide +kernel
theorem dX3_copyFrom_6 : decode cX3_copyFrom 6 = .ok (.getfield 9, 3) := by decide +kernel
theorem dX3_copyFrom_9 : decode cX3_copyFrom 9 = .ok (.iconst 0, 1) := by decide +kernel
theorem dX3_copyFrom_10 : decode cX3_copyFrom 10 = .ok (.bipush 8, 2) := by decide +kernel
theorem dX3_copyFrom_12 : decode cX3_copyFrom 12 = .ok (.invokestatic 41, 3) := by decide +kernel
theorem dX3_copyFrom_15 : decode cX3_copyFrom 15 = .ok (.aload_n 0, 1) := by decide +kernel
theorem dX3_copyFrom_16 : decode cX3_copyFrom 16 = .ok (.aload_n 1, 1) := by decide +kernel
theorem dX3_copyFrom_17 : decode cX3_copyFrom 17 = .ok (.getfield 15, 3) := by decide +kernel
theorem dX3_copyFrom_20 : decode cX3_copyFrom 20 = .ok (.putfield 15, 3) := by decide +kernel
theorem dX3_copyFrom_23 : decode cX3_copyFrom 23 = .ok (.aload_n 0, 1) := by decide +kernel
theorem dX3_copyFrom_24 : decode cX3_copyFrom 24 = .ok (.aload_n 1, 1) := by decide +kernel
theorem dX3_copyFrom_25 : decode cX3_copyFrom 25 = .ok (.getfield 19, 3) := by decide +kernel
theorem dX3_copyFrom_28 : decode cX3_copyFrom 28 = .ok (.putfield 19, 3) := by decide +kernel
theorem dX3_copyFrom_31 : decode cX3_copyFrom 31 = .ok (.aload_n 0, 1) := by decide +kernel
theorem dX3_copyFrom_32 : decode cX3_copyFrom 32 = .ok (.aload_n 1, 1) := by decide +kernel
theorem dX3_copyFrom_33 : decode cX3_copyFrom 33 = .ok (.getfield 22, 3) := by decide +kernel
theorem dX3_copyFrom_36 : decode cX3_copyFrom 36 = .ok (.putfield 22, 3) := by decide +kernel
theorem dX3_copyFrom_39 : decode cX3_copyFrom 39 = .ok (.aload_n 0, 1) := by decide +kernel
theorem dX3_copyFrom_40 : decode cX3_copyFrom 40 = .ok (.getfield 28, 3) := by decide +kernel
theorem dX3_copyFrom_43 : decode cX3_copyFrom 43 = .ok (.aload_n 1, 1) := by decide +kernel
theorem dX3_copyFrom_44 : decode cX3_copyFrom 44 = .ok (.getfield 28, 3) := by decide +kernel
theorem dX3_copyFrom_47 : decode cX3_copyFrom 47 = .ok (.invokevirtual 47, 3) := by decide +kernel
theorem dX3_copyFrom_50 : decode cX3_copyFrom 50 = .ok (.return_, 1) := by decide +kernel
theorem dX4_init_0 : decode cX4_init 0 = .ok (.aload_n 0, 1) := by decide +kernel
theorem dX4_init_1 : decode cX4_init 1 = .ok (.invokespecial 5, 3) := by decide +kernel
theorem dX4_init_4 : decode cX4_init 4 = .ok (.aload_n 0, 1) := by decide +kernel
theorem dX4_init_5 : decode cX4_init 5 = .ok (.sipush 512, 3) := by decide +kernel
theorem dX4_init_8 : decode cX4_init 8 = .ok (.newarray .long, 2) := by decide +kernel
theorem dX4_init_10 : decode cX4_init 10 = .ok (.putfield 11, 3) := by decide +kernel
theorem dX4_init_13 : decode cX4_init 13 = .ok (.aload_n 0, 1) := by decide +kernel
theorem dX4_init_14 : decode cX4_init 14 = .ok (.aload_n 1, 1) := by decide +kernel
theorem dX4_init_15 : decode cX4_init 15 = .ok (.putfield 15, 3) := by decide +kernel
theorem dX4_init_18 : decode cX4_init 18 = .ok (.return_, 1) := by decide +kernel
set_option maxRecDepth 20000 in
theorem ggX4_isWonBy_X10_place : GoodIn wsX4_isWonBy wsX10_place := goodIn_r _ [5] (by decide +kernel) (by decide +kernel)
set_option maxRecDepth 20000 in
theorem gX4_isWonBy_X10_place_n19 : GoodIn wsX4_isWonBy (wsX10_place) := ggX4_isWonBy_X10_place
theorem dX4_isWonBy_0 : decode cX4_isWonBy 0 = .ok (.aload_n 0, 1) := by decide +kernel
theorem dX4_isWonBy_1 : decode cX4_isWonBy 1 = .ok (.getfield 11, 3) := by decide +kernel
theorem dX4_isWonBy_4 : decode cX4_isWonBy 4 = .ok (.iload_n 1, 1) := by decide +kernel
theorem dX4_isWonBy_5 : decode cX4_isWonBy 5 = .ok (.iload_n 2, 1) := by decide +kernel
theorem dX4_isWonBy_6 : decode cX4_isWonBy 6 = .ok (.invokestatic 19, 3) := by decide +kernel
theorem dX4_isWonBy_9 : decode cX4_isWonBy 9 = .ok (.laload, 1) := by decide +kernel
theorem dX4_isWonBy_10 : decode cX4_isWonBy 10 = .ok (.ldc2_w 23, 3) := by decide +kernel
theorem dX4_isWonBy_13 : decode cX4_isWonBy 13 = .ok (.land, 1) := by decide +kernel
theorem dX4_isWonBy_14 : decode cX4_isWonBy 14 = .ok (.lconst 0, 1) := by decide +kernel
theorem dX4_isWonBy_15 : decode cX4_isWonBy 15 = .ok (.lcmp, 1) := by decide +kernel
theorem dX4_isWonBy_16 : decode cX4_isWonBy 16 = .ok (.ifCond .eq 7, 3) := by decide +kernel
theorem dX4_isWonBy_19 : decode cX4_isWonBy 19 = .ok (.iconst 1, 1) := by decide +kernel
theorem dX4_isWonBy_20 : decode cX4_isWonBy 20 = .ok (.goto 4, 3) := by decide +kernel
theorem dX4_isWonBy_23 : decode cX4_isWonBy 23 = .ok (.iconst 0, 1) := by decide +kernel
theorem dX4_isWonBy_24 : decode cX4_isWonBy 24 = .ok (.ireturn, 1) := by decide +kernel
set_option maxRecDepth 20000 in
theorem ggX4_winningKinds_X10_place : GoodIn wsX4_winningKinds wsX10_place := goodIn_r _ [4] (by decide +kernel) (by decide +kernel)
set_option maxRecDepth 20000 in
theorem gX4_winningKinds_X10_place_n19 : GoodIn wsX4_winningKinds (wsX10_place) := ggX4_winningKinds_X10_place
theorem dX4_winningKinds_0 : decode cX4_winningKinds 0 = .ok (.aload_n 0, 1) := by decide +kernel
theorem dX4_winningKinds_1 : decode cX4_winningKinds 1 = .ok (.getfield 11, 3) := by decide +kernel
theorem dX4_winningKinds_4 : decode cX4_winningKinds 4 = .ok (.iload_n 1, 1) := by decide +kernel
theorem dX4_winningKinds_5 : decode cX4_winningKinds 5 = .ok (.iload_n 3, 1) := by decide +kernel
theorem dX4_winningKinds_6 : decode cX4_winningKinds 6 = .ok (.invokestatic 19, 3) := by decide +kernel
theorem dX4_winningKinds_9 : decode cX4_winningKinds 9 = .ok (.laload, 1) := by decide +kernel
theorem dX4_winningKinds_10 : decode cX4_winningKinds 10 = .ok (.iconst 5, 1) := by decide +kernel
theorem dX4_winningKinds_11 : decode cX4_winningKinds 11 = .ok (.iload_n 2, 1) := by decide +kernel
theorem dX4_winningKinds_12 : decode cX4_winningKinds 12 = .ok (.imul, 1) := by decide +kernel
theorem dX4_winningKinds_13 : decode cX4_winningKinds 13 = .ok (.lshr, 1) := by decide +kernel
theorem dX4_winningKinds_14 : decode cX4_winningKinds 14 = .ok (.l2i, 1) := by decide +kernel
theorem dX4_winningKinds_15 : decode cX4_winningKinds 15 = .ok (.bipush 31, 2) := by decide +kernel
theorem dX4_winningKinds_17 : decode cX4_winningKinds 17 = .ok (.iand, 1) := by decide +kernel
theorem dX4_winningKinds_18 : decode cX4_winningKinds 18 = .ok (.ireturn, 1) := by decide +kernel
set_option maxRecDepth 20000 in
theorem ggX4_enter_X6_leftBy : GoodIn wsX4_enter wsX6_leftBy := goodIn_r _ [8, 9, 26, 27, 28, 29, 30, 31, 32] (by decide +kernel) (by decide +kernel)
set_option maxRecDepth 20000 in
theorem gX4_enter_X6_leftBy : GoodIn wsX4_enter (wsV RX4 37 RX6 yX6_leftBy wsX6_leftBy) := goodIn_app (goodIn_of _ (by decide +kernel)) ggX4_enter_X6_leftBy
set_option maxRecDepth 20000 in
theorem ggX4_enter_X10_place : GoodIn wsX4_enter wsX10_place := goodIn_r _ [12] (by decide +kernel) (by decide +kernel)
set_option maxRecDepth 20000 in
theorem gX4_enter_X10_place_n19 : GoodIn wsX4_enter (wsX10_place) := ggX4_enter_X10_place
set_option maxRecDepth 20000 in
theorem ggX4_enter_X4_hedgesWithCut : GoodIn wsX4_enter wsX4_hedgesWithCut := goodIn_r _ [17, 1, 18, 19, 3, 20, 21, 22, 7, 23, 9, 24, 25, 26, 27, 33, 34, 35, 36, 37, 28, 29, 30, 31, 32] (by decide +kernel) (by decide +kernel)
set_option maxRecDepth 20000 in
theorem gX4_enter_X4_hedgesWithCut : GoodIn wsX4_enter (wsV RX4 42 RX4 yX4_hedgesWithCut wsX4_hedgesWithCut) := goodIn_app (goodIn_of _ (by decide +kernel)) ggX4_enter_X4_hedgesWithCut
theorem dX4_enter_0 : decode cX4_enter 0 = .ok (.lconst 0, 1) := by decide +kernel
theorem dX4_enter_1 : decode cX4_enter 1 = .ok (.lstore_n 3, 1) := by decide +kernel
theorem dX4_enter_2 : decode cX4_enter 2 = .ok (.iconst 0, 1) := by decide +kernel
theorem dX4_enter_3 : decode cX4_enter 3 = .ok (.istore 5, 2) := by decide +kernel
theorem dX4_enter_5 : decode cX4_enter 5 = .ok (.iload 5, 2) := by decide +kernel
theorem dX4_enter_7 : decode cX4_enter 7 = .ok (.aload_n 0, 1) := by decide +kernel
theorem dX4_enter_8 : decode cX4_enter 8 = .ok (.getfield 15, 3) := by decide +kernel
theorem dX4_enter_11 : decode cX4_enter 11 = .ok (.getfield 25, 3) := by decide +kernel
theorem dX4_enter_14 : decode cX4_enter 14 = .ok (.getfield 31, 3) := by decide +kernel
theorem dX4_enter_17 : decode cX4_enter 17 = .ok (.if_icmp .ge 59, 3) := by decide +kernel
theorem dX4_enter_20 : decode cX4_enter 20 = .ok (.iload_n 2, 1) := by decide +kernel
theorem dX4_enter_21 : decode cX4_enter 21 = .ok (.iload 5, 2) := by decide +kernel
theorem dX4_enter_23 : decode cX4_enter 23 = .ok (.ishr, 1) := by decide +kernel
theorem dX4_enter_24 : decode cX4_enter 24 = .ok (.iconst 1, 1) := by decide +kernel
theorem dX4_enter_25 : decode cX4_enter 25 = .ok (.iand, 1) := by decide +kernel
theorem dX4_enter_26 : decode cX4_enter 26 = .ok (.ifCond .eq 44, 3) := by decide +kernel
theorem dX4_enter_29 : decode cX4_enter 29 = .ok (.aload_n 0, 1) := by decide +kernel
theorem dX4_enter_30 : decode cX4_enter 30 = .ok (.getfield 11, 3) := by decide +kernel
theorem dX4_enter_33 : decode cX4_enter 33 = .ok (.iconst 1, 1) := by decide +kernel
theorem dX4_enter_34 : decode cX4_enter 34 = .ok (.iload_n 1, 1) := by decide +kernel
theorem dX4_enter_35 : decode cX4_enter 35 = .ok (.isub, 1) := by decide +kernel
theorem dX4_enter_36 : decode cX4_enter 36 = .ok (.aload_n 0, 1) := by decide +kernel
theorem dX4_enter_37 : decode cX4_enter 37 = .ok (.getfield 15, 3) := by decide +kernel
theorem dX4_enter_40 : decode cX4_enter 40 = .ok (.iload 5, 2) := by decide +kernel
theorem dX4_enter_42 : decode cX4_enter 42 = .ok (.iload_n 2, 1) := by decide +kernel
theorem dX4_enter_43 : decode cX4_enter 43 = .ok (.invokevirtual 37, 3) := by decide +kernel
theorem dX4_enter_46 : decode cX4_enter 46 = .ok (.invokestatic 19, 3) := by decide +kernel
theorem dX4_enter_49 : decode cX4_enter 49 = .ok (.laload, 1) := by decide +kernel
theorem dX4_enter_50 : decode cX4_enter 50 = .ok (.ldc2_w 40, 3) := by decide +kernel
theorem dX4_enter_53 : decode cX4_enter 53 = .ok (.lxor, 1) := by decide +kernel
theorem dX4_enter_54 : decode cX4_enter 54 = .ok (.lstore 6, 2) := by decide +kernel
theorem dX4_enter_56 : decode cX4_enter 56 = .ok (.lload_n 3, 1) := by decide +kernel
theorem dX4_enter_57 : decode cX4_enter 57 = .ok (.aload_n 0, 1) := by decide +kernel
theorem dX4_enter_58 : decode cX4_enter 58 = .ok (.iload_n 1, 1) := by decide +kernel
theorem dX4_enter_59 : decode cX4_enter 59 = .ok (.iload 5, 2) := by decide +kernel
theorem dX4_enter_61 : decode cX4_enter 61 = .ok (.iload_n 2, 1) := by decide +kernel
theorem dX4_enter_62 : decode cX4_enter 62 = .ok (.invokevirtual 42, 3) := by decide +kernel
theorem dX4_enter_65 : decode cX4_enter 65 = .ok (.lload 6, 2) := by decide +kernel
theorem dX4_enter_67 : decode cX4_enter 67 = .ok (.land, 1) := by decide +kernel
theorem dX4_enter_68 : decode cX4_enter 68 = .ok (.lor, 1) := by decide +kernel
theorem dX4_enter_69 : decode cX4_enter 69 = .ok (.lstore_n 3, 1) := by decide +kernel
theorem dX4_enter_70 : decode cX4_enter 70 = .ok (.iinc 5 1, 3) := by decide +kernel
theorem dX4_enter_73 : decode cX4_enter 73 = .ok (.goto (-68), 3) := by decide +kernel
theorem dX4_enter_76 : decode cX4_enter 76 = .ok (.aload_n 0, 1) := by decide +kernel
theorem dX4_enter_77 : decode cX4_enter 77 = .ok (.getfield 11, 3) := by decide +kernel
theorem dX4_enter_80 : decode cX4_enter 80 = .ok (.iload_n 1, 1) := by decide +kernel
theorem dX4_enter_81 : decode cX4_enter 81 = .ok (.iload_n 2, 1) := by decide +kernel
theorem dX4_enter_82 : decode cX4_enter 82 = .ok (.invokestatic 19, 3) := by decide +kernel
theorem dX4_enter_85 : decode cX4_enter 85 = .ok (.lload_n 3, 1) := by decide +kernel
theorem dX4_enter_86 : decode cX4_enter 86 = .ok (.lastore, 1) := by decide +kernel
theorem dX4_enter_87 : decode cX4_enter 87 = .ok (.return_, 1) := by decide +kernel
set_option maxRecDepth 20000 in
theorem ggX4_hedgesWithCut_X6_kindsCutBy : GoodIn wsX4_hedgesWithCut wsX6_kindsCutBy := goodIn_r _ [9, 10, 13, 14, 20, 21, 22, 23, 24] (by decide +kernel) (by decide +kernel)
set_option maxRecDepth 20000 in
theorem gX4_hedgesWithCut_X6_kindsCutBy : GoodIn wsX4_hedgesWithCut (wsV RX4 46 RX6 yX6_kindsCutBy wsX6_kindsCutBy) := goodIn_app (goodIn_of _ (by decide +kernel)) ggX4_hedgesWithCut_X6_kindsCutBy
theorem dX4_hedgesWithCut_0 : decode cX4_hedgesWithCut 0 = .ok (.aload_n 0, 1) := by decide +kernel
theorem dX4_hedgesWithCut_1 : decode cX4_hedgesWithCut 1 = .ok (.getfield 15, 3) := by decide +kernel
theorem dX4_hedgesWithCut_4 : decode cX4_hedgesWithCut 4 = .ok (.iload_n 1, 1) := by decide +kernel
theorem dX4_hedgesWithCut_5 : decode cX4_hedgesWithCut 5 = .ok (.iload_n 2, 1) := by decide +kernel
theorem dX4_hedgesWithCut_6 : decode cX4_hedgesWithCut 6 = .ok (.iload_n 3, 1) := by decide +kernel
theorem dX4_hedgesWithCut_7 : decode cX4_hedgesWithCut 7 = .ok (.invokevirtual 46, 3) := by decide +kernel
theorem dX4_hedgesWithCut_10 : decode cX4_hedgesWithCut 10 = .ok (.istore 4, 2) := by decide +kernel
theorem dX4_hedgesWithCut_12 : decode cX4_hedgesWithCut 12 = .ok (.ldc2_w 50, 3) := by decide +kernel
theorem dX4_hedgesWithCut_15 : decode cX4_hedgesWithCut 15 = .ok (.iconst 5, 1) := by decide +kernel
theorem dX4_hedgesWithCut_16 : decode cX4_hedgesWithCut 16 = .ok (.iload_n 2, 1) := by decide +kernel
theorem dX4_hedgesWithCut_17 : decode cX4_hedgesWithCut 17 = .ok (.imul, 1) := by decide +kernel
theorem dX4_hedgesWithCut_18 : decode cX4_hedgesWithCut 18 = .ok (.lshl, 1) := by decide +kernel
theorem dX4_hedgesWithCut_19 : decode cX4_hedgesWithCut 19 = .ok (.lstore 5, 2) := by decide +kernel
theorem dX4_hedgesWithCut_21 : decode cX4_hedgesWithCut 21 = .ok (.iload 4, 2) := by decide +kernel
theorem dX4_hedgesWithCut_23 : decode cX4_hedgesWithCut 23 = .ok (.i2l, 1) := by decide +kernel
theorem dX4_hedgesWithCut_24 : decode cX4_hedgesWithCut 24 = .ok (.iconst 5, 1) := by decide +kernel
theorem dX4_hedgesWithCut_25 : decode cX4_hedgesWithCut 25 = .ok (.iload_n 2, 1) := by decide +kernel
theorem dX4_hedgesWithCut_26 : decode cX4_hedgesWithCut 26 = .ok (.imul, 1) := by decide +kernel
theorem dX4_hedgesWithCut_27 : decode cX4_hedgesWithCut 27 = .ok (.lshl, 1) := by decide +kernel
theorem dX4_hedgesWithCut_28 : decode cX4_hedgesWithCut 28 = .ok (.lstore 7, 2) := by decide +kernel
theorem dX4_hedgesWithCut_30 : decode cX4_hedgesWithCut 30 = .ok (.iload 4, 2) := by decide +kernel
theorem dX4_hedgesWithCut_32 : decode cX4_hedgesWithCut 32 = .ok (.aload_n 0, 1) := by decide +kernel
theorem dX4_hedgesWithCut_33 : decode cX4_hedgesWithCut 33 = .ok (.getfield 15, 3) := by decide +kernel
theorem dX4_hedgesWithCut_36 : decode cX4_hedgesWithCut 36 = .ok (.getfield 52, 3) := by decide +kernel
theorem dX4_hedgesWithCut_39 : decode cX4_hedgesWithCut 39 = .ok (.getfield 56, 3) := by decide +kernel
theorem dX4_hedgesWithCut_42 : decode cX4_hedgesWithCut 42 = .ok (.iload_n 2, 1) := by decide +kernel
theorem dX4_hedgesWithCut_43 : decode cX4_hedgesWithCut 43 = .ok (.iaload, 1) := by decide +kernel
theorem dX4_hedgesWithCut_44 : decode cX4_hedgesWithCut 44 = .ok (.ishr, 1) := by decide +kernel
theorem dX4_hedgesWithCut_45 : decode cX4_hedgesWithCut 45 = .ok (.iconst 1, 1) := by decide +kernel
theorem dX4_hedgesWithCut_46 : decode cX4_hedgesWithCut 46 = .ok (.iand, 1) := by decide +kernel
theorem dX4_hedgesWithCut_47 : decode cX4_hedgesWithCut 47 = .ok (.ifCond .eq 18, 3) := by decide +kernel
theorem dX4_hedgesWithCut_50 : decode cX4_hedgesWithCut 50 = .ok (.lload 7, 2) := by decide +kernel
theorem dX4_hedgesWithCut_52 : decode cX4_hedgesWithCut 52 = .ok (.ldc2_w 62, 3) := by decide +kernel
theorem dX4_hedgesWithCut_55 : decode cX4_hedgesWithCut 55 = .ok (.lload 5, 2) := by decide +kernel
theorem dX4_hedgesWithCut_57 : decode cX4_hedgesWithCut 57 = .ok (.ldc2_w 40, 3) := by decide +kernel
theorem dX4_hedgesWithCut_60 : decode cX4_hedgesWithCut 60 = .ok (.lxor, 1) := by decide +kernel
theorem dX4_hedgesWithCut_61 : decode cX4_hedgesWithCut 61 = .ok (.land, 1) := by decide +kernel
theorem dX4_hedgesWithCut_62 : decode cX4_hedgesWithCut 62 = .ok (.lor, 1) := by decide +kernel
theorem dX4_hedgesWithCut_63 : decode cX4_hedgesWithCut 63 = .ok (.lstore 7, 2) := by decide +kernel
theorem dX4_hedgesWithCut_65 : decode cX4_hedgesWithCut 65 = .ok (.lload 7, 2) := by decide +kernel
theorem dX4_hedgesWithCut_67 : decode cX4_hedgesWithCut 67 = .ok (.lreturn, 1) := by decide +kernel
theorem dX5_init_0 : decode cX5_init 0 = .ok (.aload_n 0, 1) := by decide +kernel
theorem dX5_init_1 : decode cX5_init 1 = .ok (.invokespecial 3, 3) := by decide +kernel
theorem dX5_init_4 : decode cX5_init 4 = .ok (.aload_n 0, 1) := by decide +kernel
theorem dX5_init_5 : decode cX5_init 5 = .ok (.bipush 26, 2) := by decide +kernel
theorem dX5_init_7 : decode cX5_init 7 = .ok (.newarray .char, 2) := by decide +kernel
theorem dX5_init_9 : decode cX5_init 9 = .ok (.putfield 9, 3) := by decide +kernel
theorem dX5_init_12 : decode cX5_init 12 = .ok (.aload_n 0, 1) := by decide +kernel
theorem dX5_init_13 : decode cX5_init 13 = .ok (.iconst 0, 1) := by decide +kernel
theorem dX5_init_14 : decode cX5_init 14 = .ok (.putfield 15, 3) := by decide +kernel
theorem dX5_init_17 : decode cX5_init 17 = .ok (.return_, 1) := by decide +kernel
theorem dX5_size_0 : decode cX5_size 0 = .ok (.aload_n 0, 1) := by decide +kernel
theorem dX5_size_1 : decode cX5_size 1 = .ok (.getfield 15, 3) := by decide +kernel
theorem dX5_size_4 : decode cX5_size 4 = .ok (.ireturn, 1) := by decide +kernel
theorem dX5_add_0 : decode cX5_add 0 = .ok (.aload_n 0, 1) := by decide +kernel
theorem dX5_add_1 : decode cX5_add 1 = .ok (.getfield 15, 3) := by decide +kernel
theorem dX5_add_4 : decode cX5_add 4 = .ok (.bipush 26, 2) := by decide +kernel
theorem dX5_add_6 : decode cX5_add 6 = .ok (.if_icmp .ge 23, 3) := by decide +kernel
theorem dX5_add_9 : decode cX5_add 9 = .ok (.aload_n 0, 1) := by decide +kernel
theorem dX5_add_10 : decode cX5_add 10 = .ok (.getfield 9, 3) := by decide +kernel
theorem dX5_add_13 : decode cX5_add 13 = .ok (.aload_n 0, 1) := by decide +kernel
theorem dX5_add_14 : decode cX5_add 14 = .ok (.getfield 15, 3) := by decide +kernel
theorem dX5_add_17 : decode cX5_add 17 = .ok (.iload_n 1, 1) := by decide +kernel
theorem dX5_add_18 : decode cX5_add 18 = .ok (.castore, 1) := by decide +kernel
theorem dX5_add_19 : decode cX5_add 19 = .ok (.aload_n 0, 1) := by decide +kernel
theorem dX5_add_20 : decode cX5_add 20 = .ok (.dup, 1) := by decide +kernel
theorem dX5_add_21 : decode cX5_add 21 = .ok (.getfield 15, 3) := by decide +kernel
theorem dX5_add_24 : decode cX5_add 24 = .ok (.iconst 1, 1) := by decide +kernel
theorem dX5_add_25 : decode cX5_add 25 = .ok (.iadd, 1) := by decide +kernel
theorem dX5_add_26 : decode cX5_add 26 = .ok (.putfield 15, 3) := by decide +kernel
theorem dX5_add_29 : decode cX5_add 29 = .ok (.return_, 1) := by decide +kernel
theorem dX5_wipe_0 : decode cX5_wipe 0 = .ok (.aload_n 0, 1) := by decide +kernel
theorem dX5_wipe_1 : decode cX5_wipe 1 = .ok (.iconst 0, 1) := by decide +kernel
theorem dX5_wipe_2 : decode cX5_wipe 2 = .ok (.putfield 15, 3) := by decide +kernel
theorem dX5_wipe_5 : decode cX5_wipe 5 = .ok (.return_, 1) := by decide +kernel
theorem dX5_at_0 : decode cX5_at 0 = .ok (.iload_n 1, 1) := by decide +kernel
theorem dX5_at_1 : decode cX5_at 1 = .ok (.ifCond .lt 20, 3) := by decide +kernel
theorem dX5_at_4 : decode cX5_at 4 = .ok (.iload_n 1, 1) := by decide +kernel
theorem dX5_at_5 : decode cX5_at 5 = .ok (.aload_n 0, 1) := by decide +kernel
theorem dX5_at_6 : decode cX5_at 6 = .ok (.getfield 15, 3) := by decide +kernel
theorem dX5_at_9 : decode cX5_at 9 = .ok (.if_icmp .ge 12, 3) := by decide +kernel
theorem dX5_at_12 : decode cX5_at 12 = .ok (.aload_n 0, 1) := by decide +kernel
theorem dX5_at_13 : decode cX5_at 13 = .ok (.getfield 9, 3) := by decide +kernel
theorem dX5_at_16 : decode cX5_at 16 = .ok (.iload_n 1, 1) := by decide +kernel
theorem dX5_at_17 : decode cX5_at 17 = .ok (.caload, 1) := by decide +kernel
theorem dX5_at_18 : decode cX5_at 18 = .ok (.goto 4, 3) := by decide +kernel
theorem dX5_at_21 : decode cX5_at 21 = .ok (.iconst 0, 1) := by decide +kernel
