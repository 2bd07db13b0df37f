theorem dX10_init_79 : decode cX10_init 79 = .ok (.putfield 47, 3) := by decide +kernel
theorem dX10_init_82 : decode cX10_init 82 = .ok (.aload_n 0, 1) := by decide +kernel
theorem dX10_init_83 : decode cX10_init 83 = .ok (.new 51, 3) := by decide +kernel
theorem dX10_init_86 : decode cX10_init 86 = .ok (.dup, 1) := by decide +kernel
theorem dX10_init_87 : decode cX10_init 87 = .ok (.aload_n 0, 1) := by decide +kernel
theorem dX10_init_88 : decode cX10_init 88 = .ok (.getfield 38, 3) := by decide +kernel
theorem dX10_init_91 : decode cX10_init 91 = .ok (.aload_n 0, 1) := by decide +kernel
theorem dX10_init_92 : decode cX10_init 92 = .ok (.getfield 47, 3) := by decide +kernel
theorem dX10_init_95 : decode cX10_init 95 = .ok (.invokespecial 53, 3) := by decide +kernel
theorem dX10_init_98 : decode cX10_init 98 = .ok (.putfield 56, 3) := by decide +kernel
theorem dX10_init_101 : decode cX10_init 101 = .ok (.aload_n 0, 1) := by decide +kernel
theorem dX10_init_102 : decode cX10_init 102 = .ok (.new 60, 3) := by decide +kernel
theorem dX10_init_105 : decode cX10_init 105 = .ok (.dup, 1) := by decide +kernel
theorem dX10_init_106 : decode cX10_init 106 = .ok (.aload_n 0, 1) := by decide +kernel
theorem dX10_init_107 : decode cX10_init 107 = .ok (.getfield 38, 3) := by decide +kernel
theorem dX10_init_110 : decode cX10_init 110 = .ok (.invokespecial 62, 3) := by decide +kernel
theorem dX10_init_113 : decode cX10_init 113 = .ok (.putfield 63, 3) := by decide +kernel
theorem dX10_init_116 : decode cX10_init 116 = .ok (.aload_n 0, 1) := by decide +kernel
theorem dX10_init_117 : decode cX10_init 117 = .ok (.new 67, 3) := by decide +kernel
theorem dX10_init_120 : decode cX10_init 120 = .ok (.dup, 1) := by decide +kernel
theorem dX10_init_121 : decode cX10_init 121 = .ok (.aload_n 0, 1) := by decide +kernel
theorem dX10_init_122 : decode cX10_init 122 = .ok (.getfield 38, 3) := by decide +kernel
theorem dX10_init_125 : decode cX10_init 125 = .ok (.invokespecial 69, 3) := by decide +kernel
theorem dX10_init_128 : decode cX10_init 128 = .ok (.putfield 70, 3) := by decide +kernel
theorem dX10_init_131 : decode cX10_init 131 = .ok (.aload_n 0, 1) := by decide +kernel
theorem dX10_init_132 : decode cX10_init 132 = .ok (.new 74, 3) := by decide +kernel
theorem dX10_init_135 : decode cX10_init 135 = .ok (.dup, 1) := by decide +kernel
theorem dX10_init_136 : decode cX10_init 136 = .ok (.aload_n 0, 1) := by decide +kernel
theorem dX10_init_137 : decode cX10_init 137 = .ok (.getfield 38, 3) := by decide +kernel
theorem dX10_init_140 : decode cX10_init 140 = .ok (.invokespecial 76, 3) := by decide +kernel
theorem dX10_init_143 : decode cX10_init 143 = .ok (.putfield 77, 3) := by decide +kernel
theorem dX10_init_146 : decode cX10_init 146 = .ok (.aload_n 0, 1) := by decide +kernel
theorem dX10_init_147 : decode cX10_init 147 = .ok (.iconst 0, 1) := by decide +kernel
theorem dX10_init_148 : decode cX10_init 148 = .ok (.putfield 81, 3) := by decide +kernel
theorem dX10_init_151 : decode cX10_init 151 = .ok (.aload_n 0, 1) := by decide +kernel
theorem dX10_init_152 : decode cX10_init 152 = .ok (.iconst 0, 1) := by decide +kernel
theorem dX10_init_153 : decode cX10_init 153 = .ok (.putfield 85, 3) := by decide +kernel
theorem dX10_init_156 : decode cX10_init 156 = .ok (.aload_n 0, 1) := by decide +kernel
theorem dX10_init_157 : decode cX10_init 157 = .ok (.iconst 0, 1) := by decide +kernel
theorem dX10_init_158 : decode cX10_init 158 = .ok (.putfield 88, 3) := by decide +kernel
theorem dX10_init_161 : decode cX10_init 161 = .ok (.aload_n 0, 1) := by decide +kernel
theorem dX10_init_162 : decode cX10_init 162 = .ok (.iconst 0, 1) := by decide +kernel
theorem dX10_init_163 : decode cX10_init 163 = .ok (.putfield 92, 3) := by decide +kernel
theorem dX10_init_166 : decode cX10_init 166 = .ok (.return_, 1) := by decide +kernel
set_option maxRecDepth 20000 in
theorem ggX10_letter_X5_size : GoodIn wsX10_letter wsX5_size := goodIn_r _ [6, 7, 27, 28] (by decide +kernel) (by decide +kernel)
set_option maxRecDepth 20000 in
theorem gX10_letter_X5_size : GoodIn wsX10_letter (wsV RX10 95 RX5 yX5_size wsX5_size) := goodIn_app (goodIn_of _ (by decide +kernel)) ggX10_letter_X5_size
set_option maxRecDepth 20000 in
theorem ggX10_letter_X5_add : GoodIn wsX10_letter wsX5_add := goodIn_r _ [11, 7, 12, 27, 28] (by decide +kernel) (by decide +kernel)
set_option maxRecDepth 20000 in
theorem gX10_letter_X5_add : GoodIn wsX10_letter (wsV RX10 99 RX5 yX5_add wsX5_add) := goodIn_app (goodIn_of _ (by decide +kernel)) ggX10_letter_X5_add
theorem dX10_letter_0 : decode cX10_letter 0 = .ok (.iload_n 1, 1) := by decide +kernel
theorem dX10_letter_1 : decode cX10_letter 1 = .ok (.bipush 32, 2) := by decide +kernel
theorem dX10_letter_3 : decode cX10_letter 3 = .ok (.if_icmp .lt 9, 3) := by decide +kernel
theorem dX10_letter_6 : decode cX10_letter 6 = .ok (.iload_n 1, 1) := by decide +kernel
theorem dX10_letter_7 : decode cX10_letter 7 = .ok (.bipush 126, 2) := by decide +kernel
theorem dX10_letter_9 : decode cX10_letter 9 = .ok (.if_icmp .le 6, 3) := by decide +kernel
theorem dX10_letter_12 : decode cX10_letter 12 = .ok (.bipush (-102), 2) := by decide +kernel
theorem dX10_letter_14 : decode cX10_letter 14 = .ok (.ireturn, 1) := by decide +kernel
theorem dX10_letter_15 : decode cX10_letter 15 = .ok (.aload_n 0, 1) := by decide +kernel
theorem dX10_letter_16 : decode cX10_letter 16 = .ok (.getfield 10, 3) := by decide +kernel
theorem dX10_letter_19 : decode cX10_letter 19 = .ok (.invokevirtual 95, 3) := by decide +kernel
theorem dX10_letter_22 : decode cX10_letter 22 = .ok (.bipush 26, 2) := by decide +kernel
theorem dX10_letter_24 : decode cX10_letter 24 = .ok (.if_icmp .lt 6, 3) := by decide +kernel
theorem dX10_letter_27 : decode cX10_letter 27 = .ok (.bipush (-104), 2) := by decide +kernel
theorem dX10_letter_29 : decode cX10_letter 29 = .ok (.ireturn, 1) := by decide +kernel
theorem dX10_letter_30 : decode cX10_letter 30 = .ok (.aload_n 0, 1) := by decide +kernel
theorem dX10_letter_31 : decode cX10_letter 31 = .ok (.getfield 10, 3) := by decide +kernel
theorem dX10_letter_34 : decode cX10_letter 34 = .ok (.iload_n 1, 1) := by decide +kernel
theorem dX10_letter_35 : decode cX10_letter 35 = .ok (.i2c, 1) := by decide +kernel
theorem dX10_letter_36 : decode cX10_letter 36 = .ok (.invokevirtual 99, 3) := by decide +kernel
theorem dX10_letter_39 : decode cX10_letter 39 = .ok (.aload_n 0, 1) := by decide +kernel
theorem dX10_letter_40 : decode cX10_letter 40 = .ok (.getfield 10, 3) := by decide +kernel
theorem dX10_letter_43 : decode cX10_letter 43 = .ok (.invokevirtual 95, 3) := by decide +kernel
theorem dX10_letter_46 : decode cX10_letter 46 = .ok (.ireturn, 1) := by decide +kernel
set_option maxRecDepth 20000 in
theorem ggX10_blank_X5_size : GoodIn wsX10_blank wsX5_size := goodIn_r _ [6, 7, 26, 27] (by decide +kernel) (by decide +kernel)
set_option maxRecDepth 20000 in
theorem gX10_blank_X5_size : GoodIn wsX10_blank (wsV RX10 95 RX5 yX5_size wsX5_size) := goodIn_app (goodIn_of _ (by decide +kernel)) ggX10_blank_X5_size
set_option maxRecDepth 20000 in
theorem ggX10_blank_X5_wipe : GoodIn wsX10_blank wsX5_wipe := goodIn_r _ [11, 7, 26, 27] (by decide +kernel) (by decide +kernel)
set_option maxRecDepth 20000 in
theorem gX10_blank_X5_wipe : GoodIn wsX10_blank (wsV RX10 103 RX5 yX5_wipe wsX5_wipe) := goodIn_app (goodIn_of _ (by decide +kernel)) ggX10_blank_X5_wipe
theorem dX10_blank_0 : decode cX10_blank 0 = .ok (.aload_n 0, 1) := by decide +kernel
theorem dX10_blank_1 : decode cX10_blank 1 = .ok (.getfield 10, 3) := by decide +kernel
theorem dX10_blank_4 : decode cX10_blank 4 = .ok (.invokevirtual 95, 3) := by decide +kernel
theorem dX10_blank_7 : decode cX10_blank 7 = .ok (.istore_n 1, 1) := by decide +kernel
theorem dX10_blank_8 : decode cX10_blank 8 = .ok (.aload_n 0, 1) := by decide +kernel
theorem dX10_blank_9 : decode cX10_blank 9 = .ok (.getfield 10, 3) := by decide +kernel
theorem dX10_blank_12 : decode cX10_blank 12 = .ok (.invokevirtual 103, 3) := by decide +kernel
theorem dX10_blank_15 : decode cX10_blank 15 = .ok (.iload_n 1, 1) := by decide +kernel
theorem dX10_blank_16 : decode cX10_blank 16 = .ok (.ireturn, 1) := by decide +kernel
set_option maxRecDepth 20000 in
theorem ggX10_fault_X5_firstWrong : GoodIn wsX10_fault wsX5_firstWrong := goodIn_r _ [6, 7, 8, 9, 10, 5, 11, 12, 13, 14, 15, 16, 17, 18, 19, 20, 21, 22, 23, 24, 25, 26, 27, 28, 29, 30, 31, 32, 33, 34, 35, 36, 37, 38, 39, 40, 41, 42, 43, 44, 45, 46, 47, 48, 49, 50, 51, 52, 53, 54, 55, 56, 57, 58, 59, 60, 61, 62, 63, 64, 65, 66, 67, 68, 69, 70, 71, 72, 73, 74, 75, 76, 77, 78, 79, 80, 81, 82, 83, 84, 85, 86, 87, 88, 89, 90, 91, 92, 93, 94, 95, 96, 97, 98, 99, 100, 101, 102, 103, 104, 105, 120, 121] (by decide +kernel) (by decide +kernel)
set_option maxRecDepth 20000 in
theorem gX10_fault_X5_firstWrong : GoodIn wsX10_fault (wsV RX10 106 RX5 yX5_firstWrong wsX5_firstWrong) := goodIn_app (goodIn_of _ (by decide +kernel)) ggX10_fault_X5_firstWrong
theorem dX10_fault_0 : decode cX10_fault 0 = .ok (.aload_n 0, 1) := by decide +kernel
theorem dX10_fault_1 : decode cX10_fault 1 = .ok (.getfield 10, 3) := by decide +kernel
theorem dX10_fault_4 : decode cX10_fault 4 = .ok (.invokevirtual 106, 3) := by decide +kernel
theorem dX10_fault_7 : decode cX10_fault 7 = .ok (.ireturn, 1) := by decide +kernel
set_option maxRecDepth 20000 in
theorem ggX10_hedge_X5_isWhole : GoodIn wsX10_hedge wsX5_isWhole := goodIn_r _ [11, 12, 13, 14, 15, 10, 16, 17, 18, 19, 20, 21, 22, 23, 24, 25, 26, 27, 28, 29, 30, 31, 32, 33, 34, 35, 36, 37, 38, 39, 40, 41, 42, 43, 44, 45, 46, 47, 48, 49, 50, 51, 52, 53, 54, 55, 56, 57, 58, 59, 60, 61, 62, 63, 64, 65, 66, 67, 68, 69, 70, 71, 72, 73, 74, 75, 76, 77, 78, 79, 80, 81, 82, 83, 84, 85, 86, 87, 88, 89, 90, 91, 92, 93, 94, 95, 96, 97, 98, 99, 100, 101, 102, 103, 104, 105, 106, 107, 108, 109, 110, 111, 112, 113, 114, 188, 189] (by decide +kernel) (by decide +kernel)
set_option maxRecDepth 20000 in
theorem gX10_hedge_X5_isWhole : GoodIn wsX10_hedge (wsV RX10 109 RX5 yX5_isWhole wsX5_isWhole) := goodIn_app (goodIn_of _ (by decide +kernel)) ggX10_hedge_X5_isWhole
set_option maxRecDepth 20000 in
theorem ggX10_hedge_X8_readFrom : GoodIn wsX10_hedge wsX8_readFrom := goodIn_r _ [119, 120, 59, 56, 60, 121, 122, 123, 124, 125, 126, 10, 127, 12, 128, 129, 130, 131, 21, 22, 23, 24, 25, 132, 133, 134, 118, 135, 136, 137, 138, 139, 140, 141, 142, 143, 144, 145, 146, 147, 148, 149, 183, 184, 185, 186, 187, 188, 189] (by decide +kernel) (by decide +kernel)
set_option maxRecDepth 20000 in
theorem gX10_hedge_X8_readFrom : GoodIn wsX10_hedge (wsV RX10 113 RX8 yX8_readFrom wsX8_readFrom) := goodIn_app (goodIn_of _ (by decide +kernel)) ggX10_hedge_X8_readFrom
set_option maxRecDepth 20000 in
theorem ggX10_hedge_X3_beginWith : GoodIn wsX10_hedge wsX3_beginWith := goodIn_r _ [154, 155, 156, 157, 158, 159, 160, 161, 162, 10, 163, 164, 55, 56, 57, 21, 22, 23, 24, 12, 25, 26, 27, 28, 29, 30, 31, 32, 33, 34, 35, 36, 37, 38, 39, 40, 41, 42, 43, 44, 45, 46, 47, 48, 49, 50, 51, 52, 53, 54, 58, 59, 60, 61, 62, 63, 64, 65, 66, 67, 68, 69, 70, 71, 72, 73, 74, 75, 76, 77, 78, 79, 80, 81, 82, 83, 84, 85, 86, 87, 88, 89, 90, 91, 92, 93, 94, 95, 96, 97, 98, 99, 100, 101, 102, 103, 104, 105, 106, 107, 108, 109, 110, 111, 112, 113, 114, 190, 191, 192, 193, 194, 195, 196, 197, 198, 188, 189] (by decide +kernel) (by decide +kernel)
set_option maxRecDepth 20000 in
theorem gX10_hedge_X3_beginWith : GoodIn wsX10_hedge (wsV RX10 120 RX3 yX3_beginWith wsX3_beginWith) := goodIn_app (goodIn_of _ (by decide +kernel)) ggX10_hedge_X3_beginWith
set_option maxRecDepth 20000 in
theorem ggX10_hedge_X5_wipe : GoodIn wsX10_hedge wsX5_wipe := goodIn_r _ [168, 12, 188, 189] (by decide +kernel) (by decide +kernel)
set_option maxRecDepth 20000 in
theorem gX10_hedge_X5_wipe : GoodIn wsX10_hedge (wsV RX10 103 RX5 yX5_wipe wsX5_wipe) := goodIn_app (goodIn_of _ (by decide +kernel)) ggX10_hedge_X5_wipe
theorem dX10_hedge_0 : decode cX10_hedge 0 = .ok (.aload_n 0, 1) := by decide +kernel
theorem dX10_hedge_1 : decode cX10_hedge 1 = .ok (.getfield 10, 3) := by decide +kernel
theorem dX10_hedge_4 : decode cX10_hedge 4 = .ok (.invokevirtual 109, 3) := by decide +kernel
theorem dX10_hedge_7 : decode cX10_hedge 7 = .ok (.ifCond .ne 6, 3) := by decide +kernel
theorem dX10_hedge_10 : decode cX10_hedge 10 = .ok (.bipush (-103), 2) := by decide +kernel
theorem dX10_hedge_12 : decode cX10_hedge 12 = .ok (.ireturn, 1) := by decide +kernel
theorem dX10_hedge_13 : decode cX10_hedge 13 = .ok (.aload_n 0, 1) := by decide +kernel
theorem dX10_hedge_14 : decode cX10_hedge 14 = .ok (.getfield 19, 3) := by decide +kernel
theorem dX10_hedge_17 : decode cX10_hedge 17 = .ok (.aload_n 0, 1) := by decide +kernel
theorem dX10_hedge_18 : decode cX10_hedge 18 = .ok (.getfield 10, 3) := by decide +kernel
theorem dX10_hedge_21 : decode cX10_hedge 21 = .ok (.invokevirtual 113, 3) := by decide +kernel
theorem dX10_hedge_24 : decode cX10_hedge 24 = .ok (.aload_n 0, 1) := by decide +kernel
theorem dX10_hedge_25 : decode cX10_hedge 25 = .ok (.getfield 26, 3) := by decide +kernel
theorem dX10_hedge_28 : decode cX10_hedge 28 = .ok (.aload_n 0, 1) := by decide +kernel
theorem dX10_hedge_29 : decode cX10_hedge 29 = .ok (.getfield 10, 3) := by decide +kernel
theorem dX10_hedge_32 : decode cX10_hedge 32 = .ok (.aload_n 0, 1) := by decide +kernel
theorem dX10_hedge_33 : decode cX10_hedge 33 = .ok (.getfield 19, 3) := by decide +kernel
theorem dX10_hedge_36 : decode cX10_hedge 36 = .ok (.getfield 117, 3) := by decide +kernel
theorem dX10_hedge_39 : decode cX10_hedge 39 = .ok (.invokevirtual 120, 3) := by decide +kernel
theorem dX10_hedge_42 : decode cX10_hedge 42 = .ok (.aload_n 0, 1) := by decide +kernel
theorem dX10_hedge_43 : decode cX10_hedge 43 = .ok (.iconst 0, 1) := by decide +kernel
theorem dX10_hedge_44 : decode cX10_hedge 44 = .ok (.putfield 81, 3) := by decide +kernel
theorem dX10_hedge_47 : decode cX10_hedge 47 = .ok (.aload_n 0, 1) := by decide +kernel
theorem dX10_hedge_48 : decode cX10_hedge 48 = .ok (.getfield 10, 3) := by decide +kernel
theorem dX10_hedge_51 : decode cX10_hedge 51 = .ok (.invokevirtual 103, 3) := by decide +kernel
theorem dX10_hedge_54 : decode cX10_hedge 54 = .ok (.aload_n 0, 1) := by decide +kernel
theorem dX10_hedge_55 : decode cX10_hedge 55 = .ok (.iconst 0, 1) := by decide +kernel
theorem dX10_hedge_56 : decode cX10_hedge 56 = .ok (.putfield 85, 3) := by decide +kernel
theorem dX10_hedge_59 : decode cX10_hedge 59 = .ok (.aload_n 0, 1) := by decide +kernel
theorem dX10_hedge_60 : decode cX10_hedge 60 = .ok (.dup, 1) := by decide +kernel
theorem dX10_hedge_61 : decode cX10_hedge 61 = .ok (.getfield 88, 3) := by decide +kernel
theorem dX10_hedge_64 : decode cX10_hedge 64 = .ok (.iconst 1, 1) := by decide +kernel
theorem dX10_hedge_65 : decode cX10_hedge 65 = .ok (.iadd, 1) := by decide +kernel
theorem dX10_hedge_66 : decode cX10_hedge 66 = .ok (.putfield 88, 3) := by decide +kernel
theorem dX10_hedge_69 : decode cX10_hedge 69 = .ok (.aload_n 0, 1) := by decide +kernel
theorem dX10_hedge_70 : decode cX10_hedge 70 = .ok (.getfield 19, 3) := by decide +kernel
theorem dX10_hedge_73 : decode cX10_hedge 73 = .ok (.getfield 117, 3) := by decide +kernel
theorem dX10_hedge_76 : decode cX10_hedge 76 = .ok (.ireturn, 1) := by decide +kernel
set_option maxRecDepth 20000 in
theorem ggX10_branch_X10_isUnknown : GoodIn wsX10_branch wsX10_isUnknown := goodIn_r _ [8, 2, 123, 124, 125, 126, 127, 128, 129, 130, 131, 132, 133, 134, 135, 136, 142, 143, 144, 145, 146] (by decide +kernel) (by decide +kernel)
set_option maxRecDepth 20000 in
theorem gX10_branch_X10_isUnknown : GoodIn wsX10_branch (wsV RX10 124 RX10 yX10_isUnknown wsX10_isUnknown) := goodIn_app (goodIn_of _ (by decide +kernel)) ggX10_branch_X10_isUnknown
set_option maxRecDepth 20000 in
theorem ggX10_branch_X6_choices : GoodIn wsX10_branch wsX6_choices := goodIn_r _ [13, 14, 15, 16, 17, 18, 12, 19, 147, 148, 142, 143, 144, 145, 146, 137, 138, 139, 140, 141] (by decide +kernel) (by decide +kernel)
set_option maxRecDepth 20000 in
theorem gX10_branch_X6_choices : GoodIn wsX10_branch (wsV RX10 138 RX6 yX6_choices wsX6_choices) := goodIn_app (goodIn_of _ (by decide +kernel)) ggX10_branch_X6_choices
set_option maxRecDepth 20000 in
theorem ggX10_branch_X10_chart : GoodIn wsX10_branch wsX10_chart := goodIn_r _ [23, 24, 2, 3, 25, 26, 27, 28, 9, 10, 11, 12, 13, 14, 15, 16, 17, 18, 19, 29, 30, 31, 32, 33, 34, 35, 36, 37, 38, 39, 40, 41, 7, 42, 43, 44, 45, 46, 47, 48, 49, 50, 51, 52, 53, 54, 55, 56, 57, 58, 59, 60, 61, 62, 63, 64, 65, 66, 67, 68, 69, 70, 71, 72, 73, 74, 75, 76, 77, 78, 79, 80, 81, 82, 83, 84, 85, 86, 87, 88, 89, 90, 91, 92, 93, 94, 95, 96, 97, 98, 99, 100, 101, 102, 103, 104, 105, 123, 124, 125, 126, 127, 128, 129, 130, 131, 132, 133, 134, 135, 136, 142, 143, 144, 145, 146, 147, 148, 137, 138, 139, 140, 141, 149, 150, 151, 152, 153, 154, 155, 156, 157] (by decide +kernel) (by decide +kernel)
set_option maxRecDepth 20000 in
theorem gX10_branch_X10_chart : GoodIn wsX10_branch (wsV RX10 145 RX10 yX10_chart wsX10_chart) := goodIn_app (goodIn_of _ (by decide +kernel)) ggX10_branch_X10_chart
set_option maxRecDepth 20000 in
theorem ggX10_branch_X10_sortsOf : GoodIn wsX10_branch wsX10_sortsOf := goodIn_r _ [109, 1, 25, 110, 111, 112, 32, 113, 35, 41, 7, 42, 123, 124, 125, 126, 127, 128, 129, 130, 131, 132, 133, 134, 135, 136, 137, 138, 139, 140, 141, 158, 159, 160, 161, 149, 150] (by decide +kernel) (by decide +kernel)
set_option maxRecDepth 20000 in
theorem gX10_branch_X10_sortsOf : GoodIn wsX10_branch (wsV RX10 148 RX10 yX10_sortsOf wsX10_sortsOf) := goodIn_app (goodIn_of _ (by decide +kernel)) ggX10_branch_X10_sortsOf
set_option maxRecDepth 20000 in
theorem ggX10_branch_X10_whomToLetBegin : GoodIn wsX10_branch wsX10_whomToLetBegin := goodIn_r _ [117, 25, 1, 106, 107, 108, 7, 109, 110, 111, 112, 32, 113, 35, 41, 42, 118, 119, 120, 121, 59, 60, 61, 122, 99, 100, 101, 102, 103, 104, 123, 124, 125, 126, 127, 128, 129, 130, 131, 132, 133, 134, 135, 136, 137, 138, 139, 140, 141, 158, 159, 160, 161, 149, 150] (by decide +kernel) (by decide +kernel)
set_option maxRecDepth 20000 in
theorem gX10_branch_X10_whomToLetBegin : GoodIn wsX10_branch (wsV RX10 152 RX10 yX10_whomToLetBegin wsX10_whomToLetBegin) := goodIn_app (goodIn_of _ (by decide +kernel)) ggX10_branch_X10_whomToLetBegin
theorem dX10_branch_0 : decode cX10_branch 0 = .ok (.aload_n 0, 1) := by decide +kernel
theorem dX10_branch_1 : decode cX10_branch 1 = .ok (.iload_n 1, 1) := by decide +kernel
theorem dX10_branch_2 : decode cX10_branch 2 = .ok (.invokevirtual 124, 3) := by decide +kernel
theorem dX10_branch_5 : decode cX10_branch 5 = .ok (.ifCond .eq 6, 3) := by decide +kernel
theorem dX10_branch_8 : decode cX10_branch 8 = .ok (.bipush (-101), 2) := by decide +kernel
theorem dX10_branch_10 : decode cX10_branch 10 = .ok (.ireturn, 1) := by decide +kernel
theorem dX10_branch_11 : decode cX10_branch 11 = .ok (.iload_n 2, 1) := by decide +kernel
theorem dX10_branch_12 : decode cX10_branch 12 = .ok (.tableswitch 150 0 7 #[48, 58, 68, 80, 100, 120, 130, 140], 48) := by decide +kernel
theorem dX10_branch_60 : decode cX10_branch 60 = .ok (.aload_n 0, 1) := by decide +kernel
theorem dX10_branch_61 : decode cX10_branch 61 = .ok (.getfield 26, 3) := by decide +kernel
theorem dX10_branch_64 : decode cX10_branch 64 = .ok (.getfield 128, 3) := by decide +kernel
theorem dX10_branch_67 : decode cX10_branch 67 = .ok (.iload_n 1, 1) := by decide +kernel
theorem dX10_branch_68 : decode cX10_branch 68 = .ok (.iaload, 1) := by decide +kernel
theorem dX10_branch_69 : decode cX10_branch 69 = .ok (.ireturn, 1) := by decide +kernel
theorem dX10_branch_70 : decode cX10_branch 70 = .ok (.aload_n 0, 1) := by decide +kernel
theorem dX10_branch_71 : decode cX10_branch 71 = .ok (.getfield 19, 3) := by decide +kernel
theorem dX10_branch_74 : decode cX10_branch 74 = .ok (.getfield 132, 3) := by decide +kernel
theorem dX10_branch_77 : decode cX10_branch 77 = .ok (.iload_n 1, 1) := by decide +kernel
theorem dX10_branch_78 : decode cX10_branch 78 = .ok (.iaload, 1) := by decide +kernel
theorem dX10_branch_79 : decode cX10_branch 79 = .ok (.ireturn, 1) := by decide +kernel
theorem dX10_branch_80 : decode cX10_branch 80 = .ok (.aload_n 0, 1) := by decide +kernel
theorem dX10_branch_81 : decode cX10_branch 81 = .ok (.getfield 26, 3) := by decide +kernel
theorem dX10_branch_84 : decode cX10_branch 84 = .ok (.getfield 135, 3) := by decide +kernel
theorem dX10_branch_87 : decode cX10_branch 87 = .ok (.iload_n 1, 1) := by decide +kernel
theorem dX10_branch_88 : decode cX10_branch 88 = .ok (.ishr, 1) := by decide +kernel
theorem dX10_branch_89 : decode cX10_branch 89 = .ok (.iconst 1, 1) := by decide +kernel
theorem dX10_branch_90 : decode cX10_branch 90 = .ok (.iand, 1) := by decide +kernel
theorem dX10_branch_91 : decode cX10_branch 91 = .ok (.ireturn, 1) := by decide +kernel
theorem dX10_branch_92 : decode cX10_branch 92 = .ok (.aload_n 0, 1) := by decide +kernel
theorem dX10_branch_93 : decode cX10_branch 93 = .ok (.getfield 38, 3) := by decide +kernel
theorem dX10_branch_96 : decode cX10_branch 96 = .ok (.iconst 0, 1) := by decide +kernel
theorem dX10_branch_97 : decode cX10_branch 97 = .ok (.aload_n 0, 1) := by decide +kernel
theorem dX10_branch_98 : decode cX10_branch 98 = .ok (.getfield 26, 3) := by decide +kernel
theorem dX10_branch_101 : decode cX10_branch 101 = .ok (.getfield 135, 3) := by decide +kernel
theorem dX10_branch_104 : decode cX10_branch 104 = .ok (.invokevirtual 138, 3) := by decide +kernel
theorem dX10_branch_107 : decode cX10_branch 107 = .ok (.iload_n 1, 1) := by decide +kernel
theorem dX10_branch_108 : decode cX10_branch 108 = .ok (.ishr, 1) := by decide +kernel
theorem dX10_branch_109 : decode cX10_branch 109 = .ok (.iconst 1, 1) := by decide +kernel
theorem dX10_branch_110 : decode cX10_branch 110 = .ok (.iand, 1) := by decide +kernel
theorem dX10_branch_111 : decode cX10_branch 111 = .ok (.ireturn, 1) := by decide +kernel
theorem dX10_branch_112 : decode cX10_branch 112 = .ok (.aload_n 0, 1) := by decide +kernel
theorem dX10_branch_113 : decode cX10_branch 113 = .ok (.getfield 38, 3) := by decide +kernel
theorem dX10_branch_116 : decode cX10_branch 116 = .ok (.iconst 1, 1) := by decide +kernel
theorem dX10_branch_117 : decode cX10_branch 117 = .ok (.aload_n 0, 1) := by decide +kernel
theorem dX10_branch_118 : decode cX10_branch 118 = .ok (.getfield 26, 3) := by decide +kernel
theorem dX10_branch_121 : decode cX10_branch 121 = .ok (.getfield 135, 3) := by decide +kernel
theorem dX10_branch_124 : decode cX10_branch 124 = .ok (.invokevirtual 138, 3) := by decide +kernel
theorem dX10_branch_127 : decode cX10_branch 127 = .ok (.iload_n 1, 1) := by decide +kernel
theorem dX10_branch_128 : decode cX10_branch 128 = .ok (.ishr, 1) := by decide +kernel
theorem dX10_branch_129 : decode cX10_branch 129 = .ok (.iconst 1, 1) := by decide +kernel
theorem dX10_branch_130 : decode cX10_branch 130 = .ok (.iand, 1) := by decide +kernel
theorem dX10_branch_131 : decode cX10_branch 131 = .ok (.ireturn, 1) := by decide +kernel
theorem dX10_branch_132 : decode cX10_branch 132 = .ok (.aload_n 0, 1) := by decide +kernel
theorem dX10_branch_133 : decode cX10_branch 133 = .ok (.getfield 19, 3) := by decide +kernel
theorem dX10_branch_136 : decode cX10_branch 136 = .ok (.getfield 142, 3) := by decide +kernel
theorem dX10_branch_139 : decode cX10_branch 139 = .ok (.iload_n 1, 1) := by decide +kernel
theorem dX10_branch_140 : decode cX10_branch 140 = .ok (.iaload, 1) := by decide +kernel
theorem dX10_branch_141 : decode cX10_branch 141 = .ok (.ireturn, 1) := by decide +kernel
theorem dX10_branch_142 : decode cX10_branch 142 = .ok (.aload_n 0, 1) := by decide +kernel
theorem dX10_branch_143 : decode cX10_branch 143 = .ok (.invokevirtual 145, 3) := by decide +kernel
theorem dX10_branch_146 : decode cX10_branch 146 = .ok (.aload_n 0, 1) := by decide +kernel
theorem dX10_branch_147 : decode cX10_branch 147 = .ok (.iload_n 1, 1) := by decide +kernel
theorem dX10_branch_148 : decode cX10_branch 148 = .ok (.invokevirtual 148, 3) := by decide +kernel
theorem dX10_branch_151 : decode cX10_branch 151 = .ok (.ireturn, 1) := by decide +kernel
theorem dX10_branch_152 : decode cX10_branch 152 = .ok (.aload_n 0, 1) := by decide +kernel
theorem dX10_branch_153 : decode cX10_branch 153 = .ok (.invokevirtual 145, 3) := by decide +kernel
theorem dX10_branch_156 : decode cX10_branch 156 = .ok (.aload_n 0, 1) := by decide +kernel
theorem dX10_branch_157 : decode cX10_branch 157 = .ok (.iload_n 1, 1) := by decide +kernel
theorem dX10_branch_158 : decode cX10_branch 158 = .ok (.invokevirtual 152, 3) := by decide +kernel
theorem dX10_branch_161 : decode cX10_branch 161 = .ok (.ireturn, 1) := by decide +kernel
theorem dX10_branch_162 : decode cX10_branch 162 = .ok (.bipush (-102), 2) := by decide +kernel
theorem dX10_branch_164 : decode cX10_branch 164 = .ok (.ireturn, 1) := by decide +kernel
set_option maxRecDepth 20000 in
theorem ggX10_as_X10_isUnknown : GoodIn wsX10_as wsX10_isUnknown := goodIn_r _ [7, 8, 9, 10, 11, 12, 13, 14, 15, 16, 17, 18, 19, 20, 21, 22, 28, 29, 30, 31, 32] (by decide +kernel) (by decide +kernel)
set_option maxRecDepth 20000 in
theorem gX10_as_X10_isUnknown : GoodIn wsX10_as (wsV RX10 124 RX10 yX10_isUnknown wsX10_isUnknown) := goodIn_app (goodIn_of _ (by decide +kernel)) ggX10_as_X10_isUnknown
theorem dX10_as_0 : decode cX10_as 0 = .ok (.aload_n 0, 1) := by decide +kernel
theorem dX10_as_1 : decode cX10_as 1 = .ok (.iload_n 1, 1) := by decide +kernel
theorem dX10_as_2 : decode cX10_as 2 = .ok (.invokevirtual 124, 3) := by decide +kernel
theorem dX10_as_5 : decode cX10_as 5 = .ok (.ifCond .eq 6, 3) := by decide +kernel
theorem dX10_as_8 : decode cX10_as 8 = .ok (.bipush (-101), 2) := by decide +kernel
theorem dX10_as_10 : decode cX10_as 10 = .ok (.ireturn, 1) := by decide +kernel
theorem dX10_as_11 : decode cX10_as 11 = .ok (.iload_n 2, 1) := by decide +kernel
theorem dX10_as_12 : decode cX10_as 12 = .ok (.ifCond .lt 8, 3) := by decide +kernel
theorem dX10_as_15 : decode cX10_as 15 = .ok (.iload_n 2, 1) := by decide +kernel
theorem dX10_as_16 : decode cX10_as 16 = .ok (.iconst 5, 1) := by decide +kernel
theorem dX10_as_17 : decode cX10_as 17 = .ok (.if_icmp .lt 6, 3) := by decide +kernel
theorem dX10_as_20 : decode cX10_as 20 = .ok (.bipush (-102), 2) := by decide +kernel
theorem dX10_as_22 : decode cX10_as 22 = .ok (.ireturn, 1) := by decide +kernel
theorem dX10_as_23 : decode cX10_as 23 = .ok (.getstatic 155, 3) := by decide +kernel
theorem dX10_as_26 : decode cX10_as 26 = .ok (.iload_n 2, 1) := by decide +kernel
theorem dX10_as_27 : decode cX10_as 27 = .ok (.iaload, 1) := by decide +kernel
theorem dX10_as_28 : decode cX10_as 28 = .ok (.aload_n 0, 1) := by decide +kernel
theorem dX10_as_29 : decode cX10_as 29 = .ok (.getfield 26, 3) := by decide +kernel
theorem dX10_as_32 : decode cX10_as 32 = .ok (.getfield 128, 3) := by decide +kernel
theorem dX10_as_35 : decode cX10_as 35 = .ok (.iload_n 1, 1) := by decide +kernel
theorem dX10_as_36 : decode cX10_as 36 = .ok (.iaload, 1) := by decide +kernel
theorem dX10_as_37 : decode cX10_as 37 = .ok (.ishr, 1) := by decide +kernel
theorem dX10_as_38 : decode cX10_as 38 = .ok (.iconst 1, 1) := by decide +kernel
theorem dX10_as_39 : decode cX10_as 39 = .ok (.iand, 1) := by decide +kernel
theorem dX10_as_40 : decode cX10_as 40 = .ok (.ifCond .eq 7, 3) := by decide +kernel
theorem dX10_as_43 : decode cX10_as 43 = .ok (.iload_n 1, 1) := by decide +kernel
theorem dX10_as_44 : decode cX10_as 44 = .ok (.goto 4, 3) := by decide +kernel
theorem dX10_as_47 : decode cX10_as 47 = .ok (.iconst (-1), 1) := by decide +kernel
theorem dX10_as_48 : decode cX10_as 48 = .ok (.ireturn, 1) := by decide +kernel
set_option maxRecDepth 20000 in
theorem ggX10_cut_X10_isUnknown : GoodIn wsX10_cut wsX10_isUnknown := goodIn_r _ [7, 8, 31, 32, 33, 34, 35, 36, 37, 38, 39, 40, 41, 42, 43, 44, 50, 51, 52, 53, 54] (by decide +kernel) (by decide +kernel)
set_option maxRecDepth 20000 in
theorem gX10_cut_X10_isUnknown : GoodIn wsX10_cut (wsV RX10 124 RX10 yX10_isUnknown wsX10_isUnknown) := goodIn_app (goodIn_of _ (by decide +kernel)) ggX10_cut_X10_isUnknown
set_option maxRecDepth 20000 in
theorem ggX10_cut_X6_choices : GoodIn wsX10_cut wsX6_choices := goodIn_r _ [13, 14, 15, 16, 17, 18, 12, 19, 55, 56, 50, 51, 52, 53, 54, 45, 46, 47, 48, 49] (by decide +kernel) (by decide +kernel)
set_option maxRecDepth 20000 in
theorem gX10_cut_X6_choices : GoodIn wsX10_cut (wsV RX10 138 RX6 yX6_choices wsX6_choices) := goodIn_app (goodIn_of _ (by decide +kernel)) ggX10_cut_X6_choices
set_option maxRecDepth 20000 in
theorem ggX10_cut_J6_bitCount_0f7a4 : GoodIn wsX10_cut wsJ6_bitCount_0f7a4 := goodIn_r _ [23, 24, 25, 26] (by decide +kernel) (by decide +kernel)
set_option maxRecDepth 20000 in
theorem gX10_cut_J6_bitCount_0f7a4 : GoodIn wsX10_cut (va_wsS RX10 164 yJ6_bitCount_0f7a4 wsJ6_bitCount_0f7a4) := goodIn_app (goodIn_of _ (by decide +kernel)) ggX10_cut_J6_bitCount_0f7a4
set_option maxRecDepth 20000 in
theorem ggX10_cut_X6_leftBy : GoodIn wsX10_cut wsX6_leftBy := goodIn_r _ [30, 14, 55, 56, 50, 51, 52, 53, 54] (by decide +kernel) (by decide +kernel)
set_option maxRecDepth 20000 in
theorem gX10_cut_X6_leftBy : GoodIn wsX10_cut (wsV RX10 169 RX6 yX6_leftBy wsX6_leftBy) := goodIn_app (goodIn_of _ (by decide +kernel)) ggX10_cut_X6_leftBy
theorem dX10_cut_0 : decode cX10_cut 0 = .ok (.aload_n 0, 1) := by decide +kernel
theorem dX10_cut_1 : decode cX10_cut 1 = .ok (.iload_n 1, 1) := by decide +kernel
theorem dX10_cut_2 : decode cX10_cut 2 = .ok (.invokevirtual 124, 3) := by decide +kernel
theorem dX10_cut_5 : decode cX10_cut 5 = .ok (.ifCond .eq 6, 3) := by decide +kernel
theorem dX10_cut_8 : decode cX10_cut 8 = .ok (.bipush (-101), 2) := by decide +kernel
theorem dX10_cut_10 : decode cX10_cut 10 = .ok (.ireturn, 1) := by decide +kernel
theorem dX10_cut_11 : decode cX10_cut 11 = .ok (.aload_n 0, 1) := by decide +kernel
theorem dX10_cut_12 : decode cX10_cut 12 = .ok (.getfield 38, 3) := by decide +kernel
theorem dX10_cut_15 : decode cX10_cut 15 = .ok (.aload_n 0, 1) := by decide +kernel
theorem dX10_cut_16 : decode cX10_cut 16 = .ok (.getfield 26, 3) := by decide +kernel
theorem dX10_cut_19 : decode cX10_cut 19 = .ok (.getfield 158, 3) := by decide +kernel
theorem dX10_cut_22 : decode cX10_cut 22 = .ok (.aload_n 0, 1) := by decide +kernel
theorem dX10_cut_23 : decode cX10_cut 23 = .ok (.getfield 26, 3) := by decide +kernel
theorem dX10_cut_26 : decode cX10_cut 26 = .ok (.getfield 135, 3) := by decide +kernel
theorem dX10_cut_29 : decode cX10_cut 29 = .ok (.invokevirtual 138, 3) := by decide +kernel
theorem dX10_cut_32 : decode cX10_cut 32 = .ok (.iload_n 1, 1) := by decide +kernel
theorem dX10_cut_33 : decode cX10_cut 33 = .ok (.ishr, 1) := by decide +kernel
theorem dX10_cut_34 : decode cX10_cut 34 = .ok (.iconst 1, 1) := by decide +kernel
theorem dX10_cut_35 : decode cX10_cut 35 = .ok (.iand, 1) := by decide +kernel
theorem dX10_cut_36 : decode cX10_cut 36 = .ok (.ifCond .ne 6, 3) := by decide +kernel
theorem dX10_cut_39 : decode cX10_cut 39 = .ok (.bipush (-103), 2) := by decide +kernel
theorem dX10_cut_41 : decode cX10_cut 41 = .ok (.ireturn, 1) := by decide +kernel
theorem dX10_cut_42 : decode cX10_cut 42 = .ok (.aload_n 0, 1) := by decide +kernel
theorem dX10_cut_43 : decode cX10_cut 43 = .ok (.getfield 26, 3) := by decide +kernel
theorem dX10_cut_46 : decode cX10_cut 46 = .ok (.getfield 161, 3) := by decide +kernel
theorem dX10_cut_49 : decode cX10_cut 49 = .ok (.sipush 999, 3) := by decide +kernel
theorem dX10_cut_52 : decode cX10_cut 52 = .ok (.if_icmp .lt 6, 3) := by decide +kernel
theorem dX10_cut_55 : decode cX10_cut 55 = .ok (.bipush (-104), 2) := by decide +kernel
theorem dX10_cut_57 : decode cX10_cut 57 = .ok (.ireturn, 1) := by decide +kernel
theorem dX10_cut_58 : decode cX10_cut 58 = .ok (.aload_n 0, 1) := by decide +kernel
theorem dX10_cut_59 : decode cX10_cut 59 = .ok (.getfield 26, 3) := by decide +kernel
theorem dX10_cut_62 : decode cX10_cut 62 = .ok (.getfield 135, 3) := by decide +kernel
theorem dX10_cut_65 : decode cX10_cut 65 = .ok (.invokestatic 164, 3) := by decide +kernel
theorem dX10_cut_68 : decode cX10_cut 68 = .ok (.istore_n 2, 1) := by decide +kernel
theorem dX10_cut_69 : decode cX10_cut 69 = .ok (.aload_n 0, 1) := by decide +kernel
theorem dX10_cut_70 : decode cX10_cut 70 = .ok (.getfield 26, 3) := by decide +kernel
theorem dX10_cut_73 : decode cX10_cut 73 = .ok (.aload_n 0, 1) := by decide +kernel
theorem dX10_cut_74 : decode cX10_cut 74 = .ok (.getfield 38, 3) := by decide +kernel
theorem dX10_cut_77 : decode cX10_cut 77 = .ok (.iload_n 1, 1) := by decide +kernel
theorem dX10_cut_78 : decode cX10_cut 78 = .ok (.aload_n 0, 1) := by decide +kernel
theorem dX10_cut_79 : decode cX10_cut 79 = .ok (.getfield 26, 3) := by decide +kernel
theorem dX10_cut_82 : decode cX10_cut 82 = .ok (.getfield 135, 3) := by decide +kernel
theorem dX10_cut_85 : decode cX10_cut 85 = .ok (.invokevirtual 169, 3) := by decide +kernel
theorem dX10_cut_88 : decode cX10_cut 88 = .ok (.putfield 135, 3) := by decide +kernel
theorem dX10_cut_91 : decode cX10_cut 91 = .ok (.aload_n 0, 1) := by decide +kernel
theorem dX10_cut_92 : decode cX10_cut 92 = .ok (.getfield 26, 3) := by decide +kernel
theorem dX10_cut_95 : decode cX10_cut 95 = .ok (.iconst 1, 1) := by decide +kernel
theorem dX10_cut_96 : decode cX10_cut 96 = .ok (.aload_n 0, 1) := by decide +kernel
theorem dX10_cut_97 : decode cX10_cut 97 = .ok (.getfield 26, 3) := by decide +kernel
theorem dX10_cut_100 : decode cX10_cut 100 = .ok (.getfield 158, 3) := by decide +kernel
theorem dX10_cut_103 : decode cX10_cut 103 = .ok (.isub, 1) := by decide +kernel
theorem dX10_cut_104 : decode cX10_cut 104 = .ok (.putfield 158, 3) := by decide +kernel
theorem dX10_cut_107 : decode cX10_cut 107 = .ok (.aload_n 0, 1) := by decide +kernel
theorem dX10_cut_108 : decode cX10_cut 108 = .ok (.getfield 26, 3) := by decide +kernel
theorem dX10_cut_111 : decode cX10_cut 111 = .ok (.dup, 1) := by decide +kernel
theorem dX10_cut_112 : decode cX10_cut 112 = .ok (.getfield 161, 3) := by decide +kernel
theorem dX10_cut_115 : decode cX10_cut 115 = .ok (.iconst 1, 1) := by decide +kernel
theorem dX10_cut_116 : decode cX10_cut 116 = .ok (.iadd, 1) := by decide +kernel
theorem dX10_cut_117 : decode cX10_cut 117 = .ok (.putfield 161, 3) := by decide +kernel
theorem dX10_cut_120 : decode cX10_cut 120 = .ok (.iload_n 2, 1) := by decide +kernel
theorem dX10_cut_121 : decode cX10_cut 121 = .ok (.aload_n 0, 1) := by decide +kernel
theorem dX10_cut_122 : decode cX10_cut 122 = .ok (.getfield 26, 3) := by decide +kernel
theorem dX10_cut_125 : decode cX10_cut 125 = .ok (.getfield 135, 3) := by decide +kernel
theorem dX10_cut_128 : decode cX10_cut 128 = .ok (.invokestatic 164, 3) := by decide +kernel
theorem dX10_cut_131 : decode cX10_cut 131 = .ok (.isub, 1) := by decide +kernel
theorem dX10_cut_132 : decode cX10_cut 132 = .ok (.ireturn, 1) := by decide +kernel
set_option maxRecDepth 20000 in
theorem ggX10_grow_X10_isUnknown : GoodIn wsX10_grow wsX10_isUnknown := goodIn_r _ [7, 2, 21, 22, 23, 24, 25, 26, 27, 28, 29, 30, 31, 32, 33, 34, 40, 41, 42, 43, 44] (by decide +kernel) (by decide +kernel)
set_option maxRecDepth 20000 in
theorem gX10_grow_X10_isUnknown : GoodIn wsX10_grow (wsV RX10 124 RX10 yX10_isUnknown wsX10_isUnknown) := goodIn_app (goodIn_of _ (by decide +kernel)) ggX10_grow_X10_isUnknown
set_option maxRecDepth 20000 in
theorem ggX10_grow_X8_hasFooting : GoodIn wsX10_grow wsX8_hasFooting := goodIn_r _ [12, 13, 40, 41, 42, 43, 44] (by decide +kernel) (by decide +kernel)
set_option maxRecDepth 20000 in
theorem gX10_grow_X8_hasFooting : GoodIn wsX10_grow (wsV RX10 172 RX8 yX8_hasFooting wsX8_hasFooting) := goodIn_app (goodIn_of _ (by decide +kernel)) ggX10_grow_X8_hasFooting
set_option maxRecDepth 20000 in
theorem ggX10_grow_J6_bitCount_0f7a4 : GoodIn wsX10_grow wsJ6_bitCount_0f7a4 := goodIn_r _ [17, 18, 19, 20] (by decide +kernel) (by decide +kernel)
set_option maxRecDepth 20000 in
theorem gX10_grow_J6_bitCount_0f7a4 : GoodIn wsX10_grow (va_wsS RX10 164 yJ6_bitCount_0f7a4 wsJ6_bitCount_0f7a4) := goodIn_app (goodIn_of _ (by decide +kernel)) ggX10_grow_J6_bitCount_0f7a4
theorem dX10_grow_0 : decode cX10_grow 0 = .ok (.aload_n 0, 1) := by decide +kernel
theorem dX10_grow_1 : decode cX10_grow 1 = .ok (.iload_n 1, 1) := by decide +kernel
theorem dX10_grow_2 : decode cX10_grow 2 = .ok (.invokevirtual 124, 3) := by decide +kernel
theorem dX10_grow_5 : decode cX10_grow 5 = .ok (.ifCond .eq 6, 3) := by decide +kernel
theorem dX10_grow_8 : decode cX10_grow 8 = .ok (.bipush (-101), 2) := by decide +kernel
theorem dX10_grow_10 : decode cX10_grow 10 = .ok (.ireturn, 1) := by decide +kernel
theorem dX10_grow_11 : decode cX10_grow 11 = .ok (.aload_n 0, 1) := by decide +kernel
theorem dX10_grow_12 : decode cX10_grow 12 = .ok (.getfield 26, 3) := by decide +kernel
theorem dX10_grow_15 : decode cX10_grow 15 = .ok (.getfield 135, 3) := by decide +kernel
theorem dX10_grow_18 : decode cX10_grow 18 = .ok (.iload_n 1, 1) := by decide +kernel
theorem dX10_grow_19 : decode cX10_grow 19 = .ok (.ishr, 1) := by decide +kernel
theorem dX10_grow_20 : decode cX10_grow 20 = .ok (.iconst 1, 1) := by decide +kernel
theorem dX10_grow_21 : decode cX10_grow 21 = .ok (.iand, 1) := by decide +kernel
theorem dX10_grow_22 : decode cX10_grow 22 = .ok (.ifCond .ne 21, 3) := by decide +kernel
theorem dX10_grow_25 : decode cX10_grow 25 = .ok (.aload_n 0, 1) := by decide +kernel
theorem dX10_grow_26 : decode cX10_grow 26 = .ok (.getfield 19, 3) := by decide +kernel
theorem dX10_grow_29 : decode cX10_grow 29 = .ok (.iload_n 1, 1) := by decide +kernel
theorem dX10_grow_30 : decode cX10_grow 30 = .ok (.aload_n 0, 1) := by decide +kernel
theorem dX10_grow_31 : decode cX10_grow 31 = .ok (.getfield 26, 3) := by decide +kernel
theorem dX10_grow_34 : decode cX10_grow 34 = .ok (.getfield 135, 3) := by decide +kernel
theorem dX10_grow_37 : decode cX10_grow 37 = .ok (.invokevirtual 172, 3) := by decide +kernel
theorem dX10_grow_40 : decode cX10_grow 40 = .ok (.ifCond .ne 6, 3) := by decide +kernel
theorem dX10_grow_43 : decode cX10_grow 43 = .ok (.bipush (-103), 2) := by decide +kernel
theorem dX10_grow_45 : decode cX10_grow 45 = .ok (.ireturn, 1) := by decide +kernel
theorem dX10_grow_46 : decode cX10_grow 46 = .ok (.aload_n 0, 1) := by decide +kernel
theorem dX10_grow_47 : decode cX10_grow 47 = .ok (.getfield 26, 3) := by decide +kernel
theorem dX10_grow_50 : decode cX10_grow 50 = .ok (.dup, 1) := by decide +kernel
theorem dX10_grow_51 : decode cX10_grow 51 = .ok (.getfield 135, 3) := by decide +kernel
theorem dX10_grow_54 : decode cX10_grow 54 = .ok (.iconst 1, 1) := by decide +kernel
theorem dX10_grow_55 : decode cX10_grow 55 = .ok (.iload_n 1, 1) := by decide +kernel
theorem dX10_grow_56 : decode cX10_grow 56 = .ok (.ishl, 1) := by decide +kernel
theorem dX10_grow_57 : decode cX10_grow 57 = .ok (.ior, 1) := by decide +kernel
theorem dX10_grow_58 : decode cX10_grow 58 = .ok (.putfield 135, 3) := by decide +kernel
theorem dX10_grow_61 : decode cX10_grow 61 = .ok (.aload_n 0, 1) := by decide +kernel
theorem dX10_grow_62 : decode cX10_grow 62 = .ok (.getfield 26, 3) := by decide +kernel
theorem dX10_grow_65 : decode cX10_grow 65 = .ok (.getfield 135, 3) := by decide +kernel
theorem dX10_grow_68 : decode cX10_grow 68 = .ok (.invokestatic 164, 3) := by decide +kernel
theorem dX10_grow_71 : decode cX10_grow 71 = .ok (.ireturn, 1) := by decide +kernel
set_option maxRecDepth 20000 in
theorem ggX10_pass_X10_hasNoHedge : GoodIn wsX10_pass wsX10_hasNoHedge := goodIn_r _ [6, 7, 8, 9, 10, 11, 12, 13, 14, 15, 16, 17, 18, 19, 20, 21, 27, 28, 29, 30, 31] (by decide +kernel) (by decide +kernel)
set_option maxRecDepth 20000 in
theorem gX10_pass_X10_hasNoHedge : GoodIn wsX10_pass (wsV RX10 176 RX10 yX10_hasNoHedge wsX10_hasNoHedge) := goodIn_app (goodIn_of _ (by decide +kernel)) ggX10_pass_X10_hasNoHedge
theorem dX10_pass_0 : decode cX10_pass 0 = .ok (.aload_n 0, 1) := by decide +kernel
theorem dX10_pass_1 : decode cX10_pass 1 = .ok (.invokevirtual 176, 3) := by decide +kernel
theorem dX10_pass_4 : decode cX10_pass 4 = .ok (.ifCond .eq 6, 3) := by decide +kernel
theorem dX10_pass_7 : decode cX10_pass 7 = .ok (.bipush (-103), 2) := by decide +kernel
theorem dX10_pass_9 : decode cX10_pass 9 = .ok (.ireturn, 1) := by decide +kernel
theorem dX10_pass_10 : decode cX10_pass 10 = .ok (.aload_n 0, 1) := by decide +kernel
theorem dX10_pass_11 : decode cX10_pass 11 = .ok (.getfield 26, 3) := by decide +kernel
theorem dX10_pass_14 : decode cX10_pass 14 = .ok (.getfield 158, 3) := by decide +kernel
theorem dX10_pass_17 : decode cX10_pass 17 = .ok (.istore_n 1, 1) := by decide +kernel
theorem dX10_pass_18 : decode cX10_pass 18 = .ok (.aload_n 0, 1) := by decide +kernel
theorem dX10_pass_19 : decode cX10_pass 19 = .ok (.getfield 26, 3) := by decide +kernel
theorem dX10_pass_22 : decode cX10_pass 22 = .ok (.iconst 1, 1) := by decide +kernel
theorem dX10_pass_23 : decode cX10_pass 23 = .ok (.iload_n 1, 1) := by decide +kernel
theorem dX10_pass_24 : decode cX10_pass 24 = .ok (.isub, 1) := by decide +kernel
theorem dX10_pass_25 : decode cX10_pass 25 = .ok (.putfield 158, 3) := by decide +kernel
theorem dX10_pass_28 : decode cX10_pass 28 = .ok (.iload_n 1, 1) := by decide +kernel
theorem dX10_pass_29 : decode cX10_pass 29 = .ok (.ireturn, 1) := by decide +kernel
set_option maxRecDepth 20000 in
theorem ggX10_graft_X10_isUnknown : GoodIn wsX10_graft wsX10_isUnknown := goodIn_r _ [7, 8, 9, 10, 11, 12, 13, 14, 15, 16, 17, 18, 19, 20, 21, 22, 28, 29, 30, 31, 32] (by decide +kernel) (by decide +kernel)
set_option maxRecDepth 20000 in
theorem gX10_graft_X10_isUnknown : GoodIn wsX10_graft (wsV RX10 124 RX10 yX10_isUnknown wsX10_isUnknown) := goodIn_app (goodIn_of _ (by decide +kernel)) ggX10_graft_X10_isUnknown
theorem dX10_graft_0 : decode cX10_graft 0 = .ok (.aload_n 0, 1) := by decide +kernel
theorem dX10_graft_1 : decode cX10_graft 1 = .ok (.iload_n 1, 1) := by decide +kernel
theorem dX10_graft_2 : decode cX10_graft 2 = .ok (.invokevirtual 124, 3) := by decide +kernel
theorem dX10_graft_5 : decode cX10_graft 5 = .ok (.ifCond .eq 6, 3) := by decide +kernel
theorem dX10_graft_8 : decode cX10_graft 8 = .ok (.bipush (-101), 2) := by decide +kernel
theorem dX10_graft_10 : decode cX10_graft 10 = .ok (.ireturn, 1) := by decide +kernel
theorem dX10_graft_11 : decode cX10_graft 11 = .ok (.iload_n 2, 1) := by decide +kernel
theorem dX10_graft_12 : decode cX10_graft 12 = .ok (.ifCond .lt 8, 3) := by decide +kernel
theorem dX10_graft_15 : decode cX10_graft 15 = .ok (.iload_n 2, 1) := by decide +kernel
theorem dX10_graft_16 : decode cX10_graft 16 = .ok (.iconst 5, 1) := by decide +kernel
theorem dX10_graft_17 : decode cX10_graft 17 = .ok (.if_icmp .lt 6, 3) := by decide +kernel
theorem dX10_graft_20 : decode cX10_graft 20 = .ok (.bipush (-102), 2) := by decide +kernel
theorem dX10_graft_22 : decode cX10_graft 22 = .ok (.ireturn, 1) := by decide +kernel
theorem dX10_graft_23 : decode cX10_graft 23 = .ok (.aload_n 0, 1) := by decide +kernel
theorem dX10_graft_24 : decode cX10_graft 24 = .ok (.getfield 26, 3) := by decide +kernel
theorem dX10_graft_27 : decode cX10_graft 27 = .ok (.getfield 128, 3) := by decide +kernel
theorem dX10_graft_30 : decode cX10_graft 30 = .ok (.iload_n 1, 1) := by decide +kernel
theorem dX10_graft_31 : decode cX10_graft 31 = .ok (.iaload, 1) := by decide +kernel
theorem dX10_graft_32 : decode cX10_graft 32 = .ok (.istore_n 3, 1) := by decide +kernel
theorem dX10_graft_33 : decode cX10_graft 33 = .ok (.aload_n 0, 1) := by decide +kernel
theorem dX10_graft_34 : decode cX10_graft 34 = .ok (.getfield 26, 3) := by decide +kernel
theorem dX10_graft_37 : decode cX10_graft 37 = .ok (.getfield 128, 3) := by decide +kernel
theorem dX10_graft_40 : decode cX10_graft 40 = .ok (.iload_n 1, 1) := by decide +kernel
theorem dX10_graft_41 : decode cX10_graft 41 = .ok (.iload_n 2, 1) := by decide +kernel
theorem dX10_graft_42 : decode cX10_graft 42 = .ok (.iastore, 1) := by decide +kernel
theorem dX10_graft_43 : decode cX10_graft 43 = .ok (.aload_n 0, 1) := by decide +kernel
theorem dX10_graft_44 : decode cX10_graft 44 = .ok (.iconst 0, 1) := by decide +kernel
theorem dX10_graft_45 : decode cX10_graft 45 = .ok (.putfield 81, 3) := by decide +kernel
theorem dX10_graft_48 : decode cX10_graft 48 = .ok (.iload_n 3, 1) := by decide +kernel
theorem dX10_graft_49 : decode cX10_graft 49 = .ok (.ireturn, 1) := by decide +kernel
set_option maxRecDepth 20000 in
theorem ggX10_wins_X10_isNoSide : GoodIn wsX10_wins wsX10_isNoSide := goodIn_r _ [6] (by decide +kernel) (by decide +kernel)
set_option maxRecDepth 20000 in
theorem gX10_wins_X10_isNoSide : GoodIn wsX10_wins (va_wsS RX10 179 yX10_isNoSide wsX10_isNoSide) := goodIn_app (goodIn_of _ (by decide +kernel)) ggX10_wins_X10_isNoSide
set_option maxRecDepth 20000 in
theorem ggX10_wins_X10_hasNoHedge : GoodIn wsX10_wins wsX10_hasNoHedge := goodIn_r _ [10, 11, 110, 111, 112, 113, 114, 115, 116, 117, 118, 119, 120, 121, 122, 123, 129, 130, 131, 132, 133] (by decide +kernel) (by decide +kernel)
set_option maxRecDepth 20000 in
theorem gX10_wins_X10_hasNoHedge : GoodIn wsX10_wins (wsV RX10 176 RX10 yX10_hasNoHedge wsX10_hasNoHedge) := goodIn_app (goodIn_of _ (by decide +kernel)) ggX10_wins_X10_hasNoHedge
set_option maxRecDepth 20000 in
theorem ggX10_wins_X10_chart : GoodIn wsX10_wins wsX10_chart := goodIn_r _ [15, 16, 11, 17, 1, 18, 19, 20, 21, 22, 23, 24, 25, 26, 27, 28, 29, 30, 31, 32, 33, 34, 35, 36, 37, 38, 39, 40, 41, 42, 43, 44, 5, 45, 46, 47, 48, 49, 50, 51, 52, 53, 54, 55, 56, 57, 58, 59, 60, 61, 62, 63, 64, 65, 66, 67, 68, 69, 70, 71, 72, 73, 74, 75, 76, 77, 78, 79, 80, 81, 82, 83, 84, 85, 86, 87, 88, 89, 90, 91, 92, 93, 94, 95, 96, 97, 98, 99, 100, 101, 102, 103, 104, 105, 106, 107, 108, 110, 111, 112, 113, 114, 115, 116, 117, 118, 119, 120, 121, 122, 123, 129, 130, 131, 132, 133, 134, 135, 124, 125, 126, 127, 128, 136, 137, 138, 139, 140, 141, 142, 143, 144] (by decide +kernel) (by decide +kernel)
set_option maxRecDepth 20000 in
theorem gX10_wins_X10_chart : GoodIn wsX10_wins (wsV RX10 145 RX10 yX10_chart wsX10_chart) := goodIn_app (goodIn_of _ (by decide +kernel)) ggX10_wins_X10_chart
set_option maxRecDepth 20000 in
theorem ggX10_wins_X4_isWonBy : GoodIn wsX10_wins wsX4_isWonBy := goodIn_r _ [71, 38, 72, 44, 5, 45, 136, 137] (by decide +kernel) (by decide +kernel)
set_option maxRecDepth 20000 in
theorem gX10_wins_X4_isWonBy : GoodIn wsX10_wins (wsV RX10 182 RX4 yX4_isWonBy wsX4_isWonBy) := goodIn_app (goodIn_of _ (by decide +kernel)) ggX10_wins_X4_isWonBy
theorem dX10_wins_0 : decode cX10_wins 0 = .ok (.iload_n 1, 1) := by decide +kernel
theorem dX10_wins_1 : decode cX10_wins 1 = .ok (.invokestatic 179, 3) := by decide +kernel
theorem dX10_wins_4 : decode cX10_wins 4 = .ok (.ifCond .eq 6, 3) := by decide +kernel
theorem dX10_wins_7 : decode cX10_wins 7 = .ok (.bipush (-102), 2) := by decide +kernel
theorem dX10_wins_9 : decode cX10_wins 9 = .ok (.ireturn, 1) := by decide +kernel
theorem dX10_wins_10 : decode cX10_wins 10 = .ok (.aload_n 0, 1) := by decide +kernel
theorem dX10_wins_11 : decode cX10_wins 11 = .ok (.invokevirtual 176, 3) := by decide +kernel
theorem dX10_wins_14 : decode cX10_wins 14 = .ok (.ifCond .eq 6, 3) := by decide +kernel
theorem dX10_wins_17 : decode cX10_wins 17 = .ok (.bipush (-103), 2) := by decide +kernel
theorem dX10_wins_19 : decode cX10_wins 19 = .ok (.ireturn, 1) := by decide +kernel
theorem dX10_wins_20 : decode cX10_wins 20 = .ok (.aload_n 0, 1) := by decide +kernel
theorem dX10_wins_21 : decode cX10_wins 21 = .ok (.invokevirtual 145, 3) := by decide +kernel
theorem dX10_wins_24 : decode cX10_wins 24 = .ok (.aload_n 0, 1) := by decide +kernel
theorem dX10_wins_25 : decode cX10_wins 25 = .ok (.getfield 47, 3) := by decide +kernel
theorem dX10_wins_28 : decode cX10_wins 28 = .ok (.iload_n 1, 1) := by decide +kernel
theorem dX10_wins_29 : decode cX10_wins 29 = .ok (.aload_n 0, 1) := by decide +kernel
theorem dX10_wins_30 : decode cX10_wins 30 = .ok (.getfield 26, 3) := by decide +kernel
theorem dX10_wins_33 : decode cX10_wins 33 = .ok (.getfield 135, 3) := by decide +kernel
theorem dX10_wins_36 : decode cX10_wins 36 = .ok (.invokevirtual 182, 3) := by decide +kernel
theorem dX10_wins_39 : decode cX10_wins 39 = .ok (.ifCond .eq 7, 3) := by decide +kernel
theorem dX10_wins_42 : decode cX10_wins 42 = .ok (.iload_n 1, 1) := by decide +kernel
theorem dX10_wins_43 : decode cX10_wins 43 = .ok (.goto 6, 3) := by decide +kernel
theorem dX10_wins_46 : decode cX10_wins 46 = .ok (.iconst 1, 1) := by decide +kernel
theorem dX10_wins_47 : decode cX10_wins 47 = .ok (.iload_n 1, 1) := by decide +kernel
theorem dX10_wins_48 : decode cX10_wins 48 = .ok (.isub, 1) := by decide +kernel
theorem dX10_wins_49 : decode cX10_wins 49 = .ok (.ireturn, 1) := by decide +kernel
set_option maxRecDepth 20000 in
theorem ggX10_best_X10_isNoSide : GoodIn wsX10_best wsX10_isNoSide := goodIn_r _ [6] (by decide +kernel) (by decide +kernel)
set_option maxRecDepth 20000 in
theorem gX10_best_X10_isNoSide : GoodIn wsX10_best (va_wsS RX10 179 yX10_isNoSide wsX10_isNoSide) := goodIn_app (goodIn_of _ (by decide +kernel)) ggX10_best_X10_isNoSide
set_option maxRecDepth 20000 in
theorem ggX10_best_X10_hasNoHedge : GoodIn wsX10_best wsX10_hasNoHedge := goodIn_r _ [10, 11, 114, 115, 116, 117, 118, 119, 120, 121, 122, 123, 124, 125, 126, 127, 133, 134, 135, 136, 137] (by decide +kernel) (by decide +kernel)
set_option maxRecDepth 20000 in
theorem gX10_best_X10_hasNoHedge : GoodIn wsX10_best (wsV RX10 176 RX10 yX10_hasNoHedge wsX10_hasNoHedge) := goodIn_app (goodIn_of _ (by decide +kernel)) ggX10_best_X10_hasNoHedge
set_option maxRecDepth 20000 in
theorem ggX10_best_X10_chart : GoodIn wsX10_best wsX10_chart := goodIn_r _ [15, 16, 11, 17, 18, 1, 19, 20, 21, 22, 23, 24, 25, 26, 27, 28, 29, 30, 31, 32, 33, 34, 35, 36, 37, 38, 39, 40, 41, 42, 43, 44, 5, 45, 46, 47, 48, 49, 50, 51, 52, 53, 54, 55, 56, 57, 58, 59, 60, 61, 62, 63, 64, 65, 66, 67, 68, 69, 70, 71, 72, 73, 74, 75, 76, 77, 78, 79, 80, 81, 82, 83, 84, 85, 86, 87, 88, 89, 90, 91, 92, 93, 94, 95, 96, 97, 98, 99, 100, 101, 102, 103, 104, 105, 106, 107, 108, 114, 115, 116, 117, 118, 119, 120, 121, 122, 123, 124, 125, 126, 127, 133, 134, 135, 136, 137, 138, 139, 128, 129, 130, 131, 132, 140, 141, 142, 143, 144, 145, 146, 147, 148] (by decide +kernel) (by decide +kernel)
set_option maxRecDepth 20000 in
theorem gX10_best_X10_chart : GoodIn wsX10_best (wsV RX10 145 RX10 yX10_chart wsX10_chart) := goodIn_app (goodIn_of _ (by decide +kernel)) ggX10_best_X10_chart
set_option maxRecDepth 20000 in
theorem ggX10_best_X1_bestCut : GoodIn wsX10_best wsX1_bestCut := goodIn_r _ [112, 58, 59, 60, 68, 69, 70, 35, 71, 38, 72, 44, 5, 45, 113, 22, 23, 24, 25, 26, 27, 28, 29, 30, 31, 73, 41, 42, 43, 142, 143, 144, 138, 139, 133, 134, 135, 136, 137, 140, 141, 128, 129, 130, 131, 132] (by decide +kernel) (by decide +kernel)
set_option maxRecDepth 20000 in
theorem gX10_best_X1_bestCut : GoodIn wsX10_best (wsV RX10 185 RX1 yX1_bestCut wsX1_bestCut) := goodIn_app (goodIn_of _ (by decide +kernel)) ggX10_best_X1_bestCut
theorem dX10_best_0 : decode cX10_best 0 = .ok (.iload_n 1, 1) := by decide +kernel
theorem dX10_best_1 : decode cX10_best 1 = .ok (.invokestatic 179, 3) := by decide +kernel
theorem dX10_best_4 : decode cX10_best 4 = .ok (.ifCond .eq 6, 3) := by decide +kernel
theorem dX10_best_7 : decode cX10_best 7 = .ok (.bipush (-102), 2) := by decide +kernel
theorem dX10_best_9 : decode cX10_best 9 = .ok (.ireturn, 1) := by decide +kernel
theorem dX10_best_10 : decode cX10_best 10 = .ok (.aload_n 0, 1) := by decide +kernel
theorem dX10_best_11 : decode cX10_best 11 = .ok (.invokevirtual 176, 3) := by decide +kernel
theorem dX10_best_14 : decode cX10_best 14 = .ok (.ifCond .eq 6, 3) := by decide +kernel
theorem dX10_best_17 : decode cX10_best 17 = .ok (.bipush (-103), 2) := by decide +kernel
theorem dX10_best_19 : decode cX10_best 19 = .ok (.ireturn, 1) := by decide +kernel
theorem dX10_best_20 : decode cX10_best 20 = .ok (.aload_n 0, 1) := by decide +kernel
theorem dX10_best_21 : decode cX10_best 21 = .ok (.invokevirtual 145, 3) := by decide +kernel
theorem dX10_best_24 : decode cX10_best 24 = .ok (.aload_n 0, 1) := by decide +kernel
theorem dX10_best_25 : decode cX10_best 25 = .ok (.getfield 56, 3) := by decide +kernel
theorem dX10_best_28 : decode cX10_best 28 = .ok (.iload_n 1, 1) := by decide +kernel
theorem dX10_best_29 : decode cX10_best 29 = .ok (.aload_n 0, 1) := by decide +kernel
theorem dX10_best_30 : decode cX10_best 30 = .ok (.getfield 26, 3) := by decide +kernel
theorem dX10_best_33 : decode cX10_best 33 = .ok (.getfield 135, 3) := by decide +kernel
theorem dX10_best_36 : decode cX10_best 36 = .ok (.invokevirtual 185, 3) := by decide +kernel
theorem dX10_best_39 : decode cX10_best 39 = .ok (.ireturn, 1) := by decide +kernel
set_option maxRecDepth 20000 in
theorem ggX10_lasts_X10_isNoSide : GoodIn wsX10_lasts wsX10_isNoSide := goodIn_r _ [6] (by decide +kernel) (by decide +kernel)
set_option maxRecDepth 20000 in
theorem gX10_lasts_X10_isNoSide : GoodIn wsX10_lasts (va_wsS RX10 179 yX10_isNoSide wsX10_isNoSide) := goodIn_app (goodIn_of _ (by decide +kernel)) ggX10_lasts_X10_isNoSide
set_option maxRecDepth 20000 in
theorem ggX10_lasts_X10_hasNoHedge : GoodIn wsX10_lasts wsX10_hasNoHedge := goodIn_r _ [10, 11, 113, 114, 115, 116, 117, 118, 119, 120, 121, 122, 123, 124, 125, 126, 132, 133, 134, 135, 136] (by decide +kernel) (by decide +kernel)
set_option maxRecDepth 20000 in
theorem gX10_lasts_X10_hasNoHedge : GoodIn wsX10_lasts (wsV RX10 176 RX10 yX10_hasNoHedge wsX10_hasNoHedge) := goodIn_app (goodIn_of _ (by decide +kernel)) ggX10_lasts_X10_hasNoHedge
set_option maxRecDepth 20000 in
theorem ggX10_lasts_X10_chart : GoodIn wsX10_lasts wsX10_chart := goodIn_r _ [15, 16, 11, 17, 18, 1, 19, 20, 21, 22, 23, 24, 25, 26, 27, 28, 29, 30, 31, 32, 33, 34, 35, 36, 37, 38, 39, 40, 41, 42, 43, 44, 5, 45, 46, 47, 48, 49, 50, 51, 52, 53, 54, 55, 56, 57, 58, 59, 60, 61, 62, 63, 64, 65, 66, 67, 68, 69, 70, 71, 72, 73, 74, 75, 76, 77, 78, 79, 80, 81, 82, 83, 84, 85, 86, 87, 88, 89, 90, 91, 92, 93, 94, 95, 96, 97, 98, 99, 100, 101, 102, 103, 104, 105, 106, 107, 108, 113, 114, 115, 116, 117, 118, 119, 120, 121, 122, 123, 124, 125, 126, 132, 133, 134, 135, 136, 137, 138, 127, 128, 129, 130, 131, 139, 140, 141, 142, 143, 144, 145, 146, 147] (by decide +kernel) (by decide +kernel)
set_option maxRecDepth 20000 in
theorem gX10_lasts_X10_chart : GoodIn wsX10_lasts (wsV RX10 145 RX10 yX10_chart wsX10_chart) := goodIn_app (goodIn_of _ (by decide +kernel)) ggX10_lasts_X10_chart
set_option maxRecDepth 20000 in
theorem ggX10_lasts_X1_cutsFrom : GoodIn wsX10_lasts wsX1_cutsFrom := goodIn_r _ [112, 60, 44, 5, 45, 141, 142, 143] (by decide +kernel) (by decide +kernel)
set_option maxRecDepth 20000 in
theorem gX10_lasts_X1_cutsFrom : GoodIn wsX10_lasts (wsV RX10 188 RX1 yX1_cutsFrom wsX1_cutsFrom) := goodIn_app (goodIn_of _ (by decide +kernel)) ggX10_lasts_X1_cutsFrom
theorem dX10_lasts_0 : decode cX10_lasts 0 = .ok (.iload_n 1, 1) := by decide +kernel
theorem dX10_lasts_1 : decode cX10_lasts 1 = .ok (.invokestatic 179, 3) := by decide +kernel
theorem dX10_lasts_4 : decode cX10_lasts 4 = .ok (.ifCond .eq 6, 3) := by decide +kernel
theorem dX10_lasts_7 : decode cX10_lasts 7 = .ok (.bipush (-102), 2) := by decide +kernel
theorem dX10_lasts_9 : decode cX10_lasts 9 = .ok (.ireturn, 1) := by decide +kernel
theorem dX10_lasts_10 : decode cX10_lasts 10 = .ok (.aload_n 0, 1) := by decide +kernel
theorem dX10_lasts_11 : decode cX10_lasts 11 = .ok (.invokevirtual 176, 3) := by decide +kernel
theorem dX10_lasts_14 : decode cX10_lasts 14 = .ok (.ifCond .eq 6, 3) := by decide +kernel
theorem dX10_lasts_17 : decode cX10_lasts 17 = .ok (.bipush (-103), 2) := by decide +kernel
theorem dX10_lasts_19 : decode cX10_lasts 19 = .ok (.ireturn, 1) := by decide +kernel
theorem dX10_lasts_20 : decode cX10_lasts 20 = .ok (.aload_n 0, 1) := by decide +kernel
theorem dX10_lasts_21 : decode cX10_lasts 21 = .ok (.invokevirtual 145, 3) := by decide +kernel
theorem dX10_lasts_24 : decode cX10_lasts 24 = .ok (.aload_n 0, 1) := by decide +kernel
theorem dX10_lasts_25 : decode cX10_lasts 25 = .ok (.getfield 56, 3) := by decide +kernel
theorem dX10_lasts_28 : decode cX10_lasts 28 = .ok (.iload_n 1, 1) := by decide +kernel
theorem dX10_lasts_29 : decode cX10_lasts 29 = .ok (.aload_n 0, 1) := by decide +kernel
theorem dX10_lasts_30 : decode cX10_lasts 30 = .ok (.getfield 26, 3) := by decide +kernel
theorem dX10_lasts_33 : decode cX10_lasts 33 = .ok (.getfield 135, 3) := by decide +kernel
theorem dX10_lasts_36 : decode cX10_lasts 36 = .ok (.invokevirtual 188, 3) := by decide +kernel
theorem dX10_lasts_39 : decode cX10_lasts 39 = .ok (.ireturn, 1) := by decide +kernel
set_option maxRecDepth 20000 in
theorem ggX10_worth_X10_hasNoHedge : GoodIn wsX10_worth wsX10_hasNoHedge := goodIn_r _ [7, 8, 110, 111, 112, 113, 114, 115, 116, 117, 118, 119, 120, 121, 122, 123, 129, 130, 131, 132, 133] (by decide +kernel) (by decide +kernel)
set_option maxRecDepth 20000 in
theorem gX10_worth_X10_hasNoHedge : GoodIn wsX10_worth (wsV RX10 176 RX10 yX10_hasNoHedge wsX10_hasNoHedge) := goodIn_app (goodIn_of _ (by decide +kernel)) ggX10_worth_X10_hasNoHedge
set_option maxRecDepth 20000 in
theorem ggX10_worth_X10_chart : GoodIn wsX10_worth wsX10_chart := goodIn_r _ [12, 13, 8, 14, 15, 16, 1, 17, 18, 19, 20, 21, 22, 23, 24, 25, 26, 27, 28, 29, 30, 31, 32, 33, 34, 35, 36, 37, 38, 39, 40, 41, 6, 42, 43, 44, 45, 46, 47, 48, 49, 50, 51, 52, 53, 54, 55, 56, 57, 58, 59, 60, 61, 62, 63, 64, 65, 66, 67, 68, 69, 70, 71, 72, 73, 74, 75, 76, 77, 78, 79, 80, 81, 82, 83, 84, 85, 86, 87, 88, 89, 90, 91, 92, 93, 94, 95, 96, 97, 98, 99, 100, 101, 102, 103, 104, 105, 110, 111, 112, 113, 114, 115, 116, 117, 118, 119, 120, 121, 122, 123, 129, 130, 131, 132, 133, 134, 135, 124, 125, 126, 127, 128, 136, 137, 138, 139, 140, 141, 142, 143, 144] (by decide +kernel) (by decide +kernel)
set_option maxRecDepth 20000 in
theorem gX10_worth_X10_chart : GoodIn wsX10_worth (wsV RX10 145 RX10 yX10_chart wsX10_chart) := goodIn_app (goodIn_of _ (by decide +kernel)) ggX10_worth_X10_chart
set_option maxRecDepth 20000 in
theorem ggX10_worth_X9_valueOf : GoodIn wsX10_worth wsX9_valueOf := goodIn_r _ [109, 76, 141, 142] (by decide +kernel) (by decide +kernel)
set_option maxRecDepth 20000 in
theorem gX10_worth_X9_valueOf : GoodIn wsX10_worth (wsV RX10 191 RX9 yX9_valueOf wsX9_valueOf) := goodIn_app (goodIn_of _ (by decide +kernel)) ggX10_worth_X9_valueOf
theorem dX10_worth_0 : decode cX10_worth 0 = .ok (.aload_n 0, 1) := by decide +kernel
theorem dX10_worth_1 : decode cX10_worth 1 = .ok (.invokevirtual 176, 3) := by decide +kernel
theorem dX10_worth_4 : decode cX10_worth 4 = .ok (.ifCond .eq 6, 3) := by decide +kernel
theorem dX10_worth_7 : decode cX10_worth 7 = .ok (.bipush (-103), 2) := by decide +kernel
theorem dX10_worth_9 : decode cX10_worth 9 = .ok (.ireturn, 1) := by decide +kernel
theorem dX10_worth_10 : decode cX10_worth 10 = .ok (.aload_n 0, 1) := by decide +kernel
theorem dX10_worth_11 : decode cX10_worth 11 = .ok (.invokevirtual 145, 3) := by decide +kernel
theorem dX10_worth_14 : decode cX10_worth 14 = .ok (.aload_n 0, 1) := by decide +kernel
theorem dX10_worth_15 : decode cX10_worth 15 = .ok (.getfield 63, 3) := by decide +kernel
theorem dX10_worth_18 : decode cX10_worth 18 = .ok (.aload_n 0, 1) := by decide +kernel
theorem dX10_worth_19 : decode cX10_worth 19 = .ok (.getfield 26, 3) := by decide +kernel
theorem dX10_worth_22 : decode cX10_worth 22 = .ok (.getfield 135, 3) := by decide +kernel
theorem dX10_worth_25 : decode cX10_worth 25 = .ok (.invokevirtual 191, 3) := by decide +kernel
theorem dX10_worth_28 : decode cX10_worth 28 = .ok (.ireturn, 1) := by decide +kernel
set_option maxRecDepth 20000 in
theorem ggX10_tree_X10_isUnknown : GoodIn wsX10_tree wsX10_isUnknown := goodIn_r _ [8, 1, 116, 117, 118, 119, 120, 121, 122, 123, 124, 125, 126, 127, 128, 129, 130, 131, 132, 133, 134] (by decide +kernel) (by decide +kernel)
set_option maxRecDepth 20000 in
theorem gX10_tree_X10_isUnknown : GoodIn wsX10_tree (wsV RX10 124 RX10 yX10_isUnknown wsX10_isUnknown) := goodIn_app (goodIn_of _ (by decide +kernel)) ggX10_tree_X10_isUnknown
set_option maxRecDepth 20000 in
theorem ggX10_tree_X10_chart : GoodIn wsX10_tree wsX10_chart := goodIn_r _ [12, 13, 1, 14, 15, 16, 2, 17, 18, 19, 20, 21, 22, 23, 24, 25, 26, 27, 28, 29, 30, 31, 32, 33, 34, 35, 36, 37, 38, 39, 40, 41, 7, 42, 43, 44, 45, 46, 47, 48, 49, 50, 51, 52, 53, 54, 55, 56, 57, 58, 59, 60, 61, 62, 63, 64, 65, 66, 67, 68, 69, 70, 71, 72, 73, 74, 75, 76, 77, 78, 79, 80, 81, 82, 83, 84, 85, 86, 87, 88, 89, 90, 91, 92, 93, 94, 95, 96, 97, 98, 99, 100, 101, 102, 103, 104, 105, 116, 117, 118, 119, 120, 121, 122, 123, 124, 125, 126, 127, 128, 129, 130, 131, 132, 133, 134, 140, 141, 135, 136, 137, 138, 139, 142, 143, 144, 145, 146, 147, 148, 149, 150] (by decide +kernel) (by decide +kernel)
set_option maxRecDepth 20000 in
theorem gX10_tree_X10_chart : GoodIn wsX10_tree (wsV RX10 145 RX10 yX10_chart wsX10_chart) := goodIn_app (goodIn_of _ (by decide +kernel)) ggX10_tree_X10_chart
set_option maxRecDepth 20000 in
theorem ggX10_tree_X8_withAllOn : GoodIn wsX10_tree wsX8_withAllOn := goodIn_r _ [110, 111, 130, 131, 132, 133, 134] (by decide +kernel) (by decide +kernel)
set_option maxRecDepth 20000 in
theorem gX10_tree_X8_withAllOn : GoodIn wsX10_tree (wsV RX10 194 RX8 yX8_withAllOn wsX8_withAllOn) := goodIn_app (goodIn_of _ (by decide +kernel)) ggX10_tree_X8_withAllOn
set_option maxRecDepth 20000 in
theorem ggX10_tree_X9_valueOf : GoodIn wsX10_tree wsX9_valueOf := goodIn_r _ [115, 76, 147, 148] (by decide +kernel) (by decide +kernel)
set_option maxRecDepth 20000 in
theorem gX10_tree_X9_valueOf : GoodIn wsX10_tree (wsV RX10 191 RX9 yX9_valueOf wsX9_valueOf) := goodIn_app (goodIn_of _ (by decide +kernel)) ggX10_tree_X9_valueOf
theorem dX10_tree_0 : decode cX10_tree 0 = .ok (.aload_n 0, 1) := by decide +kernel
theorem dX10_tree_1 : decode cX10_tree 1 = .ok (.iload_n 1, 1) := by decide +kernel
theorem dX10_tree_2 : decode cX10_tree 2 = .ok (.invokevirtual 124, 3) := by decide +kernel
theorem dX10_tree_5 : decode cX10_tree 5 = .ok (.ifCond .eq 6, 3) := by decide +kernel
theorem dX10_tree_8 : decode cX10_tree 8 = .ok (.bipush (-101), 2) := by decide +kernel
theorem dX10_tree_10 : decode cX10_tree 10 = .ok (.ireturn, 1) := by decide +kernel
theorem dX10_tree_11 : decode cX10_tree 11 = .ok (.aload_n 0, 1) := by decide +kernel
theorem dX10_tree_12 : decode cX10_tree 12 = .ok (.getfield 19, 3) := by decide +kernel
theorem dX10_tree_15 : decode cX10_tree 15 = .ok (.getfield 132, 3) := by decide +kernel
theorem dX10_tree_18 : decode cX10_tree 18 = .ok (.iload_n 1, 1) := by decide +kernel
theorem dX10_tree_19 : decode cX10_tree 19 = .ok (.iaload, 1) := by decide +kernel
theorem dX10_tree_20 : decode cX10_tree 20 = .ok (.iconst (-1), 1) := by decide +kernel
theorem dX10_tree_21 : decode cX10_tree 21 = .ok (.if_icmp .eq 6, 3) := by decide +kernel
theorem dX10_tree_24 : decode cX10_tree 24 = .ok (.bipush (-103), 2) := by decide +kernel
theorem dX10_tree_26 : decode cX10_tree 26 = .ok (.ireturn, 1) := by decide +kernel
theorem dX10_tree_27 : decode cX10_tree 27 = .ok (.aload_n 0, 1) := by decide +kernel
theorem dX10_tree_28 : decode cX10_tree 28 = .ok (.invokevirtual 145, 3) := by decide +kernel
theorem dX10_tree_31 : decode cX10_tree 31 = .ok (.aload_n 0, 1) := by decide +kernel
theorem dX10_tree_32 : decode cX10_tree 32 = .ok (.getfield 63, 3) := by decide +kernel
theorem dX10_tree_35 : decode cX10_tree 35 = .ok (.aload_n 0, 1) := by decide +kernel
theorem dX10_tree_36 : decode cX10_tree 36 = .ok (.getfield 26, 3) := by decide +kernel
theorem dX10_tree_39 : decode cX10_tree 39 = .ok (.getfield 135, 3) := by decide +kernel
theorem dX10_tree_42 : decode cX10_tree 42 = .ok (.aload_n 0, 1) := by decide +kernel
theorem dX10_tree_43 : decode cX10_tree 43 = .ok (.getfield 19, 3) := by decide +kernel
theorem dX10_tree_46 : decode cX10_tree 46 = .ok (.iload_n 1, 1) := by decide +kernel
theorem dX10_tree_47 : decode cX10_tree 47 = .ok (.invokevirtual 194, 3) := by decide +kernel
theorem dX10_tree_50 : decode cX10_tree 50 = .ok (.iand, 1) := by decide +kernel
theorem dX10_tree_51 : decode cX10_tree 51 = .ok (.invokevirtual 191, 3) := by decide +kernel
theorem dX10_tree_54 : decode cX10_tree 54 = .ok (.ireturn, 1) := by decide +kernel
set_option maxRecDepth 20000 in
theorem ggX10_even_X10_hasNoHedge : GoodIn wsX10_even wsX10_hasNoHedge := goodIn_r _ [6, 7, 116, 117, 118, 119, 120, 121, 122, 123, 124, 125, 126, 127, 128, 129, 130, 131, 132, 133, 134] (by decide +kernel) (by decide +kernel)
set_option maxRecDepth 20000 in
theorem gX10_even_X10_hasNoHedge : GoodIn wsX10_even (wsV RX10 176 RX10 yX10_hasNoHedge wsX10_hasNoHedge) := goodIn_app (goodIn_of _ (by decide +kernel)) ggX10_even_X10_hasNoHedge
set_option maxRecDepth 20000 in
theorem ggX10_even_X10_chart : GoodIn wsX10_even wsX10_chart := goodIn_r _ [11, 12, 7, 13, 14, 15, 16, 17, 18, 19, 20, 21, 22, 23, 24, 25, 26, 27, 28, 29, 30, 31, 32, 33, 34, 35, 36, 37, 38, 39, 40, 41, 5, 42, 43, 44, 45, 46, 47, 48, 49, 50, 51, 52, 53, 54, 55, 56, 57, 58, 59, 60, 61, 62, 63, 64, 65, 66, 67, 68, 69, 70, 71, 72, 73, 74, 75, 76, 77, 78, 79, 80, 81, 82, 83, 84, 85, 86, 87, 88, 89, 90, 91, 92, 93, 94, 95, 96, 97, 98, 99, 100, 101, 102, 103, 104, 105, 116, 117, 118, 119, 120, 121, 122, 123, 124, 125, 126, 127, 128, 129, 130, 131, 132, 133, 134, 135, 136, 137, 138, 139, 140, 141, 142, 143, 144, 145, 146, 147, 148, 149, 150] (by decide +kernel) (by decide +kernel)
set_option maxRecDepth 20000 in
theorem gX10_even_X10_chart : GoodIn wsX10_even (wsV RX10 145 RX10 yX10_chart wsX10_chart) := goodIn_app (goodIn_of _ (by decide +kernel)) ggX10_even_X10_chart
set_option maxRecDepth 20000 in
theorem ggX10_even_X10_evenBy : GoodIn wsX10_even wsX10_evenBy := goodIn_r _ [109, 110, 14, 7, 111, 66, 67, 32, 68, 35, 69, 41, 5, 42, 112, 113, 114, 115, 116, 117, 118, 119, 120, 121, 122, 123, 124, 125, 126, 127, 128, 129, 137, 138, 139, 140, 141, 130, 131, 132, 133, 134, 142, 143] (by decide +kernel) (by decide +kernel)
set_option maxRecDepth 20000 in
theorem gX10_even_X10_evenBy : GoodIn wsX10_even (wsV RX10 197 RX10 yX10_evenBy wsX10_evenBy) := goodIn_app (goodIn_of _ (by decide +kernel)) ggX10_even_X10_evenBy
theorem dX10_even_0 : decode cX10_even 0 = .ok (.aload_n 0, 1) := by decide +kernel
theorem dX10_even_1 : decode cX10_even 1 = .ok (.invokevirtual 176, 3) := by decide +kernel
theorem dX10_even_4 : decode cX10_even 4 = .ok (.ifCond .ne 12, 3) := by decide +kernel
theorem dX10_even_7 : decode cX10_even 7 = .ok (.aload_n 0, 1) := by decide +kernel
theorem dX10_even_8 : decode cX10_even 8 = .ok (.getfield 92, 3) := by decide +kernel
theorem dX10_even_11 : decode cX10_even 11 = .ok (.bipush 30, 2) := by decide +kernel
theorem dX10_even_13 : decode cX10_even 13 = .ok (.if_icmp .lt 6, 3) := by decide +kernel
theorem dX10_even_16 : decode cX10_even 16 = .ok (.bipush (-103), 2) := by decide +kernel
theorem dX10_even_18 : decode cX10_even 18 = .ok (.ireturn, 1) := by decide +kernel
theorem dX10_even_19 : decode cX10_even 19 = .ok (.aload_n 0, 1) := by decide +kernel
theorem dX10_even_20 : decode cX10_even 20 = .ok (.dup, 1) := by decide +kernel
theorem dX10_even_21 : decode cX10_even 21 = .ok (.getfield 92, 3) := by decide +kernel
theorem dX10_even_24 : decode cX10_even 24 = .ok (.iconst 1, 1) := by decide +kernel
theorem dX10_even_25 : decode cX10_even 25 = .ok (.iadd, 1) := by decide +kernel
theorem dX10_even_26 : decode cX10_even 26 = .ok (.putfield 92, 3) := by decide +kernel
theorem dX10_even_29 : decode cX10_even 29 = .ok (.aload_n 0, 1) := by decide +kernel
theorem dX10_even_30 : decode cX10_even 30 = .ok (.invokevirtual 145, 3) := by decide +kernel
theorem dX10_even_33 : decode cX10_even 33 = .ok (.aload_n 0, 1) := by decide +kernel
theorem dX10_even_34 : decode cX10_even 34 = .ok (.invokevirtual 197, 3) := by decide +kernel
theorem dX10_even_37 : decode cX10_even 37 = .ok (.ireturn, 1) := by decide +kernel
set_option maxRecDepth 20000 in
theorem ggX10_likely_X10_isNoSide : GoodIn wsX10_likely wsX10_isNoSide := goodIn_r _ [6] (by decide +kernel) (by decide +kernel)
set_option maxRecDepth 20000 in
theorem gX10_likely_X10_isNoSide : GoodIn wsX10_likely (va_wsS RX10 179 yX10_isNoSide wsX10_isNoSide) := goodIn_app (goodIn_of _ (by decide +kernel)) ggX10_likely_X10_isNoSide
set_option maxRecDepth 20000 in
theorem ggX10_likely_X10_hasNoHedge : GoodIn wsX10_likely wsX10_hasNoHedge := goodIn_r _ [10, 11, 114, 115, 116, 117, 118, 119, 120, 121, 122, 123, 124, 125, 126, 127, 133, 134, 135, 136, 137] (by decide +kernel) (by decide +kernel)
set_option maxRecDepth 20000 in
theorem gX10_likely_X10_hasNoHedge : GoodIn wsX10_likely (wsV RX10 176 RX10 yX10_hasNoHedge wsX10_hasNoHedge) := goodIn_app (goodIn_of _ (by decide +kernel)) ggX10_likely_X10_hasNoHedge
set_option maxRecDepth 20000 in
theorem ggX10_likely_X10_chart : GoodIn wsX10_likely wsX10_chart := goodIn_r _ [15, 16, 11, 17, 18, 19, 20, 1, 21, 22, 23, 24, 25, 26, 27, 28, 29, 30, 31, 32, 33, 34, 35, 36, 37, 38, 39, 40, 41, 42, 43, 44, 5, 45, 46, 47, 48, 49, 50, 51, 52, 53, 54, 55, 56, 57, 58, 59, 60, 61, 62, 63, 64, 65, 66, 67, 68, 69, 70, 71, 72, 73, 74, 75, 76, 77, 78, 79, 80, 81, 82, 83, 84, 85, 86, 87, 88, 89, 90, 91, 92, 93, 94, 95, 96, 97, 98, 99, 100, 101, 102, 103, 104, 105, 106, 107, 108, 114, 115, 116, 117, 118, 119, 120, 121, 122, 123, 124, 125, 126, 127, 133, 134, 135, 136, 137, 138, 139, 128, 129, 130, 131, 132, 140, 141, 142, 143, 144, 145, 146, 147, 148] (by decide +kernel) (by decide +kernel)
set_option maxRecDepth 20000 in
theorem gX10_likely_X10_chart : GoodIn wsX10_likely (wsV RX10 145 RX10 yX10_chart wsX10_chart) := goodIn_app (goodIn_of _ (by decide +kernel)) ggX10_likely_X10_chart
set_option maxRecDepth 20000 in
theorem ggX10_likely_X0_millionths : GoodIn wsX10_likely wsX0_millionths := goodIn_r _ [112, 98, 113, 99, 44, 5, 45, 147, 148] (by decide +kernel) (by decide +kernel)
set_option maxRecDepth 20000 in
theorem gX10_likely_X0_millionths : GoodIn wsX10_likely (wsV RX10 200 RX0 yX0_millionths wsX0_millionths) := goodIn_app (goodIn_of _ (by decide +kernel)) ggX10_likely_X0_millionths
theorem dX10_likely_0 : decode cX10_likely 0 = .ok (.iload_n 1, 1) := by decide +kernel
theorem dX10_likely_1 : decode cX10_likely 1 = .ok (.invokestatic 179, 3) := by decide +kernel
theorem dX10_likely_4 : decode cX10_likely 4 = .ok (.ifCond .eq 6, 3) := by decide +kernel
theorem dX10_likely_7 : decode cX10_likely 7 = .ok (.bipush (-102), 2) := by decide +kernel
theorem dX10_likely_9 : decode cX10_likely 9 = .ok (.ireturn, 1) := by decide +kernel
theorem dX10_likely_10 : decode cX10_likely 10 = .ok (.aload_n 0, 1) := by decide +kernel
theorem dX10_likely_11 : decode cX10_likely 11 = .ok (.invokevirtual 176, 3) := by decide +kernel
theorem dX10_likely_14 : decode cX10_likely 14 = .ok (.ifCond .eq 6, 3) := by decide +kernel
theorem dX10_likely_17 : decode cX10_likely 17 = .ok (.bipush (-103), 2) := by decide +kernel
theorem dX10_likely_19 : decode cX10_likely 19 = .ok (.ireturn, 1) := by decide +kernel
theorem dX10_likely_20 : decode cX10_likely 20 = .ok (.aload_n 0, 1) := by decide +kernel
theorem dX10_likely_21 : decode cX10_likely 21 = .ok (.invokevirtual 145, 3) := by decide +kernel
theorem dX10_likely_24 : decode cX10_likely 24 = .ok (.aload_n 0, 1) := by decide +kernel
theorem dX10_likely_25 : decode cX10_likely 25 = .ok (.getfield 70, 3) := by decide +kernel
theorem dX10_likely_28 : decode cX10_likely 28 = .ok (.iload_n 1, 1) := by decide +kernel
theorem dX10_likely_29 : decode cX10_likely 29 = .ok (.aload_n 0, 1) := by decide +kernel
theorem dX10_likely_30 : decode cX10_likely 30 = .ok (.getfield 26, 3) := by decide +kernel
theorem dX10_likely_33 : decode cX10_likely 33 = .ok (.getfield 135, 3) := by decide +kernel
theorem dX10_likely_36 : decode cX10_likely 36 = .ok (.invokevirtual 200, 3) := by decide +kernel
theorem dX10_likely_39 : decode cX10_likely 39 = .ok (.ireturn, 1) := by decide +kernel
set_option maxRecDepth 20000 in
theorem ggX10_see_X10_isUnknown : GoodIn wsX10_see wsX10_isUnknown := goodIn_r _ [6, 7, 20, 21, 22, 23, 24, 25, 26, 27, 28, 29, 30, 31, 32, 33, 43, 44, 45, 46, 47] (by decide +kernel) (by decide +kernel)
set_option maxRecDepth 20000 in
theorem gX10_see_X10_isUnknown : GoodIn wsX10_see (wsV RX10 124 RX10 yX10_isUnknown wsX10_isUnknown) := goodIn_app (goodIn_of _ (by decide +kernel)) ggX10_see_X10_isUnknown
set_option maxRecDepth 20000 in
theorem ggX10_see_X10_isNoSide : GoodIn wsX10_see wsX10_isNoSide := goodIn_r _ [10] (by decide +kernel) (by decide +kernel)
set_option maxRecDepth 20000 in
theorem gX10_see_X10_isNoSide : GoodIn wsX10_see (va_wsS RX10 179 yX10_isNoSide wsX10_isNoSide) := goodIn_app (goodIn_of _ (by decide +kernel)) ggX10_see_X10_isNoSide
set_option maxRecDepth 20000 in
theorem ggX10_see_X7_add : GoodIn wsX10_see wsX7_add := goodIn_r _ [15, 16, 17, 18, 19, 39, 40, 41, 42] (by decide +kernel) (by decide +kernel)
set_option maxRecDepth 20000 in
theorem gX10_see_X7_add : GoodIn wsX10_see (wsV RX10 211 RX7 yX7_add wsX7_add) := goodIn_app (goodIn_of _ (by decide +kernel)) ggX10_see_X7_add
theorem dX10_see_0 : decode cX10_see 0 = .ok (.aload_n 0, 1) := by decide +kernel
theorem dX10_see_1 : decode cX10_see 1 = .ok (.iload_n 1, 1) := by decide +kernel
theorem dX10_see_2 : decode cX10_see 2 = .ok (.invokevirtual 124, 3) := by decide +kernel
theorem dX10_see_5 : decode cX10_see 5 = .ok (.ifCond .eq 6, 3) := by decide +kernel
theorem dX10_see_8 : decode cX10_see 8 = .ok (.bipush (-101), 2) := by decide +kernel
theorem dX10_see_10 : decode cX10_see 10 = .ok (.ireturn, 1) := by decide +kernel
theorem dX10_see_11 : decode cX10_see 11 = .ok (.iload_n 2, 1) := by decide +kernel
theorem dX10_see_12 : decode cX10_see 12 = .ok (.invokestatic 179, 3) := by decide +kernel
theorem dX10_see_15 : decode cX10_see 15 = .ok (.ifCond .eq 6, 3) := by decide +kernel
theorem dX10_see_18 : decode cX10_see 18 = .ok (.bipush (-102), 2) := by decide +kernel
theorem dX10_see_20 : decode cX10_see 20 = .ok (.ireturn, 1) := by decide +kernel
theorem dX10_see_21 : decode cX10_see 21 = .ok (.aload_n 0, 1) := by decide +kernel
theorem dX10_see_22 : decode cX10_see 22 = .ok (.getfield 26, 3) := by decide +kernel
theorem dX10_see_25 : decode cX10_see 25 = .ok (.getfield 203, 3) := by decide +kernel
theorem dX10_see_28 : decode cX10_see 28 = .ok (.getfield 207, 3) := by decide +kernel
theorem dX10_see_31 : decode cX10_see 31 = .ok (.bipush 6, 2) := by decide +kernel
theorem dX10_see_33 : decode cX10_see 33 = .ok (.if_icmp .lt 6, 3) := by decide +kernel
theorem dX10_see_36 : decode cX10_see 36 = .ok (.bipush (-104), 2) := by decide +kernel
theorem dX10_see_38 : decode cX10_see 38 = .ok (.ireturn, 1) := by decide +kernel
theorem dX10_see_39 : decode cX10_see 39 = .ok (.aload_n 0, 1) := by decide +kernel
theorem dX10_see_40 : decode cX10_see 40 = .ok (.getfield 26, 3) := by decide +kernel
theorem dX10_see_43 : decode cX10_see 43 = .ok (.getfield 203, 3) := by decide +kernel
theorem dX10_see_46 : decode cX10_see 46 = .ok (.iload_n 1, 1) := by decide +kernel
theorem dX10_see_47 : decode cX10_see 47 = .ok (.iload_n 2, 1) := by decide +kernel
theorem dX10_see_48 : decode cX10_see 48 = .ok (.iload_n 3, 1) := by decide +kernel
theorem dX10_see_49 : decode cX10_see 49 = .ok (.invokevirtual 211, 3) := by decide +kernel
theorem dX10_see_52 : decode cX10_see 52 = .ok (.aload_n 0, 1) := by decide +kernel
theorem dX10_see_53 : decode cX10_see 53 = .ok (.getfield 26, 3) := by decide +kernel
theorem dX10_see_56 : decode cX10_see 56 = .ok (.getfield 203, 3) := by decide +kernel
theorem dX10_see_59 : decode cX10_see 59 = .ok (.getfield 207, 3) := by decide +kernel
theorem dX10_see_62 : decode cX10_see 62 = .ok (.ireturn, 1) := by decide +kernel
theorem dX10_forget_0 : decode cX10_forget 0 = .ok (.aload_n 0, 1) := by decide +kernel
theorem dX10_forget_1 : decode cX10_forget 1 = .ok (.getfield 26, 3) := by decide +kernel
theorem dX10_forget_4 : decode cX10_forget 4 = .ok (.getfield 203, 3) := by decide +kernel
theorem dX10_forget_7 : decode cX10_forget 7 = .ok (.getfield 207, 3) := by decide +kernel
theorem dX10_forget_10 : decode cX10_forget 10 = .ok (.istore_n 1, 1) := by decide +kernel
theorem dX10_forget_11 : decode cX10_forget 11 = .ok (.aload_n 0, 1) := by decide +kernel
theorem dX10_forget_12 : decode cX10_forget 12 = .ok (.getfield 26, 3) := by decide +kernel
theorem dX10_forget_15 : decode cX10_forget 15 = .ok (.getfield 203, 3) := by decide +kernel
theorem dX10_forget_18 : decode cX10_forget 18 = .ok (.iconst 0, 1) := by decide +kernel
theorem dX10_forget_19 : decode cX10_forget 19 = .ok (.putfield 207, 3) := by decide +kernel
theorem dX10_forget_22 : decode cX10_forget 22 = .ok (.iload_n 1, 1) := by decide +kernel
theorem dX10_forget_23 : decode cX10_forget 23 = .ok (.ireturn, 1) := by decide +kernel
set_option maxRecDepth 20000 in
theorem ggX10_games_X10_hasNoHedge : GoodIn wsX10_games wsX10_hasNoHedge := goodIn_r _ [7, 8, 56, 57, 58, 59, 60, 61, 62, 63, 64, 65, 66, 67, 68, 69, 79, 80, 81, 82, 83] (by decide +kernel) (by decide +kernel)
set_option maxRecDepth 20000 in
theorem gX10_games_X10_hasNoHedge : GoodIn wsX10_games (wsV RX10 176 RX10 yX10_hasNoHedge wsX10_hasNoHedge) := goodIn_app (goodIn_of _ (by decide +kernel)) ggX10_games_X10_hasNoHedge
set_option maxRecDepth 20000 in
theorem ggX10_games_X2_playAll : GoodIn wsX10_games wsX2_playAll := goodIn_r _ [13, 14, 15, 16, 17, 18, 19, 12, 20, 21, 22, 23, 24, 25, 26, 27, 28, 29, 30, 31, 32, 33, 34, 35, 36, 37, 38, 39, 40, 41, 42, 43, 44, 45, 46, 47, 48, 49, 50, 51, 52, 53, 54, 55, 75, 76, 77, 78, 84, 85, 79, 80, 81, 82, 83, 70, 71, 72, 73, 74] (by decide +kernel) (by decide +kernel)
set_option maxRecDepth 20000 in
theorem gX10_games_X2_playAll : GoodIn wsX10_games (wsV RX10 214 RX2 yX2_playAll wsX2_playAll) := goodIn_app (goodIn_of _ (by decide +kernel)) ggX10_games_X2_playAll
theorem dX10_games_0 : decode cX10_games 0 = .ok (.iload_n 1, 1) := by decide +kernel
theorem dX10_games_1 : decode cX10_games 1 = .ok (.iconst 1, 1) := by decide +kernel
theorem dX10_games_2 : decode cX10_games 2 = .ok (.if_icmp .lt 22, 3) := by decide +kernel
theorem dX10_games_5 : decode cX10_games 5 = .ok (.iload_n 1, 1) := by decide +kernel
theorem dX10_games_6 : decode cX10_games 6 = .ok (.bipush 40, 2) := by decide +kernel
theorem dX10_games_8 : decode cX10_games 8 = .ok (.if_icmp .gt 16, 3) := by decide +kernel
theorem dX10_games_11 : decode cX10_games 11 = .ok (.iload_n 2, 1) := by decide +kernel
theorem dX10_games_12 : decode cX10_games 12 = .ok (.ifCond .lt 12, 3) := by decide +kernel
theorem dX10_games_15 : decode cX10_games 15 = .ok (.iload_n 3, 1) := by decide +kernel
theorem dX10_games_16 : decode cX10_games 16 = .ok (.ifCond .lt 8, 3) := by decide +kernel
theorem dX10_games_19 : decode cX10_games 19 = .ok (.iload_n 3, 1) := by decide +kernel
theorem dX10_games_20 : decode cX10_games 20 = .ok (.iconst 3, 1) := by decide +kernel
theorem dX10_games_21 : decode cX10_games 21 = .ok (.if_icmp .lt 6, 3) := by decide +kernel
theorem dX10_games_24 : decode cX10_games 24 = .ok (.bipush (-102), 2) := by decide +kernel
theorem dX10_games_26 : decode cX10_games 26 = .ok (.ireturn, 1) := by decide +kernel
theorem dX10_games_27 : decode cX10_games 27 = .ok (.aload_n 0, 1) := by decide +kernel
theorem dX10_games_28 : decode cX10_games 28 = .ok (.invokevirtual 176, 3) := by decide +kernel
theorem dX10_games_31 : decode cX10_games 31 = .ok (.ifCond .eq 6, 3) := by decide +kernel
theorem dX10_games_34 : decode cX10_games 34 = .ok (.bipush (-103), 2) := by decide +kernel
theorem dX10_games_36 : decode cX10_games 36 = .ok (.ireturn, 1) := by decide +kernel
theorem dX10_games_37 : decode cX10_games 37 = .ok (.aload_n 0, 1) := by decide +kernel
theorem dX10_games_38 : decode cX10_games 38 = .ok (.getfield 77, 3) := by decide +kernel
theorem dX10_games_41 : decode cX10_games 41 = .ok (.iload_n 1, 1) := by decide +kernel
theorem dX10_games_42 : decode cX10_games 42 = .ok (.iload_n 2, 1) := by decide +kernel
theorem dX10_games_43 : decode cX10_games 43 = .ok (.aload_n 0, 1) := by decide +kernel
theorem dX10_games_44 : decode cX10_games 44 = .ok (.getfield 26, 3) := by decide +kernel
theorem dX10_games_47 : decode cX10_games 47 = .ok (.getfield 135, 3) := by decide +kernel
