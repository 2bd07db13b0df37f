theorem dX10_games_50 : decode cX10_games 50 = .ok (.invokevirtual 214, 3) := by decide +kernel
theorem dX10_games_53 : decode cX10_games 53 = .ok (.iload_n 3, 1) := by decide +kernel
theorem dX10_games_54 : decode cX10_games 54 = .ok (.lookupswitch 42 #[(0, 26), (1, 34)], 26) := by decide +kernel
theorem dX10_games_80 : decode cX10_games 80 = .ok (.aload_n 0, 1) := by decide +kernel
theorem dX10_games_81 : decode cX10_games 81 = .ok (.getfield 77, 3) := by decide +kernel
theorem dX10_games_84 : decode cX10_games 84 = .ok (.getfield 218, 3) := by decide +kernel
theorem dX10_games_87 : decode cX10_games 87 = .ok (.ireturn, 1) := by decide +kernel
theorem dX10_games_88 : decode cX10_games 88 = .ok (.aload_n 0, 1) := by decide +kernel
theorem dX10_games_89 : decode cX10_games 89 = .ok (.getfield 77, 3) := by decide +kernel
theorem dX10_games_92 : decode cX10_games 92 = .ok (.getfield 221, 3) := by decide +kernel
theorem dX10_games_95 : decode cX10_games 95 = .ok (.ireturn, 1) := by decide +kernel
theorem dX10_games_96 : decode cX10_games 96 = .ok (.aload_n 0, 1) := by decide +kernel
theorem dX10_games_97 : decode cX10_games 97 = .ok (.getfield 77, 3) := by decide +kernel
theorem dX10_games_100 : decode cX10_games 100 = .ok (.getfield 224, 3) := by decide +kernel
theorem dX10_games_103 : decode cX10_games 103 = .ok (.ireturn, 1) := by decide +kernel
set_option maxRecDepth 20000 in
theorem ggX10_image_X10_hasNoHedge : GoodIn wsX10_image wsX10_hasNoHedge := goodIn_r _ [8, 9, 33, 34, 35, 36, 37, 38, 39, 40, 41, 42, 43, 44, 45, 46, 52, 53, 54, 55, 56] (by decide +kernel) (by decide +kernel)
set_option maxRecDepth 20000 in
theorem gX10_image_X10_hasNoHedge : GoodIn wsX10_image (wsV RX10 176 RX10 yX10_hasNoHedge wsX10_hasNoHedge) := goodIn_app (goodIn_of _ (by decide +kernel)) ggX10_image_X10_hasNoHedge
set_option maxRecDepth 20000 in
theorem ggX10_image_X3_copyFrom : GoodIn wsX10_image wsX3_copyFrom := goodIn_r _ [14, 15, 16, 17, 18, 19, 20, 21, 22, 23, 24, 25, 26, 27, 28, 29, 30, 31, 32, 47, 48, 49, 50, 51, 57, 58, 59, 60] (by decide +kernel) (by decide +kernel)
set_option maxRecDepth 20000 in
theorem gX10_image_X3_copyFrom : GoodIn wsX10_image (wsV RX10 227 RX3 yX3_copyFrom wsX3_copyFrom) := goodIn_app (goodIn_of _ (by decide +kernel)) ggX10_image_X3_copyFrom
theorem dX10_image_0 : decode cX10_image 0 = .ok (.aload_n 0, 1) := by decide +kernel
theorem dX10_image_1 : decode cX10_image 1 = .ok (.invokevirtual 176, 3) := by decide +kernel
theorem dX10_image_4 : decode cX10_image 4 = .ok (.ifCond .eq 6, 3) := by decide +kernel
theorem dX10_image_7 : decode cX10_image 7 = .ok (.bipush (-103), 2) := by decide +kernel
theorem dX10_image_9 : decode cX10_image 9 = .ok (.ireturn, 1) := by decide +kernel
theorem dX10_image_10 : decode cX10_image 10 = .ok (.aload_n 0, 1) := by decide +kernel
theorem dX10_image_11 : decode cX10_image 11 = .ok (.getfield 30, 3) := by decide +kernel
theorem dX10_image_14 : decode cX10_image 14 = .ok (.aload_n 0, 1) := by decide +kernel
theorem dX10_image_15 : decode cX10_image 15 = .ok (.getfield 26, 3) := by decide +kernel
theorem dX10_image_18 : decode cX10_image 18 = .ok (.invokevirtual 227, 3) := by decide +kernel
theorem dX10_image_21 : decode cX10_image 21 = .ok (.aload_n 0, 1) := by decide +kernel
theorem dX10_image_22 : decode cX10_image 22 = .ok (.iconst 1, 1) := by decide +kernel
theorem dX10_image_23 : decode cX10_image 23 = .ok (.putfield 85, 3) := by decide +kernel
theorem dX10_image_26 : decode cX10_image 26 = .ok (.aload_n 0, 1) := by decide +kernel
theorem dX10_image_27 : decode cX10_image 27 = .ok (.getfield 26, 3) := by decide +kernel
theorem dX10_image_30 : decode cX10_image 30 = .ok (.getfield 161, 3) := by decide +kernel
theorem dX10_image_33 : decode cX10_image 33 = .ok (.ireturn, 1) := by decide +kernel
set_option maxRecDepth 20000 in
theorem ggX10_restore_X3_copyFrom : GoodIn wsX10_restore wsX3_copyFrom := goodIn_r _ [9, 10, 11, 12, 13, 14, 15, 16, 17, 18, 19, 20, 21, 22, 23, 24, 25, 26, 27, 42, 43, 44, 45, 46, 47, 48, 49, 50] (by decide +kernel) (by decide +kernel)
set_option maxRecDepth 20000 in
theorem gX10_restore_X3_copyFrom : GoodIn wsX10_restore (wsV RX10 227 RX3 yX3_copyFrom wsX3_copyFrom) := goodIn_app (goodIn_of _ (by decide +kernel)) ggX10_restore_X3_copyFrom
theorem dX10_restore_0 : decode cX10_restore 0 = .ok (.aload_n 0, 1) := by decide +kernel
theorem dX10_restore_1 : decode cX10_restore 1 = .ok (.getfield 85, 3) := by decide +kernel
theorem dX10_restore_4 : decode cX10_restore 4 = .ok (.ifCond .ne 6, 3) := by decide +kernel
theorem dX10_restore_7 : decode cX10_restore 7 = .ok (.bipush (-103), 2) := by decide +kernel
theorem dX10_restore_9 : decode cX10_restore 9 = .ok (.ireturn, 1) := by decide +kernel
theorem dX10_restore_10 : decode cX10_restore 10 = .ok (.aload_n 0, 1) := by decide +kernel
theorem dX10_restore_11 : decode cX10_restore 11 = .ok (.getfield 26, 3) := by decide +kernel
theorem dX10_restore_14 : decode cX10_restore 14 = .ok (.aload_n 0, 1) := by decide +kernel
theorem dX10_restore_15 : decode cX10_restore 15 = .ok (.getfield 30, 3) := by decide +kernel
theorem dX10_restore_18 : decode cX10_restore 18 = .ok (.invokevirtual 227, 3) := by decide +kernel
theorem dX10_restore_21 : decode cX10_restore 21 = .ok (.aload_n 0, 1) := by decide +kernel
theorem dX10_restore_22 : decode cX10_restore 22 = .ok (.iconst 0, 1) := by decide +kernel
theorem dX10_restore_23 : decode cX10_restore 23 = .ok (.putfield 81, 3) := by decide +kernel
theorem dX10_restore_26 : decode cX10_restore 26 = .ok (.aload_n 0, 1) := by decide +kernel
theorem dX10_restore_27 : decode cX10_restore 27 = .ok (.getfield 26, 3) := by decide +kernel
theorem dX10_restore_30 : decode cX10_restore 30 = .ok (.getfield 161, 3) := by decide +kernel
theorem dX10_restore_33 : decode cX10_restore 33 = .ok (.ireturn, 1) := by decide +kernel
set_option maxRecDepth 20000 in
theorem ggX10_count_J6_bitCount_0f7a4 : GoodIn wsX10_count wsJ6_bitCount_0f7a4 := goodIn_r _ [10, 11, 12, 13] (by decide +kernel) (by decide +kernel)
set_option maxRecDepth 20000 in
theorem gX10_count_J6_bitCount_0f7a4 : GoodIn wsX10_count (va_wsS RX10 164 yJ6_bitCount_0f7a4 wsJ6_bitCount_0f7a4) := goodIn_app (goodIn_of _ (by decide +kernel)) ggX10_count_J6_bitCount_0f7a4
set_option maxRecDepth 20000 in
theorem ggX10_count_X6_choices : GoodIn wsX10_count wsX6_choices := goodIn_r _ [18, 19, 20, 21, 22, 23, 17, 24, 66, 67, 52, 53, 54, 55, 56, 57, 58, 59, 60, 61] (by decide +kernel) (by decide +kernel)
set_option maxRecDepth 20000 in
theorem gX10_count_X6_choices : GoodIn wsX10_count (wsV RX10 138 RX6 yX6_choices wsX6_choices) := goodIn_app (goodIn_of _ (by decide +kernel)) ggX10_count_X6_choices
set_option maxRecDepth 20000 in
theorem ggX10_count_X8_onTheGround : GoodIn wsX10_count wsX8_onTheGround := goodIn_r _ [29, 30, 31, 52, 53, 54, 55, 56] (by decide +kernel) (by decide +kernel)
set_option maxRecDepth 20000 in
theorem gX10_count_X8_onTheGround : GoodIn wsX10_count (wsV RX10 231 RX8 yX8_onTheGround wsX8_onTheGround) := goodIn_app (goodIn_of _ (by decide +kernel)) ggX10_count_X8_onTheGround
set_option maxRecDepth 20000 in
theorem ggX10_count_X5_size : GoodIn wsX10_count wsX5_size := goodIn_r _ [36, 37, 68, 69] (by decide +kernel) (by decide +kernel)
set_option maxRecDepth 20000 in
theorem gX10_count_X5_size : GoodIn wsX10_count (wsV RX10 95 RX5 yX5_size wsX5_size) := goodIn_app (goodIn_of _ (by decide +kernel)) ggX10_count_X5_size
theorem dX10_count_0 : decode cX10_count 0 = .ok (.iload_n 1, 1) := by decide +kernel
theorem dX10_count_1 : decode cX10_count 1 = .ok (.tableswitch 169 0 10 #[59, 67, 78, 86, 94, 113, 132, 140, 151, 159, 164], 59) := by decide +kernel
theorem dX10_count_60 : decode cX10_count 60 = .ok (.aload_n 0, 1) := by decide +kernel
theorem dX10_count_61 : decode cX10_count 61 = .ok (.getfield 19, 3) := by decide +kernel
theorem dX10_count_64 : decode cX10_count 64 = .ok (.getfield 117, 3) := by decide +kernel
theorem dX10_count_67 : decode cX10_count 67 = .ok (.ireturn, 1) := by decide +kernel
theorem dX10_count_68 : decode cX10_count 68 = .ok (.aload_n 0, 1) := by decide +kernel
theorem dX10_count_69 : decode cX10_count 69 = .ok (.getfield 26, 3) := by decide +kernel
theorem dX10_count_72 : decode cX10_count 72 = .ok (.getfield 135, 3) := by decide +kernel
theorem dX10_count_75 : decode cX10_count 75 = .ok (.invokestatic 164, 3) := by decide +kernel
theorem dX10_count_78 : decode cX10_count 78 = .ok (.ireturn, 1) := by decide +kernel
theorem dX10_count_79 : decode cX10_count 79 = .ok (.aload_n 0, 1) := by decide +kernel
theorem dX10_count_80 : decode cX10_count 80 = .ok (.getfield 26, 3) := by decide +kernel
theorem dX10_count_83 : decode cX10_count 83 = .ok (.getfield 158, 3) := by decide +kernel
theorem dX10_count_86 : decode cX10_count 86 = .ok (.ireturn, 1) := by decide +kernel
theorem dX10_count_87 : decode cX10_count 87 = .ok (.aload_n 0, 1) := by decide +kernel
theorem dX10_count_88 : decode cX10_count 88 = .ok (.getfield 26, 3) := by decide +kernel
theorem dX10_count_91 : decode cX10_count 91 = .ok (.getfield 161, 3) := by decide +kernel
theorem dX10_count_94 : decode cX10_count 94 = .ok (.ireturn, 1) := by decide +kernel
theorem dX10_count_95 : decode cX10_count 95 = .ok (.aload_n 0, 1) := by decide +kernel
theorem dX10_count_96 : decode cX10_count 96 = .ok (.getfield 38, 3) := by decide +kernel
theorem dX10_count_99 : decode cX10_count 99 = .ok (.iconst 0, 1) := by decide +kernel
theorem dX10_count_100 : decode cX10_count 100 = .ok (.aload_n 0, 1) := by decide +kernel
theorem dX10_count_101 : decode cX10_count 101 = .ok (.getfield 26, 3) := by decide +kernel
theorem dX10_count_104 : decode cX10_count 104 = .ok (.getfield 135, 3) := by decide +kernel
theorem dX10_count_107 : decode cX10_count 107 = .ok (.invokevirtual 138, 3) := by decide +kernel
theorem dX10_count_110 : decode cX10_count 110 = .ok (.invokestatic 164, 3) := by decide +kernel
theorem dX10_count_113 : decode cX10_count 113 = .ok (.ireturn, 1) := by decide +kernel
theorem dX10_count_114 : decode cX10_count 114 = .ok (.aload_n 0, 1) := by decide +kernel
theorem dX10_count_115 : decode cX10_count 115 = .ok (.getfield 38, 3) := by decide +kernel
theorem dX10_count_118 : decode cX10_count 118 = .ok (.iconst 1, 1) := by decide +kernel
theorem dX10_count_119 : decode cX10_count 119 = .ok (.aload_n 0, 1) := by decide +kernel
theorem dX10_count_120 : decode cX10_count 120 = .ok (.getfield 26, 3) := by decide +kernel
theorem dX10_count_123 : decode cX10_count 123 = .ok (.getfield 135, 3) := by decide +kernel
theorem dX10_count_126 : decode cX10_count 126 = .ok (.invokevirtual 138, 3) := by decide +kernel
theorem dX10_count_129 : decode cX10_count 129 = .ok (.invokestatic 164, 3) := by decide +kernel
theorem dX10_count_132 : decode cX10_count 132 = .ok (.ireturn, 1) := by decide +kernel
theorem dX10_count_133 : decode cX10_count 133 = .ok (.aload_n 0, 1) := by decide +kernel
theorem dX10_count_134 : decode cX10_count 134 = .ok (.getfield 19, 3) := by decide +kernel
theorem dX10_count_137 : decode cX10_count 137 = .ok (.invokevirtual 231, 3) := by decide +kernel
theorem dX10_count_140 : decode cX10_count 140 = .ok (.ireturn, 1) := by decide +kernel
theorem dX10_count_141 : decode cX10_count 141 = .ok (.aload_n 0, 1) := by decide +kernel
theorem dX10_count_142 : decode cX10_count 142 = .ok (.getfield 26, 3) := by decide +kernel
theorem dX10_count_145 : decode cX10_count 145 = .ok (.getfield 203, 3) := by decide +kernel
theorem dX10_count_148 : decode cX10_count 148 = .ok (.getfield 207, 3) := by decide +kernel
theorem dX10_count_151 : decode cX10_count 151 = .ok (.ireturn, 1) := by decide +kernel
theorem dX10_count_152 : decode cX10_count 152 = .ok (.aload_n 0, 1) := by decide +kernel
theorem dX10_count_153 : decode cX10_count 153 = .ok (.getfield 10, 3) := by decide +kernel
theorem dX10_count_156 : decode cX10_count 156 = .ok (.invokevirtual 95, 3) := by decide +kernel
theorem dX10_count_159 : decode cX10_count 159 = .ok (.ireturn, 1) := by decide +kernel
theorem dX10_count_160 : decode cX10_count 160 = .ok (.aload_n 0, 1) := by decide +kernel
theorem dX10_count_161 : decode cX10_count 161 = .ok (.getfield 88, 3) := by decide +kernel
theorem dX10_count_164 : decode cX10_count 164 = .ok (.ireturn, 1) := by decide +kernel
theorem dX10_count_165 : decode cX10_count 165 = .ok (.aload_n 0, 1) := by decide +kernel
theorem dX10_count_166 : decode cX10_count 166 = .ok (.getfield 92, 3) := by decide +kernel
theorem dX10_count_169 : decode cX10_count 169 = .ok (.ireturn, 1) := by decide +kernel
theorem dX10_count_170 : decode cX10_count 170 = .ok (.bipush (-102), 2) := by decide +kernel
theorem dX10_count_172 : decode cX10_count 172 = .ok (.ireturn, 1) := by decide +kernel
set_option maxRecDepth 20000 in
theorem ggX10_digest_X10_branch : GoodIn wsX10_digest wsX10_branch := goodIn_r _ [9, 10, 2, 11, 12, 13, 14, 8, 15, 16, 17, 18, 19, 20, 21, 22, 23, 24, 25, 26, 27, 28, 29, 30, 31, 32, 33, 34, 35, 36, 37, 38, 39, 40, 41, 42, 43, 44, 45, 46, 47, 48, 49, 50, 51, 52, 53, 54, 55, 56, 57, 58, 59, 60, 61, 62, 63, 64, 65, 66, 67, 68, 69, 70, 71, 72, 73, 74, 75, 76, 77, 78, 79, 80, 81, 82, 83, 84, 85, 86, 87, 88, 89, 90, 91, 92, 93, 94, 95, 96, 97, 98, 99, 100, 101, 102, 103, 104, 105, 106, 107, 108, 109, 110, 111, 112, 113, 114, 115, 116, 117, 118, 119, 120, 121, 122, 123, 124, 125, 126, 127, 128, 129, 213, 214, 215, 216, 217, 218, 219, 220, 221, 222, 223, 224, 225, 226, 232, 233, 234, 235, 236, 227, 228, 229, 230, 231, 237, 238, 239, 240, 241, 242, 243, 244, 245, 246, 247, 248, 249, 250, 251] (by decide +kernel) (by decide +kernel)
set_option maxRecDepth 20000 in
theorem gX10_digest_X10_branch : GoodIn wsX10_digest (wsV RX10 238 RX10 yX10_branch wsX10_branch) := goodIn_app (goodIn_of _ (by decide +kernel)) ggX10_digest_X10_branch
set_option maxRecDepth 20000 in
theorem ggX10_digest_X10_hasNoHedge : GoodIn wsX10_digest wsX10_hasNoHedge := goodIn_r _ [133, 2, 213, 214, 215, 216, 217, 218, 219, 220, 221, 222, 223, 224, 225, 226, 227, 228, 229, 230, 231] (by decide +kernel) (by decide +kernel)
set_option maxRecDepth 20000 in
theorem gX10_digest_X10_hasNoHedge : GoodIn wsX10_digest (wsV RX10 176 RX10 yX10_hasNoHedge wsX10_hasNoHedge) := goodIn_app (goodIn_of _ (by decide +kernel)) ggX10_digest_X10_hasNoHedge
set_option maxRecDepth 20000 in
theorem ggX10_digest_X10_digestOutlook : GoodIn wsX10_digest wsX10_digestOutlook := goodIn_r _ [137, 3, 2, 138, 139, 140, 8, 141, 32, 10, 142, 143, 144, 130, 131, 132, 133, 27, 28, 29, 30, 31, 11, 33, 34, 35, 16, 17, 18, 19, 20, 21, 22, 23, 24, 25, 26, 36, 37, 38, 39, 40, 41, 42, 43, 44, 45, 46, 47, 48, 49, 50, 51, 52, 53, 54, 55, 56, 57, 58, 59, 60, 61, 62, 63, 64, 65, 66, 67, 68, 69, 70, 71, 72, 73, 74, 75, 76, 77, 78, 79, 80, 81, 82, 83, 84, 85, 86, 87, 88, 89, 90, 91, 92, 93, 94, 95, 96, 97, 98, 99, 100, 101, 102, 103, 104, 105, 106, 107, 108, 109, 110, 111, 112, 145, 146, 147, 148, 149, 150, 151, 152, 153, 154, 155, 156, 157, 158, 159, 160, 161, 162, 163, 164, 165, 166, 167, 168, 169, 170, 171, 172, 173, 174, 175, 176, 177, 178, 179, 180, 181, 182, 183, 12, 13, 14, 15, 184, 185, 186, 187, 188, 189, 213, 214, 215, 216, 217, 218, 219, 220, 221, 222, 223, 224, 225, 226, 227, 228, 229, 230, 231, 232, 233, 234, 235, 236, 237, 238, 239, 240, 241, 242, 243, 244, 245, 246, 247] (by decide +kernel) (by decide +kernel)
set_option maxRecDepth 20000 in
theorem gX10_digest_X10_digestOutlook : GoodIn wsX10_digest (wsV RX10 241 RX10 yX10_digestOutlook wsX10_digestOutlook) := goodIn_app (goodIn_of _ (by decide +kernel)) ggX10_digest_X10_digestOutlook
set_option maxRecDepth 20000 in
theorem ggX10_digest_X5_size : GoodIn wsX10_digest wsX5_size := goodIn_r _ [194, 195, 252, 253] (by decide +kernel) (by decide +kernel)
set_option maxRecDepth 20000 in
theorem gX10_digest_X5_size : GoodIn wsX10_digest (wsV RX10 95 RX5 yX5_size wsX5_size) := goodIn_app (goodIn_of _ (by decide +kernel)) ggX10_digest_X5_size
set_option maxRecDepth 20000 in
theorem ggX10_digest_X5_at : GoodIn wsX10_digest wsX5_at := goodIn_r _ [199, 195, 200, 252, 253] (by decide +kernel) (by decide +kernel)
set_option maxRecDepth 20000 in
theorem gX10_digest_X5_at : GoodIn wsX10_digest (wsV RX10 245 RX5 yX5_at wsX5_at) := goodIn_app (goodIn_of _ (by decide +kernel)) ggX10_digest_X5_at
set_option maxRecDepth 20000 in
theorem ggX10_digest_X10_count : GoodIn wsX10_digest wsX10_count := goodIn_r _ [204, 2, 10, 11, 4, 205, 206, 129, 106, 107, 108, 109, 110, 111, 16, 17, 18, 19, 20, 21, 22, 23, 24, 25, 26, 207, 208, 209, 187, 210, 211, 212, 190, 191, 192, 193, 194, 195, 213, 214, 215, 216, 217, 218, 219, 220, 221, 222, 223, 224, 225, 226, 227, 228, 229, 230, 231, 232, 233, 234, 235, 236, 248, 249, 250, 251, 237, 238, 252, 253] (by decide +kernel) (by decide +kernel)
set_option maxRecDepth 20000 in
theorem gX10_digest_X10_count : GoodIn wsX10_digest (wsV RX10 249 RX10 yX10_count wsX10_count) := goodIn_app (goodIn_of _ (by decide +kernel)) ggX10_digest_X10_count
theorem dX10_digest_0 : decode cX10_digest 0 = .ok (.ldc2_w 234, 3) := by decide +kernel
theorem dX10_digest_3 : decode cX10_digest 3 = .ok (.lstore_n 1, 1) := by decide +kernel
theorem dX10_digest_4 : decode cX10_digest 4 = .ok (.iconst 0, 1) := by decide +kernel
theorem dX10_digest_5 : decode cX10_digest 5 = .ok (.istore_n 3, 1) := by decide +kernel
theorem dX10_digest_6 : decode cX10_digest 6 = .ok (.iload_n 3, 1) := by decide +kernel
theorem dX10_digest_7 : decode cX10_digest 7 = .ok (.aload_n 0, 1) := by decide +kernel
theorem dX10_digest_8 : decode cX10_digest 8 = .ok (.getfield 19, 3) := by decide +kernel
theorem dX10_digest_11 : decode cX10_digest 11 = .ok (.getfield 117, 3) := by decide +kernel
theorem dX10_digest_14 : decode cX10_digest 14 = .ok (.if_icmp .ge 40, 3) := by decide +kernel
theorem dX10_digest_17 : decode cX10_digest 17 = .ok (.iconst 0, 1) := by decide +kernel
theorem dX10_digest_18 : decode cX10_digest 18 = .ok (.istore 4, 2) := by decide +kernel
theorem dX10_digest_20 : decode cX10_digest 20 = .ok (.iload 4, 2) := by decide +kernel
theorem dX10_digest_22 : decode cX10_digest 22 = .ok (.bipush 8, 2) := by decide +kernel
theorem dX10_digest_24 : decode cX10_digest 24 = .ok (.if_icmp .ge 24, 3) := by decide +kernel
theorem dX10_digest_27 : decode cX10_digest 27 = .ok (.ldc2_w 236, 3) := by decide +kernel
theorem dX10_digest_30 : decode cX10_digest 30 = .ok (.lload_n 1, 1) := by decide +kernel
theorem dX10_digest_31 : decode cX10_digest 31 = .ok (.lmul, 1) := by decide +kernel
theorem dX10_digest_32 : decode cX10_digest 32 = .ok (.aload_n 0, 1) := by decide +kernel
theorem dX10_digest_33 : decode cX10_digest 33 = .ok (.iload_n 3, 1) := by decide +kernel
theorem dX10_digest_34 : decode cX10_digest 34 = .ok (.iload 4, 2) := by decide +kernel
theorem dX10_digest_36 : decode cX10_digest 36 = .ok (.invokevirtual 238, 3) := by decide +kernel
theorem dX10_digest_39 : decode cX10_digest 39 = .ok (.i2l, 1) := by decide +kernel
theorem dX10_digest_40 : decode cX10_digest 40 = .ok (.ladd, 1) := by decide +kernel
theorem dX10_digest_41 : decode cX10_digest 41 = .ok (.lstore_n 1, 1) := by decide +kernel
theorem dX10_digest_42 : decode cX10_digest 42 = .ok (.iinc 4 1, 3) := by decide +kernel
theorem dX10_digest_45 : decode cX10_digest 45 = .ok (.goto (-25), 3) := by decide +kernel
theorem dX10_digest_48 : decode cX10_digest 48 = .ok (.iinc 3 1, 3) := by decide +kernel
theorem dX10_digest_51 : decode cX10_digest 51 = .ok (.goto (-45), 3) := by decide +kernel
theorem dX10_digest_54 : decode cX10_digest 54 = .ok (.aload_n 0, 1) := by decide +kernel
theorem dX10_digest_55 : decode cX10_digest 55 = .ok (.invokevirtual 176, 3) := by decide +kernel
theorem dX10_digest_58 : decode cX10_digest 58 = .ok (.ifCond .ne 9, 3) := by decide +kernel
theorem dX10_digest_61 : decode cX10_digest 61 = .ok (.aload_n 0, 1) := by decide +kernel
theorem dX10_digest_62 : decode cX10_digest 62 = .ok (.lload_n 1, 1) := by decide +kernel
theorem dX10_digest_63 : decode cX10_digest 63 = .ok (.invokevirtual 241, 3) := by decide +kernel
theorem dX10_digest_66 : decode cX10_digest 66 = .ok (.lstore_n 1, 1) := by decide +kernel
theorem dX10_digest_67 : decode cX10_digest 67 = .ok (.iconst 0, 1) := by decide +kernel
theorem dX10_digest_68 : decode cX10_digest 68 = .ok (.istore_n 3, 1) := by decide +kernel
theorem dX10_digest_69 : decode cX10_digest 69 = .ok (.iload_n 3, 1) := by decide +kernel
theorem dX10_digest_70 : decode cX10_digest 70 = .ok (.aload_n 0, 1) := by decide +kernel
theorem dX10_digest_71 : decode cX10_digest 71 = .ok (.getfield 10, 3) := by decide +kernel
theorem dX10_digest_74 : decode cX10_digest 74 = .ok (.invokevirtual 95, 3) := by decide +kernel
theorem dX10_digest_77 : decode cX10_digest 77 = .ok (.if_icmp .ge 25, 3) := by decide +kernel
theorem dX10_digest_80 : decode cX10_digest 80 = .ok (.ldc2_w 236, 3) := by decide +kernel
theorem dX10_digest_83 : decode cX10_digest 83 = .ok (.lload_n 1, 1) := by decide +kernel
theorem dX10_digest_84 : decode cX10_digest 84 = .ok (.lmul, 1) := by decide +kernel
theorem dX10_digest_85 : decode cX10_digest 85 = .ok (.aload_n 0, 1) := by decide +kernel
theorem dX10_digest_86 : decode cX10_digest 86 = .ok (.getfield 10, 3) := by decide +kernel
theorem dX10_digest_89 : decode cX10_digest 89 = .ok (.iload_n 3, 1) := by decide +kernel
theorem dX10_digest_90 : decode cX10_digest 90 = .ok (.invokevirtual 245, 3) := by decide +kernel
theorem dX10_digest_93 : decode cX10_digest 93 = .ok (.i2l, 1) := by decide +kernel
theorem dX10_digest_94 : decode cX10_digest 94 = .ok (.ladd, 1) := by decide +kernel
theorem dX10_digest_95 : decode cX10_digest 95 = .ok (.lstore_n 1, 1) := by decide +kernel
theorem dX10_digest_96 : decode cX10_digest 96 = .ok (.iinc 3 1, 3) := by decide +kernel
theorem dX10_digest_99 : decode cX10_digest 99 = .ok (.goto (-30), 3) := by decide +kernel
theorem dX10_digest_102 : decode cX10_digest 102 = .ok (.iconst 0, 1) := by decide +kernel
theorem dX10_digest_103 : decode cX10_digest 103 = .ok (.istore_n 3, 1) := by decide +kernel
theorem dX10_digest_104 : decode cX10_digest 104 = .ok (.iload_n 3, 1) := by decide +kernel
theorem dX10_digest_105 : decode cX10_digest 105 = .ok (.bipush 11, 2) := by decide +kernel
theorem dX10_digest_107 : decode cX10_digest 107 = .ok (.if_icmp .ge 22, 3) := by decide +kernel
theorem dX10_digest_110 : decode cX10_digest 110 = .ok (.ldc2_w 236, 3) := by decide +kernel
theorem dX10_digest_113 : decode cX10_digest 113 = .ok (.lload_n 1, 1) := by decide +kernel
theorem dX10_digest_114 : decode cX10_digest 114 = .ok (.lmul, 1) := by decide +kernel
theorem dX10_digest_115 : decode cX10_digest 115 = .ok (.aload_n 0, 1) := by decide +kernel
theorem dX10_digest_116 : decode cX10_digest 116 = .ok (.iload_n 3, 1) := by decide +kernel
theorem dX10_digest_117 : decode cX10_digest 117 = .ok (.invokevirtual 249, 3) := by decide +kernel
theorem dX10_digest_120 : decode cX10_digest 120 = .ok (.i2l, 1) := by decide +kernel
theorem dX10_digest_121 : decode cX10_digest 121 = .ok (.ladd, 1) := by decide +kernel
theorem dX10_digest_122 : decode cX10_digest 122 = .ok (.lstore_n 1, 1) := by decide +kernel
theorem dX10_digest_123 : decode cX10_digest 123 = .ok (.iinc 3 1, 3) := by decide +kernel
theorem dX10_digest_126 : decode cX10_digest 126 = .ok (.goto (-22), 3) := by decide +kernel
theorem dX10_digest_129 : decode cX10_digest 129 = .ok (.lload_n 1, 1) := by decide +kernel
theorem dX10_digest_130 : decode cX10_digest 130 = .ok (.lreturn, 1) := by decide +kernel
set_option maxRecDepth 20000 in
theorem ggX10_digestOutlook_X10_wins : GoodIn wsX10_digestOutlook wsX10_wins := goodIn_r _ [7, 8, 9, 10, 11, 6, 12, 13, 14, 15, 16, 2, 17, 18, 19, 20, 21, 22, 23, 24, 25, 26, 27, 28, 29, 30, 31, 32, 33, 34, 35, 36, 37, 38, 39, 40, 41, 42, 43, 44, 45, 46, 47, 48, 49, 50, 51, 52, 53, 54, 55, 56, 57, 58, 59, 60, 61, 62, 63, 64, 65, 66, 67, 68, 69, 70, 71, 72, 73, 74, 75, 76, 77, 78, 79, 80, 81, 82, 83, 84, 85, 86, 87, 88, 89, 90, 91, 92, 93, 94, 95, 96, 97, 98, 99, 100, 101, 102, 103, 104, 105, 106, 107, 108, 109, 110, 111, 112, 113, 114, 163, 164, 165, 166, 167, 168, 169, 170, 171, 172, 173, 174, 175, 176, 182, 183, 184, 185, 186, 177, 178, 179, 180, 181, 187, 188, 189, 190, 191, 192, 193, 194, 195, 196, 197] (by decide +kernel) (by decide +kernel)
set_option maxRecDepth 20000 in
theorem gX10_digestOutlook_X10_wins : GoodIn wsX10_digestOutlook (wsV RX10 252 RX10 yX10_wins wsX10_wins) := goodIn_app (goodIn_of _ (by decide +kernel)) ggX10_digestOutlook_X10_wins
set_option maxRecDepth 20000 in
theorem ggX10_digestOutlook_X10_best : GoodIn wsX10_digestOutlook wsX10_best := goodIn_r _ [118, 23, 9, 10, 11, 6, 12, 13, 14, 15, 16, 2, 17, 18, 19, 20, 21, 22, 8, 24, 25, 26, 27, 28, 29, 30, 31, 32, 33, 34, 35, 36, 37, 38, 39, 40, 41, 42, 43, 44, 45, 46, 47, 48, 49, 50, 51, 52, 53, 54, 55, 56, 57, 58, 59, 60, 61, 62, 63, 64, 65, 66, 67, 68, 69, 70, 71, 72, 73, 74, 75, 76, 77, 78, 79, 80, 81, 82, 83, 84, 85, 86, 87, 88, 89, 90, 91, 92, 93, 94, 95, 96, 97, 98, 99, 100, 101, 102, 103, 104, 105, 106, 107, 108, 109, 110, 111, 112, 113, 119, 120, 121, 122, 123, 163, 164, 165, 166, 167, 168, 169, 170, 171, 172, 173, 174, 175, 176, 182, 183, 184, 185, 186, 177, 178, 179, 180, 181, 187, 188, 189, 190, 191, 192, 193, 194, 195, 196, 197] (by decide +kernel) (by decide +kernel)
set_option maxRecDepth 20000 in
theorem gX10_digestOutlook_X10_best : GoodIn wsX10_digestOutlook (wsV RX10 255 RX10 yX10_best wsX10_best) := goodIn_app (goodIn_of _ (by decide +kernel)) ggX10_digestOutlook_X10_best
set_option maxRecDepth 20000 in
theorem ggX10_digestOutlook_X10_lasts : GoodIn wsX10_digestOutlook wsX10_lasts := goodIn_r _ [127, 23, 9, 10, 11, 6, 12, 13, 14, 15, 16, 2, 17, 18, 19, 20, 21, 22, 8, 24, 25, 26, 27, 28, 29, 30, 31, 32, 33, 34, 35, 36, 37, 38, 39, 40, 41, 42, 43, 44, 45, 46, 47, 48, 49, 50, 51, 52, 53, 54, 55, 56, 57, 58, 59, 60, 61, 62, 63, 64, 65, 66, 67, 68, 69, 70, 71, 72, 73, 74, 75, 76, 77, 78, 79, 80, 81, 82, 83, 84, 85, 86, 87, 88, 89, 90, 91, 92, 93, 94, 95, 96, 97, 98, 99, 100, 101, 102, 103, 104, 105, 106, 107, 108, 109, 110, 111, 112, 113, 128, 129, 130, 131, 163, 164, 165, 166, 167, 168, 169, 170, 171, 172, 173, 174, 175, 176, 182, 183, 184, 185, 186, 177, 178, 179, 180, 181, 187, 188, 189, 190, 191, 192, 193, 194, 195, 196, 197] (by decide +kernel) (by decide +kernel)
set_option maxRecDepth 20000 in
theorem gX10_digestOutlook_X10_lasts : GoodIn wsX10_digestOutlook (wsV RX10 258 RX10 yX10_lasts wsX10_lasts) := goodIn_app (goodIn_of _ (by decide +kernel)) ggX10_digestOutlook_X10_lasts
set_option maxRecDepth 20000 in
theorem ggX10_digestOutlook_X10_likely : GoodIn wsX10_digestOutlook wsX10_likely := goodIn_r _ [135, 25, 9, 10, 11, 6, 12, 13, 14, 15, 16, 2, 17, 18, 19, 20, 21, 22, 8, 23, 24, 26, 27, 28, 29, 30, 31, 32, 33, 34, 35, 36, 37, 38, 39, 40, 41, 42, 43, 44, 45, 46, 47, 48, 49, 50, 51, 52, 53, 54, 55, 56, 57, 58, 59, 60, 61, 62, 63, 64, 65, 66, 67, 68, 69, 70, 71, 72, 73, 74, 75, 76, 77, 78, 79, 80, 81, 82, 83, 84, 85, 86, 87, 88, 89, 90, 91, 92, 93, 94, 95, 96, 97, 98, 99, 100, 101, 102, 103, 104, 105, 106, 107, 108, 109, 110, 111, 112, 113, 136, 137, 138, 139, 140, 163, 164, 165, 166, 167, 168, 169, 170, 171, 172, 173, 174, 175, 176, 182, 183, 184, 185, 186, 177, 178, 179, 180, 181, 187, 188, 189, 190, 191, 192, 193, 194, 195, 196, 197] (by decide +kernel) (by decide +kernel)
set_option maxRecDepth 20000 in
theorem gX10_digestOutlook_X10_likely : GoodIn wsX10_digestOutlook (wsV RX10 261 RX10 yX10_likely wsX10_likely) := goodIn_app (goodIn_of _ (by decide +kernel)) ggX10_digestOutlook_X10_likely
set_option maxRecDepth 20000 in
theorem ggX10_digestOutlook_X10_worth : GoodIn wsX10_digestOutlook wsX10_worth := goodIn_r _ [144, 24, 9, 13, 14, 15, 6, 16, 2, 17, 18, 19, 20, 21, 22, 8, 23, 25, 26, 27, 28, 29, 30, 31, 32, 33, 34, 35, 36, 37, 38, 39, 40, 41, 42, 43, 44, 45, 46, 47, 48, 49, 50, 51, 52, 53, 54, 55, 56, 57, 58, 59, 60, 61, 62, 63, 64, 65, 66, 67, 68, 69, 70, 71, 72, 73, 74, 75, 76, 77, 78, 79, 80, 81, 82, 83, 84, 85, 86, 87, 88, 89, 90, 91, 92, 93, 94, 95, 96, 97, 98, 99, 100, 101, 102, 103, 104, 105, 106, 107, 108, 109, 110, 111, 112, 113, 145, 146, 147, 148, 163, 164, 165, 166, 167, 168, 169, 170, 171, 172, 173, 174, 175, 176, 182, 183, 184, 185, 186, 177, 178, 179, 180, 181, 187, 188, 189, 190, 191, 192, 193, 194, 195, 196, 197] (by decide +kernel) (by decide +kernel)
set_option maxRecDepth 20000 in
theorem gX10_digestOutlook_X10_worth : GoodIn wsX10_digestOutlook (wsV RX10 264 RX10 yX10_worth wsX10_worth) := goodIn_app (goodIn_of _ (by decide +kernel)) ggX10_digestOutlook_X10_worth
set_option maxRecDepth 20000 in
theorem ggX10_digestOutlook_X10_tree : GoodIn wsX10_digestOutlook wsX10_tree := goodIn_r _ [152, 2, 24, 9, 153, 154, 155, 6, 156, 17, 18, 19, 20, 21, 22, 8, 23, 25, 26, 27, 28, 29, 30, 31, 32, 33, 34, 35, 36, 37, 38, 39, 40, 41, 42, 43, 44, 45, 46, 47, 48, 49, 50, 51, 52, 53, 54, 55, 56, 57, 58, 59, 60, 61, 62, 63, 64, 65, 66, 67, 68, 69, 70, 71, 72, 73, 74, 75, 76, 77, 78, 79, 80, 81, 82, 83, 84, 85, 86, 87, 88, 89, 90, 91, 92, 93, 94, 95, 96, 97, 98, 99, 100, 101, 102, 103, 104, 105, 106, 107, 108, 109, 110, 111, 112, 113, 157, 158, 159, 160, 161, 162, 145, 146, 147, 148, 163, 164, 165, 166, 167, 168, 169, 170, 171, 172, 173, 174, 175, 176, 177, 178, 179, 180, 181, 182, 183, 184, 185, 186, 187, 188, 189, 190, 191, 192, 193, 194, 195, 196, 197] (by decide +kernel) (by decide +kernel)
set_option maxRecDepth 20000 in
theorem gX10_digestOutlook_X10_tree : GoodIn wsX10_digestOutlook (wsV RX10 267 RX10 yX10_tree wsX10_tree) := goodIn_app (goodIn_of _ (by decide +kernel)) ggX10_digestOutlook_X10_tree
theorem dX10_digestOutlook_0 : decode cX10_digestOutlook 0 = .ok (.lload_n 1, 1) := by decide +kernel
theorem dX10_digestOutlook_1 : decode cX10_digestOutlook 1 = .ok (.lstore_n 3, 1) := by decide +kernel
theorem dX10_digestOutlook_2 : decode cX10_digestOutlook 2 = .ok (.iconst 0, 1) := by decide +kernel
theorem dX10_digestOutlook_3 : decode cX10_digestOutlook 3 = .ok (.istore 5, 2) := by decide +kernel
theorem dX10_digestOutlook_5 : decode cX10_digestOutlook 5 = .ok (.iload 5, 2) := by decide +kernel
theorem dX10_digestOutlook_7 : decode cX10_digestOutlook 7 = .ok (.iconst 2, 1) := by decide +kernel
theorem dX10_digestOutlook_8 : decode cX10_digestOutlook 8 = .ok (.if_icmp .ge 65, 3) := by decide +kernel
theorem dX10_digestOutlook_11 : decode cX10_digestOutlook 11 = .ok (.ldc2_w 236, 3) := by decide +kernel
theorem dX10_digestOutlook_14 : decode cX10_digestOutlook 14 = .ok (.lload_n 3, 1) := by decide +kernel
theorem dX10_digestOutlook_15 : decode cX10_digestOutlook 15 = .ok (.lmul, 1) := by decide +kernel
theorem dX10_digestOutlook_16 : decode cX10_digestOutlook 16 = .ok (.aload_n 0, 1) := by decide +kernel
theorem dX10_digestOutlook_17 : decode cX10_digestOutlook 17 = .ok (.iload 5, 2) := by decide +kernel
theorem dX10_digestOutlook_19 : decode cX10_digestOutlook 19 = .ok (.invokevirtual 252, 3) := by decide +kernel
theorem dX10_digestOutlook_22 : decode cX10_digestOutlook 22 = .ok (.i2l, 1) := by decide +kernel
theorem dX10_digestOutlook_23 : decode cX10_digestOutlook 23 = .ok (.ladd, 1) := by decide +kernel
theorem dX10_digestOutlook_24 : decode cX10_digestOutlook 24 = .ok (.lstore_n 3, 1) := by decide +kernel
theorem dX10_digestOutlook_25 : decode cX10_digestOutlook 25 = .ok (.ldc2_w 236, 3) := by decide +kernel
theorem dX10_digestOutlook_28 : decode cX10_digestOutlook 28 = .ok (.lload_n 3, 1) := by decide +kernel
theorem dX10_digestOutlook_29 : decode cX10_digestOutlook 29 = .ok (.lmul, 1) := by decide +kernel
theorem dX10_digestOutlook_30 : decode cX10_digestOutlook 30 = .ok (.aload_n 0, 1) := by decide +kernel
theorem dX10_digestOutlook_31 : decode cX10_digestOutlook 31 = .ok (.iload 5, 2) := by decide +kernel
theorem dX10_digestOutlook_33 : decode cX10_digestOutlook 33 = .ok (.invokevirtual 255, 3) := by decide +kernel
theorem dX10_digestOutlook_36 : decode cX10_digestOutlook 36 = .ok (.i2l, 1) := by decide +kernel
theorem dX10_digestOutlook_37 : decode cX10_digestOutlook 37 = .ok (.ladd, 1) := by decide +kernel
theorem dX10_digestOutlook_38 : decode cX10_digestOutlook 38 = .ok (.lstore_n 3, 1) := by decide +kernel
theorem dX10_digestOutlook_39 : decode cX10_digestOutlook 39 = .ok (.ldc2_w 236, 3) := by decide +kernel
theorem dX10_digestOutlook_42 : decode cX10_digestOutlook 42 = .ok (.lload_n 3, 1) := by decide +kernel
theorem dX10_digestOutlook_43 : decode cX10_digestOutlook 43 = .ok (.lmul, 1) := by decide +kernel
theorem dX10_digestOutlook_44 : decode cX10_digestOutlook 44 = .ok (.aload_n 0, 1) := by decide +kernel
theorem dX10_digestOutlook_45 : decode cX10_digestOutlook 45 = .ok (.iload 5, 2) := by decide +kernel
theorem dX10_digestOutlook_47 : decode cX10_digestOutlook 47 = .ok (.invokevirtual 258, 3) := by decide +kernel
theorem dX10_digestOutlook_50 : decode cX10_digestOutlook 50 = .ok (.i2l, 1) := by decide +kernel
theorem dX10_digestOutlook_51 : decode cX10_digestOutlook 51 = .ok (.ladd, 1) := by decide +kernel
theorem dX10_digestOutlook_52 : decode cX10_digestOutlook 52 = .ok (.lstore_n 3, 1) := by decide +kernel
theorem dX10_digestOutlook_53 : decode cX10_digestOutlook 53 = .ok (.ldc2_w 236, 3) := by decide +kernel
theorem dX10_digestOutlook_56 : decode cX10_digestOutlook 56 = .ok (.lload_n 3, 1) := by decide +kernel
theorem dX10_digestOutlook_57 : decode cX10_digestOutlook 57 = .ok (.lmul, 1) := by decide +kernel
theorem dX10_digestOutlook_58 : decode cX10_digestOutlook 58 = .ok (.aload_n 0, 1) := by decide +kernel
theorem dX10_digestOutlook_59 : decode cX10_digestOutlook 59 = .ok (.iload 5, 2) := by decide +kernel
theorem dX10_digestOutlook_61 : decode cX10_digestOutlook 61 = .ok (.invokevirtual 261, 3) := by decide +kernel
theorem dX10_digestOutlook_64 : decode cX10_digestOutlook 64 = .ok (.i2l, 1) := by decide +kernel
theorem dX10_digestOutlook_65 : decode cX10_digestOutlook 65 = .ok (.ladd, 1) := by decide +kernel
theorem dX10_digestOutlook_66 : decode cX10_digestOutlook 66 = .ok (.lstore_n 3, 1) := by decide +kernel
theorem dX10_digestOutlook_67 : decode cX10_digestOutlook 67 = .ok (.iinc 5 1, 3) := by decide +kernel
theorem dX10_digestOutlook_70 : decode cX10_digestOutlook 70 = .ok (.goto (-65), 3) := by decide +kernel
theorem dX10_digestOutlook_73 : decode cX10_digestOutlook 73 = .ok (.ldc2_w 236, 3) := by decide +kernel
theorem dX10_digestOutlook_76 : decode cX10_digestOutlook 76 = .ok (.lload_n 3, 1) := by decide +kernel
theorem dX10_digestOutlook_77 : decode cX10_digestOutlook 77 = .ok (.lmul, 1) := by decide +kernel
theorem dX10_digestOutlook_78 : decode cX10_digestOutlook 78 = .ok (.aload_n 0, 1) := by decide +kernel
theorem dX10_digestOutlook_79 : decode cX10_digestOutlook 79 = .ok (.invokevirtual 264, 3) := by decide +kernel
theorem dX10_digestOutlook_82 : decode cX10_digestOutlook 82 = .ok (.i2l, 1) := by decide +kernel
theorem dX10_digestOutlook_83 : decode cX10_digestOutlook 83 = .ok (.ladd, 1) := by decide +kernel
theorem dX10_digestOutlook_84 : decode cX10_digestOutlook 84 = .ok (.lstore_n 3, 1) := by decide +kernel
theorem dX10_digestOutlook_85 : decode cX10_digestOutlook 85 = .ok (.iconst 0, 1) := by decide +kernel
theorem dX10_digestOutlook_86 : decode cX10_digestOutlook 86 = .ok (.istore 5, 2) := by decide +kernel
theorem dX10_digestOutlook_88 : decode cX10_digestOutlook 88 = .ok (.iload 5, 2) := by decide +kernel
theorem dX10_digestOutlook_90 : decode cX10_digestOutlook 90 = .ok (.aload_n 0, 1) := by decide +kernel
theorem dX10_digestOutlook_91 : decode cX10_digestOutlook 91 = .ok (.getfield 19, 3) := by decide +kernel
theorem dX10_digestOutlook_94 : decode cX10_digestOutlook 94 = .ok (.getfield 117, 3) := by decide +kernel
theorem dX10_digestOutlook_97 : decode cX10_digestOutlook 97 = .ok (.if_icmp .ge 37, 3) := by decide +kernel
theorem dX10_digestOutlook_100 : decode cX10_digestOutlook 100 = .ok (.aload_n 0, 1) := by decide +kernel
theorem dX10_digestOutlook_101 : decode cX10_digestOutlook 101 = .ok (.getfield 19, 3) := by decide +kernel
theorem dX10_digestOutlook_104 : decode cX10_digestOutlook 104 = .ok (.getfield 132, 3) := by decide +kernel
theorem dX10_digestOutlook_107 : decode cX10_digestOutlook 107 = .ok (.iload 5, 2) := by decide +kernel
theorem dX10_digestOutlook_109 : decode cX10_digestOutlook 109 = .ok (.iaload, 1) := by decide +kernel
theorem dX10_digestOutlook_110 : decode cX10_digestOutlook 110 = .ok (.iconst (-1), 1) := by decide +kernel
theorem dX10_digestOutlook_111 : decode cX10_digestOutlook 111 = .ok (.if_icmp .ne 17, 3) := by decide +kernel
theorem dX10_digestOutlook_114 : decode cX10_digestOutlook 114 = .ok (.ldc2_w 236, 3) := by decide +kernel
theorem dX10_digestOutlook_117 : decode cX10_digestOutlook 117 = .ok (.lload_n 3, 1) := by decide +kernel
theorem dX10_digestOutlook_118 : decode cX10_digestOutlook 118 = .ok (.lmul, 1) := by decide +kernel
theorem dX10_digestOutlook_119 : decode cX10_digestOutlook 119 = .ok (.aload_n 0, 1) := by decide +kernel
theorem dX10_digestOutlook_120 : decode cX10_digestOutlook 120 = .ok (.iload 5, 2) := by decide +kernel
theorem dX10_digestOutlook_122 : decode cX10_digestOutlook 122 = .ok (.invokevirtual 267, 3) := by decide +kernel
theorem dX10_digestOutlook_125 : decode cX10_digestOutlook 125 = .ok (.i2l, 1) := by decide +kernel
theorem dX10_digestOutlook_126 : decode cX10_digestOutlook 126 = .ok (.ladd, 1) := by decide +kernel
theorem dX10_digestOutlook_127 : decode cX10_digestOutlook 127 = .ok (.lstore_n 3, 1) := by decide +kernel
theorem dX10_digestOutlook_128 : decode cX10_digestOutlook 128 = .ok (.iinc 5 1, 3) := by decide +kernel
theorem dX10_digestOutlook_131 : decode cX10_digestOutlook 131 = .ok (.goto (-43), 3) := by decide +kernel
theorem dX10_digestOutlook_134 : decode cX10_digestOutlook 134 = .ok (.lload_n 3, 1) := by decide +kernel
theorem dX10_digestOutlook_135 : decode cX10_digestOutlook 135 = .ok (.lreturn, 1) := by decide +kernel
theorem dX10_hasNoHedge_0 : decode cX10_hasNoHedge 0 = .ok (.aload_n 0, 1) := by decide +kernel
theorem dX10_hasNoHedge_1 : decode cX10_hasNoHedge 1 = .ok (.getfield 19, 3) := by decide +kernel
theorem dX10_hasNoHedge_4 : decode cX10_hasNoHedge 4 = .ok (.getfield 117, 3) := by decide +kernel
theorem dX10_hasNoHedge_7 : decode cX10_hasNoHedge 7 = .ok (.ifCond .ne 7, 3) := by decide +kernel
theorem dX10_hasNoHedge_10 : decode cX10_hasNoHedge 10 = .ok (.iconst 1, 1) := by decide +kernel
theorem dX10_hasNoHedge_11 : decode cX10_hasNoHedge 11 = .ok (.goto 4, 3) := by decide +kernel
theorem dX10_hasNoHedge_14 : decode cX10_hasNoHedge 14 = .ok (.iconst 0, 1) := by decide +kernel
theorem dX10_hasNoHedge_15 : decode cX10_hasNoHedge 15 = .ok (.ireturn, 1) := by decide +kernel
theorem dX10_isUnknown_0 : decode cX10_isUnknown 0 = .ok (.iload_n 1, 1) := by decide +kernel
theorem dX10_isUnknown_1 : decode cX10_isUnknown 1 = .ok (.ifCond .lt 14, 3) := by decide +kernel
theorem dX10_isUnknown_4 : decode cX10_isUnknown 4 = .ok (.iload_n 1, 1) := by decide +kernel
theorem dX10_isUnknown_5 : decode cX10_isUnknown 5 = .ok (.aload_n 0, 1) := by decide +kernel
theorem dX10_isUnknown_6 : decode cX10_isUnknown 6 = .ok (.getfield 19, 3) := by decide +kernel
theorem dX10_isUnknown_9 : decode cX10_isUnknown 9 = .ok (.getfield 117, 3) := by decide +kernel
theorem dX10_isUnknown_12 : decode cX10_isUnknown 12 = .ok (.if_icmp .lt 7, 3) := by decide +kernel
theorem dX10_isUnknown_15 : decode cX10_isUnknown 15 = .ok (.iconst 1, 1) := by decide +kernel
theorem dX10_isUnknown_16 : decode cX10_isUnknown 16 = .ok (.goto 4, 3) := by decide +kernel
theorem dX10_isUnknown_19 : decode cX10_isUnknown 19 = .ok (.iconst 0, 1) := by decide +kernel
theorem dX10_isUnknown_20 : decode cX10_isUnknown 20 = .ok (.ireturn, 1) := by decide +kernel
theorem dX10_isNoSide_0 : decode cX10_isNoSide 0 = .ok (.iload_n 0, 1) := by decide +kernel
theorem dX10_isNoSide_1 : decode cX10_isNoSide 1 = .ok (.ifCond .eq 12, 3) := by decide +kernel
theorem dX10_isNoSide_4 : decode cX10_isNoSide 4 = .ok (.iload_n 0, 1) := by decide +kernel
theorem dX10_isNoSide_5 : decode cX10_isNoSide 5 = .ok (.iconst 1, 1) := by decide +kernel
theorem dX10_isNoSide_6 : decode cX10_isNoSide 6 = .ok (.if_icmp .eq 7, 3) := by decide +kernel
theorem dX10_isNoSide_9 : decode cX10_isNoSide 9 = .ok (.iconst 1, 1) := by decide +kernel
theorem dX10_isNoSide_10 : decode cX10_isNoSide 10 = .ok (.goto 4, 3) := by decide +kernel
theorem dX10_isNoSide_13 : decode cX10_isNoSide 13 = .ok (.iconst 0, 1) := by decide +kernel
theorem dX10_isNoSide_14 : decode cX10_isNoSide 14 = .ok (.ireturn, 1) := by decide +kernel
set_option maxRecDepth 20000 in
theorem ggX10_chart_X6_choices : GoodIn wsX10_chart wsX6_choices := goodIn_r _ [12, 13, 14, 15, 16, 17, 11, 18, 116, 117, 111, 112, 113, 114, 115, 118, 119, 120, 121, 122] (by decide +kernel) (by decide +kernel)
set_option maxRecDepth 20000 in
theorem gX10_chart_X6_choices : GoodIn wsX10_chart (wsV RX10 138 RX6 yX6_choices wsX6_choices) := goodIn_app (goodIn_of _ (by decide +kernel)) ggX10_chart_X6_choices
set_option maxRecDepth 20000 in
theorem ggX10_chart_X4_enter : GoodIn wsX10_chart wsX4_enter := goodIn_r _ [23, 24, 25, 26, 27, 28, 29, 11, 30, 13, 31, 32, 33, 34, 35, 36, 22, 37, 38, 39, 40, 16, 17, 18, 123, 124, 116, 117, 111, 112, 113, 114, 115, 118, 119, 120, 121, 122] (by decide +kernel) (by decide +kernel)
set_option maxRecDepth 20000 in
theorem gX10_chart_X4_enter : GoodIn wsX10_chart (wsV RX10 276 RX4 yX4_enter wsX4_enter) := goodIn_app (goodIn_of _ (by decide +kernel)) ggX10_chart_X4_enter
set_option maxRecDepth 20000 in
theorem ggX10_chart_X1_enter : GoodIn wsX10_chart wsX1_enter := goodIn_r _ [45, 46, 47, 48, 49, 50, 51, 52, 53, 54, 55, 56, 57, 58, 22, 59, 25, 60, 31, 32, 33, 61, 28, 29, 11, 30, 13, 125, 126, 127, 116, 117, 111, 112, 113, 114, 115, 123, 124] (by decide +kernel) (by decide +kernel)
set_option maxRecDepth 20000 in
theorem gX10_chart_X1_enter : GoodIn wsX10_chart (wsV RX10 280 RX1 yX1_enter wsX1_enter) := goodIn_app (goodIn_of _ (by decide +kernel)) ggX10_chart_X1_enter
set_option maxRecDepth 20000 in
theorem ggX10_chart_X9_enter : GoodIn wsX10_chart wsX9_enter := goodIn_r _ [66, 67, 68, 69, 70, 65, 71, 72, 73, 74, 75, 50, 51, 52, 76, 54, 55, 77, 28, 29, 11, 30, 13, 78, 79, 80, 128, 129, 116, 117, 111, 112, 113, 114, 115] (by decide +kernel) (by decide +kernel)
set_option maxRecDepth 20000 in
theorem gX10_chart_X9_enter : GoodIn wsX10_chart (wsV RX10 282 RX9 yX9_enter wsX9_enter) := goodIn_app (goodIn_of _ (by decide +kernel)) ggX10_chart_X9_enter
set_option maxRecDepth 20000 in
theorem ggX10_chart_X0_enter : GoodIn wsX10_chart wsX0_enter := goodIn_r _ [85, 86, 87, 88, 89, 90, 91, 92, 93, 94, 95, 31, 32, 33, 96, 28, 29, 11, 30, 13, 130, 131, 116, 117, 111, 112, 113, 114, 115] (by decide +kernel) (by decide +kernel)
set_option maxRecDepth 20000 in
theorem gX10_chart_X0_enter : GoodIn wsX10_chart (wsV RX10 283 RX0 yX0_enter wsX0_enter) := goodIn_app (goodIn_of _ (by decide +kernel)) ggX10_chart_X0_enter
theorem dX10_chart_0 : decode cX10_chart 0 = .ok (.aload_n 0, 1) := by decide +kernel
theorem dX10_chart_1 : decode cX10_chart 1 = .ok (.getfield 81, 3) := by decide +kernel
theorem dX10_chart_4 : decode cX10_chart 4 = .ok (.ifCond .eq 4, 3) := by decide +kernel
theorem dX10_chart_7 : decode cX10_chart 7 = .ok (.return_, 1) := by decide +kernel
theorem dX10_chart_8 : decode cX10_chart 8 = .ok (.iconst 0, 1) := by decide +kernel
theorem dX10_chart_9 : decode cX10_chart 9 = .ok (.istore_n 1, 1) := by decide +kernel
theorem dX10_chart_10 : decode cX10_chart 10 = .ok (.iload_n 1, 1) := by decide +kernel
theorem dX10_chart_11 : decode cX10_chart 11 = .ok (.aload_n 0, 1) := by decide +kernel
theorem dX10_chart_12 : decode cX10_chart 12 = .ok (.getfield 19, 3) := by decide +kernel
theorem dX10_chart_15 : decode cX10_chart 15 = .ok (.getfield 270, 3) := by decide +kernel
theorem dX10_chart_18 : decode cX10_chart 18 = .ok (.if_icmp .ge 111, 3) := by decide +kernel
theorem dX10_chart_21 : decode cX10_chart 21 = .ok (.aload_n 0, 1) := by decide +kernel
theorem dX10_chart_22 : decode cX10_chart 22 = .ok (.getfield 19, 3) := by decide +kernel
theorem dX10_chart_25 : decode cX10_chart 25 = .ok (.getfield 273, 3) := by decide +kernel
theorem dX10_chart_28 : decode cX10_chart 28 = .ok (.iload_n 1, 1) := by decide +kernel
theorem dX10_chart_29 : decode cX10_chart 29 = .ok (.iaload, 1) := by decide +kernel
theorem dX10_chart_30 : decode cX10_chart 30 = .ok (.istore_n 2, 1) := by decide +kernel
theorem dX10_chart_31 : decode cX10_chart 31 = .ok (.aload_n 0, 1) := by decide +kernel
theorem dX10_chart_32 : decode cX10_chart 32 = .ok (.getfield 38, 3) := by decide +kernel
theorem dX10_chart_35 : decode cX10_chart 35 = .ok (.iconst 0, 1) := by decide +kernel
theorem dX10_chart_36 : decode cX10_chart 36 = .ok (.iload_n 2, 1) := by decide +kernel
theorem dX10_chart_37 : decode cX10_chart 37 = .ok (.invokevirtual 138, 3) := by decide +kernel
theorem dX10_chart_40 : decode cX10_chart 40 = .ok (.istore_n 3, 1) := by decide +kernel
theorem dX10_chart_41 : decode cX10_chart 41 = .ok (.aload_n 0, 1) := by decide +kernel
theorem dX10_chart_42 : decode cX10_chart 42 = .ok (.getfield 38, 3) := by decide +kernel
theorem dX10_chart_45 : decode cX10_chart 45 = .ok (.iconst 1, 1) := by decide +kernel
theorem dX10_chart_46 : decode cX10_chart 46 = .ok (.iload_n 2, 1) := by decide +kernel
theorem dX10_chart_47 : decode cX10_chart 47 = .ok (.invokevirtual 138, 3) := by decide +kernel
theorem dX10_chart_50 : decode cX10_chart 50 = .ok (.istore 4, 2) := by decide +kernel
theorem dX10_chart_52 : decode cX10_chart 52 = .ok (.aload_n 0, 1) := by decide +kernel
theorem dX10_chart_53 : decode cX10_chart 53 = .ok (.getfield 47, 3) := by decide +kernel
theorem dX10_chart_56 : decode cX10_chart 56 = .ok (.iconst 0, 1) := by decide +kernel
theorem dX10_chart_57 : decode cX10_chart 57 = .ok (.iload_n 2, 1) := by decide +kernel
theorem dX10_chart_58 : decode cX10_chart 58 = .ok (.invokevirtual 276, 3) := by decide +kernel
theorem dX10_chart_61 : decode cX10_chart 61 = .ok (.aload_n 0, 1) := by decide +kernel
theorem dX10_chart_62 : decode cX10_chart 62 = .ok (.getfield 47, 3) := by decide +kernel
theorem dX10_chart_65 : decode cX10_chart 65 = .ok (.iconst 1, 1) := by decide +kernel
theorem dX10_chart_66 : decode cX10_chart 66 = .ok (.iload_n 2, 1) := by decide +kernel
theorem dX10_chart_67 : decode cX10_chart 67 = .ok (.invokevirtual 276, 3) := by decide +kernel
theorem dX10_chart_70 : decode cX10_chart 70 = .ok (.aload_n 0, 1) := by decide +kernel
theorem dX10_chart_71 : decode cX10_chart 71 = .ok (.getfield 56, 3) := by decide +kernel
theorem dX10_chart_74 : decode cX10_chart 74 = .ok (.iconst 0, 1) := by decide +kernel
theorem dX10_chart_75 : decode cX10_chart 75 = .ok (.iload_n 2, 1) := by decide +kernel
theorem dX10_chart_76 : decode cX10_chart 76 = .ok (.iload_n 3, 1) := by decide +kernel
theorem dX10_chart_77 : decode cX10_chart 77 = .ok (.invokevirtual 280, 3) := by decide +kernel
theorem dX10_chart_80 : decode cX10_chart 80 = .ok (.aload_n 0, 1) := by decide +kernel
theorem dX10_chart_81 : decode cX10_chart 81 = .ok (.getfield 56, 3) := by decide +kernel
theorem dX10_chart_84 : decode cX10_chart 84 = .ok (.iconst 1, 1) := by decide +kernel
theorem dX10_chart_85 : decode cX10_chart 85 = .ok (.iload_n 2, 1) := by decide +kernel
theorem dX10_chart_86 : decode cX10_chart 86 = .ok (.iload 4, 2) := by decide +kernel
theorem dX10_chart_88 : decode cX10_chart 88 = .ok (.invokevirtual 280, 3) := by decide +kernel
theorem dX10_chart_91 : decode cX10_chart 91 = .ok (.aload_n 0, 1) := by decide +kernel
theorem dX10_chart_92 : decode cX10_chart 92 = .ok (.getfield 63, 3) := by decide +kernel
theorem dX10_chart_95 : decode cX10_chart 95 = .ok (.iload_n 2, 1) := by decide +kernel
theorem dX10_chart_96 : decode cX10_chart 96 = .ok (.iload_n 3, 1) := by decide +kernel
theorem dX10_chart_97 : decode cX10_chart 97 = .ok (.iload 4, 2) := by decide +kernel
theorem dX10_chart_99 : decode cX10_chart 99 = .ok (.invokevirtual 282, 3) := by decide +kernel
theorem dX10_chart_102 : decode cX10_chart 102 = .ok (.aload_n 0, 1) := by decide +kernel
theorem dX10_chart_103 : decode cX10_chart 103 = .ok (.getfield 70, 3) := by decide +kernel
theorem dX10_chart_106 : decode cX10_chart 106 = .ok (.iconst 0, 1) := by decide +kernel
theorem dX10_chart_107 : decode cX10_chart 107 = .ok (.iload_n 2, 1) := by decide +kernel
theorem dX10_chart_108 : decode cX10_chart 108 = .ok (.iload_n 3, 1) := by decide +kernel
theorem dX10_chart_109 : decode cX10_chart 109 = .ok (.invokevirtual 283, 3) := by decide +kernel
theorem dX10_chart_112 : decode cX10_chart 112 = .ok (.aload_n 0, 1) := by decide +kernel
theorem dX10_chart_113 : decode cX10_chart 113 = .ok (.getfield 70, 3) := by decide +kernel
theorem dX10_chart_116 : decode cX10_chart 116 = .ok (.iconst 1, 1) := by decide +kernel
theorem dX10_chart_117 : decode cX10_chart 117 = .ok (.iload_n 2, 1) := by decide +kernel
theorem dX10_chart_118 : decode cX10_chart 118 = .ok (.iload 4, 2) := by decide +kernel
theorem dX10_chart_120 : decode cX10_chart 120 = .ok (.invokevirtual 283, 3) := by decide +kernel
theorem dX10_chart_123 : decode cX10_chart 123 = .ok (.iinc 1 1, 3) := by decide +kernel
theorem dX10_chart_126 : decode cX10_chart 126 = .ok (.goto (-116), 3) := by decide +kernel
theorem dX10_chart_129 : decode cX10_chart 129 = .ok (.aload_n 0, 1) := by decide +kernel
theorem dX10_chart_130 : decode cX10_chart 130 = .ok (.iconst 1, 1) := by decide +kernel
theorem dX10_chart_131 : decode cX10_chart 131 = .ok (.putfield 81, 3) := by decide +kernel
theorem dX10_chart_134 : decode cX10_chart 134 = .ok (.return_, 1) := by decide +kernel
theorem dX10_place_0 : decode cX10_place 0 = .ok (.iload_n 0, 1) := by decide +kernel
theorem dX10_place_1 : decode cX10_place 1 = .ok (.sipush 256, 3) := by decide +kernel
theorem dX10_place_4 : decode cX10_place 4 = .ok (.imul, 1) := by decide +kernel
theorem dX10_place_5 : decode cX10_place 5 = .ok (.iload_n 1, 1) := by decide +kernel
theorem dX10_place_6 : decode cX10_place 6 = .ok (.iadd, 1) := by decide +kernel
theorem dX10_place_7 : decode cX10_place 7 = .ok (.ireturn, 1) := by decide +kernel
set_option maxRecDepth 20000 in
theorem ggX10_evenBy_X4_isWonBy : GoodIn wsX10_evenBy wsX4_isWonBy := goodIn_r _ [8, 9, 10, 11, 12, 13, 42, 43] (by decide +kernel) (by decide +kernel)
set_option maxRecDepth 20000 in
theorem gX10_evenBy_X4_isWonBy : GoodIn wsX10_evenBy (wsV RX10 182 RX4 yX4_isWonBy wsX4_isWonBy) := goodIn_app (goodIn_of _ (by decide +kernel)) ggX10_evenBy_X4_isWonBy
set_option maxRecDepth 20000 in
theorem ggX10_evenBy_X4_winningKinds : GoodIn wsX10_evenBy wsX4_winningKinds := goodIn_r _ [17, 9, 11, 12, 13, 42, 43] (by decide +kernel) (by decide +kernel)
set_option maxRecDepth 20000 in
theorem gX10_evenBy_X4_winningKinds : GoodIn wsX10_evenBy (wsV RX10 284 RX4 yX4_winningKinds wsX4_winningKinds) := goodIn_app (goodIn_of _ (by decide +kernel)) ggX10_evenBy_X4_winningKinds
theorem dX10_evenBy_0 : decode cX10_evenBy 0 = .ok (.aload_n 0, 1) := by decide +kernel
theorem dX10_evenBy_1 : decode cX10_evenBy 1 = .ok (.getfield 26, 3) := by decide +kernel
theorem dX10_evenBy_4 : decode cX10_evenBy 4 = .ok (.getfield 135, 3) := by decide +kernel
theorem dX10_evenBy_7 : decode cX10_evenBy 7 = .ok (.istore_n 1, 1) := by decide +kernel
theorem dX10_evenBy_8 : decode cX10_evenBy 8 = .ok (.aload_n 0, 1) := by decide +kernel
theorem dX10_evenBy_9 : decode cX10_evenBy 9 = .ok (.getfield 47, 3) := by decide +kernel
theorem dX10_evenBy_12 : decode cX10_evenBy 12 = .ok (.iconst 0, 1) := by decide +kernel
theorem dX10_evenBy_13 : decode cX10_evenBy 13 = .ok (.iload_n 1, 1) := by decide +kernel
theorem dX10_evenBy_14 : decode cX10_evenBy 14 = .ok (.invokevirtual 182, 3) := by decide +kernel
theorem dX10_evenBy_17 : decode cX10_evenBy 17 = .ok (.ifCond .ne 18, 3) := by decide +kernel
theorem dX10_evenBy_20 : decode cX10_evenBy 20 = .ok (.aload_n 0, 1) := by decide +kernel
theorem dX10_evenBy_21 : decode cX10_evenBy 21 = .ok (.getfield 47, 3) := by decide +kernel
theorem dX10_evenBy_24 : decode cX10_evenBy 24 = .ok (.iconst 1, 1) := by decide +kernel
theorem dX10_evenBy_25 : decode cX10_evenBy 25 = .ok (.iload_n 1, 1) := by decide +kernel
theorem dX10_evenBy_26 : decode cX10_evenBy 26 = .ok (.invokevirtual 182, 3) := by decide +kernel
theorem dX10_evenBy_29 : decode cX10_evenBy 29 = .ok (.ifCond .ne 6, 3) := by decide +kernel
theorem dX10_evenBy_32 : decode cX10_evenBy 32 = .ok (.bipush (-2), 2) := by decide +kernel
theorem dX10_evenBy_34 : decode cX10_evenBy 34 = .ok (.ireturn, 1) := by decide +kernel
theorem dX10_evenBy_35 : decode cX10_evenBy 35 = .ok (.iconst 0, 1) := by decide +kernel
theorem dX10_evenBy_36 : decode cX10_evenBy 36 = .ok (.istore_n 2, 1) := by decide +kernel
theorem dX10_evenBy_37 : decode cX10_evenBy 37 = .ok (.iload_n 2, 1) := by decide +kernel
theorem dX10_evenBy_38 : decode cX10_evenBy 38 = .ok (.aload_n 0, 1) := by decide +kernel
theorem dX10_evenBy_39 : decode cX10_evenBy 39 = .ok (.getfield 19, 3) := by decide +kernel
theorem dX10_evenBy_42 : decode cX10_evenBy 42 = .ok (.getfield 117, 3) := by decide +kernel
theorem dX10_evenBy_45 : decode cX10_evenBy 45 = .ok (.if_icmp .ge 63, 3) := by decide +kernel
theorem dX10_evenBy_48 : decode cX10_evenBy 48 = .ok (.aload_n 0, 1) := by decide +kernel
theorem dX10_evenBy_49 : decode cX10_evenBy 49 = .ok (.getfield 47, 3) := by decide +kernel
theorem dX10_evenBy_52 : decode cX10_evenBy 52 = .ok (.iconst 0, 1) := by decide +kernel
theorem dX10_evenBy_53 : decode cX10_evenBy 53 = .ok (.iload_n 2, 1) := by decide +kernel
theorem dX10_evenBy_54 : decode cX10_evenBy 54 = .ok (.iload_n 1, 1) := by decide +kernel
theorem dX10_evenBy_55 : decode cX10_evenBy 55 = .ok (.invokevirtual 284, 3) := by decide +kernel
theorem dX10_evenBy_58 : decode cX10_evenBy 58 = .ok (.aload_n 0, 1) := by decide +kernel
theorem dX10_evenBy_59 : decode cX10_evenBy 59 = .ok (.getfield 47, 3) := by decide +kernel
theorem dX10_evenBy_62 : decode cX10_evenBy 62 = .ok (.iconst 1, 1) := by decide +kernel
theorem dX10_evenBy_63 : decode cX10_evenBy 63 = .ok (.iload_n 2, 1) := by decide +kernel
theorem dX10_evenBy_64 : decode cX10_evenBy 64 = .ok (.iload_n 1, 1) := by decide +kernel
theorem dX10_evenBy_65 : decode cX10_evenBy 65 = .ok (.invokevirtual 284, 3) := by decide +kernel
theorem dX10_evenBy_68 : decode cX10_evenBy 68 = .ok (.ior, 1) := by decide +kernel
theorem dX10_evenBy_69 : decode cX10_evenBy 69 = .ok (.istore_n 3, 1) := by decide +kernel
theorem dX10_evenBy_70 : decode cX10_evenBy 70 = .ok (.iconst 0, 1) := by decide +kernel
theorem dX10_evenBy_71 : decode cX10_evenBy 71 = .ok (.istore 4, 2) := by decide +kernel
theorem dX10_evenBy_73 : decode cX10_evenBy 73 = .ok (.iload 4, 2) := by decide +kernel
theorem dX10_evenBy_75 : decode cX10_evenBy 75 = .ok (.iconst 5, 1) := by decide +kernel
theorem dX10_evenBy_76 : decode cX10_evenBy 76 = .ok (.if_icmp .ge 26, 3) := by decide +kernel
theorem dX10_evenBy_79 : decode cX10_evenBy 79 = .ok (.iload_n 3, 1) := by decide +kernel
theorem dX10_evenBy_80 : decode cX10_evenBy 80 = .ok (.iload 4, 2) := by decide +kernel
theorem dX10_evenBy_82 : decode cX10_evenBy 82 = .ok (.ishr, 1) := by decide +kernel
theorem dX10_evenBy_83 : decode cX10_evenBy 83 = .ok (.iconst 1, 1) := by decide +kernel
theorem dX10_evenBy_84 : decode cX10_evenBy 84 = .ok (.iand, 1) := by decide +kernel
theorem dX10_evenBy_85 : decode cX10_evenBy 85 = .ok (.ifCond .ne 11, 3) := by decide +kernel
theorem dX10_evenBy_88 : decode cX10_evenBy 88 = .ok (.bipush 10, 2) := by decide +kernel
theorem dX10_evenBy_90 : decode cX10_evenBy 90 = .ok (.iload_n 2, 1) := by decide +kernel
theorem dX10_evenBy_91 : decode cX10_evenBy 91 = .ok (.imul, 1) := by decide +kernel
theorem dX10_evenBy_92 : decode cX10_evenBy 92 = .ok (.iload 4, 2) := by decide +kernel
theorem dX10_evenBy_94 : decode cX10_evenBy 94 = .ok (.iadd, 1) := by decide +kernel
theorem dX10_evenBy_95 : decode cX10_evenBy 95 = .ok (.ireturn, 1) := by decide +kernel
theorem dX10_evenBy_96 : decode cX10_evenBy 96 = .ok (.iinc 4 1, 3) := by decide +kernel
theorem dX10_evenBy_99 : decode cX10_evenBy 99 = .ok (.goto (-26), 3) := by decide +kernel
theorem dX10_evenBy_102 : decode cX10_evenBy 102 = .ok (.iinc 2 1, 3) := by decide +kernel
theorem dX10_evenBy_105 : decode cX10_evenBy 105 = .ok (.goto (-68), 3) := by decide +kernel
theorem dX10_evenBy_108 : decode cX10_evenBy 108 = .ok (.iconst (-1), 1) := by decide +kernel
theorem dX10_evenBy_109 : decode cX10_evenBy 109 = .ok (.ireturn, 1) := by decide +kernel
set_option maxRecDepth 20000 in
theorem ggX10_sortsOf_X4_winningKinds : GoodIn wsX10_sortsOf wsX4_winningKinds := goodIn_r _ [7, 8, 9, 10, 11, 35, 36] (by decide +kernel) (by decide +kernel)
set_option maxRecDepth 20000 in
theorem gX10_sortsOf_X4_winningKinds : GoodIn wsX10_sortsOf (wsV RX10 284 RX4 yX4_winningKinds wsX4_winningKinds) := goodIn_app (goodIn_of _ (by decide +kernel)) ggX10_sortsOf_X4_winningKinds
theorem dX10_sortsOf_0 : decode cX10_sortsOf 0 = .ok (.bipush 31, 2) := by decide +kernel
theorem dX10_sortsOf_2 : decode cX10_sortsOf 2 = .ok (.istore_n 2, 1) := by decide +kernel
theorem dX10_sortsOf_3 : decode cX10_sortsOf 3 = .ok (.iconst 0, 1) := by decide +kernel
theorem dX10_sortsOf_4 : decode cX10_sortsOf 4 = .ok (.istore_n 3, 1) := by decide +kernel
theorem dX10_sortsOf_5 : decode cX10_sortsOf 5 = .ok (.iload_n 3, 1) := by decide +kernel
theorem dX10_sortsOf_6 : decode cX10_sortsOf 6 = .ok (.aload_n 0, 1) := by decide +kernel
theorem dX10_sortsOf_7 : decode cX10_sortsOf 7 = .ok (.getfield 26, 3) := by decide +kernel
theorem dX10_sortsOf_10 : decode cX10_sortsOf 10 = .ok (.getfield 203, 3) := by decide +kernel
theorem dX10_sortsOf_13 : decode cX10_sortsOf 13 = .ok (.getfield 207, 3) := by decide +kernel
theorem dX10_sortsOf_16 : decode cX10_sortsOf 16 = .ok (.if_icmp .ge 81, 3) := by decide +kernel
theorem dX10_sortsOf_19 : decode cX10_sortsOf 19 = .ok (.aload_n 0, 1) := by decide +kernel
theorem dX10_sortsOf_20 : decode cX10_sortsOf 20 = .ok (.getfield 26, 3) := by decide +kernel
theorem dX10_sortsOf_23 : decode cX10_sortsOf 23 = .ok (.getfield 203, 3) := by decide +kernel
theorem dX10_sortsOf_26 : decode cX10_sortsOf 26 = .ok (.getfield 288, 3) := by decide +kernel
theorem dX10_sortsOf_29 : decode cX10_sortsOf 29 = .ok (.iload_n 3, 1) := by decide +kernel
theorem dX10_sortsOf_30 : decode cX10_sortsOf 30 = .ok (.iaload, 1) := by decide +kernel
theorem dX10_sortsOf_31 : decode cX10_sortsOf 31 = .ok (.iload_n 1, 1) := by decide +kernel
theorem dX10_sortsOf_32 : decode cX10_sortsOf 32 = .ok (.if_icmp .ne 59, 3) := by decide +kernel
theorem dX10_sortsOf_35 : decode cX10_sortsOf 35 = .ok (.aload_n 0, 1) := by decide +kernel
theorem dX10_sortsOf_36 : decode cX10_sortsOf 36 = .ok (.getfield 47, 3) := by decide +kernel
theorem dX10_sortsOf_39 : decode cX10_sortsOf 39 = .ok (.aload_n 0, 1) := by decide +kernel
theorem dX10_sortsOf_40 : decode cX10_sortsOf 40 = .ok (.getfield 26, 3) := by decide +kernel
theorem dX10_sortsOf_43 : decode cX10_sortsOf 43 = .ok (.getfield 203, 3) := by decide +kernel
theorem dX10_sortsOf_46 : decode cX10_sortsOf 46 = .ok (.getfield 291, 3) := by decide +kernel
theorem dX10_sortsOf_49 : decode cX10_sortsOf 49 = .ok (.iload_n 3, 1) := by decide +kernel
theorem dX10_sortsOf_50 : decode cX10_sortsOf 50 = .ok (.iaload, 1) := by decide +kernel
theorem dX10_sortsOf_51 : decode cX10_sortsOf 51 = .ok (.iload_n 1, 1) := by decide +kernel
theorem dX10_sortsOf_52 : decode cX10_sortsOf 52 = .ok (.aload_n 0, 1) := by decide +kernel
theorem dX10_sortsOf_53 : decode cX10_sortsOf 53 = .ok (.getfield 26, 3) := by decide +kernel
theorem dX10_sortsOf_56 : decode cX10_sortsOf 56 = .ok (.getfield 135, 3) := by decide +kernel
theorem dX10_sortsOf_59 : decode cX10_sortsOf 59 = .ok (.invokevirtual 284, 3) := by decide +kernel
theorem dX10_sortsOf_62 : decode cX10_sortsOf 62 = .ok (.istore 4, 2) := by decide +kernel
theorem dX10_sortsOf_64 : decode cX10_sortsOf 64 = .ok (.iload_n 2, 1) := by decide +kernel
theorem dX10_sortsOf_65 : decode cX10_sortsOf 65 = .ok (.aload_n 0, 1) := by decide +kernel
theorem dX10_sortsOf_66 : decode cX10_sortsOf 66 = .ok (.getfield 26, 3) := by decide +kernel
theorem dX10_sortsOf_69 : decode cX10_sortsOf 69 = .ok (.getfield 203, 3) := by decide +kernel
theorem dX10_sortsOf_72 : decode cX10_sortsOf 72 = .ok (.getfield 294, 3) := by decide +kernel
theorem dX10_sortsOf_75 : decode cX10_sortsOf 75 = .ok (.iload_n 3, 1) := by decide +kernel
theorem dX10_sortsOf_76 : decode cX10_sortsOf 76 = .ok (.baload, 1) := by decide +kernel
theorem dX10_sortsOf_77 : decode cX10_sortsOf 77 = .ok (.ifCond .eq 8, 3) := by decide +kernel
theorem dX10_sortsOf_80 : decode cX10_sortsOf 80 = .ok (.iload 4, 2) := by decide +kernel
theorem dX10_sortsOf_82 : decode cX10_sortsOf 82 = .ok (.goto 7, 3) := by decide +kernel
theorem dX10_sortsOf_85 : decode cX10_sortsOf 85 = .ok (.iload 4, 2) := by decide +kernel
theorem dX10_sortsOf_87 : decode cX10_sortsOf 87 = .ok (.iconst (-1), 1) := by decide +kernel
theorem dX10_sortsOf_88 : decode cX10_sortsOf 88 = .ok (.ixor, 1) := by decide +kernel
theorem dX10_sortsOf_89 : decode cX10_sortsOf 89 = .ok (.iand, 1) := by decide +kernel
theorem dX10_sortsOf_90 : decode cX10_sortsOf 90 = .ok (.istore_n 2, 1) := by decide +kernel
theorem dX10_sortsOf_91 : decode cX10_sortsOf 91 = .ok (.iinc 3 1, 3) := by decide +kernel
theorem dX10_sortsOf_94 : decode cX10_sortsOf 94 = .ok (.goto (-89), 3) := by decide +kernel
theorem dX10_sortsOf_97 : decode cX10_sortsOf 97 = .ok (.iload_n 2, 1) := by decide +kernel
theorem dX10_sortsOf_98 : decode cX10_sortsOf 98 = .ok (.ireturn, 1) := by decide +kernel
set_option maxRecDepth 20000 in
theorem ggX10_whomToLetBegin_X10_sortsOf : GoodIn wsX10_whomToLetBegin wsX10_sortsOf := goodIn_r _ [7, 2, 1, 8, 9, 10, 11, 12, 13, 14, 6, 15, 30, 31, 32, 33, 34, 35, 36, 37, 38, 39, 40, 41, 42, 43, 44, 45, 46, 47, 48, 49, 50, 51, 52, 53, 54] (by decide +kernel) (by decide +kernel)
set_option maxRecDepth 20000 in
theorem gX10_whomToLetBegin_X10_sortsOf : GoodIn wsX10_whomToLetBegin (wsV RX10 148 RX10 yX10_sortsOf wsX10_sortsOf) := goodIn_app (goodIn_of _ (by decide +kernel)) ggX10_whomToLetBegin_X10_sortsOf
set_option maxRecDepth 20000 in
theorem ggX10_whomToLetBegin_X4_winningKinds : GoodIn wsX10_whomToLetBegin wsX4_winningKinds := goodIn_r _ [12, 13, 14, 6, 15, 53, 54] (by decide +kernel) (by decide +kernel)
set_option maxRecDepth 20000 in
theorem gX10_whomToLetBegin_X4_winningKinds : GoodIn wsX10_whomToLetBegin (wsV RX10 284 RX4 yX4_winningKinds wsX4_winningKinds) := goodIn_app (goodIn_of _ (by decide +kernel)) ggX10_whomToLetBegin_X4_winningKinds
set_option maxRecDepth 20000 in
theorem ggX10_whomToLetBegin_X10_mostLeft : GoodIn wsX10_whomToLetBegin wsX10_mostLeft := goodIn_r _ [18, 19, 20, 21, 22, 23, 24, 25, 26, 27, 28, 29] (by decide +kernel) (by decide +kernel)
set_option maxRecDepth 20000 in
theorem gX10_whomToLetBegin_X10_mostLeft : GoodIn wsX10_whomToLetBegin (va_wsS RX10 298 yX10_mostLeft wsX10_mostLeft) := goodIn_app (goodIn_of _ (by decide +kernel)) ggX10_whomToLetBegin_X10_mostLeft
theorem dX10_whomToLetBegin_0 : decode cX10_whomToLetBegin 0 = .ok (.aload_n 0, 1) := by decide +kernel
theorem dX10_whomToLetBegin_1 : decode cX10_whomToLetBegin 1 = .ok (.iload_n 1, 1) := by decide +kernel
theorem dX10_whomToLetBegin_2 : decode cX10_whomToLetBegin 2 = .ok (.invokevirtual 148, 3) := by decide +kernel
theorem dX10_whomToLetBegin_5 : decode cX10_whomToLetBegin 5 = .ok (.istore_n 2, 1) := by decide +kernel
theorem dX10_whomToLetBegin_6 : decode cX10_whomToLetBegin 6 = .ok (.iload_n 2, 1) := by decide +kernel
theorem dX10_whomToLetBegin_7 : decode cX10_whomToLetBegin 7 = .ok (.ifCond .ne 5, 3) := by decide +kernel
theorem dX10_whomToLetBegin_10 : decode cX10_whomToLetBegin 10 = .ok (.iconst (-1), 1) := by decide +kernel
theorem dX10_whomToLetBegin_11 : decode cX10_whomToLetBegin 11 = .ok (.ireturn, 1) := by decide +kernel
theorem dX10_whomToLetBegin_12 : decode cX10_whomToLetBegin 12 = .ok (.iload_n 2, 1) := by decide +kernel
theorem dX10_whomToLetBegin_13 : decode cX10_whomToLetBegin 13 = .ok (.aload_n 0, 1) := by decide +kernel
theorem dX10_whomToLetBegin_14 : decode cX10_whomToLetBegin 14 = .ok (.getfield 47, 3) := by decide +kernel
theorem dX10_whomToLetBegin_17 : decode cX10_whomToLetBegin 17 = .ok (.iconst 0, 1) := by decide +kernel
theorem dX10_whomToLetBegin_18 : decode cX10_whomToLetBegin 18 = .ok (.iload_n 1, 1) := by decide +kernel
theorem dX10_whomToLetBegin_19 : decode cX10_whomToLetBegin 19 = .ok (.aload_n 0, 1) := by decide +kernel
theorem dX10_whomToLetBegin_20 : decode cX10_whomToLetBegin 20 = .ok (.getfield 26, 3) := by decide +kernel
theorem dX10_whomToLetBegin_23 : decode cX10_whomToLetBegin 23 = .ok (.getfield 135, 3) := by decide +kernel
theorem dX10_whomToLetBegin_26 : decode cX10_whomToLetBegin 26 = .ok (.invokevirtual 284, 3) := by decide +kernel
theorem dX10_whomToLetBegin_29 : decode cX10_whomToLetBegin 29 = .ok (.invokestatic 298, 3) := by decide +kernel
theorem dX10_whomToLetBegin_32 : decode cX10_whomToLetBegin 32 = .ok (.istore_n 3, 1) := by decide +kernel
theorem dX10_whomToLetBegin_33 : decode cX10_whomToLetBegin 33 = .ok (.iload_n 2, 1) := by decide +kernel
theorem dX10_whomToLetBegin_34 : decode cX10_whomToLetBegin 34 = .ok (.aload_n 0, 1) := by decide +kernel
theorem dX10_whomToLetBegin_35 : decode cX10_whomToLetBegin 35 = .ok (.getfield 47, 3) := by decide +kernel
theorem dX10_whomToLetBegin_38 : decode cX10_whomToLetBegin 38 = .ok (.iconst 1, 1) := by decide +kernel
theorem dX10_whomToLetBegin_39 : decode cX10_whomToLetBegin 39 = .ok (.iload_n 1, 1) := by decide +kernel
theorem dX10_whomToLetBegin_40 : decode cX10_whomToLetBegin 40 = .ok (.aload_n 0, 1) := by decide +kernel
theorem dX10_whomToLetBegin_41 : decode cX10_whomToLetBegin 41 = .ok (.getfield 26, 3) := by decide +kernel
theorem dX10_whomToLetBegin_44 : decode cX10_whomToLetBegin 44 = .ok (.getfield 135, 3) := by decide +kernel
theorem dX10_whomToLetBegin_47 : decode cX10_whomToLetBegin 47 = .ok (.invokevirtual 284, 3) := by decide +kernel
theorem dX10_whomToLetBegin_50 : decode cX10_whomToLetBegin 50 = .ok (.invokestatic 298, 3) := by decide +kernel
theorem dX10_whomToLetBegin_53 : decode cX10_whomToLetBegin 53 = .ok (.istore 4, 2) := by decide +kernel
theorem dX10_whomToLetBegin_55 : decode cX10_whomToLetBegin 55 = .ok (.iload 4, 2) := by decide +kernel
theorem dX10_whomToLetBegin_57 : decode cX10_whomToLetBegin 57 = .ok (.iload_n 3, 1) := by decide +kernel
theorem dX10_whomToLetBegin_58 : decode cX10_whomToLetBegin 58 = .ok (.if_icmp .ge 7, 3) := by decide +kernel
theorem dX10_whomToLetBegin_61 : decode cX10_whomToLetBegin 61 = .ok (.iconst 1, 1) := by decide +kernel
theorem dX10_whomToLetBegin_62 : decode cX10_whomToLetBegin 62 = .ok (.goto 4, 3) := by decide +kernel
theorem dX10_whomToLetBegin_65 : decode cX10_whomToLetBegin 65 = .ok (.iconst 0, 1) := by decide +kernel
theorem dX10_whomToLetBegin_66 : decode cX10_whomToLetBegin 66 = .ok (.ireturn, 1) := by decide +kernel
set_option maxRecDepth 20000 in
theorem ggX10_mostLeft_J6_bitCount_0f7a4 : GoodIn wsX10_mostLeft wsJ6_bitCount_0f7a4 := goodIn_r _ [8, 9, 10, 11] (by decide +kernel) (by decide +kernel)
set_option maxRecDepth 20000 in
theorem gX10_mostLeft_J6_bitCount_0f7a4 : GoodIn wsX10_mostLeft (va_wsS RX10 164 yJ6_bitCount_0f7a4 wsJ6_bitCount_0f7a4) := goodIn_app (goodIn_of _ (by decide +kernel)) ggX10_mostLeft_J6_bitCount_0f7a4
theorem dX10_mostLeft_0 : decode cX10_mostLeft 0 = .ok (.iload_n 0, 1) := by decide +kernel
theorem dX10_mostLeft_1 : decode cX10_mostLeft 1 = .ok (.iload_n 1, 1) := by decide +kernel
theorem dX10_mostLeft_2 : decode cX10_mostLeft 2 = .ok (.iand, 1) := by decide +kernel
theorem dX10_mostLeft_3 : decode cX10_mostLeft 3 = .ok (.invokestatic 164, 3) := by decide +kernel
theorem dX10_mostLeft_6 : decode cX10_mostLeft 6 = .ok (.iload_n 0, 1) := by decide +kernel
theorem dX10_mostLeft_7 : decode cX10_mostLeft 7 = .ok (.iload_n 1, 1) := by decide +kernel
theorem dX10_mostLeft_8 : decode cX10_mostLeft 8 = .ok (.iconst (-1), 1) := by decide +kernel
theorem dX10_mostLeft_9 : decode cX10_mostLeft 9 = .ok (.ixor, 1) := by decide +kernel
theorem dX10_mostLeft_10 : decode cX10_mostLeft 10 = .ok (.iand, 1) := by decide +kernel
theorem dX10_mostLeft_11 : decode cX10_mostLeft 11 = .ok (.invokestatic 164, 3) := by decide +kernel
theorem dX10_mostLeft_14 : decode cX10_mostLeft 14 = .ok (.invokestatic 301, 3) := by decide +kernel
theorem dX10_mostLeft_17 : decode cX10_mostLeft 17 = .ok (.ireturn, 1) := by decide +kernel
theorem dX11_init_0 : decode cX11_init 0 = .ok (.aload_n 0, 1) := by decide +kernel
theorem dX11_init_1 : decode cX11_init 1 = .ok (.invokespecial 1, 3) := by decide +kernel
theorem dX11_init_4 : decode cX11_init 4 = .ok (.aload_n 0, 1) := by decide +kernel
theorem dX11_init_5 : decode cX11_init 5 = .ok (.bipush 8, 2) := by decide +kernel
theorem dX11_init_7 : decode cX11_init 7 = .ok (.newarray .int, 2) := by decide +kernel
theorem dX11_init_9 : decode cX11_init 9 = .ok (.putfield 7, 3) := by decide +kernel
theorem dX11_init_12 : decode cX11_init 12 = .ok (.aload_n 0, 1) := by decide +kernel
theorem dX11_init_13 : decode cX11_init 13 = .ok (.bipush 8, 2) := by decide +kernel
theorem dX11_init_15 : decode cX11_init 15 = .ok (.newarray .int, 2) := by decide +kernel
theorem dX11_init_17 : decode cX11_init 17 = .ok (.putfield 13, 3) := by decide +kernel
theorem dX11_init_20 : decode cX11_init 20 = .ok (.aload_n 0, 1) := by decide +kernel
theorem dX11_init_21 : decode cX11_init 21 = .ok (.bipush 6, 2) := by decide +kernel
theorem dX11_init_23 : decode cX11_init 23 = .ok (.newarray .int, 2) := by decide +kernel
theorem dX11_init_25 : decode cX11_init 25 = .ok (.putfield 16, 3) := by decide +kernel
theorem dX11_init_28 : decode cX11_init 28 = .ok (.aload_n 0, 1) := by decide +kernel
theorem dX11_init_29 : decode cX11_init 29 = .ok (.bipush 6, 2) := by decide +kernel
theorem dX11_init_31 : decode cX11_init 31 = .ok (.newarray .int, 2) := by decide +kernel
theorem dX11_init_33 : decode cX11_init 33 = .ok (.putfield 19, 3) := by decide +kernel
theorem dX11_init_36 : decode cX11_init 36 = .ok (.aload_n 0, 1) := by decide +kernel
theorem dX11_init_37 : decode cX11_init 37 = .ok (.bipush 6, 2) := by decide +kernel
theorem dX11_init_39 : decode cX11_init 39 = .ok (.newarray .int, 2) := by decide +kernel
theorem dX11_init_41 : decode cX11_init 41 = .ok (.putfield 22, 3) := by decide +kernel
theorem dX11_init_44 : decode cX11_init 44 = .ok (.aload_n 0, 1) := by decide +kernel
theorem dX11_init_45 : decode cX11_init 45 = .ok (.bipush 26, 2) := by decide +kernel
theorem dX11_init_47 : decode cX11_init 47 = .ok (.newarray .byte, 2) := by decide +kernel
theorem dX11_init_49 : decode cX11_init 49 = .ok (.putfield 25, 3) := by decide +kernel
theorem dX11_init_52 : decode cX11_init 52 = .ok (.aload_n 0, 1) := by decide +kernel
theorem dX11_init_53 : decode cX11_init 53 = .ok (.sipush 512, 3) := by decide +kernel
theorem dX11_init_56 : decode cX11_init 56 = .ok (.newarray .int, 2) := by decide +kernel
theorem dX11_init_58 : decode cX11_init 58 = .ok (.putfield 29, 3) := by decide +kernel
theorem dX11_init_61 : decode cX11_init 61 = .ok (.aload_n 0, 1) := by decide +kernel
theorem dX11_init_62 : decode cX11_init 62 = .ok (.sipush 512, 3) := by decide +kernel
theorem dX11_init_65 : decode cX11_init 65 = .ok (.newarray .int, 2) := by decide +kernel
theorem dX11_init_67 : decode cX11_init 67 = .ok (.putfield 32, 3) := by decide +kernel
theorem dX11_init_70 : decode cX11_init 70 = .ok (.aload_n 0, 1) := by decide +kernel
theorem dX11_init_71 : decode cX11_init 71 = .ok (.sipush 256, 3) := by decide +kernel
theorem dX11_init_74 : decode cX11_init 74 = .ok (.newarray .int, 2) := by decide +kernel
theorem dX11_init_76 : decode cX11_init 76 = .ok (.putfield 35, 3) := by decide +kernel
theorem dX11_init_79 : decode cX11_init 79 = .ok (.aload_n 0, 1) := by decide +kernel
theorem dX11_init_80 : decode cX11_init 80 = .ok (.sipush 512, 3) := by decide +kernel
theorem dX11_init_83 : decode cX11_init 83 = .ok (.newarray .long, 2) := by decide +kernel
theorem dX11_init_85 : decode cX11_init 85 = .ok (.putfield 38, 3) := by decide +kernel
theorem dX11_init_88 : decode cX11_init 88 = .ok (.aload_n 0, 1) := by decide +kernel
theorem dX11_init_89 : decode cX11_init 89 = .ok (.bipush 10, 2) := by decide +kernel
theorem dX11_init_91 : decode cX11_init 91 = .ok (.newarray .int, 2) := by decide +kernel
theorem dX11_init_93 : decode cX11_init 93 = .ok (.putfield 42, 3) := by decide +kernel
theorem dX11_init_96 : decode cX11_init 96 = .ok (.aload_n 0, 1) := by decide +kernel
theorem dX11_init_97 : decode cX11_init 97 = .ok (.bipush 8, 2) := by decide +kernel
theorem dX11_init_99 : decode cX11_init 99 = .ok (.newarray .int, 2) := by decide +kernel
theorem dX11_init_101 : decode cX11_init 101 = .ok (.putfield 45, 3) := by decide +kernel
theorem dX11_init_104 : decode cX11_init 104 = .ok (.aload_n 0, 1) := by decide +kernel
theorem dX11_init_105 : decode cX11_init 105 = .ok (.bipush 6, 2) := by decide +kernel
theorem dX11_init_107 : decode cX11_init 107 = .ok (.newarray .int, 2) := by decide +kernel
theorem dX11_init_109 : decode cX11_init 109 = .ok (.putfield 48, 3) := by decide +kernel
theorem dX11_init_112 : decode cX11_init 112 = .ok (.aload_n 0, 1) := by decide +kernel
theorem dX11_init_113 : decode cX11_init 113 = .ok (.bipush 6, 2) := by decide +kernel
theorem dX11_init_115 : decode cX11_init 115 = .ok (.newarray .int, 2) := by decide +kernel
theorem dX11_init_117 : decode cX11_init 117 = .ok (.putfield 51, 3) := by decide +kernel
theorem dX11_init_120 : decode cX11_init 120 = .ok (.aload_n 0, 1) := by decide +kernel
theorem dX11_init_121 : decode cX11_init 121 = .ok (.bipush 6, 2) := by decide +kernel
theorem dX11_init_123 : decode cX11_init 123 = .ok (.newarray .int, 2) := by decide +kernel
theorem dX11_init_125 : decode cX11_init 125 = .ok (.putfield 54, 3) := by decide +kernel
theorem dX11_init_128 : decode cX11_init 128 = .ok (.return_, 1) := by decide +kernel
theorem dX11_within_0 : decode cX11_within 0 = .ok (.iload_n 0, 1) := by decide +kernel
theorem dX11_within_1 : decode cX11_within 1 = .ok (.iload_n 1, 1) := by decide +kernel
theorem dX11_within_2 : decode cX11_within 2 = .ok (.if_icmp .lt 12, 3) := by decide +kernel
theorem dX11_within_5 : decode cX11_within 5 = .ok (.iload_n 0, 1) := by decide +kernel
theorem dX11_within_6 : decode cX11_within 6 = .ok (.iload_n 2, 1) := by decide +kernel
theorem dX11_within_7 : decode cX11_within 7 = .ok (.if_icmp .gt 7, 3) := by decide +kernel
theorem dX11_within_10 : decode cX11_within 10 = .ok (.iconst 1, 1) := by decide +kernel
theorem dX11_within_11 : decode cX11_within 11 = .ok (.goto 4, 3) := by decide +kernel
theorem dX11_within_14 : decode cX11_within 14 = .ok (.iconst 0, 1) := by decide +kernel
theorem dX11_within_15 : decode cX11_within 15 = .ok (.ireturn, 1) := by decide +kernel
theorem dX11_isIn_0 : decode cX11_isIn 0 = .ok (.iload_n 0, 1) := by decide +kernel
theorem dX11_isIn_1 : decode cX11_isIn 1 = .ok (.iload_n 1, 1) := by decide +kernel
theorem dX11_isIn_2 : decode cX11_isIn 2 = .ok (.ishr, 1) := by decide +kernel
theorem dX11_isIn_3 : decode cX11_isIn 3 = .ok (.iconst 1, 1) := by decide +kernel
theorem dX11_isIn_4 : decode cX11_isIn 4 = .ok (.iand, 1) := by decide +kernel
theorem dX11_isIn_5 : decode cX11_isIn 5 = .ok (.iconst 1, 1) := by decide +kernel
theorem dX11_isIn_6 : decode cX11_isIn 6 = .ok (.if_icmp .ne 7, 3) := by decide +kernel
theorem dX11_isIn_9 : decode cX11_isIn 9 = .ok (.iconst 1, 1) := by decide +kernel
theorem dX11_isIn_10 : decode cX11_isIn 10 = .ok (.goto 4, 3) := by decide +kernel
theorem dX11_isIn_13 : decode cX11_isIn 13 = .ok (.iconst 0, 1) := by decide +kernel
theorem dX11_isIn_14 : decode cX11_isIn 14 = .ok (.ireturn, 1) := by decide +kernel
theorem dX11_size_0 : decode cX11_size 0 = .ok (.iconst 0, 1) := by decide +kernel
theorem dX11_size_1 : decode cX11_size 1 = .ok (.istore_n 1, 1) := by decide +kernel
theorem dX11_size_2 : decode cX11_size 2 = .ok (.iconst 0, 1) := by decide +kernel
theorem dX11_size_3 : decode cX11_size 3 = .ok (.istore_n 2, 1) := by decide +kernel
theorem dX11_size_4 : decode cX11_size 4 = .ok (.iload_n 2, 1) := by decide +kernel
theorem dX11_size_5 : decode cX11_size 5 = .ok (.bipush 8, 2) := by decide +kernel
theorem dX11_size_7 : decode cX11_size 7 = .ok (.if_icmp .ge 17, 3) := by decide +kernel
theorem dX11_size_10 : decode cX11_size 10 = .ok (.iload_n 1, 1) := by decide +kernel
theorem dX11_size_11 : decode cX11_size 11 = .ok (.iload_n 0, 1) := by decide +kernel
theorem dX11_size_12 : decode cX11_size 12 = .ok (.iload_n 2, 1) := by decide +kernel
theorem dX11_size_13 : decode cX11_size 13 = .ok (.ishr, 1) := by decide +kernel
theorem dX11_size_14 : decode cX11_size 14 = .ok (.iconst 1, 1) := by decide +kernel
theorem dX11_size_15 : decode cX11_size 15 = .ok (.iand, 1) := by decide +kernel
theorem dX11_size_16 : decode cX11_size 16 = .ok (.iadd, 1) := by decide +kernel
theorem dX11_size_17 : decode cX11_size 17 = .ok (.istore_n 1, 1) := by decide +kernel
theorem dX11_size_18 : decode cX11_size 18 = .ok (.iinc 2 1, 3) := by decide +kernel
theorem dX11_size_21 : decode cX11_size 21 = .ok (.goto (-17), 3) := by decide +kernel
theorem dX11_size_24 : decode cX11_size 24 = .ok (.iload_n 1, 1) := by decide +kernel
theorem dX11_size_25 : decode cX11_size 25 = .ok (.ireturn, 1) := by decide +kernel
set_option maxRecDepth 20000 in
theorem ggX11_letter_X11_within : GoodIn wsX11_letter wsX11_within := goodIn_r _ [6] (by decide +kernel) (by decide +kernel)
set_option maxRecDepth 20000 in
theorem gX11_letter_X11_within : GoodIn wsX11_letter (va_wsS RX11 57 yX11_within wsX11_within) := goodIn_app (goodIn_of _ (by decide +kernel)) ggX11_letter_X11_within
theorem dX11_letter_0 : decode cX11_letter 0 = .ok (.iload_n 1, 1) := by decide +kernel
theorem dX11_letter_1 : decode cX11_letter 1 = .ok (.bipush 32, 2) := by decide +kernel
theorem dX11_letter_3 : decode cX11_letter 3 = .ok (.bipush 126, 2) := by decide +kernel
