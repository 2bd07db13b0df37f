/-! the words of the law stand in the tables, piece by piece, each by its place -/
theorem in_p {ws big : List Cond} (ps : List Nat) (hp : ws = ps.filterMap (fun i => big[i]?)) : ∀ w ∈ ws, w ∈ big := by
  intro w hw
  rw [hp] at hw
  obtain ⟨i, -, hi⟩ := List.mem_filterMap.mp hw
  exact List.mem_of_getElem? hi
set_option maxRecDepth 20000 in
theorem wsL_law_r1_in : ∀ w ∈ wsL_law_r1, w ∈ lw_tbl := in_p [71, 72, 51, 757, 758, 62, 73, 74, 75, 76, 77, 78, 79, 80, 52, 277, 93, 94, 53, 278, 127, 128, 54, 279] (by decide +kernel)
set_option maxRecDepth 20000 in
theorem wsL_law_r2_in : ∀ w ∈ wsL_law_r2, w ∈ lw_tbl := in_p [280, 181, 182, 56, 281, 199, 200, 57, 282, 213, 214, 58, 283, 229, 230, 59, 284, 242, 243, 60, 285, 255, 256, 61] (by decide +kernel)
set_option maxRecDepth 20000 in
theorem wsL_law_r3_in : ∀ w ∈ wsL_law_r3, w ∈ lw_tbl := in_p [286, 287, 288, 289, 290, 81, 82, 83, 84, 92, 85, 86, 95, 96, 97, 98, 99, 126, 106, 108, 111, 113, 129, 130] (by decide +kernel)
set_option maxRecDepth 20000 in
theorem wsL_law_r4_in : ∀ w ∈ wsL_law_r4, w ∈ lw_tbl := in_p [131, 132, 158, 162, 164, 166, 133, 134, 55, 168, 135, 136, 137, 138, 139, 142, 144, 157, 146, 183, 184, 185, 186, 187] (by decide +kernel)
set_option maxRecDepth 20000 in
theorem wsL_law_r5_in : ∀ w ∈ wsL_law_r5, w ∈ lw_tbl := in_p [192, 201, 202, 203, 204, 212, 206, 205, 215, 216, 217, 218, 221, 219, 220, 231, 232, 233, 234, 236, 235, 244, 245, 246] (by decide +kernel)
set_option maxRecDepth 20000 in
theorem wsL_law_r6_in : ∀ w ∈ wsL_law_r6, w ∈ lw_tbl := in_p [247, 249, 248, 257, 258, 259, 260, 262, 264, 266, 261, 759, 760, 761, 762, 765, 766, 772, 773, 774, 443, 776, 779, 780] (by decide +kernel)
set_option maxRecDepth 20000 in
theorem wsL_law_r7_in : ∀ w ∈ wsL_law_r7, w ∈ lw_tbl := in_p [781, 782, 783, 792, 793, 794, 795, 320, 321, 322, 323, 324, 325, 326, 327, 328, 329, 330, 331, 866, 867, 868, 869, 775] (by decide +kernel)
set_option maxRecDepth 20000 in
theorem wsL_law_r8_in : ∀ w ∈ wsL_law_r8, w ∈ lw_tbl := in_p [870, 871, 872, 332, 333, 334, 335, 336, 337, 338, 339, 873, 874, 875, 876, 340, 341, 342, 343, 344, 345, 346, 347, 348] (by decide +kernel)
set_option maxRecDepth 20000 in
theorem wsL_law_r9_in : ∀ w ∈ wsL_law_r9, w ∈ lw_tbl := in_p [350, 0, 351, 352, 353, 354, 355, 357, 358, 359, 63, 360, 361, 362, 363, 364, 1131, 365, 366, 367, 368, 369, 1130, 371] (by decide +kernel)
set_option maxRecDepth 20000 in
theorem wsL_law_r10_in : ∀ w ∈ wsL_law_r10, w ∈ lw_tbl := in_p [372, 373, 374, 375, 376, 377, 378, 379, 380, 64, 381, 385, 386, 65, 387, 388, 389, 390, 382, 383, 384, 391, 392, 393] (by decide +kernel)
set_option maxRecDepth 20000 in
theorem wsL_law_r11_in : ∀ w ∈ wsL_law_r11, w ∈ lw_tbl := in_p [394, 395, 66, 396, 397, 398, 399, 400, 401, 402, 403, 404, 405, 406, 407, 408, 409, 410, 411, 412, 414, 415, 67, 416] (by decide +kernel)
set_option maxRecDepth 20000 in
theorem wsL_law_r12_in : ∀ w ∈ wsL_law_r12, w ∈ lw_tbl := in_p [417, 418, 419, 420, 421, 422, 423, 425, 427, 429, 430, 431, 432, 433, 68, 434, 435, 436, 437, 438, 439, 440, 441, 442] (by decide +kernel)
set_option maxRecDepth 20000 in
theorem wsL_law_r13_in : ∀ w ∈ wsL_law_r13, w ∈ lw_tbl := in_p [877, 878, 879, 880, 881, 883, 15, 884, 777, 778, 885, 887, 16, 888, 889, 890, 891, 444, 445, 446, 447, 448, 449, 450] (by decide +kernel)
set_option maxRecDepth 20000 in
theorem wsL_law_r14_in : ∀ w ∈ wsL_law_r14, w ∈ lw_tbl := in_p [451, 452, 453, 454, 455, 456, 461, 457, 458, 459, 460, 462, 463, 464, 465, 466, 467, 468, 469, 470, 472, 1, 473, 474] (by decide +kernel)
set_option maxRecDepth 20000 in
theorem wsL_law_r15_in : ∀ w ∈ wsL_law_r15, w ∈ lw_tbl := in_p [476, 2, 477, 478, 479, 480, 481, 482, 483, 484, 485, 486, 487, 488, 489, 490, 892, 893, 894, 895, 764, 767, 768, 769] (by decide +kernel)
set_option maxRecDepth 20000 in
theorem wsL_law_r16_in : ∀ w ∈ wsL_law_r16, w ∈ lw_tbl := in_p [763, 771, 491, 492, 493, 494, 495, 497, 3, 498, 499, 500, 501, 502, 503, 504, 505, 506, 507, 509, 4, 510, 511, 512] (by decide +kernel)
set_option maxRecDepth 20000 in
theorem wsL_law_r17_in : ∀ w ∈ wsL_law_r17, w ∈ lw_tbl := in_p [513, 514, 522, 515, 516, 517, 518, 520, 521, 523, 525, 5, 526, 528, 529, 527, 530, 531, 532, 533, 541, 542, 534, 535] (by decide +kernel)
set_option maxRecDepth 20000 in
theorem wsL_law_r18_in : ∀ w ∈ wsL_law_r18, w ∈ lw_tbl := in_p [536, 537, 538, 539, 543, 544, 545, 546, 547, 549, 6, 550, 551, 552, 554, 555, 553, 556, 557, 558, 559, 560, 561, 562] (by decide +kernel)
set_option maxRecDepth 20000 in
theorem wsL_law_r19_in : ∀ w ∈ wsL_law_r19, w ∈ lw_tbl := in_p [570, 563, 564, 69, 565, 566, 567, 568, 571, 572, 574, 7, 575, 576, 577, 578, 579, 580, 582, 8, 583, 584, 585, 586] (by decide +kernel)
set_option maxRecDepth 20000 in
theorem wsL_law_r20_in : ∀ w ∈ wsL_law_r20, w ∈ lw_tbl := in_p [588, 587, 896, 897, 898, 899, 900, 902, 17, 903, 904, 906, 18, 907, 908, 909, 910, 911, 913, 19, 914, 915, 917, 20] (by decide +kernel)
set_option maxRecDepth 20000 in
theorem wsL_law_r21_in : ∀ w ∈ wsL_law_r21, w ∈ lw_tbl := in_p [918, 919, 921, 21, 922, 923, 925, 22, 926, 927, 929, 23, 930, 931, 933, 24, 934, 935, 937, 25, 938, 939, 941, 26] (by decide +kernel)
set_option maxRecDepth 20000 in
theorem wsL_law_r22_in : ∀ w ∈ wsL_law_r22, w ∈ lw_tbl := in_p [942, 943, 945, 27, 946, 947, 949, 28, 950, 951, 952, 953, 589, 590, 591, 592, 593, 954, 955, 956, 957, 595, 596, 597] (by decide +kernel)
set_option maxRecDepth 20000 in
theorem wsL_law_r23_in : ∀ w ∈ wsL_law_r23, w ∈ lw_tbl := in_p [598, 599, 958, 959, 960, 961, 600, 601, 602, 603, 604, 962, 963, 964, 965, 605, 606, 607, 608, 609, 611, 9, 612, 966] (by decide +kernel)
set_option maxRecDepth 20000 in
theorem wsL_law_r24_in : ∀ w ∈ wsL_law_r24, w ∈ lw_tbl := in_p [967, 968, 969, 613, 614, 615, 616, 970, 971, 972, 973, 617, 618, 619, 620, 621, 622, 623, 624, 974, 975, 976, 977, 978] (by decide +kernel)
set_option maxRecDepth 20000 in
theorem wsL_law_r25_in : ∀ w ∈ wsL_law_r25, w ∈ lw_tbl := in_p [980, 29, 981, 982, 984, 30, 985, 625, 626, 627, 628, 629, 630, 631, 632, 633, 986, 987, 988, 989, 990, 992, 31, 993] (by decide +kernel)
set_option maxRecDepth 20000 in
theorem wsL_law_r26_in : ∀ w ∈ wsL_law_r26, w ∈ lw_tbl := in_p [994, 996, 32, 997, 998, 1000, 33, 1001, 1002, 634, 635, 636, 637, 638, 639, 640, 641, 1003, 1004, 1005, 1006, 1007, 1009, 34] (by decide +kernel)
set_option maxRecDepth 20000 in
theorem wsL_law_r27_in : ∀ w ∈ wsL_law_r27, w ∈ lw_tbl := in_p [1010, 642, 643, 644, 645, 646, 647, 648, 649, 1011, 1012, 1013, 1014, 1015, 1017, 35, 1018, 1019, 1021, 36, 1022, 1023, 1024, 1025] (by decide +kernel)
set_option maxRecDepth 20000 in
theorem wsL_law_r28_in : ∀ w ∈ wsL_law_r28, w ∈ lw_tbl := in_p [1026, 650, 651, 652, 653, 654, 1027, 1028, 1029, 1030, 1031, 1033, 37, 1034, 655, 656, 657, 658, 659, 661, 10, 662, 1035, 1036] (by decide +kernel)
set_option maxRecDepth 20000 in
theorem wsL_law_r29_in : ∀ w ∈ wsL_law_r29, w ∈ lw_tbl := in_p [1037, 1038, 770, 1039, 1041, 38, 1042, 1043, 1045, 39, 1046, 663, 664, 665, 666, 667, 668, 669, 670, 671, 1047, 1048, 1049, 1050] (by decide +kernel)
set_option maxRecDepth 20000 in
theorem wsL_law_r30_in : ∀ w ∈ wsL_law_r30, w ∈ lw_tbl := in_p [1051, 1053, 40, 1054, 1060, 1059, 1055, 1057, 41, 1058, 672, 673, 674, 675, 676, 677, 678, 679, 1061, 1062, 1063, 1064, 680, 681] (by decide +kernel)
set_option maxRecDepth 20000 in
theorem wsL_law_r31_in : ∀ w ∈ wsL_law_r31, w ∈ lw_tbl := in_p [682, 683, 1065, 1066, 1067, 1068, 684, 685, 686, 687, 688, 689, 690, 691, 692, 694, 11, 695, 696, 697, 699, 12, 700, 701] (by decide +kernel)
set_option maxRecDepth 20000 in
theorem wsL_law_r32_in : ∀ w ∈ wsL_law_r32, w ∈ lw_tbl := in_p [702, 704, 13, 705, 706, 707, 708, 709, 710, 1069, 1070, 1071, 1072, 1073, 1075, 42, 1076, 784, 785, 1077, 1079, 43, 1080, 1081] (by decide +kernel)
set_option maxRecDepth 20000 in
theorem wsL_law_r33_in : ∀ w ∈ wsL_law_r33, w ∈ lw_tbl := in_p [1083, 44, 1084, 1085, 1087, 45, 1088, 1089, 1090, 1091, 1092, 1093, 1094, 1095, 711, 712, 713, 714, 715, 716, 717, 718, 719, 721] (by decide +kernel)
set_option maxRecDepth 20000 in
theorem wsL_law_r34_in : ∀ w ∈ wsL_law_r34, w ∈ lw_tbl := in_p [720, 70, 722, 723, 724, 725, 1096, 1097, 1098, 1099, 786, 787, 788, 789, 790, 791, 726, 727, 728, 729, 1100, 1101, 1102, 1103] (by decide +kernel)
set_option maxRecDepth 20000 in
theorem wsL_law_r35_in : ∀ w ∈ wsL_law_r35, w ∈ lw_tbl := in_p [730, 731, 732, 733, 734, 735, 736, 737, 1104, 1105, 1106, 1107, 1108, 1110, 46, 1111, 1112, 1114, 47, 1115, 738, 739, 740, 741] (by decide +kernel)
set_option maxRecDepth 20000 in
theorem wsL_law_r36_in : ∀ w ∈ wsL_law_r36, w ∈ lw_tbl := in_p [742, 743, 744, 745, 747, 14, 748, 749, 750, 751, 752, 753, 754, 755, 756, 1116, 1117, 1118, 1119, 1120, 796, 1121, 1123, 48] (by decide +kernel)
set_option maxRecDepth 20000 in
theorem wsL_law_r37_in : ∀ w ∈ wsL_law_r37, w ∈ lw_tbl := in_p [1124, 1125, 1126, 1128, 49, 1129] (by decide +kernel)
set_option maxRecDepth 20000 in
theorem wsX100_in : ∀ w ∈ wsX100, w ∈ lw_tbl := in_p [291, 293, 295, 297, 299, 301, 303, 305, 307, 309, 311, 313, 315, 317] (by decide +kernel)
set_option maxRecDepth 20000 in
theorem wsX110_in : ∀ w ∈ wsX110, w ∈ lw_tbl := in_p [797, 799, 801, 803, 805, 807, 809, 811, 813, 815, 817, 819, 821, 823, 825, 827, 829, 831, 833, 835, 837, 839, 841, 843, 845, 847, 849, 851, 853, 855, 857, 859, 861, 863] (by decide +kernel)
set_option maxRecDepth 20000 in
theorem wsX50_in : ∀ w ∈ wsX50, w ∈ lw_tbl := in_p [87, 89] (by decide +kernel)
set_option maxRecDepth 20000 in
theorem wsX80_in : ∀ w ∈ wsX80, w ∈ lw_tbl := in_p [115, 117, 119, 121, 123] (by decide +kernel)
set_option maxRecDepth 20000 in
theorem wsX30_in : ∀ w ∈ wsX30, w ∈ lw_tbl := in_p [170, 172, 174, 176, 178] (by decide +kernel)
set_option maxRecDepth 20000 in
theorem wsX60_in : ∀ w ∈ wsX60, w ∈ lw_tbl := in_p [194, 196] (by decide +kernel)
set_option maxRecDepth 20000 in
theorem wsX40_in : ∀ w ∈ wsX40, w ∈ lw_tbl := in_p [207, 209] (by decide +kernel)
set_option maxRecDepth 20000 in
theorem wsX10_in : ∀ w ∈ wsX10, w ∈ lw_tbl := in_p [222, 224, 226] (by decide +kernel)
set_option maxRecDepth 20000 in
theorem wsX90_in : ∀ w ∈ wsX90, w ∈ lw_tbl := in_p [237, 239] (by decide +kernel)
set_option maxRecDepth 20000 in
theorem wsX00_in : ∀ w ∈ wsX00, w ∈ lw_tbl := in_p [250, 252] (by decide +kernel)
set_option maxRecDepth 20000 in
theorem wsX20_in : ∀ w ∈ wsX20, w ∈ lw_tbl := in_p [268, 270, 272, 274] (by decide +kernel)
set_option maxRecDepth 20000 in
theorem wsX70_in : ∀ w ∈ wsX70, w ∈ lw_tbl := in_p [148, 150, 152, 154] (by decide +kernel)
theorem wsL_law_in : ∀ w ∈ wsL_law, w ∈ lw_tbl := List.forall_mem_append.mpr ⟨List.forall_mem_append.mpr ⟨List.forall_mem_append.mpr ⟨List.forall_mem_append.mpr ⟨List.forall_mem_append.mpr ⟨List.forall_mem_append.mpr ⟨List.forall_mem_append.mpr ⟨List.forall_mem_append.mpr ⟨List.forall_mem_append.mpr ⟨List.forall_mem_append.mpr ⟨List.forall_mem_append.mpr ⟨List.forall_mem_append.mpr ⟨List.forall_mem_append.mpr ⟨List.forall_mem_append.mpr ⟨wsL_law_r1_in, List.forall_mem_append.mpr ⟨wsL_law_r2_in, List.forall_mem_append.mpr ⟨wsL_law_r3_in, List.forall_mem_append.mpr ⟨wsL_law_r4_in, List.forall_mem_append.mpr ⟨wsL_law_r5_in, List.forall_mem_append.mpr ⟨wsL_law_r6_in, List.forall_mem_append.mpr ⟨wsL_law_r7_in, List.forall_mem_append.mpr ⟨wsL_law_r8_in, List.forall_mem_append.mpr ⟨wsL_law_r9_in, List.forall_mem_append.mpr ⟨wsL_law_r10_in, List.forall_mem_append.mpr ⟨wsL_law_r11_in, List.forall_mem_append.mpr ⟨wsL_law_r12_in, List.forall_mem_append.mpr ⟨wsL_law_r13_in, List.forall_mem_append.mpr ⟨wsL_law_r14_in, List.forall_mem_append.mpr ⟨wsL_law_r15_in, List.forall_mem_append.mpr ⟨wsL_law_r16_in, List.forall_mem_append.mpr ⟨wsL_law_r17_in, List.forall_mem_append.mpr ⟨wsL_law_r18_in, List.forall_mem_append.mpr ⟨wsL_law_r19_in, List.forall_mem_append.mpr ⟨wsL_law_r20_in, List.forall_mem_append.mpr ⟨wsL_law_r21_in, List.forall_mem_append.mpr ⟨wsL_law_r22_in, List.forall_mem_append.mpr ⟨wsL_law_r23_in, List.forall_mem_append.mpr ⟨wsL_law_r24_in, List.forall_mem_append.mpr ⟨wsL_law_r25_in, List.forall_mem_append.mpr ⟨wsL_law_r26_in, List.forall_mem_append.mpr ⟨wsL_law_r27_in, List.forall_mem_append.mpr ⟨wsL_law_r28_in, List.forall_mem_append.mpr ⟨wsL_law_r29_in, List.forall_mem_append.mpr ⟨wsL_law_r30_in, List.forall_mem_append.mpr ⟨wsL_law_r31_in, List.forall_mem_append.mpr ⟨wsL_law_r32_in, List.forall_mem_append.mpr ⟨wsL_law_r33_in, List.forall_mem_append.mpr ⟨wsL_law_r34_in, List.forall_mem_append.mpr ⟨wsL_law_r35_in, List.forall_mem_append.mpr ⟨wsL_law_r36_in, wsL_law_r37_in⟩⟩⟩⟩⟩⟩⟩⟩⟩⟩⟩⟩⟩⟩⟩⟩⟩⟩⟩⟩⟩⟩⟩⟩⟩⟩⟩⟩⟩⟩⟩⟩⟩⟩⟩⟩, wsX100_in⟩, wsX110_in⟩, wsX50_in⟩, wsX80_in⟩, wsX30_in⟩, wsX60_in⟩, wsX40_in⟩, wsX10_in⟩, wsX90_in⟩, wsX00_in⟩, wsX20_in⟩, wsX70_in⟩, fun _ h => absurd h List.not_mem_nil⟩
set_option maxRecDepth 20000 in
theorem nwL_in : ∀ w ∈ nwL, w ∈ lw_tbl := in_p [100, 101, 102, 103, 104, 105, 107, 109, 110, 112, 114, 140, 141, 143, 145, 147, 159, 160, 161, 163, 165, 167, 169, 188, 189, 190, 191, 193, 263, 265, 267, 519, 540, 569] (by decide +kernel)
