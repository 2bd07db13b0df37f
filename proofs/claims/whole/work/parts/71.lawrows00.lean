set_option maxRecDepth 20000 in
theorem ggL_law_X10_init : GoodIn wsL_law wsX10_init := goodIn_r _ [8, 9, 10, 11, 12, 13, 14, 15, 16, 17, 18, 19, 20, 21, 22, 23, 24, 25, 26, 27, 28, 29, 30, 31, 32, 33, 34, 35, 36, 37, 38, 39, 40, 41, 42, 43, 44, 45, 46, 47, 48, 49, 50, 51, 52, 53, 54, 55, 56, 57, 58, 59, 60, 61, 62, 63, 64, 65, 66, 67, 68, 69, 70, 71, 72, 73, 74, 75, 76, 77, 78, 79, 80, 81, 82, 83, 84, 85, 86, 87, 88, 89, 90, 91, 92, 93, 94, 95, 96, 97, 98, 99, 100, 101, 102, 103, 104, 105, 106, 107, 108, 109, 110, 111, 112, 113, 114, 115, 116, 117, 118, 119, 120, 121, 122, 123, 124, 125, 126, 127, 128, 129, 130, 918, 919, 870, 871, 872, 873, 874, 875, 876, 877, 878, 879, 880, 881, 882, 883, 920, 921, 922, 923, 924, 925, 926, 927, 928, 929, 930, 931, 932, 933, 934, 935, 936, 937, 938, 939, 940, 941, 942, 943, 944, 945, 946, 947, 948] (by decide +kernel) (by decide +kernel)
set_option maxRecDepth 20000 in
theorem gL_law_X10_init : GoodIn wsL_law (wsX10_init) := ggL_law_X10_init
set_option maxRecDepth 20000 in
theorem ggL_law_X11_init : GoodIn wsL_law wsX11_init := goodIn_r _ [133, 134, 10, 11, 65, 135, 136, 137, 138, 139, 140, 141, 142, 143, 144, 101, 145, 146, 147, 148, 149, 150, 884, 885, 886, 887, 888, 889, 890, 891, 892, 893, 894, 895, 896, 897, 898, 899, 900, 901, 902, 903, 904, 905, 906, 907, 908, 909, 910, 911, 912, 913, 914, 915, 916, 917] (by decide +kernel) (by decide +kernel)
set_option maxRecDepth 20000 in
theorem gL_law_X11_init : GoodIn wsL_law (wsX11_init) := ggL_law_X11_init
set_option maxRecDepth 20000 in
theorem ggL_law_X10_letter : GoodIn wsL_law wsX10_letter := goodIn_r _ [154, 15, 155, 156, 157, 14, 158, 59, 159, 160, 161, 162, 58, 870, 871, 872, 873, 874, 875, 876, 877, 878, 879, 880, 881, 882, 883, 918, 919] (by decide +kernel) (by decide +kernel)
set_option maxRecDepth 20000 in
theorem gL_law_X10_letter : GoodIn wsL_law (wsV RL 13 RX10 yX10_letter wsX10_letter) := goodIn_app (goodIn_of _ (by decide +kernel)) ggL_law_X10_letter
set_option maxRecDepth 20000 in
theorem ggL_law_X11_letter : GoodIn wsL_law wsX11_letter := goodIn_r _ [166, 167, 141, 168, 169, 5, 170, 884, 885, 886, 887, 888, 889, 890, 891, 892, 893, 894, 895, 896, 897, 898, 899, 900, 901, 902, 903, 904, 905, 906, 907, 908, 909, 910, 911, 912, 913, 914, 915, 916, 917] (by decide +kernel) (by decide +kernel)
set_option maxRecDepth 20000 in
theorem gL_law_X11_letter : GoodIn wsL_law (wsV RL 17 RX11 yX11_letter wsX11_letter) := goodIn_app (goodIn_of _ (by decide +kernel)) ggL_law_X11_letter
set_option maxRecDepth 20000 in
theorem ggL_law_X10_blank : GoodIn wsL_law wsX10_blank := goodIn_r _ [174, 15, 155, 156, 157, 14, 158, 59, 175, 176, 177, 178, 870, 871, 872, 873, 874, 875, 876, 877, 878, 879, 880, 881, 882, 883, 918, 919] (by decide +kernel) (by decide +kernel)
set_option maxRecDepth 20000 in
theorem gL_law_X10_blank : GoodIn wsL_law (wsV RL 18 RX10 yX10_blank wsX10_blank) := goodIn_app (goodIn_of _ (by decide +kernel)) ggL_law_X10_blank
set_option maxRecDepth 20000 in
theorem ggL_law_X11_blank : GoodIn wsL_law wsX11_blank := goodIn_r _ [182, 167, 884, 885, 886, 887, 888, 889, 890, 891, 892, 893, 894, 895, 896, 897, 898, 899, 900, 901, 902, 903, 904, 905, 906, 907, 908, 909, 910, 911, 912, 913, 914, 915, 916, 917] (by decide +kernel) (by decide +kernel)
set_option maxRecDepth 20000 in
theorem gL_law_X11_blank : GoodIn wsL_law (wsV RL 22 RX11 yX11_blank wsX11_blank) := goodIn_app (goodIn_of _ (by decide +kernel)) ggL_law_X11_blank
set_option maxRecDepth 20000 in
theorem ggL_law_X10_fault : GoodIn wsL_law wsX10_fault := goodIn_r _ [186, 15, 187, 188, 189, 14, 190, 59, 191, 192, 193, 194, 195, 196, 197, 198, 58, 199, 200, 201, 202, 203, 204, 205, 206, 207, 208, 209, 210, 211, 212, 213, 214, 215, 216, 217, 218, 219, 220, 221, 222, 223, 224, 225, 226, 227, 228, 229, 230, 231, 232, 233, 234, 235, 236, 237, 238, 239, 240, 241, 242, 243, 244, 245, 246, 247, 248, 249, 250, 251, 252, 253, 254, 255, 256, 257, 258, 259, 260, 261, 262, 263, 264, 265, 266, 267, 268, 269, 270, 271, 272, 273, 274, 275, 276, 277, 278, 279, 280, 281, 282, 283, 284, 285, 286, 287, 870, 871, 872, 873, 874, 875, 876, 877, 878, 879, 880, 881, 882, 883, 918, 919] (by decide +kernel) (by decide +kernel)
set_option maxRecDepth 20000 in
theorem gL_law_X10_fault : GoodIn wsL_law (wsV RL 23 RX10 yX10_fault wsX10_fault) := goodIn_app (goodIn_of _ (by decide +kernel)) ggL_law_X10_fault
set_option maxRecDepth 20000 in
theorem ggL_law_X11_fault : GoodIn wsL_law wsX11_fault := goodIn_r _ [291, 292, 293, 294, 5, 295, 296, 297, 167, 298, 299, 300, 301, 141, 302, 303, 304, 168, 169, 170, 884, 885, 886, 887, 888, 889, 890, 891, 892, 893, 894, 895, 896, 897, 898, 899, 900, 901, 902, 903, 904, 905, 906, 907, 908, 909, 910, 911, 912, 913, 914, 915, 916, 917] (by decide +kernel) (by decide +kernel)
set_option maxRecDepth 20000 in
theorem gL_law_X11_fault : GoodIn wsL_law (wsV RL 26 RX11 yX11_fault wsX11_fault) := goodIn_app (goodIn_of _ (by decide +kernel)) ggL_law_X11_fault
set_option maxRecDepth 20000 in
theorem ggL_law_X10_hedge : GoodIn wsL_law wsX10_hedge := goodIn_r _ [308, 15, 19, 23, 49, 50, 51, 309, 310, 311, 14, 312, 59, 313, 188, 189, 190, 191, 192, 193, 194, 195, 196, 197, 198, 58, 199, 200, 201, 202, 203, 204, 205, 206, 207, 208, 209, 210, 211, 212, 213, 214, 215, 216, 217, 218, 219, 220, 221, 222, 223, 224, 225, 226, 227, 228, 229, 230, 231, 232, 233, 234, 235, 236, 237, 238, 239, 240, 241, 242, 243, 244, 245, 246, 247, 248, 249, 250, 251, 252, 253, 254, 255, 256, 257, 258, 259, 260, 261, 262, 263, 264, 265, 266, 267, 268, 269, 270, 271, 272, 273, 274, 275, 276, 277, 278, 279, 280, 281, 282, 283, 284, 285, 286, 287, 314, 315, 316, 18, 317, 318, 64, 66, 67, 319, 320, 321, 322, 323, 324, 325, 326, 327, 328, 329, 330, 331, 332, 333, 334, 69, 68, 335, 336, 337, 338, 339, 340, 341, 342, 343, 344, 345, 22, 346, 74, 75, 76, 77, 81, 347, 348, 349, 350, 351, 175, 176, 177, 178, 870, 871, 872, 873, 874, 875, 876, 877, 878, 879, 880, 881, 882, 883, 920, 921, 922, 923, 924, 918, 919, 925, 926, 927, 928, 929, 945, 946, 947, 948] (by decide +kernel) (by decide +kernel)
set_option maxRecDepth 20000 in
theorem gL_law_X10_hedge : GoodIn wsL_law (wsV RL 27 RX10 yX10_hedge wsX10_hedge) := goodIn_app (goodIn_of _ (by decide +kernel)) ggL_law_X10_hedge
set_option maxRecDepth 20000 in
theorem ggL_law_X11_hedge : GoodIn wsL_law wsX11_hedge := goodIn_r _ [355, 296, 297, 356, 135, 141, 136, 357, 358, 359, 360, 361, 167, 292, 293, 294, 5, 295, 298, 299, 300, 301, 302, 303, 304, 168, 169, 170, 884, 885, 886, 887, 888, 889, 890, 891, 892, 893, 894, 895, 896, 897, 898, 899, 900, 901, 902, 903, 904, 905, 906, 907, 908, 909, 910, 911, 912, 913, 914, 915, 916, 917] (by decide +kernel) (by decide +kernel)
set_option maxRecDepth 20000 in
theorem gL_law_X11_hedge : GoodIn wsL_law (wsV RL 30 RX11 yX11_hedge wsX11_hedge) := goodIn_app (goodIn_of _ (by decide +kernel)) ggL_law_X11_hedge
set_option maxRecDepth 20000 in
theorem ggL_law_X10_branch : GoodIn wsL_law wsX10_branch := goodIn_r _ [365, 23, 19, 28, 366, 367, 368, 2, 369, 370, 371, 372, 27, 373, 95, 96, 374, 375, 376, 377, 378, 379, 380, 381, 49, 32, 36, 40, 44, 382, 383, 384, 31, 385, 103, 102, 386, 387, 388, 389, 390, 391, 392, 393, 394, 395, 396, 397, 398, 399, 400, 401, 402, 35, 403, 110, 109, 108, 404, 228, 229, 230, 405, 232, 233, 406, 407, 408, 409, 410, 411, 412, 413, 414, 39, 415, 115, 416, 417, 418, 419, 420, 421, 116, 422, 423, 424, 425, 426, 427, 428, 429, 430, 43, 431, 121, 432, 122, 433, 434, 435, 436, 437, 438, 439, 440, 441, 442, 443, 444, 445, 446, 447, 448, 449, 450, 451, 452, 453, 454, 455, 456, 457, 870, 871, 872, 873, 874, 875, 876, 877, 878, 879, 880, 881, 882, 883, 925, 926, 927, 928, 929, 920, 921, 922, 923, 924, 930, 931, 932, 933, 934, 935, 936, 937, 938, 939, 940, 945, 946, 947, 948] (by decide +kernel) (by decide +kernel)
set_option maxRecDepth 20000 in
theorem gL_law_X10_branch : GoodIn wsL_law (wsV RL 31 RX10 yX10_branch wsX10_branch) := goodIn_app (goodIn_of _ (by decide +kernel)) ggL_law_X10_branch
set_option maxRecDepth 20000 in
theorem ggL_law_X11_branch : GoodIn wsL_law wsX11_branch := goodIn_r _ [461, 462, 463, 464, 5, 465, 356, 168, 169, 170, 466, 467, 468, 469, 135, 136, 357, 470, 471, 472, 473, 474, 475, 476, 477, 478, 479, 480, 481, 482, 483, 484, 485, 486, 487, 488, 361, 137, 146, 138, 139, 489, 490, 491, 492, 142, 493, 494, 495, 496, 497, 498, 499, 500, 501, 502, 503, 504, 505, 506, 507, 508, 509, 510, 511, 512, 513, 514, 515, 884, 885, 886, 887, 888, 889, 890, 891, 892, 893, 894, 895, 896, 897, 898, 899, 900, 901, 902, 903, 904, 905, 906, 907, 908, 909, 910, 911, 912, 913, 914, 915, 916, 917] (by decide +kernel) (by decide +kernel)
set_option maxRecDepth 20000 in
theorem gL_law_X11_branch : GoodIn wsL_law (wsV RL 35 RX11 yX11_branch wsX11_branch) := goodIn_app (goodIn_of _ (by decide +kernel)) ggL_law_X11_branch
set_option maxRecDepth 20000 in
theorem ggL_law_X10_as : GoodIn wsL_law wsX10_as := goodIn_r _ [519, 520, 23, 366, 367, 368, 2, 369, 19, 870, 871, 872, 873, 874, 875, 876, 877, 878, 879, 880, 881, 882, 883, 925, 926, 927, 928, 929, 920, 921, 922, 923, 924] (by decide +kernel) (by decide +kernel)
set_option maxRecDepth 20000 in
theorem gL_law_X10_as : GoodIn wsL_law (wsV RL 36 RX10 yX10_as wsX10_as) := goodIn_app (goodIn_of _ (by decide +kernel)) ggL_law_X10_as
set_option maxRecDepth 20000 in
theorem ggL_law_X11_as : GoodIn wsL_law wsX11_as := goodIn_r _ [524, 135, 462, 463, 464, 5, 465, 356, 168, 169, 170, 884, 885, 886, 887, 888, 889, 890, 891, 892, 893, 894, 895, 896, 897, 898, 899, 900, 901, 902, 903, 904, 905, 906, 907, 908, 909, 910, 911, 912, 913, 914, 915, 916, 917] (by decide +kernel) (by decide +kernel)
set_option maxRecDepth 20000 in
theorem gL_law_X11_as : GoodIn wsL_law (wsV RL 39 RX11 yX11_as wsX11_as) := goodIn_app (goodIn_of _ (by decide +kernel)) ggL_law_X11_as
set_option maxRecDepth 20000 in
theorem ggL_law_X10_cut : GoodIn wsL_law wsX10_cut := goodIn_r _ [528, 28, 23, 366, 367, 368, 2, 369, 19, 370, 371, 372, 27, 373, 95, 96, 374, 375, 376, 377, 457, 434, 435, 436, 437, 438, 439, 529, 388, 389, 390, 870, 871, 872, 873, 874, 875, 876, 877, 878, 879, 880, 881, 882, 883, 925, 926, 927, 928, 929, 920, 921, 922, 923, 924, 930, 931] (by decide +kernel) (by decide +kernel)
set_option maxRecDepth 20000 in
theorem gL_law_X10_cut : GoodIn wsL_law (wsV RL 40 RX10 yX10_cut wsX10_cut) := goodIn_app (goodIn_of _ (by decide +kernel)) ggL_law_X10_cut
set_option maxRecDepth 20000 in
theorem ggL_law_X11_cut : GoodIn wsL_law wsX11_cut := goodIn_r _ [533, 358, 357, 359, 462, 463, 464, 5, 465, 356, 168, 169, 170, 473, 474, 475, 476, 135, 470, 471, 472, 477, 478, 479, 480, 136, 501, 502, 503, 504, 481, 482, 483, 484, 513, 514, 515, 884, 885, 886, 887, 888, 889, 890, 891, 892, 893, 894, 895, 896, 897, 898, 899, 900, 901, 902, 903, 904, 905, 906, 907, 908, 909, 910, 911, 912, 913, 914, 915, 916, 917] (by decide +kernel) (by decide +kernel)
set_option maxRecDepth 20000 in
theorem gL_law_X11_cut : GoodIn wsL_law (wsV RL 43 RX11 yX11_cut wsX11_cut) := goodIn_app (goodIn_of _ (by decide +kernel)) ggL_law_X11_cut
set_option maxRecDepth 20000 in
theorem ggL_law_X10_grow : GoodIn wsL_law wsX10_grow := goodIn_r _ [537, 23, 19, 366, 367, 368, 2, 369, 538, 340, 341, 18, 342, 66, 457, 434, 435, 436, 437, 438, 439, 870, 871, 872, 873, 874, 875, 876, 877, 878, 879, 880, 881, 882, 883, 925, 926, 927, 928, 929, 920, 921, 922, 923, 924] (by decide +kernel) (by decide +kernel)
set_option maxRecDepth 20000 in
theorem gL_law_X10_grow : GoodIn wsL_law (wsV RL 44 RX10 yX10_grow wsX10_grow) := goodIn_app (goodIn_of _ (by decide +kernel)) ggL_law_X10_grow
set_option maxRecDepth 20000 in
theorem ggL_law_X11_grow : GoodIn wsL_law wsX11_grow := goodIn_r _ [542, 357, 136, 462, 463, 464, 5, 465, 356, 168, 169, 170, 470, 471, 472, 513, 514, 515, 884, 885, 886, 887, 888, 889, 890, 891, 892, 893, 894, 895, 896, 897, 898, 899, 900, 901, 902, 903, 904, 905, 906, 907, 908, 909, 910, 911, 912, 913, 914, 915, 916, 917] (by decide +kernel) (by decide +kernel)
set_option maxRecDepth 20000 in
theorem gL_law_X11_grow : GoodIn wsL_law (wsV RL 47 RX11 yX11_grow wsX11_grow) := goodIn_app (goodIn_of _ (by decide +kernel)) ggL_law_X11_grow
set_option maxRecDepth 20000 in
theorem ggL_law_X10_pass : GoodIn wsL_law wsX10_pass := goodIn_r _ [546, 23, 547, 548, 549, 2, 550, 19, 870, 871, 872, 873, 874, 875, 876, 877, 878, 879, 880, 881, 882, 883, 925, 926, 927, 928, 929, 920, 921, 922, 923, 924] (by decide +kernel) (by decide +kernel)
set_option maxRecDepth 20000 in
theorem gL_law_X10_pass : GoodIn wsL_law (wsV RL 48 RX10 yX10_pass wsX10_pass) := goodIn_app (goodIn_of _ (by decide +kernel)) ggL_law_X10_pass
set_option maxRecDepth 20000 in
theorem ggL_law_X11_pass : GoodIn wsL_law wsX11_pass := goodIn_r _ [554, 356, 358, 884, 885, 886, 887, 888, 889, 890, 891, 892, 893, 894, 895, 896, 897, 898, 899, 900, 901, 902, 903, 904, 905, 906, 907, 908, 909, 910, 911, 912, 913, 914, 915, 916, 917] (by decide +kernel) (by decide +kernel)
set_option maxRecDepth 20000 in
theorem gL_law_X11_pass : GoodIn wsL_law (wsV RL 51 RX11 yX11_pass wsX11_pass) := goodIn_app (goodIn_of _ (by decide +kernel)) ggL_law_X11_pass
set_option maxRecDepth 20000 in
theorem ggL_law_X10_graft : GoodIn wsL_law wsX10_graft := goodIn_r _ [558, 23, 49, 366, 367, 368, 2, 369, 19, 870, 871, 872, 873, 874, 875, 876, 877, 878, 879, 880, 881, 882, 883, 925, 926, 927, 928, 929, 920, 921, 922, 923, 924] (by decide +kernel) (by decide +kernel)
set_option maxRecDepth 20000 in
theorem gL_law_X10_graft : GoodIn wsL_law (wsV RL 52 RX10 yX10_graft wsX10_graft) := goodIn_app (goodIn_of _ (by decide +kernel)) ggL_law_X10_graft
set_option maxRecDepth 20000 in
theorem ggL_law_X11_graft : GoodIn wsL_law wsX11_graft := goodIn_r _ [562, 135, 462, 463, 464, 5, 465, 356, 168, 169, 170, 884, 885, 886, 887, 888, 889, 890, 891, 892, 893, 894, 895, 896, 897, 898, 899, 900, 901, 902, 903, 904, 905, 906, 907, 908, 909, 910, 911, 912, 913, 914, 915, 916, 917] (by decide +kernel) (by decide +kernel)
set_option maxRecDepth 20000 in
theorem gL_law_X11_graft : GoodIn wsL_law (wsV RL 55 RX11 yX11_graft wsX11_graft) := goodIn_app (goodIn_of _ (by decide +kernel)) ggL_law_X11_graft
set_option maxRecDepth 20000 in
theorem ggL_law_X10_wins : GoodIn wsL_law wsX10_wins := goodIn_r _ [566, 32, 23, 567, 568, 2, 569, 547, 548, 549, 550, 19, 378, 379, 380, 381, 49, 28, 36, 40, 44, 370, 371, 372, 27, 373, 95, 96, 374, 375, 376, 377, 382, 383, 384, 31, 385, 103, 102, 386, 387, 388, 389, 390, 391, 392, 393, 394, 395, 396, 397, 398, 399, 400, 401, 402, 35, 403, 110, 109, 108, 404, 228, 229, 230, 405, 232, 233, 406, 407, 408, 409, 410, 411, 412, 413, 414, 39, 415, 115, 416, 417, 418, 419, 420, 421, 116, 422, 423, 424, 425, 426, 427, 428, 429, 430, 43, 431, 121, 432, 122, 433, 434, 435, 436, 437, 438, 439, 440, 570, 870, 871, 872, 873, 874, 875, 876, 877, 878, 879, 880, 881, 882, 883, 925, 926, 927, 928, 929, 920, 921, 922, 923, 924, 930, 931, 932, 933, 934, 935, 936, 937, 938, 939, 940] (by decide +kernel) (by decide +kernel)
set_option maxRecDepth 20000 in
theorem gL_law_X10_wins : GoodIn wsL_law (wsV RL 56 RX10 yX10_wins wsX10_wins) := goodIn_app (goodIn_of _ (by decide +kernel)) ggL_law_X10_wins
set_option maxRecDepth 20000 in
theorem ggL_law_X11_wins : GoodIn wsL_law wsX11_wins := goodIn_r _ [574, 575, 576, 577, 5, 578, 356, 168, 169, 170, 579, 580, 581, 582, 142, 357, 493, 494, 495, 496, 497, 498, 499, 500, 473, 474, 475, 476, 135, 470, 471, 472, 477, 478, 479, 480, 136, 501, 502, 503, 504, 481, 482, 483, 484, 884, 885, 886, 887, 888, 889, 890, 891, 892, 893, 894, 895, 896, 897, 898, 899, 900, 901, 902, 903, 904, 905, 906, 907, 908, 909, 910, 911, 912, 913, 914, 915, 916, 917] (by decide +kernel) (by decide +kernel)
set_option maxRecDepth 20000 in
theorem gL_law_X11_wins : GoodIn wsL_law (wsV RL 59 RX11 yX11_wins wsX11_wins) := goodIn_app (goodIn_of _ (by decide +kernel)) ggL_law_X11_wins
set_option maxRecDepth 20000 in
theorem ggL_law_X10_best : GoodIn wsL_law wsX10_best := goodIn_r _ [586, 36, 23, 567, 568, 2, 569, 547, 548, 549, 550, 19, 378, 379, 380, 381, 49, 28, 32, 40, 44, 370, 371, 372, 27, 373, 95, 96, 374, 375, 376, 377, 382, 383, 384, 31, 385, 103, 102, 386, 387, 388, 389, 390, 391, 392, 393, 394, 395, 396, 397, 398, 399, 400, 401, 402, 35, 403, 110, 109, 108, 404, 228, 229, 230, 405, 232, 233, 406, 407, 408, 409, 410, 411, 412, 413, 414, 39, 415, 115, 416, 417, 418, 419, 420, 421, 116, 422, 423, 424, 425, 426, 427, 428, 429, 430, 43, 431, 121, 432, 122, 433, 434, 435, 436, 437, 438, 439, 440, 587, 588, 589, 590, 591, 870, 871, 872, 873, 874, 875, 876, 877, 878, 879, 880, 881, 882, 883, 925, 926, 927, 928, 929, 920, 921, 922, 923, 924, 930, 931, 932, 933, 934, 935, 936, 937, 938, 939, 940] (by decide +kernel) (by decide +kernel)
set_option maxRecDepth 20000 in
theorem gL_law_X10_best : GoodIn wsL_law (wsV RL 60 RX10 yX10_best wsX10_best) := goodIn_app (goodIn_of _ (by decide +kernel)) ggL_law_X10_best
set_option maxRecDepth 20000 in
theorem ggL_law_X11_best : GoodIn wsL_law wsX11_best := goodIn_r _ [595, 575, 576, 577, 5, 578, 356, 168, 169, 170, 596, 597, 598, 599, 357, 142, 143, 600, 601, 602, 603, 493, 494, 495, 496, 497, 498, 499, 500, 473, 474, 475, 476, 135, 470, 471, 472, 477, 478, 479, 480, 136, 501, 502, 503, 504, 481, 482, 483, 484, 604, 605, 606, 607, 608, 884, 885, 886, 887, 888, 889, 890, 891, 892, 893, 894, 895, 896, 897, 898, 899, 900, 901, 902, 903, 904, 905, 906, 907, 908, 909, 910, 911, 912, 913, 914, 915, 916, 917] (by decide +kernel) (by decide +kernel)
set_option maxRecDepth 20000 in
theorem gL_law_X11_best : GoodIn wsL_law (wsV RL 63 RX11 yX11_best wsX11_best) := goodIn_app (goodIn_of _ (by decide +kernel)) ggL_law_X11_best
set_option maxRecDepth 20000 in
theorem ggL_law_X10_lasts : GoodIn wsL_law wsX10_lasts := goodIn_r _ [612, 36, 23, 567, 568, 2, 569, 547, 548, 549, 550, 19, 378, 379, 380, 381, 49, 28, 32, 40, 44, 370, 371, 372, 27, 373, 95, 96, 374, 375, 376, 377, 382, 383, 384, 31, 385, 103, 102, 386, 387, 388, 389, 390, 391, 392, 393, 394, 395, 396, 397, 398, 399, 400, 401, 402, 35, 403, 110, 109, 108, 404, 228, 229, 230, 405, 232, 233, 406, 407, 408, 409, 410, 411, 412, 413, 414, 39, 415, 115, 416, 417, 418, 419, 420, 421, 116, 422, 423, 424, 425, 426, 427, 428, 429, 430, 43, 431, 121, 432, 122, 433, 434, 435, 436, 437, 438, 439, 440, 613, 614, 615, 616, 870, 871, 872, 873, 874, 875, 876, 877, 878, 879, 880, 881, 882, 883, 925, 926, 927, 928, 929, 920, 921, 922, 923, 924, 930, 931, 932, 933, 934, 935, 936, 937, 938, 939, 940] (by decide +kernel) (by decide +kernel)
set_option maxRecDepth 20000 in
theorem gL_law_X10_lasts : GoodIn wsL_law (wsV RL 64 RX10 yX10_lasts wsX10_lasts) := goodIn_app (goodIn_of _ (by decide +kernel)) ggL_law_X10_lasts
set_option maxRecDepth 20000 in
theorem ggL_law_X11_lasts : GoodIn wsL_law wsX11_lasts := goodIn_r _ [620, 575, 576, 577, 5, 578, 356, 168, 169, 170, 621, 622, 623, 624, 143, 357, 600, 601, 602, 603, 493, 494, 495, 496, 142, 497, 498, 499, 500, 473, 474, 475, 476, 135, 470, 471, 472, 477, 478, 479, 480, 136, 501, 502, 503, 504, 481, 482, 483, 484, 604, 605, 606, 607, 608, 884, 885, 886, 887, 888, 889, 890, 891, 892, 893, 894, 895, 896, 897, 898, 899, 900, 901, 902, 903, 904, 905, 906, 907, 908, 909, 910, 911, 912, 913, 914, 915, 916, 917] (by decide +kernel) (by decide +kernel)
set_option maxRecDepth 20000 in
theorem gL_law_X11_lasts : GoodIn wsL_law (wsV RL 67 RX11 yX11_lasts wsX11_lasts) := goodIn_app (goodIn_of _ (by decide +kernel)) ggL_law_X11_lasts
set_option maxRecDepth 20000 in
theorem ggL_law_X10_worth : GoodIn wsL_law wsX10_worth := goodIn_r _ [628, 40, 23, 547, 548, 549, 2, 550, 19, 378, 379, 380, 381, 49, 28, 32, 36, 44, 370, 371, 372, 27, 373, 95, 96, 374, 375, 376, 377, 382, 383, 384, 31, 385, 103, 102, 386, 387, 388, 389, 390, 391, 392, 393, 394, 395, 396, 397, 398, 399, 400, 401, 402, 35, 403, 110, 109, 108, 404, 228, 229, 230, 405, 232, 233, 406, 407, 408, 409, 410, 411, 412, 413, 414, 39, 415, 115, 416, 417, 418, 419, 420, 421, 116, 422, 423, 424, 425, 426, 427, 428, 429, 430, 43, 431, 121, 432, 122, 433, 434, 435, 436, 437, 438, 439, 440, 629, 630, 631, 632, 870, 871, 872, 873, 874, 875, 876, 877, 878, 879, 880, 881, 882, 883, 925, 926, 927, 928, 929, 920, 921, 922, 923, 924, 930, 931, 932, 933, 934, 935, 936, 937, 938, 939, 940] (by decide +kernel) (by decide +kernel)
set_option maxRecDepth 20000 in
theorem gL_law_X10_worth : GoodIn wsL_law (wsV RL 68 RX10 yX10_worth wsX10_worth) := goodIn_app (goodIn_of _ (by decide +kernel)) ggL_law_X10_worth
set_option maxRecDepth 20000 in
theorem ggL_law_X11_worth : GoodIn wsL_law wsX11_worth := goodIn_r _ [636, 356, 144, 357, 637, 638, 639, 5, 640, 641, 642, 643, 644, 645, 608, 501, 502, 503, 504, 481, 482, 483, 484, 136, 470, 471, 472, 473, 474, 475, 476, 135, 477, 478, 479, 480, 646, 647, 648, 884, 885, 886, 887, 888, 889, 890, 891, 892, 893, 894, 895, 896, 897, 898, 899, 900, 901, 902, 903, 904, 905, 906, 907, 908, 909, 910, 911, 912, 913, 914, 915, 916, 917] (by decide +kernel) (by decide +kernel)
set_option maxRecDepth 20000 in
theorem gL_law_X11_worth : GoodIn wsL_law (wsV RL 71 RX11 yX11_worth wsX11_worth) := goodIn_app (goodIn_of _ (by decide +kernel)) ggL_law_X11_worth
set_option maxRecDepth 20000 in
theorem ggL_law_X10_tree : GoodIn wsL_law wsX10_tree := goodIn_r _ [652, 19, 40, 23, 366, 367, 368, 2, 369, 378, 379, 380, 381, 49, 28, 32, 36, 44, 370, 371, 372, 27, 373, 95, 96, 374, 375, 376, 377, 382, 383, 384, 31, 385, 103, 102, 386, 387, 388, 389, 390, 391, 392, 393, 394, 395, 396, 397, 398, 399, 400, 401, 402, 35, 403, 110, 109, 108, 404, 228, 229, 230, 405, 232, 233, 406, 407, 408, 409, 410, 411, 412, 413, 414, 39, 415, 115, 416, 417, 418, 419, 420, 421, 116, 422, 423, 424, 425, 426, 427, 428, 429, 430, 43, 431, 121, 432, 122, 433, 434, 435, 436, 437, 438, 439, 440, 653, 328, 329, 18, 330, 67, 629, 630, 631, 632, 870, 871, 872, 873, 874, 875, 876, 877, 878, 879, 880, 881, 882, 883, 920, 921, 922, 923, 924, 925, 926, 927, 928, 929, 930, 931, 932, 933, 934, 935, 936, 937, 938, 939, 940] (by decide +kernel) (by decide +kernel)
set_option maxRecDepth 20000 in
theorem gL_law_X10_tree : GoodIn wsL_law (wsV RL 72 RX10 yX10_tree wsX10_tree) := goodIn_app (goodIn_of _ (by decide +kernel)) ggL_law_X10_tree
set_option maxRecDepth 20000 in
theorem ggL_law_X11_tree : GoodIn wsL_law wsX11_tree := goodIn_r _ [657, 136, 462, 463, 464, 5, 465, 356, 168, 169, 170, 658, 659, 660, 661, 144, 357, 637, 638, 639, 640, 641, 642, 643, 644, 645, 608, 501, 502, 503, 504, 481, 482, 483, 484, 470, 471, 472, 473, 474, 475, 476, 135, 477, 478, 479, 480, 646, 647, 648, 884, 885, 886, 887, 888, 889, 890, 891, 892, 893, 894, 895, 896, 897, 898, 899, 900, 901, 902, 903, 904, 905, 906, 907, 908, 909, 910, 911, 912, 913, 914, 915, 916, 917] (by decide +kernel) (by decide +kernel)
set_option maxRecDepth 20000 in
theorem gL_law_X11_tree : GoodIn wsL_law (wsV RL 75 RX11 yX11_tree wsX11_tree) := goodIn_app (goodIn_of _ (by decide +kernel)) ggL_law_X11_tree
set_option maxRecDepth 20000 in
theorem ggL_law_X10_even : GoodIn wsL_law wsX10_even := goodIn_r _ [665, 52, 547, 548, 549, 2, 550, 19, 378, 379, 380, 381, 49, 28, 32, 36, 40, 44, 370, 371, 372, 27, 373, 95, 96, 374, 375, 376, 377, 382, 383, 384, 31, 385, 103, 102, 386, 387, 388, 389, 390, 391, 392, 393, 394, 395, 396, 397, 398, 399, 400, 401, 402, 35, 403, 110, 109, 108, 404, 228, 229, 230, 405, 232, 233, 406, 407, 408, 409, 410, 411, 412, 413, 414, 39, 415, 115, 416, 417, 418, 419, 420, 421, 116, 422, 423, 424, 425, 426, 427, 428, 429, 430, 43, 431, 121, 432, 122, 433, 434, 435, 436, 437, 438, 439, 440, 666, 667, 668, 669, 23, 570, 445, 446, 447, 448, 870, 871, 872, 873, 874, 875, 876, 877, 878, 879, 880, 881, 882, 883, 920, 921, 922, 923, 924, 930, 931, 925, 926, 927, 928, 929, 932, 933, 934, 935, 936, 937, 938, 939, 940] (by decide +kernel) (by decide +kernel)
set_option maxRecDepth 20000 in
theorem gL_law_X10_even : GoodIn wsL_law (wsV RL 76 RX10 yX10_even wsX10_even) := goodIn_app (goodIn_of _ (by decide +kernel)) ggL_law_X10_even
set_option maxRecDepth 20000 in
theorem ggL_law_X11_even : GoodIn wsL_law wsX11_even := goodIn_r _ [673, 356, 674, 675, 676, 677, 5, 678, 135, 679, 680, 681, 682, 142, 357, 493, 494, 495, 496, 497, 498, 499, 500, 473, 474, 475, 476, 470, 471, 472, 477, 478, 479, 480, 136, 501, 502, 503, 504, 481, 482, 483, 484, 884, 885, 886, 887, 888, 889, 890, 891, 892, 893, 894, 895, 896, 897, 898, 899, 900, 901, 902, 903, 904, 905, 906, 907, 908, 909, 910, 911, 912, 913, 914, 915, 916, 917] (by decide +kernel) (by decide +kernel)
set_option maxRecDepth 20000 in
theorem gL_law_X11_even : GoodIn wsL_law (wsV RL 79 RX11 yX11_even wsX11_even) := goodIn_app (goodIn_of _ (by decide +kernel)) ggL_law_X11_even
set_option maxRecDepth 20000 in
theorem ggL_law_X10_likely : GoodIn wsL_law wsX10_likely := goodIn_r _ [686, 44, 23, 567, 568, 2, 569, 547, 548, 549, 550, 19, 378, 379, 380, 381, 49, 28, 32, 36, 40, 370, 371, 372, 27, 373, 95, 96, 374, 375, 376, 377, 382, 383, 384, 31, 385, 103, 102, 386, 387, 388, 389, 390, 391, 392, 393, 394, 395, 396, 397, 398, 399, 400, 401, 402, 35, 403, 110, 109, 108, 404, 228, 229, 230, 405, 232, 233, 406, 407, 408, 409, 410, 411, 412, 413, 414, 39, 415, 115, 416, 417, 418, 419, 420, 421, 116, 422, 423, 424, 425, 426, 427, 428, 429, 430, 43, 431, 121, 432, 122, 433, 434, 435, 436, 437, 438, 439, 440, 687, 688, 689, 690, 691, 870, 871, 872, 873, 874, 875, 876, 877, 878, 879, 880, 881, 882, 883, 925, 926, 927, 928, 929, 920, 921, 922, 923, 924, 930, 931, 932, 933, 934, 935, 936, 937, 938, 939, 940] (by decide +kernel) (by decide +kernel)
set_option maxRecDepth 20000 in
theorem gL_law_X10_likely : GoodIn wsL_law (wsV RL 80 RX10 yX10_likely wsX10_likely) := goodIn_app (goodIn_of _ (by decide +kernel)) ggL_law_X10_likely
set_option maxRecDepth 20000 in
theorem ggL_law_X11_likely : GoodIn wsL_law wsX11_likely := goodIn_r _ [695, 575, 576, 577, 5, 578, 356, 168, 169, 170, 696, 697, 698, 699, 357, 145, 700, 701, 702, 703, 704, 705, 473, 474, 475, 476, 135, 470, 471, 472, 477, 478, 479, 480, 136, 501, 502, 503, 504, 481, 482, 483, 484, 884, 885, 886, 887, 888, 889, 890, 891, 892, 893, 894, 895, 896, 897, 898, 899, 900, 901, 902, 903, 904, 905, 906, 907, 908, 909, 910, 911, 912, 913, 914, 915, 916, 917] (by decide +kernel) (by decide +kernel)
set_option maxRecDepth 20000 in
theorem gL_law_X11_likely : GoodIn wsL_law (wsV RL 83 RX11 yX11_likely wsX11_likely) := goodIn_app (goodIn_of _ (by decide +kernel)) ggL_law_X11_likely
set_option maxRecDepth 20000 in
theorem ggL_law_X10_see : GoodIn wsL_law wsX10_see := goodIn_r _ [709, 23, 366, 367, 368, 2, 369, 19, 567, 568, 569, 710, 711, 712, 80, 713, 86, 87, 88, 90, 870, 871, 872, 873, 874, 875, 876, 877, 878, 879, 880, 881, 882, 883, 925, 926, 927, 928, 929, 945, 946, 947, 948, 920, 921, 922, 923, 924] (by decide +kernel) (by decide +kernel)
set_option maxRecDepth 20000 in
theorem gL_law_X10_see : GoodIn wsL_law (wsV RL 84 RX10 yX10_see wsX10_see) := goodIn_app (goodIn_of _ (by decide +kernel)) ggL_law_X10_see
set_option maxRecDepth 20000 in
theorem ggL_law_X11_see : GoodIn wsL_law wsX11_see := goodIn_r _ [717, 361, 137, 138, 139, 462, 463, 464, 5, 465, 356, 168, 169, 170, 884, 885, 886, 887, 888, 889, 890, 891, 892, 893, 894, 895, 896, 897, 898, 899, 900, 901, 902, 903, 904, 905, 906, 907, 908, 909, 910, 911, 912, 913, 914, 915, 916, 917] (by decide +kernel) (by decide +kernel)
set_option maxRecDepth 20000 in
theorem gL_law_X11_see : GoodIn wsL_law (wsV RL 88 RX11 yX11_see wsX11_see) := goodIn_app (goodIn_of _ (by decide +kernel)) ggL_law_X11_see
set_option maxRecDepth 20000 in
theorem ggL_law_X10_forget : GoodIn wsL_law wsX10_forget := goodIn_r _ [721, 23, 870, 871, 872, 873, 874, 875, 876, 877, 878, 879, 880, 881, 882, 883, 925, 926, 927, 928, 929, 945, 946, 947, 948] (by decide +kernel) (by decide +kernel)
set_option maxRecDepth 20000 in
theorem gL_law_X10_forget : GoodIn wsL_law (wsV RL 89 RX10 yX10_forget wsX10_forget) := goodIn_app (goodIn_of _ (by decide +kernel)) ggL_law_X10_forget
set_option maxRecDepth 20000 in
theorem ggL_law_X11_forget : GoodIn wsL_law wsX11_forget := goodIn_r _ [725, 361, 884, 885, 886, 887, 888, 889, 890, 891, 892, 893, 894, 895, 896, 897, 898, 899, 900, 901, 902, 903, 904, 905, 906, 907, 908, 909, 910, 911, 912, 913, 914, 915, 916, 917] (by decide +kernel) (by decide +kernel)
set_option maxRecDepth 20000 in
theorem gL_law_X11_forget : GoodIn wsL_law (wsV RL 92 RX11 yX11_forget wsX11_forget) := goodIn_app (goodIn_of _ (by decide +kernel)) ggL_law_X11_forget
set_option maxRecDepth 20000 in
theorem ggL_law_X10_games : GoodIn wsL_law wsX10_games := goodIn_r _ [729, 48, 23, 547, 548, 549, 2, 550, 19, 730, 731, 732, 47, 733, 127, 128, 129, 734, 735, 736, 737, 130, 738, 371, 372, 27, 373, 95, 96, 374, 375, 376, 377, 739, 740, 741, 742, 743, 434, 435, 436, 437, 438, 439, 744, 745, 746, 747, 748, 749, 750, 751, 752, 388, 389, 390, 870, 871, 872, 873, 874, 875, 876, 877, 878, 879, 880, 881, 882, 883, 925, 926, 927, 928, 929, 941, 942, 943, 944, 920, 921, 922, 923, 924, 930, 931] (by decide +kernel) (by decide +kernel)
set_option maxRecDepth 20000 in
theorem gL_law_X10_games : GoodIn wsL_law (wsV RL 93 RX10 yX10_games wsX10_games) := goodIn_app (goodIn_of _ (by decide +kernel)) ggL_law_X10_games
set_option maxRecDepth 20000 in
theorem ggL_law_X11_games : GoodIn wsL_law wsX11_games := goodIn_r _ [756, 356, 168, 169, 5, 170, 757, 758, 759, 760, 761, 762, 763, 764, 765, 766, 357, 767, 768, 769, 770, 473, 474, 475, 476, 135, 470, 471, 472, 477, 478, 479, 480, 136, 513, 514, 515, 771, 772, 773, 774, 775, 776, 777, 778, 779, 780, 781, 501, 502, 503, 504, 481, 482, 483, 484, 884, 885, 886, 887, 888, 889, 890, 891, 892, 893, 894, 895, 896, 897, 898, 899, 900, 901, 902, 903, 904, 905, 906, 907, 908, 909, 910, 911, 912, 913, 914, 915, 916, 917] (by decide +kernel) (by decide +kernel)
set_option maxRecDepth 20000 in
theorem gL_law_X11_games : GoodIn wsL_law (wsV RL 97 RX11 yX11_games wsX11_games) := goodIn_app (goodIn_of _ (by decide +kernel)) ggL_law_X11_games
set_option maxRecDepth 20000 in
theorem ggL_law_X10_image : GoodIn wsL_law wsX10_image := goodIn_r _ [785, 24, 23, 50, 547, 548, 549, 2, 550, 19, 786, 787, 788, 22, 789, 74, 790, 791, 792, 793, 75, 76, 77, 81, 794, 795, 796, 80, 797, 86, 87, 88, 90, 870, 871, 872, 873, 874, 875, 876, 877, 878, 879, 880, 881, 882, 883, 925, 926, 927, 928, 929, 920, 921, 922, 923, 924, 945, 946, 947, 948] (by decide +kernel) (by decide +kernel)
set_option maxRecDepth 20000 in
theorem gL_law_X10_image : GoodIn wsL_law (wsV RL 98 RX10 yX10_image wsX10_image) := goodIn_app (goodIn_of _ (by decide +kernel)) ggL_law_X10_image
set_option maxRecDepth 20000 in
theorem ggL_law_X11_image : GoodIn wsL_law wsX11_image := goodIn_r _ [801, 356, 802, 360, 803, 357, 804, 358, 805, 359, 806, 361, 807, 147, 135, 148, 137, 149, 138, 150, 139, 884, 885, 886, 887, 888, 889, 890, 891, 892, 893, 894, 895, 896, 897, 898, 899, 900, 901, 902, 903, 904, 905, 906, 907, 908, 909, 910, 911, 912, 913, 914, 915, 916, 917] (by decide +kernel) (by decide +kernel)
set_option maxRecDepth 20000 in
theorem gL_law_X11_image : GoodIn wsL_law (wsV RL 101 RX11 yX11_image wsX11_image) := goodIn_app (goodIn_of _ (by decide +kernel)) ggL_law_X11_image
set_option maxRecDepth 20000 in
theorem ggL_law_X10_restore : GoodIn wsL_law wsX10_restore := goodIn_r _ [811, 50, 23, 24, 49, 786, 787, 788, 22, 789, 74, 790, 791, 792, 793, 75, 76, 77, 81, 794, 795, 796, 80, 797, 86, 87, 88, 90, 870, 871, 872, 873, 874, 875, 876, 877, 878, 879, 880, 881, 882, 883, 925, 926, 927, 928, 929, 945, 946, 947, 948] (by decide +kernel) (by decide +kernel)
set_option maxRecDepth 20000 in
theorem gL_law_X10_restore : GoodIn wsL_law (wsV RL 102 RX10 yX10_restore wsX10_restore) := goodIn_app (goodIn_of _ (by decide +kernel)) ggL_law_X10_restore
set_option maxRecDepth 20000 in
theorem ggL_law_X11_restore : GoodIn wsL_law wsX11_restore := goodIn_r _ [815, 802, 803, 360, 804, 357, 805, 358, 806, 359, 807, 361, 135, 147, 137, 148, 138, 149, 139, 150, 884, 885, 886, 887, 888, 889, 890, 891, 892, 893, 894, 895, 896, 897, 898, 899, 900, 901, 902, 903, 904, 905, 906, 907, 908, 909, 910, 911, 912, 913, 914, 915, 916, 917] (by decide +kernel) (by decide +kernel)
set_option maxRecDepth 20000 in
theorem gL_law_X11_restore : GoodIn wsL_law (wsV RL 105 RX11 yX11_restore wsX11_restore) := goodIn_app (goodIn_of _ (by decide +kernel)) ggL_law_X11_restore
set_option maxRecDepth 20000 in
theorem ggL_law_X10_count : GoodIn wsL_law wsX10_count := goodIn_r _ [819, 19, 23, 28, 15, 51, 52, 457, 434, 435, 436, 437, 438, 439, 370, 371, 372, 27, 373, 95, 96, 374, 375, 376, 377, 820, 821, 822, 18, 823, 64, 66, 155, 156, 157, 14, 158, 59, 870, 871, 872, 873, 874, 875, 876, 877, 878, 879, 880, 881, 882, 883, 920, 921, 922, 923, 924, 925, 926, 927, 928, 929, 945, 946, 947, 948, 930, 931, 918, 919] (by decide +kernel) (by decide +kernel)
set_option maxRecDepth 20000 in
theorem gL_law_X10_count : GoodIn wsL_law (wsV RL 106 RX10 yX10_count wsX10_count) := goodIn_app (goodIn_of _ (by decide +kernel)) ggL_law_X10_count
set_option maxRecDepth 20000 in
theorem ggL_law_X11_count : GoodIn wsL_law wsX11_count := goodIn_r _ [827, 828, 829, 830, 5, 831, 356, 357, 358, 359, 361, 167, 360, 674, 513, 514, 515, 767, 768, 769, 770, 473, 474, 475, 476, 135, 470, 471, 472, 477, 478, 479, 480, 136, 832, 833, 834, 835, 884, 885, 886, 887, 888, 889, 890, 891, 892, 893, 894, 895, 896, 897, 898, 899, 900, 901, 902, 903, 904, 905, 906, 907, 908, 909, 910, 911, 912, 913, 914, 915, 916, 917] (by decide +kernel) (by decide +kernel)
set_option maxRecDepth 20000 in
theorem gL_law_X11_count : GoodIn wsL_law (wsV RL 109 RX11 yX11_count wsX11_count) := goodIn_app (goodIn_of _ (by decide +kernel)) ggL_law_X11_count
set_option maxRecDepth 20000 in
theorem ggL_law_X10_digest : GoodIn wsL_law wsX10_digest := goodIn_r _ [839, 840, 19, 841, 15, 842, 363, 364, 2, 365, 23, 28, 366, 367, 368, 369, 370, 371, 372, 27, 373, 95, 96, 374, 375, 376, 377, 378, 379, 380, 381, 49, 32, 36, 40, 44, 382, 383, 384, 31, 385, 103, 102, 386, 387, 388, 389, 390, 391, 392, 393, 394, 395, 396, 397, 398, 399, 400, 401, 402, 35, 403, 110, 109, 108, 404, 228, 229, 230, 405, 232, 233, 406, 407, 408, 409, 410, 411, 412, 413, 414, 39, 415, 115, 416, 417, 418, 419, 420, 421, 116, 422, 423, 424, 425, 426, 427, 428, 429, 430, 43, 431, 121, 432, 122, 433, 434, 435, 436, 437, 438, 439, 440, 441, 442, 443, 444, 445, 446, 447, 448, 449, 450, 451, 452, 453, 454, 455, 456, 457, 547, 548, 549, 550, 843, 844, 845, 846, 847, 564, 565, 566, 567, 568, 569, 570, 848, 584, 585, 586, 587, 588, 589, 590, 591, 849, 610, 611, 612, 613, 614, 615, 616, 850, 684, 685, 686, 687, 688, 689, 690, 691, 851, 626, 627, 628, 629, 630, 631, 632, 852, 650, 651, 652, 653, 328, 329, 18, 330, 67, 155, 156, 157, 14, 158, 59, 853, 196, 197, 198, 58, 854, 817, 818, 819, 51, 52, 820, 821, 822, 823, 64, 66, 870, 871, 872, 873, 874, 875, 876, 877, 878, 879, 880, 881, 882, 883, 920, 921, 922, 923, 924, 925, 926, 927, 928, 929, 930, 931, 932, 933, 934, 935, 936, 937, 938, 939, 940, 945, 946, 947, 948, 918, 919] (by decide +kernel) (by decide +kernel)
set_option maxRecDepth 20000 in
theorem gL_law_X10_digest : GoodIn wsL_law (wsV RL 110 RX10 yX10_digest wsX10_digest) := goodIn_app (goodIn_of _ (by decide +kernel)) ggL_law_X10_digest
set_option maxRecDepth 20000 in
theorem ggL_law_X11_digest : GoodIn wsL_law wsX11_digest := goodIn_r _ [858, 859, 860, 356, 167, 141, 466, 467, 468, 5, 469, 135, 136, 357, 470, 471, 472, 473, 474, 475, 476, 477, 478, 479, 480, 481, 482, 483, 484, 485, 486, 487, 488, 361, 137, 146, 138, 139, 489, 490, 491, 492, 142, 493, 494, 495, 496, 497, 498, 499, 500, 501, 502, 503, 504, 505, 506, 507, 508, 509, 510, 511, 512, 513, 514, 515, 861, 862, 863, 864, 865, 866, 867, 868, 869, 144, 579, 580, 581, 582, 596, 597, 598, 599, 143, 600, 601, 602, 603, 604, 605, 606, 607, 608, 621, 622, 623, 624, 696, 697, 698, 699, 145, 700, 701, 702, 703, 704, 705, 637, 638, 639, 640, 641, 642, 643, 644, 645, 646, 647, 648, 828, 829, 830, 831, 358, 359, 360, 674, 767, 768, 769, 770, 832, 833, 834, 835, 884, 885, 886, 887, 888, 889, 890, 891, 892, 893, 894, 895, 896, 897, 898, 899, 900, 901, 902, 903, 904, 905, 906, 907, 908, 909, 910, 911, 912, 913, 914, 915, 916, 917] (by decide +kernel) (by decide +kernel)
set_option maxRecDepth 20000 in
theorem gL_law_X11_digest : GoodIn wsL_law (wsV RL 114 RX11 yX11_digest wsX11_digest) := goodIn_app (goodIn_of _ (by decide +kernel)) ggL_law_X11_digest
theorem dL_law_0 : decode cL_law 0 = .ok (.new 7, 3) := by decide +kernel
theorem dL_law_3 : decode cL_law 3 = .ok (.dup, 1) := by decide +kernel
theorem dL_law_4 : decode cL_law 4 = .ok (.invokespecial 9, 3) := by decide +kernel
theorem dL_law_7 : decode cL_law 7 = .ok (.astore_n 1, 1) := by decide +kernel
theorem dL_law_8 : decode cL_law 8 = .ok (.new 10, 3) := by decide +kernel
theorem dL_law_11 : decode cL_law 11 = .ok (.dup, 1) := by decide +kernel
theorem dL_law_12 : decode cL_law 12 = .ok (.invokespecial 12, 3) := by decide +kernel
theorem dL_law_15 : decode cL_law 15 = .ok (.astore_n 2, 1) := by decide +kernel
theorem dL_law_16 : decode cL_law 16 = .ok (.iconst 0, 1) := by decide +kernel
theorem dL_law_17 : decode cL_law 17 = .ok (.istore_n 3, 1) := by decide +kernel
theorem dL_law_18 : decode cL_law 18 = .ok (.iload_n 3, 1) := by decide +kernel
theorem dL_law_19 : decode cL_law 19 = .ok (.aload_n 0, 1) := by decide +kernel
theorem dL_law_20 : decode cL_law 20 = .ok (.arraylength, 1) := by decide +kernel
theorem dL_law_21 : decode cL_law 21 = .ok (.iconst 4, 1) := by decide +kernel
theorem dL_law_22 : decode cL_law 22 = .ok (.isub, 1) := by decide +kernel
theorem dL_law_23 : decode cL_law 23 = .ok (.if_icmp .gt 666, 3) := by decide +kernel
theorem dL_law_26 : decode cL_law 26 = .ok (.aload_n 0, 1) := by decide +kernel
theorem dL_law_27 : decode cL_law 27 = .ok (.iload_n 3, 1) := by decide +kernel
theorem dL_law_28 : decode cL_law 28 = .ok (.iaload, 1) := by decide +kernel
theorem dL_law_29 : decode cL_law 29 = .ok (.bipush 31, 2) := by decide +kernel
theorem dL_law_31 : decode cL_law 31 = .ok (.iand, 1) := by decide +kernel
theorem dL_law_32 : decode cL_law 32 = .ok (.tableswitch 651 0 23 #[112, 135, 148, 161, 174, 207, 240, 263, 286, 299, 332, 355, 378, 401, 414, 437, 450, 473, 532, 545, 588, 601, 614, 637], 112) := by decide +kernel
theorem dL_law_144 : decode cL_law 144 = .ok (.aload_n 1, 1) := by decide +kernel
theorem dL_law_145 : decode cL_law 145 = .ok (.aload_n 0, 1) := by decide +kernel
theorem dL_law_146 : decode cL_law 146 = .ok (.iload_n 3, 1) := by decide +kernel
theorem dL_law_147 : decode cL_law 147 = .ok (.iconst 1, 1) := by decide +kernel
theorem dL_law_148 : decode cL_law 148 = .ok (.iadd, 1) := by decide +kernel
theorem dL_law_149 : decode cL_law 149 = .ok (.iaload, 1) := by decide +kernel
theorem dL_law_150 : decode cL_law 150 = .ok (.invokevirtual 13, 3) := by decide +kernel
theorem dL_law_153 : decode cL_law 153 = .ok (.aload_n 2, 1) := by decide +kernel
theorem dL_law_154 : decode cL_law 154 = .ok (.aload_n 0, 1) := by decide +kernel
theorem dL_law_155 : decode cL_law 155 = .ok (.iload_n 3, 1) := by decide +kernel
theorem dL_law_156 : decode cL_law 156 = .ok (.iconst 1, 1) := by decide +kernel
theorem dL_law_157 : decode cL_law 157 = .ok (.iadd, 1) := by decide +kernel
theorem dL_law_158 : decode cL_law 158 = .ok (.iaload, 1) := by decide +kernel
theorem dL_law_159 : decode cL_law 159 = .ok (.invokevirtual 17, 3) := by decide +kernel
theorem dL_law_162 : decode cL_law 162 = .ok (.if_icmp .eq 521, 3) := by decide +kernel
theorem dL_law_165 : decode cL_law 165 = .ok (.iconst 0, 1) := by decide +kernel
theorem dL_law_166 : decode cL_law 166 = .ok (.ireturn, 1) := by decide +kernel
theorem dL_law_167 : decode cL_law 167 = .ok (.aload_n 1, 1) := by decide +kernel
theorem dL_law_168 : decode cL_law 168 = .ok (.invokevirtual 18, 3) := by decide +kernel
theorem dL_law_171 : decode cL_law 171 = .ok (.aload_n 2, 1) := by decide +kernel
theorem dL_law_172 : decode cL_law 172 = .ok (.invokevirtual 22, 3) := by decide +kernel
theorem dL_law_175 : decode cL_law 175 = .ok (.if_icmp .eq 508, 3) := by decide +kernel
theorem dL_law_178 : decode cL_law 178 = .ok (.iconst 0, 1) := by decide +kernel
theorem dL_law_179 : decode cL_law 179 = .ok (.ireturn, 1) := by decide +kernel
theorem dL_law_180 : decode cL_law 180 = .ok (.aload_n 1, 1) := by decide +kernel
theorem dL_law_181 : decode cL_law 181 = .ok (.invokevirtual 23, 3) := by decide +kernel
theorem dL_law_184 : decode cL_law 184 = .ok (.aload_n 2, 1) := by decide +kernel
theorem dL_law_185 : decode cL_law 185 = .ok (.invokevirtual 26, 3) := by decide +kernel
theorem dL_law_188 : decode cL_law 188 = .ok (.if_icmp .eq 495, 3) := by decide +kernel
theorem dL_law_191 : decode cL_law 191 = .ok (.iconst 0, 1) := by decide +kernel
theorem dL_law_192 : decode cL_law 192 = .ok (.ireturn, 1) := by decide +kernel
theorem dL_law_193 : decode cL_law 193 = .ok (.aload_n 1, 1) := by decide +kernel
theorem dL_law_194 : decode cL_law 194 = .ok (.invokevirtual 27, 3) := by decide +kernel
theorem dL_law_197 : decode cL_law 197 = .ok (.aload_n 2, 1) := by decide +kernel
theorem dL_law_198 : decode cL_law 198 = .ok (.invokevirtual 30, 3) := by decide +kernel
theorem dL_law_201 : decode cL_law 201 = .ok (.if_icmp .eq 482, 3) := by decide +kernel
theorem dL_law_204 : decode cL_law 204 = .ok (.iconst 0, 1) := by decide +kernel
theorem dL_law_205 : decode cL_law 205 = .ok (.ireturn, 1) := by decide +kernel
theorem dL_law_206 : decode cL_law 206 = .ok (.aload_n 1, 1) := by decide +kernel
theorem dL_law_207 : decode cL_law 207 = .ok (.aload_n 0, 1) := by decide +kernel
theorem dL_law_208 : decode cL_law 208 = .ok (.iload_n 3, 1) := by decide +kernel
theorem dL_law_209 : decode cL_law 209 = .ok (.iconst 1, 1) := by decide +kernel
theorem dL_law_210 : decode cL_law 210 = .ok (.iadd, 1) := by decide +kernel
theorem dL_law_211 : decode cL_law 211 = .ok (.iaload, 1) := by decide +kernel
theorem dL_law_212 : decode cL_law 212 = .ok (.aload_n 0, 1) := by decide +kernel
theorem dL_law_213 : decode cL_law 213 = .ok (.iload_n 3, 1) := by decide +kernel
theorem dL_law_214 : decode cL_law 214 = .ok (.iconst 2, 1) := by decide +kernel
theorem dL_law_215 : decode cL_law 215 = .ok (.iadd, 1) := by decide +kernel
theorem dL_law_216 : decode cL_law 216 = .ok (.iaload, 1) := by decide +kernel
theorem dL_law_217 : decode cL_law 217 = .ok (.invokevirtual 31, 3) := by decide +kernel
theorem dL_law_220 : decode cL_law 220 = .ok (.aload_n 2, 1) := by decide +kernel
theorem dL_law_221 : decode cL_law 221 = .ok (.aload_n 0, 1) := by decide +kernel
theorem dL_law_222 : decode cL_law 222 = .ok (.iload_n 3, 1) := by decide +kernel
theorem dL_law_223 : decode cL_law 223 = .ok (.iconst 1, 1) := by decide +kernel
theorem dL_law_224 : decode cL_law 224 = .ok (.iadd, 1) := by decide +kernel
theorem dL_law_225 : decode cL_law 225 = .ok (.iaload, 1) := by decide +kernel
theorem dL_law_226 : decode cL_law 226 = .ok (.aload_n 0, 1) := by decide +kernel
theorem dL_law_227 : decode cL_law 227 = .ok (.iload_n 3, 1) := by decide +kernel
theorem dL_law_228 : decode cL_law 228 = .ok (.iconst 2, 1) := by decide +kernel
theorem dL_law_229 : decode cL_law 229 = .ok (.iadd, 1) := by decide +kernel
theorem dL_law_230 : decode cL_law 230 = .ok (.iaload, 1) := by decide +kernel
theorem dL_law_231 : decode cL_law 231 = .ok (.invokevirtual 35, 3) := by decide +kernel
theorem dL_law_234 : decode cL_law 234 = .ok (.if_icmp .eq 449, 3) := by decide +kernel
theorem dL_law_237 : decode cL_law 237 = .ok (.iconst 0, 1) := by decide +kernel
theorem dL_law_238 : decode cL_law 238 = .ok (.ireturn, 1) := by decide +kernel
theorem dL_law_239 : decode cL_law 239 = .ok (.aload_n 1, 1) := by decide +kernel
theorem dL_law_240 : decode cL_law 240 = .ok (.aload_n 0, 1) := by decide +kernel
theorem dL_law_241 : decode cL_law 241 = .ok (.iload_n 3, 1) := by decide +kernel
theorem dL_law_242 : decode cL_law 242 = .ok (.iconst 1, 1) := by decide +kernel
theorem dL_law_243 : decode cL_law 243 = .ok (.iadd, 1) := by decide +kernel
theorem dL_law_244 : decode cL_law 244 = .ok (.iaload, 1) := by decide +kernel
theorem dL_law_245 : decode cL_law 245 = .ok (.aload_n 0, 1) := by decide +kernel
theorem dL_law_246 : decode cL_law 246 = .ok (.iload_n 3, 1) := by decide +kernel
theorem dL_law_247 : decode cL_law 247 = .ok (.iconst 2, 1) := by decide +kernel
theorem dL_law_248 : decode cL_law 248 = .ok (.iadd, 1) := by decide +kernel
theorem dL_law_249 : decode cL_law 249 = .ok (.iaload, 1) := by decide +kernel
theorem dL_law_250 : decode cL_law 250 = .ok (.invokevirtual 36, 3) := by decide +kernel
theorem dL_law_253 : decode cL_law 253 = .ok (.aload_n 2, 1) := by decide +kernel
theorem dL_law_254 : decode cL_law 254 = .ok (.aload_n 0, 1) := by decide +kernel
theorem dL_law_255 : decode cL_law 255 = .ok (.iload_n 3, 1) := by decide +kernel
theorem dL_law_256 : decode cL_law 256 = .ok (.iconst 1, 1) := by decide +kernel
theorem dL_law_257 : decode cL_law 257 = .ok (.iadd, 1) := by decide +kernel
theorem dL_law_258 : decode cL_law 258 = .ok (.iaload, 1) := by decide +kernel
theorem dL_law_259 : decode cL_law 259 = .ok (.aload_n 0, 1) := by decide +kernel
theorem dL_law_260 : decode cL_law 260 = .ok (.iload_n 3, 1) := by decide +kernel
theorem dL_law_261 : decode cL_law 261 = .ok (.iconst 2, 1) := by decide +kernel
theorem dL_law_262 : decode cL_law 262 = .ok (.iadd, 1) := by decide +kernel
theorem dL_law_263 : decode cL_law 263 = .ok (.iaload, 1) := by decide +kernel
theorem dL_law_264 : decode cL_law 264 = .ok (.invokevirtual 39, 3) := by decide +kernel
theorem dL_law_267 : decode cL_law 267 = .ok (.if_icmp .eq 416, 3) := by decide +kernel
theorem dL_law_270 : decode cL_law 270 = .ok (.iconst 0, 1) := by decide +kernel
theorem dL_law_271 : decode cL_law 271 = .ok (.ireturn, 1) := by decide +kernel
theorem dL_law_272 : decode cL_law 272 = .ok (.aload_n 1, 1) := by decide +kernel
theorem dL_law_273 : decode cL_law 273 = .ok (.aload_n 0, 1) := by decide +kernel
theorem dL_law_274 : decode cL_law 274 = .ok (.iload_n 3, 1) := by decide +kernel
theorem dL_law_275 : decode cL_law 275 = .ok (.iconst 1, 1) := by decide +kernel
theorem dL_law_276 : decode cL_law 276 = .ok (.iadd, 1) := by decide +kernel
theorem dL_law_277 : decode cL_law 277 = .ok (.iaload, 1) := by decide +kernel
theorem dL_law_278 : decode cL_law 278 = .ok (.invokevirtual 40, 3) := by decide +kernel
theorem dL_law_281 : decode cL_law 281 = .ok (.aload_n 2, 1) := by decide +kernel
theorem dL_law_282 : decode cL_law 282 = .ok (.aload_n 0, 1) := by decide +kernel
theorem dL_law_283 : decode cL_law 283 = .ok (.iload_n 3, 1) := by decide +kernel
theorem dL_law_284 : decode cL_law 284 = .ok (.iconst 1, 1) := by decide +kernel
theorem dL_law_285 : decode cL_law 285 = .ok (.iadd, 1) := by decide +kernel
theorem dL_law_286 : decode cL_law 286 = .ok (.iaload, 1) := by decide +kernel
theorem dL_law_287 : decode cL_law 287 = .ok (.invokevirtual 43, 3) := by decide +kernel
theorem dL_law_290 : decode cL_law 290 = .ok (.if_icmp .eq 393, 3) := by decide +kernel
theorem dL_law_293 : decode cL_law 293 = .ok (.iconst 0, 1) := by decide +kernel
theorem dL_law_294 : decode cL_law 294 = .ok (.ireturn, 1) := by decide +kernel
theorem dL_law_295 : decode cL_law 295 = .ok (.aload_n 1, 1) := by decide +kernel
theorem dL_law_296 : decode cL_law 296 = .ok (.aload_n 0, 1) := by decide +kernel
theorem dL_law_297 : decode cL_law 297 = .ok (.iload_n 3, 1) := by decide +kernel
theorem dL_law_298 : decode cL_law 298 = .ok (.iconst 1, 1) := by decide +kernel
theorem dL_law_299 : decode cL_law 299 = .ok (.iadd, 1) := by decide +kernel
theorem dL_law_300 : decode cL_law 300 = .ok (.iaload, 1) := by decide +kernel
theorem dL_law_301 : decode cL_law 301 = .ok (.invokevirtual 44, 3) := by decide +kernel
theorem dL_law_304 : decode cL_law 304 = .ok (.aload_n 2, 1) := by decide +kernel
theorem dL_law_305 : decode cL_law 305 = .ok (.aload_n 0, 1) := by decide +kernel
theorem dL_law_306 : decode cL_law 306 = .ok (.iload_n 3, 1) := by decide +kernel
theorem dL_law_307 : decode cL_law 307 = .ok (.iconst 1, 1) := by decide +kernel
theorem dL_law_308 : decode cL_law 308 = .ok (.iadd, 1) := by decide +kernel
theorem dL_law_309 : decode cL_law 309 = .ok (.iaload, 1) := by decide +kernel
theorem dL_law_310 : decode cL_law 310 = .ok (.invokevirtual 47, 3) := by decide +kernel
theorem dL_law_313 : decode cL_law 313 = .ok (.if_icmp .eq 370, 3) := by decide +kernel
theorem dL_law_316 : decode cL_law 316 = .ok (.iconst 0, 1) := by decide +kernel
theorem dL_law_317 : decode cL_law 317 = .ok (.ireturn, 1) := by decide +kernel
theorem dL_law_318 : decode cL_law 318 = .ok (.aload_n 1, 1) := by decide +kernel
theorem dL_law_319 : decode cL_law 319 = .ok (.invokevirtual 48, 3) := by decide +kernel
theorem dL_law_322 : decode cL_law 322 = .ok (.aload_n 2, 1) := by decide +kernel
theorem dL_law_323 : decode cL_law 323 = .ok (.invokevirtual 51, 3) := by decide +kernel
theorem dL_law_326 : decode cL_law 326 = .ok (.if_icmp .eq 357, 3) := by decide +kernel
theorem dL_law_329 : decode cL_law 329 = .ok (.iconst 0, 1) := by decide +kernel
theorem dL_law_330 : decode cL_law 330 = .ok (.ireturn, 1) := by decide +kernel
theorem dL_law_331 : decode cL_law 331 = .ok (.aload_n 1, 1) := by decide +kernel
theorem dL_law_332 : decode cL_law 332 = .ok (.aload_n 0, 1) := by decide +kernel
theorem dL_law_333 : decode cL_law 333 = .ok (.iload_n 3, 1) := by decide +kernel
theorem dL_law_334 : decode cL_law 334 = .ok (.iconst 1, 1) := by decide +kernel
theorem dL_law_335 : decode cL_law 335 = .ok (.iadd, 1) := by decide +kernel
theorem dL_law_336 : decode cL_law 336 = .ok (.iaload, 1) := by decide +kernel
theorem dL_law_337 : decode cL_law 337 = .ok (.aload_n 0, 1) := by decide +kernel
theorem dL_law_338 : decode cL_law 338 = .ok (.iload_n 3, 1) := by decide +kernel
theorem dL_law_339 : decode cL_law 339 = .ok (.iconst 2, 1) := by decide +kernel
theorem dL_law_340 : decode cL_law 340 = .ok (.iadd, 1) := by decide +kernel
theorem dL_law_341 : decode cL_law 341 = .ok (.iaload, 1) := by decide +kernel
theorem dL_law_342 : decode cL_law 342 = .ok (.invokevirtual 52, 3) := by decide +kernel
theorem dL_law_345 : decode cL_law 345 = .ok (.aload_n 2, 1) := by decide +kernel
theorem dL_law_346 : decode cL_law 346 = .ok (.aload_n 0, 1) := by decide +kernel
theorem dL_law_347 : decode cL_law 347 = .ok (.iload_n 3, 1) := by decide +kernel
theorem dL_law_348 : decode cL_law 348 = .ok (.iconst 1, 1) := by decide +kernel
theorem dL_law_349 : decode cL_law 349 = .ok (.iadd, 1) := by decide +kernel
theorem dL_law_350 : decode cL_law 350 = .ok (.iaload, 1) := by decide +kernel
theorem dL_law_351 : decode cL_law 351 = .ok (.aload_n 0, 1) := by decide +kernel
theorem dL_law_352 : decode cL_law 352 = .ok (.iload_n 3, 1) := by decide +kernel
theorem dL_law_353 : decode cL_law 353 = .ok (.iconst 2, 1) := by decide +kernel
theorem dL_law_354 : decode cL_law 354 = .ok (.iadd, 1) := by decide +kernel
theorem dL_law_355 : decode cL_law 355 = .ok (.iaload, 1) := by decide +kernel
theorem dL_law_356 : decode cL_law 356 = .ok (.invokevirtual 55, 3) := by decide +kernel
theorem dL_law_359 : decode cL_law 359 = .ok (.if_icmp .eq 324, 3) := by decide +kernel
theorem dL_law_362 : decode cL_law 362 = .ok (.iconst 0, 1) := by decide +kernel
theorem dL_law_363 : decode cL_law 363 = .ok (.ireturn, 1) := by decide +kernel
theorem dL_law_364 : decode cL_law 364 = .ok (.aload_n 1, 1) := by decide +kernel
theorem dL_law_365 : decode cL_law 365 = .ok (.aload_n 0, 1) := by decide +kernel
theorem dL_law_366 : decode cL_law 366 = .ok (.iload_n 3, 1) := by decide +kernel
theorem dL_law_367 : decode cL_law 367 = .ok (.iconst 1, 1) := by decide +kernel
theorem dL_law_368 : decode cL_law 368 = .ok (.iadd, 1) := by decide +kernel
theorem dL_law_369 : decode cL_law 369 = .ok (.iaload, 1) := by decide +kernel
theorem dL_law_370 : decode cL_law 370 = .ok (.invokevirtual 56, 3) := by decide +kernel
theorem dL_law_373 : decode cL_law 373 = .ok (.aload_n 2, 1) := by decide +kernel
theorem dL_law_374 : decode cL_law 374 = .ok (.aload_n 0, 1) := by decide +kernel
theorem dL_law_375 : decode cL_law 375 = .ok (.iload_n 3, 1) := by decide +kernel
theorem dL_law_376 : decode cL_law 376 = .ok (.iconst 1, 1) := by decide +kernel
theorem dL_law_377 : decode cL_law 377 = .ok (.iadd, 1) := by decide +kernel
theorem dL_law_378 : decode cL_law 378 = .ok (.iaload, 1) := by decide +kernel
theorem dL_law_379 : decode cL_law 379 = .ok (.invokevirtual 59, 3) := by decide +kernel
theorem dL_law_382 : decode cL_law 382 = .ok (.if_icmp .eq 301, 3) := by decide +kernel
theorem dL_law_385 : decode cL_law 385 = .ok (.iconst 0, 1) := by decide +kernel
theorem dL_law_386 : decode cL_law 386 = .ok (.ireturn, 1) := by decide +kernel
theorem dL_law_387 : decode cL_law 387 = .ok (.aload_n 1, 1) := by decide +kernel
