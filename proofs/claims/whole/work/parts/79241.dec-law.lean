set_option maxRecDepth 20000 in
theorem pgX5_r1 : GoodIn wsL_law wsX5_digest_r1 := goodIn_r _ [787, 233, 229, 230, 231, 2, 232, 123, 28, 13, 107, 14, 15, 16, 18, 234, 235, 236, 237, 238, 239, 27, 240, 241] (by decide +kernel) (by decide +kernel)
set_option maxRecDepth 20000 in
theorem pgX5_r2 : GoodIn wsL_law wsX5_digest_r2 := goodIn_r _ [242, 243, 71, 72, 244, 245, 246, 247, 248, 73, 74, 249, 250, 251, 252, 253, 142, 143, 144, 75, 76, 77, 254, 255] (by decide +kernel) (by decide +kernel)
set_option maxRecDepth 20000 in
theorem pgX5_r3 : GoodIn wsL_law wsX5_digest_r3 := goodIn_r _ [256, 33, 257, 258, 259, 260, 261, 262, 263, 50, 264, 265, 45, 266, 267, 268, 269, 270, 271, 272, 273, 49, 274, 275] (by decide +kernel) (by decide +kernel)
set_option maxRecDepth 20000 in
theorem pgX5_r4 : GoodIn wsL_law wsX5_digest_r4 := goodIn_r _ [276, 277, 278, 279, 55, 280, 281, 282, 283, 284, 285, 286, 287, 288, 289, 290, 291, 292, 293, 294, 295, 296, 46, 788] (by decide +kernel) (by decide +kernel)
set_option maxRecDepth 20000 in
theorem pgX5_r5 : GoodIn wsL_law wsX5_digest_r5 := goodIn_r _ [748, 749, 750, 326, 328, 208, 751, 752, 753, 754, 227, 755, 756, 757, 758, 476, 759, 760, 761, 762, 481, 482, 483, 20] (by decide +kernel) (by decide +kernel)
set_option maxRecDepth 20000 in
theorem pgX5_r6 : GoodIn wsL_law wsX5_digest_r6 := goodIn_r _ [484, 428, 485, 429, 486, 763, 764, 765, 766, 480, 789, 790, 791, 792, 793, 794, 795, 796, 797, 224, 225, 226, 228, 112] (by decide +kernel) (by decide +kernel)
set_option maxRecDepth 20000 in
theorem pgX5_r7 : GoodIn wsL_law wsX5_digest_r7 := goodIn_r _ [113, 114, 798, 799, 800, 801, 802, 323, 324, 325, 327, 329, 330, 331, 332, 803, 350, 351, 352, 353, 354, 355, 356, 357] (by decide +kernel) (by decide +kernel)
set_option maxRecDepth 20000 in
theorem pgX5_r8 : GoodIn wsL_law wsX5_digest_r8 := goodIn_r _ [358, 359, 360, 361, 362, 363, 364, 804, 805, 806, 807, 808, 473, 474, 475, 466, 467, 477, 478, 479, 450, 451, 452, 453] (by decide +kernel) (by decide +kernel)
set_option maxRecDepth 20000 in
theorem pgX5_r9 : GoodIn wsL_law wsX5_digest_r9 := goodIn_r _ [809, 569, 570, 571, 572, 631, 594, 595, 596, 597, 598, 599, 600, 124, 30, 29, 34, 601, 602, 603, 604, 810, 527, 528] (by decide +kernel) (by decide +kernel)
set_option maxRecDepth 20000 in
theorem pgX5_r10 : GoodIn wsL_law wsX5_digest_r10 := goodIn_r _ [529, 530, 531, 811, 541, 542, 543, 812, 553, 554, 555, 388, 389, 390, 391, 813, 385, 386, 387, 392, 393, 394, 395, 396] (by decide +kernel) (by decide +kernel)
set_option maxRecDepth 20000 in
theorem pgX5_r11 : GoodIn wsL_law wsX5_digest_r11 := goodIn_r _ [814, 582, 583, 584, 420, 421, 630, 614, 615, 616, 815, 626, 627, 628, 629, 632, 633, 634] (by decide +kernel) (by decide +kernel)
set_option maxRecDepth 20000 in
theorem pgX5_h : GoodIn wsL_law [.code yX5_digest cX5_digest 4 (some .long)] := goodIn_r _ [786] (by decide +kernel) (by decide +kernel)
theorem pgX5_u5 : GoodIn wsL_law wsX50 := goodIn_sub inlX5 (by decide +kernel)
theorem pgX5_u4 : GoodIn wsL_law wsX40 := goodIn_sub inlX4 (by decide +kernel)
theorem pgX5_u0 : GoodIn wsL_law wsX00 := goodIn_sub inlX0 (by decide +kernel)
theorem pgX5_u1 : GoodIn wsL_law wsX10 := goodIn_sub inlX1 (by decide +kernel)
theorem pgX5_u2 : GoodIn wsL_law wsX20 := goodIn_sub inlX2 (by decide +kernel)
theorem ggL_law_X5_digest : GoodIn wsL_law wsX5_digest := goodIn_app (a := [.code yX5_digest cX5_digest 4 (some .long)]) pgX5_h (goodIn_app (goodIn_app (goodIn_app (goodIn_app (goodIn_app (goodIn_app pgX5_r1 (goodIn_app pgX5_r2 (goodIn_app pgX5_r3 (goodIn_app pgX5_r4 (goodIn_app pgX5_r5 (goodIn_app pgX5_r6 (goodIn_app pgX5_r7 (goodIn_app pgX5_r8 (goodIn_app pgX5_r9 (goodIn_app pgX5_r10 (pgX5_r11))))))))))) pgX5_u5) pgX5_u4) pgX5_u0) pgX5_u1) pgX5_u2)
set_option maxRecDepth 20000 in
theorem gL_law_X5_digest : GoodIn wsL_law (wsV RL 148 RX5 yX5_digest wsX5_digest) := goodIn_app (goodIn_of _ (by decide +kernel)) ggL_law_X5_digest
