set_option maxRecDepth 20000 in
theorem ggL_law_X5_get : GoodIn wsL_law wsX5_get := goodIn_r _ [692, 22, 199, 200, 194, 693, 674, 694, 201, 202, 2, 203, 112, 113, 114, 355, 356, 357, 358, 204, 205, 206, 207, 208, 675, 676, 677, 24, 678, 653, 831, 832, 833, 834, 835, 836, 837, 838, 839, 840, 841, 842, 843, 844, 845, 879, 880, 881, 882, 883, 884] (by decide +kernel) (by decide +kernel)
set_option maxRecDepth 20000 in
theorem gL_law_X5_get : GoodIn wsL_law (wsV RL 127 RX5 yX5_get wsX5_get) := goodIn_app (goodIn_of _ (by decide +kernel)) ggL_law_X5_get
set_option maxRecDepth 20000 in
theorem ggL_law_X6_get : GoodIn wsL_law wsX6_get := goodIn_r _ [698, 95, 215, 216, 5, 217, 134, 135, 136, 380, 381, 382, 383, 685, 686, 687, 688, 96, 218, 219, 220, 221, 222, 699, 700, 701, 702, 97, 99, 684, 98, 846, 847, 848, 849, 850, 851, 852, 853, 854, 855, 856, 857, 858, 859, 860, 861, 862, 863, 864, 865, 866, 867, 868, 869, 870, 871, 872, 873] (by decide +kernel) (by decide +kernel)
set_option maxRecDepth 20000 in
theorem gL_law_X6_get : GoodIn wsL_law (wsV RL 130 RX6 yX6_get wsX6_get) := goodIn_app (goodIn_of _ (by decide +kernel)) ggL_law_X6_get
set_option maxRecDepth 20000 in
theorem ggL_law_X5_copy : GoodIn wsL_law wsX5_copy := goodIn_r _ [706, 22, 199, 200, 201, 202, 2, 203, 112, 113, 114, 204, 205, 206, 207, 208, 675, 676, 677, 24, 678, 653, 707, 708, 709, 710, 62, 64, 66, 831, 832, 833, 834, 835, 836, 837, 838, 839, 840, 841, 842, 843, 844, 845, 879, 880, 881, 882, 883, 884] (by decide +kernel) (by decide +kernel)
set_option maxRecDepth 20000 in
theorem gL_law_X5_copy : GoodIn wsL_law (wsV RL 131 RX5 yX5_copy wsX5_copy) := goodIn_app (goodIn_of _ (by decide +kernel)) ggL_law_X5_copy
set_option maxRecDepth 20000 in
theorem ggL_law_X6_copy : GoodIn wsL_law wsX6_copy := goodIn_r _ [714, 95, 96, 100, 97, 101, 98, 102, 99, 215, 216, 5, 217, 134, 135, 136, 218, 219, 220, 221, 222, 846, 847, 848, 849, 850, 851, 852, 853, 854, 855, 856, 857, 858, 859, 860, 861, 862, 863, 864, 865, 866, 867, 868, 869, 870, 871, 872, 873] (by decide +kernel) (by decide +kernel)
set_option maxRecDepth 20000 in
theorem gL_law_X6_copy : GoodIn wsL_law (wsV RL 135 RX6 yX6_copy wsX6_copy) := goodIn_app (goodIn_of _ (by decide +kernel)) ggL_law_X6_copy
set_option maxRecDepth 20000 in
theorem ggL_law_X5_write : GoodIn wsL_law wsX5_write := goodIn_r _ [718, 22, 193, 107, 141, 142, 143, 144, 28, 228, 693, 195, 196, 197, 2, 198, 199, 200, 201, 202, 203, 112, 113, 114, 204, 205, 206, 207, 208, 229, 230, 231, 232, 123, 13, 14, 15, 16, 233, 18, 234, 235, 236, 237, 238, 239, 27, 240, 241, 242, 243, 71, 72, 244, 245, 246, 247, 248, 73, 74, 249, 250, 251, 252, 253, 75, 76, 77, 254, 255, 256, 33, 257, 258, 259, 260, 261, 262, 263, 50, 264, 265, 45, 266, 267, 268, 269, 270, 271, 272, 273, 49, 274, 275, 276, 277, 278, 279, 55, 280, 281, 282, 283, 284, 285, 286, 287, 288, 289, 290, 291, 292, 293, 294, 295, 296, 46, 719, 720, 721, 722, 679, 655, 656, 24, 657, 64, 66, 831, 832, 833, 834, 835, 836, 837, 838, 839, 840, 841, 842, 843, 844, 845, 879, 880, 881, 882, 883, 884, 885, 886, 887, 888, 889, 890, 891, 892, 893, 894, 874, 875, 876, 877, 878, 895, 896, 897, 898, 899, 900, 901, 902, 903, 904] (by decide +kernel) (by decide +kernel)
set_option maxRecDepth 20000 in
theorem gL_law_X5_write : GoodIn wsL_law (wsV RL 136 RX5 yX5_write wsX5_write) := goodIn_app (goodIn_of _ (by decide +kernel)) ggL_law_X5_write
set_option maxRecDepth 20000 in
theorem ggL_law_X6_write : GoodIn wsL_law wsX6_write := goodIn_r _ [726, 95, 133, 96, 88, 98, 99, 215, 216, 5, 217, 134, 135, 136, 218, 219, 220, 221, 222, 301, 302, 303, 304, 305, 87, 83, 306, 307, 308, 309, 310, 311, 312, 313, 314, 315, 316, 317, 86, 84, 318, 319, 320, 321, 373, 374, 375, 376, 85, 369, 370, 371, 372, 846, 847, 848, 849, 850, 851, 852, 853, 854, 855, 856, 857, 858, 859, 860, 861, 862, 863, 864, 865, 866, 867, 868, 869, 870, 871, 872, 873] (by decide +kernel) (by decide +kernel)
set_option maxRecDepth 20000 in
theorem gL_law_X6_write : GoodIn wsL_law (wsV RL 139 RX6 yX6_write wsX6_write) := goodIn_app (goodIn_of _ (by decide +kernel)) ggL_law_X6_write
set_option maxRecDepth 20000 in
theorem ggL_law_X5_found : GoodIn wsL_law wsX5_found := goodIn_r _ [730, 22, 674, 112, 113, 2, 114, 195, 196, 197, 198, 199, 200, 201, 202, 203, 204, 205, 206, 207, 208, 731, 732, 733, 24, 734, 653, 66, 735, 736, 737, 738, 64, 739, 740, 741, 742, 831, 832, 833, 834, 835, 836, 837, 838, 839, 840, 841, 842, 843, 844, 845, 879, 880, 881, 882, 883, 884] (by decide +kernel) (by decide +kernel)
set_option maxRecDepth 20000 in
theorem gL_law_X5_found : GoodIn wsL_law (wsV RL 140 RX5 yX5_found wsX5_found) := goodIn_app (goodIn_of _ (by decide +kernel)) ggL_law_X5_found
set_option maxRecDepth 20000 in
theorem ggL_law_X6_found : GoodIn wsL_law wsX6_found := goodIn_r _ [746, 95, 684, 96, 99, 98, 215, 216, 5, 217, 134, 135, 136, 218, 219, 220, 221, 222, 846, 847, 848, 849, 850, 851, 852, 853, 854, 855, 856, 857, 858, 859, 860, 861, 862, 863, 864, 865, 866, 867, 868, 869, 870, 871, 872, 873] (by decide +kernel) (by decide +kernel)
set_option maxRecDepth 20000 in
theorem gL_law_X6_found : GoodIn wsL_law (wsV RL 143 RX6 yX6_found wsX6_found) := goodIn_app (goodIn_of _ (by decide +kernel)) ggL_law_X6_found
set_option maxRecDepth 20000 in
theorem ggL_law_X5_count : GoodIn wsL_law wsX5_count := goodIn_r _ [750, 107, 28, 326, 233, 328, 208, 229, 230, 231, 2, 232, 123, 13, 14, 15, 16, 18, 234, 235, 236, 237, 238, 239, 27, 240, 241, 242, 243, 71, 72, 244, 245, 246, 247, 248, 73, 74, 249, 250, 251, 252, 253, 142, 143, 144, 75, 76, 77, 254, 255, 256, 33, 257, 258, 259, 260, 261, 262, 263, 50, 264, 265, 45, 266, 267, 268, 269, 270, 271, 272, 273, 49, 274, 275, 276, 277, 278, 279, 55, 280, 281, 282, 283, 284, 285, 286, 287, 288, 289, 290, 291, 292, 293, 294, 295, 296, 46, 751, 752, 753, 754, 227, 755, 756, 757, 758, 476, 759, 760, 761, 762, 481, 482, 483, 20, 484, 428, 485, 429, 486, 763, 764, 765, 766, 480, 831, 832, 833, 834, 835, 836, 837, 838, 839, 840, 841, 842, 843, 844, 845, 885, 886, 887, 888, 889, 890, 891, 892, 893, 894, 874, 875, 876, 877, 878, 895, 896, 897, 898, 899, 900, 901, 902, 903, 904] (by decide +kernel) (by decide +kernel)
set_option maxRecDepth 20000 in
theorem gL_law_X5_count : GoodIn wsL_law (wsV RL 144 RX5 yX5_count wsX5_count) := goodIn_app (goodIn_of _ (by decide +kernel)) ggL_law_X5_count
set_option maxRecDepth 20000 in
theorem ggL_law_X6_count : GoodIn wsL_law wsX6_count := goodIn_r _ [770, 133, 434, 88, 305, 222, 771, 772, 773, 5, 774, 314, 315, 316, 317, 83, 86, 84, 775, 776, 777, 778, 306, 307, 308, 309, 87, 310, 311, 312, 313, 318, 319, 320, 321, 779, 780, 781, 782, 491, 492, 493, 494, 89, 90, 91, 92, 495, 496, 497, 498, 499, 500, 501, 502, 503, 504, 505, 506, 93, 94, 507, 508, 509, 510, 369, 370, 371, 372, 373, 374, 375, 376, 85, 511, 512, 513, 345, 346, 347, 348, 514, 515, 516, 517, 409, 410, 411, 412, 405, 406, 407, 408, 518, 519, 520, 521, 522, 523, 524, 525, 846, 847, 848, 849, 850, 851, 852, 853, 854, 855, 856, 857, 858, 859, 860, 861, 862, 863, 864, 865, 866, 867, 868, 869, 870, 871, 872, 873] (by decide +kernel) (by decide +kernel)
set_option maxRecDepth 20000 in
theorem gL_law_X6_count : GoodIn wsL_law (wsV RL 147 RX6 yX6_count wsX6_count) := goodIn_app (goodIn_of _ (by decide +kernel)) ggL_law_X6_count
