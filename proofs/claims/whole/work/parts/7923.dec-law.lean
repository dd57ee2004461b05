set_option maxRecDepth 20000 in
theorem ggL_law_X5_least : GoodIn wsL_law wsX5_least := goodIn_r _ [584, 420, 421, 34, 28, 476, 112, 113, 2, 114, 229, 230, 231, 232, 123, 13, 107, 14, 15, 16, 233, 18, 234, 235, 236, 237, 238, 239, 27, 240, 241, 242, 243, 71, 72, 244, 245, 246, 247, 248, 73, 74, 249, 250, 251, 252, 253, 142, 143, 144, 75, 76, 77, 254, 255, 256, 33, 257, 258, 259, 260, 261, 262, 263, 50, 264, 265, 45, 266, 267, 268, 269, 270, 271, 272, 273, 49, 274, 275, 276, 277, 278, 279, 55, 280, 281, 282, 283, 284, 285, 286, 287, 288, 289, 290, 291, 292, 293, 294, 295, 296, 46, 831, 832, 833, 834, 835, 836, 837, 838, 839, 840, 841, 842, 843, 844, 845, 895, 896, 897, 898, 899, 900, 901, 902, 874, 875, 876, 877, 878, 885, 886, 887, 888, 889, 890, 891, 892, 893, 894, 903, 904] (by decide +kernel) (by decide +kernel)
set_option maxRecDepth 20000 in
theorem gL_law_X5_least : GoodIn wsL_law (wsV RL 98 RX5 yX5_least wsX5_least) := goodIn_app (goodIn_of _ (by decide +kernel)) ggL_law_X5_least
set_option maxRecDepth 20000 in
theorem ggL_law_X6_least : GoodIn wsL_law wsX6_least := goodIn_r _ [588, 134, 135, 5, 136, 589, 590, 591, 592, 495, 435, 436, 437, 503, 504, 505, 506, 496, 497, 498, 305, 88, 93, 94, 84, 87, 306, 307, 308, 309, 133, 310, 311, 312, 313, 314, 315, 316, 317, 83, 86, 318, 319, 320, 321, 507, 508, 509, 510, 369, 370, 371, 372, 373, 374, 375, 376, 85, 511, 512, 513, 345, 346, 347, 348, 514, 515, 516, 517, 409, 410, 411, 412, 405, 406, 407, 408, 846, 847, 848, 849, 850, 851, 852, 853, 854, 855, 856, 857, 858, 859, 860, 861, 862, 863, 864, 865, 866, 867, 868, 869, 870, 871, 872, 873] (by decide +kernel) (by decide +kernel)
set_option maxRecDepth 20000 in
theorem gL_law_X6_least : GoodIn wsL_law (wsV RL 101 RX6 yX6_least wsX6_least) := goodIn_app (goodIn_of _ (by decide +kernel)) ggL_law_X6_least
set_option maxRecDepth 20000 in
theorem ggL_law_X5_longest : GoodIn wsL_law wsX5_longest := goodIn_r _ [596, 450, 451, 452, 2, 453, 233, 112, 113, 114, 597, 598, 599, 600, 124, 30, 13, 107, 15, 16, 29, 18, 34, 235, 236, 237, 238, 239, 27, 240, 241, 242, 243, 71, 72, 244, 245, 246, 247, 248, 73, 74, 249, 250, 251, 252, 253, 142, 143, 144, 75, 76, 77, 254, 255, 256, 33, 257, 258, 259, 260, 261, 262, 263, 50, 264, 265, 45, 266, 267, 268, 269, 270, 271, 272, 273, 49, 274, 275, 276, 277, 278, 279, 55, 280, 281, 282, 283, 284, 285, 286, 287, 288, 289, 290, 291, 292, 293, 294, 295, 296, 46, 481, 482, 483, 20, 484, 428, 485, 429, 486, 601, 602, 603, 604, 831, 832, 833, 834, 835, 836, 837, 838, 839, 840, 841, 842, 843, 844, 845, 874, 875, 876, 877, 878, 885, 886, 887, 888, 889, 890, 891, 892, 893, 894, 895, 896, 897, 898, 899, 900, 901, 902, 903, 904] (by decide +kernel) (by decide +kernel)
set_option maxRecDepth 20000 in
theorem gL_law_X5_longest : GoodIn wsL_law (wsV RL 102 RX5 yX5_longest wsX5_longest) := goodIn_app (goodIn_of _ (by decide +kernel)) ggL_law_X5_longest
set_option maxRecDepth 20000 in
theorem ggL_law_X6_longest : GoodIn wsL_law wsX6_longest := goodIn_r _ [608, 458, 459, 460, 5, 461, 434, 134, 135, 136, 609, 610, 611, 612, 84, 518, 519, 520, 521, 91, 498, 92, 495, 499, 500, 501, 502, 89, 90, 503, 504, 505, 506, 496, 497, 305, 88, 93, 94, 87, 306, 307, 308, 309, 133, 310, 311, 312, 313, 314, 315, 316, 317, 83, 86, 318, 319, 320, 321, 507, 508, 509, 510, 369, 370, 371, 372, 373, 374, 375, 376, 85, 511, 512, 513, 345, 346, 347, 348, 514, 515, 516, 517, 409, 410, 411, 412, 405, 406, 407, 408, 846, 847, 848, 849, 850, 851, 852, 853, 854, 855, 856, 857, 858, 859, 860, 861, 862, 863, 864, 865, 866, 867, 868, 869, 870, 871, 872, 873] (by decide +kernel) (by decide +kernel)
set_option maxRecDepth 20000 in
theorem gL_law_X6_longest : GoodIn wsL_law (wsV RL 105 RX6 yX6_longest wsX6_longest) := goodIn_app (goodIn_of _ (by decide +kernel)) ggL_law_X6_longest
set_option maxRecDepth 20000 in
theorem ggL_law_X5_shared : GoodIn wsL_law wsX5_shared := goodIn_r _ [616, 233, 597, 598, 599, 2, 600, 124, 30, 13, 107, 15, 16, 29, 18, 34, 235, 236, 237, 238, 239, 27, 240, 241, 242, 243, 71, 72, 244, 245, 246, 247, 248, 73, 74, 249, 250, 251, 252, 253, 142, 143, 144, 75, 76, 77, 254, 255, 256, 33, 257, 258, 259, 260, 261, 262, 263, 50, 264, 265, 45, 266, 267, 268, 269, 270, 271, 272, 273, 49, 274, 275, 276, 277, 278, 279, 55, 280, 281, 282, 283, 284, 285, 286, 287, 288, 289, 290, 291, 292, 293, 294, 295, 296, 46, 481, 482, 483, 20, 484, 428, 485, 429, 486, 601, 602, 603, 604, 831, 832, 833, 834, 835, 836, 837, 838, 839, 840, 841, 842, 843, 844, 845, 874, 875, 876, 877, 878, 885, 886, 887, 888, 889, 890, 891, 892, 893, 894, 895, 896, 897, 898, 899, 900, 901, 902, 903, 904] (by decide +kernel) (by decide +kernel)
set_option maxRecDepth 20000 in
theorem gL_law_X5_shared : GoodIn wsL_law (wsV RL 106 RX5 yX5_shared wsX5_shared) := goodIn_app (goodIn_of _ (by decide +kernel)) ggL_law_X5_shared
set_option maxRecDepth 20000 in
theorem ggL_law_X6_shared : GoodIn wsL_law wsX6_shared := goodIn_r _ [620, 621, 622, 623, 5, 624, 434, 609, 610, 611, 612, 84, 518, 519, 520, 521, 91, 498, 92, 495, 499, 500, 501, 502, 89, 90, 503, 504, 505, 506, 496, 497, 305, 88, 93, 94, 87, 306, 307, 308, 309, 133, 310, 311, 312, 313, 314, 315, 316, 317, 83, 86, 318, 319, 320, 321, 507, 508, 509, 510, 369, 370, 371, 372, 373, 374, 375, 376, 85, 511, 512, 513, 345, 346, 347, 348, 514, 515, 516, 517, 409, 410, 411, 412, 405, 406, 407, 408, 846, 847, 848, 849, 850, 851, 852, 853, 854, 855, 856, 857, 858, 859, 860, 861, 862, 863, 864, 865, 866, 867, 868, 869, 870, 871, 872, 873] (by decide +kernel) (by decide +kernel)
set_option maxRecDepth 20000 in
theorem gL_law_X6_shared : GoodIn wsL_law (wsV RL 109 RX6 yX6_shared wsX6_shared) := goodIn_app (goodIn_of _ (by decide +kernel)) ggL_law_X6_shared
set_option maxRecDepth 20000 in
theorem ggL_law_X5_saved : GoodIn wsL_law wsX5_saved := goodIn_r _ [628, 233, 629, 630, 614, 615, 2, 616, 597, 598, 599, 600, 124, 30, 13, 107, 15, 16, 29, 18, 34, 235, 236, 237, 238, 239, 27, 240, 241, 242, 243, 71, 72, 244, 245, 246, 247, 248, 73, 74, 249, 250, 251, 252, 253, 142, 143, 144, 75, 76, 77, 254, 255, 256, 33, 257, 258, 259, 260, 261, 262, 263, 50, 264, 265, 45, 266, 267, 268, 269, 270, 271, 272, 273, 49, 274, 275, 276, 277, 278, 279, 55, 280, 281, 282, 283, 284, 285, 286, 287, 288, 289, 290, 291, 292, 293, 294, 295, 296, 46, 481, 482, 483, 20, 484, 428, 485, 429, 486, 601, 602, 603, 604, 631, 594, 595, 596, 450, 451, 452, 453, 112, 113, 114, 632, 633, 634, 831, 832, 833, 834, 835, 836, 837, 838, 839, 840, 841, 842, 843, 844, 845, 874, 875, 876, 877, 878, 885, 886, 887, 888, 889, 890, 891, 892, 893, 894, 895, 896, 897, 898, 899, 900, 901, 902, 903, 904] (by decide +kernel) (by decide +kernel)
set_option maxRecDepth 20000 in
theorem gL_law_X5_saved : GoodIn wsL_law (wsV RL 110 RX5 yX5_saved wsX5_saved) := goodIn_app (goodIn_of _ (by decide +kernel)) ggL_law_X5_saved
set_option maxRecDepth 20000 in
theorem ggL_law_X6_saved : GoodIn wsL_law wsX6_saved := goodIn_r _ [638, 639, 640, 641, 5, 642, 434, 643, 621, 622, 623, 624, 609, 610, 611, 612, 84, 518, 519, 520, 521, 91, 498, 92, 495, 499, 500, 501, 502, 89, 90, 503, 504, 505, 506, 496, 497, 305, 88, 93, 94, 87, 306, 307, 308, 309, 133, 310, 311, 312, 313, 314, 315, 316, 317, 83, 86, 318, 319, 320, 321, 507, 508, 509, 510, 369, 370, 371, 372, 373, 374, 375, 376, 85, 511, 512, 513, 345, 346, 347, 348, 514, 515, 516, 517, 409, 410, 411, 412, 405, 406, 407, 408, 846, 847, 848, 849, 850, 851, 852, 853, 854, 855, 856, 857, 858, 859, 860, 861, 862, 863, 864, 865, 866, 867, 868, 869, 870, 871, 872, 873] (by decide +kernel) (by decide +kernel)
set_option maxRecDepth 20000 in
theorem gL_law_X6_saved : GoodIn wsL_law (wsV RL 113 RX6 yX6_saved wsX6_saved) := goodIn_app (goodIn_of _ (by decide +kernel)) ggL_law_X6_saved
set_option maxRecDepth 20000 in
theorem ggL_law_X5_sheet : GoodIn wsL_law wsX5_sheet := goodIn_r _ [647, 22, 201, 202, 2, 203, 112, 113, 114, 204, 205, 206, 207, 208, 648, 649, 650, 24, 651, 60, 652, 653, 62, 654, 655, 656, 657, 64, 66, 831, 832, 833, 834, 835, 836, 837, 838, 839, 840, 841, 842, 843, 844, 845, 879, 880, 881, 882, 883, 884] (by decide +kernel) (by decide +kernel)
set_option maxRecDepth 20000 in
theorem gL_law_X5_sheet : GoodIn wsL_law (wsV RL 114 RX5 yX5_sheet wsX5_sheet) := goodIn_app (goodIn_of _ (by decide +kernel)) ggL_law_X5_sheet
set_option maxRecDepth 20000 in
theorem ggL_law_X6_sheet : GoodIn wsL_law wsX6_sheet := goodIn_r _ [661, 95, 96, 97, 98, 99, 215, 216, 5, 217, 134, 135, 136, 218, 219, 220, 221, 222, 846, 847, 848, 849, 850, 851, 852, 853, 854, 855, 856, 857, 858, 859, 860, 861, 862, 863, 864, 865, 866, 867, 868, 869, 870, 871, 872, 873] (by decide +kernel) (by decide +kernel)
set_option maxRecDepth 20000 in
theorem gL_law_X6_sheet : GoodIn wsL_law (wsV RL 117 RX6 yX6_sheet wsX6_sheet) := goodIn_app (goodIn_of _ (by decide +kernel)) ggL_law_X6_sheet
set_option maxRecDepth 20000 in
theorem ggL_law_X5_lose : GoodIn wsL_law wsX5_lose := goodIn_r _ [665, 22, 199, 193, 201, 202, 2, 203, 112, 113, 114, 204, 205, 206, 207, 208, 831, 832, 833, 834, 835, 836, 837, 838, 839, 840, 841, 842, 843, 844, 845, 879, 880, 881, 882, 883, 884] (by decide +kernel) (by decide +kernel)
set_option maxRecDepth 20000 in
theorem gL_law_X5_lose : GoodIn wsL_law (wsV RL 118 RX5 yX5_lose wsX5_lose) := goodIn_app (goodIn_of _ (by decide +kernel)) ggL_law_X5_lose
set_option maxRecDepth 20000 in
theorem ggL_law_X6_lose : GoodIn wsL_law wsX6_lose := goodIn_r _ [669, 95, 96, 215, 216, 5, 217, 134, 135, 136, 218, 219, 220, 221, 222, 846, 847, 848, 849, 850, 851, 852, 853, 854, 855, 856, 857, 858, 859, 860, 861, 862, 863, 864, 865, 866, 867, 868, 869, 870, 871, 872, 873] (by decide +kernel) (by decide +kernel)
set_option maxRecDepth 20000 in
theorem gL_law_X6_lose : GoodIn wsL_law (wsV RL 121 RX6 yX6_lose wsX6_lose) := goodIn_app (goodIn_of _ (by decide +kernel)) ggL_law_X6_lose
set_option maxRecDepth 20000 in
theorem ggL_law_X5_put : GoodIn wsL_law wsX5_put := goodIn_r _ [673, 22, 194, 674, 112, 113, 2, 114, 195, 196, 197, 198, 199, 200, 201, 202, 203, 204, 205, 206, 207, 208, 675, 676, 677, 24, 678, 653, 679, 655, 656, 657, 64, 66, 831, 832, 833, 834, 835, 836, 837, 838, 839, 840, 841, 842, 843, 844, 845, 879, 880, 881, 882, 883, 884] (by decide +kernel) (by decide +kernel)
set_option maxRecDepth 20000 in
theorem gL_law_X5_put : GoodIn wsL_law (wsV RL 122 RX5 yX5_put wsX5_put) := goodIn_app (goodIn_of _ (by decide +kernel)) ggL_law_X5_put
set_option maxRecDepth 20000 in
theorem ggL_law_X6_put : GoodIn wsL_law wsX6_put := goodIn_r _ [683, 95, 97, 98, 684, 99, 215, 216, 5, 217, 134, 135, 136, 685, 686, 687, 688, 96, 218, 219, 220, 221, 222, 846, 847, 848, 849, 850, 851, 852, 853, 854, 855, 856, 857, 858, 859, 860, 861, 862, 863, 864, 865, 866, 867, 868, 869, 870, 871, 872, 873] (by decide +kernel) (by decide +kernel)
set_option maxRecDepth 20000 in
theorem gL_law_X6_put : GoodIn wsL_law (wsV RL 126 RX6 yX6_put wsX6_put) := goodIn_app (goodIn_of _ (by decide +kernel)) ggL_law_X6_put
