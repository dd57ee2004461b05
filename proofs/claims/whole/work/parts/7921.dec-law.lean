set_option maxRecDepth 20000 in
theorem ggL_law_X5_read : GoodIn wsL_law wsX5_read := goodIn_r _ [192, 22, 193, 107, 194, 195, 196, 197, 2, 198, 199, 200, 201, 202, 203, 112, 113, 114, 204, 205, 206, 207, 208, 108, 109, 110, 111, 115, 116, 117, 118, 13, 119, 120, 121, 122, 123, 124, 831, 832, 833, 834, 835, 836, 837, 838, 839, 840, 841, 842, 843, 844, 845, 879, 880, 881, 882, 883, 884] (by decide +kernel) (by decide +kernel)
set_option maxRecDepth 20000 in
theorem gL_law_X5_read : GoodIn wsL_law (wsV RL 41 RX5 yX5_read wsX5_read) := goodIn_app (goodIn_of _ (by decide +kernel)) ggL_law_X5_read
set_option maxRecDepth 20000 in
theorem ggL_law_X6_read : GoodIn wsL_law wsX6_read := goodIn_r _ [212, 95, 96, 97, 213, 214, 215, 216, 5, 217, 134, 135, 136, 218, 219, 220, 221, 222, 129, 130, 131, 132, 133, 83, 846, 847, 848, 849, 850, 851, 852, 853, 854, 855, 856, 857, 858, 859, 860, 861, 862, 863, 864, 865, 866, 867, 868, 869, 870, 871, 872, 873] (by decide +kernel) (by decide +kernel)
set_option maxRecDepth 20000 in
theorem gL_law_X6_read : GoodIn wsL_law (wsV RL 44 RX6 yX6_read wsX6_read) := goodIn_app (goodIn_of _ (by decide +kernel)) ggL_law_X6_read
set_option maxRecDepth 20000 in
theorem ggL_law_X5_came : GoodIn wsL_law wsX5_came := goodIn_r _ [226, 107, 28, 227, 13, 228, 112, 113, 2, 114, 229, 230, 231, 232, 123, 14, 15, 16, 233, 18, 234, 235, 236, 237, 238, 239, 27, 240, 241, 242, 243, 71, 72, 244, 245, 246, 247, 248, 73, 74, 249, 250, 251, 252, 253, 142, 143, 144, 75, 76, 77, 254, 255, 256, 33, 257, 258, 259, 260, 261, 262, 263, 50, 264, 265, 45, 266, 267, 268, 269, 270, 271, 272, 273, 49, 274, 275, 276, 277, 278, 279, 55, 280, 281, 282, 283, 284, 285, 286, 287, 288, 289, 290, 291, 292, 293, 294, 295, 296, 46, 831, 832, 833, 834, 835, 836, 837, 838, 839, 840, 841, 842, 843, 844, 845, 885, 886, 887, 888, 889, 890, 891, 892, 893, 894, 874, 875, 876, 877, 878, 895, 896, 897, 898, 899, 900, 901, 902, 903, 904] (by decide +kernel) (by decide +kernel)
set_option maxRecDepth 20000 in
theorem gL_law_X5_came : GoodIn wsL_law (wsV RL 45 RX5 yX5_came wsX5_came) := goodIn_app (goodIn_of _ (by decide +kernel)) ggL_law_X5_came
set_option maxRecDepth 20000 in
theorem ggL_law_X6_came : GoodIn wsL_law wsX6_came := goodIn_r _ [300, 161, 162, 163, 5, 164, 133, 134, 135, 136, 301, 302, 303, 304, 305, 87, 83, 306, 307, 308, 309, 88, 310, 311, 312, 313, 314, 315, 316, 317, 86, 84, 318, 319, 320, 321, 846, 847, 848, 849, 850, 851, 852, 853, 854, 855, 856, 857, 858, 859, 860, 861, 862, 863, 864, 865, 866, 867, 868, 869, 870, 871, 872, 873] (by decide +kernel) (by decide +kernel)
set_option maxRecDepth 20000 in
theorem gL_law_X6_came : GoodIn wsL_law (wsV RL 48 RX6 yX6_came wsX6_came) := goodIn_app (goodIn_of _ (by decide +kernel)) ggL_law_X6_came
set_option maxRecDepth 20000 in
theorem ggL_law_X5_news : GoodIn wsL_law wsX5_news := goodIn_r _ [325, 28, 326, 327, 328, 229, 230, 231, 2, 232, 123, 13, 107, 14, 15, 16, 233, 18, 234, 235, 236, 237, 238, 239, 27, 240, 241, 242, 243, 71, 72, 244, 245, 246, 247, 248, 73, 74, 249, 250, 251, 252, 253, 142, 143, 144, 75, 76, 77, 254, 255, 256, 33, 257, 258, 259, 260, 261, 262, 263, 50, 264, 265, 45, 266, 267, 268, 269, 270, 271, 272, 273, 49, 274, 275, 276, 277, 278, 279, 55, 280, 281, 282, 283, 284, 285, 286, 287, 288, 289, 290, 291, 292, 293, 294, 295, 296, 46, 112, 113, 114, 329, 330, 331, 332, 831, 832, 833, 834, 835, 836, 837, 838, 839, 840, 841, 842, 843, 844, 845, 885, 886, 887, 888, 889, 890, 891, 892, 893, 894, 874, 875, 876, 877, 878, 895, 896, 897, 898, 899, 900, 901, 902, 903, 904] (by decide +kernel) (by decide +kernel)
set_option maxRecDepth 20000 in
theorem gL_law_X5_news : GoodIn wsL_law (wsV RL 49 RX5 yX5_news wsX5_news) := goodIn_app (goodIn_of _ (by decide +kernel)) ggL_law_X5_news
set_option maxRecDepth 20000 in
theorem ggL_law_X6_news : GoodIn wsL_law wsX6_news := goodIn_r _ [336, 337, 338, 339, 5, 340, 305, 306, 307, 308, 309, 133, 87, 88, 310, 311, 312, 313, 314, 315, 316, 317, 83, 86, 84, 318, 319, 320, 321, 134, 135, 136, 341, 342, 343, 344, 345, 346, 347, 348, 85, 846, 847, 848, 849, 850, 851, 852, 853, 854, 855, 856, 857, 858, 859, 860, 861, 862, 863, 864, 865, 866, 867, 868, 869, 870, 871, 872, 873] (by decide +kernel) (by decide +kernel)
set_option maxRecDepth 20000 in
theorem gL_law_X6_news : GoodIn wsL_law (wsV RL 52 RX6 yX6_news wsX6_news) := goodIn_app (goodIn_of _ (by decide +kernel)) ggL_law_X6_news
set_option maxRecDepth 20000 in
theorem ggL_law_X5_expected : GoodIn wsL_law wsX5_expected := goodIn_r _ [352, 28, 326, 353, 354, 229, 230, 231, 2, 232, 123, 13, 107, 14, 15, 16, 233, 18, 234, 235, 236, 237, 238, 239, 27, 240, 241, 242, 243, 71, 72, 244, 245, 246, 247, 248, 73, 74, 249, 250, 251, 252, 253, 142, 143, 144, 75, 76, 77, 254, 255, 256, 33, 257, 258, 259, 260, 261, 262, 263, 50, 264, 265, 45, 266, 267, 268, 269, 270, 271, 272, 273, 49, 274, 275, 276, 277, 278, 279, 55, 280, 281, 282, 283, 284, 285, 286, 287, 288, 289, 290, 291, 292, 293, 294, 295, 296, 46, 112, 113, 114, 355, 356, 357, 358, 359, 360, 361, 362, 363, 364, 831, 832, 833, 834, 835, 836, 837, 838, 839, 840, 841, 842, 843, 844, 845, 885, 886, 887, 888, 889, 890, 891, 892, 893, 894, 874, 875, 876, 877, 878, 895, 896, 897, 898, 899, 900, 901, 902, 903, 904] (by decide +kernel) (by decide +kernel)
set_option maxRecDepth 20000 in
theorem gL_law_X5_expected : GoodIn wsL_law (wsV RL 53 RX5 yX5_expected wsX5_expected) := goodIn_app (goodIn_of _ (by decide +kernel)) ggL_law_X5_expected
set_option maxRecDepth 20000 in
theorem ggL_law_X6_expected : GoodIn wsL_law wsX6_expected := goodIn_r _ [368, 337, 338, 339, 5, 340, 305, 306, 307, 308, 309, 133, 87, 88, 310, 311, 312, 313, 314, 315, 316, 317, 83, 86, 84, 318, 319, 320, 321, 134, 135, 136, 369, 370, 371, 372, 373, 374, 375, 376, 85, 377, 378, 379, 380, 381, 382, 383, 846, 847, 848, 849, 850, 851, 852, 853, 854, 855, 856, 857, 858, 859, 860, 861, 862, 863, 864, 865, 866, 867, 868, 869, 870, 871, 872, 873] (by decide +kernel) (by decide +kernel)
set_option maxRecDepth 20000 in
theorem gL_law_X6_expected : GoodIn wsL_law (wsV RL 57 RX6 yX6_expected wsX6_expected) := goodIn_app (goodIn_of _ (by decide +kernel)) ggL_law_X6_expected
set_option maxRecDepth 20000 in
theorem ggL_law_X5_score : GoodIn wsL_law wsX5_score := goodIn_r _ [387, 28, 328, 112, 113, 2, 114, 355, 356, 357, 358, 229, 230, 231, 232, 123, 13, 107, 14, 15, 16, 233, 18, 234, 235, 236, 237, 238, 239, 27, 240, 241, 242, 243, 71, 72, 244, 245, 246, 247, 248, 73, 74, 249, 250, 251, 252, 253, 142, 143, 144, 75, 76, 77, 254, 255, 256, 33, 257, 258, 259, 260, 261, 262, 263, 50, 264, 265, 45, 266, 267, 268, 269, 270, 271, 272, 273, 49, 274, 275, 276, 277, 278, 279, 55, 280, 281, 282, 283, 284, 285, 286, 287, 288, 289, 290, 291, 292, 293, 294, 295, 296, 46, 388, 389, 390, 391, 329, 330, 331, 332, 392, 393, 394, 395, 396, 359, 360, 361, 362, 363, 364, 831, 832, 833, 834, 835, 836, 837, 838, 839, 840, 841, 842, 843, 844, 845, 885, 886, 887, 888, 889, 890, 891, 892, 893, 894, 874, 875, 876, 877, 878, 895, 896, 897, 898, 899, 900, 901, 902, 903, 904] (by decide +kernel) (by decide +kernel)
set_option maxRecDepth 20000 in
theorem gL_law_X5_score : GoodIn wsL_law (wsV RL 58 RX5 yX5_score wsX5_score) := goodIn_app (goodIn_of _ (by decide +kernel)) ggL_law_X5_score
set_option maxRecDepth 20000 in
theorem ggL_law_X6_score : GoodIn wsL_law wsX6_score := goodIn_r _ [400, 134, 135, 5, 136, 401, 402, 403, 404, 305, 88, 306, 307, 308, 309, 133, 87, 310, 311, 312, 313, 314, 315, 316, 317, 83, 86, 84, 318, 319, 320, 321, 380, 381, 382, 383, 405, 406, 407, 408, 345, 346, 347, 348, 85, 409, 410, 411, 412, 377, 378, 379, 846, 847, 848, 849, 850, 851, 852, 853, 854, 855, 856, 857, 858, 859, 860, 861, 862, 863, 864, 865, 866, 867, 868, 869, 870, 871, 872, 873] (by decide +kernel) (by decide +kernel)
set_option maxRecDepth 20000 in
theorem gL_law_X6_score : GoodIn wsL_law (wsV RL 61 RX6 yX6_score wsX6_score) := goodIn_app (goodIn_of _ (by decide +kernel)) ggL_law_X6_score
set_option maxRecDepth 20000 in
theorem ggL_law_X5_watcher : GoodIn wsL_law wsX5_watcher := goodIn_r _ [416, 233, 18, 112, 113, 2, 114, 417, 418, 419, 420, 421, 422, 423, 424, 20, 425, 426, 427, 428, 429, 119, 120, 121, 122, 123, 124, 831, 832, 833, 834, 835, 836, 837, 838, 839, 840, 841, 842, 843, 844, 845, 874, 875, 876, 877, 878] (by decide +kernel) (by decide +kernel)
set_option maxRecDepth 20000 in
theorem gL_law_X5_watcher : GoodIn wsL_law (wsV RL 62 RX5 yX5_watcher wsX5_watcher) := goodIn_app (goodIn_of _ (by decide +kernel)) ggL_law_X5_watcher
set_option maxRecDepth 20000 in
theorem ggL_law_X6_watcher : GoodIn wsL_law wsX6_watcher := goodIn_r _ [433, 434, 89, 90, 91, 92, 435, 436, 5, 437, 134, 135, 136, 846, 847, 848, 849, 850, 851, 852, 853, 854, 855, 856, 857, 858, 859, 860, 861, 862, 863, 864, 865, 866, 867, 868, 869, 870, 871, 872, 873] (by decide +kernel) (by decide +kernel)
set_option maxRecDepth 20000 in
theorem gL_law_X6_watcher : GoodIn wsL_law (wsV RL 65 RX6 yX6_watcher wsX6_watcher) := goodIn_app (goodIn_of _ (by decide +kernel)) ggL_law_X6_watcher
set_option maxRecDepth 20000 in
theorem ggL_law_X5_leaves : GoodIn wsL_law wsX5_leaves := goodIn_r _ [441, 233, 119, 120, 121, 2, 122, 123, 124, 831, 832, 833, 834, 835, 836, 837, 838, 839, 840, 841, 842, 843, 844, 845] (by decide +kernel) (by decide +kernel)
set_option maxRecDepth 20000 in
theorem gL_law_X5_leaves : GoodIn wsL_law (wsV RL 66 RX5 yX5_leaves wsX5_leaves) := goodIn_app (goodIn_of _ (by decide +kernel)) ggL_law_X5_leaves
set_option maxRecDepth 20000 in
theorem ggL_law_X6_leaves : GoodIn wsL_law wsX6_leaves := goodIn_r _ [445, 434, 846, 847, 848, 849, 850, 851, 852, 853, 854, 855, 856, 857, 858, 859, 860, 861, 862, 863, 864, 865, 866, 867, 868, 869, 870, 871, 872, 873] (by decide +kernel) (by decide +kernel)
set_option maxRecDepth 20000 in
theorem gL_law_X6_leaves : GoodIn wsL_law (wsV RL 69 RX6 yX6_leaves wsX6_leaves) := goodIn_app (goodIn_of _ (by decide +kernel)) ggL_law_X6_leaves
