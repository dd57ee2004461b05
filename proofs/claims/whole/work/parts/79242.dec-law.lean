set_option maxRecDepth 20000 in
theorem pgX6_r1 : GoodIn wsL_law wsX6_digest_r1 := goodIn_r _ [820, 821, 434, 822, 768, 769, 5, 770, 133, 88, 305, 222, 771, 772, 773, 774, 314, 315, 316, 317, 83, 86, 84, 775] (by decide +kernel) (by decide +kernel)
set_option maxRecDepth 20000 in
theorem pgX6_r2 : GoodIn wsL_law wsX6_digest_r2 := goodIn_r _ [776, 777, 778, 306, 307, 308, 309, 87, 310, 311, 312, 313, 318, 319, 320, 321, 779, 780, 781, 782, 491, 492, 493, 494] (by decide +kernel) (by decide +kernel)
set_option maxRecDepth 20000 in
theorem pgX6_r3 : GoodIn wsL_law wsX6_digest_r3 := goodIn_r _ [89, 90, 91, 92, 495, 496, 497, 498, 499, 500, 501, 502, 503, 504, 505, 506, 93, 94, 507, 508, 509, 510, 369, 370] (by decide +kernel) (by decide +kernel)
set_option maxRecDepth 20000 in
theorem pgX6_r4 : GoodIn wsL_law wsX6_digest_r4 := goodIn_r _ [371, 372, 373, 374, 375, 376, 85, 511, 512, 513, 345, 346, 347, 348, 514, 515, 516, 517, 409, 410, 411, 412, 405, 406] (by decide +kernel) (by decide +kernel)
set_option maxRecDepth 20000 in
theorem pgX6_r5 : GoodIn wsL_law wsX6_digest_r5 := goodIn_r _ [407, 408, 518, 519, 520, 521, 522, 523, 524, 525, 823, 824, 825, 826, 301, 302, 303, 304, 341, 342, 343, 344, 377, 378] (by decide +kernel) (by decide +kernel)
set_option maxRecDepth 20000 in
theorem pgX6_r6 : GoodIn wsL_law wsX6_digest_r6 := goodIn_r _ [379, 827, 828, 829, 830, 577, 578, 579, 580, 609, 610, 611, 612, 536, 537, 538, 539, 548, 549, 550, 551, 560, 561, 562] (by decide +kernel) (by decide +kernel)
set_option maxRecDepth 20000 in
theorem pgX6_r7 : GoodIn wsL_law wsX6_digest_r7 := goodIn_r _ [563, 564, 565, 566, 567, 401, 402, 403, 404, 380, 381, 382, 383, 589, 590, 591, 592, 435, 436, 437, 134, 135, 136, 621] (by decide +kernel) (by decide +kernel)
set_option maxRecDepth 20000 in
theorem pgX6_r8 : GoodIn wsL_law wsX6_digest_r8 := goodIn_r _ [622, 623, 624, 639, 640, 641, 642, 643] (by decide +kernel) (by decide +kernel)
set_option maxRecDepth 20000 in
theorem pgX6_h : GoodIn wsL_law [.code yX6_digest cX6_digest 4 (some .long)] := goodIn_r _ [819] (by decide +kernel) (by decide +kernel)
theorem pgX6_u6 : GoodIn wsL_law wsX60 := goodIn_sub inlX6 (by decide +kernel)
theorem ggL_law_X6_digest : GoodIn wsL_law wsX6_digest := goodIn_app (a := [.code yX6_digest cX6_digest 4 (some .long)]) pgX6_h (goodIn_app (goodIn_app pgX6_r1 (goodIn_app pgX6_r2 (goodIn_app pgX6_r3 (goodIn_app pgX6_r4 (goodIn_app pgX6_r5 (goodIn_app pgX6_r6 (goodIn_app pgX6_r7 (pgX6_r8)))))))) pgX6_u6)
set_option maxRecDepth 20000 in
theorem gL_law_X6_digest : GoodIn wsL_law (wsV RL 152 RX6 yX6_digest wsX6_digest) := goodIn_app (goodIn_of _ (by decide +kernel)) ggL_law_X6_digest
