theorem dX0_init_0 : decode cX0_init 0 = .ok (.aload_n 0, 1) := by decide +kernel
theorem dX0_init_1 : decode cX0_init 1 = .ok (.invokespecial 3, 3) := by decide +kernel
theorem dX0_init_4 : decode cX0_init 4 = .ok (.aload_n 0, 1) := by decide +kernel
theorem dX0_init_5 : decode cX0_init 5 = .ok (.bipush 40, 2) := by decide +kernel
theorem dX0_init_7 : decode cX0_init 7 = .ok (.newarray .int, 2) := by decide +kernel
theorem dX0_init_9 : decode cX0_init 9 = .ok (.putfield 9, 3) := by decide +kernel
theorem dX0_init_12 : decode cX0_init 12 = .ok (.aload_n 0, 1) := by decide +kernel
theorem dX0_init_13 : decode cX0_init 13 = .ok (.bipush 40, 2) := by decide +kernel
theorem dX0_init_15 : decode cX0_init 15 = .ok (.newarray .int, 2) := by decide +kernel
theorem dX0_init_17 : decode cX0_init 17 = .ok (.putfield 15, 3) := by decide +kernel
theorem dX0_init_20 : decode cX0_init 20 = .ok (.aload_n 0, 1) := by decide +kernel
theorem dX0_init_21 : decode cX0_init 21 = .ok (.bipush 40, 2) := by decide +kernel
theorem dX0_init_23 : decode cX0_init 23 = .ok (.newarray .int, 2) := by decide +kernel
theorem dX0_init_25 : decode cX0_init 25 = .ok (.putfield 18, 3) := by decide +kernel
theorem dX0_init_28 : decode cX0_init 28 = .ok (.aload_n 0, 1) := by decide +kernel
theorem dX0_init_29 : decode cX0_init 29 = .ok (.bipush 40, 2) := by decide +kernel
theorem dX0_init_31 : decode cX0_init 31 = .ok (.newarray .int, 2) := by decide +kernel
theorem dX0_init_33 : decode cX0_init 33 = .ok (.putfield 21, 3) := by decide +kernel
theorem dX0_init_36 : decode cX0_init 36 = .ok (.aload_n 0, 1) := by decide +kernel
theorem dX0_init_37 : decode cX0_init 37 = .ok (.bipush 40, 2) := by decide +kernel
theorem dX0_init_39 : decode cX0_init 39 = .ok (.newarray .int, 2) := by decide +kernel
theorem dX0_init_41 : decode cX0_init 41 = .ok (.putfield 24, 3) := by decide +kernel
theorem dX0_init_44 : decode cX0_init 44 = .ok (.aload_n 0, 1) := by decide +kernel
theorem dX0_init_45 : decode cX0_init 45 = .ok (.bipush 40, 2) := by decide +kernel
theorem dX0_init_47 : decode cX0_init 47 = .ok (.newarray .int, 2) := by decide +kernel
theorem dX0_init_49 : decode cX0_init 49 = .ok (.putfield 27, 3) := by decide +kernel
theorem dX0_init_52 : decode cX0_init 52 = .ok (.aload_n 0, 1) := by decide +kernel
theorem dX0_init_53 : decode cX0_init 53 = .ok (.bipush 40, 2) := by decide +kernel
theorem dX0_init_55 : decode cX0_init 55 = .ok (.newarray .int, 2) := by decide +kernel
theorem dX0_init_57 : decode cX0_init 57 = .ok (.putfield 30, 3) := by decide +kernel
theorem dX0_init_60 : decode cX0_init 60 = .ok (.return_, 1) := by decide +kernel
set_option maxRecDepth 20000 in
theorem ggX0_follow_X0_numberNews : GoodIn wsX0_follow wsX0_numberNews := goodIn_r _ [10, 11, 5, 12, 13, 4, 25, 26, 27, 28, 29, 30, 31, 32, 33, 34] (by decide +kernel) (by decide +kernel)
set_option maxRecDepth 20000 in
theorem gX0_follow_X0_numberNews : GoodIn wsX0_follow (wsV RX0 41 RX0 yX0_numberNews wsX0_numberNews) := goodIn_app (goodIn_of _ (by decide +kernel)) ggX0_follow_X0_numberNews
set_option maxRecDepth 20000 in
theorem ggX0_follow_X0_expectNext : GoodIn wsX0_follow wsX0_expectNext := goodIn_r _ [17, 11, 13, 12, 1, 2, 18, 19, 20, 21, 22, 23, 24, 3, 25, 26, 27, 28, 29, 30, 31, 32, 33, 34] (by decide +kernel) (by decide +kernel)
set_option maxRecDepth 20000 in
theorem gX0_follow_X0_expectNext : GoodIn wsX0_follow (wsV RX0 45 RX0 yX0_expectNext wsX0_expectNext) := goodIn_app (goodIn_of _ (by decide +kernel)) ggX0_follow_X0_expectNext
theorem dX0_follow_0 : decode cX0_follow 0 = .ok (.aload_n 0, 1) := by decide +kernel
theorem dX0_follow_1 : decode cX0_follow 1 = .ok (.iload_n 3, 1) := by decide +kernel
theorem dX0_follow_2 : decode cX0_follow 2 = .ok (.putfield 33, 3) := by decide +kernel
theorem dX0_follow_5 : decode cX0_follow 5 = .ok (.aload_n 0, 1) := by decide +kernel
theorem dX0_follow_6 : decode cX0_follow 6 = .ok (.iload 4, 2) := by decide +kernel
theorem dX0_follow_8 : decode cX0_follow 8 = .ok (.putfield 37, 3) := by decide +kernel
theorem dX0_follow_11 : decode cX0_follow 11 = .ok (.ldc 40, 2) := by decide +kernel
theorem dX0_follow_13 : decode cX0_follow 13 = .ok (.istore 6, 2) := by decide +kernel
theorem dX0_follow_15 : decode cX0_follow 15 = .ok (.iload_n 2, 1) := by decide +kernel
theorem dX0_follow_16 : decode cX0_follow 16 = .ok (.iconst 1, 1) := by decide +kernel
theorem dX0_follow_17 : decode cX0_follow 17 = .ok (.isub, 1) := by decide +kernel
theorem dX0_follow_18 : decode cX0_follow 18 = .ok (.istore 7, 2) := by decide +kernel
theorem dX0_follow_20 : decode cX0_follow 20 = .ok (.iload 7, 2) := by decide +kernel
theorem dX0_follow_22 : decode cX0_follow 22 = .ok (.ifCond .lt 121, 3) := by decide +kernel
theorem dX0_follow_25 : decode cX0_follow 25 = .ok (.iload 7, 2) := by decide +kernel
theorem dX0_follow_27 : decode cX0_follow 27 = .ok (.iload_n 3, 1) := by decide +kernel
theorem dX0_follow_28 : decode cX0_follow 28 = .ok (.imul, 1) := by decide +kernel
theorem dX0_follow_29 : decode cX0_follow 29 = .ok (.istore 8, 2) := by decide +kernel
theorem dX0_follow_31 : decode cX0_follow 31 = .ok (.aload_n 1, 1) := by decide +kernel
theorem dX0_follow_32 : decode cX0_follow 32 = .ok (.iload 7, 2) := by decide +kernel
theorem dX0_follow_34 : decode cX0_follow 34 = .ok (.iaload, 1) := by decide +kernel
theorem dX0_follow_35 : decode cX0_follow 35 = .ok (.iconst (-1), 1) := by decide +kernel
theorem dX0_follow_36 : decode cX0_follow 36 = .ok (.if_icmp .eq 16, 3) := by decide +kernel
theorem dX0_follow_39 : decode cX0_follow 39 = .ok (.iload 5, 2) := by decide +kernel
theorem dX0_follow_41 : decode cX0_follow 41 = .ok (.iconst (-1), 1) := by decide +kernel
theorem dX0_follow_42 : decode cX0_follow 42 = .ok (.if_icmp .eq 14, 3) := by decide +kernel
theorem dX0_follow_45 : decode cX0_follow 45 = .ok (.iload 8, 2) := by decide +kernel
theorem dX0_follow_47 : decode cX0_follow 47 = .ok (.iload 5, 2) := by decide +kernel
theorem dX0_follow_49 : decode cX0_follow 49 = .ok (.if_icmp .lt 7, 3) := by decide +kernel
theorem dX0_follow_52 : decode cX0_follow 52 = .ok (.iconst 1, 1) := by decide +kernel
theorem dX0_follow_53 : decode cX0_follow 53 = .ok (.goto 4, 3) := by decide +kernel
theorem dX0_follow_56 : decode cX0_follow 56 = .ok (.iconst 0, 1) := by decide +kernel
theorem dX0_follow_57 : decode cX0_follow 57 = .ok (.istore 9, 2) := by decide +kernel
theorem dX0_follow_59 : decode cX0_follow 59 = .ok (.iload 9, 2) := by decide +kernel
theorem dX0_follow_61 : decode cX0_follow 61 = .ok (.ifCond .eq 7, 3) := by decide +kernel
theorem dX0_follow_64 : decode cX0_follow 64 = .ok (.iconst (-1), 1) := by decide +kernel
theorem dX0_follow_65 : decode cX0_follow 65 = .ok (.goto 10, 3) := by decide +kernel
theorem dX0_follow_68 : decode cX0_follow 68 = .ok (.iload 8, 2) := by decide +kernel
theorem dX0_follow_70 : decode cX0_follow 70 = .ok (.aload_n 1, 1) := by decide +kernel
theorem dX0_follow_71 : decode cX0_follow 71 = .ok (.iload 7, 2) := by decide +kernel
theorem dX0_follow_73 : decode cX0_follow 73 = .ok (.iaload, 1) := by decide +kernel
theorem dX0_follow_74 : decode cX0_follow 74 = .ok (.iadd, 1) := by decide +kernel
theorem dX0_follow_75 : decode cX0_follow 75 = .ok (.istore 10, 2) := by decide +kernel
theorem dX0_follow_77 : decode cX0_follow 77 = .ok (.iload 9, 2) := by decide +kernel
theorem dX0_follow_79 : decode cX0_follow 79 = .ok (.ifCond .ne 14, 3) := by decide +kernel
theorem dX0_follow_82 : decode cX0_follow 82 = .ok (.iload 10, 2) := by decide +kernel
theorem dX0_follow_84 : decode cX0_follow 84 = .ok (.iload 6, 2) := by decide +kernel
theorem dX0_follow_86 : decode cX0_follow 86 = .ok (.if_icmp .gt 7, 3) := by decide +kernel
theorem dX0_follow_89 : decode cX0_follow 89 = .ok (.iconst 1, 1) := by decide +kernel
theorem dX0_follow_90 : decode cX0_follow 90 = .ok (.goto 4, 3) := by decide +kernel
theorem dX0_follow_93 : decode cX0_follow 93 = .ok (.iconst 0, 1) := by decide +kernel
theorem dX0_follow_94 : decode cX0_follow 94 = .ok (.istore 11, 2) := by decide +kernel
theorem dX0_follow_96 : decode cX0_follow 96 = .ok (.aload_n 0, 1) := by decide +kernel
theorem dX0_follow_97 : decode cX0_follow 97 = .ok (.getfield 9, 3) := by decide +kernel
theorem dX0_follow_100 : decode cX0_follow 100 = .ok (.iload 7, 2) := by decide +kernel
theorem dX0_follow_102 : decode cX0_follow 102 = .ok (.iload 10, 2) := by decide +kernel
theorem dX0_follow_104 : decode cX0_follow 104 = .ok (.iastore, 1) := by decide +kernel
theorem dX0_follow_105 : decode cX0_follow 105 = .ok (.aload_n 0, 1) := by decide +kernel
theorem dX0_follow_106 : decode cX0_follow 106 = .ok (.getfield 15, 3) := by decide +kernel
theorem dX0_follow_109 : decode cX0_follow 109 = .ok (.iload 7, 2) := by decide +kernel
theorem dX0_follow_111 : decode cX0_follow 111 = .ok (.iload 11, 2) := by decide +kernel
theorem dX0_follow_113 : decode cX0_follow 113 = .ok (.ifCond .eq 8, 3) := by decide +kernel
theorem dX0_follow_116 : decode cX0_follow 116 = .ok (.iload 7, 2) := by decide +kernel
theorem dX0_follow_118 : decode cX0_follow 118 = .ok (.goto 4, 3) := by decide +kernel
theorem dX0_follow_121 : decode cX0_follow 121 = .ok (.iconst (-1), 1) := by decide +kernel
theorem dX0_follow_122 : decode cX0_follow 122 = .ok (.iastore, 1) := by decide +kernel
theorem dX0_follow_123 : decode cX0_follow 123 = .ok (.iload 11, 2) := by decide +kernel
theorem dX0_follow_125 : decode cX0_follow 125 = .ok (.ifCond .eq 8, 3) := by decide +kernel
theorem dX0_follow_128 : decode cX0_follow 128 = .ok (.iload 10, 2) := by decide +kernel
theorem dX0_follow_130 : decode cX0_follow 130 = .ok (.goto 5, 3) := by decide +kernel
theorem dX0_follow_133 : decode cX0_follow 133 = .ok (.iload 6, 2) := by decide +kernel
theorem dX0_follow_135 : decode cX0_follow 135 = .ok (.istore 6, 2) := by decide +kernel
theorem dX0_follow_137 : decode cX0_follow 137 = .ok (.iinc 7 (-1), 3) := by decide +kernel
theorem dX0_follow_140 : decode cX0_follow 140 = .ok (.goto (-120), 3) := by decide +kernel
theorem dX0_follow_143 : decode cX0_follow 143 = .ok (.aload_n 0, 1) := by decide +kernel
theorem dX0_follow_144 : decode cX0_follow 144 = .ok (.iload_n 2, 1) := by decide +kernel
theorem dX0_follow_145 : decode cX0_follow 145 = .ok (.invokevirtual 41, 3) := by decide +kernel
theorem dX0_follow_148 : decode cX0_follow 148 = .ok (.aload_n 0, 1) := by decide +kernel
theorem dX0_follow_149 : decode cX0_follow 149 = .ok (.invokevirtual 45, 3) := by decide +kernel
theorem dX0_follow_152 : decode cX0_follow 152 = .ok (.return_, 1) := by decide +kernel
theorem dX0_numberNews_0 : decode cX0_numberNews 0 = .ok (.aload_n 0, 1) := by decide +kernel
theorem dX0_numberNews_1 : decode cX0_numberNews 1 = .ok (.iconst 0, 1) := by decide +kernel
theorem dX0_numberNews_2 : decode cX0_numberNews 2 = .ok (.putfield 48, 3) := by decide +kernel
theorem dX0_numberNews_5 : decode cX0_numberNews 5 = .ok (.iconst 0, 1) := by decide +kernel
theorem dX0_numberNews_6 : decode cX0_numberNews 6 = .ok (.istore_n 2, 1) := by decide +kernel
theorem dX0_numberNews_7 : decode cX0_numberNews 7 = .ok (.iload_n 2, 1) := by decide +kernel
theorem dX0_numberNews_8 : decode cX0_numberNews 8 = .ok (.iload_n 1, 1) := by decide +kernel
theorem dX0_numberNews_9 : decode cX0_numberNews 9 = .ok (.if_icmp .ge 64, 3) := by decide +kernel
theorem dX0_numberNews_12 : decode cX0_numberNews 12 = .ok (.aload_n 0, 1) := by decide +kernel
theorem dX0_numberNews_13 : decode cX0_numberNews 13 = .ok (.getfield 15, 3) := by decide +kernel
theorem dX0_numberNews_16 : decode cX0_numberNews 16 = .ok (.iload_n 2, 1) := by decide +kernel
theorem dX0_numberNews_17 : decode cX0_numberNews 17 = .ok (.iaload, 1) := by decide +kernel
theorem dX0_numberNews_18 : decode cX0_numberNews 18 = .ok (.iconst (-1), 1) := by decide +kernel
theorem dX0_numberNews_19 : decode cX0_numberNews 19 = .ok (.if_icmp .eq 48, 3) := by decide +kernel
theorem dX0_numberNews_22 : decode cX0_numberNews 22 = .ok (.aload_n 0, 1) := by decide +kernel
theorem dX0_numberNews_23 : decode cX0_numberNews 23 = .ok (.getfield 15, 3) := by decide +kernel
theorem dX0_numberNews_26 : decode cX0_numberNews 26 = .ok (.iload_n 2, 1) := by decide +kernel
theorem dX0_numberNews_27 : decode cX0_numberNews 27 = .ok (.aload_n 0, 1) := by decide +kernel
theorem dX0_numberNews_28 : decode cX0_numberNews 28 = .ok (.getfield 48, 3) := by decide +kernel
theorem dX0_numberNews_31 : decode cX0_numberNews 31 = .ok (.iastore, 1) := by decide +kernel
theorem dX0_numberNews_32 : decode cX0_numberNews 32 = .ok (.aload_n 0, 1) := by decide +kernel
theorem dX0_numberNews_33 : decode cX0_numberNews 33 = .ok (.getfield 18, 3) := by decide +kernel
theorem dX0_numberNews_36 : decode cX0_numberNews 36 = .ok (.aload_n 0, 1) := by decide +kernel
theorem dX0_numberNews_37 : decode cX0_numberNews 37 = .ok (.getfield 48, 3) := by decide +kernel
theorem dX0_numberNews_40 : decode cX0_numberNews 40 = .ok (.iload_n 2, 1) := by decide +kernel
theorem dX0_numberNews_41 : decode cX0_numberNews 41 = .ok (.iastore, 1) := by decide +kernel
theorem dX0_numberNews_42 : decode cX0_numberNews 42 = .ok (.aload_n 0, 1) := by decide +kernel
theorem dX0_numberNews_43 : decode cX0_numberNews 43 = .ok (.getfield 21, 3) := by decide +kernel
theorem dX0_numberNews_46 : decode cX0_numberNews 46 = .ok (.aload_n 0, 1) := by decide +kernel
theorem dX0_numberNews_47 : decode cX0_numberNews 47 = .ok (.getfield 48, 3) := by decide +kernel
theorem dX0_numberNews_50 : decode cX0_numberNews 50 = .ok (.aload_n 0, 1) := by decide +kernel
theorem dX0_numberNews_51 : decode cX0_numberNews 51 = .ok (.getfield 9, 3) := by decide +kernel
theorem dX0_numberNews_54 : decode cX0_numberNews 54 = .ok (.iload_n 2, 1) := by decide +kernel
theorem dX0_numberNews_55 : decode cX0_numberNews 55 = .ok (.iaload, 1) := by decide +kernel
theorem dX0_numberNews_56 : decode cX0_numberNews 56 = .ok (.iastore, 1) := by decide +kernel
theorem dX0_numberNews_57 : decode cX0_numberNews 57 = .ok (.aload_n 0, 1) := by decide +kernel
theorem dX0_numberNews_58 : decode cX0_numberNews 58 = .ok (.dup, 1) := by decide +kernel
theorem dX0_numberNews_59 : decode cX0_numberNews 59 = .ok (.getfield 48, 3) := by decide +kernel
theorem dX0_numberNews_62 : decode cX0_numberNews 62 = .ok (.iconst 1, 1) := by decide +kernel
theorem dX0_numberNews_63 : decode cX0_numberNews 63 = .ok (.iadd, 1) := by decide +kernel
theorem dX0_numberNews_64 : decode cX0_numberNews 64 = .ok (.putfield 48, 3) := by decide +kernel
theorem dX0_numberNews_67 : decode cX0_numberNews 67 = .ok (.iinc 2 1, 3) := by decide +kernel
theorem dX0_numberNews_70 : decode cX0_numberNews 70 = .ok (.goto (-63), 3) := by decide +kernel
theorem dX0_numberNews_73 : decode cX0_numberNews 73 = .ok (.return_, 1) := by decide +kernel
theorem dX0_expectNext_0 : decode cX0_expectNext 0 = .ok (.iconst 0, 1) := by decide +kernel
theorem dX0_expectNext_1 : decode cX0_expectNext 1 = .ok (.istore_n 1, 1) := by decide +kernel
theorem dX0_expectNext_2 : decode cX0_expectNext 2 = .ok (.iconst 0, 1) := by decide +kernel
theorem dX0_expectNext_3 : decode cX0_expectNext 3 = .ok (.istore_n 2, 1) := by decide +kernel
theorem dX0_expectNext_4 : decode cX0_expectNext 4 = .ok (.iload_n 2, 1) := by decide +kernel
theorem dX0_expectNext_5 : decode cX0_expectNext 5 = .ok (.aload_n 0, 1) := by decide +kernel
theorem dX0_expectNext_6 : decode cX0_expectNext 6 = .ok (.getfield 48, 3) := by decide +kernel
theorem dX0_expectNext_9 : decode cX0_expectNext 9 = .ok (.if_icmp .ge 137, 3) := by decide +kernel
theorem dX0_expectNext_12 : decode cX0_expectNext 12 = .ok (.iload_n 1, 1) := by decide +kernel
theorem dX0_expectNext_13 : decode cX0_expectNext 13 = .ok (.aload_n 0, 1) := by decide +kernel
theorem dX0_expectNext_14 : decode cX0_expectNext 14 = .ok (.getfield 21, 3) := by decide +kernel
theorem dX0_expectNext_17 : decode cX0_expectNext 17 = .ok (.iload_n 2, 1) := by decide +kernel
theorem dX0_expectNext_18 : decode cX0_expectNext 18 = .ok (.iaload, 1) := by decide +kernel
theorem dX0_expectNext_19 : decode cX0_expectNext 19 = .ok (.aload_n 0, 1) := by decide +kernel
theorem dX0_expectNext_20 : decode cX0_expectNext 20 = .ok (.getfield 18, 3) := by decide +kernel
theorem dX0_expectNext_23 : decode cX0_expectNext 23 = .ok (.iload_n 2, 1) := by decide +kernel
theorem dX0_expectNext_24 : decode cX0_expectNext 24 = .ok (.iaload, 1) := by decide +kernel
theorem dX0_expectNext_25 : decode cX0_expectNext 25 = .ok (.aload_n 0, 1) := by decide +kernel
theorem dX0_expectNext_26 : decode cX0_expectNext 26 = .ok (.getfield 33, 3) := by decide +kernel
theorem dX0_expectNext_29 : decode cX0_expectNext 29 = .ok (.imul, 1) := by decide +kernel
theorem dX0_expectNext_30 : decode cX0_expectNext 30 = .ok (.isub, 1) := by decide +kernel
theorem dX0_expectNext_31 : decode cX0_expectNext 31 = .ok (.iadd, 1) := by decide +kernel
theorem dX0_expectNext_32 : decode cX0_expectNext 32 = .ok (.istore_n 1, 1) := by decide +kernel
theorem dX0_expectNext_33 : decode cX0_expectNext 33 = .ok (.iload_n 2, 1) := by decide +kernel
theorem dX0_expectNext_34 : decode cX0_expectNext 34 = .ok (.aload_n 0, 1) := by decide +kernel
theorem dX0_expectNext_35 : decode cX0_expectNext 35 = .ok (.getfield 37, 3) := by decide +kernel
theorem dX0_expectNext_38 : decode cX0_expectNext 38 = .ok (.isub, 1) := by decide +kernel
theorem dX0_expectNext_39 : decode cX0_expectNext 39 = .ok (.istore_n 3, 1) := by decide +kernel
theorem dX0_expectNext_40 : decode cX0_expectNext 40 = .ok (.iload_n 3, 1) := by decide +kernel
theorem dX0_expectNext_41 : decode cX0_expectNext 41 = .ok (.ifCond .lt 24, 3) := by decide +kernel
theorem dX0_expectNext_44 : decode cX0_expectNext 44 = .ok (.iload_n 1, 1) := by decide +kernel
theorem dX0_expectNext_45 : decode cX0_expectNext 45 = .ok (.aload_n 0, 1) := by decide +kernel
theorem dX0_expectNext_46 : decode cX0_expectNext 46 = .ok (.getfield 21, 3) := by decide +kernel
theorem dX0_expectNext_49 : decode cX0_expectNext 49 = .ok (.iload_n 3, 1) := by decide +kernel
theorem dX0_expectNext_50 : decode cX0_expectNext 50 = .ok (.iaload, 1) := by decide +kernel
theorem dX0_expectNext_51 : decode cX0_expectNext 51 = .ok (.aload_n 0, 1) := by decide +kernel
theorem dX0_expectNext_52 : decode cX0_expectNext 52 = .ok (.getfield 18, 3) := by decide +kernel
theorem dX0_expectNext_55 : decode cX0_expectNext 55 = .ok (.iload_n 3, 1) := by decide +kernel
theorem dX0_expectNext_56 : decode cX0_expectNext 56 = .ok (.iaload, 1) := by decide +kernel
theorem dX0_expectNext_57 : decode cX0_expectNext 57 = .ok (.aload_n 0, 1) := by decide +kernel
theorem dX0_expectNext_58 : decode cX0_expectNext 58 = .ok (.getfield 33, 3) := by decide +kernel
theorem dX0_expectNext_61 : decode cX0_expectNext 61 = .ok (.imul, 1) := by decide +kernel
theorem dX0_expectNext_62 : decode cX0_expectNext 62 = .ok (.isub, 1) := by decide +kernel
theorem dX0_expectNext_63 : decode cX0_expectNext 63 = .ok (.isub, 1) := by decide +kernel
theorem dX0_expectNext_64 : decode cX0_expectNext 64 = .ok (.istore_n 1, 1) := by decide +kernel
theorem dX0_expectNext_65 : decode cX0_expectNext 65 = .ok (.iload_n 2, 1) := by decide +kernel
theorem dX0_expectNext_66 : decode cX0_expectNext 66 = .ok (.iconst 1, 1) := by decide +kernel
theorem dX0_expectNext_67 : decode cX0_expectNext 67 = .ok (.iadd, 1) := by decide +kernel
theorem dX0_expectNext_68 : decode cX0_expectNext 68 = .ok (.aload_n 0, 1) := by decide +kernel
theorem dX0_expectNext_69 : decode cX0_expectNext 69 = .ok (.getfield 37, 3) := by decide +kernel
theorem dX0_expectNext_72 : decode cX0_expectNext 72 = .ok (.invokestatic 51, 3) := by decide +kernel
theorem dX0_expectNext_75 : decode cX0_expectNext 75 = .ok (.istore 4, 2) := by decide +kernel
theorem dX0_expectNext_77 : decode cX0_expectNext 77 = .ok (.iload_n 1, 1) := by decide +kernel
theorem dX0_expectNext_78 : decode cX0_expectNext 78 = .ok (.iload 4, 2) := by decide +kernel
theorem dX0_expectNext_80 : decode cX0_expectNext 80 = .ok (.aload_n 0, 1) := by decide +kernel
theorem dX0_expectNext_81 : decode cX0_expectNext 81 = .ok (.getfield 18, 3) := by decide +kernel
theorem dX0_expectNext_84 : decode cX0_expectNext 84 = .ok (.iload_n 2, 1) := by decide +kernel
theorem dX0_expectNext_85 : decode cX0_expectNext 85 = .ok (.iaload, 1) := by decide +kernel
theorem dX0_expectNext_86 : decode cX0_expectNext 86 = .ok (.iconst 1, 1) := by decide +kernel
theorem dX0_expectNext_87 : decode cX0_expectNext 87 = .ok (.iadd, 1) := by decide +kernel
theorem dX0_expectNext_88 : decode cX0_expectNext 88 = .ok (.imul, 1) := by decide +kernel
theorem dX0_expectNext_89 : decode cX0_expectNext 89 = .ok (.aload_n 0, 1) := by decide +kernel
theorem dX0_expectNext_90 : decode cX0_expectNext 90 = .ok (.getfield 33, 3) := by decide +kernel
theorem dX0_expectNext_93 : decode cX0_expectNext 93 = .ok (.imul, 1) := by decide +kernel
theorem dX0_expectNext_94 : decode cX0_expectNext 94 = .ok (.iadd, 1) := by decide +kernel
theorem dX0_expectNext_95 : decode cX0_expectNext 95 = .ok (.istore 5, 2) := by decide +kernel
theorem dX0_expectNext_97 : decode cX0_expectNext 97 = .ok (.aload_n 0, 1) := by decide +kernel
theorem dX0_expectNext_98 : decode cX0_expectNext 98 = .ok (.getfield 24, 3) := by decide +kernel
theorem dX0_expectNext_101 : decode cX0_expectNext 101 = .ok (.iload_n 2, 1) := by decide +kernel
theorem dX0_expectNext_102 : decode cX0_expectNext 102 = .ok (.iload 5, 2) := by decide +kernel
theorem dX0_expectNext_104 : decode cX0_expectNext 104 = .ok (.iastore, 1) := by decide +kernel
theorem dX0_expectNext_105 : decode cX0_expectNext 105 = .ok (.aload_n 0, 1) := by decide +kernel
theorem dX0_expectNext_106 : decode cX0_expectNext 106 = .ok (.getfield 27, 3) := by decide +kernel
theorem dX0_expectNext_109 : decode cX0_expectNext 109 = .ok (.iload_n 2, 1) := by decide +kernel
theorem dX0_expectNext_110 : decode cX0_expectNext 110 = .ok (.iload 4, 2) := by decide +kernel
theorem dX0_expectNext_112 : decode cX0_expectNext 112 = .ok (.iastore, 1) := by decide +kernel
theorem dX0_expectNext_113 : decode cX0_expectNext 113 = .ok (.aload_n 0, 1) := by decide +kernel
theorem dX0_expectNext_114 : decode cX0_expectNext 114 = .ok (.getfield 30, 3) := by decide +kernel
theorem dX0_expectNext_117 : decode cX0_expectNext 117 = .ok (.iload_n 2, 1) := by decide +kernel
theorem dX0_expectNext_118 : decode cX0_expectNext 118 = .ok (.iload 4, 2) := by decide +kernel
theorem dX0_expectNext_120 : decode cX0_expectNext 120 = .ok (.iconst 1, 1) := by decide +kernel
theorem dX0_expectNext_121 : decode cX0_expectNext 121 = .ok (.if_icmp .ge 8, 3) := by decide +kernel
theorem dX0_expectNext_124 : decode cX0_expectNext 124 = .ok (.ldc 40, 2) := by decide +kernel
theorem dX0_expectNext_126 : decode cX0_expectNext 126 = .ok (.goto 13, 3) := by decide +kernel
theorem dX0_expectNext_129 : decode cX0_expectNext 129 = .ok (.iload 5, 2) := by decide +kernel
theorem dX0_expectNext_131 : decode cX0_expectNext 131 = .ok (.iload 4, 2) := by decide +kernel
theorem dX0_expectNext_133 : decode cX0_expectNext 133 = .ok (.iadd, 1) := by decide +kernel
theorem dX0_expectNext_134 : decode cX0_expectNext 134 = .ok (.iconst 1, 1) := by decide +kernel
theorem dX0_expectNext_135 : decode cX0_expectNext 135 = .ok (.isub, 1) := by decide +kernel
theorem dX0_expectNext_136 : decode cX0_expectNext 136 = .ok (.iload 4, 2) := by decide +kernel
theorem dX0_expectNext_138 : decode cX0_expectNext 138 = .ok (.idiv, 1) := by decide +kernel
theorem dX0_expectNext_139 : decode cX0_expectNext 139 = .ok (.iastore, 1) := by decide +kernel
theorem dX0_expectNext_140 : decode cX0_expectNext 140 = .ok (.iinc 2 1, 3) := by decide +kernel
theorem dX0_expectNext_143 : decode cX0_expectNext 143 = .ok (.goto (-139), 3) := by decide +kernel
theorem dX0_expectNext_146 : decode cX0_expectNext 146 = .ok (.return_, 1) := by decide +kernel
theorem dX0_latestAt_0 : decode cX0_latestAt 0 = .ok (.iconst (-1), 1) := by decide +kernel
theorem dX0_latestAt_1 : decode cX0_latestAt 1 = .ok (.istore_n 2, 1) := by decide +kernel
theorem dX0_latestAt_2 : decode cX0_latestAt 2 = .ok (.iconst 0, 1) := by decide +kernel
theorem dX0_latestAt_3 : decode cX0_latestAt 3 = .ok (.istore_n 3, 1) := by decide +kernel
theorem dX0_latestAt_4 : decode cX0_latestAt 4 = .ok (.iload_n 3, 1) := by decide +kernel
theorem dX0_latestAt_5 : decode cX0_latestAt 5 = .ok (.aload_n 0, 1) := by decide +kernel
theorem dX0_latestAt_6 : decode cX0_latestAt 6 = .ok (.getfield 48, 3) := by decide +kernel
theorem dX0_latestAt_9 : decode cX0_latestAt 9 = .ok (.if_icmp .ge 21, 3) := by decide +kernel
theorem dX0_latestAt_12 : decode cX0_latestAt 12 = .ok (.aload_n 0, 1) := by decide +kernel
theorem dX0_latestAt_13 : decode cX0_latestAt 13 = .ok (.getfield 21, 3) := by decide +kernel
theorem dX0_latestAt_16 : decode cX0_latestAt 16 = .ok (.iload_n 3, 1) := by decide +kernel
theorem dX0_latestAt_17 : decode cX0_latestAt 17 = .ok (.iaload, 1) := by decide +kernel
theorem dX0_latestAt_18 : decode cX0_latestAt 18 = .ok (.iload_n 1, 1) := by decide +kernel
theorem dX0_latestAt_19 : decode cX0_latestAt 19 = .ok (.if_icmp .gt 11, 3) := by decide +kernel
theorem dX0_latestAt_22 : decode cX0_latestAt 22 = .ok (.iload_n 3, 1) := by decide +kernel
theorem dX0_latestAt_23 : decode cX0_latestAt 23 = .ok (.istore_n 2, 1) := by decide +kernel
theorem dX0_latestAt_24 : decode cX0_latestAt 24 = .ok (.iinc 3 1, 3) := by decide +kernel
theorem dX0_latestAt_27 : decode cX0_latestAt 27 = .ok (.goto (-23), 3) := by decide +kernel
theorem dX0_latestAt_30 : decode cX0_latestAt 30 = .ok (.iload_n 2, 1) := by decide +kernel
theorem dX0_latestAt_31 : decode cX0_latestAt 31 = .ok (.ireturn, 1) := by decide +kernel
theorem dX0_gapCountBy_0 : decode cX0_gapCountBy 0 = .ok (.iload_n 1, 1) := by decide +kernel
theorem dX0_gapCountBy_1 : decode cX0_gapCountBy 1 = .ok (.aload_n 0, 1) := by decide +kernel
theorem dX0_gapCountBy_2 : decode cX0_gapCountBy 2 = .ok (.getfield 37, 3) := by decide +kernel
theorem dX0_gapCountBy_5 : decode cX0_gapCountBy 5 = .ok (.invokestatic 51, 3) := by decide +kernel
theorem dX0_gapCountBy_8 : decode cX0_gapCountBy 8 = .ok (.ireturn, 1) := by decide +kernel
set_option maxRecDepth 20000 in
theorem ggX0_countGapsBelow_X0_gapCountBy : GoodIn wsX0_countGapsBelow wsX0_gapCountBy := goodIn_r _ [6, 7, 8, 9, 10, 11, 12, 13, 14, 15, 16, 17, 18, 19, 20, 21] (by decide +kernel) (by decide +kernel)
set_option maxRecDepth 20000 in
theorem gX0_countGapsBelow_X0_gapCountBy : GoodIn wsX0_countGapsBelow (wsV RX0 57 RX0 yX0_gapCountBy wsX0_gapCountBy) := goodIn_app (goodIn_of _ (by decide +kernel)) ggX0_countGapsBelow_X0_gapCountBy
theorem dX0_countGapsBelow_0 : decode cX0_countGapsBelow 0 = .ok (.iconst 0, 1) := by decide +kernel
theorem dX0_countGapsBelow_1 : decode cX0_countGapsBelow 1 = .ok (.istore_n 3, 1) := by decide +kernel
theorem dX0_countGapsBelow_2 : decode cX0_countGapsBelow 2 = .ok (.iload_n 1, 1) := by decide +kernel
theorem dX0_countGapsBelow_3 : decode cX0_countGapsBelow 3 = .ok (.istore 4, 2) := by decide +kernel
theorem dX0_countGapsBelow_5 : decode cX0_countGapsBelow 5 = .ok (.iload 4, 2) := by decide +kernel
theorem dX0_countGapsBelow_7 : decode cX0_countGapsBelow 7 = .ok (.iload_n 1, 1) := by decide +kernel
theorem dX0_countGapsBelow_8 : decode cX0_countGapsBelow 8 = .ok (.aload_n 0, 1) := by decide +kernel
theorem dX0_countGapsBelow_9 : decode cX0_countGapsBelow 9 = .ok (.iload_n 1, 1) := by decide +kernel
theorem dX0_countGapsBelow_10 : decode cX0_countGapsBelow 10 = .ok (.invokevirtual 57, 3) := by decide +kernel
theorem dX0_countGapsBelow_13 : decode cX0_countGapsBelow 13 = .ok (.isub, 1) := by decide +kernel
theorem dX0_countGapsBelow_14 : decode cX0_countGapsBelow 14 = .ok (.if_icmp .le 33, 3) := by decide +kernel
theorem dX0_countGapsBelow_17 : decode cX0_countGapsBelow 17 = .ok (.aload_n 0, 1) := by decide +kernel
theorem dX0_countGapsBelow_18 : decode cX0_countGapsBelow 18 = .ok (.getfield 21, 3) := by decide +kernel
theorem dX0_countGapsBelow_21 : decode cX0_countGapsBelow 21 = .ok (.iload 4, 2) := by decide +kernel
theorem dX0_countGapsBelow_23 : decode cX0_countGapsBelow 23 = .ok (.iaload, 1) := by decide +kernel
theorem dX0_countGapsBelow_24 : decode cX0_countGapsBelow 24 = .ok (.aload_n 0, 1) := by decide +kernel
theorem dX0_countGapsBelow_25 : decode cX0_countGapsBelow 25 = .ok (.getfield 21, 3) := by decide +kernel
theorem dX0_countGapsBelow_28 : decode cX0_countGapsBelow 28 = .ok (.iload 4, 2) := by decide +kernel
theorem dX0_countGapsBelow_30 : decode cX0_countGapsBelow 30 = .ok (.iconst 1, 1) := by decide +kernel
theorem dX0_countGapsBelow_31 : decode cX0_countGapsBelow 31 = .ok (.isub, 1) := by decide +kernel
theorem dX0_countGapsBelow_32 : decode cX0_countGapsBelow 32 = .ok (.iaload, 1) := by decide +kernel
theorem dX0_countGapsBelow_33 : decode cX0_countGapsBelow 33 = .ok (.isub, 1) := by decide +kernel
theorem dX0_countGapsBelow_34 : decode cX0_countGapsBelow 34 = .ok (.iload_n 2, 1) := by decide +kernel
theorem dX0_countGapsBelow_35 : decode cX0_countGapsBelow 35 = .ok (.if_icmp .ge 6, 3) := by decide +kernel
theorem dX0_countGapsBelow_38 : decode cX0_countGapsBelow 38 = .ok (.iinc 3 1, 3) := by decide +kernel
theorem dX0_countGapsBelow_41 : decode cX0_countGapsBelow 41 = .ok (.iinc 4 (-1), 3) := by decide +kernel
theorem dX0_countGapsBelow_44 : decode cX0_countGapsBelow 44 = .ok (.goto (-39), 3) := by decide +kernel
theorem dX0_countGapsBelow_47 : decode cX0_countGapsBelow 47 = .ok (.iload_n 3, 1) := by decide +kernel
theorem dX0_countGapsBelow_48 : decode cX0_countGapsBelow 48 = .ok (.ireturn, 1) := by decide +kernel
theorem dX0_offOf_0 : decode cX0_offOf 0 = .ok (.aload_n 0, 1) := by decide +kernel
theorem dX0_offOf_1 : decode cX0_offOf 1 = .ok (.getfield 27, 3) := by decide +kernel
theorem dX0_offOf_4 : decode cX0_offOf 4 = .ok (.iload_n 1, 1) := by decide +kernel
theorem dX0_offOf_5 : decode cX0_offOf 5 = .ok (.iconst 1, 1) := by decide +kernel
theorem dX0_offOf_6 : decode cX0_offOf 6 = .ok (.isub, 1) := by decide +kernel
theorem dX0_offOf_7 : decode cX0_offOf 7 = .ok (.iaload, 1) := by decide +kernel
theorem dX0_offOf_8 : decode cX0_offOf 8 = .ok (.istore_n 2, 1) := by decide +kernel
theorem dX0_offOf_9 : decode cX0_offOf 9 = .ok (.aload_n 0, 1) := by decide +kernel
theorem dX0_offOf_10 : decode cX0_offOf 10 = .ok (.getfield 21, 3) := by decide +kernel
theorem dX0_offOf_13 : decode cX0_offOf 13 = .ok (.iload_n 1, 1) := by decide +kernel
theorem dX0_offOf_14 : decode cX0_offOf 14 = .ok (.iaload, 1) := by decide +kernel
theorem dX0_offOf_15 : decode cX0_offOf 15 = .ok (.iload_n 2, 1) := by decide +kernel
theorem dX0_offOf_16 : decode cX0_offOf 16 = .ok (.imul, 1) := by decide +kernel
theorem dX0_offOf_17 : decode cX0_offOf 17 = .ok (.aload_n 0, 1) := by decide +kernel
theorem dX0_offOf_18 : decode cX0_offOf 18 = .ok (.getfield 24, 3) := by decide +kernel
theorem dX0_offOf_21 : decode cX0_offOf 21 = .ok (.iload_n 1, 1) := by decide +kernel
theorem dX0_offOf_22 : decode cX0_offOf 22 = .ok (.iconst 1, 1) := by decide +kernel
theorem dX0_offOf_23 : decode cX0_offOf 23 = .ok (.isub, 1) := by decide +kernel
theorem dX0_offOf_24 : decode cX0_offOf 24 = .ok (.iaload, 1) := by decide +kernel
theorem dX0_offOf_25 : decode cX0_offOf 25 = .ok (.isub, 1) := by decide +kernel
theorem dX0_offOf_26 : decode cX0_offOf 26 = .ok (.istore_n 3, 1) := by decide +kernel
theorem dX0_offOf_27 : decode cX0_offOf 27 = .ok (.iload_n 2, 1) := by decide +kernel
theorem dX0_offOf_28 : decode cX0_offOf 28 = .ok (.iconst 1, 1) := by decide +kernel
theorem dX0_offOf_29 : decode cX0_offOf 29 = .ok (.if_icmp .ge 7, 3) := by decide +kernel
theorem dX0_offOf_32 : decode cX0_offOf 32 = .ok (.dconst 0, 1) := by decide +kernel
theorem dX0_offOf_33 : decode cX0_offOf 33 = .ok (.goto 8, 3) := by decide +kernel
theorem dX0_offOf_36 : decode cX0_offOf 36 = .ok (.iload_n 3, 1) := by decide +kernel
theorem dX0_offOf_37 : decode cX0_offOf 37 = .ok (.i2d, 1) := by decide +kernel
theorem dX0_offOf_38 : decode cX0_offOf 38 = .ok (.iload_n 2, 1) := by decide +kernel
theorem dX0_offOf_39 : decode cX0_offOf 39 = .ok (.i2d, 1) := by decide +kernel
theorem dX0_offOf_40 : decode cX0_offOf 40 = .ok (.ddiv, 1) := by decide +kernel
theorem dX0_offOf_41 : decode cX0_offOf 41 = .ok (.dreturn, 1) := by decide +kernel
set_option maxRecDepth 20000 in
theorem ggX1_init_X2_init : GoodIn wsX1_init wsX2_init := goodIn_r _ [13, 14, 2, 3, 4, 15, 24, 25] (by decide +kernel) (by decide +kernel)
set_option maxRecDepth 20000 in
theorem gX1_init_X2_init : GoodIn wsX1_init (wsX2_init) := ggX1_init_X2_init
theorem dX1_init_0 : decode cX1_init 0 = .ok (.aload_n 0, 1) := by decide +kernel
theorem dX1_init_1 : decode cX1_init 1 = .ok (.invokespecial 3, 3) := by decide +kernel
theorem dX1_init_4 : decode cX1_init 4 = .ok (.aload_n 0, 1) := by decide +kernel
theorem dX1_init_5 : decode cX1_init 5 = .ok (.bipush 40, 2) := by decide +kernel
theorem dX1_init_7 : decode cX1_init 7 = .ok (.newarray .int, 2) := by decide +kernel
theorem dX1_init_9 : decode cX1_init 9 = .ok (.putfield 9, 3) := by decide +kernel
theorem dX1_init_12 : decode cX1_init 12 = .ok (.aload_n 0, 1) := by decide +kernel
theorem dX1_init_13 : decode cX1_init 13 = .ok (.bipush 40, 2) := by decide +kernel
theorem dX1_init_15 : decode cX1_init 15 = .ok (.newarray .int, 2) := by decide +kernel
theorem dX1_init_17 : decode cX1_init 17 = .ok (.putfield 15, 3) := by decide +kernel
theorem dX1_init_20 : decode cX1_init 20 = .ok (.aload_n 0, 1) := by decide +kernel
theorem dX1_init_21 : decode cX1_init 21 = .ok (.new 18, 3) := by decide +kernel
theorem dX1_init_24 : decode cX1_init 24 = .ok (.dup, 1) := by decide +kernel
theorem dX1_init_25 : decode cX1_init 25 = .ok (.invokespecial 20, 3) := by decide +kernel
theorem dX1_init_28 : decode cX1_init 28 = .ok (.putfield 21, 3) := by decide +kernel
theorem dX1_init_31 : decode cX1_init 31 = .ok (.return_, 1) := by decide +kernel
set_option maxRecDepth 20000 in
theorem ggX1_keep_X2_moveOnTo : GoodIn wsX1_keep wsX2_moveOnTo := goodIn_r _ [21, 22, 23, 24, 25, 20, 26, 27, 28, 29, 30, 31, 65, 66] (by decide +kernel) (by decide +kernel)
set_option maxRecDepth 20000 in
theorem gX1_keep_X2_moveOnTo : GoodIn wsX1_keep (wsV RX1 52 RX2 yX2_moveOnTo wsX2_moveOnTo) := goodIn_app (goodIn_of _ (by decide +kernel)) ggX1_keep_X2_moveOnTo
set_option maxRecDepth 20000 in
theorem ggX1_keep_X1_beginOfDoubt : GoodIn wsX1_keep wsX1_beginOfDoubt := goodIn_r _ [36, 8, 37, 13, 14, 15, 16, 7, 1, 38, 39, 40, 20, 41, 22, 27, 55, 56, 57, 58, 59, 60, 61, 62, 63, 64, 47, 48, 49, 50, 51, 52, 53, 54, 65, 66] (by decide +kernel) (by decide +kernel)
set_option maxRecDepth 20000 in
theorem gX1_keep_X1_beginOfDoubt : GoodIn wsX1_keep (wsV RX1 56 RX1 yX1_beginOfDoubt wsX1_beginOfDoubt) := goodIn_app (goodIn_of _ (by decide +kernel)) ggX1_keep_X1_beginOfDoubt
set_option maxRecDepth 20000 in
theorem ggX1_keep_X1_noteDoubt : GoodIn wsX1_keep wsX1_noteDoubt := goodIn_r _ [45, 6, 5, 8, 46, 1, 2, 3, 13, 14, 15, 16, 55, 56, 57, 58, 59, 60, 61, 62, 63, 64, 47, 48, 49, 50, 51, 52, 53, 54] (by decide +kernel) (by decide +kernel)
set_option maxRecDepth 20000 in
theorem gX1_keep_X1_noteDoubt : GoodIn wsX1_keep (wsV RX1 72 RX1 yX1_noteDoubt wsX1_noteDoubt) := goodIn_app (goodIn_of _ (by decide +kernel)) ggX1_keep_X1_noteDoubt
theorem dX1_keep_0 : decode cX1_keep 0 = .ok (.aload_n 0, 1) := by decide +kernel
theorem dX1_keep_1 : decode cX1_keep 1 = .ok (.iconst 0, 1) := by decide +kernel
theorem dX1_keep_2 : decode cX1_keep 2 = .ok (.putfield 25, 3) := by decide +kernel
theorem dX1_keep_5 : decode cX1_keep 5 = .ok (.aload_n 0, 1) := by decide +kernel
theorem dX1_keep_6 : decode cX1_keep 6 = .ok (.iconst 0, 1) := by decide +kernel
theorem dX1_keep_7 : decode cX1_keep 7 = .ok (.putfield 29, 3) := by decide +kernel
theorem dX1_keep_10 : decode cX1_keep 10 = .ok (.aload_n 0, 1) := by decide +kernel
theorem dX1_keep_11 : decode cX1_keep 11 = .ok (.iconst 0, 1) := by decide +kernel
theorem dX1_keep_12 : decode cX1_keep 12 = .ok (.putfield 32, 3) := by decide +kernel
theorem dX1_keep_15 : decode cX1_keep 15 = .ok (.aload_n 0, 1) := by decide +kernel
theorem dX1_keep_16 : decode cX1_keep 16 = .ok (.iconst (-1), 1) := by decide +kernel
theorem dX1_keep_17 : decode cX1_keep 17 = .ok (.putfield 35, 3) := by decide +kernel
theorem dX1_keep_20 : decode cX1_keep 20 = .ok (.aload_n 0, 1) := by decide +kernel
theorem dX1_keep_21 : decode cX1_keep 21 = .ok (.iconst (-1), 1) := by decide +kernel
theorem dX1_keep_22 : decode cX1_keep 22 = .ok (.putfield 38, 3) := by decide +kernel
theorem dX1_keep_25 : decode cX1_keep 25 = .ok (.iconst 0, 1) := by decide +kernel
theorem dX1_keep_26 : decode cX1_keep 26 = .ok (.istore 4, 2) := by decide +kernel
theorem dX1_keep_28 : decode cX1_keep 28 = .ok (.iload 4, 2) := by decide +kernel
theorem dX1_keep_30 : decode cX1_keep 30 = .ok (.aload_n 1, 1) := by decide +kernel
theorem dX1_keep_31 : decode cX1_keep 31 = .ok (.getfield 41, 3) := by decide +kernel
theorem dX1_keep_34 : decode cX1_keep 34 = .ok (.if_icmp .ge 92, 3) := by decide +kernel
theorem dX1_keep_37 : decode cX1_keep 37 = .ok (.iload_n 2, 1) := by decide +kernel
theorem dX1_keep_38 : decode cX1_keep 38 = .ok (.iconst 1, 1) := by decide +kernel
theorem dX1_keep_39 : decode cX1_keep 39 = .ok (.if_icmp .ne 20, 3) := by decide +kernel
theorem dX1_keep_42 : decode cX1_keep 42 = .ok (.aload_n 0, 1) := by decide +kernel
theorem dX1_keep_43 : decode cX1_keep 43 = .ok (.getfield 21, 3) := by decide +kernel
theorem dX1_keep_46 : decode cX1_keep 46 = .ok (.iload 4, 2) := by decide +kernel
theorem dX1_keep_48 : decode cX1_keep 48 = .ok (.aload_n 1, 1) := by decide +kernel
theorem dX1_keep_49 : decode cX1_keep 49 = .ok (.getfield 46, 3) := by decide +kernel
theorem dX1_keep_52 : decode cX1_keep 52 = .ok (.aload_n 1, 1) := by decide +kernel
theorem dX1_keep_53 : decode cX1_keep 53 = .ok (.getfield 49, 3) := by decide +kernel
theorem dX1_keep_56 : decode cX1_keep 56 = .ok (.invokevirtual 52, 3) := by decide +kernel
theorem dX1_keep_59 : decode cX1_keep 59 = .ok (.aload_n 0, 1) := by decide +kernel
theorem dX1_keep_60 : decode cX1_keep 60 = .ok (.aload_n 1, 1) := by decide +kernel
theorem dX1_keep_61 : decode cX1_keep 61 = .ok (.iload 4, 2) := by decide +kernel
theorem dX1_keep_63 : decode cX1_keep 63 = .ok (.iload_n 2, 1) := by decide +kernel
theorem dX1_keep_64 : decode cX1_keep 64 = .ok (.iload_n 3, 1) := by decide +kernel
theorem dX1_keep_65 : decode cX1_keep 65 = .ok (.invokevirtual 56, 3) := by decide +kernel
theorem dX1_keep_68 : decode cX1_keep 68 = .ok (.istore 5, 2) := by decide +kernel
theorem dX1_keep_70 : decode cX1_keep 70 = .ok (.aload_n 0, 1) := by decide +kernel
theorem dX1_keep_71 : decode cX1_keep 71 = .ok (.getfield 9, 3) := by decide +kernel
theorem dX1_keep_74 : decode cX1_keep 74 = .ok (.iload 4, 2) := by decide +kernel
theorem dX1_keep_76 : decode cX1_keep 76 = .ok (.iload 5, 2) := by decide +kernel
theorem dX1_keep_78 : decode cX1_keep 78 = .ok (.iastore, 1) := by decide +kernel
theorem dX1_keep_79 : decode cX1_keep 79 = .ok (.iload 5, 2) := by decide +kernel
theorem dX1_keep_81 : decode cX1_keep 81 = .ok (.iconst (-1), 1) := by decide +kernel
theorem dX1_keep_82 : decode cX1_keep 82 = .ok (.if_icmp .eq 38, 3) := by decide +kernel
theorem dX1_keep_85 : decode cX1_keep 85 = .ok (.aload_n 0, 1) := by decide +kernel
theorem dX1_keep_86 : decode cX1_keep 86 = .ok (.aload_n 0, 1) := by decide +kernel
theorem dX1_keep_87 : decode cX1_keep 87 = .ok (.getfield 35, 3) := by decide +kernel
theorem dX1_keep_90 : decode cX1_keep 90 = .ok (.iload 5, 2) := by decide +kernel
theorem dX1_keep_92 : decode cX1_keep 92 = .ok (.aload_n 1, 1) := by decide +kernel
theorem dX1_keep_93 : decode cX1_keep 93 = .ok (.getfield 60, 3) := by decide +kernel
theorem dX1_keep_96 : decode cX1_keep 96 = .ok (.iload 4, 2) := by decide +kernel
theorem dX1_keep_98 : decode cX1_keep 98 = .ok (.iaload, 1) := by decide +kernel
theorem dX1_keep_99 : decode cX1_keep 99 = .ok (.aload_n 1, 1) := by decide +kernel
theorem dX1_keep_100 : decode cX1_keep 100 = .ok (.getfield 63, 3) := by decide +kernel
theorem dX1_keep_103 : decode cX1_keep 103 = .ok (.imul, 1) := by decide +kernel
theorem dX1_keep_104 : decode cX1_keep 104 = .ok (.isub, 1) := by decide +kernel
theorem dX1_keep_105 : decode cX1_keep 105 = .ok (.invokestatic 66, 3) := by decide +kernel
theorem dX1_keep_108 : decode cX1_keep 108 = .ok (.putfield 35, 3) := by decide +kernel
theorem dX1_keep_111 : decode cX1_keep 111 = .ok (.aload_n 0, 1) := by decide +kernel
theorem dX1_keep_112 : decode cX1_keep 112 = .ok (.aload_n 1, 1) := by decide +kernel
theorem dX1_keep_113 : decode cX1_keep 113 = .ok (.iload 4, 2) := by decide +kernel
theorem dX1_keep_115 : decode cX1_keep 115 = .ok (.iload 5, 2) := by decide +kernel
theorem dX1_keep_117 : decode cX1_keep 117 = .ok (.invokevirtual 72, 3) := by decide +kernel
theorem dX1_keep_120 : decode cX1_keep 120 = .ok (.iinc 4 1, 3) := by decide +kernel
theorem dX1_keep_123 : decode cX1_keep 123 = .ok (.goto (-95), 3) := by decide +kernel
theorem dX1_keep_126 : decode cX1_keep 126 = .ok (.return_, 1) := by decide +kernel
set_option maxRecDepth 20000 in
theorem ggX1_beginOfDoubt_X2_lengthAbove : GoodIn wsX1_beginOfDoubt wsX2_lengthAbove := goodIn_r _ [13, 14, 15, 34, 35] (by decide +kernel) (by decide +kernel)
set_option maxRecDepth 20000 in
theorem gX1_beginOfDoubt_X2_lengthAbove : GoodIn wsX1_beginOfDoubt (wsV RX1 79 RX2 yX2_lengthAbove wsX2_lengthAbove) := goodIn_app (goodIn_of _ (by decide +kernel)) ggX1_beginOfDoubt_X2_lengthAbove
theorem dX1_beginOfDoubt_0 : decode cX1_beginOfDoubt 0 = .ok (.aload_n 1, 1) := by decide +kernel
theorem dX1_beginOfDoubt_1 : decode cX1_beginOfDoubt 1 = .ok (.getfield 46, 3) := by decide +kernel
theorem dX1_beginOfDoubt_4 : decode cX1_beginOfDoubt 4 = .ok (.iload_n 2, 1) := by decide +kernel
theorem dX1_beginOfDoubt_5 : decode cX1_beginOfDoubt 5 = .ok (.iaload, 1) := by decide +kernel
theorem dX1_beginOfDoubt_6 : decode cX1_beginOfDoubt 6 = .ok (.istore 5, 2) := by decide +kernel
theorem dX1_beginOfDoubt_8 : decode cX1_beginOfDoubt 8 = .ok (.iload_n 3, 1) := by decide +kernel
theorem dX1_beginOfDoubt_9 : decode cX1_beginOfDoubt 9 = .ok (.tableswitch 75 0 2 #[27, 42, 69], 27) := by decide +kernel
theorem dX1_beginOfDoubt_36 : decode cX1_beginOfDoubt 36 = .ok (.iload 5, 2) := by decide +kernel
theorem dX1_beginOfDoubt_38 : decode cX1_beginOfDoubt 38 = .ok (.aload_n 1, 1) := by decide +kernel
theorem dX1_beginOfDoubt_39 : decode cX1_beginOfDoubt 39 = .ok (.getfield 76, 3) := by decide +kernel
theorem dX1_beginOfDoubt_42 : decode cX1_beginOfDoubt 42 = .ok (.iload_n 2, 1) := by decide +kernel
theorem dX1_beginOfDoubt_43 : decode cX1_beginOfDoubt 43 = .ok (.iaload, 1) := by decide +kernel
theorem dX1_beginOfDoubt_44 : decode cX1_beginOfDoubt 44 = .ok (.iload 4, 2) := by decide +kernel
theorem dX1_beginOfDoubt_46 : decode cX1_beginOfDoubt 46 = .ok (.iadd, 1) := by decide +kernel
theorem dX1_beginOfDoubt_47 : decode cX1_beginOfDoubt 47 = .ok (.invokestatic 66, 3) := by decide +kernel
theorem dX1_beginOfDoubt_50 : decode cX1_beginOfDoubt 50 = .ok (.ireturn, 1) := by decide +kernel
theorem dX1_beginOfDoubt_51 : decode cX1_beginOfDoubt 51 = .ok (.aload_n 0, 1) := by decide +kernel
theorem dX1_beginOfDoubt_52 : decode cX1_beginOfDoubt 52 = .ok (.getfield 21, 3) := by decide +kernel
theorem dX1_beginOfDoubt_55 : decode cX1_beginOfDoubt 55 = .ok (.iload 4, 2) := by decide +kernel
theorem dX1_beginOfDoubt_57 : decode cX1_beginOfDoubt 57 = .ok (.invokevirtual 79, 3) := by decide +kernel
theorem dX1_beginOfDoubt_60 : decode cX1_beginOfDoubt 60 = .ok (.istore 6, 2) := by decide +kernel
theorem dX1_beginOfDoubt_62 : decode cX1_beginOfDoubt 62 = .ok (.iload 6, 2) := by decide +kernel
theorem dX1_beginOfDoubt_64 : decode cX1_beginOfDoubt 64 = .ok (.iconst (-1), 1) := by decide +kernel
theorem dX1_beginOfDoubt_65 : decode cX1_beginOfDoubt 65 = .ok (.if_icmp .ne 7, 3) := by decide +kernel
theorem dX1_beginOfDoubt_68 : decode cX1_beginOfDoubt 68 = .ok (.iconst (-1), 1) := by decide +kernel
theorem dX1_beginOfDoubt_69 : decode cX1_beginOfDoubt 69 = .ok (.goto 8, 3) := by decide +kernel
theorem dX1_beginOfDoubt_72 : decode cX1_beginOfDoubt 72 = .ok (.iload 5, 2) := by decide +kernel
theorem dX1_beginOfDoubt_74 : decode cX1_beginOfDoubt 74 = .ok (.iload 6, 2) := by decide +kernel
theorem dX1_beginOfDoubt_76 : decode cX1_beginOfDoubt 76 = .ok (.iadd, 1) := by decide +kernel
theorem dX1_beginOfDoubt_77 : decode cX1_beginOfDoubt 77 = .ok (.ireturn, 1) := by decide +kernel
theorem dX1_beginOfDoubt_78 : decode cX1_beginOfDoubt 78 = .ok (.iload 5, 2) := by decide +kernel
theorem dX1_beginOfDoubt_80 : decode cX1_beginOfDoubt 80 = .ok (.iload 4, 2) := by decide +kernel
theorem dX1_beginOfDoubt_82 : decode cX1_beginOfDoubt 82 = .ok (.iadd, 1) := by decide +kernel
theorem dX1_beginOfDoubt_83 : decode cX1_beginOfDoubt 83 = .ok (.ireturn, 1) := by decide +kernel
theorem dX1_beginOfDoubt_84 : decode cX1_beginOfDoubt 84 = .ok (.iload 5, 2) := by decide +kernel
theorem dX1_beginOfDoubt_86 : decode cX1_beginOfDoubt 86 = .ok (.aload_n 1, 1) := by decide +kernel
theorem dX1_beginOfDoubt_87 : decode cX1_beginOfDoubt 87 = .ok (.getfield 76, 3) := by decide +kernel
theorem dX1_beginOfDoubt_90 : decode cX1_beginOfDoubt 90 = .ok (.iload_n 2, 1) := by decide +kernel
theorem dX1_beginOfDoubt_91 : decode cX1_beginOfDoubt 91 = .ok (.iaload, 1) := by decide +kernel
theorem dX1_beginOfDoubt_92 : decode cX1_beginOfDoubt 92 = .ok (.iload 4, 2) := by decide +kernel
theorem dX1_beginOfDoubt_94 : decode cX1_beginOfDoubt 94 = .ok (.aload_n 0, 1) := by decide +kernel
theorem dX1_beginOfDoubt_95 : decode cX1_beginOfDoubt 95 = .ok (.getfield 25, 3) := by decide +kernel
theorem dX1_beginOfDoubt_98 : decode cX1_beginOfDoubt 98 = .ok (.iconst 1, 1) := by decide +kernel
theorem dX1_beginOfDoubt_99 : decode cX1_beginOfDoubt 99 = .ok (.iadd, 1) := by decide +kernel
theorem dX1_beginOfDoubt_100 : decode cX1_beginOfDoubt 100 = .ok (.imul, 1) := by decide +kernel
theorem dX1_beginOfDoubt_101 : decode cX1_beginOfDoubt 101 = .ok (.iadd, 1) := by decide +kernel
theorem dX1_beginOfDoubt_102 : decode cX1_beginOfDoubt 102 = .ok (.invokestatic 66, 3) := by decide +kernel
theorem dX1_beginOfDoubt_105 : decode cX1_beginOfDoubt 105 = .ok (.ireturn, 1) := by decide +kernel
theorem dX1_noteDoubt_0 : decode cX1_noteDoubt 0 = .ok (.iload_n 2, 1) := by decide +kernel
theorem dX1_noteDoubt_1 : decode cX1_noteDoubt 1 = .ok (.iconst 1, 1) := by decide +kernel
theorem dX1_noteDoubt_2 : decode cX1_noteDoubt 2 = .ok (.iadd, 1) := by decide +kernel
theorem dX1_noteDoubt_3 : decode cX1_noteDoubt 3 = .ok (.aload_n 1, 1) := by decide +kernel
theorem dX1_noteDoubt_4 : decode cX1_noteDoubt 4 = .ok (.getfield 41, 3) := by decide +kernel
theorem dX1_noteDoubt_7 : decode cX1_noteDoubt 7 = .ok (.if_icmp .lt 9, 3) := by decide +kernel
theorem dX1_noteDoubt_10 : decode cX1_noteDoubt 10 = .ok (.aload_n 0, 1) := by decide +kernel
theorem dX1_noteDoubt_11 : decode cX1_noteDoubt 11 = .ok (.iload_n 3, 1) := by decide +kernel
theorem dX1_noteDoubt_12 : decode cX1_noteDoubt 12 = .ok (.putfield 38, 3) := by decide +kernel
theorem dX1_noteDoubt_15 : decode cX1_noteDoubt 15 = .ok (.return_, 1) := by decide +kernel
theorem dX1_noteDoubt_16 : decode cX1_noteDoubt 16 = .ok (.aload_n 1, 1) := by decide +kernel
theorem dX1_noteDoubt_17 : decode cX1_noteDoubt 17 = .ok (.getfield 46, 3) := by decide +kernel
theorem dX1_noteDoubt_20 : decode cX1_noteDoubt 20 = .ok (.iload_n 2, 1) := by decide +kernel
theorem dX1_noteDoubt_21 : decode cX1_noteDoubt 21 = .ok (.iconst 1, 1) := by decide +kernel
theorem dX1_noteDoubt_22 : decode cX1_noteDoubt 22 = .ok (.iadd, 1) := by decide +kernel
theorem dX1_noteDoubt_23 : decode cX1_noteDoubt 23 = .ok (.iaload, 1) := by decide +kernel
theorem dX1_noteDoubt_24 : decode cX1_noteDoubt 24 = .ok (.iload_n 3, 1) := by decide +kernel
theorem dX1_noteDoubt_25 : decode cX1_noteDoubt 25 = .ok (.isub, 1) := by decide +kernel
theorem dX1_noteDoubt_26 : decode cX1_noteDoubt 26 = .ok (.istore 4, 2) := by decide +kernel
theorem dX1_noteDoubt_28 : decode cX1_noteDoubt 28 = .ok (.iload 4, 2) := by decide +kernel
theorem dX1_noteDoubt_30 : decode cX1_noteDoubt 30 = .ok (.ifCond .le 47, 3) := by decide +kernel
theorem dX1_noteDoubt_33 : decode cX1_noteDoubt 33 = .ok (.aload_n 0, 1) := by decide +kernel
theorem dX1_noteDoubt_34 : decode cX1_noteDoubt 34 = .ok (.getfield 15, 3) := by decide +kernel
theorem dX1_noteDoubt_37 : decode cX1_noteDoubt 37 = .ok (.aload_n 0, 1) := by decide +kernel
theorem dX1_noteDoubt_38 : decode cX1_noteDoubt 38 = .ok (.getfield 25, 3) := by decide +kernel
theorem dX1_noteDoubt_41 : decode cX1_noteDoubt 41 = .ok (.iload_n 2, 1) := by decide +kernel
theorem dX1_noteDoubt_42 : decode cX1_noteDoubt 42 = .ok (.iastore, 1) := by decide +kernel
theorem dX1_noteDoubt_43 : decode cX1_noteDoubt 43 = .ok (.aload_n 0, 1) := by decide +kernel
theorem dX1_noteDoubt_44 : decode cX1_noteDoubt 44 = .ok (.dup, 1) := by decide +kernel
theorem dX1_noteDoubt_45 : decode cX1_noteDoubt 45 = .ok (.getfield 25, 3) := by decide +kernel
theorem dX1_noteDoubt_48 : decode cX1_noteDoubt 48 = .ok (.iconst 1, 1) := by decide +kernel
theorem dX1_noteDoubt_49 : decode cX1_noteDoubt 49 = .ok (.iadd, 1) := by decide +kernel
theorem dX1_noteDoubt_50 : decode cX1_noteDoubt 50 = .ok (.putfield 25, 3) := by decide +kernel
theorem dX1_noteDoubt_53 : decode cX1_noteDoubt 53 = .ok (.aload_n 0, 1) := by decide +kernel
theorem dX1_noteDoubt_54 : decode cX1_noteDoubt 54 = .ok (.dup, 1) := by decide +kernel
theorem dX1_noteDoubt_55 : decode cX1_noteDoubt 55 = .ok (.getfield 29, 3) := by decide +kernel
theorem dX1_noteDoubt_58 : decode cX1_noteDoubt 58 = .ok (.iload 4, 2) := by decide +kernel
theorem dX1_noteDoubt_60 : decode cX1_noteDoubt 60 = .ok (.iadd, 1) := by decide +kernel
theorem dX1_noteDoubt_61 : decode cX1_noteDoubt 61 = .ok (.putfield 29, 3) := by decide +kernel
theorem dX1_noteDoubt_64 : decode cX1_noteDoubt 64 = .ok (.aload_n 0, 1) := by decide +kernel
theorem dX1_noteDoubt_65 : decode cX1_noteDoubt 65 = .ok (.aload_n 0, 1) := by decide +kernel
theorem dX1_noteDoubt_66 : decode cX1_noteDoubt 66 = .ok (.getfield 32, 3) := by decide +kernel
theorem dX1_noteDoubt_69 : decode cX1_noteDoubt 69 = .ok (.iload 4, 2) := by decide +kernel
theorem dX1_noteDoubt_71 : decode cX1_noteDoubt 71 = .ok (.invokestatic 66, 3) := by decide +kernel
theorem dX1_noteDoubt_74 : decode cX1_noteDoubt 74 = .ok (.putfield 32, 3) := by decide +kernel
theorem dX1_noteDoubt_77 : decode cX1_noteDoubt 77 = .ok (.return_, 1) := by decide +kernel
theorem dX2_init_0 : decode cX2_init 0 = .ok (.aload_n 0, 1) := by decide +kernel
theorem dX2_init_1 : decode cX2_init 1 = .ok (.invokespecial 3, 3) := by decide +kernel
theorem dX2_init_4 : decode cX2_init 4 = .ok (.aload_n 0, 1) := by decide +kernel
theorem dX2_init_5 : decode cX2_init 5 = .ok (.bipush 16, 2) := by decide +kernel
theorem dX2_init_7 : decode cX2_init 7 = .ok (.newarray .int, 2) := by decide +kernel
theorem dX2_init_9 : decode cX2_init 9 = .ok (.putfield 9, 3) := by decide +kernel
theorem dX2_init_12 : decode cX2_init 12 = .ok (.return_, 1) := by decide +kernel
set_option maxRecDepth 20000 in
theorem ggX2_moveOnTo_X2_takeOut : GoodIn wsX2_moveOnTo wsX2_takeOut := goodIn_r _ [6, 1, 7, 12, 13] (by decide +kernel) (by decide +kernel)
set_option maxRecDepth 20000 in
theorem gX2_moveOnTo_X2_takeOut : GoodIn wsX2_moveOnTo (wsV RX2 19 RX2 yX2_takeOut wsX2_takeOut) := goodIn_app (goodIn_of _ (by decide +kernel)) ggX2_moveOnTo_X2_takeOut
set_option maxRecDepth 20000 in
theorem ggX2_moveOnTo_X2_takeIn : GoodIn wsX2_moveOnTo wsX2_takeIn := goodIn_r _ [11, 1, 7, 12, 13] (by decide +kernel) (by decide +kernel)
set_option maxRecDepth 20000 in
theorem gX2_moveOnTo_X2_takeIn : GoodIn wsX2_moveOnTo (wsV RX2 23 RX2 yX2_takeIn wsX2_takeIn) := goodIn_app (goodIn_of _ (by decide +kernel)) ggX2_moveOnTo_X2_takeIn
theorem dX2_moveOnTo_0 : decode cX2_moveOnTo 0 = .ok (.iload_n 1, 1) := by decide +kernel
theorem dX2_moveOnTo_1 : decode cX2_moveOnTo 1 = .ok (.ifCond .ne 9, 3) := by decide +kernel
theorem dX2_moveOnTo_4 : decode cX2_moveOnTo 4 = .ok (.aload_n 0, 1) := by decide +kernel
theorem dX2_moveOnTo_5 : decode cX2_moveOnTo 5 = .ok (.iconst 0, 1) := by decide +kernel
theorem dX2_moveOnTo_6 : decode cX2_moveOnTo 6 = .ok (.putfield 15, 3) := by decide +kernel
theorem dX2_moveOnTo_9 : decode cX2_moveOnTo 9 = .ok (.return_, 1) := by decide +kernel
theorem dX2_moveOnTo_10 : decode cX2_moveOnTo 10 = .ok (.iload_n 1, 1) := by decide +kernel
theorem dX2_moveOnTo_11 : decode cX2_moveOnTo 11 = .ok (.iload_n 3, 1) := by decide +kernel
theorem dX2_moveOnTo_12 : decode cX2_moveOnTo 12 = .ok (.isub, 1) := by decide +kernel
theorem dX2_moveOnTo_13 : decode cX2_moveOnTo 13 = .ok (.istore 4, 2) := by decide +kernel
theorem dX2_moveOnTo_15 : decode cX2_moveOnTo 15 = .ok (.iload 4, 2) := by decide +kernel
theorem dX2_moveOnTo_17 : decode cX2_moveOnTo 17 = .ok (.iconst 1, 1) := by decide +kernel
theorem dX2_moveOnTo_18 : decode cX2_moveOnTo 18 = .ok (.if_icmp .lt 18, 3) := by decide +kernel
theorem dX2_moveOnTo_21 : decode cX2_moveOnTo 21 = .ok (.aload_n 0, 1) := by decide +kernel
theorem dX2_moveOnTo_22 : decode cX2_moveOnTo 22 = .ok (.aload_n 2, 1) := by decide +kernel
theorem dX2_moveOnTo_23 : decode cX2_moveOnTo 23 = .ok (.iload 4, 2) := by decide +kernel
theorem dX2_moveOnTo_25 : decode cX2_moveOnTo 25 = .ok (.iaload, 1) := by decide +kernel
theorem dX2_moveOnTo_26 : decode cX2_moveOnTo 26 = .ok (.aload_n 2, 1) := by decide +kernel
theorem dX2_moveOnTo_27 : decode cX2_moveOnTo 27 = .ok (.iload 4, 2) := by decide +kernel
theorem dX2_moveOnTo_29 : decode cX2_moveOnTo 29 = .ok (.iconst 1, 1) := by decide +kernel
theorem dX2_moveOnTo_30 : decode cX2_moveOnTo 30 = .ok (.isub, 1) := by decide +kernel
theorem dX2_moveOnTo_31 : decode cX2_moveOnTo 31 = .ok (.iaload, 1) := by decide +kernel
theorem dX2_moveOnTo_32 : decode cX2_moveOnTo 32 = .ok (.isub, 1) := by decide +kernel
theorem dX2_moveOnTo_33 : decode cX2_moveOnTo 33 = .ok (.invokevirtual 19, 3) := by decide +kernel
theorem dX2_moveOnTo_36 : decode cX2_moveOnTo 36 = .ok (.aload_n 0, 1) := by decide +kernel
theorem dX2_moveOnTo_37 : decode cX2_moveOnTo 37 = .ok (.aload_n 2, 1) := by decide +kernel
theorem dX2_moveOnTo_38 : decode cX2_moveOnTo 38 = .ok (.iload_n 1, 1) := by decide +kernel
theorem dX2_moveOnTo_39 : decode cX2_moveOnTo 39 = .ok (.iaload, 1) := by decide +kernel
theorem dX2_moveOnTo_40 : decode cX2_moveOnTo 40 = .ok (.aload_n 2, 1) := by decide +kernel
theorem dX2_moveOnTo_41 : decode cX2_moveOnTo 41 = .ok (.iload_n 1, 1) := by decide +kernel
theorem dX2_moveOnTo_42 : decode cX2_moveOnTo 42 = .ok (.iconst 1, 1) := by decide +kernel
theorem dX2_moveOnTo_43 : decode cX2_moveOnTo 43 = .ok (.isub, 1) := by decide +kernel
theorem dX2_moveOnTo_44 : decode cX2_moveOnTo 44 = .ok (.iaload, 1) := by decide +kernel
theorem dX2_moveOnTo_45 : decode cX2_moveOnTo 45 = .ok (.isub, 1) := by decide +kernel
theorem dX2_moveOnTo_46 : decode cX2_moveOnTo 46 = .ok (.invokevirtual 23, 3) := by decide +kernel
theorem dX2_moveOnTo_49 : decode cX2_moveOnTo 49 = .ok (.return_, 1) := by decide +kernel
theorem dX2_takeOut_0 : decode cX2_takeOut 0 = .ok (.iconst 0, 1) := by decide +kernel
theorem dX2_takeOut_1 : decode cX2_takeOut 1 = .ok (.istore_n 2, 1) := by decide +kernel
theorem dX2_takeOut_2 : decode cX2_takeOut 2 = .ok (.iload_n 2, 1) := by decide +kernel
theorem dX2_takeOut_3 : decode cX2_takeOut 3 = .ok (.aload_n 0, 1) := by decide +kernel
theorem dX2_takeOut_4 : decode cX2_takeOut 4 = .ok (.getfield 15, 3) := by decide +kernel
theorem dX2_takeOut_7 : decode cX2_takeOut 7 = .ok (.if_icmp .ge 19, 3) := by decide +kernel
theorem dX2_takeOut_10 : decode cX2_takeOut 10 = .ok (.aload_n 0, 1) := by decide +kernel
theorem dX2_takeOut_11 : decode cX2_takeOut 11 = .ok (.getfield 9, 3) := by decide +kernel
theorem dX2_takeOut_14 : decode cX2_takeOut 14 = .ok (.iload_n 2, 1) := by decide +kernel
theorem dX2_takeOut_15 : decode cX2_takeOut 15 = .ok (.iaload, 1) := by decide +kernel
theorem dX2_takeOut_16 : decode cX2_takeOut 16 = .ok (.iload_n 1, 1) := by decide +kernel
theorem dX2_takeOut_17 : decode cX2_takeOut 17 = .ok (.if_icmp .eq 9, 3) := by decide +kernel
theorem dX2_takeOut_20 : decode cX2_takeOut 20 = .ok (.iinc 2 1, 3) := by decide +kernel
theorem dX2_takeOut_23 : decode cX2_takeOut 23 = .ok (.goto (-21), 3) := by decide +kernel
theorem dX2_takeOut_26 : decode cX2_takeOut 26 = .ok (.iload_n 2, 1) := by decide +kernel
theorem dX2_takeOut_27 : decode cX2_takeOut 27 = .ok (.aload_n 0, 1) := by decide +kernel
theorem dX2_takeOut_28 : decode cX2_takeOut 28 = .ok (.getfield 15, 3) := by decide +kernel
theorem dX2_takeOut_31 : decode cX2_takeOut 31 = .ok (.if_icmp .lt 4, 3) := by decide +kernel
theorem dX2_takeOut_34 : decode cX2_takeOut 34 = .ok (.return_, 1) := by decide +kernel
theorem dX2_takeOut_35 : decode cX2_takeOut 35 = .ok (.iload_n 2, 1) := by decide +kernel
theorem dX2_takeOut_36 : decode cX2_takeOut 36 = .ok (.iconst 1, 1) := by decide +kernel
theorem dX2_takeOut_37 : decode cX2_takeOut 37 = .ok (.iadd, 1) := by decide +kernel
theorem dX2_takeOut_38 : decode cX2_takeOut 38 = .ok (.istore_n 3, 1) := by decide +kernel
theorem dX2_takeOut_39 : decode cX2_takeOut 39 = .ok (.iload_n 3, 1) := by decide +kernel
theorem dX2_takeOut_40 : decode cX2_takeOut 40 = .ok (.aload_n 0, 1) := by decide +kernel
theorem dX2_takeOut_41 : decode cX2_takeOut 41 = .ok (.getfield 15, 3) := by decide +kernel
theorem dX2_takeOut_44 : decode cX2_takeOut 44 = .ok (.if_icmp .ge 23, 3) := by decide +kernel
theorem dX2_takeOut_47 : decode cX2_takeOut 47 = .ok (.aload_n 0, 1) := by decide +kernel
theorem dX2_takeOut_48 : decode cX2_takeOut 48 = .ok (.getfield 9, 3) := by decide +kernel
theorem dX2_takeOut_51 : decode cX2_takeOut 51 = .ok (.iload_n 3, 1) := by decide +kernel
theorem dX2_takeOut_52 : decode cX2_takeOut 52 = .ok (.iconst 1, 1) := by decide +kernel
theorem dX2_takeOut_53 : decode cX2_takeOut 53 = .ok (.isub, 1) := by decide +kernel
theorem dX2_takeOut_54 : decode cX2_takeOut 54 = .ok (.aload_n 0, 1) := by decide +kernel
theorem dX2_takeOut_55 : decode cX2_takeOut 55 = .ok (.getfield 9, 3) := by decide +kernel
theorem dX2_takeOut_58 : decode cX2_takeOut 58 = .ok (.iload_n 3, 1) := by decide +kernel
theorem dX2_takeOut_59 : decode cX2_takeOut 59 = .ok (.iaload, 1) := by decide +kernel
theorem dX2_takeOut_60 : decode cX2_takeOut 60 = .ok (.iastore, 1) := by decide +kernel
theorem dX2_takeOut_61 : decode cX2_takeOut 61 = .ok (.iinc 3 1, 3) := by decide +kernel
theorem dX2_takeOut_64 : decode cX2_takeOut 64 = .ok (.goto (-25), 3) := by decide +kernel
theorem dX2_takeOut_67 : decode cX2_takeOut 67 = .ok (.aload_n 0, 1) := by decide +kernel
theorem dX2_takeOut_68 : decode cX2_takeOut 68 = .ok (.dup, 1) := by decide +kernel
theorem dX2_takeOut_69 : decode cX2_takeOut 69 = .ok (.getfield 15, 3) := by decide +kernel
theorem dX2_takeOut_72 : decode cX2_takeOut 72 = .ok (.iconst 1, 1) := by decide +kernel
theorem dX2_takeOut_73 : decode cX2_takeOut 73 = .ok (.isub, 1) := by decide +kernel
theorem dX2_takeOut_74 : decode cX2_takeOut 74 = .ok (.putfield 15, 3) := by decide +kernel
theorem dX2_takeOut_77 : decode cX2_takeOut 77 = .ok (.return_, 1) := by decide +kernel
theorem dX2_takeIn_0 : decode cX2_takeIn 0 = .ok (.aload_n 0, 1) := by decide +kernel
theorem dX2_takeIn_1 : decode cX2_takeIn 1 = .ok (.getfield 15, 3) := by decide +kernel
theorem dX2_takeIn_4 : decode cX2_takeIn 4 = .ok (.aload_n 0, 1) := by decide +kernel
theorem dX2_takeIn_5 : decode cX2_takeIn 5 = .ok (.getfield 9, 3) := by decide +kernel
theorem dX2_takeIn_8 : decode cX2_takeIn 8 = .ok (.arraylength, 1) := by decide +kernel
theorem dX2_takeIn_9 : decode cX2_takeIn 9 = .ok (.if_icmp .lt 4, 3) := by decide +kernel
theorem dX2_takeIn_12 : decode cX2_takeIn 12 = .ok (.return_, 1) := by decide +kernel
theorem dX2_takeIn_13 : decode cX2_takeIn 13 = .ok (.aload_n 0, 1) := by decide +kernel
theorem dX2_takeIn_14 : decode cX2_takeIn 14 = .ok (.getfield 15, 3) := by decide +kernel
theorem dX2_takeIn_17 : decode cX2_takeIn 17 = .ok (.istore_n 2, 1) := by decide +kernel
theorem dX2_takeIn_18 : decode cX2_takeIn 18 = .ok (.iload_n 2, 1) := by decide +kernel
theorem dX2_takeIn_19 : decode cX2_takeIn 19 = .ok (.ifCond .le 35, 3) := by decide +kernel
theorem dX2_takeIn_22 : decode cX2_takeIn 22 = .ok (.aload_n 0, 1) := by decide +kernel
theorem dX2_takeIn_23 : decode cX2_takeIn 23 = .ok (.getfield 9, 3) := by decide +kernel
theorem dX2_takeIn_26 : decode cX2_takeIn 26 = .ok (.iload_n 2, 1) := by decide +kernel
theorem dX2_takeIn_27 : decode cX2_takeIn 27 = .ok (.iconst 1, 1) := by decide +kernel
theorem dX2_takeIn_28 : decode cX2_takeIn 28 = .ok (.isub, 1) := by decide +kernel
theorem dX2_takeIn_29 : decode cX2_takeIn 29 = .ok (.iaload, 1) := by decide +kernel
theorem dX2_takeIn_30 : decode cX2_takeIn 30 = .ok (.iload_n 1, 1) := by decide +kernel
theorem dX2_takeIn_31 : decode cX2_takeIn 31 = .ok (.if_icmp .le 23, 3) := by decide +kernel
theorem dX2_takeIn_34 : decode cX2_takeIn 34 = .ok (.aload_n 0, 1) := by decide +kernel
theorem dX2_takeIn_35 : decode cX2_takeIn 35 = .ok (.getfield 9, 3) := by decide +kernel
theorem dX2_takeIn_38 : decode cX2_takeIn 38 = .ok (.iload_n 2, 1) := by decide +kernel
theorem dX2_takeIn_39 : decode cX2_takeIn 39 = .ok (.aload_n 0, 1) := by decide +kernel
theorem dX2_takeIn_40 : decode cX2_takeIn 40 = .ok (.getfield 9, 3) := by decide +kernel
theorem dX2_takeIn_43 : decode cX2_takeIn 43 = .ok (.iload_n 2, 1) := by decide +kernel
theorem dX2_takeIn_44 : decode cX2_takeIn 44 = .ok (.iconst 1, 1) := by decide +kernel
theorem dX2_takeIn_45 : decode cX2_takeIn 45 = .ok (.isub, 1) := by decide +kernel
theorem dX2_takeIn_46 : decode cX2_takeIn 46 = .ok (.iaload, 1) := by decide +kernel
theorem dX2_takeIn_47 : decode cX2_takeIn 47 = .ok (.iastore, 1) := by decide +kernel
theorem dX2_takeIn_48 : decode cX2_takeIn 48 = .ok (.iinc 2 (-1), 3) := by decide +kernel
theorem dX2_takeIn_51 : decode cX2_takeIn 51 = .ok (.goto (-33), 3) := by decide +kernel
theorem dX2_takeIn_54 : decode cX2_takeIn 54 = .ok (.aload_n 0, 1) := by decide +kernel
theorem dX2_takeIn_55 : decode cX2_takeIn 55 = .ok (.getfield 9, 3) := by decide +kernel
theorem dX2_takeIn_58 : decode cX2_takeIn 58 = .ok (.iload_n 2, 1) := by decide +kernel
theorem dX2_takeIn_59 : decode cX2_takeIn 59 = .ok (.iload_n 1, 1) := by decide +kernel
theorem dX2_takeIn_60 : decode cX2_takeIn 60 = .ok (.iastore, 1) := by decide +kernel
theorem dX2_takeIn_61 : decode cX2_takeIn 61 = .ok (.aload_n 0, 1) := by decide +kernel
theorem dX2_takeIn_62 : decode cX2_takeIn 62 = .ok (.dup, 1) := by decide +kernel
theorem dX2_takeIn_63 : decode cX2_takeIn 63 = .ok (.getfield 15, 3) := by decide +kernel
theorem dX2_takeIn_66 : decode cX2_takeIn 66 = .ok (.iconst 1, 1) := by decide +kernel
theorem dX2_takeIn_67 : decode cX2_takeIn 67 = .ok (.iadd, 1) := by decide +kernel
theorem dX2_takeIn_68 : decode cX2_takeIn 68 = .ok (.putfield 15, 3) := by decide +kernel
theorem dX2_takeIn_71 : decode cX2_takeIn 71 = .ok (.return_, 1) := by decide +kernel
theorem dX2_lengthAbove_0 : decode cX2_lengthAbove 0 = .ok (.iload_n 1, 1) := by decide +kernel
theorem dX2_lengthAbove_1 : decode cX2_lengthAbove 1 = .ok (.aload_n 0, 1) := by decide +kernel
theorem dX2_lengthAbove_2 : decode cX2_lengthAbove 2 = .ok (.getfield 15, 3) := by decide +kernel
theorem dX2_lengthAbove_5 : decode cX2_lengthAbove 5 = .ok (.imul, 1) := by decide +kernel
theorem dX2_lengthAbove_6 : decode cX2_lengthAbove 6 = .ok (.bipush 9, 2) := by decide +kernel
theorem dX2_lengthAbove_8 : decode cX2_lengthAbove 8 = .ok (.iadd, 1) := by decide +kernel
theorem dX2_lengthAbove_9 : decode cX2_lengthAbove 9 = .ok (.bipush 10, 2) := by decide +kernel
theorem dX2_lengthAbove_11 : decode cX2_lengthAbove 11 = .ok (.idiv, 1) := by decide +kernel
theorem dX2_lengthAbove_12 : decode cX2_lengthAbove 12 = .ok (.istore_n 2, 1) := by decide +kernel
theorem dX2_lengthAbove_13 : decode cX2_lengthAbove 13 = .ok (.iload_n 2, 1) := by decide +kernel
theorem dX2_lengthAbove_14 : decode cX2_lengthAbove 14 = .ok (.iconst 1, 1) := by decide +kernel
theorem dX2_lengthAbove_15 : decode cX2_lengthAbove 15 = .ok (.if_icmp .lt 24, 3) := by decide +kernel
theorem dX2_lengthAbove_18 : decode cX2_lengthAbove 18 = .ok (.iload_n 2, 1) := by decide +kernel
theorem dX2_lengthAbove_19 : decode cX2_lengthAbove 19 = .ok (.aload_n 0, 1) := by decide +kernel
theorem dX2_lengthAbove_20 : decode cX2_lengthAbove 20 = .ok (.getfield 15, 3) := by decide +kernel
theorem dX2_lengthAbove_23 : decode cX2_lengthAbove 23 = .ok (.if_icmp .gt 16, 3) := by decide +kernel
theorem dX2_lengthAbove_26 : decode cX2_lengthAbove 26 = .ok (.aload_n 0, 1) := by decide +kernel
theorem dX2_lengthAbove_27 : decode cX2_lengthAbove 27 = .ok (.getfield 9, 3) := by decide +kernel
theorem dX2_lengthAbove_30 : decode cX2_lengthAbove 30 = .ok (.iload_n 2, 1) := by decide +kernel
theorem dX2_lengthAbove_31 : decode cX2_lengthAbove 31 = .ok (.iconst 1, 1) := by decide +kernel
theorem dX2_lengthAbove_32 : decode cX2_lengthAbove 32 = .ok (.isub, 1) := by decide +kernel
theorem dX2_lengthAbove_33 : decode cX2_lengthAbove 33 = .ok (.iaload, 1) := by decide +kernel
theorem dX2_lengthAbove_34 : decode cX2_lengthAbove 34 = .ok (.iconst 1, 1) := by decide +kernel
theorem dX2_lengthAbove_35 : decode cX2_lengthAbove 35 = .ok (.iadd, 1) := by decide +kernel
theorem dX2_lengthAbove_36 : decode cX2_lengthAbove 36 = .ok (.goto 4, 3) := by decide +kernel
theorem dX2_lengthAbove_39 : decode cX2_lengthAbove 39 = .ok (.iconst (-1), 1) := by decide +kernel
theorem dX2_lengthAbove_40 : decode cX2_lengthAbove 40 = .ok (.ireturn, 1) := by decide +kernel
theorem dX3_init_0 : decode cX3_init 0 = .ok (.aload_n 0, 1) := by decide +kernel
theorem dX3_init_1 : decode cX3_init 1 = .ok (.invokespecial 3, 3) := by decide +kernel
theorem dX3_init_4 : decode cX3_init 4 = .ok (.aload_n 0, 1) := by decide +kernel
theorem dX3_init_5 : decode cX3_init 5 = .ok (.iconst 1, 1) := by decide +kernel
theorem dX3_init_6 : decode cX3_init 6 = .ok (.putfield 9, 3) := by decide +kernel
theorem dX3_init_9 : decode cX3_init 9 = .ok (.aload_n 0, 1) := by decide +kernel
theorem dX3_init_10 : decode cX3_init 10 = .ok (.bipush 40, 2) := by decide +kernel
theorem dX3_init_12 : decode cX3_init 12 = .ok (.newarray .long, 2) := by decide +kernel
theorem dX3_init_14 : decode cX3_init 14 = .ok (.putfield 15, 3) := by decide +kernel
theorem dX3_init_17 : decode cX3_init 17 = .ok (.aload_n 0, 1) := by decide +kernel
theorem dX3_init_18 : decode cX3_init 18 = .ok (.bipush 40, 2) := by decide +kernel
theorem dX3_init_20 : decode cX3_init 20 = .ok (.newarray .double, 2) := by decide +kernel
theorem dX3_init_22 : decode cX3_init 22 = .ok (.putfield 19, 3) := by decide +kernel
theorem dX3_init_25 : decode cX3_init 25 = .ok (.aload_n 0, 1) := by decide +kernel
theorem dX3_init_26 : decode cX3_init 26 = .ok (.bipush 40, 2) := by decide +kernel
theorem dX3_init_28 : decode cX3_init 28 = .ok (.newarray .boolean, 2) := by decide +kernel
theorem dX3_init_30 : decode cX3_init 30 = .ok (.putfield 23, 3) := by decide +kernel
theorem dX3_init_33 : decode cX3_init 33 = .ok (.return_, 1) := by decide +kernel
set_option maxRecDepth 20000 in
theorem ggX3_begin_X3_putNumber : GoodIn wsX3_begin wsX3_putNumber := goodIn_r _ [9, 10, 11, 12, 13, 14, 15, 16, 17] (by decide +kernel) (by decide +kernel)
set_option maxRecDepth 20000 in
theorem gX3_begin_X3_putNumber : GoodIn wsX3_begin (wsV RX3 34 RX3 yX3_putNumber wsX3_putNumber) := goodIn_app (goodIn_of _ (by decide +kernel)) ggX3_begin_X3_putNumber
theorem dX3_begin_0 : decode cX3_begin 0 = .ok (.aload_n 0, 1) := by decide +kernel
theorem dX3_begin_1 : decode cX3_begin 1 = .ok (.iconst 0, 1) := by decide +kernel
theorem dX3_begin_2 : decode cX3_begin 2 = .ok (.putfield 9, 3) := by decide +kernel
theorem dX3_begin_5 : decode cX3_begin 5 = .ok (.aload_n 0, 1) := by decide +kernel
theorem dX3_begin_6 : decode cX3_begin 6 = .ok (.iload_n 1, 1) := by decide +kernel
theorem dX3_begin_7 : decode cX3_begin 7 = .ok (.putfield 27, 3) := by decide +kernel
theorem dX3_begin_10 : decode cX3_begin 10 = .ok (.aload_n 0, 1) := by decide +kernel
theorem dX3_begin_11 : decode cX3_begin 11 = .ok (.iload_n 2, 1) := by decide +kernel
theorem dX3_begin_12 : decode cX3_begin 12 = .ok (.putfield 31, 3) := by decide +kernel
theorem dX3_begin_15 : decode cX3_begin 15 = .ok (.iconst 0, 1) := by decide +kernel
theorem dX3_begin_16 : decode cX3_begin 16 = .ok (.istore_n 3, 1) := by decide +kernel
theorem dX3_begin_17 : decode cX3_begin 17 = .ok (.iload_n 3, 1) := by decide +kernel
theorem dX3_begin_18 : decode cX3_begin 18 = .ok (.iload_n 2, 1) := by decide +kernel
theorem dX3_begin_19 : decode cX3_begin 19 = .ok (.if_icmp .ge 22, 3) := by decide +kernel
theorem dX3_begin_22 : decode cX3_begin 22 = .ok (.aload_n 0, 1) := by decide +kernel
theorem dX3_begin_23 : decode cX3_begin 23 = .ok (.getfield 15, 3) := by decide +kernel
theorem dX3_begin_26 : decode cX3_begin 26 = .ok (.iload_n 3, 1) := by decide +kernel
theorem dX3_begin_27 : decode cX3_begin 27 = .ok (.lconst 0, 1) := by decide +kernel
theorem dX3_begin_28 : decode cX3_begin 28 = .ok (.lastore, 1) := by decide +kernel
theorem dX3_begin_29 : decode cX3_begin 29 = .ok (.aload_n 0, 1) := by decide +kernel
theorem dX3_begin_30 : decode cX3_begin 30 = .ok (.iload_n 3, 1) := by decide +kernel
theorem dX3_begin_31 : decode cX3_begin 31 = .ok (.dconst 0, 1) := by decide +kernel
theorem dX3_begin_32 : decode cX3_begin 32 = .ok (.invokevirtual 34, 3) := by decide +kernel
theorem dX3_begin_35 : decode cX3_begin 35 = .ok (.iinc 3 1, 3) := by decide +kernel
theorem dX3_begin_38 : decode cX3_begin 38 = .ok (.goto (-21), 3) := by decide +kernel
theorem dX3_begin_41 : decode cX3_begin 41 = .ok (.return_, 1) := by decide +kernel
theorem dX3_hasItems_0 : decode cX3_hasItems 0 = .ok (.iload_n 1, 1) := by decide +kernel
theorem dX3_hasItems_1 : decode cX3_hasItems 1 = .ok (.ifCond .lt 29, 3) := by decide +kernel
theorem dX3_hasItems_4 : decode cX3_hasItems 4 = .ok (.iload_n 2, 1) := by decide +kernel
theorem dX3_hasItems_5 : decode cX3_hasItems 5 = .ok (.ifCond .lt 25, 3) := by decide +kernel
theorem dX3_hasItems_8 : decode cX3_hasItems 8 = .ok (.iload_n 1, 1) := by decide +kernel
theorem dX3_hasItems_9 : decode cX3_hasItems 9 = .ok (.aload_n 0, 1) := by decide +kernel
theorem dX3_hasItems_10 : decode cX3_hasItems 10 = .ok (.getfield 31, 3) := by decide +kernel
theorem dX3_hasItems_13 : decode cX3_hasItems 13 = .ok (.if_icmp .gt 17, 3) := by decide +kernel
theorem dX3_hasItems_16 : decode cX3_hasItems 16 = .ok (.iload_n 2, 1) := by decide +kernel
theorem dX3_hasItems_17 : decode cX3_hasItems 17 = .ok (.aload_n 0, 1) := by decide +kernel
theorem dX3_hasItems_18 : decode cX3_hasItems 18 = .ok (.getfield 31, 3) := by decide +kernel
theorem dX3_hasItems_21 : decode cX3_hasItems 21 = .ok (.iload_n 1, 1) := by decide +kernel
theorem dX3_hasItems_22 : decode cX3_hasItems 22 = .ok (.isub, 1) := by decide +kernel
theorem dX3_hasItems_23 : decode cX3_hasItems 23 = .ok (.if_icmp .gt 7, 3) := by decide +kernel
theorem dX3_hasItems_26 : decode cX3_hasItems 26 = .ok (.iconst 1, 1) := by decide +kernel
theorem dX3_hasItems_27 : decode cX3_hasItems 27 = .ok (.goto 4, 3) := by decide +kernel
theorem dX3_hasItems_30 : decode cX3_hasItems 30 = .ok (.iconst 0, 1) := by decide +kernel
theorem dX3_hasItems_31 : decode cX3_hasItems 31 = .ok (.ireturn, 1) := by decide +kernel
theorem dX3_putNumber_0 : decode cX3_putNumber 0 = .ok (.aload_n 0, 1) := by decide +kernel
theorem dX3_putNumber_1 : decode cX3_putNumber 1 = .ok (.getfield 19, 3) := by decide +kernel
theorem dX3_putNumber_4 : decode cX3_putNumber 4 = .ok (.iload_n 1, 1) := by decide +kernel
theorem dX3_putNumber_5 : decode cX3_putNumber 5 = .ok (.dload_n 2, 1) := by decide +kernel
theorem dX3_putNumber_6 : decode cX3_putNumber 6 = .ok (.dastore, 1) := by decide +kernel
theorem dX3_putNumber_7 : decode cX3_putNumber 7 = .ok (.aload_n 0, 1) := by decide +kernel
theorem dX3_putNumber_8 : decode cX3_putNumber 8 = .ok (.getfield 23, 3) := by decide +kernel
theorem dX3_putNumber_11 : decode cX3_putNumber 11 = .ok (.iload_n 1, 1) := by decide +kernel
theorem dX3_putNumber_12 : decode cX3_putNumber 12 = .ok (.iconst 0, 1) := by decide +kernel
theorem dX3_putNumber_13 : decode cX3_putNumber 13 = .ok (.bastore, 1) := by decide +kernel
theorem dX3_putNumber_14 : decode cX3_putNumber 14 = .ok (.return_, 1) := by decide +kernel
theorem dX3_takeItems_0 : decode cX3_takeItems 0 = .ok (.iconst 0, 1) := by decide +kernel
theorem dX3_takeItems_1 : decode cX3_takeItems 1 = .ok (.istore 5, 2) := by decide +kernel
theorem dX3_takeItems_3 : decode cX3_takeItems 3 = .ok (.iload 5, 2) := by decide +kernel
theorem dX3_takeItems_5 : decode cX3_takeItems 5 = .ok (.iload 4, 2) := by decide +kernel
theorem dX3_takeItems_7 : decode cX3_takeItems 7 = .ok (.if_icmp .ge 82, 3) := by decide +kernel
theorem dX3_takeItems_10 : decode cX3_takeItems 10 = .ok (.iload_n 2, 1) := by decide +kernel
theorem dX3_takeItems_11 : decode cX3_takeItems 11 = .ok (.iload_n 3, 1) := by decide +kernel
theorem dX3_takeItems_12 : decode cX3_takeItems 12 = .ok (.if_icmp .lt 8, 3) := by decide +kernel
theorem dX3_takeItems_15 : decode cX3_takeItems 15 = .ok (.iload 5, 2) := by decide +kernel
theorem dX3_takeItems_17 : decode cX3_takeItems 17 = .ok (.goto 10, 3) := by decide +kernel
theorem dX3_takeItems_20 : decode cX3_takeItems 20 = .ok (.iload 4, 2) := by decide +kernel
theorem dX3_takeItems_22 : decode cX3_takeItems 22 = .ok (.iconst 1, 1) := by decide +kernel
theorem dX3_takeItems_23 : decode cX3_takeItems 23 = .ok (.isub, 1) := by decide +kernel
theorem dX3_takeItems_24 : decode cX3_takeItems 24 = .ok (.iload 5, 2) := by decide +kernel
theorem dX3_takeItems_26 : decode cX3_takeItems 26 = .ok (.isub, 1) := by decide +kernel
theorem dX3_takeItems_27 : decode cX3_takeItems 27 = .ok (.istore 6, 2) := by decide +kernel
theorem dX3_takeItems_29 : decode cX3_takeItems 29 = .ok (.aload_n 0, 1) := by decide +kernel
theorem dX3_takeItems_30 : decode cX3_takeItems 30 = .ok (.getfield 15, 3) := by decide +kernel
theorem dX3_takeItems_33 : decode cX3_takeItems 33 = .ok (.iload_n 3, 1) := by decide +kernel
theorem dX3_takeItems_34 : decode cX3_takeItems 34 = .ok (.iload 6, 2) := by decide +kernel
theorem dX3_takeItems_36 : decode cX3_takeItems 36 = .ok (.iadd, 1) := by decide +kernel
theorem dX3_takeItems_37 : decode cX3_takeItems 37 = .ok (.aload_n 1, 1) := by decide +kernel
theorem dX3_takeItems_38 : decode cX3_takeItems 38 = .ok (.getfield 15, 3) := by decide +kernel
theorem dX3_takeItems_41 : decode cX3_takeItems 41 = .ok (.iload_n 2, 1) := by decide +kernel
theorem dX3_takeItems_42 : decode cX3_takeItems 42 = .ok (.iload 6, 2) := by decide +kernel
theorem dX3_takeItems_44 : decode cX3_takeItems 44 = .ok (.iadd, 1) := by decide +kernel
theorem dX3_takeItems_45 : decode cX3_takeItems 45 = .ok (.laload, 1) := by decide +kernel
theorem dX3_takeItems_46 : decode cX3_takeItems 46 = .ok (.lastore, 1) := by decide +kernel
theorem dX3_takeItems_47 : decode cX3_takeItems 47 = .ok (.aload_n 0, 1) := by decide +kernel
theorem dX3_takeItems_48 : decode cX3_takeItems 48 = .ok (.getfield 19, 3) := by decide +kernel
theorem dX3_takeItems_51 : decode cX3_takeItems 51 = .ok (.iload_n 3, 1) := by decide +kernel
theorem dX3_takeItems_52 : decode cX3_takeItems 52 = .ok (.iload 6, 2) := by decide +kernel
theorem dX3_takeItems_54 : decode cX3_takeItems 54 = .ok (.iadd, 1) := by decide +kernel
theorem dX3_takeItems_55 : decode cX3_takeItems 55 = .ok (.aload_n 1, 1) := by decide +kernel
theorem dX3_takeItems_56 : decode cX3_takeItems 56 = .ok (.getfield 19, 3) := by decide +kernel
theorem dX3_takeItems_59 : decode cX3_takeItems 59 = .ok (.iload_n 2, 1) := by decide +kernel
theorem dX3_takeItems_60 : decode cX3_takeItems 60 = .ok (.iload 6, 2) := by decide +kernel
theorem dX3_takeItems_62 : decode cX3_takeItems 62 = .ok (.iadd, 1) := by decide +kernel
theorem dX3_takeItems_63 : decode cX3_takeItems 63 = .ok (.daload, 1) := by decide +kernel
theorem dX3_takeItems_64 : decode cX3_takeItems 64 = .ok (.dastore, 1) := by decide +kernel
theorem dX3_takeItems_65 : decode cX3_takeItems 65 = .ok (.aload_n 0, 1) := by decide +kernel
theorem dX3_takeItems_66 : decode cX3_takeItems 66 = .ok (.getfield 23, 3) := by decide +kernel
theorem dX3_takeItems_69 : decode cX3_takeItems 69 = .ok (.iload_n 3, 1) := by decide +kernel
theorem dX3_takeItems_70 : decode cX3_takeItems 70 = .ok (.iload 6, 2) := by decide +kernel
theorem dX3_takeItems_72 : decode cX3_takeItems 72 = .ok (.iadd, 1) := by decide +kernel
theorem dX3_takeItems_73 : decode cX3_takeItems 73 = .ok (.aload_n 1, 1) := by decide +kernel
theorem dX3_takeItems_74 : decode cX3_takeItems 74 = .ok (.getfield 23, 3) := by decide +kernel
theorem dX3_takeItems_77 : decode cX3_takeItems 77 = .ok (.iload_n 2, 1) := by decide +kernel
theorem dX3_takeItems_78 : decode cX3_takeItems 78 = .ok (.iload 6, 2) := by decide +kernel
theorem dX3_takeItems_80 : decode cX3_takeItems 80 = .ok (.iadd, 1) := by decide +kernel
theorem dX3_takeItems_81 : decode cX3_takeItems 81 = .ok (.baload, 1) := by decide +kernel
theorem dX3_takeItems_82 : decode cX3_takeItems 82 = .ok (.bastore, 1) := by decide +kernel
theorem dX3_takeItems_83 : decode cX3_takeItems 83 = .ok (.iinc 5 1, 3) := by decide +kernel
theorem dX3_takeItems_86 : decode cX3_takeItems 86 = .ok (.goto (-83), 3) := by decide +kernel
theorem dX3_takeItems_89 : decode cX3_takeItems 89 = .ok (.return_, 1) := by decide +kernel
theorem dX3_countNoNumbers_0 : decode cX3_countNoNumbers 0 = .ok (.iconst 0, 1) := by decide +kernel
theorem dX3_countNoNumbers_1 : decode cX3_countNoNumbers 1 = .ok (.istore_n 1, 1) := by decide +kernel
theorem dX3_countNoNumbers_2 : decode cX3_countNoNumbers 2 = .ok (.iconst 0, 1) := by decide +kernel
theorem dX3_countNoNumbers_3 : decode cX3_countNoNumbers 3 = .ok (.istore_n 2, 1) := by decide +kernel
theorem dX3_countNoNumbers_4 : decode cX3_countNoNumbers 4 = .ok (.iload_n 2, 1) := by decide +kernel
theorem dX3_countNoNumbers_5 : decode cX3_countNoNumbers 5 = .ok (.aload_n 0, 1) := by decide +kernel
theorem dX3_countNoNumbers_6 : decode cX3_countNoNumbers 6 = .ok (.getfield 31, 3) := by decide +kernel
theorem dX3_countNoNumbers_9 : decode cX3_countNoNumbers 9 = .ok (.if_icmp .ge 21, 3) := by decide +kernel
theorem dX3_countNoNumbers_12 : decode cX3_countNoNumbers 12 = .ok (.aload_n 0, 1) := by decide +kernel
theorem dX3_countNoNumbers_13 : decode cX3_countNoNumbers 13 = .ok (.getfield 23, 3) := by decide +kernel
theorem dX3_countNoNumbers_16 : decode cX3_countNoNumbers 16 = .ok (.iload_n 2, 1) := by decide +kernel
theorem dX3_countNoNumbers_17 : decode cX3_countNoNumbers 17 = .ok (.baload, 1) := by decide +kernel
theorem dX3_countNoNumbers_18 : decode cX3_countNoNumbers 18 = .ok (.ifCond .eq 6, 3) := by decide +kernel
theorem dX3_countNoNumbers_21 : decode cX3_countNoNumbers 21 = .ok (.iinc 1 1, 3) := by decide +kernel
theorem dX3_countNoNumbers_24 : decode cX3_countNoNumbers 24 = .ok (.iinc 2 1, 3) := by decide +kernel
theorem dX3_countNoNumbers_27 : decode cX3_countNoNumbers 27 = .ok (.goto (-23), 3) := by decide +kernel
theorem dX3_countNoNumbers_30 : decode cX3_countNoNumbers 30 = .ok (.iload_n 1, 1) := by decide +kernel
theorem dX3_countNoNumbers_31 : decode cX3_countNoNumbers 31 = .ok (.ireturn, 1) := by decide +kernel
theorem dX3_countAbove_0 : decode cX3_countAbove 0 = .ok (.iconst 0, 1) := by decide +kernel
theorem dX3_countAbove_1 : decode cX3_countAbove 1 = .ok (.istore_n 3, 1) := by decide +kernel
theorem dX3_countAbove_2 : decode cX3_countAbove 2 = .ok (.iconst 0, 1) := by decide +kernel
theorem dX3_countAbove_3 : decode cX3_countAbove 3 = .ok (.istore 4, 2) := by decide +kernel
theorem dX3_countAbove_5 : decode cX3_countAbove 5 = .ok (.iload 4, 2) := by decide +kernel
theorem dX3_countAbove_7 : decode cX3_countAbove 7 = .ok (.aload_n 0, 1) := by decide +kernel
theorem dX3_countAbove_8 : decode cX3_countAbove 8 = .ok (.getfield 31, 3) := by decide +kernel
theorem dX3_countAbove_11 : decode cX3_countAbove 11 = .ok (.if_icmp .ge 34, 3) := by decide +kernel
theorem dX3_countAbove_14 : decode cX3_countAbove 14 = .ok (.aload_n 0, 1) := by decide +kernel
theorem dX3_countAbove_15 : decode cX3_countAbove 15 = .ok (.getfield 23, 3) := by decide +kernel
theorem dX3_countAbove_18 : decode cX3_countAbove 18 = .ok (.iload 4, 2) := by decide +kernel
theorem dX3_countAbove_20 : decode cX3_countAbove 20 = .ok (.baload, 1) := by decide +kernel
theorem dX3_countAbove_21 : decode cX3_countAbove 21 = .ok (.ifCond .ne 18, 3) := by decide +kernel
theorem dX3_countAbove_24 : decode cX3_countAbove 24 = .ok (.aload_n 0, 1) := by decide +kernel
theorem dX3_countAbove_25 : decode cX3_countAbove 25 = .ok (.getfield 19, 3) := by decide +kernel
theorem dX3_countAbove_28 : decode cX3_countAbove 28 = .ok (.iload 4, 2) := by decide +kernel
theorem dX3_countAbove_30 : decode cX3_countAbove 30 = .ok (.daload, 1) := by decide +kernel
theorem dX3_countAbove_31 : decode cX3_countAbove 31 = .ok (.dload_n 1, 1) := by decide +kernel
theorem dX3_countAbove_32 : decode cX3_countAbove 32 = .ok (.dcmp .l, 1) := by decide +kernel
theorem dX3_countAbove_33 : decode cX3_countAbove 33 = .ok (.ifCond .le 6, 3) := by decide +kernel
theorem dX3_countAbove_36 : decode cX3_countAbove 36 = .ok (.iinc 3 1, 3) := by decide +kernel
theorem dX3_countAbove_39 : decode cX3_countAbove 39 = .ok (.iinc 4 1, 3) := by decide +kernel
theorem dX3_countAbove_42 : decode cX3_countAbove 42 = .ok (.goto (-37), 3) := by decide +kernel
theorem dX3_countAbove_45 : decode cX3_countAbove 45 = .ok (.iload_n 3, 1) := by decide +kernel
theorem dX3_countAbove_46 : decode cX3_countAbove 46 = .ok (.ireturn, 1) := by decide +kernel
theorem dX3_countBelow_0 : decode cX3_countBelow 0 = .ok (.iconst 0, 1) := by decide +kernel
theorem dX3_countBelow_1 : decode cX3_countBelow 1 = .ok (.istore_n 3, 1) := by decide +kernel
theorem dX3_countBelow_2 : decode cX3_countBelow 2 = .ok (.iconst 0, 1) := by decide +kernel
theorem dX3_countBelow_3 : decode cX3_countBelow 3 = .ok (.istore 4, 2) := by decide +kernel
theorem dX3_countBelow_5 : decode cX3_countBelow 5 = .ok (.iload 4, 2) := by decide +kernel
theorem dX3_countBelow_7 : decode cX3_countBelow 7 = .ok (.aload_n 0, 1) := by decide +kernel
theorem dX3_countBelow_8 : decode cX3_countBelow 8 = .ok (.getfield 31, 3) := by decide +kernel
theorem dX3_countBelow_11 : decode cX3_countBelow 11 = .ok (.if_icmp .ge 34, 3) := by decide +kernel
theorem dX3_countBelow_14 : decode cX3_countBelow 14 = .ok (.aload_n 0, 1) := by decide +kernel
theorem dX3_countBelow_15 : decode cX3_countBelow 15 = .ok (.getfield 23, 3) := by decide +kernel
theorem dX3_countBelow_18 : decode cX3_countBelow 18 = .ok (.iload 4, 2) := by decide +kernel
theorem dX3_countBelow_20 : decode cX3_countBelow 20 = .ok (.baload, 1) := by decide +kernel
theorem dX3_countBelow_21 : decode cX3_countBelow 21 = .ok (.ifCond .ne 18, 3) := by decide +kernel
theorem dX3_countBelow_24 : decode cX3_countBelow 24 = .ok (.aload_n 0, 1) := by decide +kernel
theorem dX3_countBelow_25 : decode cX3_countBelow 25 = .ok (.getfield 19, 3) := by decide +kernel
theorem dX3_countBelow_28 : decode cX3_countBelow 28 = .ok (.iload 4, 2) := by decide +kernel
theorem dX3_countBelow_30 : decode cX3_countBelow 30 = .ok (.daload, 1) := by decide +kernel
theorem dX3_countBelow_31 : decode cX3_countBelow 31 = .ok (.dload_n 1, 1) := by decide +kernel
theorem dX3_countBelow_32 : decode cX3_countBelow 32 = .ok (.dcmp .g, 1) := by decide +kernel
theorem dX3_countBelow_33 : decode cX3_countBelow 33 = .ok (.ifCond .ge 6, 3) := by decide +kernel
theorem dX3_countBelow_36 : decode cX3_countBelow 36 = .ok (.iinc 3 1, 3) := by decide +kernel
theorem dX3_countBelow_39 : decode cX3_countBelow 39 = .ok (.iinc 4 1, 3) := by decide +kernel
theorem dX3_countBelow_42 : decode cX3_countBelow 42 = .ok (.goto (-37), 3) := by decide +kernel
theorem dX3_countBelow_45 : decode cX3_countBelow 45 = .ok (.iload_n 3, 1) := by decide +kernel
theorem dX3_countBelow_46 : decode cX3_countBelow 46 = .ok (.ireturn, 1) := by decide +kernel
set_option maxRecDepth 20000 in
theorem ggX4_init_X1_init : GoodIn wsX4_init wsX1_init := goodIn_r _ [10, 11, 2, 3, 12, 13, 14, 15, 16, 17, 18, 19, 20, 21, 22, 23, 24, 25, 26, 27, 28, 29, 30, 31, 37, 38] (by decide +kernel) (by decide +kernel)
set_option maxRecDepth 20000 in
theorem gX4_init_X1_init : GoodIn wsX4_init (wsX1_init) := ggX4_init_X1_init
theorem dX4_init_0 : decode cX4_init 0 = .ok (.aload_n 0, 1) := by decide +kernel
theorem dX4_init_1 : decode cX4_init 1 = .ok (.invokespecial 3, 3) := by decide +kernel
theorem dX4_init_4 : decode cX4_init 4 = .ok (.aload_n 0, 1) := by decide +kernel
theorem dX4_init_5 : decode cX4_init 5 = .ok (.new 9, 3) := by decide +kernel
theorem dX4_init_8 : decode cX4_init 8 = .ok (.dup, 1) := by decide +kernel
theorem dX4_init_9 : decode cX4_init 9 = .ok (.invokespecial 11, 3) := by decide +kernel
theorem dX4_init_12 : decode cX4_init 12 = .ok (.putfield 12, 3) := by decide +kernel
theorem dX4_init_15 : decode cX4_init 15 = .ok (.return_, 1) := by decide +kernel
theorem dX4_begin_0 : decode cX4_begin 0 = .ok (.aload_n 0, 1) := by decide +kernel
theorem dX4_begin_1 : decode cX4_begin 1 = .ok (.iload_n 1, 1) := by decide +kernel
theorem dX4_begin_2 : decode cX4_begin 2 = .ok (.putfield 18, 3) := by decide +kernel
theorem dX4_begin_5 : decode cX4_begin 5 = .ok (.aload_n 0, 1) := by decide +kernel
theorem dX4_begin_6 : decode cX4_begin 6 = .ok (.iload_n 2, 1) := by decide +kernel
theorem dX4_begin_7 : decode cX4_begin 7 = .ok (.putfield 22, 3) := by decide +kernel
theorem dX4_begin_10 : decode cX4_begin 10 = .ok (.aload_n 0, 1) := by decide +kernel
theorem dX4_begin_11 : decode cX4_begin 11 = .ok (.iconst (-1), 1) := by decide +kernel
theorem dX4_begin_12 : decode cX4_begin 12 = .ok (.putfield 25, 3) := by decide +kernel
theorem dX4_begin_15 : decode cX4_begin 15 = .ok (.aload_n 0, 1) := by decide +kernel
theorem dX4_begin_16 : decode cX4_begin 16 = .ok (.iconst (-1), 1) := by decide +kernel
theorem dX4_begin_17 : decode cX4_begin 17 = .ok (.putfield 28, 3) := by decide +kernel
theorem dX4_begin_20 : decode cX4_begin 20 = .ok (.return_, 1) := by decide +kernel
theorem dX4_keepsWishes_0 : decode cX4_keepsWishes 0 = .ok (.aload_n 0, 1) := by decide +kernel
theorem dX4_keepsWishes_1 : decode cX4_keepsWishes 1 = .ok (.getfield 25, 3) := by decide +kernel
theorem dX4_keepsWishes_4 : decode cX4_keepsWishes 4 = .ok (.iconst (-1), 1) := by decide +kernel
theorem dX4_keepsWishes_5 : decode cX4_keepsWishes 5 = .ok (.if_icmp .eq 14, 3) := by decide +kernel
theorem dX4_keepsWishes_8 : decode cX4_keepsWishes 8 = .ok (.aload_n 1, 1) := by decide +kernel
theorem dX4_keepsWishes_9 : decode cX4_keepsWishes 9 = .ok (.getfield 31, 3) := by decide +kernel
theorem dX4_keepsWishes_12 : decode cX4_keepsWishes 12 = .ok (.aload_n 0, 1) := by decide +kernel
theorem dX4_keepsWishes_13 : decode cX4_keepsWishes 13 = .ok (.getfield 25, 3) := by decide +kernel
theorem dX4_keepsWishes_16 : decode cX4_keepsWishes 16 = .ok (.if_icmp .gt 26, 3) := by decide +kernel
theorem dX4_keepsWishes_19 : decode cX4_keepsWishes 19 = .ok (.aload_n 0, 1) := by decide +kernel
theorem dX4_keepsWishes_20 : decode cX4_keepsWishes 20 = .ok (.getfield 28, 3) := by decide +kernel
theorem dX4_keepsWishes_23 : decode cX4_keepsWishes 23 = .ok (.iconst (-1), 1) := by decide +kernel
theorem dX4_keepsWishes_24 : decode cX4_keepsWishes 24 = .ok (.if_icmp .eq 14, 3) := by decide +kernel
theorem dX4_keepsWishes_27 : decode cX4_keepsWishes 27 = .ok (.aload_n 1, 1) := by decide +kernel
theorem dX4_keepsWishes_28 : decode cX4_keepsWishes 28 = .ok (.getfield 34, 3) := by decide +kernel
theorem dX4_keepsWishes_31 : decode cX4_keepsWishes 31 = .ok (.aload_n 0, 1) := by decide +kernel
theorem dX4_keepsWishes_32 : decode cX4_keepsWishes 32 = .ok (.getfield 28, 3) := by decide +kernel
theorem dX4_keepsWishes_35 : decode cX4_keepsWishes 35 = .ok (.if_icmp .gt 7, 3) := by decide +kernel
theorem dX4_keepsWishes_38 : decode cX4_keepsWishes 38 = .ok (.iconst 1, 1) := by decide +kernel
theorem dX4_keepsWishes_39 : decode cX4_keepsWishes 39 = .ok (.goto 4, 3) := by decide +kernel
theorem dX4_keepsWishes_42 : decode cX4_keepsWishes 42 = .ok (.iconst 0, 1) := by decide +kernel
theorem dX4_keepsWishes_43 : decode cX4_keepsWishes 43 = .ok (.ireturn, 1) := by decide +kernel
set_option maxRecDepth 20000 in
theorem ggX5_init_X4_init : GoodIn wsX5_init wsX4_init := goodIn_r _ [29, 30, 2, 3, 31, 24, 25, 32, 33, 34, 35, 36, 4, 37, 38, 39, 40, 41, 42, 43, 44, 45, 46, 47, 107, 108, 109, 110, 111, 112, 113, 114, 86, 87, 88, 89, 90, 115, 116] (by decide +kernel) (by decide +kernel)
set_option maxRecDepth 20000 in
theorem gX5_init_X4_init : GoodIn wsX5_init (wsX4_init) := ggX5_init_X4_init
set_option maxRecDepth 20000 in
theorem ggX5_init_X3_init : GoodIn wsX5_init wsX3_init := goodIn_r _ [50, 51, 2, 3, 52, 53, 54, 55, 56, 57, 58, 91, 92, 93, 94, 95, 96] (by decide +kernel) (by decide +kernel)
set_option maxRecDepth 20000 in
theorem gX5_init_X3_init : GoodIn wsX5_init (wsX3_init) := ggX5_init_X3_init
set_option maxRecDepth 20000 in
theorem ggX5_init_X0_init : GoodIn wsX5_init wsX0_init := goodIn_r _ [61, 62, 2, 3, 4, 63, 64, 65, 66, 67, 68, 69, 97, 98, 99, 100, 101, 102, 103, 104, 105, 106] (by decide +kernel) (by decide +kernel)
set_option maxRecDepth 20000 in
theorem gX5_init_X0_init : GoodIn wsX5_init (wsX0_init) := ggX5_init_X0_init
set_option maxRecDepth 20000 in
theorem ggX5_init_X1_init : GoodIn wsX5_init wsX1_init := goodIn_r _ [35, 36, 2, 3, 4, 37, 38, 39, 40, 41, 42, 43, 44, 45, 46, 47, 107, 108, 109, 110, 111, 112, 113, 114, 115, 116] (by decide +kernel) (by decide +kernel)
set_option maxRecDepth 20000 in
theorem gX5_init_X1_init : GoodIn wsX5_init (wsX1_init) := ggX5_init_X1_init
theorem dX5_init_0 : decode cX5_init 0 = .ok (.aload_n 0, 1) := by decide +kernel
theorem dX5_init_1 : decode cX5_init 1 = .ok (.invokespecial 1, 3) := by decide +kernel
theorem dX5_init_4 : decode cX5_init 4 = .ok (.aload_n 0, 1) := by decide +kernel
theorem dX5_init_5 : decode cX5_init 5 = .ok (.bipush 40, 2) := by decide +kernel
theorem dX5_init_7 : decode cX5_init 7 = .ok (.newarray .int, 2) := by decide +kernel
theorem dX5_init_9 : decode cX5_init 9 = .ok (.putfield 9, 3) := by decide +kernel
theorem dX5_init_12 : decode cX5_init 12 = .ok (.aload_n 0, 1) := by decide +kernel
theorem dX5_init_13 : decode cX5_init 13 = .ok (.bipush 10, 2) := by decide +kernel
theorem dX5_init_15 : decode cX5_init 15 = .ok (.putfield 13, 3) := by decide +kernel
theorem dX5_init_18 : decode cX5_init 18 = .ok (.aload_n 0, 1) := by decide +kernel
theorem dX5_init_19 : decode cX5_init 19 = .ok (.iconst 4, 1) := by decide +kernel
theorem dX5_init_20 : decode cX5_init 20 = .ok (.putfield 17, 3) := by decide +kernel
theorem dX5_init_23 : decode cX5_init 23 = .ok (.aload_n 0, 1) := by decide +kernel
theorem dX5_init_24 : decode cX5_init 24 = .ok (.iconst (-1), 1) := by decide +kernel
theorem dX5_init_25 : decode cX5_init 25 = .ok (.putfield 20, 3) := by decide +kernel
theorem dX5_init_28 : decode cX5_init 28 = .ok (.aload_n 0, 1) := by decide +kernel
theorem dX5_init_29 : decode cX5_init 29 = .ok (.iconst 5, 1) := by decide +kernel
theorem dX5_init_30 : decode cX5_init 30 = .ok (.anewarray 23, 3) := by decide +kernel
theorem dX5_init_33 : decode cX5_init 33 = .ok (.putfield 25, 3) := by decide +kernel
theorem dX5_init_36 : decode cX5_init 36 = .ok (.iconst 0, 1) := by decide +kernel
theorem dX5_init_37 : decode cX5_init 37 = .ok (.istore_n 1, 1) := by decide +kernel
theorem dX5_init_38 : decode cX5_init 38 = .ok (.iload_n 1, 1) := by decide +kernel
theorem dX5_init_39 : decode cX5_init 39 = .ok (.iconst 5, 1) := by decide +kernel
theorem dX5_init_40 : decode cX5_init 40 = .ok (.if_icmp .ge 22, 3) := by decide +kernel
theorem dX5_init_43 : decode cX5_init 43 = .ok (.aload_n 0, 1) := by decide +kernel
theorem dX5_init_44 : decode cX5_init 44 = .ok (.getfield 25, 3) := by decide +kernel
theorem dX5_init_47 : decode cX5_init 47 = .ok (.iload_n 1, 1) := by decide +kernel
theorem dX5_init_48 : decode cX5_init 48 = .ok (.new 23, 3) := by decide +kernel
theorem dX5_init_51 : decode cX5_init 51 = .ok (.dup, 1) := by decide +kernel
theorem dX5_init_52 : decode cX5_init 52 = .ok (.invokespecial 29, 3) := by decide +kernel
theorem dX5_init_55 : decode cX5_init 55 = .ok (.aastore, 1) := by decide +kernel
theorem dX5_init_56 : decode cX5_init 56 = .ok (.iinc 1 1, 3) := by decide +kernel
theorem dX5_init_59 : decode cX5_init 59 = .ok (.goto (-21), 3) := by decide +kernel
theorem dX5_init_62 : decode cX5_init 62 = .ok (.aload_n 0, 1) := by decide +kernel
theorem dX5_init_63 : decode cX5_init 63 = .ok (.iconst 4, 1) := by decide +kernel
theorem dX5_init_64 : decode cX5_init 64 = .ok (.anewarray 30, 3) := by decide +kernel
theorem dX5_init_67 : decode cX5_init 67 = .ok (.putfield 32, 3) := by decide +kernel
theorem dX5_init_70 : decode cX5_init 70 = .ok (.iconst 0, 1) := by decide +kernel
theorem dX5_init_71 : decode cX5_init 71 = .ok (.istore_n 1, 1) := by decide +kernel
theorem dX5_init_72 : decode cX5_init 72 = .ok (.iload_n 1, 1) := by decide +kernel
theorem dX5_init_73 : decode cX5_init 73 = .ok (.iconst 4, 1) := by decide +kernel
theorem dX5_init_74 : decode cX5_init 74 = .ok (.if_icmp .ge 22, 3) := by decide +kernel
theorem dX5_init_77 : decode cX5_init 77 = .ok (.aload_n 0, 1) := by decide +kernel
theorem dX5_init_78 : decode cX5_init 78 = .ok (.getfield 32, 3) := by decide +kernel
theorem dX5_init_81 : decode cX5_init 81 = .ok (.iload_n 1, 1) := by decide +kernel
theorem dX5_init_82 : decode cX5_init 82 = .ok (.new 30, 3) := by decide +kernel
theorem dX5_init_85 : decode cX5_init 85 = .ok (.dup, 1) := by decide +kernel
theorem dX5_init_86 : decode cX5_init 86 = .ok (.invokespecial 36, 3) := by decide +kernel
theorem dX5_init_89 : decode cX5_init 89 = .ok (.aastore, 1) := by decide +kernel
theorem dX5_init_90 : decode cX5_init 90 = .ok (.iinc 1 1, 3) := by decide +kernel
theorem dX5_init_93 : decode cX5_init 93 = .ok (.goto (-21), 3) := by decide +kernel
theorem dX5_init_96 : decode cX5_init 96 = .ok (.aload_n 0, 1) := by decide +kernel
theorem dX5_init_97 : decode cX5_init 97 = .ok (.new 37, 3) := by decide +kernel
theorem dX5_init_100 : decode cX5_init 100 = .ok (.dup, 1) := by decide +kernel
theorem dX5_init_101 : decode cX5_init 101 = .ok (.invokespecial 39, 3) := by decide +kernel
theorem dX5_init_104 : decode cX5_init 104 = .ok (.putfield 40, 3) := by decide +kernel
theorem dX5_init_107 : decode cX5_init 107 = .ok (.aload_n 0, 1) := by decide +kernel
theorem dX5_init_108 : decode cX5_init 108 = .ok (.bipush 51, 2) := by decide +kernel
theorem dX5_init_110 : decode cX5_init 110 = .ok (.newarray .int, 2) := by decide +kernel
theorem dX5_init_112 : decode cX5_init 112 = .ok (.putfield 44, 3) := by decide +kernel
theorem dX5_init_115 : decode cX5_init 115 = .ok (.aload_n 0, 1) := by decide +kernel
theorem dX5_init_116 : decode cX5_init 116 = .ok (.new 37, 3) := by decide +kernel
theorem dX5_init_119 : decode cX5_init 119 = .ok (.dup, 1) := by decide +kernel
theorem dX5_init_120 : decode cX5_init 120 = .ok (.invokespecial 39, 3) := by decide +kernel
theorem dX5_init_123 : decode cX5_init 123 = .ok (.putfield 47, 3) := by decide +kernel
theorem dX5_init_126 : decode cX5_init 126 = .ok (.aload_n 0, 1) := by decide +kernel
theorem dX5_init_127 : decode cX5_init 127 = .ok (.new 50, 3) := by decide +kernel
theorem dX5_init_130 : decode cX5_init 130 = .ok (.dup, 1) := by decide +kernel
theorem dX5_init_131 : decode cX5_init 131 = .ok (.invokespecial 52, 3) := by decide +kernel
theorem dX5_init_134 : decode cX5_init 134 = .ok (.putfield 53, 3) := by decide +kernel
theorem dX5_init_137 : decode cX5_init 137 = .ok (.return_, 1) := by decide +kernel
set_option maxRecDepth 20000 in
theorem ggX5_beat_X5_isDelay : GoodIn wsX5_beat wsX5_isDelay := goodIn_r _ [5, 6, 7, 8, 4, 9] (by decide +kernel) (by decide +kernel)
set_option maxRecDepth 20000 in
theorem gX5_beat_X5_isDelay : GoodIn wsX5_beat (va_wsS RX5 57 yX5_isDelay wsX5_isDelay) := goodIn_app (goodIn_of _ (by decide +kernel)) ggX5_beat_X5_isDelay
set_option maxRecDepth 20000 in
theorem ggX5_beat_X5_addBeat : GoodIn wsX5_beat wsX5_addBeat := goodIn_r _ [13, 14, 1, 15, 16, 17, 4, 18, 19, 20, 21, 22, 23, 24, 25, 26, 27, 28, 29, 30, 31, 32, 33, 34, 35] (by decide +kernel) (by decide +kernel)
set_option maxRecDepth 20000 in
theorem gX5_beat_X5_addBeat : GoodIn wsX5_beat (wsV RX5 64 RX5 yX5_addBeat wsX5_addBeat) := goodIn_app (goodIn_of _ (by decide +kernel)) ggX5_beat_X5_addBeat
theorem dX5_beat_0 : decode cX5_beat 0 = .ok (.iload_n 1, 1) := by decide +kernel
theorem dX5_beat_1 : decode cX5_beat 1 = .ok (.i2l, 1) := by decide +kernel
theorem dX5_beat_2 : decode cX5_beat 2 = .ok (.invokestatic 57, 3) := by decide +kernel
theorem dX5_beat_5 : decode cX5_beat 5 = .ok (.ifCond .ne 6, 3) := by decide +kernel
theorem dX5_beat_8 : decode cX5_beat 8 = .ok (.bipush (-2), 2) := by decide +kernel
theorem dX5_beat_10 : decode cX5_beat 10 = .ok (.ireturn, 1) := by decide +kernel
theorem dX5_beat_11 : decode cX5_beat 11 = .ok (.aload_n 0, 1) := by decide +kernel
theorem dX5_beat_12 : decode cX5_beat 12 = .ok (.getfield 61, 3) := by decide +kernel
theorem dX5_beat_15 : decode cX5_beat 15 = .ok (.bipush 40, 2) := by decide +kernel
theorem dX5_beat_17 : decode cX5_beat 17 = .ok (.if_icmp .lt 6, 3) := by decide +kernel
theorem dX5_beat_20 : decode cX5_beat 20 = .ok (.bipush (-4), 2) := by decide +kernel
theorem dX5_beat_22 : decode cX5_beat 22 = .ok (.ireturn, 1) := by decide +kernel
theorem dX5_beat_23 : decode cX5_beat 23 = .ok (.aload_n 0, 1) := by decide +kernel
theorem dX5_beat_24 : decode cX5_beat 24 = .ok (.iload_n 1, 1) := by decide +kernel
theorem dX5_beat_25 : decode cX5_beat 25 = .ok (.invokevirtual 64, 3) := by decide +kernel
theorem dX5_beat_28 : decode cX5_beat 28 = .ok (.aload_n 0, 1) := by decide +kernel
theorem dX5_beat_29 : decode cX5_beat 29 = .ok (.getfield 61, 3) := by decide +kernel
theorem dX5_beat_32 : decode cX5_beat 32 = .ok (.ireturn, 1) := by decide +kernel
set_option maxRecDepth 20000 in
theorem ggX5_beats_X5_isWithin : GoodIn wsX5_beats wsX5_isWithin := goodIn_r _ [9] (by decide +kernel) (by decide +kernel)
set_option maxRecDepth 20000 in
theorem gX5_beats_X5_isWithin : GoodIn wsX5_beats (va_wsS RX5 68 yX5_isWithin wsX5_isWithin) := goodIn_app (goodIn_of _ (by decide +kernel)) ggX5_beats_X5_isWithin
set_option maxRecDepth 20000 in
theorem ggX5_beats_X5_addBeat : GoodIn wsX5_beats wsX5_addBeat := goodIn_r _ [13, 14, 1, 15, 16, 17, 8, 18, 19, 20, 25, 26, 27, 28, 29, 30, 31, 32, 33, 34, 35, 36, 37, 38, 39] (by decide +kernel) (by decide +kernel)
set_option maxRecDepth 20000 in
theorem gX5_beats_X5_addBeat : GoodIn wsX5_beats (wsV RX5 64 RX5 yX5_addBeat wsX5_addBeat) := goodIn_app (goodIn_of _ (by decide +kernel)) ggX5_beats_X5_addBeat
set_option maxRecDepth 20000 in
theorem ggX5_beats_J9_floorMod_7cf53 : GoodIn wsX5_beats wsJ9_floorMod_7cf53 := goodIn_r _ [24] (by decide +kernel) (by decide +kernel)
set_option maxRecDepth 20000 in
theorem gX5_beats_J9_floorMod_7cf53 : GoodIn wsX5_beats (va_wsS RX5 78 yJ9_floorMod_7cf53 wsJ9_floorMod_7cf53) := goodIn_app (goodIn_of _ (by decide +kernel)) ggX5_beats_J9_floorMod_7cf53
theorem dX5_beats_0 : decode cX5_beats 0 = .ok (.iload_n 1, 1) := by decide +kernel
theorem dX5_beats_1 : decode cX5_beats 1 = .ok (.i2l, 1) := by decide +kernel
theorem dX5_beats_2 : decode cX5_beats 2 = .ok (.iconst 0, 1) := by decide +kernel
theorem dX5_beats_3 : decode cX5_beats 3 = .ok (.bipush 99, 2) := by decide +kernel
theorem dX5_beats_5 : decode cX5_beats 5 = .ok (.invokestatic 68, 3) := by decide +kernel
theorem dX5_beats_8 : decode cX5_beats 8 = .ok (.ifCond .eq 26, 3) := by decide +kernel
theorem dX5_beats_11 : decode cX5_beats 11 = .ok (.iload_n 2, 1) := by decide +kernel
theorem dX5_beats_12 : decode cX5_beats 12 = .ok (.i2l, 1) := by decide +kernel
theorem dX5_beats_13 : decode cX5_beats 13 = .ok (.bipush (-99), 2) := by decide +kernel
theorem dX5_beats_15 : decode cX5_beats 15 = .ok (.bipush 99, 2) := by decide +kernel
theorem dX5_beats_17 : decode cX5_beats 17 = .ok (.invokestatic 68, 3) := by decide +kernel
theorem dX5_beats_20 : decode cX5_beats 20 = .ok (.ifCond .eq 14, 3) := by decide +kernel
theorem dX5_beats_23 : decode cX5_beats 23 = .ok (.iload_n 3, 1) := by decide +kernel
theorem dX5_beats_24 : decode cX5_beats 24 = .ok (.i2l, 1) := by decide +kernel
theorem dX5_beats_25 : decode cX5_beats 25 = .ok (.iconst 1, 1) := by decide +kernel
theorem dX5_beats_26 : decode cX5_beats 26 = .ok (.bipush 40, 2) := by decide +kernel
theorem dX5_beats_28 : decode cX5_beats 28 = .ok (.invokestatic 68, 3) := by decide +kernel
theorem dX5_beats_31 : decode cX5_beats 31 = .ok (.ifCond .ne 6, 3) := by decide +kernel
theorem dX5_beats_34 : decode cX5_beats 34 = .ok (.bipush (-2), 2) := by decide +kernel
theorem dX5_beats_36 : decode cX5_beats 36 = .ok (.ireturn, 1) := by decide +kernel
theorem dX5_beats_37 : decode cX5_beats 37 = .ok (.iload_n 3, 1) := by decide +kernel
theorem dX5_beats_38 : decode cX5_beats 38 = .ok (.bipush 40, 2) := by decide +kernel
theorem dX5_beats_40 : decode cX5_beats 40 = .ok (.aload_n 0, 1) := by decide +kernel
theorem dX5_beats_41 : decode cX5_beats 41 = .ok (.getfield 61, 3) := by decide +kernel
theorem dX5_beats_44 : decode cX5_beats 44 = .ok (.isub, 1) := by decide +kernel
theorem dX5_beats_45 : decode cX5_beats 45 = .ok (.invokestatic 72, 3) := by decide +kernel
theorem dX5_beats_48 : decode cX5_beats 48 = .ok (.istore 4, 2) := by decide +kernel
theorem dX5_beats_50 : decode cX5_beats 50 = .ok (.iload_n 1, 1) := by decide +kernel
theorem dX5_beats_51 : decode cX5_beats 51 = .ok (.istore 5, 2) := by decide +kernel
theorem dX5_beats_53 : decode cX5_beats 53 = .ok (.iconst 0, 1) := by decide +kernel
theorem dX5_beats_54 : decode cX5_beats 54 = .ok (.istore 6, 2) := by decide +kernel
theorem dX5_beats_56 : decode cX5_beats 56 = .ok (.iload 6, 2) := by decide +kernel
theorem dX5_beats_58 : decode cX5_beats 58 = .ok (.iload 4, 2) := by decide +kernel
theorem dX5_beats_60 : decode cX5_beats 60 = .ok (.if_icmp .ge 26, 3) := by decide +kernel
theorem dX5_beats_63 : decode cX5_beats 63 = .ok (.aload_n 0, 1) := by decide +kernel
theorem dX5_beats_64 : decode cX5_beats 64 = .ok (.iload 5, 2) := by decide +kernel
theorem dX5_beats_66 : decode cX5_beats 66 = .ok (.invokevirtual 64, 3) := by decide +kernel
theorem dX5_beats_69 : decode cX5_beats 69 = .ok (.iload 5, 2) := by decide +kernel
theorem dX5_beats_71 : decode cX5_beats 71 = .ok (.iload_n 2, 1) := by decide +kernel
theorem dX5_beats_72 : decode cX5_beats 72 = .ok (.iadd, 1) := by decide +kernel
theorem dX5_beats_73 : decode cX5_beats 73 = .ok (.bipush 100, 2) := by decide +kernel
theorem dX5_beats_75 : decode cX5_beats 75 = .ok (.invokestatic 78, 3) := by decide +kernel
theorem dX5_beats_78 : decode cX5_beats 78 = .ok (.istore 5, 2) := by decide +kernel
theorem dX5_beats_80 : decode cX5_beats 80 = .ok (.iinc 6 1, 3) := by decide +kernel
theorem dX5_beats_83 : decode cX5_beats 83 = .ok (.goto (-27), 3) := by decide +kernel
theorem dX5_beats_86 : decode cX5_beats 86 = .ok (.iload 4, 2) := by decide +kernel
theorem dX5_beats_88 : decode cX5_beats 88 = .ok (.ireturn, 1) := by decide +kernel
set_option maxRecDepth 20000 in
theorem ggX5_delay_X5_isWithin : GoodIn wsX5_delay wsX5_isWithin := goodIn_r _ [6] (by decide +kernel) (by decide +kernel)
set_option maxRecDepth 20000 in
theorem gX5_delay_X5_isWithin : GoodIn wsX5_delay (va_wsS RX5 68 yX5_isWithin wsX5_isWithin) := goodIn_app (goodIn_of _ (by decide +kernel)) ggX5_delay_X5_isWithin
set_option maxRecDepth 20000 in
theorem ggX5_delay_X5_isDelay : GoodIn wsX5_delay wsX5_isDelay := goodIn_r _ [9, 10, 3, 4, 5, 6] (by decide +kernel) (by decide +kernel)
set_option maxRecDepth 20000 in
theorem gX5_delay_X5_isDelay : GoodIn wsX5_delay (va_wsS RX5 57 yX5_isDelay wsX5_isDelay) := goodIn_app (goodIn_of _ (by decide +kernel)) ggX5_delay_X5_isDelay
set_option maxRecDepth 20000 in
theorem ggX5_delay_X5_forgetWhatFollowed : GoodIn wsX5_delay wsX5_forgetWhatFollowed := goodIn_r _ [14, 15, 16, 17, 18, 19, 20, 21, 22, 23, 24, 25, 26, 27, 28, 29, 30, 31] (by decide +kernel) (by decide +kernel)
set_option maxRecDepth 20000 in
theorem gX5_delay_X5_forgetWhatFollowed : GoodIn wsX5_delay (wsV RX5 81 RX5 yX5_forgetWhatFollowed wsX5_forgetWhatFollowed) := goodIn_app (goodIn_of _ (by decide +kernel)) ggX5_delay_X5_forgetWhatFollowed
theorem dX5_delay_0 : decode cX5_delay 0 = .ok (.iload_n 1, 1) := by decide +kernel
theorem dX5_delay_1 : decode cX5_delay 1 = .ok (.i2l, 1) := by decide +kernel
theorem dX5_delay_2 : decode cX5_delay 2 = .ok (.iconst 0, 1) := by decide +kernel
theorem dX5_delay_3 : decode cX5_delay 3 = .ok (.aload_n 0, 1) := by decide +kernel
theorem dX5_delay_4 : decode cX5_delay 4 = .ok (.getfield 61, 3) := by decide +kernel
theorem dX5_delay_7 : decode cX5_delay 7 = .ok (.iconst 1, 1) := by decide +kernel
theorem dX5_delay_8 : decode cX5_delay 8 = .ok (.isub, 1) := by decide +kernel
theorem dX5_delay_9 : decode cX5_delay 9 = .ok (.invokestatic 68, 3) := by decide +kernel
theorem dX5_delay_12 : decode cX5_delay 12 = .ok (.ifCond .eq 11, 3) := by decide +kernel
theorem dX5_delay_15 : decode cX5_delay 15 = .ok (.iload_n 2, 1) := by decide +kernel
theorem dX5_delay_16 : decode cX5_delay 16 = .ok (.i2l, 1) := by decide +kernel
theorem dX5_delay_17 : decode cX5_delay 17 = .ok (.invokestatic 57, 3) := by decide +kernel
theorem dX5_delay_20 : decode cX5_delay 20 = .ok (.ifCond .ne 6, 3) := by decide +kernel
theorem dX5_delay_23 : decode cX5_delay 23 = .ok (.bipush (-2), 2) := by decide +kernel
theorem dX5_delay_25 : decode cX5_delay 25 = .ok (.ireturn, 1) := by decide +kernel
theorem dX5_delay_26 : decode cX5_delay 26 = .ok (.aload_n 0, 1) := by decide +kernel
theorem dX5_delay_27 : decode cX5_delay 27 = .ok (.getfield 9, 3) := by decide +kernel
theorem dX5_delay_30 : decode cX5_delay 30 = .ok (.iload_n 1, 1) := by decide +kernel
theorem dX5_delay_31 : decode cX5_delay 31 = .ok (.iaload, 1) := by decide +kernel
theorem dX5_delay_32 : decode cX5_delay 32 = .ok (.istore_n 3, 1) := by decide +kernel
theorem dX5_delay_33 : decode cX5_delay 33 = .ok (.aload_n 0, 1) := by decide +kernel
theorem dX5_delay_34 : decode cX5_delay 34 = .ok (.getfield 9, 3) := by decide +kernel
theorem dX5_delay_37 : decode cX5_delay 37 = .ok (.iload_n 1, 1) := by decide +kernel
theorem dX5_delay_38 : decode cX5_delay 38 = .ok (.iload_n 2, 1) := by decide +kernel
theorem dX5_delay_39 : decode cX5_delay 39 = .ok (.iastore, 1) := by decide +kernel
theorem dX5_delay_40 : decode cX5_delay 40 = .ok (.aload_n 0, 1) := by decide +kernel
theorem dX5_delay_41 : decode cX5_delay 41 = .ok (.invokevirtual 81, 3) := by decide +kernel
theorem dX5_delay_44 : decode cX5_delay 44 = .ok (.iload_n 3, 1) := by decide +kernel
theorem dX5_delay_45 : decode cX5_delay 45 = .ok (.ireturn, 1) := by decide +kernel
set_option maxRecDepth 20000 in
theorem ggX5_back_X5_forgetWhatFollowed : GoodIn wsX5_back wsX5_forgetWhatFollowed := goodIn_r _ [6, 7, 8, 9, 10, 11, 12, 13, 14, 15, 16, 17, 18, 19, 20, 21, 22, 23] (by decide +kernel) (by decide +kernel)
set_option maxRecDepth 20000 in
theorem gX5_back_X5_forgetWhatFollowed : GoodIn wsX5_back (wsV RX5 81 RX5 yX5_forgetWhatFollowed wsX5_forgetWhatFollowed) := goodIn_app (goodIn_of _ (by decide +kernel)) ggX5_back_X5_forgetWhatFollowed
theorem dX5_back_0 : decode cX5_back 0 = .ok (.aload_n 0, 1) := by decide +kernel
theorem dX5_back_1 : decode cX5_back 1 = .ok (.getfield 61, 3) := by decide +kernel
theorem dX5_back_4 : decode cX5_back 4 = .ok (.ifCond .ne 6, 3) := by decide +kernel
theorem dX5_back_7 : decode cX5_back 7 = .ok (.bipush (-3), 2) := by decide +kernel
theorem dX5_back_9 : decode cX5_back 9 = .ok (.ireturn, 1) := by decide +kernel
theorem dX5_back_10 : decode cX5_back 10 = .ok (.aload_n 0, 1) := by decide +kernel
theorem dX5_back_11 : decode cX5_back 11 = .ok (.dup, 1) := by decide +kernel
theorem dX5_back_12 : decode cX5_back 12 = .ok (.getfield 61, 3) := by decide +kernel
theorem dX5_back_15 : decode cX5_back 15 = .ok (.iconst 1, 1) := by decide +kernel
theorem dX5_back_16 : decode cX5_back 16 = .ok (.isub, 1) := by decide +kernel
theorem dX5_back_17 : decode cX5_back 17 = .ok (.putfield 61, 3) := by decide +kernel
theorem dX5_back_20 : decode cX5_back 20 = .ok (.aload_n 0, 1) := by decide +kernel
theorem dX5_back_21 : decode cX5_back 21 = .ok (.invokevirtual 81, 3) := by decide +kernel
theorem dX5_back_24 : decode cX5_back 24 = .ok (.aload_n 0, 1) := by decide +kernel
theorem dX5_back_25 : decode cX5_back 25 = .ok (.getfield 61, 3) := by decide +kernel
theorem dX5_back_28 : decode cX5_back 28 = .ok (.ireturn, 1) := by decide +kernel
set_option maxRecDepth 20000 in
theorem ggX5_set_X5_isWithin : GoodIn wsX5_set wsX5_isWithin := goodIn_r _ [6] (by decide +kernel) (by decide +kernel)
set_option maxRecDepth 20000 in
theorem gX5_set_X5_isWithin : GoodIn wsX5_set (va_wsS RX5 68 yX5_isWithin wsX5_isWithin) := goodIn_app (goodIn_of _ (by decide +kernel)) ggX5_set_X5_isWithin
set_option maxRecDepth 20000 in
theorem ggX5_set_X5_forgetWhatFollowed : GoodIn wsX5_set wsX5_forgetWhatFollowed := goodIn_r _ [10, 11, 12, 13, 14, 15, 16, 17, 18, 19, 20, 21, 22, 23, 24, 25, 26, 27] (by decide +kernel) (by decide +kernel)
set_option maxRecDepth 20000 in
theorem gX5_set_X5_forgetWhatFollowed : GoodIn wsX5_set (wsV RX5 81 RX5 yX5_forgetWhatFollowed wsX5_forgetWhatFollowed) := goodIn_app (goodIn_of _ (by decide +kernel)) ggX5_set_X5_forgetWhatFollowed
theorem dX5_set_0 : decode cX5_set 0 = .ok (.iload_n 1, 1) := by decide +kernel
theorem dX5_set_1 : decode cX5_set 1 = .ok (.ifCond .ne 8, 3) := by decide +kernel
theorem dX5_set_4 : decode cX5_set 4 = .ok (.bipush 50, 2) := by decide +kernel
theorem dX5_set_6 : decode cX5_set 6 = .ok (.goto 5, 3) := by decide +kernel
theorem dX5_set_9 : decode cX5_set 9 = .ok (.bipush 16, 2) := by decide +kernel
theorem dX5_set_11 : decode cX5_set 11 = .ok (.istore_n 3, 1) := by decide +kernel
theorem dX5_set_12 : decode cX5_set 12 = .ok (.iload_n 1, 1) := by decide +kernel
theorem dX5_set_13 : decode cX5_set 13 = .ok (.i2l, 1) := by decide +kernel
theorem dX5_set_14 : decode cX5_set 14 = .ok (.iconst 0, 1) := by decide +kernel
theorem dX5_set_15 : decode cX5_set 15 = .ok (.iconst 1, 1) := by decide +kernel
theorem dX5_set_16 : decode cX5_set 16 = .ok (.invokestatic 68, 3) := by decide +kernel
theorem dX5_set_19 : decode cX5_set 19 = .ok (.ifCond .eq 13, 3) := by decide +kernel
theorem dX5_set_22 : decode cX5_set 22 = .ok (.iload_n 2, 1) := by decide +kernel
theorem dX5_set_23 : decode cX5_set 23 = .ok (.i2l, 1) := by decide +kernel
theorem dX5_set_24 : decode cX5_set 24 = .ok (.iconst 1, 1) := by decide +kernel
theorem dX5_set_25 : decode cX5_set 25 = .ok (.iload_n 3, 1) := by decide +kernel
theorem dX5_set_26 : decode cX5_set 26 = .ok (.invokestatic 68, 3) := by decide +kernel
theorem dX5_set_29 : decode cX5_set 29 = .ok (.ifCond .ne 6, 3) := by decide +kernel
theorem dX5_set_32 : decode cX5_set 32 = .ok (.bipush (-2), 2) := by decide +kernel
theorem dX5_set_34 : decode cX5_set 34 = .ok (.ireturn, 1) := by decide +kernel
theorem dX5_set_35 : decode cX5_set 35 = .ok (.aload_n 0, 1) := by decide +kernel
theorem dX5_set_36 : decode cX5_set 36 = .ok (.invokevirtual 81, 3) := by decide +kernel
theorem dX5_set_39 : decode cX5_set 39 = .ok (.iload_n 1, 1) := by decide +kernel
theorem dX5_set_40 : decode cX5_set 40 = .ok (.ifCond .ne 17, 3) := by decide +kernel
theorem dX5_set_43 : decode cX5_set 43 = .ok (.aload_n 0, 1) := by decide +kernel
theorem dX5_set_44 : decode cX5_set 44 = .ok (.getfield 13, 3) := by decide +kernel
theorem dX5_set_47 : decode cX5_set 47 = .ok (.istore 4, 2) := by decide +kernel
theorem dX5_set_49 : decode cX5_set 49 = .ok (.aload_n 0, 1) := by decide +kernel
theorem dX5_set_50 : decode cX5_set 50 = .ok (.iload_n 2, 1) := by decide +kernel
theorem dX5_set_51 : decode cX5_set 51 = .ok (.putfield 13, 3) := by decide +kernel
theorem dX5_set_54 : decode cX5_set 54 = .ok (.goto 14, 3) := by decide +kernel
theorem dX5_set_57 : decode cX5_set 57 = .ok (.aload_n 0, 1) := by decide +kernel
theorem dX5_set_58 : decode cX5_set 58 = .ok (.getfield 17, 3) := by decide +kernel
theorem dX5_set_61 : decode cX5_set 61 = .ok (.istore 4, 2) := by decide +kernel
theorem dX5_set_63 : decode cX5_set 63 = .ok (.aload_n 0, 1) := by decide +kernel
theorem dX5_set_64 : decode cX5_set 64 = .ok (.iload_n 2, 1) := by decide +kernel
theorem dX5_set_65 : decode cX5_set 65 = .ok (.putfield 17, 3) := by decide +kernel
theorem dX5_set_68 : decode cX5_set 68 = .ok (.iload 4, 2) := by decide +kernel
theorem dX5_set_70 : decode cX5_set 70 = .ok (.ireturn, 1) := by decide +kernel
set_option maxRecDepth 20000 in
theorem ggX5_silence_X5_isWithin : GoodIn wsX5_silence wsX5_isWithin := goodIn_r _ [5] (by decide +kernel) (by decide +kernel)
set_option maxRecDepth 20000 in
theorem gX5_silence_X5_isWithin : GoodIn wsX5_silence (va_wsS RX5 68 yX5_isWithin wsX5_isWithin) := goodIn_app (goodIn_of _ (by decide +kernel)) ggX5_silence_X5_isWithin
set_option maxRecDepth 20000 in
theorem ggX5_silence_X5_forgetWhatFollowed : GoodIn wsX5_silence wsX5_forgetWhatFollowed := goodIn_r _ [9, 10, 11, 12, 13, 14, 15, 16, 17, 18, 19, 20, 21, 22, 23, 24, 25, 26] (by decide +kernel) (by decide +kernel)
set_option maxRecDepth 20000 in
theorem gX5_silence_X5_forgetWhatFollowed : GoodIn wsX5_silence (wsV RX5 81 RX5 yX5_forgetWhatFollowed wsX5_forgetWhatFollowed) := goodIn_app (goodIn_of _ (by decide +kernel)) ggX5_silence_X5_forgetWhatFollowed
theorem dX5_silence_0 : decode cX5_silence 0 = .ok (.iload_n 1, 1) := by decide +kernel
theorem dX5_silence_1 : decode cX5_silence 1 = .ok (.i2l, 1) := by decide +kernel
theorem dX5_silence_2 : decode cX5_silence 2 = .ok (.iconst 0, 1) := by decide +kernel
theorem dX5_silence_3 : decode cX5_silence 3 = .ok (.sipush 5000, 3) := by decide +kernel
theorem dX5_silence_6 : decode cX5_silence 6 = .ok (.invokestatic 68, 3) := by decide +kernel
theorem dX5_silence_9 : decode cX5_silence 9 = .ok (.ifCond .ne 11, 3) := by decide +kernel
theorem dX5_silence_12 : decode cX5_silence 12 = .ok (.iload_n 1, 1) := by decide +kernel
theorem dX5_silence_13 : decode cX5_silence 13 = .ok (.iconst (-1), 1) := by decide +kernel
theorem dX5_silence_14 : decode cX5_silence 14 = .ok (.if_icmp .eq 6, 3) := by decide +kernel
theorem dX5_silence_17 : decode cX5_silence 17 = .ok (.bipush (-2), 2) := by decide +kernel
theorem dX5_silence_19 : decode cX5_silence 19 = .ok (.ireturn, 1) := by decide +kernel
theorem dX5_silence_20 : decode cX5_silence 20 = .ok (.aload_n 0, 1) := by decide +kernel
theorem dX5_silence_21 : decode cX5_silence 21 = .ok (.getfield 20, 3) := by decide +kernel
theorem dX5_silence_24 : decode cX5_silence 24 = .ok (.istore_n 2, 1) := by decide +kernel
theorem dX5_silence_25 : decode cX5_silence 25 = .ok (.aload_n 0, 1) := by decide +kernel
theorem dX5_silence_26 : decode cX5_silence 26 = .ok (.iload_n 1, 1) := by decide +kernel
theorem dX5_silence_27 : decode cX5_silence 27 = .ok (.putfield 20, 3) := by decide +kernel
theorem dX5_silence_30 : decode cX5_silence 30 = .ok (.aload_n 0, 1) := by decide +kernel
theorem dX5_silence_31 : decode cX5_silence 31 = .ok (.invokevirtual 81, 3) := by decide +kernel
theorem dX5_silence_34 : decode cX5_silence 34 = .ok (.iload_n 2, 1) := by decide +kernel
theorem dX5_silence_35 : decode cX5_silence 35 = .ok (.ireturn, 1) := by decide +kernel
set_option maxRecDepth 20000 in
theorem ggX5_read_X5_refusalOfRow : GoodIn wsX5_read wsX5_refusalOfRow := goodIn_r _ [9, 1, 10, 11, 12, 13, 8, 14, 15, 16, 17, 18, 19, 20, 21, 22, 38, 39, 40, 41, 42, 43, 44, 45, 46, 47, 48, 49, 50, 51, 52, 53, 54, 55, 56, 57, 58] (by decide +kernel) (by decide +kernel)
set_option maxRecDepth 20000 in
theorem gX5_read_X5_refusalOfRow : GoodIn wsX5_read (wsV RX5 84 RX5 yX5_refusalOfRow wsX5_refusalOfRow) := goodIn_app (goodIn_of _ (by decide +kernel)) ggX5_read_X5_refusalOfRow
set_option maxRecDepth 20000 in
theorem ggX5_read_X5_isDelay : GoodIn wsX5_read wsX5_isDelay := goodIn_r _ [25, 26, 15, 16, 8, 17] (by decide +kernel) (by decide +kernel)
set_option maxRecDepth 20000 in
theorem gX5_read_X5_isDelay : GoodIn wsX5_read (va_wsS RX5 57 yX5_isDelay wsX5_isDelay) := goodIn_app (goodIn_of _ (by decide +kernel)) ggX5_read_X5_isDelay
set_option maxRecDepth 20000 in
theorem ggX5_read_X5_addBeat : GoodIn wsX5_read wsX5_addBeat := goodIn_r _ [30, 31, 3, 32, 33, 34, 8, 35, 36, 37, 38, 39, 40, 41, 42, 43, 44, 45, 46, 47, 48, 49, 50, 51, 52] (by decide +kernel) (by decide +kernel)
set_option maxRecDepth 20000 in
theorem gX5_read_X5_addBeat : GoodIn wsX5_read (wsV RX5 64 RX5 yX5_addBeat wsX5_addBeat) := goodIn_app (goodIn_of _ (by decide +kernel)) ggX5_read_X5_addBeat
theorem dX5_read_0 : decode cX5_read 0 = .ok (.aload_n 0, 1) := by decide +kernel
theorem dX5_read_1 : decode cX5_read 1 = .ok (.iload_n 1, 1) := by decide +kernel
theorem dX5_read_2 : decode cX5_read 2 = .ok (.iconst 0, 1) := by decide +kernel
theorem dX5_read_3 : decode cX5_read 3 = .ok (.invokevirtual 84, 3) := by decide +kernel
theorem dX5_read_6 : decode cX5_read 6 = .ok (.istore_n 2, 1) := by decide +kernel
theorem dX5_read_7 : decode cX5_read 7 = .ok (.iload_n 2, 1) := by decide +kernel
theorem dX5_read_8 : decode cX5_read 8 = .ok (.ifCond .eq 5, 3) := by decide +kernel
theorem dX5_read_11 : decode cX5_read 11 = .ok (.iload_n 2, 1) := by decide +kernel
theorem dX5_read_12 : decode cX5_read 12 = .ok (.ireturn, 1) := by decide +kernel
theorem dX5_read_13 : decode cX5_read 13 = .ok (.aload_n 0, 1) := by decide +kernel
theorem dX5_read_14 : decode cX5_read 14 = .ok (.getfield 32, 3) := by decide +kernel
theorem dX5_read_17 : decode cX5_read 17 = .ok (.iload_n 1, 1) := by decide +kernel
theorem dX5_read_18 : decode cX5_read 18 = .ok (.aaload, 1) := by decide +kernel
theorem dX5_read_19 : decode cX5_read 19 = .ok (.astore_n 3, 1) := by decide +kernel
theorem dX5_read_20 : decode cX5_read 20 = .ok (.iconst 0, 1) := by decide +kernel
theorem dX5_read_21 : decode cX5_read 21 = .ok (.istore 4, 2) := by decide +kernel
theorem dX5_read_23 : decode cX5_read 23 = .ok (.iload 4, 2) := by decide +kernel
theorem dX5_read_25 : decode cX5_read 25 = .ok (.aload_n 3, 1) := by decide +kernel
theorem dX5_read_26 : decode cX5_read 26 = .ok (.getfield 87, 3) := by decide +kernel
theorem dX5_read_29 : decode cX5_read 29 = .ok (.if_icmp .ge 43, 3) := by decide +kernel
theorem dX5_read_32 : decode cX5_read 32 = .ok (.aload_n 0, 1) := by decide +kernel
theorem dX5_read_33 : decode cX5_read 33 = .ok (.getfield 61, 3) := by decide +kernel
theorem dX5_read_36 : decode cX5_read 36 = .ok (.bipush 40, 2) := by decide +kernel
theorem dX5_read_38 : decode cX5_read 38 = .ok (.if_icmp .ge 34, 3) := by decide +kernel
theorem dX5_read_41 : decode cX5_read 41 = .ok (.aload_n 3, 1) := by decide +kernel
theorem dX5_read_42 : decode cX5_read 42 = .ok (.getfield 90, 3) := by decide +kernel
theorem dX5_read_45 : decode cX5_read 45 = .ok (.iload 4, 2) := by decide +kernel
theorem dX5_read_47 : decode cX5_read 47 = .ok (.laload, 1) := by decide +kernel
theorem dX5_read_48 : decode cX5_read 48 = .ok (.invokestatic 57, 3) := by decide +kernel
theorem dX5_read_51 : decode cX5_read 51 = .ok (.ifCond .eq 21, 3) := by decide +kernel
theorem dX5_read_54 : decode cX5_read 54 = .ok (.aload_n 0, 1) := by decide +kernel
theorem dX5_read_55 : decode cX5_read 55 = .ok (.aload_n 3, 1) := by decide +kernel
theorem dX5_read_56 : decode cX5_read 56 = .ok (.getfield 90, 3) := by decide +kernel
theorem dX5_read_59 : decode cX5_read 59 = .ok (.iload 4, 2) := by decide +kernel
theorem dX5_read_61 : decode cX5_read 61 = .ok (.laload, 1) := by decide +kernel
theorem dX5_read_62 : decode cX5_read 62 = .ok (.l2i, 1) := by decide +kernel
theorem dX5_read_63 : decode cX5_read 63 = .ok (.invokevirtual 64, 3) := by decide +kernel
theorem dX5_read_66 : decode cX5_read 66 = .ok (.iinc 4 1, 3) := by decide +kernel
theorem dX5_read_69 : decode cX5_read 69 = .ok (.goto (-46), 3) := by decide +kernel
theorem dX5_read_72 : decode cX5_read 72 = .ok (.iload 4, 2) := by decide +kernel
theorem dX5_read_74 : decode cX5_read 74 = .ok (.ireturn, 1) := by decide +kernel
set_option maxRecDepth 20000 in
theorem ggX5_came_X5_isWithin : GoodIn wsX5_came wsX5_isWithin := goodIn_r _ [9] (by decide +kernel) (by decide +kernel)
set_option maxRecDepth 20000 in
theorem gX5_came_X5_isWithin : GoodIn wsX5_came (va_wsS RX5 68 yX5_isWithin wsX5_isWithin) := goodIn_app (goodIn_of _ (by decide +kernel)) ggX5_came_X5_isWithin
set_option maxRecDepth 20000 in
theorem ggX5_came_X5_followArrivals : GoodIn wsX5_came wsX5_followArrivals := goodIn_r _ [13, 14, 2, 4, 1, 15, 16, 17, 18, 19, 20, 21, 22, 23, 24, 25, 26, 27, 28, 29, 30, 31, 32, 33, 34, 35, 36, 37, 38, 39, 40, 41, 42, 43, 44, 45, 46, 47, 48, 49, 50, 51, 52, 53, 54, 55, 56, 57, 58, 59, 60, 61, 62, 63, 64, 65, 66, 67, 68, 69, 70, 71, 72, 73, 74, 75, 76, 77, 78, 79, 80, 81, 82, 83, 84, 85, 86, 87, 88, 89, 90, 91, 92, 93, 94, 95, 96, 97, 98, 99, 100, 101, 102, 103, 104, 105, 106, 107, 108, 109, 110, 111, 112, 113, 114, 125, 126, 127, 128, 129, 115, 116, 117, 118, 119, 120, 121, 122, 123, 124, 130, 131, 132, 133, 134, 135, 136, 137, 138, 139] (by decide +kernel) (by decide +kernel)
set_option maxRecDepth 20000 in
theorem gX5_came_X5_followArrivals : GoodIn wsX5_came (wsV RX5 94 RX5 yX5_followArrivals wsX5_followArrivals) := goodIn_app (goodIn_of _ (by decide +kernel)) ggX5_came_X5_followArrivals
theorem dX5_came_0 : decode cX5_came 0 = .ok (.iload_n 1, 1) := by decide +kernel
theorem dX5_came_1 : decode cX5_came 1 = .ok (.i2l, 1) := by decide +kernel
theorem dX5_came_2 : decode cX5_came 2 = .ok (.iconst 0, 1) := by decide +kernel
theorem dX5_came_3 : decode cX5_came 3 = .ok (.aload_n 0, 1) := by decide +kernel
theorem dX5_came_4 : decode cX5_came 4 = .ok (.getfield 61, 3) := by decide +kernel
theorem dX5_came_7 : decode cX5_came 7 = .ok (.iconst 1, 1) := by decide +kernel
theorem dX5_came_8 : decode cX5_came 8 = .ok (.isub, 1) := by decide +kernel
theorem dX5_came_9 : decode cX5_came 9 = .ok (.invokestatic 68, 3) := by decide +kernel
theorem dX5_came_12 : decode cX5_came 12 = .ok (.ifCond .eq 13, 3) := by decide +kernel
theorem dX5_came_15 : decode cX5_came 15 = .ok (.iload_n 2, 1) := by decide +kernel
theorem dX5_came_16 : decode cX5_came 16 = .ok (.i2l, 1) := by decide +kernel
theorem dX5_came_17 : decode cX5_came 17 = .ok (.iconst 0, 1) := by decide +kernel
theorem dX5_came_18 : decode cX5_came 18 = .ok (.iconst 2, 1) := by decide +kernel
theorem dX5_came_19 : decode cX5_came 19 = .ok (.invokestatic 68, 3) := by decide +kernel
theorem dX5_came_22 : decode cX5_came 22 = .ok (.ifCond .ne 6, 3) := by decide +kernel
theorem dX5_came_25 : decode cX5_came 25 = .ok (.bipush (-2), 2) := by decide +kernel
theorem dX5_came_27 : decode cX5_came 27 = .ok (.ireturn, 1) := by decide +kernel
theorem dX5_came_28 : decode cX5_came 28 = .ok (.aload_n 0, 1) := by decide +kernel
theorem dX5_came_29 : decode cX5_came 29 = .ok (.invokevirtual 94, 3) := by decide +kernel
theorem dX5_came_32 : decode cX5_came 32 = .ok (.aload_n 0, 1) := by decide +kernel
theorem dX5_came_33 : decode cX5_came 33 = .ok (.getfield 40, 3) := by decide +kernel
theorem dX5_came_36 : decode cX5_came 36 = .ok (.getfield 97, 3) := by decide +kernel
theorem dX5_came_39 : decode cX5_came 39 = .ok (.iload_n 1, 1) := by decide +kernel
theorem dX5_came_40 : decode cX5_came 40 = .ok (.iaload, 1) := by decide +kernel
theorem dX5_came_41 : decode cX5_came 41 = .ok (.istore_n 3, 1) := by decide +kernel
theorem dX5_came_42 : decode cX5_came 42 = .ok (.iload_n 2, 1) := by decide +kernel
theorem dX5_came_43 : decode cX5_came 43 = .ok (.lookupswitch 43 #[(0, 25), (1, 41)], 25) := by decide +kernel
theorem dX5_came_68 : decode cX5_came 68 = .ok (.iload_n 3, 1) := by decide +kernel
theorem dX5_came_69 : decode cX5_came 69 = .ok (.iconst (-1), 1) := by decide +kernel
theorem dX5_came_70 : decode cX5_came 70 = .ok (.if_icmp .ne 7, 3) := by decide +kernel
theorem dX5_came_73 : decode cX5_came 73 = .ok (.iconst (-1), 1) := by decide +kernel
theorem dX5_came_74 : decode cX5_came 74 = .ok (.goto 9, 3) := by decide +kernel
theorem dX5_came_77 : decode cX5_came 77 = .ok (.aload_n 0, 1) := by decide +kernel
theorem dX5_came_78 : decode cX5_came 78 = .ok (.getfield 9, 3) := by decide +kernel
theorem dX5_came_81 : decode cX5_came 81 = .ok (.iload_n 1, 1) := by decide +kernel
theorem dX5_came_82 : decode cX5_came 82 = .ok (.iaload, 1) := by decide +kernel
theorem dX5_came_83 : decode cX5_came 83 = .ok (.ireturn, 1) := by decide +kernel
theorem dX5_came_84 : decode cX5_came 84 = .ok (.iload_n 3, 1) := by decide +kernel
theorem dX5_came_85 : decode cX5_came 85 = .ok (.ireturn, 1) := by decide +kernel
theorem dX5_came_86 : decode cX5_came 86 = .ok (.aload_n 0, 1) := by decide +kernel
theorem dX5_came_87 : decode cX5_came 87 = .ok (.getfield 40, 3) := by decide +kernel
theorem dX5_came_90 : decode cX5_came 90 = .ok (.getfield 100, 3) := by decide +kernel
theorem dX5_came_93 : decode cX5_came 93 = .ok (.iload_n 1, 1) := by decide +kernel
theorem dX5_came_94 : decode cX5_came 94 = .ok (.iaload, 1) := by decide +kernel
theorem dX5_came_95 : decode cX5_came 95 = .ok (.ireturn, 1) := by decide +kernel
set_option maxRecDepth 20000 in
theorem ggX5_news_X5_followArrivals : GoodIn wsX5_news wsX5_followArrivals := goodIn_r _ [9, 10, 1, 11, 12, 13, 14, 15, 16, 17, 18, 19, 20, 21, 22, 23, 24, 25, 26, 27, 28, 29, 30, 31, 32, 33, 34, 35, 36, 37, 38, 39, 40, 41, 42, 43, 44, 45, 46, 47, 48, 49, 50, 51, 52, 53, 54, 55, 56, 57, 58, 59, 60, 61, 62, 63, 64, 65, 66, 67, 68, 69, 70, 71, 72, 73, 74, 75, 76, 77, 78, 79, 80, 81, 82, 83, 84, 85, 86, 87, 88, 89, 90, 91, 92, 93, 94, 95, 96, 97, 105, 106, 107, 108, 109, 110, 111, 112, 113, 114, 115, 116, 117, 118, 119, 130, 131, 132, 133, 134, 120, 121, 122, 123, 124, 125, 126, 127, 128, 129, 135, 136, 137, 138, 139, 140, 141, 142, 143, 144] (by decide +kernel) (by decide +kernel)
set_option maxRecDepth 20000 in
theorem gX5_news_X5_followArrivals : GoodIn wsX5_news (wsV RX5 94 RX5 yX5_followArrivals wsX5_followArrivals) := goodIn_app (goodIn_of _ (by decide +kernel)) ggX5_news_X5_followArrivals
set_option maxRecDepth 20000 in
theorem ggX5_news_X5_isWithin : GoodIn wsX5_news wsX5_isWithin := goodIn_r _ [100] (by decide +kernel) (by decide +kernel)
set_option maxRecDepth 20000 in
theorem gX5_news_X5_isWithin : GoodIn wsX5_news (va_wsS RX5 68 yX5_isWithin wsX5_isWithin) := goodIn_app (goodIn_of _ (by decide +kernel)) ggX5_news_X5_isWithin
set_option maxRecDepth 20000 in
theorem ggX5_news_X0_gapCountBy : GoodIn wsX5_news wsX0_gapCountBy := goodIn_r _ [104, 27, 42, 43, 44, 45, 120, 121, 122, 123, 124, 125, 126, 127, 128, 129] (by decide +kernel) (by decide +kernel)
set_option maxRecDepth 20000 in
theorem gX5_news_X0_gapCountBy : GoodIn wsX5_news (wsV RX5 112 RX0 yX0_gapCountBy wsX0_gapCountBy) := goodIn_app (goodIn_of _ (by decide +kernel)) ggX5_news_X0_gapCountBy
theorem dX5_news_0 : decode cX5_news 0 = .ok (.aload_n 0, 1) := by decide +kernel
theorem dX5_news_1 : decode cX5_news 1 = .ok (.invokevirtual 94, 3) := by decide +kernel
theorem dX5_news_4 : decode cX5_news 4 = .ok (.iload_n 1, 1) := by decide +kernel
theorem dX5_news_5 : decode cX5_news 5 = .ok (.i2l, 1) := by decide +kernel
theorem dX5_news_6 : decode cX5_news 6 = .ok (.iconst 0, 1) := by decide +kernel
theorem dX5_news_7 : decode cX5_news 7 = .ok (.aload_n 0, 1) := by decide +kernel
theorem dX5_news_8 : decode cX5_news 8 = .ok (.getfield 40, 3) := by decide +kernel
theorem dX5_news_11 : decode cX5_news 11 = .ok (.getfield 103, 3) := by decide +kernel
theorem dX5_news_14 : decode cX5_news 14 = .ok (.iconst 1, 1) := by decide +kernel
theorem dX5_news_15 : decode cX5_news 15 = .ok (.isub, 1) := by decide +kernel
theorem dX5_news_16 : decode cX5_news 16 = .ok (.invokestatic 68, 3) := by decide +kernel
theorem dX5_news_19 : decode cX5_news 19 = .ok (.ifCond .eq 13, 3) := by decide +kernel
theorem dX5_news_22 : decode cX5_news 22 = .ok (.iload_n 2, 1) := by decide +kernel
theorem dX5_news_23 : decode cX5_news 23 = .ok (.i2l, 1) := by decide +kernel
theorem dX5_news_24 : decode cX5_news 24 = .ok (.iconst 0, 1) := by decide +kernel
theorem dX5_news_25 : decode cX5_news 25 = .ok (.iconst 2, 1) := by decide +kernel
theorem dX5_news_26 : decode cX5_news 26 = .ok (.invokestatic 68, 3) := by decide +kernel
theorem dX5_news_29 : decode cX5_news 29 = .ok (.ifCond .ne 6, 3) := by decide +kernel
theorem dX5_news_32 : decode cX5_news 32 = .ok (.bipush (-2), 2) := by decide +kernel
theorem dX5_news_34 : decode cX5_news 34 = .ok (.ireturn, 1) := by decide +kernel
theorem dX5_news_35 : decode cX5_news 35 = .ok (.iload_n 2, 1) := by decide +kernel
theorem dX5_news_36 : decode cX5_news 36 = .ok (.lookupswitch 48 #[(0, 28), (1, 38)], 28) := by decide +kernel
theorem dX5_news_64 : decode cX5_news 64 = .ok (.aload_n 0, 1) := by decide +kernel
theorem dX5_news_65 : decode cX5_news 65 = .ok (.getfield 40, 3) := by decide +kernel
theorem dX5_news_68 : decode cX5_news 68 = .ok (.getfield 106, 3) := by decide +kernel
theorem dX5_news_71 : decode cX5_news 71 = .ok (.iload_n 1, 1) := by decide +kernel
theorem dX5_news_72 : decode cX5_news 72 = .ok (.iaload, 1) := by decide +kernel
theorem dX5_news_73 : decode cX5_news 73 = .ok (.ireturn, 1) := by decide +kernel
theorem dX5_news_74 : decode cX5_news 74 = .ok (.aload_n 0, 1) := by decide +kernel
theorem dX5_news_75 : decode cX5_news 75 = .ok (.getfield 40, 3) := by decide +kernel
theorem dX5_news_78 : decode cX5_news 78 = .ok (.getfield 109, 3) := by decide +kernel
theorem dX5_news_81 : decode cX5_news 81 = .ok (.iload_n 1, 1) := by decide +kernel
theorem dX5_news_82 : decode cX5_news 82 = .ok (.iaload, 1) := by decide +kernel
theorem dX5_news_83 : decode cX5_news 83 = .ok (.ireturn, 1) := by decide +kernel
theorem dX5_news_84 : decode cX5_news 84 = .ok (.aload_n 0, 1) := by decide +kernel
theorem dX5_news_85 : decode cX5_news 85 = .ok (.getfield 40, 3) := by decide +kernel
theorem dX5_news_88 : decode cX5_news 88 = .ok (.iload_n 1, 1) := by decide +kernel
theorem dX5_news_89 : decode cX5_news 89 = .ok (.invokevirtual 112, 3) := by decide +kernel
theorem dX5_news_92 : decode cX5_news 92 = .ok (.ireturn, 1) := by decide +kernel
set_option maxRecDepth 20000 in
theorem ggX5_expected_X5_followArrivals : GoodIn wsX5_expected wsX5_followArrivals := goodIn_r _ [9, 10, 1, 11, 12, 13, 14, 15, 16, 17, 18, 19, 20, 21, 22, 23, 24, 25, 26, 27, 28, 29, 30, 31, 32, 33, 34, 35, 36, 37, 38, 39, 40, 41, 42, 43, 44, 45, 46, 47, 48, 49, 50, 51, 52, 53, 54, 55, 56, 57, 58, 59, 60, 61, 62, 63, 64, 65, 66, 67, 68, 69, 70, 71, 72, 73, 74, 75, 76, 77, 78, 79, 80, 81, 82, 83, 84, 85, 86, 87, 88, 89, 90, 91, 92, 93, 94, 95, 96, 97, 111, 112, 113, 114, 115, 116, 117, 118, 119, 120, 121, 122, 123, 124, 125, 136, 137, 138, 139, 140, 126, 127, 128, 129, 130, 131, 132, 133, 134, 135, 141, 142, 143, 144, 145, 146, 147, 148, 149, 150] (by decide +kernel) (by decide +kernel)
set_option maxRecDepth 20000 in
theorem gX5_expected_X5_followArrivals : GoodIn wsX5_expected (wsV RX5 94 RX5 yX5_followArrivals wsX5_followArrivals) := goodIn_app (goodIn_of _ (by decide +kernel)) ggX5_expected_X5_followArrivals
set_option maxRecDepth 20000 in
theorem ggX5_expected_X5_isWithin : GoodIn wsX5_expected wsX5_isWithin := goodIn_r _ [100] (by decide +kernel) (by decide +kernel)
set_option maxRecDepth 20000 in
theorem gX5_expected_X5_isWithin : GoodIn wsX5_expected (va_wsS RX5 68 yX5_isWithin wsX5_isWithin) := goodIn_app (goodIn_of _ (by decide +kernel)) ggX5_expected_X5_isWithin
set_option maxRecDepth 20000 in
theorem ggX5_expected_X5_asLong : GoodIn wsX5_expected wsX5_asLong := goodIn_r _ [103, 104] (by decide +kernel) (by decide +kernel)
set_option maxRecDepth 20000 in
theorem gX5_expected_X5_asLong : GoodIn wsX5_expected (va_wsS RX5 116 yX5_asLong wsX5_asLong) := goodIn_app (goodIn_of _ (by decide +kernel)) ggX5_expected_X5_asLong
set_option maxRecDepth 20000 in
theorem ggX5_expected_X5_inLowestTerms : GoodIn wsX5_expected wsX5_inLowestTerms := goodIn_r _ [107, 108, 109, 8, 110] (by decide +kernel) (by decide +kernel)
set_option maxRecDepth 20000 in
theorem gX5_expected_X5_inLowestTerms : GoodIn wsX5_expected (va_wsS RX5 126 yX5_inLowestTerms wsX5_inLowestTerms) := goodIn_app (goodIn_of _ (by decide +kernel)) ggX5_expected_X5_inLowestTerms
theorem dX5_expected_0 : decode cX5_expected 0 = .ok (.aload_n 0, 1) := by decide +kernel
theorem dX5_expected_1 : decode cX5_expected 1 = .ok (.invokevirtual 94, 3) := by decide +kernel
theorem dX5_expected_4 : decode cX5_expected 4 = .ok (.iload_n 1, 1) := by decide +kernel
theorem dX5_expected_5 : decode cX5_expected 5 = .ok (.i2l, 1) := by decide +kernel
theorem dX5_expected_6 : decode cX5_expected 6 = .ok (.iconst 0, 1) := by decide +kernel
theorem dX5_expected_7 : decode cX5_expected 7 = .ok (.aload_n 0, 1) := by decide +kernel
theorem dX5_expected_8 : decode cX5_expected 8 = .ok (.getfield 40, 3) := by decide +kernel
theorem dX5_expected_11 : decode cX5_expected 11 = .ok (.getfield 103, 3) := by decide +kernel
theorem dX5_expected_14 : decode cX5_expected 14 = .ok (.iconst 1, 1) := by decide +kernel
theorem dX5_expected_15 : decode cX5_expected 15 = .ok (.isub, 1) := by decide +kernel
theorem dX5_expected_16 : decode cX5_expected 16 = .ok (.invokestatic 68, 3) := by decide +kernel
theorem dX5_expected_19 : decode cX5_expected 19 = .ok (.ifCond .eq 13, 3) := by decide +kernel
theorem dX5_expected_22 : decode cX5_expected 22 = .ok (.iload_n 2, 1) := by decide +kernel
theorem dX5_expected_23 : decode cX5_expected 23 = .ok (.i2l, 1) := by decide +kernel
theorem dX5_expected_24 : decode cX5_expected 24 = .ok (.iconst 0, 1) := by decide +kernel
theorem dX5_expected_25 : decode cX5_expected 25 = .ok (.iconst 1, 1) := by decide +kernel
theorem dX5_expected_26 : decode cX5_expected 26 = .ok (.invokestatic 68, 3) := by decide +kernel
theorem dX5_expected_29 : decode cX5_expected 29 = .ok (.ifCond .ne 9, 3) := by decide +kernel
theorem dX5_expected_32 : decode cX5_expected 32 = .ok (.bipush (-2), 2) := by decide +kernel
theorem dX5_expected_34 : decode cX5_expected 34 = .ok (.invokestatic 116, 3) := by decide +kernel
theorem dX5_expected_37 : decode cX5_expected 37 = .ok (.lreturn, 1) := by decide +kernel
theorem dX5_expected_38 : decode cX5_expected 38 = .ok (.aload_n 0, 1) := by decide +kernel
theorem dX5_expected_39 : decode cX5_expected 39 = .ok (.getfield 40, 3) := by decide +kernel
theorem dX5_expected_42 : decode cX5_expected 42 = .ok (.getfield 120, 3) := by decide +kernel
theorem dX5_expected_45 : decode cX5_expected 45 = .ok (.iload_n 1, 1) := by decide +kernel
theorem dX5_expected_46 : decode cX5_expected 46 = .ok (.iaload, 1) := by decide +kernel
theorem dX5_expected_47 : decode cX5_expected 47 = .ok (.aload_n 0, 1) := by decide +kernel
theorem dX5_expected_48 : decode cX5_expected 48 = .ok (.getfield 40, 3) := by decide +kernel
theorem dX5_expected_51 : decode cX5_expected 51 = .ok (.getfield 123, 3) := by decide +kernel
theorem dX5_expected_54 : decode cX5_expected 54 = .ok (.iload_n 1, 1) := by decide +kernel
theorem dX5_expected_55 : decode cX5_expected 55 = .ok (.iaload, 1) := by decide +kernel
theorem dX5_expected_56 : decode cX5_expected 56 = .ok (.iload_n 2, 1) := by decide +kernel
theorem dX5_expected_57 : decode cX5_expected 57 = .ok (.invokestatic 126, 3) := by decide +kernel
theorem dX5_expected_60 : decode cX5_expected 60 = .ok (.lreturn, 1) := by decide +kernel
set_option maxRecDepth 20000 in
theorem ggX5_score_X5_isWithin : GoodIn wsX5_score wsX5_isWithin := goodIn_r _ [6] (by decide +kernel) (by decide +kernel)
set_option maxRecDepth 20000 in
theorem gX5_score_X5_isWithin : GoodIn wsX5_score (va_wsS RX5 68 yX5_isWithin wsX5_isWithin) := goodIn_app (goodIn_of _ (by decide +kernel)) ggX5_score_X5_isWithin
set_option maxRecDepth 20000 in
theorem ggX5_score_X5_asLong : GoodIn wsX5_score wsX5_asLong := goodIn_r _ [9, 10] (by decide +kernel) (by decide +kernel)
set_option maxRecDepth 20000 in
theorem gX5_score_X5_asLong : GoodIn wsX5_score (va_wsS RX5 116 yX5_asLong wsX5_asLong) := goodIn_app (goodIn_of _ (by decide +kernel)) ggX5_score_X5_asLong
set_option maxRecDepth 20000 in
theorem ggX5_score_X5_followArrivals : GoodIn wsX5_score wsX5_followArrivals := goodIn_r _ [14, 15, 1, 16, 17, 18, 19, 20, 21, 22, 23, 24, 25, 26, 27, 28, 29, 30, 31, 32, 33, 34, 35, 36, 37, 38, 39, 40, 41, 42, 43, 44, 45, 46, 47, 48, 49, 50, 51, 52, 53, 54, 55, 56, 57, 58, 59, 60, 61, 62, 63, 64, 65, 66, 67, 68, 69, 70, 71, 72, 73, 74, 75, 76, 77, 78, 79, 80, 81, 82, 83, 84, 85, 86, 87, 88, 89, 90, 91, 92, 93, 94, 95, 96, 97, 98, 99, 100, 101, 102, 122, 123, 124, 125, 126, 127, 128, 129, 130, 131, 132, 133, 134, 135, 136, 147, 148, 149, 150, 151, 137, 138, 139, 140, 141, 142, 143, 144, 145, 146, 152, 153, 154, 155, 156, 157, 158, 159, 160, 161] (by decide +kernel) (by decide +kernel)
set_option maxRecDepth 20000 in
theorem gX5_score_X5_followArrivals : GoodIn wsX5_score (wsV RX5 94 RX5 yX5_followArrivals wsX5_followArrivals) := goodIn_app (goodIn_of _ (by decide +kernel)) ggX5_score_X5_followArrivals
set_option maxRecDepth 20000 in
theorem ggX5_score_X0_latestAt : GoodIn wsX5_score wsX0_latestAt := goodIn_r _ [106, 40, 42, 137, 138, 139, 140, 141, 142, 143, 144, 145, 146] (by decide +kernel) (by decide +kernel)
set_option maxRecDepth 20000 in
theorem gX5_score_X0_latestAt : GoodIn wsX5_score (wsV RX5 130 RX0 yX0_latestAt wsX0_latestAt) := goodIn_app (goodIn_of _ (by decide +kernel)) ggX5_score_X0_latestAt
set_option maxRecDepth 20000 in
theorem ggX5_score_X0_gapCountBy : GoodIn wsX5_score wsX0_gapCountBy := goodIn_r _ [110, 32, 47, 48, 49, 50, 137, 138, 139, 140, 141, 142, 143, 144, 145, 146] (by decide +kernel) (by decide +kernel)
set_option maxRecDepth 20000 in
theorem gX5_score_X0_gapCountBy : GoodIn wsX5_score (wsV RX5 112 RX0 yX0_gapCountBy wsX0_gapCountBy) := goodIn_app (goodIn_of _ (by decide +kernel)) ggX5_score_X0_gapCountBy
set_option maxRecDepth 20000 in
theorem ggX5_score_X0_countGapsBelow : GoodIn wsX5_score wsX0_countGapsBelow := goodIn_r _ [114, 42, 115, 108, 109, 29, 110, 32, 47, 48, 49, 50, 137, 138, 139, 140, 141, 142, 143, 144, 145, 146] (by decide +kernel) (by decide +kernel)
set_option maxRecDepth 20000 in
theorem gX5_score_X0_countGapsBelow : GoodIn wsX5_score (wsV RX5 133 RX0 yX0_countGapsBelow wsX0_countGapsBelow) := goodIn_app (goodIn_of _ (by decide +kernel)) ggX5_score_X0_countGapsBelow
set_option maxRecDepth 20000 in
theorem ggX5_score_X5_inLowestTerms : GoodIn wsX5_score wsX5_inLowestTerms := goodIn_r _ [118, 119, 120, 5, 121] (by decide +kernel) (by decide +kernel)
set_option maxRecDepth 20000 in
theorem gX5_score_X5_inLowestTerms : GoodIn wsX5_score (va_wsS RX5 126 yX5_inLowestTerms wsX5_inLowestTerms) := goodIn_app (goodIn_of _ (by decide +kernel)) ggX5_score_X5_inLowestTerms
theorem dX5_score_0 : decode cX5_score 0 = .ok (.iload_n 1, 1) := by decide +kernel
theorem dX5_score_1 : decode cX5_score 1 = .ok (.i2l, 1) := by decide +kernel
theorem dX5_score_2 : decode cX5_score 2 = .ok (.iconst 0, 1) := by decide +kernel
theorem dX5_score_3 : decode cX5_score 3 = .ok (.sipush 6000, 3) := by decide +kernel
theorem dX5_score_6 : decode cX5_score 6 = .ok (.invokestatic 68, 3) := by decide +kernel
theorem dX5_score_9 : decode cX5_score 9 = .ok (.ifCond .eq 13, 3) := by decide +kernel
theorem dX5_score_12 : decode cX5_score 12 = .ok (.iload_n 2, 1) := by decide +kernel
theorem dX5_score_13 : decode cX5_score 13 = .ok (.i2l, 1) := by decide +kernel
theorem dX5_score_14 : decode cX5_score 14 = .ok (.iconst 0, 1) := by decide +kernel
theorem dX5_score_15 : decode cX5_score 15 = .ok (.iconst 1, 1) := by decide +kernel
theorem dX5_score_16 : decode cX5_score 16 = .ok (.invokestatic 68, 3) := by decide +kernel
theorem dX5_score_19 : decode cX5_score 19 = .ok (.ifCond .ne 9, 3) := by decide +kernel
theorem dX5_score_22 : decode cX5_score 22 = .ok (.bipush (-2), 2) := by decide +kernel
theorem dX5_score_24 : decode cX5_score 24 = .ok (.invokestatic 116, 3) := by decide +kernel
theorem dX5_score_27 : decode cX5_score 27 = .ok (.lreturn, 1) := by decide +kernel
theorem dX5_score_28 : decode cX5_score 28 = .ok (.aload_n 0, 1) := by decide +kernel
theorem dX5_score_29 : decode cX5_score 29 = .ok (.invokevirtual 94, 3) := by decide +kernel
theorem dX5_score_32 : decode cX5_score 32 = .ok (.aload_n 0, 1) := by decide +kernel
theorem dX5_score_33 : decode cX5_score 33 = .ok (.getfield 40, 3) := by decide +kernel
theorem dX5_score_36 : decode cX5_score 36 = .ok (.iload_n 1, 1) := by decide +kernel
theorem dX5_score_37 : decode cX5_score 37 = .ok (.invokevirtual 130, 3) := by decide +kernel
theorem dX5_score_40 : decode cX5_score 40 = .ok (.istore_n 3, 1) := by decide +kernel
theorem dX5_score_41 : decode cX5_score 41 = .ok (.iload_n 3, 1) := by decide +kernel
theorem dX5_score_42 : decode cX5_score 42 = .ok (.iconst (-1), 1) := by decide +kernel
theorem dX5_score_43 : decode cX5_score 43 = .ok (.if_icmp .eq 14, 3) := by decide +kernel
theorem dX5_score_46 : decode cX5_score 46 = .ok (.aload_n 0, 1) := by decide +kernel
theorem dX5_score_47 : decode cX5_score 47 = .ok (.getfield 40, 3) := by decide +kernel
theorem dX5_score_50 : decode cX5_score 50 = .ok (.iload_n 3, 1) := by decide +kernel
theorem dX5_score_51 : decode cX5_score 51 = .ok (.invokevirtual 112, 3) := by decide +kernel
theorem dX5_score_54 : decode cX5_score 54 = .ok (.ifCond .ne 9, 3) := by decide +kernel
theorem dX5_score_57 : decode cX5_score 57 = .ok (.bipush (-3), 2) := by decide +kernel
theorem dX5_score_59 : decode cX5_score 59 = .ok (.invokestatic 116, 3) := by decide +kernel
theorem dX5_score_62 : decode cX5_score 62 = .ok (.lreturn, 1) := by decide +kernel
theorem dX5_score_63 : decode cX5_score 63 = .ok (.aload_n 0, 1) := by decide +kernel
theorem dX5_score_64 : decode cX5_score 64 = .ok (.getfield 40, 3) := by decide +kernel
theorem dX5_score_67 : decode cX5_score 67 = .ok (.iload_n 3, 1) := by decide +kernel
theorem dX5_score_68 : decode cX5_score 68 = .ok (.iload_n 1, 1) := by decide +kernel
theorem dX5_score_69 : decode cX5_score 69 = .ok (.aload_n 0, 1) := by decide +kernel
theorem dX5_score_70 : decode cX5_score 70 = .ok (.getfield 40, 3) := by decide +kernel
theorem dX5_score_73 : decode cX5_score 73 = .ok (.getfield 109, 3) := by decide +kernel
theorem dX5_score_76 : decode cX5_score 76 = .ok (.iload_n 3, 1) := by decide +kernel
theorem dX5_score_77 : decode cX5_score 77 = .ok (.iaload, 1) := by decide +kernel
theorem dX5_score_78 : decode cX5_score 78 = .ok (.isub, 1) := by decide +kernel
theorem dX5_score_79 : decode cX5_score 79 = .ok (.invokevirtual 133, 3) := by decide +kernel
theorem dX5_score_82 : decode cX5_score 82 = .ok (.istore 4, 2) := by decide +kernel
theorem dX5_score_84 : decode cX5_score 84 = .ok (.iload 4, 2) := by decide +kernel
theorem dX5_score_86 : decode cX5_score 86 = .ok (.aload_n 0, 1) := by decide +kernel
theorem dX5_score_87 : decode cX5_score 87 = .ok (.getfield 40, 3) := by decide +kernel
theorem dX5_score_90 : decode cX5_score 90 = .ok (.iload_n 3, 1) := by decide +kernel
theorem dX5_score_91 : decode cX5_score 91 = .ok (.invokevirtual 112, 3) := by decide +kernel
theorem dX5_score_94 : decode cX5_score 94 = .ok (.iload_n 2, 1) := by decide +kernel
theorem dX5_score_95 : decode cX5_score 95 = .ok (.invokestatic 126, 3) := by decide +kernel
theorem dX5_score_98 : decode cX5_score 98 = .ok (.lreturn, 1) := by decide +kernel
set_option maxRecDepth 20000 in
theorem ggX5_watcher_X5_isWithin : GoodIn wsX5_watcher wsX5_isWithin := goodIn_r _ [6] (by decide +kernel) (by decide +kernel)
set_option maxRecDepth 20000 in
theorem gX5_watcher_X5_isWithin : GoodIn wsX5_watcher (va_wsS RX5 68 yX5_isWithin wsX5_isWithin) := goodIn_app (goodIn_of _ (by decide +kernel)) ggX5_watcher_X5_isWithin
set_option maxRecDepth 20000 in
theorem ggX5_watcher_X5_isMeasure : GoodIn wsX5_watcher wsX5_isMeasure := goodIn_r _ [9, 10, 11, 3, 4, 5, 6] (by decide +kernel) (by decide +kernel)
set_option maxRecDepth 20000 in
theorem gX5_watcher_X5_isMeasure : GoodIn wsX5_watcher (va_wsS RX5 136 yX5_isMeasure wsX5_isMeasure) := goodIn_app (goodIn_of _ (by decide +kernel)) ggX5_watcher_X5_isMeasure
set_option maxRecDepth 20000 in
theorem ggX5_watcher_X4_begin : GoodIn wsX5_watcher wsX4_begin := goodIn_r _ [16, 17, 18, 19, 20, 42, 43, 44, 45, 46] (by decide +kernel) (by decide +kernel)
set_option maxRecDepth 20000 in
theorem gX5_watcher_X4_begin : GoodIn wsX5_watcher (wsV RX5 143 RX4 yX4_begin wsX4_begin) := goodIn_app (goodIn_of _ (by decide +kernel)) ggX5_watcher_X4_begin
set_option maxRecDepth 20000 in
theorem ggX5_watcher_X5_forgetWhatFollowed : GoodIn wsX5_watcher wsX5_forgetWhatFollowed := goodIn_r _ [24, 25, 26, 27, 28, 29, 30, 31, 32, 33, 34, 35, 36, 37, 38, 39, 40, 41] (by decide +kernel) (by decide +kernel)
set_option maxRecDepth 20000 in
theorem gX5_watcher_X5_forgetWhatFollowed : GoodIn wsX5_watcher (wsV RX5 81 RX5 yX5_forgetWhatFollowed wsX5_forgetWhatFollowed) := goodIn_app (goodIn_of _ (by decide +kernel)) ggX5_watcher_X5_forgetWhatFollowed
theorem dX5_watcher_0 : decode cX5_watcher 0 = .ok (.iload_n 1, 1) := by decide +kernel
theorem dX5_watcher_1 : decode cX5_watcher 1 = .ok (.i2l, 1) := by decide +kernel
theorem dX5_watcher_2 : decode cX5_watcher 2 = .ok (.iconst 0, 1) := by decide +kernel
theorem dX5_watcher_3 : decode cX5_watcher 3 = .ok (.iconst 3, 1) := by decide +kernel
theorem dX5_watcher_4 : decode cX5_watcher 4 = .ok (.invokestatic 68, 3) := by decide +kernel
theorem dX5_watcher_7 : decode cX5_watcher 7 = .ok (.ifCond .eq 11, 3) := by decide +kernel
theorem dX5_watcher_10 : decode cX5_watcher 10 = .ok (.iload_n 1, 1) := by decide +kernel
theorem dX5_watcher_11 : decode cX5_watcher 11 = .ok (.iload_n 2, 1) := by decide +kernel
theorem dX5_watcher_12 : decode cX5_watcher 12 = .ok (.invokestatic 136, 3) := by decide +kernel
theorem dX5_watcher_15 : decode cX5_watcher 15 = .ok (.ifCond .ne 6, 3) := by decide +kernel
theorem dX5_watcher_18 : decode cX5_watcher 18 = .ok (.bipush (-2), 2) := by decide +kernel
theorem dX5_watcher_20 : decode cX5_watcher 20 = .ok (.ireturn, 1) := by decide +kernel
theorem dX5_watcher_21 : decode cX5_watcher 21 = .ok (.aload_n 0, 1) := by decide +kernel
theorem dX5_watcher_22 : decode cX5_watcher 22 = .ok (.getfield 140, 3) := by decide +kernel
theorem dX5_watcher_25 : decode cX5_watcher 25 = .ok (.iconst 5, 1) := by decide +kernel
theorem dX5_watcher_26 : decode cX5_watcher 26 = .ok (.if_icmp .lt 6, 3) := by decide +kernel
theorem dX5_watcher_29 : decode cX5_watcher 29 = .ok (.bipush (-4), 2) := by decide +kernel
theorem dX5_watcher_31 : decode cX5_watcher 31 = .ok (.ireturn, 1) := by decide +kernel
theorem dX5_watcher_32 : decode cX5_watcher 32 = .ok (.aload_n 0, 1) := by decide +kernel
theorem dX5_watcher_33 : decode cX5_watcher 33 = .ok (.getfield 25, 3) := by decide +kernel
theorem dX5_watcher_36 : decode cX5_watcher 36 = .ok (.aload_n 0, 1) := by decide +kernel
theorem dX5_watcher_37 : decode cX5_watcher 37 = .ok (.getfield 140, 3) := by decide +kernel
theorem dX5_watcher_40 : decode cX5_watcher 40 = .ok (.aaload, 1) := by decide +kernel
theorem dX5_watcher_41 : decode cX5_watcher 41 = .ok (.iload_n 1, 1) := by decide +kernel
theorem dX5_watcher_42 : decode cX5_watcher 42 = .ok (.iload_n 2, 1) := by decide +kernel
theorem dX5_watcher_43 : decode cX5_watcher 43 = .ok (.invokevirtual 143, 3) := by decide +kernel
theorem dX5_watcher_46 : decode cX5_watcher 46 = .ok (.aload_n 0, 1) := by decide +kernel
theorem dX5_watcher_47 : decode cX5_watcher 47 = .ok (.dup, 1) := by decide +kernel
theorem dX5_watcher_48 : decode cX5_watcher 48 = .ok (.getfield 140, 3) := by decide +kernel
theorem dX5_watcher_51 : decode cX5_watcher 51 = .ok (.iconst 1, 1) := by decide +kernel
theorem dX5_watcher_52 : decode cX5_watcher 52 = .ok (.iadd, 1) := by decide +kernel
theorem dX5_watcher_53 : decode cX5_watcher 53 = .ok (.putfield 140, 3) := by decide +kernel
theorem dX5_watcher_56 : decode cX5_watcher 56 = .ok (.aload_n 0, 1) := by decide +kernel
theorem dX5_watcher_57 : decode cX5_watcher 57 = .ok (.invokevirtual 81, 3) := by decide +kernel
theorem dX5_watcher_60 : decode cX5_watcher 60 = .ok (.aload_n 0, 1) := by decide +kernel
theorem dX5_watcher_61 : decode cX5_watcher 61 = .ok (.getfield 140, 3) := by decide +kernel
theorem dX5_watcher_64 : decode cX5_watcher 64 = .ok (.iconst 1, 1) := by decide +kernel
theorem dX5_watcher_65 : decode cX5_watcher 65 = .ok (.isub, 1) := by decide +kernel
theorem dX5_watcher_66 : decode cX5_watcher 66 = .ok (.ireturn, 1) := by decide +kernel
set_option maxRecDepth 20000 in
theorem ggX5_leaves_X5_forgetWhatFollowed : GoodIn wsX5_leaves wsX5_forgetWhatFollowed := goodIn_r _ [6, 7, 8, 9, 10, 11, 12, 13, 14, 15, 16, 17, 18, 19, 20, 21, 22, 23] (by decide +kernel) (by decide +kernel)
set_option maxRecDepth 20000 in
theorem gX5_leaves_X5_forgetWhatFollowed : GoodIn wsX5_leaves (wsV RX5 81 RX5 yX5_forgetWhatFollowed wsX5_forgetWhatFollowed) := goodIn_app (goodIn_of _ (by decide +kernel)) ggX5_leaves_X5_forgetWhatFollowed
theorem dX5_leaves_0 : decode cX5_leaves 0 = .ok (.aload_n 0, 1) := by decide +kernel
theorem dX5_leaves_1 : decode cX5_leaves 1 = .ok (.getfield 140, 3) := by decide +kernel
theorem dX5_leaves_4 : decode cX5_leaves 4 = .ok (.ifCond .ne 6, 3) := by decide +kernel
theorem dX5_leaves_7 : decode cX5_leaves 7 = .ok (.bipush (-3), 2) := by decide +kernel
theorem dX5_leaves_9 : decode cX5_leaves 9 = .ok (.ireturn, 1) := by decide +kernel
theorem dX5_leaves_10 : decode cX5_leaves 10 = .ok (.aload_n 0, 1) := by decide +kernel
theorem dX5_leaves_11 : decode cX5_leaves 11 = .ok (.dup, 1) := by decide +kernel
theorem dX5_leaves_12 : decode cX5_leaves 12 = .ok (.getfield 140, 3) := by decide +kernel
theorem dX5_leaves_15 : decode cX5_leaves 15 = .ok (.iconst 1, 1) := by decide +kernel
theorem dX5_leaves_16 : decode cX5_leaves 16 = .ok (.isub, 1) := by decide +kernel
theorem dX5_leaves_17 : decode cX5_leaves 17 = .ok (.putfield 140, 3) := by decide +kernel
theorem dX5_leaves_20 : decode cX5_leaves 20 = .ok (.aload_n 0, 1) := by decide +kernel
theorem dX5_leaves_21 : decode cX5_leaves 21 = .ok (.invokevirtual 81, 3) := by decide +kernel
theorem dX5_leaves_24 : decode cX5_leaves 24 = .ok (.aload_n 0, 1) := by decide +kernel
theorem dX5_leaves_25 : decode cX5_leaves 25 = .ok (.getfield 140, 3) := by decide +kernel
theorem dX5_leaves_28 : decode cX5_leaves 28 = .ok (.ireturn, 1) := by decide +kernel
set_option maxRecDepth 20000 in
theorem ggX5_measure_X5_isWatcher : GoodIn wsX5_measure wsX5_isWatcher := goodIn_r _ [8, 9, 10, 11, 7, 12, 24, 25, 26, 27, 28, 29, 30, 31, 32, 33, 34, 35, 36, 37, 38] (by decide +kernel) (by decide +kernel)
set_option maxRecDepth 20000 in
theorem gX5_measure_X5_isWatcher : GoodIn wsX5_measure (wsV RX5 147 RX5 yX5_isWatcher wsX5_isWatcher) := goodIn_app (goodIn_of _ (by decide +kernel)) ggX5_measure_X5_isWatcher
set_option maxRecDepth 20000 in
theorem ggX5_measure_X5_isMeasure : GoodIn wsX5_measure wsX5_isMeasure := goodIn_r _ [15, 16, 17, 10, 11, 7, 12] (by decide +kernel) (by decide +kernel)
set_option maxRecDepth 20000 in
theorem gX5_measure_X5_isMeasure : GoodIn wsX5_measure (va_wsS RX5 136 yX5_isMeasure wsX5_isMeasure) := goodIn_app (goodIn_of _ (by decide +kernel)) ggX5_measure_X5_isMeasure
set_option maxRecDepth 20000 in
theorem ggX5_measure_X5_forgetWhatFollowed : GoodIn wsX5_measure wsX5_forgetWhatFollowed := goodIn_r _ [21, 22, 23, 24, 25, 26, 27, 28, 29, 30, 31, 32, 33, 34, 35, 36, 37, 38] (by decide +kernel) (by decide +kernel)
set_option maxRecDepth 20000 in
theorem gX5_measure_X5_forgetWhatFollowed : GoodIn wsX5_measure (wsV RX5 81 RX5 yX5_forgetWhatFollowed wsX5_forgetWhatFollowed) := goodIn_app (goodIn_of _ (by decide +kernel)) ggX5_measure_X5_forgetWhatFollowed
theorem dX5_measure_0 : decode cX5_measure 0 = .ok (.aload_n 0, 1) := by decide +kernel
theorem dX5_measure_1 : decode cX5_measure 1 = .ok (.iload_n 1, 1) := by decide +kernel
theorem dX5_measure_2 : decode cX5_measure 2 = .ok (.invokevirtual 147, 3) := by decide +kernel
theorem dX5_measure_5 : decode cX5_measure 5 = .ok (.ifCond .eq 19, 3) := by decide +kernel
theorem dX5_measure_8 : decode cX5_measure 8 = .ok (.aload_n 0, 1) := by decide +kernel
theorem dX5_measure_9 : decode cX5_measure 9 = .ok (.getfield 25, 3) := by decide +kernel
theorem dX5_measure_12 : decode cX5_measure 12 = .ok (.iload_n 1, 1) := by decide +kernel
theorem dX5_measure_13 : decode cX5_measure 13 = .ok (.aaload, 1) := by decide +kernel
theorem dX5_measure_14 : decode cX5_measure 14 = .ok (.getfield 151, 3) := by decide +kernel
theorem dX5_measure_17 : decode cX5_measure 17 = .ok (.iload_n 2, 1) := by decide +kernel
theorem dX5_measure_18 : decode cX5_measure 18 = .ok (.invokestatic 136, 3) := by decide +kernel
theorem dX5_measure_21 : decode cX5_measure 21 = .ok (.ifCond .ne 6, 3) := by decide +kernel
theorem dX5_measure_24 : decode cX5_measure 24 = .ok (.bipush (-2), 2) := by decide +kernel
theorem dX5_measure_26 : decode cX5_measure 26 = .ok (.ireturn, 1) := by decide +kernel
theorem dX5_measure_27 : decode cX5_measure 27 = .ok (.aload_n 0, 1) := by decide +kernel
theorem dX5_measure_28 : decode cX5_measure 28 = .ok (.getfield 25, 3) := by decide +kernel
theorem dX5_measure_31 : decode cX5_measure 31 = .ok (.iload_n 1, 1) := by decide +kernel
theorem dX5_measure_32 : decode cX5_measure 32 = .ok (.aaload, 1) := by decide +kernel
theorem dX5_measure_33 : decode cX5_measure 33 = .ok (.getfield 154, 3) := by decide +kernel
theorem dX5_measure_36 : decode cX5_measure 36 = .ok (.istore_n 3, 1) := by decide +kernel
theorem dX5_measure_37 : decode cX5_measure 37 = .ok (.aload_n 0, 1) := by decide +kernel
theorem dX5_measure_38 : decode cX5_measure 38 = .ok (.getfield 25, 3) := by decide +kernel
theorem dX5_measure_41 : decode cX5_measure 41 = .ok (.iload_n 1, 1) := by decide +kernel
theorem dX5_measure_42 : decode cX5_measure 42 = .ok (.aaload, 1) := by decide +kernel
theorem dX5_measure_43 : decode cX5_measure 43 = .ok (.iload_n 2, 1) := by decide +kernel
theorem dX5_measure_44 : decode cX5_measure 44 = .ok (.putfield 154, 3) := by decide +kernel
theorem dX5_measure_47 : decode cX5_measure 47 = .ok (.aload_n 0, 1) := by decide +kernel
theorem dX5_measure_48 : decode cX5_measure 48 = .ok (.invokevirtual 81, 3) := by decide +kernel
theorem dX5_measure_51 : decode cX5_measure 51 = .ok (.iload_n 3, 1) := by decide +kernel
theorem dX5_measure_52 : decode cX5_measure 52 = .ok (.ireturn, 1) := by decide +kernel
set_option maxRecDepth 20000 in
theorem ggX5_wish_X5_isWatcher : GoodIn wsX5_wish wsX5_isWatcher := goodIn_r _ [8, 9, 10, 11, 7, 12, 19, 20, 21, 22, 23, 24, 25, 26, 27, 28, 29, 30, 31, 32, 33] (by decide +kernel) (by decide +kernel)
set_option maxRecDepth 20000 in
theorem gX5_wish_X5_isWatcher : GoodIn wsX5_wish (wsV RX5 147 RX5 yX5_isWatcher wsX5_isWatcher) := goodIn_app (goodIn_of _ (by decide +kernel)) ggX5_wish_X5_isWatcher
set_option maxRecDepth 20000 in
theorem ggX5_wish_X5_isWithin : GoodIn wsX5_wish wsX5_isWithin := goodIn_r _ [12] (by decide +kernel) (by decide +kernel)
set_option maxRecDepth 20000 in
theorem gX5_wish_X5_isWithin : GoodIn wsX5_wish (va_wsS RX5 68 yX5_isWithin wsX5_isWithin) := goodIn_app (goodIn_of _ (by decide +kernel)) ggX5_wish_X5_isWithin
set_option maxRecDepth 20000 in
theorem ggX5_wish_X5_forgetWhatFollowed : GoodIn wsX5_wish wsX5_forgetWhatFollowed := goodIn_r _ [16, 17, 18, 19, 20, 21, 22, 23, 24, 25, 26, 27, 28, 29, 30, 31, 32, 33] (by decide +kernel) (by decide +kernel)
set_option maxRecDepth 20000 in
theorem gX5_wish_X5_forgetWhatFollowed : GoodIn wsX5_wish (wsV RX5 81 RX5 yX5_forgetWhatFollowed wsX5_forgetWhatFollowed) := goodIn_app (goodIn_of _ (by decide +kernel)) ggX5_wish_X5_forgetWhatFollowed
theorem dX5_wish_0 : decode cX5_wish 0 = .ok (.iload_n 2, 1) := by decide +kernel
theorem dX5_wish_1 : decode cX5_wish 1 = .ok (.ifCond .ne 9, 3) := by decide +kernel
theorem dX5_wish_4 : decode cX5_wish 4 = .ok (.sipush 500, 3) := by decide +kernel
theorem dX5_wish_7 : decode cX5_wish 7 = .ok (.goto 5, 3) := by decide +kernel
theorem dX5_wish_10 : decode cX5_wish 10 = .ok (.bipush 40, 2) := by decide +kernel
theorem dX5_wish_12 : decode cX5_wish 12 = .ok (.istore 4, 2) := by decide +kernel
theorem dX5_wish_14 : decode cX5_wish 14 = .ok (.aload_n 0, 1) := by decide +kernel
theorem dX5_wish_15 : decode cX5_wish 15 = .ok (.iload_n 1, 1) := by decide +kernel
theorem dX5_wish_16 : decode cX5_wish 16 = .ok (.invokevirtual 147, 3) := by decide +kernel
theorem dX5_wish_19 : decode cX5_wish 19 = .ok (.ifCond .eq 29, 3) := by decide +kernel
theorem dX5_wish_22 : decode cX5_wish 22 = .ok (.iload_n 2, 1) := by decide +kernel
theorem dX5_wish_23 : decode cX5_wish 23 = .ok (.i2l, 1) := by decide +kernel
theorem dX5_wish_24 : decode cX5_wish 24 = .ok (.iconst 0, 1) := by decide +kernel
theorem dX5_wish_25 : decode cX5_wish 25 = .ok (.iconst 1, 1) := by decide +kernel
theorem dX5_wish_26 : decode cX5_wish 26 = .ok (.invokestatic 68, 3) := by decide +kernel
theorem dX5_wish_29 : decode cX5_wish 29 = .ok (.ifCond .eq 19, 3) := by decide +kernel
theorem dX5_wish_32 : decode cX5_wish 32 = .ok (.iload_n 3, 1) := by decide +kernel
theorem dX5_wish_33 : decode cX5_wish 33 = .ok (.i2l, 1) := by decide +kernel
theorem dX5_wish_34 : decode cX5_wish 34 = .ok (.iconst 0, 1) := by decide +kernel
theorem dX5_wish_35 : decode cX5_wish 35 = .ok (.iload 4, 2) := by decide +kernel
theorem dX5_wish_37 : decode cX5_wish 37 = .ok (.invokestatic 68, 3) := by decide +kernel
theorem dX5_wish_40 : decode cX5_wish 40 = .ok (.ifCond .ne 11, 3) := by decide +kernel
theorem dX5_wish_43 : decode cX5_wish 43 = .ok (.iload_n 3, 1) := by decide +kernel
theorem dX5_wish_44 : decode cX5_wish 44 = .ok (.iconst (-1), 1) := by decide +kernel
theorem dX5_wish_45 : decode cX5_wish 45 = .ok (.if_icmp .eq 6, 3) := by decide +kernel
theorem dX5_wish_48 : decode cX5_wish 48 = .ok (.bipush (-2), 2) := by decide +kernel
theorem dX5_wish_50 : decode cX5_wish 50 = .ok (.ireturn, 1) := by decide +kernel
theorem dX5_wish_51 : decode cX5_wish 51 = .ok (.aload_n 0, 1) := by decide +kernel
theorem dX5_wish_52 : decode cX5_wish 52 = .ok (.invokevirtual 81, 3) := by decide +kernel
theorem dX5_wish_55 : decode cX5_wish 55 = .ok (.aload_n 0, 1) := by decide +kernel
theorem dX5_wish_56 : decode cX5_wish 56 = .ok (.getfield 25, 3) := by decide +kernel
theorem dX5_wish_59 : decode cX5_wish 59 = .ok (.iload_n 1, 1) := by decide +kernel
theorem dX5_wish_60 : decode cX5_wish 60 = .ok (.aaload, 1) := by decide +kernel
theorem dX5_wish_61 : decode cX5_wish 61 = .ok (.astore 5, 2) := by decide +kernel
theorem dX5_wish_63 : decode cX5_wish 63 = .ok (.iload_n 2, 1) := by decide +kernel
theorem dX5_wish_64 : decode cX5_wish 64 = .ok (.ifCond .ne 19, 3) := by decide +kernel
theorem dX5_wish_67 : decode cX5_wish 67 = .ok (.aload 5, 2) := by decide +kernel
theorem dX5_wish_69 : decode cX5_wish 69 = .ok (.getfield 157, 3) := by decide +kernel
theorem dX5_wish_72 : decode cX5_wish 72 = .ok (.istore 6, 2) := by decide +kernel
theorem dX5_wish_74 : decode cX5_wish 74 = .ok (.aload 5, 2) := by decide +kernel
theorem dX5_wish_76 : decode cX5_wish 76 = .ok (.iload_n 3, 1) := by decide +kernel
theorem dX5_wish_77 : decode cX5_wish 77 = .ok (.putfield 157, 3) := by decide +kernel
theorem dX5_wish_80 : decode cX5_wish 80 = .ok (.goto 16, 3) := by decide +kernel
theorem dX5_wish_83 : decode cX5_wish 83 = .ok (.aload 5, 2) := by decide +kernel
theorem dX5_wish_85 : decode cX5_wish 85 = .ok (.getfield 160, 3) := by decide +kernel
theorem dX5_wish_88 : decode cX5_wish 88 = .ok (.istore 6, 2) := by decide +kernel
theorem dX5_wish_90 : decode cX5_wish 90 = .ok (.aload 5, 2) := by decide +kernel
theorem dX5_wish_92 : decode cX5_wish 92 = .ok (.iload_n 3, 1) := by decide +kernel
theorem dX5_wish_93 : decode cX5_wish 93 = .ok (.putfield 160, 3) := by decide +kernel
theorem dX5_wish_96 : decode cX5_wish 96 = .ok (.iload 6, 2) := by decide +kernel
theorem dX5_wish_98 : decode cX5_wish 98 = .ok (.ireturn, 1) := by decide +kernel
set_option maxRecDepth 20000 in
theorem ggX5_info_X5_isWatcher : GoodIn wsX5_info wsX5_isWatcher := goodIn_r _ [16, 17, 18, 19, 15, 20, 118, 119, 120, 121, 122, 123, 124, 125, 126, 127, 128, 129, 130, 131, 132] (by decide +kernel) (by decide +kernel)
set_option maxRecDepth 20000 in
theorem gX5_info_X5_isWatcher : GoodIn wsX5_info (wsV RX5 147 RX5 yX5_isWatcher wsX5_isWatcher) := goodIn_app (goodIn_of _ (by decide +kernel)) ggX5_info_X5_isWatcher
set_option maxRecDepth 20000 in
theorem ggX5_info_X5_isWithin : GoodIn wsX5_info wsX5_isWithin := goodIn_r _ [20] (by decide +kernel) (by decide +kernel)
set_option maxRecDepth 20000 in
theorem gX5_info_X5_isWithin : GoodIn wsX5_info (va_wsS RX5 68 yX5_isWithin wsX5_isWithin) := goodIn_app (goodIn_of _ (by decide +kernel)) ggX5_info_X5_isWithin
set_option maxRecDepth 20000 in
theorem ggX5_info_X5_followArrivals : GoodIn wsX5_info wsX5_followArrivals := goodIn_r _ [24, 25, 26, 27, 28, 29, 30, 31, 17, 1, 2, 3, 4, 32, 33, 34, 35, 36, 37, 38, 39, 40, 41, 42, 43, 44, 45, 46, 47, 48, 49, 50, 51, 52, 53, 54, 55, 56, 57, 58, 59, 60, 61, 62, 63, 64, 65, 66, 67, 68, 69, 70, 71, 72, 73, 74, 75, 76, 77, 78, 79, 80, 81, 82, 83, 84, 85, 86, 87, 88, 89, 90, 91, 92, 93, 94, 95, 96, 97, 98, 99, 100, 101, 102, 103, 104, 105, 106, 107, 108, 118, 119, 120, 121, 122, 123, 124, 125, 126, 127, 128, 129, 130, 131, 132, 133, 134, 135, 136, 137, 146, 147, 148, 149, 150, 151, 152, 153, 154, 155, 138, 139, 140, 141, 142, 143, 144, 145, 156, 157] (by decide +kernel) (by decide +kernel)
set_option maxRecDepth 20000 in
theorem gX5_info_X5_followArrivals : GoodIn wsX5_info (wsV RX5 94 RX5 yX5_followArrivals wsX5_followArrivals) := goodIn_app (goodIn_of _ (by decide +kernel)) ggX5_info_X5_followArrivals
set_option maxRecDepth 20000 in
theorem ggX5_info_X4_keepsWishes : GoodIn wsX5_info wsX4_keepsWishes := goodIn_r _ [113, 114, 115, 116, 117, 133, 134, 135, 136, 137, 138, 139, 140, 141, 142, 143, 144, 145] (by decide +kernel) (by decide +kernel)
set_option maxRecDepth 20000 in
theorem gX5_info_X4_keepsWishes : GoodIn wsX5_info (wsV RX5 178 RX4 yX4_keepsWishes wsX4_keepsWishes) := goodIn_app (goodIn_of _ (by decide +kernel)) ggX5_info_X4_keepsWishes
theorem dX5_info_0 : decode cX5_info 0 = .ok (.aload_n 0, 1) := by decide +kernel
theorem dX5_info_1 : decode cX5_info 1 = .ok (.iload_n 1, 1) := by decide +kernel
theorem dX5_info_2 : decode cX5_info 2 = .ok (.invokevirtual 147, 3) := by decide +kernel
theorem dX5_info_5 : decode cX5_info 5 = .ok (.ifCond .eq 14, 3) := by decide +kernel
theorem dX5_info_8 : decode cX5_info 8 = .ok (.iload_n 2, 1) := by decide +kernel
theorem dX5_info_9 : decode cX5_info 9 = .ok (.i2l, 1) := by decide +kernel
theorem dX5_info_10 : decode cX5_info 10 = .ok (.iconst 0, 1) := by decide +kernel
theorem dX5_info_11 : decode cX5_info 11 = .ok (.bipush 9, 2) := by decide +kernel
theorem dX5_info_13 : decode cX5_info 13 = .ok (.invokestatic 68, 3) := by decide +kernel
theorem dX5_info_16 : decode cX5_info 16 = .ok (.ifCond .ne 6, 3) := by decide +kernel
theorem dX5_info_19 : decode cX5_info 19 = .ok (.bipush (-2), 2) := by decide +kernel
theorem dX5_info_21 : decode cX5_info 21 = .ok (.ireturn, 1) := by decide +kernel
theorem dX5_info_22 : decode cX5_info 22 = .ok (.aload_n 0, 1) := by decide +kernel
theorem dX5_info_23 : decode cX5_info 23 = .ok (.invokevirtual 94, 3) := by decide +kernel
theorem dX5_info_26 : decode cX5_info 26 = .ok (.aload_n 0, 1) := by decide +kernel
theorem dX5_info_27 : decode cX5_info 27 = .ok (.getfield 25, 3) := by decide +kernel
theorem dX5_info_30 : decode cX5_info 30 = .ok (.iload_n 1, 1) := by decide +kernel
theorem dX5_info_31 : decode cX5_info 31 = .ok (.aaload, 1) := by decide +kernel
theorem dX5_info_32 : decode cX5_info 32 = .ok (.astore_n 3, 1) := by decide +kernel
theorem dX5_info_33 : decode cX5_info 33 = .ok (.aload_n 3, 1) := by decide +kernel
theorem dX5_info_34 : decode cX5_info 34 = .ok (.getfield 163, 3) := by decide +kernel
theorem dX5_info_37 : decode cX5_info 37 = .ok (.astore 4, 2) := by decide +kernel
theorem dX5_info_39 : decode cX5_info 39 = .ok (.iload_n 2, 1) := by decide +kernel
theorem dX5_info_40 : decode cX5_info 40 = .ok (.tableswitch 111 0 8 #[52, 57, 62, 67, 72, 78, 84, 90, 96], 52) := by decide +kernel
theorem dX5_info_92 : decode cX5_info 92 = .ok (.aload_n 3, 1) := by decide +kernel
theorem dX5_info_93 : decode cX5_info 93 = .ok (.getfield 151, 3) := by decide +kernel
theorem dX5_info_96 : decode cX5_info 96 = .ok (.ireturn, 1) := by decide +kernel
theorem dX5_info_97 : decode cX5_info 97 = .ok (.aload_n 3, 1) := by decide +kernel
theorem dX5_info_98 : decode cX5_info 98 = .ok (.getfield 154, 3) := by decide +kernel
theorem dX5_info_101 : decode cX5_info 101 = .ok (.ireturn, 1) := by decide +kernel
theorem dX5_info_102 : decode cX5_info 102 = .ok (.aload_n 3, 1) := by decide +kernel
theorem dX5_info_103 : decode cX5_info 103 = .ok (.getfield 157, 3) := by decide +kernel
theorem dX5_info_106 : decode cX5_info 106 = .ok (.ireturn, 1) := by decide +kernel
theorem dX5_info_107 : decode cX5_info 107 = .ok (.aload_n 3, 1) := by decide +kernel
theorem dX5_info_108 : decode cX5_info 108 = .ok (.getfield 160, 3) := by decide +kernel
theorem dX5_info_111 : decode cX5_info 111 = .ok (.ireturn, 1) := by decide +kernel
theorem dX5_info_112 : decode cX5_info 112 = .ok (.aload 4, 2) := by decide +kernel
theorem dX5_info_114 : decode cX5_info 114 = .ok (.getfield 166, 3) := by decide +kernel
theorem dX5_info_117 : decode cX5_info 117 = .ok (.ireturn, 1) := by decide +kernel
theorem dX5_info_118 : decode cX5_info 118 = .ok (.aload 4, 2) := by decide +kernel
theorem dX5_info_120 : decode cX5_info 120 = .ok (.getfield 169, 3) := by decide +kernel
theorem dX5_info_123 : decode cX5_info 123 = .ok (.ireturn, 1) := by decide +kernel
theorem dX5_info_124 : decode cX5_info 124 = .ok (.aload 4, 2) := by decide +kernel
theorem dX5_info_126 : decode cX5_info 126 = .ok (.getfield 172, 3) := by decide +kernel
theorem dX5_info_129 : decode cX5_info 129 = .ok (.ireturn, 1) := by decide +kernel
theorem dX5_info_130 : decode cX5_info 130 = .ok (.aload 4, 2) := by decide +kernel
theorem dX5_info_132 : decode cX5_info 132 = .ok (.getfield 175, 3) := by decide +kernel
theorem dX5_info_135 : decode cX5_info 135 = .ok (.ireturn, 1) := by decide +kernel
theorem dX5_info_136 : decode cX5_info 136 = .ok (.aload_n 3, 1) := by decide +kernel
theorem dX5_info_137 : decode cX5_info 137 = .ok (.aload 4, 2) := by decide +kernel
theorem dX5_info_139 : decode cX5_info 139 = .ok (.invokevirtual 178, 3) := by decide +kernel
theorem dX5_info_142 : decode cX5_info 142 = .ok (.ifCond .eq 7, 3) := by decide +kernel
theorem dX5_info_145 : decode cX5_info 145 = .ok (.iconst 1, 1) := by decide +kernel
theorem dX5_info_146 : decode cX5_info 146 = .ok (.goto 4, 3) := by decide +kernel
theorem dX5_info_149 : decode cX5_info 149 = .ok (.iconst 0, 1) := by decide +kernel
theorem dX5_info_150 : decode cX5_info 150 = .ok (.ireturn, 1) := by decide +kernel
theorem dX5_info_151 : decode cX5_info 151 = .ok (.aload 4, 2) := by decide +kernel
theorem dX5_info_153 : decode cX5_info 153 = .ok (.getfield 182, 3) := by decide +kernel
theorem dX5_info_156 : decode cX5_info 156 = .ok (.ireturn, 1) := by decide +kernel
set_option maxRecDepth 20000 in
theorem ggX5_ledger_X5_isWatcher : GoodIn wsX5_ledger wsX5_isWatcher := goodIn_r _ [12, 13, 14, 15, 11, 16, 106, 107, 108, 109, 110, 111, 112, 113, 114, 115, 116, 117, 118, 119, 120] (by decide +kernel) (by decide +kernel)
set_option maxRecDepth 20000 in
theorem gX5_ledger_X5_isWatcher : GoodIn wsX5_ledger (wsV RX5 147 RX5 yX5_isWatcher wsX5_isWatcher) := goodIn_app (goodIn_of _ (by decide +kernel)) ggX5_ledger_X5_isWatcher
set_option maxRecDepth 20000 in
theorem ggX5_ledger_X5_isWithin : GoodIn wsX5_ledger wsX5_isWithin := goodIn_r _ [16] (by decide +kernel) (by decide +kernel)
set_option maxRecDepth 20000 in
theorem gX5_ledger_X5_isWithin : GoodIn wsX5_ledger (va_wsS RX5 68 yX5_isWithin wsX5_isWithin) := goodIn_app (goodIn_of _ (by decide +kernel)) ggX5_ledger_X5_isWithin
set_option maxRecDepth 20000 in
theorem ggX5_ledger_X5_followArrivals : GoodIn wsX5_ledger wsX5_followArrivals := goodIn_r _ [20, 21, 6, 22, 23, 24, 25, 26, 13, 1, 2, 27, 28, 29, 30, 31, 32, 33, 34, 35, 36, 37, 38, 39, 40, 41, 42, 43, 44, 45, 46, 47, 48, 49, 50, 51, 52, 53, 54, 55, 56, 57, 58, 59, 60, 61, 62, 63, 64, 65, 66, 67, 68, 69, 70, 71, 72, 73, 74, 75, 76, 77, 78, 79, 80, 81, 82, 83, 84, 85, 86, 87, 88, 89, 90, 91, 92, 93, 94, 95, 96, 97, 98, 99, 100, 101, 102, 103, 104, 105, 106, 107, 108, 109, 110, 111, 112, 113, 114, 115, 116, 117, 118, 119, 120, 121, 122, 123, 124, 125, 134, 135, 136, 137, 138, 139, 140, 141, 142, 143, 126, 127, 128, 129, 130, 131, 132, 133, 144, 145] (by decide +kernel) (by decide +kernel)
set_option maxRecDepth 20000 in
theorem gX5_ledger_X5_followArrivals : GoodIn wsX5_ledger (wsV RX5 94 RX5 yX5_followArrivals wsX5_followArrivals) := goodIn_app (goodIn_of _ (by decide +kernel)) ggX5_ledger_X5_followArrivals
theorem dX5_ledger_0 : decode cX5_ledger 0 = .ok (.aload_n 0, 1) := by decide +kernel
theorem dX5_ledger_1 : decode cX5_ledger 1 = .ok (.iload_n 1, 1) := by decide +kernel
theorem dX5_ledger_2 : decode cX5_ledger 2 = .ok (.invokevirtual 147, 3) := by decide +kernel
theorem dX5_ledger_5 : decode cX5_ledger 5 = .ok (.ifCond .eq 13, 3) := by decide +kernel
theorem dX5_ledger_8 : decode cX5_ledger 8 = .ok (.iload_n 3, 1) := by decide +kernel
theorem dX5_ledger_9 : decode cX5_ledger 9 = .ok (.i2l, 1) := by decide +kernel
theorem dX5_ledger_10 : decode cX5_ledger 10 = .ok (.iconst 0, 1) := by decide +kernel
theorem dX5_ledger_11 : decode cX5_ledger 11 = .ok (.iconst 2, 1) := by decide +kernel
theorem dX5_ledger_12 : decode cX5_ledger 12 = .ok (.invokestatic 68, 3) := by decide +kernel
theorem dX5_ledger_15 : decode cX5_ledger 15 = .ok (.ifCond .ne 6, 3) := by decide +kernel
theorem dX5_ledger_18 : decode cX5_ledger 18 = .ok (.bipush (-2), 2) := by decide +kernel
theorem dX5_ledger_20 : decode cX5_ledger 20 = .ok (.ireturn, 1) := by decide +kernel
theorem dX5_ledger_21 : decode cX5_ledger 21 = .ok (.aload_n 0, 1) := by decide +kernel
theorem dX5_ledger_22 : decode cX5_ledger 22 = .ok (.invokevirtual 94, 3) := by decide +kernel
theorem dX5_ledger_25 : decode cX5_ledger 25 = .ok (.aload_n 0, 1) := by decide +kernel
theorem dX5_ledger_26 : decode cX5_ledger 26 = .ok (.getfield 25, 3) := by decide +kernel
theorem dX5_ledger_29 : decode cX5_ledger 29 = .ok (.iload_n 1, 1) := by decide +kernel
theorem dX5_ledger_30 : decode cX5_ledger 30 = .ok (.aaload, 1) := by decide +kernel
theorem dX5_ledger_31 : decode cX5_ledger 31 = .ok (.getfield 163, 3) := by decide +kernel
theorem dX5_ledger_34 : decode cX5_ledger 34 = .ok (.astore 4, 2) := by decide +kernel
theorem dX5_ledger_36 : decode cX5_ledger 36 = .ok (.iload_n 2, 1) := by decide +kernel
theorem dX5_ledger_37 : decode cX5_ledger 37 = .ok (.i2l, 1) := by decide +kernel
theorem dX5_ledger_38 : decode cX5_ledger 38 = .ok (.iconst 0, 1) := by decide +kernel
theorem dX5_ledger_39 : decode cX5_ledger 39 = .ok (.aload 4, 2) := by decide +kernel
theorem dX5_ledger_41 : decode cX5_ledger 41 = .ok (.getfield 166, 3) := by decide +kernel
theorem dX5_ledger_44 : decode cX5_ledger 44 = .ok (.iconst 1, 1) := by decide +kernel
theorem dX5_ledger_45 : decode cX5_ledger 45 = .ok (.isub, 1) := by decide +kernel
theorem dX5_ledger_46 : decode cX5_ledger 46 = .ok (.invokestatic 68, 3) := by decide +kernel
theorem dX5_ledger_49 : decode cX5_ledger 49 = .ok (.ifCond .ne 6, 3) := by decide +kernel
theorem dX5_ledger_52 : decode cX5_ledger 52 = .ok (.bipush (-2), 2) := by decide +kernel
theorem dX5_ledger_54 : decode cX5_ledger 54 = .ok (.ireturn, 1) := by decide +kernel
theorem dX5_ledger_55 : decode cX5_ledger 55 = .ok (.aload 4, 2) := by decide +kernel
theorem dX5_ledger_57 : decode cX5_ledger 57 = .ok (.getfield 185, 3) := by decide +kernel
theorem dX5_ledger_60 : decode cX5_ledger 60 = .ok (.iload_n 2, 1) := by decide +kernel
theorem dX5_ledger_61 : decode cX5_ledger 61 = .ok (.iaload, 1) := by decide +kernel
theorem dX5_ledger_62 : decode cX5_ledger 62 = .ok (.istore 5, 2) := by decide +kernel
theorem dX5_ledger_64 : decode cX5_ledger 64 = .ok (.iload_n 3, 1) := by decide +kernel
theorem dX5_ledger_65 : decode cX5_ledger 65 = .ok (.lookupswitch 49 #[(0, 27), (1, 36)], 27) := by decide +kernel
theorem dX5_ledger_92 : decode cX5_ledger 92 = .ok (.aload 4, 2) := by decide +kernel
theorem dX5_ledger_94 : decode cX5_ledger 94 = .ok (.getfield 188, 3) := by decide +kernel
theorem dX5_ledger_97 : decode cX5_ledger 97 = .ok (.iload 5, 2) := by decide +kernel
theorem dX5_ledger_99 : decode cX5_ledger 99 = .ok (.iaload, 1) := by decide +kernel
theorem dX5_ledger_100 : decode cX5_ledger 100 = .ok (.ireturn, 1) := by decide +kernel
theorem dX5_ledger_101 : decode cX5_ledger 101 = .ok (.aload_n 0, 1) := by decide +kernel
theorem dX5_ledger_102 : decode cX5_ledger 102 = .ok (.getfield 40, 3) := by decide +kernel
theorem dX5_ledger_105 : decode cX5_ledger 105 = .ok (.getfield 109, 3) := by decide +kernel
theorem dX5_ledger_108 : decode cX5_ledger 108 = .ok (.iload 5, 2) := by decide +kernel
theorem dX5_ledger_110 : decode cX5_ledger 110 = .ok (.iconst 1, 1) := by decide +kernel
theorem dX5_ledger_111 : decode cX5_ledger 111 = .ok (.iadd, 1) := by decide +kernel
theorem dX5_ledger_112 : decode cX5_ledger 112 = .ok (.iaload, 1) := by decide +kernel
theorem dX5_ledger_113 : decode cX5_ledger 113 = .ok (.ireturn, 1) := by decide +kernel
theorem dX5_ledger_114 : decode cX5_ledger 114 = .ok (.iload 5, 2) := by decide +kernel
theorem dX5_ledger_116 : decode cX5_ledger 116 = .ok (.ireturn, 1) := by decide +kernel
set_option maxRecDepth 20000 in
theorem ggX5_limit_X5_followArrivals : GoodIn wsX5_limit wsX5_followArrivals := goodIn_r _ [10, 11, 1, 12, 13, 14, 15, 16, 17, 3, 4, 18, 19, 20, 21, 22, 23, 24, 25, 26, 27, 28, 29, 30, 31, 32, 33, 34, 35, 36, 37, 38, 39, 40, 41, 42, 43, 44, 45, 46, 47, 48, 49, 50, 51, 52, 53, 54, 55, 56, 57, 58, 59, 60, 61, 62, 63, 64, 65, 66, 67, 68, 69, 70, 71, 72, 73, 74, 75, 76, 77, 78, 79, 80, 81, 82, 83, 84, 85, 86, 87, 88, 89, 90, 91, 92, 93, 94, 95, 96, 104, 105, 106, 107, 108, 109, 110, 111, 112, 113, 114, 115, 116, 117, 118, 129, 130, 131, 132, 133, 119, 120, 121, 122, 123, 124, 125, 126, 127, 128, 134, 135, 136, 137, 138, 139, 140, 141, 142, 143] (by decide +kernel) (by decide +kernel)
set_option maxRecDepth 20000 in
theorem gX5_limit_X5_followArrivals : GoodIn wsX5_limit (wsV RX5 94 RX5 yX5_followArrivals wsX5_followArrivals) := goodIn_app (goodIn_of _ (by decide +kernel)) ggX5_limit_X5_followArrivals
set_option maxRecDepth 20000 in
theorem ggX5_limit_X5_isWatcher : GoodIn wsX5_limit wsX5_isWatcher := goodIn_r _ [100, 17, 101, 102, 9, 103, 104, 105, 106, 107, 108, 109, 110, 111, 112, 113, 114, 115, 116, 117, 118] (by decide +kernel) (by decide +kernel)
set_option maxRecDepth 20000 in
theorem gX5_limit_X5_isWatcher : GoodIn wsX5_limit (wsV RX5 147 RX5 yX5_isWatcher wsX5_isWatcher) := goodIn_app (goodIn_of _ (by decide +kernel)) ggX5_limit_X5_isWatcher
set_option maxRecDepth 20000 in
theorem ggX5_limit_X5_isWithin : GoodIn wsX5_limit wsX5_isWithin := goodIn_r _ [103] (by decide +kernel) (by decide +kernel)
set_option maxRecDepth 20000 in
theorem gX5_limit_X5_isWithin : GoodIn wsX5_limit (va_wsS RX5 68 yX5_isWithin wsX5_isWithin) := goodIn_app (goodIn_of _ (by decide +kernel)) ggX5_limit_X5_isWithin
theorem dX5_limit_0 : decode cX5_limit 0 = .ok (.aload_n 0, 1) := by decide +kernel
theorem dX5_limit_1 : decode cX5_limit 1 = .ok (.invokevirtual 94, 3) := by decide +kernel
theorem dX5_limit_4 : decode cX5_limit 4 = .ok (.aload_n 0, 1) := by decide +kernel
theorem dX5_limit_5 : decode cX5_limit 5 = .ok (.iload_n 1, 1) := by decide +kernel
theorem dX5_limit_6 : decode cX5_limit 6 = .ok (.invokevirtual 147, 3) := by decide +kernel
theorem dX5_limit_9 : decode cX5_limit 9 = .ok (.ifCond .eq 21, 3) := by decide +kernel
theorem dX5_limit_12 : decode cX5_limit 12 = .ok (.iload_n 2, 1) := by decide +kernel
theorem dX5_limit_13 : decode cX5_limit 13 = .ok (.i2l, 1) := by decide +kernel
theorem dX5_limit_14 : decode cX5_limit 14 = .ok (.iconst 0, 1) := by decide +kernel
theorem dX5_limit_15 : decode cX5_limit 15 = .ok (.aload_n 0, 1) := by decide +kernel
theorem dX5_limit_16 : decode cX5_limit 16 = .ok (.getfield 40, 3) := by decide +kernel
theorem dX5_limit_19 : decode cX5_limit 19 = .ok (.getfield 103, 3) := by decide +kernel
theorem dX5_limit_22 : decode cX5_limit 22 = .ok (.iconst 1, 1) := by decide +kernel
theorem dX5_limit_23 : decode cX5_limit 23 = .ok (.isub, 1) := by decide +kernel
theorem dX5_limit_24 : decode cX5_limit 24 = .ok (.invokestatic 68, 3) := by decide +kernel
theorem dX5_limit_27 : decode cX5_limit 27 = .ok (.ifCond .ne 6, 3) := by decide +kernel
theorem dX5_limit_30 : decode cX5_limit 30 = .ok (.bipush (-2), 2) := by decide +kernel
theorem dX5_limit_32 : decode cX5_limit 32 = .ok (.ireturn, 1) := by decide +kernel
theorem dX5_limit_33 : decode cX5_limit 33 = .ok (.aload_n 0, 1) := by decide +kernel
theorem dX5_limit_34 : decode cX5_limit 34 = .ok (.getfield 25, 3) := by decide +kernel
theorem dX5_limit_37 : decode cX5_limit 37 = .ok (.iload_n 1, 1) := by decide +kernel
theorem dX5_limit_38 : decode cX5_limit 38 = .ok (.aaload, 1) := by decide +kernel
theorem dX5_limit_39 : decode cX5_limit 39 = .ok (.getfield 163, 3) := by decide +kernel
theorem dX5_limit_42 : decode cX5_limit 42 = .ok (.getfield 188, 3) := by decide +kernel
theorem dX5_limit_45 : decode cX5_limit 45 = .ok (.iload_n 2, 1) := by decide +kernel
theorem dX5_limit_46 : decode cX5_limit 46 = .ok (.iaload, 1) := by decide +kernel
theorem dX5_limit_47 : decode cX5_limit 47 = .ok (.ireturn, 1) := by decide +kernel
set_option maxRecDepth 20000 in
theorem ggX5_doubts_X5_isWithin : GoodIn wsX5_doubts wsX5_isWithin := goodIn_r _ [9] (by decide +kernel) (by decide +kernel)
set_option maxRecDepth 20000 in
theorem gX5_doubts_X5_isWithin : GoodIn wsX5_doubts (va_wsS RX5 68 yX5_isWithin wsX5_isWithin) := goodIn_app (goodIn_of _ (by decide +kernel)) ggX5_doubts_X5_isWithin
set_option maxRecDepth 20000 in
theorem ggX5_doubts_X5_followArrivals : GoodIn wsX5_doubts wsX5_followArrivals := goodIn_r _ [13, 14, 1, 15, 16, 17, 18, 19, 2, 3, 4, 20, 21, 22, 23, 24, 25, 26, 27, 28, 29, 30, 31, 32, 33, 34, 35, 36, 37, 38, 39, 40, 41, 42, 43, 44, 45, 46, 47, 48, 49, 50, 51, 52, 53, 54, 55, 56, 57, 58, 59, 60, 61, 62, 63, 64, 65, 66, 67, 68, 69, 70, 71, 72, 73, 74, 75, 76, 77, 78, 79, 80, 81, 82, 83, 84, 85, 86, 87, 88, 89, 90, 91, 92, 93, 94, 95, 96, 97, 98, 103, 104, 105, 106, 107, 108, 109, 110, 111, 112, 113, 114, 115, 116, 117, 118, 119, 120, 121, 122, 131, 132, 133, 134, 135, 136, 137, 138, 139, 140, 123, 124, 125, 126, 127, 128, 129, 130, 141, 142] (by decide +kernel) (by decide +kernel)
set_option maxRecDepth 20000 in
theorem gX5_doubts_X5_followArrivals : GoodIn wsX5_doubts (wsV RX5 94 RX5 yX5_followArrivals wsX5_followArrivals) := goodIn_app (goodIn_of _ (by decide +kernel)) ggX5_doubts_X5_followArrivals
set_option maxRecDepth 20000 in
theorem ggX5_doubts_X0_latestAt : GoodIn wsX5_doubts wsX0_latestAt := goodIn_r _ [102, 36, 38, 131, 132, 133, 134, 135, 136, 137, 138, 139, 140] (by decide +kernel) (by decide +kernel)
set_option maxRecDepth 20000 in
theorem gX5_doubts_X0_latestAt : GoodIn wsX5_doubts (wsV RX5 130 RX0 yX0_latestAt wsX0_latestAt) := goodIn_app (goodIn_of _ (by decide +kernel)) ggX5_doubts_X0_latestAt
theorem dX5_doubts_0 : decode cX5_doubts 0 = .ok (.iload_n 1, 1) := by decide +kernel
theorem dX5_doubts_1 : decode cX5_doubts 1 = .ok (.i2l, 1) := by decide +kernel
theorem dX5_doubts_2 : decode cX5_doubts 2 = .ok (.iconst 0, 1) := by decide +kernel
theorem dX5_doubts_3 : decode cX5_doubts 3 = .ok (.sipush 6000, 3) := by decide +kernel
theorem dX5_doubts_6 : decode cX5_doubts 6 = .ok (.invokestatic 68, 3) := by decide +kernel
theorem dX5_doubts_9 : decode cX5_doubts 9 = .ok (.ifCond .ne 6, 3) := by decide +kernel
theorem dX5_doubts_12 : decode cX5_doubts 12 = .ok (.bipush (-2), 2) := by decide +kernel
theorem dX5_doubts_14 : decode cX5_doubts 14 = .ok (.ireturn, 1) := by decide +kernel
theorem dX5_doubts_15 : decode cX5_doubts 15 = .ok (.aload_n 0, 1) := by decide +kernel
theorem dX5_doubts_16 : decode cX5_doubts 16 = .ok (.invokevirtual 94, 3) := by decide +kernel
theorem dX5_doubts_19 : decode cX5_doubts 19 = .ok (.aload_n 0, 1) := by decide +kernel
theorem dX5_doubts_20 : decode cX5_doubts 20 = .ok (.getfield 40, 3) := by decide +kernel
theorem dX5_doubts_23 : decode cX5_doubts 23 = .ok (.iload_n 1, 1) := by decide +kernel
theorem dX5_doubts_24 : decode cX5_doubts 24 = .ok (.invokevirtual 130, 3) := by decide +kernel
theorem dX5_doubts_27 : decode cX5_doubts 27 = .ok (.istore_n 2, 1) := by decide +kernel
theorem dX5_doubts_28 : decode cX5_doubts 28 = .ok (.iload_n 2, 1) := by decide +kernel
theorem dX5_doubts_29 : decode cX5_doubts 29 = .ok (.iconst (-1), 1) := by decide +kernel
theorem dX5_doubts_30 : decode cX5_doubts 30 = .ok (.if_icmp .ne 5, 3) := by decide +kernel
theorem dX5_doubts_33 : decode cX5_doubts 33 = .ok (.iconst 0, 1) := by decide +kernel
theorem dX5_doubts_34 : decode cX5_doubts 34 = .ok (.ireturn, 1) := by decide +kernel
theorem dX5_doubts_35 : decode cX5_doubts 35 = .ok (.iconst 0, 1) := by decide +kernel
theorem dX5_doubts_36 : decode cX5_doubts 36 = .ok (.istore_n 3, 1) := by decide +kernel
theorem dX5_doubts_37 : decode cX5_doubts 37 = .ok (.iconst 0, 1) := by decide +kernel
theorem dX5_doubts_38 : decode cX5_doubts 38 = .ok (.istore 4, 2) := by decide +kernel
theorem dX5_doubts_40 : decode cX5_doubts 40 = .ok (.iload 4, 2) := by decide +kernel
theorem dX5_doubts_42 : decode cX5_doubts 42 = .ok (.aload_n 0, 1) := by decide +kernel
theorem dX5_doubts_43 : decode cX5_doubts 43 = .ok (.getfield 140, 3) := by decide +kernel
theorem dX5_doubts_46 : decode cX5_doubts 46 = .ok (.if_icmp .ge 45, 3) := by decide +kernel
theorem dX5_doubts_49 : decode cX5_doubts 49 = .ok (.aload_n 0, 1) := by decide +kernel
theorem dX5_doubts_50 : decode cX5_doubts 50 = .ok (.getfield 25, 3) := by decide +kernel
theorem dX5_doubts_53 : decode cX5_doubts 53 = .ok (.iload 4, 2) := by decide +kernel
theorem dX5_doubts_55 : decode cX5_doubts 55 = .ok (.aaload, 1) := by decide +kernel
theorem dX5_doubts_56 : decode cX5_doubts 56 = .ok (.getfield 163, 3) := by decide +kernel
theorem dX5_doubts_59 : decode cX5_doubts 59 = .ok (.getfield 188, 3) := by decide +kernel
theorem dX5_doubts_62 : decode cX5_doubts 62 = .ok (.iload_n 2, 1) := by decide +kernel
theorem dX5_doubts_63 : decode cX5_doubts 63 = .ok (.iaload, 1) := by decide +kernel
theorem dX5_doubts_64 : decode cX5_doubts 64 = .ok (.istore 5, 2) := by decide +kernel
theorem dX5_doubts_66 : decode cX5_doubts 66 = .ok (.iload 5, 2) := by decide +kernel
theorem dX5_doubts_68 : decode cX5_doubts 68 = .ok (.iconst (-1), 1) := by decide +kernel
theorem dX5_doubts_69 : decode cX5_doubts 69 = .ok (.if_icmp .eq 16, 3) := by decide +kernel
theorem dX5_doubts_72 : decode cX5_doubts 72 = .ok (.iload 5, 2) := by decide +kernel
theorem dX5_doubts_74 : decode cX5_doubts 74 = .ok (.iload_n 1, 1) := by decide +kernel
theorem dX5_doubts_75 : decode cX5_doubts 75 = .ok (.if_icmp .gt 10, 3) := by decide +kernel
theorem dX5_doubts_78 : decode cX5_doubts 78 = .ok (.iload_n 3, 1) := by decide +kernel
theorem dX5_doubts_79 : decode cX5_doubts 79 = .ok (.iconst 1, 1) := by decide +kernel
theorem dX5_doubts_80 : decode cX5_doubts 80 = .ok (.iload 4, 2) := by decide +kernel
theorem dX5_doubts_82 : decode cX5_doubts 82 = .ok (.ishl, 1) := by decide +kernel
theorem dX5_doubts_83 : decode cX5_doubts 83 = .ok (.ior, 1) := by decide +kernel
theorem dX5_doubts_84 : decode cX5_doubts 84 = .ok (.istore_n 3, 1) := by decide +kernel
theorem dX5_doubts_85 : decode cX5_doubts 85 = .ok (.iinc 4 1, 3) := by decide +kernel
theorem dX5_doubts_88 : decode cX5_doubts 88 = .ok (.goto (-48), 3) := by decide +kernel
theorem dX5_doubts_91 : decode cX5_doubts 91 = .ok (.iload_n 3, 1) := by decide +kernel
theorem dX5_doubts_92 : decode cX5_doubts 92 = .ok (.ireturn, 1) := by decide +kernel
set_option maxRecDepth 20000 in
theorem ggX5_noticed_X5_isWatcher : GoodIn wsX5_noticed wsX5_isWatcher := goodIn_r _ [13, 14, 15, 16, 12, 17, 104, 105, 106, 107, 108, 109, 110, 111, 112, 113, 114, 115, 116, 117, 118] (by decide +kernel) (by decide +kernel)
set_option maxRecDepth 20000 in
theorem gX5_noticed_X5_isWatcher : GoodIn wsX5_noticed (wsV RX5 147 RX5 yX5_isWatcher wsX5_isWatcher) := goodIn_app (goodIn_of _ (by decide +kernel)) ggX5_noticed_X5_isWatcher
set_option maxRecDepth 20000 in
theorem ggX5_noticed_X5_followArrivals : GoodIn wsX5_noticed wsX5_followArrivals := goodIn_r _ [21, 22, 23, 24, 25, 26, 27, 4, 14, 1, 2, 28, 29, 30, 31, 32, 33, 34, 35, 36, 37, 38, 39, 40, 41, 42, 43, 44, 45, 46, 47, 48, 49, 50, 51, 52, 7, 53, 54, 55, 56, 57, 58, 59, 60, 61, 62, 63, 64, 65, 66, 67, 68, 69, 70, 71, 72, 73, 74, 6, 8, 75, 76, 77, 78, 79, 80, 81, 82, 83, 84, 85, 86, 87, 88, 89, 90, 91, 92, 93, 94, 95, 96, 97, 98, 99, 100, 101, 102, 103, 104, 105, 106, 107, 108, 109, 110, 111, 112, 113, 114, 115, 116, 117, 118, 119, 120, 121, 122, 123, 132, 133, 134, 135, 136, 137, 138, 139, 140, 141, 124, 125, 126, 127, 128, 129, 130, 131, 142, 143] (by decide +kernel) (by decide +kernel)
set_option maxRecDepth 20000 in
theorem gX5_noticed_X5_followArrivals : GoodIn wsX5_noticed (wsV RX5 94 RX5 yX5_followArrivals wsX5_followArrivals) := goodIn_app (goodIn_of _ (by decide +kernel)) ggX5_noticed_X5_followArrivals
theorem dX5_noticed_0 : decode cX5_noticed 0 = .ok (.aload_n 0, 1) := by decide +kernel
theorem dX5_noticed_1 : decode cX5_noticed 1 = .ok (.iload_n 1, 1) := by decide +kernel
theorem dX5_noticed_2 : decode cX5_noticed 2 = .ok (.invokevirtual 147, 3) := by decide +kernel
theorem dX5_noticed_5 : decode cX5_noticed 5 = .ok (.ifCond .ne 6, 3) := by decide +kernel
theorem dX5_noticed_8 : decode cX5_noticed 8 = .ok (.bipush (-2), 2) := by decide +kernel
theorem dX5_noticed_10 : decode cX5_noticed 10 = .ok (.ireturn, 1) := by decide +kernel
theorem dX5_noticed_11 : decode cX5_noticed 11 = .ok (.aload_n 0, 1) := by decide +kernel
theorem dX5_noticed_12 : decode cX5_noticed 12 = .ok (.invokevirtual 94, 3) := by decide +kernel
theorem dX5_noticed_15 : decode cX5_noticed 15 = .ok (.aload_n 0, 1) := by decide +kernel
theorem dX5_noticed_16 : decode cX5_noticed 16 = .ok (.getfield 25, 3) := by decide +kernel
theorem dX5_noticed_19 : decode cX5_noticed 19 = .ok (.iload_n 1, 1) := by decide +kernel
theorem dX5_noticed_20 : decode cX5_noticed 20 = .ok (.aaload, 1) := by decide +kernel
theorem dX5_noticed_21 : decode cX5_noticed 21 = .ok (.getfield 163, 3) := by decide +kernel
theorem dX5_noticed_24 : decode cX5_noticed 24 = .ok (.getfield 182, 3) := by decide +kernel
theorem dX5_noticed_27 : decode cX5_noticed 27 = .ok (.istore_n 2, 1) := by decide +kernel
theorem dX5_noticed_28 : decode cX5_noticed 28 = .ok (.aload_n 0, 1) := by decide +kernel
theorem dX5_noticed_29 : decode cX5_noticed 29 = .ok (.getfield 20, 3) := by decide +kernel
theorem dX5_noticed_32 : decode cX5_noticed 32 = .ok (.iconst (-1), 1) := by decide +kernel
theorem dX5_noticed_33 : decode cX5_noticed 33 = .ok (.if_icmp .eq 8, 3) := by decide +kernel
theorem dX5_noticed_36 : decode cX5_noticed 36 = .ok (.iload_n 2, 1) := by decide +kernel
theorem dX5_noticed_37 : decode cX5_noticed 37 = .ok (.iconst (-1), 1) := by decide +kernel
theorem dX5_noticed_38 : decode cX5_noticed 38 = .ok (.if_icmp .ne 5, 3) := by decide +kernel
theorem dX5_noticed_41 : decode cX5_noticed 41 = .ok (.iconst (-1), 1) := by decide +kernel
theorem dX5_noticed_42 : decode cX5_noticed 42 = .ok (.ireturn, 1) := by decide +kernel
theorem dX5_noticed_43 : decode cX5_noticed 43 = .ok (.iload_n 2, 1) := by decide +kernel
theorem dX5_noticed_44 : decode cX5_noticed 44 = .ok (.aload_n 0, 1) := by decide +kernel
theorem dX5_noticed_45 : decode cX5_noticed 45 = .ok (.getfield 20, 3) := by decide +kernel
theorem dX5_noticed_48 : decode cX5_noticed 48 = .ok (.isub, 1) := by decide +kernel
theorem dX5_noticed_49 : decode cX5_noticed 49 = .ok (.iconst 0, 1) := by decide +kernel
theorem dX5_noticed_50 : decode cX5_noticed 50 = .ok (.invokestatic 191, 3) := by decide +kernel
theorem dX5_noticed_53 : decode cX5_noticed 53 = .ok (.ireturn, 1) := by decide +kernel
set_option maxRecDepth 20000 in
theorem ggX5_least_X5_isWithin : GoodIn wsX5_least wsX5_isWithin := goodIn_r _ [9] (by decide +kernel) (by decide +kernel)
set_option maxRecDepth 20000 in
theorem gX5_least_X5_isWithin : GoodIn wsX5_least (va_wsS RX5 68 yX5_isWithin wsX5_isWithin) := goodIn_app (goodIn_of _ (by decide +kernel)) ggX5_least_X5_isWithin
set_option maxRecDepth 20000 in
theorem ggX5_least_X5_followArrivals : GoodIn wsX5_least wsX5_followArrivals := goodIn_r _ [13, 14, 4, 15, 16, 17, 18, 19, 20, 21, 22, 23, 24, 25, 26, 27, 28, 29, 30, 31, 32, 33, 34, 35, 36, 37, 38, 39, 40, 41, 42, 43, 44, 45, 46, 47, 48, 49, 50, 51, 52, 53, 54, 55, 56, 57, 58, 59, 60, 61, 62, 63, 64, 65, 66, 67, 68, 69, 70, 71, 72, 73, 74, 75, 76, 77, 78, 79, 80, 81, 82, 83, 84, 85, 86, 87, 88, 89, 90, 91, 92, 93, 94, 95, 96, 97, 98, 99, 100, 101, 102, 103, 104, 105, 106, 107, 108, 109, 110, 111, 112, 113, 114, 115, 116, 125, 126, 127, 128, 129, 130, 131, 132, 133, 134, 135, 136, 137, 138, 139, 117, 118, 119, 120, 121, 122, 123, 124, 140, 141] (by decide +kernel) (by decide +kernel)
set_option maxRecDepth 20000 in
theorem gX5_least_X5_followArrivals : GoodIn wsX5_least (wsV RX5 94 RX5 yX5_followArrivals wsX5_followArrivals) := goodIn_app (goodIn_of _ (by decide +kernel)) ggX5_least_X5_followArrivals
set_option maxRecDepth 20000 in
theorem ggX5_least_X1_keep : GoodIn wsX5_least wsX1_keep := goodIn_r _ [57, 58, 59, 60, 61, 62, 63, 64, 65, 66, 67, 68, 69, 70, 71, 48, 72, 73, 74, 75, 76, 77, 78, 79, 80, 81, 82, 83, 84, 85, 86, 87, 88, 89, 90, 56, 91, 92, 93, 94, 95, 96, 97, 98, 99, 100, 101, 117, 118, 119, 120, 121, 122, 123, 124, 130, 131, 132, 133, 134, 135, 136, 137, 138, 139, 140, 141] (by decide +kernel) (by decide +kernel)
set_option maxRecDepth 20000 in
theorem gX5_least_X1_keep : GoodIn wsX5_least (wsV RX5 200 RX1 yX1_keep wsX1_keep) := goodIn_app (goodIn_of _ (by decide +kernel)) ggX5_least_X1_keep
theorem dX5_least_0 : decode cX5_least 0 = .ok (.iload_n 1, 1) := by decide +kernel
theorem dX5_least_1 : decode cX5_least 1 = .ok (.i2l, 1) := by decide +kernel
theorem dX5_least_2 : decode cX5_least 2 = .ok (.iconst 0, 1) := by decide +kernel
theorem dX5_least_3 : decode cX5_least 3 = .ok (.iconst 2, 1) := by decide +kernel
theorem dX5_least_4 : decode cX5_least 4 = .ok (.invokestatic 68, 3) := by decide +kernel
theorem dX5_least_7 : decode cX5_least 7 = .ok (.ifCond .eq 14, 3) := by decide +kernel
theorem dX5_least_10 : decode cX5_least 10 = .ok (.iload_n 2, 1) := by decide +kernel
theorem dX5_least_11 : decode cX5_least 11 = .ok (.i2l, 1) := by decide +kernel
theorem dX5_least_12 : decode cX5_least 12 = .ok (.iconst 0, 1) := by decide +kernel
theorem dX5_least_13 : decode cX5_least 13 = .ok (.bipush 40, 2) := by decide +kernel
theorem dX5_least_15 : decode cX5_least 15 = .ok (.invokestatic 68, 3) := by decide +kernel
theorem dX5_least_18 : decode cX5_least 18 = .ok (.ifCond .ne 6, 3) := by decide +kernel
theorem dX5_least_21 : decode cX5_least 21 = .ok (.bipush (-2), 2) := by decide +kernel
theorem dX5_least_23 : decode cX5_least 23 = .ok (.ireturn, 1) := by decide +kernel
theorem dX5_least_24 : decode cX5_least 24 = .ok (.aload_n 0, 1) := by decide +kernel
theorem dX5_least_25 : decode cX5_least 25 = .ok (.invokevirtual 94, 3) := by decide +kernel
theorem dX5_least_28 : decode cX5_least 28 = .ok (.getstatic 194, 3) := by decide +kernel
theorem dX5_least_31 : decode cX5_least 31 = .ok (.iload_n 1, 1) := by decide +kernel
theorem dX5_least_32 : decode cX5_least 32 = .ok (.iaload, 1) := by decide +kernel
theorem dX5_least_33 : decode cX5_least 33 = .ok (.istore_n 3, 1) := by decide +kernel
theorem dX5_least_34 : decode cX5_least 34 = .ok (.iload_n 3, 1) := by decide +kernel
theorem dX5_least_35 : decode cX5_least 35 = .ok (.getstatic 197, 3) := by decide +kernel
theorem dX5_least_38 : decode cX5_least 38 = .ok (.iload_n 1, 1) := by decide +kernel
theorem dX5_least_39 : decode cX5_least 39 = .ok (.iaload, 1) := by decide +kernel
theorem dX5_least_40 : decode cX5_least 40 = .ok (.if_icmp .gt 35, 3) := by decide +kernel
theorem dX5_least_43 : decode cX5_least 43 = .ok (.aload_n 0, 1) := by decide +kernel
theorem dX5_least_44 : decode cX5_least 44 = .ok (.getfield 53, 3) := by decide +kernel
theorem dX5_least_47 : decode cX5_least 47 = .ok (.aload_n 0, 1) := by decide +kernel
theorem dX5_least_48 : decode cX5_least 48 = .ok (.getfield 40, 3) := by decide +kernel
theorem dX5_least_51 : decode cX5_least 51 = .ok (.iload_n 1, 1) := by decide +kernel
theorem dX5_least_52 : decode cX5_least 52 = .ok (.iload_n 3, 1) := by decide +kernel
theorem dX5_least_53 : decode cX5_least 53 = .ok (.invokevirtual 200, 3) := by decide +kernel
theorem dX5_least_56 : decode cX5_least 56 = .ok (.aload_n 0, 1) := by decide +kernel
theorem dX5_least_57 : decode cX5_least 57 = .ok (.getfield 53, 3) := by decide +kernel
theorem dX5_least_60 : decode cX5_least 60 = .ok (.getfield 166, 3) := by decide +kernel
theorem dX5_least_63 : decode cX5_least 63 = .ok (.iload_n 2, 1) := by decide +kernel
theorem dX5_least_64 : decode cX5_least 64 = .ok (.if_icmp .gt 5, 3) := by decide +kernel
theorem dX5_least_67 : decode cX5_least 67 = .ok (.iload_n 3, 1) := by decide +kernel
theorem dX5_least_68 : decode cX5_least 68 = .ok (.ireturn, 1) := by decide +kernel
theorem dX5_least_69 : decode cX5_least 69 = .ok (.iinc 3 1, 3) := by decide +kernel
theorem dX5_least_72 : decode cX5_least 72 = .ok (.goto (-38), 3) := by decide +kernel
theorem dX5_least_75 : decode cX5_least 75 = .ok (.iconst (-1), 1) := by decide +kernel
theorem dX5_least_76 : decode cX5_least 76 = .ok (.ireturn, 1) := by decide +kernel
set_option maxRecDepth 20000 in
theorem ggX5_longest_X5_isWatcher : GoodIn wsX5_longest wsX5_isWatcher := goodIn_r _ [5, 6, 7, 8, 4, 9, 115, 116, 117, 118, 119, 120, 121, 122, 123, 124, 125, 126, 127, 128, 129] (by decide +kernel) (by decide +kernel)
set_option maxRecDepth 20000 in
theorem gX5_longest_X5_isWatcher : GoodIn wsX5_longest (wsV RX5 147 RX5 yX5_isWatcher wsX5_isWatcher) := goodIn_app (goodIn_of _ (by decide +kernel)) ggX5_longest_X5_isWatcher
set_option maxRecDepth 20000 in
theorem ggX5_longest_X5_weighPeriods : GoodIn wsX5_longest wsX5_weighPeriods := goodIn_r _ [13, 14, 15, 16, 17, 18, 19, 20, 6, 21, 22, 23, 24, 25, 26, 27, 28, 29, 30, 31, 32, 33, 34, 35, 36, 37, 38, 39, 40, 41, 42, 43, 44, 45, 46, 47, 48, 49, 50, 51, 52, 53, 54, 55, 56, 57, 58, 59, 60, 61, 62, 63, 64, 65, 66, 67, 68, 69, 70, 71, 72, 73, 74, 75, 76, 77, 78, 79, 80, 81, 82, 83, 84, 85, 86, 87, 88, 89, 90, 91, 92, 93, 94, 95, 96, 97, 98, 99, 100, 101, 102, 103, 104, 105, 106, 107, 108, 109, 110, 115, 116, 117, 118, 119, 120, 121, 122, 123, 124, 125, 126, 127, 128, 129, 130, 131, 132, 133, 134, 135, 136, 137, 138, 139, 140, 141, 142, 143, 144, 145, 146, 147, 148, 149, 150, 151, 152, 153, 154] (by decide +kernel) (by decide +kernel)
set_option maxRecDepth 20000 in
theorem gX5_longest_X5_weighPeriods : GoodIn wsX5_longest (wsV RX5 204 RX5 yX5_weighPeriods wsX5_weighPeriods) := goodIn_app (goodIn_of _ (by decide +kernel)) ggX5_longest_X5_weighPeriods
set_option maxRecDepth 20000 in
theorem ggX5_longest_X5_longestKeptBy : GoodIn wsX5_longest wsX5_longestKeptBy := goodIn_r _ [114, 20, 115, 116, 117, 118, 119, 120, 121, 122, 123, 124, 125, 126, 127, 128, 129] (by decide +kernel) (by decide +kernel)
set_option maxRecDepth 20000 in
theorem gX5_longest_X5_longestKeptBy : GoodIn wsX5_longest (wsV RX5 207 RX5 yX5_longestKeptBy wsX5_longestKeptBy) := goodIn_app (goodIn_of _ (by decide +kernel)) ggX5_longest_X5_longestKeptBy
theorem dX5_longest_0 : decode cX5_longest 0 = .ok (.aload_n 0, 1) := by decide +kernel
theorem dX5_longest_1 : decode cX5_longest 1 = .ok (.iload_n 1, 1) := by decide +kernel
theorem dX5_longest_2 : decode cX5_longest 2 = .ok (.invokevirtual 147, 3) := by decide +kernel
theorem dX5_longest_5 : decode cX5_longest 5 = .ok (.ifCond .ne 6, 3) := by decide +kernel
theorem dX5_longest_8 : decode cX5_longest 8 = .ok (.bipush (-2), 2) := by decide +kernel
theorem dX5_longest_10 : decode cX5_longest 10 = .ok (.ireturn, 1) := by decide +kernel
theorem dX5_longest_11 : decode cX5_longest 11 = .ok (.aload_n 0, 1) := by decide +kernel
theorem dX5_longest_12 : decode cX5_longest 12 = .ok (.invokevirtual 204, 3) := by decide +kernel
theorem dX5_longest_15 : decode cX5_longest 15 = .ok (.aload_n 0, 1) := by decide +kernel
theorem dX5_longest_16 : decode cX5_longest 16 = .ok (.iconst 1, 1) := by decide +kernel
theorem dX5_longest_17 : decode cX5_longest 17 = .ok (.iload_n 1, 1) := by decide +kernel
theorem dX5_longest_18 : decode cX5_longest 18 = .ok (.ishl, 1) := by decide +kernel
theorem dX5_longest_19 : decode cX5_longest 19 = .ok (.invokevirtual 207, 3) := by decide +kernel
theorem dX5_longest_22 : decode cX5_longest 22 = .ok (.ireturn, 1) := by decide +kernel
set_option maxRecDepth 20000 in
theorem ggX5_shared_X5_weighPeriods : GoodIn wsX5_shared wsX5_weighPeriods := goodIn_r _ [6, 7, 8, 9, 10, 11, 12, 13, 1, 14, 15, 16, 17, 18, 19, 20, 21, 22, 23, 24, 25, 26, 27, 28, 29, 30, 31, 32, 33, 34, 35, 36, 37, 38, 39, 40, 41, 42, 43, 44, 45, 46, 47, 48, 49, 50, 51, 52, 53, 54, 55, 56, 57, 58, 59, 60, 61, 62, 63, 64, 65, 66, 67, 68, 69, 70, 71, 72, 73, 74, 75, 76, 77, 78, 79, 80, 81, 82, 83, 84, 85, 86, 87, 88, 89, 90, 91, 92, 93, 94, 95, 96, 97, 98, 99, 100, 101, 102, 103, 108, 109, 110, 111, 112, 113, 114, 115, 116, 117, 118, 119, 120, 121, 122, 123, 124, 125, 126, 127, 128, 129, 130, 131, 132, 133, 134, 135, 136, 137, 138, 139, 140, 141, 142, 143, 144, 145, 146, 147] (by decide +kernel) (by decide +kernel)
set_option maxRecDepth 20000 in
theorem gX5_shared_X5_weighPeriods : GoodIn wsX5_shared (wsV RX5 204 RX5 yX5_weighPeriods wsX5_weighPeriods) := goodIn_app (goodIn_of _ (by decide +kernel)) ggX5_shared_X5_weighPeriods
set_option maxRecDepth 20000 in
theorem ggX5_shared_X5_longestKeptBy : GoodIn wsX5_shared wsX5_longestKeptBy := goodIn_r _ [107, 13, 108, 109, 110, 111, 112, 113, 114, 115, 116, 117, 118, 119, 120, 121, 122] (by decide +kernel) (by decide +kernel)
set_option maxRecDepth 20000 in
theorem gX5_shared_X5_longestKeptBy : GoodIn wsX5_shared (wsV RX5 207 RX5 yX5_longestKeptBy wsX5_longestKeptBy) := goodIn_app (goodIn_of _ (by decide +kernel)) ggX5_shared_X5_longestKeptBy
theorem dX5_shared_0 : decode cX5_shared 0 = .ok (.aload_n 0, 1) := by decide +kernel
theorem dX5_shared_1 : decode cX5_shared 1 = .ok (.invokevirtual 204, 3) := by decide +kernel
theorem dX5_shared_4 : decode cX5_shared 4 = .ok (.aload_n 0, 1) := by decide +kernel
theorem dX5_shared_5 : decode cX5_shared 5 = .ok (.iconst 1, 1) := by decide +kernel
theorem dX5_shared_6 : decode cX5_shared 6 = .ok (.aload_n 0, 1) := by decide +kernel
theorem dX5_shared_7 : decode cX5_shared 7 = .ok (.getfield 140, 3) := by decide +kernel
theorem dX5_shared_10 : decode cX5_shared 10 = .ok (.ishl, 1) := by decide +kernel
theorem dX5_shared_11 : decode cX5_shared 11 = .ok (.iconst 1, 1) := by decide +kernel
theorem dX5_shared_12 : decode cX5_shared 12 = .ok (.isub, 1) := by decide +kernel
theorem dX5_shared_13 : decode cX5_shared 13 = .ok (.invokevirtual 207, 3) := by decide +kernel
theorem dX5_shared_16 : decode cX5_shared 16 = .ok (.ireturn, 1) := by decide +kernel
set_option maxRecDepth 20000 in
theorem ggX5_saved_X5_shared : GoodIn wsX5_saved wsX5_shared := goodIn_r _ [7, 1, 8, 9, 10, 6, 11, 12, 13, 14, 15, 16, 17, 18, 19, 20, 21, 22, 23, 24, 25, 26, 27, 28, 29, 30, 31, 32, 33, 34, 35, 36, 37, 38, 39, 40, 41, 42, 43, 44, 45, 46, 47, 48, 49, 50, 51, 52, 53, 54, 55, 56, 57, 58, 59, 60, 61, 62, 63, 64, 65, 66, 67, 68, 69, 70, 71, 72, 73, 74, 75, 76, 77, 78, 79, 80, 81, 82, 83, 84, 85, 86, 87, 88, 89, 90, 91, 92, 93, 94, 95, 96, 97, 98, 99, 100, 101, 102, 103, 104, 105, 106, 107, 108, 109, 110, 111, 112, 127, 128, 129, 130, 131, 132, 133, 134, 135, 136, 137, 138, 139, 140, 141, 142, 143, 144, 145, 146, 147, 148, 149, 150, 151, 152, 153, 154, 155, 156, 157, 158, 159, 160, 161, 162, 163, 164, 165, 166] (by decide +kernel) (by decide +kernel)
set_option maxRecDepth 20000 in
theorem gX5_saved_X5_shared : GoodIn wsX5_saved (wsV RX5 210 RX5 yX5_shared wsX5_shared) := goodIn_app (goodIn_of _ (by decide +kernel)) ggX5_saved_X5_shared
set_option maxRecDepth 20000 in
theorem ggX5_saved_X5_longest : GoodIn wsX5_saved wsX5_longest := goodIn_r _ [116, 117, 118, 119, 6, 120, 1, 121, 122, 123, 8, 9, 10, 11, 12, 13, 14, 15, 16, 17, 18, 19, 20, 21, 22, 23, 24, 25, 26, 27, 28, 29, 30, 31, 32, 33, 34, 35, 36, 37, 38, 39, 40, 41, 42, 43, 44, 45, 46, 47, 48, 49, 50, 51, 52, 53, 54, 55, 56, 57, 58, 59, 60, 61, 62, 63, 64, 65, 66, 67, 68, 69, 70, 71, 72, 73, 74, 75, 76, 77, 78, 79, 80, 81, 82, 83, 84, 85, 86, 87, 88, 89, 90, 91, 92, 93, 94, 95, 96, 97, 98, 99, 100, 101, 102, 103, 104, 105, 106, 107, 108, 109, 110, 111, 112, 127, 128, 129, 130, 131, 132, 133, 134, 135, 136, 137, 138, 139, 140, 141, 142, 143, 144, 145, 146, 147, 148, 149, 150, 151, 152, 153, 154, 155, 156, 157, 158, 159, 160, 161, 162, 163, 164, 165, 166] (by decide +kernel) (by decide +kernel)
set_option maxRecDepth 20000 in
theorem gX5_saved_X5_longest : GoodIn wsX5_saved (wsV RX5 215 RX5 yX5_longest wsX5_longest) := goodIn_app (goodIn_of _ (by decide +kernel)) ggX5_saved_X5_longest
set_option maxRecDepth 20000 in
theorem ggX5_saved_X5_sentWith : GoodIn wsX5_saved wsX5_sentWith := goodIn_r _ [126] (by decide +kernel) (by decide +kernel)
set_option maxRecDepth 20000 in
theorem gX5_saved_X5_sentWith : GoodIn wsX5_saved (va_wsS RX5 218 yX5_sentWith wsX5_sentWith) := goodIn_app (goodIn_of _ (by decide +kernel)) ggX5_saved_X5_sentWith
theorem dX5_saved_0 : decode cX5_saved 0 = .ok (.aload_n 0, 1) := by decide +kernel
theorem dX5_saved_1 : decode cX5_saved 1 = .ok (.invokevirtual 210, 3) := by decide +kernel
theorem dX5_saved_4 : decode cX5_saved 4 = .ok (.istore_n 1, 1) := by decide +kernel
theorem dX5_saved_5 : decode cX5_saved 5 = .ok (.iload_n 1, 1) := by decide +kernel
theorem dX5_saved_6 : decode cX5_saved 6 = .ok (.iconst (-1), 1) := by decide +kernel
theorem dX5_saved_7 : decode cX5_saved 7 = .ok (.if_icmp .eq 10, 3) := by decide +kernel
theorem dX5_saved_10 : decode cX5_saved 10 = .ok (.aload_n 0, 1) := by decide +kernel
theorem dX5_saved_11 : decode cX5_saved 11 = .ok (.getfield 140, 3) := by decide +kernel
theorem dX5_saved_14 : decode cX5_saved 14 = .ok (.ifCond .ne 6, 3) := by decide +kernel
theorem dX5_saved_17 : decode cX5_saved 17 = .ok (.ldc 214, 2) := by decide +kernel
theorem dX5_saved_19 : decode cX5_saved 19 = .ok (.ireturn, 1) := by decide +kernel
theorem dX5_saved_20 : decode cX5_saved 20 = .ok (.iconst 0, 1) := by decide +kernel
theorem dX5_saved_21 : decode cX5_saved 21 = .ok (.istore_n 2, 1) := by decide +kernel
theorem dX5_saved_22 : decode cX5_saved 22 = .ok (.iconst 0, 1) := by decide +kernel
theorem dX5_saved_23 : decode cX5_saved 23 = .ok (.istore_n 3, 1) := by decide +kernel
theorem dX5_saved_24 : decode cX5_saved 24 = .ok (.iload_n 3, 1) := by decide +kernel
theorem dX5_saved_25 : decode cX5_saved 25 = .ok (.aload_n 0, 1) := by decide +kernel
theorem dX5_saved_26 : decode cX5_saved 26 = .ok (.getfield 140, 3) := by decide +kernel
theorem dX5_saved_29 : decode cX5_saved 29 = .ok (.if_icmp .ge 20, 3) := by decide +kernel
theorem dX5_saved_32 : decode cX5_saved 32 = .ok (.iload_n 2, 1) := by decide +kernel
theorem dX5_saved_33 : decode cX5_saved 33 = .ok (.aload_n 0, 1) := by decide +kernel
theorem dX5_saved_34 : decode cX5_saved 34 = .ok (.iload_n 3, 1) := by decide +kernel
theorem dX5_saved_35 : decode cX5_saved 35 = .ok (.invokevirtual 215, 3) := by decide +kernel
theorem dX5_saved_38 : decode cX5_saved 38 = .ok (.invokestatic 218, 3) := by decide +kernel
theorem dX5_saved_41 : decode cX5_saved 41 = .ok (.iadd, 1) := by decide +kernel
theorem dX5_saved_42 : decode cX5_saved 42 = .ok (.istore_n 2, 1) := by decide +kernel
theorem dX5_saved_43 : decode cX5_saved 43 = .ok (.iinc 3 1, 3) := by decide +kernel
theorem dX5_saved_46 : decode cX5_saved 46 = .ok (.goto (-22), 3) := by decide +kernel
theorem dX5_saved_49 : decode cX5_saved 49 = .ok (.iload_n 2, 1) := by decide +kernel
theorem dX5_saved_50 : decode cX5_saved 50 = .ok (.iload_n 1, 1) := by decide +kernel
theorem dX5_saved_51 : decode cX5_saved 51 = .ok (.invokestatic 218, 3) := by decide +kernel
theorem dX5_saved_54 : decode cX5_saved 54 = .ok (.isub, 1) := by decide +kernel
theorem dX5_saved_55 : decode cX5_saved 55 = .ok (.ireturn, 1) := by decide +kernel
set_option maxRecDepth 20000 in
theorem ggX5_sheet_X5_isSheet : GoodIn wsX5_sheet wsX5_isSheet := goodIn_r _ [5, 6, 7, 4, 8] (by decide +kernel) (by decide +kernel)
set_option maxRecDepth 20000 in
theorem gX5_sheet_X5_isSheet : GoodIn wsX5_sheet (va_wsS RX5 221 yX5_isSheet wsX5_isSheet) := goodIn_app (goodIn_of _ (by decide +kernel)) ggX5_sheet_X5_isSheet
set_option maxRecDepth 20000 in
theorem ggX5_sheet_X5_isWithin : GoodIn wsX5_sheet wsX5_isWithin := goodIn_r _ [8] (by decide +kernel) (by decide +kernel)
set_option maxRecDepth 20000 in
theorem gX5_sheet_X5_isWithin : GoodIn wsX5_sheet (va_wsS RX5 68 yX5_isWithin wsX5_isWithin) := goodIn_app (goodIn_of _ (by decide +kernel)) ggX5_sheet_X5_isWithin
set_option maxRecDepth 20000 in
theorem ggX5_sheet_X5_find : GoodIn wsX5_sheet wsX5_find := goodIn_r _ [12, 13, 29, 30, 31, 32, 33, 34, 35, 36, 37, 38, 39, 40, 41, 42, 43] (by decide +kernel) (by decide +kernel)
set_option maxRecDepth 20000 in
theorem gX5_sheet_X5_find : GoodIn wsX5_sheet (wsV RX5 224 RX5 yX5_find wsX5_find) := goodIn_app (goodIn_of _ (by decide +kernel)) ggX5_sheet_X5_find
set_option maxRecDepth 20000 in
theorem ggX5_sheet_X3_begin : GoodIn wsX5_sheet wsX3_begin := goodIn_r _ [18, 19, 20, 21, 22, 23, 24, 25, 17, 26, 27, 28, 44, 45, 46, 47, 48, 49] (by decide +kernel) (by decide +kernel)
set_option maxRecDepth 20000 in
theorem gX5_sheet_X3_begin : GoodIn wsX5_sheet (wsV RX5 227 RX3 yX3_begin wsX3_begin) := goodIn_app (goodIn_of _ (by decide +kernel)) ggX5_sheet_X3_begin
theorem dX5_sheet_0 : decode cX5_sheet 0 = .ok (.iload_n 1, 1) := by decide +kernel
theorem dX5_sheet_1 : decode cX5_sheet 1 = .ok (.invokestatic 221, 3) := by decide +kernel
theorem dX5_sheet_4 : decode cX5_sheet 4 = .ok (.ifCond .eq 19, 3) := by decide +kernel
theorem dX5_sheet_7 : decode cX5_sheet 7 = .ok (.iload_n 2, 1) := by decide +kernel
theorem dX5_sheet_8 : decode cX5_sheet 8 = .ok (.i2l, 1) := by decide +kernel
theorem dX5_sheet_9 : decode cX5_sheet 9 = .ok (.iconst 0, 1) := by decide +kernel
theorem dX5_sheet_10 : decode cX5_sheet 10 = .ok (.iconst 1, 1) := by decide +kernel
theorem dX5_sheet_11 : decode cX5_sheet 11 = .ok (.invokestatic 68, 3) := by decide +kernel
theorem dX5_sheet_14 : decode cX5_sheet 14 = .ok (.ifCond .eq 9, 3) := by decide +kernel
theorem dX5_sheet_17 : decode cX5_sheet 17 = .ok (.iload_n 3, 1) := by decide +kernel
theorem dX5_sheet_18 : decode cX5_sheet 18 = .ok (.bipush 40, 2) := by decide +kernel
theorem dX5_sheet_20 : decode cX5_sheet 20 = .ok (.if_icmp .le 6, 3) := by decide +kernel
theorem dX5_sheet_23 : decode cX5_sheet 23 = .ok (.bipush (-2), 2) := by decide +kernel
theorem dX5_sheet_25 : decode cX5_sheet 25 = .ok (.ireturn, 1) := by decide +kernel
theorem dX5_sheet_26 : decode cX5_sheet 26 = .ok (.iload_n 3, 1) := by decide +kernel
theorem dX5_sheet_27 : decode cX5_sheet 27 = .ok (.ifCond .ge 9, 3) := by decide +kernel
theorem dX5_sheet_30 : decode cX5_sheet 30 = .ok (.aload_n 0, 1) := by decide +kernel
theorem dX5_sheet_31 : decode cX5_sheet 31 = .ok (.iconst 5, 1) := by decide +kernel
theorem dX5_sheet_32 : decode cX5_sheet 32 = .ok (.invokevirtual 224, 3) := by decide +kernel
theorem dX5_sheet_35 : decode cX5_sheet 35 = .ok (.ireturn, 1) := by decide +kernel
theorem dX5_sheet_36 : decode cX5_sheet 36 = .ok (.aload_n 0, 1) := by decide +kernel
theorem dX5_sheet_37 : decode cX5_sheet 37 = .ok (.getfield 32, 3) := by decide +kernel
theorem dX5_sheet_40 : decode cX5_sheet 40 = .ok (.iload_n 1, 1) := by decide +kernel
theorem dX5_sheet_41 : decode cX5_sheet 41 = .ok (.aaload, 1) := by decide +kernel
theorem dX5_sheet_42 : decode cX5_sheet 42 = .ok (.iload_n 2, 1) := by decide +kernel
theorem dX5_sheet_43 : decode cX5_sheet 43 = .ok (.iload_n 3, 1) := by decide +kernel
theorem dX5_sheet_44 : decode cX5_sheet 44 = .ok (.invokevirtual 227, 3) := by decide +kernel
theorem dX5_sheet_47 : decode cX5_sheet 47 = .ok (.iload_n 3, 1) := by decide +kernel
theorem dX5_sheet_48 : decode cX5_sheet 48 = .ok (.ireturn, 1) := by decide +kernel
set_option maxRecDepth 20000 in
theorem ggX5_lose_X5_isSheet : GoodIn wsX5_lose wsX5_isSheet := goodIn_r _ [7, 8, 9, 6, 10] (by decide +kernel) (by decide +kernel)
set_option maxRecDepth 20000 in
theorem gX5_lose_X5_isSheet : GoodIn wsX5_lose (va_wsS RX5 221 yX5_isSheet wsX5_isSheet) := goodIn_app (goodIn_of _ (by decide +kernel)) ggX5_lose_X5_isSheet
set_option maxRecDepth 20000 in
theorem ggX5_lose_X5_find : GoodIn wsX5_lose wsX5_find := goodIn_r _ [14, 15, 16, 17, 18, 19, 20, 21, 22, 23, 24, 25, 26, 27, 28, 29, 30] (by decide +kernel) (by decide +kernel)
set_option maxRecDepth 20000 in
theorem gX5_lose_X5_find : GoodIn wsX5_lose (wsV RX5 224 RX5 yX5_find wsX5_find) := goodIn_app (goodIn_of _ (by decide +kernel)) ggX5_lose_X5_find
theorem dX5_lose_0 : decode cX5_lose 0 = .ok (.iload_n 1, 1) := by decide +kernel
theorem dX5_lose_1 : decode cX5_lose 1 = .ok (.invokestatic 221, 3) := by decide +kernel
theorem dX5_lose_4 : decode cX5_lose 4 = .ok (.ifCond .ne 6, 3) := by decide +kernel
theorem dX5_lose_7 : decode cX5_lose 7 = .ok (.bipush (-2), 2) := by decide +kernel
theorem dX5_lose_9 : decode cX5_lose 9 = .ok (.ireturn, 1) := by decide +kernel
theorem dX5_lose_10 : decode cX5_lose 10 = .ok (.aload_n 0, 1) := by decide +kernel
theorem dX5_lose_11 : decode cX5_lose 11 = .ok (.getfield 32, 3) := by decide +kernel
theorem dX5_lose_14 : decode cX5_lose 14 = .ok (.iload_n 1, 1) := by decide +kernel
theorem dX5_lose_15 : decode cX5_lose 15 = .ok (.aaload, 1) := by decide +kernel
theorem dX5_lose_16 : decode cX5_lose 16 = .ok (.getfield 228, 3) := by decide +kernel
theorem dX5_lose_19 : decode cX5_lose 19 = .ok (.ifCond .eq 9, 3) := by decide +kernel
theorem dX5_lose_22 : decode cX5_lose 22 = .ok (.aload_n 0, 1) := by decide +kernel
theorem dX5_lose_23 : decode cX5_lose 23 = .ok (.iconst 1, 1) := by decide +kernel
theorem dX5_lose_24 : decode cX5_lose 24 = .ok (.invokevirtual 224, 3) := by decide +kernel
theorem dX5_lose_27 : decode cX5_lose 27 = .ok (.ireturn, 1) := by decide +kernel
theorem dX5_lose_28 : decode cX5_lose 28 = .ok (.aload_n 0, 1) := by decide +kernel
theorem dX5_lose_29 : decode cX5_lose 29 = .ok (.getfield 32, 3) := by decide +kernel
theorem dX5_lose_32 : decode cX5_lose 32 = .ok (.iload_n 1, 1) := by decide +kernel
theorem dX5_lose_33 : decode cX5_lose 33 = .ok (.aaload, 1) := by decide +kernel
theorem dX5_lose_34 : decode cX5_lose 34 = .ok (.iconst 1, 1) := by decide +kernel
theorem dX5_lose_35 : decode cX5_lose 35 = .ok (.putfield 228, 3) := by decide +kernel
theorem dX5_lose_38 : decode cX5_lose 38 = .ok (.aload_n 0, 1) := by decide +kernel
theorem dX5_lose_39 : decode cX5_lose 39 = .ok (.getfield 32, 3) := by decide +kernel
theorem dX5_lose_42 : decode cX5_lose 42 = .ok (.iload_n 1, 1) := by decide +kernel
theorem dX5_lose_43 : decode cX5_lose 43 = .ok (.aaload, 1) := by decide +kernel
theorem dX5_lose_44 : decode cX5_lose 44 = .ok (.getfield 87, 3) := by decide +kernel
theorem dX5_lose_47 : decode cX5_lose 47 = .ok (.ireturn, 1) := by decide +kernel
set_option maxRecDepth 20000 in
theorem ggX5_put_X5_isWithin : GoodIn wsX5_put wsX5_isWithin := goodIn_r _ [7] (by decide +kernel) (by decide +kernel)
set_option maxRecDepth 20000 in
theorem gX5_put_X5_isWithin : GoodIn wsX5_put (va_wsS RX5 68 yX5_isWithin wsX5_isWithin) := goodIn_app (goodIn_of _ (by decide +kernel)) ggX5_put_X5_isWithin
set_option maxRecDepth 20000 in
theorem ggX5_put_X5_refusalOfRow : GoodIn wsX5_put wsX5_refusalOfRow := goodIn_r _ [11, 1, 12, 13, 14, 15, 6, 16, 4, 5, 7, 17, 18, 19, 20, 21, 34, 35, 36, 37, 38, 39, 40, 41, 42, 43, 44, 45, 46, 47, 48, 49, 50, 51, 52, 53, 54] (by decide +kernel) (by decide +kernel)
set_option maxRecDepth 20000 in
theorem gX5_put_X5_refusalOfRow : GoodIn wsX5_put (wsV RX5 84 RX5 yX5_refusalOfRow wsX5_refusalOfRow) := goodIn_app (goodIn_of _ (by decide +kernel)) ggX5_put_X5_refusalOfRow
set_option maxRecDepth 20000 in
theorem ggX5_put_X3_hasItems : GoodIn wsX5_put wsX3_hasItems := goodIn_r _ [26, 27, 49, 50, 51, 52, 53, 54] (by decide +kernel) (by decide +kernel)
set_option maxRecDepth 20000 in
theorem gX5_put_X3_hasItems : GoodIn wsX5_put (wsV RX5 232 RX3 yX3_hasItems wsX3_hasItems) := goodIn_app (goodIn_of _ (by decide +kernel)) ggX5_put_X3_hasItems
set_option maxRecDepth 20000 in
theorem ggX5_put_X5_find : GoodIn wsX5_put wsX5_find := goodIn_r _ [20, 21, 34, 35, 36, 37, 38, 39, 40, 41, 42, 43, 44, 45, 46, 47, 48] (by decide +kernel) (by decide +kernel)
set_option maxRecDepth 20000 in
theorem gX5_put_X5_find : GoodIn wsX5_put (wsV RX5 224 RX5 yX5_find wsX5_find) := goodIn_app (goodIn_of _ (by decide +kernel)) ggX5_put_X5_find
set_option maxRecDepth 20000 in
theorem ggX5_put_X3_putNumber : GoodIn wsX5_put wsX3_putNumber := goodIn_r _ [31, 32, 33, 49, 50, 51, 52, 53, 54] (by decide +kernel) (by decide +kernel)
set_option maxRecDepth 20000 in
theorem gX5_put_X3_putNumber : GoodIn wsX5_put (wsV RX5 237 RX3 yX3_putNumber wsX3_putNumber) := goodIn_app (goodIn_of _ (by decide +kernel)) ggX5_put_X3_putNumber
theorem dX5_put_0 : decode cX5_put 0 = .ok (.iload_n 2, 1) := by decide +kernel
theorem dX5_put_1 : decode cX5_put 1 = .ok (.i2l, 1) := by decide +kernel
theorem dX5_put_2 : decode cX5_put 2 = .ok (.iconst 0, 1) := by decide +kernel
theorem dX5_put_3 : decode cX5_put 3 = .ok (.iconst 1, 1) := by decide +kernel
theorem dX5_put_4 : decode cX5_put 4 = .ok (.invokestatic 68, 3) := by decide +kernel
theorem dX5_put_7 : decode cX5_put 7 = .ok (.ifCond .ne 6, 3) := by decide +kernel
theorem dX5_put_10 : decode cX5_put 10 = .ok (.bipush (-2), 2) := by decide +kernel
theorem dX5_put_12 : decode cX5_put 12 = .ok (.ireturn, 1) := by decide +kernel
theorem dX5_put_13 : decode cX5_put 13 = .ok (.aload_n 0, 1) := by decide +kernel
theorem dX5_put_14 : decode cX5_put 14 = .ok (.iload_n 1, 1) := by decide +kernel
theorem dX5_put_15 : decode cX5_put 15 = .ok (.iload_n 2, 1) := by decide +kernel
theorem dX5_put_16 : decode cX5_put 16 = .ok (.invokevirtual 84, 3) := by decide +kernel
theorem dX5_put_19 : decode cX5_put 19 = .ok (.istore 5, 2) := by decide +kernel
theorem dX5_put_21 : decode cX5_put 21 = .ok (.iload 5, 2) := by decide +kernel
theorem dX5_put_23 : decode cX5_put 23 = .ok (.ifCond .eq 6, 3) := by decide +kernel
theorem dX5_put_26 : decode cX5_put 26 = .ok (.iload 5, 2) := by decide +kernel
theorem dX5_put_28 : decode cX5_put 28 = .ok (.ireturn, 1) := by decide +kernel
theorem dX5_put_29 : decode cX5_put 29 = .ok (.aload_n 0, 1) := by decide +kernel
theorem dX5_put_30 : decode cX5_put 30 = .ok (.getfield 32, 3) := by decide +kernel
theorem dX5_put_33 : decode cX5_put 33 = .ok (.iload_n 1, 1) := by decide +kernel
theorem dX5_put_34 : decode cX5_put 34 = .ok (.aaload, 1) := by decide +kernel
theorem dX5_put_35 : decode cX5_put 35 = .ok (.iload_n 3, 1) := by decide +kernel
theorem dX5_put_36 : decode cX5_put 36 = .ok (.iconst 1, 1) := by decide +kernel
theorem dX5_put_37 : decode cX5_put 37 = .ok (.invokevirtual 232, 3) := by decide +kernel
theorem dX5_put_40 : decode cX5_put 40 = .ok (.ifCond .ne 9, 3) := by decide +kernel
theorem dX5_put_43 : decode cX5_put 43 = .ok (.aload_n 0, 1) := by decide +kernel
theorem dX5_put_44 : decode cX5_put 44 = .ok (.iconst 2, 1) := by decide +kernel
theorem dX5_put_45 : decode cX5_put 45 = .ok (.invokevirtual 224, 3) := by decide +kernel
theorem dX5_put_48 : decode cX5_put 48 = .ok (.ireturn, 1) := by decide +kernel
theorem dX5_put_49 : decode cX5_put 49 = .ok (.iload_n 2, 1) := by decide +kernel
theorem dX5_put_50 : decode cX5_put 50 = .ok (.ifCond .ne 20, 3) := by decide +kernel
theorem dX5_put_53 : decode cX5_put 53 = .ok (.aload_n 0, 1) := by decide +kernel
theorem dX5_put_54 : decode cX5_put 54 = .ok (.getfield 32, 3) := by decide +kernel
theorem dX5_put_57 : decode cX5_put 57 = .ok (.iload_n 1, 1) := by decide +kernel
theorem dX5_put_58 : decode cX5_put 58 = .ok (.aaload, 1) := by decide +kernel
theorem dX5_put_59 : decode cX5_put 59 = .ok (.getfield 90, 3) := by decide +kernel
theorem dX5_put_62 : decode cX5_put 62 = .ok (.iload_n 3, 1) := by decide +kernel
theorem dX5_put_63 : decode cX5_put 63 = .ok (.iload 4, 2) := by decide +kernel
theorem dX5_put_65 : decode cX5_put 65 = .ok (.i2l, 1) := by decide +kernel
theorem dX5_put_66 : decode cX5_put 66 = .ok (.lastore, 1) := by decide +kernel
theorem dX5_put_67 : decode cX5_put 67 = .ok (.goto 20, 3) := by decide +kernel
theorem dX5_put_70 : decode cX5_put 70 = .ok (.aload_n 0, 1) := by decide +kernel
theorem dX5_put_71 : decode cX5_put 71 = .ok (.getfield 32, 3) := by decide +kernel
theorem dX5_put_74 : decode cX5_put 74 = .ok (.iload_n 1, 1) := by decide +kernel
theorem dX5_put_75 : decode cX5_put 75 = .ok (.aaload, 1) := by decide +kernel
theorem dX5_put_76 : decode cX5_put 76 = .ok (.iload_n 3, 1) := by decide +kernel
theorem dX5_put_77 : decode cX5_put 77 = .ok (.iload 4, 2) := by decide +kernel
theorem dX5_put_79 : decode cX5_put 79 = .ok (.i2d, 1) := by decide +kernel
theorem dX5_put_80 : decode cX5_put 80 = .ok (.ldc2_w 235, 3) := by decide +kernel
theorem dX5_put_83 : decode cX5_put 83 = .ok (.ddiv, 1) := by decide +kernel
theorem dX5_put_84 : decode cX5_put 84 = .ok (.invokevirtual 237, 3) := by decide +kernel
theorem dX5_put_87 : decode cX5_put 87 = .ok (.iconst 1, 1) := by decide +kernel
theorem dX5_put_88 : decode cX5_put 88 = .ok (.ireturn, 1) := by decide +kernel
set_option maxRecDepth 20000 in
theorem ggX5_get_X5_isSheet : GoodIn wsX5_get wsX5_isSheet := goodIn_r _ [11, 12, 13, 10, 14] (by decide +kernel) (by decide +kernel)
set_option maxRecDepth 20000 in
theorem gX5_get_X5_isSheet : GoodIn wsX5_get (va_wsS RX5 221 yX5_isSheet wsX5_isSheet) := goodIn_app (goodIn_of _ (by decide +kernel)) ggX5_get_X5_isSheet
set_option maxRecDepth 20000 in
theorem ggX5_get_X5_asLong : GoodIn wsX5_get wsX5_asLong := goodIn_r _ [17, 18] (by decide +kernel) (by decide +kernel)
set_option maxRecDepth 20000 in
theorem gX5_get_X5_asLong : GoodIn wsX5_get (va_wsS RX5 116 yX5_asLong wsX5_asLong) := goodIn_app (goodIn_of _ (by decide +kernel)) ggX5_get_X5_asLong
set_option maxRecDepth 20000 in
theorem ggX5_get_X5_find : GoodIn wsX5_get wsX5_find := goodIn_r _ [22, 23, 30, 31, 32, 33, 34, 35, 36, 37, 38, 39, 40, 41, 42, 43, 44] (by decide +kernel) (by decide +kernel)
set_option maxRecDepth 20000 in
theorem gX5_get_X5_find : GoodIn wsX5_get (wsV RX5 224 RX5 yX5_find wsX5_find) := goodIn_app (goodIn_of _ (by decide +kernel)) ggX5_get_X5_find
set_option maxRecDepth 20000 in
theorem ggX5_get_X3_hasItems : GoodIn wsX5_get wsX3_hasItems := goodIn_r _ [28, 29, 45, 46, 47, 48, 49, 50] (by decide +kernel) (by decide +kernel)
set_option maxRecDepth 20000 in
theorem gX5_get_X3_hasItems : GoodIn wsX5_get (wsV RX5 232 RX3 yX3_hasItems wsX3_hasItems) := goodIn_app (goodIn_of _ (by decide +kernel)) ggX5_get_X3_hasItems
theorem dX5_get_0 : decode cX5_get 0 = .ok (.iload_n 1, 1) := by decide +kernel
theorem dX5_get_1 : decode cX5_get 1 = .ok (.invokestatic 221, 3) := by decide +kernel
theorem dX5_get_4 : decode cX5_get 4 = .ok (.ifCond .ne 9, 3) := by decide +kernel
theorem dX5_get_7 : decode cX5_get 7 = .ok (.bipush (-2), 2) := by decide +kernel
theorem dX5_get_9 : decode cX5_get 9 = .ok (.invokestatic 116, 3) := by decide +kernel
theorem dX5_get_12 : decode cX5_get 12 = .ok (.lreturn, 1) := by decide +kernel
theorem dX5_get_13 : decode cX5_get 13 = .ok (.aload_n 0, 1) := by decide +kernel
theorem dX5_get_14 : decode cX5_get 14 = .ok (.getfield 32, 3) := by decide +kernel
theorem dX5_get_17 : decode cX5_get 17 = .ok (.iload_n 1, 1) := by decide +kernel
theorem dX5_get_18 : decode cX5_get 18 = .ok (.aaload, 1) := by decide +kernel
theorem dX5_get_19 : decode cX5_get 19 = .ok (.astore_n 3, 1) := by decide +kernel
theorem dX5_get_20 : decode cX5_get 20 = .ok (.aload_n 3, 1) := by decide +kernel
theorem dX5_get_21 : decode cX5_get 21 = .ok (.getfield 228, 3) := by decide +kernel
theorem dX5_get_24 : decode cX5_get 24 = .ok (.ifCond .eq 12, 3) := by decide +kernel
theorem dX5_get_27 : decode cX5_get 27 = .ok (.aload_n 0, 1) := by decide +kernel
theorem dX5_get_28 : decode cX5_get 28 = .ok (.iconst 1, 1) := by decide +kernel
theorem dX5_get_29 : decode cX5_get 29 = .ok (.invokevirtual 224, 3) := by decide +kernel
theorem dX5_get_32 : decode cX5_get 32 = .ok (.invokestatic 116, 3) := by decide +kernel
theorem dX5_get_35 : decode cX5_get 35 = .ok (.lreturn, 1) := by decide +kernel
theorem dX5_get_36 : decode cX5_get 36 = .ok (.aload_n 3, 1) := by decide +kernel
theorem dX5_get_37 : decode cX5_get 37 = .ok (.iload_n 2, 1) := by decide +kernel
theorem dX5_get_38 : decode cX5_get 38 = .ok (.iconst 1, 1) := by decide +kernel
theorem dX5_get_39 : decode cX5_get 39 = .ok (.invokevirtual 232, 3) := by decide +kernel
theorem dX5_get_42 : decode cX5_get 42 = .ok (.ifCond .ne 12, 3) := by decide +kernel
theorem dX5_get_45 : decode cX5_get 45 = .ok (.aload_n 0, 1) := by decide +kernel
theorem dX5_get_46 : decode cX5_get 46 = .ok (.iconst 2, 1) := by decide +kernel
theorem dX5_get_47 : decode cX5_get 47 = .ok (.invokevirtual 224, 3) := by decide +kernel
theorem dX5_get_50 : decode cX5_get 50 = .ok (.invokestatic 116, 3) := by decide +kernel
theorem dX5_get_53 : decode cX5_get 53 = .ok (.lreturn, 1) := by decide +kernel
theorem dX5_get_54 : decode cX5_get 54 = .ok (.aload_n 3, 1) := by decide +kernel
theorem dX5_get_55 : decode cX5_get 55 = .ok (.getfield 241, 3) := by decide +kernel
theorem dX5_get_58 : decode cX5_get 58 = .ok (.ifCond .ne 10, 3) := by decide +kernel
theorem dX5_get_61 : decode cX5_get 61 = .ok (.aload_n 3, 1) := by decide +kernel
theorem dX5_get_62 : decode cX5_get 62 = .ok (.getfield 90, 3) := by decide +kernel
theorem dX5_get_65 : decode cX5_get 65 = .ok (.iload_n 2, 1) := by decide +kernel
theorem dX5_get_66 : decode cX5_get 66 = .ok (.laload, 1) := by decide +kernel
theorem dX5_get_67 : decode cX5_get 67 = .ok (.lreturn, 1) := by decide +kernel
theorem dX5_get_68 : decode cX5_get 68 = .ok (.aload_n 3, 1) := by decide +kernel
theorem dX5_get_69 : decode cX5_get 69 = .ok (.getfield 244, 3) := by decide +kernel
theorem dX5_get_72 : decode cX5_get 72 = .ok (.iload_n 2, 1) := by decide +kernel
theorem dX5_get_73 : decode cX5_get 73 = .ok (.baload, 1) := by decide +kernel
theorem dX5_get_74 : decode cX5_get 74 = .ok (.ifCond .eq 10, 3) := by decide +kernel
theorem dX5_get_77 : decode cX5_get 77 = .ok (.iconst (-1), 1) := by decide +kernel
theorem dX5_get_78 : decode cX5_get 78 = .ok (.invokestatic 116, 3) := by decide +kernel
theorem dX5_get_81 : decode cX5_get 81 = .ok (.goto 14, 3) := by decide +kernel
theorem dX5_get_84 : decode cX5_get 84 = .ok (.ldc2_w 235, 3) := by decide +kernel
theorem dX5_get_87 : decode cX5_get 87 = .ok (.aload_n 3, 1) := by decide +kernel
theorem dX5_get_88 : decode cX5_get 88 = .ok (.getfield 248, 3) := by decide +kernel
theorem dX5_get_91 : decode cX5_get 91 = .ok (.iload_n 2, 1) := by decide +kernel
theorem dX5_get_92 : decode cX5_get 92 = .ok (.daload, 1) := by decide +kernel
theorem dX5_get_93 : decode cX5_get 93 = .ok (.dmul, 1) := by decide +kernel
theorem dX5_get_94 : decode cX5_get 94 = .ok (.d2l, 1) := by decide +kernel
theorem dX5_get_95 : decode cX5_get 95 = .ok (.lreturn, 1) := by decide +kernel
set_option maxRecDepth 20000 in
theorem ggX5_copy_X5_isSheet : GoodIn wsX5_copy wsX5_isSheet := goodIn_r _ [7, 8, 9, 6, 10] (by decide +kernel) (by decide +kernel)
set_option maxRecDepth 20000 in
theorem gX5_copy_X5_isSheet : GoodIn wsX5_copy (va_wsS RX5 221 yX5_isSheet wsX5_isSheet) := goodIn_app (goodIn_of _ (by decide +kernel)) ggX5_copy_X5_isSheet
set_option maxRecDepth 20000 in
theorem ggX5_copy_X5_find : GoodIn wsX5_copy wsX5_find := goodIn_r _ [14, 15, 29, 30, 31, 32, 33, 34, 35, 36, 37, 38, 39, 40, 41, 42, 43] (by decide +kernel) (by decide +kernel)
set_option maxRecDepth 20000 in
theorem gX5_copy_X5_find : GoodIn wsX5_copy (wsV RX5 224 RX5 yX5_find wsX5_find) := goodIn_app (goodIn_of _ (by decide +kernel)) ggX5_copy_X5_find
set_option maxRecDepth 20000 in
theorem ggX5_copy_X3_hasItems : GoodIn wsX5_copy wsX3_hasItems := goodIn_r _ [20, 21, 44, 45, 46, 47, 48, 49] (by decide +kernel) (by decide +kernel)
set_option maxRecDepth 20000 in
theorem gX5_copy_X3_hasItems : GoodIn wsX5_copy (wsV RX5 232 RX3 yX3_hasItems wsX3_hasItems) := goodIn_app (goodIn_of _ (by decide +kernel)) ggX5_copy_X3_hasItems
set_option maxRecDepth 20000 in
theorem ggX5_copy_X3_takeItems : GoodIn wsX5_copy wsX3_takeItems := goodIn_r _ [25, 26, 27, 28, 44, 45, 46, 47, 48, 49] (by decide +kernel) (by decide +kernel)
set_option maxRecDepth 20000 in
theorem gX5_copy_X3_takeItems : GoodIn wsX5_copy (wsV RX5 252 RX3 yX3_takeItems wsX3_takeItems) := goodIn_app (goodIn_of _ (by decide +kernel)) ggX5_copy_X3_takeItems
theorem dX5_copy_0 : decode cX5_copy 0 = .ok (.iload_n 1, 1) := by decide +kernel
theorem dX5_copy_1 : decode cX5_copy 1 = .ok (.invokestatic 221, 3) := by decide +kernel
theorem dX5_copy_4 : decode cX5_copy 4 = .ok (.ifCond .eq 10, 3) := by decide +kernel
theorem dX5_copy_7 : decode cX5_copy 7 = .ok (.iload_n 3, 1) := by decide +kernel
theorem dX5_copy_8 : decode cX5_copy 8 = .ok (.invokestatic 221, 3) := by decide +kernel
theorem dX5_copy_11 : decode cX5_copy 11 = .ok (.ifCond .ne 6, 3) := by decide +kernel
theorem dX5_copy_14 : decode cX5_copy 14 = .ok (.bipush (-2), 2) := by decide +kernel
theorem dX5_copy_16 : decode cX5_copy 16 = .ok (.ireturn, 1) := by decide +kernel
theorem dX5_copy_17 : decode cX5_copy 17 = .ok (.aload_n 0, 1) := by decide +kernel
theorem dX5_copy_18 : decode cX5_copy 18 = .ok (.getfield 32, 3) := by decide +kernel
theorem dX5_copy_21 : decode cX5_copy 21 = .ok (.iload_n 1, 1) := by decide +kernel
theorem dX5_copy_22 : decode cX5_copy 22 = .ok (.aaload, 1) := by decide +kernel
theorem dX5_copy_23 : decode cX5_copy 23 = .ok (.astore 6, 2) := by decide +kernel
theorem dX5_copy_25 : decode cX5_copy 25 = .ok (.aload_n 0, 1) := by decide +kernel
theorem dX5_copy_26 : decode cX5_copy 26 = .ok (.getfield 32, 3) := by decide +kernel
theorem dX5_copy_29 : decode cX5_copy 29 = .ok (.iload_n 3, 1) := by decide +kernel
theorem dX5_copy_30 : decode cX5_copy 30 = .ok (.aaload, 1) := by decide +kernel
theorem dX5_copy_31 : decode cX5_copy 31 = .ok (.astore 7, 2) := by decide +kernel
theorem dX5_copy_33 : decode cX5_copy 33 = .ok (.aload 6, 2) := by decide +kernel
theorem dX5_copy_35 : decode cX5_copy 35 = .ok (.getfield 228, 3) := by decide +kernel
theorem dX5_copy_38 : decode cX5_copy 38 = .ok (.ifCond .ne 11, 3) := by decide +kernel
theorem dX5_copy_41 : decode cX5_copy 41 = .ok (.aload 7, 2) := by decide +kernel
theorem dX5_copy_43 : decode cX5_copy 43 = .ok (.getfield 228, 3) := by decide +kernel
theorem dX5_copy_46 : decode cX5_copy 46 = .ok (.ifCond .eq 9, 3) := by decide +kernel
theorem dX5_copy_49 : decode cX5_copy 49 = .ok (.aload_n 0, 1) := by decide +kernel
theorem dX5_copy_50 : decode cX5_copy 50 = .ok (.iconst 1, 1) := by decide +kernel
theorem dX5_copy_51 : decode cX5_copy 51 = .ok (.invokevirtual 224, 3) := by decide +kernel
theorem dX5_copy_54 : decode cX5_copy 54 = .ok (.ireturn, 1) := by decide +kernel
theorem dX5_copy_55 : decode cX5_copy 55 = .ok (.aload 6, 2) := by decide +kernel
theorem dX5_copy_57 : decode cX5_copy 57 = .ok (.getfield 241, 3) := by decide +kernel
theorem dX5_copy_60 : decode cX5_copy 60 = .ok (.aload 7, 2) := by decide +kernel
theorem dX5_copy_62 : decode cX5_copy 62 = .ok (.getfield 241, 3) := by decide +kernel
theorem dX5_copy_65 : decode cX5_copy 65 = .ok (.if_icmp .eq 9, 3) := by decide +kernel
theorem dX5_copy_68 : decode cX5_copy 68 = .ok (.aload_n 0, 1) := by decide +kernel
theorem dX5_copy_69 : decode cX5_copy 69 = .ok (.iconst 4, 1) := by decide +kernel
theorem dX5_copy_70 : decode cX5_copy 70 = .ok (.invokevirtual 224, 3) := by decide +kernel
theorem dX5_copy_73 : decode cX5_copy 73 = .ok (.ireturn, 1) := by decide +kernel
theorem dX5_copy_74 : decode cX5_copy 74 = .ok (.aload 6, 2) := by decide +kernel
theorem dX5_copy_76 : decode cX5_copy 76 = .ok (.iload_n 2, 1) := by decide +kernel
theorem dX5_copy_77 : decode cX5_copy 77 = .ok (.iload 5, 2) := by decide +kernel
theorem dX5_copy_79 : decode cX5_copy 79 = .ok (.invokevirtual 232, 3) := by decide +kernel
theorem dX5_copy_82 : decode cX5_copy 82 = .ok (.ifCond .eq 15, 3) := by decide +kernel
theorem dX5_copy_85 : decode cX5_copy 85 = .ok (.aload 7, 2) := by decide +kernel
theorem dX5_copy_87 : decode cX5_copy 87 = .ok (.iload 4, 2) := by decide +kernel
theorem dX5_copy_89 : decode cX5_copy 89 = .ok (.iload 5, 2) := by decide +kernel
theorem dX5_copy_91 : decode cX5_copy 91 = .ok (.invokevirtual 232, 3) := by decide +kernel
theorem dX5_copy_94 : decode cX5_copy 94 = .ok (.ifCond .ne 9, 3) := by decide +kernel
theorem dX5_copy_97 : decode cX5_copy 97 = .ok (.aload_n 0, 1) := by decide +kernel
theorem dX5_copy_98 : decode cX5_copy 98 = .ok (.iconst 2, 1) := by decide +kernel
theorem dX5_copy_99 : decode cX5_copy 99 = .ok (.invokevirtual 224, 3) := by decide +kernel
theorem dX5_copy_102 : decode cX5_copy 102 = .ok (.ireturn, 1) := by decide +kernel
theorem dX5_copy_103 : decode cX5_copy 103 = .ok (.aload 7, 2) := by decide +kernel
theorem dX5_copy_105 : decode cX5_copy 105 = .ok (.aload 6, 2) := by decide +kernel
theorem dX5_copy_107 : decode cX5_copy 107 = .ok (.iload_n 2, 1) := by decide +kernel
theorem dX5_copy_108 : decode cX5_copy 108 = .ok (.iload 4, 2) := by decide +kernel
theorem dX5_copy_110 : decode cX5_copy 110 = .ok (.iload 5, 2) := by decide +kernel
theorem dX5_copy_112 : decode cX5_copy 112 = .ok (.invokevirtual 252, 3) := by decide +kernel
theorem dX5_copy_115 : decode cX5_copy 115 = .ok (.iconst 1, 1) := by decide +kernel
theorem dX5_copy_116 : decode cX5_copy 116 = .ok (.ireturn, 1) := by decide +kernel
set_option maxRecDepth 20000 in
theorem ggX5_write_X5_refusalOfRow : GoodIn wsX5_write wsX5_refusalOfRow := goodIn_r _ [15, 1, 16, 17, 18, 19, 14, 20, 21, 22, 23, 24, 25, 26, 27, 28, 128, 129, 130, 131, 132, 133, 134, 135, 136, 137, 138, 139, 140, 141, 142, 143, 144, 145, 146, 147, 148] (by decide +kernel) (by decide +kernel)
set_option maxRecDepth 20000 in
theorem gX5_write_X5_refusalOfRow : GoodIn wsX5_write (wsV RX5 84 RX5 yX5_refusalOfRow wsX5_refusalOfRow) := goodIn_app (goodIn_of _ (by decide +kernel)) ggX5_write_X5_refusalOfRow
set_option maxRecDepth 20000 in
theorem ggX5_write_X5_followArrivals : GoodIn wsX5_write wsX5_followArrivals := goodIn_r _ [32, 33, 8, 34, 3, 35, 36, 37, 38, 39, 40, 41, 42, 43, 44, 45, 46, 47, 48, 49, 50, 51, 52, 53, 54, 55, 56, 57, 58, 59, 60, 61, 62, 63, 64, 5, 6, 7, 65, 66, 67, 68, 69, 70, 71, 72, 73, 74, 75, 76, 77, 78, 79, 80, 81, 82, 83, 84, 85, 86, 87, 88, 89, 90, 91, 92, 93, 94, 95, 96, 97, 98, 99, 100, 101, 102, 103, 104, 105, 106, 107, 108, 109, 110, 111, 112, 113, 114, 115, 116, 128, 129, 130, 131, 132, 133, 134, 135, 136, 137, 138, 139, 140, 141, 142, 159, 160, 161, 162, 163, 149, 150, 151, 152, 153, 154, 155, 156, 157, 158, 164, 165, 166, 167, 168, 169, 170, 171, 172, 173] (by decide +kernel) (by decide +kernel)
set_option maxRecDepth 20000 in
theorem gX5_write_X5_followArrivals : GoodIn wsX5_write (wsV RX5 94 RX5 yX5_followArrivals wsX5_followArrivals) := goodIn_app (goodIn_of _ (by decide +kernel)) ggX5_write_X5_followArrivals
set_option maxRecDepth 20000 in
theorem ggX5_write_X0_offOf : GoodIn wsX5_write wsX0_offOf := goodIn_r _ [120, 66, 59, 65, 149, 150, 151, 152, 153, 154, 155, 156, 157, 158] (by decide +kernel) (by decide +kernel)
set_option maxRecDepth 20000 in
theorem gX5_write_X0_offOf : GoodIn wsX5_write (wsV RX5 256 RX0 yX0_offOf wsX0_offOf) := goodIn_app (goodIn_of _ (by decide +kernel)) ggX5_write_X0_offOf
set_option maxRecDepth 20000 in
theorem ggX5_write_X3_putNumber : GoodIn wsX5_write wsX3_putNumber := goodIn_r _ [125, 126, 127, 143, 144, 145, 146, 147, 148] (by decide +kernel) (by decide +kernel)
set_option maxRecDepth 20000 in
theorem gX5_write_X3_putNumber : GoodIn wsX5_write (wsV RX5 237 RX3 yX3_putNumber wsX3_putNumber) := goodIn_app (goodIn_of _ (by decide +kernel)) ggX5_write_X3_putNumber
theorem dX5_write_0 : decode cX5_write 0 = .ok (.aload_n 0, 1) := by decide +kernel
theorem dX5_write_1 : decode cX5_write 1 = .ok (.iload_n 1, 1) := by decide +kernel
theorem dX5_write_2 : decode cX5_write 2 = .ok (.iconst 1, 1) := by decide +kernel
theorem dX5_write_3 : decode cX5_write 3 = .ok (.invokevirtual 84, 3) := by decide +kernel
theorem dX5_write_6 : decode cX5_write 6 = .ok (.istore_n 2, 1) := by decide +kernel
theorem dX5_write_7 : decode cX5_write 7 = .ok (.iload_n 2, 1) := by decide +kernel
theorem dX5_write_8 : decode cX5_write 8 = .ok (.ifCond .eq 5, 3) := by decide +kernel
theorem dX5_write_11 : decode cX5_write 11 = .ok (.iload_n 2, 1) := by decide +kernel
theorem dX5_write_12 : decode cX5_write 12 = .ok (.ireturn, 1) := by decide +kernel
theorem dX5_write_13 : decode cX5_write 13 = .ok (.aload_n 0, 1) := by decide +kernel
theorem dX5_write_14 : decode cX5_write 14 = .ok (.invokevirtual 94, 3) := by decide +kernel
theorem dX5_write_17 : decode cX5_write 17 = .ok (.aload_n 0, 1) := by decide +kernel
theorem dX5_write_18 : decode cX5_write 18 = .ok (.getfield 32, 3) := by decide +kernel
theorem dX5_write_21 : decode cX5_write 21 = .ok (.iload_n 1, 1) := by decide +kernel
theorem dX5_write_22 : decode cX5_write 22 = .ok (.aaload, 1) := by decide +kernel
theorem dX5_write_23 : decode cX5_write 23 = .ok (.astore_n 3, 1) := by decide +kernel
theorem dX5_write_24 : decode cX5_write 24 = .ok (.iconst 0, 1) := by decide +kernel
theorem dX5_write_25 : decode cX5_write 25 = .ok (.istore 4, 2) := by decide +kernel
theorem dX5_write_27 : decode cX5_write 27 = .ok (.iconst 0, 1) := by decide +kernel
theorem dX5_write_28 : decode cX5_write 28 = .ok (.istore 5, 2) := by decide +kernel
theorem dX5_write_30 : decode cX5_write 30 = .ok (.iload 5, 2) := by decide +kernel
theorem dX5_write_32 : decode cX5_write 32 = .ok (.aload_n 3, 1) := by decide +kernel
theorem dX5_write_33 : decode cX5_write 33 = .ok (.getfield 87, 3) := by decide +kernel
theorem dX5_write_36 : decode cX5_write 36 = .ok (.aload_n 0, 1) := by decide +kernel
theorem dX5_write_37 : decode cX5_write 37 = .ok (.getfield 61, 3) := by decide +kernel
theorem dX5_write_40 : decode cX5_write 40 = .ok (.invokestatic 72, 3) := by decide +kernel
theorem dX5_write_43 : decode cX5_write 43 = .ok (.if_icmp .ge 56, 3) := by decide +kernel
theorem dX5_write_46 : decode cX5_write 46 = .ok (.aload_n 0, 1) := by decide +kernel
theorem dX5_write_47 : decode cX5_write 47 = .ok (.getfield 40, 3) := by decide +kernel
theorem dX5_write_50 : decode cX5_write 50 = .ok (.getfield 100, 3) := by decide +kernel
theorem dX5_write_53 : decode cX5_write 53 = .ok (.iload 5, 2) := by decide +kernel
theorem dX5_write_55 : decode cX5_write 55 = .ok (.iaload, 1) := by decide +kernel
theorem dX5_write_56 : decode cX5_write 56 = .ok (.istore 6, 2) := by decide +kernel
theorem dX5_write_58 : decode cX5_write 58 = .ok (.iload 6, 2) := by decide +kernel
theorem dX5_write_60 : decode cX5_write 60 = .ok (.iconst 1, 1) := by decide +kernel
theorem dX5_write_61 : decode cX5_write 61 = .ok (.if_icmp .lt 24, 3) := by decide +kernel
theorem dX5_write_64 : decode cX5_write 64 = .ok (.aload_n 3, 1) := by decide +kernel
theorem dX5_write_65 : decode cX5_write 65 = .ok (.iload 5, 2) := by decide +kernel
theorem dX5_write_67 : decode cX5_write 67 = .ok (.aload_n 0, 1) := by decide +kernel
theorem dX5_write_68 : decode cX5_write 68 = .ok (.getfield 40, 3) := by decide +kernel
theorem dX5_write_71 : decode cX5_write 71 = .ok (.iload 6, 2) := by decide +kernel
theorem dX5_write_73 : decode cX5_write 73 = .ok (.invokevirtual 256, 3) := by decide +kernel
theorem dX5_write_76 : decode cX5_write 76 = .ok (.invokevirtual 237, 3) := by decide +kernel
theorem dX5_write_79 : decode cX5_write 79 = .ok (.iinc 4 1, 3) := by decide +kernel
theorem dX5_write_82 : decode cX5_write 82 = .ok (.goto 11, 3) := by decide +kernel
theorem dX5_write_85 : decode cX5_write 85 = .ok (.aload_n 3, 1) := by decide +kernel
theorem dX5_write_86 : decode cX5_write 86 = .ok (.getfield 244, 3) := by decide +kernel
theorem dX5_write_89 : decode cX5_write 89 = .ok (.iload 5, 2) := by decide +kernel
theorem dX5_write_91 : decode cX5_write 91 = .ok (.iconst 1, 1) := by decide +kernel
theorem dX5_write_92 : decode cX5_write 92 = .ok (.bastore, 1) := by decide +kernel
theorem dX5_write_93 : decode cX5_write 93 = .ok (.iinc 5 1, 3) := by decide +kernel
theorem dX5_write_96 : decode cX5_write 96 = .ok (.goto (-66), 3) := by decide +kernel
theorem dX5_write_99 : decode cX5_write 99 = .ok (.iload 4, 2) := by decide +kernel
theorem dX5_write_101 : decode cX5_write 101 = .ok (.ireturn, 1) := by decide +kernel
set_option maxRecDepth 20000 in
theorem ggX5_found_X5_isWithin : GoodIn wsX5_found wsX5_isWithin := goodIn_r _ [6] (by decide +kernel) (by decide +kernel)
set_option maxRecDepth 20000 in
theorem gX5_found_X5_isWithin : GoodIn wsX5_found (va_wsS RX5 68 yX5_isWithin wsX5_isWithin) := goodIn_app (goodIn_of _ (by decide +kernel)) ggX5_found_X5_isWithin
set_option maxRecDepth 20000 in
theorem ggX5_found_X5_refusalOfRow : GoodIn wsX5_found wsX5_refusalOfRow := goodIn_r _ [10, 1, 11, 12, 13, 14, 5, 15, 3, 4, 6, 16, 17, 18, 19, 20, 37, 38, 39, 40, 41, 42, 43, 44, 45, 46, 47, 48, 49, 50, 51, 52, 53, 54, 55, 56, 57] (by decide +kernel) (by decide +kernel)
set_option maxRecDepth 20000 in
theorem gX5_found_X5_refusalOfRow : GoodIn wsX5_found (wsV RX5 84 RX5 yX5_refusalOfRow wsX5_refusalOfRow) := goodIn_app (goodIn_of _ (by decide +kernel)) ggX5_found_X5_refusalOfRow
set_option maxRecDepth 20000 in
theorem ggX5_found_X3_countNoNumbers : GoodIn wsX5_found wsX3_countNoNumbers := goodIn_r _ [25, 26, 27, 52, 53, 54, 55, 56, 57] (by decide +kernel) (by decide +kernel)
set_option maxRecDepth 20000 in
theorem gX5_found_X3_countNoNumbers : GoodIn wsX5_found (wsV RX5 260 RX3 yX3_countNoNumbers wsX3_countNoNumbers) := goodIn_app (goodIn_of _ (by decide +kernel)) ggX5_found_X3_countNoNumbers
set_option maxRecDepth 20000 in
theorem ggX5_found_X3_countAbove : GoodIn wsX5_found wsX3_countAbove := goodIn_r _ [31, 26, 27, 32, 52, 53, 54, 55, 56, 57] (by decide +kernel) (by decide +kernel)
set_option maxRecDepth 20000 in
theorem gX5_found_X3_countAbove : GoodIn wsX5_found (wsV RX5 263 RX3 yX3_countAbove wsX3_countAbove) := goodIn_app (goodIn_of _ (by decide +kernel)) ggX5_found_X3_countAbove
set_option maxRecDepth 20000 in
theorem ggX5_found_X3_countBelow : GoodIn wsX5_found wsX3_countBelow := goodIn_r _ [36, 26, 27, 32, 52, 53, 54, 55, 56, 57] (by decide +kernel) (by decide +kernel)
set_option maxRecDepth 20000 in
theorem gX5_found_X3_countBelow : GoodIn wsX5_found (wsV RX5 267 RX3 yX3_countBelow wsX3_countBelow) := goodIn_app (goodIn_of _ (by decide +kernel)) ggX5_found_X3_countBelow
theorem dX5_found_0 : decode cX5_found 0 = .ok (.iload_n 2, 1) := by decide +kernel
theorem dX5_found_1 : decode cX5_found 1 = .ok (.i2l, 1) := by decide +kernel
theorem dX5_found_2 : decode cX5_found 2 = .ok (.iconst 0, 1) := by decide +kernel
theorem dX5_found_3 : decode cX5_found 3 = .ok (.iconst 2, 1) := by decide +kernel
theorem dX5_found_4 : decode cX5_found 4 = .ok (.invokestatic 68, 3) := by decide +kernel
theorem dX5_found_7 : decode cX5_found 7 = .ok (.ifCond .ne 6, 3) := by decide +kernel
theorem dX5_found_10 : decode cX5_found 10 = .ok (.bipush (-2), 2) := by decide +kernel
theorem dX5_found_12 : decode cX5_found 12 = .ok (.ireturn, 1) := by decide +kernel
theorem dX5_found_13 : decode cX5_found 13 = .ok (.aload_n 0, 1) := by decide +kernel
theorem dX5_found_14 : decode cX5_found 14 = .ok (.iload_n 1, 1) := by decide +kernel
theorem dX5_found_15 : decode cX5_found 15 = .ok (.iconst 1, 1) := by decide +kernel
theorem dX5_found_16 : decode cX5_found 16 = .ok (.invokevirtual 84, 3) := by decide +kernel
theorem dX5_found_19 : decode cX5_found 19 = .ok (.istore 4, 2) := by decide +kernel
theorem dX5_found_21 : decode cX5_found 21 = .ok (.iload 4, 2) := by decide +kernel
theorem dX5_found_23 : decode cX5_found 23 = .ok (.ifCond .eq 6, 3) := by decide +kernel
theorem dX5_found_26 : decode cX5_found 26 = .ok (.iload 4, 2) := by decide +kernel
theorem dX5_found_28 : decode cX5_found 28 = .ok (.ireturn, 1) := by decide +kernel
theorem dX5_found_29 : decode cX5_found 29 = .ok (.iload_n 2, 1) := by decide +kernel
theorem dX5_found_30 : decode cX5_found 30 = .ok (.lookupswitch 52 #[(0, 26), (1, 36)], 26) := by decide +kernel
theorem dX5_found_56 : decode cX5_found 56 = .ok (.aload_n 0, 1) := by decide +kernel
theorem dX5_found_57 : decode cX5_found 57 = .ok (.getfield 32, 3) := by decide +kernel
theorem dX5_found_60 : decode cX5_found 60 = .ok (.iload_n 1, 1) := by decide +kernel
theorem dX5_found_61 : decode cX5_found 61 = .ok (.aaload, 1) := by decide +kernel
theorem dX5_found_62 : decode cX5_found 62 = .ok (.invokevirtual 260, 3) := by decide +kernel
theorem dX5_found_65 : decode cX5_found 65 = .ok (.ireturn, 1) := by decide +kernel
theorem dX5_found_66 : decode cX5_found 66 = .ok (.aload_n 0, 1) := by decide +kernel
theorem dX5_found_67 : decode cX5_found 67 = .ok (.getfield 32, 3) := by decide +kernel
theorem dX5_found_70 : decode cX5_found 70 = .ok (.iload_n 1, 1) := by decide +kernel
theorem dX5_found_71 : decode cX5_found 71 = .ok (.aaload, 1) := by decide +kernel
theorem dX5_found_72 : decode cX5_found 72 = .ok (.iload_n 3, 1) := by decide +kernel
theorem dX5_found_73 : decode cX5_found 73 = .ok (.i2d, 1) := by decide +kernel
theorem dX5_found_74 : decode cX5_found 74 = .ok (.ldc2_w 235, 3) := by decide +kernel
theorem dX5_found_77 : decode cX5_found 77 = .ok (.ddiv, 1) := by decide +kernel
theorem dX5_found_78 : decode cX5_found 78 = .ok (.invokevirtual 263, 3) := by decide +kernel
theorem dX5_found_81 : decode cX5_found 81 = .ok (.ireturn, 1) := by decide +kernel
theorem dX5_found_82 : decode cX5_found 82 = .ok (.aload_n 0, 1) := by decide +kernel
theorem dX5_found_83 : decode cX5_found 83 = .ok (.getfield 32, 3) := by decide +kernel
theorem dX5_found_86 : decode cX5_found 86 = .ok (.iload_n 1, 1) := by decide +kernel
theorem dX5_found_87 : decode cX5_found 87 = .ok (.aaload, 1) := by decide +kernel
theorem dX5_found_88 : decode cX5_found 88 = .ok (.iload_n 3, 1) := by decide +kernel
theorem dX5_found_89 : decode cX5_found 89 = .ok (.i2d, 1) := by decide +kernel
theorem dX5_found_90 : decode cX5_found 90 = .ok (.ldc2_w 235, 3) := by decide +kernel
theorem dX5_found_93 : decode cX5_found 93 = .ok (.ddiv, 1) := by decide +kernel
theorem dX5_found_94 : decode cX5_found 94 = .ok (.invokevirtual 267, 3) := by decide +kernel
theorem dX5_found_97 : decode cX5_found 97 = .ok (.ireturn, 1) := by decide +kernel
set_option maxRecDepth 20000 in
theorem ggX5_count_X5_followArrivals : GoodIn wsX5_count wsX5_followArrivals := goodIn_r _ [11, 12, 2, 13, 1, 14, 15, 16, 4, 17, 18, 19, 20, 21, 22, 23, 24, 25, 26, 27, 28, 29, 30, 31, 32, 33, 34, 35, 36, 37, 38, 39, 40, 41, 42, 43, 44, 45, 46, 47, 48, 49, 50, 51, 52, 53, 54, 55, 56, 57, 58, 59, 60, 61, 62, 63, 64, 65, 66, 67, 68, 69, 70, 71, 72, 73, 74, 75, 76, 77, 78, 79, 80, 81, 82, 83, 84, 85, 86, 87, 88, 89, 90, 91, 92, 93, 94, 95, 96, 97, 126, 127, 128, 129, 130, 131, 132, 133, 134, 135, 136, 137, 138, 139, 140, 151, 152, 153, 154, 155, 141, 142, 143, 144, 145, 146, 147, 148, 149, 150, 156, 157, 158, 159, 160, 161, 162, 163, 164, 165] (by decide +kernel) (by decide +kernel)
set_option maxRecDepth 20000 in
theorem gX5_count_X5_followArrivals : GoodIn wsX5_count (wsV RX5 94 RX5 yX5_followArrivals wsX5_followArrivals) := goodIn_app (goodIn_of _ (by decide +kernel)) ggX5_count_X5_followArrivals
set_option maxRecDepth 20000 in
theorem ggX5_count_X5_countLost : GoodIn wsX5_count wsX5_countLost := goodIn_r _ [101, 1, 2, 102, 126, 127, 128, 129, 130, 131, 132, 133, 134, 135, 136, 137, 138, 139, 140, 141, 142, 143, 144, 145, 146, 147, 148, 149, 150] (by decide +kernel) (by decide +kernel)
set_option maxRecDepth 20000 in
theorem gX5_count_X5_countLost : GoodIn wsX5_count (wsV RX5 270 RX5 yX5_countLost wsX5_countLost) := goodIn_app (goodIn_of _ (by decide +kernel)) ggX5_count_X5_countLost
set_option maxRecDepth 20000 in
theorem ggX5_count_X5_countMistakes : GoodIn wsX5_count wsX5_countMistakes := goodIn_r _ [106, 4, 17, 18, 107, 126, 127, 128, 129, 130, 131, 132, 133, 134, 135, 136, 137, 138, 139, 140, 151, 152, 153, 154, 155, 156, 157, 158, 159, 160, 161, 162, 163] (by decide +kernel) (by decide +kernel)
set_option maxRecDepth 20000 in
theorem gX5_count_X5_countMistakes : GoodIn wsX5_count (wsV RX5 273 RX5 yX5_countMistakes wsX5_countMistakes) := goodIn_app (goodIn_of _ (by decide +kernel)) ggX5_count_X5_countMistakes
set_option maxRecDepth 20000 in
theorem ggX5_count_X5_whoKeepsWishes : GoodIn wsX5_count wsX5_whoKeepsWishes := goodIn_r _ [111, 4, 17, 18, 112, 113, 114, 115, 116, 117, 118, 119, 120, 126, 127, 128, 129, 130, 131, 132, 133, 134, 135, 136, 137, 138, 139, 140, 151, 152, 153, 154, 155, 156, 157, 158, 159, 160, 161, 162, 163] (by decide +kernel) (by decide +kernel)
set_option maxRecDepth 20000 in
theorem gX5_count_X5_whoKeepsWishes : GoodIn wsX5_count (wsV RX5 276 RX5 yX5_whoKeepsWishes wsX5_whoKeepsWishes) := goodIn_app (goodIn_of _ (by decide +kernel)) ggX5_count_X5_whoKeepsWishes
set_option maxRecDepth 20000 in
theorem ggX5_count_X5_countDoubtsForGood : GoodIn wsX5_count wsX5_countDoubtsForGood := goodIn_r _ [124, 4, 17, 18, 125, 126, 127, 128, 129, 130, 131, 132, 133, 134, 135, 136, 137, 138, 139, 140, 151, 152, 153, 154, 155, 156, 157, 158, 159, 160, 161, 162, 163] (by decide +kernel) (by decide +kernel)
set_option maxRecDepth 20000 in
theorem gX5_count_X5_countDoubtsForGood : GoodIn wsX5_count (wsV RX5 279 RX5 yX5_countDoubtsForGood wsX5_countDoubtsForGood) := goodIn_app (goodIn_of _ (by decide +kernel)) ggX5_count_X5_countDoubtsForGood
theorem dX5_count_0 : decode cX5_count 0 = .ok (.aload_n 0, 1) := by decide +kernel
theorem dX5_count_1 : decode cX5_count 1 = .ok (.invokevirtual 94, 3) := by decide +kernel
theorem dX5_count_4 : decode cX5_count 4 = .ok (.iload_n 1, 1) := by decide +kernel
theorem dX5_count_5 : decode cX5_count 5 = .ok (.tableswitch 126 0 8 #[51, 56, 61, 69, 74, 79, 84, 116, 121], 51) := by decide +kernel
theorem dX5_count_56 : decode cX5_count 56 = .ok (.aload_n 0, 1) := by decide +kernel
theorem dX5_count_57 : decode cX5_count 57 = .ok (.getfield 61, 3) := by decide +kernel
theorem dX5_count_60 : decode cX5_count 60 = .ok (.ireturn, 1) := by decide +kernel
theorem dX5_count_61 : decode cX5_count 61 = .ok (.aload_n 0, 1) := by decide +kernel
theorem dX5_count_62 : decode cX5_count 62 = .ok (.invokevirtual 270, 3) := by decide +kernel
theorem dX5_count_65 : decode cX5_count 65 = .ok (.ireturn, 1) := by decide +kernel
theorem dX5_count_66 : decode cX5_count 66 = .ok (.aload_n 0, 1) := by decide +kernel
theorem dX5_count_67 : decode cX5_count 67 = .ok (.getfield 40, 3) := by decide +kernel
theorem dX5_count_70 : decode cX5_count 70 = .ok (.getfield 103, 3) := by decide +kernel
theorem dX5_count_73 : decode cX5_count 73 = .ok (.ireturn, 1) := by decide +kernel
theorem dX5_count_74 : decode cX5_count 74 = .ok (.aload_n 0, 1) := by decide +kernel
theorem dX5_count_75 : decode cX5_count 75 = .ok (.getfield 140, 3) := by decide +kernel
theorem dX5_count_78 : decode cX5_count 78 = .ok (.ireturn, 1) := by decide +kernel
theorem dX5_count_79 : decode cX5_count 79 = .ok (.aload_n 0, 1) := by decide +kernel
theorem dX5_count_80 : decode cX5_count 80 = .ok (.invokevirtual 273, 3) := by decide +kernel
theorem dX5_count_83 : decode cX5_count 83 = .ok (.ireturn, 1) := by decide +kernel
theorem dX5_count_84 : decode cX5_count 84 = .ok (.aload_n 0, 1) := by decide +kernel
theorem dX5_count_85 : decode cX5_count 85 = .ok (.invokevirtual 276, 3) := by decide +kernel
theorem dX5_count_88 : decode cX5_count 88 = .ok (.ireturn, 1) := by decide +kernel
theorem dX5_count_89 : decode cX5_count 89 = .ok (.aload_n 0, 1) := by decide +kernel
theorem dX5_count_90 : decode cX5_count 90 = .ok (.getfield 40, 3) := by decide +kernel
theorem dX5_count_93 : decode cX5_count 93 = .ok (.getfield 103, 3) := by decide +kernel
theorem dX5_count_96 : decode cX5_count 96 = .ok (.ifCond .ne 7, 3) := by decide +kernel
theorem dX5_count_99 : decode cX5_count 99 = .ok (.iconst (-1), 1) := by decide +kernel
theorem dX5_count_100 : decode cX5_count 100 = .ok (.goto 20, 3) := by decide +kernel
theorem dX5_count_103 : decode cX5_count 103 = .ok (.aload_n 0, 1) := by decide +kernel
theorem dX5_count_104 : decode cX5_count 104 = .ok (.getfield 40, 3) := by decide +kernel
theorem dX5_count_107 : decode cX5_count 107 = .ok (.getfield 109, 3) := by decide +kernel
theorem dX5_count_110 : decode cX5_count 110 = .ok (.aload_n 0, 1) := by decide +kernel
theorem dX5_count_111 : decode cX5_count 111 = .ok (.getfield 40, 3) := by decide +kernel
theorem dX5_count_114 : decode cX5_count 114 = .ok (.getfield 103, 3) := by decide +kernel
theorem dX5_count_117 : decode cX5_count 117 = .ok (.iconst 1, 1) := by decide +kernel
theorem dX5_count_118 : decode cX5_count 118 = .ok (.isub, 1) := by decide +kernel
theorem dX5_count_119 : decode cX5_count 119 = .ok (.iaload, 1) := by decide +kernel
theorem dX5_count_120 : decode cX5_count 120 = .ok (.ireturn, 1) := by decide +kernel
theorem dX5_count_121 : decode cX5_count 121 = .ok (.aload_n 0, 1) := by decide +kernel
theorem dX5_count_122 : decode cX5_count 122 = .ok (.invokevirtual 279, 3) := by decide +kernel
theorem dX5_count_125 : decode cX5_count 125 = .ok (.ireturn, 1) := by decide +kernel
theorem dX5_count_126 : decode cX5_count 126 = .ok (.aload_n 0, 1) := by decide +kernel
theorem dX5_count_127 : decode cX5_count 127 = .ok (.getfield 282, 3) := by decide +kernel
theorem dX5_count_130 : decode cX5_count 130 = .ok (.ireturn, 1) := by decide +kernel
theorem dX5_count_131 : decode cX5_count 131 = .ok (.bipush (-2), 2) := by decide +kernel
theorem dX5_count_133 : decode cX5_count 133 = .ok (.ireturn, 1) := by decide +kernel
set_option maxRecDepth 20000 in
theorem ggX5_digest_X5_followArrivals : GoodIn wsX5_digest wsX5_followArrivals := goodIn_r _ [7, 8, 9, 10, 11, 12, 13, 14, 2, 15, 16, 17, 18, 19, 20, 21, 22, 23, 24, 25, 26, 27, 28, 29, 30, 31, 32, 33, 34, 35, 36, 37, 38, 39, 40, 41, 42, 43, 44, 45, 46, 47, 48, 49, 50, 51, 52, 53, 54, 55, 56, 57, 58, 59, 60, 61, 62, 63, 64, 65, 66, 67, 68, 69, 70, 71, 72, 73, 74, 75, 76, 77, 78, 79, 80, 81, 82, 83, 84, 85, 86, 87, 88, 89, 90, 91, 92, 93, 94, 95, 259, 260, 261, 262, 263, 264, 265, 266, 267, 268, 269, 270, 271, 272, 273, 274, 275, 276, 277, 278, 279, 280, 281, 282, 283, 284, 285, 286, 287, 288, 289, 290, 291, 292, 293, 294, 295, 296, 297, 298] (by decide +kernel) (by decide +kernel)
set_option maxRecDepth 20000 in
theorem gX5_digest_X5_followArrivals : GoodIn wsX5_digest (wsV RX5 94 RX5 yX5_followArrivals wsX5_followArrivals) := goodIn_app (goodIn_of _ (by decide +kernel)) ggX5_digest_X5_followArrivals
set_option maxRecDepth 20000 in
theorem ggX5_digest_X5_count : GoodIn wsX5_digest wsX5_count := goodIn_r _ [99, 11, 9, 100, 2, 101, 102, 3, 4, 5, 6, 7, 8, 10, 12, 13, 14, 15, 16, 17, 18, 19, 20, 21, 22, 23, 24, 25, 26, 27, 28, 29, 30, 31, 32, 33, 34, 35, 36, 37, 38, 39, 40, 41, 42, 43, 44, 45, 46, 47, 48, 49, 50, 51, 52, 53, 54, 55, 56, 57, 58, 59, 60, 61, 62, 63, 64, 65, 66, 67, 68, 69, 70, 71, 72, 73, 74, 75, 76, 77, 78, 79, 80, 81, 82, 83, 84, 85, 86, 87, 88, 89, 90, 91, 92, 93, 94, 95, 103, 104, 105, 106, 107, 108, 109, 110, 111, 112, 113, 114, 115, 116, 117, 118, 119, 120, 121, 122, 123, 124, 125, 126, 127, 128, 129, 130, 259, 260, 261, 262, 263, 264, 265, 266, 267, 268, 269, 270, 271, 272, 273, 279, 280, 281, 282, 283, 284, 285, 286, 287, 288, 274, 275, 276, 277, 278, 289, 290, 291, 292, 293, 294, 295, 296, 297, 298] (by decide +kernel) (by decide +kernel)
set_option maxRecDepth 20000 in
theorem gX5_digest_X5_count : GoodIn wsX5_digest (wsV RX5 287 RX5 yX5_count wsX5_count) := goodIn_app (goodIn_of _ (by decide +kernel)) ggX5_digest_X5_count
set_option maxRecDepth 20000 in
theorem ggX5_digest_X5_mix : GoodIn wsX5_digest wsX5_mix := goodIn_r _ [133, 134] (by decide +kernel) (by decide +kernel)
set_option maxRecDepth 20000 in
theorem gX5_digest_X5_mix : GoodIn wsX5_digest (va_wsS RX5 290 yX5_mix wsX5_mix) := goodIn_app (goodIn_of _ (by decide +kernel)) ggX5_digest_X5_mix
set_option maxRecDepth 20000 in
theorem ggX5_digest_X5_mixBeats : GoodIn wsX5_digest wsX5_mixBeats := goodIn_r _ [138, 11, 139, 140, 141, 6, 142, 9, 107, 10, 143, 144, 145, 146, 3, 4, 5, 7, 8, 12, 13, 14, 2, 15, 16, 17, 18, 19, 20, 21, 22, 23, 24, 25, 26, 27, 28, 29, 30, 31, 32, 33, 34, 35, 36, 37, 38, 39, 40, 41, 42, 43, 44, 45, 46, 47, 48, 49, 50, 51, 52, 53, 54, 55, 56, 57, 58, 59, 60, 61, 62, 63, 64, 65, 66, 67, 68, 69, 70, 71, 72, 73, 74, 75, 76, 77, 78, 79, 80, 81, 82, 83, 84, 85, 86, 87, 88, 89, 90, 91, 92, 93, 94, 95, 131, 132, 133, 134, 259, 260, 261, 262, 263, 264, 265, 266, 267, 268, 269, 270, 271, 272, 273, 279, 280, 281, 282, 283, 284, 285, 286, 287, 288, 274, 275, 276, 277, 278, 289, 290, 291, 292, 293, 294, 295, 296, 297, 298] (by decide +kernel) (by decide +kernel)
set_option maxRecDepth 20000 in
theorem gX5_digest_X5_mixBeats : GoodIn wsX5_digest (wsV RX5 294 RX5 yX5_mixBeats wsX5_mixBeats) := goodIn_app (goodIn_of _ (by decide +kernel)) ggX5_digest_X5_mixBeats
set_option maxRecDepth 20000 in
theorem ggX5_digest_X5_mixNews : GoodIn wsX5_digest wsX5_mixNews := goodIn_r _ [150, 9, 100, 151, 152, 153, 6, 154, 155, 101, 3, 4, 5, 7, 8, 10, 11, 12, 13, 14, 2, 15, 16, 17, 18, 19, 20, 21, 22, 23, 24, 25, 26, 27, 28, 29, 30, 31, 32, 33, 34, 35, 36, 37, 38, 39, 40, 41, 42, 43, 44, 45, 46, 47, 48, 49, 50, 51, 52, 53, 54, 55, 56, 57, 58, 59, 60, 61, 62, 63, 64, 65, 66, 67, 68, 69, 70, 71, 72, 73, 74, 75, 76, 77, 78, 79, 80, 81, 82, 83, 84, 85, 86, 87, 88, 89, 90, 91, 92, 93, 94, 95, 144, 145, 146, 156, 157, 158, 159, 131, 132, 133, 134, 160, 161, 162, 163, 164, 165, 166, 167, 168, 169, 170, 171, 172, 173, 174, 175, 259, 260, 261, 262, 263, 264, 265, 266, 267, 268, 269, 270, 271, 272, 273, 279, 280, 281, 282, 283, 284, 285, 286, 287, 288, 274, 275, 276, 277, 278, 289, 290, 291, 292, 293, 294, 295, 296, 297, 298] (by decide +kernel) (by decide +kernel)
set_option maxRecDepth 20000 in
theorem gX5_digest_X5_mixNews : GoodIn wsX5_digest (wsV RX5 298 RX5 yX5_mixNews wsX5_mixNews) := goodIn_app (goodIn_of _ (by decide +kernel)) ggX5_digest_X5_mixNews
set_option maxRecDepth 20000 in
theorem ggX5_digest_X5_mixWatcher : GoodIn wsX5_digest wsX5_mixWatcher := goodIn_r _ [179, 15, 16, 112, 9, 100, 180, 181, 182, 6, 183, 17, 18, 184, 185, 186, 187, 188, 130, 189, 190, 191, 192, 2, 144, 145, 146, 3, 4, 5, 7, 8, 10, 11, 12, 13, 14, 19, 20, 21, 22, 23, 24, 25, 26, 27, 28, 29, 30, 31, 32, 33, 34, 35, 36, 37, 38, 39, 40, 41, 42, 43, 44, 45, 46, 47, 48, 49, 50, 51, 52, 53, 54, 55, 56, 57, 58, 59, 60, 61, 62, 63, 64, 65, 66, 67, 68, 69, 70, 71, 72, 73, 74, 75, 76, 77, 78, 79, 80, 81, 82, 83, 84, 85, 86, 87, 88, 89, 90, 91, 92, 93, 94, 95, 117, 118, 119, 120, 121, 122, 123, 124, 125, 131, 132, 133, 134, 193, 194, 195, 196, 197, 198, 199, 200, 201, 202, 203, 204, 205, 206, 207, 208, 209, 210, 211, 212, 213, 214, 215, 216, 217, 218, 219, 101, 220, 221, 222, 223, 259, 260, 261, 262, 263, 264, 265, 266, 267, 268, 269, 270, 271, 272, 273, 274, 275, 276, 277, 278, 289, 290, 291, 292, 293, 294, 295, 296, 279, 280, 281, 282, 283, 284, 285, 286, 287, 288, 297, 298] (by decide +kernel) (by decide +kernel)
set_option maxRecDepth 20000 in
theorem gX5_digest_X5_mixWatcher : GoodIn wsX5_digest (wsV RX5 301 RX5 yX5_mixWatcher wsX5_mixWatcher) := goodIn_app (goodIn_of _ (by decide +kernel)) ggX5_digest_X5_mixWatcher
set_option maxRecDepth 20000 in
theorem ggX5_digest_X5_doubts : GoodIn wsX5_digest wsX5_doubts := goodIn_r _ [227, 9, 2, 15, 16, 219, 144, 145, 6, 146, 3, 4, 5, 7, 8, 10, 11, 12, 13, 14, 17, 18, 19, 20, 21, 22, 23, 24, 25, 26, 27, 28, 29, 30, 31, 32, 33, 34, 35, 36, 37, 38, 39, 40, 41, 42, 43, 44, 45, 46, 47, 48, 49, 50, 51, 52, 53, 54, 55, 56, 57, 58, 59, 60, 61, 62, 63, 64, 65, 66, 67, 68, 69, 70, 71, 72, 73, 74, 75, 76, 77, 78, 79, 80, 81, 82, 83, 84, 85, 86, 87, 88, 89, 90, 91, 92, 93, 94, 95, 228, 229, 230, 231, 259, 260, 261, 262, 263, 264, 265, 266, 267, 268, 269, 270, 271, 272, 273, 274, 275, 276, 277, 278, 289, 290, 291, 292, 293, 294, 295, 296, 279, 280, 281, 282, 283, 284, 285, 286, 287, 288, 297, 298] (by decide +kernel) (by decide +kernel)
set_option maxRecDepth 20000 in
theorem gX5_digest_X5_doubts : GoodIn wsX5_digest (wsV RX5 305 RX5 yX5_doubts wsX5_doubts) := goodIn_app (goodIn_of _ (by decide +kernel)) ggX5_digest_X5_doubts
set_option maxRecDepth 20000 in
theorem ggX5_digest_X5_score : GoodIn wsX5_digest wsX5_score := goodIn_r _ [235, 9, 101, 144, 145, 6, 146, 166, 167, 168, 169, 3, 4, 5, 7, 8, 10, 11, 12, 13, 14, 2, 15, 16, 17, 18, 19, 20, 21, 22, 23, 24, 25, 26, 27, 28, 29, 30, 31, 32, 33, 34, 35, 36, 37, 38, 39, 40, 41, 42, 43, 44, 45, 46, 47, 48, 49, 50, 51, 52, 53, 54, 55, 56, 57, 58, 59, 60, 61, 62, 63, 64, 65, 66, 67, 68, 69, 70, 71, 72, 73, 74, 75, 76, 77, 78, 79, 80, 81, 82, 83, 84, 85, 86, 87, 88, 89, 90, 91, 92, 93, 94, 95, 228, 229, 230, 231, 156, 157, 158, 159, 236, 237, 238, 239, 240, 170, 171, 172, 173, 174, 175, 259, 260, 261, 262, 263, 264, 265, 266, 267, 268, 269, 270, 271, 272, 273, 279, 280, 281, 282, 283, 284, 285, 286, 287, 288, 274, 275, 276, 277, 278, 289, 290, 291, 292, 293, 294, 295, 296, 297, 298] (by decide +kernel) (by decide +kernel)
set_option maxRecDepth 20000 in
theorem gX5_digest_X5_score : GoodIn wsX5_digest (wsV RX5 308 RX5 yX5_score wsX5_score) := goodIn_app (goodIn_of _ (by decide +kernel)) ggX5_digest_X5_score
set_option maxRecDepth 20000 in
theorem ggX5_digest_X5_least : GoodIn wsX5_digest wsX5_least := goodIn_r _ [244, 245, 246, 209, 9, 112, 144, 145, 6, 146, 3, 4, 5, 7, 8, 10, 11, 12, 13, 14, 2, 15, 16, 17, 18, 19, 20, 21, 22, 23, 24, 25, 26, 27, 28, 29, 30, 31, 32, 33, 34, 35, 36, 37, 38, 39, 40, 41, 42, 43, 44, 45, 46, 47, 48, 49, 50, 51, 52, 53, 54, 55, 56, 57, 58, 59, 60, 61, 62, 63, 64, 65, 66, 67, 68, 69, 70, 71, 72, 73, 74, 75, 76, 77, 78, 79, 80, 81, 82, 83, 84, 85, 86, 87, 88, 89, 90, 91, 92, 93, 94, 95, 259, 260, 261, 262, 263, 264, 265, 266, 267, 268, 269, 270, 271, 272, 273, 289, 290, 291, 292, 293, 294, 295, 296, 274, 275, 276, 277, 278, 279, 280, 281, 282, 283, 284, 285, 286, 287, 288, 297, 298] (by decide +kernel) (by decide +kernel)
set_option maxRecDepth 20000 in
theorem gX5_digest_X5_least : GoodIn wsX5_digest (wsV RX5 312 RX5 yX5_least wsX5_least) := goodIn_app (goodIn_of _ (by decide +kernel)) ggX5_digest_X5_least
set_option maxRecDepth 20000 in
theorem ggX5_digest_X5_shared : GoodIn wsX5_digest wsX5_shared := goodIn_r _ [250, 2, 202, 203, 204, 6, 205, 206, 207, 10, 11, 13, 14, 208, 15, 209, 17, 18, 19, 20, 21, 22, 23, 24, 25, 26, 27, 28, 29, 30, 31, 32, 33, 34, 35, 36, 37, 38, 39, 40, 41, 42, 43, 44, 45, 46, 47, 48, 49, 50, 51, 52, 53, 54, 55, 56, 57, 58, 59, 60, 61, 62, 63, 64, 65, 66, 67, 68, 69, 70, 71, 72, 73, 74, 75, 76, 77, 78, 79, 80, 81, 82, 83, 84, 85, 86, 87, 88, 89, 90, 91, 92, 93, 94, 95, 117, 118, 119, 120, 121, 122, 123, 124, 125, 210, 211, 212, 213, 259, 260, 261, 262, 263, 264, 265, 266, 267, 268, 269, 270, 271, 272, 273, 274, 275, 276, 277, 278, 279, 280, 281, 282, 283, 284, 285, 286, 287, 288, 289, 290, 291, 292, 293, 294, 295, 296, 297, 298] (by decide +kernel) (by decide +kernel)
set_option maxRecDepth 20000 in
theorem gX5_digest_X5_shared : GoodIn wsX5_digest (wsV RX5 210 RX5 yX5_shared wsX5_shared) := goodIn_app (goodIn_of _ (by decide +kernel)) ggX5_digest_X5_shared
set_option maxRecDepth 20000 in
theorem ggX5_digest_X5_saved : GoodIn wsX5_digest wsX5_saved := goodIn_r _ [254, 2, 255, 247, 248, 249, 6, 250, 202, 203, 204, 205, 206, 207, 10, 11, 13, 14, 208, 15, 209, 17, 18, 19, 20, 21, 22, 23, 24, 25, 26, 27, 28, 29, 30, 31, 32, 33, 34, 35, 36, 37, 38, 39, 40, 41, 42, 43, 44, 45, 46, 47, 48, 49, 50, 51, 52, 53, 54, 55, 56, 57, 58, 59, 60, 61, 62, 63, 64, 65, 66, 67, 68, 69, 70, 71, 72, 73, 74, 75, 76, 77, 78, 79, 80, 81, 82, 83, 84, 85, 86, 87, 88, 89, 90, 91, 92, 93, 94, 95, 117, 118, 119, 120, 121, 122, 123, 124, 125, 210, 211, 212, 213, 198, 199, 200, 201, 189, 190, 191, 192, 144, 145, 146, 256, 257, 258, 259, 260, 261, 262, 263, 264, 265, 266, 267, 268, 269, 270, 271, 272, 273, 274, 275, 276, 277, 278, 279, 280, 281, 282, 283, 284, 285, 286, 287, 288, 289, 290, 291, 292, 293, 294, 295, 296, 297, 298] (by decide +kernel) (by decide +kernel)
set_option maxRecDepth 20000 in
theorem gX5_digest_X5_saved : GoodIn wsX5_digest (wsV RX5 315 RX5 yX5_saved wsX5_saved) := goodIn_app (goodIn_of _ (by decide +kernel)) ggX5_digest_X5_saved
theorem dX5_digest_0 : decode cX5_digest 0 = .ok (.aload_n 0, 1) := by decide +kernel
theorem dX5_digest_1 : decode cX5_digest 1 = .ok (.invokevirtual 94, 3) := by decide +kernel
theorem dX5_digest_4 : decode cX5_digest 4 = .ok (.ldc2_w 285, 3) := by decide +kernel
theorem dX5_digest_7 : decode cX5_digest 7 = .ok (.lstore_n 1, 1) := by decide +kernel
theorem dX5_digest_8 : decode cX5_digest 8 = .ok (.iconst 0, 1) := by decide +kernel
theorem dX5_digest_9 : decode cX5_digest 9 = .ok (.istore_n 3, 1) := by decide +kernel
theorem dX5_digest_10 : decode cX5_digest 10 = .ok (.iload_n 3, 1) := by decide +kernel
theorem dX5_digest_11 : decode cX5_digest 11 = .ok (.bipush 7, 2) := by decide +kernel
theorem dX5_digest_13 : decode cX5_digest 13 = .ok (.if_icmp .gt 20, 3) := by decide +kernel
theorem dX5_digest_16 : decode cX5_digest 16 = .ok (.lload_n 1, 1) := by decide +kernel
theorem dX5_digest_17 : decode cX5_digest 17 = .ok (.aload_n 0, 1) := by decide +kernel
theorem dX5_digest_18 : decode cX5_digest 18 = .ok (.iload_n 3, 1) := by decide +kernel
theorem dX5_digest_19 : decode cX5_digest 19 = .ok (.invokevirtual 287, 3) := by decide +kernel
theorem dX5_digest_22 : decode cX5_digest 22 = .ok (.i2l, 1) := by decide +kernel
theorem dX5_digest_23 : decode cX5_digest 23 = .ok (.invokestatic 290, 3) := by decide +kernel
theorem dX5_digest_26 : decode cX5_digest 26 = .ok (.lstore_n 1, 1) := by decide +kernel
theorem dX5_digest_27 : decode cX5_digest 27 = .ok (.iinc 3 1, 3) := by decide +kernel
theorem dX5_digest_30 : decode cX5_digest 30 = .ok (.goto (-20), 3) := by decide +kernel
theorem dX5_digest_33 : decode cX5_digest 33 = .ok (.aload_n 0, 1) := by decide +kernel
theorem dX5_digest_34 : decode cX5_digest 34 = .ok (.lload_n 1, 1) := by decide +kernel
theorem dX5_digest_35 : decode cX5_digest 35 = .ok (.invokevirtual 294, 3) := by decide +kernel
theorem dX5_digest_38 : decode cX5_digest 38 = .ok (.lstore_n 1, 1) := by decide +kernel
theorem dX5_digest_39 : decode cX5_digest 39 = .ok (.aload_n 0, 1) := by decide +kernel
theorem dX5_digest_40 : decode cX5_digest 40 = .ok (.lload_n 1, 1) := by decide +kernel
theorem dX5_digest_41 : decode cX5_digest 41 = .ok (.invokevirtual 298, 3) := by decide +kernel
theorem dX5_digest_44 : decode cX5_digest 44 = .ok (.lstore_n 1, 1) := by decide +kernel
theorem dX5_digest_45 : decode cX5_digest 45 = .ok (.iconst 0, 1) := by decide +kernel
theorem dX5_digest_46 : decode cX5_digest 46 = .ok (.istore_n 3, 1) := by decide +kernel
theorem dX5_digest_47 : decode cX5_digest 47 = .ok (.iload_n 3, 1) := by decide +kernel
theorem dX5_digest_48 : decode cX5_digest 48 = .ok (.aload_n 0, 1) := by decide +kernel
theorem dX5_digest_49 : decode cX5_digest 49 = .ok (.getfield 140, 3) := by decide +kernel
theorem dX5_digest_52 : decode cX5_digest 52 = .ok (.if_icmp .ge 16, 3) := by decide +kernel
theorem dX5_digest_55 : decode cX5_digest 55 = .ok (.aload_n 0, 1) := by decide +kernel
theorem dX5_digest_56 : decode cX5_digest 56 = .ok (.lload_n 1, 1) := by decide +kernel
theorem dX5_digest_57 : decode cX5_digest 57 = .ok (.iload_n 3, 1) := by decide +kernel
theorem dX5_digest_58 : decode cX5_digest 58 = .ok (.invokevirtual 301, 3) := by decide +kernel
theorem dX5_digest_61 : decode cX5_digest 61 = .ok (.lstore_n 1, 1) := by decide +kernel
theorem dX5_digest_62 : decode cX5_digest 62 = .ok (.iinc 3 1, 3) := by decide +kernel
theorem dX5_digest_65 : decode cX5_digest 65 = .ok (.goto (-18), 3) := by decide +kernel
theorem dX5_digest_68 : decode cX5_digest 68 = .ok (.iconst 0, 1) := by decide +kernel
theorem dX5_digest_69 : decode cX5_digest 69 = .ok (.istore_n 3, 1) := by decide +kernel
theorem dX5_digest_70 : decode cX5_digest 70 = .ok (.iload_n 3, 1) := by decide +kernel
theorem dX5_digest_71 : decode cX5_digest 71 = .ok (.sipush 1000, 3) := by decide +kernel
theorem dX5_digest_74 : decode cX5_digest 74 = .ok (.if_icmp .gt 42, 3) := by decide +kernel
theorem dX5_digest_77 : decode cX5_digest 77 = .ok (.lload_n 1, 1) := by decide +kernel
theorem dX5_digest_78 : decode cX5_digest 78 = .ok (.aload_n 0, 1) := by decide +kernel
theorem dX5_digest_79 : decode cX5_digest 79 = .ok (.iload_n 3, 1) := by decide +kernel
theorem dX5_digest_80 : decode cX5_digest 80 = .ok (.invokevirtual 305, 3) := by decide +kernel
theorem dX5_digest_83 : decode cX5_digest 83 = .ok (.i2l, 1) := by decide +kernel
theorem dX5_digest_84 : decode cX5_digest 84 = .ok (.invokestatic 290, 3) := by decide +kernel
theorem dX5_digest_87 : decode cX5_digest 87 = .ok (.lstore_n 1, 1) := by decide +kernel
theorem dX5_digest_88 : decode cX5_digest 88 = .ok (.lload_n 1, 1) := by decide +kernel
theorem dX5_digest_89 : decode cX5_digest 89 = .ok (.aload_n 0, 1) := by decide +kernel
theorem dX5_digest_90 : decode cX5_digest 90 = .ok (.iload_n 3, 1) := by decide +kernel
theorem dX5_digest_91 : decode cX5_digest 91 = .ok (.iconst 0, 1) := by decide +kernel
theorem dX5_digest_92 : decode cX5_digest 92 = .ok (.invokevirtual 308, 3) := by decide +kernel
theorem dX5_digest_95 : decode cX5_digest 95 = .ok (.invokestatic 290, 3) := by decide +kernel
theorem dX5_digest_98 : decode cX5_digest 98 = .ok (.lstore_n 1, 1) := by decide +kernel
theorem dX5_digest_99 : decode cX5_digest 99 = .ok (.lload_n 1, 1) := by decide +kernel
theorem dX5_digest_100 : decode cX5_digest 100 = .ok (.aload_n 0, 1) := by decide +kernel
theorem dX5_digest_101 : decode cX5_digest 101 = .ok (.iload_n 3, 1) := by decide +kernel
theorem dX5_digest_102 : decode cX5_digest 102 = .ok (.iconst 1, 1) := by decide +kernel
theorem dX5_digest_103 : decode cX5_digest 103 = .ok (.invokevirtual 308, 3) := by decide +kernel
theorem dX5_digest_106 : decode cX5_digest 106 = .ok (.invokestatic 290, 3) := by decide +kernel
theorem dX5_digest_109 : decode cX5_digest 109 = .ok (.lstore_n 1, 1) := by decide +kernel
theorem dX5_digest_110 : decode cX5_digest 110 = .ok (.iinc 3 50, 3) := by decide +kernel
theorem dX5_digest_113 : decode cX5_digest 113 = .ok (.goto (-43), 3) := by decide +kernel
theorem dX5_digest_116 : decode cX5_digest 116 = .ok (.iconst 0, 1) := by decide +kernel
theorem dX5_digest_117 : decode cX5_digest 117 = .ok (.istore_n 3, 1) := by decide +kernel
theorem dX5_digest_118 : decode cX5_digest 118 = .ok (.iload_n 3, 1) := by decide +kernel
theorem dX5_digest_119 : decode cX5_digest 119 = .ok (.iconst 2, 1) := by decide +kernel
theorem dX5_digest_120 : decode cX5_digest 120 = .ok (.if_icmp .gt 33, 3) := by decide +kernel
theorem dX5_digest_123 : decode cX5_digest 123 = .ok (.lload_n 1, 1) := by decide +kernel
theorem dX5_digest_124 : decode cX5_digest 124 = .ok (.aload_n 0, 1) := by decide +kernel
theorem dX5_digest_125 : decode cX5_digest 125 = .ok (.iload_n 3, 1) := by decide +kernel
theorem dX5_digest_126 : decode cX5_digest 126 = .ok (.iconst 0, 1) := by decide +kernel
theorem dX5_digest_127 : decode cX5_digest 127 = .ok (.invokevirtual 312, 3) := by decide +kernel
theorem dX5_digest_130 : decode cX5_digest 130 = .ok (.i2l, 1) := by decide +kernel
theorem dX5_digest_131 : decode cX5_digest 131 = .ok (.invokestatic 290, 3) := by decide +kernel
theorem dX5_digest_134 : decode cX5_digest 134 = .ok (.lstore_n 1, 1) := by decide +kernel
theorem dX5_digest_135 : decode cX5_digest 135 = .ok (.lload_n 1, 1) := by decide +kernel
theorem dX5_digest_136 : decode cX5_digest 136 = .ok (.aload_n 0, 1) := by decide +kernel
theorem dX5_digest_137 : decode cX5_digest 137 = .ok (.iload_n 3, 1) := by decide +kernel
theorem dX5_digest_138 : decode cX5_digest 138 = .ok (.iconst 2, 1) := by decide +kernel
theorem dX5_digest_139 : decode cX5_digest 139 = .ok (.invokevirtual 312, 3) := by decide +kernel
theorem dX5_digest_142 : decode cX5_digest 142 = .ok (.i2l, 1) := by decide +kernel
theorem dX5_digest_143 : decode cX5_digest 143 = .ok (.invokestatic 290, 3) := by decide +kernel
theorem dX5_digest_146 : decode cX5_digest 146 = .ok (.lstore_n 1, 1) := by decide +kernel
theorem dX5_digest_147 : decode cX5_digest 147 = .ok (.iinc 3 1, 3) := by decide +kernel
theorem dX5_digest_150 : decode cX5_digest 150 = .ok (.goto (-32), 3) := by decide +kernel
theorem dX5_digest_153 : decode cX5_digest 153 = .ok (.lload_n 1, 1) := by decide +kernel
theorem dX5_digest_154 : decode cX5_digest 154 = .ok (.aload_n 0, 1) := by decide +kernel
theorem dX5_digest_155 : decode cX5_digest 155 = .ok (.invokevirtual 210, 3) := by decide +kernel
theorem dX5_digest_158 : decode cX5_digest 158 = .ok (.i2l, 1) := by decide +kernel
theorem dX5_digest_159 : decode cX5_digest 159 = .ok (.invokestatic 290, 3) := by decide +kernel
theorem dX5_digest_162 : decode cX5_digest 162 = .ok (.lstore_n 1, 1) := by decide +kernel
theorem dX5_digest_163 : decode cX5_digest 163 = .ok (.lload_n 1, 1) := by decide +kernel
theorem dX5_digest_164 : decode cX5_digest 164 = .ok (.aload_n 0, 1) := by decide +kernel
theorem dX5_digest_165 : decode cX5_digest 165 = .ok (.invokevirtual 315, 3) := by decide +kernel
theorem dX5_digest_168 : decode cX5_digest 168 = .ok (.i2l, 1) := by decide +kernel
theorem dX5_digest_169 : decode cX5_digest 169 = .ok (.invokestatic 290, 3) := by decide +kernel
theorem dX5_digest_172 : decode cX5_digest 172 = .ok (.lreturn, 1) := by decide +kernel
theorem dX5_isWithin_0 : decode cX5_isWithin 0 = .ok (.lload_n 0, 1) := by decide +kernel
theorem dX5_isWithin_1 : decode cX5_isWithin 1 = .ok (.iload_n 2, 1) := by decide +kernel
theorem dX5_isWithin_2 : decode cX5_isWithin 2 = .ok (.i2l, 1) := by decide +kernel
theorem dX5_isWithin_3 : decode cX5_isWithin 3 = .ok (.lcmp, 1) := by decide +kernel
theorem dX5_isWithin_4 : decode cX5_isWithin 4 = .ok (.ifCond .lt 14, 3) := by decide +kernel
theorem dX5_isWithin_7 : decode cX5_isWithin 7 = .ok (.lload_n 0, 1) := by decide +kernel
theorem dX5_isWithin_8 : decode cX5_isWithin 8 = .ok (.iload_n 3, 1) := by decide +kernel
theorem dX5_isWithin_9 : decode cX5_isWithin 9 = .ok (.i2l, 1) := by decide +kernel
theorem dX5_isWithin_10 : decode cX5_isWithin 10 = .ok (.lcmp, 1) := by decide +kernel
theorem dX5_isWithin_11 : decode cX5_isWithin 11 = .ok (.ifCond .gt 7, 3) := by decide +kernel
theorem dX5_isWithin_14 : decode cX5_isWithin 14 = .ok (.iconst 1, 1) := by decide +kernel
theorem dX5_isWithin_15 : decode cX5_isWithin 15 = .ok (.goto 4, 3) := by decide +kernel
theorem dX5_isWithin_18 : decode cX5_isWithin 18 = .ok (.iconst 0, 1) := by decide +kernel
theorem dX5_isWithin_19 : decode cX5_isWithin 19 = .ok (.ireturn, 1) := by decide +kernel
set_option maxRecDepth 20000 in
theorem ggX5_isDelay_X5_isWithin : GoodIn wsX5_isDelay wsX5_isWithin := goodIn_r _ [5] (by decide +kernel) (by decide +kernel)
set_option maxRecDepth 20000 in
theorem gX5_isDelay_X5_isWithin : GoodIn wsX5_isDelay (va_wsS RX5 68 yX5_isWithin wsX5_isWithin) := goodIn_app (goodIn_of _ (by decide +kernel)) ggX5_isDelay_X5_isWithin
theorem dX5_isDelay_0 : decode cX5_isDelay 0 = .ok (.lload_n 0, 1) := by decide +kernel
theorem dX5_isDelay_1 : decode cX5_isDelay 1 = .ok (.ldc2_w 318, 3) := by decide +kernel
theorem dX5_isDelay_4 : decode cX5_isDelay 4 = .ok (.lcmp, 1) := by decide +kernel
theorem dX5_isDelay_5 : decode cX5_isDelay 5 = .ok (.ifCond .eq 13, 3) := by decide +kernel
theorem dX5_isDelay_8 : decode cX5_isDelay 8 = .ok (.lload_n 0, 1) := by decide +kernel
theorem dX5_isDelay_9 : decode cX5_isDelay 9 = .ok (.iconst 0, 1) := by decide +kernel
theorem dX5_isDelay_10 : decode cX5_isDelay 10 = .ok (.bipush 99, 2) := by decide +kernel
theorem dX5_isDelay_12 : decode cX5_isDelay 12 = .ok (.invokestatic 68, 3) := by decide +kernel
theorem dX5_isDelay_15 : decode cX5_isDelay 15 = .ok (.ifCond .eq 7, 3) := by decide +kernel
theorem dX5_isDelay_18 : decode cX5_isDelay 18 = .ok (.iconst 1, 1) := by decide +kernel
theorem dX5_isDelay_19 : decode cX5_isDelay 19 = .ok (.goto 4, 3) := by decide +kernel
theorem dX5_isDelay_22 : decode cX5_isDelay 22 = .ok (.iconst 0, 1) := by decide +kernel
theorem dX5_isDelay_23 : decode cX5_isDelay 23 = .ok (.ireturn, 1) := by decide +kernel
set_option maxRecDepth 20000 in
theorem ggX5_isMeasure_X5_isWithin : GoodIn wsX5_isMeasure wsX5_isWithin := goodIn_r _ [6] (by decide +kernel) (by decide +kernel)
set_option maxRecDepth 20000 in
theorem gX5_isMeasure_X5_isWithin : GoodIn wsX5_isMeasure (va_wsS RX5 68 yX5_isWithin wsX5_isWithin) := goodIn_app (goodIn_of _ (by decide +kernel)) ggX5_isMeasure_X5_isWithin
theorem dX5_isMeasure_0 : decode cX5_isMeasure 0 = .ok (.iload_n 1, 1) := by decide +kernel
theorem dX5_isMeasure_1 : decode cX5_isMeasure 1 = .ok (.i2l, 1) := by decide +kernel
theorem dX5_isMeasure_2 : decode cX5_isMeasure 2 = .ok (.getstatic 194, 3) := by decide +kernel
theorem dX5_isMeasure_5 : decode cX5_isMeasure 5 = .ok (.iload_n 0, 1) := by decide +kernel
theorem dX5_isMeasure_6 : decode cX5_isMeasure 6 = .ok (.iaload, 1) := by decide +kernel
theorem dX5_isMeasure_7 : decode cX5_isMeasure 7 = .ok (.getstatic 197, 3) := by decide +kernel
theorem dX5_isMeasure_10 : decode cX5_isMeasure 10 = .ok (.iload_n 0, 1) := by decide +kernel
theorem dX5_isMeasure_11 : decode cX5_isMeasure 11 = .ok (.iaload, 1) := by decide +kernel
theorem dX5_isMeasure_12 : decode cX5_isMeasure 12 = .ok (.invokestatic 68, 3) := by decide +kernel
theorem dX5_isMeasure_15 : decode cX5_isMeasure 15 = .ok (.ireturn, 1) := by decide +kernel
set_option maxRecDepth 20000 in
theorem ggX5_isWatcher_X5_isWithin : GoodIn wsX5_isWatcher wsX5_isWithin := goodIn_r _ [5] (by decide +kernel) (by decide +kernel)
set_option maxRecDepth 20000 in
theorem gX5_isWatcher_X5_isWithin : GoodIn wsX5_isWatcher (va_wsS RX5 68 yX5_isWithin wsX5_isWithin) := goodIn_app (goodIn_of _ (by decide +kernel)) ggX5_isWatcher_X5_isWithin
theorem dX5_isWatcher_0 : decode cX5_isWatcher 0 = .ok (.iload_n 1, 1) := by decide +kernel
theorem dX5_isWatcher_1 : decode cX5_isWatcher 1 = .ok (.i2l, 1) := by decide +kernel
theorem dX5_isWatcher_2 : decode cX5_isWatcher 2 = .ok (.iconst 0, 1) := by decide +kernel
theorem dX5_isWatcher_3 : decode cX5_isWatcher 3 = .ok (.aload_n 0, 1) := by decide +kernel
theorem dX5_isWatcher_4 : decode cX5_isWatcher 4 = .ok (.getfield 140, 3) := by decide +kernel
theorem dX5_isWatcher_7 : decode cX5_isWatcher 7 = .ok (.iconst 1, 1) := by decide +kernel
theorem dX5_isWatcher_8 : decode cX5_isWatcher 8 = .ok (.isub, 1) := by decide +kernel
theorem dX5_isWatcher_9 : decode cX5_isWatcher 9 = .ok (.invokestatic 68, 3) := by decide +kernel
theorem dX5_isWatcher_12 : decode cX5_isWatcher 12 = .ok (.ireturn, 1) := by decide +kernel
set_option maxRecDepth 20000 in
theorem ggX5_isSheet_X5_isWithin : GoodIn wsX5_isSheet wsX5_isWithin := goodIn_r _ [4] (by decide +kernel) (by decide +kernel)
set_option maxRecDepth 20000 in
theorem gX5_isSheet_X5_isWithin : GoodIn wsX5_isSheet (va_wsS RX5 68 yX5_isWithin wsX5_isWithin) := goodIn_app (goodIn_of _ (by decide +kernel)) ggX5_isSheet_X5_isWithin
theorem dX5_isSheet_0 : decode cX5_isSheet 0 = .ok (.iload_n 0, 1) := by decide +kernel
theorem dX5_isSheet_1 : decode cX5_isSheet 1 = .ok (.i2l, 1) := by decide +kernel
theorem dX5_isSheet_2 : decode cX5_isSheet 2 = .ok (.iconst 0, 1) := by decide +kernel
theorem dX5_isSheet_3 : decode cX5_isSheet 3 = .ok (.iconst 3, 1) := by decide +kernel
theorem dX5_isSheet_4 : decode cX5_isSheet 4 = .ok (.invokestatic 68, 3) := by decide +kernel
theorem dX5_isSheet_7 : decode cX5_isSheet 7 = .ok (.ireturn, 1) := by decide +kernel
set_option maxRecDepth 20000 in
theorem ggX5_refusalOfRow_X5_isSheet : GoodIn wsX5_refusalOfRow wsX5_isSheet := goodIn_r _ [7, 8, 9, 6, 10] (by decide +kernel) (by decide +kernel)
set_option maxRecDepth 20000 in
theorem gX5_refusalOfRow_X5_isSheet : GoodIn wsX5_refusalOfRow (va_wsS RX5 221 yX5_isSheet wsX5_isSheet) := goodIn_app (goodIn_of _ (by decide +kernel)) ggX5_refusalOfRow_X5_isSheet
set_option maxRecDepth 20000 in
theorem ggX5_refusalOfRow_X5_find : GoodIn wsX5_refusalOfRow wsX5_find := goodIn_r _ [14, 15, 16, 17, 18, 19, 20, 21, 22, 23, 24, 25, 26, 27, 28, 29, 30] (by decide +kernel) (by decide +kernel)
set_option maxRecDepth 20000 in
theorem gX5_refusalOfRow_X5_find : GoodIn wsX5_refusalOfRow (wsV RX5 224 RX5 yX5_find wsX5_find) := goodIn_app (goodIn_of _ (by decide +kernel)) ggX5_refusalOfRow_X5_find
theorem dX5_refusalOfRow_0 : decode cX5_refusalOfRow 0 = .ok (.iload_n 1, 1) := by decide +kernel
theorem dX5_refusalOfRow_1 : decode cX5_refusalOfRow 1 = .ok (.invokestatic 221, 3) := by decide +kernel
theorem dX5_refusalOfRow_4 : decode cX5_refusalOfRow 4 = .ok (.ifCond .ne 6, 3) := by decide +kernel
theorem dX5_refusalOfRow_7 : decode cX5_refusalOfRow 7 = .ok (.bipush (-2), 2) := by decide +kernel
theorem dX5_refusalOfRow_9 : decode cX5_refusalOfRow 9 = .ok (.ireturn, 1) := by decide +kernel
theorem dX5_refusalOfRow_10 : decode cX5_refusalOfRow 10 = .ok (.aload_n 0, 1) := by decide +kernel
theorem dX5_refusalOfRow_11 : decode cX5_refusalOfRow 11 = .ok (.getfield 32, 3) := by decide +kernel
theorem dX5_refusalOfRow_14 : decode cX5_refusalOfRow 14 = .ok (.iload_n 1, 1) := by decide +kernel
theorem dX5_refusalOfRow_15 : decode cX5_refusalOfRow 15 = .ok (.aaload, 1) := by decide +kernel
theorem dX5_refusalOfRow_16 : decode cX5_refusalOfRow 16 = .ok (.getfield 228, 3) := by decide +kernel
theorem dX5_refusalOfRow_19 : decode cX5_refusalOfRow 19 = .ok (.ifCond .eq 9, 3) := by decide +kernel
theorem dX5_refusalOfRow_22 : decode cX5_refusalOfRow 22 = .ok (.aload_n 0, 1) := by decide +kernel
theorem dX5_refusalOfRow_23 : decode cX5_refusalOfRow 23 = .ok (.iconst 1, 1) := by decide +kernel
theorem dX5_refusalOfRow_24 : decode cX5_refusalOfRow 24 = .ok (.invokevirtual 224, 3) := by decide +kernel
theorem dX5_refusalOfRow_27 : decode cX5_refusalOfRow 27 = .ok (.ireturn, 1) := by decide +kernel
theorem dX5_refusalOfRow_28 : decode cX5_refusalOfRow 28 = .ok (.aload_n 0, 1) := by decide +kernel
theorem dX5_refusalOfRow_29 : decode cX5_refusalOfRow 29 = .ok (.getfield 32, 3) := by decide +kernel
theorem dX5_refusalOfRow_32 : decode cX5_refusalOfRow 32 = .ok (.iload_n 1, 1) := by decide +kernel
theorem dX5_refusalOfRow_33 : decode cX5_refusalOfRow 33 = .ok (.aaload, 1) := by decide +kernel
theorem dX5_refusalOfRow_34 : decode cX5_refusalOfRow 34 = .ok (.getfield 241, 3) := by decide +kernel
theorem dX5_refusalOfRow_37 : decode cX5_refusalOfRow 37 = .ok (.iload_n 2, 1) := by decide +kernel
theorem dX5_refusalOfRow_38 : decode cX5_refusalOfRow 38 = .ok (.if_icmp .ne 7, 3) := by decide +kernel
theorem dX5_refusalOfRow_41 : decode cX5_refusalOfRow 41 = .ok (.iconst 0, 1) := by decide +kernel
theorem dX5_refusalOfRow_42 : decode cX5_refusalOfRow 42 = .ok (.goto 8, 3) := by decide +kernel
theorem dX5_refusalOfRow_45 : decode cX5_refusalOfRow 45 = .ok (.aload_n 0, 1) := by decide +kernel
theorem dX5_refusalOfRow_46 : decode cX5_refusalOfRow 46 = .ok (.iconst 3, 1) := by decide +kernel
theorem dX5_refusalOfRow_47 : decode cX5_refusalOfRow 47 = .ok (.invokevirtual 224, 3) := by decide +kernel
theorem dX5_refusalOfRow_50 : decode cX5_refusalOfRow 50 = .ok (.ireturn, 1) := by decide +kernel
theorem dX5_find_0 : decode cX5_find 0 = .ok (.aload_n 0, 1) := by decide +kernel
theorem dX5_find_1 : decode cX5_find 1 = .ok (.iload_n 1, 1) := by decide +kernel
theorem dX5_find_2 : decode cX5_find 2 = .ok (.putfield 282, 3) := by decide +kernel
theorem dX5_find_5 : decode cX5_find 5 = .ok (.bipush (-10), 2) := by decide +kernel
theorem dX5_find_7 : decode cX5_find 7 = .ok (.iload_n 1, 1) := by decide +kernel
theorem dX5_find_8 : decode cX5_find 8 = .ok (.isub, 1) := by decide +kernel
theorem dX5_find_9 : decode cX5_find 9 = .ok (.ireturn, 1) := by decide +kernel
theorem dX5_asLong_0 : decode cX5_asLong 0 = .ok (.ldc2_w 320, 3) := by decide +kernel
theorem dX5_asLong_3 : decode cX5_asLong 3 = .ok (.iload_n 0, 1) := by decide +kernel
theorem dX5_asLong_4 : decode cX5_asLong 4 = .ok (.i2l, 1) := by decide +kernel
theorem dX5_asLong_5 : decode cX5_asLong 5 = .ok (.lsub, 1) := by decide +kernel
theorem dX5_asLong_6 : decode cX5_asLong 6 = .ok (.lreturn, 1) := by decide +kernel
set_option maxRecDepth 20000 in
theorem ggX5_addBeat_X5_forgetWhatFollowed : GoodIn wsX5_addBeat wsX5_forgetWhatFollowed := goodIn_r _ [7, 8, 9, 10, 11, 12, 13, 14, 15, 16, 17, 18, 19, 20, 21, 22, 23, 24] (by decide +kernel) (by decide +kernel)
set_option maxRecDepth 20000 in
theorem gX5_addBeat_X5_forgetWhatFollowed : GoodIn wsX5_addBeat (wsV RX5 81 RX5 yX5_forgetWhatFollowed wsX5_forgetWhatFollowed) := goodIn_app (goodIn_of _ (by decide +kernel)) ggX5_addBeat_X5_forgetWhatFollowed
theorem dX5_addBeat_0 : decode cX5_addBeat 0 = .ok (.aload_n 0, 1) := by decide +kernel
theorem dX5_addBeat_1 : decode cX5_addBeat 1 = .ok (.getfield 9, 3) := by decide +kernel
theorem dX5_addBeat_4 : decode cX5_addBeat 4 = .ok (.aload_n 0, 1) := by decide +kernel
theorem dX5_addBeat_5 : decode cX5_addBeat 5 = .ok (.getfield 61, 3) := by decide +kernel
theorem dX5_addBeat_8 : decode cX5_addBeat 8 = .ok (.iload_n 1, 1) := by decide +kernel
theorem dX5_addBeat_9 : decode cX5_addBeat 9 = .ok (.iastore, 1) := by decide +kernel
theorem dX5_addBeat_10 : decode cX5_addBeat 10 = .ok (.aload_n 0, 1) := by decide +kernel
theorem dX5_addBeat_11 : decode cX5_addBeat 11 = .ok (.dup, 1) := by decide +kernel
theorem dX5_addBeat_12 : decode cX5_addBeat 12 = .ok (.getfield 61, 3) := by decide +kernel
theorem dX5_addBeat_15 : decode cX5_addBeat 15 = .ok (.iconst 1, 1) := by decide +kernel
theorem dX5_addBeat_16 : decode cX5_addBeat 16 = .ok (.iadd, 1) := by decide +kernel
theorem dX5_addBeat_17 : decode cX5_addBeat 17 = .ok (.putfield 61, 3) := by decide +kernel
theorem dX5_addBeat_20 : decode cX5_addBeat 20 = .ok (.aload_n 0, 1) := by decide +kernel
theorem dX5_addBeat_21 : decode cX5_addBeat 21 = .ok (.invokevirtual 81, 3) := by decide +kernel
theorem dX5_addBeat_24 : decode cX5_addBeat 24 = .ok (.return_, 1) := by decide +kernel
theorem dX5_forgetWhatFollowed_0 : decode cX5_forgetWhatFollowed 0 = .ok (.aload_n 0, 1) := by decide +kernel
theorem dX5_forgetWhatFollowed_1 : decode cX5_forgetWhatFollowed 1 = .ok (.iconst 0, 1) := by decide +kernel
theorem dX5_forgetWhatFollowed_2 : decode cX5_forgetWhatFollowed 2 = .ok (.putfield 322, 3) := by decide +kernel
theorem dX5_forgetWhatFollowed_5 : decode cX5_forgetWhatFollowed 5 = .ok (.aload_n 0, 1) := by decide +kernel
theorem dX5_forgetWhatFollowed_6 : decode cX5_forgetWhatFollowed 6 = .ok (.iconst 0, 1) := by decide +kernel
theorem dX5_forgetWhatFollowed_7 : decode cX5_forgetWhatFollowed 7 = .ok (.putfield 325, 3) := by decide +kernel
theorem dX5_forgetWhatFollowed_10 : decode cX5_forgetWhatFollowed 10 = .ok (.return_, 1) := by decide +kernel
set_option maxRecDepth 20000 in
theorem ggX5_followArrivals_X0_follow : GoodIn wsX5_followArrivals wsX0_follow := goodIn_r _ [17, 18, 19, 20, 21, 22, 23, 24, 25, 16, 26, 27, 28, 29, 30, 31, 32, 33, 34, 35, 36, 37, 38, 39, 40, 110, 111, 112, 113, 114, 115, 116, 117, 118, 119] (by decide +kernel) (by decide +kernel)
set_option maxRecDepth 20000 in
theorem gX5_followArrivals_X0_follow : GoodIn wsX5_followArrivals (wsV RX5 328 RX0 yX0_follow wsX0_follow) := goodIn_app (goodIn_of _ (by decide +kernel)) ggX5_followArrivals_X0_follow
set_option maxRecDepth 20000 in
theorem ggX5_followArrivals_X1_keep : GoodIn wsX5_followArrivals wsX1_keep := goodIn_r _ [45, 46, 47, 48, 49, 50, 51, 52, 53, 54, 55, 56, 57, 58, 59, 36, 60, 61, 62, 63, 64, 65, 66, 67, 68, 69, 70, 71, 72, 73, 74, 75, 76, 77, 78, 44, 79, 80, 81, 82, 83, 84, 85, 86, 87, 88, 89, 120, 121, 122, 123, 124, 125, 126, 127, 110, 111, 112, 113, 114, 115, 116, 117, 118, 119, 128, 129] (by decide +kernel) (by decide +kernel)
set_option maxRecDepth 20000 in
theorem gX5_followArrivals_X1_keep : GoodIn wsX5_followArrivals (wsV RX5 200 RX1 yX1_keep wsX1_keep) := goodIn_app (goodIn_of _ (by decide +kernel)) ggX5_followArrivals_X1_keep
theorem dX5_followArrivals_0 : decode cX5_followArrivals 0 = .ok (.aload_n 0, 1) := by decide +kernel
theorem dX5_followArrivals_1 : decode cX5_followArrivals 1 = .ok (.getfield 322, 3) := by decide +kernel
theorem dX5_followArrivals_4 : decode cX5_followArrivals 4 = .ok (.ifCond .eq 4, 3) := by decide +kernel
theorem dX5_followArrivals_7 : decode cX5_followArrivals 7 = .ok (.return_, 1) := by decide +kernel
theorem dX5_followArrivals_8 : decode cX5_followArrivals 8 = .ok (.aload_n 0, 1) := by decide +kernel
theorem dX5_followArrivals_9 : decode cX5_followArrivals 9 = .ok (.getfield 40, 3) := by decide +kernel
theorem dX5_followArrivals_12 : decode cX5_followArrivals 12 = .ok (.aload_n 0, 1) := by decide +kernel
theorem dX5_followArrivals_13 : decode cX5_followArrivals 13 = .ok (.getfield 9, 3) := by decide +kernel
theorem dX5_followArrivals_16 : decode cX5_followArrivals 16 = .ok (.aload_n 0, 1) := by decide +kernel
theorem dX5_followArrivals_17 : decode cX5_followArrivals 17 = .ok (.getfield 61, 3) := by decide +kernel
theorem dX5_followArrivals_20 : decode cX5_followArrivals 20 = .ok (.aload_n 0, 1) := by decide +kernel
theorem dX5_followArrivals_21 : decode cX5_followArrivals 21 = .ok (.getfield 13, 3) := by decide +kernel
theorem dX5_followArrivals_24 : decode cX5_followArrivals 24 = .ok (.aload_n 0, 1) := by decide +kernel
theorem dX5_followArrivals_25 : decode cX5_followArrivals 25 = .ok (.getfield 17, 3) := by decide +kernel
theorem dX5_followArrivals_28 : decode cX5_followArrivals 28 = .ok (.aload_n 0, 1) := by decide +kernel
theorem dX5_followArrivals_29 : decode cX5_followArrivals 29 = .ok (.getfield 20, 3) := by decide +kernel
theorem dX5_followArrivals_32 : decode cX5_followArrivals 32 = .ok (.invokevirtual 328, 3) := by decide +kernel
theorem dX5_followArrivals_35 : decode cX5_followArrivals 35 = .ok (.iconst 0, 1) := by decide +kernel
theorem dX5_followArrivals_36 : decode cX5_followArrivals 36 = .ok (.istore_n 1, 1) := by decide +kernel
theorem dX5_followArrivals_37 : decode cX5_followArrivals 37 = .ok (.iload_n 1, 1) := by decide +kernel
theorem dX5_followArrivals_38 : decode cX5_followArrivals 38 = .ok (.aload_n 0, 1) := by decide +kernel
theorem dX5_followArrivals_39 : decode cX5_followArrivals 39 = .ok (.getfield 140, 3) := by decide +kernel
theorem dX5_followArrivals_42 : decode cX5_followArrivals 42 = .ok (.if_icmp .ge 43, 3) := by decide +kernel
theorem dX5_followArrivals_45 : decode cX5_followArrivals 45 = .ok (.aload_n 0, 1) := by decide +kernel
theorem dX5_followArrivals_46 : decode cX5_followArrivals 46 = .ok (.getfield 25, 3) := by decide +kernel
theorem dX5_followArrivals_49 : decode cX5_followArrivals 49 = .ok (.iload_n 1, 1) := by decide +kernel
theorem dX5_followArrivals_50 : decode cX5_followArrivals 50 = .ok (.aaload, 1) := by decide +kernel
theorem dX5_followArrivals_51 : decode cX5_followArrivals 51 = .ok (.getfield 163, 3) := by decide +kernel
theorem dX5_followArrivals_54 : decode cX5_followArrivals 54 = .ok (.aload_n 0, 1) := by decide +kernel
theorem dX5_followArrivals_55 : decode cX5_followArrivals 55 = .ok (.getfield 40, 3) := by decide +kernel
theorem dX5_followArrivals_58 : decode cX5_followArrivals 58 = .ok (.aload_n 0, 1) := by decide +kernel
theorem dX5_followArrivals_59 : decode cX5_followArrivals 59 = .ok (.getfield 25, 3) := by decide +kernel
theorem dX5_followArrivals_62 : decode cX5_followArrivals 62 = .ok (.iload_n 1, 1) := by decide +kernel
theorem dX5_followArrivals_63 : decode cX5_followArrivals 63 = .ok (.aaload, 1) := by decide +kernel
theorem dX5_followArrivals_64 : decode cX5_followArrivals 64 = .ok (.getfield 151, 3) := by decide +kernel
theorem dX5_followArrivals_67 : decode cX5_followArrivals 67 = .ok (.aload_n 0, 1) := by decide +kernel
theorem dX5_followArrivals_68 : decode cX5_followArrivals 68 = .ok (.getfield 25, 3) := by decide +kernel
theorem dX5_followArrivals_71 : decode cX5_followArrivals 71 = .ok (.iload_n 1, 1) := by decide +kernel
theorem dX5_followArrivals_72 : decode cX5_followArrivals 72 = .ok (.aaload, 1) := by decide +kernel
theorem dX5_followArrivals_73 : decode cX5_followArrivals 73 = .ok (.getfield 154, 3) := by decide +kernel
theorem dX5_followArrivals_76 : decode cX5_followArrivals 76 = .ok (.invokevirtual 200, 3) := by decide +kernel
theorem dX5_followArrivals_79 : decode cX5_followArrivals 79 = .ok (.iinc 1 1, 3) := by decide +kernel
theorem dX5_followArrivals_82 : decode cX5_followArrivals 82 = .ok (.goto (-45), 3) := by decide +kernel
theorem dX5_followArrivals_85 : decode cX5_followArrivals 85 = .ok (.aload_n 0, 1) := by decide +kernel
theorem dX5_followArrivals_86 : decode cX5_followArrivals 86 = .ok (.iconst 1, 1) := by decide +kernel
theorem dX5_followArrivals_87 : decode cX5_followArrivals 87 = .ok (.putfield 322, 3) := by decide +kernel
theorem dX5_followArrivals_90 : decode cX5_followArrivals 90 = .ok (.return_, 1) := by decide +kernel
set_option maxRecDepth 20000 in
theorem ggX5_weighPeriods_X0_follow : GoodIn wsX5_weighPeriods wsX0_follow := goodIn_r _ [17, 18, 19, 20, 21, 22, 23, 24, 25, 16, 26, 27, 28, 29, 30, 31, 32, 33, 34, 35, 36, 37, 38, 39, 40, 119, 120, 121, 122, 123, 124, 125, 126, 127, 128] (by decide +kernel) (by decide +kernel)
set_option maxRecDepth 20000 in
theorem gX5_weighPeriods_X0_follow : GoodIn wsX5_weighPeriods (wsV RX5 328 RX0 yX0_follow wsX0_follow) := goodIn_app (goodIn_of _ (by decide +kernel)) ggX5_weighPeriods_X0_follow
set_option maxRecDepth 20000 in
theorem ggX5_weighPeriods_X1_keep : GoodIn wsX5_weighPeriods wsX1_keep := goodIn_r _ [45, 46, 47, 48, 49, 50, 51, 52, 53, 54, 55, 56, 57, 58, 59, 36, 60, 61, 62, 63, 64, 65, 66, 67, 68, 69, 70, 71, 72, 73, 74, 75, 76, 77, 78, 44, 79, 80, 81, 82, 83, 84, 85, 86, 87, 88, 89, 129, 130, 131, 132, 133, 134, 135, 136, 119, 120, 121, 122, 123, 124, 125, 126, 127, 128, 137, 138] (by decide +kernel) (by decide +kernel)
set_option maxRecDepth 20000 in
theorem gX5_weighPeriods_X1_keep : GoodIn wsX5_weighPeriods (wsV RX5 200 RX1 yX1_keep wsX1_keep) := goodIn_app (goodIn_of _ (by decide +kernel)) ggX5_weighPeriods_X1_keep
set_option maxRecDepth 20000 in
theorem ggX5_weighPeriods_X4_keepsWishes : GoodIn wsX5_weighPeriods wsX4_keepsWishes := goodIn_r _ [94, 95, 96, 97, 98, 114, 115, 116, 117, 118, 129, 130, 131, 132, 133, 134, 135, 136] (by decide +kernel) (by decide +kernel)
set_option maxRecDepth 20000 in
theorem gX5_weighPeriods_X4_keepsWishes : GoodIn wsX5_weighPeriods (wsV RX5 178 RX4 yX4_keepsWishes wsX4_keepsWishes) := goodIn_app (goodIn_of _ (by decide +kernel)) ggX5_weighPeriods_X4_keepsWishes
theorem dX5_weighPeriods_0 : decode cX5_weighPeriods 0 = .ok (.aload_n 0, 1) := by decide +kernel
theorem dX5_weighPeriods_1 : decode cX5_weighPeriods 1 = .ok (.getfield 325, 3) := by decide +kernel
theorem dX5_weighPeriods_4 : decode cX5_weighPeriods 4 = .ok (.ifCond .eq 4, 3) := by decide +kernel
theorem dX5_weighPeriods_7 : decode cX5_weighPeriods 7 = .ok (.return_, 1) := by decide +kernel
theorem dX5_weighPeriods_8 : decode cX5_weighPeriods 8 = .ok (.iconst 1, 1) := by decide +kernel
theorem dX5_weighPeriods_9 : decode cX5_weighPeriods 9 = .ok (.istore_n 1, 1) := by decide +kernel
theorem dX5_weighPeriods_10 : decode cX5_weighPeriods 10 = .ok (.iload_n 1, 1) := by decide +kernel
theorem dX5_weighPeriods_11 : decode cX5_weighPeriods 11 = .ok (.bipush 50, 2) := by decide +kernel
theorem dX5_weighPeriods_13 : decode cX5_weighPeriods 13 = .ok (.if_icmp .gt 105, 3) := by decide +kernel
theorem dX5_weighPeriods_16 : decode cX5_weighPeriods 16 = .ok (.aload_n 0, 1) := by decide +kernel
theorem dX5_weighPeriods_17 : decode cX5_weighPeriods 17 = .ok (.getfield 47, 3) := by decide +kernel
theorem dX5_weighPeriods_20 : decode cX5_weighPeriods 20 = .ok (.aload_n 0, 1) := by decide +kernel
theorem dX5_weighPeriods_21 : decode cX5_weighPeriods 21 = .ok (.getfield 9, 3) := by decide +kernel
theorem dX5_weighPeriods_24 : decode cX5_weighPeriods 24 = .ok (.aload_n 0, 1) := by decide +kernel
theorem dX5_weighPeriods_25 : decode cX5_weighPeriods 25 = .ok (.getfield 61, 3) := by decide +kernel
theorem dX5_weighPeriods_28 : decode cX5_weighPeriods 28 = .ok (.iload_n 1, 1) := by decide +kernel
theorem dX5_weighPeriods_29 : decode cX5_weighPeriods 29 = .ok (.aload_n 0, 1) := by decide +kernel
theorem dX5_weighPeriods_30 : decode cX5_weighPeriods 30 = .ok (.getfield 17, 3) := by decide +kernel
theorem dX5_weighPeriods_33 : decode cX5_weighPeriods 33 = .ok (.aload_n 0, 1) := by decide +kernel
theorem dX5_weighPeriods_34 : decode cX5_weighPeriods 34 = .ok (.getfield 20, 3) := by decide +kernel
theorem dX5_weighPeriods_37 : decode cX5_weighPeriods 37 = .ok (.invokevirtual 328, 3) := by decide +kernel
theorem dX5_weighPeriods_40 : decode cX5_weighPeriods 40 = .ok (.aload_n 0, 1) := by decide +kernel
theorem dX5_weighPeriods_41 : decode cX5_weighPeriods 41 = .ok (.getfield 44, 3) := by decide +kernel
theorem dX5_weighPeriods_44 : decode cX5_weighPeriods 44 = .ok (.iload_n 1, 1) := by decide +kernel
theorem dX5_weighPeriods_45 : decode cX5_weighPeriods 45 = .ok (.iconst 0, 1) := by decide +kernel
theorem dX5_weighPeriods_46 : decode cX5_weighPeriods 46 = .ok (.iastore, 1) := by decide +kernel
theorem dX5_weighPeriods_47 : decode cX5_weighPeriods 47 = .ok (.iconst 0, 1) := by decide +kernel
theorem dX5_weighPeriods_48 : decode cX5_weighPeriods 48 = .ok (.istore_n 2, 1) := by decide +kernel
theorem dX5_weighPeriods_49 : decode cX5_weighPeriods 49 = .ok (.iload_n 2, 1) := by decide +kernel
theorem dX5_weighPeriods_50 : decode cX5_weighPeriods 50 = .ok (.aload_n 0, 1) := by decide +kernel
theorem dX5_weighPeriods_51 : decode cX5_weighPeriods 51 = .ok (.getfield 140, 3) := by decide +kernel
theorem dX5_weighPeriods_54 : decode cX5_weighPeriods 54 = .ok (.if_icmp .ge 58, 3) := by decide +kernel
theorem dX5_weighPeriods_57 : decode cX5_weighPeriods 57 = .ok (.aload_n 0, 1) := by decide +kernel
theorem dX5_weighPeriods_58 : decode cX5_weighPeriods 58 = .ok (.getfield 25, 3) := by decide +kernel
theorem dX5_weighPeriods_61 : decode cX5_weighPeriods 61 = .ok (.iload_n 2, 1) := by decide +kernel
theorem dX5_weighPeriods_62 : decode cX5_weighPeriods 62 = .ok (.aaload, 1) := by decide +kernel
theorem dX5_weighPeriods_63 : decode cX5_weighPeriods 63 = .ok (.astore_n 3, 1) := by decide +kernel
theorem dX5_weighPeriods_64 : decode cX5_weighPeriods 64 = .ok (.aload_n 0, 1) := by decide +kernel
theorem dX5_weighPeriods_65 : decode cX5_weighPeriods 65 = .ok (.getfield 53, 3) := by decide +kernel
theorem dX5_weighPeriods_68 : decode cX5_weighPeriods 68 = .ok (.aload_n 0, 1) := by decide +kernel
theorem dX5_weighPeriods_69 : decode cX5_weighPeriods 69 = .ok (.getfield 47, 3) := by decide +kernel
theorem dX5_weighPeriods_72 : decode cX5_weighPeriods 72 = .ok (.aload_n 3, 1) := by decide +kernel
theorem dX5_weighPeriods_73 : decode cX5_weighPeriods 73 = .ok (.getfield 151, 3) := by decide +kernel
theorem dX5_weighPeriods_76 : decode cX5_weighPeriods 76 = .ok (.aload_n 3, 1) := by decide +kernel
theorem dX5_weighPeriods_77 : decode cX5_weighPeriods 77 = .ok (.getfield 154, 3) := by decide +kernel
theorem dX5_weighPeriods_80 : decode cX5_weighPeriods 80 = .ok (.invokevirtual 200, 3) := by decide +kernel
theorem dX5_weighPeriods_83 : decode cX5_weighPeriods 83 = .ok (.aload_n 3, 1) := by decide +kernel
theorem dX5_weighPeriods_84 : decode cX5_weighPeriods 84 = .ok (.aload_n 0, 1) := by decide +kernel
theorem dX5_weighPeriods_85 : decode cX5_weighPeriods 85 = .ok (.getfield 53, 3) := by decide +kernel
theorem dX5_weighPeriods_88 : decode cX5_weighPeriods 88 = .ok (.invokevirtual 178, 3) := by decide +kernel
theorem dX5_weighPeriods_91 : decode cX5_weighPeriods 91 = .ok (.ifCond .eq 15, 3) := by decide +kernel
theorem dX5_weighPeriods_94 : decode cX5_weighPeriods 94 = .ok (.aload_n 0, 1) := by decide +kernel
theorem dX5_weighPeriods_95 : decode cX5_weighPeriods 95 = .ok (.getfield 44, 3) := by decide +kernel
theorem dX5_weighPeriods_98 : decode cX5_weighPeriods 98 = .ok (.iload_n 1, 1) := by decide +kernel
theorem dX5_weighPeriods_99 : decode cX5_weighPeriods 99 = .ok (.dup2, 1) := by decide +kernel
theorem dX5_weighPeriods_100 : decode cX5_weighPeriods 100 = .ok (.iaload, 1) := by decide +kernel
theorem dX5_weighPeriods_101 : decode cX5_weighPeriods 101 = .ok (.iconst 1, 1) := by decide +kernel
theorem dX5_weighPeriods_102 : decode cX5_weighPeriods 102 = .ok (.iload_n 2, 1) := by decide +kernel
theorem dX5_weighPeriods_103 : decode cX5_weighPeriods 103 = .ok (.ishl, 1) := by decide +kernel
theorem dX5_weighPeriods_104 : decode cX5_weighPeriods 104 = .ok (.ior, 1) := by decide +kernel
theorem dX5_weighPeriods_105 : decode cX5_weighPeriods 105 = .ok (.iastore, 1) := by decide +kernel
theorem dX5_weighPeriods_106 : decode cX5_weighPeriods 106 = .ok (.iinc 2 1, 3) := by decide +kernel
theorem dX5_weighPeriods_109 : decode cX5_weighPeriods 109 = .ok (.goto (-60), 3) := by decide +kernel
theorem dX5_weighPeriods_112 : decode cX5_weighPeriods 112 = .ok (.iinc 1 1, 3) := by decide +kernel
theorem dX5_weighPeriods_115 : decode cX5_weighPeriods 115 = .ok (.goto (-105), 3) := by decide +kernel
theorem dX5_weighPeriods_118 : decode cX5_weighPeriods 118 = .ok (.aload_n 0, 1) := by decide +kernel
theorem dX5_weighPeriods_119 : decode cX5_weighPeriods 119 = .ok (.iconst 1, 1) := by decide +kernel
theorem dX5_weighPeriods_120 : decode cX5_weighPeriods 120 = .ok (.putfield 325, 3) := by decide +kernel
theorem dX5_weighPeriods_123 : decode cX5_weighPeriods 123 = .ok (.return_, 1) := by decide +kernel
theorem dX5_longestKeptBy_0 : decode cX5_longestKeptBy 0 = .ok (.bipush 50, 2) := by decide +kernel
theorem dX5_longestKeptBy_2 : decode cX5_longestKeptBy 2 = .ok (.istore_n 2, 1) := by decide +kernel
theorem dX5_longestKeptBy_3 : decode cX5_longestKeptBy 3 = .ok (.iload_n 2, 1) := by decide +kernel
theorem dX5_longestKeptBy_4 : decode cX5_longestKeptBy 4 = .ok (.iconst 1, 1) := by decide +kernel
theorem dX5_longestKeptBy_5 : decode cX5_longestKeptBy 5 = .ok (.if_icmp .lt 23, 3) := by decide +kernel
theorem dX5_longestKeptBy_8 : decode cX5_longestKeptBy 8 = .ok (.aload_n 0, 1) := by decide +kernel
theorem dX5_longestKeptBy_9 : decode cX5_longestKeptBy 9 = .ok (.getfield 44, 3) := by decide +kernel
theorem dX5_longestKeptBy_12 : decode cX5_longestKeptBy 12 = .ok (.iload_n 2, 1) := by decide +kernel
theorem dX5_longestKeptBy_13 : decode cX5_longestKeptBy 13 = .ok (.iaload, 1) := by decide +kernel
theorem dX5_longestKeptBy_14 : decode cX5_longestKeptBy 14 = .ok (.iload_n 1, 1) := by decide +kernel
theorem dX5_longestKeptBy_15 : decode cX5_longestKeptBy 15 = .ok (.iand, 1) := by decide +kernel
theorem dX5_longestKeptBy_16 : decode cX5_longestKeptBy 16 = .ok (.iload_n 1, 1) := by decide +kernel
theorem dX5_longestKeptBy_17 : decode cX5_longestKeptBy 17 = .ok (.if_icmp .ne 5, 3) := by decide +kernel
theorem dX5_longestKeptBy_20 : decode cX5_longestKeptBy 20 = .ok (.iload_n 2, 1) := by decide +kernel
theorem dX5_longestKeptBy_21 : decode cX5_longestKeptBy 21 = .ok (.ireturn, 1) := by decide +kernel
theorem dX5_longestKeptBy_22 : decode cX5_longestKeptBy 22 = .ok (.iinc 2 (-1), 3) := by decide +kernel
theorem dX5_longestKeptBy_25 : decode cX5_longestKeptBy 25 = .ok (.goto (-22), 3) := by decide +kernel
theorem dX5_longestKeptBy_28 : decode cX5_longestKeptBy 28 = .ok (.iconst (-1), 1) := by decide +kernel
theorem dX5_longestKeptBy_29 : decode cX5_longestKeptBy 29 = .ok (.ireturn, 1) := by decide +kernel
theorem dX5_sentWith_0 : decode cX5_sentWith 0 = .ok (.iload_n 0, 1) := by decide +kernel
theorem dX5_sentWith_1 : decode cX5_sentWith 1 = .ok (.iconst 1, 1) := by decide +kernel
theorem dX5_sentWith_2 : decode cX5_sentWith 2 = .ok (.if_icmp .ge 7, 3) := by decide +kernel
theorem dX5_sentWith_5 : decode cX5_sentWith 5 = .ok (.iconst 0, 1) := by decide +kernel
theorem dX5_sentWith_6 : decode cX5_sentWith 6 = .ok (.goto 10, 3) := by decide +kernel
theorem dX5_sentWith_9 : decode cX5_sentWith 9 = .ok (.sipush 1000, 3) := by decide +kernel
theorem dX5_sentWith_12 : decode cX5_sentWith 12 = .ok (.iload_n 0, 1) := by decide +kernel
theorem dX5_sentWith_13 : decode cX5_sentWith 13 = .ok (.idiv, 1) := by decide +kernel
theorem dX5_sentWith_14 : decode cX5_sentWith 14 = .ok (.iconst 1, 1) := by decide +kernel
theorem dX5_sentWith_15 : decode cX5_sentWith 15 = .ok (.iadd, 1) := by decide +kernel
theorem dX5_sentWith_16 : decode cX5_sentWith 16 = .ok (.ireturn, 1) := by decide +kernel
set_option maxRecDepth 20000 in
theorem ggX5_inLowestTerms_X5_greatestDivisor : GoodIn wsX5_inLowestTerms wsX5_greatestDivisor := goodIn_r _ [4] (by decide +kernel) (by decide +kernel)
set_option maxRecDepth 20000 in
theorem gX5_inLowestTerms_X5_greatestDivisor : GoodIn wsX5_inLowestTerms (va_wsS RX5 332 yX5_greatestDivisor wsX5_greatestDivisor) := goodIn_app (goodIn_of _ (by decide +kernel)) ggX5_inLowestTerms_X5_greatestDivisor
theorem dX5_inLowestTerms_0 : decode cX5_inLowestTerms 0 = .ok (.iload_n 0, 1) := by decide +kernel
theorem dX5_inLowestTerms_1 : decode cX5_inLowestTerms 1 = .ok (.iload_n 1, 1) := by decide +kernel
theorem dX5_inLowestTerms_2 : decode cX5_inLowestTerms 2 = .ok (.invokestatic 332, 3) := by decide +kernel
theorem dX5_inLowestTerms_5 : decode cX5_inLowestTerms 5 = .ok (.istore_n 3, 1) := by decide +kernel
theorem dX5_inLowestTerms_6 : decode cX5_inLowestTerms 6 = .ok (.iload_n 2, 1) := by decide +kernel
theorem dX5_inLowestTerms_7 : decode cX5_inLowestTerms 7 = .ok (.ifCond .ne 7, 3) := by decide +kernel
theorem dX5_inLowestTerms_10 : decode cX5_inLowestTerms 10 = .ok (.iload_n 0, 1) := by decide +kernel
theorem dX5_inLowestTerms_11 : decode cX5_inLowestTerms 11 = .ok (.goto 4, 3) := by decide +kernel
theorem dX5_inLowestTerms_14 : decode cX5_inLowestTerms 14 = .ok (.iload_n 1, 1) := by decide +kernel
theorem dX5_inLowestTerms_15 : decode cX5_inLowestTerms 15 = .ok (.istore 4, 2) := by decide +kernel
theorem dX5_inLowestTerms_17 : decode cX5_inLowestTerms 17 = .ok (.iload_n 3, 1) := by decide +kernel
theorem dX5_inLowestTerms_18 : decode cX5_inLowestTerms 18 = .ok (.ifCond .ne 9, 3) := by decide +kernel
theorem dX5_inLowestTerms_21 : decode cX5_inLowestTerms 21 = .ok (.iload 4, 2) := by decide +kernel
theorem dX5_inLowestTerms_23 : decode cX5_inLowestTerms 23 = .ok (.i2l, 1) := by decide +kernel
theorem dX5_inLowestTerms_24 : decode cX5_inLowestTerms 24 = .ok (.goto 8, 3) := by decide +kernel
theorem dX5_inLowestTerms_27 : decode cX5_inLowestTerms 27 = .ok (.iload 4, 2) := by decide +kernel
theorem dX5_inLowestTerms_29 : decode cX5_inLowestTerms 29 = .ok (.iload_n 3, 1) := by decide +kernel
theorem dX5_inLowestTerms_30 : decode cX5_inLowestTerms 30 = .ok (.idiv, 1) := by decide +kernel
theorem dX5_inLowestTerms_31 : decode cX5_inLowestTerms 31 = .ok (.i2l, 1) := by decide +kernel
theorem dX5_inLowestTerms_32 : decode cX5_inLowestTerms 32 = .ok (.lreturn, 1) := by decide +kernel
theorem dX5_greatestDivisor_0 : decode cX5_greatestDivisor 0 = .ok (.iload_n 0, 1) := by decide +kernel
theorem dX5_greatestDivisor_1 : decode cX5_greatestDivisor 1 = .ok (.istore_n 2, 1) := by decide +kernel
theorem dX5_greatestDivisor_2 : decode cX5_greatestDivisor 2 = .ok (.iload_n 1, 1) := by decide +kernel
theorem dX5_greatestDivisor_3 : decode cX5_greatestDivisor 3 = .ok (.istore_n 3, 1) := by decide +kernel
theorem dX5_greatestDivisor_4 : decode cX5_greatestDivisor 4 = .ok (.iconst 0, 1) := by decide +kernel
theorem dX5_greatestDivisor_5 : decode cX5_greatestDivisor 5 = .ok (.istore 4, 2) := by decide +kernel
theorem dX5_greatestDivisor_7 : decode cX5_greatestDivisor 7 = .ok (.iload 4, 2) := by decide +kernel
theorem dX5_greatestDivisor_9 : decode cX5_greatestDivisor 9 = .ok (.bipush 64, 2) := by decide +kernel
theorem dX5_greatestDivisor_11 : decode cX5_greatestDivisor 11 = .ok (.if_icmp .ge 23, 3) := by decide +kernel
theorem dX5_greatestDivisor_14 : decode cX5_greatestDivisor 14 = .ok (.iload_n 3, 1) := by decide +kernel
theorem dX5_greatestDivisor_15 : decode cX5_greatestDivisor 15 = .ok (.ifCond .eq 19, 3) := by decide +kernel
theorem dX5_greatestDivisor_18 : decode cX5_greatestDivisor 18 = .ok (.iload_n 2, 1) := by decide +kernel
theorem dX5_greatestDivisor_19 : decode cX5_greatestDivisor 19 = .ok (.iload_n 3, 1) := by decide +kernel
theorem dX5_greatestDivisor_20 : decode cX5_greatestDivisor 20 = .ok (.irem, 1) := by decide +kernel
theorem dX5_greatestDivisor_21 : decode cX5_greatestDivisor 21 = .ok (.istore 5, 2) := by decide +kernel
theorem dX5_greatestDivisor_23 : decode cX5_greatestDivisor 23 = .ok (.iload_n 3, 1) := by decide +kernel
theorem dX5_greatestDivisor_24 : decode cX5_greatestDivisor 24 = .ok (.istore_n 2, 1) := by decide +kernel
theorem dX5_greatestDivisor_25 : decode cX5_greatestDivisor 25 = .ok (.iload 5, 2) := by decide +kernel
theorem dX5_greatestDivisor_27 : decode cX5_greatestDivisor 27 = .ok (.istore_n 3, 1) := by decide +kernel
theorem dX5_greatestDivisor_28 : decode cX5_greatestDivisor 28 = .ok (.iinc 4 1, 3) := by decide +kernel
theorem dX5_greatestDivisor_31 : decode cX5_greatestDivisor 31 = .ok (.goto (-24), 3) := by decide +kernel
theorem dX5_greatestDivisor_34 : decode cX5_greatestDivisor 34 = .ok (.iload_n 2, 1) := by decide +kernel
theorem dX5_greatestDivisor_35 : decode cX5_greatestDivisor 35 = .ok (.ireturn, 1) := by decide +kernel
theorem dX5_countLost_0 : decode cX5_countLost 0 = .ok (.iconst 0, 1) := by decide +kernel
theorem dX5_countLost_1 : decode cX5_countLost 1 = .ok (.istore_n 1, 1) := by decide +kernel
theorem dX5_countLost_2 : decode cX5_countLost 2 = .ok (.iconst 0, 1) := by decide +kernel
theorem dX5_countLost_3 : decode cX5_countLost 3 = .ok (.istore_n 2, 1) := by decide +kernel
theorem dX5_countLost_4 : decode cX5_countLost 4 = .ok (.iload_n 2, 1) := by decide +kernel
theorem dX5_countLost_5 : decode cX5_countLost 5 = .ok (.aload_n 0, 1) := by decide +kernel
theorem dX5_countLost_6 : decode cX5_countLost 6 = .ok (.getfield 61, 3) := by decide +kernel
theorem dX5_countLost_9 : decode cX5_countLost 9 = .ok (.if_icmp .ge 25, 3) := by decide +kernel
theorem dX5_countLost_12 : decode cX5_countLost 12 = .ok (.aload_n 0, 1) := by decide +kernel
theorem dX5_countLost_13 : decode cX5_countLost 13 = .ok (.getfield 40, 3) := by decide +kernel
theorem dX5_countLost_16 : decode cX5_countLost 16 = .ok (.getfield 97, 3) := by decide +kernel
theorem dX5_countLost_19 : decode cX5_countLost 19 = .ok (.iload_n 2, 1) := by decide +kernel
theorem dX5_countLost_20 : decode cX5_countLost 20 = .ok (.iaload, 1) := by decide +kernel
theorem dX5_countLost_21 : decode cX5_countLost 21 = .ok (.iconst (-1), 1) := by decide +kernel
theorem dX5_countLost_22 : decode cX5_countLost 22 = .ok (.if_icmp .ne 6, 3) := by decide +kernel
theorem dX5_countLost_25 : decode cX5_countLost 25 = .ok (.iinc 1 1, 3) := by decide +kernel
theorem dX5_countLost_28 : decode cX5_countLost 28 = .ok (.iinc 2 1, 3) := by decide +kernel
theorem dX5_countLost_31 : decode cX5_countLost 31 = .ok (.goto (-27), 3) := by decide +kernel
theorem dX5_countLost_34 : decode cX5_countLost 34 = .ok (.iload_n 1, 1) := by decide +kernel
theorem dX5_countLost_35 : decode cX5_countLost 35 = .ok (.ireturn, 1) := by decide +kernel
theorem dX5_countMistakes_0 : decode cX5_countMistakes 0 = .ok (.iconst 0, 1) := by decide +kernel
theorem dX5_countMistakes_1 : decode cX5_countMistakes 1 = .ok (.istore_n 1, 1) := by decide +kernel
theorem dX5_countMistakes_2 : decode cX5_countMistakes 2 = .ok (.iconst 0, 1) := by decide +kernel
theorem dX5_countMistakes_3 : decode cX5_countMistakes 3 = .ok (.istore_n 2, 1) := by decide +kernel
theorem dX5_countMistakes_4 : decode cX5_countMistakes 4 = .ok (.iload_n 2, 1) := by decide +kernel
theorem dX5_countMistakes_5 : decode cX5_countMistakes 5 = .ok (.aload_n 0, 1) := by decide +kernel
theorem dX5_countMistakes_6 : decode cX5_countMistakes 6 = .ok (.getfield 140, 3) := by decide +kernel
theorem dX5_countMistakes_9 : decode cX5_countMistakes 9 = .ok (.if_icmp .ge 24, 3) := by decide +kernel
theorem dX5_countMistakes_12 : decode cX5_countMistakes 12 = .ok (.iload_n 1, 1) := by decide +kernel
theorem dX5_countMistakes_13 : decode cX5_countMistakes 13 = .ok (.aload_n 0, 1) := by decide +kernel
theorem dX5_countMistakes_14 : decode cX5_countMistakes 14 = .ok (.getfield 25, 3) := by decide +kernel
theorem dX5_countMistakes_17 : decode cX5_countMistakes 17 = .ok (.iload_n 2, 1) := by decide +kernel
theorem dX5_countMistakes_18 : decode cX5_countMistakes 18 = .ok (.aaload, 1) := by decide +kernel
theorem dX5_countMistakes_19 : decode cX5_countMistakes 19 = .ok (.getfield 163, 3) := by decide +kernel
theorem dX5_countMistakes_22 : decode cX5_countMistakes 22 = .ok (.getfield 166, 3) := by decide +kernel
theorem dX5_countMistakes_25 : decode cX5_countMistakes 25 = .ok (.iadd, 1) := by decide +kernel
theorem dX5_countMistakes_26 : decode cX5_countMistakes 26 = .ok (.istore_n 1, 1) := by decide +kernel
theorem dX5_countMistakes_27 : decode cX5_countMistakes 27 = .ok (.iinc 2 1, 3) := by decide +kernel
theorem dX5_countMistakes_30 : decode cX5_countMistakes 30 = .ok (.goto (-26), 3) := by decide +kernel
theorem dX5_countMistakes_33 : decode cX5_countMistakes 33 = .ok (.iload_n 1, 1) := by decide +kernel
theorem dX5_countMistakes_34 : decode cX5_countMistakes 34 = .ok (.ireturn, 1) := by decide +kernel
set_option maxRecDepth 20000 in
theorem ggX5_whoKeepsWishes_X4_keepsWishes : GoodIn wsX5_whoKeepsWishes wsX4_keepsWishes := goodIn_r _ [8, 9, 10, 11, 12, 28, 29, 30, 31, 32, 33, 34, 35, 36, 37, 38, 39, 40] (by decide +kernel) (by decide +kernel)
set_option maxRecDepth 20000 in
theorem gX5_whoKeepsWishes_X4_keepsWishes : GoodIn wsX5_whoKeepsWishes (wsV RX5 178 RX4 yX4_keepsWishes wsX4_keepsWishes) := goodIn_app (goodIn_of _ (by decide +kernel)) ggX5_whoKeepsWishes_X4_keepsWishes
theorem dX5_whoKeepsWishes_0 : decode cX5_whoKeepsWishes 0 = .ok (.iconst 0, 1) := by decide +kernel
theorem dX5_whoKeepsWishes_1 : decode cX5_whoKeepsWishes 1 = .ok (.istore_n 1, 1) := by decide +kernel
theorem dX5_whoKeepsWishes_2 : decode cX5_whoKeepsWishes 2 = .ok (.iconst 0, 1) := by decide +kernel
theorem dX5_whoKeepsWishes_3 : decode cX5_whoKeepsWishes 3 = .ok (.istore_n 2, 1) := by decide +kernel
theorem dX5_whoKeepsWishes_4 : decode cX5_whoKeepsWishes 4 = .ok (.iload_n 2, 1) := by decide +kernel
theorem dX5_whoKeepsWishes_5 : decode cX5_whoKeepsWishes 5 = .ok (.aload_n 0, 1) := by decide +kernel
theorem dX5_whoKeepsWishes_6 : decode cX5_whoKeepsWishes 6 = .ok (.getfield 140, 3) := by decide +kernel
theorem dX5_whoKeepsWishes_9 : decode cX5_whoKeepsWishes 9 = .ok (.if_icmp .ge 36, 3) := by decide +kernel
theorem dX5_whoKeepsWishes_12 : decode cX5_whoKeepsWishes 12 = .ok (.aload_n 0, 1) := by decide +kernel
theorem dX5_whoKeepsWishes_13 : decode cX5_whoKeepsWishes 13 = .ok (.getfield 25, 3) := by decide +kernel
theorem dX5_whoKeepsWishes_16 : decode cX5_whoKeepsWishes 16 = .ok (.iload_n 2, 1) := by decide +kernel
theorem dX5_whoKeepsWishes_17 : decode cX5_whoKeepsWishes 17 = .ok (.aaload, 1) := by decide +kernel
theorem dX5_whoKeepsWishes_18 : decode cX5_whoKeepsWishes 18 = .ok (.aload_n 0, 1) := by decide +kernel
theorem dX5_whoKeepsWishes_19 : decode cX5_whoKeepsWishes 19 = .ok (.getfield 25, 3) := by decide +kernel
theorem dX5_whoKeepsWishes_22 : decode cX5_whoKeepsWishes 22 = .ok (.iload_n 2, 1) := by decide +kernel
theorem dX5_whoKeepsWishes_23 : decode cX5_whoKeepsWishes 23 = .ok (.aaload, 1) := by decide +kernel
theorem dX5_whoKeepsWishes_24 : decode cX5_whoKeepsWishes 24 = .ok (.getfield 163, 3) := by decide +kernel
theorem dX5_whoKeepsWishes_27 : decode cX5_whoKeepsWishes 27 = .ok (.invokevirtual 178, 3) := by decide +kernel
theorem dX5_whoKeepsWishes_30 : decode cX5_whoKeepsWishes 30 = .ok (.ifCond .eq 9, 3) := by decide +kernel
theorem dX5_whoKeepsWishes_33 : decode cX5_whoKeepsWishes 33 = .ok (.iload_n 1, 1) := by decide +kernel
theorem dX5_whoKeepsWishes_34 : decode cX5_whoKeepsWishes 34 = .ok (.iconst 1, 1) := by decide +kernel
theorem dX5_whoKeepsWishes_35 : decode cX5_whoKeepsWishes 35 = .ok (.iload_n 2, 1) := by decide +kernel
theorem dX5_whoKeepsWishes_36 : decode cX5_whoKeepsWishes 36 = .ok (.ishl, 1) := by decide +kernel
theorem dX5_whoKeepsWishes_37 : decode cX5_whoKeepsWishes 37 = .ok (.ior, 1) := by decide +kernel
theorem dX5_whoKeepsWishes_38 : decode cX5_whoKeepsWishes 38 = .ok (.istore_n 1, 1) := by decide +kernel
theorem dX5_whoKeepsWishes_39 : decode cX5_whoKeepsWishes 39 = .ok (.iinc 2 1, 3) := by decide +kernel
theorem dX5_whoKeepsWishes_42 : decode cX5_whoKeepsWishes 42 = .ok (.goto (-38), 3) := by decide +kernel
theorem dX5_whoKeepsWishes_45 : decode cX5_whoKeepsWishes 45 = .ok (.iload_n 1, 1) := by decide +kernel
theorem dX5_whoKeepsWishes_46 : decode cX5_whoKeepsWishes 46 = .ok (.ireturn, 1) := by decide +kernel
theorem dX5_countDoubtsForGood_0 : decode cX5_countDoubtsForGood 0 = .ok (.iconst 0, 1) := by decide +kernel
theorem dX5_countDoubtsForGood_1 : decode cX5_countDoubtsForGood 1 = .ok (.istore_n 1, 1) := by decide +kernel
theorem dX5_countDoubtsForGood_2 : decode cX5_countDoubtsForGood 2 = .ok (.iconst 0, 1) := by decide +kernel
theorem dX5_countDoubtsForGood_3 : decode cX5_countDoubtsForGood 3 = .ok (.istore_n 2, 1) := by decide +kernel
theorem dX5_countDoubtsForGood_4 : decode cX5_countDoubtsForGood 4 = .ok (.iload_n 2, 1) := by decide +kernel
theorem dX5_countDoubtsForGood_5 : decode cX5_countDoubtsForGood 5 = .ok (.aload_n 0, 1) := by decide +kernel
theorem dX5_countDoubtsForGood_6 : decode cX5_countDoubtsForGood 6 = .ok (.getfield 140, 3) := by decide +kernel
theorem dX5_countDoubtsForGood_9 : decode cX5_countDoubtsForGood 9 = .ok (.if_icmp .ge 28, 3) := by decide +kernel
theorem dX5_countDoubtsForGood_12 : decode cX5_countDoubtsForGood 12 = .ok (.aload_n 0, 1) := by decide +kernel
theorem dX5_countDoubtsForGood_13 : decode cX5_countDoubtsForGood 13 = .ok (.getfield 25, 3) := by decide +kernel
theorem dX5_countDoubtsForGood_16 : decode cX5_countDoubtsForGood 16 = .ok (.iload_n 2, 1) := by decide +kernel
theorem dX5_countDoubtsForGood_17 : decode cX5_countDoubtsForGood 17 = .ok (.aaload, 1) := by decide +kernel
theorem dX5_countDoubtsForGood_18 : decode cX5_countDoubtsForGood 18 = .ok (.getfield 163, 3) := by decide +kernel
theorem dX5_countDoubtsForGood_21 : decode cX5_countDoubtsForGood 21 = .ok (.getfield 182, 3) := by decide +kernel
theorem dX5_countDoubtsForGood_24 : decode cX5_countDoubtsForGood 24 = .ok (.iconst (-1), 1) := by decide +kernel
theorem dX5_countDoubtsForGood_25 : decode cX5_countDoubtsForGood 25 = .ok (.if_icmp .eq 6, 3) := by decide +kernel
theorem dX5_countDoubtsForGood_28 : decode cX5_countDoubtsForGood 28 = .ok (.iinc 1 1, 3) := by decide +kernel
theorem dX5_countDoubtsForGood_31 : decode cX5_countDoubtsForGood 31 = .ok (.iinc 2 1, 3) := by decide +kernel
theorem dX5_countDoubtsForGood_34 : decode cX5_countDoubtsForGood 34 = .ok (.goto (-30), 3) := by decide +kernel
theorem dX5_countDoubtsForGood_37 : decode cX5_countDoubtsForGood 37 = .ok (.iload_n 1, 1) := by decide +kernel
theorem dX5_countDoubtsForGood_38 : decode cX5_countDoubtsForGood 38 = .ok (.ireturn, 1) := by decide +kernel
theorem dX5_mix_0 : decode cX5_mix 0 = .ok (.ldc2_w 335, 3) := by decide +kernel
theorem dX5_mix_3 : decode cX5_mix 3 = .ok (.lload_n 0, 1) := by decide +kernel
theorem dX5_mix_4 : decode cX5_mix 4 = .ok (.lmul, 1) := by decide +kernel
theorem dX5_mix_5 : decode cX5_mix 5 = .ok (.lload_n 2, 1) := by decide +kernel
theorem dX5_mix_6 : decode cX5_mix 6 = .ok (.ladd, 1) := by decide +kernel
theorem dX5_mix_7 : decode cX5_mix 7 = .ok (.lreturn, 1) := by decide +kernel
set_option maxRecDepth 20000 in
theorem ggX5_mixBeats_X5_came : GoodIn wsX5_mixBeats wsX5_came := goodIn_r _ [6, 1, 7, 8, 9, 10, 11, 12, 5, 13, 14, 15, 16, 17, 18, 19, 20, 21, 22, 23, 24, 25, 26, 27, 28, 29, 30, 31, 32, 33, 34, 35, 36, 37, 38, 39, 40, 41, 42, 43, 44, 45, 46, 47, 48, 49, 50, 51, 52, 53, 54, 55, 56, 57, 58, 59, 60, 61, 62, 63, 64, 65, 66, 67, 68, 69, 70, 71, 72, 73, 74, 75, 76, 77, 78, 79, 80, 81, 82, 83, 84, 85, 86, 87, 88, 89, 90, 91, 92, 93, 94, 95, 96, 97, 98, 99, 100, 101, 102, 103, 108, 109, 110, 111, 112, 113, 114, 115, 116, 117, 118, 119, 120, 121, 122, 123, 124, 125, 126, 127, 128, 129, 130, 131, 132, 133, 134, 135, 136, 137, 138, 139, 140, 141, 142, 143, 144, 145, 146, 147] (by decide +kernel) (by decide +kernel)
set_option maxRecDepth 20000 in
theorem gX5_mixBeats_X5_came : GoodIn wsX5_mixBeats (wsV RX5 337 RX5 yX5_came wsX5_came) := goodIn_app (goodIn_of _ (by decide +kernel)) ggX5_mixBeats_X5_came
set_option maxRecDepth 20000 in
theorem ggX5_mixBeats_X5_mix : GoodIn wsX5_mixBeats wsX5_mix := goodIn_r _ [106, 107] (by decide +kernel) (by decide +kernel)
set_option maxRecDepth 20000 in
theorem gX5_mixBeats_X5_mix : GoodIn wsX5_mixBeats (va_wsS RX5 290 yX5_mix wsX5_mix) := goodIn_app (goodIn_of _ (by decide +kernel)) ggX5_mixBeats_X5_mix
theorem dX5_mixBeats_0 : decode cX5_mixBeats 0 = .ok (.lload_n 1, 1) := by decide +kernel
theorem dX5_mixBeats_1 : decode cX5_mixBeats 1 = .ok (.lstore_n 3, 1) := by decide +kernel
theorem dX5_mixBeats_2 : decode cX5_mixBeats 2 = .ok (.iconst 0, 1) := by decide +kernel
theorem dX5_mixBeats_3 : decode cX5_mixBeats 3 = .ok (.istore 5, 2) := by decide +kernel
theorem dX5_mixBeats_5 : decode cX5_mixBeats 5 = .ok (.iload 5, 2) := by decide +kernel
theorem dX5_mixBeats_7 : decode cX5_mixBeats 7 = .ok (.aload_n 0, 1) := by decide +kernel
theorem dX5_mixBeats_8 : decode cX5_mixBeats 8 = .ok (.getfield 61, 3) := by decide +kernel
theorem dX5_mixBeats_11 : decode cX5_mixBeats 11 = .ok (.if_icmp .ge 38, 3) := by decide +kernel
theorem dX5_mixBeats_14 : decode cX5_mixBeats 14 = .ok (.iconst 0, 1) := by decide +kernel
theorem dX5_mixBeats_15 : decode cX5_mixBeats 15 = .ok (.istore 6, 2) := by decide +kernel
theorem dX5_mixBeats_17 : decode cX5_mixBeats 17 = .ok (.iload 6, 2) := by decide +kernel
theorem dX5_mixBeats_19 : decode cX5_mixBeats 19 = .ok (.iconst 2, 1) := by decide +kernel
theorem dX5_mixBeats_20 : decode cX5_mixBeats 20 = .ok (.if_icmp .gt 23, 3) := by decide +kernel
theorem dX5_mixBeats_23 : decode cX5_mixBeats 23 = .ok (.lload_n 3, 1) := by decide +kernel
theorem dX5_mixBeats_24 : decode cX5_mixBeats 24 = .ok (.aload_n 0, 1) := by decide +kernel
theorem dX5_mixBeats_25 : decode cX5_mixBeats 25 = .ok (.iload 5, 2) := by decide +kernel
theorem dX5_mixBeats_27 : decode cX5_mixBeats 27 = .ok (.iload 6, 2) := by decide +kernel
theorem dX5_mixBeats_29 : decode cX5_mixBeats 29 = .ok (.invokevirtual 337, 3) := by decide +kernel
theorem dX5_mixBeats_32 : decode cX5_mixBeats 32 = .ok (.i2l, 1) := by decide +kernel
theorem dX5_mixBeats_33 : decode cX5_mixBeats 33 = .ok (.invokestatic 290, 3) := by decide +kernel
theorem dX5_mixBeats_36 : decode cX5_mixBeats 36 = .ok (.lstore_n 3, 1) := by decide +kernel
theorem dX5_mixBeats_37 : decode cX5_mixBeats 37 = .ok (.iinc 6 1, 3) := by decide +kernel
theorem dX5_mixBeats_40 : decode cX5_mixBeats 40 = .ok (.goto (-23), 3) := by decide +kernel
theorem dX5_mixBeats_43 : decode cX5_mixBeats 43 = .ok (.iinc 5 1, 3) := by decide +kernel
theorem dX5_mixBeats_46 : decode cX5_mixBeats 46 = .ok (.goto (-41), 3) := by decide +kernel
theorem dX5_mixBeats_49 : decode cX5_mixBeats 49 = .ok (.lload_n 3, 1) := by decide +kernel
theorem dX5_mixBeats_50 : decode cX5_mixBeats 50 = .ok (.lreturn, 1) := by decide +kernel
set_option maxRecDepth 20000 in
theorem ggX5_mixNews_X5_news : GoodIn wsX5_mixNews wsX5_news := goodIn_r _ [7, 1, 2, 8, 9, 10, 11, 12, 6, 13, 14, 15, 16, 17, 18, 19, 20, 21, 22, 23, 24, 25, 26, 27, 28, 29, 30, 31, 32, 33, 34, 35, 36, 37, 38, 39, 40, 41, 42, 43, 44, 45, 46, 47, 48, 49, 50, 51, 52, 53, 54, 55, 56, 57, 58, 59, 60, 61, 62, 63, 64, 65, 66, 67, 68, 69, 70, 71, 72, 73, 74, 75, 76, 77, 78, 79, 80, 81, 82, 83, 84, 85, 86, 87, 88, 89, 90, 91, 92, 93, 94, 95, 96, 97, 98, 99, 100, 101, 102, 103, 104, 105, 106, 107, 108, 129, 130, 131, 132, 133, 134, 135, 136, 137, 138, 139, 140, 141, 142, 143, 144, 145, 146, 147, 148, 149, 150, 151, 152, 153, 154, 155, 156, 157, 158, 159, 160, 161, 162, 163, 164, 165, 166, 167, 168] (by decide +kernel) (by decide +kernel)
set_option maxRecDepth 20000 in
theorem gX5_mixNews_X5_news : GoodIn wsX5_mixNews (wsV RX5 340 RX5 yX5_news wsX5_news) := goodIn_app (goodIn_of _ (by decide +kernel)) ggX5_mixNews_X5_news
set_option maxRecDepth 20000 in
theorem ggX5_mixNews_X5_mix : GoodIn wsX5_mixNews wsX5_mix := goodIn_r _ [111, 112] (by decide +kernel) (by decide +kernel)
set_option maxRecDepth 20000 in
theorem gX5_mixNews_X5_mix : GoodIn wsX5_mixNews (va_wsS RX5 290 yX5_mix wsX5_mix) := goodIn_app (goodIn_of _ (by decide +kernel)) ggX5_mixNews_X5_mix
set_option maxRecDepth 20000 in
theorem ggX5_mixNews_X5_expected : GoodIn wsX5_mixNews wsX5_expected := goodIn_r _ [116, 1, 2, 117, 118, 10, 11, 12, 6, 13, 14, 15, 16, 17, 18, 19, 20, 21, 22, 23, 24, 25, 26, 27, 28, 29, 30, 31, 32, 33, 34, 35, 36, 37, 38, 39, 40, 41, 42, 43, 44, 45, 46, 47, 48, 49, 50, 51, 52, 53, 54, 55, 56, 57, 58, 59, 60, 61, 62, 63, 64, 65, 66, 67, 68, 69, 70, 71, 72, 73, 74, 75, 76, 77, 78, 79, 80, 81, 82, 83, 84, 85, 86, 87, 88, 89, 90, 91, 92, 93, 94, 95, 96, 97, 98, 99, 100, 101, 102, 103, 104, 119, 120, 121, 122, 123, 124, 125, 126, 127, 128, 129, 130, 131, 132, 133, 134, 135, 136, 137, 138, 139, 140, 141, 142, 143, 144, 145, 146, 147, 148, 149, 150, 151, 152, 153, 154, 155, 156, 157, 158, 159, 160, 161, 162, 163, 164, 165, 166, 167, 168] (by decide +kernel) (by decide +kernel)
set_option maxRecDepth 20000 in
theorem gX5_mixNews_X5_expected : GoodIn wsX5_mixNews (wsV RX5 343 RX5 yX5_expected wsX5_expected) := goodIn_app (goodIn_of _ (by decide +kernel)) ggX5_mixNews_X5_expected
theorem dX5_mixNews_0 : decode cX5_mixNews 0 = .ok (.lload_n 1, 1) := by decide +kernel
theorem dX5_mixNews_1 : decode cX5_mixNews 1 = .ok (.lstore_n 3, 1) := by decide +kernel
theorem dX5_mixNews_2 : decode cX5_mixNews 2 = .ok (.iconst 0, 1) := by decide +kernel
theorem dX5_mixNews_3 : decode cX5_mixNews 3 = .ok (.istore 5, 2) := by decide +kernel
theorem dX5_mixNews_5 : decode cX5_mixNews 5 = .ok (.iload 5, 2) := by decide +kernel
theorem dX5_mixNews_7 : decode cX5_mixNews 7 = .ok (.aload_n 0, 1) := by decide +kernel
theorem dX5_mixNews_8 : decode cX5_mixNews 8 = .ok (.getfield 40, 3) := by decide +kernel
theorem dX5_mixNews_11 : decode cX5_mixNews 11 = .ok (.getfield 103, 3) := by decide +kernel
theorem dX5_mixNews_14 : decode cX5_mixNews 14 = .ok (.if_icmp .ge 62, 3) := by decide +kernel
theorem dX5_mixNews_17 : decode cX5_mixNews 17 = .ok (.iconst 0, 1) := by decide +kernel
theorem dX5_mixNews_18 : decode cX5_mixNews 18 = .ok (.istore 6, 2) := by decide +kernel
theorem dX5_mixNews_20 : decode cX5_mixNews 20 = .ok (.iload 6, 2) := by decide +kernel
theorem dX5_mixNews_22 : decode cX5_mixNews 22 = .ok (.iconst 2, 1) := by decide +kernel
theorem dX5_mixNews_23 : decode cX5_mixNews 23 = .ok (.if_icmp .gt 23, 3) := by decide +kernel
theorem dX5_mixNews_26 : decode cX5_mixNews 26 = .ok (.lload_n 3, 1) := by decide +kernel
theorem dX5_mixNews_27 : decode cX5_mixNews 27 = .ok (.aload_n 0, 1) := by decide +kernel
theorem dX5_mixNews_28 : decode cX5_mixNews 28 = .ok (.iload 5, 2) := by decide +kernel
theorem dX5_mixNews_30 : decode cX5_mixNews 30 = .ok (.iload 6, 2) := by decide +kernel
theorem dX5_mixNews_32 : decode cX5_mixNews 32 = .ok (.invokevirtual 340, 3) := by decide +kernel
theorem dX5_mixNews_35 : decode cX5_mixNews 35 = .ok (.i2l, 1) := by decide +kernel
theorem dX5_mixNews_36 : decode cX5_mixNews 36 = .ok (.invokestatic 290, 3) := by decide +kernel
theorem dX5_mixNews_39 : decode cX5_mixNews 39 = .ok (.lstore_n 3, 1) := by decide +kernel
theorem dX5_mixNews_40 : decode cX5_mixNews 40 = .ok (.iinc 6 1, 3) := by decide +kernel
theorem dX5_mixNews_43 : decode cX5_mixNews 43 = .ok (.goto (-23), 3) := by decide +kernel
theorem dX5_mixNews_46 : decode cX5_mixNews 46 = .ok (.lload_n 3, 1) := by decide +kernel
theorem dX5_mixNews_47 : decode cX5_mixNews 47 = .ok (.aload_n 0, 1) := by decide +kernel
theorem dX5_mixNews_48 : decode cX5_mixNews 48 = .ok (.iload 5, 2) := by decide +kernel
theorem dX5_mixNews_50 : decode cX5_mixNews 50 = .ok (.iconst 0, 1) := by decide +kernel
theorem dX5_mixNews_51 : decode cX5_mixNews 51 = .ok (.invokevirtual 343, 3) := by decide +kernel
theorem dX5_mixNews_54 : decode cX5_mixNews 54 = .ok (.invokestatic 290, 3) := by decide +kernel
theorem dX5_mixNews_57 : decode cX5_mixNews 57 = .ok (.lstore_n 3, 1) := by decide +kernel
theorem dX5_mixNews_58 : decode cX5_mixNews 58 = .ok (.lload_n 3, 1) := by decide +kernel
theorem dX5_mixNews_59 : decode cX5_mixNews 59 = .ok (.aload_n 0, 1) := by decide +kernel
theorem dX5_mixNews_60 : decode cX5_mixNews 60 = .ok (.iload 5, 2) := by decide +kernel
theorem dX5_mixNews_62 : decode cX5_mixNews 62 = .ok (.iconst 1, 1) := by decide +kernel
theorem dX5_mixNews_63 : decode cX5_mixNews 63 = .ok (.invokevirtual 343, 3) := by decide +kernel
theorem dX5_mixNews_66 : decode cX5_mixNews 66 = .ok (.invokestatic 290, 3) := by decide +kernel
theorem dX5_mixNews_69 : decode cX5_mixNews 69 = .ok (.lstore_n 3, 1) := by decide +kernel
theorem dX5_mixNews_70 : decode cX5_mixNews 70 = .ok (.iinc 5 1, 3) := by decide +kernel
theorem dX5_mixNews_73 : decode cX5_mixNews 73 = .ok (.goto (-68), 3) := by decide +kernel
theorem dX5_mixNews_76 : decode cX5_mixNews 76 = .ok (.lload_n 3, 1) := by decide +kernel
theorem dX5_mixNews_77 : decode cX5_mixNews 77 = .ok (.lreturn, 1) := by decide +kernel
set_option maxRecDepth 20000 in
theorem ggX5_mixWatcher_X5_info : GoodIn wsX5_mixWatcher wsX5_info := goodIn_r _ [10, 1, 2, 11, 12, 13, 14, 3, 15, 16, 17, 18, 19, 20, 21, 9, 22, 23, 24, 25, 26, 27, 28, 29, 30, 31, 4, 32, 33, 34, 35, 36, 37, 38, 39, 40, 41, 42, 43, 44, 45, 46, 47, 48, 49, 50, 51, 52, 53, 54, 55, 56, 57, 58, 59, 60, 61, 62, 63, 64, 65, 66, 67, 68, 69, 70, 71, 72, 73, 74, 75, 76, 77, 78, 79, 80, 81, 82, 83, 84, 85, 86, 87, 88, 89, 90, 91, 92, 93, 94, 95, 96, 97, 98, 99, 100, 101, 102, 103, 104, 105, 106, 107, 108, 109, 110, 111, 112, 113, 114, 115, 116, 117, 118, 119, 120, 121, 122, 159, 160, 161, 162, 163, 164, 165, 166, 167, 168, 169, 170, 171, 172, 173, 174, 175, 176, 177, 178, 179, 180, 181, 182, 183, 184, 185, 186, 187, 188, 189, 190, 191, 192, 193, 194, 195, 196, 197, 198] (by decide +kernel) (by decide +kernel)
set_option maxRecDepth 20000 in
theorem gX5_mixWatcher_X5_info : GoodIn wsX5_mixWatcher (wsV RX5 346 RX5 yX5_info wsX5_info) := goodIn_app (goodIn_of _ (by decide +kernel)) ggX5_mixWatcher_X5_info
set_option maxRecDepth 20000 in
theorem ggX5_mixWatcher_X5_mix : GoodIn wsX5_mixWatcher wsX5_mix := goodIn_r _ [125, 126] (by decide +kernel) (by decide +kernel)
set_option maxRecDepth 20000 in
theorem gX5_mixWatcher_X5_mix : GoodIn wsX5_mixWatcher (va_wsS RX5 290 yX5_mix wsX5_mix) := goodIn_app (goodIn_of _ (by decide +kernel)) ggX5_mixWatcher_X5_mix
set_option maxRecDepth 20000 in
theorem ggX5_mixWatcher_X5_noticed : GoodIn wsX5_mixWatcher wsX5_noticed := goodIn_r _ [130, 1, 2, 18, 36, 131, 83, 60, 84, 19, 20, 21, 9, 22, 23, 24, 25, 26, 27, 28, 29, 30, 31, 4, 32, 33, 34, 35, 11, 12, 37, 38, 39, 40, 41, 42, 43, 44, 45, 46, 47, 48, 49, 50, 51, 52, 53, 54, 55, 56, 57, 58, 59, 61, 62, 63, 64, 65, 66, 67, 68, 69, 70, 71, 72, 73, 74, 75, 76, 77, 78, 79, 80, 81, 82, 85, 86, 87, 88, 89, 90, 91, 92, 93, 94, 95, 96, 97, 98, 99, 100, 101, 102, 103, 104, 105, 106, 107, 108, 109, 110, 111, 112, 113, 159, 160, 161, 162, 163, 164, 165, 166, 167, 168, 169, 170, 171, 172, 173, 174, 175, 176, 177, 178, 179, 180, 181, 182, 183, 184, 185, 186, 187, 188, 189, 190, 191, 192, 193, 194, 195, 196, 197, 198] (by decide +kernel) (by decide +kernel)
set_option maxRecDepth 20000 in
theorem gX5_mixWatcher_X5_noticed : GoodIn wsX5_mixWatcher (wsV RX5 349 RX5 yX5_noticed wsX5_noticed) := goodIn_app (goodIn_of _ (by decide +kernel)) ggX5_mixWatcher_X5_noticed
set_option maxRecDepth 20000 in
theorem ggX5_mixWatcher_X5_longest : GoodIn wsX5_mixWatcher wsX5_longest := goodIn_r _ [135, 19, 20, 21, 9, 22, 23, 24, 25, 26, 136, 137, 138, 139, 140, 141, 32, 33, 35, 36, 142, 1, 143, 11, 12, 37, 38, 39, 40, 41, 42, 43, 44, 45, 46, 47, 48, 49, 50, 51, 52, 53, 54, 55, 56, 57, 58, 59, 60, 61, 62, 63, 64, 65, 66, 67, 68, 69, 70, 71, 72, 73, 74, 75, 76, 77, 78, 79, 80, 81, 82, 83, 84, 85, 86, 87, 88, 89, 90, 91, 92, 93, 94, 95, 96, 97, 98, 99, 100, 101, 102, 103, 104, 105, 106, 107, 108, 109, 110, 111, 112, 113, 114, 115, 116, 117, 118, 119, 120, 121, 122, 144, 145, 146, 147, 159, 160, 161, 162, 163, 164, 165, 166, 167, 168, 169, 170, 171, 172, 173, 174, 175, 176, 177, 178, 187, 188, 189, 190, 191, 192, 193, 194, 195, 196, 179, 180, 181, 182, 183, 184, 185, 186, 197, 198] (by decide +kernel) (by decide +kernel)
set_option maxRecDepth 20000 in
theorem gX5_mixWatcher_X5_longest : GoodIn wsX5_mixWatcher (wsV RX5 215 RX5 yX5_longest wsX5_longest) := goodIn_app (goodIn_of _ (by decide +kernel)) ggX5_mixWatcher_X5_longest
set_option maxRecDepth 20000 in
theorem ggX5_mixWatcher_X5_ledger : GoodIn wsX5_mixWatcher wsX5_ledger := goodIn_r _ [151, 1, 2, 3, 152, 153, 4, 154, 19, 20, 21, 9, 22, 23, 24, 25, 26, 27, 28, 29, 30, 31, 32, 33, 34, 35, 36, 11, 12, 37, 38, 39, 40, 41, 42, 43, 44, 45, 46, 47, 48, 49, 50, 51, 52, 53, 54, 55, 56, 57, 58, 59, 60, 61, 62, 63, 64, 65, 66, 67, 68, 69, 70, 71, 72, 73, 74, 75, 76, 77, 78, 79, 80, 81, 82, 83, 84, 85, 86, 87, 88, 89, 90, 91, 92, 93, 94, 95, 96, 97, 98, 99, 100, 101, 102, 103, 104, 105, 106, 107, 108, 109, 110, 111, 112, 113, 159, 160, 161, 162, 163, 164, 165, 166, 167, 168, 169, 170, 171, 172, 173, 174, 175, 176, 177, 178, 179, 180, 181, 182, 183, 184, 185, 186, 187, 188, 189, 190, 191, 192, 193, 194, 195, 196, 197, 198] (by decide +kernel) (by decide +kernel)
set_option maxRecDepth 20000 in
theorem gX5_mixWatcher_X5_ledger : GoodIn wsX5_mixWatcher (wsV RX5 352 RX5 yX5_ledger wsX5_ledger) := goodIn_app (goodIn_of _ (by decide +kernel)) ggX5_mixWatcher_X5_ledger
set_option maxRecDepth 20000 in
theorem ggX5_mixWatcher_X5_limit : GoodIn wsX5_mixWatcher wsX5_limit := goodIn_r _ [158, 4, 5, 1, 2, 153, 27, 28, 29, 9, 30, 31, 32, 33, 34, 35, 36, 23, 11, 12, 37, 38, 39, 40, 41, 42, 43, 44, 45, 46, 47, 48, 49, 50, 51, 52, 53, 54, 55, 56, 57, 58, 59, 60, 61, 62, 63, 64, 65, 66, 67, 68, 69, 70, 71, 72, 73, 74, 75, 76, 77, 78, 79, 80, 81, 82, 83, 84, 85, 86, 87, 88, 89, 90, 91, 92, 93, 94, 95, 96, 97, 98, 99, 100, 101, 102, 103, 104, 105, 106, 107, 108, 109, 110, 111, 112, 113, 19, 20, 21, 22, 24, 25, 26, 159, 160, 161, 162, 163, 164, 165, 166, 167, 168, 169, 170, 171, 172, 173, 187, 188, 189, 190, 191, 192, 193, 194, 195, 196, 174, 175, 176, 177, 178, 179, 180, 181, 182, 183, 184, 185, 186, 197, 198] (by decide +kernel) (by decide +kernel)
set_option maxRecDepth 20000 in
theorem gX5_mixWatcher_X5_limit : GoodIn wsX5_mixWatcher (wsV RX5 356 RX5 yX5_limit wsX5_limit) := goodIn_app (goodIn_of _ (by decide +kernel)) ggX5_mixWatcher_X5_limit
theorem dX5_mixWatcher_0 : decode cX5_mixWatcher 0 = .ok (.lload_n 1, 1) := by decide +kernel
theorem dX5_mixWatcher_1 : decode cX5_mixWatcher 1 = .ok (.lstore 4, 2) := by decide +kernel
theorem dX5_mixWatcher_3 : decode cX5_mixWatcher 3 = .ok (.iconst 0, 1) := by decide +kernel
theorem dX5_mixWatcher_4 : decode cX5_mixWatcher 4 = .ok (.istore 6, 2) := by decide +kernel
theorem dX5_mixWatcher_6 : decode cX5_mixWatcher 6 = .ok (.iload 6, 2) := by decide +kernel
theorem dX5_mixWatcher_8 : decode cX5_mixWatcher 8 = .ok (.bipush 9, 2) := by decide +kernel
theorem dX5_mixWatcher_10 : decode cX5_mixWatcher 10 = .ok (.if_icmp .gt 24, 3) := by decide +kernel
theorem dX5_mixWatcher_13 : decode cX5_mixWatcher 13 = .ok (.lload 4, 2) := by decide +kernel
theorem dX5_mixWatcher_15 : decode cX5_mixWatcher 15 = .ok (.aload_n 0, 1) := by decide +kernel
theorem dX5_mixWatcher_16 : decode cX5_mixWatcher 16 = .ok (.iload_n 3, 1) := by decide +kernel
theorem dX5_mixWatcher_17 : decode cX5_mixWatcher 17 = .ok (.iload 6, 2) := by decide +kernel
theorem dX5_mixWatcher_19 : decode cX5_mixWatcher 19 = .ok (.invokevirtual 346, 3) := by decide +kernel
theorem dX5_mixWatcher_22 : decode cX5_mixWatcher 22 = .ok (.i2l, 1) := by decide +kernel
theorem dX5_mixWatcher_23 : decode cX5_mixWatcher 23 = .ok (.invokestatic 290, 3) := by decide +kernel
theorem dX5_mixWatcher_26 : decode cX5_mixWatcher 26 = .ok (.lstore 4, 2) := by decide +kernel
theorem dX5_mixWatcher_28 : decode cX5_mixWatcher 28 = .ok (.iinc 6 1, 3) := by decide +kernel
theorem dX5_mixWatcher_31 : decode cX5_mixWatcher 31 = .ok (.goto (-25), 3) := by decide +kernel
theorem dX5_mixWatcher_34 : decode cX5_mixWatcher 34 = .ok (.lload 4, 2) := by decide +kernel
theorem dX5_mixWatcher_36 : decode cX5_mixWatcher 36 = .ok (.aload_n 0, 1) := by decide +kernel
theorem dX5_mixWatcher_37 : decode cX5_mixWatcher 37 = .ok (.iload_n 3, 1) := by decide +kernel
theorem dX5_mixWatcher_38 : decode cX5_mixWatcher 38 = .ok (.invokevirtual 349, 3) := by decide +kernel
theorem dX5_mixWatcher_41 : decode cX5_mixWatcher 41 = .ok (.i2l, 1) := by decide +kernel
theorem dX5_mixWatcher_42 : decode cX5_mixWatcher 42 = .ok (.invokestatic 290, 3) := by decide +kernel
theorem dX5_mixWatcher_45 : decode cX5_mixWatcher 45 = .ok (.lstore 4, 2) := by decide +kernel
theorem dX5_mixWatcher_47 : decode cX5_mixWatcher 47 = .ok (.lload 4, 2) := by decide +kernel
theorem dX5_mixWatcher_49 : decode cX5_mixWatcher 49 = .ok (.aload_n 0, 1) := by decide +kernel
theorem dX5_mixWatcher_50 : decode cX5_mixWatcher 50 = .ok (.iload_n 3, 1) := by decide +kernel
theorem dX5_mixWatcher_51 : decode cX5_mixWatcher 51 = .ok (.invokevirtual 215, 3) := by decide +kernel
theorem dX5_mixWatcher_54 : decode cX5_mixWatcher 54 = .ok (.i2l, 1) := by decide +kernel
theorem dX5_mixWatcher_55 : decode cX5_mixWatcher 55 = .ok (.invokestatic 290, 3) := by decide +kernel
theorem dX5_mixWatcher_58 : decode cX5_mixWatcher 58 = .ok (.lstore 4, 2) := by decide +kernel
theorem dX5_mixWatcher_60 : decode cX5_mixWatcher 60 = .ok (.iconst 0, 1) := by decide +kernel
theorem dX5_mixWatcher_61 : decode cX5_mixWatcher 61 = .ok (.istore 6, 2) := by decide +kernel
theorem dX5_mixWatcher_63 : decode cX5_mixWatcher 63 = .ok (.iload 6, 2) := by decide +kernel
theorem dX5_mixWatcher_65 : decode cX5_mixWatcher 65 = .ok (.aload_n 0, 1) := by decide +kernel
theorem dX5_mixWatcher_66 : decode cX5_mixWatcher 66 = .ok (.getfield 25, 3) := by decide +kernel
theorem dX5_mixWatcher_69 : decode cX5_mixWatcher 69 = .ok (.iload_n 3, 1) := by decide +kernel
theorem dX5_mixWatcher_70 : decode cX5_mixWatcher 70 = .ok (.aaload, 1) := by decide +kernel
theorem dX5_mixWatcher_71 : decode cX5_mixWatcher 71 = .ok (.getfield 163, 3) := by decide +kernel
theorem dX5_mixWatcher_74 : decode cX5_mixWatcher 74 = .ok (.getfield 166, 3) := by decide +kernel
theorem dX5_mixWatcher_77 : decode cX5_mixWatcher 77 = .ok (.if_icmp .ge 41, 3) := by decide +kernel
theorem dX5_mixWatcher_80 : decode cX5_mixWatcher 80 = .ok (.iconst 0, 1) := by decide +kernel
theorem dX5_mixWatcher_81 : decode cX5_mixWatcher 81 = .ok (.istore 7, 2) := by decide +kernel
theorem dX5_mixWatcher_83 : decode cX5_mixWatcher 83 = .ok (.iload 7, 2) := by decide +kernel
theorem dX5_mixWatcher_85 : decode cX5_mixWatcher 85 = .ok (.iconst 2, 1) := by decide +kernel
theorem dX5_mixWatcher_86 : decode cX5_mixWatcher 86 = .ok (.if_icmp .gt 26, 3) := by decide +kernel
theorem dX5_mixWatcher_89 : decode cX5_mixWatcher 89 = .ok (.lload 4, 2) := by decide +kernel
theorem dX5_mixWatcher_91 : decode cX5_mixWatcher 91 = .ok (.aload_n 0, 1) := by decide +kernel
theorem dX5_mixWatcher_92 : decode cX5_mixWatcher 92 = .ok (.iload_n 3, 1) := by decide +kernel
theorem dX5_mixWatcher_93 : decode cX5_mixWatcher 93 = .ok (.iload 6, 2) := by decide +kernel
theorem dX5_mixWatcher_95 : decode cX5_mixWatcher 95 = .ok (.iload 7, 2) := by decide +kernel
theorem dX5_mixWatcher_97 : decode cX5_mixWatcher 97 = .ok (.invokevirtual 352, 3) := by decide +kernel
theorem dX5_mixWatcher_100 : decode cX5_mixWatcher 100 = .ok (.i2l, 1) := by decide +kernel
theorem dX5_mixWatcher_101 : decode cX5_mixWatcher 101 = .ok (.invokestatic 290, 3) := by decide +kernel
theorem dX5_mixWatcher_104 : decode cX5_mixWatcher 104 = .ok (.lstore 4, 2) := by decide +kernel
theorem dX5_mixWatcher_106 : decode cX5_mixWatcher 106 = .ok (.iinc 7 1, 3) := by decide +kernel
theorem dX5_mixWatcher_109 : decode cX5_mixWatcher 109 = .ok (.goto (-26), 3) := by decide +kernel
theorem dX5_mixWatcher_112 : decode cX5_mixWatcher 112 = .ok (.iinc 6 1, 3) := by decide +kernel
theorem dX5_mixWatcher_115 : decode cX5_mixWatcher 115 = .ok (.goto (-52), 3) := by decide +kernel
theorem dX5_mixWatcher_118 : decode cX5_mixWatcher 118 = .ok (.iconst 0, 1) := by decide +kernel
theorem dX5_mixWatcher_119 : decode cX5_mixWatcher 119 = .ok (.istore 6, 2) := by decide +kernel
theorem dX5_mixWatcher_121 : decode cX5_mixWatcher 121 = .ok (.iload 6, 2) := by decide +kernel
theorem dX5_mixWatcher_123 : decode cX5_mixWatcher 123 = .ok (.aload_n 0, 1) := by decide +kernel
theorem dX5_mixWatcher_124 : decode cX5_mixWatcher 124 = .ok (.getfield 40, 3) := by decide +kernel
theorem dX5_mixWatcher_127 : decode cX5_mixWatcher 127 = .ok (.getfield 103, 3) := by decide +kernel
theorem dX5_mixWatcher_130 : decode cX5_mixWatcher 130 = .ok (.if_icmp .ge 24, 3) := by decide +kernel
theorem dX5_mixWatcher_133 : decode cX5_mixWatcher 133 = .ok (.lload 4, 2) := by decide +kernel
theorem dX5_mixWatcher_135 : decode cX5_mixWatcher 135 = .ok (.aload_n 0, 1) := by decide +kernel
theorem dX5_mixWatcher_136 : decode cX5_mixWatcher 136 = .ok (.iload_n 3, 1) := by decide +kernel
theorem dX5_mixWatcher_137 : decode cX5_mixWatcher 137 = .ok (.iload 6, 2) := by decide +kernel
theorem dX5_mixWatcher_139 : decode cX5_mixWatcher 139 = .ok (.invokevirtual 356, 3) := by decide +kernel
theorem dX5_mixWatcher_142 : decode cX5_mixWatcher 142 = .ok (.i2l, 1) := by decide +kernel
theorem dX5_mixWatcher_143 : decode cX5_mixWatcher 143 = .ok (.invokestatic 290, 3) := by decide +kernel
theorem dX5_mixWatcher_146 : decode cX5_mixWatcher 146 = .ok (.lstore 4, 2) := by decide +kernel
theorem dX5_mixWatcher_148 : decode cX5_mixWatcher 148 = .ok (.iinc 6 1, 3) := by decide +kernel
theorem dX5_mixWatcher_151 : decode cX5_mixWatcher 151 = .ok (.goto (-30), 3) := by decide +kernel
theorem dX5_mixWatcher_154 : decode cX5_mixWatcher 154 = .ok (.lload 4, 2) := by decide +kernel
theorem dX5_mixWatcher_156 : decode cX5_mixWatcher 156 = .ok (.lreturn, 1) := by decide +kernel
theorem dJ9_floorMod_7cf53_0 : decode cJ9_floorMod_7cf53 0 = .ok (.iload_n 0, 1) := by decide +kernel
theorem dJ9_floorMod_7cf53_1 : decode cJ9_floorMod_7cf53 1 = .ok (.iload_n 1, 1) := by decide +kernel
theorem dJ9_floorMod_7cf53_2 : decode cJ9_floorMod_7cf53 2 = .ok (.irem, 1) := by decide +kernel
theorem dJ9_floorMod_7cf53_3 : decode cJ9_floorMod_7cf53 3 = .ok (.istore_n 2, 1) := by decide +kernel
theorem dJ9_floorMod_7cf53_4 : decode cJ9_floorMod_7cf53 4 = .ok (.iload_n 0, 1) := by decide +kernel
theorem dJ9_floorMod_7cf53_5 : decode cJ9_floorMod_7cf53 5 = .ok (.iload_n 1, 1) := by decide +kernel
theorem dJ9_floorMod_7cf53_6 : decode cJ9_floorMod_7cf53 6 = .ok (.ixor, 1) := by decide +kernel
theorem dJ9_floorMod_7cf53_7 : decode cJ9_floorMod_7cf53 7 = .ok (.ifCond .ge 11, 3) := by decide +kernel
theorem dJ9_floorMod_7cf53_10 : decode cJ9_floorMod_7cf53 10 = .ok (.iload_n 2, 1) := by decide +kernel
theorem dJ9_floorMod_7cf53_11 : decode cJ9_floorMod_7cf53 11 = .ok (.ifCond .eq 7, 3) := by decide +kernel
theorem dJ9_floorMod_7cf53_14 : decode cJ9_floorMod_7cf53 14 = .ok (.iload_n 2, 1) := by decide +kernel
theorem dJ9_floorMod_7cf53_15 : decode cJ9_floorMod_7cf53 15 = .ok (.iload_n 1, 1) := by decide +kernel
theorem dJ9_floorMod_7cf53_16 : decode cJ9_floorMod_7cf53 16 = .ok (.iadd, 1) := by decide +kernel
theorem dJ9_floorMod_7cf53_17 : decode cJ9_floorMod_7cf53 17 = .ok (.ireturn, 1) := by decide +kernel
theorem dJ9_floorMod_7cf53_18 : decode cJ9_floorMod_7cf53 18 = .ok (.iload_n 2, 1) := by decide +kernel
theorem dJ9_floorMod_7cf53_19 : decode cJ9_floorMod_7cf53 19 = .ok (.ireturn, 1) := by decide +kernel
theorem dJ9_max_7cf53_0 : decode cJ9_max_7cf53 0 = .ok (.iload_n 0, 1) := by decide +kernel
theorem dJ9_max_7cf53_1 : decode cJ9_max_7cf53 1 = .ok (.iload_n 1, 1) := by decide +kernel
theorem dJ9_max_7cf53_2 : decode cJ9_max_7cf53 2 = .ok (.if_icmp .lt 7, 3) := by decide +kernel
theorem dJ9_max_7cf53_5 : decode cJ9_max_7cf53 5 = .ok (.iload_n 0, 1) := by decide +kernel
theorem dJ9_max_7cf53_6 : decode cJ9_max_7cf53 6 = .ok (.goto 4, 3) := by decide +kernel
theorem dJ9_max_7cf53_9 : decode cJ9_max_7cf53 9 = .ok (.iload_n 1, 1) := by decide +kernel
theorem dJ9_max_7cf53_10 : decode cJ9_max_7cf53 10 = .ok (.ireturn, 1) := by decide +kernel
theorem dJ9_min_7cf53_0 : decode cJ9_min_7cf53 0 = .ok (.iload_n 0, 1) := by decide +kernel
theorem dJ9_min_7cf53_1 : decode cJ9_min_7cf53 1 = .ok (.iload_n 1, 1) := by decide +kernel
theorem dJ9_min_7cf53_2 : decode cJ9_min_7cf53 2 = .ok (.if_icmp .gt 7, 3) := by decide +kernel
theorem dJ9_min_7cf53_5 : decode cJ9_min_7cf53 5 = .ok (.iload_n 0, 1) := by decide +kernel
theorem dJ9_min_7cf53_6 : decode cJ9_min_7cf53 6 = .ok (.goto 4, 3) := by decide +kernel
theorem dJ9_min_7cf53_9 : decode cJ9_min_7cf53 9 = .ok (.iload_n 1, 1) := by decide +kernel
theorem dJ9_min_7cf53_10 : decode cJ9_min_7cf53 10 = .ok (.ireturn, 1) := by decide +kernel
