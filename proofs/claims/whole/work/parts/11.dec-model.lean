theorem dX6_init_0 : decode cX6_init 0 = .ok (.aload_n 0, 1) := by decide +kernel
theorem dX6_init_1 : decode cX6_init 1 = .ok (.invokespecial 1, 3) := by decide +kernel
theorem dX6_init_4 : decode cX6_init 4 = .ok (.aload_n 0, 1) := by decide +kernel
theorem dX6_init_5 : decode cX6_init 5 = .ok (.bipush 40, 2) := by decide +kernel
theorem dX6_init_7 : decode cX6_init 7 = .ok (.newarray .int, 2) := by decide +kernel
theorem dX6_init_9 : decode cX6_init 9 = .ok (.putfield 7, 3) := by decide +kernel
theorem dX6_init_12 : decode cX6_init 12 = .ok (.aload_n 0, 1) := by decide +kernel
theorem dX6_init_13 : decode cX6_init 13 = .ok (.bipush 10, 2) := by decide +kernel
theorem dX6_init_15 : decode cX6_init 15 = .ok (.putfield 13, 3) := by decide +kernel
theorem dX6_init_18 : decode cX6_init 18 = .ok (.aload_n 0, 1) := by decide +kernel
theorem dX6_init_19 : decode cX6_init 19 = .ok (.iconst 4, 1) := by decide +kernel
theorem dX6_init_20 : decode cX6_init 20 = .ok (.putfield 17, 3) := by decide +kernel
theorem dX6_init_23 : decode cX6_init 23 = .ok (.aload_n 0, 1) := by decide +kernel
theorem dX6_init_24 : decode cX6_init 24 = .ok (.iconst (-1), 1) := by decide +kernel
theorem dX6_init_25 : decode cX6_init 25 = .ok (.putfield 20, 3) := by decide +kernel
theorem dX6_init_28 : decode cX6_init 28 = .ok (.aload_n 0, 1) := by decide +kernel
theorem dX6_init_29 : decode cX6_init 29 = .ok (.bipush 40, 2) := by decide +kernel
theorem dX6_init_31 : decode cX6_init 31 = .ok (.newarray .int, 2) := by decide +kernel
theorem dX6_init_33 : decode cX6_init 33 = .ok (.putfield 23, 3) := by decide +kernel
theorem dX6_init_36 : decode cX6_init 36 = .ok (.aload_n 0, 1) := by decide +kernel
theorem dX6_init_37 : decode cX6_init 37 = .ok (.bipush 40, 2) := by decide +kernel
theorem dX6_init_39 : decode cX6_init 39 = .ok (.newarray .int, 2) := by decide +kernel
theorem dX6_init_41 : decode cX6_init 41 = .ok (.putfield 26, 3) := by decide +kernel
theorem dX6_init_44 : decode cX6_init 44 = .ok (.aload_n 0, 1) := by decide +kernel
theorem dX6_init_45 : decode cX6_init 45 = .ok (.iconst 5, 1) := by decide +kernel
theorem dX6_init_46 : decode cX6_init 46 = .ok (.newarray .int, 2) := by decide +kernel
theorem dX6_init_48 : decode cX6_init 48 = .ok (.putfield 29, 3) := by decide +kernel
theorem dX6_init_51 : decode cX6_init 51 = .ok (.aload_n 0, 1) := by decide +kernel
theorem dX6_init_52 : decode cX6_init 52 = .ok (.iconst 5, 1) := by decide +kernel
theorem dX6_init_53 : decode cX6_init 53 = .ok (.newarray .int, 2) := by decide +kernel
theorem dX6_init_55 : decode cX6_init 55 = .ok (.putfield 32, 3) := by decide +kernel
theorem dX6_init_58 : decode cX6_init 58 = .ok (.aload_n 0, 1) := by decide +kernel
theorem dX6_init_59 : decode cX6_init 59 = .ok (.iconst 5, 1) := by decide +kernel
theorem dX6_init_60 : decode cX6_init 60 = .ok (.newarray .int, 2) := by decide +kernel
theorem dX6_init_62 : decode cX6_init 62 = .ok (.putfield 35, 3) := by decide +kernel
theorem dX6_init_65 : decode cX6_init 65 = .ok (.aload_n 0, 1) := by decide +kernel
theorem dX6_init_66 : decode cX6_init 66 = .ok (.iconst 5, 1) := by decide +kernel
theorem dX6_init_67 : decode cX6_init 67 = .ok (.newarray .int, 2) := by decide +kernel
theorem dX6_init_69 : decode cX6_init 69 = .ok (.putfield 38, 3) := by decide +kernel
theorem dX6_init_72 : decode cX6_init 72 = .ok (.aload_n 0, 1) := by decide +kernel
theorem dX6_init_73 : decode cX6_init 73 = .ok (.bipush 40, 2) := by decide +kernel
theorem dX6_init_75 : decode cX6_init 75 = .ok (.newarray .int, 2) := by decide +kernel
theorem dX6_init_77 : decode cX6_init 77 = .ok (.putfield 41, 3) := by decide +kernel
theorem dX6_init_80 : decode cX6_init 80 = .ok (.aload_n 0, 1) := by decide +kernel
theorem dX6_init_81 : decode cX6_init 81 = .ok (.bipush 40, 2) := by decide +kernel
theorem dX6_init_83 : decode cX6_init 83 = .ok (.newarray .boolean, 2) := by decide +kernel
theorem dX6_init_85 : decode cX6_init 85 = .ok (.putfield 44, 3) := by decide +kernel
theorem dX6_init_88 : decode cX6_init 88 = .ok (.aload_n 0, 1) := by decide +kernel
theorem dX6_init_89 : decode cX6_init 89 = .ok (.iconst 4, 1) := by decide +kernel
theorem dX6_init_90 : decode cX6_init 90 = .ok (.newarray .int, 2) := by decide +kernel
theorem dX6_init_92 : decode cX6_init 92 = .ok (.putfield 48, 3) := by decide +kernel
theorem dX6_init_95 : decode cX6_init 95 = .ok (.aload_n 0, 1) := by decide +kernel
theorem dX6_init_96 : decode cX6_init 96 = .ok (.iconst 4, 1) := by decide +kernel
theorem dX6_init_97 : decode cX6_init 97 = .ok (.newarray .int, 2) := by decide +kernel
theorem dX6_init_99 : decode cX6_init 99 = .ok (.putfield 51, 3) := by decide +kernel
theorem dX6_init_102 : decode cX6_init 102 = .ok (.aload_n 0, 1) := by decide +kernel
theorem dX6_init_103 : decode cX6_init 103 = .ok (.sipush 160, 3) := by decide +kernel
theorem dX6_init_106 : decode cX6_init 106 = .ok (.newarray .long, 2) := by decide +kernel
theorem dX6_init_108 : decode cX6_init 108 = .ok (.putfield 54, 3) := by decide +kernel
theorem dX6_init_111 : decode cX6_init 111 = .ok (.aload_n 0, 1) := by decide +kernel
theorem dX6_init_112 : decode cX6_init 112 = .ok (.sipush 160, 3) := by decide +kernel
theorem dX6_init_115 : decode cX6_init 115 = .ok (.newarray .double, 2) := by decide +kernel
theorem dX6_init_117 : decode cX6_init 117 = .ok (.putfield 58, 3) := by decide +kernel
theorem dX6_init_120 : decode cX6_init 120 = .ok (.aload_n 0, 1) := by decide +kernel
theorem dX6_init_121 : decode cX6_init 121 = .ok (.sipush 160, 3) := by decide +kernel
theorem dX6_init_124 : decode cX6_init 124 = .ok (.newarray .boolean, 2) := by decide +kernel
theorem dX6_init_126 : decode cX6_init 126 = .ok (.putfield 62, 3) := by decide +kernel
theorem dX6_init_129 : decode cX6_init 129 = .ok (.aload_n 0, 1) := by decide +kernel
theorem dX6_init_130 : decode cX6_init 130 = .ok (.bipush 40, 2) := by decide +kernel
theorem dX6_init_132 : decode cX6_init 132 = .ok (.newarray .long, 2) := by decide +kernel
theorem dX6_init_134 : decode cX6_init 134 = .ok (.putfield 65, 3) := by decide +kernel
theorem dX6_init_137 : decode cX6_init 137 = .ok (.aload_n 0, 1) := by decide +kernel
theorem dX6_init_138 : decode cX6_init 138 = .ok (.bipush 40, 2) := by decide +kernel
theorem dX6_init_140 : decode cX6_init 140 = .ok (.newarray .double, 2) := by decide +kernel
theorem dX6_init_142 : decode cX6_init 142 = .ok (.putfield 68, 3) := by decide +kernel
theorem dX6_init_145 : decode cX6_init 145 = .ok (.aload_n 0, 1) := by decide +kernel
theorem dX6_init_146 : decode cX6_init 146 = .ok (.bipush 40, 2) := by decide +kernel
theorem dX6_init_148 : decode cX6_init 148 = .ok (.newarray .boolean, 2) := by decide +kernel
theorem dX6_init_150 : decode cX6_init 150 = .ok (.putfield 71, 3) := by decide +kernel
theorem dX6_init_153 : decode cX6_init 153 = .ok (.iconst 0, 1) := by decide +kernel
theorem dX6_init_154 : decode cX6_init 154 = .ok (.istore_n 1, 1) := by decide +kernel
theorem dX6_init_155 : decode cX6_init 155 = .ok (.iload_n 1, 1) := by decide +kernel
theorem dX6_init_156 : decode cX6_init 156 = .ok (.iconst 4, 1) := by decide +kernel
theorem dX6_init_157 : decode cX6_init 157 = .ok (.if_icmp .ge 16, 3) := by decide +kernel
theorem dX6_init_160 : decode cX6_init 160 = .ok (.aload_n 0, 1) := by decide +kernel
theorem dX6_init_161 : decode cX6_init 161 = .ok (.getfield 48, 3) := by decide +kernel
theorem dX6_init_164 : decode cX6_init 164 = .ok (.iload_n 1, 1) := by decide +kernel
theorem dX6_init_165 : decode cX6_init 165 = .ok (.iconst (-1), 1) := by decide +kernel
theorem dX6_init_166 : decode cX6_init 166 = .ok (.iastore, 1) := by decide +kernel
theorem dX6_init_167 : decode cX6_init 167 = .ok (.iinc 1 1, 3) := by decide +kernel
theorem dX6_init_170 : decode cX6_init 170 = .ok (.goto (-15), 3) := by decide +kernel
theorem dX6_init_173 : decode cX6_init 173 = .ok (.return_, 1) := by decide +kernel
theorem dX6_in_0 : decode cX6_in 0 = .ok (.iload_n 0, 1) := by decide +kernel
theorem dX6_in_1 : decode cX6_in 1 = .ok (.iload_n 1, 1) := by decide +kernel
theorem dX6_in_2 : decode cX6_in 2 = .ok (.if_icmp .lt 12, 3) := by decide +kernel
theorem dX6_in_5 : decode cX6_in 5 = .ok (.iload_n 0, 1) := by decide +kernel
theorem dX6_in_6 : decode cX6_in 6 = .ok (.iload_n 2, 1) := by decide +kernel
theorem dX6_in_7 : decode cX6_in 7 = .ok (.if_icmp .gt 7, 3) := by decide +kernel
theorem dX6_in_10 : decode cX6_in 10 = .ok (.iconst 1, 1) := by decide +kernel
theorem dX6_in_11 : decode cX6_in 11 = .ok (.goto 4, 3) := by decide +kernel
theorem dX6_in_14 : decode cX6_in 14 = .ok (.iconst 0, 1) := by decide +kernel
theorem dX6_in_15 : decode cX6_in 15 = .ok (.ireturn, 1) := by decide +kernel
theorem dX6_no_0 : decode cX6_no 0 = .ok (.ldc2_w 74, 3) := by decide +kernel
theorem dX6_no_3 : decode cX6_no 3 = .ok (.iload_n 0, 1) := by decide +kernel
theorem dX6_no_4 : decode cX6_no 4 = .ok (.i2l, 1) := by decide +kernel
theorem dX6_no_5 : decode cX6_no 5 = .ok (.lsub, 1) := by decide +kernel
theorem dX6_no_6 : decode cX6_no 6 = .ok (.lreturn, 1) := by decide +kernel
theorem dX6_partOf_0 : decode cX6_partOf 0 = .ok (.lload_n 0, 1) := by decide +kernel
theorem dX6_partOf_1 : decode cX6_partOf 1 = .ok (.lconst 0, 1) := by decide +kernel
theorem dX6_partOf_2 : decode cX6_partOf 2 = .ok (.lcmp, 1) := by decide +kernel
theorem dX6_partOf_3 : decode cX6_partOf 3 = .ok (.ifCond .ge 8, 3) := by decide +kernel
theorem dX6_partOf_6 : decode cX6_partOf 6 = .ok (.lload_n 0, 1) := by decide +kernel
theorem dX6_partOf_7 : decode cX6_partOf 7 = .ok (.lneg, 1) := by decide +kernel
theorem dX6_partOf_8 : decode cX6_partOf 8 = .ok (.goto 4, 3) := by decide +kernel
theorem dX6_partOf_11 : decode cX6_partOf 11 = .ok (.lload_n 0, 1) := by decide +kernel
theorem dX6_partOf_12 : decode cX6_partOf 12 = .ok (.lstore 5, 2) := by decide +kernel
theorem dX6_partOf_14 : decode cX6_partOf 14 = .ok (.lload_n 2, 1) := by decide +kernel
theorem dX6_partOf_15 : decode cX6_partOf 15 = .ok (.lstore 7, 2) := by decide +kernel
theorem dX6_partOf_17 : decode cX6_partOf 17 = .ok (.lload 7, 2) := by decide +kernel
theorem dX6_partOf_19 : decode cX6_partOf 19 = .ok (.lconst 0, 1) := by decide +kernel
theorem dX6_partOf_20 : decode cX6_partOf 20 = .ok (.lcmp, 1) := by decide +kernel
theorem dX6_partOf_21 : decode cX6_partOf 21 = .ok (.ifCond .eq 21, 3) := by decide +kernel
theorem dX6_partOf_24 : decode cX6_partOf 24 = .ok (.lload 5, 2) := by decide +kernel
theorem dX6_partOf_26 : decode cX6_partOf 26 = .ok (.lload 7, 2) := by decide +kernel
theorem dX6_partOf_28 : decode cX6_partOf 28 = .ok (.lrem, 1) := by decide +kernel
theorem dX6_partOf_29 : decode cX6_partOf 29 = .ok (.lstore 9, 2) := by decide +kernel
theorem dX6_partOf_31 : decode cX6_partOf 31 = .ok (.lload 7, 2) := by decide +kernel
theorem dX6_partOf_33 : decode cX6_partOf 33 = .ok (.lstore 5, 2) := by decide +kernel
theorem dX6_partOf_35 : decode cX6_partOf 35 = .ok (.lload 9, 2) := by decide +kernel
theorem dX6_partOf_37 : decode cX6_partOf 37 = .ok (.lstore 7, 2) := by decide +kernel
theorem dX6_partOf_39 : decode cX6_partOf 39 = .ok (.goto (-22), 3) := by decide +kernel
theorem dX6_partOf_42 : decode cX6_partOf 42 = .ok (.iload 4, 2) := by decide +kernel
theorem dX6_partOf_44 : decode cX6_partOf 44 = .ok (.ifCond .ne 10, 3) := by decide +kernel
theorem dX6_partOf_47 : decode cX6_partOf 47 = .ok (.lload_n 0, 1) := by decide +kernel
theorem dX6_partOf_48 : decode cX6_partOf 48 = .ok (.lload 5, 2) := by decide +kernel
theorem dX6_partOf_50 : decode cX6_partOf 50 = .ok (.ldiv, 1) := by decide +kernel
theorem dX6_partOf_51 : decode cX6_partOf 51 = .ok (.goto 7, 3) := by decide +kernel
theorem dX6_partOf_54 : decode cX6_partOf 54 = .ok (.lload_n 2, 1) := by decide +kernel
theorem dX6_partOf_55 : decode cX6_partOf 55 = .ok (.lload 5, 2) := by decide +kernel
theorem dX6_partOf_57 : decode cX6_partOf 57 = .ok (.ldiv, 1) := by decide +kernel
theorem dX6_partOf_58 : decode cX6_partOf 58 = .ok (.lreturn, 1) := by decide +kernel
set_option maxRecDepth 20000 in
theorem ggX6_adds_X6_in : GoodIn wsX6_adds wsX6_in := goodIn_r _ [6] (by decide +kernel) (by decide +kernel)
set_option maxRecDepth 20000 in
theorem gX6_adds_X6_in : GoodIn wsX6_adds (va_wsS RX6 76 yX6_in wsX6_in) := goodIn_app (goodIn_of _ (by decide +kernel)) ggX6_adds_X6_in
theorem dX6_adds_0 : decode cX6_adds 0 = .ok (.iload_n 1, 1) := by decide +kernel
theorem dX6_adds_1 : decode cX6_adds 1 = .ok (.iconst (-1), 1) := by decide +kernel
theorem dX6_adds_2 : decode cX6_adds 2 = .ok (.bipush 99, 2) := by decide +kernel
theorem dX6_adds_4 : decode cX6_adds 4 = .ok (.invokestatic 76, 3) := by decide +kernel
theorem dX6_adds_7 : decode cX6_adds 7 = .ok (.ifCond .ne 6, 3) := by decide +kernel
theorem dX6_adds_10 : decode cX6_adds 10 = .ok (.bipush (-2), 2) := by decide +kernel
theorem dX6_adds_12 : decode cX6_adds 12 = .ok (.ireturn, 1) := by decide +kernel
theorem dX6_adds_13 : decode cX6_adds 13 = .ok (.aload_n 0, 1) := by decide +kernel
theorem dX6_adds_14 : decode cX6_adds 14 = .ok (.getfield 80, 3) := by decide +kernel
theorem dX6_adds_17 : decode cX6_adds 17 = .ok (.bipush 40, 2) := by decide +kernel
theorem dX6_adds_19 : decode cX6_adds 19 = .ok (.if_icmp .ne 6, 3) := by decide +kernel
theorem dX6_adds_22 : decode cX6_adds 22 = .ok (.bipush (-4), 2) := by decide +kernel
theorem dX6_adds_24 : decode cX6_adds 24 = .ok (.ireturn, 1) := by decide +kernel
theorem dX6_adds_25 : decode cX6_adds 25 = .ok (.aload_n 0, 1) := by decide +kernel
theorem dX6_adds_26 : decode cX6_adds 26 = .ok (.getfield 7, 3) := by decide +kernel
theorem dX6_adds_29 : decode cX6_adds 29 = .ok (.aload_n 0, 1) := by decide +kernel
theorem dX6_adds_30 : decode cX6_adds 30 = .ok (.getfield 80, 3) := by decide +kernel
theorem dX6_adds_33 : decode cX6_adds 33 = .ok (.iload_n 1, 1) := by decide +kernel
theorem dX6_adds_34 : decode cX6_adds 34 = .ok (.iastore, 1) := by decide +kernel
theorem dX6_adds_35 : decode cX6_adds 35 = .ok (.aload_n 0, 1) := by decide +kernel
theorem dX6_adds_36 : decode cX6_adds 36 = .ok (.dup, 1) := by decide +kernel
theorem dX6_adds_37 : decode cX6_adds 37 = .ok (.getfield 80, 3) := by decide +kernel
theorem dX6_adds_40 : decode cX6_adds 40 = .ok (.iconst 1, 1) := by decide +kernel
theorem dX6_adds_41 : decode cX6_adds 41 = .ok (.iadd, 1) := by decide +kernel
theorem dX6_adds_42 : decode cX6_adds 42 = .ok (.putfield 80, 3) := by decide +kernel
theorem dX6_adds_45 : decode cX6_adds 45 = .ok (.aload_n 0, 1) := by decide +kernel
theorem dX6_adds_46 : decode cX6_adds 46 = .ok (.getfield 80, 3) := by decide +kernel
theorem dX6_adds_49 : decode cX6_adds 49 = .ok (.ireturn, 1) := by decide +kernel
set_option maxRecDepth 20000 in
theorem ggX6_beat_X6_adds : GoodIn wsX6_beat wsX6_adds := goodIn_r _ [5, 6, 7, 8, 9, 4, 10, 11, 12, 13, 14, 15, 16, 17, 18, 19, 20, 21, 22, 23, 24, 25, 26, 27, 28, 29, 30, 31, 32, 33, 34, 35, 36, 37, 38] (by decide +kernel) (by decide +kernel)
set_option maxRecDepth 20000 in
theorem gX6_beat_X6_adds : GoodIn wsX6_beat (wsV RX6 83 RX6 yX6_adds wsX6_adds) := goodIn_app (goodIn_of _ (by decide +kernel)) ggX6_beat_X6_adds
theorem dX6_beat_0 : decode cX6_beat 0 = .ok (.aload_n 0, 1) := by decide +kernel
theorem dX6_beat_1 : decode cX6_beat 1 = .ok (.iload_n 1, 1) := by decide +kernel
theorem dX6_beat_2 : decode cX6_beat 2 = .ok (.invokevirtual 83, 3) := by decide +kernel
theorem dX6_beat_5 : decode cX6_beat 5 = .ok (.ireturn, 1) := by decide +kernel
set_option maxRecDepth 20000 in
theorem ggX6_beats_X6_in : GoodIn wsX6_beats wsX6_in := goodIn_r _ [4] (by decide +kernel) (by decide +kernel)
set_option maxRecDepth 20000 in
theorem gX6_beats_X6_in : GoodIn wsX6_beats (va_wsS RX6 76 yX6_in wsX6_in) := goodIn_app (goodIn_of _ (by decide +kernel)) ggX6_beats_X6_in
set_option maxRecDepth 20000 in
theorem ggX6_beats_X6_adds : GoodIn wsX6_beats wsX6_adds := goodIn_r _ [8, 9, 10, 1, 2, 3, 4, 11, 12, 13, 14, 15, 16, 17, 18, 19, 20, 21, 22, 23, 24, 25, 26, 27, 28, 29, 30, 31, 32, 33, 34, 35, 36, 37, 38] (by decide +kernel) (by decide +kernel)
set_option maxRecDepth 20000 in
theorem gX6_beats_X6_adds : GoodIn wsX6_beats (wsV RX6 83 RX6 yX6_adds wsX6_adds) := goodIn_app (goodIn_of _ (by decide +kernel)) ggX6_beats_X6_adds
theorem dX6_beats_0 : decode cX6_beats 0 = .ok (.iload_n 1, 1) := by decide +kernel
theorem dX6_beats_1 : decode cX6_beats 1 = .ok (.iconst 0, 1) := by decide +kernel
theorem dX6_beats_2 : decode cX6_beats 2 = .ok (.bipush 99, 2) := by decide +kernel
theorem dX6_beats_4 : decode cX6_beats 4 = .ok (.invokestatic 76, 3) := by decide +kernel
theorem dX6_beats_7 : decode cX6_beats 7 = .ok (.ifCond .eq 24, 3) := by decide +kernel
theorem dX6_beats_10 : decode cX6_beats 10 = .ok (.iload_n 2, 1) := by decide +kernel
theorem dX6_beats_11 : decode cX6_beats 11 = .ok (.bipush (-99), 2) := by decide +kernel
theorem dX6_beats_13 : decode cX6_beats 13 = .ok (.bipush 99, 2) := by decide +kernel
theorem dX6_beats_15 : decode cX6_beats 15 = .ok (.invokestatic 76, 3) := by decide +kernel
theorem dX6_beats_18 : decode cX6_beats 18 = .ok (.ifCond .eq 13, 3) := by decide +kernel
theorem dX6_beats_21 : decode cX6_beats 21 = .ok (.iload_n 3, 1) := by decide +kernel
theorem dX6_beats_22 : decode cX6_beats 22 = .ok (.iconst 1, 1) := by decide +kernel
theorem dX6_beats_23 : decode cX6_beats 23 = .ok (.bipush 40, 2) := by decide +kernel
theorem dX6_beats_25 : decode cX6_beats 25 = .ok (.invokestatic 76, 3) := by decide +kernel
theorem dX6_beats_28 : decode cX6_beats 28 = .ok (.ifCond .ne 6, 3) := by decide +kernel
theorem dX6_beats_31 : decode cX6_beats 31 = .ok (.bipush (-2), 2) := by decide +kernel
theorem dX6_beats_33 : decode cX6_beats 33 = .ok (.ireturn, 1) := by decide +kernel
theorem dX6_beats_34 : decode cX6_beats 34 = .ok (.iload_n 1, 1) := by decide +kernel
theorem dX6_beats_35 : decode cX6_beats 35 = .ok (.istore 4, 2) := by decide +kernel
theorem dX6_beats_37 : decode cX6_beats 37 = .ok (.iconst 0, 1) := by decide +kernel
theorem dX6_beats_38 : decode cX6_beats 38 = .ok (.istore 5, 2) := by decide +kernel
theorem dX6_beats_40 : decode cX6_beats 40 = .ok (.iload 5, 2) := by decide +kernel
theorem dX6_beats_42 : decode cX6_beats 42 = .ok (.iload_n 3, 1) := by decide +kernel
theorem dX6_beats_43 : decode cX6_beats 43 = .ok (.if_icmp .ge 30, 3) := by decide +kernel
theorem dX6_beats_46 : decode cX6_beats 46 = .ok (.aload_n 0, 1) := by decide +kernel
theorem dX6_beats_47 : decode cX6_beats 47 = .ok (.iload 4, 2) := by decide +kernel
theorem dX6_beats_49 : decode cX6_beats 49 = .ok (.invokevirtual 83, 3) := by decide +kernel
theorem dX6_beats_52 : decode cX6_beats 52 = .ok (.ifCond .le 21, 3) := by decide +kernel
theorem dX6_beats_55 : decode cX6_beats 55 = .ok (.iload 4, 2) := by decide +kernel
theorem dX6_beats_57 : decode cX6_beats 57 = .ok (.iload_n 2, 1) := by decide +kernel
theorem dX6_beats_58 : decode cX6_beats 58 = .ok (.iadd, 1) := by decide +kernel
theorem dX6_beats_59 : decode cX6_beats 59 = .ok (.bipush 100, 2) := by decide +kernel
theorem dX6_beats_61 : decode cX6_beats 61 = .ok (.iadd, 1) := by decide +kernel
theorem dX6_beats_62 : decode cX6_beats 62 = .ok (.bipush 100, 2) := by decide +kernel
theorem dX6_beats_64 : decode cX6_beats 64 = .ok (.irem, 1) := by decide +kernel
theorem dX6_beats_65 : decode cX6_beats 65 = .ok (.istore 4, 2) := by decide +kernel
theorem dX6_beats_67 : decode cX6_beats 67 = .ok (.iinc 5 1, 3) := by decide +kernel
theorem dX6_beats_70 : decode cX6_beats 70 = .ok (.goto (-30), 3) := by decide +kernel
theorem dX6_beats_73 : decode cX6_beats 73 = .ok (.iload 5, 2) := by decide +kernel
theorem dX6_beats_75 : decode cX6_beats 75 = .ok (.ireturn, 1) := by decide +kernel
set_option maxRecDepth 20000 in
theorem ggX6_isBeat_X6_in : GoodIn wsX6_isBeat wsX6_in := goodIn_r _ [5] (by decide +kernel) (by decide +kernel)
set_option maxRecDepth 20000 in
theorem gX6_isBeat_X6_in : GoodIn wsX6_isBeat (va_wsS RX6 76 yX6_in wsX6_in) := goodIn_app (goodIn_of _ (by decide +kernel)) ggX6_isBeat_X6_in
theorem dX6_isBeat_0 : decode cX6_isBeat 0 = .ok (.iload_n 1, 1) := by decide +kernel
theorem dX6_isBeat_1 : decode cX6_isBeat 1 = .ok (.iconst 0, 1) := by decide +kernel
theorem dX6_isBeat_2 : decode cX6_isBeat 2 = .ok (.aload_n 0, 1) := by decide +kernel
theorem dX6_isBeat_3 : decode cX6_isBeat 3 = .ok (.getfield 80, 3) := by decide +kernel
theorem dX6_isBeat_6 : decode cX6_isBeat 6 = .ok (.iconst 1, 1) := by decide +kernel
theorem dX6_isBeat_7 : decode cX6_isBeat 7 = .ok (.isub, 1) := by decide +kernel
theorem dX6_isBeat_8 : decode cX6_isBeat 8 = .ok (.invokestatic 76, 3) := by decide +kernel
theorem dX6_isBeat_11 : decode cX6_isBeat 11 = .ok (.ireturn, 1) := by decide +kernel
set_option maxRecDepth 20000 in
theorem ggX6_delay_X6_isBeat : GoodIn wsX6_delay wsX6_isBeat := goodIn_r _ [6, 7, 8, 9, 5, 10, 11, 12, 13, 14, 15, 16, 17, 18, 19, 20, 21, 22, 23, 24, 25, 26, 27, 28, 29, 30, 31, 32, 33, 34, 35, 36, 37, 38] (by decide +kernel) (by decide +kernel)
set_option maxRecDepth 20000 in
theorem gX6_delay_X6_isBeat : GoodIn wsX6_delay (wsV RX6 87 RX6 yX6_isBeat wsX6_isBeat) := goodIn_app (goodIn_of _ (by decide +kernel)) ggX6_delay_X6_isBeat
set_option maxRecDepth 20000 in
theorem ggX6_delay_X6_in : GoodIn wsX6_delay wsX6_in := goodIn_r _ [10] (by decide +kernel) (by decide +kernel)
set_option maxRecDepth 20000 in
theorem gX6_delay_X6_in : GoodIn wsX6_delay (va_wsS RX6 76 yX6_in wsX6_in) := goodIn_app (goodIn_of _ (by decide +kernel)) ggX6_delay_X6_in
theorem dX6_delay_0 : decode cX6_delay 0 = .ok (.aload_n 0, 1) := by decide +kernel
theorem dX6_delay_1 : decode cX6_delay 1 = .ok (.iload_n 1, 1) := by decide +kernel
theorem dX6_delay_2 : decode cX6_delay 2 = .ok (.invokevirtual 87, 3) := by decide +kernel
theorem dX6_delay_5 : decode cX6_delay 5 = .ok (.ifCond .eq 13, 3) := by decide +kernel
theorem dX6_delay_8 : decode cX6_delay 8 = .ok (.iload_n 2, 1) := by decide +kernel
theorem dX6_delay_9 : decode cX6_delay 9 = .ok (.iconst (-1), 1) := by decide +kernel
theorem dX6_delay_10 : decode cX6_delay 10 = .ok (.bipush 99, 2) := by decide +kernel
theorem dX6_delay_12 : decode cX6_delay 12 = .ok (.invokestatic 76, 3) := by decide +kernel
theorem dX6_delay_15 : decode cX6_delay 15 = .ok (.ifCond .ne 6, 3) := by decide +kernel
theorem dX6_delay_18 : decode cX6_delay 18 = .ok (.bipush (-2), 2) := by decide +kernel
theorem dX6_delay_20 : decode cX6_delay 20 = .ok (.ireturn, 1) := by decide +kernel
theorem dX6_delay_21 : decode cX6_delay 21 = .ok (.aload_n 0, 1) := by decide +kernel
theorem dX6_delay_22 : decode cX6_delay 22 = .ok (.getfield 7, 3) := by decide +kernel
theorem dX6_delay_25 : decode cX6_delay 25 = .ok (.iload_n 1, 1) := by decide +kernel
theorem dX6_delay_26 : decode cX6_delay 26 = .ok (.iaload, 1) := by decide +kernel
theorem dX6_delay_27 : decode cX6_delay 27 = .ok (.istore_n 3, 1) := by decide +kernel
theorem dX6_delay_28 : decode cX6_delay 28 = .ok (.aload_n 0, 1) := by decide +kernel
theorem dX6_delay_29 : decode cX6_delay 29 = .ok (.getfield 7, 3) := by decide +kernel
theorem dX6_delay_32 : decode cX6_delay 32 = .ok (.iload_n 1, 1) := by decide +kernel
theorem dX6_delay_33 : decode cX6_delay 33 = .ok (.iload_n 2, 1) := by decide +kernel
theorem dX6_delay_34 : decode cX6_delay 34 = .ok (.iastore, 1) := by decide +kernel
theorem dX6_delay_35 : decode cX6_delay 35 = .ok (.iload_n 3, 1) := by decide +kernel
theorem dX6_delay_36 : decode cX6_delay 36 = .ok (.ireturn, 1) := by decide +kernel
theorem dX6_back_0 : decode cX6_back 0 = .ok (.aload_n 0, 1) := by decide +kernel
theorem dX6_back_1 : decode cX6_back 1 = .ok (.getfield 80, 3) := by decide +kernel
theorem dX6_back_4 : decode cX6_back 4 = .ok (.ifCond .ne 6, 3) := by decide +kernel
theorem dX6_back_7 : decode cX6_back 7 = .ok (.bipush (-3), 2) := by decide +kernel
theorem dX6_back_9 : decode cX6_back 9 = .ok (.ireturn, 1) := by decide +kernel
theorem dX6_back_10 : decode cX6_back 10 = .ok (.aload_n 0, 1) := by decide +kernel
theorem dX6_back_11 : decode cX6_back 11 = .ok (.dup, 1) := by decide +kernel
theorem dX6_back_12 : decode cX6_back 12 = .ok (.getfield 80, 3) := by decide +kernel
theorem dX6_back_15 : decode cX6_back 15 = .ok (.iconst 1, 1) := by decide +kernel
theorem dX6_back_16 : decode cX6_back 16 = .ok (.isub, 1) := by decide +kernel
theorem dX6_back_17 : decode cX6_back 17 = .ok (.putfield 80, 3) := by decide +kernel
theorem dX6_back_20 : decode cX6_back 20 = .ok (.aload_n 0, 1) := by decide +kernel
theorem dX6_back_21 : decode cX6_back 21 = .ok (.getfield 80, 3) := by decide +kernel
theorem dX6_back_24 : decode cX6_back 24 = .ok (.ireturn, 1) := by decide +kernel
set_option maxRecDepth 20000 in
theorem ggX6_set_X6_in : GoodIn wsX6_set wsX6_in := goodIn_r _ [6] (by decide +kernel) (by decide +kernel)
set_option maxRecDepth 20000 in
theorem gX6_set_X6_in : GoodIn wsX6_set (va_wsS RX6 76 yX6_in wsX6_in) := goodIn_app (goodIn_of _ (by decide +kernel)) ggX6_set_X6_in
theorem dX6_set_0 : decode cX6_set 0 = .ok (.iload_n 1, 1) := by decide +kernel
theorem dX6_set_1 : decode cX6_set 1 = .ok (.ifCond .ne 16, 3) := by decide +kernel
theorem dX6_set_4 : decode cX6_set 4 = .ok (.iload_n 2, 1) := by decide +kernel
theorem dX6_set_5 : decode cX6_set 5 = .ok (.iconst 1, 1) := by decide +kernel
theorem dX6_set_6 : decode cX6_set 6 = .ok (.bipush 50, 2) := by decide +kernel
theorem dX6_set_8 : decode cX6_set 8 = .ok (.invokestatic 76, 3) := by decide +kernel
theorem dX6_set_11 : decode cX6_set 11 = .ok (.ifCond .ne 24, 3) := by decide +kernel
theorem dX6_set_14 : decode cX6_set 14 = .ok (.goto 18, 3) := by decide +kernel
theorem dX6_set_17 : decode cX6_set 17 = .ok (.iload_n 1, 1) := by decide +kernel
theorem dX6_set_18 : decode cX6_set 18 = .ok (.iconst 1, 1) := by decide +kernel
theorem dX6_set_19 : decode cX6_set 19 = .ok (.if_icmp .ne 13, 3) := by decide +kernel
theorem dX6_set_22 : decode cX6_set 22 = .ok (.iload_n 2, 1) := by decide +kernel
theorem dX6_set_23 : decode cX6_set 23 = .ok (.iconst 1, 1) := by decide +kernel
theorem dX6_set_24 : decode cX6_set 24 = .ok (.bipush 16, 2) := by decide +kernel
theorem dX6_set_26 : decode cX6_set 26 = .ok (.invokestatic 76, 3) := by decide +kernel
theorem dX6_set_29 : decode cX6_set 29 = .ok (.ifCond .ne 6, 3) := by decide +kernel
theorem dX6_set_32 : decode cX6_set 32 = .ok (.bipush (-2), 2) := by decide +kernel
theorem dX6_set_34 : decode cX6_set 34 = .ok (.ireturn, 1) := by decide +kernel
theorem dX6_set_35 : decode cX6_set 35 = .ok (.iload_n 1, 1) := by decide +kernel
theorem dX6_set_36 : decode cX6_set 36 = .ok (.ifCond .ne 10, 3) := by decide +kernel
theorem dX6_set_39 : decode cX6_set 39 = .ok (.aload_n 0, 1) := by decide +kernel
theorem dX6_set_40 : decode cX6_set 40 = .ok (.getfield 13, 3) := by decide +kernel
theorem dX6_set_43 : decode cX6_set 43 = .ok (.goto 7, 3) := by decide +kernel
theorem dX6_set_46 : decode cX6_set 46 = .ok (.aload_n 0, 1) := by decide +kernel
theorem dX6_set_47 : decode cX6_set 47 = .ok (.getfield 17, 3) := by decide +kernel
theorem dX6_set_50 : decode cX6_set 50 = .ok (.istore_n 3, 1) := by decide +kernel
theorem dX6_set_51 : decode cX6_set 51 = .ok (.iload_n 1, 1) := by decide +kernel
theorem dX6_set_52 : decode cX6_set 52 = .ok (.ifCond .ne 11, 3) := by decide +kernel
theorem dX6_set_55 : decode cX6_set 55 = .ok (.aload_n 0, 1) := by decide +kernel
theorem dX6_set_56 : decode cX6_set 56 = .ok (.iload_n 2, 1) := by decide +kernel
theorem dX6_set_57 : decode cX6_set 57 = .ok (.putfield 13, 3) := by decide +kernel
theorem dX6_set_60 : decode cX6_set 60 = .ok (.goto 8, 3) := by decide +kernel
theorem dX6_set_63 : decode cX6_set 63 = .ok (.aload_n 0, 1) := by decide +kernel
theorem dX6_set_64 : decode cX6_set 64 = .ok (.iload_n 2, 1) := by decide +kernel
theorem dX6_set_65 : decode cX6_set 65 = .ok (.putfield 17, 3) := by decide +kernel
theorem dX6_set_68 : decode cX6_set 68 = .ok (.iload_n 3, 1) := by decide +kernel
theorem dX6_set_69 : decode cX6_set 69 = .ok (.ireturn, 1) := by decide +kernel
set_option maxRecDepth 20000 in
theorem ggX6_silence_X6_in : GoodIn wsX6_silence wsX6_in := goodIn_r _ [5] (by decide +kernel) (by decide +kernel)
set_option maxRecDepth 20000 in
theorem gX6_silence_X6_in : GoodIn wsX6_silence (va_wsS RX6 76 yX6_in wsX6_in) := goodIn_app (goodIn_of _ (by decide +kernel)) ggX6_silence_X6_in
theorem dX6_silence_0 : decode cX6_silence 0 = .ok (.iload_n 1, 1) := by decide +kernel
theorem dX6_silence_1 : decode cX6_silence 1 = .ok (.iconst (-1), 1) := by decide +kernel
theorem dX6_silence_2 : decode cX6_silence 2 = .ok (.sipush 5000, 3) := by decide +kernel
theorem dX6_silence_5 : decode cX6_silence 5 = .ok (.invokestatic 76, 3) := by decide +kernel
theorem dX6_silence_8 : decode cX6_silence 8 = .ok (.ifCond .ne 6, 3) := by decide +kernel
theorem dX6_silence_11 : decode cX6_silence 11 = .ok (.bipush (-2), 2) := by decide +kernel
theorem dX6_silence_13 : decode cX6_silence 13 = .ok (.ireturn, 1) := by decide +kernel
theorem dX6_silence_14 : decode cX6_silence 14 = .ok (.aload_n 0, 1) := by decide +kernel
theorem dX6_silence_15 : decode cX6_silence 15 = .ok (.getfield 20, 3) := by decide +kernel
theorem dX6_silence_18 : decode cX6_silence 18 = .ok (.istore_n 2, 1) := by decide +kernel
theorem dX6_silence_19 : decode cX6_silence 19 = .ok (.aload_n 0, 1) := by decide +kernel
theorem dX6_silence_20 : decode cX6_silence 20 = .ok (.iload_n 1, 1) := by decide +kernel
theorem dX6_silence_21 : decode cX6_silence 21 = .ok (.putfield 20, 3) := by decide +kernel
theorem dX6_silence_24 : decode cX6_silence 24 = .ok (.iload_n 2, 1) := by decide +kernel
theorem dX6_silence_25 : decode cX6_silence 25 = .ok (.ireturn, 1) := by decide +kernel
set_option maxRecDepth 20000 in
theorem ggX6_read_X6_isSheet : GoodIn wsX6_read wsX6_isSheet := goodIn_r _ [9, 10, 11, 8, 12] (by decide +kernel) (by decide +kernel)
set_option maxRecDepth 20000 in
theorem gX6_read_X6_isSheet : GoodIn wsX6_read (va_wsS RX6 91 yX6_isSheet wsX6_isSheet) := goodIn_app (goodIn_of _ (by decide +kernel)) ggX6_read_X6_isSheet
set_option maxRecDepth 20000 in
theorem ggX6_read_X6_meets : GoodIn wsX6_read wsX6_meets := goodIn_r _ [16, 17, 24, 25, 26, 27, 28, 29, 30, 31, 32, 33, 34, 35, 36, 37, 38, 39, 40, 41, 42, 43, 44, 45, 46, 47, 48, 49, 50, 51] (by decide +kernel) (by decide +kernel)
set_option maxRecDepth 20000 in
theorem gX6_read_X6_meets : GoodIn wsX6_read (wsV RX6 94 RX6 yX6_meets wsX6_meets) := goodIn_app (goodIn_of _ (by decide +kernel)) ggX6_read_X6_meets
set_option maxRecDepth 20000 in
theorem ggX6_read_X6_adds : GoodIn wsX6_read wsX6_adds := goodIn_r _ [21, 22, 23, 10, 11, 8, 12, 24, 25, 26, 27, 28, 29, 30, 31, 32, 33, 34, 35, 36, 37, 38, 39, 40, 41, 42, 43, 44, 45, 46, 47, 48, 49, 50, 51] (by decide +kernel) (by decide +kernel)
set_option maxRecDepth 20000 in
theorem gX6_read_X6_adds : GoodIn wsX6_read (wsV RX6 83 RX6 yX6_adds wsX6_adds) := goodIn_app (goodIn_of _ (by decide +kernel)) ggX6_read_X6_adds
theorem dX6_read_0 : decode cX6_read 0 = .ok (.iload_n 1, 1) := by decide +kernel
theorem dX6_read_1 : decode cX6_read 1 = .ok (.invokestatic 91, 3) := by decide +kernel
theorem dX6_read_4 : decode cX6_read 4 = .ok (.ifCond .ne 6, 3) := by decide +kernel
theorem dX6_read_7 : decode cX6_read 7 = .ok (.bipush (-2), 2) := by decide +kernel
theorem dX6_read_9 : decode cX6_read 9 = .ok (.ireturn, 1) := by decide +kernel
theorem dX6_read_10 : decode cX6_read 10 = .ok (.aload_n 0, 1) := by decide +kernel
theorem dX6_read_11 : decode cX6_read 11 = .ok (.getfield 48, 3) := by decide +kernel
theorem dX6_read_14 : decode cX6_read 14 = .ok (.iload_n 1, 1) := by decide +kernel
theorem dX6_read_15 : decode cX6_read 15 = .ok (.iaload, 1) := by decide +kernel
theorem dX6_read_16 : decode cX6_read 16 = .ok (.ifCond .eq 23, 3) := by decide +kernel
theorem dX6_read_19 : decode cX6_read 19 = .ok (.aload_n 0, 1) := by decide +kernel
theorem dX6_read_20 : decode cX6_read 20 = .ok (.aload_n 0, 1) := by decide +kernel
theorem dX6_read_21 : decode cX6_read 21 = .ok (.getfield 48, 3) := by decide +kernel
theorem dX6_read_24 : decode cX6_read 24 = .ok (.iload_n 1, 1) := by decide +kernel
theorem dX6_read_25 : decode cX6_read 25 = .ok (.iaload, 1) := by decide +kernel
theorem dX6_read_26 : decode cX6_read 26 = .ok (.iconst (-1), 1) := by decide +kernel
theorem dX6_read_27 : decode cX6_read 27 = .ok (.if_icmp .ne 7, 3) := by decide +kernel
theorem dX6_read_30 : decode cX6_read 30 = .ok (.iconst 1, 1) := by decide +kernel
theorem dX6_read_31 : decode cX6_read 31 = .ok (.goto 4, 3) := by decide +kernel
theorem dX6_read_34 : decode cX6_read 34 = .ok (.iconst 3, 1) := by decide +kernel
theorem dX6_read_35 : decode cX6_read 35 = .ok (.invokevirtual 94, 3) := by decide +kernel
theorem dX6_read_38 : decode cX6_read 38 = .ok (.ireturn, 1) := by decide +kernel
theorem dX6_read_39 : decode cX6_read 39 = .ok (.iconst 0, 1) := by decide +kernel
theorem dX6_read_40 : decode cX6_read 40 = .ok (.istore_n 2, 1) := by decide +kernel
theorem dX6_read_41 : decode cX6_read 41 = .ok (.iload_n 2, 1) := by decide +kernel
theorem dX6_read_42 : decode cX6_read 42 = .ok (.aload_n 0, 1) := by decide +kernel
theorem dX6_read_43 : decode cX6_read 43 = .ok (.getfield 51, 3) := by decide +kernel
theorem dX6_read_46 : decode cX6_read 46 = .ok (.iload_n 1, 1) := by decide +kernel
theorem dX6_read_47 : decode cX6_read 47 = .ok (.iaload, 1) := by decide +kernel
theorem dX6_read_48 : decode cX6_read 48 = .ok (.if_icmp .ge 64, 3) := by decide +kernel
theorem dX6_read_51 : decode cX6_read 51 = .ok (.aload_n 0, 1) := by decide +kernel
theorem dX6_read_52 : decode cX6_read 52 = .ok (.getfield 54, 3) := by decide +kernel
theorem dX6_read_55 : decode cX6_read 55 = .ok (.bipush 40, 2) := by decide +kernel
theorem dX6_read_57 : decode cX6_read 57 = .ok (.iload_n 1, 1) := by decide +kernel
theorem dX6_read_58 : decode cX6_read 58 = .ok (.imul, 1) := by decide +kernel
theorem dX6_read_59 : decode cX6_read 59 = .ok (.iload_n 2, 1) := by decide +kernel
theorem dX6_read_60 : decode cX6_read 60 = .ok (.iadd, 1) := by decide +kernel
theorem dX6_read_61 : decode cX6_read 61 = .ok (.laload, 1) := by decide +kernel
theorem dX6_read_62 : decode cX6_read 62 = .ok (.ldc2_w 97, 3) := by decide +kernel
theorem dX6_read_65 : decode cX6_read 65 = .ok (.lcmp, 1) := by decide +kernel
theorem dX6_read_66 : decode cX6_read 66 = .ok (.ifCond .lt 46, 3) := by decide +kernel
theorem dX6_read_69 : decode cX6_read 69 = .ok (.aload_n 0, 1) := by decide +kernel
theorem dX6_read_70 : decode cX6_read 70 = .ok (.getfield 54, 3) := by decide +kernel
theorem dX6_read_73 : decode cX6_read 73 = .ok (.bipush 40, 2) := by decide +kernel
theorem dX6_read_75 : decode cX6_read 75 = .ok (.iload_n 1, 1) := by decide +kernel
theorem dX6_read_76 : decode cX6_read 76 = .ok (.imul, 1) := by decide +kernel
theorem dX6_read_77 : decode cX6_read 77 = .ok (.iload_n 2, 1) := by decide +kernel
theorem dX6_read_78 : decode cX6_read 78 = .ok (.iadd, 1) := by decide +kernel
theorem dX6_read_79 : decode cX6_read 79 = .ok (.laload, 1) := by decide +kernel
theorem dX6_read_80 : decode cX6_read 80 = .ok (.ldc2_w 99, 3) := by decide +kernel
theorem dX6_read_83 : decode cX6_read 83 = .ok (.lcmp, 1) := by decide +kernel
theorem dX6_read_84 : decode cX6_read 84 = .ok (.ifCond .gt 28, 3) := by decide +kernel
theorem dX6_read_87 : decode cX6_read 87 = .ok (.aload_n 0, 1) := by decide +kernel
theorem dX6_read_88 : decode cX6_read 88 = .ok (.aload_n 0, 1) := by decide +kernel
theorem dX6_read_89 : decode cX6_read 89 = .ok (.getfield 54, 3) := by decide +kernel
theorem dX6_read_92 : decode cX6_read 92 = .ok (.bipush 40, 2) := by decide +kernel
theorem dX6_read_94 : decode cX6_read 94 = .ok (.iload_n 1, 1) := by decide +kernel
theorem dX6_read_95 : decode cX6_read 95 = .ok (.imul, 1) := by decide +kernel
theorem dX6_read_96 : decode cX6_read 96 = .ok (.iload_n 2, 1) := by decide +kernel
theorem dX6_read_97 : decode cX6_read 97 = .ok (.iadd, 1) := by decide +kernel
theorem dX6_read_98 : decode cX6_read 98 = .ok (.laload, 1) := by decide +kernel
theorem dX6_read_99 : decode cX6_read 99 = .ok (.l2i, 1) := by decide +kernel
theorem dX6_read_100 : decode cX6_read 100 = .ok (.invokevirtual 83, 3) := by decide +kernel
theorem dX6_read_103 : decode cX6_read 103 = .ok (.ifCond .le 9, 3) := by decide +kernel
theorem dX6_read_106 : decode cX6_read 106 = .ok (.iinc 2 1, 3) := by decide +kernel
theorem dX6_read_109 : decode cX6_read 109 = .ok (.goto (-68), 3) := by decide +kernel
theorem dX6_read_112 : decode cX6_read 112 = .ok (.iload_n 2, 1) := by decide +kernel
theorem dX6_read_113 : decode cX6_read 113 = .ok (.ireturn, 1) := by decide +kernel
theorem dX6_isLost_0 : decode cX6_isLost 0 = .ok (.aload_n 0, 1) := by decide +kernel
theorem dX6_isLost_1 : decode cX6_isLost 1 = .ok (.getfield 7, 3) := by decide +kernel
theorem dX6_isLost_4 : decode cX6_isLost 4 = .ok (.iload_n 1, 1) := by decide +kernel
theorem dX6_isLost_5 : decode cX6_isLost 5 = .ok (.iaload, 1) := by decide +kernel
theorem dX6_isLost_6 : decode cX6_isLost 6 = .ok (.iconst (-1), 1) := by decide +kernel
theorem dX6_isLost_7 : decode cX6_isLost 7 = .ok (.if_icmp .eq 24, 3) := by decide +kernel
theorem dX6_isLost_10 : decode cX6_isLost 10 = .ok (.aload_n 0, 1) := by decide +kernel
theorem dX6_isLost_11 : decode cX6_isLost 11 = .ok (.getfield 20, 3) := by decide +kernel
theorem dX6_isLost_14 : decode cX6_isLost 14 = .ok (.iconst (-1), 1) := by decide +kernel
theorem dX6_isLost_15 : decode cX6_isLost 15 = .ok (.if_icmp .eq 20, 3) := by decide +kernel
theorem dX6_isLost_18 : decode cX6_isLost 18 = .ok (.iload_n 1, 1) := by decide +kernel
theorem dX6_isLost_19 : decode cX6_isLost 19 = .ok (.aload_n 0, 1) := by decide +kernel
theorem dX6_isLost_20 : decode cX6_isLost 20 = .ok (.getfield 13, 3) := by decide +kernel
theorem dX6_isLost_23 : decode cX6_isLost 23 = .ok (.imul, 1) := by decide +kernel
theorem dX6_isLost_24 : decode cX6_isLost 24 = .ok (.aload_n 0, 1) := by decide +kernel
theorem dX6_isLost_25 : decode cX6_isLost 25 = .ok (.getfield 20, 3) := by decide +kernel
theorem dX6_isLost_28 : decode cX6_isLost 28 = .ok (.if_icmp .lt 7, 3) := by decide +kernel
theorem dX6_isLost_31 : decode cX6_isLost 31 = .ok (.iconst 1, 1) := by decide +kernel
theorem dX6_isLost_32 : decode cX6_isLost 32 = .ok (.goto 4, 3) := by decide +kernel
theorem dX6_isLost_35 : decode cX6_isLost 35 = .ok (.iconst 0, 1) := by decide +kernel
theorem dX6_isLost_36 : decode cX6_isLost 36 = .ok (.ireturn, 1) := by decide +kernel
set_option maxRecDepth 20000 in
theorem ggX6_timeOf_X6_isLost : GoodIn wsX6_timeOf wsX6_isLost := goodIn_r _ [7, 2, 8, 1, 9, 10, 11, 12, 13, 14, 15, 16, 17, 18, 19, 20, 21, 22, 23, 24, 25, 26, 27, 28, 29, 30, 31, 32, 33, 34, 35, 36] (by decide +kernel) (by decide +kernel)
set_option maxRecDepth 20000 in
theorem gX6_timeOf_X6_isLost : GoodIn wsX6_timeOf (wsV RX6 101 RX6 yX6_isLost wsX6_isLost) := goodIn_app (goodIn_of _ (by decide +kernel)) ggX6_timeOf_X6_isLost
theorem dX6_timeOf_0 : decode cX6_timeOf 0 = .ok (.aload_n 0, 1) := by decide +kernel
theorem dX6_timeOf_1 : decode cX6_timeOf 1 = .ok (.iload_n 1, 1) := by decide +kernel
theorem dX6_timeOf_2 : decode cX6_timeOf 2 = .ok (.invokevirtual 101, 3) := by decide +kernel
theorem dX6_timeOf_5 : decode cX6_timeOf 5 = .ok (.ifCond .eq 7, 3) := by decide +kernel
theorem dX6_timeOf_8 : decode cX6_timeOf 8 = .ok (.iconst (-1), 1) := by decide +kernel
theorem dX6_timeOf_9 : decode cX6_timeOf 9 = .ok (.goto 16, 3) := by decide +kernel
theorem dX6_timeOf_12 : decode cX6_timeOf 12 = .ok (.iload_n 1, 1) := by decide +kernel
theorem dX6_timeOf_13 : decode cX6_timeOf 13 = .ok (.aload_n 0, 1) := by decide +kernel
theorem dX6_timeOf_14 : decode cX6_timeOf 14 = .ok (.getfield 13, 3) := by decide +kernel
theorem dX6_timeOf_17 : decode cX6_timeOf 17 = .ok (.imul, 1) := by decide +kernel
theorem dX6_timeOf_18 : decode cX6_timeOf 18 = .ok (.aload_n 0, 1) := by decide +kernel
theorem dX6_timeOf_19 : decode cX6_timeOf 19 = .ok (.getfield 7, 3) := by decide +kernel
theorem dX6_timeOf_22 : decode cX6_timeOf 22 = .ok (.iload_n 1, 1) := by decide +kernel
theorem dX6_timeOf_23 : decode cX6_timeOf 23 = .ok (.iaload, 1) := by decide +kernel
theorem dX6_timeOf_24 : decode cX6_timeOf 24 = .ok (.iadd, 1) := by decide +kernel
theorem dX6_timeOf_25 : decode cX6_timeOf 25 = .ok (.ireturn, 1) := by decide +kernel
set_option maxRecDepth 20000 in
theorem ggX6_isNews_X6_isLost : GoodIn wsX6_isNews wsX6_isLost := goodIn_r _ [6, 7, 8, 9, 14, 15, 16, 17, 18, 19, 20, 21, 22, 23, 24, 25, 26, 27, 28, 29, 30, 31, 32, 33, 34, 35, 36, 37, 38, 39, 40, 41] (by decide +kernel) (by decide +kernel)
set_option maxRecDepth 20000 in
theorem gX6_isNews_X6_isLost : GoodIn wsX6_isNews (wsV RX6 101 RX6 yX6_isLost wsX6_isLost) := goodIn_app (goodIn_of _ (by decide +kernel)) ggX6_isNews_X6_isLost
set_option maxRecDepth 20000 in
theorem ggX6_isNews_X6_timeOf : GoodIn wsX6_isNews wsX6_timeOf := goodIn_r _ [13, 9, 7, 2, 3, 4, 5, 6, 8, 14, 15, 16, 17, 18, 19, 20, 21, 22, 23, 24, 25, 26, 27, 28, 29, 30, 31, 32, 33, 34, 35, 36, 37, 38, 39, 40, 41] (by decide +kernel) (by decide +kernel)
set_option maxRecDepth 20000 in
theorem gX6_isNews_X6_timeOf : GoodIn wsX6_isNews (wsV RX6 104 RX6 yX6_timeOf wsX6_timeOf) := goodIn_app (goodIn_of _ (by decide +kernel)) ggX6_isNews_X6_timeOf
theorem dX6_isNews_0 : decode cX6_isNews 0 = .ok (.aload_n 0, 1) := by decide +kernel
theorem dX6_isNews_1 : decode cX6_isNews 1 = .ok (.iload_n 1, 1) := by decide +kernel
theorem dX6_isNews_2 : decode cX6_isNews 2 = .ok (.invokevirtual 101, 3) := by decide +kernel
theorem dX6_isNews_5 : decode cX6_isNews 5 = .ok (.ifCond .ne 7, 3) := by decide +kernel
theorem dX6_isNews_8 : decode cX6_isNews 8 = .ok (.iconst 1, 1) := by decide +kernel
theorem dX6_isNews_9 : decode cX6_isNews 9 = .ok (.goto 4, 3) := by decide +kernel
theorem dX6_isNews_12 : decode cX6_isNews 12 = .ok (.iconst 0, 1) := by decide +kernel
theorem dX6_isNews_13 : decode cX6_isNews 13 = .ok (.istore_n 2, 1) := by decide +kernel
theorem dX6_isNews_14 : decode cX6_isNews 14 = .ok (.iload_n 1, 1) := by decide +kernel
theorem dX6_isNews_15 : decode cX6_isNews 15 = .ok (.iconst 1, 1) := by decide +kernel
theorem dX6_isNews_16 : decode cX6_isNews 16 = .ok (.iadd, 1) := by decide +kernel
theorem dX6_isNews_17 : decode cX6_isNews 17 = .ok (.istore_n 3, 1) := by decide +kernel
theorem dX6_isNews_18 : decode cX6_isNews 18 = .ok (.iload_n 3, 1) := by decide +kernel
theorem dX6_isNews_19 : decode cX6_isNews 19 = .ok (.aload_n 0, 1) := by decide +kernel
theorem dX6_isNews_20 : decode cX6_isNews 20 = .ok (.getfield 80, 3) := by decide +kernel
theorem dX6_isNews_23 : decode cX6_isNews 23 = .ok (.if_icmp .ge 40, 3) := by decide +kernel
theorem dX6_isNews_26 : decode cX6_isNews 26 = .ok (.iload_n 2, 1) := by decide +kernel
theorem dX6_isNews_27 : decode cX6_isNews 27 = .ok (.ifCond .eq 36, 3) := by decide +kernel
theorem dX6_isNews_30 : decode cX6_isNews 30 = .ok (.aload_n 0, 1) := by decide +kernel
theorem dX6_isNews_31 : decode cX6_isNews 31 = .ok (.iload_n 3, 1) := by decide +kernel
theorem dX6_isNews_32 : decode cX6_isNews 32 = .ok (.invokevirtual 101, 3) := by decide +kernel
theorem dX6_isNews_35 : decode cX6_isNews 35 = .ok (.ifCond .ne 16, 3) := by decide +kernel
theorem dX6_isNews_38 : decode cX6_isNews 38 = .ok (.aload_n 0, 1) := by decide +kernel
theorem dX6_isNews_39 : decode cX6_isNews 39 = .ok (.iload_n 3, 1) := by decide +kernel
theorem dX6_isNews_40 : decode cX6_isNews 40 = .ok (.invokevirtual 104, 3) := by decide +kernel
theorem dX6_isNews_43 : decode cX6_isNews 43 = .ok (.aload_n 0, 1) := by decide +kernel
theorem dX6_isNews_44 : decode cX6_isNews 44 = .ok (.iload_n 1, 1) := by decide +kernel
theorem dX6_isNews_45 : decode cX6_isNews 45 = .ok (.invokevirtual 104, 3) := by decide +kernel
theorem dX6_isNews_48 : decode cX6_isNews 48 = .ok (.if_icmp .lt 7, 3) := by decide +kernel
theorem dX6_isNews_51 : decode cX6_isNews 51 = .ok (.iconst 1, 1) := by decide +kernel
theorem dX6_isNews_52 : decode cX6_isNews 52 = .ok (.goto 4, 3) := by decide +kernel
theorem dX6_isNews_55 : decode cX6_isNews 55 = .ok (.iconst 0, 1) := by decide +kernel
theorem dX6_isNews_56 : decode cX6_isNews 56 = .ok (.istore_n 2, 1) := by decide +kernel
theorem dX6_isNews_57 : decode cX6_isNews 57 = .ok (.iinc 3 1, 3) := by decide +kernel
theorem dX6_isNews_60 : decode cX6_isNews 60 = .ok (.goto (-42), 3) := by decide +kernel
theorem dX6_isNews_63 : decode cX6_isNews 63 = .ok (.iload_n 2, 1) := by decide +kernel
theorem dX6_isNews_64 : decode cX6_isNews 64 = .ok (.ireturn, 1) := by decide +kernel
set_option maxRecDepth 20000 in
theorem ggX6_findsNews_X6_isNews : GoodIn wsX6_findsNews wsX6_isNews := goodIn_r _ [9, 2, 10, 11, 12, 8, 13, 14, 15, 16, 17, 18, 19, 20, 21, 22, 23, 24, 25, 26, 27, 28, 29, 30, 31, 32, 33, 34, 35, 36, 37, 38, 39, 40, 41, 42, 43, 44, 45, 46, 47, 48] (by decide +kernel) (by decide +kernel)
set_option maxRecDepth 20000 in
theorem gX6_findsNews_X6_isNews : GoodIn wsX6_findsNews (wsV RX6 110 RX6 yX6_isNews wsX6_isNews) := goodIn_app (goodIn_of _ (by decide +kernel)) ggX6_findsNews_X6_isNews
set_option maxRecDepth 20000 in
theorem ggX6_findsNews_X6_timeOf : GoodIn wsX6_findsNews wsX6_timeOf := goodIn_r _ [20, 16, 14, 10, 11, 12, 8, 13, 15, 21, 22, 23, 24, 25, 26, 27, 28, 29, 30, 31, 32, 33, 34, 35, 36, 37, 38, 39, 40, 41, 42, 43, 44, 45, 46, 47, 48] (by decide +kernel) (by decide +kernel)
set_option maxRecDepth 20000 in
theorem gX6_findsNews_X6_timeOf : GoodIn wsX6_findsNews (wsV RX6 104 RX6 yX6_timeOf wsX6_timeOf) := goodIn_app (goodIn_of _ (by decide +kernel)) ggX6_findsNews_X6_timeOf
theorem dX6_findsNews_0 : decode cX6_findsNews 0 = .ok (.aload_n 0, 1) := by decide +kernel
theorem dX6_findsNews_1 : decode cX6_findsNews 1 = .ok (.iconst 0, 1) := by decide +kernel
theorem dX6_findsNews_2 : decode cX6_findsNews 2 = .ok (.putfield 107, 3) := by decide +kernel
theorem dX6_findsNews_5 : decode cX6_findsNews 5 = .ok (.iconst 0, 1) := by decide +kernel
theorem dX6_findsNews_6 : decode cX6_findsNews 6 = .ok (.istore_n 1, 1) := by decide +kernel
theorem dX6_findsNews_7 : decode cX6_findsNews 7 = .ok (.iload_n 1, 1) := by decide +kernel
theorem dX6_findsNews_8 : decode cX6_findsNews 8 = .ok (.aload_n 0, 1) := by decide +kernel
theorem dX6_findsNews_9 : decode cX6_findsNews 9 = .ok (.getfield 80, 3) := by decide +kernel
theorem dX6_findsNews_12 : decode cX6_findsNews 12 = .ok (.if_icmp .ge 51, 3) := by decide +kernel
theorem dX6_findsNews_15 : decode cX6_findsNews 15 = .ok (.aload_n 0, 1) := by decide +kernel
theorem dX6_findsNews_16 : decode cX6_findsNews 16 = .ok (.iload_n 1, 1) := by decide +kernel
theorem dX6_findsNews_17 : decode cX6_findsNews 17 = .ok (.invokevirtual 110, 3) := by decide +kernel
theorem dX6_findsNews_20 : decode cX6_findsNews 20 = .ok (.ifCond .eq 37, 3) := by decide +kernel
theorem dX6_findsNews_23 : decode cX6_findsNews 23 = .ok (.aload_n 0, 1) := by decide +kernel
theorem dX6_findsNews_24 : decode cX6_findsNews 24 = .ok (.getfield 23, 3) := by decide +kernel
theorem dX6_findsNews_27 : decode cX6_findsNews 27 = .ok (.aload_n 0, 1) := by decide +kernel
theorem dX6_findsNews_28 : decode cX6_findsNews 28 = .ok (.getfield 107, 3) := by decide +kernel
theorem dX6_findsNews_31 : decode cX6_findsNews 31 = .ok (.iload_n 1, 1) := by decide +kernel
theorem dX6_findsNews_32 : decode cX6_findsNews 32 = .ok (.iastore, 1) := by decide +kernel
theorem dX6_findsNews_33 : decode cX6_findsNews 33 = .ok (.aload_n 0, 1) := by decide +kernel
theorem dX6_findsNews_34 : decode cX6_findsNews 34 = .ok (.getfield 26, 3) := by decide +kernel
theorem dX6_findsNews_37 : decode cX6_findsNews 37 = .ok (.aload_n 0, 1) := by decide +kernel
theorem dX6_findsNews_38 : decode cX6_findsNews 38 = .ok (.getfield 107, 3) := by decide +kernel
theorem dX6_findsNews_41 : decode cX6_findsNews 41 = .ok (.aload_n 0, 1) := by decide +kernel
theorem dX6_findsNews_42 : decode cX6_findsNews 42 = .ok (.iload_n 1, 1) := by decide +kernel
theorem dX6_findsNews_43 : decode cX6_findsNews 43 = .ok (.invokevirtual 104, 3) := by decide +kernel
theorem dX6_findsNews_46 : decode cX6_findsNews 46 = .ok (.iastore, 1) := by decide +kernel
theorem dX6_findsNews_47 : decode cX6_findsNews 47 = .ok (.aload_n 0, 1) := by decide +kernel
theorem dX6_findsNews_48 : decode cX6_findsNews 48 = .ok (.dup, 1) := by decide +kernel
theorem dX6_findsNews_49 : decode cX6_findsNews 49 = .ok (.getfield 107, 3) := by decide +kernel
theorem dX6_findsNews_52 : decode cX6_findsNews 52 = .ok (.iconst 1, 1) := by decide +kernel
theorem dX6_findsNews_53 : decode cX6_findsNews 53 = .ok (.iadd, 1) := by decide +kernel
theorem dX6_findsNews_54 : decode cX6_findsNews 54 = .ok (.putfield 107, 3) := by decide +kernel
theorem dX6_findsNews_57 : decode cX6_findsNews 57 = .ok (.iinc 1 1, 3) := by decide +kernel
theorem dX6_findsNews_60 : decode cX6_findsNews 60 = .ok (.goto (-53), 3) := by decide +kernel
theorem dX6_findsNews_63 : decode cX6_findsNews 63 = .ok (.return_, 1) := by decide +kernel
set_option maxRecDepth 20000 in
theorem ggX6_cameOf_X6_findsNews : GoodIn wsX6_cameOf wsX6_findsNews := goodIn_r _ [8, 1, 9, 2, 10, 11, 12, 13, 7, 14, 15, 16, 17, 18, 3, 19, 20, 21, 22, 23, 24, 25, 26, 27, 28, 29, 30, 31, 32, 33, 34, 35, 36, 37, 38, 39, 40, 41, 42, 43, 44, 45, 46, 47, 48, 49, 50, 51, 52] (by decide +kernel) (by decide +kernel)
set_option maxRecDepth 20000 in
theorem gX6_cameOf_X6_findsNews : GoodIn wsX6_cameOf (wsV RX6 113 RX6 yX6_findsNews wsX6_findsNews) := goodIn_app (goodIn_of _ (by decide +kernel)) ggX6_cameOf_X6_findsNews
set_option maxRecDepth 20000 in
theorem ggX6_cameOf_X6_isLost : GoodIn wsX6_cameOf wsX6_isLost := goodIn_r _ [18, 3, 19, 20, 25, 26, 27, 28, 29, 30, 31, 32, 33, 34, 35, 36, 37, 38, 39, 40, 41, 42, 43, 44, 45, 46, 47, 48, 49, 50, 51, 52] (by decide +kernel) (by decide +kernel)
set_option maxRecDepth 20000 in
theorem gX6_cameOf_X6_isLost : GoodIn wsX6_cameOf (wsV RX6 101 RX6 yX6_isLost wsX6_isLost) := goodIn_app (goodIn_of _ (by decide +kernel)) ggX6_cameOf_X6_isLost
set_option maxRecDepth 20000 in
theorem ggX6_cameOf_X6_timeOf : GoodIn wsX6_cameOf wsX6_timeOf := goodIn_r _ [24, 20, 3, 15, 16, 17, 7, 18, 19, 25, 26, 27, 28, 29, 30, 31, 32, 33, 34, 35, 36, 37, 38, 39, 40, 41, 42, 43, 44, 45, 46, 47, 48, 49, 50, 51, 52] (by decide +kernel) (by decide +kernel)
set_option maxRecDepth 20000 in
theorem gX6_cameOf_X6_timeOf : GoodIn wsX6_cameOf (wsV RX6 104 RX6 yX6_timeOf wsX6_timeOf) := goodIn_app (goodIn_of _ (by decide +kernel)) ggX6_cameOf_X6_timeOf
theorem dX6_cameOf_0 : decode cX6_cameOf 0 = .ok (.aload_n 0, 1) := by decide +kernel
theorem dX6_cameOf_1 : decode cX6_cameOf 1 = .ok (.invokevirtual 113, 3) := by decide +kernel
theorem dX6_cameOf_4 : decode cX6_cameOf 4 = .ok (.iconst (-1), 1) := by decide +kernel
theorem dX6_cameOf_5 : decode cX6_cameOf 5 = .ok (.istore_n 3, 1) := by decide +kernel
theorem dX6_cameOf_6 : decode cX6_cameOf 6 = .ok (.iconst 0, 1) := by decide +kernel
theorem dX6_cameOf_7 : decode cX6_cameOf 7 = .ok (.istore 4, 2) := by decide +kernel
theorem dX6_cameOf_9 : decode cX6_cameOf 9 = .ok (.iload 4, 2) := by decide +kernel
theorem dX6_cameOf_11 : decode cX6_cameOf 11 = .ok (.aload_n 0, 1) := by decide +kernel
theorem dX6_cameOf_12 : decode cX6_cameOf 12 = .ok (.getfield 107, 3) := by decide +kernel
theorem dX6_cameOf_15 : decode cX6_cameOf 15 = .ok (.if_icmp .ge 27, 3) := by decide +kernel
theorem dX6_cameOf_18 : decode cX6_cameOf 18 = .ok (.aload_n 0, 1) := by decide +kernel
theorem dX6_cameOf_19 : decode cX6_cameOf 19 = .ok (.getfield 23, 3) := by decide +kernel
theorem dX6_cameOf_22 : decode cX6_cameOf 22 = .ok (.iload 4, 2) := by decide +kernel
theorem dX6_cameOf_24 : decode cX6_cameOf 24 = .ok (.iaload, 1) := by decide +kernel
theorem dX6_cameOf_25 : decode cX6_cameOf 25 = .ok (.iload_n 1, 1) := by decide +kernel
theorem dX6_cameOf_26 : decode cX6_cameOf 26 = .ok (.if_icmp .ne 8, 3) := by decide +kernel
theorem dX6_cameOf_29 : decode cX6_cameOf 29 = .ok (.iload 4, 2) := by decide +kernel
theorem dX6_cameOf_31 : decode cX6_cameOf 31 = .ok (.goto 4, 3) := by decide +kernel
theorem dX6_cameOf_34 : decode cX6_cameOf 34 = .ok (.iload_n 3, 1) := by decide +kernel
theorem dX6_cameOf_35 : decode cX6_cameOf 35 = .ok (.istore_n 3, 1) := by decide +kernel
theorem dX6_cameOf_36 : decode cX6_cameOf 36 = .ok (.iinc 4 1, 3) := by decide +kernel
theorem dX6_cameOf_39 : decode cX6_cameOf 39 = .ok (.goto (-30), 3) := by decide +kernel
theorem dX6_cameOf_42 : decode cX6_cameOf 42 = .ok (.iload_n 2, 1) := by decide +kernel
theorem dX6_cameOf_43 : decode cX6_cameOf 43 = .ok (.ifCond .ne 24, 3) := by decide +kernel
theorem dX6_cameOf_46 : decode cX6_cameOf 46 = .ok (.aload_n 0, 1) := by decide +kernel
theorem dX6_cameOf_47 : decode cX6_cameOf 47 = .ok (.iload_n 1, 1) := by decide +kernel
theorem dX6_cameOf_48 : decode cX6_cameOf 48 = .ok (.invokevirtual 101, 3) := by decide +kernel
theorem dX6_cameOf_51 : decode cX6_cameOf 51 = .ok (.ifCond .eq 7, 3) := by decide +kernel
theorem dX6_cameOf_54 : decode cX6_cameOf 54 = .ok (.iconst (-1), 1) := by decide +kernel
theorem dX6_cameOf_55 : decode cX6_cameOf 55 = .ok (.goto 26, 3) := by decide +kernel
theorem dX6_cameOf_58 : decode cX6_cameOf 58 = .ok (.aload_n 0, 1) := by decide +kernel
theorem dX6_cameOf_59 : decode cX6_cameOf 59 = .ok (.getfield 7, 3) := by decide +kernel
theorem dX6_cameOf_62 : decode cX6_cameOf 62 = .ok (.iload_n 1, 1) := by decide +kernel
theorem dX6_cameOf_63 : decode cX6_cameOf 63 = .ok (.iaload, 1) := by decide +kernel
theorem dX6_cameOf_64 : decode cX6_cameOf 64 = .ok (.goto 17, 3) := by decide +kernel
theorem dX6_cameOf_67 : decode cX6_cameOf 67 = .ok (.iload_n 2, 1) := by decide +kernel
theorem dX6_cameOf_68 : decode cX6_cameOf 68 = .ok (.iconst 1, 1) := by decide +kernel
theorem dX6_cameOf_69 : decode cX6_cameOf 69 = .ok (.if_icmp .ne 11, 3) := by decide +kernel
theorem dX6_cameOf_72 : decode cX6_cameOf 72 = .ok (.aload_n 0, 1) := by decide +kernel
theorem dX6_cameOf_73 : decode cX6_cameOf 73 = .ok (.iload_n 1, 1) := by decide +kernel
theorem dX6_cameOf_74 : decode cX6_cameOf 74 = .ok (.invokevirtual 104, 3) := by decide +kernel
theorem dX6_cameOf_77 : decode cX6_cameOf 77 = .ok (.goto 4, 3) := by decide +kernel
theorem dX6_cameOf_80 : decode cX6_cameOf 80 = .ok (.iload_n 3, 1) := by decide +kernel
theorem dX6_cameOf_81 : decode cX6_cameOf 81 = .ok (.ireturn, 1) := by decide +kernel
set_option maxRecDepth 20000 in
theorem ggX6_came_X6_isBeat : GoodIn wsX6_came wsX6_isBeat := goodIn_r _ [5, 6, 7, 8, 4, 9, 36, 37, 38, 39, 40, 41, 42, 43, 44, 45, 46, 47, 48, 49, 50, 51, 52, 53, 54, 55, 56, 57, 58, 59, 60, 61, 62, 63] (by decide +kernel) (by decide +kernel)
set_option maxRecDepth 20000 in
theorem gX6_came_X6_isBeat : GoodIn wsX6_came (wsV RX6 87 RX6 yX6_isBeat wsX6_isBeat) := goodIn_app (goodIn_of _ (by decide +kernel)) ggX6_came_X6_isBeat
set_option maxRecDepth 20000 in
theorem ggX6_came_X6_in : GoodIn wsX6_came wsX6_in := goodIn_r _ [9] (by decide +kernel) (by decide +kernel)
set_option maxRecDepth 20000 in
theorem gX6_came_X6_in : GoodIn wsX6_came (va_wsS RX6 76 yX6_in wsX6_in) := goodIn_app (goodIn_of _ (by decide +kernel)) ggX6_came_X6_in
set_option maxRecDepth 20000 in
theorem ggX6_came_X6_cameOf : GoodIn wsX6_came wsX6_cameOf := goodIn_r _ [13, 14, 15, 16, 17, 18, 19, 4, 20, 6, 21, 22, 23, 24, 25, 26, 27, 28, 29, 30, 31, 32, 33, 34, 35, 36, 37, 38, 39, 40, 41, 42, 43, 44, 45, 46, 47, 48, 49, 50, 51, 52, 53, 54, 55, 56, 57, 58, 59, 60, 61, 62, 63] (by decide +kernel) (by decide +kernel)
set_option maxRecDepth 20000 in
theorem gX6_came_X6_cameOf : GoodIn wsX6_came (wsV RX6 116 RX6 yX6_cameOf wsX6_cameOf) := goodIn_app (goodIn_of _ (by decide +kernel)) ggX6_came_X6_cameOf
theorem dX6_came_0 : decode cX6_came 0 = .ok (.aload_n 0, 1) := by decide +kernel
theorem dX6_came_1 : decode cX6_came 1 = .ok (.iload_n 1, 1) := by decide +kernel
theorem dX6_came_2 : decode cX6_came 2 = .ok (.invokevirtual 87, 3) := by decide +kernel
theorem dX6_came_5 : decode cX6_came 5 = .ok (.ifCond .eq 21, 3) := by decide +kernel
theorem dX6_came_8 : decode cX6_came 8 = .ok (.iload_n 2, 1) := by decide +kernel
theorem dX6_came_9 : decode cX6_came 9 = .ok (.iconst 0, 1) := by decide +kernel
theorem dX6_came_10 : decode cX6_came 10 = .ok (.iconst 2, 1) := by decide +kernel
theorem dX6_came_11 : decode cX6_came 11 = .ok (.invokestatic 76, 3) := by decide +kernel
theorem dX6_came_14 : decode cX6_came 14 = .ok (.ifCond .eq 12, 3) := by decide +kernel
theorem dX6_came_17 : decode cX6_came 17 = .ok (.aload_n 0, 1) := by decide +kernel
theorem dX6_came_18 : decode cX6_came 18 = .ok (.iload_n 1, 1) := by decide +kernel
theorem dX6_came_19 : decode cX6_came 19 = .ok (.iload_n 2, 1) := by decide +kernel
theorem dX6_came_20 : decode cX6_came 20 = .ok (.invokevirtual 116, 3) := by decide +kernel
theorem dX6_came_23 : decode cX6_came 23 = .ok (.goto 5, 3) := by decide +kernel
theorem dX6_came_26 : decode cX6_came 26 = .ok (.bipush (-2), 2) := by decide +kernel
theorem dX6_came_28 : decode cX6_came 28 = .ok (.ireturn, 1) := by decide +kernel
theorem dX6_gapsBy_0 : decode cX6_gapsBy 0 = .ok (.iload_n 1, 1) := by decide +kernel
theorem dX6_gapsBy_1 : decode cX6_gapsBy 1 = .ok (.aload_n 0, 1) := by decide +kernel
theorem dX6_gapsBy_2 : decode cX6_gapsBy 2 = .ok (.getfield 17, 3) := by decide +kernel
theorem dX6_gapsBy_5 : decode cX6_gapsBy 5 = .ok (.if_icmp .ge 7, 3) := by decide +kernel
theorem dX6_gapsBy_8 : decode cX6_gapsBy 8 = .ok (.iload_n 1, 1) := by decide +kernel
theorem dX6_gapsBy_9 : decode cX6_gapsBy 9 = .ok (.goto 7, 3) := by decide +kernel
theorem dX6_gapsBy_12 : decode cX6_gapsBy 12 = .ok (.aload_n 0, 1) := by decide +kernel
theorem dX6_gapsBy_13 : decode cX6_gapsBy 13 = .ok (.getfield 17, 3) := by decide +kernel
theorem dX6_gapsBy_16 : decode cX6_gapsBy 16 = .ok (.ireturn, 1) := by decide +kernel
theorem dX6_gapAt_0 : decode cX6_gapAt 0 = .ok (.aload_n 0, 1) := by decide +kernel
theorem dX6_gapAt_1 : decode cX6_gapAt 1 = .ok (.getfield 26, 3) := by decide +kernel
theorem dX6_gapAt_4 : decode cX6_gapAt 4 = .ok (.iload_n 1, 1) := by decide +kernel
theorem dX6_gapAt_5 : decode cX6_gapAt 5 = .ok (.iload_n 2, 1) := by decide +kernel
theorem dX6_gapAt_6 : decode cX6_gapAt 6 = .ok (.isub, 1) := by decide +kernel
theorem dX6_gapAt_7 : decode cX6_gapAt 7 = .ok (.iaload, 1) := by decide +kernel
theorem dX6_gapAt_8 : decode cX6_gapAt 8 = .ok (.aload_n 0, 1) := by decide +kernel
theorem dX6_gapAt_9 : decode cX6_gapAt 9 = .ok (.getfield 26, 3) := by decide +kernel
theorem dX6_gapAt_12 : decode cX6_gapAt 12 = .ok (.iload_n 1, 1) := by decide +kernel
theorem dX6_gapAt_13 : decode cX6_gapAt 13 = .ok (.iload_n 2, 1) := by decide +kernel
theorem dX6_gapAt_14 : decode cX6_gapAt 14 = .ok (.isub, 1) := by decide +kernel
theorem dX6_gapAt_15 : decode cX6_gapAt 15 = .ok (.iconst 1, 1) := by decide +kernel
theorem dX6_gapAt_16 : decode cX6_gapAt 16 = .ok (.isub, 1) := by decide +kernel
theorem dX6_gapAt_17 : decode cX6_gapAt 17 = .ok (.iaload, 1) := by decide +kernel
theorem dX6_gapAt_18 : decode cX6_gapAt 18 = .ok (.isub, 1) := by decide +kernel
theorem dX6_gapAt_19 : decode cX6_gapAt 19 = .ok (.ireturn, 1) := by decide +kernel
set_option maxRecDepth 20000 in
theorem ggX6_newsOf_X6_gapsBy : GoodIn wsX6_newsOf wsX6_gapsBy := goodIn_r _ [7, 8, 9, 10, 11, 12, 13, 14, 15, 16, 17, 18, 19, 20, 21, 22, 23, 24, 25, 26, 27, 28, 29, 30, 31, 32, 33, 34, 35, 36] (by decide +kernel) (by decide +kernel)
set_option maxRecDepth 20000 in
theorem gX6_newsOf_X6_gapsBy : GoodIn wsX6_newsOf (wsV RX6 120 RX6 yX6_gapsBy wsX6_gapsBy) := goodIn_app (goodIn_of _ (by decide +kernel)) ggX6_newsOf_X6_gapsBy
theorem dX6_newsOf_0 : decode cX6_newsOf 0 = .ok (.iload_n 2, 1) := by decide +kernel
theorem dX6_newsOf_1 : decode cX6_newsOf 1 = .ok (.ifCond .ne 12, 3) := by decide +kernel
theorem dX6_newsOf_4 : decode cX6_newsOf 4 = .ok (.aload_n 0, 1) := by decide +kernel
theorem dX6_newsOf_5 : decode cX6_newsOf 5 = .ok (.getfield 23, 3) := by decide +kernel
theorem dX6_newsOf_8 : decode cX6_newsOf 8 = .ok (.iload_n 1, 1) := by decide +kernel
theorem dX6_newsOf_9 : decode cX6_newsOf 9 = .ok (.iaload, 1) := by decide +kernel
theorem dX6_newsOf_10 : decode cX6_newsOf 10 = .ok (.goto 22, 3) := by decide +kernel
theorem dX6_newsOf_13 : decode cX6_newsOf 13 = .ok (.iload_n 2, 1) := by decide +kernel
theorem dX6_newsOf_14 : decode cX6_newsOf 14 = .ok (.iconst 1, 1) := by decide +kernel
theorem dX6_newsOf_15 : decode cX6_newsOf 15 = .ok (.if_icmp .ne 12, 3) := by decide +kernel
theorem dX6_newsOf_18 : decode cX6_newsOf 18 = .ok (.aload_n 0, 1) := by decide +kernel
theorem dX6_newsOf_19 : decode cX6_newsOf 19 = .ok (.getfield 26, 3) := by decide +kernel
theorem dX6_newsOf_22 : decode cX6_newsOf 22 = .ok (.iload_n 1, 1) := by decide +kernel
theorem dX6_newsOf_23 : decode cX6_newsOf 23 = .ok (.iaload, 1) := by decide +kernel
theorem dX6_newsOf_24 : decode cX6_newsOf 24 = .ok (.goto 8, 3) := by decide +kernel
theorem dX6_newsOf_27 : decode cX6_newsOf 27 = .ok (.aload_n 0, 1) := by decide +kernel
theorem dX6_newsOf_28 : decode cX6_newsOf 28 = .ok (.iload_n 1, 1) := by decide +kernel
theorem dX6_newsOf_29 : decode cX6_newsOf 29 = .ok (.invokevirtual 120, 3) := by decide +kernel
theorem dX6_newsOf_32 : decode cX6_newsOf 32 = .ok (.ireturn, 1) := by decide +kernel
set_option maxRecDepth 20000 in
theorem ggX6_hasNews_X6_findsNews : GoodIn wsX6_hasNews wsX6_findsNews := goodIn_r _ [6, 1, 7, 8, 9, 10, 11, 12, 5, 13, 14, 15, 16, 17, 18, 19, 20, 21, 22, 23, 24, 28, 29, 30, 31, 32, 33, 34, 35, 36, 37, 38, 39, 40, 41, 42, 43, 44, 45, 46, 47, 48, 49, 50, 51, 52, 53, 54, 55] (by decide +kernel) (by decide +kernel)
set_option maxRecDepth 20000 in
theorem gX6_hasNews_X6_findsNews : GoodIn wsX6_hasNews (wsV RX6 113 RX6 yX6_findsNews wsX6_findsNews) := goodIn_app (goodIn_of _ (by decide +kernel)) ggX6_hasNews_X6_findsNews
set_option maxRecDepth 20000 in
theorem ggX6_hasNews_X6_in : GoodIn wsX6_hasNews wsX6_in := goodIn_r _ [27] (by decide +kernel) (by decide +kernel)
set_option maxRecDepth 20000 in
theorem gX6_hasNews_X6_in : GoodIn wsX6_hasNews (va_wsS RX6 76 yX6_in wsX6_in) := goodIn_app (goodIn_of _ (by decide +kernel)) ggX6_hasNews_X6_in
theorem dX6_hasNews_0 : decode cX6_hasNews 0 = .ok (.aload_n 0, 1) := by decide +kernel
theorem dX6_hasNews_1 : decode cX6_hasNews 1 = .ok (.invokevirtual 113, 3) := by decide +kernel
theorem dX6_hasNews_4 : decode cX6_hasNews 4 = .ok (.iload_n 1, 1) := by decide +kernel
theorem dX6_hasNews_5 : decode cX6_hasNews 5 = .ok (.iconst 0, 1) := by decide +kernel
theorem dX6_hasNews_6 : decode cX6_hasNews 6 = .ok (.aload_n 0, 1) := by decide +kernel
theorem dX6_hasNews_7 : decode cX6_hasNews 7 = .ok (.getfield 107, 3) := by decide +kernel
theorem dX6_hasNews_10 : decode cX6_hasNews 10 = .ok (.iconst 1, 1) := by decide +kernel
theorem dX6_hasNews_11 : decode cX6_hasNews 11 = .ok (.isub, 1) := by decide +kernel
theorem dX6_hasNews_12 : decode cX6_hasNews 12 = .ok (.invokestatic 76, 3) := by decide +kernel
theorem dX6_hasNews_15 : decode cX6_hasNews 15 = .ok (.ireturn, 1) := by decide +kernel
set_option maxRecDepth 20000 in
theorem ggX6_news_X6_hasNews : GoodIn wsX6_news wsX6_hasNews := goodIn_r _ [5, 6, 7, 8, 9, 4, 10, 11, 12, 13, 14, 15, 16, 17, 18, 19, 20, 21, 22, 23, 24, 25, 26, 27, 28, 29, 30, 31, 41, 42, 43, 44, 45, 46, 47, 48, 49, 50, 51, 52, 53, 54, 55, 56, 57, 58, 59, 60, 61, 62, 63, 64, 65, 66, 67, 68] (by decide +kernel) (by decide +kernel)
set_option maxRecDepth 20000 in
theorem gX6_news_X6_hasNews : GoodIn wsX6_news (wsV RX6 123 RX6 yX6_hasNews wsX6_hasNews) := goodIn_app (goodIn_of _ (by decide +kernel)) ggX6_news_X6_hasNews
set_option maxRecDepth 20000 in
theorem ggX6_news_X6_in : GoodIn wsX6_news wsX6_in := goodIn_r _ [31] (by decide +kernel) (by decide +kernel)
set_option maxRecDepth 20000 in
theorem gX6_news_X6_in : GoodIn wsX6_news (va_wsS RX6 76 yX6_in wsX6_in) := goodIn_app (goodIn_of _ (by decide +kernel)) ggX6_news_X6_in
set_option maxRecDepth 20000 in
theorem ggX6_news_X6_newsOf : GoodIn wsX6_news wsX6_newsOf := goodIn_r _ [35, 12, 13, 36, 37, 38, 4, 39, 40, 41, 42, 43, 44, 45, 46, 47, 48, 49, 50, 51, 52, 53, 54, 55, 56, 57, 58, 59, 60, 61, 62, 63, 64, 65, 66, 67, 68] (by decide +kernel) (by decide +kernel)
set_option maxRecDepth 20000 in
theorem gX6_news_X6_newsOf : GoodIn wsX6_news (wsV RX6 126 RX6 yX6_newsOf wsX6_newsOf) := goodIn_app (goodIn_of _ (by decide +kernel)) ggX6_news_X6_newsOf
theorem dX6_news_0 : decode cX6_news 0 = .ok (.aload_n 0, 1) := by decide +kernel
theorem dX6_news_1 : decode cX6_news 1 = .ok (.iload_n 1, 1) := by decide +kernel
theorem dX6_news_2 : decode cX6_news 2 = .ok (.invokevirtual 123, 3) := by decide +kernel
theorem dX6_news_5 : decode cX6_news 5 = .ok (.ifCond .eq 21, 3) := by decide +kernel
theorem dX6_news_8 : decode cX6_news 8 = .ok (.iload_n 2, 1) := by decide +kernel
theorem dX6_news_9 : decode cX6_news 9 = .ok (.iconst 0, 1) := by decide +kernel
theorem dX6_news_10 : decode cX6_news 10 = .ok (.iconst 2, 1) := by decide +kernel
theorem dX6_news_11 : decode cX6_news 11 = .ok (.invokestatic 76, 3) := by decide +kernel
theorem dX6_news_14 : decode cX6_news 14 = .ok (.ifCond .eq 12, 3) := by decide +kernel
theorem dX6_news_17 : decode cX6_news 17 = .ok (.aload_n 0, 1) := by decide +kernel
theorem dX6_news_18 : decode cX6_news 18 = .ok (.iload_n 1, 1) := by decide +kernel
theorem dX6_news_19 : decode cX6_news 19 = .ok (.iload_n 2, 1) := by decide +kernel
theorem dX6_news_20 : decode cX6_news 20 = .ok (.invokevirtual 126, 3) := by decide +kernel
theorem dX6_news_23 : decode cX6_news 23 = .ok (.goto 5, 3) := by decide +kernel
theorem dX6_news_26 : decode cX6_news 26 = .ok (.bipush (-2), 2) := by decide +kernel
theorem dX6_news_28 : decode cX6_news 28 = .ok (.ireturn, 1) := by decide +kernel
theorem dX6_belowBy_0 : decode cX6_belowBy 0 = .ok (.iload_n 1, 1) := by decide +kernel
theorem dX6_belowBy_1 : decode cX6_belowBy 1 = .ok (.iconst 1, 1) := by decide +kernel
theorem dX6_belowBy_2 : decode cX6_belowBy 2 = .ok (.iadd, 1) := by decide +kernel
theorem dX6_belowBy_3 : decode cX6_belowBy 3 = .ok (.aload_n 0, 1) := by decide +kernel
theorem dX6_belowBy_4 : decode cX6_belowBy 4 = .ok (.getfield 17, 3) := by decide +kernel
theorem dX6_belowBy_7 : decode cX6_belowBy 7 = .ok (.if_icmp .ge 9, 3) := by decide +kernel
theorem dX6_belowBy_10 : decode cX6_belowBy 10 = .ok (.iload_n 1, 1) := by decide +kernel
theorem dX6_belowBy_11 : decode cX6_belowBy 11 = .ok (.iconst 1, 1) := by decide +kernel
theorem dX6_belowBy_12 : decode cX6_belowBy 12 = .ok (.iadd, 1) := by decide +kernel
theorem dX6_belowBy_13 : decode cX6_belowBy 13 = .ok (.goto 7, 3) := by decide +kernel
theorem dX6_belowBy_16 : decode cX6_belowBy 16 = .ok (.aload_n 0, 1) := by decide +kernel
theorem dX6_belowBy_17 : decode cX6_belowBy 17 = .ok (.getfield 17, 3) := by decide +kernel
theorem dX6_belowBy_20 : decode cX6_belowBy 20 = .ok (.ireturn, 1) := by decide +kernel
set_option maxRecDepth 20000 in
theorem ggX6_aboveBy_X6_belowBy : GoodIn wsX6_aboveBy wsX6_belowBy := goodIn_r _ [8, 9, 10, 11, 12, 13, 14, 15, 16, 17, 18, 19, 20, 21, 22, 23, 24, 25, 26, 27, 28, 29, 30, 31, 32, 33, 34, 35, 36, 37] (by decide +kernel) (by decide +kernel)
set_option maxRecDepth 20000 in
theorem gX6_aboveBy_X6_belowBy : GoodIn wsX6_aboveBy (wsV RX6 129 RX6 yX6_belowBy wsX6_belowBy) := goodIn_app (goodIn_of _ (by decide +kernel)) ggX6_aboveBy_X6_belowBy
theorem dX6_aboveBy_0 : decode cX6_aboveBy 0 = .ok (.aload_n 0, 1) := by decide +kernel
theorem dX6_aboveBy_1 : decode cX6_aboveBy 1 = .ok (.iload_n 1, 1) := by decide +kernel
theorem dX6_aboveBy_2 : decode cX6_aboveBy 2 = .ok (.invokevirtual 129, 3) := by decide +kernel
theorem dX6_aboveBy_5 : decode cX6_aboveBy 5 = .ok (.istore_n 2, 1) := by decide +kernel
theorem dX6_aboveBy_6 : decode cX6_aboveBy 6 = .ok (.iload_n 2, 1) := by decide +kernel
theorem dX6_aboveBy_7 : decode cX6_aboveBy 7 = .ok (.aload_n 0, 1) := by decide +kernel
theorem dX6_aboveBy_8 : decode cX6_aboveBy 8 = .ok (.getfield 13, 3) := by decide +kernel
theorem dX6_aboveBy_11 : decode cX6_aboveBy 11 = .ok (.imul, 1) := by decide +kernel
theorem dX6_aboveBy_12 : decode cX6_aboveBy 12 = .ok (.aload_n 0, 1) := by decide +kernel
theorem dX6_aboveBy_13 : decode cX6_aboveBy 13 = .ok (.getfield 23, 3) := by decide +kernel
theorem dX6_aboveBy_16 : decode cX6_aboveBy 16 = .ok (.iload_n 1, 1) := by decide +kernel
theorem dX6_aboveBy_17 : decode cX6_aboveBy 17 = .ok (.iaload, 1) := by decide +kernel
theorem dX6_aboveBy_18 : decode cX6_aboveBy 18 = .ok (.iconst 1, 1) := by decide +kernel
theorem dX6_aboveBy_19 : decode cX6_aboveBy 19 = .ok (.iadd, 1) := by decide +kernel
theorem dX6_aboveBy_20 : decode cX6_aboveBy 20 = .ok (.imul, 1) := by decide +kernel
theorem dX6_aboveBy_21 : decode cX6_aboveBy 21 = .ok (.istore_n 3, 1) := by decide +kernel
theorem dX6_aboveBy_22 : decode cX6_aboveBy 22 = .ok (.iconst 0, 1) := by decide +kernel
theorem dX6_aboveBy_23 : decode cX6_aboveBy 23 = .ok (.istore 4, 2) := by decide +kernel
theorem dX6_aboveBy_25 : decode cX6_aboveBy 25 = .ok (.iload 4, 2) := by decide +kernel
theorem dX6_aboveBy_27 : decode cX6_aboveBy 27 = .ok (.iload_n 2, 1) := by decide +kernel
theorem dX6_aboveBy_28 : decode cX6_aboveBy 28 = .ok (.if_icmp .ge 36, 3) := by decide +kernel
theorem dX6_aboveBy_31 : decode cX6_aboveBy 31 = .ok (.iload_n 3, 1) := by decide +kernel
theorem dX6_aboveBy_32 : decode cX6_aboveBy 32 = .ok (.aload_n 0, 1) := by decide +kernel
theorem dX6_aboveBy_33 : decode cX6_aboveBy 33 = .ok (.getfield 26, 3) := by decide +kernel
theorem dX6_aboveBy_36 : decode cX6_aboveBy 36 = .ok (.iload_n 1, 1) := by decide +kernel
theorem dX6_aboveBy_37 : decode cX6_aboveBy 37 = .ok (.iload 4, 2) := by decide +kernel
theorem dX6_aboveBy_39 : decode cX6_aboveBy 39 = .ok (.isub, 1) := by decide +kernel
theorem dX6_aboveBy_40 : decode cX6_aboveBy 40 = .ok (.iaload, 1) := by decide +kernel
theorem dX6_aboveBy_41 : decode cX6_aboveBy 41 = .ok (.aload_n 0, 1) := by decide +kernel
theorem dX6_aboveBy_42 : decode cX6_aboveBy 42 = .ok (.getfield 13, 3) := by decide +kernel
theorem dX6_aboveBy_45 : decode cX6_aboveBy 45 = .ok (.aload_n 0, 1) := by decide +kernel
theorem dX6_aboveBy_46 : decode cX6_aboveBy 46 = .ok (.getfield 23, 3) := by decide +kernel
theorem dX6_aboveBy_49 : decode cX6_aboveBy 49 = .ok (.iload_n 1, 1) := by decide +kernel
theorem dX6_aboveBy_50 : decode cX6_aboveBy 50 = .ok (.iload 4, 2) := by decide +kernel
theorem dX6_aboveBy_52 : decode cX6_aboveBy 52 = .ok (.isub, 1) := by decide +kernel
theorem dX6_aboveBy_53 : decode cX6_aboveBy 53 = .ok (.iaload, 1) := by decide +kernel
theorem dX6_aboveBy_54 : decode cX6_aboveBy 54 = .ok (.imul, 1) := by decide +kernel
theorem dX6_aboveBy_55 : decode cX6_aboveBy 55 = .ok (.isub, 1) := by decide +kernel
theorem dX6_aboveBy_56 : decode cX6_aboveBy 56 = .ok (.iadd, 1) := by decide +kernel
theorem dX6_aboveBy_57 : decode cX6_aboveBy 57 = .ok (.istore_n 3, 1) := by decide +kernel
theorem dX6_aboveBy_58 : decode cX6_aboveBy 58 = .ok (.iinc 4 1, 3) := by decide +kernel
theorem dX6_aboveBy_61 : decode cX6_aboveBy 61 = .ok (.goto (-36), 3) := by decide +kernel
theorem dX6_aboveBy_64 : decode cX6_aboveBy 64 = .ok (.iload_n 3, 1) := by decide +kernel
theorem dX6_aboveBy_65 : decode cX6_aboveBy 65 = .ok (.ireturn, 1) := by decide +kernel
set_option maxRecDepth 20000 in
theorem ggX6_expected_X6_hasNews : GoodIn wsX6_expected wsX6_hasNews := goodIn_r _ [5, 6, 7, 8, 9, 4, 10, 11, 12, 13, 14, 15, 16, 17, 18, 19, 20, 21, 22, 23, 24, 25, 26, 27, 28, 29, 30, 31, 48, 49, 50, 51, 52, 53, 54, 55, 56, 57, 58, 59, 60, 61, 62, 63, 64, 65, 66, 67, 68, 69, 70, 71, 72, 73, 74, 75] (by decide +kernel) (by decide +kernel)
set_option maxRecDepth 20000 in
theorem gX6_expected_X6_hasNews : GoodIn wsX6_expected (wsV RX6 123 RX6 yX6_hasNews wsX6_hasNews) := goodIn_app (goodIn_of _ (by decide +kernel)) ggX6_expected_X6_hasNews
set_option maxRecDepth 20000 in
theorem ggX6_expected_X6_in : GoodIn wsX6_expected wsX6_in := goodIn_r _ [31] (by decide +kernel) (by decide +kernel)
set_option maxRecDepth 20000 in
theorem gX6_expected_X6_in : GoodIn wsX6_expected (va_wsS RX6 76 yX6_in wsX6_in) := goodIn_app (goodIn_of _ (by decide +kernel)) ggX6_expected_X6_in
set_option maxRecDepth 20000 in
theorem ggX6_expected_X6_aboveBy : GoodIn wsX6_expected wsX6_aboveBy := goodIn_r _ [35, 24, 12, 13, 36, 37, 38, 4, 39, 40, 48, 49, 50, 51, 52, 53, 54, 55, 56, 57, 58, 59, 60, 61, 62, 63, 64, 65, 66, 67, 68, 69, 70, 71, 72, 73, 74, 75] (by decide +kernel) (by decide +kernel)
set_option maxRecDepth 20000 in
theorem gX6_expected_X6_aboveBy : GoodIn wsX6_expected (wsV RX6 132 RX6 yX6_aboveBy wsX6_aboveBy) := goodIn_app (goodIn_of _ (by decide +kernel)) ggX6_expected_X6_aboveBy
set_option maxRecDepth 20000 in
theorem ggX6_expected_X6_belowBy : GoodIn wsX6_expected wsX6_belowBy := goodIn_r _ [39, 40, 48, 49, 50, 51, 52, 53, 54, 55, 56, 57, 58, 59, 60, 61, 62, 63, 64, 65, 66, 67, 68, 69, 70, 71, 72, 73, 74, 75] (by decide +kernel) (by decide +kernel)
set_option maxRecDepth 20000 in
theorem gX6_expected_X6_belowBy : GoodIn wsX6_expected (wsV RX6 129 RX6 yX6_belowBy wsX6_belowBy) := goodIn_app (goodIn_of _ (by decide +kernel)) ggX6_expected_X6_belowBy
set_option maxRecDepth 20000 in
theorem ggX6_expected_X6_partOf : GoodIn wsX6_expected wsX6_partOf := goodIn_r _ [43] (by decide +kernel) (by decide +kernel)
set_option maxRecDepth 20000 in
theorem gX6_expected_X6_partOf : GoodIn wsX6_expected (va_wsS RX6 135 yX6_partOf wsX6_partOf) := goodIn_app (goodIn_of _ (by decide +kernel)) ggX6_expected_X6_partOf
set_option maxRecDepth 20000 in
theorem ggX6_expected_X6_no : GoodIn wsX6_expected wsX6_no := goodIn_r _ [46, 47] (by decide +kernel) (by decide +kernel)
set_option maxRecDepth 20000 in
theorem gX6_expected_X6_no : GoodIn wsX6_expected (va_wsS RX6 139 yX6_no wsX6_no) := goodIn_app (goodIn_of _ (by decide +kernel)) ggX6_expected_X6_no
theorem dX6_expected_0 : decode cX6_expected 0 = .ok (.aload_n 0, 1) := by decide +kernel
theorem dX6_expected_1 : decode cX6_expected 1 = .ok (.iload_n 1, 1) := by decide +kernel
theorem dX6_expected_2 : decode cX6_expected 2 = .ok (.invokevirtual 123, 3) := by decide +kernel
theorem dX6_expected_5 : decode cX6_expected 5 = .ok (.ifCond .eq 31, 3) := by decide +kernel
theorem dX6_expected_8 : decode cX6_expected 8 = .ok (.iload_n 2, 1) := by decide +kernel
theorem dX6_expected_9 : decode cX6_expected 9 = .ok (.iconst 0, 1) := by decide +kernel
theorem dX6_expected_10 : decode cX6_expected 10 = .ok (.iconst 1, 1) := by decide +kernel
theorem dX6_expected_11 : decode cX6_expected 11 = .ok (.invokestatic 76, 3) := by decide +kernel
theorem dX6_expected_14 : decode cX6_expected 14 = .ok (.ifCond .eq 22, 3) := by decide +kernel
theorem dX6_expected_17 : decode cX6_expected 17 = .ok (.aload_n 0, 1) := by decide +kernel
theorem dX6_expected_18 : decode cX6_expected 18 = .ok (.iload_n 1, 1) := by decide +kernel
theorem dX6_expected_19 : decode cX6_expected 19 = .ok (.invokevirtual 132, 3) := by decide +kernel
theorem dX6_expected_22 : decode cX6_expected 22 = .ok (.i2l, 1) := by decide +kernel
theorem dX6_expected_23 : decode cX6_expected 23 = .ok (.aload_n 0, 1) := by decide +kernel
theorem dX6_expected_24 : decode cX6_expected 24 = .ok (.iload_n 1, 1) := by decide +kernel
theorem dX6_expected_25 : decode cX6_expected 25 = .ok (.invokevirtual 129, 3) := by decide +kernel
theorem dX6_expected_28 : decode cX6_expected 28 = .ok (.i2l, 1) := by decide +kernel
theorem dX6_expected_29 : decode cX6_expected 29 = .ok (.iload_n 2, 1) := by decide +kernel
theorem dX6_expected_30 : decode cX6_expected 30 = .ok (.invokestatic 135, 3) := by decide +kernel
theorem dX6_expected_33 : decode cX6_expected 33 = .ok (.goto 8, 3) := by decide +kernel
theorem dX6_expected_36 : decode cX6_expected 36 = .ok (.bipush (-2), 2) := by decide +kernel
theorem dX6_expected_38 : decode cX6_expected 38 = .ok (.invokestatic 139, 3) := by decide +kernel
theorem dX6_expected_41 : decode cX6_expected 41 = .ok (.lreturn, 1) := by decide +kernel
set_option maxRecDepth 20000 in
theorem ggX6_lessThan_X6_gapsBy : GoodIn wsX6_lessThan wsX6_gapsBy := goodIn_r _ [5, 6, 12, 13, 14, 15, 16, 17, 18, 19, 20, 21, 22, 23, 24, 25, 26, 27, 28, 29, 30, 31, 32, 33, 34, 35, 36, 37, 38, 39] (by decide +kernel) (by decide +kernel)
set_option maxRecDepth 20000 in
theorem gX6_lessThan_X6_gapsBy : GoodIn wsX6_lessThan (wsV RX6 120 RX6 yX6_gapsBy wsX6_gapsBy) := goodIn_app (goodIn_of _ (by decide +kernel)) ggX6_lessThan_X6_gapsBy
set_option maxRecDepth 20000 in
theorem ggX6_lessThan_X6_gapAt : GoodIn wsX6_lessThan wsX6_gapAt := goodIn_r _ [10, 11, 12, 13, 14, 15, 16, 17, 18, 19, 20, 21, 22, 23, 24, 25, 26, 27, 28, 29, 30, 31, 32, 33, 34, 35, 36, 37, 38, 39] (by decide +kernel) (by decide +kernel)
set_option maxRecDepth 20000 in
theorem gX6_lessThan_X6_gapAt : GoodIn wsX6_lessThan (wsV RX6 143 RX6 yX6_gapAt wsX6_gapAt) := goodIn_app (goodIn_of _ (by decide +kernel)) ggX6_lessThan_X6_gapAt
theorem dX6_lessThan_0 : decode cX6_lessThan 0 = .ok (.iconst 0, 1) := by decide +kernel
theorem dX6_lessThan_1 : decode cX6_lessThan 1 = .ok (.istore_n 3, 1) := by decide +kernel
theorem dX6_lessThan_2 : decode cX6_lessThan 2 = .ok (.iconst 0, 1) := by decide +kernel
theorem dX6_lessThan_3 : decode cX6_lessThan 3 = .ok (.istore 4, 2) := by decide +kernel
theorem dX6_lessThan_5 : decode cX6_lessThan 5 = .ok (.iload 4, 2) := by decide +kernel
theorem dX6_lessThan_7 : decode cX6_lessThan 7 = .ok (.aload_n 0, 1) := by decide +kernel
theorem dX6_lessThan_8 : decode cX6_lessThan 8 = .ok (.iload_n 1, 1) := by decide +kernel
theorem dX6_lessThan_9 : decode cX6_lessThan 9 = .ok (.invokevirtual 120, 3) := by decide +kernel
theorem dX6_lessThan_12 : decode cX6_lessThan 12 = .ok (.if_icmp .ge 28, 3) := by decide +kernel
theorem dX6_lessThan_15 : decode cX6_lessThan 15 = .ok (.iload_n 3, 1) := by decide +kernel
theorem dX6_lessThan_16 : decode cX6_lessThan 16 = .ok (.aload_n 0, 1) := by decide +kernel
theorem dX6_lessThan_17 : decode cX6_lessThan 17 = .ok (.iload_n 1, 1) := by decide +kernel
theorem dX6_lessThan_18 : decode cX6_lessThan 18 = .ok (.iload 4, 2) := by decide +kernel
theorem dX6_lessThan_20 : decode cX6_lessThan 20 = .ok (.invokevirtual 143, 3) := by decide +kernel
theorem dX6_lessThan_23 : decode cX6_lessThan 23 = .ok (.iload_n 2, 1) := by decide +kernel
theorem dX6_lessThan_24 : decode cX6_lessThan 24 = .ok (.if_icmp .ge 7, 3) := by decide +kernel
theorem dX6_lessThan_27 : decode cX6_lessThan 27 = .ok (.iconst 1, 1) := by decide +kernel
theorem dX6_lessThan_28 : decode cX6_lessThan 28 = .ok (.goto 4, 3) := by decide +kernel
theorem dX6_lessThan_31 : decode cX6_lessThan 31 = .ok (.iconst 0, 1) := by decide +kernel
theorem dX6_lessThan_32 : decode cX6_lessThan 32 = .ok (.iadd, 1) := by decide +kernel
theorem dX6_lessThan_33 : decode cX6_lessThan 33 = .ok (.istore_n 3, 1) := by decide +kernel
theorem dX6_lessThan_34 : decode cX6_lessThan 34 = .ok (.iinc 4 1, 3) := by decide +kernel
theorem dX6_lessThan_37 : decode cX6_lessThan 37 = .ok (.goto (-32), 3) := by decide +kernel
theorem dX6_lessThan_40 : decode cX6_lessThan 40 = .ok (.iload_n 3, 1) := by decide +kernel
theorem dX6_lessThan_41 : decode cX6_lessThan 41 = .ok (.ireturn, 1) := by decide +kernel
set_option maxRecDepth 20000 in
theorem ggX6_scoreOf_X6_findsNews : GoodIn wsX6_scoreOf wsX6_findsNews := goodIn_r _ [7, 1, 8, 9, 2, 10, 11, 12, 6, 13, 14, 15, 16, 17, 18, 19, 20, 21, 22, 23, 24, 45, 46, 47, 48, 49, 50, 51, 52, 53, 54, 55, 56, 57, 58, 59, 60, 61, 62, 63, 64, 65, 66, 67, 68, 69, 70, 71, 72] (by decide +kernel) (by decide +kernel)
set_option maxRecDepth 20000 in
theorem gX6_scoreOf_X6_findsNews : GoodIn wsX6_scoreOf (wsV RX6 113 RX6 yX6_findsNews wsX6_findsNews) := goodIn_app (goodIn_of _ (by decide +kernel)) ggX6_scoreOf_X6_findsNews
set_option maxRecDepth 20000 in
theorem ggX6_scoreOf_X6_no : GoodIn wsX6_scoreOf wsX6_no := goodIn_r _ [27, 28] (by decide +kernel) (by decide +kernel)
set_option maxRecDepth 20000 in
theorem gX6_scoreOf_X6_no : GoodIn wsX6_scoreOf (va_wsS RX6 139 yX6_no wsX6_no) := goodIn_app (goodIn_of _ (by decide +kernel)) ggX6_scoreOf_X6_no
set_option maxRecDepth 20000 in
theorem ggX6_scoreOf_X6_lessThan : GoodIn wsX6_scoreOf wsX6_lessThan := goodIn_r _ [32, 33, 34, 35, 6, 36, 37, 38, 39, 40, 41, 2, 45, 46, 47, 48, 49, 50, 51, 52, 53, 54, 55, 56, 57, 58, 59, 60, 61, 62, 63, 64, 65, 66, 67, 68, 69, 70, 71, 72] (by decide +kernel) (by decide +kernel)
set_option maxRecDepth 20000 in
theorem gX6_scoreOf_X6_lessThan : GoodIn wsX6_scoreOf (wsV RX6 146 RX6 yX6_lessThan wsX6_lessThan) := goodIn_app (goodIn_of _ (by decide +kernel)) ggX6_scoreOf_X6_lessThan
set_option maxRecDepth 20000 in
theorem ggX6_scoreOf_X6_gapsBy : GoodIn wsX6_scoreOf wsX6_gapsBy := goodIn_r _ [36, 37, 45, 46, 47, 48, 49, 50, 51, 52, 53, 54, 55, 56, 57, 58, 59, 60, 61, 62, 63, 64, 65, 66, 67, 68, 69, 70, 71, 72] (by decide +kernel) (by decide +kernel)
set_option maxRecDepth 20000 in
theorem gX6_scoreOf_X6_gapsBy : GoodIn wsX6_scoreOf (wsV RX6 120 RX6 yX6_gapsBy wsX6_gapsBy) := goodIn_app (goodIn_of _ (by decide +kernel)) ggX6_scoreOf_X6_gapsBy
set_option maxRecDepth 20000 in
theorem ggX6_scoreOf_X6_partOf : GoodIn wsX6_scoreOf wsX6_partOf := goodIn_r _ [44] (by decide +kernel) (by decide +kernel)
set_option maxRecDepth 20000 in
theorem gX6_scoreOf_X6_partOf : GoodIn wsX6_scoreOf (va_wsS RX6 135 yX6_partOf wsX6_partOf) := goodIn_app (goodIn_of _ (by decide +kernel)) ggX6_scoreOf_X6_partOf
theorem dX6_scoreOf_0 : decode cX6_scoreOf 0 = .ok (.aload_n 0, 1) := by decide +kernel
theorem dX6_scoreOf_1 : decode cX6_scoreOf 1 = .ok (.invokevirtual 113, 3) := by decide +kernel
theorem dX6_scoreOf_4 : decode cX6_scoreOf 4 = .ok (.iconst (-1), 1) := by decide +kernel
theorem dX6_scoreOf_5 : decode cX6_scoreOf 5 = .ok (.istore_n 3, 1) := by decide +kernel
theorem dX6_scoreOf_6 : decode cX6_scoreOf 6 = .ok (.iconst 0, 1) := by decide +kernel
theorem dX6_scoreOf_7 : decode cX6_scoreOf 7 = .ok (.istore 4, 2) := by decide +kernel
theorem dX6_scoreOf_9 : decode cX6_scoreOf 9 = .ok (.iload 4, 2) := by decide +kernel
theorem dX6_scoreOf_11 : decode cX6_scoreOf 11 = .ok (.aload_n 0, 1) := by decide +kernel
theorem dX6_scoreOf_12 : decode cX6_scoreOf 12 = .ok (.getfield 107, 3) := by decide +kernel
theorem dX6_scoreOf_15 : decode cX6_scoreOf 15 = .ok (.if_icmp .ge 27, 3) := by decide +kernel
theorem dX6_scoreOf_18 : decode cX6_scoreOf 18 = .ok (.aload_n 0, 1) := by decide +kernel
theorem dX6_scoreOf_19 : decode cX6_scoreOf 19 = .ok (.getfield 26, 3) := by decide +kernel
theorem dX6_scoreOf_22 : decode cX6_scoreOf 22 = .ok (.iload 4, 2) := by decide +kernel
theorem dX6_scoreOf_24 : decode cX6_scoreOf 24 = .ok (.iaload, 1) := by decide +kernel
theorem dX6_scoreOf_25 : decode cX6_scoreOf 25 = .ok (.iload_n 1, 1) := by decide +kernel
theorem dX6_scoreOf_26 : decode cX6_scoreOf 26 = .ok (.if_icmp .gt 8, 3) := by decide +kernel
theorem dX6_scoreOf_29 : decode cX6_scoreOf 29 = .ok (.iload 4, 2) := by decide +kernel
theorem dX6_scoreOf_31 : decode cX6_scoreOf 31 = .ok (.goto 4, 3) := by decide +kernel
theorem dX6_scoreOf_34 : decode cX6_scoreOf 34 = .ok (.iload_n 3, 1) := by decide +kernel
theorem dX6_scoreOf_35 : decode cX6_scoreOf 35 = .ok (.istore_n 3, 1) := by decide +kernel
theorem dX6_scoreOf_36 : decode cX6_scoreOf 36 = .ok (.iinc 4 1, 3) := by decide +kernel
theorem dX6_scoreOf_39 : decode cX6_scoreOf 39 = .ok (.goto (-30), 3) := by decide +kernel
theorem dX6_scoreOf_42 : decode cX6_scoreOf 42 = .ok (.iload_n 3, 1) := by decide +kernel
theorem dX6_scoreOf_43 : decode cX6_scoreOf 43 = .ok (.iconst 1, 1) := by decide +kernel
theorem dX6_scoreOf_44 : decode cX6_scoreOf 44 = .ok (.if_icmp .ge 11, 3) := by decide +kernel
theorem dX6_scoreOf_47 : decode cX6_scoreOf 47 = .ok (.bipush (-3), 2) := by decide +kernel
theorem dX6_scoreOf_49 : decode cX6_scoreOf 49 = .ok (.invokestatic 139, 3) := by decide +kernel
theorem dX6_scoreOf_52 : decode cX6_scoreOf 52 = .ok (.goto 27, 3) := by decide +kernel
theorem dX6_scoreOf_55 : decode cX6_scoreOf 55 = .ok (.aload_n 0, 1) := by decide +kernel
theorem dX6_scoreOf_56 : decode cX6_scoreOf 56 = .ok (.iload_n 3, 1) := by decide +kernel
theorem dX6_scoreOf_57 : decode cX6_scoreOf 57 = .ok (.iload_n 1, 1) := by decide +kernel
theorem dX6_scoreOf_58 : decode cX6_scoreOf 58 = .ok (.aload_n 0, 1) := by decide +kernel
theorem dX6_scoreOf_59 : decode cX6_scoreOf 59 = .ok (.getfield 26, 3) := by decide +kernel
theorem dX6_scoreOf_62 : decode cX6_scoreOf 62 = .ok (.iload_n 3, 1) := by decide +kernel
theorem dX6_scoreOf_63 : decode cX6_scoreOf 63 = .ok (.iaload, 1) := by decide +kernel
theorem dX6_scoreOf_64 : decode cX6_scoreOf 64 = .ok (.isub, 1) := by decide +kernel
theorem dX6_scoreOf_65 : decode cX6_scoreOf 65 = .ok (.invokevirtual 146, 3) := by decide +kernel
theorem dX6_scoreOf_68 : decode cX6_scoreOf 68 = .ok (.i2l, 1) := by decide +kernel
theorem dX6_scoreOf_69 : decode cX6_scoreOf 69 = .ok (.aload_n 0, 1) := by decide +kernel
theorem dX6_scoreOf_70 : decode cX6_scoreOf 70 = .ok (.iload_n 3, 1) := by decide +kernel
theorem dX6_scoreOf_71 : decode cX6_scoreOf 71 = .ok (.invokevirtual 120, 3) := by decide +kernel
theorem dX6_scoreOf_74 : decode cX6_scoreOf 74 = .ok (.i2l, 1) := by decide +kernel
theorem dX6_scoreOf_75 : decode cX6_scoreOf 75 = .ok (.iload_n 2, 1) := by decide +kernel
theorem dX6_scoreOf_76 : decode cX6_scoreOf 76 = .ok (.invokestatic 135, 3) := by decide +kernel
theorem dX6_scoreOf_79 : decode cX6_scoreOf 79 = .ok (.lreturn, 1) := by decide +kernel
set_option maxRecDepth 20000 in
theorem ggX6_score_X6_in : GoodIn wsX6_score wsX6_in := goodIn_r _ [4] (by decide +kernel) (by decide +kernel)
set_option maxRecDepth 20000 in
theorem gX6_score_X6_in : GoodIn wsX6_score (va_wsS RX6 76 yX6_in wsX6_in) := goodIn_app (goodIn_of _ (by decide +kernel)) ggX6_score_X6_in
set_option maxRecDepth 20000 in
theorem ggX6_score_X6_scoreOf : GoodIn wsX6_score wsX6_scoreOf := goodIn_r _ [8, 9, 10, 11, 12, 13, 3, 14, 15, 16, 17, 18, 19, 20, 21, 22, 23, 24, 25, 26, 27, 28, 29, 30, 31, 32, 33, 34, 35, 36, 37, 38, 39, 40, 41, 42, 43, 44, 45, 46, 47, 48, 49, 50, 51, 52, 53, 54, 55, 56, 57, 58, 59, 60, 61, 62, 63, 64, 65, 66, 67, 68, 69, 70, 71, 72, 73, 74, 75, 76, 77, 78, 79] (by decide +kernel) (by decide +kernel)
set_option maxRecDepth 20000 in
theorem gX6_score_X6_scoreOf : GoodIn wsX6_score (wsV RX6 149 RX6 yX6_scoreOf wsX6_scoreOf) := goodIn_app (goodIn_of _ (by decide +kernel)) ggX6_score_X6_scoreOf
set_option maxRecDepth 20000 in
theorem ggX6_score_X6_no : GoodIn wsX6_score wsX6_no := goodIn_r _ [34, 35] (by decide +kernel) (by decide +kernel)
set_option maxRecDepth 20000 in
theorem gX6_score_X6_no : GoodIn wsX6_score (va_wsS RX6 139 yX6_no wsX6_no) := goodIn_app (goodIn_of _ (by decide +kernel)) ggX6_score_X6_no
theorem dX6_score_0 : decode cX6_score 0 = .ok (.iload_n 1, 1) := by decide +kernel
theorem dX6_score_1 : decode cX6_score 1 = .ok (.iconst 0, 1) := by decide +kernel
theorem dX6_score_2 : decode cX6_score 2 = .ok (.sipush 6000, 3) := by decide +kernel
theorem dX6_score_5 : decode cX6_score 5 = .ok (.invokestatic 76, 3) := by decide +kernel
theorem dX6_score_8 : decode cX6_score 8 = .ok (.ifCond .eq 21, 3) := by decide +kernel
theorem dX6_score_11 : decode cX6_score 11 = .ok (.iload_n 2, 1) := by decide +kernel
theorem dX6_score_12 : decode cX6_score 12 = .ok (.iconst 0, 1) := by decide +kernel
theorem dX6_score_13 : decode cX6_score 13 = .ok (.iconst 1, 1) := by decide +kernel
theorem dX6_score_14 : decode cX6_score 14 = .ok (.invokestatic 76, 3) := by decide +kernel
theorem dX6_score_17 : decode cX6_score 17 = .ok (.ifCond .eq 12, 3) := by decide +kernel
theorem dX6_score_20 : decode cX6_score 20 = .ok (.aload_n 0, 1) := by decide +kernel
theorem dX6_score_21 : decode cX6_score 21 = .ok (.iload_n 1, 1) := by decide +kernel
theorem dX6_score_22 : decode cX6_score 22 = .ok (.iload_n 2, 1) := by decide +kernel
theorem dX6_score_23 : decode cX6_score 23 = .ok (.invokevirtual 149, 3) := by decide +kernel
theorem dX6_score_26 : decode cX6_score 26 = .ok (.goto 8, 3) := by decide +kernel
theorem dX6_score_29 : decode cX6_score 29 = .ok (.bipush (-2), 2) := by decide +kernel
theorem dX6_score_31 : decode cX6_score 31 = .ok (.invokestatic 139, 3) := by decide +kernel
theorem dX6_score_34 : decode cX6_score 34 = .ok (.lreturn, 1) := by decide +kernel
set_option maxRecDepth 20000 in
theorem ggX6_isMeasure_X6_in : GoodIn wsX6_isMeasure wsX6_in := goodIn_r _ [4] (by decide +kernel) (by decide +kernel)
set_option maxRecDepth 20000 in
theorem gX6_isMeasure_X6_in : GoodIn wsX6_isMeasure (va_wsS RX6 76 yX6_in wsX6_in) := goodIn_app (goodIn_of _ (by decide +kernel)) ggX6_isMeasure_X6_in
theorem dX6_isMeasure_0 : decode cX6_isMeasure 0 = .ok (.iload_n 0, 1) := by decide +kernel
theorem dX6_isMeasure_1 : decode cX6_isMeasure 1 = .ok (.tableswitch 52 0 2 #[27, 35, 43], 27) := by decide +kernel
theorem dX6_isMeasure_28 : decode cX6_isMeasure 28 = .ok (.iload_n 1, 1) := by decide +kernel
theorem dX6_isMeasure_29 : decode cX6_isMeasure 29 = .ok (.iconst 0, 1) := by decide +kernel
theorem dX6_isMeasure_30 : decode cX6_isMeasure 30 = .ok (.bipush 99, 2) := by decide +kernel
theorem dX6_isMeasure_32 : decode cX6_isMeasure 32 = .ok (.invokestatic 76, 3) := by decide +kernel
theorem dX6_isMeasure_35 : decode cX6_isMeasure 35 = .ok (.ireturn, 1) := by decide +kernel
theorem dX6_isMeasure_36 : decode cX6_isMeasure 36 = .ok (.iload_n 1, 1) := by decide +kernel
theorem dX6_isMeasure_37 : decode cX6_isMeasure 37 = .ok (.iconst 1, 1) := by decide +kernel
theorem dX6_isMeasure_38 : decode cX6_isMeasure 38 = .ok (.bipush 10, 2) := by decide +kernel
theorem dX6_isMeasure_40 : decode cX6_isMeasure 40 = .ok (.invokestatic 76, 3) := by decide +kernel
theorem dX6_isMeasure_43 : decode cX6_isMeasure 43 = .ok (.ireturn, 1) := by decide +kernel
theorem dX6_isMeasure_44 : decode cX6_isMeasure 44 = .ok (.iload_n 1, 1) := by decide +kernel
theorem dX6_isMeasure_45 : decode cX6_isMeasure 45 = .ok (.iconst 1, 1) := by decide +kernel
theorem dX6_isMeasure_46 : decode cX6_isMeasure 46 = .ok (.sipush 200, 3) := by decide +kernel
theorem dX6_isMeasure_49 : decode cX6_isMeasure 49 = .ok (.invokestatic 76, 3) := by decide +kernel
theorem dX6_isMeasure_52 : decode cX6_isMeasure 52 = .ok (.ireturn, 1) := by decide +kernel
theorem dX6_isMeasure_53 : decode cX6_isMeasure 53 = .ok (.iload_n 0, 1) := by decide +kernel
theorem dX6_isMeasure_54 : decode cX6_isMeasure 54 = .ok (.iconst 3, 1) := by decide +kernel
theorem dX6_isMeasure_55 : decode cX6_isMeasure 55 = .ok (.if_icmp .ne 17, 3) := by decide +kernel
theorem dX6_isMeasure_58 : decode cX6_isMeasure 58 = .ok (.iload_n 1, 1) := by decide +kernel
theorem dX6_isMeasure_59 : decode cX6_isMeasure 59 = .ok (.iconst 0, 1) := by decide +kernel
theorem dX6_isMeasure_60 : decode cX6_isMeasure 60 = .ok (.bipush 30, 2) := by decide +kernel
theorem dX6_isMeasure_62 : decode cX6_isMeasure 62 = .ok (.invokestatic 76, 3) := by decide +kernel
theorem dX6_isMeasure_65 : decode cX6_isMeasure 65 = .ok (.ifCond .eq 7, 3) := by decide +kernel
theorem dX6_isMeasure_68 : decode cX6_isMeasure 68 = .ok (.iconst 1, 1) := by decide +kernel
theorem dX6_isMeasure_69 : decode cX6_isMeasure 69 = .ok (.goto 4, 3) := by decide +kernel
theorem dX6_isMeasure_72 : decode cX6_isMeasure 72 = .ok (.iconst 0, 1) := by decide +kernel
theorem dX6_isMeasure_73 : decode cX6_isMeasure 73 = .ok (.ireturn, 1) := by decide +kernel
set_option maxRecDepth 20000 in
theorem ggX6_watcher_X6_isMeasure : GoodIn wsX6_watcher wsX6_isMeasure := goodIn_r _ [9, 10, 11, 8, 12] (by decide +kernel) (by decide +kernel)
set_option maxRecDepth 20000 in
theorem gX6_watcher_X6_isMeasure : GoodIn wsX6_watcher (va_wsS RX6 153 yX6_isMeasure wsX6_isMeasure) := goodIn_app (goodIn_of _ (by decide +kernel)) ggX6_watcher_X6_isMeasure
theorem dX6_watcher_0 : decode cX6_watcher 0 = .ok (.iload_n 1, 1) := by decide +kernel
theorem dX6_watcher_1 : decode cX6_watcher 1 = .ok (.iload_n 2, 1) := by decide +kernel
theorem dX6_watcher_2 : decode cX6_watcher 2 = .ok (.invokestatic 153, 3) := by decide +kernel
theorem dX6_watcher_5 : decode cX6_watcher 5 = .ok (.ifCond .ne 6, 3) := by decide +kernel
theorem dX6_watcher_8 : decode cX6_watcher 8 = .ok (.bipush (-2), 2) := by decide +kernel
theorem dX6_watcher_10 : decode cX6_watcher 10 = .ok (.ireturn, 1) := by decide +kernel
theorem dX6_watcher_11 : decode cX6_watcher 11 = .ok (.aload_n 0, 1) := by decide +kernel
theorem dX6_watcher_12 : decode cX6_watcher 12 = .ok (.getfield 157, 3) := by decide +kernel
theorem dX6_watcher_15 : decode cX6_watcher 15 = .ok (.iconst 5, 1) := by decide +kernel
theorem dX6_watcher_16 : decode cX6_watcher 16 = .ok (.if_icmp .ne 6, 3) := by decide +kernel
theorem dX6_watcher_19 : decode cX6_watcher 19 = .ok (.bipush (-4), 2) := by decide +kernel
theorem dX6_watcher_21 : decode cX6_watcher 21 = .ok (.ireturn, 1) := by decide +kernel
theorem dX6_watcher_22 : decode cX6_watcher 22 = .ok (.aload_n 0, 1) := by decide +kernel
theorem dX6_watcher_23 : decode cX6_watcher 23 = .ok (.getfield 29, 3) := by decide +kernel
theorem dX6_watcher_26 : decode cX6_watcher 26 = .ok (.aload_n 0, 1) := by decide +kernel
theorem dX6_watcher_27 : decode cX6_watcher 27 = .ok (.getfield 157, 3) := by decide +kernel
theorem dX6_watcher_30 : decode cX6_watcher 30 = .ok (.iload_n 1, 1) := by decide +kernel
theorem dX6_watcher_31 : decode cX6_watcher 31 = .ok (.iastore, 1) := by decide +kernel
theorem dX6_watcher_32 : decode cX6_watcher 32 = .ok (.aload_n 0, 1) := by decide +kernel
theorem dX6_watcher_33 : decode cX6_watcher 33 = .ok (.getfield 32, 3) := by decide +kernel
theorem dX6_watcher_36 : decode cX6_watcher 36 = .ok (.aload_n 0, 1) := by decide +kernel
theorem dX6_watcher_37 : decode cX6_watcher 37 = .ok (.getfield 157, 3) := by decide +kernel
theorem dX6_watcher_40 : decode cX6_watcher 40 = .ok (.iload_n 2, 1) := by decide +kernel
theorem dX6_watcher_41 : decode cX6_watcher 41 = .ok (.iastore, 1) := by decide +kernel
theorem dX6_watcher_42 : decode cX6_watcher 42 = .ok (.aload_n 0, 1) := by decide +kernel
theorem dX6_watcher_43 : decode cX6_watcher 43 = .ok (.getfield 35, 3) := by decide +kernel
theorem dX6_watcher_46 : decode cX6_watcher 46 = .ok (.aload_n 0, 1) := by decide +kernel
theorem dX6_watcher_47 : decode cX6_watcher 47 = .ok (.getfield 157, 3) := by decide +kernel
theorem dX6_watcher_50 : decode cX6_watcher 50 = .ok (.iconst (-1), 1) := by decide +kernel
theorem dX6_watcher_51 : decode cX6_watcher 51 = .ok (.iastore, 1) := by decide +kernel
theorem dX6_watcher_52 : decode cX6_watcher 52 = .ok (.aload_n 0, 1) := by decide +kernel
theorem dX6_watcher_53 : decode cX6_watcher 53 = .ok (.getfield 38, 3) := by decide +kernel
theorem dX6_watcher_56 : decode cX6_watcher 56 = .ok (.aload_n 0, 1) := by decide +kernel
theorem dX6_watcher_57 : decode cX6_watcher 57 = .ok (.getfield 157, 3) := by decide +kernel
theorem dX6_watcher_60 : decode cX6_watcher 60 = .ok (.iconst (-1), 1) := by decide +kernel
theorem dX6_watcher_61 : decode cX6_watcher 61 = .ok (.iastore, 1) := by decide +kernel
theorem dX6_watcher_62 : decode cX6_watcher 62 = .ok (.aload_n 0, 1) := by decide +kernel
theorem dX6_watcher_63 : decode cX6_watcher 63 = .ok (.dup, 1) := by decide +kernel
theorem dX6_watcher_64 : decode cX6_watcher 64 = .ok (.getfield 157, 3) := by decide +kernel
theorem dX6_watcher_67 : decode cX6_watcher 67 = .ok (.iconst 1, 1) := by decide +kernel
theorem dX6_watcher_68 : decode cX6_watcher 68 = .ok (.iadd, 1) := by decide +kernel
theorem dX6_watcher_69 : decode cX6_watcher 69 = .ok (.putfield 157, 3) := by decide +kernel
theorem dX6_watcher_72 : decode cX6_watcher 72 = .ok (.aload_n 0, 1) := by decide +kernel
theorem dX6_watcher_73 : decode cX6_watcher 73 = .ok (.getfield 157, 3) := by decide +kernel
theorem dX6_watcher_76 : decode cX6_watcher 76 = .ok (.iconst 1, 1) := by decide +kernel
theorem dX6_watcher_77 : decode cX6_watcher 77 = .ok (.isub, 1) := by decide +kernel
theorem dX6_watcher_78 : decode cX6_watcher 78 = .ok (.ireturn, 1) := by decide +kernel
theorem dX6_leaves_0 : decode cX6_leaves 0 = .ok (.aload_n 0, 1) := by decide +kernel
theorem dX6_leaves_1 : decode cX6_leaves 1 = .ok (.getfield 157, 3) := by decide +kernel
theorem dX6_leaves_4 : decode cX6_leaves 4 = .ok (.ifCond .ne 6, 3) := by decide +kernel
theorem dX6_leaves_7 : decode cX6_leaves 7 = .ok (.bipush (-3), 2) := by decide +kernel
theorem dX6_leaves_9 : decode cX6_leaves 9 = .ok (.ireturn, 1) := by decide +kernel
theorem dX6_leaves_10 : decode cX6_leaves 10 = .ok (.aload_n 0, 1) := by decide +kernel
theorem dX6_leaves_11 : decode cX6_leaves 11 = .ok (.dup, 1) := by decide +kernel
theorem dX6_leaves_12 : decode cX6_leaves 12 = .ok (.getfield 157, 3) := by decide +kernel
theorem dX6_leaves_15 : decode cX6_leaves 15 = .ok (.iconst 1, 1) := by decide +kernel
theorem dX6_leaves_16 : decode cX6_leaves 16 = .ok (.isub, 1) := by decide +kernel
theorem dX6_leaves_17 : decode cX6_leaves 17 = .ok (.putfield 157, 3) := by decide +kernel
theorem dX6_leaves_20 : decode cX6_leaves 20 = .ok (.aload_n 0, 1) := by decide +kernel
theorem dX6_leaves_21 : decode cX6_leaves 21 = .ok (.getfield 157, 3) := by decide +kernel
theorem dX6_leaves_24 : decode cX6_leaves 24 = .ok (.ireturn, 1) := by decide +kernel
set_option maxRecDepth 20000 in
theorem ggX6_isWatcher_X6_in : GoodIn wsX6_isWatcher wsX6_in := goodIn_r _ [5] (by decide +kernel) (by decide +kernel)
set_option maxRecDepth 20000 in
theorem gX6_isWatcher_X6_in : GoodIn wsX6_isWatcher (va_wsS RX6 76 yX6_in wsX6_in) := goodIn_app (goodIn_of _ (by decide +kernel)) ggX6_isWatcher_X6_in
theorem dX6_isWatcher_0 : decode cX6_isWatcher 0 = .ok (.iload_n 1, 1) := by decide +kernel
theorem dX6_isWatcher_1 : decode cX6_isWatcher 1 = .ok (.iconst 0, 1) := by decide +kernel
theorem dX6_isWatcher_2 : decode cX6_isWatcher 2 = .ok (.aload_n 0, 1) := by decide +kernel
theorem dX6_isWatcher_3 : decode cX6_isWatcher 3 = .ok (.getfield 157, 3) := by decide +kernel
theorem dX6_isWatcher_6 : decode cX6_isWatcher 6 = .ok (.iconst 1, 1) := by decide +kernel
theorem dX6_isWatcher_7 : decode cX6_isWatcher 7 = .ok (.isub, 1) := by decide +kernel
theorem dX6_isWatcher_8 : decode cX6_isWatcher 8 = .ok (.invokestatic 76, 3) := by decide +kernel
theorem dX6_isWatcher_11 : decode cX6_isWatcher 11 = .ok (.ireturn, 1) := by decide +kernel
set_option maxRecDepth 20000 in
theorem ggX6_measure_X6_isWatcher : GoodIn wsX6_measure wsX6_isWatcher := goodIn_r _ [7, 8, 9, 10, 6, 11, 15, 16, 17, 18, 19, 20, 21, 22, 23, 24, 25, 26, 27, 28, 29, 30, 31, 32, 33, 34, 35, 36, 37, 38, 39, 40, 41, 42] (by decide +kernel) (by decide +kernel)
set_option maxRecDepth 20000 in
theorem gX6_measure_X6_isWatcher : GoodIn wsX6_measure (wsV RX6 160 RX6 yX6_isWatcher wsX6_isWatcher) := goodIn_app (goodIn_of _ (by decide +kernel)) ggX6_measure_X6_isWatcher
set_option maxRecDepth 20000 in
theorem ggX6_measure_X6_isMeasure : GoodIn wsX6_measure wsX6_isMeasure := goodIn_r _ [14, 9, 10, 6, 11] (by decide +kernel) (by decide +kernel)
set_option maxRecDepth 20000 in
theorem gX6_measure_X6_isMeasure : GoodIn wsX6_measure (va_wsS RX6 153 yX6_isMeasure wsX6_isMeasure) := goodIn_app (goodIn_of _ (by decide +kernel)) ggX6_measure_X6_isMeasure
theorem dX6_measure_0 : decode cX6_measure 0 = .ok (.aload_n 0, 1) := by decide +kernel
theorem dX6_measure_1 : decode cX6_measure 1 = .ok (.iload_n 1, 1) := by decide +kernel
theorem dX6_measure_2 : decode cX6_measure 2 = .ok (.invokevirtual 160, 3) := by decide +kernel
theorem dX6_measure_5 : decode cX6_measure 5 = .ok (.ifCond .eq 16, 3) := by decide +kernel
theorem dX6_measure_8 : decode cX6_measure 8 = .ok (.aload_n 0, 1) := by decide +kernel
theorem dX6_measure_9 : decode cX6_measure 9 = .ok (.getfield 29, 3) := by decide +kernel
theorem dX6_measure_12 : decode cX6_measure 12 = .ok (.iload_n 1, 1) := by decide +kernel
theorem dX6_measure_13 : decode cX6_measure 13 = .ok (.iaload, 1) := by decide +kernel
theorem dX6_measure_14 : decode cX6_measure 14 = .ok (.iload_n 2, 1) := by decide +kernel
theorem dX6_measure_15 : decode cX6_measure 15 = .ok (.invokestatic 153, 3) := by decide +kernel
theorem dX6_measure_18 : decode cX6_measure 18 = .ok (.ifCond .ne 6, 3) := by decide +kernel
theorem dX6_measure_21 : decode cX6_measure 21 = .ok (.bipush (-2), 2) := by decide +kernel
theorem dX6_measure_23 : decode cX6_measure 23 = .ok (.ireturn, 1) := by decide +kernel
theorem dX6_measure_24 : decode cX6_measure 24 = .ok (.aload_n 0, 1) := by decide +kernel
theorem dX6_measure_25 : decode cX6_measure 25 = .ok (.getfield 32, 3) := by decide +kernel
theorem dX6_measure_28 : decode cX6_measure 28 = .ok (.iload_n 1, 1) := by decide +kernel
theorem dX6_measure_29 : decode cX6_measure 29 = .ok (.iaload, 1) := by decide +kernel
theorem dX6_measure_30 : decode cX6_measure 30 = .ok (.istore_n 3, 1) := by decide +kernel
theorem dX6_measure_31 : decode cX6_measure 31 = .ok (.aload_n 0, 1) := by decide +kernel
theorem dX6_measure_32 : decode cX6_measure 32 = .ok (.getfield 32, 3) := by decide +kernel
theorem dX6_measure_35 : decode cX6_measure 35 = .ok (.iload_n 1, 1) := by decide +kernel
theorem dX6_measure_36 : decode cX6_measure 36 = .ok (.iload_n 2, 1) := by decide +kernel
theorem dX6_measure_37 : decode cX6_measure 37 = .ok (.iastore, 1) := by decide +kernel
theorem dX6_measure_38 : decode cX6_measure 38 = .ok (.iload_n 3, 1) := by decide +kernel
theorem dX6_measure_39 : decode cX6_measure 39 = .ok (.ireturn, 1) := by decide +kernel
set_option maxRecDepth 20000 in
theorem ggX6_wish_X6_isWatcher : GoodIn wsX6_wish wsX6_isWatcher := goodIn_r _ [7, 8, 9, 10, 6, 11, 12, 13, 14, 15, 16, 17, 18, 19, 20, 21, 22, 23, 24, 25, 26, 27, 28, 29, 30, 31, 32, 33, 34, 35, 36, 37, 38, 39] (by decide +kernel) (by decide +kernel)
set_option maxRecDepth 20000 in
theorem gX6_wish_X6_isWatcher : GoodIn wsX6_wish (wsV RX6 160 RX6 yX6_isWatcher wsX6_isWatcher) := goodIn_app (goodIn_of _ (by decide +kernel)) ggX6_wish_X6_isWatcher
set_option maxRecDepth 20000 in
theorem ggX6_wish_X6_in : GoodIn wsX6_wish wsX6_in := goodIn_r _ [11] (by decide +kernel) (by decide +kernel)
set_option maxRecDepth 20000 in
theorem gX6_wish_X6_in : GoodIn wsX6_wish (va_wsS RX6 76 yX6_in wsX6_in) := goodIn_app (goodIn_of _ (by decide +kernel)) ggX6_wish_X6_in
theorem dX6_wish_0 : decode cX6_wish 0 = .ok (.aload_n 0, 1) := by decide +kernel
theorem dX6_wish_1 : decode cX6_wish 1 = .ok (.iload_n 1, 1) := by decide +kernel
theorem dX6_wish_2 : decode cX6_wish 2 = .ok (.invokevirtual 160, 3) := by decide +kernel
theorem dX6_wish_5 : decode cX6_wish 5 = .ok (.ifCond .eq 32, 3) := by decide +kernel
theorem dX6_wish_8 : decode cX6_wish 8 = .ok (.iload_n 2, 1) := by decide +kernel
theorem dX6_wish_9 : decode cX6_wish 9 = .ok (.iconst 0, 1) := by decide +kernel
theorem dX6_wish_10 : decode cX6_wish 10 = .ok (.iconst 1, 1) := by decide +kernel
theorem dX6_wish_11 : decode cX6_wish 11 = .ok (.invokestatic 76, 3) := by decide +kernel
theorem dX6_wish_14 : decode cX6_wish 14 = .ok (.ifCond .eq 23, 3) := by decide +kernel
theorem dX6_wish_17 : decode cX6_wish 17 = .ok (.iload_n 3, 1) := by decide +kernel
theorem dX6_wish_18 : decode cX6_wish 18 = .ok (.iconst (-1), 1) := by decide +kernel
theorem dX6_wish_19 : decode cX6_wish 19 = .ok (.iload_n 2, 1) := by decide +kernel
theorem dX6_wish_20 : decode cX6_wish 20 = .ok (.ifCond .ne 9, 3) := by decide +kernel
theorem dX6_wish_23 : decode cX6_wish 23 = .ok (.sipush 500, 3) := by decide +kernel
theorem dX6_wish_26 : decode cX6_wish 26 = .ok (.goto 5, 3) := by decide +kernel
theorem dX6_wish_29 : decode cX6_wish 29 = .ok (.bipush 40, 2) := by decide +kernel
theorem dX6_wish_31 : decode cX6_wish 31 = .ok (.invokestatic 76, 3) := by decide +kernel
theorem dX6_wish_34 : decode cX6_wish 34 = .ok (.ifCond .ne 6, 3) := by decide +kernel
theorem dX6_wish_37 : decode cX6_wish 37 = .ok (.bipush (-2), 2) := by decide +kernel
theorem dX6_wish_39 : decode cX6_wish 39 = .ok (.ireturn, 1) := by decide +kernel
theorem dX6_wish_40 : decode cX6_wish 40 = .ok (.iload_n 2, 1) := by decide +kernel
theorem dX6_wish_41 : decode cX6_wish 41 = .ok (.ifCond .ne 12, 3) := by decide +kernel
theorem dX6_wish_44 : decode cX6_wish 44 = .ok (.aload_n 0, 1) := by decide +kernel
theorem dX6_wish_45 : decode cX6_wish 45 = .ok (.getfield 35, 3) := by decide +kernel
theorem dX6_wish_48 : decode cX6_wish 48 = .ok (.iload_n 1, 1) := by decide +kernel
theorem dX6_wish_49 : decode cX6_wish 49 = .ok (.iaload, 1) := by decide +kernel
theorem dX6_wish_50 : decode cX6_wish 50 = .ok (.goto 9, 3) := by decide +kernel
theorem dX6_wish_53 : decode cX6_wish 53 = .ok (.aload_n 0, 1) := by decide +kernel
theorem dX6_wish_54 : decode cX6_wish 54 = .ok (.getfield 38, 3) := by decide +kernel
theorem dX6_wish_57 : decode cX6_wish 57 = .ok (.iload_n 1, 1) := by decide +kernel
theorem dX6_wish_58 : decode cX6_wish 58 = .ok (.iaload, 1) := by decide +kernel
theorem dX6_wish_59 : decode cX6_wish 59 = .ok (.istore 4, 2) := by decide +kernel
theorem dX6_wish_61 : decode cX6_wish 61 = .ok (.iload_n 2, 1) := by decide +kernel
theorem dX6_wish_62 : decode cX6_wish 62 = .ok (.ifCond .ne 13, 3) := by decide +kernel
theorem dX6_wish_65 : decode cX6_wish 65 = .ok (.aload_n 0, 1) := by decide +kernel
theorem dX6_wish_66 : decode cX6_wish 66 = .ok (.getfield 35, 3) := by decide +kernel
theorem dX6_wish_69 : decode cX6_wish 69 = .ok (.iload_n 1, 1) := by decide +kernel
theorem dX6_wish_70 : decode cX6_wish 70 = .ok (.iload_n 3, 1) := by decide +kernel
theorem dX6_wish_71 : decode cX6_wish 71 = .ok (.iastore, 1) := by decide +kernel
theorem dX6_wish_72 : decode cX6_wish 72 = .ok (.goto 10, 3) := by decide +kernel
theorem dX6_wish_75 : decode cX6_wish 75 = .ok (.aload_n 0, 1) := by decide +kernel
theorem dX6_wish_76 : decode cX6_wish 76 = .ok (.getfield 38, 3) := by decide +kernel
theorem dX6_wish_79 : decode cX6_wish 79 = .ok (.iload_n 1, 1) := by decide +kernel
theorem dX6_wish_80 : decode cX6_wish 80 = .ok (.iload_n 3, 1) := by decide +kernel
theorem dX6_wish_81 : decode cX6_wish 81 = .ok (.iastore, 1) := by decide +kernel
theorem dX6_wish_82 : decode cX6_wish 82 = .ok (.iload 4, 2) := by decide +kernel
theorem dX6_wish_84 : decode cX6_wish 84 = .ok (.ireturn, 1) := by decide +kernel
theorem dX6_up_0 : decode cX6_up 0 = .ok (.iload_n 0, 1) := by decide +kernel
theorem dX6_up_1 : decode cX6_up 1 = .ok (.iload_n 1, 1) := by decide +kernel
theorem dX6_up_2 : decode cX6_up 2 = .ok (.iadd, 1) := by decide +kernel
theorem dX6_up_3 : decode cX6_up 3 = .ok (.iconst 1, 1) := by decide +kernel
theorem dX6_up_4 : decode cX6_up 4 = .ok (.isub, 1) := by decide +kernel
theorem dX6_up_5 : decode cX6_up 5 = .ok (.iload_n 1, 1) := by decide +kernel
theorem dX6_up_6 : decode cX6_up 6 = .ok (.idiv, 1) := by decide +kernel
theorem dX6_up_7 : decode cX6_up 7 = .ok (.ireturn, 1) := by decide +kernel
set_option maxRecDepth 20000 in
theorem ggX6_tenthsBy_X6_gapsBy : GoodIn wsX6_tenthsBy wsX6_gapsBy := goodIn_r _ [5, 6, 16, 17, 18, 19, 20, 21, 22, 23, 24, 25, 26, 27, 28, 29, 30, 31, 32, 33, 34, 35, 36, 37, 38, 39, 40, 41, 42, 43] (by decide +kernel) (by decide +kernel)
set_option maxRecDepth 20000 in
theorem gX6_tenthsBy_X6_gapsBy : GoodIn wsX6_tenthsBy (wsV RX6 120 RX6 yX6_gapsBy wsX6_gapsBy) := goodIn_app (goodIn_of _ (by decide +kernel)) ggX6_tenthsBy_X6_gapsBy
set_option maxRecDepth 20000 in
theorem ggX6_tenthsBy_X6_gapAt : GoodIn wsX6_tenthsBy wsX6_gapAt := goodIn_r _ [10, 11, 16, 17, 18, 19, 20, 21, 22, 23, 24, 25, 26, 27, 28, 29, 30, 31, 32, 33, 34, 35, 36, 37, 38, 39, 40, 41, 42, 43] (by decide +kernel) (by decide +kernel)
set_option maxRecDepth 20000 in
theorem gX6_tenthsBy_X6_gapAt : GoodIn wsX6_tenthsBy (wsV RX6 143 RX6 yX6_gapAt wsX6_gapAt) := goodIn_app (goodIn_of _ (by decide +kernel)) ggX6_tenthsBy_X6_gapAt
set_option maxRecDepth 20000 in
theorem ggX6_tenthsBy_X6_lessThan : GoodIn wsX6_tenthsBy wsX6_lessThan := goodIn_r _ [15, 1, 2, 3, 4, 5, 6, 7, 8, 9, 10, 11, 16, 17, 18, 19, 20, 21, 22, 23, 24, 25, 26, 27, 28, 29, 30, 31, 32, 33, 34, 35, 36, 37, 38, 39, 40, 41, 42, 43] (by decide +kernel) (by decide +kernel)
set_option maxRecDepth 20000 in
theorem gX6_tenthsBy_X6_lessThan : GoodIn wsX6_tenthsBy (wsV RX6 146 RX6 yX6_lessThan wsX6_lessThan) := goodIn_app (goodIn_of _ (by decide +kernel)) ggX6_tenthsBy_X6_lessThan
theorem dX6_tenthsBy_0 : decode cX6_tenthsBy 0 = .ok (.iconst (-1), 1) := by decide +kernel
theorem dX6_tenthsBy_1 : decode cX6_tenthsBy 1 = .ok (.istore_n 3, 1) := by decide +kernel
theorem dX6_tenthsBy_2 : decode cX6_tenthsBy 2 = .ok (.iconst 0, 1) := by decide +kernel
theorem dX6_tenthsBy_3 : decode cX6_tenthsBy 3 = .ok (.istore 4, 2) := by decide +kernel
theorem dX6_tenthsBy_5 : decode cX6_tenthsBy 5 = .ok (.iload 4, 2) := by decide +kernel
theorem dX6_tenthsBy_7 : decode cX6_tenthsBy 7 = .ok (.aload_n 0, 1) := by decide +kernel
theorem dX6_tenthsBy_8 : decode cX6_tenthsBy 8 = .ok (.iload_n 1, 1) := by decide +kernel
theorem dX6_tenthsBy_9 : decode cX6_tenthsBy 9 = .ok (.invokevirtual 120, 3) := by decide +kernel
theorem dX6_tenthsBy_12 : decode cX6_tenthsBy 12 = .ok (.if_icmp .ge 70, 3) := by decide +kernel
theorem dX6_tenthsBy_15 : decode cX6_tenthsBy 15 = .ok (.aload_n 0, 1) := by decide +kernel
theorem dX6_tenthsBy_16 : decode cX6_tenthsBy 16 = .ok (.iload_n 1, 1) := by decide +kernel
theorem dX6_tenthsBy_17 : decode cX6_tenthsBy 17 = .ok (.iload 4, 2) := by decide +kernel
theorem dX6_tenthsBy_19 : decode cX6_tenthsBy 19 = .ok (.invokevirtual 143, 3) := by decide +kernel
theorem dX6_tenthsBy_22 : decode cX6_tenthsBy 22 = .ok (.istore 5, 2) := by decide +kernel
theorem dX6_tenthsBy_24 : decode cX6_tenthsBy 24 = .ok (.bipush 10, 2) := by decide +kernel
theorem dX6_tenthsBy_26 : decode cX6_tenthsBy 26 = .ok (.aload_n 0, 1) := by decide +kernel
theorem dX6_tenthsBy_27 : decode cX6_tenthsBy 27 = .ok (.iload_n 1, 1) := by decide +kernel
theorem dX6_tenthsBy_28 : decode cX6_tenthsBy 28 = .ok (.iload 5, 2) := by decide +kernel
theorem dX6_tenthsBy_30 : decode cX6_tenthsBy 30 = .ok (.iconst 1, 1) := by decide +kernel
theorem dX6_tenthsBy_31 : decode cX6_tenthsBy 31 = .ok (.iadd, 1) := by decide +kernel
theorem dX6_tenthsBy_32 : decode cX6_tenthsBy 32 = .ok (.invokevirtual 146, 3) := by decide +kernel
theorem dX6_tenthsBy_35 : decode cX6_tenthsBy 35 = .ok (.imul, 1) := by decide +kernel
theorem dX6_tenthsBy_36 : decode cX6_tenthsBy 36 = .ok (.iload_n 2, 1) := by decide +kernel
theorem dX6_tenthsBy_37 : decode cX6_tenthsBy 37 = .ok (.aload_n 0, 1) := by decide +kernel
theorem dX6_tenthsBy_38 : decode cX6_tenthsBy 38 = .ok (.iload_n 1, 1) := by decide +kernel
theorem dX6_tenthsBy_39 : decode cX6_tenthsBy 39 = .ok (.invokevirtual 120, 3) := by decide +kernel
theorem dX6_tenthsBy_42 : decode cX6_tenthsBy 42 = .ok (.imul, 1) := by decide +kernel
theorem dX6_tenthsBy_43 : decode cX6_tenthsBy 43 = .ok (.if_icmp .lt 7, 3) := by decide +kernel
theorem dX6_tenthsBy_46 : decode cX6_tenthsBy 46 = .ok (.iconst 1, 1) := by decide +kernel
theorem dX6_tenthsBy_47 : decode cX6_tenthsBy 47 = .ok (.goto 4, 3) := by decide +kernel
theorem dX6_tenthsBy_50 : decode cX6_tenthsBy 50 = .ok (.iconst 0, 1) := by decide +kernel
theorem dX6_tenthsBy_51 : decode cX6_tenthsBy 51 = .ok (.istore 6, 2) := by decide +kernel
theorem dX6_tenthsBy_53 : decode cX6_tenthsBy 53 = .ok (.iload 6, 2) := by decide +kernel
theorem dX6_tenthsBy_55 : decode cX6_tenthsBy 55 = .ok (.ifCond .eq 19, 3) := by decide +kernel
theorem dX6_tenthsBy_58 : decode cX6_tenthsBy 58 = .ok (.iload_n 3, 1) := by decide +kernel
theorem dX6_tenthsBy_59 : decode cX6_tenthsBy 59 = .ok (.iconst (-1), 1) := by decide +kernel
theorem dX6_tenthsBy_60 : decode cX6_tenthsBy 60 = .ok (.if_icmp .eq 9, 3) := by decide +kernel
theorem dX6_tenthsBy_63 : decode cX6_tenthsBy 63 = .ok (.iload 5, 2) := by decide +kernel
theorem dX6_tenthsBy_65 : decode cX6_tenthsBy 65 = .ok (.iload_n 3, 1) := by decide +kernel
theorem dX6_tenthsBy_66 : decode cX6_tenthsBy 66 = .ok (.if_icmp .ge 8, 3) := by decide +kernel
theorem dX6_tenthsBy_69 : decode cX6_tenthsBy 69 = .ok (.iload 5, 2) := by decide +kernel
theorem dX6_tenthsBy_71 : decode cX6_tenthsBy 71 = .ok (.goto 4, 3) := by decide +kernel
theorem dX6_tenthsBy_74 : decode cX6_tenthsBy 74 = .ok (.iload_n 3, 1) := by decide +kernel
theorem dX6_tenthsBy_75 : decode cX6_tenthsBy 75 = .ok (.istore_n 3, 1) := by decide +kernel
theorem dX6_tenthsBy_76 : decode cX6_tenthsBy 76 = .ok (.iinc 4 1, 3) := by decide +kernel
theorem dX6_tenthsBy_79 : decode cX6_tenthsBy 79 = .ok (.goto (-74), 3) := by decide +kernel
theorem dX6_tenthsBy_82 : decode cX6_tenthsBy 82 = .ok (.iload_n 3, 1) := by decide +kernel
theorem dX6_tenthsBy_83 : decode cX6_tenthsBy 83 = .ok (.ireturn, 1) := by decide +kernel
set_option maxRecDepth 20000 in
theorem ggX6_limitBy_X6_aboveBy : GoodIn wsX6_limitBy wsX6_aboveBy := goodIn_r _ [7, 8, 9, 1, 10, 11, 12, 6, 13, 14, 34, 35, 36, 37, 38, 39, 40, 41, 42, 43, 44, 45, 46, 47, 48, 49, 50, 51, 52, 53, 54, 55, 56, 57, 58, 59, 60, 61] (by decide +kernel) (by decide +kernel)
set_option maxRecDepth 20000 in
theorem gX6_limitBy_X6_aboveBy : GoodIn wsX6_limitBy (wsV RX6 132 RX6 yX6_aboveBy wsX6_aboveBy) := goodIn_app (goodIn_of _ (by decide +kernel)) ggX6_limitBy_X6_aboveBy
set_option maxRecDepth 20000 in
theorem ggX6_limitBy_X6_belowBy : GoodIn wsX6_limitBy wsX6_belowBy := goodIn_r _ [13, 14, 34, 35, 36, 37, 38, 39, 40, 41, 42, 43, 44, 45, 46, 47, 48, 49, 50, 51, 52, 53, 54, 55, 56, 57, 58, 59, 60, 61] (by decide +kernel) (by decide +kernel)
set_option maxRecDepth 20000 in
theorem gX6_limitBy_X6_belowBy : GoodIn wsX6_limitBy (wsV RX6 129 RX6 yX6_belowBy wsX6_belowBy) := goodIn_app (goodIn_of _ (by decide +kernel)) ggX6_limitBy_X6_belowBy
set_option maxRecDepth 20000 in
theorem ggX6_limitBy_X6_up : GoodIn wsX6_limitBy wsX6_up := goodIn_r _ [17] (by decide +kernel) (by decide +kernel)
set_option maxRecDepth 20000 in
theorem gX6_limitBy_X6_up : GoodIn wsX6_limitBy (va_wsS RX6 163 yX6_up wsX6_up) := goodIn_app (goodIn_of _ (by decide +kernel)) ggX6_limitBy_X6_up
set_option maxRecDepth 20000 in
theorem ggX6_limitBy_X6_gapsBy : GoodIn wsX6_limitBy wsX6_gapsBy := goodIn_r _ [21, 14, 34, 35, 36, 37, 38, 39, 40, 41, 42, 43, 44, 45, 46, 47, 48, 49, 50, 51, 52, 53, 54, 55, 56, 57, 58, 59, 60, 61] (by decide +kernel) (by decide +kernel)
set_option maxRecDepth 20000 in
theorem gX6_limitBy_X6_gapsBy : GoodIn wsX6_limitBy (wsV RX6 120 RX6 yX6_gapsBy wsX6_gapsBy) := goodIn_app (goodIn_of _ (by decide +kernel)) ggX6_limitBy_X6_gapsBy
set_option maxRecDepth 20000 in
theorem ggX6_limitBy_X6_tenthsBy : GoodIn wsX6_limitBy wsX6_tenthsBy := goodIn_r _ [25, 18, 19, 20, 6, 21, 14, 26, 27, 28, 29, 1, 30, 31, 32, 33, 34, 35, 36, 37, 38, 39, 40, 41, 42, 43, 44, 45, 46, 47, 48, 49, 50, 51, 52, 53, 54, 55, 56, 57, 58, 59, 60, 61] (by decide +kernel) (by decide +kernel)
set_option maxRecDepth 20000 in
theorem gX6_limitBy_X6_tenthsBy : GoodIn wsX6_limitBy (wsV RX6 166 RX6 yX6_tenthsBy wsX6_tenthsBy) := goodIn_app (goodIn_of _ (by decide +kernel)) ggX6_limitBy_X6_tenthsBy
theorem dX6_limitBy_0 : decode cX6_limitBy 0 = .ok (.aload_n 0, 1) := by decide +kernel
theorem dX6_limitBy_1 : decode cX6_limitBy 1 = .ok (.getfield 26, 3) := by decide +kernel
theorem dX6_limitBy_4 : decode cX6_limitBy 4 = .ok (.iload_n 3, 1) := by decide +kernel
theorem dX6_limitBy_5 : decode cX6_limitBy 5 = .ok (.iaload, 1) := by decide +kernel
theorem dX6_limitBy_6 : decode cX6_limitBy 6 = .ok (.istore 4, 2) := by decide +kernel
theorem dX6_limitBy_8 : decode cX6_limitBy 8 = .ok (.iload_n 1, 1) := by decide +kernel
theorem dX6_limitBy_9 : decode cX6_limitBy 9 = .ok (.tableswitch 72 0 2 #[27, 43, 67], 27) := by decide +kernel
theorem dX6_limitBy_36 : decode cX6_limitBy 36 = .ok (.aload_n 0, 1) := by decide +kernel
theorem dX6_limitBy_37 : decode cX6_limitBy 37 = .ok (.iload_n 3, 1) := by decide +kernel
theorem dX6_limitBy_38 : decode cX6_limitBy 38 = .ok (.invokevirtual 132, 3) := by decide +kernel
theorem dX6_limitBy_41 : decode cX6_limitBy 41 = .ok (.aload_n 0, 1) := by decide +kernel
theorem dX6_limitBy_42 : decode cX6_limitBy 42 = .ok (.iload_n 3, 1) := by decide +kernel
theorem dX6_limitBy_43 : decode cX6_limitBy 43 = .ok (.invokevirtual 129, 3) := by decide +kernel
theorem dX6_limitBy_46 : decode cX6_limitBy 46 = .ok (.invokestatic 163, 3) := by decide +kernel
theorem dX6_limitBy_49 : decode cX6_limitBy 49 = .ok (.iload_n 2, 1) := by decide +kernel
theorem dX6_limitBy_50 : decode cX6_limitBy 50 = .ok (.iadd, 1) := by decide +kernel
theorem dX6_limitBy_51 : decode cX6_limitBy 51 = .ok (.ireturn, 1) := by decide +kernel
theorem dX6_limitBy_52 : decode cX6_limitBy 52 = .ok (.aload_n 0, 1) := by decide +kernel
theorem dX6_limitBy_53 : decode cX6_limitBy 53 = .ok (.iload_n 3, 1) := by decide +kernel
theorem dX6_limitBy_54 : decode cX6_limitBy 54 = .ok (.invokevirtual 120, 3) := by decide +kernel
theorem dX6_limitBy_57 : decode cX6_limitBy 57 = .ok (.ifCond .ne 7, 3) := by decide +kernel
theorem dX6_limitBy_60 : decode cX6_limitBy 60 = .ok (.iconst (-1), 1) := by decide +kernel
theorem dX6_limitBy_61 : decode cX6_limitBy 61 = .ok (.goto 14, 3) := by decide +kernel
theorem dX6_limitBy_64 : decode cX6_limitBy 64 = .ok (.iload 4, 2) := by decide +kernel
theorem dX6_limitBy_66 : decode cX6_limitBy 66 = .ok (.aload_n 0, 1) := by decide +kernel
theorem dX6_limitBy_67 : decode cX6_limitBy 67 = .ok (.iload_n 3, 1) := by decide +kernel
theorem dX6_limitBy_68 : decode cX6_limitBy 68 = .ok (.iload_n 2, 1) := by decide +kernel
theorem dX6_limitBy_69 : decode cX6_limitBy 69 = .ok (.invokevirtual 166, 3) := by decide +kernel
theorem dX6_limitBy_72 : decode cX6_limitBy 72 = .ok (.iadd, 1) := by decide +kernel
theorem dX6_limitBy_73 : decode cX6_limitBy 73 = .ok (.iconst 1, 1) := by decide +kernel
theorem dX6_limitBy_74 : decode cX6_limitBy 74 = .ok (.iadd, 1) := by decide +kernel
theorem dX6_limitBy_75 : decode cX6_limitBy 75 = .ok (.ireturn, 1) := by decide +kernel
theorem dX6_limitBy_76 : decode cX6_limitBy 76 = .ok (.iload 4, 2) := by decide +kernel
theorem dX6_limitBy_78 : decode cX6_limitBy 78 = .ok (.iload_n 2, 1) := by decide +kernel
theorem dX6_limitBy_79 : decode cX6_limitBy 79 = .ok (.iadd, 1) := by decide +kernel
theorem dX6_limitBy_80 : decode cX6_limitBy 80 = .ok (.ireturn, 1) := by decide +kernel
theorem dX6_limitBy_81 : decode cX6_limitBy 81 = .ok (.aload_n 0, 1) := by decide +kernel
theorem dX6_limitBy_82 : decode cX6_limitBy 82 = .ok (.iload_n 3, 1) := by decide +kernel
theorem dX6_limitBy_83 : decode cX6_limitBy 83 = .ok (.invokevirtual 132, 3) := by decide +kernel
theorem dX6_limitBy_86 : decode cX6_limitBy 86 = .ok (.aload_n 0, 1) := by decide +kernel
theorem dX6_limitBy_87 : decode cX6_limitBy 87 = .ok (.iload_n 3, 1) := by decide +kernel
theorem dX6_limitBy_88 : decode cX6_limitBy 88 = .ok (.invokevirtual 129, 3) := by decide +kernel
theorem dX6_limitBy_91 : decode cX6_limitBy 91 = .ok (.invokestatic 163, 3) := by decide +kernel
theorem dX6_limitBy_94 : decode cX6_limitBy 94 = .ok (.iload_n 2, 1) := by decide +kernel
theorem dX6_limitBy_95 : decode cX6_limitBy 95 = .ok (.aload_n 0, 1) := by decide +kernel
theorem dX6_limitBy_96 : decode cX6_limitBy 96 = .ok (.getfield 169, 3) := by decide +kernel
theorem dX6_limitBy_99 : decode cX6_limitBy 99 = .ok (.iconst 1, 1) := by decide +kernel
theorem dX6_limitBy_100 : decode cX6_limitBy 100 = .ok (.iadd, 1) := by decide +kernel
theorem dX6_limitBy_101 : decode cX6_limitBy 101 = .ok (.imul, 1) := by decide +kernel
theorem dX6_limitBy_102 : decode cX6_limitBy 102 = .ok (.iadd, 1) := by decide +kernel
theorem dX6_limitBy_103 : decode cX6_limitBy 103 = .ok (.ireturn, 1) := by decide +kernel
set_option maxRecDepth 20000 in
theorem ggX6_goes_X6_findsNews : GoodIn wsX6_goes wsX6_findsNews := goodIn_r _ [15, 5, 16, 10, 6, 17, 18, 19, 14, 20, 21, 22, 23, 24, 25, 26, 9, 27, 28, 29, 30, 63, 64, 65, 66, 67, 68, 69, 70, 71, 72, 73, 74, 75, 76, 77, 78, 79, 80, 81, 82, 83, 84, 85, 86, 87, 88, 89, 90] (by decide +kernel) (by decide +kernel)
set_option maxRecDepth 20000 in
theorem gX6_goes_X6_findsNews : GoodIn wsX6_goes (wsV RX6 113 RX6 yX6_findsNews wsX6_findsNews) := goodIn_app (goodIn_of _ (by decide +kernel)) ggX6_goes_X6_findsNews
set_option maxRecDepth 20000 in
theorem ggX6_goes_X6_limitBy : GoodIn wsX6_goes wsX6_limitBy := goodIn_r _ [34, 6, 1, 35, 36, 37, 14, 38, 9, 10, 39, 40, 41, 42, 43, 44, 45, 46, 47, 48, 49, 50, 51, 52, 53, 54, 55, 56, 57, 58, 59, 60, 61, 62, 63, 64, 65, 66, 67, 68, 69, 70, 71, 72, 73, 74, 75, 76, 77, 78, 79, 80, 81, 82, 83, 84, 85, 86, 87, 88, 89, 90] (by decide +kernel) (by decide +kernel)
set_option maxRecDepth 20000 in
theorem gX6_goes_X6_limitBy : GoodIn wsX6_goes (wsV RX6 181 RX6 yX6_limitBy wsX6_limitBy) := goodIn_app (goodIn_of _ (by decide +kernel)) ggX6_goes_X6_limitBy
theorem dX6_goes_0 : decode cX6_goes 0 = .ok (.aload_n 0, 1) := by decide +kernel
theorem dX6_goes_1 : decode cX6_goes 1 = .ok (.invokevirtual 113, 3) := by decide +kernel
theorem dX6_goes_4 : decode cX6_goes 4 = .ok (.aload_n 0, 1) := by decide +kernel
theorem dX6_goes_5 : decode cX6_goes 5 = .ok (.iconst 0, 1) := by decide +kernel
theorem dX6_goes_6 : decode cX6_goes 6 = .ok (.putfield 169, 3) := by decide +kernel
theorem dX6_goes_9 : decode cX6_goes 9 = .ok (.aload_n 0, 1) := by decide +kernel
theorem dX6_goes_10 : decode cX6_goes 10 = .ok (.iconst 0, 1) := by decide +kernel
theorem dX6_goes_11 : decode cX6_goes 11 = .ok (.putfield 172, 3) := by decide +kernel
theorem dX6_goes_14 : decode cX6_goes 14 = .ok (.aload_n 0, 1) := by decide +kernel
theorem dX6_goes_15 : decode cX6_goes 15 = .ok (.iconst 0, 1) := by decide +kernel
theorem dX6_goes_16 : decode cX6_goes 16 = .ok (.putfield 175, 3) := by decide +kernel
theorem dX6_goes_19 : decode cX6_goes 19 = .ok (.aload_n 0, 1) := by decide +kernel
theorem dX6_goes_20 : decode cX6_goes 20 = .ok (.iconst (-1), 1) := by decide +kernel
theorem dX6_goes_21 : decode cX6_goes 21 = .ok (.putfield 178, 3) := by decide +kernel
theorem dX6_goes_24 : decode cX6_goes 24 = .ok (.iconst 0, 1) := by decide +kernel
theorem dX6_goes_25 : decode cX6_goes 25 = .ok (.istore_n 3, 1) := by decide +kernel
theorem dX6_goes_26 : decode cX6_goes 26 = .ok (.iload_n 3, 1) := by decide +kernel
theorem dX6_goes_27 : decode cX6_goes 27 = .ok (.aload_n 0, 1) := by decide +kernel
theorem dX6_goes_28 : decode cX6_goes 28 = .ok (.getfield 107, 3) := by decide +kernel
theorem dX6_goes_31 : decode cX6_goes 31 = .ok (.if_icmp .ge 209, 3) := by decide +kernel
theorem dX6_goes_34 : decode cX6_goes 34 = .ok (.aload_n 0, 1) := by decide +kernel
theorem dX6_goes_35 : decode cX6_goes 35 = .ok (.iload_n 1, 1) := by decide +kernel
theorem dX6_goes_36 : decode cX6_goes 36 = .ok (.iload_n 2, 1) := by decide +kernel
theorem dX6_goes_37 : decode cX6_goes 37 = .ok (.iload_n 3, 1) := by decide +kernel
theorem dX6_goes_38 : decode cX6_goes 38 = .ok (.invokevirtual 181, 3) := by decide +kernel
theorem dX6_goes_41 : decode cX6_goes 41 = .ok (.istore 4, 2) := by decide +kernel
theorem dX6_goes_43 : decode cX6_goes 43 = .ok (.iload 4, 2) := by decide +kernel
theorem dX6_goes_45 : decode cX6_goes 45 = .ok (.iconst (-1), 1) := by decide +kernel
theorem dX6_goes_46 : decode cX6_goes 46 = .ok (.if_icmp .ne 7, 3) := by decide +kernel
theorem dX6_goes_49 : decode cX6_goes 49 = .ok (.iconst (-1), 1) := by decide +kernel
theorem dX6_goes_50 : decode cX6_goes 50 = .ok (.goto 25, 3) := by decide +kernel
theorem dX6_goes_53 : decode cX6_goes 53 = .ok (.iload 4, 2) := by decide +kernel
theorem dX6_goes_55 : decode cX6_goes 55 = .ok (.aload_n 0, 1) := by decide +kernel
theorem dX6_goes_56 : decode cX6_goes 56 = .ok (.getfield 26, 3) := by decide +kernel
theorem dX6_goes_59 : decode cX6_goes 59 = .ok (.iload_n 3, 1) := by decide +kernel
theorem dX6_goes_60 : decode cX6_goes 60 = .ok (.iaload, 1) := by decide +kernel
theorem dX6_goes_61 : decode cX6_goes 61 = .ok (.if_icmp .le 8, 3) := by decide +kernel
theorem dX6_goes_64 : decode cX6_goes 64 = .ok (.iload 4, 2) := by decide +kernel
theorem dX6_goes_66 : decode cX6_goes 66 = .ok (.goto 9, 3) := by decide +kernel
theorem dX6_goes_69 : decode cX6_goes 69 = .ok (.aload_n 0, 1) := by decide +kernel
theorem dX6_goes_70 : decode cX6_goes 70 = .ok (.getfield 26, 3) := by decide +kernel
theorem dX6_goes_73 : decode cX6_goes 73 = .ok (.iload_n 3, 1) := by decide +kernel
theorem dX6_goes_74 : decode cX6_goes 74 = .ok (.iaload, 1) := by decide +kernel
theorem dX6_goes_75 : decode cX6_goes 75 = .ok (.istore 5, 2) := by decide +kernel
theorem dX6_goes_77 : decode cX6_goes 77 = .ok (.aload_n 0, 1) := by decide +kernel
theorem dX6_goes_78 : decode cX6_goes 78 = .ok (.getfield 41, 3) := by decide +kernel
theorem dX6_goes_81 : decode cX6_goes 81 = .ok (.iload_n 3, 1) := by decide +kernel
theorem dX6_goes_82 : decode cX6_goes 82 = .ok (.iload 5, 2) := by decide +kernel
theorem dX6_goes_84 : decode cX6_goes 84 = .ok (.iastore, 1) := by decide +kernel
theorem dX6_goes_85 : decode cX6_goes 85 = .ok (.aload_n 0, 1) := by decide +kernel
theorem dX6_goes_86 : decode cX6_goes 86 = .ok (.getfield 44, 3) := by decide +kernel
theorem dX6_goes_89 : decode cX6_goes 89 = .ok (.iload_n 3, 1) := by decide +kernel
theorem dX6_goes_90 : decode cX6_goes 90 = .ok (.iload 5, 2) := by decide +kernel
theorem dX6_goes_92 : decode cX6_goes 92 = .ok (.iconst (-1), 1) := by decide +kernel
theorem dX6_goes_93 : decode cX6_goes 93 = .ok (.if_icmp .eq 30, 3) := by decide +kernel
theorem dX6_goes_96 : decode cX6_goes 96 = .ok (.iload_n 3, 1) := by decide +kernel
theorem dX6_goes_97 : decode cX6_goes 97 = .ok (.iconst 1, 1) := by decide +kernel
theorem dX6_goes_98 : decode cX6_goes 98 = .ok (.iadd, 1) := by decide +kernel
theorem dX6_goes_99 : decode cX6_goes 99 = .ok (.aload_n 0, 1) := by decide +kernel
theorem dX6_goes_100 : decode cX6_goes 100 = .ok (.getfield 107, 3) := by decide +kernel
theorem dX6_goes_103 : decode cX6_goes 103 = .ok (.if_icmp .ge 20, 3) := by decide +kernel
theorem dX6_goes_106 : decode cX6_goes 106 = .ok (.aload_n 0, 1) := by decide +kernel
theorem dX6_goes_107 : decode cX6_goes 107 = .ok (.getfield 26, 3) := by decide +kernel
theorem dX6_goes_110 : decode cX6_goes 110 = .ok (.iload_n 3, 1) := by decide +kernel
theorem dX6_goes_111 : decode cX6_goes 111 = .ok (.iconst 1, 1) := by decide +kernel
theorem dX6_goes_112 : decode cX6_goes 112 = .ok (.iadd, 1) := by decide +kernel
theorem dX6_goes_113 : decode cX6_goes 113 = .ok (.iaload, 1) := by decide +kernel
theorem dX6_goes_114 : decode cX6_goes 114 = .ok (.iload 5, 2) := by decide +kernel
theorem dX6_goes_116 : decode cX6_goes 116 = .ok (.if_icmp .le 7, 3) := by decide +kernel
theorem dX6_goes_119 : decode cX6_goes 119 = .ok (.iconst 1, 1) := by decide +kernel
theorem dX6_goes_120 : decode cX6_goes 120 = .ok (.goto 4, 3) := by decide +kernel
theorem dX6_goes_123 : decode cX6_goes 123 = .ok (.iconst 0, 1) := by decide +kernel
theorem dX6_goes_124 : decode cX6_goes 124 = .ok (.bastore, 1) := by decide +kernel
theorem dX6_goes_125 : decode cX6_goes 125 = .ok (.iload 5, 2) := by decide +kernel
theorem dX6_goes_127 : decode cX6_goes 127 = .ok (.aload_n 0, 1) := by decide +kernel
theorem dX6_goes_128 : decode cX6_goes 128 = .ok (.getfield 13, 3) := by decide +kernel
theorem dX6_goes_131 : decode cX6_goes 131 = .ok (.aload_n 0, 1) := by decide +kernel
theorem dX6_goes_132 : decode cX6_goes 132 = .ok (.getfield 23, 3) := by decide +kernel
theorem dX6_goes_135 : decode cX6_goes 135 = .ok (.iload_n 3, 1) := by decide +kernel
theorem dX6_goes_136 : decode cX6_goes 136 = .ok (.iaload, 1) := by decide +kernel
theorem dX6_goes_137 : decode cX6_goes 137 = .ok (.imul, 1) := by decide +kernel
theorem dX6_goes_138 : decode cX6_goes 138 = .ok (.isub, 1) := by decide +kernel
theorem dX6_goes_139 : decode cX6_goes 139 = .ok (.istore 6, 2) := by decide +kernel
theorem dX6_goes_141 : decode cX6_goes 141 = .ok (.aload_n 0, 1) := by decide +kernel
theorem dX6_goes_142 : decode cX6_goes 142 = .ok (.iload 5, 2) := by decide +kernel
theorem dX6_goes_144 : decode cX6_goes 144 = .ok (.iconst (-1), 1) := by decide +kernel
theorem dX6_goes_145 : decode cX6_goes 145 = .ok (.if_icmp .eq 17, 3) := by decide +kernel
theorem dX6_goes_148 : decode cX6_goes 148 = .ok (.iload 6, 2) := by decide +kernel
theorem dX6_goes_150 : decode cX6_goes 150 = .ok (.aload_n 0, 1) := by decide +kernel
theorem dX6_goes_151 : decode cX6_goes 151 = .ok (.getfield 178, 3) := by decide +kernel
theorem dX6_goes_154 : decode cX6_goes 154 = .ok (.if_icmp .le 8, 3) := by decide +kernel
theorem dX6_goes_157 : decode cX6_goes 157 = .ok (.iload 6, 2) := by decide +kernel
theorem dX6_goes_159 : decode cX6_goes 159 = .ok (.goto 7, 3) := by decide +kernel
theorem dX6_goes_162 : decode cX6_goes 162 = .ok (.aload_n 0, 1) := by decide +kernel
theorem dX6_goes_163 : decode cX6_goes 163 = .ok (.getfield 178, 3) := by decide +kernel
theorem dX6_goes_166 : decode cX6_goes 166 = .ok (.putfield 178, 3) := by decide +kernel
theorem dX6_goes_169 : decode cX6_goes 169 = .ok (.aload_n 0, 1) := by decide +kernel
theorem dX6_goes_170 : decode cX6_goes 170 = .ok (.getfield 44, 3) := by decide +kernel
theorem dX6_goes_173 : decode cX6_goes 173 = .ok (.iload_n 3, 1) := by decide +kernel
theorem dX6_goes_174 : decode cX6_goes 174 = .ok (.baload, 1) := by decide +kernel
theorem dX6_goes_175 : decode cX6_goes 175 = .ok (.ifCond .eq 59, 3) := by decide +kernel
theorem dX6_goes_178 : decode cX6_goes 178 = .ok (.aload_n 0, 1) := by decide +kernel
theorem dX6_goes_179 : decode cX6_goes 179 = .ok (.getfield 26, 3) := by decide +kernel
theorem dX6_goes_182 : decode cX6_goes 182 = .ok (.iload_n 3, 1) := by decide +kernel
theorem dX6_goes_183 : decode cX6_goes 183 = .ok (.iconst 1, 1) := by decide +kernel
theorem dX6_goes_184 : decode cX6_goes 184 = .ok (.iadd, 1) := by decide +kernel
theorem dX6_goes_185 : decode cX6_goes 185 = .ok (.iaload, 1) := by decide +kernel
theorem dX6_goes_186 : decode cX6_goes 186 = .ok (.iload 5, 2) := by decide +kernel
theorem dX6_goes_188 : decode cX6_goes 188 = .ok (.isub, 1) := by decide +kernel
theorem dX6_goes_189 : decode cX6_goes 189 = .ok (.istore 7, 2) := by decide +kernel
theorem dX6_goes_191 : decode cX6_goes 191 = .ok (.aload_n 0, 1) := by decide +kernel
theorem dX6_goes_192 : decode cX6_goes 192 = .ok (.dup, 1) := by decide +kernel
theorem dX6_goes_193 : decode cX6_goes 193 = .ok (.getfield 169, 3) := by decide +kernel
theorem dX6_goes_196 : decode cX6_goes 196 = .ok (.iconst 1, 1) := by decide +kernel
theorem dX6_goes_197 : decode cX6_goes 197 = .ok (.iadd, 1) := by decide +kernel
theorem dX6_goes_198 : decode cX6_goes 198 = .ok (.putfield 169, 3) := by decide +kernel
theorem dX6_goes_201 : decode cX6_goes 201 = .ok (.aload_n 0, 1) := by decide +kernel
theorem dX6_goes_202 : decode cX6_goes 202 = .ok (.dup, 1) := by decide +kernel
theorem dX6_goes_203 : decode cX6_goes 203 = .ok (.getfield 172, 3) := by decide +kernel
theorem dX6_goes_206 : decode cX6_goes 206 = .ok (.iload 7, 2) := by decide +kernel
theorem dX6_goes_208 : decode cX6_goes 208 = .ok (.iadd, 1) := by decide +kernel
theorem dX6_goes_209 : decode cX6_goes 209 = .ok (.putfield 172, 3) := by decide +kernel
theorem dX6_goes_212 : decode cX6_goes 212 = .ok (.aload_n 0, 1) := by decide +kernel
theorem dX6_goes_213 : decode cX6_goes 213 = .ok (.iload 7, 2) := by decide +kernel
theorem dX6_goes_215 : decode cX6_goes 215 = .ok (.aload_n 0, 1) := by decide +kernel
theorem dX6_goes_216 : decode cX6_goes 216 = .ok (.getfield 175, 3) := by decide +kernel
theorem dX6_goes_219 : decode cX6_goes 219 = .ok (.if_icmp .le 8, 3) := by decide +kernel
theorem dX6_goes_222 : decode cX6_goes 222 = .ok (.iload 7, 2) := by decide +kernel
theorem dX6_goes_224 : decode cX6_goes 224 = .ok (.goto 7, 3) := by decide +kernel
theorem dX6_goes_227 : decode cX6_goes 227 = .ok (.aload_n 0, 1) := by decide +kernel
theorem dX6_goes_228 : decode cX6_goes 228 = .ok (.getfield 175, 3) := by decide +kernel
theorem dX6_goes_231 : decode cX6_goes 231 = .ok (.putfield 175, 3) := by decide +kernel
theorem dX6_goes_234 : decode cX6_goes 234 = .ok (.iinc 3 1, 3) := by decide +kernel
theorem dX6_goes_237 : decode cX6_goes 237 = .ok (.goto (-211), 3) := by decide +kernel
theorem dX6_goes_240 : decode cX6_goes 240 = .ok (.return_, 1) := by decide +kernel
set_option maxRecDepth 20000 in
theorem ggX6_goesAs_X6_goes : GoodIn wsX6_goesAs wsX6_goes := goodIn_r _ [7, 8, 9, 10, 11, 12, 13, 14, 15, 16, 17, 18, 19, 20, 6, 21, 22, 23, 24, 25, 26, 27, 28, 29, 30, 31, 32, 33, 34, 35, 36, 37, 38, 39, 40, 41, 42, 43, 44, 45, 46, 47, 48, 49, 50, 51, 52, 53, 54, 55, 56, 57, 58, 59, 60, 61, 62, 63, 64, 65, 66, 67, 68, 69, 70, 71, 72, 73, 74, 75, 76, 77, 78, 79, 80, 81, 82, 83, 84, 85, 86, 87, 88, 89, 90, 91, 92, 93, 94, 95, 96] (by decide +kernel) (by decide +kernel)
set_option maxRecDepth 20000 in
theorem gX6_goesAs_X6_goes : GoodIn wsX6_goesAs (wsV RX6 185 RX6 yX6_goes wsX6_goes) := goodIn_app (goodIn_of _ (by decide +kernel)) ggX6_goesAs_X6_goes
theorem dX6_goesAs_0 : decode cX6_goesAs 0 = .ok (.aload_n 0, 1) := by decide +kernel
theorem dX6_goesAs_1 : decode cX6_goesAs 1 = .ok (.aload_n 0, 1) := by decide +kernel
theorem dX6_goesAs_2 : decode cX6_goesAs 2 = .ok (.getfield 29, 3) := by decide +kernel
theorem dX6_goesAs_5 : decode cX6_goesAs 5 = .ok (.iload_n 1, 1) := by decide +kernel
theorem dX6_goesAs_6 : decode cX6_goesAs 6 = .ok (.iaload, 1) := by decide +kernel
theorem dX6_goesAs_7 : decode cX6_goesAs 7 = .ok (.aload_n 0, 1) := by decide +kernel
theorem dX6_goesAs_8 : decode cX6_goesAs 8 = .ok (.getfield 32, 3) := by decide +kernel
theorem dX6_goesAs_11 : decode cX6_goesAs 11 = .ok (.iload_n 1, 1) := by decide +kernel
theorem dX6_goesAs_12 : decode cX6_goesAs 12 = .ok (.iaload, 1) := by decide +kernel
theorem dX6_goesAs_13 : decode cX6_goesAs 13 = .ok (.invokevirtual 185, 3) := by decide +kernel
theorem dX6_goesAs_16 : decode cX6_goesAs 16 = .ok (.return_, 1) := by decide +kernel
set_option maxRecDepth 20000 in
theorem ggX6_isKept_X6_goesAs : GoodIn wsX6_isKept wsX6_goesAs := goodIn_r _ [9, 10, 11, 12, 13, 14, 8, 15, 4, 16, 17, 2, 18, 19, 20, 21, 22, 23, 24, 25, 26, 27, 28, 29, 30, 31, 32, 33, 34, 35, 36, 37, 38, 39, 40, 41, 42, 43, 44, 45, 46, 47, 48, 49, 50, 51, 52, 53, 54, 55, 56, 57, 58, 59, 60, 61, 62, 63, 64, 65, 66, 67, 68, 69, 70, 71, 72, 73, 74, 75, 76, 77, 78, 79, 80, 81, 82, 83, 84, 85, 86, 87, 88, 89, 90, 91, 92, 93, 94, 95, 96, 97, 98, 99, 100, 101, 102] (by decide +kernel) (by decide +kernel)
set_option maxRecDepth 20000 in
theorem gX6_isKept_X6_goesAs : GoodIn wsX6_isKept (wsV RX6 189 RX6 yX6_goesAs wsX6_goesAs) := goodIn_app (goodIn_of _ (by decide +kernel)) ggX6_isKept_X6_goesAs
theorem dX6_isKept_0 : decode cX6_isKept 0 = .ok (.aload_n 0, 1) := by decide +kernel
theorem dX6_isKept_1 : decode cX6_isKept 1 = .ok (.iload_n 1, 1) := by decide +kernel
theorem dX6_isKept_2 : decode cX6_isKept 2 = .ok (.invokevirtual 189, 3) := by decide +kernel
theorem dX6_isKept_5 : decode cX6_isKept 5 = .ok (.aload_n 0, 1) := by decide +kernel
theorem dX6_isKept_6 : decode cX6_isKept 6 = .ok (.getfield 35, 3) := by decide +kernel
theorem dX6_isKept_9 : decode cX6_isKept 9 = .ok (.iload_n 1, 1) := by decide +kernel
theorem dX6_isKept_10 : decode cX6_isKept 10 = .ok (.iaload, 1) := by decide +kernel
theorem dX6_isKept_11 : decode cX6_isKept 11 = .ok (.iconst (-1), 1) := by decide +kernel
theorem dX6_isKept_12 : decode cX6_isKept 12 = .ok (.if_icmp .eq 16, 3) := by decide +kernel
theorem dX6_isKept_15 : decode cX6_isKept 15 = .ok (.aload_n 0, 1) := by decide +kernel
theorem dX6_isKept_16 : decode cX6_isKept 16 = .ok (.getfield 178, 3) := by decide +kernel
theorem dX6_isKept_19 : decode cX6_isKept 19 = .ok (.aload_n 0, 1) := by decide +kernel
theorem dX6_isKept_20 : decode cX6_isKept 20 = .ok (.getfield 35, 3) := by decide +kernel
theorem dX6_isKept_23 : decode cX6_isKept 23 = .ok (.iload_n 1, 1) := by decide +kernel
theorem dX6_isKept_24 : decode cX6_isKept 24 = .ok (.iaload, 1) := by decide +kernel
theorem dX6_isKept_25 : decode cX6_isKept 25 = .ok (.if_icmp .gt 30, 3) := by decide +kernel
theorem dX6_isKept_28 : decode cX6_isKept 28 = .ok (.aload_n 0, 1) := by decide +kernel
theorem dX6_isKept_29 : decode cX6_isKept 29 = .ok (.getfield 38, 3) := by decide +kernel
theorem dX6_isKept_32 : decode cX6_isKept 32 = .ok (.iload_n 1, 1) := by decide +kernel
theorem dX6_isKept_33 : decode cX6_isKept 33 = .ok (.iaload, 1) := by decide +kernel
theorem dX6_isKept_34 : decode cX6_isKept 34 = .ok (.iconst (-1), 1) := by decide +kernel
theorem dX6_isKept_35 : decode cX6_isKept 35 = .ok (.if_icmp .eq 16, 3) := by decide +kernel
theorem dX6_isKept_38 : decode cX6_isKept 38 = .ok (.aload_n 0, 1) := by decide +kernel
theorem dX6_isKept_39 : decode cX6_isKept 39 = .ok (.getfield 169, 3) := by decide +kernel
theorem dX6_isKept_42 : decode cX6_isKept 42 = .ok (.aload_n 0, 1) := by decide +kernel
theorem dX6_isKept_43 : decode cX6_isKept 43 = .ok (.getfield 38, 3) := by decide +kernel
theorem dX6_isKept_46 : decode cX6_isKept 46 = .ok (.iload_n 1, 1) := by decide +kernel
theorem dX6_isKept_47 : decode cX6_isKept 47 = .ok (.iaload, 1) := by decide +kernel
theorem dX6_isKept_48 : decode cX6_isKept 48 = .ok (.if_icmp .gt 7, 3) := by decide +kernel
theorem dX6_isKept_51 : decode cX6_isKept 51 = .ok (.iconst 1, 1) := by decide +kernel
theorem dX6_isKept_52 : decode cX6_isKept 52 = .ok (.goto 4, 3) := by decide +kernel
theorem dX6_isKept_55 : decode cX6_isKept 55 = .ok (.iconst 0, 1) := by decide +kernel
theorem dX6_isKept_56 : decode cX6_isKept 56 = .ok (.ireturn, 1) := by decide +kernel
set_option maxRecDepth 20000 in
theorem ggX6_forGood_X6_goesAs : GoodIn wsX6_forGood wsX6_goesAs := goodIn_r _ [7, 8, 9, 10, 11, 12, 6, 13, 14, 15, 16, 17, 1, 18, 2, 19, 20, 21, 22, 23, 24, 25, 26, 27, 28, 29, 30, 31, 32, 33, 34, 35, 36, 37, 38, 39, 40, 41, 42, 43, 44, 45, 46, 47, 48, 49, 50, 51, 52, 53, 54, 55, 56, 57, 58, 59, 60, 61, 62, 63, 64, 65, 66, 67, 68, 69, 70, 71, 72, 73, 74, 75, 76, 77, 78, 79, 80, 81, 82, 83, 84, 85, 86, 87, 88, 89, 90, 91, 92, 93, 94, 95, 96, 97, 98, 99, 100] (by decide +kernel) (by decide +kernel)
set_option maxRecDepth 20000 in
theorem gX6_forGood_X6_goesAs : GoodIn wsX6_forGood (wsV RX6 189 RX6 yX6_goesAs wsX6_goesAs) := goodIn_app (goodIn_of _ (by decide +kernel)) ggX6_forGood_X6_goesAs
theorem dX6_forGood_0 : decode cX6_forGood 0 = .ok (.aload_n 0, 1) := by decide +kernel
theorem dX6_forGood_1 : decode cX6_forGood 1 = .ok (.iload_n 1, 1) := by decide +kernel
theorem dX6_forGood_2 : decode cX6_forGood 2 = .ok (.invokevirtual 189, 3) := by decide +kernel
theorem dX6_forGood_5 : decode cX6_forGood 5 = .ok (.aload_n 0, 1) := by decide +kernel
theorem dX6_forGood_6 : decode cX6_forGood 6 = .ok (.getfield 107, 3) := by decide +kernel
theorem dX6_forGood_9 : decode cX6_forGood 9 = .ok (.ifCond .ne 7, 3) := by decide +kernel
theorem dX6_forGood_12 : decode cX6_forGood 12 = .ok (.iconst (-1), 1) := by decide +kernel
theorem dX6_forGood_13 : decode cX6_forGood 13 = .ok (.goto 14, 3) := by decide +kernel
theorem dX6_forGood_16 : decode cX6_forGood 16 = .ok (.aload_n 0, 1) := by decide +kernel
theorem dX6_forGood_17 : decode cX6_forGood 17 = .ok (.getfield 41, 3) := by decide +kernel
theorem dX6_forGood_20 : decode cX6_forGood 20 = .ok (.aload_n 0, 1) := by decide +kernel
theorem dX6_forGood_21 : decode cX6_forGood 21 = .ok (.getfield 107, 3) := by decide +kernel
theorem dX6_forGood_24 : decode cX6_forGood 24 = .ok (.iconst 1, 1) := by decide +kernel
theorem dX6_forGood_25 : decode cX6_forGood 25 = .ok (.isub, 1) := by decide +kernel
theorem dX6_forGood_26 : decode cX6_forGood 26 = .ok (.iaload, 1) := by decide +kernel
theorem dX6_forGood_27 : decode cX6_forGood 27 = .ok (.ireturn, 1) := by decide +kernel
set_option maxRecDepth 20000 in
theorem ggX6_infoOf_X6_goesAs : GoodIn wsX6_infoOf wsX6_goesAs := goodIn_r _ [13, 1, 2, 14, 15, 16, 12, 17, 5, 6, 7, 8, 18, 19, 20, 21, 22, 23, 24, 25, 26, 27, 28, 29, 30, 31, 32, 33, 34, 35, 36, 37, 38, 39, 40, 41, 42, 43, 44, 45, 46, 47, 48, 49, 50, 51, 52, 53, 54, 55, 56, 57, 58, 59, 60, 61, 62, 63, 64, 65, 66, 67, 68, 69, 70, 71, 72, 73, 74, 83, 84, 85, 86, 87, 88, 89, 90, 91, 92, 93, 94, 95, 96, 97, 98, 99, 100, 101, 102, 103, 104, 105, 106, 107, 108, 109, 110] (by decide +kernel) (by decide +kernel)
set_option maxRecDepth 20000 in
theorem gX6_infoOf_X6_goesAs : GoodIn wsX6_infoOf (wsV RX6 189 RX6 yX6_goesAs wsX6_goesAs) := goodIn_app (goodIn_of _ (by decide +kernel)) ggX6_infoOf_X6_goesAs
set_option maxRecDepth 20000 in
theorem ggX6_infoOf_X6_isKept : GoodIn wsX6_infoOf wsX6_isKept := goodIn_r _ [78, 3, 8, 4, 5, 9, 10, 11, 12, 13, 1, 2, 14, 15, 16, 17, 6, 7, 18, 19, 20, 21, 22, 23, 24, 25, 26, 27, 28, 29, 30, 31, 32, 33, 34, 35, 36, 37, 38, 39, 40, 41, 42, 43, 44, 45, 46, 47, 48, 49, 50, 51, 52, 53, 54, 55, 56, 57, 58, 59, 60, 61, 62, 63, 64, 65, 66, 67, 68, 69, 70, 71, 72, 73, 74, 83, 84, 85, 86, 87, 88, 89, 90, 91, 92, 93, 94, 95, 96, 97, 98, 99, 100, 101, 102, 103, 104, 105, 106, 107, 108, 109, 110] (by decide +kernel) (by decide +kernel)
set_option maxRecDepth 20000 in
theorem gX6_infoOf_X6_isKept : GoodIn wsX6_infoOf (wsV RX6 193 RX6 yX6_isKept wsX6_isKept) := goodIn_app (goodIn_of _ (by decide +kernel)) ggX6_infoOf_X6_isKept
set_option maxRecDepth 20000 in
theorem ggX6_infoOf_X6_forGood : GoodIn wsX6_infoOf wsX6_forGood := goodIn_r _ [82, 18, 20, 9, 10, 11, 12, 13, 1, 2, 14, 15, 16, 17, 5, 6, 7, 8, 19, 21, 22, 23, 24, 25, 26, 27, 28, 29, 30, 31, 32, 33, 34, 35, 36, 37, 38, 39, 40, 41, 42, 43, 44, 45, 46, 47, 48, 49, 50, 51, 52, 53, 54, 55, 56, 57, 58, 59, 60, 61, 62, 63, 64, 65, 66, 67, 68, 69, 70, 71, 72, 73, 74, 83, 84, 85, 86, 87, 88, 89, 90, 91, 92, 93, 94, 95, 96, 97, 98, 99, 100, 101, 102, 103, 104, 105, 106, 107, 108, 109, 110] (by decide +kernel) (by decide +kernel)
set_option maxRecDepth 20000 in
theorem gX6_infoOf_X6_forGood : GoodIn wsX6_infoOf (wsV RX6 196 RX6 yX6_forGood wsX6_forGood) := goodIn_app (goodIn_of _ (by decide +kernel)) ggX6_infoOf_X6_forGood
theorem dX6_infoOf_0 : decode cX6_infoOf 0 = .ok (.aload_n 0, 1) := by decide +kernel
theorem dX6_infoOf_1 : decode cX6_infoOf 1 = .ok (.iload_n 1, 1) := by decide +kernel
theorem dX6_infoOf_2 : decode cX6_infoOf 2 = .ok (.invokevirtual 189, 3) := by decide +kernel
theorem dX6_infoOf_5 : decode cX6_infoOf 5 = .ok (.iload_n 2, 1) := by decide +kernel
theorem dX6_infoOf_6 : decode cX6_infoOf 6 = .ok (.tableswitch 112 0 8 #[50, 57, 64, 71, 78, 83, 88, 93, 98], 50) := by decide +kernel
theorem dX6_infoOf_56 : decode cX6_infoOf 56 = .ok (.aload_n 0, 1) := by decide +kernel
theorem dX6_infoOf_57 : decode cX6_infoOf 57 = .ok (.getfield 29, 3) := by decide +kernel
theorem dX6_infoOf_60 : decode cX6_infoOf 60 = .ok (.iload_n 1, 1) := by decide +kernel
theorem dX6_infoOf_61 : decode cX6_infoOf 61 = .ok (.iaload, 1) := by decide +kernel
theorem dX6_infoOf_62 : decode cX6_infoOf 62 = .ok (.ireturn, 1) := by decide +kernel
theorem dX6_infoOf_63 : decode cX6_infoOf 63 = .ok (.aload_n 0, 1) := by decide +kernel
theorem dX6_infoOf_64 : decode cX6_infoOf 64 = .ok (.getfield 32, 3) := by decide +kernel
theorem dX6_infoOf_67 : decode cX6_infoOf 67 = .ok (.iload_n 1, 1) := by decide +kernel
theorem dX6_infoOf_68 : decode cX6_infoOf 68 = .ok (.iaload, 1) := by decide +kernel
theorem dX6_infoOf_69 : decode cX6_infoOf 69 = .ok (.ireturn, 1) := by decide +kernel
theorem dX6_infoOf_70 : decode cX6_infoOf 70 = .ok (.aload_n 0, 1) := by decide +kernel
theorem dX6_infoOf_71 : decode cX6_infoOf 71 = .ok (.getfield 35, 3) := by decide +kernel
theorem dX6_infoOf_74 : decode cX6_infoOf 74 = .ok (.iload_n 1, 1) := by decide +kernel
theorem dX6_infoOf_75 : decode cX6_infoOf 75 = .ok (.iaload, 1) := by decide +kernel
theorem dX6_infoOf_76 : decode cX6_infoOf 76 = .ok (.ireturn, 1) := by decide +kernel
theorem dX6_infoOf_77 : decode cX6_infoOf 77 = .ok (.aload_n 0, 1) := by decide +kernel
theorem dX6_infoOf_78 : decode cX6_infoOf 78 = .ok (.getfield 38, 3) := by decide +kernel
theorem dX6_infoOf_81 : decode cX6_infoOf 81 = .ok (.iload_n 1, 1) := by decide +kernel
theorem dX6_infoOf_82 : decode cX6_infoOf 82 = .ok (.iaload, 1) := by decide +kernel
theorem dX6_infoOf_83 : decode cX6_infoOf 83 = .ok (.ireturn, 1) := by decide +kernel
theorem dX6_infoOf_84 : decode cX6_infoOf 84 = .ok (.aload_n 0, 1) := by decide +kernel
theorem dX6_infoOf_85 : decode cX6_infoOf 85 = .ok (.getfield 169, 3) := by decide +kernel
theorem dX6_infoOf_88 : decode cX6_infoOf 88 = .ok (.ireturn, 1) := by decide +kernel
theorem dX6_infoOf_89 : decode cX6_infoOf 89 = .ok (.aload_n 0, 1) := by decide +kernel
theorem dX6_infoOf_90 : decode cX6_infoOf 90 = .ok (.getfield 172, 3) := by decide +kernel
theorem dX6_infoOf_93 : decode cX6_infoOf 93 = .ok (.ireturn, 1) := by decide +kernel
theorem dX6_infoOf_94 : decode cX6_infoOf 94 = .ok (.aload_n 0, 1) := by decide +kernel
theorem dX6_infoOf_95 : decode cX6_infoOf 95 = .ok (.getfield 175, 3) := by decide +kernel
theorem dX6_infoOf_98 : decode cX6_infoOf 98 = .ok (.ireturn, 1) := by decide +kernel
theorem dX6_infoOf_99 : decode cX6_infoOf 99 = .ok (.aload_n 0, 1) := by decide +kernel
theorem dX6_infoOf_100 : decode cX6_infoOf 100 = .ok (.getfield 178, 3) := by decide +kernel
theorem dX6_infoOf_103 : decode cX6_infoOf 103 = .ok (.ireturn, 1) := by decide +kernel
theorem dX6_infoOf_104 : decode cX6_infoOf 104 = .ok (.aload_n 0, 1) := by decide +kernel
theorem dX6_infoOf_105 : decode cX6_infoOf 105 = .ok (.iload_n 1, 1) := by decide +kernel
theorem dX6_infoOf_106 : decode cX6_infoOf 106 = .ok (.invokevirtual 193, 3) := by decide +kernel
theorem dX6_infoOf_109 : decode cX6_infoOf 109 = .ok (.ifCond .eq 7, 3) := by decide +kernel
theorem dX6_infoOf_112 : decode cX6_infoOf 112 = .ok (.iconst 1, 1) := by decide +kernel
theorem dX6_infoOf_113 : decode cX6_infoOf 113 = .ok (.goto 4, 3) := by decide +kernel
theorem dX6_infoOf_116 : decode cX6_infoOf 116 = .ok (.iconst 0, 1) := by decide +kernel
theorem dX6_infoOf_117 : decode cX6_infoOf 117 = .ok (.ireturn, 1) := by decide +kernel
theorem dX6_infoOf_118 : decode cX6_infoOf 118 = .ok (.aload_n 0, 1) := by decide +kernel
theorem dX6_infoOf_119 : decode cX6_infoOf 119 = .ok (.iload_n 1, 1) := by decide +kernel
theorem dX6_infoOf_120 : decode cX6_infoOf 120 = .ok (.invokevirtual 196, 3) := by decide +kernel
theorem dX6_infoOf_123 : decode cX6_infoOf 123 = .ok (.ireturn, 1) := by decide +kernel
set_option maxRecDepth 20000 in
theorem ggX6_info_X6_isWatcher : GoodIn wsX6_info wsX6_isWatcher := goodIn_r _ [5, 6, 7, 8, 4, 9, 95, 96, 97, 98, 99, 100, 101, 102, 103, 104, 105, 106, 107, 108, 109, 110, 111, 112, 113, 114, 115, 116, 117, 118, 119, 120, 121, 122] (by decide +kernel) (by decide +kernel)
set_option maxRecDepth 20000 in
theorem gX6_info_X6_isWatcher : GoodIn wsX6_info (wsV RX6 160 RX6 yX6_isWatcher wsX6_isWatcher) := goodIn_app (goodIn_of _ (by decide +kernel)) ggX6_info_X6_isWatcher
set_option maxRecDepth 20000 in
theorem ggX6_info_X6_in : GoodIn wsX6_info wsX6_in := goodIn_r _ [9] (by decide +kernel) (by decide +kernel)
set_option maxRecDepth 20000 in
theorem gX6_info_X6_in : GoodIn wsX6_info (va_wsS RX6 76 yX6_in wsX6_in) := goodIn_app (goodIn_of _ (by decide +kernel)) ggX6_info_X6_in
set_option maxRecDepth 20000 in
theorem ggX6_info_X6_infoOf : GoodIn wsX6_info wsX6_infoOf := goodIn_r _ [13, 14, 15, 16, 17, 18, 19, 20, 21, 22, 23, 24, 4, 25, 26, 27, 28, 29, 30, 31, 32, 33, 34, 35, 36, 37, 38, 39, 40, 41, 42, 43, 44, 45, 46, 47, 48, 49, 50, 51, 52, 53, 54, 55, 56, 57, 58, 59, 60, 61, 62, 63, 64, 65, 66, 67, 68, 69, 70, 71, 72, 73, 74, 75, 76, 77, 78, 79, 80, 81, 82, 83, 84, 85, 86, 87, 88, 89, 90, 91, 92, 93, 94, 95, 96, 97, 98, 99, 100, 101, 102, 103, 104, 105, 106, 107, 108, 109, 110, 111, 112, 113, 114, 115, 116, 117, 118, 119, 120, 121, 122] (by decide +kernel) (by decide +kernel)
set_option maxRecDepth 20000 in
theorem gX6_info_X6_infoOf : GoodIn wsX6_info (wsV RX6 199 RX6 yX6_infoOf wsX6_infoOf) := goodIn_app (goodIn_of _ (by decide +kernel)) ggX6_info_X6_infoOf
theorem dX6_info_0 : decode cX6_info 0 = .ok (.aload_n 0, 1) := by decide +kernel
theorem dX6_info_1 : decode cX6_info 1 = .ok (.iload_n 1, 1) := by decide +kernel
theorem dX6_info_2 : decode cX6_info 2 = .ok (.invokevirtual 160, 3) := by decide +kernel
theorem dX6_info_5 : decode cX6_info 5 = .ok (.ifCond .eq 22, 3) := by decide +kernel
theorem dX6_info_8 : decode cX6_info 8 = .ok (.iload_n 2, 1) := by decide +kernel
theorem dX6_info_9 : decode cX6_info 9 = .ok (.iconst 0, 1) := by decide +kernel
theorem dX6_info_10 : decode cX6_info 10 = .ok (.bipush 9, 2) := by decide +kernel
theorem dX6_info_12 : decode cX6_info 12 = .ok (.invokestatic 76, 3) := by decide +kernel
theorem dX6_info_15 : decode cX6_info 15 = .ok (.ifCond .eq 12, 3) := by decide +kernel
theorem dX6_info_18 : decode cX6_info 18 = .ok (.aload_n 0, 1) := by decide +kernel
theorem dX6_info_19 : decode cX6_info 19 = .ok (.iload_n 1, 1) := by decide +kernel
theorem dX6_info_20 : decode cX6_info 20 = .ok (.iload_n 2, 1) := by decide +kernel
theorem dX6_info_21 : decode cX6_info 21 = .ok (.invokevirtual 199, 3) := by decide +kernel
theorem dX6_info_24 : decode cX6_info 24 = .ok (.goto 5, 3) := by decide +kernel
theorem dX6_info_27 : decode cX6_info 27 = .ok (.bipush (-2), 2) := by decide +kernel
theorem dX6_info_29 : decode cX6_info 29 = .ok (.ireturn, 1) := by decide +kernel
set_option maxRecDepth 20000 in
theorem ggX6_ledgerOf_X6_goesAs : GoodIn wsX6_ledgerOf wsX6_goesAs := goodIn_r _ [9, 10, 11, 12, 13, 14, 8, 15, 16, 17, 18, 19, 1, 4, 3, 2, 20, 21, 22, 23, 24, 25, 26, 27, 28, 29, 30, 31, 32, 33, 34, 35, 36, 37, 38, 39, 40, 41, 42, 43, 44, 45, 46, 47, 48, 49, 50, 51, 52, 53, 54, 55, 56, 57, 58, 59, 60, 61, 62, 63, 64, 65, 66, 67, 68, 69, 70, 71, 72, 73, 74, 75, 76, 77, 78, 79, 80, 81, 82, 83, 84, 85, 86, 87, 88, 89, 90, 91, 92, 93, 94, 95, 96, 97, 98, 99, 100] (by decide +kernel) (by decide +kernel)
set_option maxRecDepth 20000 in
theorem gX6_ledgerOf_X6_goesAs : GoodIn wsX6_ledgerOf (wsV RX6 189 RX6 yX6_goesAs wsX6_goesAs) := goodIn_app (goodIn_of _ (by decide +kernel)) ggX6_ledgerOf_X6_goesAs
theorem dX6_ledgerOf_0 : decode cX6_ledgerOf 0 = .ok (.aload_n 0, 1) := by decide +kernel
theorem dX6_ledgerOf_1 : decode cX6_ledgerOf 1 = .ok (.iload_n 1, 1) := by decide +kernel
theorem dX6_ledgerOf_2 : decode cX6_ledgerOf 2 = .ok (.invokevirtual 189, 3) := by decide +kernel
theorem dX6_ledgerOf_5 : decode cX6_ledgerOf 5 = .ok (.iload_n 2, 1) := by decide +kernel
theorem dX6_ledgerOf_6 : decode cX6_ledgerOf 6 = .ok (.istore 4, 2) := by decide +kernel
theorem dX6_ledgerOf_8 : decode cX6_ledgerOf 8 = .ok (.bipush (-2), 2) := by decide +kernel
theorem dX6_ledgerOf_10 : decode cX6_ledgerOf 10 = .ok (.istore 5, 2) := by decide +kernel
theorem dX6_ledgerOf_12 : decode cX6_ledgerOf 12 = .ok (.iconst 0, 1) := by decide +kernel
theorem dX6_ledgerOf_13 : decode cX6_ledgerOf 13 = .ok (.istore 6, 2) := by decide +kernel
theorem dX6_ledgerOf_15 : decode cX6_ledgerOf 15 = .ok (.iload 6, 2) := by decide +kernel
theorem dX6_ledgerOf_17 : decode cX6_ledgerOf 17 = .ok (.aload_n 0, 1) := by decide +kernel
theorem dX6_ledgerOf_18 : decode cX6_ledgerOf 18 = .ok (.getfield 107, 3) := by decide +kernel
theorem dX6_ledgerOf_21 : decode cX6_ledgerOf 21 = .ok (.if_icmp .ge 96, 3) := by decide +kernel
theorem dX6_ledgerOf_24 : decode cX6_ledgerOf 24 = .ok (.aload_n 0, 1) := by decide +kernel
theorem dX6_ledgerOf_25 : decode cX6_ledgerOf 25 = .ok (.getfield 44, 3) := by decide +kernel
theorem dX6_ledgerOf_28 : decode cX6_ledgerOf 28 = .ok (.iload 6, 2) := by decide +kernel
theorem dX6_ledgerOf_30 : decode cX6_ledgerOf 30 = .ok (.baload, 1) := by decide +kernel
theorem dX6_ledgerOf_31 : decode cX6_ledgerOf 31 = .ok (.ifCond .eq 12, 3) := by decide +kernel
theorem dX6_ledgerOf_34 : decode cX6_ledgerOf 34 = .ok (.iload 4, 2) := by decide +kernel
theorem dX6_ledgerOf_36 : decode cX6_ledgerOf 36 = .ok (.ifCond .ne 7, 3) := by decide +kernel
theorem dX6_ledgerOf_39 : decode cX6_ledgerOf 39 = .ok (.iconst 1, 1) := by decide +kernel
theorem dX6_ledgerOf_40 : decode cX6_ledgerOf 40 = .ok (.goto 4, 3) := by decide +kernel
theorem dX6_ledgerOf_43 : decode cX6_ledgerOf 43 = .ok (.iconst 0, 1) := by decide +kernel
theorem dX6_ledgerOf_44 : decode cX6_ledgerOf 44 = .ok (.istore 7, 2) := by decide +kernel
theorem dX6_ledgerOf_46 : decode cX6_ledgerOf 46 = .ok (.iload 7, 2) := by decide +kernel
theorem dX6_ledgerOf_48 : decode cX6_ledgerOf 48 = .ok (.ifCond .eq 39, 3) := by decide +kernel
theorem dX6_ledgerOf_51 : decode cX6_ledgerOf 51 = .ok (.iload_n 3, 1) := by decide +kernel
theorem dX6_ledgerOf_52 : decode cX6_ledgerOf 52 = .ok (.ifCond .ne 13, 3) := by decide +kernel
theorem dX6_ledgerOf_55 : decode cX6_ledgerOf 55 = .ok (.aload_n 0, 1) := by decide +kernel
theorem dX6_ledgerOf_56 : decode cX6_ledgerOf 56 = .ok (.getfield 41, 3) := by decide +kernel
theorem dX6_ledgerOf_59 : decode cX6_ledgerOf 59 = .ok (.iload 6, 2) := by decide +kernel
theorem dX6_ledgerOf_61 : decode cX6_ledgerOf 61 = .ok (.iaload, 1) := by decide +kernel
theorem dX6_ledgerOf_62 : decode cX6_ledgerOf 62 = .ok (.goto 27, 3) := by decide +kernel
theorem dX6_ledgerOf_65 : decode cX6_ledgerOf 65 = .ok (.iload_n 3, 1) := by decide +kernel
theorem dX6_ledgerOf_66 : decode cX6_ledgerOf 66 = .ok (.iconst 1, 1) := by decide +kernel
theorem dX6_ledgerOf_67 : decode cX6_ledgerOf 67 = .ok (.if_icmp .ne 15, 3) := by decide +kernel
theorem dX6_ledgerOf_70 : decode cX6_ledgerOf 70 = .ok (.aload_n 0, 1) := by decide +kernel
theorem dX6_ledgerOf_71 : decode cX6_ledgerOf 71 = .ok (.getfield 26, 3) := by decide +kernel
theorem dX6_ledgerOf_74 : decode cX6_ledgerOf 74 = .ok (.iload 6, 2) := by decide +kernel
theorem dX6_ledgerOf_76 : decode cX6_ledgerOf 76 = .ok (.iconst 1, 1) := by decide +kernel
theorem dX6_ledgerOf_77 : decode cX6_ledgerOf 77 = .ok (.iadd, 1) := by decide +kernel
theorem dX6_ledgerOf_78 : decode cX6_ledgerOf 78 = .ok (.iaload, 1) := by decide +kernel
theorem dX6_ledgerOf_79 : decode cX6_ledgerOf 79 = .ok (.goto 10, 3) := by decide +kernel
theorem dX6_ledgerOf_82 : decode cX6_ledgerOf 82 = .ok (.iload 6, 2) := by decide +kernel
theorem dX6_ledgerOf_84 : decode cX6_ledgerOf 84 = .ok (.goto 5, 3) := by decide +kernel
theorem dX6_ledgerOf_87 : decode cX6_ledgerOf 87 = .ok (.iload 5, 2) := by decide +kernel
theorem dX6_ledgerOf_89 : decode cX6_ledgerOf 89 = .ok (.istore 5, 2) := by decide +kernel
theorem dX6_ledgerOf_91 : decode cX6_ledgerOf 91 = .ok (.iload 4, 2) := by decide +kernel
theorem dX6_ledgerOf_93 : decode cX6_ledgerOf 93 = .ok (.aload_n 0, 1) := by decide +kernel
theorem dX6_ledgerOf_94 : decode cX6_ledgerOf 94 = .ok (.getfield 44, 3) := by decide +kernel
theorem dX6_ledgerOf_97 : decode cX6_ledgerOf 97 = .ok (.iload 6, 2) := by decide +kernel
theorem dX6_ledgerOf_99 : decode cX6_ledgerOf 99 = .ok (.baload, 1) := by decide +kernel
theorem dX6_ledgerOf_100 : decode cX6_ledgerOf 100 = .ok (.ifCond .eq 7, 3) := by decide +kernel
theorem dX6_ledgerOf_103 : decode cX6_ledgerOf 103 = .ok (.iconst 1, 1) := by decide +kernel
theorem dX6_ledgerOf_104 : decode cX6_ledgerOf 104 = .ok (.goto 4, 3) := by decide +kernel
theorem dX6_ledgerOf_107 : decode cX6_ledgerOf 107 = .ok (.iconst 0, 1) := by decide +kernel
theorem dX6_ledgerOf_108 : decode cX6_ledgerOf 108 = .ok (.isub, 1) := by decide +kernel
theorem dX6_ledgerOf_109 : decode cX6_ledgerOf 109 = .ok (.istore 4, 2) := by decide +kernel
theorem dX6_ledgerOf_111 : decode cX6_ledgerOf 111 = .ok (.iinc 6 1, 3) := by decide +kernel
theorem dX6_ledgerOf_114 : decode cX6_ledgerOf 114 = .ok (.goto (-99), 3) := by decide +kernel
theorem dX6_ledgerOf_117 : decode cX6_ledgerOf 117 = .ok (.iload 5, 2) := by decide +kernel
theorem dX6_ledgerOf_119 : decode cX6_ledgerOf 119 = .ok (.ireturn, 1) := by decide +kernel
set_option maxRecDepth 20000 in
theorem ggX6_ledger_X6_isWatcher : GoodIn wsX6_ledger wsX6_isWatcher := goodIn_r _ [5, 6, 7, 8, 4, 9, 85, 86, 87, 88, 89, 90, 91, 92, 93, 94, 95, 96, 97, 98, 99, 100, 101, 102, 103, 104, 105, 106, 107, 108, 109, 110, 111, 112] (by decide +kernel) (by decide +kernel)
set_option maxRecDepth 20000 in
theorem gX6_ledger_X6_isWatcher : GoodIn wsX6_ledger (wsV RX6 160 RX6 yX6_isWatcher wsX6_isWatcher) := goodIn_app (goodIn_of _ (by decide +kernel)) ggX6_ledger_X6_isWatcher
set_option maxRecDepth 20000 in
theorem ggX6_ledger_X6_in : GoodIn wsX6_ledger wsX6_in := goodIn_r _ [9] (by decide +kernel) (by decide +kernel)
set_option maxRecDepth 20000 in
theorem gX6_ledger_X6_in : GoodIn wsX6_ledger (va_wsS RX6 76 yX6_in wsX6_in) := goodIn_app (goodIn_of _ (by decide +kernel)) ggX6_ledger_X6_in
set_option maxRecDepth 20000 in
theorem ggX6_ledger_X6_ledgerOf : GoodIn wsX6_ledger wsX6_ledgerOf := goodIn_r _ [13, 14, 15, 16, 17, 18, 19, 20, 4, 21, 22, 23, 24, 25, 26, 27, 28, 29, 30, 31, 32, 33, 34, 35, 36, 37, 38, 39, 40, 41, 42, 43, 44, 45, 46, 47, 48, 49, 50, 51, 52, 53, 54, 55, 56, 57, 58, 59, 60, 61, 62, 63, 64, 65, 66, 67, 68, 69, 70, 71, 72, 73, 74, 75, 76, 77, 78, 79, 80, 81, 82, 83, 84, 85, 86, 87, 88, 89, 90, 91, 92, 93, 94, 95, 96, 97, 98, 99, 100, 101, 102, 103, 104, 105, 106, 107, 108, 109, 110, 111, 112] (by decide +kernel) (by decide +kernel)
set_option maxRecDepth 20000 in
theorem gX6_ledger_X6_ledgerOf : GoodIn wsX6_ledger (wsV RX6 202 RX6 yX6_ledgerOf wsX6_ledgerOf) := goodIn_app (goodIn_of _ (by decide +kernel)) ggX6_ledger_X6_ledgerOf
theorem dX6_ledger_0 : decode cX6_ledger 0 = .ok (.aload_n 0, 1) := by decide +kernel
theorem dX6_ledger_1 : decode cX6_ledger 1 = .ok (.iload_n 1, 1) := by decide +kernel
theorem dX6_ledger_2 : decode cX6_ledger 2 = .ok (.invokevirtual 160, 3) := by decide +kernel
theorem dX6_ledger_5 : decode cX6_ledger 5 = .ok (.ifCond .eq 26, 3) := by decide +kernel
theorem dX6_ledger_8 : decode cX6_ledger 8 = .ok (.iload_n 2, 1) := by decide +kernel
theorem dX6_ledger_9 : decode cX6_ledger 9 = .ok (.ifCond .lt 22, 3) := by decide +kernel
theorem dX6_ledger_12 : decode cX6_ledger 12 = .ok (.iload_n 3, 1) := by decide +kernel
theorem dX6_ledger_13 : decode cX6_ledger 13 = .ok (.iconst 0, 1) := by decide +kernel
theorem dX6_ledger_14 : decode cX6_ledger 14 = .ok (.iconst 2, 1) := by decide +kernel
theorem dX6_ledger_15 : decode cX6_ledger 15 = .ok (.invokestatic 76, 3) := by decide +kernel
theorem dX6_ledger_18 : decode cX6_ledger 18 = .ok (.ifCond .eq 13, 3) := by decide +kernel
theorem dX6_ledger_21 : decode cX6_ledger 21 = .ok (.aload_n 0, 1) := by decide +kernel
theorem dX6_ledger_22 : decode cX6_ledger 22 = .ok (.iload_n 1, 1) := by decide +kernel
theorem dX6_ledger_23 : decode cX6_ledger 23 = .ok (.iload_n 2, 1) := by decide +kernel
theorem dX6_ledger_24 : decode cX6_ledger 24 = .ok (.iload_n 3, 1) := by decide +kernel
theorem dX6_ledger_25 : decode cX6_ledger 25 = .ok (.invokevirtual 202, 3) := by decide +kernel
theorem dX6_ledger_28 : decode cX6_ledger 28 = .ok (.goto 5, 3) := by decide +kernel
theorem dX6_ledger_31 : decode cX6_ledger 31 = .ok (.bipush (-2), 2) := by decide +kernel
theorem dX6_ledger_33 : decode cX6_ledger 33 = .ok (.ireturn, 1) := by decide +kernel
set_option maxRecDepth 20000 in
theorem ggX6_limitOf_X6_goesAs : GoodIn wsX6_limitOf wsX6_goesAs := goodIn_r _ [6, 7, 8, 9, 10, 11, 5, 12, 13, 14, 15, 16, 17, 18, 1, 19, 20, 21, 22, 23, 24, 25, 26, 27, 28, 29, 30, 31, 32, 33, 34, 35, 36, 37, 38, 39, 40, 41, 42, 43, 44, 45, 46, 47, 48, 49, 50, 51, 52, 53, 54, 55, 56, 57, 58, 59, 60, 61, 62, 63, 64, 65, 66, 67, 68, 69, 70, 71, 72, 73, 74, 75, 76, 77, 78, 79, 80, 81, 82, 83, 84, 85, 86, 87, 88, 89, 90, 91, 92, 93, 94, 95, 96, 97, 98, 99, 100] (by decide +kernel) (by decide +kernel)
set_option maxRecDepth 20000 in
theorem gX6_limitOf_X6_goesAs : GoodIn wsX6_limitOf (wsV RX6 189 RX6 yX6_goesAs wsX6_goesAs) := goodIn_app (goodIn_of _ (by decide +kernel)) ggX6_limitOf_X6_goesAs
theorem dX6_limitOf_0 : decode cX6_limitOf 0 = .ok (.aload_n 0, 1) := by decide +kernel
theorem dX6_limitOf_1 : decode cX6_limitOf 1 = .ok (.iload_n 1, 1) := by decide +kernel
theorem dX6_limitOf_2 : decode cX6_limitOf 2 = .ok (.invokevirtual 189, 3) := by decide +kernel
theorem dX6_limitOf_5 : decode cX6_limitOf 5 = .ok (.aload_n 0, 1) := by decide +kernel
theorem dX6_limitOf_6 : decode cX6_limitOf 6 = .ok (.getfield 41, 3) := by decide +kernel
theorem dX6_limitOf_9 : decode cX6_limitOf 9 = .ok (.iload_n 2, 1) := by decide +kernel
theorem dX6_limitOf_10 : decode cX6_limitOf 10 = .ok (.iaload, 1) := by decide +kernel
theorem dX6_limitOf_11 : decode cX6_limitOf 11 = .ok (.ireturn, 1) := by decide +kernel
set_option maxRecDepth 20000 in
theorem ggX6_limit_X6_isWatcher : GoodIn wsX6_limit wsX6_isWatcher := goodIn_r _ [5, 6, 7, 8, 4, 9, 89, 90, 91, 92, 93, 94, 95, 96, 97, 98, 99, 100, 101, 102, 103, 104, 105, 106, 107, 108, 109, 110, 111, 112, 113, 114, 115, 116] (by decide +kernel) (by decide +kernel)
set_option maxRecDepth 20000 in
theorem gX6_limit_X6_isWatcher : GoodIn wsX6_limit (wsV RX6 160 RX6 yX6_isWatcher wsX6_isWatcher) := goodIn_app (goodIn_of _ (by decide +kernel)) ggX6_limit_X6_isWatcher
set_option maxRecDepth 20000 in
theorem ggX6_limit_X6_hasNews : GoodIn wsX6_limit wsX6_hasNews := goodIn_r _ [13, 14, 15, 16, 17, 4, 18, 19, 20, 21, 22, 23, 24, 25, 26, 27, 28, 29, 30, 31, 32, 33, 34, 35, 36, 7, 8, 9, 89, 90, 91, 92, 93, 94, 95, 96, 97, 98, 99, 100, 101, 102, 103, 104, 105, 106, 107, 108, 109, 110, 111, 112, 113, 114, 115, 116] (by decide +kernel) (by decide +kernel)
set_option maxRecDepth 20000 in
theorem gX6_limit_X6_hasNews : GoodIn wsX6_limit (wsV RX6 123 RX6 yX6_hasNews wsX6_hasNews) := goodIn_app (goodIn_of _ (by decide +kernel)) ggX6_limit_X6_hasNews
set_option maxRecDepth 20000 in
theorem ggX6_limit_X6_limitOf : GoodIn wsX6_limit wsX6_limitOf := goodIn_r _ [40, 41, 42, 43, 44, 4, 45, 46, 47, 48, 49, 50, 51, 52, 53, 54, 55, 14, 21, 56, 32, 20, 15, 16, 17, 18, 19, 22, 23, 24, 25, 26, 27, 28, 29, 30, 31, 33, 34, 35, 36, 57, 58, 59, 60, 61, 62, 63, 64, 65, 66, 67, 68, 69, 70, 71, 72, 73, 74, 75, 76, 77, 78, 79, 80, 81, 82, 83, 84, 85, 86, 87, 88, 89, 90, 91, 92, 93, 94, 95, 96, 97, 98, 99, 100, 101, 102, 103, 104, 105, 106, 107, 108, 109, 110, 111, 112, 113, 114, 115, 116] (by decide +kernel) (by decide +kernel)
set_option maxRecDepth 20000 in
theorem gX6_limit_X6_limitOf : GoodIn wsX6_limit (wsV RX6 205 RX6 yX6_limitOf wsX6_limitOf) := goodIn_app (goodIn_of _ (by decide +kernel)) ggX6_limit_X6_limitOf
theorem dX6_limit_0 : decode cX6_limit 0 = .ok (.aload_n 0, 1) := by decide +kernel
theorem dX6_limit_1 : decode cX6_limit 1 = .ok (.iload_n 1, 1) := by decide +kernel
theorem dX6_limit_2 : decode cX6_limit 2 = .ok (.invokevirtual 160, 3) := by decide +kernel
theorem dX6_limit_5 : decode cX6_limit 5 = .ok (.ifCond .eq 20, 3) := by decide +kernel
theorem dX6_limit_8 : decode cX6_limit 8 = .ok (.aload_n 0, 1) := by decide +kernel
theorem dX6_limit_9 : decode cX6_limit 9 = .ok (.iload_n 2, 1) := by decide +kernel
theorem dX6_limit_10 : decode cX6_limit 10 = .ok (.invokevirtual 123, 3) := by decide +kernel
theorem dX6_limit_13 : decode cX6_limit 13 = .ok (.ifCond .eq 12, 3) := by decide +kernel
theorem dX6_limit_16 : decode cX6_limit 16 = .ok (.aload_n 0, 1) := by decide +kernel
theorem dX6_limit_17 : decode cX6_limit 17 = .ok (.iload_n 1, 1) := by decide +kernel
theorem dX6_limit_18 : decode cX6_limit 18 = .ok (.iload_n 2, 1) := by decide +kernel
theorem dX6_limit_19 : decode cX6_limit 19 = .ok (.invokevirtual 205, 3) := by decide +kernel
theorem dX6_limit_22 : decode cX6_limit 22 = .ok (.goto 5, 3) := by decide +kernel
theorem dX6_limit_25 : decode cX6_limit 25 = .ok (.bipush (-2), 2) := by decide +kernel
theorem dX6_limit_27 : decode cX6_limit 27 = .ok (.ireturn, 1) := by decide +kernel
set_option maxRecDepth 20000 in
theorem ggX6_isDoubting_X6_goesAs : GoodIn wsX6_isDoubting wsX6_goesAs := goodIn_r _ [9, 10, 11, 12, 13, 14, 8, 15, 16, 17, 18, 19, 1, 4, 2, 3, 20, 21, 22, 23, 24, 25, 26, 27, 28, 29, 30, 31, 32, 33, 34, 35, 36, 37, 38, 39, 40, 41, 42, 43, 44, 45, 46, 47, 48, 49, 50, 51, 52, 53, 54, 55, 56, 57, 58, 59, 60, 61, 62, 63, 64, 65, 66, 67, 68, 69, 70, 71, 72, 73, 74, 75, 76, 77, 78, 79, 80, 81, 82, 83, 84, 85, 86, 87, 88, 89, 90, 91, 92, 93, 94, 95, 96, 97, 98, 99, 100] (by decide +kernel) (by decide +kernel)
set_option maxRecDepth 20000 in
theorem gX6_isDoubting_X6_goesAs : GoodIn wsX6_isDoubting (wsV RX6 189 RX6 yX6_goesAs wsX6_goesAs) := goodIn_app (goodIn_of _ (by decide +kernel)) ggX6_isDoubting_X6_goesAs
theorem dX6_isDoubting_0 : decode cX6_isDoubting 0 = .ok (.aload_n 0, 1) := by decide +kernel
theorem dX6_isDoubting_1 : decode cX6_isDoubting 1 = .ok (.iload_n 1, 1) := by decide +kernel
theorem dX6_isDoubting_2 : decode cX6_isDoubting 2 = .ok (.invokevirtual 189, 3) := by decide +kernel
theorem dX6_isDoubting_5 : decode cX6_isDoubting 5 = .ok (.iconst 0, 1) := by decide +kernel
theorem dX6_isDoubting_6 : decode cX6_isDoubting 6 = .ok (.istore_n 3, 1) := by decide +kernel
theorem dX6_isDoubting_7 : decode cX6_isDoubting 7 = .ok (.iconst 0, 1) := by decide +kernel
theorem dX6_isDoubting_8 : decode cX6_isDoubting 8 = .ok (.istore 4, 2) := by decide +kernel
theorem dX6_isDoubting_10 : decode cX6_isDoubting 10 = .ok (.iload 4, 2) := by decide +kernel
theorem dX6_isDoubting_12 : decode cX6_isDoubting 12 = .ok (.aload_n 0, 1) := by decide +kernel
theorem dX6_isDoubting_13 : decode cX6_isDoubting 13 = .ok (.getfield 107, 3) := by decide +kernel
theorem dX6_isDoubting_16 : decode cX6_isDoubting 16 = .ok (.if_icmp .ge 87, 3) := by decide +kernel
theorem dX6_isDoubting_19 : decode cX6_isDoubting 19 = .ok (.iload 4, 2) := by decide +kernel
theorem dX6_isDoubting_21 : decode cX6_isDoubting 21 = .ok (.iconst 1, 1) := by decide +kernel
theorem dX6_isDoubting_22 : decode cX6_isDoubting 22 = .ok (.iadd, 1) := by decide +kernel
theorem dX6_isDoubting_23 : decode cX6_isDoubting 23 = .ok (.aload_n 0, 1) := by decide +kernel
theorem dX6_isDoubting_24 : decode cX6_isDoubting 24 = .ok (.getfield 107, 3) := by decide +kernel
theorem dX6_isDoubting_27 : decode cX6_isDoubting 27 = .ok (.if_icmp .ne 7, 3) := by decide +kernel
theorem dX6_isDoubting_30 : decode cX6_isDoubting 30 = .ok (.iconst 1, 1) := by decide +kernel
theorem dX6_isDoubting_31 : decode cX6_isDoubting 31 = .ok (.goto 4, 3) := by decide +kernel
theorem dX6_isDoubting_34 : decode cX6_isDoubting 34 = .ok (.iconst 0, 1) := by decide +kernel
theorem dX6_isDoubting_35 : decode cX6_isDoubting 35 = .ok (.istore 5, 2) := by decide +kernel
theorem dX6_isDoubting_37 : decode cX6_isDoubting 37 = .ok (.iload_n 3, 1) := by decide +kernel
theorem dX6_isDoubting_38 : decode cX6_isDoubting 38 = .ok (.ifCond .ne 53, 3) := by decide +kernel
theorem dX6_isDoubting_41 : decode cX6_isDoubting 41 = .ok (.aload_n 0, 1) := by decide +kernel
theorem dX6_isDoubting_42 : decode cX6_isDoubting 42 = .ok (.getfield 41, 3) := by decide +kernel
theorem dX6_isDoubting_45 : decode cX6_isDoubting 45 = .ok (.iload 4, 2) := by decide +kernel
theorem dX6_isDoubting_47 : decode cX6_isDoubting 47 = .ok (.iaload, 1) := by decide +kernel
theorem dX6_isDoubting_48 : decode cX6_isDoubting 48 = .ok (.iconst (-1), 1) := by decide +kernel
theorem dX6_isDoubting_49 : decode cX6_isDoubting 49 = .ok (.if_icmp .eq 46, 3) := by decide +kernel
theorem dX6_isDoubting_52 : decode cX6_isDoubting 52 = .ok (.aload_n 0, 1) := by decide +kernel
theorem dX6_isDoubting_53 : decode cX6_isDoubting 53 = .ok (.getfield 41, 3) := by decide +kernel
theorem dX6_isDoubting_56 : decode cX6_isDoubting 56 = .ok (.iload 4, 2) := by decide +kernel
theorem dX6_isDoubting_58 : decode cX6_isDoubting 58 = .ok (.iaload, 1) := by decide +kernel
theorem dX6_isDoubting_59 : decode cX6_isDoubting 59 = .ok (.iload_n 2, 1) := by decide +kernel
theorem dX6_isDoubting_60 : decode cX6_isDoubting 60 = .ok (.if_icmp .gt 35, 3) := by decide +kernel
theorem dX6_isDoubting_63 : decode cX6_isDoubting 63 = .ok (.iload 5, 2) := by decide +kernel
theorem dX6_isDoubting_65 : decode cX6_isDoubting 65 = .ok (.ifCond .ne 26, 3) := by decide +kernel
theorem dX6_isDoubting_68 : decode cX6_isDoubting 68 = .ok (.aload_n 0, 1) := by decide +kernel
theorem dX6_isDoubting_69 : decode cX6_isDoubting 69 = .ok (.getfield 44, 3) := by decide +kernel
theorem dX6_isDoubting_72 : decode cX6_isDoubting 72 = .ok (.iload 4, 2) := by decide +kernel
theorem dX6_isDoubting_74 : decode cX6_isDoubting 74 = .ok (.baload, 1) := by decide +kernel
theorem dX6_isDoubting_75 : decode cX6_isDoubting 75 = .ok (.ifCond .eq 20, 3) := by decide +kernel
theorem dX6_isDoubting_78 : decode cX6_isDoubting 78 = .ok (.iload_n 2, 1) := by decide +kernel
theorem dX6_isDoubting_79 : decode cX6_isDoubting 79 = .ok (.aload_n 0, 1) := by decide +kernel
theorem dX6_isDoubting_80 : decode cX6_isDoubting 80 = .ok (.getfield 26, 3) := by decide +kernel
theorem dX6_isDoubting_83 : decode cX6_isDoubting 83 = .ok (.iload 4, 2) := by decide +kernel
theorem dX6_isDoubting_85 : decode cX6_isDoubting 85 = .ok (.iconst 1, 1) := by decide +kernel
theorem dX6_isDoubting_86 : decode cX6_isDoubting 86 = .ok (.iadd, 1) := by decide +kernel
theorem dX6_isDoubting_87 : decode cX6_isDoubting 87 = .ok (.iaload, 1) := by decide +kernel
theorem dX6_isDoubting_88 : decode cX6_isDoubting 88 = .ok (.if_icmp .ge 7, 3) := by decide +kernel
theorem dX6_isDoubting_91 : decode cX6_isDoubting 91 = .ok (.iconst 1, 1) := by decide +kernel
theorem dX6_isDoubting_92 : decode cX6_isDoubting 92 = .ok (.goto 4, 3) := by decide +kernel
theorem dX6_isDoubting_95 : decode cX6_isDoubting 95 = .ok (.iconst 0, 1) := by decide +kernel
theorem dX6_isDoubting_96 : decode cX6_isDoubting 96 = .ok (.istore_n 3, 1) := by decide +kernel
theorem dX6_isDoubting_97 : decode cX6_isDoubting 97 = .ok (.iinc 4 1, 3) := by decide +kernel
theorem dX6_isDoubting_100 : decode cX6_isDoubting 100 = .ok (.goto (-90), 3) := by decide +kernel
theorem dX6_isDoubting_103 : decode cX6_isDoubting 103 = .ok (.iload_n 3, 1) := by decide +kernel
theorem dX6_isDoubting_104 : decode cX6_isDoubting 104 = .ok (.ireturn, 1) := by decide +kernel
set_option maxRecDepth 20000 in
theorem ggX6_doubtsAt_X6_isDoubting : GoodIn wsX6_doubtsAt wsX6_isDoubting := goodIn_r _ [6, 7, 8, 9, 10, 11, 12, 13, 5, 14, 15, 16, 17, 18, 19, 20, 21, 22, 23, 24, 25, 26, 27, 28, 29, 30, 31, 32, 33, 34, 35, 36, 37, 38, 39, 40, 41, 42, 43, 44, 45, 46, 47, 48, 49, 50, 51, 52, 53, 54, 55, 56, 57, 58, 59, 60, 61, 62, 63, 64, 65, 66, 67, 68, 69, 70, 71, 72, 73, 74, 75, 76, 77, 78, 79, 80, 81, 82, 83, 84, 85, 86, 87, 88, 89, 90, 91, 92, 93, 94, 95, 96, 97, 98, 99, 100, 101, 102, 103, 104, 105] (by decide +kernel) (by decide +kernel)
set_option maxRecDepth 20000 in
theorem gX6_doubtsAt_X6_isDoubting : GoodIn wsX6_doubtsAt (wsV RX6 208 RX6 yX6_isDoubting wsX6_isDoubting) := goodIn_app (goodIn_of _ (by decide +kernel)) ggX6_doubtsAt_X6_isDoubting
theorem dX6_doubtsAt_0 : decode cX6_doubtsAt 0 = .ok (.iconst 0, 1) := by decide +kernel
theorem dX6_doubtsAt_1 : decode cX6_doubtsAt 1 = .ok (.istore_n 2, 1) := by decide +kernel
theorem dX6_doubtsAt_2 : decode cX6_doubtsAt 2 = .ok (.iconst 0, 1) := by decide +kernel
theorem dX6_doubtsAt_3 : decode cX6_doubtsAt 3 = .ok (.istore_n 3, 1) := by decide +kernel
theorem dX6_doubtsAt_4 : decode cX6_doubtsAt 4 = .ok (.iload_n 3, 1) := by decide +kernel
theorem dX6_doubtsAt_5 : decode cX6_doubtsAt 5 = .ok (.aload_n 0, 1) := by decide +kernel
theorem dX6_doubtsAt_6 : decode cX6_doubtsAt 6 = .ok (.getfield 157, 3) := by decide +kernel
theorem dX6_doubtsAt_9 : decode cX6_doubtsAt 9 = .ok (.if_icmp .ge 28, 3) := by decide +kernel
theorem dX6_doubtsAt_12 : decode cX6_doubtsAt 12 = .ok (.iload_n 2, 1) := by decide +kernel
theorem dX6_doubtsAt_13 : decode cX6_doubtsAt 13 = .ok (.aload_n 0, 1) := by decide +kernel
theorem dX6_doubtsAt_14 : decode cX6_doubtsAt 14 = .ok (.iload_n 3, 1) := by decide +kernel
theorem dX6_doubtsAt_15 : decode cX6_doubtsAt 15 = .ok (.iload_n 1, 1) := by decide +kernel
theorem dX6_doubtsAt_16 : decode cX6_doubtsAt 16 = .ok (.invokevirtual 208, 3) := by decide +kernel
theorem dX6_doubtsAt_19 : decode cX6_doubtsAt 19 = .ok (.ifCond .eq 9, 3) := by decide +kernel
theorem dX6_doubtsAt_22 : decode cX6_doubtsAt 22 = .ok (.iconst 1, 1) := by decide +kernel
theorem dX6_doubtsAt_23 : decode cX6_doubtsAt 23 = .ok (.iload_n 3, 1) := by decide +kernel
theorem dX6_doubtsAt_24 : decode cX6_doubtsAt 24 = .ok (.ishl, 1) := by decide +kernel
theorem dX6_doubtsAt_25 : decode cX6_doubtsAt 25 = .ok (.goto 4, 3) := by decide +kernel
theorem dX6_doubtsAt_28 : decode cX6_doubtsAt 28 = .ok (.iconst 0, 1) := by decide +kernel
theorem dX6_doubtsAt_29 : decode cX6_doubtsAt 29 = .ok (.ior, 1) := by decide +kernel
theorem dX6_doubtsAt_30 : decode cX6_doubtsAt 30 = .ok (.istore_n 2, 1) := by decide +kernel
theorem dX6_doubtsAt_31 : decode cX6_doubtsAt 31 = .ok (.iinc 3 1, 3) := by decide +kernel
theorem dX6_doubtsAt_34 : decode cX6_doubtsAt 34 = .ok (.goto (-30), 3) := by decide +kernel
theorem dX6_doubtsAt_37 : decode cX6_doubtsAt 37 = .ok (.iload_n 2, 1) := by decide +kernel
theorem dX6_doubtsAt_38 : decode cX6_doubtsAt 38 = .ok (.ireturn, 1) := by decide +kernel
set_option maxRecDepth 20000 in
theorem ggX6_doubts_X6_in : GoodIn wsX6_doubts wsX6_in := goodIn_r _ [4] (by decide +kernel) (by decide +kernel)
set_option maxRecDepth 20000 in
theorem gX6_doubts_X6_in : GoodIn wsX6_doubts (va_wsS RX6 76 yX6_in wsX6_in) := goodIn_app (goodIn_of _ (by decide +kernel)) ggX6_doubts_X6_in
set_option maxRecDepth 20000 in
theorem ggX6_doubts_X6_doubtsAt : GoodIn wsX6_doubts wsX6_doubtsAt := goodIn_r _ [8, 9, 10, 11, 12, 3, 13, 14, 15, 16, 17, 18, 19, 20, 21, 22, 23, 24, 25, 26, 27, 28, 29, 30, 31, 32, 33, 34, 35, 36, 37, 38, 39, 40, 41, 42, 43, 44, 45, 46, 47, 48, 49, 50, 51, 52, 53, 54, 55, 56, 57, 58, 59, 60, 61, 62, 63, 64, 65, 66, 67, 68, 69, 70, 71, 72, 73, 74, 75, 76, 77, 78, 79, 80, 81, 82, 83, 84, 85, 86, 87, 88, 89, 90, 91, 92, 93, 94, 95, 96, 97, 98, 99, 100, 101, 102, 103, 104, 105, 106, 107, 108, 109, 110, 111, 112] (by decide +kernel) (by decide +kernel)
set_option maxRecDepth 20000 in
theorem gX6_doubts_X6_doubtsAt : GoodIn wsX6_doubts (wsV RX6 211 RX6 yX6_doubtsAt wsX6_doubtsAt) := goodIn_app (goodIn_of _ (by decide +kernel)) ggX6_doubts_X6_doubtsAt
theorem dX6_doubts_0 : decode cX6_doubts 0 = .ok (.iload_n 1, 1) := by decide +kernel
theorem dX6_doubts_1 : decode cX6_doubts 1 = .ok (.iconst 0, 1) := by decide +kernel
theorem dX6_doubts_2 : decode cX6_doubts 2 = .ok (.sipush 6000, 3) := by decide +kernel
theorem dX6_doubts_5 : decode cX6_doubts 5 = .ok (.invokestatic 76, 3) := by decide +kernel
theorem dX6_doubts_8 : decode cX6_doubts 8 = .ok (.ifCond .eq 11, 3) := by decide +kernel
theorem dX6_doubts_11 : decode cX6_doubts 11 = .ok (.aload_n 0, 1) := by decide +kernel
theorem dX6_doubts_12 : decode cX6_doubts 12 = .ok (.iload_n 1, 1) := by decide +kernel
theorem dX6_doubts_13 : decode cX6_doubts 13 = .ok (.invokevirtual 211, 3) := by decide +kernel
theorem dX6_doubts_16 : decode cX6_doubts 16 = .ok (.goto 5, 3) := by decide +kernel
theorem dX6_doubts_19 : decode cX6_doubts 19 = .ok (.bipush (-2), 2) := by decide +kernel
theorem dX6_doubts_21 : decode cX6_doubts 21 = .ok (.ireturn, 1) := by decide +kernel
set_option maxRecDepth 20000 in
theorem ggX6_noticedOf_X6_forGood : GoodIn wsX6_noticedOf wsX6_forGood := goodIn_r _ [6, 7, 8, 9, 10, 11, 5, 12, 13, 14, 15, 16, 17, 18, 19, 20, 21, 22, 23, 24, 25, 26, 27, 28, 29, 30, 31, 32, 33, 34, 35, 36, 37, 38, 39, 40, 1, 41, 42, 43, 44, 45, 46, 47, 48, 49, 50, 51, 52, 53, 54, 55, 56, 57, 58, 59, 60, 61, 62, 63, 64, 65, 66, 67, 68, 69, 70, 71, 72, 73, 74, 75, 76, 77, 78, 79, 80, 81, 82, 83, 84, 85, 86, 87, 88, 89, 90, 91, 92, 93, 94, 95, 96, 97, 98, 99, 100, 101, 102, 103, 104] (by decide +kernel) (by decide +kernel)
set_option maxRecDepth 20000 in
theorem gX6_noticedOf_X6_forGood : GoodIn wsX6_noticedOf (wsV RX6 196 RX6 yX6_forGood wsX6_forGood) := goodIn_app (goodIn_of _ (by decide +kernel)) ggX6_noticedOf_X6_forGood
theorem dX6_noticedOf_0 : decode cX6_noticedOf 0 = .ok (.aload_n 0, 1) := by decide +kernel
theorem dX6_noticedOf_1 : decode cX6_noticedOf 1 = .ok (.iload_n 1, 1) := by decide +kernel
theorem dX6_noticedOf_2 : decode cX6_noticedOf 2 = .ok (.invokevirtual 196, 3) := by decide +kernel
theorem dX6_noticedOf_5 : decode cX6_noticedOf 5 = .ok (.istore_n 2, 1) := by decide +kernel
theorem dX6_noticedOf_6 : decode cX6_noticedOf 6 = .ok (.aload_n 0, 1) := by decide +kernel
theorem dX6_noticedOf_7 : decode cX6_noticedOf 7 = .ok (.getfield 20, 3) := by decide +kernel
theorem dX6_noticedOf_10 : decode cX6_noticedOf 10 = .ok (.iconst (-1), 1) := by decide +kernel
theorem dX6_noticedOf_11 : decode cX6_noticedOf 11 = .ok (.if_icmp .eq 8, 3) := by decide +kernel
theorem dX6_noticedOf_14 : decode cX6_noticedOf 14 = .ok (.iload_n 2, 1) := by decide +kernel
theorem dX6_noticedOf_15 : decode cX6_noticedOf 15 = .ok (.iconst (-1), 1) := by decide +kernel
theorem dX6_noticedOf_16 : decode cX6_noticedOf 16 = .ok (.if_icmp .ne 7, 3) := by decide +kernel
theorem dX6_noticedOf_19 : decode cX6_noticedOf 19 = .ok (.iconst (-1), 1) := by decide +kernel
theorem dX6_noticedOf_20 : decode cX6_noticedOf 20 = .ok (.goto 21, 3) := by decide +kernel
theorem dX6_noticedOf_23 : decode cX6_noticedOf 23 = .ok (.iload_n 2, 1) := by decide +kernel
theorem dX6_noticedOf_24 : decode cX6_noticedOf 24 = .ok (.aload_n 0, 1) := by decide +kernel
theorem dX6_noticedOf_25 : decode cX6_noticedOf 25 = .ok (.getfield 20, 3) := by decide +kernel
theorem dX6_noticedOf_28 : decode cX6_noticedOf 28 = .ok (.if_icmp .ge 7, 3) := by decide +kernel
theorem dX6_noticedOf_31 : decode cX6_noticedOf 31 = .ok (.iconst 0, 1) := by decide +kernel
theorem dX6_noticedOf_32 : decode cX6_noticedOf 32 = .ok (.goto 9, 3) := by decide +kernel
theorem dX6_noticedOf_35 : decode cX6_noticedOf 35 = .ok (.iload_n 2, 1) := by decide +kernel
theorem dX6_noticedOf_36 : decode cX6_noticedOf 36 = .ok (.aload_n 0, 1) := by decide +kernel
theorem dX6_noticedOf_37 : decode cX6_noticedOf 37 = .ok (.getfield 20, 3) := by decide +kernel
theorem dX6_noticedOf_40 : decode cX6_noticedOf 40 = .ok (.isub, 1) := by decide +kernel
theorem dX6_noticedOf_41 : decode cX6_noticedOf 41 = .ok (.ireturn, 1) := by decide +kernel
set_option maxRecDepth 20000 in
theorem ggX6_noticed_X6_isWatcher : GoodIn wsX6_noticed wsX6_isWatcher := goodIn_r _ [5, 6, 7, 8, 4, 9, 89, 90, 91, 92, 93, 94, 95, 96, 97, 98, 99, 100, 101, 102, 103, 104, 105, 106, 107, 108, 109, 110, 111, 112, 113, 114, 115, 116] (by decide +kernel) (by decide +kernel)
set_option maxRecDepth 20000 in
theorem gX6_noticed_X6_isWatcher : GoodIn wsX6_noticed (wsV RX6 160 RX6 yX6_isWatcher wsX6_isWatcher) := goodIn_app (goodIn_of _ (by decide +kernel)) ggX6_noticed_X6_isWatcher
set_option maxRecDepth 20000 in
theorem ggX6_noticed_X6_noticedOf : GoodIn wsX6_noticed wsX6_noticedOf := goodIn_r _ [13, 14, 15, 16, 17, 4, 18, 19, 20, 21, 22, 23, 24, 25, 26, 27, 28, 29, 30, 31, 32, 33, 34, 35, 36, 37, 38, 39, 40, 41, 42, 43, 44, 45, 46, 47, 48, 49, 50, 51, 52, 53, 54, 55, 56, 57, 58, 59, 60, 61, 62, 63, 64, 65, 66, 67, 68, 69, 70, 71, 72, 73, 74, 75, 76, 77, 78, 79, 80, 81, 82, 83, 84, 85, 86, 87, 88, 89, 90, 91, 92, 93, 94, 95, 96, 97, 98, 99, 100, 101, 102, 103, 104, 105, 106, 107, 108, 109, 110, 111, 112, 113, 114, 115, 116] (by decide +kernel) (by decide +kernel)
set_option maxRecDepth 20000 in
theorem gX6_noticed_X6_noticedOf : GoodIn wsX6_noticed (wsV RX6 214 RX6 yX6_noticedOf wsX6_noticedOf) := goodIn_app (goodIn_of _ (by decide +kernel)) ggX6_noticed_X6_noticedOf
theorem dX6_noticed_0 : decode cX6_noticed 0 = .ok (.aload_n 0, 1) := by decide +kernel
theorem dX6_noticed_1 : decode cX6_noticed 1 = .ok (.iload_n 1, 1) := by decide +kernel
theorem dX6_noticed_2 : decode cX6_noticed 2 = .ok (.invokevirtual 160, 3) := by decide +kernel
theorem dX6_noticed_5 : decode cX6_noticed 5 = .ok (.ifCond .eq 11, 3) := by decide +kernel
theorem dX6_noticed_8 : decode cX6_noticed 8 = .ok (.aload_n 0, 1) := by decide +kernel
theorem dX6_noticed_9 : decode cX6_noticed 9 = .ok (.iload_n 1, 1) := by decide +kernel
theorem dX6_noticed_10 : decode cX6_noticed 10 = .ok (.invokevirtual 214, 3) := by decide +kernel
theorem dX6_noticed_13 : decode cX6_noticed 13 = .ok (.goto 5, 3) := by decide +kernel
theorem dX6_noticed_16 : decode cX6_noticed 16 = .ok (.bipush (-2), 2) := by decide +kernel
theorem dX6_noticed_18 : decode cX6_noticed 18 = .ok (.ireturn, 1) := by decide +kernel
set_option maxRecDepth 20000 in
theorem ggX6_leastOf_X6_isMeasure : GoodIn wsX6_leastOf wsX6_isMeasure := goodIn_r _ [5, 6, 7, 4, 8] (by decide +kernel) (by decide +kernel)
set_option maxRecDepth 20000 in
theorem gX6_leastOf_X6_isMeasure : GoodIn wsX6_leastOf (va_wsS RX6 153 yX6_isMeasure wsX6_isMeasure) := goodIn_app (goodIn_of _ (by decide +kernel)) ggX6_leastOf_X6_isMeasure
set_option maxRecDepth 20000 in
theorem ggX6_leastOf_X6_goes : GoodIn wsX6_leastOf wsX6_goes := goodIn_r _ [12, 1, 13, 14, 15, 16, 17, 18, 19, 20, 21, 22, 23, 24, 4, 25, 26, 27, 28, 29, 30, 31, 32, 33, 34, 35, 36, 37, 38, 39, 40, 41, 42, 43, 44, 45, 46, 47, 48, 49, 50, 51, 52, 53, 54, 55, 56, 57, 58, 59, 60, 61, 62, 63, 64, 65, 66, 67, 68, 69, 70, 71, 72, 73, 74, 75, 76, 77, 78, 79, 80, 81, 82, 83, 84, 85, 86, 87, 88, 89, 90, 91, 92, 93, 94, 95, 96, 97, 98, 99, 100] (by decide +kernel) (by decide +kernel)
set_option maxRecDepth 20000 in
theorem gX6_leastOf_X6_goes : GoodIn wsX6_leastOf (wsV RX6 185 RX6 yX6_goes wsX6_goes) := goodIn_app (goodIn_of _ (by decide +kernel)) ggX6_leastOf_X6_goes
theorem dX6_leastOf_0 : decode cX6_leastOf 0 = .ok (.iconst (-1), 1) := by decide +kernel
theorem dX6_leastOf_1 : decode cX6_leastOf 1 = .ok (.istore_n 3, 1) := by decide +kernel
theorem dX6_leastOf_2 : decode cX6_leastOf 2 = .ok (.iload_n 1, 1) := by decide +kernel
theorem dX6_leastOf_3 : decode cX6_leastOf 3 = .ok (.ifCond .ne 7, 3) := by decide +kernel
theorem dX6_leastOf_6 : decode cX6_leastOf 6 = .ok (.iconst 0, 1) := by decide +kernel
theorem dX6_leastOf_7 : decode cX6_leastOf 7 = .ok (.goto 4, 3) := by decide +kernel
theorem dX6_leastOf_10 : decode cX6_leastOf 10 = .ok (.iconst 1, 1) := by decide +kernel
theorem dX6_leastOf_11 : decode cX6_leastOf 11 = .ok (.istore 4, 2) := by decide +kernel
theorem dX6_leastOf_13 : decode cX6_leastOf 13 = .ok (.iload_n 1, 1) := by decide +kernel
theorem dX6_leastOf_14 : decode cX6_leastOf 14 = .ok (.iload 4, 2) := by decide +kernel
theorem dX6_leastOf_16 : decode cX6_leastOf 16 = .ok (.invokestatic 153, 3) := by decide +kernel
theorem dX6_leastOf_19 : decode cX6_leastOf 19 = .ok (.ifCond .eq 36, 3) := by decide +kernel
theorem dX6_leastOf_22 : decode cX6_leastOf 22 = .ok (.iload_n 3, 1) := by decide +kernel
theorem dX6_leastOf_23 : decode cX6_leastOf 23 = .ok (.iconst (-1), 1) := by decide +kernel
theorem dX6_leastOf_24 : decode cX6_leastOf 24 = .ok (.if_icmp .ne 31, 3) := by decide +kernel
theorem dX6_leastOf_27 : decode cX6_leastOf 27 = .ok (.aload_n 0, 1) := by decide +kernel
theorem dX6_leastOf_28 : decode cX6_leastOf 28 = .ok (.iload_n 1, 1) := by decide +kernel
theorem dX6_leastOf_29 : decode cX6_leastOf 29 = .ok (.iload 4, 2) := by decide +kernel
theorem dX6_leastOf_31 : decode cX6_leastOf 31 = .ok (.invokevirtual 185, 3) := by decide +kernel
theorem dX6_leastOf_34 : decode cX6_leastOf 34 = .ok (.aload_n 0, 1) := by decide +kernel
theorem dX6_leastOf_35 : decode cX6_leastOf 35 = .ok (.getfield 169, 3) := by decide +kernel
theorem dX6_leastOf_38 : decode cX6_leastOf 38 = .ok (.iload_n 2, 1) := by decide +kernel
theorem dX6_leastOf_39 : decode cX6_leastOf 39 = .ok (.if_icmp .gt 8, 3) := by decide +kernel
theorem dX6_leastOf_42 : decode cX6_leastOf 42 = .ok (.iload 4, 2) := by decide +kernel
theorem dX6_leastOf_44 : decode cX6_leastOf 44 = .ok (.goto 4, 3) := by decide +kernel
theorem dX6_leastOf_47 : decode cX6_leastOf 47 = .ok (.iconst (-1), 1) := by decide +kernel
theorem dX6_leastOf_48 : decode cX6_leastOf 48 = .ok (.istore_n 3, 1) := by decide +kernel
theorem dX6_leastOf_49 : decode cX6_leastOf 49 = .ok (.iinc 4 1, 3) := by decide +kernel
theorem dX6_leastOf_52 : decode cX6_leastOf 52 = .ok (.goto (-39), 3) := by decide +kernel
theorem dX6_leastOf_55 : decode cX6_leastOf 55 = .ok (.iload_n 3, 1) := by decide +kernel
theorem dX6_leastOf_56 : decode cX6_leastOf 56 = .ok (.ireturn, 1) := by decide +kernel
set_option maxRecDepth 20000 in
theorem ggX6_least_X6_in : GoodIn wsX6_least wsX6_in := goodIn_r _ [4] (by decide +kernel) (by decide +kernel)
set_option maxRecDepth 20000 in
theorem gX6_least_X6_in : GoodIn wsX6_least (va_wsS RX6 76 yX6_in wsX6_in) := goodIn_app (goodIn_of _ (by decide +kernel)) ggX6_least_X6_in
set_option maxRecDepth 20000 in
theorem ggX6_least_X6_leastOf : GoodIn wsX6_least wsX6_leastOf := goodIn_r _ [8, 9, 10, 11, 3, 12, 1, 2, 4, 13, 14, 15, 16, 17, 18, 19, 20, 21, 22, 23, 24, 25, 26, 27, 28, 29, 30, 31, 32, 33, 34, 35, 36, 37, 38, 39, 40, 41, 42, 43, 44, 45, 46, 47, 48, 49, 50, 51, 52, 53, 54, 55, 56, 57, 58, 59, 60, 61, 62, 63, 64, 65, 66, 67, 68, 69, 70, 71, 72, 73, 74, 75, 76, 77, 78, 79, 80, 81, 82, 83, 84, 85, 86, 87, 88, 89, 90, 91, 92, 93, 94, 95, 96, 97, 98, 99, 100, 101, 102, 103, 104] (by decide +kernel) (by decide +kernel)
set_option maxRecDepth 20000 in
theorem gX6_least_X6_leastOf : GoodIn wsX6_least (wsV RX6 217 RX6 yX6_leastOf wsX6_leastOf) := goodIn_app (goodIn_of _ (by decide +kernel)) ggX6_least_X6_leastOf
theorem dX6_least_0 : decode cX6_least 0 = .ok (.iload_n 1, 1) := by decide +kernel
theorem dX6_least_1 : decode cX6_least 1 = .ok (.iconst 0, 1) := by decide +kernel
theorem dX6_least_2 : decode cX6_least 2 = .ok (.iconst 2, 1) := by decide +kernel
theorem dX6_least_3 : decode cX6_least 3 = .ok (.invokestatic 76, 3) := by decide +kernel
theorem dX6_least_6 : decode cX6_least 6 = .ok (.ifCond .eq 22, 3) := by decide +kernel
theorem dX6_least_9 : decode cX6_least 9 = .ok (.iload_n 2, 1) := by decide +kernel
theorem dX6_least_10 : decode cX6_least 10 = .ok (.iconst 0, 1) := by decide +kernel
theorem dX6_least_11 : decode cX6_least 11 = .ok (.bipush 40, 2) := by decide +kernel
theorem dX6_least_13 : decode cX6_least 13 = .ok (.invokestatic 76, 3) := by decide +kernel
theorem dX6_least_16 : decode cX6_least 16 = .ok (.ifCond .eq 12, 3) := by decide +kernel
theorem dX6_least_19 : decode cX6_least 19 = .ok (.aload_n 0, 1) := by decide +kernel
theorem dX6_least_20 : decode cX6_least 20 = .ok (.iload_n 1, 1) := by decide +kernel
theorem dX6_least_21 : decode cX6_least 21 = .ok (.iload_n 2, 1) := by decide +kernel
theorem dX6_least_22 : decode cX6_least 22 = .ok (.invokevirtual 217, 3) := by decide +kernel
theorem dX6_least_25 : decode cX6_least 25 = .ok (.goto 5, 3) := by decide +kernel
theorem dX6_least_28 : decode cX6_least 28 = .ok (.bipush (-2), 2) := by decide +kernel
theorem dX6_least_30 : decode cX6_least 30 = .ok (.ireturn, 1) := by decide +kernel
set_option maxRecDepth 20000 in
theorem ggX6_greatest_X6_isKept : GoodIn wsX6_greatest wsX6_isKept := goodIn_r _ [6, 7, 8, 9, 10, 11, 12, 13, 5, 14, 15, 16, 17, 18, 19, 20, 21, 22, 23, 24, 25, 26, 1, 27, 28, 29, 30, 31, 32, 33, 34, 35, 36, 37, 38, 39, 40, 41, 42, 43, 44, 45, 46, 47, 48, 49, 50, 51, 52, 53, 54, 55, 56, 57, 58, 59, 60, 61, 62, 63, 64, 65, 66, 67, 68, 69, 70, 71, 72, 73, 74, 75, 76, 77, 78, 79, 80, 81, 82, 83, 84, 85, 86, 87, 88, 89, 90, 91, 92, 93, 94, 95, 96, 97, 98, 99, 100, 101, 102, 103, 104, 105, 106] (by decide +kernel) (by decide +kernel)
set_option maxRecDepth 20000 in
theorem gX6_greatest_X6_isKept : GoodIn wsX6_greatest (wsV RX6 193 RX6 yX6_isKept wsX6_isKept) := goodIn_app (goodIn_of _ (by decide +kernel)) ggX6_greatest_X6_isKept
theorem dX6_greatest_0 : decode cX6_greatest 0 = .ok (.aload_n 0, 1) := by decide +kernel
theorem dX6_greatest_1 : decode cX6_greatest 1 = .ok (.getfield 13, 3) := by decide +kernel
theorem dX6_greatest_4 : decode cX6_greatest 4 = .ok (.istore_n 3, 1) := by decide +kernel
theorem dX6_greatest_5 : decode cX6_greatest 5 = .ok (.iconst (-1), 1) := by decide +kernel
theorem dX6_greatest_6 : decode cX6_greatest 6 = .ok (.istore 4, 2) := by decide +kernel
theorem dX6_greatest_8 : decode cX6_greatest 8 = .ok (.bipush 50, 2) := by decide +kernel
theorem dX6_greatest_10 : decode cX6_greatest 10 = .ok (.istore 5, 2) := by decide +kernel
theorem dX6_greatest_12 : decode cX6_greatest 12 = .ok (.iload 5, 2) := by decide +kernel
theorem dX6_greatest_14 : decode cX6_greatest 14 = .ok (.ifCond .le 73, 3) := by decide +kernel
theorem dX6_greatest_17 : decode cX6_greatest 17 = .ok (.iload 4, 2) := by decide +kernel
theorem dX6_greatest_19 : decode cX6_greatest 19 = .ok (.iconst (-1), 1) := by decide +kernel
theorem dX6_greatest_20 : decode cX6_greatest 20 = .ok (.if_icmp .ne 67, 3) := by decide +kernel
theorem dX6_greatest_23 : decode cX6_greatest 23 = .ok (.aload_n 0, 1) := by decide +kernel
theorem dX6_greatest_24 : decode cX6_greatest 24 = .ok (.iload 5, 2) := by decide +kernel
theorem dX6_greatest_26 : decode cX6_greatest 26 = .ok (.putfield 13, 3) := by decide +kernel
theorem dX6_greatest_29 : decode cX6_greatest 29 = .ok (.iconst 1, 1) := by decide +kernel
theorem dX6_greatest_30 : decode cX6_greatest 30 = .ok (.istore 6, 2) := by decide +kernel
theorem dX6_greatest_32 : decode cX6_greatest 32 = .ok (.iload_n 1, 1) := by decide +kernel
theorem dX6_greatest_33 : decode cX6_greatest 33 = .ok (.istore 7, 2) := by decide +kernel
theorem dX6_greatest_35 : decode cX6_greatest 35 = .ok (.iload 7, 2) := by decide +kernel
theorem dX6_greatest_37 : decode cX6_greatest 37 = .ok (.iload_n 2, 1) := by decide +kernel
theorem dX6_greatest_38 : decode cX6_greatest 38 = .ok (.if_icmp .gt 30, 3) := by decide +kernel
theorem dX6_greatest_41 : decode cX6_greatest 41 = .ok (.iload 6, 2) := by decide +kernel
theorem dX6_greatest_43 : decode cX6_greatest 43 = .ok (.ifCond .eq 16, 3) := by decide +kernel
theorem dX6_greatest_46 : decode cX6_greatest 46 = .ok (.aload_n 0, 1) := by decide +kernel
theorem dX6_greatest_47 : decode cX6_greatest 47 = .ok (.iload 7, 2) := by decide +kernel
theorem dX6_greatest_49 : decode cX6_greatest 49 = .ok (.invokevirtual 193, 3) := by decide +kernel
theorem dX6_greatest_52 : decode cX6_greatest 52 = .ok (.ifCond .eq 7, 3) := by decide +kernel
theorem dX6_greatest_55 : decode cX6_greatest 55 = .ok (.iconst 1, 1) := by decide +kernel
theorem dX6_greatest_56 : decode cX6_greatest 56 = .ok (.goto 4, 3) := by decide +kernel
theorem dX6_greatest_59 : decode cX6_greatest 59 = .ok (.iconst 0, 1) := by decide +kernel
theorem dX6_greatest_60 : decode cX6_greatest 60 = .ok (.istore 6, 2) := by decide +kernel
theorem dX6_greatest_62 : decode cX6_greatest 62 = .ok (.iinc 7 1, 3) := by decide +kernel
theorem dX6_greatest_65 : decode cX6_greatest 65 = .ok (.goto (-30), 3) := by decide +kernel
theorem dX6_greatest_68 : decode cX6_greatest 68 = .ok (.iload 6, 2) := by decide +kernel
theorem dX6_greatest_70 : decode cX6_greatest 70 = .ok (.ifCond .eq 8, 3) := by decide +kernel
theorem dX6_greatest_73 : decode cX6_greatest 73 = .ok (.iload 5, 2) := by decide +kernel
theorem dX6_greatest_75 : decode cX6_greatest 75 = .ok (.goto 4, 3) := by decide +kernel
theorem dX6_greatest_78 : decode cX6_greatest 78 = .ok (.iconst (-1), 1) := by decide +kernel
theorem dX6_greatest_79 : decode cX6_greatest 79 = .ok (.istore 4, 2) := by decide +kernel
theorem dX6_greatest_81 : decode cX6_greatest 81 = .ok (.iinc 5 (-1), 3) := by decide +kernel
theorem dX6_greatest_84 : decode cX6_greatest 84 = .ok (.goto (-72), 3) := by decide +kernel
theorem dX6_greatest_87 : decode cX6_greatest 87 = .ok (.aload_n 0, 1) := by decide +kernel
theorem dX6_greatest_88 : decode cX6_greatest 88 = .ok (.iload_n 3, 1) := by decide +kernel
theorem dX6_greatest_89 : decode cX6_greatest 89 = .ok (.putfield 13, 3) := by decide +kernel
theorem dX6_greatest_92 : decode cX6_greatest 92 = .ok (.iload 4, 2) := by decide +kernel
theorem dX6_greatest_94 : decode cX6_greatest 94 = .ok (.ireturn, 1) := by decide +kernel
set_option maxRecDepth 20000 in
theorem ggX6_longest_X6_isWatcher : GoodIn wsX6_longest wsX6_isWatcher := goodIn_r _ [5, 6, 7, 8, 4, 9, 91, 92, 93, 94, 95, 96, 97, 98, 99, 100, 101, 102, 103, 104, 105, 106, 107, 108, 109, 110, 111, 112, 113, 114, 115, 116, 117, 118] (by decide +kernel) (by decide +kernel)
set_option maxRecDepth 20000 in
theorem gX6_longest_X6_isWatcher : GoodIn wsX6_longest (wsV RX6 160 RX6 yX6_isWatcher wsX6_isWatcher) := goodIn_app (goodIn_of _ (by decide +kernel)) ggX6_longest_X6_isWatcher
set_option maxRecDepth 20000 in
theorem ggX6_longest_X6_greatest : GoodIn wsX6_longest wsX6_greatest := goodIn_r _ [13, 14, 15, 16, 17, 4, 18, 19, 20, 21, 22, 23, 24, 25, 26, 27, 28, 29, 30, 31, 32, 33, 34, 35, 36, 37, 38, 39, 40, 41, 42, 43, 44, 45, 46, 47, 48, 49, 50, 51, 52, 53, 54, 55, 56, 57, 58, 59, 60, 61, 62, 63, 64, 65, 66, 67, 68, 69, 70, 71, 72, 73, 74, 75, 76, 77, 78, 79, 80, 81, 82, 83, 84, 85, 86, 87, 88, 89, 90, 91, 92, 93, 94, 95, 96, 97, 98, 99, 100, 101, 102, 103, 104, 105, 106, 107, 108, 109, 110, 111, 112, 113, 114, 115, 116, 117, 118] (by decide +kernel) (by decide +kernel)
set_option maxRecDepth 20000 in
theorem gX6_longest_X6_greatest : GoodIn wsX6_longest (wsV RX6 220 RX6 yX6_greatest wsX6_greatest) := goodIn_app (goodIn_of _ (by decide +kernel)) ggX6_longest_X6_greatest
theorem dX6_longest_0 : decode cX6_longest 0 = .ok (.aload_n 0, 1) := by decide +kernel
theorem dX6_longest_1 : decode cX6_longest 1 = .ok (.iload_n 1, 1) := by decide +kernel
theorem dX6_longest_2 : decode cX6_longest 2 = .ok (.invokevirtual 160, 3) := by decide +kernel
theorem dX6_longest_5 : decode cX6_longest 5 = .ok (.ifCond .eq 12, 3) := by decide +kernel
theorem dX6_longest_8 : decode cX6_longest 8 = .ok (.aload_n 0, 1) := by decide +kernel
theorem dX6_longest_9 : decode cX6_longest 9 = .ok (.iload_n 1, 1) := by decide +kernel
theorem dX6_longest_10 : decode cX6_longest 10 = .ok (.iload_n 1, 1) := by decide +kernel
theorem dX6_longest_11 : decode cX6_longest 11 = .ok (.invokevirtual 220, 3) := by decide +kernel
theorem dX6_longest_14 : decode cX6_longest 14 = .ok (.goto 5, 3) := by decide +kernel
theorem dX6_longest_17 : decode cX6_longest 17 = .ok (.bipush (-2), 2) := by decide +kernel
theorem dX6_longest_19 : decode cX6_longest 19 = .ok (.ireturn, 1) := by decide +kernel
set_option maxRecDepth 20000 in
theorem ggX6_sharedNow_X6_greatest : GoodIn wsX6_sharedNow wsX6_greatest := goodIn_r _ [6, 7, 8, 9, 10, 5, 11, 12, 13, 14, 15, 16, 17, 18, 19, 20, 21, 22, 23, 24, 25, 26, 27, 28, 29, 30, 31, 32, 33, 34, 35, 36, 37, 38, 39, 40, 41, 42, 43, 44, 45, 46, 47, 48, 49, 50, 51, 52, 53, 54, 55, 56, 57, 58, 59, 60, 61, 62, 63, 64, 65, 66, 67, 68, 69, 70, 71, 72, 73, 74, 75, 76, 77, 78, 79, 80, 81, 82, 83, 84, 85, 86, 87, 88, 89, 90, 91, 92, 93, 94, 95, 96, 97, 98, 99, 100, 101, 102, 103, 104, 105, 106, 107, 108, 109, 110, 111] (by decide +kernel) (by decide +kernel)
set_option maxRecDepth 20000 in
theorem gX6_sharedNow_X6_greatest : GoodIn wsX6_sharedNow (wsV RX6 220 RX6 yX6_greatest wsX6_greatest) := goodIn_app (goodIn_of _ (by decide +kernel)) ggX6_sharedNow_X6_greatest
theorem dX6_sharedNow_0 : decode cX6_sharedNow 0 = .ok (.aload_n 0, 1) := by decide +kernel
theorem dX6_sharedNow_1 : decode cX6_sharedNow 1 = .ok (.iconst 0, 1) := by decide +kernel
theorem dX6_sharedNow_2 : decode cX6_sharedNow 2 = .ok (.aload_n 0, 1) := by decide +kernel
theorem dX6_sharedNow_3 : decode cX6_sharedNow 3 = .ok (.getfield 157, 3) := by decide +kernel
theorem dX6_sharedNow_6 : decode cX6_sharedNow 6 = .ok (.iconst 1, 1) := by decide +kernel
theorem dX6_sharedNow_7 : decode cX6_sharedNow 7 = .ok (.isub, 1) := by decide +kernel
theorem dX6_sharedNow_8 : decode cX6_sharedNow 8 = .ok (.invokevirtual 220, 3) := by decide +kernel
theorem dX6_sharedNow_11 : decode cX6_sharedNow 11 = .ok (.ireturn, 1) := by decide +kernel
set_option maxRecDepth 20000 in
theorem ggX6_shared_X6_sharedNow : GoodIn wsX6_shared wsX6_sharedNow := goodIn_r _ [5, 6, 7, 8, 9, 4, 10, 11, 12, 13, 14, 15, 16, 17, 18, 19, 20, 21, 22, 23, 24, 25, 26, 27, 28, 29, 30, 31, 32, 33, 34, 35, 36, 37, 38, 39, 40, 41, 42, 43, 44, 45, 46, 47, 48, 49, 50, 51, 52, 53, 54, 55, 56, 57, 58, 59, 60, 61, 62, 63, 64, 65, 66, 67, 68, 69, 70, 71, 72, 73, 74, 75, 76, 77, 78, 79, 80, 81, 82, 83, 84, 85, 86, 87, 88, 89, 90, 91, 92, 93, 94, 95, 96, 97, 98, 99, 100, 101, 102, 103, 104, 105, 106, 107, 108, 109, 110, 111, 112, 113, 114, 115] (by decide +kernel) (by decide +kernel)
set_option maxRecDepth 20000 in
theorem gX6_shared_X6_sharedNow : GoodIn wsX6_shared (wsV RX6 223 RX6 yX6_sharedNow wsX6_sharedNow) := goodIn_app (goodIn_of _ (by decide +kernel)) ggX6_shared_X6_sharedNow
theorem dX6_shared_0 : decode cX6_shared 0 = .ok (.aload_n 0, 1) := by decide +kernel
theorem dX6_shared_1 : decode cX6_shared 1 = .ok (.invokevirtual 223, 3) := by decide +kernel
theorem dX6_shared_4 : decode cX6_shared 4 = .ok (.ireturn, 1) := by decide +kernel
set_option maxRecDepth 20000 in
theorem ggX6_savedNow_X6_sharedNow : GoodIn wsX6_savedNow wsX6_sharedNow := goodIn_r _ [7, 1, 8, 9, 10, 6, 11, 12, 13, 14, 15, 16, 17, 18, 19, 20, 21, 22, 23, 24, 25, 26, 27, 28, 29, 30, 31, 32, 33, 34, 35, 36, 37, 38, 39, 40, 41, 42, 43, 44, 45, 46, 47, 48, 49, 50, 51, 52, 53, 54, 55, 56, 57, 58, 59, 60, 61, 62, 63, 64, 65, 66, 67, 68, 69, 70, 71, 72, 73, 74, 75, 76, 77, 78, 79, 80, 81, 82, 83, 84, 85, 86, 87, 88, 89, 90, 91, 92, 93, 94, 95, 96, 97, 98, 99, 100, 101, 102, 103, 104, 105, 106, 107, 108, 109, 110, 111, 112, 113, 114, 115, 116] (by decide +kernel) (by decide +kernel)
set_option maxRecDepth 20000 in
theorem gX6_savedNow_X6_sharedNow : GoodIn wsX6_savedNow (wsV RX6 223 RX6 yX6_sharedNow wsX6_sharedNow) := goodIn_app (goodIn_of _ (by decide +kernel)) ggX6_savedNow_X6_sharedNow
set_option maxRecDepth 20000 in
theorem ggX6_savedNow_X6_greatest : GoodIn wsX6_savedNow wsX6_greatest := goodIn_r _ [11, 12, 13, 14, 15, 6, 16, 17, 18, 19, 20, 21, 22, 23, 24, 25, 26, 27, 28, 29, 30, 31, 32, 33, 34, 35, 36, 37, 38, 39, 40, 41, 42, 43, 44, 45, 46, 47, 48, 49, 50, 51, 52, 53, 54, 55, 56, 57, 58, 59, 60, 61, 62, 63, 64, 65, 66, 67, 68, 69, 70, 71, 72, 73, 74, 75, 76, 77, 78, 79, 80, 81, 82, 83, 84, 85, 86, 87, 88, 89, 90, 91, 92, 93, 94, 95, 96, 97, 98, 99, 100, 101, 102, 103, 104, 105, 106, 107, 108, 109, 110, 111, 112, 113, 114, 115, 116] (by decide +kernel) (by decide +kernel)
set_option maxRecDepth 20000 in
theorem gX6_savedNow_X6_greatest : GoodIn wsX6_savedNow (wsV RX6 220 RX6 yX6_greatest wsX6_greatest) := goodIn_app (goodIn_of _ (by decide +kernel)) ggX6_savedNow_X6_greatest
theorem dX6_savedNow_0 : decode cX6_savedNow 0 = .ok (.aload_n 0, 1) := by decide +kernel
theorem dX6_savedNow_1 : decode cX6_savedNow 1 = .ok (.invokevirtual 223, 3) := by decide +kernel
theorem dX6_savedNow_4 : decode cX6_savedNow 4 = .ok (.istore_n 1, 1) := by decide +kernel
theorem dX6_savedNow_5 : decode cX6_savedNow 5 = .ok (.iload_n 1, 1) := by decide +kernel
theorem dX6_savedNow_6 : decode cX6_savedNow 6 = .ok (.iconst (-1), 1) := by decide +kernel
theorem dX6_savedNow_7 : decode cX6_savedNow 7 = .ok (.if_icmp .eq 10, 3) := by decide +kernel
theorem dX6_savedNow_10 : decode cX6_savedNow 10 = .ok (.aload_n 0, 1) := by decide +kernel
theorem dX6_savedNow_11 : decode cX6_savedNow 11 = .ok (.getfield 157, 3) := by decide +kernel
theorem dX6_savedNow_14 : decode cX6_savedNow 14 = .ok (.ifCond .ne 6, 3) := by decide +kernel
theorem dX6_savedNow_17 : decode cX6_savedNow 17 = .ok (.ldc 227, 2) := by decide +kernel
theorem dX6_savedNow_19 : decode cX6_savedNow 19 = .ok (.ireturn, 1) := by decide +kernel
theorem dX6_savedNow_20 : decode cX6_savedNow 20 = .ok (.sipush 1000, 3) := by decide +kernel
theorem dX6_savedNow_23 : decode cX6_savedNow 23 = .ok (.iload_n 1, 1) := by decide +kernel
theorem dX6_savedNow_24 : decode cX6_savedNow 24 = .ok (.idiv, 1) := by decide +kernel
theorem dX6_savedNow_25 : decode cX6_savedNow 25 = .ok (.iconst 1, 1) := by decide +kernel
theorem dX6_savedNow_26 : decode cX6_savedNow 26 = .ok (.iadd, 1) := by decide +kernel
theorem dX6_savedNow_27 : decode cX6_savedNow 27 = .ok (.ineg, 1) := by decide +kernel
theorem dX6_savedNow_28 : decode cX6_savedNow 28 = .ok (.istore_n 2, 1) := by decide +kernel
theorem dX6_savedNow_29 : decode cX6_savedNow 29 = .ok (.iconst 0, 1) := by decide +kernel
theorem dX6_savedNow_30 : decode cX6_savedNow 30 = .ok (.istore_n 3, 1) := by decide +kernel
theorem dX6_savedNow_31 : decode cX6_savedNow 31 = .ok (.iload_n 3, 1) := by decide +kernel
theorem dX6_savedNow_32 : decode cX6_savedNow 32 = .ok (.aload_n 0, 1) := by decide +kernel
theorem dX6_savedNow_33 : decode cX6_savedNow 33 = .ok (.getfield 157, 3) := by decide +kernel
theorem dX6_savedNow_36 : decode cX6_savedNow 36 = .ok (.if_icmp .ge 24, 3) := by decide +kernel
theorem dX6_savedNow_39 : decode cX6_savedNow 39 = .ok (.iload_n 2, 1) := by decide +kernel
theorem dX6_savedNow_40 : decode cX6_savedNow 40 = .ok (.sipush 1000, 3) := by decide +kernel
theorem dX6_savedNow_43 : decode cX6_savedNow 43 = .ok (.aload_n 0, 1) := by decide +kernel
theorem dX6_savedNow_44 : decode cX6_savedNow 44 = .ok (.iload_n 3, 1) := by decide +kernel
theorem dX6_savedNow_45 : decode cX6_savedNow 45 = .ok (.iload_n 3, 1) := by decide +kernel
theorem dX6_savedNow_46 : decode cX6_savedNow 46 = .ok (.invokevirtual 220, 3) := by decide +kernel
theorem dX6_savedNow_49 : decode cX6_savedNow 49 = .ok (.idiv, 1) := by decide +kernel
theorem dX6_savedNow_50 : decode cX6_savedNow 50 = .ok (.iconst 1, 1) := by decide +kernel
theorem dX6_savedNow_51 : decode cX6_savedNow 51 = .ok (.iadd, 1) := by decide +kernel
theorem dX6_savedNow_52 : decode cX6_savedNow 52 = .ok (.iadd, 1) := by decide +kernel
theorem dX6_savedNow_53 : decode cX6_savedNow 53 = .ok (.istore_n 2, 1) := by decide +kernel
theorem dX6_savedNow_54 : decode cX6_savedNow 54 = .ok (.iinc 3 1, 3) := by decide +kernel
theorem dX6_savedNow_57 : decode cX6_savedNow 57 = .ok (.goto (-26), 3) := by decide +kernel
theorem dX6_savedNow_60 : decode cX6_savedNow 60 = .ok (.iload_n 2, 1) := by decide +kernel
theorem dX6_savedNow_61 : decode cX6_savedNow 61 = .ok (.ireturn, 1) := by decide +kernel
set_option maxRecDepth 20000 in
theorem ggX6_saved_X6_savedNow : GoodIn wsX6_saved wsX6_savedNow := goodIn_r _ [5, 6, 7, 8, 9, 10, 4, 11, 12, 13, 14, 15, 16, 17, 18, 19, 20, 21, 22, 23, 24, 25, 26, 27, 28, 29, 30, 31, 32, 33, 34, 35, 36, 37, 38, 39, 40, 41, 42, 43, 44, 45, 46, 47, 48, 49, 50, 51, 52, 53, 54, 55, 56, 57, 58, 59, 60, 61, 62, 63, 64, 65, 66, 67, 68, 69, 70, 71, 72, 73, 74, 75, 76, 77, 78, 79, 80, 81, 82, 83, 84, 85, 86, 87, 88, 89, 90, 91, 92, 93, 94, 95, 96, 97, 98, 99, 100, 101, 102, 103, 104, 105, 106, 107, 108, 109, 110, 111, 112, 113, 114, 115, 116, 117, 118, 119, 120] (by decide +kernel) (by decide +kernel)
set_option maxRecDepth 20000 in
theorem gX6_saved_X6_savedNow : GoodIn wsX6_saved (wsV RX6 228 RX6 yX6_savedNow wsX6_savedNow) := goodIn_app (goodIn_of _ (by decide +kernel)) ggX6_saved_X6_savedNow
theorem dX6_saved_0 : decode cX6_saved 0 = .ok (.aload_n 0, 1) := by decide +kernel
theorem dX6_saved_1 : decode cX6_saved 1 = .ok (.invokevirtual 228, 3) := by decide +kernel
theorem dX6_saved_4 : decode cX6_saved 4 = .ok (.ireturn, 1) := by decide +kernel
theorem dX6_meets_0 : decode cX6_meets 0 = .ok (.aload_n 0, 1) := by decide +kernel
theorem dX6_meets_1 : decode cX6_meets 1 = .ok (.iload_n 1, 1) := by decide +kernel
theorem dX6_meets_2 : decode cX6_meets 2 = .ok (.putfield 231, 3) := by decide +kernel
theorem dX6_meets_5 : decode cX6_meets 5 = .ok (.bipush (-10), 2) := by decide +kernel
theorem dX6_meets_7 : decode cX6_meets 7 = .ok (.iload_n 1, 1) := by decide +kernel
theorem dX6_meets_8 : decode cX6_meets 8 = .ok (.isub, 1) := by decide +kernel
theorem dX6_meets_9 : decode cX6_meets 9 = .ok (.ireturn, 1) := by decide +kernel
set_option maxRecDepth 20000 in
theorem ggX6_isSheet_X6_in : GoodIn wsX6_isSheet wsX6_in := goodIn_r _ [4] (by decide +kernel) (by decide +kernel)
set_option maxRecDepth 20000 in
theorem gX6_isSheet_X6_in : GoodIn wsX6_isSheet (va_wsS RX6 76 yX6_in wsX6_in) := goodIn_app (goodIn_of _ (by decide +kernel)) ggX6_isSheet_X6_in
theorem dX6_isSheet_0 : decode cX6_isSheet 0 = .ok (.iload_n 0, 1) := by decide +kernel
theorem dX6_isSheet_1 : decode cX6_isSheet 1 = .ok (.iconst 0, 1) := by decide +kernel
theorem dX6_isSheet_2 : decode cX6_isSheet 2 = .ok (.iconst 3, 1) := by decide +kernel
theorem dX6_isSheet_3 : decode cX6_isSheet 3 = .ok (.invokestatic 76, 3) := by decide +kernel
theorem dX6_isSheet_6 : decode cX6_isSheet 6 = .ok (.ireturn, 1) := by decide +kernel
set_option maxRecDepth 20000 in
theorem ggX6_sheet_X6_isSheet : GoodIn wsX6_sheet wsX6_isSheet := goodIn_r _ [9, 10, 11, 8, 12] (by decide +kernel) (by decide +kernel)
set_option maxRecDepth 20000 in
theorem gX6_sheet_X6_isSheet : GoodIn wsX6_sheet (va_wsS RX6 91 yX6_isSheet wsX6_isSheet) := goodIn_app (goodIn_of _ (by decide +kernel)) ggX6_sheet_X6_isSheet
set_option maxRecDepth 20000 in
theorem ggX6_sheet_X6_in : GoodIn wsX6_sheet wsX6_in := goodIn_r _ [12] (by decide +kernel) (by decide +kernel)
set_option maxRecDepth 20000 in
theorem gX6_sheet_X6_in : GoodIn wsX6_sheet (va_wsS RX6 76 yX6_in wsX6_in) := goodIn_app (goodIn_of _ (by decide +kernel)) ggX6_sheet_X6_in
set_option maxRecDepth 20000 in
theorem ggX6_sheet_X6_meets : GoodIn wsX6_sheet wsX6_meets := goodIn_r _ [16, 17, 18, 19, 20, 21, 22, 23, 24, 25, 26, 27, 28, 29, 30, 31, 32, 33, 34, 35, 36, 37, 38, 39, 40, 41, 42, 43, 44, 45] (by decide +kernel) (by decide +kernel)
set_option maxRecDepth 20000 in
theorem gX6_sheet_X6_meets : GoodIn wsX6_sheet (wsV RX6 94 RX6 yX6_meets wsX6_meets) := goodIn_app (goodIn_of _ (by decide +kernel)) ggX6_sheet_X6_meets
theorem dX6_sheet_0 : decode cX6_sheet 0 = .ok (.iload_n 1, 1) := by decide +kernel
theorem dX6_sheet_1 : decode cX6_sheet 1 = .ok (.invokestatic 91, 3) := by decide +kernel
theorem dX6_sheet_4 : decode cX6_sheet 4 = .ok (.ifCond .eq 18, 3) := by decide +kernel
theorem dX6_sheet_7 : decode cX6_sheet 7 = .ok (.iload_n 2, 1) := by decide +kernel
theorem dX6_sheet_8 : decode cX6_sheet 8 = .ok (.iconst 0, 1) := by decide +kernel
theorem dX6_sheet_9 : decode cX6_sheet 9 = .ok (.iconst 1, 1) := by decide +kernel
theorem dX6_sheet_10 : decode cX6_sheet 10 = .ok (.invokestatic 76, 3) := by decide +kernel
theorem dX6_sheet_13 : decode cX6_sheet 13 = .ok (.ifCond .eq 9, 3) := by decide +kernel
theorem dX6_sheet_16 : decode cX6_sheet 16 = .ok (.iload_n 3, 1) := by decide +kernel
theorem dX6_sheet_17 : decode cX6_sheet 17 = .ok (.bipush 40, 2) := by decide +kernel
theorem dX6_sheet_19 : decode cX6_sheet 19 = .ok (.if_icmp .le 6, 3) := by decide +kernel
theorem dX6_sheet_22 : decode cX6_sheet 22 = .ok (.bipush (-2), 2) := by decide +kernel
theorem dX6_sheet_24 : decode cX6_sheet 24 = .ok (.ireturn, 1) := by decide +kernel
theorem dX6_sheet_25 : decode cX6_sheet 25 = .ok (.iload_n 3, 1) := by decide +kernel
theorem dX6_sheet_26 : decode cX6_sheet 26 = .ok (.ifCond .ge 9, 3) := by decide +kernel
theorem dX6_sheet_29 : decode cX6_sheet 29 = .ok (.aload_n 0, 1) := by decide +kernel
theorem dX6_sheet_30 : decode cX6_sheet 30 = .ok (.iconst 5, 1) := by decide +kernel
theorem dX6_sheet_31 : decode cX6_sheet 31 = .ok (.invokevirtual 94, 3) := by decide +kernel
theorem dX6_sheet_34 : decode cX6_sheet 34 = .ok (.ireturn, 1) := by decide +kernel
theorem dX6_sheet_35 : decode cX6_sheet 35 = .ok (.aload_n 0, 1) := by decide +kernel
theorem dX6_sheet_36 : decode cX6_sheet 36 = .ok (.getfield 48, 3) := by decide +kernel
theorem dX6_sheet_39 : decode cX6_sheet 39 = .ok (.iload_n 1, 1) := by decide +kernel
theorem dX6_sheet_40 : decode cX6_sheet 40 = .ok (.iload_n 2, 1) := by decide +kernel
theorem dX6_sheet_41 : decode cX6_sheet 41 = .ok (.iastore, 1) := by decide +kernel
theorem dX6_sheet_42 : decode cX6_sheet 42 = .ok (.aload_n 0, 1) := by decide +kernel
theorem dX6_sheet_43 : decode cX6_sheet 43 = .ok (.getfield 51, 3) := by decide +kernel
theorem dX6_sheet_46 : decode cX6_sheet 46 = .ok (.iload_n 1, 1) := by decide +kernel
theorem dX6_sheet_47 : decode cX6_sheet 47 = .ok (.iload_n 3, 1) := by decide +kernel
theorem dX6_sheet_48 : decode cX6_sheet 48 = .ok (.iastore, 1) := by decide +kernel
theorem dX6_sheet_49 : decode cX6_sheet 49 = .ok (.bipush 40, 2) := by decide +kernel
theorem dX6_sheet_51 : decode cX6_sheet 51 = .ok (.iload_n 1, 1) := by decide +kernel
theorem dX6_sheet_52 : decode cX6_sheet 52 = .ok (.imul, 1) := by decide +kernel
theorem dX6_sheet_53 : decode cX6_sheet 53 = .ok (.istore 4, 2) := by decide +kernel
theorem dX6_sheet_55 : decode cX6_sheet 55 = .ok (.iload 4, 2) := by decide +kernel
theorem dX6_sheet_57 : decode cX6_sheet 57 = .ok (.bipush 40, 2) := by decide +kernel
theorem dX6_sheet_59 : decode cX6_sheet 59 = .ok (.iload_n 1, 1) := by decide +kernel
theorem dX6_sheet_60 : decode cX6_sheet 60 = .ok (.imul, 1) := by decide +kernel
theorem dX6_sheet_61 : decode cX6_sheet 61 = .ok (.bipush 40, 2) := by decide +kernel
theorem dX6_sheet_63 : decode cX6_sheet 63 = .ok (.iadd, 1) := by decide +kernel
theorem dX6_sheet_64 : decode cX6_sheet 64 = .ok (.if_icmp .ge 33, 3) := by decide +kernel
theorem dX6_sheet_67 : decode cX6_sheet 67 = .ok (.aload_n 0, 1) := by decide +kernel
theorem dX6_sheet_68 : decode cX6_sheet 68 = .ok (.getfield 54, 3) := by decide +kernel
theorem dX6_sheet_71 : decode cX6_sheet 71 = .ok (.iload 4, 2) := by decide +kernel
theorem dX6_sheet_73 : decode cX6_sheet 73 = .ok (.lconst 0, 1) := by decide +kernel
theorem dX6_sheet_74 : decode cX6_sheet 74 = .ok (.lastore, 1) := by decide +kernel
theorem dX6_sheet_75 : decode cX6_sheet 75 = .ok (.aload_n 0, 1) := by decide +kernel
theorem dX6_sheet_76 : decode cX6_sheet 76 = .ok (.getfield 58, 3) := by decide +kernel
theorem dX6_sheet_79 : decode cX6_sheet 79 = .ok (.iload 4, 2) := by decide +kernel
theorem dX6_sheet_81 : decode cX6_sheet 81 = .ok (.dconst 0, 1) := by decide +kernel
theorem dX6_sheet_82 : decode cX6_sheet 82 = .ok (.dastore, 1) := by decide +kernel
theorem dX6_sheet_83 : decode cX6_sheet 83 = .ok (.aload_n 0, 1) := by decide +kernel
theorem dX6_sheet_84 : decode cX6_sheet 84 = .ok (.getfield 62, 3) := by decide +kernel
theorem dX6_sheet_87 : decode cX6_sheet 87 = .ok (.iload 4, 2) := by decide +kernel
theorem dX6_sheet_89 : decode cX6_sheet 89 = .ok (.iconst 0, 1) := by decide +kernel
theorem dX6_sheet_90 : decode cX6_sheet 90 = .ok (.bastore, 1) := by decide +kernel
theorem dX6_sheet_91 : decode cX6_sheet 91 = .ok (.iinc 4 1, 3) := by decide +kernel
theorem dX6_sheet_94 : decode cX6_sheet 94 = .ok (.goto (-39), 3) := by decide +kernel
theorem dX6_sheet_97 : decode cX6_sheet 97 = .ok (.iload_n 3, 1) := by decide +kernel
theorem dX6_sheet_98 : decode cX6_sheet 98 = .ok (.ireturn, 1) := by decide +kernel
set_option maxRecDepth 20000 in
theorem ggX6_lose_X6_isSheet : GoodIn wsX6_lose wsX6_isSheet := goodIn_r _ [6, 7, 8, 5, 9] (by decide +kernel) (by decide +kernel)
set_option maxRecDepth 20000 in
theorem gX6_lose_X6_isSheet : GoodIn wsX6_lose (va_wsS RX6 91 yX6_isSheet wsX6_isSheet) := goodIn_app (goodIn_of _ (by decide +kernel)) ggX6_lose_X6_isSheet
set_option maxRecDepth 20000 in
theorem ggX6_lose_X6_meets : GoodIn wsX6_lose wsX6_meets := goodIn_r _ [13, 14, 15, 16, 17, 18, 19, 20, 21, 22, 23, 24, 25, 26, 27, 28, 29, 30, 31, 32, 33, 34, 35, 36, 37, 38, 39, 40, 41, 42] (by decide +kernel) (by decide +kernel)
set_option maxRecDepth 20000 in
theorem gX6_lose_X6_meets : GoodIn wsX6_lose (wsV RX6 94 RX6 yX6_meets wsX6_meets) := goodIn_app (goodIn_of _ (by decide +kernel)) ggX6_lose_X6_meets
theorem dX6_lose_0 : decode cX6_lose 0 = .ok (.iload_n 1, 1) := by decide +kernel
theorem dX6_lose_1 : decode cX6_lose 1 = .ok (.invokestatic 91, 3) := by decide +kernel
theorem dX6_lose_4 : decode cX6_lose 4 = .ok (.ifCond .ne 6, 3) := by decide +kernel
theorem dX6_lose_7 : decode cX6_lose 7 = .ok (.bipush (-2), 2) := by decide +kernel
theorem dX6_lose_9 : decode cX6_lose 9 = .ok (.ireturn, 1) := by decide +kernel
theorem dX6_lose_10 : decode cX6_lose 10 = .ok (.aload_n 0, 1) := by decide +kernel
theorem dX6_lose_11 : decode cX6_lose 11 = .ok (.getfield 48, 3) := by decide +kernel
theorem dX6_lose_14 : decode cX6_lose 14 = .ok (.iload_n 1, 1) := by decide +kernel
theorem dX6_lose_15 : decode cX6_lose 15 = .ok (.iaload, 1) := by decide +kernel
theorem dX6_lose_16 : decode cX6_lose 16 = .ok (.iconst (-1), 1) := by decide +kernel
theorem dX6_lose_17 : decode cX6_lose 17 = .ok (.if_icmp .ne 9, 3) := by decide +kernel
theorem dX6_lose_20 : decode cX6_lose 20 = .ok (.aload_n 0, 1) := by decide +kernel
theorem dX6_lose_21 : decode cX6_lose 21 = .ok (.iconst 1, 1) := by decide +kernel
theorem dX6_lose_22 : decode cX6_lose 22 = .ok (.invokevirtual 94, 3) := by decide +kernel
theorem dX6_lose_25 : decode cX6_lose 25 = .ok (.ireturn, 1) := by decide +kernel
theorem dX6_lose_26 : decode cX6_lose 26 = .ok (.aload_n 0, 1) := by decide +kernel
theorem dX6_lose_27 : decode cX6_lose 27 = .ok (.getfield 48, 3) := by decide +kernel
theorem dX6_lose_30 : decode cX6_lose 30 = .ok (.iload_n 1, 1) := by decide +kernel
theorem dX6_lose_31 : decode cX6_lose 31 = .ok (.iconst (-1), 1) := by decide +kernel
theorem dX6_lose_32 : decode cX6_lose 32 = .ok (.iastore, 1) := by decide +kernel
theorem dX6_lose_33 : decode cX6_lose 33 = .ok (.aload_n 0, 1) := by decide +kernel
theorem dX6_lose_34 : decode cX6_lose 34 = .ok (.getfield 51, 3) := by decide +kernel
theorem dX6_lose_37 : decode cX6_lose 37 = .ok (.iload_n 1, 1) := by decide +kernel
theorem dX6_lose_38 : decode cX6_lose 38 = .ok (.iaload, 1) := by decide +kernel
theorem dX6_lose_39 : decode cX6_lose 39 = .ok (.ireturn, 1) := by decide +kernel
set_option maxRecDepth 20000 in
theorem ggX6_hasItem_X6_in : GoodIn wsX6_hasItem wsX6_in := goodIn_r _ [5] (by decide +kernel) (by decide +kernel)
set_option maxRecDepth 20000 in
theorem gX6_hasItem_X6_in : GoodIn wsX6_hasItem (va_wsS RX6 76 yX6_in wsX6_in) := goodIn_app (goodIn_of _ (by decide +kernel)) ggX6_hasItem_X6_in
theorem dX6_hasItem_0 : decode cX6_hasItem 0 = .ok (.iload_n 2, 1) := by decide +kernel
theorem dX6_hasItem_1 : decode cX6_hasItem 1 = .ok (.iconst 0, 1) := by decide +kernel
theorem dX6_hasItem_2 : decode cX6_hasItem 2 = .ok (.aload_n 0, 1) := by decide +kernel
theorem dX6_hasItem_3 : decode cX6_hasItem 3 = .ok (.getfield 51, 3) := by decide +kernel
theorem dX6_hasItem_6 : decode cX6_hasItem 6 = .ok (.iload_n 1, 1) := by decide +kernel
theorem dX6_hasItem_7 : decode cX6_hasItem 7 = .ok (.iaload, 1) := by decide +kernel
theorem dX6_hasItem_8 : decode cX6_hasItem 8 = .ok (.iconst 1, 1) := by decide +kernel
theorem dX6_hasItem_9 : decode cX6_hasItem 9 = .ok (.isub, 1) := by decide +kernel
theorem dX6_hasItem_10 : decode cX6_hasItem 10 = .ok (.invokestatic 76, 3) := by decide +kernel
theorem dX6_hasItem_13 : decode cX6_hasItem 13 = .ok (.ireturn, 1) := by decide +kernel
set_option maxRecDepth 20000 in
theorem ggX6_put_X6_isSheet : GoodIn wsX6_put wsX6_isSheet := goodIn_r _ [9, 10, 11, 8, 12] (by decide +kernel) (by decide +kernel)
set_option maxRecDepth 20000 in
theorem gX6_put_X6_isSheet : GoodIn wsX6_put (va_wsS RX6 91 yX6_isSheet wsX6_isSheet) := goodIn_app (goodIn_of _ (by decide +kernel)) ggX6_put_X6_isSheet
set_option maxRecDepth 20000 in
theorem ggX6_put_X6_in : GoodIn wsX6_put wsX6_in := goodIn_r _ [12] (by decide +kernel) (by decide +kernel)
set_option maxRecDepth 20000 in
theorem gX6_put_X6_in : GoodIn wsX6_put (va_wsS RX6 76 yX6_in wsX6_in) := goodIn_app (goodIn_of _ (by decide +kernel)) ggX6_put_X6_in
set_option maxRecDepth 20000 in
theorem ggX6_put_X6_hasItem : GoodIn wsX6_put wsX6_hasItem := goodIn_r _ [16, 17, 10, 11, 8, 12, 23, 24, 25, 26, 27, 28, 29, 30, 31, 32, 33, 34, 35, 36, 37, 38, 39, 40, 41, 42, 43, 44, 45, 46, 47, 48, 49, 50] (by decide +kernel) (by decide +kernel)
set_option maxRecDepth 20000 in
theorem gX6_put_X6_hasItem : GoodIn wsX6_put (wsV RX6 234 RX6 yX6_hasItem wsX6_hasItem) := goodIn_app (goodIn_of _ (by decide +kernel)) ggX6_put_X6_hasItem
set_option maxRecDepth 20000 in
theorem ggX6_put_X6_meets : GoodIn wsX6_put wsX6_meets := goodIn_r _ [21, 22, 23, 24, 25, 26, 27, 28, 29, 30, 31, 32, 33, 34, 35, 36, 37, 38, 39, 40, 41, 42, 43, 44, 45, 46, 47, 48, 49, 50] (by decide +kernel) (by decide +kernel)
set_option maxRecDepth 20000 in
theorem gX6_put_X6_meets : GoodIn wsX6_put (wsV RX6 94 RX6 yX6_meets wsX6_meets) := goodIn_app (goodIn_of _ (by decide +kernel)) ggX6_put_X6_meets
theorem dX6_put_0 : decode cX6_put 0 = .ok (.iload_n 1, 1) := by decide +kernel
theorem dX6_put_1 : decode cX6_put 1 = .ok (.invokestatic 91, 3) := by decide +kernel
theorem dX6_put_4 : decode cX6_put 4 = .ok (.ifCond .eq 12, 3) := by decide +kernel
theorem dX6_put_7 : decode cX6_put 7 = .ok (.iload_n 2, 1) := by decide +kernel
theorem dX6_put_8 : decode cX6_put 8 = .ok (.iconst 0, 1) := by decide +kernel
theorem dX6_put_9 : decode cX6_put 9 = .ok (.iconst 1, 1) := by decide +kernel
theorem dX6_put_10 : decode cX6_put 10 = .ok (.invokestatic 76, 3) := by decide +kernel
theorem dX6_put_13 : decode cX6_put 13 = .ok (.ifCond .ne 6, 3) := by decide +kernel
theorem dX6_put_16 : decode cX6_put 16 = .ok (.bipush (-2), 2) := by decide +kernel
theorem dX6_put_18 : decode cX6_put 18 = .ok (.ireturn, 1) := by decide +kernel
theorem dX6_put_19 : decode cX6_put 19 = .ok (.aload_n 0, 1) := by decide +kernel
theorem dX6_put_20 : decode cX6_put 20 = .ok (.getfield 48, 3) := by decide +kernel
theorem dX6_put_23 : decode cX6_put 23 = .ok (.iload_n 1, 1) := by decide +kernel
theorem dX6_put_24 : decode cX6_put 24 = .ok (.iaload, 1) := by decide +kernel
theorem dX6_put_25 : decode cX6_put 25 = .ok (.iconst (-1), 1) := by decide +kernel
theorem dX6_put_26 : decode cX6_put 26 = .ok (.if_icmp .ne 7, 3) := by decide +kernel
theorem dX6_put_29 : decode cX6_put 29 = .ok (.iconst 1, 1) := by decide +kernel
theorem dX6_put_30 : decode cX6_put 30 = .ok (.goto 31, 3) := by decide +kernel
theorem dX6_put_33 : decode cX6_put 33 = .ok (.aload_n 0, 1) := by decide +kernel
theorem dX6_put_34 : decode cX6_put 34 = .ok (.getfield 48, 3) := by decide +kernel
theorem dX6_put_37 : decode cX6_put 37 = .ok (.iload_n 1, 1) := by decide +kernel
theorem dX6_put_38 : decode cX6_put 38 = .ok (.iaload, 1) := by decide +kernel
theorem dX6_put_39 : decode cX6_put 39 = .ok (.iload_n 2, 1) := by decide +kernel
theorem dX6_put_40 : decode cX6_put 40 = .ok (.if_icmp .eq 7, 3) := by decide +kernel
theorem dX6_put_43 : decode cX6_put 43 = .ok (.iconst 3, 1) := by decide +kernel
theorem dX6_put_44 : decode cX6_put 44 = .ok (.goto 17, 3) := by decide +kernel
theorem dX6_put_47 : decode cX6_put 47 = .ok (.aload_n 0, 1) := by decide +kernel
theorem dX6_put_48 : decode cX6_put 48 = .ok (.iload_n 1, 1) := by decide +kernel
theorem dX6_put_49 : decode cX6_put 49 = .ok (.iload_n 3, 1) := by decide +kernel
theorem dX6_put_50 : decode cX6_put 50 = .ok (.invokevirtual 234, 3) := by decide +kernel
theorem dX6_put_53 : decode cX6_put 53 = .ok (.ifCond .eq 7, 3) := by decide +kernel
theorem dX6_put_56 : decode cX6_put 56 = .ok (.iconst 0, 1) := by decide +kernel
theorem dX6_put_57 : decode cX6_put 57 = .ok (.goto 4, 3) := by decide +kernel
theorem dX6_put_60 : decode cX6_put 60 = .ok (.iconst 2, 1) := by decide +kernel
theorem dX6_put_61 : decode cX6_put 61 = .ok (.istore 5, 2) := by decide +kernel
theorem dX6_put_63 : decode cX6_put 63 = .ok (.iload 5, 2) := by decide +kernel
theorem dX6_put_65 : decode cX6_put 65 = .ok (.ifCond .le 10, 3) := by decide +kernel
theorem dX6_put_68 : decode cX6_put 68 = .ok (.aload_n 0, 1) := by decide +kernel
theorem dX6_put_69 : decode cX6_put 69 = .ok (.iload 5, 2) := by decide +kernel
theorem dX6_put_71 : decode cX6_put 71 = .ok (.invokevirtual 94, 3) := by decide +kernel
theorem dX6_put_74 : decode cX6_put 74 = .ok (.ireturn, 1) := by decide +kernel
theorem dX6_put_75 : decode cX6_put 75 = .ok (.aload_n 0, 1) := by decide +kernel
theorem dX6_put_76 : decode cX6_put 76 = .ok (.getfield 54, 3) := by decide +kernel
theorem dX6_put_79 : decode cX6_put 79 = .ok (.bipush 40, 2) := by decide +kernel
theorem dX6_put_81 : decode cX6_put 81 = .ok (.iload_n 1, 1) := by decide +kernel
theorem dX6_put_82 : decode cX6_put 82 = .ok (.imul, 1) := by decide +kernel
theorem dX6_put_83 : decode cX6_put 83 = .ok (.iload_n 3, 1) := by decide +kernel
theorem dX6_put_84 : decode cX6_put 84 = .ok (.iadd, 1) := by decide +kernel
theorem dX6_put_85 : decode cX6_put 85 = .ok (.iload 4, 2) := by decide +kernel
theorem dX6_put_87 : decode cX6_put 87 = .ok (.i2l, 1) := by decide +kernel
theorem dX6_put_88 : decode cX6_put 88 = .ok (.lastore, 1) := by decide +kernel
theorem dX6_put_89 : decode cX6_put 89 = .ok (.aload_n 0, 1) := by decide +kernel
theorem dX6_put_90 : decode cX6_put 90 = .ok (.getfield 58, 3) := by decide +kernel
theorem dX6_put_93 : decode cX6_put 93 = .ok (.bipush 40, 2) := by decide +kernel
theorem dX6_put_95 : decode cX6_put 95 = .ok (.iload_n 1, 1) := by decide +kernel
theorem dX6_put_96 : decode cX6_put 96 = .ok (.imul, 1) := by decide +kernel
theorem dX6_put_97 : decode cX6_put 97 = .ok (.iload_n 3, 1) := by decide +kernel
theorem dX6_put_98 : decode cX6_put 98 = .ok (.iadd, 1) := by decide +kernel
theorem dX6_put_99 : decode cX6_put 99 = .ok (.iload 4, 2) := by decide +kernel
theorem dX6_put_101 : decode cX6_put 101 = .ok (.i2d, 1) := by decide +kernel
theorem dX6_put_102 : decode cX6_put 102 = .ok (.ldc2_w 237, 3) := by decide +kernel
theorem dX6_put_105 : decode cX6_put 105 = .ok (.ddiv, 1) := by decide +kernel
theorem dX6_put_106 : decode cX6_put 106 = .ok (.dastore, 1) := by decide +kernel
theorem dX6_put_107 : decode cX6_put 107 = .ok (.aload_n 0, 1) := by decide +kernel
theorem dX6_put_108 : decode cX6_put 108 = .ok (.getfield 62, 3) := by decide +kernel
theorem dX6_put_111 : decode cX6_put 111 = .ok (.bipush 40, 2) := by decide +kernel
theorem dX6_put_113 : decode cX6_put 113 = .ok (.iload_n 1, 1) := by decide +kernel
theorem dX6_put_114 : decode cX6_put 114 = .ok (.imul, 1) := by decide +kernel
theorem dX6_put_115 : decode cX6_put 115 = .ok (.iload_n 3, 1) := by decide +kernel
theorem dX6_put_116 : decode cX6_put 116 = .ok (.iadd, 1) := by decide +kernel
theorem dX6_put_117 : decode cX6_put 117 = .ok (.iconst 0, 1) := by decide +kernel
theorem dX6_put_118 : decode cX6_put 118 = .ok (.bastore, 1) := by decide +kernel
theorem dX6_put_119 : decode cX6_put 119 = .ok (.iconst 1, 1) := by decide +kernel
theorem dX6_put_120 : decode cX6_put 120 = .ok (.ireturn, 1) := by decide +kernel
set_option maxRecDepth 20000 in
theorem ggX6_itemOf_X6_no : GoodIn wsX6_itemOf wsX6_no := goodIn_r _ [9, 10] (by decide +kernel) (by decide +kernel)
set_option maxRecDepth 20000 in
theorem gX6_itemOf_X6_no : GoodIn wsX6_itemOf (va_wsS RX6 139 yX6_no wsX6_no) := goodIn_app (goodIn_of _ (by decide +kernel)) ggX6_itemOf_X6_no
theorem dX6_itemOf_0 : decode cX6_itemOf 0 = .ok (.bipush 40, 2) := by decide +kernel
theorem dX6_itemOf_2 : decode cX6_itemOf 2 = .ok (.iload_n 1, 1) := by decide +kernel
theorem dX6_itemOf_3 : decode cX6_itemOf 3 = .ok (.imul, 1) := by decide +kernel
theorem dX6_itemOf_4 : decode cX6_itemOf 4 = .ok (.iload_n 2, 1) := by decide +kernel
theorem dX6_itemOf_5 : decode cX6_itemOf 5 = .ok (.iadd, 1) := by decide +kernel
theorem dX6_itemOf_6 : decode cX6_itemOf 6 = .ok (.istore_n 3, 1) := by decide +kernel
theorem dX6_itemOf_7 : decode cX6_itemOf 7 = .ok (.aload_n 0, 1) := by decide +kernel
theorem dX6_itemOf_8 : decode cX6_itemOf 8 = .ok (.getfield 48, 3) := by decide +kernel
theorem dX6_itemOf_11 : decode cX6_itemOf 11 = .ok (.iload_n 1, 1) := by decide +kernel
theorem dX6_itemOf_12 : decode cX6_itemOf 12 = .ok (.iaload, 1) := by decide +kernel
theorem dX6_itemOf_13 : decode cX6_itemOf 13 = .ok (.ifCond .ne 12, 3) := by decide +kernel
theorem dX6_itemOf_16 : decode cX6_itemOf 16 = .ok (.aload_n 0, 1) := by decide +kernel
theorem dX6_itemOf_17 : decode cX6_itemOf 17 = .ok (.getfield 54, 3) := by decide +kernel
theorem dX6_itemOf_20 : decode cX6_itemOf 20 = .ok (.iload_n 3, 1) := by decide +kernel
theorem dX6_itemOf_21 : decode cX6_itemOf 21 = .ok (.laload, 1) := by decide +kernel
theorem dX6_itemOf_22 : decode cX6_itemOf 22 = .ok (.goto 30, 3) := by decide +kernel
theorem dX6_itemOf_25 : decode cX6_itemOf 25 = .ok (.aload_n 0, 1) := by decide +kernel
theorem dX6_itemOf_26 : decode cX6_itemOf 26 = .ok (.getfield 62, 3) := by decide +kernel
theorem dX6_itemOf_29 : decode cX6_itemOf 29 = .ok (.iload_n 3, 1) := by decide +kernel
theorem dX6_itemOf_30 : decode cX6_itemOf 30 = .ok (.baload, 1) := by decide +kernel
theorem dX6_itemOf_31 : decode cX6_itemOf 31 = .ok (.ifCond .eq 10, 3) := by decide +kernel
theorem dX6_itemOf_34 : decode cX6_itemOf 34 = .ok (.iconst (-1), 1) := by decide +kernel
theorem dX6_itemOf_35 : decode cX6_itemOf 35 = .ok (.invokestatic 139, 3) := by decide +kernel
theorem dX6_itemOf_38 : decode cX6_itemOf 38 = .ok (.goto 14, 3) := by decide +kernel
theorem dX6_itemOf_41 : decode cX6_itemOf 41 = .ok (.ldc2_w 237, 3) := by decide +kernel
theorem dX6_itemOf_44 : decode cX6_itemOf 44 = .ok (.aload_n 0, 1) := by decide +kernel
theorem dX6_itemOf_45 : decode cX6_itemOf 45 = .ok (.getfield 58, 3) := by decide +kernel
theorem dX6_itemOf_48 : decode cX6_itemOf 48 = .ok (.iload_n 3, 1) := by decide +kernel
theorem dX6_itemOf_49 : decode cX6_itemOf 49 = .ok (.daload, 1) := by decide +kernel
theorem dX6_itemOf_50 : decode cX6_itemOf 50 = .ok (.dmul, 1) := by decide +kernel
theorem dX6_itemOf_51 : decode cX6_itemOf 51 = .ok (.d2l, 1) := by decide +kernel
theorem dX6_itemOf_52 : decode cX6_itemOf 52 = .ok (.lreturn, 1) := by decide +kernel
set_option maxRecDepth 20000 in
theorem ggX6_get_X6_isSheet : GoodIn wsX6_get wsX6_isSheet := goodIn_r _ [5, 6, 7, 4, 8] (by decide +kernel) (by decide +kernel)
set_option maxRecDepth 20000 in
theorem gX6_get_X6_isSheet : GoodIn wsX6_get (va_wsS RX6 91 yX6_isSheet wsX6_isSheet) := goodIn_app (goodIn_of _ (by decide +kernel)) ggX6_get_X6_isSheet
set_option maxRecDepth 20000 in
theorem ggX6_get_X6_no : GoodIn wsX6_get wsX6_no := goodIn_r _ [11, 12] (by decide +kernel) (by decide +kernel)
set_option maxRecDepth 20000 in
theorem gX6_get_X6_no : GoodIn wsX6_get (va_wsS RX6 139 yX6_no wsX6_no) := goodIn_app (goodIn_of _ (by decide +kernel)) ggX6_get_X6_no
set_option maxRecDepth 20000 in
theorem ggX6_get_X6_hasItem : GoodIn wsX6_get wsX6_hasItem := goodIn_r _ [16, 17, 6, 7, 4, 8, 31, 32, 33, 34, 35, 36, 37, 38, 39, 40, 41, 42, 43, 44, 45, 46, 47, 48, 49, 50, 51, 52, 53, 54, 55, 56, 57, 58] (by decide +kernel) (by decide +kernel)
set_option maxRecDepth 20000 in
theorem gX6_get_X6_hasItem : GoodIn wsX6_get (wsV RX6 234 RX6 yX6_hasItem wsX6_hasItem) := goodIn_app (goodIn_of _ (by decide +kernel)) ggX6_get_X6_hasItem
set_option maxRecDepth 20000 in
theorem ggX6_get_X6_meets : GoodIn wsX6_get wsX6_meets := goodIn_r _ [21, 22, 31, 32, 33, 34, 35, 36, 37, 38, 39, 40, 41, 42, 43, 44, 45, 46, 47, 48, 49, 50, 51, 52, 53, 54, 55, 56, 57, 58] (by decide +kernel) (by decide +kernel)
set_option maxRecDepth 20000 in
theorem gX6_get_X6_meets : GoodIn wsX6_get (wsV RX6 94 RX6 yX6_meets wsX6_meets) := goodIn_app (goodIn_of _ (by decide +kernel)) ggX6_get_X6_meets
set_option maxRecDepth 20000 in
theorem ggX6_get_X6_itemOf : GoodIn wsX6_get wsX6_itemOf := goodIn_r _ [26, 1, 27, 28, 29, 30, 9, 10, 4, 11, 12, 31, 32, 33, 34, 35, 36, 37, 38, 39, 40, 41, 42, 43, 44, 45, 46, 47, 48, 49, 50, 51, 52, 53, 54, 55, 56, 57, 58] (by decide +kernel) (by decide +kernel)
set_option maxRecDepth 20000 in
theorem gX6_get_X6_itemOf : GoodIn wsX6_get (wsV RX6 239 RX6 yX6_itemOf wsX6_itemOf) := goodIn_app (goodIn_of _ (by decide +kernel)) ggX6_get_X6_itemOf
theorem dX6_get_0 : decode cX6_get 0 = .ok (.iload_n 1, 1) := by decide +kernel
theorem dX6_get_1 : decode cX6_get 1 = .ok (.invokestatic 91, 3) := by decide +kernel
theorem dX6_get_4 : decode cX6_get 4 = .ok (.ifCond .ne 9, 3) := by decide +kernel
theorem dX6_get_7 : decode cX6_get 7 = .ok (.bipush (-2), 2) := by decide +kernel
theorem dX6_get_9 : decode cX6_get 9 = .ok (.invokestatic 139, 3) := by decide +kernel
theorem dX6_get_12 : decode cX6_get 12 = .ok (.lreturn, 1) := by decide +kernel
theorem dX6_get_13 : decode cX6_get 13 = .ok (.aload_n 0, 1) := by decide +kernel
theorem dX6_get_14 : decode cX6_get 14 = .ok (.getfield 48, 3) := by decide +kernel
theorem dX6_get_17 : decode cX6_get 17 = .ok (.iload_n 1, 1) := by decide +kernel
theorem dX6_get_18 : decode cX6_get 18 = .ok (.iaload, 1) := by decide +kernel
theorem dX6_get_19 : decode cX6_get 19 = .ok (.iconst (-1), 1) := by decide +kernel
theorem dX6_get_20 : decode cX6_get 20 = .ok (.if_icmp .ne 7, 3) := by decide +kernel
theorem dX6_get_23 : decode cX6_get 23 = .ok (.iconst 1, 1) := by decide +kernel
theorem dX6_get_24 : decode cX6_get 24 = .ok (.goto 17, 3) := by decide +kernel
theorem dX6_get_27 : decode cX6_get 27 = .ok (.aload_n 0, 1) := by decide +kernel
theorem dX6_get_28 : decode cX6_get 28 = .ok (.iload_n 1, 1) := by decide +kernel
theorem dX6_get_29 : decode cX6_get 29 = .ok (.iload_n 2, 1) := by decide +kernel
theorem dX6_get_30 : decode cX6_get 30 = .ok (.invokevirtual 234, 3) := by decide +kernel
theorem dX6_get_33 : decode cX6_get 33 = .ok (.ifCond .eq 7, 3) := by decide +kernel
theorem dX6_get_36 : decode cX6_get 36 = .ok (.iconst 0, 1) := by decide +kernel
theorem dX6_get_37 : decode cX6_get 37 = .ok (.goto 4, 3) := by decide +kernel
theorem dX6_get_40 : decode cX6_get 40 = .ok (.iconst 2, 1) := by decide +kernel
theorem dX6_get_41 : decode cX6_get 41 = .ok (.istore_n 3, 1) := by decide +kernel
theorem dX6_get_42 : decode cX6_get 42 = .ok (.iload_n 3, 1) := by decide +kernel
theorem dX6_get_43 : decode cX6_get 43 = .ok (.ifCond .le 14, 3) := by decide +kernel
theorem dX6_get_46 : decode cX6_get 46 = .ok (.aload_n 0, 1) := by decide +kernel
theorem dX6_get_47 : decode cX6_get 47 = .ok (.iload_n 3, 1) := by decide +kernel
theorem dX6_get_48 : decode cX6_get 48 = .ok (.invokevirtual 94, 3) := by decide +kernel
theorem dX6_get_51 : decode cX6_get 51 = .ok (.invokestatic 139, 3) := by decide +kernel
theorem dX6_get_54 : decode cX6_get 54 = .ok (.goto 9, 3) := by decide +kernel
theorem dX6_get_57 : decode cX6_get 57 = .ok (.aload_n 0, 1) := by decide +kernel
theorem dX6_get_58 : decode cX6_get 58 = .ok (.iload_n 1, 1) := by decide +kernel
theorem dX6_get_59 : decode cX6_get 59 = .ok (.iload_n 2, 1) := by decide +kernel
theorem dX6_get_60 : decode cX6_get 60 = .ok (.invokevirtual 239, 3) := by decide +kernel
theorem dX6_get_63 : decode cX6_get 63 = .ok (.lreturn, 1) := by decide +kernel
set_option maxRecDepth 20000 in
theorem ggX6_copy_X6_isSheet : GoodIn wsX6_copy wsX6_isSheet := goodIn_r _ [12, 13, 14, 11, 15] (by decide +kernel) (by decide +kernel)
set_option maxRecDepth 20000 in
theorem gX6_copy_X6_isSheet : GoodIn wsX6_copy (va_wsS RX6 91 yX6_isSheet wsX6_isSheet) := goodIn_app (goodIn_of _ (by decide +kernel)) ggX6_copy_X6_isSheet
set_option maxRecDepth 20000 in
theorem ggX6_copy_X6_meets : GoodIn wsX6_copy wsX6_meets := goodIn_r _ [19, 20, 21, 22, 23, 24, 25, 26, 27, 28, 29, 30, 31, 32, 33, 34, 35, 36, 37, 38, 39, 40, 41, 42, 43, 44, 45, 46, 47, 48] (by decide +kernel) (by decide +kernel)
set_option maxRecDepth 20000 in
theorem gX6_copy_X6_meets : GoodIn wsX6_copy (wsV RX6 94 RX6 yX6_meets wsX6_meets) := goodIn_app (goodIn_of _ (by decide +kernel)) ggX6_copy_X6_meets
theorem dX6_copy_0 : decode cX6_copy 0 = .ok (.iload_n 1, 1) := by decide +kernel
theorem dX6_copy_1 : decode cX6_copy 1 = .ok (.invokestatic 91, 3) := by decide +kernel
theorem dX6_copy_4 : decode cX6_copy 4 = .ok (.ifCond .eq 10, 3) := by decide +kernel
theorem dX6_copy_7 : decode cX6_copy 7 = .ok (.iload_n 3, 1) := by decide +kernel
theorem dX6_copy_8 : decode cX6_copy 8 = .ok (.invokestatic 91, 3) := by decide +kernel
theorem dX6_copy_11 : decode cX6_copy 11 = .ok (.ifCond .ne 6, 3) := by decide +kernel
theorem dX6_copy_14 : decode cX6_copy 14 = .ok (.bipush (-2), 2) := by decide +kernel
theorem dX6_copy_16 : decode cX6_copy 16 = .ok (.ireturn, 1) := by decide +kernel
theorem dX6_copy_17 : decode cX6_copy 17 = .ok (.aload_n 0, 1) := by decide +kernel
theorem dX6_copy_18 : decode cX6_copy 18 = .ok (.getfield 48, 3) := by decide +kernel
theorem dX6_copy_21 : decode cX6_copy 21 = .ok (.iload_n 1, 1) := by decide +kernel
theorem dX6_copy_22 : decode cX6_copy 22 = .ok (.iaload, 1) := by decide +kernel
theorem dX6_copy_23 : decode cX6_copy 23 = .ok (.iconst (-1), 1) := by decide +kernel
theorem dX6_copy_24 : decode cX6_copy 24 = .ok (.if_icmp .eq 13, 3) := by decide +kernel
theorem dX6_copy_27 : decode cX6_copy 27 = .ok (.aload_n 0, 1) := by decide +kernel
theorem dX6_copy_28 : decode cX6_copy 28 = .ok (.getfield 48, 3) := by decide +kernel
theorem dX6_copy_31 : decode cX6_copy 31 = .ok (.iload_n 3, 1) := by decide +kernel
theorem dX6_copy_32 : decode cX6_copy 32 = .ok (.iaload, 1) := by decide +kernel
theorem dX6_copy_33 : decode cX6_copy 33 = .ok (.iconst (-1), 1) := by decide +kernel
theorem dX6_copy_34 : decode cX6_copy 34 = .ok (.if_icmp .ne 9, 3) := by decide +kernel
theorem dX6_copy_37 : decode cX6_copy 37 = .ok (.aload_n 0, 1) := by decide +kernel
theorem dX6_copy_38 : decode cX6_copy 38 = .ok (.iconst 1, 1) := by decide +kernel
theorem dX6_copy_39 : decode cX6_copy 39 = .ok (.invokevirtual 94, 3) := by decide +kernel
theorem dX6_copy_42 : decode cX6_copy 42 = .ok (.ireturn, 1) := by decide +kernel
theorem dX6_copy_43 : decode cX6_copy 43 = .ok (.aload_n 0, 1) := by decide +kernel
theorem dX6_copy_44 : decode cX6_copy 44 = .ok (.getfield 48, 3) := by decide +kernel
theorem dX6_copy_47 : decode cX6_copy 47 = .ok (.iload_n 1, 1) := by decide +kernel
theorem dX6_copy_48 : decode cX6_copy 48 = .ok (.iaload, 1) := by decide +kernel
theorem dX6_copy_49 : decode cX6_copy 49 = .ok (.aload_n 0, 1) := by decide +kernel
theorem dX6_copy_50 : decode cX6_copy 50 = .ok (.getfield 48, 3) := by decide +kernel
theorem dX6_copy_53 : decode cX6_copy 53 = .ok (.iload_n 3, 1) := by decide +kernel
theorem dX6_copy_54 : decode cX6_copy 54 = .ok (.iaload, 1) := by decide +kernel
theorem dX6_copy_55 : decode cX6_copy 55 = .ok (.if_icmp .eq 9, 3) := by decide +kernel
theorem dX6_copy_58 : decode cX6_copy 58 = .ok (.aload_n 0, 1) := by decide +kernel
theorem dX6_copy_59 : decode cX6_copy 59 = .ok (.iconst 4, 1) := by decide +kernel
theorem dX6_copy_60 : decode cX6_copy 60 = .ok (.invokevirtual 94, 3) := by decide +kernel
theorem dX6_copy_63 : decode cX6_copy 63 = .ok (.ireturn, 1) := by decide +kernel
theorem dX6_copy_64 : decode cX6_copy 64 = .ok (.iload_n 2, 1) := by decide +kernel
theorem dX6_copy_65 : decode cX6_copy 65 = .ok (.ifCond .lt 48, 3) := by decide +kernel
theorem dX6_copy_68 : decode cX6_copy 68 = .ok (.iload 4, 2) := by decide +kernel
theorem dX6_copy_70 : decode cX6_copy 70 = .ok (.ifCond .lt 43, 3) := by decide +kernel
theorem dX6_copy_73 : decode cX6_copy 73 = .ok (.iload 5, 2) := by decide +kernel
theorem dX6_copy_75 : decode cX6_copy 75 = .ok (.ifCond .lt 38, 3) := by decide +kernel
theorem dX6_copy_78 : decode cX6_copy 78 = .ok (.iload_n 2, 1) := by decide +kernel
theorem dX6_copy_79 : decode cX6_copy 79 = .ok (.i2l, 1) := by decide +kernel
theorem dX6_copy_80 : decode cX6_copy 80 = .ok (.iload 5, 2) := by decide +kernel
theorem dX6_copy_82 : decode cX6_copy 82 = .ok (.i2l, 1) := by decide +kernel
theorem dX6_copy_83 : decode cX6_copy 83 = .ok (.ladd, 1) := by decide +kernel
theorem dX6_copy_84 : decode cX6_copy 84 = .ok (.aload_n 0, 1) := by decide +kernel
theorem dX6_copy_85 : decode cX6_copy 85 = .ok (.getfield 51, 3) := by decide +kernel
theorem dX6_copy_88 : decode cX6_copy 88 = .ok (.iload_n 1, 1) := by decide +kernel
theorem dX6_copy_89 : decode cX6_copy 89 = .ok (.iaload, 1) := by decide +kernel
theorem dX6_copy_90 : decode cX6_copy 90 = .ok (.i2l, 1) := by decide +kernel
theorem dX6_copy_91 : decode cX6_copy 91 = .ok (.lcmp, 1) := by decide +kernel
theorem dX6_copy_92 : decode cX6_copy 92 = .ok (.ifCond .gt 21, 3) := by decide +kernel
theorem dX6_copy_95 : decode cX6_copy 95 = .ok (.iload 4, 2) := by decide +kernel
theorem dX6_copy_97 : decode cX6_copy 97 = .ok (.i2l, 1) := by decide +kernel
theorem dX6_copy_98 : decode cX6_copy 98 = .ok (.iload 5, 2) := by decide +kernel
theorem dX6_copy_100 : decode cX6_copy 100 = .ok (.i2l, 1) := by decide +kernel
theorem dX6_copy_101 : decode cX6_copy 101 = .ok (.ladd, 1) := by decide +kernel
theorem dX6_copy_102 : decode cX6_copy 102 = .ok (.aload_n 0, 1) := by decide +kernel
theorem dX6_copy_103 : decode cX6_copy 103 = .ok (.getfield 51, 3) := by decide +kernel
theorem dX6_copy_106 : decode cX6_copy 106 = .ok (.iload_n 3, 1) := by decide +kernel
theorem dX6_copy_107 : decode cX6_copy 107 = .ok (.iaload, 1) := by decide +kernel
theorem dX6_copy_108 : decode cX6_copy 108 = .ok (.i2l, 1) := by decide +kernel
theorem dX6_copy_109 : decode cX6_copy 109 = .ok (.lcmp, 1) := by decide +kernel
theorem dX6_copy_110 : decode cX6_copy 110 = .ok (.ifCond .le 9, 3) := by decide +kernel
theorem dX6_copy_113 : decode cX6_copy 113 = .ok (.aload_n 0, 1) := by decide +kernel
theorem dX6_copy_114 : decode cX6_copy 114 = .ok (.iconst 2, 1) := by decide +kernel
theorem dX6_copy_115 : decode cX6_copy 115 = .ok (.invokevirtual 94, 3) := by decide +kernel
theorem dX6_copy_118 : decode cX6_copy 118 = .ok (.ireturn, 1) := by decide +kernel
theorem dX6_copy_119 : decode cX6_copy 119 = .ok (.iconst 0, 1) := by decide +kernel
theorem dX6_copy_120 : decode cX6_copy 120 = .ok (.istore 6, 2) := by decide +kernel
theorem dX6_copy_122 : decode cX6_copy 122 = .ok (.iload 6, 2) := by decide +kernel
theorem dX6_copy_124 : decode cX6_copy 124 = .ok (.iload 5, 2) := by decide +kernel
theorem dX6_copy_126 : decode cX6_copy 126 = .ok (.if_icmp .ge 72, 3) := by decide +kernel
theorem dX6_copy_129 : decode cX6_copy 129 = .ok (.aload_n 0, 1) := by decide +kernel
theorem dX6_copy_130 : decode cX6_copy 130 = .ok (.getfield 65, 3) := by decide +kernel
theorem dX6_copy_133 : decode cX6_copy 133 = .ok (.iload 6, 2) := by decide +kernel
theorem dX6_copy_135 : decode cX6_copy 135 = .ok (.aload_n 0, 1) := by decide +kernel
theorem dX6_copy_136 : decode cX6_copy 136 = .ok (.getfield 54, 3) := by decide +kernel
theorem dX6_copy_139 : decode cX6_copy 139 = .ok (.bipush 40, 2) := by decide +kernel
theorem dX6_copy_141 : decode cX6_copy 141 = .ok (.iload_n 1, 1) := by decide +kernel
theorem dX6_copy_142 : decode cX6_copy 142 = .ok (.imul, 1) := by decide +kernel
theorem dX6_copy_143 : decode cX6_copy 143 = .ok (.iload_n 2, 1) := by decide +kernel
theorem dX6_copy_144 : decode cX6_copy 144 = .ok (.iadd, 1) := by decide +kernel
theorem dX6_copy_145 : decode cX6_copy 145 = .ok (.iload 6, 2) := by decide +kernel
theorem dX6_copy_147 : decode cX6_copy 147 = .ok (.iadd, 1) := by decide +kernel
theorem dX6_copy_148 : decode cX6_copy 148 = .ok (.laload, 1) := by decide +kernel
theorem dX6_copy_149 : decode cX6_copy 149 = .ok (.lastore, 1) := by decide +kernel
theorem dX6_copy_150 : decode cX6_copy 150 = .ok (.aload_n 0, 1) := by decide +kernel
theorem dX6_copy_151 : decode cX6_copy 151 = .ok (.getfield 68, 3) := by decide +kernel
theorem dX6_copy_154 : decode cX6_copy 154 = .ok (.iload 6, 2) := by decide +kernel
theorem dX6_copy_156 : decode cX6_copy 156 = .ok (.aload_n 0, 1) := by decide +kernel
theorem dX6_copy_157 : decode cX6_copy 157 = .ok (.getfield 58, 3) := by decide +kernel
theorem dX6_copy_160 : decode cX6_copy 160 = .ok (.bipush 40, 2) := by decide +kernel
theorem dX6_copy_162 : decode cX6_copy 162 = .ok (.iload_n 1, 1) := by decide +kernel
theorem dX6_copy_163 : decode cX6_copy 163 = .ok (.imul, 1) := by decide +kernel
theorem dX6_copy_164 : decode cX6_copy 164 = .ok (.iload_n 2, 1) := by decide +kernel
theorem dX6_copy_165 : decode cX6_copy 165 = .ok (.iadd, 1) := by decide +kernel
theorem dX6_copy_166 : decode cX6_copy 166 = .ok (.iload 6, 2) := by decide +kernel
theorem dX6_copy_168 : decode cX6_copy 168 = .ok (.iadd, 1) := by decide +kernel
theorem dX6_copy_169 : decode cX6_copy 169 = .ok (.daload, 1) := by decide +kernel
theorem dX6_copy_170 : decode cX6_copy 170 = .ok (.dastore, 1) := by decide +kernel
theorem dX6_copy_171 : decode cX6_copy 171 = .ok (.aload_n 0, 1) := by decide +kernel
theorem dX6_copy_172 : decode cX6_copy 172 = .ok (.getfield 71, 3) := by decide +kernel
theorem dX6_copy_175 : decode cX6_copy 175 = .ok (.iload 6, 2) := by decide +kernel
theorem dX6_copy_177 : decode cX6_copy 177 = .ok (.aload_n 0, 1) := by decide +kernel
theorem dX6_copy_178 : decode cX6_copy 178 = .ok (.getfield 62, 3) := by decide +kernel
theorem dX6_copy_181 : decode cX6_copy 181 = .ok (.bipush 40, 2) := by decide +kernel
theorem dX6_copy_183 : decode cX6_copy 183 = .ok (.iload_n 1, 1) := by decide +kernel
theorem dX6_copy_184 : decode cX6_copy 184 = .ok (.imul, 1) := by decide +kernel
theorem dX6_copy_185 : decode cX6_copy 185 = .ok (.iload_n 2, 1) := by decide +kernel
theorem dX6_copy_186 : decode cX6_copy 186 = .ok (.iadd, 1) := by decide +kernel
theorem dX6_copy_187 : decode cX6_copy 187 = .ok (.iload 6, 2) := by decide +kernel
theorem dX6_copy_189 : decode cX6_copy 189 = .ok (.iadd, 1) := by decide +kernel
theorem dX6_copy_190 : decode cX6_copy 190 = .ok (.baload, 1) := by decide +kernel
theorem dX6_copy_191 : decode cX6_copy 191 = .ok (.bastore, 1) := by decide +kernel
theorem dX6_copy_192 : decode cX6_copy 192 = .ok (.iinc 6 1, 3) := by decide +kernel
theorem dX6_copy_195 : decode cX6_copy 195 = .ok (.goto (-73), 3) := by decide +kernel
theorem dX6_copy_198 : decode cX6_copy 198 = .ok (.iconst 0, 1) := by decide +kernel
theorem dX6_copy_199 : decode cX6_copy 199 = .ok (.istore 6, 2) := by decide +kernel
theorem dX6_copy_201 : decode cX6_copy 201 = .ok (.iload 6, 2) := by decide +kernel
theorem dX6_copy_203 : decode cX6_copy 203 = .ok (.iload 5, 2) := by decide +kernel
theorem dX6_copy_205 : decode cX6_copy 205 = .ok (.if_icmp .ge 75, 3) := by decide +kernel
theorem dX6_copy_208 : decode cX6_copy 208 = .ok (.aload_n 0, 1) := by decide +kernel
theorem dX6_copy_209 : decode cX6_copy 209 = .ok (.getfield 54, 3) := by decide +kernel
theorem dX6_copy_212 : decode cX6_copy 212 = .ok (.bipush 40, 2) := by decide +kernel
theorem dX6_copy_214 : decode cX6_copy 214 = .ok (.iload_n 3, 1) := by decide +kernel
theorem dX6_copy_215 : decode cX6_copy 215 = .ok (.imul, 1) := by decide +kernel
theorem dX6_copy_216 : decode cX6_copy 216 = .ok (.iload 4, 2) := by decide +kernel
theorem dX6_copy_218 : decode cX6_copy 218 = .ok (.iadd, 1) := by decide +kernel
theorem dX6_copy_219 : decode cX6_copy 219 = .ok (.iload 6, 2) := by decide +kernel
theorem dX6_copy_221 : decode cX6_copy 221 = .ok (.iadd, 1) := by decide +kernel
theorem dX6_copy_222 : decode cX6_copy 222 = .ok (.aload_n 0, 1) := by decide +kernel
theorem dX6_copy_223 : decode cX6_copy 223 = .ok (.getfield 65, 3) := by decide +kernel
theorem dX6_copy_226 : decode cX6_copy 226 = .ok (.iload 6, 2) := by decide +kernel
theorem dX6_copy_228 : decode cX6_copy 228 = .ok (.laload, 1) := by decide +kernel
theorem dX6_copy_229 : decode cX6_copy 229 = .ok (.lastore, 1) := by decide +kernel
theorem dX6_copy_230 : decode cX6_copy 230 = .ok (.aload_n 0, 1) := by decide +kernel
theorem dX6_copy_231 : decode cX6_copy 231 = .ok (.getfield 58, 3) := by decide +kernel
theorem dX6_copy_234 : decode cX6_copy 234 = .ok (.bipush 40, 2) := by decide +kernel
theorem dX6_copy_236 : decode cX6_copy 236 = .ok (.iload_n 3, 1) := by decide +kernel
theorem dX6_copy_237 : decode cX6_copy 237 = .ok (.imul, 1) := by decide +kernel
theorem dX6_copy_238 : decode cX6_copy 238 = .ok (.iload 4, 2) := by decide +kernel
theorem dX6_copy_240 : decode cX6_copy 240 = .ok (.iadd, 1) := by decide +kernel
theorem dX6_copy_241 : decode cX6_copy 241 = .ok (.iload 6, 2) := by decide +kernel
theorem dX6_copy_243 : decode cX6_copy 243 = .ok (.iadd, 1) := by decide +kernel
theorem dX6_copy_244 : decode cX6_copy 244 = .ok (.aload_n 0, 1) := by decide +kernel
theorem dX6_copy_245 : decode cX6_copy 245 = .ok (.getfield 68, 3) := by decide +kernel
theorem dX6_copy_248 : decode cX6_copy 248 = .ok (.iload 6, 2) := by decide +kernel
theorem dX6_copy_250 : decode cX6_copy 250 = .ok (.daload, 1) := by decide +kernel
theorem dX6_copy_251 : decode cX6_copy 251 = .ok (.dastore, 1) := by decide +kernel
theorem dX6_copy_252 : decode cX6_copy 252 = .ok (.aload_n 0, 1) := by decide +kernel
theorem dX6_copy_253 : decode cX6_copy 253 = .ok (.getfield 62, 3) := by decide +kernel
theorem dX6_copy_256 : decode cX6_copy 256 = .ok (.bipush 40, 2) := by decide +kernel
theorem dX6_copy_258 : decode cX6_copy 258 = .ok (.iload_n 3, 1) := by decide +kernel
theorem dX6_copy_259 : decode cX6_copy 259 = .ok (.imul, 1) := by decide +kernel
theorem dX6_copy_260 : decode cX6_copy 260 = .ok (.iload 4, 2) := by decide +kernel
theorem dX6_copy_262 : decode cX6_copy 262 = .ok (.iadd, 1) := by decide +kernel
theorem dX6_copy_263 : decode cX6_copy 263 = .ok (.iload 6, 2) := by decide +kernel
theorem dX6_copy_265 : decode cX6_copy 265 = .ok (.iadd, 1) := by decide +kernel
theorem dX6_copy_266 : decode cX6_copy 266 = .ok (.aload_n 0, 1) := by decide +kernel
theorem dX6_copy_267 : decode cX6_copy 267 = .ok (.getfield 71, 3) := by decide +kernel
theorem dX6_copy_270 : decode cX6_copy 270 = .ok (.iload 6, 2) := by decide +kernel
theorem dX6_copy_272 : decode cX6_copy 272 = .ok (.baload, 1) := by decide +kernel
theorem dX6_copy_273 : decode cX6_copy 273 = .ok (.bastore, 1) := by decide +kernel
theorem dX6_copy_274 : decode cX6_copy 274 = .ok (.iinc 6 1, 3) := by decide +kernel
theorem dX6_copy_277 : decode cX6_copy 277 = .ok (.goto (-76), 3) := by decide +kernel
theorem dX6_copy_280 : decode cX6_copy 280 = .ok (.iconst 1, 1) := by decide +kernel
theorem dX6_copy_281 : decode cX6_copy 281 = .ok (.ireturn, 1) := by decide +kernel
set_option maxRecDepth 20000 in
theorem ggX6_write_X6_isSheet : GoodIn wsX6_write wsX6_isSheet := goodIn_r _ [10, 11, 12, 9, 13] (by decide +kernel) (by decide +kernel)
set_option maxRecDepth 20000 in
theorem gX6_write_X6_isSheet : GoodIn wsX6_write (va_wsS RX6 91 yX6_isSheet wsX6_isSheet) := goodIn_app (goodIn_of _ (by decide +kernel)) ggX6_write_X6_isSheet
set_option maxRecDepth 20000 in
theorem ggX6_write_X6_meets : GoodIn wsX6_write wsX6_meets := goodIn_r _ [17, 18, 53, 54, 55, 56, 57, 58, 59, 60, 61, 62, 63, 64, 65, 66, 67, 68, 69, 70, 71, 72, 73, 74, 75, 76, 77, 78, 79, 80] (by decide +kernel) (by decide +kernel)
set_option maxRecDepth 20000 in
theorem gX6_write_X6_meets : GoodIn wsX6_write (wsV RX6 94 RX6 yX6_meets wsX6_meets) := goodIn_app (goodIn_of _ (by decide +kernel)) ggX6_write_X6_meets
set_option maxRecDepth 20000 in
theorem ggX6_write_X6_cameOf : GoodIn wsX6_write wsX6_cameOf := goodIn_r _ [22, 23, 24, 25, 26, 27, 28, 9, 29, 2, 4, 30, 31, 32, 33, 34, 35, 36, 37, 38, 39, 40, 41, 42, 43, 53, 54, 55, 56, 57, 58, 59, 60, 61, 62, 63, 64, 65, 66, 67, 68, 69, 70, 71, 72, 73, 74, 75, 76, 77, 78, 79, 80] (by decide +kernel) (by decide +kernel)
set_option maxRecDepth 20000 in
theorem gX6_write_X6_cameOf : GoodIn wsX6_write (wsV RX6 116 RX6 yX6_cameOf wsX6_cameOf) := goodIn_app (goodIn_of _ (by decide +kernel)) ggX6_write_X6_cameOf
set_option maxRecDepth 20000 in
theorem ggX6_write_X6_belowBy : GoodIn wsX6_write wsX6_belowBy := goodIn_r _ [47, 48, 53, 54, 55, 56, 57, 58, 59, 60, 61, 62, 63, 64, 65, 66, 67, 68, 69, 70, 71, 72, 73, 74, 75, 76, 77, 78, 79, 80] (by decide +kernel) (by decide +kernel)
set_option maxRecDepth 20000 in
theorem gX6_write_X6_belowBy : GoodIn wsX6_write (wsV RX6 129 RX6 yX6_belowBy wsX6_belowBy) := goodIn_app (goodIn_of _ (by decide +kernel)) ggX6_write_X6_belowBy
set_option maxRecDepth 20000 in
theorem ggX6_write_X6_aboveBy : GoodIn wsX6_write wsX6_aboveBy := goodIn_r _ [52, 39, 24, 4, 44, 45, 46, 9, 47, 48, 53, 54, 55, 56, 57, 58, 59, 60, 61, 62, 63, 64, 65, 66, 67, 68, 69, 70, 71, 72, 73, 74, 75, 76, 77, 78, 79, 80] (by decide +kernel) (by decide +kernel)
set_option maxRecDepth 20000 in
theorem gX6_write_X6_aboveBy : GoodIn wsX6_write (wsV RX6 132 RX6 yX6_aboveBy wsX6_aboveBy) := goodIn_app (goodIn_of _ (by decide +kernel)) ggX6_write_X6_aboveBy
theorem dX6_write_0 : decode cX6_write 0 = .ok (.iload_n 1, 1) := by decide +kernel
theorem dX6_write_1 : decode cX6_write 1 = .ok (.invokestatic 91, 3) := by decide +kernel
theorem dX6_write_4 : decode cX6_write 4 = .ok (.ifCond .ne 6, 3) := by decide +kernel
theorem dX6_write_7 : decode cX6_write 7 = .ok (.bipush (-2), 2) := by decide +kernel
theorem dX6_write_9 : decode cX6_write 9 = .ok (.ireturn, 1) := by decide +kernel
theorem dX6_write_10 : decode cX6_write 10 = .ok (.aload_n 0, 1) := by decide +kernel
theorem dX6_write_11 : decode cX6_write 11 = .ok (.getfield 48, 3) := by decide +kernel
theorem dX6_write_14 : decode cX6_write 14 = .ok (.iload_n 1, 1) := by decide +kernel
theorem dX6_write_15 : decode cX6_write 15 = .ok (.iaload, 1) := by decide +kernel
theorem dX6_write_16 : decode cX6_write 16 = .ok (.iconst 1, 1) := by decide +kernel
theorem dX6_write_17 : decode cX6_write 17 = .ok (.if_icmp .eq 23, 3) := by decide +kernel
theorem dX6_write_20 : decode cX6_write 20 = .ok (.aload_n 0, 1) := by decide +kernel
theorem dX6_write_21 : decode cX6_write 21 = .ok (.aload_n 0, 1) := by decide +kernel
theorem dX6_write_22 : decode cX6_write 22 = .ok (.getfield 48, 3) := by decide +kernel
theorem dX6_write_25 : decode cX6_write 25 = .ok (.iload_n 1, 1) := by decide +kernel
theorem dX6_write_26 : decode cX6_write 26 = .ok (.iaload, 1) := by decide +kernel
theorem dX6_write_27 : decode cX6_write 27 = .ok (.iconst (-1), 1) := by decide +kernel
theorem dX6_write_28 : decode cX6_write 28 = .ok (.if_icmp .ne 7, 3) := by decide +kernel
theorem dX6_write_31 : decode cX6_write 31 = .ok (.iconst 1, 1) := by decide +kernel
theorem dX6_write_32 : decode cX6_write 32 = .ok (.goto 4, 3) := by decide +kernel
theorem dX6_write_35 : decode cX6_write 35 = .ok (.iconst 3, 1) := by decide +kernel
theorem dX6_write_36 : decode cX6_write 36 = .ok (.invokevirtual 94, 3) := by decide +kernel
theorem dX6_write_39 : decode cX6_write 39 = .ok (.ireturn, 1) := by decide +kernel
theorem dX6_write_40 : decode cX6_write 40 = .ok (.iconst 0, 1) := by decide +kernel
theorem dX6_write_41 : decode cX6_write 41 = .ok (.istore_n 2, 1) := by decide +kernel
theorem dX6_write_42 : decode cX6_write 42 = .ok (.iconst 0, 1) := by decide +kernel
theorem dX6_write_43 : decode cX6_write 43 = .ok (.istore_n 3, 1) := by decide +kernel
theorem dX6_write_44 : decode cX6_write 44 = .ok (.iload_n 3, 1) := by decide +kernel
theorem dX6_write_45 : decode cX6_write 45 = .ok (.aload_n 0, 1) := by decide +kernel
theorem dX6_write_46 : decode cX6_write 46 = .ok (.getfield 80, 3) := by decide +kernel
theorem dX6_write_49 : decode cX6_write 49 = .ok (.if_icmp .ge 142, 3) := by decide +kernel
theorem dX6_write_52 : decode cX6_write 52 = .ok (.iload_n 3, 1) := by decide +kernel
theorem dX6_write_53 : decode cX6_write 53 = .ok (.aload_n 0, 1) := by decide +kernel
theorem dX6_write_54 : decode cX6_write 54 = .ok (.getfield 51, 3) := by decide +kernel
theorem dX6_write_57 : decode cX6_write 57 = .ok (.iload_n 1, 1) := by decide +kernel
theorem dX6_write_58 : decode cX6_write 58 = .ok (.iaload, 1) := by decide +kernel
theorem dX6_write_59 : decode cX6_write 59 = .ok (.if_icmp .ge 132, 3) := by decide +kernel
theorem dX6_write_62 : decode cX6_write 62 = .ok (.aload_n 0, 1) := by decide +kernel
theorem dX6_write_63 : decode cX6_write 63 = .ok (.iload_n 3, 1) := by decide +kernel
theorem dX6_write_64 : decode cX6_write 64 = .ok (.iconst 2, 1) := by decide +kernel
theorem dX6_write_65 : decode cX6_write 65 = .ok (.invokevirtual 116, 3) := by decide +kernel
theorem dX6_write_68 : decode cX6_write 68 = .ok (.istore 4, 2) := by decide +kernel
theorem dX6_write_70 : decode cX6_write 70 = .ok (.iload 4, 2) := by decide +kernel
theorem dX6_write_72 : decode cX6_write 72 = .ok (.ifCond .le 7, 3) := by decide +kernel
theorem dX6_write_75 : decode cX6_write 75 = .ok (.iconst 1, 1) := by decide +kernel
theorem dX6_write_76 : decode cX6_write 76 = .ok (.goto 4, 3) := by decide +kernel
theorem dX6_write_79 : decode cX6_write 79 = .ok (.iconst 0, 1) := by decide +kernel
theorem dX6_write_80 : decode cX6_write 80 = .ok (.istore 5, 2) := by decide +kernel
theorem dX6_write_82 : decode cX6_write 82 = .ok (.iload 5, 2) := by decide +kernel
theorem dX6_write_84 : decode cX6_write 84 = .ok (.ifCond .eq 31, 3) := by decide +kernel
theorem dX6_write_87 : decode cX6_write 87 = .ok (.aload_n 0, 1) := by decide +kernel
theorem dX6_write_88 : decode cX6_write 88 = .ok (.getfield 26, 3) := by decide +kernel
theorem dX6_write_91 : decode cX6_write 91 = .ok (.iload 4, 2) := by decide +kernel
theorem dX6_write_93 : decode cX6_write 93 = .ok (.iaload, 1) := by decide +kernel
theorem dX6_write_94 : decode cX6_write 94 = .ok (.aload_n 0, 1) := by decide +kernel
theorem dX6_write_95 : decode cX6_write 95 = .ok (.iload 4, 2) := by decide +kernel
theorem dX6_write_97 : decode cX6_write 97 = .ok (.iconst 1, 1) := by decide +kernel
theorem dX6_write_98 : decode cX6_write 98 = .ok (.isub, 1) := by decide +kernel
theorem dX6_write_99 : decode cX6_write 99 = .ok (.invokevirtual 129, 3) := by decide +kernel
theorem dX6_write_102 : decode cX6_write 102 = .ok (.imul, 1) := by decide +kernel
theorem dX6_write_103 : decode cX6_write 103 = .ok (.aload_n 0, 1) := by decide +kernel
theorem dX6_write_104 : decode cX6_write 104 = .ok (.iload 4, 2) := by decide +kernel
theorem dX6_write_106 : decode cX6_write 106 = .ok (.iconst 1, 1) := by decide +kernel
theorem dX6_write_107 : decode cX6_write 107 = .ok (.isub, 1) := by decide +kernel
theorem dX6_write_108 : decode cX6_write 108 = .ok (.invokevirtual 132, 3) := by decide +kernel
theorem dX6_write_111 : decode cX6_write 111 = .ok (.isub, 1) := by decide +kernel
theorem dX6_write_112 : decode cX6_write 112 = .ok (.goto 4, 3) := by decide +kernel
theorem dX6_write_115 : decode cX6_write 115 = .ok (.iconst 0, 1) := by decide +kernel
theorem dX6_write_116 : decode cX6_write 116 = .ok (.istore 6, 2) := by decide +kernel
theorem dX6_write_118 : decode cX6_write 118 = .ok (.aload_n 0, 1) := by decide +kernel
theorem dX6_write_119 : decode cX6_write 119 = .ok (.getfield 58, 3) := by decide +kernel
theorem dX6_write_122 : decode cX6_write 122 = .ok (.bipush 40, 2) := by decide +kernel
theorem dX6_write_124 : decode cX6_write 124 = .ok (.iload_n 1, 1) := by decide +kernel
theorem dX6_write_125 : decode cX6_write 125 = .ok (.imul, 1) := by decide +kernel
theorem dX6_write_126 : decode cX6_write 126 = .ok (.iload_n 3, 1) := by decide +kernel
theorem dX6_write_127 : decode cX6_write 127 = .ok (.iadd, 1) := by decide +kernel
theorem dX6_write_128 : decode cX6_write 128 = .ok (.iload 5, 2) := by decide +kernel
theorem dX6_write_130 : decode cX6_write 130 = .ok (.ifCond .eq 19, 3) := by decide +kernel
theorem dX6_write_133 : decode cX6_write 133 = .ok (.iload 6, 2) := by decide +kernel
theorem dX6_write_135 : decode cX6_write 135 = .ok (.i2d, 1) := by decide +kernel
theorem dX6_write_136 : decode cX6_write 136 = .ok (.aload_n 0, 1) := by decide +kernel
theorem dX6_write_137 : decode cX6_write 137 = .ok (.iload 4, 2) := by decide +kernel
theorem dX6_write_139 : decode cX6_write 139 = .ok (.iconst 1, 1) := by decide +kernel
theorem dX6_write_140 : decode cX6_write 140 = .ok (.isub, 1) := by decide +kernel
theorem dX6_write_141 : decode cX6_write 141 = .ok (.invokevirtual 129, 3) := by decide +kernel
theorem dX6_write_144 : decode cX6_write 144 = .ok (.i2d, 1) := by decide +kernel
theorem dX6_write_145 : decode cX6_write 145 = .ok (.ddiv, 1) := by decide +kernel
theorem dX6_write_146 : decode cX6_write 146 = .ok (.goto 4, 3) := by decide +kernel
theorem dX6_write_149 : decode cX6_write 149 = .ok (.dconst 0, 1) := by decide +kernel
theorem dX6_write_150 : decode cX6_write 150 = .ok (.dastore, 1) := by decide +kernel
theorem dX6_write_151 : decode cX6_write 151 = .ok (.aload_n 0, 1) := by decide +kernel
theorem dX6_write_152 : decode cX6_write 152 = .ok (.getfield 62, 3) := by decide +kernel
theorem dX6_write_155 : decode cX6_write 155 = .ok (.bipush 40, 2) := by decide +kernel
theorem dX6_write_157 : decode cX6_write 157 = .ok (.iload_n 1, 1) := by decide +kernel
theorem dX6_write_158 : decode cX6_write 158 = .ok (.imul, 1) := by decide +kernel
theorem dX6_write_159 : decode cX6_write 159 = .ok (.iload_n 3, 1) := by decide +kernel
theorem dX6_write_160 : decode cX6_write 160 = .ok (.iadd, 1) := by decide +kernel
theorem dX6_write_161 : decode cX6_write 161 = .ok (.iload 5, 2) := by decide +kernel
theorem dX6_write_163 : decode cX6_write 163 = .ok (.ifCond .ne 7, 3) := by decide +kernel
theorem dX6_write_166 : decode cX6_write 166 = .ok (.iconst 1, 1) := by decide +kernel
theorem dX6_write_167 : decode cX6_write 167 = .ok (.goto 4, 3) := by decide +kernel
theorem dX6_write_170 : decode cX6_write 170 = .ok (.iconst 0, 1) := by decide +kernel
theorem dX6_write_171 : decode cX6_write 171 = .ok (.bastore, 1) := by decide +kernel
theorem dX6_write_172 : decode cX6_write 172 = .ok (.iload_n 2, 1) := by decide +kernel
theorem dX6_write_173 : decode cX6_write 173 = .ok (.iload 5, 2) := by decide +kernel
theorem dX6_write_175 : decode cX6_write 175 = .ok (.ifCond .eq 7, 3) := by decide +kernel
theorem dX6_write_178 : decode cX6_write 178 = .ok (.iconst 1, 1) := by decide +kernel
theorem dX6_write_179 : decode cX6_write 179 = .ok (.goto 4, 3) := by decide +kernel
theorem dX6_write_182 : decode cX6_write 182 = .ok (.iconst 0, 1) := by decide +kernel
theorem dX6_write_183 : decode cX6_write 183 = .ok (.iadd, 1) := by decide +kernel
theorem dX6_write_184 : decode cX6_write 184 = .ok (.istore_n 2, 1) := by decide +kernel
theorem dX6_write_185 : decode cX6_write 185 = .ok (.iinc 3 1, 3) := by decide +kernel
theorem dX6_write_188 : decode cX6_write 188 = .ok (.goto (-144), 3) := by decide +kernel
theorem dX6_write_191 : decode cX6_write 191 = .ok (.iload_n 2, 1) := by decide +kernel
theorem dX6_write_192 : decode cX6_write 192 = .ok (.ireturn, 1) := by decide +kernel
set_option maxRecDepth 20000 in
theorem ggX6_found_X6_isSheet : GoodIn wsX6_found wsX6_isSheet := goodIn_r _ [9, 10, 11, 8, 12] (by decide +kernel) (by decide +kernel)
set_option maxRecDepth 20000 in
theorem gX6_found_X6_isSheet : GoodIn wsX6_found (va_wsS RX6 91 yX6_isSheet wsX6_isSheet) := goodIn_app (goodIn_of _ (by decide +kernel)) ggX6_found_X6_isSheet
set_option maxRecDepth 20000 in
theorem ggX6_found_X6_in : GoodIn wsX6_found wsX6_in := goodIn_r _ [12] (by decide +kernel) (by decide +kernel)
set_option maxRecDepth 20000 in
theorem gX6_found_X6_in : GoodIn wsX6_found (va_wsS RX6 76 yX6_in wsX6_in) := goodIn_app (goodIn_of _ (by decide +kernel)) ggX6_found_X6_in
set_option maxRecDepth 20000 in
theorem ggX6_found_X6_meets : GoodIn wsX6_found wsX6_meets := goodIn_r _ [16, 17, 18, 19, 20, 21, 22, 23, 24, 25, 26, 27, 28, 29, 30, 31, 32, 33, 34, 35, 36, 37, 38, 39, 40, 41, 42, 43, 44, 45] (by decide +kernel) (by decide +kernel)
set_option maxRecDepth 20000 in
theorem gX6_found_X6_meets : GoodIn wsX6_found (wsV RX6 94 RX6 yX6_meets wsX6_meets) := goodIn_app (goodIn_of _ (by decide +kernel)) ggX6_found_X6_meets
theorem dX6_found_0 : decode cX6_found 0 = .ok (.iload_n 1, 1) := by decide +kernel
theorem dX6_found_1 : decode cX6_found 1 = .ok (.invokestatic 91, 3) := by decide +kernel
theorem dX6_found_4 : decode cX6_found 4 = .ok (.ifCond .eq 12, 3) := by decide +kernel
theorem dX6_found_7 : decode cX6_found 7 = .ok (.iload_n 2, 1) := by decide +kernel
theorem dX6_found_8 : decode cX6_found 8 = .ok (.iconst 0, 1) := by decide +kernel
theorem dX6_found_9 : decode cX6_found 9 = .ok (.iconst 2, 1) := by decide +kernel
theorem dX6_found_10 : decode cX6_found 10 = .ok (.invokestatic 76, 3) := by decide +kernel
theorem dX6_found_13 : decode cX6_found 13 = .ok (.ifCond .ne 6, 3) := by decide +kernel
theorem dX6_found_16 : decode cX6_found 16 = .ok (.bipush (-2), 2) := by decide +kernel
theorem dX6_found_18 : decode cX6_found 18 = .ok (.ireturn, 1) := by decide +kernel
theorem dX6_found_19 : decode cX6_found 19 = .ok (.aload_n 0, 1) := by decide +kernel
theorem dX6_found_20 : decode cX6_found 20 = .ok (.getfield 48, 3) := by decide +kernel
theorem dX6_found_23 : decode cX6_found 23 = .ok (.iload_n 1, 1) := by decide +kernel
theorem dX6_found_24 : decode cX6_found 24 = .ok (.iaload, 1) := by decide +kernel
theorem dX6_found_25 : decode cX6_found 25 = .ok (.iconst 1, 1) := by decide +kernel
theorem dX6_found_26 : decode cX6_found 26 = .ok (.if_icmp .eq 23, 3) := by decide +kernel
theorem dX6_found_29 : decode cX6_found 29 = .ok (.aload_n 0, 1) := by decide +kernel
theorem dX6_found_30 : decode cX6_found 30 = .ok (.aload_n 0, 1) := by decide +kernel
theorem dX6_found_31 : decode cX6_found 31 = .ok (.getfield 48, 3) := by decide +kernel
theorem dX6_found_34 : decode cX6_found 34 = .ok (.iload_n 1, 1) := by decide +kernel
theorem dX6_found_35 : decode cX6_found 35 = .ok (.iaload, 1) := by decide +kernel
theorem dX6_found_36 : decode cX6_found 36 = .ok (.iconst (-1), 1) := by decide +kernel
theorem dX6_found_37 : decode cX6_found 37 = .ok (.if_icmp .ne 7, 3) := by decide +kernel
theorem dX6_found_40 : decode cX6_found 40 = .ok (.iconst 1, 1) := by decide +kernel
theorem dX6_found_41 : decode cX6_found 41 = .ok (.goto 4, 3) := by decide +kernel
theorem dX6_found_44 : decode cX6_found 44 = .ok (.iconst 3, 1) := by decide +kernel
theorem dX6_found_45 : decode cX6_found 45 = .ok (.invokevirtual 94, 3) := by decide +kernel
theorem dX6_found_48 : decode cX6_found 48 = .ok (.ireturn, 1) := by decide +kernel
theorem dX6_found_49 : decode cX6_found 49 = .ok (.iconst 0, 1) := by decide +kernel
theorem dX6_found_50 : decode cX6_found 50 = .ok (.istore 4, 2) := by decide +kernel
theorem dX6_found_52 : decode cX6_found 52 = .ok (.iload_n 3, 1) := by decide +kernel
theorem dX6_found_53 : decode cX6_found 53 = .ok (.i2d, 1) := by decide +kernel
theorem dX6_found_54 : decode cX6_found 54 = .ok (.ldc2_w 237, 3) := by decide +kernel
theorem dX6_found_57 : decode cX6_found 57 = .ok (.ddiv, 1) := by decide +kernel
theorem dX6_found_58 : decode cX6_found 58 = .ok (.dstore 5, 2) := by decide +kernel
theorem dX6_found_60 : decode cX6_found 60 = .ok (.bipush 40, 2) := by decide +kernel
theorem dX6_found_62 : decode cX6_found 62 = .ok (.iload_n 1, 1) := by decide +kernel
theorem dX6_found_63 : decode cX6_found 63 = .ok (.imul, 1) := by decide +kernel
theorem dX6_found_64 : decode cX6_found 64 = .ok (.istore 7, 2) := by decide +kernel
theorem dX6_found_66 : decode cX6_found 66 = .ok (.iload 7, 2) := by decide +kernel
theorem dX6_found_68 : decode cX6_found 68 = .ok (.bipush 40, 2) := by decide +kernel
theorem dX6_found_70 : decode cX6_found 70 = .ok (.iload_n 1, 1) := by decide +kernel
theorem dX6_found_71 : decode cX6_found 71 = .ok (.imul, 1) := by decide +kernel
theorem dX6_found_72 : decode cX6_found 72 = .ok (.aload_n 0, 1) := by decide +kernel
theorem dX6_found_73 : decode cX6_found 73 = .ok (.getfield 51, 3) := by decide +kernel
theorem dX6_found_76 : decode cX6_found 76 = .ok (.iload_n 1, 1) := by decide +kernel
theorem dX6_found_77 : decode cX6_found 77 = .ok (.iaload, 1) := by decide +kernel
theorem dX6_found_78 : decode cX6_found 78 = .ok (.iadd, 1) := by decide +kernel
theorem dX6_found_79 : decode cX6_found 79 = .ok (.if_icmp .ge 89, 3) := by decide +kernel
theorem dX6_found_82 : decode cX6_found 82 = .ok (.iload_n 2, 1) := by decide +kernel
theorem dX6_found_83 : decode cX6_found 83 = .ok (.ifCond .ne 13, 3) := by decide +kernel
theorem dX6_found_86 : decode cX6_found 86 = .ok (.aload_n 0, 1) := by decide +kernel
theorem dX6_found_87 : decode cX6_found 87 = .ok (.getfield 62, 3) := by decide +kernel
theorem dX6_found_90 : decode cX6_found 90 = .ok (.iload 7, 2) := by decide +kernel
theorem dX6_found_92 : decode cX6_found 92 = .ok (.baload, 1) := by decide +kernel
theorem dX6_found_93 : decode cX6_found 93 = .ok (.goto 52, 3) := by decide +kernel
theorem dX6_found_96 : decode cX6_found 96 = .ok (.aload_n 0, 1) := by decide +kernel
theorem dX6_found_97 : decode cX6_found 97 = .ok (.getfield 62, 3) := by decide +kernel
theorem dX6_found_100 : decode cX6_found 100 = .ok (.iload 7, 2) := by decide +kernel
theorem dX6_found_102 : decode cX6_found 102 = .ok (.baload, 1) := by decide +kernel
theorem dX6_found_103 : decode cX6_found 103 = .ok (.ifCond .ne 41, 3) := by decide +kernel
theorem dX6_found_106 : decode cX6_found 106 = .ok (.iload_n 2, 1) := by decide +kernel
theorem dX6_found_107 : decode cX6_found 107 = .ok (.iconst 1, 1) := by decide +kernel
theorem dX6_found_108 : decode cX6_found 108 = .ok (.if_icmp .ne 19, 3) := by decide +kernel
theorem dX6_found_111 : decode cX6_found 111 = .ok (.aload_n 0, 1) := by decide +kernel
theorem dX6_found_112 : decode cX6_found 112 = .ok (.getfield 58, 3) := by decide +kernel
theorem dX6_found_115 : decode cX6_found 115 = .ok (.iload 7, 2) := by decide +kernel
theorem dX6_found_117 : decode cX6_found 117 = .ok (.daload, 1) := by decide +kernel
theorem dX6_found_118 : decode cX6_found 118 = .ok (.dload 5, 2) := by decide +kernel
theorem dX6_found_120 : decode cX6_found 120 = .ok (.dcmp .l, 1) := by decide +kernel
theorem dX6_found_121 : decode cX6_found 121 = .ok (.ifCond .le 23, 3) := by decide +kernel
theorem dX6_found_124 : decode cX6_found 124 = .ok (.goto 16, 3) := by decide +kernel
theorem dX6_found_127 : decode cX6_found 127 = .ok (.aload_n 0, 1) := by decide +kernel
theorem dX6_found_128 : decode cX6_found 128 = .ok (.getfield 58, 3) := by decide +kernel
theorem dX6_found_131 : decode cX6_found 131 = .ok (.iload 7, 2) := by decide +kernel
theorem dX6_found_133 : decode cX6_found 133 = .ok (.daload, 1) := by decide +kernel
theorem dX6_found_134 : decode cX6_found 134 = .ok (.dload 5, 2) := by decide +kernel
theorem dX6_found_136 : decode cX6_found 136 = .ok (.dcmp .g, 1) := by decide +kernel
theorem dX6_found_137 : decode cX6_found 137 = .ok (.ifCond .ge 7, 3) := by decide +kernel
theorem dX6_found_140 : decode cX6_found 140 = .ok (.iconst 1, 1) := by decide +kernel
theorem dX6_found_141 : decode cX6_found 141 = .ok (.goto 4, 3) := by decide +kernel
theorem dX6_found_144 : decode cX6_found 144 = .ok (.iconst 0, 1) := by decide +kernel
theorem dX6_found_145 : decode cX6_found 145 = .ok (.istore 8, 2) := by decide +kernel
theorem dX6_found_147 : decode cX6_found 147 = .ok (.iload 4, 2) := by decide +kernel
theorem dX6_found_149 : decode cX6_found 149 = .ok (.iload 8, 2) := by decide +kernel
theorem dX6_found_151 : decode cX6_found 151 = .ok (.ifCond .eq 7, 3) := by decide +kernel
theorem dX6_found_154 : decode cX6_found 154 = .ok (.iconst 1, 1) := by decide +kernel
theorem dX6_found_155 : decode cX6_found 155 = .ok (.goto 4, 3) := by decide +kernel
theorem dX6_found_158 : decode cX6_found 158 = .ok (.iconst 0, 1) := by decide +kernel
theorem dX6_found_159 : decode cX6_found 159 = .ok (.iadd, 1) := by decide +kernel
theorem dX6_found_160 : decode cX6_found 160 = .ok (.istore 4, 2) := by decide +kernel
theorem dX6_found_162 : decode cX6_found 162 = .ok (.iinc 7 1, 3) := by decide +kernel
theorem dX6_found_165 : decode cX6_found 165 = .ok (.goto (-99), 3) := by decide +kernel
theorem dX6_found_168 : decode cX6_found 168 = .ok (.iload 4, 2) := by decide +kernel
theorem dX6_found_170 : decode cX6_found 170 = .ok (.ireturn, 1) := by decide +kernel
set_option maxRecDepth 20000 in
theorem ggX6_lostMany_X6_isLost : GoodIn wsX6_lostMany wsX6_isLost := goodIn_r _ [6, 7, 8, 9, 10, 11, 12, 13, 14, 15, 16, 17, 18, 19, 20, 21, 22, 23, 24, 25, 26, 27, 28, 29, 30, 31, 32, 33, 34, 35, 36, 37] (by decide +kernel) (by decide +kernel)
set_option maxRecDepth 20000 in
theorem gX6_lostMany_X6_isLost : GoodIn wsX6_lostMany (wsV RX6 101 RX6 yX6_isLost wsX6_isLost) := goodIn_app (goodIn_of _ (by decide +kernel)) ggX6_lostMany_X6_isLost
theorem dX6_lostMany_0 : decode cX6_lostMany 0 = .ok (.iconst 0, 1) := by decide +kernel
theorem dX6_lostMany_1 : decode cX6_lostMany 1 = .ok (.istore_n 1, 1) := by decide +kernel
theorem dX6_lostMany_2 : decode cX6_lostMany 2 = .ok (.iconst 0, 1) := by decide +kernel
theorem dX6_lostMany_3 : decode cX6_lostMany 3 = .ok (.istore_n 2, 1) := by decide +kernel
theorem dX6_lostMany_4 : decode cX6_lostMany 4 = .ok (.iload_n 2, 1) := by decide +kernel
theorem dX6_lostMany_5 : decode cX6_lostMany 5 = .ok (.aload_n 0, 1) := by decide +kernel
theorem dX6_lostMany_6 : decode cX6_lostMany 6 = .ok (.getfield 80, 3) := by decide +kernel
theorem dX6_lostMany_9 : decode cX6_lostMany 9 = .ok (.if_icmp .ge 25, 3) := by decide +kernel
theorem dX6_lostMany_12 : decode cX6_lostMany 12 = .ok (.iload_n 1, 1) := by decide +kernel
theorem dX6_lostMany_13 : decode cX6_lostMany 13 = .ok (.aload_n 0, 1) := by decide +kernel
theorem dX6_lostMany_14 : decode cX6_lostMany 14 = .ok (.iload_n 2, 1) := by decide +kernel
theorem dX6_lostMany_15 : decode cX6_lostMany 15 = .ok (.invokevirtual 101, 3) := by decide +kernel
theorem dX6_lostMany_18 : decode cX6_lostMany 18 = .ok (.ifCond .eq 7, 3) := by decide +kernel
theorem dX6_lostMany_21 : decode cX6_lostMany 21 = .ok (.iconst 1, 1) := by decide +kernel
theorem dX6_lostMany_22 : decode cX6_lostMany 22 = .ok (.goto 4, 3) := by decide +kernel
theorem dX6_lostMany_25 : decode cX6_lostMany 25 = .ok (.iconst 0, 1) := by decide +kernel
theorem dX6_lostMany_26 : decode cX6_lostMany 26 = .ok (.iadd, 1) := by decide +kernel
theorem dX6_lostMany_27 : decode cX6_lostMany 27 = .ok (.istore_n 1, 1) := by decide +kernel
theorem dX6_lostMany_28 : decode cX6_lostMany 28 = .ok (.iinc 2 1, 3) := by decide +kernel
theorem dX6_lostMany_31 : decode cX6_lostMany 31 = .ok (.goto (-27), 3) := by decide +kernel
theorem dX6_lostMany_34 : decode cX6_lostMany 34 = .ok (.iload_n 1, 1) := by decide +kernel
theorem dX6_lostMany_35 : decode cX6_lostMany 35 = .ok (.ireturn, 1) := by decide +kernel
set_option maxRecDepth 20000 in
theorem ggX6_newsNow_X6_findsNews : GoodIn wsX6_newsNow wsX6_findsNews := goodIn_r _ [6, 1, 7, 8, 9, 10, 11, 12, 5, 13, 14, 15, 16, 17, 18, 19, 20, 21, 22, 23, 24, 25, 26, 27, 28, 29, 30, 31, 32, 33, 34, 35, 36, 37, 38, 39, 40, 41, 42, 43, 44, 45, 46, 47, 48, 49, 50, 51, 52] (by decide +kernel) (by decide +kernel)
set_option maxRecDepth 20000 in
theorem gX6_newsNow_X6_findsNews : GoodIn wsX6_newsNow (wsV RX6 113 RX6 yX6_findsNews wsX6_findsNews) := goodIn_app (goodIn_of _ (by decide +kernel)) ggX6_newsNow_X6_findsNews
theorem dX6_newsNow_0 : decode cX6_newsNow 0 = .ok (.aload_n 0, 1) := by decide +kernel
theorem dX6_newsNow_1 : decode cX6_newsNow 1 = .ok (.invokevirtual 113, 3) := by decide +kernel
theorem dX6_newsNow_4 : decode cX6_newsNow 4 = .ok (.aload_n 0, 1) := by decide +kernel
theorem dX6_newsNow_5 : decode cX6_newsNow 5 = .ok (.getfield 107, 3) := by decide +kernel
theorem dX6_newsNow_8 : decode cX6_newsNow 8 = .ok (.ireturn, 1) := by decide +kernel
set_option maxRecDepth 20000 in
theorem ggX6_overAll_X6_infoOf : GoodIn wsX6_overAll wsX6_infoOf := goodIn_r _ [6, 7, 8, 9, 10, 11, 12, 13, 14, 15, 16, 17, 5, 18, 19, 20, 21, 22, 23, 24, 25, 26, 27, 28, 29, 30, 31, 32, 33, 34, 35, 36, 37, 38, 39, 40, 41, 42, 43, 44, 45, 46, 47, 48, 49, 50, 51, 52, 53, 54, 55, 56, 57, 58, 59, 60, 61, 62, 63, 64, 65, 66, 67, 68, 69, 70, 71, 72, 73, 74, 75, 76, 77, 78, 79, 80, 81, 82, 83, 84, 85, 86, 87, 88, 89, 90, 91, 92, 93, 94, 95, 96, 97, 98, 99, 100, 101, 102, 103, 104, 105, 106, 107, 108, 109, 110, 111, 112, 113, 114, 115] (by decide +kernel) (by decide +kernel)
set_option maxRecDepth 20000 in
theorem gX6_overAll_X6_infoOf : GoodIn wsX6_overAll (wsV RX6 199 RX6 yX6_infoOf wsX6_infoOf) := goodIn_app (goodIn_of _ (by decide +kernel)) ggX6_overAll_X6_infoOf
set_option maxRecDepth 20000 in
theorem ggX6_overAll_X6_isKept : GoodIn wsX6_overAll wsX6_isKept := goodIn_r _ [83, 9, 14, 10, 11, 15, 16, 17, 5, 18, 7, 8, 19, 20, 21, 22, 12, 13, 23, 24, 25, 26, 27, 28, 29, 30, 31, 32, 33, 34, 35, 36, 37, 38, 39, 40, 41, 42, 43, 44, 45, 46, 47, 48, 49, 50, 51, 52, 53, 54, 55, 56, 57, 58, 59, 60, 61, 62, 63, 64, 65, 66, 67, 68, 69, 70, 71, 72, 73, 74, 75, 76, 77, 78, 79, 88, 89, 90, 91, 92, 93, 94, 95, 96, 97, 98, 99, 100, 101, 102, 103, 104, 105, 106, 107, 108, 109, 110, 111, 112, 113, 114, 115] (by decide +kernel) (by decide +kernel)
set_option maxRecDepth 20000 in
theorem gX6_overAll_X6_isKept : GoodIn wsX6_overAll (wsV RX6 193 RX6 yX6_isKept wsX6_isKept) := goodIn_app (goodIn_of _ (by decide +kernel)) ggX6_overAll_X6_isKept
set_option maxRecDepth 20000 in
theorem ggX6_overAll_X6_forGood : GoodIn wsX6_overAll wsX6_forGood := goodIn_r _ [87, 23, 25, 15, 16, 17, 5, 18, 7, 8, 19, 20, 21, 22, 11, 12, 13, 14, 24, 26, 27, 28, 29, 30, 31, 32, 33, 34, 35, 36, 37, 38, 39, 40, 41, 42, 43, 44, 45, 46, 47, 48, 49, 50, 51, 52, 53, 54, 55, 56, 57, 58, 59, 60, 61, 62, 63, 64, 65, 66, 67, 68, 69, 70, 71, 72, 73, 74, 75, 76, 77, 78, 79, 88, 89, 90, 91, 92, 93, 94, 95, 96, 97, 98, 99, 100, 101, 102, 103, 104, 105, 106, 107, 108, 109, 110, 111, 112, 113, 114, 115] (by decide +kernel) (by decide +kernel)
set_option maxRecDepth 20000 in
theorem gX6_overAll_X6_forGood : GoodIn wsX6_overAll (wsV RX6 196 RX6 yX6_forGood wsX6_forGood) := goodIn_app (goodIn_of _ (by decide +kernel)) ggX6_overAll_X6_forGood
theorem dX6_overAll_0 : decode cX6_overAll 0 = .ok (.iconst 0, 1) := by decide +kernel
theorem dX6_overAll_1 : decode cX6_overAll 1 = .ok (.istore_n 2, 1) := by decide +kernel
theorem dX6_overAll_2 : decode cX6_overAll 2 = .ok (.iconst 0, 1) := by decide +kernel
theorem dX6_overAll_3 : decode cX6_overAll 3 = .ok (.istore_n 3, 1) := by decide +kernel
theorem dX6_overAll_4 : decode cX6_overAll 4 = .ok (.iload_n 3, 1) := by decide +kernel
theorem dX6_overAll_5 : decode cX6_overAll 5 = .ok (.aload_n 0, 1) := by decide +kernel
theorem dX6_overAll_6 : decode cX6_overAll 6 = .ok (.getfield 157, 3) := by decide +kernel
theorem dX6_overAll_9 : decode cX6_overAll 9 = .ok (.if_icmp .ge 63, 3) := by decide +kernel
theorem dX6_overAll_12 : decode cX6_overAll 12 = .ok (.iload_n 2, 1) := by decide +kernel
theorem dX6_overAll_13 : decode cX6_overAll 13 = .ok (.iload_n 1, 1) := by decide +kernel
theorem dX6_overAll_14 : decode cX6_overAll 14 = .ok (.iconst 4, 1) := by decide +kernel
theorem dX6_overAll_15 : decode cX6_overAll 15 = .ok (.if_icmp .ne 12, 3) := by decide +kernel
theorem dX6_overAll_18 : decode cX6_overAll 18 = .ok (.aload_n 0, 1) := by decide +kernel
theorem dX6_overAll_19 : decode cX6_overAll 19 = .ok (.iload_n 3, 1) := by decide +kernel
theorem dX6_overAll_20 : decode cX6_overAll 20 = .ok (.iconst 4, 1) := by decide +kernel
theorem dX6_overAll_21 : decode cX6_overAll 21 = .ok (.invokevirtual 199, 3) := by decide +kernel
theorem dX6_overAll_24 : decode cX6_overAll 24 = .ok (.goto 40, 3) := by decide +kernel
theorem dX6_overAll_27 : decode cX6_overAll 27 = .ok (.iload_n 1, 1) := by decide +kernel
theorem dX6_overAll_28 : decode cX6_overAll 28 = .ok (.iconst 5, 1) := by decide +kernel
theorem dX6_overAll_29 : decode cX6_overAll 29 = .ok (.if_icmp .ne 21, 3) := by decide +kernel
theorem dX6_overAll_32 : decode cX6_overAll 32 = .ok (.aload_n 0, 1) := by decide +kernel
theorem dX6_overAll_33 : decode cX6_overAll 33 = .ok (.iload_n 3, 1) := by decide +kernel
theorem dX6_overAll_34 : decode cX6_overAll 34 = .ok (.invokevirtual 193, 3) := by decide +kernel
theorem dX6_overAll_37 : decode cX6_overAll 37 = .ok (.ifCond .eq 9, 3) := by decide +kernel
theorem dX6_overAll_40 : decode cX6_overAll 40 = .ok (.iconst 1, 1) := by decide +kernel
theorem dX6_overAll_41 : decode cX6_overAll 41 = .ok (.iload_n 3, 1) := by decide +kernel
theorem dX6_overAll_42 : decode cX6_overAll 42 = .ok (.ishl, 1) := by decide +kernel
theorem dX6_overAll_43 : decode cX6_overAll 43 = .ok (.goto 21, 3) := by decide +kernel
theorem dX6_overAll_46 : decode cX6_overAll 46 = .ok (.iconst 0, 1) := by decide +kernel
theorem dX6_overAll_47 : decode cX6_overAll 47 = .ok (.goto 17, 3) := by decide +kernel
theorem dX6_overAll_50 : decode cX6_overAll 50 = .ok (.aload_n 0, 1) := by decide +kernel
theorem dX6_overAll_51 : decode cX6_overAll 51 = .ok (.iload_n 3, 1) := by decide +kernel
theorem dX6_overAll_52 : decode cX6_overAll 52 = .ok (.invokevirtual 196, 3) := by decide +kernel
theorem dX6_overAll_55 : decode cX6_overAll 55 = .ok (.iconst (-1), 1) := by decide +kernel
theorem dX6_overAll_56 : decode cX6_overAll 56 = .ok (.if_icmp .ne 7, 3) := by decide +kernel
theorem dX6_overAll_59 : decode cX6_overAll 59 = .ok (.iconst 0, 1) := by decide +kernel
theorem dX6_overAll_60 : decode cX6_overAll 60 = .ok (.goto 4, 3) := by decide +kernel
theorem dX6_overAll_63 : decode cX6_overAll 63 = .ok (.iconst 1, 1) := by decide +kernel
theorem dX6_overAll_64 : decode cX6_overAll 64 = .ok (.iadd, 1) := by decide +kernel
theorem dX6_overAll_65 : decode cX6_overAll 65 = .ok (.istore_n 2, 1) := by decide +kernel
theorem dX6_overAll_66 : decode cX6_overAll 66 = .ok (.iinc 3 1, 3) := by decide +kernel
theorem dX6_overAll_69 : decode cX6_overAll 69 = .ok (.goto (-65), 3) := by decide +kernel
theorem dX6_overAll_72 : decode cX6_overAll 72 = .ok (.iload_n 2, 1) := by decide +kernel
theorem dX6_overAll_73 : decode cX6_overAll 73 = .ok (.ireturn, 1) := by decide +kernel
set_option maxRecDepth 20000 in
theorem ggX6_count_X6_lostMany : GoodIn wsX6_count wsX6_lostMany := goodIn_r _ [10, 1, 11, 12, 13, 9, 14, 15, 16, 17, 101, 102, 103, 104, 105, 106, 107, 108, 109, 110, 111, 112, 113, 114, 115, 116, 117, 118, 119, 120, 121, 122, 123, 124, 125, 126, 127, 128] (by decide +kernel) (by decide +kernel)
set_option maxRecDepth 20000 in
theorem gX6_count_X6_lostMany : GoodIn wsX6_count (wsV RX6 242 RX6 yX6_lostMany wsX6_lostMany) := goodIn_app (goodIn_of _ (by decide +kernel)) ggX6_count_X6_lostMany
set_option maxRecDepth 20000 in
theorem ggX6_count_X6_newsNow : GoodIn wsX6_count wsX6_newsNow := goodIn_r _ [21, 4, 22, 23, 24, 9, 25, 1, 26, 3, 27, 28, 29, 30, 11, 12, 13, 14, 15, 16, 17, 31, 32, 33, 34, 101, 102, 103, 104, 105, 106, 107, 108, 109, 110, 111, 112, 113, 114, 115, 116, 117, 118, 119, 120, 121, 122, 123, 124, 125, 126, 127, 128] (by decide +kernel) (by decide +kernel)
set_option maxRecDepth 20000 in
theorem gX6_count_X6_newsNow : GoodIn wsX6_count (wsV RX6 245 RX6 yX6_newsNow wsX6_newsNow) := goodIn_app (goodIn_of _ (by decide +kernel)) ggX6_count_X6_newsNow
set_option maxRecDepth 20000 in
theorem ggX6_count_X6_overAll : GoodIn wsX6_count wsX6_overAll := goodIn_r _ [38, 2, 39, 40, 41, 9, 42, 43, 44, 45, 46, 47, 48, 49, 50, 51, 52, 53, 54, 55, 56, 57, 58, 4, 3, 59, 60, 17, 26, 22, 23, 24, 25, 1, 27, 28, 29, 30, 11, 12, 13, 14, 15, 16, 31, 32, 33, 34, 61, 62, 63, 64, 65, 66, 67, 68, 69, 70, 71, 72, 73, 74, 75, 76, 77, 78, 79, 80, 81, 82, 83, 84, 85, 86, 87, 88, 89, 90, 91, 92, 93, 94, 95, 96, 97, 98, 99, 100, 101, 102, 103, 104, 105, 106, 107, 108, 109, 110, 111, 112, 113, 114, 115, 116, 117, 118, 119, 120, 121, 122, 123, 124, 125, 126, 127, 128] (by decide +kernel) (by decide +kernel)
set_option maxRecDepth 20000 in
theorem gX6_count_X6_overAll : GoodIn wsX6_count (wsV RX6 248 RX6 yX6_overAll wsX6_overAll) := goodIn_app (goodIn_of _ (by decide +kernel)) ggX6_count_X6_overAll
theorem dX6_count_0 : decode cX6_count 0 = .ok (.iload_n 1, 1) := by decide +kernel
theorem dX6_count_1 : decode cX6_count 1 = .ok (.tableswitch 105 0 8 #[51, 56, 61, 66, 71, 71, 77, 71, 100], 51) := by decide +kernel
theorem dX6_count_52 : decode cX6_count 52 = .ok (.aload_n 0, 1) := by decide +kernel
theorem dX6_count_53 : decode cX6_count 53 = .ok (.getfield 80, 3) := by decide +kernel
theorem dX6_count_56 : decode cX6_count 56 = .ok (.ireturn, 1) := by decide +kernel
theorem dX6_count_57 : decode cX6_count 57 = .ok (.aload_n 0, 1) := by decide +kernel
theorem dX6_count_58 : decode cX6_count 58 = .ok (.invokevirtual 242, 3) := by decide +kernel
theorem dX6_count_61 : decode cX6_count 61 = .ok (.ireturn, 1) := by decide +kernel
theorem dX6_count_62 : decode cX6_count 62 = .ok (.aload_n 0, 1) := by decide +kernel
theorem dX6_count_63 : decode cX6_count 63 = .ok (.invokevirtual 245, 3) := by decide +kernel
theorem dX6_count_66 : decode cX6_count 66 = .ok (.ireturn, 1) := by decide +kernel
theorem dX6_count_67 : decode cX6_count 67 = .ok (.aload_n 0, 1) := by decide +kernel
theorem dX6_count_68 : decode cX6_count 68 = .ok (.getfield 157, 3) := by decide +kernel
theorem dX6_count_71 : decode cX6_count 71 = .ok (.ireturn, 1) := by decide +kernel
theorem dX6_count_72 : decode cX6_count 72 = .ok (.aload_n 0, 1) := by decide +kernel
theorem dX6_count_73 : decode cX6_count 73 = .ok (.iload_n 1, 1) := by decide +kernel
theorem dX6_count_74 : decode cX6_count 74 = .ok (.invokevirtual 248, 3) := by decide +kernel
theorem dX6_count_77 : decode cX6_count 77 = .ok (.ireturn, 1) := by decide +kernel
theorem dX6_count_78 : decode cX6_count 78 = .ok (.aload_n 0, 1) := by decide +kernel
theorem dX6_count_79 : decode cX6_count 79 = .ok (.invokevirtual 245, 3) := by decide +kernel
theorem dX6_count_82 : decode cX6_count 82 = .ok (.ifCond .ne 7, 3) := by decide +kernel
theorem dX6_count_85 : decode cX6_count 85 = .ok (.iconst (-1), 1) := by decide +kernel
theorem dX6_count_86 : decode cX6_count 86 = .ok (.goto 14, 3) := by decide +kernel
theorem dX6_count_89 : decode cX6_count 89 = .ok (.aload_n 0, 1) := by decide +kernel
theorem dX6_count_90 : decode cX6_count 90 = .ok (.getfield 26, 3) := by decide +kernel
theorem dX6_count_93 : decode cX6_count 93 = .ok (.aload_n 0, 1) := by decide +kernel
theorem dX6_count_94 : decode cX6_count 94 = .ok (.getfield 107, 3) := by decide +kernel
theorem dX6_count_97 : decode cX6_count 97 = .ok (.iconst 1, 1) := by decide +kernel
theorem dX6_count_98 : decode cX6_count 98 = .ok (.isub, 1) := by decide +kernel
theorem dX6_count_99 : decode cX6_count 99 = .ok (.iaload, 1) := by decide +kernel
theorem dX6_count_100 : decode cX6_count 100 = .ok (.ireturn, 1) := by decide +kernel
theorem dX6_count_101 : decode cX6_count 101 = .ok (.aload_n 0, 1) := by decide +kernel
theorem dX6_count_102 : decode cX6_count 102 = .ok (.getfield 231, 3) := by decide +kernel
theorem dX6_count_105 : decode cX6_count 105 = .ok (.ireturn, 1) := by decide +kernel
theorem dX6_count_106 : decode cX6_count 106 = .ok (.bipush (-2), 2) := by decide +kernel
theorem dX6_count_108 : decode cX6_count 108 = .ok (.ireturn, 1) := by decide +kernel
set_option maxRecDepth 20000 in
theorem ggX6_watcherDigest_X6_infoOf : GoodIn wsX6_watcherDigest wsX6_infoOf := goodIn_r _ [6, 7, 8, 9, 10, 11, 12, 13, 14, 15, 16, 17, 5, 18, 19, 20, 21, 22, 23, 24, 25, 26, 27, 28, 29, 30, 31, 32, 33, 34, 35, 36, 37, 38, 39, 40, 41, 42, 43, 44, 45, 46, 47, 48, 49, 50, 51, 52, 53, 54, 55, 56, 57, 58, 59, 60, 61, 62, 63, 64, 65, 66, 67, 68, 69, 70, 71, 72, 73, 74, 75, 76, 77, 78, 79, 80, 81, 82, 83, 84, 85, 86, 87, 108, 109, 110, 111, 112, 113, 114, 115, 116, 117, 118, 119, 120, 121, 122, 123, 124, 125, 126, 127, 128, 129, 130, 131, 132, 133, 134, 135] (by decide +kernel) (by decide +kernel)
set_option maxRecDepth 20000 in
theorem gX6_watcherDigest_X6_infoOf : GoodIn wsX6_watcherDigest (wsV RX6 199 RX6 yX6_infoOf wsX6_infoOf) := goodIn_app (goodIn_of _ (by decide +kernel)) ggX6_watcherDigest_X6_infoOf
set_option maxRecDepth 20000 in
theorem ggX6_watcherDigest_X6_noticedOf : GoodIn wsX6_watcherDigest wsX6_noticedOf := goodIn_r _ [91, 43, 84, 85, 86, 5, 87, 23, 25, 15, 16, 17, 18, 7, 8, 19, 20, 21, 22, 11, 12, 13, 14, 24, 26, 27, 28, 29, 30, 31, 32, 33, 34, 35, 36, 37, 38, 39, 40, 41, 42, 44, 45, 46, 47, 48, 49, 50, 51, 52, 53, 54, 55, 56, 57, 58, 59, 60, 61, 62, 63, 64, 65, 66, 67, 68, 69, 70, 71, 72, 73, 74, 75, 76, 77, 78, 79, 108, 109, 110, 111, 112, 113, 114, 115, 116, 117, 118, 119, 120, 121, 122, 123, 124, 125, 126, 127, 128, 129, 130, 131, 132, 133, 134, 135] (by decide +kernel) (by decide +kernel)
set_option maxRecDepth 20000 in
theorem gX6_watcherDigest_X6_noticedOf : GoodIn wsX6_watcherDigest (wsV RX6 214 RX6 yX6_noticedOf wsX6_noticedOf) := goodIn_app (goodIn_of _ (by decide +kernel)) ggX6_watcherDigest_X6_noticedOf
set_option maxRecDepth 20000 in
theorem ggX6_watcherDigest_X6_greatest : GoodIn wsX6_watcherDigest wsX6_greatest := goodIn_r _ [95, 27, 80, 81, 82, 5, 83, 9, 14, 10, 11, 15, 16, 17, 18, 7, 8, 19, 20, 21, 22, 12, 13, 23, 24, 25, 26, 28, 29, 30, 31, 32, 33, 34, 35, 36, 37, 38, 39, 40, 41, 42, 43, 44, 45, 46, 47, 48, 49, 50, 51, 52, 53, 54, 55, 56, 57, 58, 59, 60, 61, 62, 63, 64, 65, 66, 67, 68, 69, 70, 71, 72, 73, 74, 75, 76, 77, 78, 79, 108, 109, 110, 111, 112, 113, 114, 115, 116, 117, 118, 119, 120, 121, 122, 123, 124, 125, 126, 127, 128, 129, 130, 131, 132, 133, 134, 135] (by decide +kernel) (by decide +kernel)
set_option maxRecDepth 20000 in
theorem gX6_watcherDigest_X6_greatest : GoodIn wsX6_watcherDigest (wsV RX6 220 RX6 yX6_greatest wsX6_greatest) := goodIn_app (goodIn_of _ (by decide +kernel)) ggX6_watcherDigest_X6_greatest
set_option maxRecDepth 20000 in
theorem ggX6_watcherDigest_X6_ledgerOf : GoodIn wsX6_watcherDigest wsX6_ledgerOf := goodIn_r _ [99, 23, 26, 25, 24, 15, 16, 17, 5, 18, 7, 8, 19, 20, 21, 22, 11, 12, 13, 14, 27, 28, 29, 30, 31, 32, 33, 34, 35, 36, 37, 38, 39, 40, 41, 42, 43, 44, 45, 46, 47, 48, 49, 50, 51, 52, 53, 54, 55, 56, 57, 58, 59, 60, 61, 62, 63, 64, 65, 66, 67, 68, 69, 70, 71, 72, 73, 74, 75, 76, 77, 78, 79, 108, 109, 110, 111, 112, 113, 114, 115, 116, 117, 118, 119, 120, 121, 122, 123, 124, 125, 126, 127, 128, 129, 130, 131, 132, 133, 134, 135] (by decide +kernel) (by decide +kernel)
set_option maxRecDepth 20000 in
theorem gX6_watcherDigest_X6_ledgerOf : GoodIn wsX6_watcherDigest (wsV RX6 202 RX6 yX6_ledgerOf wsX6_ledgerOf) := goodIn_app (goodIn_of _ (by decide +kernel)) ggX6_watcherDigest_X6_ledgerOf
set_option maxRecDepth 20000 in
theorem ggX6_watcherDigest_X6_newsNow : GoodIn wsX6_watcherDigest wsX6_newsNow := goodIn_r _ [103, 23, 29, 30, 31, 5, 32, 33, 28, 24, 34, 35, 36, 37, 38, 39, 40, 41, 42, 43, 27, 44, 45, 46, 47, 108, 109, 110, 111, 112, 113, 114, 115, 116, 117, 118, 119, 120, 121, 122, 123, 124, 125, 126, 127, 128, 129, 130, 131, 132, 133, 134, 135] (by decide +kernel) (by decide +kernel)
set_option maxRecDepth 20000 in
theorem gX6_watcherDigest_X6_newsNow : GoodIn wsX6_watcherDigest (wsV RX6 245 RX6 yX6_newsNow wsX6_newsNow) := goodIn_app (goodIn_of _ (by decide +kernel)) ggX6_watcherDigest_X6_newsNow
set_option maxRecDepth 20000 in
theorem ggX6_watcherDigest_X6_limitOf : GoodIn wsX6_watcherDigest wsX6_limitOf := goodIn_r _ [107, 25, 15, 16, 17, 5, 18, 7, 8, 19, 20, 21, 22, 11, 12, 13, 14, 23, 24, 26, 27, 28, 29, 30, 31, 32, 33, 34, 35, 36, 37, 38, 39, 40, 41, 42, 43, 44, 45, 46, 47, 48, 49, 50, 51, 52, 53, 54, 55, 56, 57, 58, 59, 60, 61, 62, 63, 64, 65, 66, 67, 68, 69, 70, 71, 72, 73, 74, 75, 76, 77, 78, 79, 108, 109, 110, 111, 112, 113, 114, 115, 116, 117, 118, 119, 120, 121, 122, 123, 124, 125, 126, 127, 128, 129, 130, 131, 132, 133, 134, 135] (by decide +kernel) (by decide +kernel)
set_option maxRecDepth 20000 in
theorem gX6_watcherDigest_X6_limitOf : GoodIn wsX6_watcherDigest (wsV RX6 205 RX6 yX6_limitOf wsX6_limitOf) := goodIn_app (goodIn_of _ (by decide +kernel)) ggX6_watcherDigest_X6_limitOf
theorem dX6_watcherDigest_0 : decode cX6_watcherDigest 0 = .ok (.lload_n 1, 1) := by decide +kernel
theorem dX6_watcherDigest_1 : decode cX6_watcherDigest 1 = .ok (.lstore 4, 2) := by decide +kernel
theorem dX6_watcherDigest_3 : decode cX6_watcherDigest 3 = .ok (.iconst 0, 1) := by decide +kernel
theorem dX6_watcherDigest_4 : decode cX6_watcherDigest 4 = .ok (.istore 6, 2) := by decide +kernel
theorem dX6_watcherDigest_6 : decode cX6_watcherDigest 6 = .ok (.iload 6, 2) := by decide +kernel
theorem dX6_watcherDigest_8 : decode cX6_watcherDigest 8 = .ok (.bipush 10, 2) := by decide +kernel
theorem dX6_watcherDigest_10 : decode cX6_watcherDigest 10 = .ok (.if_icmp .ge 26, 3) := by decide +kernel
theorem dX6_watcherDigest_13 : decode cX6_watcherDigest 13 = .ok (.ldc2_w 251, 3) := by decide +kernel
theorem dX6_watcherDigest_16 : decode cX6_watcherDigest 16 = .ok (.lload 4, 2) := by decide +kernel
theorem dX6_watcherDigest_18 : decode cX6_watcherDigest 18 = .ok (.lmul, 1) := by decide +kernel
theorem dX6_watcherDigest_19 : decode cX6_watcherDigest 19 = .ok (.aload_n 0, 1) := by decide +kernel
theorem dX6_watcherDigest_20 : decode cX6_watcherDigest 20 = .ok (.iload_n 3, 1) := by decide +kernel
theorem dX6_watcherDigest_21 : decode cX6_watcherDigest 21 = .ok (.iload 6, 2) := by decide +kernel
theorem dX6_watcherDigest_23 : decode cX6_watcherDigest 23 = .ok (.invokevirtual 199, 3) := by decide +kernel
theorem dX6_watcherDigest_26 : decode cX6_watcherDigest 26 = .ok (.i2l, 1) := by decide +kernel
theorem dX6_watcherDigest_27 : decode cX6_watcherDigest 27 = .ok (.ladd, 1) := by decide +kernel
theorem dX6_watcherDigest_28 : decode cX6_watcherDigest 28 = .ok (.lstore 4, 2) := by decide +kernel
theorem dX6_watcherDigest_30 : decode cX6_watcherDigest 30 = .ok (.iinc 6 1, 3) := by decide +kernel
theorem dX6_watcherDigest_33 : decode cX6_watcherDigest 33 = .ok (.goto (-27), 3) := by decide +kernel
theorem dX6_watcherDigest_36 : decode cX6_watcherDigest 36 = .ok (.ldc2_w 251, 3) := by decide +kernel
theorem dX6_watcherDigest_39 : decode cX6_watcherDigest 39 = .ok (.lload 4, 2) := by decide +kernel
theorem dX6_watcherDigest_41 : decode cX6_watcherDigest 41 = .ok (.lmul, 1) := by decide +kernel
theorem dX6_watcherDigest_42 : decode cX6_watcherDigest 42 = .ok (.aload_n 0, 1) := by decide +kernel
theorem dX6_watcherDigest_43 : decode cX6_watcherDigest 43 = .ok (.iload_n 3, 1) := by decide +kernel
theorem dX6_watcherDigest_44 : decode cX6_watcherDigest 44 = .ok (.invokevirtual 214, 3) := by decide +kernel
theorem dX6_watcherDigest_47 : decode cX6_watcherDigest 47 = .ok (.i2l, 1) := by decide +kernel
theorem dX6_watcherDigest_48 : decode cX6_watcherDigest 48 = .ok (.ladd, 1) := by decide +kernel
theorem dX6_watcherDigest_49 : decode cX6_watcherDigest 49 = .ok (.lstore 4, 2) := by decide +kernel
theorem dX6_watcherDigest_51 : decode cX6_watcherDigest 51 = .ok (.ldc2_w 251, 3) := by decide +kernel
theorem dX6_watcherDigest_54 : decode cX6_watcherDigest 54 = .ok (.lload 4, 2) := by decide +kernel
theorem dX6_watcherDigest_56 : decode cX6_watcherDigest 56 = .ok (.lmul, 1) := by decide +kernel
theorem dX6_watcherDigest_57 : decode cX6_watcherDigest 57 = .ok (.aload_n 0, 1) := by decide +kernel
theorem dX6_watcherDigest_58 : decode cX6_watcherDigest 58 = .ok (.iload_n 3, 1) := by decide +kernel
theorem dX6_watcherDigest_59 : decode cX6_watcherDigest 59 = .ok (.iload_n 3, 1) := by decide +kernel
theorem dX6_watcherDigest_60 : decode cX6_watcherDigest 60 = .ok (.invokevirtual 220, 3) := by decide +kernel
theorem dX6_watcherDigest_63 : decode cX6_watcherDigest 63 = .ok (.i2l, 1) := by decide +kernel
theorem dX6_watcherDigest_64 : decode cX6_watcherDigest 64 = .ok (.ladd, 1) := by decide +kernel
theorem dX6_watcherDigest_65 : decode cX6_watcherDigest 65 = .ok (.lstore 4, 2) := by decide +kernel
theorem dX6_watcherDigest_67 : decode cX6_watcherDigest 67 = .ok (.aload_n 0, 1) := by decide +kernel
theorem dX6_watcherDigest_68 : decode cX6_watcherDigest 68 = .ok (.iload_n 3, 1) := by decide +kernel
theorem dX6_watcherDigest_69 : decode cX6_watcherDigest 69 = .ok (.iconst 4, 1) := by decide +kernel
theorem dX6_watcherDigest_70 : decode cX6_watcherDigest 70 = .ok (.invokevirtual 199, 3) := by decide +kernel
theorem dX6_watcherDigest_73 : decode cX6_watcherDigest 73 = .ok (.istore 6, 2) := by decide +kernel
theorem dX6_watcherDigest_75 : decode cX6_watcherDigest 75 = .ok (.iconst 0, 1) := by decide +kernel
theorem dX6_watcherDigest_76 : decode cX6_watcherDigest 76 = .ok (.istore 7, 2) := by decide +kernel
theorem dX6_watcherDigest_78 : decode cX6_watcherDigest 78 = .ok (.iload 7, 2) := by decide +kernel
theorem dX6_watcherDigest_80 : decode cX6_watcherDigest 80 = .ok (.iload 6, 2) := by decide +kernel
theorem dX6_watcherDigest_82 : decode cX6_watcherDigest 82 = .ok (.if_icmp .ge 43, 3) := by decide +kernel
theorem dX6_watcherDigest_85 : decode cX6_watcherDigest 85 = .ok (.iconst 0, 1) := by decide +kernel
theorem dX6_watcherDigest_86 : decode cX6_watcherDigest 86 = .ok (.istore 8, 2) := by decide +kernel
theorem dX6_watcherDigest_88 : decode cX6_watcherDigest 88 = .ok (.iload 8, 2) := by decide +kernel
theorem dX6_watcherDigest_90 : decode cX6_watcherDigest 90 = .ok (.iconst 3, 1) := by decide +kernel
theorem dX6_watcherDigest_91 : decode cX6_watcherDigest 91 = .ok (.if_icmp .ge 28, 3) := by decide +kernel
theorem dX6_watcherDigest_94 : decode cX6_watcherDigest 94 = .ok (.ldc2_w 251, 3) := by decide +kernel
theorem dX6_watcherDigest_97 : decode cX6_watcherDigest 97 = .ok (.lload 4, 2) := by decide +kernel
theorem dX6_watcherDigest_99 : decode cX6_watcherDigest 99 = .ok (.lmul, 1) := by decide +kernel
theorem dX6_watcherDigest_100 : decode cX6_watcherDigest 100 = .ok (.aload_n 0, 1) := by decide +kernel
theorem dX6_watcherDigest_101 : decode cX6_watcherDigest 101 = .ok (.iload_n 3, 1) := by decide +kernel
theorem dX6_watcherDigest_102 : decode cX6_watcherDigest 102 = .ok (.iload 7, 2) := by decide +kernel
theorem dX6_watcherDigest_104 : decode cX6_watcherDigest 104 = .ok (.iload 8, 2) := by decide +kernel
theorem dX6_watcherDigest_106 : decode cX6_watcherDigest 106 = .ok (.invokevirtual 202, 3) := by decide +kernel
theorem dX6_watcherDigest_109 : decode cX6_watcherDigest 109 = .ok (.i2l, 1) := by decide +kernel
theorem dX6_watcherDigest_110 : decode cX6_watcherDigest 110 = .ok (.ladd, 1) := by decide +kernel
theorem dX6_watcherDigest_111 : decode cX6_watcherDigest 111 = .ok (.lstore 4, 2) := by decide +kernel
theorem dX6_watcherDigest_113 : decode cX6_watcherDigest 113 = .ok (.iinc 8 1, 3) := by decide +kernel
theorem dX6_watcherDigest_116 : decode cX6_watcherDigest 116 = .ok (.goto (-28), 3) := by decide +kernel
theorem dX6_watcherDigest_119 : decode cX6_watcherDigest 119 = .ok (.iinc 7 1, 3) := by decide +kernel
theorem dX6_watcherDigest_122 : decode cX6_watcherDigest 122 = .ok (.goto (-44), 3) := by decide +kernel
theorem dX6_watcherDigest_125 : decode cX6_watcherDigest 125 = .ok (.iconst 0, 1) := by decide +kernel
theorem dX6_watcherDigest_126 : decode cX6_watcherDigest 126 = .ok (.istore 7, 2) := by decide +kernel
theorem dX6_watcherDigest_128 : decode cX6_watcherDigest 128 = .ok (.iload 7, 2) := by decide +kernel
theorem dX6_watcherDigest_130 : decode cX6_watcherDigest 130 = .ok (.aload_n 0, 1) := by decide +kernel
theorem dX6_watcherDigest_131 : decode cX6_watcherDigest 131 = .ok (.invokevirtual 245, 3) := by decide +kernel
theorem dX6_watcherDigest_134 : decode cX6_watcherDigest 134 = .ok (.if_icmp .ge 26, 3) := by decide +kernel
theorem dX6_watcherDigest_137 : decode cX6_watcherDigest 137 = .ok (.ldc2_w 251, 3) := by decide +kernel
theorem dX6_watcherDigest_140 : decode cX6_watcherDigest 140 = .ok (.lload 4, 2) := by decide +kernel
theorem dX6_watcherDigest_142 : decode cX6_watcherDigest 142 = .ok (.lmul, 1) := by decide +kernel
theorem dX6_watcherDigest_143 : decode cX6_watcherDigest 143 = .ok (.aload_n 0, 1) := by decide +kernel
theorem dX6_watcherDigest_144 : decode cX6_watcherDigest 144 = .ok (.iload_n 3, 1) := by decide +kernel
theorem dX6_watcherDigest_145 : decode cX6_watcherDigest 145 = .ok (.iload 7, 2) := by decide +kernel
theorem dX6_watcherDigest_147 : decode cX6_watcherDigest 147 = .ok (.invokevirtual 205, 3) := by decide +kernel
theorem dX6_watcherDigest_150 : decode cX6_watcherDigest 150 = .ok (.i2l, 1) := by decide +kernel
theorem dX6_watcherDigest_151 : decode cX6_watcherDigest 151 = .ok (.ladd, 1) := by decide +kernel
theorem dX6_watcherDigest_152 : decode cX6_watcherDigest 152 = .ok (.lstore 4, 2) := by decide +kernel
theorem dX6_watcherDigest_154 : decode cX6_watcherDigest 154 = .ok (.iinc 7 1, 3) := by decide +kernel
theorem dX6_watcherDigest_157 : decode cX6_watcherDigest 157 = .ok (.goto (-29), 3) := by decide +kernel
theorem dX6_watcherDigest_160 : decode cX6_watcherDigest 160 = .ok (.lload 4, 2) := by decide +kernel
theorem dX6_watcherDigest_162 : decode cX6_watcherDigest 162 = .ok (.lreturn, 1) := by decide +kernel
set_option maxRecDepth 20000 in
theorem ggX6_newsDigest_X6_cameOf : GoodIn wsX6_newsDigest wsX6_cameOf := goodIn_r _ [8, 3, 9, 10, 11, 12, 13, 7, 14, 1, 15, 16, 17, 18, 19, 20, 21, 22, 23, 24, 25, 26, 27, 28, 29, 50, 51, 52, 53, 54, 55, 56, 57, 58, 59, 60, 61, 62, 63, 64, 65, 66, 67, 68, 69, 70, 71, 72, 73, 74, 75, 76, 77] (by decide +kernel) (by decide +kernel)
set_option maxRecDepth 20000 in
theorem gX6_newsDigest_X6_cameOf : GoodIn wsX6_newsDigest (wsV RX6 116 RX6 yX6_cameOf wsX6_cameOf) := goodIn_app (goodIn_of _ (by decide +kernel)) ggX6_newsDigest_X6_cameOf
set_option maxRecDepth 20000 in
theorem ggX6_newsDigest_X6_findsNews : GoodIn wsX6_newsDigest wsX6_findsNews := goodIn_r _ [14, 3, 1, 9, 15, 16, 17, 18, 7, 19, 20, 21, 22, 23, 10, 24, 25, 26, 27, 28, 29, 50, 51, 52, 53, 54, 55, 56, 57, 58, 59, 60, 61, 62, 63, 64, 65, 66, 67, 68, 69, 70, 71, 72, 73, 74, 75, 76, 77] (by decide +kernel) (by decide +kernel)
set_option maxRecDepth 20000 in
theorem gX6_newsDigest_X6_findsNews : GoodIn wsX6_newsDigest (wsV RX6 113 RX6 yX6_findsNews wsX6_findsNews) := goodIn_app (goodIn_of _ (by decide +kernel)) ggX6_newsDigest_X6_findsNews
set_option maxRecDepth 20000 in
theorem ggX6_newsDigest_X6_newsOf : GoodIn wsX6_newsDigest wsX6_newsOf := goodIn_r _ [33, 9, 15, 34, 35, 36, 7, 37, 38, 50, 51, 52, 53, 54, 55, 56, 57, 58, 59, 60, 61, 62, 63, 64, 65, 66, 67, 68, 69, 70, 71, 72, 73, 74, 75, 76, 77] (by decide +kernel) (by decide +kernel)
set_option maxRecDepth 20000 in
theorem gX6_newsDigest_X6_newsOf : GoodIn wsX6_newsDigest (wsV RX6 126 RX6 yX6_newsOf wsX6_newsOf) := goodIn_app (goodIn_of _ (by decide +kernel)) ggX6_newsDigest_X6_newsOf
set_option maxRecDepth 20000 in
theorem ggX6_newsDigest_X6_aboveBy : GoodIn wsX6_newsDigest wsX6_aboveBy := goodIn_r _ [42, 25, 9, 15, 43, 44, 45, 7, 46, 38, 50, 51, 52, 53, 54, 55, 56, 57, 58, 59, 60, 61, 62, 63, 64, 65, 66, 67, 68, 69, 70, 71, 72, 73, 74, 75, 76, 77] (by decide +kernel) (by decide +kernel)
set_option maxRecDepth 20000 in
theorem gX6_newsDigest_X6_aboveBy : GoodIn wsX6_newsDigest (wsV RX6 132 RX6 yX6_aboveBy wsX6_aboveBy) := goodIn_app (goodIn_of _ (by decide +kernel)) ggX6_newsDigest_X6_aboveBy
set_option maxRecDepth 20000 in
theorem ggX6_newsDigest_X6_belowBy : GoodIn wsX6_newsDigest wsX6_belowBy := goodIn_r _ [46, 38, 50, 51, 52, 53, 54, 55, 56, 57, 58, 59, 60, 61, 62, 63, 64, 65, 66, 67, 68, 69, 70, 71, 72, 73, 74, 75, 76, 77] (by decide +kernel) (by decide +kernel)
set_option maxRecDepth 20000 in
theorem gX6_newsDigest_X6_belowBy : GoodIn wsX6_newsDigest (wsV RX6 129 RX6 yX6_belowBy wsX6_belowBy) := goodIn_app (goodIn_of _ (by decide +kernel)) ggX6_newsDigest_X6_belowBy
set_option maxRecDepth 20000 in
theorem ggX6_newsDigest_X6_partOf : GoodIn wsX6_newsDigest wsX6_partOf := goodIn_r _ [49] (by decide +kernel) (by decide +kernel)
set_option maxRecDepth 20000 in
theorem gX6_newsDigest_X6_partOf : GoodIn wsX6_newsDigest (va_wsS RX6 135 yX6_partOf wsX6_partOf) := goodIn_app (goodIn_of _ (by decide +kernel)) ggX6_newsDigest_X6_partOf
theorem dX6_newsDigest_0 : decode cX6_newsDigest 0 = .ok (.lload_n 1, 1) := by decide +kernel
theorem dX6_newsDigest_1 : decode cX6_newsDigest 1 = .ok (.lstore_n 3, 1) := by decide +kernel
theorem dX6_newsDigest_2 : decode cX6_newsDigest 2 = .ok (.iconst 0, 1) := by decide +kernel
theorem dX6_newsDigest_3 : decode cX6_newsDigest 3 = .ok (.istore 5, 2) := by decide +kernel
theorem dX6_newsDigest_5 : decode cX6_newsDigest 5 = .ok (.iload 5, 2) := by decide +kernel
theorem dX6_newsDigest_7 : decode cX6_newsDigest 7 = .ok (.aload_n 0, 1) := by decide +kernel
theorem dX6_newsDigest_8 : decode cX6_newsDigest 8 = .ok (.getfield 80, 3) := by decide +kernel
theorem dX6_newsDigest_11 : decode cX6_newsDigest 11 = .ok (.if_icmp .ge 40, 3) := by decide +kernel
theorem dX6_newsDigest_14 : decode cX6_newsDigest 14 = .ok (.iconst 0, 1) := by decide +kernel
theorem dX6_newsDigest_15 : decode cX6_newsDigest 15 = .ok (.istore 6, 2) := by decide +kernel
theorem dX6_newsDigest_17 : decode cX6_newsDigest 17 = .ok (.iload 6, 2) := by decide +kernel
theorem dX6_newsDigest_19 : decode cX6_newsDigest 19 = .ok (.iconst 3, 1) := by decide +kernel
theorem dX6_newsDigest_20 : decode cX6_newsDigest 20 = .ok (.if_icmp .ge 25, 3) := by decide +kernel
theorem dX6_newsDigest_23 : decode cX6_newsDigest 23 = .ok (.ldc2_w 251, 3) := by decide +kernel
theorem dX6_newsDigest_26 : decode cX6_newsDigest 26 = .ok (.lload_n 3, 1) := by decide +kernel
theorem dX6_newsDigest_27 : decode cX6_newsDigest 27 = .ok (.lmul, 1) := by decide +kernel
theorem dX6_newsDigest_28 : decode cX6_newsDigest 28 = .ok (.aload_n 0, 1) := by decide +kernel
theorem dX6_newsDigest_29 : decode cX6_newsDigest 29 = .ok (.iload 5, 2) := by decide +kernel
theorem dX6_newsDigest_31 : decode cX6_newsDigest 31 = .ok (.iload 6, 2) := by decide +kernel
theorem dX6_newsDigest_33 : decode cX6_newsDigest 33 = .ok (.invokevirtual 116, 3) := by decide +kernel
theorem dX6_newsDigest_36 : decode cX6_newsDigest 36 = .ok (.i2l, 1) := by decide +kernel
theorem dX6_newsDigest_37 : decode cX6_newsDigest 37 = .ok (.ladd, 1) := by decide +kernel
theorem dX6_newsDigest_38 : decode cX6_newsDigest 38 = .ok (.lstore_n 3, 1) := by decide +kernel
theorem dX6_newsDigest_39 : decode cX6_newsDigest 39 = .ok (.iinc 6 1, 3) := by decide +kernel
theorem dX6_newsDigest_42 : decode cX6_newsDigest 42 = .ok (.goto (-25), 3) := by decide +kernel
theorem dX6_newsDigest_45 : decode cX6_newsDigest 45 = .ok (.iinc 5 1, 3) := by decide +kernel
theorem dX6_newsDigest_48 : decode cX6_newsDigest 48 = .ok (.goto (-43), 3) := by decide +kernel
theorem dX6_newsDigest_51 : decode cX6_newsDigest 51 = .ok (.aload_n 0, 1) := by decide +kernel
theorem dX6_newsDigest_52 : decode cX6_newsDigest 52 = .ok (.invokevirtual 113, 3) := by decide +kernel
theorem dX6_newsDigest_55 : decode cX6_newsDigest 55 = .ok (.iconst 0, 1) := by decide +kernel
theorem dX6_newsDigest_56 : decode cX6_newsDigest 56 = .ok (.istore 5, 2) := by decide +kernel
theorem dX6_newsDigest_58 : decode cX6_newsDigest 58 = .ok (.iload 5, 2) := by decide +kernel
theorem dX6_newsDigest_60 : decode cX6_newsDigest 60 = .ok (.aload_n 0, 1) := by decide +kernel
theorem dX6_newsDigest_61 : decode cX6_newsDigest 61 = .ok (.getfield 107, 3) := by decide +kernel
theorem dX6_newsDigest_64 : decode cX6_newsDigest 64 = .ok (.if_icmp .ge 90, 3) := by decide +kernel
theorem dX6_newsDigest_67 : decode cX6_newsDigest 67 = .ok (.iconst 0, 1) := by decide +kernel
theorem dX6_newsDigest_68 : decode cX6_newsDigest 68 = .ok (.istore 6, 2) := by decide +kernel
theorem dX6_newsDigest_70 : decode cX6_newsDigest 70 = .ok (.iload 6, 2) := by decide +kernel
theorem dX6_newsDigest_72 : decode cX6_newsDigest 72 = .ok (.iconst 3, 1) := by decide +kernel
theorem dX6_newsDigest_73 : decode cX6_newsDigest 73 = .ok (.if_icmp .ge 25, 3) := by decide +kernel
theorem dX6_newsDigest_76 : decode cX6_newsDigest 76 = .ok (.ldc2_w 251, 3) := by decide +kernel
theorem dX6_newsDigest_79 : decode cX6_newsDigest 79 = .ok (.lload_n 3, 1) := by decide +kernel
theorem dX6_newsDigest_80 : decode cX6_newsDigest 80 = .ok (.lmul, 1) := by decide +kernel
theorem dX6_newsDigest_81 : decode cX6_newsDigest 81 = .ok (.aload_n 0, 1) := by decide +kernel
theorem dX6_newsDigest_82 : decode cX6_newsDigest 82 = .ok (.iload 5, 2) := by decide +kernel
theorem dX6_newsDigest_84 : decode cX6_newsDigest 84 = .ok (.iload 6, 2) := by decide +kernel
theorem dX6_newsDigest_86 : decode cX6_newsDigest 86 = .ok (.invokevirtual 126, 3) := by decide +kernel
theorem dX6_newsDigest_89 : decode cX6_newsDigest 89 = .ok (.i2l, 1) := by decide +kernel
theorem dX6_newsDigest_90 : decode cX6_newsDigest 90 = .ok (.ladd, 1) := by decide +kernel
theorem dX6_newsDigest_91 : decode cX6_newsDigest 91 = .ok (.lstore_n 3, 1) := by decide +kernel
theorem dX6_newsDigest_92 : decode cX6_newsDigest 92 = .ok (.iinc 6 1, 3) := by decide +kernel
theorem dX6_newsDigest_95 : decode cX6_newsDigest 95 = .ok (.goto (-25), 3) := by decide +kernel
theorem dX6_newsDigest_98 : decode cX6_newsDigest 98 = .ok (.ldc2_w 251, 3) := by decide +kernel
theorem dX6_newsDigest_101 : decode cX6_newsDigest 101 = .ok (.lload_n 3, 1) := by decide +kernel
theorem dX6_newsDigest_102 : decode cX6_newsDigest 102 = .ok (.lmul, 1) := by decide +kernel
theorem dX6_newsDigest_103 : decode cX6_newsDigest 103 = .ok (.aload_n 0, 1) := by decide +kernel
theorem dX6_newsDigest_104 : decode cX6_newsDigest 104 = .ok (.iload 5, 2) := by decide +kernel
theorem dX6_newsDigest_106 : decode cX6_newsDigest 106 = .ok (.invokevirtual 132, 3) := by decide +kernel
theorem dX6_newsDigest_109 : decode cX6_newsDigest 109 = .ok (.i2l, 1) := by decide +kernel
theorem dX6_newsDigest_110 : decode cX6_newsDigest 110 = .ok (.aload_n 0, 1) := by decide +kernel
theorem dX6_newsDigest_111 : decode cX6_newsDigest 111 = .ok (.iload 5, 2) := by decide +kernel
theorem dX6_newsDigest_113 : decode cX6_newsDigest 113 = .ok (.invokevirtual 129, 3) := by decide +kernel
theorem dX6_newsDigest_116 : decode cX6_newsDigest 116 = .ok (.i2l, 1) := by decide +kernel
theorem dX6_newsDigest_117 : decode cX6_newsDigest 117 = .ok (.iconst 0, 1) := by decide +kernel
theorem dX6_newsDigest_118 : decode cX6_newsDigest 118 = .ok (.invokestatic 135, 3) := by decide +kernel
theorem dX6_newsDigest_121 : decode cX6_newsDigest 121 = .ok (.ladd, 1) := by decide +kernel
theorem dX6_newsDigest_122 : decode cX6_newsDigest 122 = .ok (.lstore_n 3, 1) := by decide +kernel
theorem dX6_newsDigest_123 : decode cX6_newsDigest 123 = .ok (.ldc2_w 251, 3) := by decide +kernel
theorem dX6_newsDigest_126 : decode cX6_newsDigest 126 = .ok (.lload_n 3, 1) := by decide +kernel
theorem dX6_newsDigest_127 : decode cX6_newsDigest 127 = .ok (.lmul, 1) := by decide +kernel
theorem dX6_newsDigest_128 : decode cX6_newsDigest 128 = .ok (.aload_n 0, 1) := by decide +kernel
theorem dX6_newsDigest_129 : decode cX6_newsDigest 129 = .ok (.iload 5, 2) := by decide +kernel
theorem dX6_newsDigest_131 : decode cX6_newsDigest 131 = .ok (.invokevirtual 132, 3) := by decide +kernel
theorem dX6_newsDigest_134 : decode cX6_newsDigest 134 = .ok (.i2l, 1) := by decide +kernel
theorem dX6_newsDigest_135 : decode cX6_newsDigest 135 = .ok (.aload_n 0, 1) := by decide +kernel
theorem dX6_newsDigest_136 : decode cX6_newsDigest 136 = .ok (.iload 5, 2) := by decide +kernel
theorem dX6_newsDigest_138 : decode cX6_newsDigest 138 = .ok (.invokevirtual 129, 3) := by decide +kernel
theorem dX6_newsDigest_141 : decode cX6_newsDigest 141 = .ok (.i2l, 1) := by decide +kernel
theorem dX6_newsDigest_142 : decode cX6_newsDigest 142 = .ok (.iconst 1, 1) := by decide +kernel
theorem dX6_newsDigest_143 : decode cX6_newsDigest 143 = .ok (.invokestatic 135, 3) := by decide +kernel
theorem dX6_newsDigest_146 : decode cX6_newsDigest 146 = .ok (.ladd, 1) := by decide +kernel
theorem dX6_newsDigest_147 : decode cX6_newsDigest 147 = .ok (.lstore_n 3, 1) := by decide +kernel
theorem dX6_newsDigest_148 : decode cX6_newsDigest 148 = .ok (.iinc 5 1, 3) := by decide +kernel
theorem dX6_newsDigest_151 : decode cX6_newsDigest 151 = .ok (.goto (-93), 3) := by decide +kernel
theorem dX6_newsDigest_154 : decode cX6_newsDigest 154 = .ok (.lload_n 3, 1) := by decide +kernel
theorem dX6_newsDigest_155 : decode cX6_newsDigest 155 = .ok (.lreturn, 1) := by decide +kernel
set_option maxRecDepth 20000 in
theorem ggX6_digest_X6_count : GoodIn wsX6_digest wsX6_count := goodIn_r _ [8, 9, 3, 10, 11, 12, 13, 14, 15, 7, 16, 17, 18, 19, 20, 21, 22, 23, 24, 25, 26, 27, 28, 29, 30, 31, 32, 33, 34, 35, 36, 37, 38, 39, 40, 41, 42, 43, 44, 45, 46, 47, 48, 49, 50, 51, 52, 53, 54, 55, 56, 57, 58, 59, 60, 61, 62, 63, 64, 65, 66, 67, 68, 69, 70, 71, 72, 73, 74, 75, 76, 77, 78, 79, 80, 81, 82, 83, 84, 85, 86, 87, 88, 89, 90, 91, 92, 93, 94, 95, 96, 97, 98, 99, 100, 101, 102, 103, 104, 105, 106, 177, 178, 179, 180, 181, 182, 183, 184, 185, 186, 187, 188, 189, 190, 191, 192, 193, 194, 195, 196, 197, 198, 199, 200, 201, 202, 203, 204] (by decide +kernel) (by decide +kernel)
set_option maxRecDepth 20000 in
theorem gX6_digest_X6_count : GoodIn wsX6_digest (wsV RX6 255 RX6 yX6_count wsX6_count) := goodIn_app (goodIn_of _ (by decide +kernel)) ggX6_digest_X6_count
set_option maxRecDepth 20000 in
theorem ggX6_digest_X6_newsDigest : GoodIn wsX6_digest wsX6_newsDigest := goodIn_r _ [110, 9, 2, 11, 111, 112, 113, 7, 114, 32, 21, 28, 29, 30, 31, 10, 33, 34, 35, 36, 17, 18, 19, 20, 22, 23, 37, 38, 39, 40, 115, 116, 117, 118, 83, 84, 85, 86, 79, 71, 72, 73, 74, 75, 76, 77, 78, 119, 120, 121, 177, 178, 179, 180, 181, 182, 183, 184, 185, 186, 187, 188, 189, 190, 191, 192, 193, 194, 195, 196, 197, 198, 199, 200, 201, 202, 203, 204] (by decide +kernel) (by decide +kernel)
set_option maxRecDepth 20000 in
theorem gX6_digest_X6_newsDigest : GoodIn wsX6_digest (wsV RX6 258 RX6 yX6_newsDigest wsX6_newsDigest) := goodIn_app (goodIn_of _ (by decide +kernel)) ggX6_digest_X6_newsDigest
set_option maxRecDepth 20000 in
theorem ggX6_digest_X6_watcherDigest : GoodIn wsX6_digest wsX6_watcherDigest := goodIn_r _ [125, 2, 45, 46, 47, 7, 48, 49, 50, 51, 52, 53, 54, 55, 56, 57, 58, 59, 60, 61, 62, 63, 64, 11, 10, 65, 66, 23, 32, 28, 29, 30, 31, 9, 33, 34, 35, 36, 17, 18, 19, 20, 21, 22, 37, 38, 39, 40, 67, 68, 69, 70, 71, 72, 73, 74, 75, 76, 77, 78, 79, 80, 81, 82, 83, 84, 85, 86, 87, 88, 89, 90, 91, 92, 93, 94, 95, 96, 97, 98, 99, 100, 101, 102, 103, 104, 105, 106, 126, 127, 128, 129, 130, 131, 132, 133, 134, 135, 136, 137, 24, 25, 26, 27, 138, 139, 140, 141, 177, 178, 179, 180, 181, 182, 183, 184, 185, 186, 187, 188, 189, 190, 191, 192, 193, 194, 195, 196, 197, 198, 199, 200, 201, 202, 203, 204] (by decide +kernel) (by decide +kernel)
set_option maxRecDepth 20000 in
theorem gX6_digest_X6_watcherDigest : GoodIn wsX6_digest (wsV RX6 262 RX6 yX6_watcherDigest wsX6_watcherDigest) := goodIn_app (goodIn_of _ (by decide +kernel)) ggX6_digest_X6_watcherDigest
set_option maxRecDepth 20000 in
theorem ggX6_digest_X6_doubtsAt : GoodIn wsX6_digest wsX6_doubtsAt := goodIn_r _ [145, 3, 146, 147, 148, 7, 149, 11, 65, 66, 10, 57, 58, 59, 60, 49, 50, 61, 62, 63, 64, 53, 54, 55, 56, 23, 32, 28, 29, 30, 31, 9, 33, 34, 35, 36, 17, 18, 19, 20, 21, 22, 37, 38, 39, 40, 67, 68, 69, 70, 71, 72, 73, 74, 75, 76, 77, 78, 79, 80, 81, 82, 83, 84, 85, 86, 87, 88, 89, 90, 91, 92, 93, 94, 95, 96, 97, 98, 177, 178, 179, 180, 181, 182, 183, 184, 185, 186, 187, 188, 189, 190, 191, 192, 193, 194, 195, 196, 197, 198, 199, 200, 201, 202, 203, 204] (by decide +kernel) (by decide +kernel)
set_option maxRecDepth 20000 in
theorem gX6_digest_X6_doubtsAt : GoodIn wsX6_digest (wsV RX6 211 RX6 yX6_doubtsAt wsX6_doubtsAt) := goodIn_app (goodIn_of _ (by decide +kernel)) ggX6_digest_X6_doubtsAt
set_option maxRecDepth 20000 in
theorem ggX6_digest_X6_scoreOf : GoodIn wsX6_digest wsX6_scoreOf := goodIn_r _ [153, 11, 10, 28, 29, 30, 7, 31, 9, 32, 33, 34, 35, 36, 17, 18, 19, 20, 21, 22, 23, 37, 38, 39, 40, 154, 155, 156, 157, 95, 96, 97, 98, 83, 84, 85, 86, 79, 91, 92, 93, 94, 119, 120, 121, 177, 178, 179, 180, 181, 182, 183, 184, 185, 186, 187, 188, 189, 190, 191, 192, 193, 194, 195, 196, 197, 198, 199, 200, 201, 202, 203, 204] (by decide +kernel) (by decide +kernel)
set_option maxRecDepth 20000 in
theorem gX6_digest_X6_scoreOf : GoodIn wsX6_digest (wsV RX6 149 RX6 yX6_scoreOf wsX6_scoreOf) := goodIn_app (goodIn_of _ (by decide +kernel)) ggX6_digest_X6_scoreOf
set_option maxRecDepth 20000 in
theorem ggX6_digest_X6_leastOf : GoodIn wsX6_digest wsX6_leastOf := goodIn_r _ [161, 53, 162, 163, 7, 164, 165, 166, 167, 61, 62, 63, 64, 54, 55, 56, 11, 10, 65, 66, 23, 32, 28, 29, 30, 31, 9, 33, 34, 35, 36, 17, 18, 19, 20, 21, 22, 37, 38, 39, 40, 67, 68, 69, 70, 71, 72, 73, 74, 75, 76, 77, 78, 79, 80, 81, 82, 83, 84, 85, 86, 87, 88, 89, 90, 91, 92, 93, 94, 95, 96, 97, 98, 177, 178, 179, 180, 181, 182, 183, 184, 185, 186, 187, 188, 189, 190, 191, 192, 193, 194, 195, 196, 197, 198, 199, 200, 201, 202, 203, 204] (by decide +kernel) (by decide +kernel)
set_option maxRecDepth 20000 in
theorem gX6_digest_X6_leastOf : GoodIn wsX6_digest (wsV RX6 217 RX6 yX6_leastOf wsX6_leastOf) := goodIn_app (goodIn_of _ (by decide +kernel)) ggX6_digest_X6_leastOf
set_option maxRecDepth 20000 in
theorem ggX6_digest_X6_sharedNow : GoodIn wsX6_digest wsX6_sharedNow := goodIn_r _ [171, 3, 130, 131, 132, 7, 133, 23, 99, 100, 101, 102, 51, 56, 52, 53, 57, 58, 59, 60, 49, 50, 61, 62, 63, 64, 54, 55, 11, 10, 65, 66, 32, 28, 29, 30, 31, 9, 33, 34, 35, 36, 17, 18, 19, 20, 21, 22, 37, 38, 39, 40, 67, 68, 69, 70, 71, 72, 73, 74, 75, 76, 77, 78, 79, 80, 81, 82, 83, 84, 85, 86, 87, 88, 89, 90, 91, 92, 93, 94, 95, 96, 97, 98, 177, 178, 179, 180, 181, 182, 183, 184, 185, 186, 187, 188, 189, 190, 191, 192, 193, 194, 195, 196, 197, 198, 199, 200, 201, 202, 203, 204] (by decide +kernel) (by decide +kernel)
set_option maxRecDepth 20000 in
theorem gX6_digest_X6_sharedNow : GoodIn wsX6_digest (wsV RX6 223 RX6 yX6_sharedNow wsX6_sharedNow) := goodIn_app (goodIn_of _ (by decide +kernel)) ggX6_digest_X6_sharedNow
set_option maxRecDepth 20000 in
theorem ggX6_digest_X6_savedNow : GoodIn wsX6_digest wsX6_savedNow := goodIn_r _ [175, 3, 176, 168, 169, 170, 7, 171, 130, 131, 132, 133, 23, 99, 100, 101, 102, 51, 56, 52, 53, 57, 58, 59, 60, 49, 50, 61, 62, 63, 64, 54, 55, 11, 10, 65, 66, 32, 28, 29, 30, 31, 9, 33, 34, 35, 36, 17, 18, 19, 20, 21, 22, 37, 38, 39, 40, 67, 68, 69, 70, 71, 72, 73, 74, 75, 76, 77, 78, 79, 80, 81, 82, 83, 84, 85, 86, 87, 88, 89, 90, 91, 92, 93, 94, 95, 96, 97, 98, 177, 178, 179, 180, 181, 182, 183, 184, 185, 186, 187, 188, 189, 190, 191, 192, 193, 194, 195, 196, 197, 198, 199, 200, 201, 202, 203, 204] (by decide +kernel) (by decide +kernel)
set_option maxRecDepth 20000 in
theorem gX6_digest_X6_savedNow : GoodIn wsX6_digest (wsV RX6 228 RX6 yX6_savedNow wsX6_savedNow) := goodIn_app (goodIn_of _ (by decide +kernel)) ggX6_digest_X6_savedNow
theorem dX6_digest_0 : decode cX6_digest 0 = .ok (.ldc2_w 253, 3) := by decide +kernel
theorem dX6_digest_3 : decode cX6_digest 3 = .ok (.lstore_n 1, 1) := by decide +kernel
theorem dX6_digest_4 : decode cX6_digest 4 = .ok (.iconst 0, 1) := by decide +kernel
theorem dX6_digest_5 : decode cX6_digest 5 = .ok (.istore_n 3, 1) := by decide +kernel
theorem dX6_digest_6 : decode cX6_digest 6 = .ok (.iload_n 3, 1) := by decide +kernel
theorem dX6_digest_7 : decode cX6_digest 7 = .ok (.bipush 8, 2) := by decide +kernel
theorem dX6_digest_9 : decode cX6_digest 9 = .ok (.if_icmp .ge 22, 3) := by decide +kernel
theorem dX6_digest_12 : decode cX6_digest 12 = .ok (.ldc2_w 251, 3) := by decide +kernel
theorem dX6_digest_15 : decode cX6_digest 15 = .ok (.lload_n 1, 1) := by decide +kernel
theorem dX6_digest_16 : decode cX6_digest 16 = .ok (.lmul, 1) := by decide +kernel
theorem dX6_digest_17 : decode cX6_digest 17 = .ok (.aload_n 0, 1) := by decide +kernel
theorem dX6_digest_18 : decode cX6_digest 18 = .ok (.iload_n 3, 1) := by decide +kernel
theorem dX6_digest_19 : decode cX6_digest 19 = .ok (.invokevirtual 255, 3) := by decide +kernel
theorem dX6_digest_22 : decode cX6_digest 22 = .ok (.i2l, 1) := by decide +kernel
theorem dX6_digest_23 : decode cX6_digest 23 = .ok (.ladd, 1) := by decide +kernel
theorem dX6_digest_24 : decode cX6_digest 24 = .ok (.lstore_n 1, 1) := by decide +kernel
theorem dX6_digest_25 : decode cX6_digest 25 = .ok (.iinc 3 1, 3) := by decide +kernel
theorem dX6_digest_28 : decode cX6_digest 28 = .ok (.goto (-22), 3) := by decide +kernel
theorem dX6_digest_31 : decode cX6_digest 31 = .ok (.aload_n 0, 1) := by decide +kernel
theorem dX6_digest_32 : decode cX6_digest 32 = .ok (.lload_n 1, 1) := by decide +kernel
theorem dX6_digest_33 : decode cX6_digest 33 = .ok (.invokevirtual 258, 3) := by decide +kernel
theorem dX6_digest_36 : decode cX6_digest 36 = .ok (.lstore_n 1, 1) := by decide +kernel
theorem dX6_digest_37 : decode cX6_digest 37 = .ok (.iconst 0, 1) := by decide +kernel
theorem dX6_digest_38 : decode cX6_digest 38 = .ok (.istore_n 3, 1) := by decide +kernel
theorem dX6_digest_39 : decode cX6_digest 39 = .ok (.iload_n 3, 1) := by decide +kernel
theorem dX6_digest_40 : decode cX6_digest 40 = .ok (.aload_n 0, 1) := by decide +kernel
theorem dX6_digest_41 : decode cX6_digest 41 = .ok (.getfield 157, 3) := by decide +kernel
theorem dX6_digest_44 : decode cX6_digest 44 = .ok (.if_icmp .ge 16, 3) := by decide +kernel
theorem dX6_digest_47 : decode cX6_digest 47 = .ok (.aload_n 0, 1) := by decide +kernel
theorem dX6_digest_48 : decode cX6_digest 48 = .ok (.lload_n 1, 1) := by decide +kernel
theorem dX6_digest_49 : decode cX6_digest 49 = .ok (.iload_n 3, 1) := by decide +kernel
theorem dX6_digest_50 : decode cX6_digest 50 = .ok (.invokevirtual 262, 3) := by decide +kernel
theorem dX6_digest_53 : decode cX6_digest 53 = .ok (.lstore_n 1, 1) := by decide +kernel
theorem dX6_digest_54 : decode cX6_digest 54 = .ok (.iinc 3 1, 3) := by decide +kernel
theorem dX6_digest_57 : decode cX6_digest 57 = .ok (.goto (-18), 3) := by decide +kernel
theorem dX6_digest_60 : decode cX6_digest 60 = .ok (.iconst 0, 1) := by decide +kernel
theorem dX6_digest_61 : decode cX6_digest 61 = .ok (.istore_n 3, 1) := by decide +kernel
theorem dX6_digest_62 : decode cX6_digest 62 = .ok (.iload_n 3, 1) := by decide +kernel
theorem dX6_digest_63 : decode cX6_digest 63 = .ok (.sipush 1000, 3) := by decide +kernel
theorem dX6_digest_66 : decode cX6_digest 66 = .ok (.if_icmp .gt 48, 3) := by decide +kernel
theorem dX6_digest_69 : decode cX6_digest 69 = .ok (.ldc2_w 251, 3) := by decide +kernel
theorem dX6_digest_72 : decode cX6_digest 72 = .ok (.lload_n 1, 1) := by decide +kernel
theorem dX6_digest_73 : decode cX6_digest 73 = .ok (.lmul, 1) := by decide +kernel
theorem dX6_digest_74 : decode cX6_digest 74 = .ok (.aload_n 0, 1) := by decide +kernel
theorem dX6_digest_75 : decode cX6_digest 75 = .ok (.iload_n 3, 1) := by decide +kernel
theorem dX6_digest_76 : decode cX6_digest 76 = .ok (.invokevirtual 211, 3) := by decide +kernel
theorem dX6_digest_79 : decode cX6_digest 79 = .ok (.i2l, 1) := by decide +kernel
theorem dX6_digest_80 : decode cX6_digest 80 = .ok (.ladd, 1) := by decide +kernel
theorem dX6_digest_81 : decode cX6_digest 81 = .ok (.lstore_n 1, 1) := by decide +kernel
theorem dX6_digest_82 : decode cX6_digest 82 = .ok (.ldc2_w 251, 3) := by decide +kernel
theorem dX6_digest_85 : decode cX6_digest 85 = .ok (.lload_n 1, 1) := by decide +kernel
theorem dX6_digest_86 : decode cX6_digest 86 = .ok (.lmul, 1) := by decide +kernel
theorem dX6_digest_87 : decode cX6_digest 87 = .ok (.aload_n 0, 1) := by decide +kernel
theorem dX6_digest_88 : decode cX6_digest 88 = .ok (.iload_n 3, 1) := by decide +kernel
theorem dX6_digest_89 : decode cX6_digest 89 = .ok (.iconst 0, 1) := by decide +kernel
theorem dX6_digest_90 : decode cX6_digest 90 = .ok (.invokevirtual 149, 3) := by decide +kernel
theorem dX6_digest_93 : decode cX6_digest 93 = .ok (.ladd, 1) := by decide +kernel
theorem dX6_digest_94 : decode cX6_digest 94 = .ok (.lstore_n 1, 1) := by decide +kernel
theorem dX6_digest_95 : decode cX6_digest 95 = .ok (.ldc2_w 251, 3) := by decide +kernel
theorem dX6_digest_98 : decode cX6_digest 98 = .ok (.lload_n 1, 1) := by decide +kernel
theorem dX6_digest_99 : decode cX6_digest 99 = .ok (.lmul, 1) := by decide +kernel
theorem dX6_digest_100 : decode cX6_digest 100 = .ok (.aload_n 0, 1) := by decide +kernel
theorem dX6_digest_101 : decode cX6_digest 101 = .ok (.iload_n 3, 1) := by decide +kernel
theorem dX6_digest_102 : decode cX6_digest 102 = .ok (.iconst 1, 1) := by decide +kernel
theorem dX6_digest_103 : decode cX6_digest 103 = .ok (.invokevirtual 149, 3) := by decide +kernel
theorem dX6_digest_106 : decode cX6_digest 106 = .ok (.ladd, 1) := by decide +kernel
theorem dX6_digest_107 : decode cX6_digest 107 = .ok (.lstore_n 1, 1) := by decide +kernel
theorem dX6_digest_108 : decode cX6_digest 108 = .ok (.iinc 3 50, 3) := by decide +kernel
theorem dX6_digest_111 : decode cX6_digest 111 = .ok (.goto (-49), 3) := by decide +kernel
theorem dX6_digest_114 : decode cX6_digest 114 = .ok (.iconst 0, 1) := by decide +kernel
theorem dX6_digest_115 : decode cX6_digest 115 = .ok (.istore_n 3, 1) := by decide +kernel
theorem dX6_digest_116 : decode cX6_digest 116 = .ok (.iload_n 3, 1) := by decide +kernel
theorem dX6_digest_117 : decode cX6_digest 117 = .ok (.iconst 3, 1) := by decide +kernel
theorem dX6_digest_118 : decode cX6_digest 118 = .ok (.if_icmp .ge 37, 3) := by decide +kernel
theorem dX6_digest_121 : decode cX6_digest 121 = .ok (.ldc2_w 251, 3) := by decide +kernel
theorem dX6_digest_124 : decode cX6_digest 124 = .ok (.lload_n 1, 1) := by decide +kernel
theorem dX6_digest_125 : decode cX6_digest 125 = .ok (.lmul, 1) := by decide +kernel
theorem dX6_digest_126 : decode cX6_digest 126 = .ok (.aload_n 0, 1) := by decide +kernel
theorem dX6_digest_127 : decode cX6_digest 127 = .ok (.iload_n 3, 1) := by decide +kernel
theorem dX6_digest_128 : decode cX6_digest 128 = .ok (.iconst 0, 1) := by decide +kernel
theorem dX6_digest_129 : decode cX6_digest 129 = .ok (.invokevirtual 217, 3) := by decide +kernel
theorem dX6_digest_132 : decode cX6_digest 132 = .ok (.i2l, 1) := by decide +kernel
theorem dX6_digest_133 : decode cX6_digest 133 = .ok (.ladd, 1) := by decide +kernel
theorem dX6_digest_134 : decode cX6_digest 134 = .ok (.lstore_n 1, 1) := by decide +kernel
theorem dX6_digest_135 : decode cX6_digest 135 = .ok (.ldc2_w 251, 3) := by decide +kernel
theorem dX6_digest_138 : decode cX6_digest 138 = .ok (.lload_n 1, 1) := by decide +kernel
theorem dX6_digest_139 : decode cX6_digest 139 = .ok (.lmul, 1) := by decide +kernel
theorem dX6_digest_140 : decode cX6_digest 140 = .ok (.aload_n 0, 1) := by decide +kernel
theorem dX6_digest_141 : decode cX6_digest 141 = .ok (.iload_n 3, 1) := by decide +kernel
theorem dX6_digest_142 : decode cX6_digest 142 = .ok (.iconst 2, 1) := by decide +kernel
theorem dX6_digest_143 : decode cX6_digest 143 = .ok (.invokevirtual 217, 3) := by decide +kernel
theorem dX6_digest_146 : decode cX6_digest 146 = .ok (.i2l, 1) := by decide +kernel
theorem dX6_digest_147 : decode cX6_digest 147 = .ok (.ladd, 1) := by decide +kernel
theorem dX6_digest_148 : decode cX6_digest 148 = .ok (.lstore_n 1, 1) := by decide +kernel
theorem dX6_digest_149 : decode cX6_digest 149 = .ok (.iinc 3 1, 3) := by decide +kernel
theorem dX6_digest_152 : decode cX6_digest 152 = .ok (.goto (-36), 3) := by decide +kernel
theorem dX6_digest_155 : decode cX6_digest 155 = .ok (.ldc2_w 251, 3) := by decide +kernel
theorem dX6_digest_158 : decode cX6_digest 158 = .ok (.lload_n 1, 1) := by decide +kernel
theorem dX6_digest_159 : decode cX6_digest 159 = .ok (.lmul, 1) := by decide +kernel
theorem dX6_digest_160 : decode cX6_digest 160 = .ok (.aload_n 0, 1) := by decide +kernel
theorem dX6_digest_161 : decode cX6_digest 161 = .ok (.invokevirtual 223, 3) := by decide +kernel
theorem dX6_digest_164 : decode cX6_digest 164 = .ok (.i2l, 1) := by decide +kernel
theorem dX6_digest_165 : decode cX6_digest 165 = .ok (.ladd, 1) := by decide +kernel
theorem dX6_digest_166 : decode cX6_digest 166 = .ok (.lstore_n 1, 1) := by decide +kernel
theorem dX6_digest_167 : decode cX6_digest 167 = .ok (.ldc2_w 251, 3) := by decide +kernel
theorem dX6_digest_170 : decode cX6_digest 170 = .ok (.lload_n 1, 1) := by decide +kernel
theorem dX6_digest_171 : decode cX6_digest 171 = .ok (.lmul, 1) := by decide +kernel
theorem dX6_digest_172 : decode cX6_digest 172 = .ok (.aload_n 0, 1) := by decide +kernel
theorem dX6_digest_173 : decode cX6_digest 173 = .ok (.invokevirtual 228, 3) := by decide +kernel
theorem dX6_digest_176 : decode cX6_digest 176 = .ok (.i2l, 1) := by decide +kernel
theorem dX6_digest_177 : decode cX6_digest 177 = .ok (.ladd, 1) := by decide +kernel
theorem dX6_digest_178 : decode cX6_digest 178 = .ok (.lreturn, 1) := by decide +kernel
