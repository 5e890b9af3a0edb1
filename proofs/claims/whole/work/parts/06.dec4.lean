theorem dX5_rate_114 : decode cX5_rate 114 = .ok (.invokestatic 129, 3) := by decide +kernel
theorem dX5_rate_117 : decode cX5_rate 117 = .ok (.l2i, 1) := by decide +kernel
theorem dX5_rate_118 : decode cX5_rate 118 = .ok (.istore 6, 2) := by decide +kernel
theorem dX5_rate_120 : decode cX5_rate 120 = .ok (.iload_n 3, 1) := by decide +kernel
theorem dX5_rate_121 : decode cX5_rate 121 = .ok (.ifCond .ne 11, 3) := by decide +kernel
theorem dX5_rate_124 : decode cX5_rate 124 = .ok (.iload 5, 2) := by decide +kernel
theorem dX5_rate_126 : decode cX5_rate 126 = .ok (.iload 6, 2) := by decide +kernel
theorem dX5_rate_128 : decode cX5_rate 128 = .ok (.idiv, 1) := by decide +kernel
theorem dX5_rate_129 : decode cX5_rate 129 = .ok (.goto 8, 3) := by decide +kernel
theorem dX5_rate_132 : decode cX5_rate 132 = .ok (.iload 4, 2) := by decide +kernel
theorem dX5_rate_134 : decode cX5_rate 134 = .ok (.iload 6, 2) := by decide +kernel
theorem dX5_rate_136 : decode cX5_rate 136 = .ok (.idiv, 1) := by decide +kernel
theorem dX5_rate_137 : decode cX5_rate 137 = .ok (.ireturn, 1) := by decide +kernel
set_option maxRecDepth 20000 in
theorem ggX5_delaysOf_X5_counts : GoodIn wsX5_delaysOf wsX5_counts := goodIn_r _ [8, 9, 2, 10, 11, 12, 13, 14, 15, 16, 17, 18, 19, 20, 21, 22, 23, 24, 25, 26, 27, 28, 29, 30] (by decide +kernel) (by decide +kernel)
set_option maxRecDepth 20000 in
theorem gX5_delaysOf_X5_counts : GoodIn wsX5_delaysOf (wsV RX5 123 RX5 yX5_counts wsX5_counts) := goodIn_app (goodIn_of _ (by decide +kernel)) ggX5_delaysOf_X5_counts
theorem dX5_delaysOf_0 : decode cX5_delaysOf 0 = .ok (.iconst 0, 1) := by decide +kernel
theorem dX5_delaysOf_1 : decode cX5_delaysOf 1 = .ok (.istore_n 3, 1) := by decide +kernel
theorem dX5_delaysOf_2 : decode cX5_delaysOf 2 = .ok (.iconst 0, 1) := by decide +kernel
theorem dX5_delaysOf_3 : decode cX5_delaysOf 3 = .ok (.istore 4, 2) := by decide +kernel
theorem dX5_delaysOf_5 : decode cX5_delaysOf 5 = .ok (.iload 4, 2) := by decide +kernel
theorem dX5_delaysOf_7 : decode cX5_delaysOf 7 = .ok (.aload_n 0, 1) := by decide +kernel
theorem dX5_delaysOf_8 : decode cX5_delaysOf 8 = .ok (.getfield 102, 3) := by decide +kernel
theorem dX5_delaysOf_11 : decode cX5_delaysOf 11 = .ok (.if_icmp .ge 60, 3) := by decide +kernel
theorem dX5_delaysOf_14 : decode cX5_delaysOf 14 = .ok (.iload_n 3, 1) := by decide +kernel
theorem dX5_delaysOf_15 : decode cX5_delaysOf 15 = .ok (.aload_n 0, 1) := by decide +kernel
theorem dX5_delaysOf_16 : decode cX5_delaysOf 16 = .ok (.iload 4, 2) := by decide +kernel
theorem dX5_delaysOf_18 : decode cX5_delaysOf 18 = .ok (.iload_n 1, 1) := by decide +kernel
theorem dX5_delaysOf_19 : decode cX5_delaysOf 19 = .ok (.invokevirtual 123, 3) := by decide +kernel
theorem dX5_delaysOf_22 : decode cX5_delaysOf 22 = .ok (.ifCond .eq 40, 3) := by decide +kernel
theorem dX5_delaysOf_25 : decode cX5_delaysOf 25 = .ok (.aload_n 0, 1) := by decide +kernel
theorem dX5_delaysOf_26 : decode cX5_delaysOf 26 = .ok (.getfield 41, 3) := by decide +kernel
theorem dX5_delaysOf_29 : decode cX5_delaysOf 29 = .ok (.iload 4, 2) := by decide +kernel
theorem dX5_delaysOf_31 : decode cX5_delaysOf 31 = .ok (.iaload, 1) := by decide +kernel
theorem dX5_delaysOf_32 : decode cX5_delaysOf 32 = .ok (.aload_n 0, 1) := by decide +kernel
theorem dX5_delaysOf_33 : decode cX5_delaysOf 33 = .ok (.getfield 38, 3) := by decide +kernel
theorem dX5_delaysOf_36 : decode cX5_delaysOf 36 = .ok (.iload 4, 2) := by decide +kernel
theorem dX5_delaysOf_38 : decode cX5_delaysOf 38 = .ok (.iaload, 1) := by decide +kernel
theorem dX5_delaysOf_39 : decode cX5_delaysOf 39 = .ok (.isub, 1) := by decide +kernel
theorem dX5_delaysOf_40 : decode cX5_delaysOf 40 = .ok (.iload_n 2, 1) := by decide +kernel
theorem dX5_delaysOf_41 : decode cX5_delaysOf 41 = .ok (.if_icmp .ne 21, 3) := by decide +kernel
theorem dX5_delaysOf_44 : decode cX5_delaysOf 44 = .ok (.aload_n 0, 1) := by decide +kernel
theorem dX5_delaysOf_45 : decode cX5_delaysOf 45 = .ok (.getfield 38, 3) := by decide +kernel
theorem dX5_delaysOf_48 : decode cX5_delaysOf 48 = .ok (.iload 4, 2) := by decide +kernel
theorem dX5_delaysOf_50 : decode cX5_delaysOf 50 = .ok (.iaload, 1) := by decide +kernel
theorem dX5_delaysOf_51 : decode cX5_delaysOf 51 = .ok (.iload_n 1, 1) := by decide +kernel
theorem dX5_delaysOf_52 : decode cX5_delaysOf 52 = .ok (.bipush 11, 2) := by decide +kernel
theorem dX5_delaysOf_54 : decode cX5_delaysOf 54 = .ok (.isub, 1) := by decide +kernel
theorem dX5_delaysOf_55 : decode cX5_delaysOf 55 = .ok (.if_icmp .gt 7, 3) := by decide +kernel
theorem dX5_delaysOf_58 : decode cX5_delaysOf 58 = .ok (.iconst 1, 1) := by decide +kernel
theorem dX5_delaysOf_59 : decode cX5_delaysOf 59 = .ok (.goto 4, 3) := by decide +kernel
theorem dX5_delaysOf_62 : decode cX5_delaysOf 62 = .ok (.iconst 0, 1) := by decide +kernel
theorem dX5_delaysOf_63 : decode cX5_delaysOf 63 = .ok (.iadd, 1) := by decide +kernel
theorem dX5_delaysOf_64 : decode cX5_delaysOf 64 = .ok (.istore_n 3, 1) := by decide +kernel
theorem dX5_delaysOf_65 : decode cX5_delaysOf 65 = .ok (.iinc 4 1, 3) := by decide +kernel
theorem dX5_delaysOf_68 : decode cX5_delaysOf 68 = .ok (.goto (-63), 3) := by decide +kernel
theorem dX5_delaysOf_71 : decode cX5_delaysOf 71 = .ok (.iload_n 3, 1) := by decide +kernel
theorem dX5_delaysOf_72 : decode cX5_delaysOf 72 = .ok (.ireturn, 1) := by decide +kernel
set_option maxRecDepth 20000 in
theorem ggX5_delays_X5_isMonth : GoodIn wsX5_delays wsX5_isMonth := goodIn_r _ [5, 6, 7, 8, 4, 9] (by decide +kernel) (by decide +kernel)
set_option maxRecDepth 20000 in
theorem gX5_delays_X5_isMonth : GoodIn wsX5_delays (va_wsS RX5 91 yX5_isMonth wsX5_isMonth) := goodIn_app (goodIn_of _ (by decide +kernel)) ggX5_delays_X5_isMonth
set_option maxRecDepth 20000 in
theorem ggX5_delays_X5_in : GoodIn wsX5_delays wsX5_in := goodIn_r _ [9] (by decide +kernel) (by decide +kernel)
set_option maxRecDepth 20000 in
theorem gX5_delays_X5_in : GoodIn wsX5_delays (va_wsS RX5 66 yX5_in wsX5_in) := goodIn_app (goodIn_of _ (by decide +kernel)) ggX5_delays_X5_in
set_option maxRecDepth 20000 in
theorem ggX5_delays_X5_delaysOf : GoodIn wsX5_delays wsX5_delaysOf := goodIn_r _ [13, 14, 15, 16, 17, 18, 19, 4, 20, 21, 22, 23, 24, 25, 26, 27, 28, 29, 30, 31, 32, 33, 34, 35, 36, 37, 38, 39, 40, 41, 42] (by decide +kernel) (by decide +kernel)
set_option maxRecDepth 20000 in
theorem gX5_delays_X5_delaysOf : GoodIn wsX5_delays (wsV RX5 135 RX5 yX5_delaysOf wsX5_delaysOf) := goodIn_app (goodIn_of _ (by decide +kernel)) ggX5_delays_X5_delaysOf
theorem dX5_delays_0 : decode cX5_delays 0 = .ok (.iload_n 1, 1) := by decide +kernel
theorem dX5_delays_1 : decode cX5_delays 1 = .ok (.invokestatic 91, 3) := by decide +kernel
theorem dX5_delays_4 : decode cX5_delays 4 = .ok (.ifCond .eq 15, 3) := by decide +kernel
theorem dX5_delays_7 : decode cX5_delays 7 = .ok (.iload_n 2, 1) := by decide +kernel
theorem dX5_delays_8 : decode cX5_delays 8 = .ok (.i2l, 1) := by decide +kernel
theorem dX5_delays_9 : decode cX5_delays 9 = .ok (.lconst 0, 1) := by decide +kernel
theorem dX5_delays_10 : decode cX5_delays 10 = .ok (.ldc2_w 133, 3) := by decide +kernel
theorem dX5_delays_13 : decode cX5_delays 13 = .ok (.invokestatic 66, 3) := by decide +kernel
theorem dX5_delays_16 : decode cX5_delays 16 = .ok (.ifCond .ne 8, 3) := by decide +kernel
theorem dX5_delays_19 : decode cX5_delays 19 = .ok (.bipush (-2), 2) := by decide +kernel
theorem dX5_delays_21 : decode cX5_delays 21 = .ok (.goto 9, 3) := by decide +kernel
theorem dX5_delays_24 : decode cX5_delays 24 = .ok (.aload_n 0, 1) := by decide +kernel
theorem dX5_delays_25 : decode cX5_delays 25 = .ok (.iload_n 1, 1) := by decide +kernel
theorem dX5_delays_26 : decode cX5_delays 26 = .ok (.iload_n 2, 1) := by decide +kernel
theorem dX5_delays_27 : decode cX5_delays 27 = .ok (.invokevirtual 135, 3) := by decide +kernel
theorem dX5_delays_30 : decode cX5_delays 30 = .ok (.ireturn, 1) := by decide +kernel
set_option maxRecDepth 20000 in
theorem ggX5_undone_X5_isMonth : GoodIn wsX5_undone wsX5_isMonth := goodIn_r _ [6, 7, 8, 9, 5, 10] (by decide +kernel) (by decide +kernel)
set_option maxRecDepth 20000 in
theorem gX5_undone_X5_isMonth : GoodIn wsX5_undone (va_wsS RX5 91 yX5_isMonth wsX5_isMonth) := goodIn_app (goodIn_of _ (by decide +kernel)) ggX5_undone_X5_isMonth
set_option maxRecDepth 20000 in
theorem ggX5_undone_X5_counts : GoodIn wsX5_undone wsX5_counts := goodIn_r _ [14, 15, 16, 21, 22, 23, 24, 25, 26, 27, 28, 29, 30, 31, 32, 33, 34, 35, 36, 37, 38, 39, 40, 41] (by decide +kernel) (by decide +kernel)
set_option maxRecDepth 20000 in
theorem gX5_undone_X5_counts : GoodIn wsX5_undone (wsV RX5 123 RX5 yX5_counts wsX5_counts) := goodIn_app (goodIn_of _ (by decide +kernel)) ggX5_undone_X5_counts
set_option maxRecDepth 20000 in
theorem ggX5_undone_X5_delaysOf : GoodIn wsX5_undone wsX5_delaysOf := goodIn_r _ [20, 1, 16, 2, 11, 12, 13, 5, 14, 15, 21, 22, 23, 24, 25, 26, 27, 28, 29, 30, 31, 32, 33, 34, 35, 36, 37, 38, 39, 40, 41] (by decide +kernel) (by decide +kernel)
set_option maxRecDepth 20000 in
theorem gX5_undone_X5_delaysOf : GoodIn wsX5_undone (wsV RX5 135 RX5 yX5_delaysOf wsX5_delaysOf) := goodIn_app (goodIn_of _ (by decide +kernel)) ggX5_undone_X5_delaysOf
theorem dX5_undone_0 : decode cX5_undone 0 = .ok (.iload_n 1, 1) := by decide +kernel
theorem dX5_undone_1 : decode cX5_undone 1 = .ok (.invokestatic 91, 3) := by decide +kernel
theorem dX5_undone_4 : decode cX5_undone 4 = .ok (.ifCond .eq 15, 3) := by decide +kernel
theorem dX5_undone_7 : decode cX5_undone 7 = .ok (.iload_n 2, 1) := by decide +kernel
theorem dX5_undone_8 : decode cX5_undone 8 = .ok (.invokestatic 91, 3) := by decide +kernel
theorem dX5_undone_11 : decode cX5_undone 11 = .ok (.ifCond .eq 8, 3) := by decide +kernel
theorem dX5_undone_14 : decode cX5_undone 14 = .ok (.iload_n 1, 1) := by decide +kernel
theorem dX5_undone_15 : decode cX5_undone 15 = .ok (.iload_n 2, 1) := by decide +kernel
theorem dX5_undone_16 : decode cX5_undone 16 = .ok (.if_icmp .le 6, 3) := by decide +kernel
theorem dX5_undone_19 : decode cX5_undone 19 = .ok (.bipush (-2), 2) := by decide +kernel
theorem dX5_undone_21 : decode cX5_undone 21 = .ok (.ireturn, 1) := by decide +kernel
theorem dX5_undone_22 : decode cX5_undone 22 = .ok (.iconst 0, 1) := by decide +kernel
theorem dX5_undone_23 : decode cX5_undone 23 = .ok (.istore_n 3, 1) := by decide +kernel
theorem dX5_undone_24 : decode cX5_undone 24 = .ok (.iconst 0, 1) := by decide +kernel
theorem dX5_undone_25 : decode cX5_undone 25 = .ok (.istore 4, 2) := by decide +kernel
theorem dX5_undone_27 : decode cX5_undone 27 = .ok (.iload 4, 2) := by decide +kernel
theorem dX5_undone_29 : decode cX5_undone 29 = .ok (.aload_n 0, 1) := by decide +kernel
theorem dX5_undone_30 : decode cX5_undone 30 = .ok (.getfield 102, 3) := by decide +kernel
theorem dX5_undone_33 : decode cX5_undone 33 = .ok (.if_icmp .ge 38, 3) := by decide +kernel
theorem dX5_undone_36 : decode cX5_undone 36 = .ok (.iload_n 3, 1) := by decide +kernel
theorem dX5_undone_37 : decode cX5_undone 37 = .ok (.aload_n 0, 1) := by decide +kernel
theorem dX5_undone_38 : decode cX5_undone 38 = .ok (.iload 4, 2) := by decide +kernel
theorem dX5_undone_40 : decode cX5_undone 40 = .ok (.iload_n 2, 1) := by decide +kernel
theorem dX5_undone_41 : decode cX5_undone 41 = .ok (.invokevirtual 123, 3) := by decide +kernel
theorem dX5_undone_44 : decode cX5_undone 44 = .ok (.ifCond .eq 18, 3) := by decide +kernel
theorem dX5_undone_47 : decode cX5_undone 47 = .ok (.aload_n 0, 1) := by decide +kernel
theorem dX5_undone_48 : decode cX5_undone 48 = .ok (.getfield 38, 3) := by decide +kernel
theorem dX5_undone_51 : decode cX5_undone 51 = .ok (.iload 4, 2) := by decide +kernel
theorem dX5_undone_53 : decode cX5_undone 53 = .ok (.iaload, 1) := by decide +kernel
theorem dX5_undone_54 : decode cX5_undone 54 = .ok (.iload_n 1, 1) := by decide +kernel
theorem dX5_undone_55 : decode cX5_undone 55 = .ok (.if_icmp .ne 7, 3) := by decide +kernel
theorem dX5_undone_58 : decode cX5_undone 58 = .ok (.iconst 1, 1) := by decide +kernel
theorem dX5_undone_59 : decode cX5_undone 59 = .ok (.goto 4, 3) := by decide +kernel
theorem dX5_undone_62 : decode cX5_undone 62 = .ok (.iconst 0, 1) := by decide +kernel
theorem dX5_undone_63 : decode cX5_undone 63 = .ok (.iadd, 1) := by decide +kernel
theorem dX5_undone_64 : decode cX5_undone 64 = .ok (.istore_n 3, 1) := by decide +kernel
theorem dX5_undone_65 : decode cX5_undone 65 = .ok (.iinc 4 1, 3) := by decide +kernel
theorem dX5_undone_68 : decode cX5_undone 68 = .ok (.goto (-41), 3) := by decide +kernel
theorem dX5_undone_71 : decode cX5_undone 71 = .ok (.iload_n 2, 1) := by decide +kernel
theorem dX5_undone_72 : decode cX5_undone 72 = .ok (.iload_n 1, 1) := by decide +kernel
theorem dX5_undone_73 : decode cX5_undone 73 = .ok (.isub, 1) := by decide +kernel
theorem dX5_undone_74 : decode cX5_undone 74 = .ok (.bipush 11, 2) := by decide +kernel
theorem dX5_undone_76 : decode cX5_undone 76 = .ok (.if_icmp .lt 5, 3) := by decide +kernel
theorem dX5_undone_79 : decode cX5_undone 79 = .ok (.iload_n 3, 1) := by decide +kernel
theorem dX5_undone_80 : decode cX5_undone 80 = .ok (.ireturn, 1) := by decide +kernel
theorem dX5_undone_81 : decode cX5_undone 81 = .ok (.iconst 0, 1) := by decide +kernel
theorem dX5_undone_82 : decode cX5_undone 82 = .ok (.istore 4, 2) := by decide +kernel
theorem dX5_undone_84 : decode cX5_undone 84 = .ok (.iconst 0, 1) := by decide +kernel
theorem dX5_undone_85 : decode cX5_undone 85 = .ok (.istore 5, 2) := by decide +kernel
theorem dX5_undone_87 : decode cX5_undone 87 = .ok (.iconst 0, 1) := by decide +kernel
theorem dX5_undone_88 : decode cX5_undone 88 = .ok (.istore 6, 2) := by decide +kernel
theorem dX5_undone_90 : decode cX5_undone 90 = .ok (.iload 6, 2) := by decide +kernel
theorem dX5_undone_92 : decode cX5_undone 92 = .ok (.bipush 12, 2) := by decide +kernel
theorem dX5_undone_94 : decode cX5_undone 94 = .ok (.if_icmp .ge 45, 3) := by decide +kernel
theorem dX5_undone_97 : decode cX5_undone 97 = .ok (.iload 4, 2) := by decide +kernel
theorem dX5_undone_99 : decode cX5_undone 99 = .ok (.aload_n 0, 1) := by decide +kernel
theorem dX5_undone_100 : decode cX5_undone 100 = .ok (.iload_n 2, 1) := by decide +kernel
theorem dX5_undone_101 : decode cX5_undone 101 = .ok (.iload 6, 2) := by decide +kernel
theorem dX5_undone_103 : decode cX5_undone 103 = .ok (.invokevirtual 135, 3) := by decide +kernel
theorem dX5_undone_106 : decode cX5_undone 106 = .ok (.iadd, 1) := by decide +kernel
theorem dX5_undone_107 : decode cX5_undone 107 = .ok (.istore 4, 2) := by decide +kernel
theorem dX5_undone_109 : decode cX5_undone 109 = .ok (.iload 5, 2) := by decide +kernel
theorem dX5_undone_111 : decode cX5_undone 111 = .ok (.iload 6, 2) := by decide +kernel
theorem dX5_undone_113 : decode cX5_undone 113 = .ok (.iload_n 2, 1) := by decide +kernel
theorem dX5_undone_114 : decode cX5_undone 114 = .ok (.iload_n 1, 1) := by decide +kernel
theorem dX5_undone_115 : decode cX5_undone 115 = .ok (.isub, 1) := by decide +kernel
theorem dX5_undone_116 : decode cX5_undone 116 = .ok (.if_icmp .gt 13, 3) := by decide +kernel
theorem dX5_undone_119 : decode cX5_undone 119 = .ok (.aload_n 0, 1) := by decide +kernel
theorem dX5_undone_120 : decode cX5_undone 120 = .ok (.iload_n 2, 1) := by decide +kernel
theorem dX5_undone_121 : decode cX5_undone 121 = .ok (.iload 6, 2) := by decide +kernel
theorem dX5_undone_123 : decode cX5_undone 123 = .ok (.invokevirtual 135, 3) := by decide +kernel
theorem dX5_undone_126 : decode cX5_undone 126 = .ok (.goto 4, 3) := by decide +kernel
theorem dX5_undone_129 : decode cX5_undone 129 = .ok (.iconst 0, 1) := by decide +kernel
theorem dX5_undone_130 : decode cX5_undone 130 = .ok (.iadd, 1) := by decide +kernel
theorem dX5_undone_131 : decode cX5_undone 131 = .ok (.istore 5, 2) := by decide +kernel
theorem dX5_undone_133 : decode cX5_undone 133 = .ok (.iinc 6 1, 3) := by decide +kernel
theorem dX5_undone_136 : decode cX5_undone 136 = .ok (.goto (-46), 3) := by decide +kernel
theorem dX5_undone_139 : decode cX5_undone 139 = .ok (.iload 5, 2) := by decide +kernel
theorem dX5_undone_141 : decode cX5_undone 141 = .ok (.ifCond .ne 7, 3) := by decide +kernel
theorem dX5_undone_144 : decode cX5_undone 144 = .ok (.iconst (-1), 1) := by decide +kernel
theorem dX5_undone_145 : decode cX5_undone 145 = .ok (.goto 10, 3) := by decide +kernel
theorem dX5_undone_148 : decode cX5_undone 148 = .ok (.iload_n 3, 1) := by decide +kernel
theorem dX5_undone_149 : decode cX5_undone 149 = .ok (.iload 4, 2) := by decide +kernel
theorem dX5_undone_151 : decode cX5_undone 151 = .ok (.imul, 1) := by decide +kernel
theorem dX5_undone_152 : decode cX5_undone 152 = .ok (.iload 5, 2) := by decide +kernel
theorem dX5_undone_154 : decode cX5_undone 154 = .ok (.idiv, 1) := by decide +kernel
theorem dX5_undone_155 : decode cX5_undone 155 = .ok (.ireturn, 1) := by decide +kernel
set_option maxRecDepth 20000 in
theorem ggX5_hasClaim_X5_counts : GoodIn wsX5_hasClaim wsX5_counts := goodIn_r _ [8, 9, 10, 11, 12, 13, 14, 15, 16, 17, 18, 19, 20, 21, 22, 23, 24, 25, 26, 27, 28, 29, 30, 31] (by decide +kernel) (by decide +kernel)
set_option maxRecDepth 20000 in
theorem gX5_hasClaim_X5_counts : GoodIn wsX5_hasClaim (wsV RX5 123 RX5 yX5_counts wsX5_counts) := goodIn_app (goodIn_of _ (by decide +kernel)) ggX5_hasClaim_X5_counts
theorem dX5_hasClaim_0 : decode cX5_hasClaim 0 = .ok (.iconst 0, 1) := by decide +kernel
theorem dX5_hasClaim_1 : decode cX5_hasClaim 1 = .ok (.istore 4, 2) := by decide +kernel
theorem dX5_hasClaim_3 : decode cX5_hasClaim 3 = .ok (.iconst 0, 1) := by decide +kernel
theorem dX5_hasClaim_4 : decode cX5_hasClaim 4 = .ok (.istore 5, 2) := by decide +kernel
theorem dX5_hasClaim_6 : decode cX5_hasClaim 6 = .ok (.iload 5, 2) := by decide +kernel
theorem dX5_hasClaim_8 : decode cX5_hasClaim 8 = .ok (.aload_n 0, 1) := by decide +kernel
theorem dX5_hasClaim_9 : decode cX5_hasClaim 9 = .ok (.getfield 102, 3) := by decide +kernel
theorem dX5_hasClaim_12 : decode cX5_hasClaim 12 = .ok (.if_icmp .ge 53, 3) := by decide +kernel
theorem dX5_hasClaim_15 : decode cX5_hasClaim 15 = .ok (.iload 4, 2) := by decide +kernel
theorem dX5_hasClaim_17 : decode cX5_hasClaim 17 = .ok (.ifCond .ne 35, 3) := by decide +kernel
theorem dX5_hasClaim_20 : decode cX5_hasClaim 20 = .ok (.aload_n 0, 1) := by decide +kernel
theorem dX5_hasClaim_21 : decode cX5_hasClaim 21 = .ok (.iload 5, 2) := by decide +kernel
theorem dX5_hasClaim_23 : decode cX5_hasClaim 23 = .ok (.iload_n 3, 1) := by decide +kernel
theorem dX5_hasClaim_24 : decode cX5_hasClaim 24 = .ok (.invokevirtual 123, 3) := by decide +kernel
theorem dX5_hasClaim_27 : decode cX5_hasClaim 27 = .ok (.ifCond .eq 29, 3) := by decide +kernel
theorem dX5_hasClaim_30 : decode cX5_hasClaim 30 = .ok (.aload_n 0, 1) := by decide +kernel
theorem dX5_hasClaim_31 : decode cX5_hasClaim 31 = .ok (.getfield 32, 3) := by decide +kernel
theorem dX5_hasClaim_34 : decode cX5_hasClaim 34 = .ok (.iload 5, 2) := by decide +kernel
theorem dX5_hasClaim_36 : decode cX5_hasClaim 36 = .ok (.iaload, 1) := by decide +kernel
theorem dX5_hasClaim_37 : decode cX5_hasClaim 37 = .ok (.iload_n 1, 1) := by decide +kernel
theorem dX5_hasClaim_38 : decode cX5_hasClaim 38 = .ok (.if_icmp .ne 18, 3) := by decide +kernel
theorem dX5_hasClaim_41 : decode cX5_hasClaim 41 = .ok (.aload_n 0, 1) := by decide +kernel
theorem dX5_hasClaim_42 : decode cX5_hasClaim 42 = .ok (.getfield 35, 3) := by decide +kernel
theorem dX5_hasClaim_45 : decode cX5_hasClaim 45 = .ok (.iload 5, 2) := by decide +kernel
theorem dX5_hasClaim_47 : decode cX5_hasClaim 47 = .ok (.iaload, 1) := by decide +kernel
theorem dX5_hasClaim_48 : decode cX5_hasClaim 48 = .ok (.iload_n 2, 1) := by decide +kernel
theorem dX5_hasClaim_49 : decode cX5_hasClaim 49 = .ok (.if_icmp .ne 7, 3) := by decide +kernel
theorem dX5_hasClaim_52 : decode cX5_hasClaim 52 = .ok (.iconst 1, 1) := by decide +kernel
theorem dX5_hasClaim_53 : decode cX5_hasClaim 53 = .ok (.goto 4, 3) := by decide +kernel
theorem dX5_hasClaim_56 : decode cX5_hasClaim 56 = .ok (.iconst 0, 1) := by decide +kernel
theorem dX5_hasClaim_57 : decode cX5_hasClaim 57 = .ok (.istore 4, 2) := by decide +kernel
theorem dX5_hasClaim_59 : decode cX5_hasClaim 59 = .ok (.iinc 5 1, 3) := by decide +kernel
theorem dX5_hasClaim_62 : decode cX5_hasClaim 62 = .ok (.goto (-56), 3) := by decide +kernel
theorem dX5_hasClaim_65 : decode cX5_hasClaim 65 = .ok (.iload 4, 2) := by decide +kernel
theorem dX5_hasClaim_67 : decode cX5_hasClaim 67 = .ok (.ireturn, 1) := by decide +kernel
set_option maxRecDepth 20000 in
theorem ggX5_choose_X5_in : GoodIn wsX5_choose wsX5_in := goodIn_r _ [5] (by decide +kernel) (by decide +kernel)
set_option maxRecDepth 20000 in
theorem gX5_choose_X5_in : GoodIn wsX5_choose (va_wsS RX5 66 yX5_in wsX5_in) := goodIn_app (goodIn_of _ (by decide +kernel)) ggX5_choose_X5_in
theorem dX5_choose_0 : decode cX5_choose 0 = .ok (.iload_n 2, 1) := by decide +kernel
theorem dX5_choose_1 : decode cX5_choose 1 = .ok (.i2l, 1) := by decide +kernel
theorem dX5_choose_2 : decode cX5_choose 2 = .ok (.lconst 0, 1) := by decide +kernel
theorem dX5_choose_3 : decode cX5_choose 3 = .ok (.iload_n 1, 1) := by decide +kernel
theorem dX5_choose_4 : decode cX5_choose 4 = .ok (.i2l, 1) := by decide +kernel
theorem dX5_choose_5 : decode cX5_choose 5 = .ok (.invokestatic 66, 3) := by decide +kernel
theorem dX5_choose_8 : decode cX5_choose 8 = .ok (.ifCond .eq 17, 3) := by decide +kernel
theorem dX5_choose_11 : decode cX5_choose 11 = .ok (.aload_n 0, 1) := by decide +kernel
theorem dX5_choose_12 : decode cX5_choose 12 = .ok (.getfield 50, 3) := by decide +kernel
theorem dX5_choose_15 : decode cX5_choose 15 = .ok (.bipush 61, 2) := by decide +kernel
theorem dX5_choose_17 : decode cX5_choose 17 = .ok (.iload_n 1, 1) := by decide +kernel
theorem dX5_choose_18 : decode cX5_choose 18 = .ok (.imul, 1) := by decide +kernel
theorem dX5_choose_19 : decode cX5_choose 19 = .ok (.iload_n 2, 1) := by decide +kernel
theorem dX5_choose_20 : decode cX5_choose 20 = .ok (.iadd, 1) := by decide +kernel
theorem dX5_choose_21 : decode cX5_choose 21 = .ok (.laload, 1) := by decide +kernel
theorem dX5_choose_22 : decode cX5_choose 22 = .ok (.goto 4, 3) := by decide +kernel
theorem dX5_choose_25 : decode cX5_choose 25 = .ok (.lconst 0, 1) := by decide +kernel
theorem dX5_choose_26 : decode cX5_choose 26 = .ok (.lreturn, 1) := by decide +kernel
set_option maxRecDepth 20000 in
theorem ggX5_findChance_X5_hasClaim : GoodIn wsX5_findChance wsX5_hasClaim := goodIn_r _ [9, 10, 11, 12, 13, 14, 15, 8, 16, 17, 18, 30, 31, 32, 33, 34, 35, 36, 37, 38, 39, 40, 41, 42, 43, 44, 45, 46, 47, 48, 49, 50] (by decide +kernel) (by decide +kernel)
set_option maxRecDepth 20000 in
theorem gX5_findChance_X5_hasClaim : GoodIn wsX5_findChance (wsV RX5 138 RX5 yX5_hasClaim wsX5_hasClaim) := goodIn_app (goodIn_of _ (by decide +kernel)) ggX5_findChance_X5_hasClaim
set_option maxRecDepth 20000 in
theorem ggX5_findChance_X5_choose : GoodIn wsX5_findChance wsX5_choose := goodIn_r _ [22, 23, 24, 25, 8, 26, 30, 31, 32, 33, 34, 35, 36, 37, 38, 39, 40, 41, 42, 43, 44, 45, 46, 47, 48, 49, 50] (by decide +kernel) (by decide +kernel)
set_option maxRecDepth 20000 in
theorem gX5_findChance_X5_choose : GoodIn wsX5_findChance (wsV RX5 146 RX5 yX5_choose wsX5_choose) := goodIn_app (goodIn_of _ (by decide +kernel)) ggX5_findChance_X5_choose
set_option maxRecDepth 20000 in
theorem ggX5_findChance_X5_gcd : GoodIn wsX5_findChance wsX5_gcd := goodIn_r _ [29] (by decide +kernel) (by decide +kernel)
set_option maxRecDepth 20000 in
theorem gX5_findChance_X5_gcd : GoodIn wsX5_findChance (va_wsS RX5 129 yX5_gcd wsX5_gcd) := goodIn_app (goodIn_of _ (by decide +kernel)) ggX5_findChance_X5_gcd
theorem dX5_findChance_0 : decode cX5_findChance 0 = .ok (.iconst 0, 1) := by decide +kernel
theorem dX5_findChance_1 : decode cX5_findChance 1 = .ok (.istore 4, 2) := by decide +kernel
theorem dX5_findChance_3 : decode cX5_findChance 3 = .ok (.iconst 0, 1) := by decide +kernel
theorem dX5_findChance_4 : decode cX5_findChance 4 = .ok (.istore 5, 2) := by decide +kernel
theorem dX5_findChance_6 : decode cX5_findChance 6 = .ok (.iconst 0, 1) := by decide +kernel
theorem dX5_findChance_7 : decode cX5_findChance 7 = .ok (.istore 6, 2) := by decide +kernel
theorem dX5_findChance_9 : decode cX5_findChance 9 = .ok (.iconst 0, 1) := by decide +kernel
theorem dX5_findChance_10 : decode cX5_findChance 10 = .ok (.istore 7, 2) := by decide +kernel
theorem dX5_findChance_12 : decode cX5_findChance 12 = .ok (.iload 7, 2) := by decide +kernel
theorem dX5_findChance_14 : decode cX5_findChance 14 = .ok (.aload_n 0, 1) := by decide +kernel
theorem dX5_findChance_15 : decode cX5_findChance 15 = .ok (.getfield 70, 3) := by decide +kernel
theorem dX5_findChance_18 : decode cX5_findChance 18 = .ok (.if_icmp .ge 87, 3) := by decide +kernel
theorem dX5_findChance_21 : decode cX5_findChance 21 = .ok (.aload_n 0, 1) := by decide +kernel
theorem dX5_findChance_22 : decode cX5_findChance 22 = .ok (.getfield 16, 3) := by decide +kernel
theorem dX5_findChance_25 : decode cX5_findChance 25 = .ok (.iload 7, 2) := by decide +kernel
theorem dX5_findChance_27 : decode cX5_findChance 27 = .ok (.iaload, 1) := by decide +kernel
theorem dX5_findChance_28 : decode cX5_findChance 28 = .ok (.iload_n 1, 1) := by decide +kernel
theorem dX5_findChance_29 : decode cX5_findChance 29 = .ok (.if_icmp .ne 7, 3) := by decide +kernel
theorem dX5_findChance_32 : decode cX5_findChance 32 = .ok (.iconst 1, 1) := by decide +kernel
theorem dX5_findChance_33 : decode cX5_findChance 33 = .ok (.goto 4, 3) := by decide +kernel
theorem dX5_findChance_36 : decode cX5_findChance 36 = .ok (.iconst 0, 1) := by decide +kernel
theorem dX5_findChance_37 : decode cX5_findChance 37 = .ok (.istore 8, 2) := by decide +kernel
theorem dX5_findChance_39 : decode cX5_findChance 39 = .ok (.aload_n 0, 1) := by decide +kernel
theorem dX5_findChance_40 : decode cX5_findChance 40 = .ok (.iload 7, 2) := by decide +kernel
theorem dX5_findChance_42 : decode cX5_findChance 42 = .ok (.iload_n 2, 1) := by decide +kernel
theorem dX5_findChance_43 : decode cX5_findChance 43 = .ok (.iload_n 3, 1) := by decide +kernel
theorem dX5_findChance_44 : decode cX5_findChance 44 = .ok (.invokevirtual 138, 3) := by decide +kernel
theorem dX5_findChance_47 : decode cX5_findChance 47 = .ok (.istore 9, 2) := by decide +kernel
theorem dX5_findChance_49 : decode cX5_findChance 49 = .ok (.iload 4, 2) := by decide +kernel
theorem dX5_findChance_51 : decode cX5_findChance 51 = .ok (.iload 8, 2) := by decide +kernel
theorem dX5_findChance_53 : decode cX5_findChance 53 = .ok (.ifCond .eq 7, 3) := by decide +kernel
theorem dX5_findChance_56 : decode cX5_findChance 56 = .ok (.iconst 1, 1) := by decide +kernel
theorem dX5_findChance_57 : decode cX5_findChance 57 = .ok (.goto 4, 3) := by decide +kernel
theorem dX5_findChance_60 : decode cX5_findChance 60 = .ok (.iconst 0, 1) := by decide +kernel
theorem dX5_findChance_61 : decode cX5_findChance 61 = .ok (.iadd, 1) := by decide +kernel
theorem dX5_findChance_62 : decode cX5_findChance 62 = .ok (.istore 4, 2) := by decide +kernel
theorem dX5_findChance_64 : decode cX5_findChance 64 = .ok (.iload 5, 2) := by decide +kernel
theorem dX5_findChance_66 : decode cX5_findChance 66 = .ok (.iload 8, 2) := by decide +kernel
theorem dX5_findChance_68 : decode cX5_findChance 68 = .ok (.ifCond .eq 12, 3) := by decide +kernel
theorem dX5_findChance_71 : decode cX5_findChance 71 = .ok (.iload 9, 2) := by decide +kernel
theorem dX5_findChance_73 : decode cX5_findChance 73 = .ok (.ifCond .eq 7, 3) := by decide +kernel
theorem dX5_findChance_76 : decode cX5_findChance 76 = .ok (.iconst 1, 1) := by decide +kernel
theorem dX5_findChance_77 : decode cX5_findChance 77 = .ok (.goto 4, 3) := by decide +kernel
theorem dX5_findChance_80 : decode cX5_findChance 80 = .ok (.iconst 0, 1) := by decide +kernel
theorem dX5_findChance_81 : decode cX5_findChance 81 = .ok (.iadd, 1) := by decide +kernel
theorem dX5_findChance_82 : decode cX5_findChance 82 = .ok (.istore 5, 2) := by decide +kernel
theorem dX5_findChance_84 : decode cX5_findChance 84 = .ok (.iload 6, 2) := by decide +kernel
theorem dX5_findChance_86 : decode cX5_findChance 86 = .ok (.iload 9, 2) := by decide +kernel
theorem dX5_findChance_88 : decode cX5_findChance 88 = .ok (.ifCond .eq 7, 3) := by decide +kernel
theorem dX5_findChance_91 : decode cX5_findChance 91 = .ok (.iconst 1, 1) := by decide +kernel
theorem dX5_findChance_92 : decode cX5_findChance 92 = .ok (.goto 4, 3) := by decide +kernel
theorem dX5_findChance_95 : decode cX5_findChance 95 = .ok (.iconst 0, 1) := by decide +kernel
theorem dX5_findChance_96 : decode cX5_findChance 96 = .ok (.iadd, 1) := by decide +kernel
theorem dX5_findChance_97 : decode cX5_findChance 97 = .ok (.istore 6, 2) := by decide +kernel
theorem dX5_findChance_99 : decode cX5_findChance 99 = .ok (.iinc 7 1, 3) := by decide +kernel
theorem dX5_findChance_102 : decode cX5_findChance 102 = .ok (.goto (-90), 3) := by decide +kernel
theorem dX5_findChance_105 : decode cX5_findChance 105 = .ok (.aload_n 0, 1) := by decide +kernel
theorem dX5_findChance_106 : decode cX5_findChance 106 = .ok (.lconst 0, 1) := by decide +kernel
theorem dX5_findChance_107 : decode cX5_findChance 107 = .ok (.putfield 142, 3) := by decide +kernel
theorem dX5_findChance_110 : decode cX5_findChance 110 = .ok (.iload 5, 2) := by decide +kernel
theorem dX5_findChance_112 : decode cX5_findChance 112 = .ok (.istore 7, 2) := by decide +kernel
theorem dX5_findChance_114 : decode cX5_findChance 114 = .ok (.iload 7, 2) := by decide +kernel
theorem dX5_findChance_116 : decode cX5_findChance 116 = .ok (.iload 4, 2) := by decide +kernel
theorem dX5_findChance_118 : decode cX5_findChance 118 = .ok (.if_icmp .gt 43, 3) := by decide +kernel
theorem dX5_findChance_121 : decode cX5_findChance 121 = .ok (.aload_n 0, 1) := by decide +kernel
theorem dX5_findChance_122 : decode cX5_findChance 122 = .ok (.dup, 1) := by decide +kernel
theorem dX5_findChance_123 : decode cX5_findChance 123 = .ok (.getfield 142, 3) := by decide +kernel
theorem dX5_findChance_126 : decode cX5_findChance 126 = .ok (.aload_n 0, 1) := by decide +kernel
theorem dX5_findChance_127 : decode cX5_findChance 127 = .ok (.iload 6, 2) := by decide +kernel
theorem dX5_findChance_129 : decode cX5_findChance 129 = .ok (.iload 7, 2) := by decide +kernel
theorem dX5_findChance_131 : decode cX5_findChance 131 = .ok (.invokevirtual 146, 3) := by decide +kernel
theorem dX5_findChance_134 : decode cX5_findChance 134 = .ok (.aload_n 0, 1) := by decide +kernel
theorem dX5_findChance_135 : decode cX5_findChance 135 = .ok (.aload_n 0, 1) := by decide +kernel
theorem dX5_findChance_136 : decode cX5_findChance 136 = .ok (.getfield 70, 3) := by decide +kernel
theorem dX5_findChance_139 : decode cX5_findChance 139 = .ok (.iload 6, 2) := by decide +kernel
theorem dX5_findChance_141 : decode cX5_findChance 141 = .ok (.isub, 1) := by decide +kernel
theorem dX5_findChance_142 : decode cX5_findChance 142 = .ok (.iload 4, 2) := by decide +kernel
theorem dX5_findChance_144 : decode cX5_findChance 144 = .ok (.iload 7, 2) := by decide +kernel
theorem dX5_findChance_146 : decode cX5_findChance 146 = .ok (.isub, 1) := by decide +kernel
theorem dX5_findChance_147 : decode cX5_findChance 147 = .ok (.invokevirtual 146, 3) := by decide +kernel
theorem dX5_findChance_150 : decode cX5_findChance 150 = .ok (.lmul, 1) := by decide +kernel
theorem dX5_findChance_151 : decode cX5_findChance 151 = .ok (.ladd, 1) := by decide +kernel
theorem dX5_findChance_152 : decode cX5_findChance 152 = .ok (.putfield 142, 3) := by decide +kernel
theorem dX5_findChance_155 : decode cX5_findChance 155 = .ok (.iinc 7 1, 3) := by decide +kernel
theorem dX5_findChance_158 : decode cX5_findChance 158 = .ok (.goto (-44), 3) := by decide +kernel
theorem dX5_findChance_161 : decode cX5_findChance 161 = .ok (.aload_n 0, 1) := by decide +kernel
theorem dX5_findChance_162 : decode cX5_findChance 162 = .ok (.aload_n 0, 1) := by decide +kernel
theorem dX5_findChance_163 : decode cX5_findChance 163 = .ok (.aload_n 0, 1) := by decide +kernel
theorem dX5_findChance_164 : decode cX5_findChance 164 = .ok (.getfield 70, 3) := by decide +kernel
theorem dX5_findChance_167 : decode cX5_findChance 167 = .ok (.iload 4, 2) := by decide +kernel
theorem dX5_findChance_169 : decode cX5_findChance 169 = .ok (.invokevirtual 146, 3) := by decide +kernel
theorem dX5_findChance_172 : decode cX5_findChance 172 = .ok (.putfield 150, 3) := by decide +kernel
theorem dX5_findChance_175 : decode cX5_findChance 175 = .ok (.aload_n 0, 1) := by decide +kernel
theorem dX5_findChance_176 : decode cX5_findChance 176 = .ok (.getfield 142, 3) := by decide +kernel
theorem dX5_findChance_179 : decode cX5_findChance 179 = .ok (.aload_n 0, 1) := by decide +kernel
theorem dX5_findChance_180 : decode cX5_findChance 180 = .ok (.getfield 150, 3) := by decide +kernel
theorem dX5_findChance_183 : decode cX5_findChance 183 = .ok (.invokestatic 129, 3) := by decide +kernel
theorem dX5_findChance_186 : decode cX5_findChance 186 = .ok (.lstore 7, 2) := by decide +kernel
theorem dX5_findChance_188 : decode cX5_findChance 188 = .ok (.aload_n 0, 1) := by decide +kernel
theorem dX5_findChance_189 : decode cX5_findChance 189 = .ok (.dup, 1) := by decide +kernel
theorem dX5_findChance_190 : decode cX5_findChance 190 = .ok (.getfield 142, 3) := by decide +kernel
theorem dX5_findChance_193 : decode cX5_findChance 193 = .ok (.lload 7, 2) := by decide +kernel
theorem dX5_findChance_195 : decode cX5_findChance 195 = .ok (.ldiv, 1) := by decide +kernel
theorem dX5_findChance_196 : decode cX5_findChance 196 = .ok (.putfield 142, 3) := by decide +kernel
theorem dX5_findChance_199 : decode cX5_findChance 199 = .ok (.aload_n 0, 1) := by decide +kernel
theorem dX5_findChance_200 : decode cX5_findChance 200 = .ok (.dup, 1) := by decide +kernel
theorem dX5_findChance_201 : decode cX5_findChance 201 = .ok (.getfield 150, 3) := by decide +kernel
theorem dX5_findChance_204 : decode cX5_findChance 204 = .ok (.lload 7, 2) := by decide +kernel
theorem dX5_findChance_206 : decode cX5_findChance 206 = .ok (.ldiv, 1) := by decide +kernel
theorem dX5_findChance_207 : decode cX5_findChance 207 = .ok (.putfield 150, 3) := by decide +kernel
theorem dX5_findChance_210 : decode cX5_findChance 210 = .ok (.iload 4, 2) := by decide +kernel
theorem dX5_findChance_212 : decode cX5_findChance 212 = .ok (.ifCond .le 7, 3) := by decide +kernel
theorem dX5_findChance_215 : decode cX5_findChance 215 = .ok (.iconst 1, 1) := by decide +kernel
theorem dX5_findChance_216 : decode cX5_findChance 216 = .ok (.goto 4, 3) := by decide +kernel
theorem dX5_findChance_219 : decode cX5_findChance 219 = .ok (.iconst 0, 1) := by decide +kernel
theorem dX5_findChance_220 : decode cX5_findChance 220 = .ok (.ireturn, 1) := by decide +kernel
set_option maxRecDepth 20000 in
theorem ggX5_chance_X5_in : GoodIn wsX5_chance wsX5_in := goodIn_r _ [10] (by decide +kernel) (by decide +kernel)
set_option maxRecDepth 20000 in
theorem gX5_chance_X5_in : GoodIn wsX5_chance (va_wsS RX5 66 yX5_in wsX5_in) := goodIn_app (goodIn_of _ (by decide +kernel)) ggX5_chance_X5_in
set_option maxRecDepth 20000 in
theorem ggX5_chance_X5_isMonth : GoodIn wsX5_chance wsX5_isMonth := goodIn_r _ [13, 14, 7, 8, 9, 10] (by decide +kernel) (by decide +kernel)
set_option maxRecDepth 20000 in
theorem gX5_chance_X5_isMonth : GoodIn wsX5_chance (va_wsS RX5 91 yX5_isMonth wsX5_isMonth) := goodIn_app (goodIn_of _ (by decide +kernel)) ggX5_chance_X5_isMonth
set_option maxRecDepth 20000 in
theorem ggX5_chance_X5_findChance : GoodIn wsX5_chance wsX5_findChance := goodIn_r _ [18, 19, 20, 5, 6, 21, 22, 23, 9, 24, 25, 26, 27, 28, 29, 30, 31, 32, 33, 34, 35, 36, 37, 38, 7, 8, 10, 39, 40, 41, 42, 43, 44, 45, 46, 47, 48, 49, 50, 51, 52, 53, 54, 55, 56, 57, 58, 59, 60, 61, 62] (by decide +kernel) (by decide +kernel)
set_option maxRecDepth 20000 in
theorem gX5_chance_X5_findChance : GoodIn wsX5_chance (wsV RX5 155 RX5 yX5_findChance wsX5_findChance) := goodIn_app (goodIn_of _ (by decide +kernel)) ggX5_chance_X5_findChance
theorem dX5_chance_0 : decode cX5_chance 0 = .ok (.iload_n 1, 1) := by decide +kernel
theorem dX5_chance_1 : decode cX5_chance 1 = .ok (.i2l, 1) := by decide +kernel
theorem dX5_chance_2 : decode cX5_chance 2 = .ok (.lconst 0, 1) := by decide +kernel
theorem dX5_chance_3 : decode cX5_chance 3 = .ok (.ldc2_w 73, 3) := by decide +kernel
theorem dX5_chance_6 : decode cX5_chance 6 = .ok (.invokestatic 66, 3) := by decide +kernel
theorem dX5_chance_9 : decode cX5_chance 9 = .ok (.ifCond .eq 33, 3) := by decide +kernel
theorem dX5_chance_12 : decode cX5_chance 12 = .ok (.iload_n 2, 1) := by decide +kernel
theorem dX5_chance_13 : decode cX5_chance 13 = .ok (.i2l, 1) := by decide +kernel
theorem dX5_chance_14 : decode cX5_chance 14 = .ok (.lconst 0, 1) := by decide +kernel
theorem dX5_chance_15 : decode cX5_chance 15 = .ok (.ldc2_w 109, 3) := by decide +kernel
theorem dX5_chance_18 : decode cX5_chance 18 = .ok (.invokestatic 66, 3) := by decide +kernel
theorem dX5_chance_21 : decode cX5_chance 21 = .ok (.ifCond .eq 21, 3) := by decide +kernel
theorem dX5_chance_24 : decode cX5_chance 24 = .ok (.iload_n 3, 1) := by decide +kernel
theorem dX5_chance_25 : decode cX5_chance 25 = .ok (.invokestatic 91, 3) := by decide +kernel
theorem dX5_chance_28 : decode cX5_chance 28 = .ok (.ifCond .eq 14, 3) := by decide +kernel
theorem dX5_chance_31 : decode cX5_chance 31 = .ok (.iload 4, 2) := by decide +kernel
theorem dX5_chance_33 : decode cX5_chance 33 = .ok (.i2l, 1) := by decide +kernel
theorem dX5_chance_34 : decode cX5_chance 34 = .ok (.lconst 0, 1) := by decide +kernel
theorem dX5_chance_35 : decode cX5_chance 35 = .ok (.lconst 1, 1) := by decide +kernel
theorem dX5_chance_36 : decode cX5_chance 36 = .ok (.invokestatic 66, 3) := by decide +kernel
theorem dX5_chance_39 : decode cX5_chance 39 = .ok (.ifCond .ne 7, 3) := by decide +kernel
theorem dX5_chance_42 : decode cX5_chance 42 = .ok (.ldc2_w 153, 3) := by decide +kernel
theorem dX5_chance_45 : decode cX5_chance 45 = .ok (.lreturn, 1) := by decide +kernel
theorem dX5_chance_46 : decode cX5_chance 46 = .ok (.aload_n 0, 1) := by decide +kernel
theorem dX5_chance_47 : decode cX5_chance 47 = .ok (.iload_n 1, 1) := by decide +kernel
theorem dX5_chance_48 : decode cX5_chance 48 = .ok (.iload_n 2, 1) := by decide +kernel
theorem dX5_chance_49 : decode cX5_chance 49 = .ok (.iload_n 3, 1) := by decide +kernel
theorem dX5_chance_50 : decode cX5_chance 50 = .ok (.invokevirtual 155, 3) := by decide +kernel
theorem dX5_chance_53 : decode cX5_chance 53 = .ok (.istore 5, 2) := by decide +kernel
theorem dX5_chance_55 : decode cX5_chance 55 = .ok (.iload 5, 2) := by decide +kernel
theorem dX5_chance_57 : decode cX5_chance 57 = .ok (.ifCond .ne 9, 3) := by decide +kernel
theorem dX5_chance_60 : decode cX5_chance 60 = .ok (.ldc2_w 158, 3) := by decide +kernel
theorem dX5_chance_63 : decode cX5_chance 63 = .ok (.goto 19, 3) := by decide +kernel
theorem dX5_chance_66 : decode cX5_chance 66 = .ok (.iload 4, 2) := by decide +kernel
theorem dX5_chance_68 : decode cX5_chance 68 = .ok (.ifCond .ne 10, 3) := by decide +kernel
theorem dX5_chance_71 : decode cX5_chance 71 = .ok (.aload_n 0, 1) := by decide +kernel
theorem dX5_chance_72 : decode cX5_chance 72 = .ok (.getfield 142, 3) := by decide +kernel
theorem dX5_chance_75 : decode cX5_chance 75 = .ok (.goto 7, 3) := by decide +kernel
theorem dX5_chance_78 : decode cX5_chance 78 = .ok (.aload_n 0, 1) := by decide +kernel
theorem dX5_chance_79 : decode cX5_chance 79 = .ok (.getfield 150, 3) := by decide +kernel
theorem dX5_chance_82 : decode cX5_chance 82 = .ok (.lreturn, 1) := by decide +kernel
theorem dX5_isLess_0 : decode cX5_isLess 0 = .ok (.lload_n 0, 1) := by decide +kernel
theorem dX5_isLess_1 : decode cX5_isLess 1 = .ok (.lstore 8, 2) := by decide +kernel
theorem dX5_isLess_3 : decode cX5_isLess 3 = .ok (.lload_n 2, 1) := by decide +kernel
theorem dX5_isLess_4 : decode cX5_isLess 4 = .ok (.lstore 10, 2) := by decide +kernel
theorem dX5_isLess_6 : decode cX5_isLess 6 = .ok (.lload 4, 2) := by decide +kernel
theorem dX5_isLess_8 : decode cX5_isLess 8 = .ok (.lstore 12, 2) := by decide +kernel
theorem dX5_isLess_10 : decode cX5_isLess 10 = .ok (.lload 6, 2) := by decide +kernel
theorem dX5_isLess_12 : decode cX5_isLess 12 = .ok (.lstore 14, 2) := by decide +kernel
theorem dX5_isLess_14 : decode cX5_isLess 14 = .ok (.lload 8, 2) := by decide +kernel
theorem dX5_isLess_16 : decode cX5_isLess 16 = .ok (.lload 10, 2) := by decide +kernel
theorem dX5_isLess_18 : decode cX5_isLess 18 = .ok (.ldiv, 1) := by decide +kernel
theorem dX5_isLess_19 : decode cX5_isLess 19 = .ok (.lload 12, 2) := by decide +kernel
theorem dX5_isLess_21 : decode cX5_isLess 21 = .ok (.lload 14, 2) := by decide +kernel
theorem dX5_isLess_23 : decode cX5_isLess 23 = .ok (.ldiv, 1) := by decide +kernel
theorem dX5_isLess_24 : decode cX5_isLess 24 = .ok (.lcmp, 1) := by decide +kernel
theorem dX5_isLess_25 : decode cX5_isLess 25 = .ok (.ifCond .ne 74, 3) := by decide +kernel
theorem dX5_isLess_28 : decode cX5_isLess 28 = .ok (.lload 8, 2) := by decide +kernel
theorem dX5_isLess_30 : decode cX5_isLess 30 = .ok (.lload 10, 2) := by decide +kernel
theorem dX5_isLess_32 : decode cX5_isLess 32 = .ok (.lrem, 1) := by decide +kernel
theorem dX5_isLess_33 : decode cX5_isLess 33 = .ok (.lstore 16, 2) := by decide +kernel
theorem dX5_isLess_35 : decode cX5_isLess 35 = .ok (.lload 12, 2) := by decide +kernel
theorem dX5_isLess_37 : decode cX5_isLess 37 = .ok (.lload 14, 2) := by decide +kernel
theorem dX5_isLess_39 : decode cX5_isLess 39 = .ok (.lrem, 1) := by decide +kernel
theorem dX5_isLess_40 : decode cX5_isLess 40 = .ok (.lstore 18, 2) := by decide +kernel
theorem dX5_isLess_42 : decode cX5_isLess 42 = .ok (.lload 16, 2) := by decide +kernel
theorem dX5_isLess_44 : decode cX5_isLess 44 = .ok (.lconst 0, 1) := by decide +kernel
theorem dX5_isLess_45 : decode cX5_isLess 45 = .ok (.lcmp, 1) := by decide +kernel
theorem dX5_isLess_46 : decode cX5_isLess 46 = .ok (.ifCond .eq 10, 3) := by decide +kernel
theorem dX5_isLess_49 : decode cX5_isLess 49 = .ok (.lload 18, 2) := by decide +kernel
theorem dX5_isLess_51 : decode cX5_isLess 51 = .ok (.lconst 0, 1) := by decide +kernel
theorem dX5_isLess_52 : decode cX5_isLess 52 = .ok (.lcmp, 1) := by decide +kernel
theorem dX5_isLess_53 : decode cX5_isLess 53 = .ok (.ifCond .ne 23, 3) := by decide +kernel
theorem dX5_isLess_56 : decode cX5_isLess 56 = .ok (.lload 16, 2) := by decide +kernel
theorem dX5_isLess_58 : decode cX5_isLess 58 = .ok (.lconst 0, 1) := by decide +kernel
theorem dX5_isLess_59 : decode cX5_isLess 59 = .ok (.lcmp, 1) := by decide +kernel
theorem dX5_isLess_60 : decode cX5_isLess 60 = .ok (.ifCond .ne 14, 3) := by decide +kernel
theorem dX5_isLess_63 : decode cX5_isLess 63 = .ok (.lload 18, 2) := by decide +kernel
theorem dX5_isLess_65 : decode cX5_isLess 65 = .ok (.lconst 0, 1) := by decide +kernel
theorem dX5_isLess_66 : decode cX5_isLess 66 = .ok (.lcmp, 1) := by decide +kernel
theorem dX5_isLess_67 : decode cX5_isLess 67 = .ok (.ifCond .le 7, 3) := by decide +kernel
theorem dX5_isLess_70 : decode cX5_isLess 70 = .ok (.iconst 1, 1) := by decide +kernel
theorem dX5_isLess_71 : decode cX5_isLess 71 = .ok (.goto 4, 3) := by decide +kernel
theorem dX5_isLess_74 : decode cX5_isLess 74 = .ok (.iconst 0, 1) := by decide +kernel
theorem dX5_isLess_75 : decode cX5_isLess 75 = .ok (.ireturn, 1) := by decide +kernel
theorem dX5_isLess_76 : decode cX5_isLess 76 = .ok (.lload 14, 2) := by decide +kernel
theorem dX5_isLess_78 : decode cX5_isLess 78 = .ok (.lstore 8, 2) := by decide +kernel
theorem dX5_isLess_80 : decode cX5_isLess 80 = .ok (.lload 16, 2) := by decide +kernel
theorem dX5_isLess_82 : decode cX5_isLess 82 = .ok (.lstore 14, 2) := by decide +kernel
theorem dX5_isLess_84 : decode cX5_isLess 84 = .ok (.lload 10, 2) := by decide +kernel
theorem dX5_isLess_86 : decode cX5_isLess 86 = .ok (.lstore 20, 2) := by decide +kernel
theorem dX5_isLess_88 : decode cX5_isLess 88 = .ok (.lload 18, 2) := by decide +kernel
theorem dX5_isLess_90 : decode cX5_isLess 90 = .ok (.lstore 10, 2) := by decide +kernel
theorem dX5_isLess_92 : decode cX5_isLess 92 = .ok (.lload 20, 2) := by decide +kernel
theorem dX5_isLess_94 : decode cX5_isLess 94 = .ok (.lstore 12, 2) := by decide +kernel
theorem dX5_isLess_96 : decode cX5_isLess 96 = .ok (.goto (-82), 3) := by decide +kernel
theorem dX5_isLess_99 : decode cX5_isLess 99 = .ok (.lload 8, 2) := by decide +kernel
theorem dX5_isLess_101 : decode cX5_isLess 101 = .ok (.lload 10, 2) := by decide +kernel
theorem dX5_isLess_103 : decode cX5_isLess 103 = .ok (.ldiv, 1) := by decide +kernel
theorem dX5_isLess_104 : decode cX5_isLess 104 = .ok (.lload 12, 2) := by decide +kernel
theorem dX5_isLess_106 : decode cX5_isLess 106 = .ok (.lload 14, 2) := by decide +kernel
theorem dX5_isLess_108 : decode cX5_isLess 108 = .ok (.ldiv, 1) := by decide +kernel
theorem dX5_isLess_109 : decode cX5_isLess 109 = .ok (.lcmp, 1) := by decide +kernel
theorem dX5_isLess_110 : decode cX5_isLess 110 = .ok (.ifCond .ge 7, 3) := by decide +kernel
theorem dX5_isLess_113 : decode cX5_isLess 113 = .ok (.iconst 1, 1) := by decide +kernel
theorem dX5_isLess_114 : decode cX5_isLess 114 = .ok (.goto 4, 3) := by decide +kernel
theorem dX5_isLess_117 : decode cX5_isLess 117 = .ok (.iconst 0, 1) := by decide +kernel
theorem dX5_isLess_118 : decode cX5_isLess 118 = .ok (.ireturn, 1) := by decide +kernel
set_option maxRecDepth 20000 in
theorem ggX5_oddest_X5_in : GoodIn wsX5_oddest wsX5_in := goodIn_r _ [7] (by decide +kernel) (by decide +kernel)
set_option maxRecDepth 20000 in
theorem gX5_oddest_X5_in : GoodIn wsX5_oddest (va_wsS RX5 66 yX5_in wsX5_in) := goodIn_app (goodIn_of _ (by decide +kernel)) ggX5_oddest_X5_in
set_option maxRecDepth 20000 in
theorem ggX5_oddest_X5_isMonth : GoodIn wsX5_oddest wsX5_isMonth := goodIn_r _ [10, 11, 4, 5, 6, 7] (by decide +kernel) (by decide +kernel)
set_option maxRecDepth 20000 in
theorem gX5_oddest_X5_isMonth : GoodIn wsX5_oddest (va_wsS RX5 91 yX5_isMonth wsX5_isMonth) := goodIn_app (goodIn_of _ (by decide +kernel)) ggX5_oddest_X5_isMonth
set_option maxRecDepth 20000 in
theorem ggX5_oddest_X5_findChance : GoodIn wsX5_oddest wsX5_findChance := goodIn_r _ [15, 16, 17, 2, 3, 18, 19, 20, 6, 21, 22, 23, 24, 25, 26, 27, 28, 29, 30, 31, 32, 33, 34, 35, 4, 5, 7, 36, 37, 38, 42, 43, 44, 45, 46, 47, 48, 49, 50, 51, 52, 53, 54, 55, 56, 57, 58, 59, 60, 61, 62] (by decide +kernel) (by decide +kernel)
set_option maxRecDepth 20000 in
theorem gX5_oddest_X5_findChance : GoodIn wsX5_oddest (wsV RX5 155 RX5 yX5_findChance wsX5_findChance) := goodIn_app (goodIn_of _ (by decide +kernel)) ggX5_oddest_X5_findChance
set_option maxRecDepth 20000 in
theorem ggX5_oddest_X5_isLess : GoodIn wsX5_oddest wsX5_isLess := goodIn_r _ [41] (by decide +kernel) (by decide +kernel)
set_option maxRecDepth 20000 in
theorem gX5_oddest_X5_isLess : GoodIn wsX5_oddest (va_wsS RX5 160 yX5_isLess wsX5_isLess) := goodIn_app (goodIn_of _ (by decide +kernel)) ggX5_oddest_X5_isLess
theorem dX5_oddest_0 : decode cX5_oddest 0 = .ok (.iload_n 1, 1) := by decide +kernel
theorem dX5_oddest_1 : decode cX5_oddest 1 = .ok (.i2l, 1) := by decide +kernel
theorem dX5_oddest_2 : decode cX5_oddest 2 = .ok (.lconst 0, 1) := by decide +kernel
theorem dX5_oddest_3 : decode cX5_oddest 3 = .ok (.ldc2_w 109, 3) := by decide +kernel
theorem dX5_oddest_6 : decode cX5_oddest 6 = .ok (.invokestatic 66, 3) := by decide +kernel
theorem dX5_oddest_9 : decode cX5_oddest 9 = .ok (.ifCond .eq 10, 3) := by decide +kernel
theorem dX5_oddest_12 : decode cX5_oddest 12 = .ok (.iload_n 2, 1) := by decide +kernel
theorem dX5_oddest_13 : decode cX5_oddest 13 = .ok (.invokestatic 91, 3) := by decide +kernel
theorem dX5_oddest_16 : decode cX5_oddest 16 = .ok (.ifCond .ne 6, 3) := by decide +kernel
theorem dX5_oddest_19 : decode cX5_oddest 19 = .ok (.bipush (-2), 2) := by decide +kernel
theorem dX5_oddest_21 : decode cX5_oddest 21 = .ok (.ireturn, 1) := by decide +kernel
theorem dX5_oddest_22 : decode cX5_oddest 22 = .ok (.iconst (-1), 1) := by decide +kernel
theorem dX5_oddest_23 : decode cX5_oddest 23 = .ok (.istore_n 3, 1) := by decide +kernel
theorem dX5_oddest_24 : decode cX5_oddest 24 = .ok (.lconst 0, 1) := by decide +kernel
theorem dX5_oddest_25 : decode cX5_oddest 25 = .ok (.lstore 4, 2) := by decide +kernel
theorem dX5_oddest_27 : decode cX5_oddest 27 = .ok (.lconst 1, 1) := by decide +kernel
theorem dX5_oddest_28 : decode cX5_oddest 28 = .ok (.lstore 6, 2) := by decide +kernel
theorem dX5_oddest_30 : decode cX5_oddest 30 = .ok (.iconst 0, 1) := by decide +kernel
theorem dX5_oddest_31 : decode cX5_oddest 31 = .ok (.istore 8, 2) := by decide +kernel
theorem dX5_oddest_33 : decode cX5_oddest 33 = .ok (.iload 8, 2) := by decide +kernel
theorem dX5_oddest_35 : decode cX5_oddest 35 = .ok (.bipush 8, 2) := by decide +kernel
theorem dX5_oddest_37 : decode cX5_oddest 37 = .ok (.if_icmp .ge 57, 3) := by decide +kernel
theorem dX5_oddest_40 : decode cX5_oddest 40 = .ok (.aload_n 0, 1) := by decide +kernel
theorem dX5_oddest_41 : decode cX5_oddest 41 = .ok (.iload 8, 2) := by decide +kernel
theorem dX5_oddest_43 : decode cX5_oddest 43 = .ok (.iload_n 1, 1) := by decide +kernel
theorem dX5_oddest_44 : decode cX5_oddest 44 = .ok (.iload_n 2, 1) := by decide +kernel
theorem dX5_oddest_45 : decode cX5_oddest 45 = .ok (.invokevirtual 155, 3) := by decide +kernel
theorem dX5_oddest_48 : decode cX5_oddest 48 = .ok (.ifCond .eq 40, 3) := by decide +kernel
theorem dX5_oddest_51 : decode cX5_oddest 51 = .ok (.iload_n 3, 1) := by decide +kernel
theorem dX5_oddest_52 : decode cX5_oddest 52 = .ok (.ifCond .lt 21, 3) := by decide +kernel
theorem dX5_oddest_55 : decode cX5_oddest 55 = .ok (.aload_n 0, 1) := by decide +kernel
theorem dX5_oddest_56 : decode cX5_oddest 56 = .ok (.getfield 142, 3) := by decide +kernel
theorem dX5_oddest_59 : decode cX5_oddest 59 = .ok (.aload_n 0, 1) := by decide +kernel
theorem dX5_oddest_60 : decode cX5_oddest 60 = .ok (.getfield 150, 3) := by decide +kernel
theorem dX5_oddest_63 : decode cX5_oddest 63 = .ok (.lload 4, 2) := by decide +kernel
theorem dX5_oddest_65 : decode cX5_oddest 65 = .ok (.lload 6, 2) := by decide +kernel
theorem dX5_oddest_67 : decode cX5_oddest 67 = .ok (.invokestatic 160, 3) := by decide +kernel
theorem dX5_oddest_70 : decode cX5_oddest 70 = .ok (.ifCond .eq 18, 3) := by decide +kernel
theorem dX5_oddest_73 : decode cX5_oddest 73 = .ok (.iload 8, 2) := by decide +kernel
theorem dX5_oddest_75 : decode cX5_oddest 75 = .ok (.istore_n 3, 1) := by decide +kernel
theorem dX5_oddest_76 : decode cX5_oddest 76 = .ok (.aload_n 0, 1) := by decide +kernel
theorem dX5_oddest_77 : decode cX5_oddest 77 = .ok (.getfield 142, 3) := by decide +kernel
theorem dX5_oddest_80 : decode cX5_oddest 80 = .ok (.lstore 4, 2) := by decide +kernel
theorem dX5_oddest_82 : decode cX5_oddest 82 = .ok (.aload_n 0, 1) := by decide +kernel
theorem dX5_oddest_83 : decode cX5_oddest 83 = .ok (.getfield 150, 3) := by decide +kernel
theorem dX5_oddest_86 : decode cX5_oddest 86 = .ok (.lstore 6, 2) := by decide +kernel
theorem dX5_oddest_88 : decode cX5_oddest 88 = .ok (.iinc 8 1, 3) := by decide +kernel
theorem dX5_oddest_91 : decode cX5_oddest 91 = .ok (.goto (-58), 3) := by decide +kernel
theorem dX5_oddest_94 : decode cX5_oddest 94 = .ok (.iload_n 3, 1) := by decide +kernel
theorem dX5_oddest_95 : decode cX5_oddest 95 = .ok (.ireturn, 1) := by decide +kernel
theorem dX5_isUnder_0 : decode cX5_isUnder 0 = .ok (.iload_n 1, 1) := by decide +kernel
theorem dX5_isUnder_1 : decode cX5_isUnder 1 = .ok (.istore_n 3, 1) := by decide +kernel
theorem dX5_isUnder_2 : decode cX5_isUnder 2 = .ok (.iload_n 3, 1) := by decide +kernel
theorem dX5_isUnder_3 : decode cX5_isUnder 3 = .ok (.ifCond .lt 18, 3) := by decide +kernel
theorem dX5_isUnder_6 : decode cX5_isUnder 6 = .ok (.iload_n 3, 1) := by decide +kernel
theorem dX5_isUnder_7 : decode cX5_isUnder 7 = .ok (.iload_n 2, 1) := by decide +kernel
theorem dX5_isUnder_8 : decode cX5_isUnder 8 = .ok (.if_icmp .eq 13, 3) := by decide +kernel
theorem dX5_isUnder_11 : decode cX5_isUnder 11 = .ok (.aload_n 0, 1) := by decide +kernel
theorem dX5_isUnder_12 : decode cX5_isUnder 12 = .ok (.getfield 54, 3) := by decide +kernel
theorem dX5_isUnder_15 : decode cX5_isUnder 15 = .ok (.iload_n 3, 1) := by decide +kernel
theorem dX5_isUnder_16 : decode cX5_isUnder 16 = .ok (.iaload, 1) := by decide +kernel
theorem dX5_isUnder_17 : decode cX5_isUnder 17 = .ok (.istore_n 3, 1) := by decide +kernel
theorem dX5_isUnder_18 : decode cX5_isUnder 18 = .ok (.goto (-16), 3) := by decide +kernel
theorem dX5_isUnder_21 : decode cX5_isUnder 21 = .ok (.iload_n 3, 1) := by decide +kernel
theorem dX5_isUnder_22 : decode cX5_isUnder 22 = .ok (.iload_n 2, 1) := by decide +kernel
theorem dX5_isUnder_23 : decode cX5_isUnder 23 = .ok (.if_icmp .ne 7, 3) := by decide +kernel
theorem dX5_isUnder_26 : decode cX5_isUnder 26 = .ok (.iconst 1, 1) := by decide +kernel
theorem dX5_isUnder_27 : decode cX5_isUnder 27 = .ok (.goto 4, 3) := by decide +kernel
theorem dX5_isUnder_30 : decode cX5_isUnder 30 = .ok (.iconst 0, 1) := by decide +kernel
theorem dX5_isUnder_31 : decode cX5_isUnder 31 = .ok (.ireturn, 1) := by decide +kernel
set_option maxRecDepth 20000 in
theorem ggX5_under_X5_in : GoodIn wsX5_under wsX5_in := goodIn_r _ [7] (by decide +kernel) (by decide +kernel)
set_option maxRecDepth 20000 in
theorem gX5_under_X5_in : GoodIn wsX5_under (va_wsS RX5 66 yX5_in wsX5_in) := goodIn_app (goodIn_of _ (by decide +kernel)) ggX5_under_X5_in
set_option maxRecDepth 20000 in
theorem ggX5_under_X5_isUnder : GoodIn wsX5_under wsX5_isUnder := goodIn_r _ [11, 3, 12, 13, 14, 15, 16, 17, 18, 19, 20, 21, 22, 23, 24, 25, 26, 27, 28, 29, 30, 31, 32] (by decide +kernel) (by decide +kernel)
set_option maxRecDepth 20000 in
theorem gX5_under_X5_isUnder : GoodIn wsX5_under (wsV RX5 166 RX5 yX5_isUnder wsX5_isUnder) := goodIn_app (goodIn_of _ (by decide +kernel)) ggX5_under_X5_isUnder
theorem dX5_under_0 : decode cX5_under 0 = .ok (.iload_n 1, 1) := by decide +kernel
theorem dX5_under_1 : decode cX5_under 1 = .ok (.i2l, 1) := by decide +kernel
theorem dX5_under_2 : decode cX5_under 2 = .ok (.lconst 0, 1) := by decide +kernel
theorem dX5_under_3 : decode cX5_under 3 = .ok (.ldc2_w 109, 3) := by decide +kernel
theorem dX5_under_6 : decode cX5_under 6 = .ok (.invokestatic 66, 3) := by decide +kernel
theorem dX5_under_9 : decode cX5_under 9 = .ok (.ifCond .eq 17, 3) := by decide +kernel
theorem dX5_under_12 : decode cX5_under 12 = .ok (.iload_n 2, 1) := by decide +kernel
theorem dX5_under_13 : decode cX5_under 13 = .ok (.i2l, 1) := by decide +kernel
theorem dX5_under_14 : decode cX5_under 14 = .ok (.ldc2_w 164, 3) := by decide +kernel
theorem dX5_under_17 : decode cX5_under 17 = .ok (.ldc2_w 109, 3) := by decide +kernel
theorem dX5_under_20 : decode cX5_under 20 = .ok (.invokestatic 66, 3) := by decide +kernel
theorem dX5_under_23 : decode cX5_under 23 = .ok (.ifCond .ne 6, 3) := by decide +kernel
theorem dX5_under_26 : decode cX5_under 26 = .ok (.bipush (-2), 2) := by decide +kernel
theorem dX5_under_28 : decode cX5_under 28 = .ok (.ireturn, 1) := by decide +kernel
theorem dX5_under_29 : decode cX5_under 29 = .ok (.iload_n 2, 1) := by decide +kernel
theorem dX5_under_30 : decode cX5_under 30 = .ok (.ifCond .lt 15, 3) := by decide +kernel
theorem dX5_under_33 : decode cX5_under 33 = .ok (.aload_n 0, 1) := by decide +kernel
theorem dX5_under_34 : decode cX5_under 34 = .ok (.iload_n 2, 1) := by decide +kernel
theorem dX5_under_35 : decode cX5_under 35 = .ok (.iload_n 1, 1) := by decide +kernel
theorem dX5_under_36 : decode cX5_under 36 = .ok (.invokevirtual 166, 3) := by decide +kernel
theorem dX5_under_39 : decode cX5_under 39 = .ok (.ifCond .eq 6, 3) := by decide +kernel
theorem dX5_under_42 : decode cX5_under 42 = .ok (.bipush (-3), 2) := by decide +kernel
theorem dX5_under_44 : decode cX5_under 44 = .ok (.ireturn, 1) := by decide +kernel
theorem dX5_under_45 : decode cX5_under 45 = .ok (.aload_n 0, 1) := by decide +kernel
theorem dX5_under_46 : decode cX5_under 46 = .ok (.getfield 54, 3) := by decide +kernel
theorem dX5_under_49 : decode cX5_under 49 = .ok (.iload_n 1, 1) := by decide +kernel
theorem dX5_under_50 : decode cX5_under 50 = .ok (.iload_n 2, 1) := by decide +kernel
theorem dX5_under_51 : decode cX5_under 51 = .ok (.iastore, 1) := by decide +kernel
theorem dX5_under_52 : decode cX5_under 52 = .ok (.iconst 1, 1) := by decide +kernel
theorem dX5_under_53 : decode cX5_under 53 = .ok (.ireturn, 1) := by decide +kernel
set_option maxRecDepth 20000 in
theorem ggX5_maker_X5_in : GoodIn wsX5_maker wsX5_in := goodIn_r _ [10] (by decide +kernel) (by decide +kernel)
set_option maxRecDepth 20000 in
theorem gX5_maker_X5_in : GoodIn wsX5_maker (va_wsS RX5 66 yX5_in wsX5_in) := goodIn_app (goodIn_of _ (by decide +kernel)) ggX5_maker_X5_in
theorem dX5_maker_0 : decode cX5_maker 0 = .ok (.iload_n 1, 1) := by decide +kernel
theorem dX5_maker_1 : decode cX5_maker 1 = .ok (.i2l, 1) := by decide +kernel
theorem dX5_maker_2 : decode cX5_maker 2 = .ok (.lconst 0, 1) := by decide +kernel
theorem dX5_maker_3 : decode cX5_maker 3 = .ok (.ldc2_w 109, 3) := by decide +kernel
theorem dX5_maker_6 : decode cX5_maker 6 = .ok (.invokestatic 66, 3) := by decide +kernel
theorem dX5_maker_9 : decode cX5_maker 9 = .ok (.ifCond .eq 29, 3) := by decide +kernel
theorem dX5_maker_12 : decode cX5_maker 12 = .ok (.iload_n 2, 1) := by decide +kernel
theorem dX5_maker_13 : decode cX5_maker 13 = .ok (.i2l, 1) := by decide +kernel
theorem dX5_maker_14 : decode cX5_maker 14 = .ok (.ldc2_w 164, 3) := by decide +kernel
theorem dX5_maker_17 : decode cX5_maker 17 = .ok (.ldc2_w 169, 3) := by decide +kernel
theorem dX5_maker_20 : decode cX5_maker 20 = .ok (.invokestatic 66, 3) := by decide +kernel
theorem dX5_maker_23 : decode cX5_maker 23 = .ok (.ifCond .eq 15, 3) := by decide +kernel
theorem dX5_maker_26 : decode cX5_maker 26 = .ok (.iload_n 3, 1) := by decide +kernel
theorem dX5_maker_27 : decode cX5_maker 27 = .ok (.i2l, 1) := by decide +kernel
theorem dX5_maker_28 : decode cX5_maker 28 = .ok (.lconst 0, 1) := by decide +kernel
theorem dX5_maker_29 : decode cX5_maker 29 = .ok (.ldc2_w 171, 3) := by decide +kernel
theorem dX5_maker_32 : decode cX5_maker 32 = .ok (.invokestatic 66, 3) := by decide +kernel
theorem dX5_maker_35 : decode cX5_maker 35 = .ok (.ifCond .ne 6, 3) := by decide +kernel
theorem dX5_maker_38 : decode cX5_maker 38 = .ok (.bipush (-2), 2) := by decide +kernel
theorem dX5_maker_40 : decode cX5_maker 40 = .ok (.ireturn, 1) := by decide +kernel
theorem dX5_maker_41 : decode cX5_maker 41 = .ok (.aload_n 0, 1) := by decide +kernel
theorem dX5_maker_42 : decode cX5_maker 42 = .ok (.getfield 57, 3) := by decide +kernel
theorem dX5_maker_45 : decode cX5_maker 45 = .ok (.iload_n 1, 1) := by decide +kernel
theorem dX5_maker_46 : decode cX5_maker 46 = .ok (.iload_n 2, 1) := by decide +kernel
theorem dX5_maker_47 : decode cX5_maker 47 = .ok (.iastore, 1) := by decide +kernel
theorem dX5_maker_48 : decode cX5_maker 48 = .ok (.aload_n 0, 1) := by decide +kernel
theorem dX5_maker_49 : decode cX5_maker 49 = .ok (.getfield 60, 3) := by decide +kernel
theorem dX5_maker_52 : decode cX5_maker 52 = .ok (.iload_n 1, 1) := by decide +kernel
theorem dX5_maker_53 : decode cX5_maker 53 = .ok (.iload_n 3, 1) := by decide +kernel
theorem dX5_maker_54 : decode cX5_maker 54 = .ok (.iastore, 1) := by decide +kernel
theorem dX5_maker_55 : decode cX5_maker 55 = .ok (.iconst 1, 1) := by decide +kernel
theorem dX5_maker_56 : decode cX5_maker 56 = .ok (.ireturn, 1) := by decide +kernel
theorem dX5_payingPart_0 : decode cX5_payingPart 0 = .ok (.iload_n 1, 1) := by decide +kernel
theorem dX5_payingPart_1 : decode cX5_payingPart 1 = .ok (.istore_n 2, 1) := by decide +kernel
theorem dX5_payingPart_2 : decode cX5_payingPart 2 = .ok (.iload_n 2, 1) := by decide +kernel
theorem dX5_payingPart_3 : decode cX5_payingPart 3 = .ok (.ifCond .lt 22, 3) := by decide +kernel
theorem dX5_payingPart_6 : decode cX5_payingPart 6 = .ok (.aload_n 0, 1) := by decide +kernel
theorem dX5_payingPart_7 : decode cX5_payingPart 7 = .ok (.getfield 57, 3) := by decide +kernel
theorem dX5_payingPart_10 : decode cX5_payingPart 10 = .ok (.iload_n 2, 1) := by decide +kernel
theorem dX5_payingPart_11 : decode cX5_payingPart 11 = .ok (.iaload, 1) := by decide +kernel
theorem dX5_payingPart_12 : decode cX5_payingPart 12 = .ok (.ifCond .ge 13, 3) := by decide +kernel
theorem dX5_payingPart_15 : decode cX5_payingPart 15 = .ok (.aload_n 0, 1) := by decide +kernel
theorem dX5_payingPart_16 : decode cX5_payingPart 16 = .ok (.getfield 54, 3) := by decide +kernel
theorem dX5_payingPart_19 : decode cX5_payingPart 19 = .ok (.iload_n 2, 1) := by decide +kernel
theorem dX5_payingPart_20 : decode cX5_payingPart 20 = .ok (.iaload, 1) := by decide +kernel
theorem dX5_payingPart_21 : decode cX5_payingPart 21 = .ok (.istore_n 2, 1) := by decide +kernel
theorem dX5_payingPart_22 : decode cX5_payingPart 22 = .ok (.goto (-20), 3) := by decide +kernel
theorem dX5_payingPart_25 : decode cX5_payingPart 25 = .ok (.iload_n 2, 1) := by decide +kernel
theorem dX5_payingPart_26 : decode cX5_payingPart 26 = .ok (.ireturn, 1) := by decide +kernel
set_option maxRecDepth 20000 in
theorem ggX5_payer_X5_in : GoodIn wsX5_payer wsX5_in := goodIn_r _ [6] (by decide +kernel) (by decide +kernel)
set_option maxRecDepth 20000 in
theorem gX5_payer_X5_in : GoodIn wsX5_payer (va_wsS RX5 66 yX5_in wsX5_in) := goodIn_app (goodIn_of _ (by decide +kernel)) ggX5_payer_X5_in
set_option maxRecDepth 20000 in
theorem ggX5_payer_X5_payingPart : GoodIn wsX5_payer wsX5_payingPart := goodIn_r _ [10, 2, 11, 12, 13, 14, 15, 16, 17, 18, 19, 20, 21, 22, 23, 24, 25, 26, 27, 28, 29, 30, 31, 32] (by decide +kernel) (by decide +kernel)
set_option maxRecDepth 20000 in
theorem gX5_payer_X5_payingPart : GoodIn wsX5_payer (wsV RX5 173 RX5 yX5_payingPart wsX5_payingPart) := goodIn_app (goodIn_of _ (by decide +kernel)) ggX5_payer_X5_payingPart
theorem dX5_payer_0 : decode cX5_payer 0 = .ok (.iload_n 1, 1) := by decide +kernel
theorem dX5_payer_1 : decode cX5_payer 1 = .ok (.i2l, 1) := by decide +kernel
theorem dX5_payer_2 : decode cX5_payer 2 = .ok (.lconst 0, 1) := by decide +kernel
theorem dX5_payer_3 : decode cX5_payer 3 = .ok (.ldc2_w 109, 3) := by decide +kernel
theorem dX5_payer_6 : decode cX5_payer 6 = .ok (.invokestatic 66, 3) := by decide +kernel
theorem dX5_payer_9 : decode cX5_payer 9 = .ok (.ifCond .ne 6, 3) := by decide +kernel
theorem dX5_payer_12 : decode cX5_payer 12 = .ok (.bipush (-2), 2) := by decide +kernel
theorem dX5_payer_14 : decode cX5_payer 14 = .ok (.ireturn, 1) := by decide +kernel
theorem dX5_payer_15 : decode cX5_payer 15 = .ok (.aload_n 0, 1) := by decide +kernel
theorem dX5_payer_16 : decode cX5_payer 16 = .ok (.iload_n 1, 1) := by decide +kernel
theorem dX5_payer_17 : decode cX5_payer 17 = .ok (.invokevirtual 173, 3) := by decide +kernel
theorem dX5_payer_20 : decode cX5_payer 20 = .ok (.istore_n 2, 1) := by decide +kernel
theorem dX5_payer_21 : decode cX5_payer 21 = .ok (.iload_n 2, 1) := by decide +kernel
theorem dX5_payer_22 : decode cX5_payer 22 = .ok (.ifCond .ge 7, 3) := by decide +kernel
theorem dX5_payer_25 : decode cX5_payer 25 = .ok (.iconst (-1), 1) := by decide +kernel
theorem dX5_payer_26 : decode cX5_payer 26 = .ok (.goto 9, 3) := by decide +kernel
theorem dX5_payer_29 : decode cX5_payer 29 = .ok (.aload_n 0, 1) := by decide +kernel
theorem dX5_payer_30 : decode cX5_payer 30 = .ok (.getfield 57, 3) := by decide +kernel
theorem dX5_payer_33 : decode cX5_payer 33 = .ok (.iload_n 2, 1) := by decide +kernel
theorem dX5_payer_34 : decode cX5_payer 34 = .ok (.iaload, 1) := by decide +kernel
theorem dX5_payer_35 : decode cX5_payer 35 = .ok (.ireturn, 1) := by decide +kernel
set_option maxRecDepth 20000 in
theorem ggX5_paidFor_X5_payingPart : GoodIn wsX5_paidFor wsX5_payingPart := goodIn_r _ [10, 3, 11, 12, 13, 14, 15, 16, 17, 18, 19, 20, 21, 22, 23, 24, 25, 26, 27, 28, 29, 30, 31, 32] (by decide +kernel) (by decide +kernel)
set_option maxRecDepth 20000 in
theorem gX5_paidFor_X5_payingPart : GoodIn wsX5_paidFor (wsV RX5 173 RX5 yX5_payingPart wsX5_payingPart) := goodIn_app (goodIn_of _ (by decide +kernel)) ggX5_paidFor_X5_payingPart
theorem dX5_paidFor_0 : decode cX5_paidFor 0 = .ok (.aload_n 0, 1) := by decide +kernel
theorem dX5_paidFor_1 : decode cX5_paidFor 1 = .ok (.aload_n 0, 1) := by decide +kernel
theorem dX5_paidFor_2 : decode cX5_paidFor 2 = .ok (.getfield 35, 3) := by decide +kernel
theorem dX5_paidFor_5 : decode cX5_paidFor 5 = .ok (.iload_n 1, 1) := by decide +kernel
theorem dX5_paidFor_6 : decode cX5_paidFor 6 = .ok (.iaload, 1) := by decide +kernel
theorem dX5_paidFor_7 : decode cX5_paidFor 7 = .ok (.invokevirtual 173, 3) := by decide +kernel
theorem dX5_paidFor_10 : decode cX5_paidFor 10 = .ok (.istore_n 3, 1) := by decide +kernel
theorem dX5_paidFor_11 : decode cX5_paidFor 11 = .ok (.aload_n 0, 1) := by decide +kernel
theorem dX5_paidFor_12 : decode cX5_paidFor 12 = .ok (.getfield 47, 3) := by decide +kernel
theorem dX5_paidFor_15 : decode cX5_paidFor 15 = .ok (.iload_n 1, 1) := by decide +kernel
theorem dX5_paidFor_16 : decode cX5_paidFor 16 = .ok (.iaload, 1) := by decide +kernel
theorem dX5_paidFor_17 : decode cX5_paidFor 17 = .ok (.ifCond .ne 25, 3) := by decide +kernel
theorem dX5_paidFor_20 : decode cX5_paidFor 20 = .ok (.iload_n 3, 1) := by decide +kernel
theorem dX5_paidFor_21 : decode cX5_paidFor 21 = .ok (.ifCond .lt 21, 3) := by decide +kernel
theorem dX5_paidFor_24 : decode cX5_paidFor 24 = .ok (.iload_n 2, 1) := by decide +kernel
theorem dX5_paidFor_25 : decode cX5_paidFor 25 = .ok (.ifCond .lt 13, 3) := by decide +kernel
theorem dX5_paidFor_28 : decode cX5_paidFor 28 = .ok (.aload_n 0, 1) := by decide +kernel
theorem dX5_paidFor_29 : decode cX5_paidFor 29 = .ok (.getfield 57, 3) := by decide +kernel
theorem dX5_paidFor_32 : decode cX5_paidFor 32 = .ok (.iload_n 3, 1) := by decide +kernel
theorem dX5_paidFor_33 : decode cX5_paidFor 33 = .ok (.iaload, 1) := by decide +kernel
theorem dX5_paidFor_34 : decode cX5_paidFor 34 = .ok (.iload_n 2, 1) := by decide +kernel
theorem dX5_paidFor_35 : decode cX5_paidFor 35 = .ok (.if_icmp .ne 7, 3) := by decide +kernel
theorem dX5_paidFor_38 : decode cX5_paidFor 38 = .ok (.iconst 1, 1) := by decide +kernel
theorem dX5_paidFor_39 : decode cX5_paidFor 39 = .ok (.goto 4, 3) := by decide +kernel
theorem dX5_paidFor_42 : decode cX5_paidFor 42 = .ok (.iconst 0, 1) := by decide +kernel
theorem dX5_paidFor_43 : decode cX5_paidFor 43 = .ok (.istore 4, 2) := by decide +kernel
theorem dX5_paidFor_45 : decode cX5_paidFor 45 = .ok (.iload 4, 2) := by decide +kernel
theorem dX5_paidFor_47 : decode cX5_paidFor 47 = .ok (.ifCond .eq 22, 3) := by decide +kernel
theorem dX5_paidFor_50 : decode cX5_paidFor 50 = .ok (.aload_n 0, 1) := by decide +kernel
theorem dX5_paidFor_51 : decode cX5_paidFor 51 = .ok (.getfield 44, 3) := by decide +kernel
theorem dX5_paidFor_54 : decode cX5_paidFor 54 = .ok (.iload_n 1, 1) := by decide +kernel
theorem dX5_paidFor_55 : decode cX5_paidFor 55 = .ok (.iaload, 1) := by decide +kernel
theorem dX5_paidFor_56 : decode cX5_paidFor 56 = .ok (.aload_n 0, 1) := by decide +kernel
theorem dX5_paidFor_57 : decode cX5_paidFor 57 = .ok (.getfield 60, 3) := by decide +kernel
theorem dX5_paidFor_60 : decode cX5_paidFor 60 = .ok (.iload_n 3, 1) := by decide +kernel
theorem dX5_paidFor_61 : decode cX5_paidFor 61 = .ok (.iaload, 1) := by decide +kernel
theorem dX5_paidFor_62 : decode cX5_paidFor 62 = .ok (.imul, 1) := by decide +kernel
theorem dX5_paidFor_63 : decode cX5_paidFor 63 = .ok (.bipush 100, 2) := by decide +kernel
theorem dX5_paidFor_65 : decode cX5_paidFor 65 = .ok (.idiv, 1) := by decide +kernel
theorem dX5_paidFor_66 : decode cX5_paidFor 66 = .ok (.goto 4, 3) := by decide +kernel
theorem dX5_paidFor_69 : decode cX5_paidFor 69 = .ok (.iconst 0, 1) := by decide +kernel
theorem dX5_paidFor_70 : decode cX5_paidFor 70 = .ok (.ireturn, 1) := by decide +kernel
set_option maxRecDepth 20000 in
theorem ggX5_pays_X5_in : GoodIn wsX5_pays wsX5_in := goodIn_r _ [6] (by decide +kernel) (by decide +kernel)
set_option maxRecDepth 20000 in
theorem gX5_pays_X5_in : GoodIn wsX5_pays (va_wsS RX5 66 yX5_in wsX5_in) := goodIn_app (goodIn_of _ (by decide +kernel)) ggX5_pays_X5_in
set_option maxRecDepth 20000 in
theorem ggX5_pays_X5_paidFor : GoodIn wsX5_pays wsX5_paidFor := goodIn_r _ [10, 11, 12, 13, 14, 15, 16, 17, 18, 5, 19, 20, 21, 22, 23, 24, 25, 26, 27, 28, 29, 30, 31, 32, 33, 34, 35, 36, 37, 38, 39, 40, 41] (by decide +kernel) (by decide +kernel)
set_option maxRecDepth 20000 in
theorem gX5_pays_X5_paidFor : GoodIn wsX5_pays (wsV RX5 176 RX5 yX5_paidFor wsX5_paidFor) := goodIn_app (goodIn_of _ (by decide +kernel)) ggX5_pays_X5_paidFor
theorem dX5_pays_0 : decode cX5_pays 0 = .ok (.iload_n 1, 1) := by decide +kernel
theorem dX5_pays_1 : decode cX5_pays 1 = .ok (.i2l, 1) := by decide +kernel
theorem dX5_pays_2 : decode cX5_pays 2 = .ok (.lconst 0, 1) := by decide +kernel
theorem dX5_pays_3 : decode cX5_pays 3 = .ok (.ldc2_w 169, 3) := by decide +kernel
theorem dX5_pays_6 : decode cX5_pays 6 = .ok (.invokestatic 66, 3) := by decide +kernel
theorem dX5_pays_9 : decode cX5_pays 9 = .ok (.ifCond .ne 6, 3) := by decide +kernel
theorem dX5_pays_12 : decode cX5_pays 12 = .ok (.bipush (-2), 2) := by decide +kernel
theorem dX5_pays_14 : decode cX5_pays 14 = .ok (.ireturn, 1) := by decide +kernel
theorem dX5_pays_15 : decode cX5_pays 15 = .ok (.iconst 0, 1) := by decide +kernel
theorem dX5_pays_16 : decode cX5_pays 16 = .ok (.istore_n 2, 1) := by decide +kernel
theorem dX5_pays_17 : decode cX5_pays 17 = .ok (.iconst 0, 1) := by decide +kernel
theorem dX5_pays_18 : decode cX5_pays 18 = .ok (.istore_n 3, 1) := by decide +kernel
theorem dX5_pays_19 : decode cX5_pays 19 = .ok (.iload_n 3, 1) := by decide +kernel
theorem dX5_pays_20 : decode cX5_pays 20 = .ok (.aload_n 0, 1) := by decide +kernel
theorem dX5_pays_21 : decode cX5_pays 21 = .ok (.getfield 102, 3) := by decide +kernel
theorem dX5_pays_24 : decode cX5_pays 24 = .ok (.if_icmp .ge 18, 3) := by decide +kernel
theorem dX5_pays_27 : decode cX5_pays 27 = .ok (.iload_n 2, 1) := by decide +kernel
theorem dX5_pays_28 : decode cX5_pays 28 = .ok (.aload_n 0, 1) := by decide +kernel
theorem dX5_pays_29 : decode cX5_pays 29 = .ok (.iload_n 3, 1) := by decide +kernel
theorem dX5_pays_30 : decode cX5_pays 30 = .ok (.iload_n 1, 1) := by decide +kernel
theorem dX5_pays_31 : decode cX5_pays 31 = .ok (.invokevirtual 176, 3) := by decide +kernel
theorem dX5_pays_34 : decode cX5_pays 34 = .ok (.iadd, 1) := by decide +kernel
theorem dX5_pays_35 : decode cX5_pays 35 = .ok (.istore_n 2, 1) := by decide +kernel
theorem dX5_pays_36 : decode cX5_pays 36 = .ok (.iinc 3 1, 3) := by decide +kernel
theorem dX5_pays_39 : decode cX5_pays 39 = .ok (.goto (-20), 3) := by decide +kernel
theorem dX5_pays_42 : decode cX5_pays 42 = .ok (.iload_n 2, 1) := by decide +kernel
theorem dX5_pays_43 : decode cX5_pays 43 = .ok (.ireturn, 1) := by decide +kernel
theorem dX5_letCosts_0 : decode cX5_letCosts 0 = .ok (.iconst 0, 1) := by decide +kernel
theorem dX5_letCosts_1 : decode cX5_letCosts 1 = .ok (.istore_n 1, 1) := by decide +kernel
theorem dX5_letCosts_2 : decode cX5_letCosts 2 = .ok (.iconst 0, 1) := by decide +kernel
theorem dX5_letCosts_3 : decode cX5_letCosts 3 = .ok (.istore_n 2, 1) := by decide +kernel
theorem dX5_letCosts_4 : decode cX5_letCosts 4 = .ok (.iload_n 2, 1) := by decide +kernel
theorem dX5_letCosts_5 : decode cX5_letCosts 5 = .ok (.aload_n 0, 1) := by decide +kernel
theorem dX5_letCosts_6 : decode cX5_letCosts 6 = .ok (.getfield 102, 3) := by decide +kernel
theorem dX5_letCosts_9 : decode cX5_letCosts 9 = .ok (.if_icmp .ge 31, 3) := by decide +kernel
theorem dX5_letCosts_12 : decode cX5_letCosts 12 = .ok (.iload_n 1, 1) := by decide +kernel
theorem dX5_letCosts_13 : decode cX5_letCosts 13 = .ok (.aload_n 0, 1) := by decide +kernel
theorem dX5_letCosts_14 : decode cX5_letCosts 14 = .ok (.getfield 47, 3) := by decide +kernel
theorem dX5_letCosts_17 : decode cX5_letCosts 17 = .ok (.iload_n 2, 1) := by decide +kernel
theorem dX5_letCosts_18 : decode cX5_letCosts 18 = .ok (.iaload, 1) := by decide +kernel
theorem dX5_letCosts_19 : decode cX5_letCosts 19 = .ok (.ifCond .ne 12, 3) := by decide +kernel
theorem dX5_letCosts_22 : decode cX5_letCosts 22 = .ok (.aload_n 0, 1) := by decide +kernel
theorem dX5_letCosts_23 : decode cX5_letCosts 23 = .ok (.getfield 44, 3) := by decide +kernel
theorem dX5_letCosts_26 : decode cX5_letCosts 26 = .ok (.iload_n 2, 1) := by decide +kernel
theorem dX5_letCosts_27 : decode cX5_letCosts 27 = .ok (.iaload, 1) := by decide +kernel
theorem dX5_letCosts_28 : decode cX5_letCosts 28 = .ok (.goto 4, 3) := by decide +kernel
theorem dX5_letCosts_31 : decode cX5_letCosts 31 = .ok (.iconst 0, 1) := by decide +kernel
theorem dX5_letCosts_32 : decode cX5_letCosts 32 = .ok (.iadd, 1) := by decide +kernel
theorem dX5_letCosts_33 : decode cX5_letCosts 33 = .ok (.istore_n 1, 1) := by decide +kernel
theorem dX5_letCosts_34 : decode cX5_letCosts 34 = .ok (.iinc 2 1, 3) := by decide +kernel
theorem dX5_letCosts_37 : decode cX5_letCosts 37 = .ok (.goto (-33), 3) := by decide +kernel
theorem dX5_letCosts_40 : decode cX5_letCosts 40 = .ok (.iload_n 1, 1) := by decide +kernel
theorem dX5_letCosts_41 : decode cX5_letCosts 41 = .ok (.ireturn, 1) := by decide +kernel
set_option maxRecDepth 20000 in
theorem ggX5_left_X5_letCosts : GoodIn wsX5_left wsX5_letCosts := goodIn_r _ [6, 1, 7, 8, 21, 22, 23, 24, 25, 26, 27, 28, 29, 30, 31, 32, 33, 34, 35, 36, 37, 38, 39, 40, 41] (by decide +kernel) (by decide +kernel)
set_option maxRecDepth 20000 in
theorem gX5_left_X5_letCosts : GoodIn wsX5_left (wsV RX5 179 RX5 yX5_letCosts wsX5_letCosts) := goodIn_app (goodIn_of _ (by decide +kernel)) ggX5_left_X5_letCosts
set_option maxRecDepth 20000 in
theorem ggX5_left_X5_paidFor : GoodIn wsX5_left wsX5_paidFor := goodIn_r _ [12, 13, 7, 14, 8, 15, 16, 17, 18, 5, 19, 20, 21, 22, 23, 24, 25, 26, 27, 28, 29, 30, 31, 32, 33, 34, 35, 36, 37, 38, 39, 40, 41] (by decide +kernel) (by decide +kernel)
set_option maxRecDepth 20000 in
theorem gX5_left_X5_paidFor : GoodIn wsX5_left (wsV RX5 176 RX5 yX5_paidFor wsX5_paidFor) := goodIn_app (goodIn_of _ (by decide +kernel)) ggX5_left_X5_paidFor
theorem dX5_left_0 : decode cX5_left 0 = .ok (.aload_n 0, 1) := by decide +kernel
theorem dX5_left_1 : decode cX5_left 1 = .ok (.invokevirtual 179, 3) := by decide +kernel
theorem dX5_left_4 : decode cX5_left 4 = .ok (.istore_n 1, 1) := by decide +kernel
theorem dX5_left_5 : decode cX5_left 5 = .ok (.iconst 0, 1) := by decide +kernel
theorem dX5_left_6 : decode cX5_left 6 = .ok (.istore_n 2, 1) := by decide +kernel
theorem dX5_left_7 : decode cX5_left 7 = .ok (.iload_n 2, 1) := by decide +kernel
theorem dX5_left_8 : decode cX5_left 8 = .ok (.aload_n 0, 1) := by decide +kernel
theorem dX5_left_9 : decode cX5_left 9 = .ok (.getfield 102, 3) := by decide +kernel
theorem dX5_left_12 : decode cX5_left 12 = .ok (.if_icmp .ge 18, 3) := by decide +kernel
theorem dX5_left_15 : decode cX5_left 15 = .ok (.iload_n 1, 1) := by decide +kernel
theorem dX5_left_16 : decode cX5_left 16 = .ok (.aload_n 0, 1) := by decide +kernel
theorem dX5_left_17 : decode cX5_left 17 = .ok (.iload_n 2, 1) := by decide +kernel
theorem dX5_left_18 : decode cX5_left 18 = .ok (.iconst (-1), 1) := by decide +kernel
theorem dX5_left_19 : decode cX5_left 19 = .ok (.invokevirtual 176, 3) := by decide +kernel
theorem dX5_left_22 : decode cX5_left 22 = .ok (.isub, 1) := by decide +kernel
theorem dX5_left_23 : decode cX5_left 23 = .ok (.istore_n 1, 1) := by decide +kernel
theorem dX5_left_24 : decode cX5_left 24 = .ok (.iinc 2 1, 3) := by decide +kernel
theorem dX5_left_27 : decode cX5_left 27 = .ok (.goto (-20), 3) := by decide +kernel
theorem dX5_left_30 : decode cX5_left 30 = .ok (.iload_n 1, 1) := by decide +kernel
theorem dX5_left_31 : decode cX5_left 31 = .ok (.ireturn, 1) := by decide +kernel
set_option maxRecDepth 20000 in
theorem ggX5_isCalled_X5_in : GoodIn wsX5_isCalled wsX5_in := goodIn_r _ [10] (by decide +kernel) (by decide +kernel)
set_option maxRecDepth 20000 in
theorem gX5_isCalled_X5_in : GoodIn wsX5_isCalled (va_wsS RX5 66 yX5_in wsX5_in) := goodIn_app (goodIn_of _ (by decide +kernel)) ggX5_isCalled_X5_in
set_option maxRecDepth 20000 in
theorem ggX5_isCalled_X5_isUnder : GoodIn wsX5_isCalled wsX5_isUnder := goodIn_r _ [14, 15, 16, 17, 18, 19, 20, 21, 22, 23, 24, 25, 26, 27, 28, 29, 30, 31, 32, 33, 34, 35, 36] (by decide +kernel) (by decide +kernel)
set_option maxRecDepth 20000 in
theorem gX5_isCalled_X5_isUnder : GoodIn wsX5_isCalled (wsV RX5 166 RX5 yX5_isUnder wsX5_isUnder) := goodIn_app (goodIn_of _ (by decide +kernel)) ggX5_isCalled_X5_isUnder
theorem dX5_isCalled_0 : decode cX5_isCalled 0 = .ok (.iload_n 3, 1) := by decide +kernel
theorem dX5_isCalled_1 : decode cX5_isCalled 1 = .ok (.aload_n 0, 1) := by decide +kernel
theorem dX5_isCalled_2 : decode cX5_isCalled 2 = .ok (.getfield 16, 3) := by decide +kernel
theorem dX5_isCalled_5 : decode cX5_isCalled 5 = .ok (.iload_n 1, 1) := by decide +kernel
theorem dX5_isCalled_6 : decode cX5_isCalled 6 = .ok (.iaload, 1) := by decide +kernel
theorem dX5_isCalled_7 : decode cX5_isCalled 7 = .ok (.ishr, 1) := by decide +kernel
theorem dX5_isCalled_8 : decode cX5_isCalled 8 = .ok (.iconst 1, 1) := by decide +kernel
theorem dX5_isCalled_9 : decode cX5_isCalled 9 = .ok (.iand, 1) := by decide +kernel
theorem dX5_isCalled_10 : decode cX5_isCalled 10 = .ok (.iconst 1, 1) := by decide +kernel
theorem dX5_isCalled_11 : decode cX5_isCalled 11 = .ok (.if_icmp .ne 26, 3) := by decide +kernel
theorem dX5_isCalled_14 : decode cX5_isCalled 14 = .ok (.aload_n 0, 1) := by decide +kernel
theorem dX5_isCalled_15 : decode cX5_isCalled 15 = .ok (.getfield 19, 3) := by decide +kernel
theorem dX5_isCalled_18 : decode cX5_isCalled 18 = .ok (.iload_n 1, 1) := by decide +kernel
theorem dX5_isCalled_19 : decode cX5_isCalled 19 = .ok (.iaload, 1) := by decide +kernel
theorem dX5_isCalled_20 : decode cX5_isCalled 20 = .ok (.i2l, 1) := by decide +kernel
theorem dX5_isCalled_21 : decode cX5_isCalled 21 = .ok (.iload 4, 2) := by decide +kernel
theorem dX5_isCalled_23 : decode cX5_isCalled 23 = .ok (.i2l, 1) := by decide +kernel
theorem dX5_isCalled_24 : decode cX5_isCalled 24 = .ok (.iload 5, 2) := by decide +kernel
theorem dX5_isCalled_26 : decode cX5_isCalled 26 = .ok (.i2l, 1) := by decide +kernel
theorem dX5_isCalled_27 : decode cX5_isCalled 27 = .ok (.invokestatic 66, 3) := by decide +kernel
theorem dX5_isCalled_30 : decode cX5_isCalled 30 = .ok (.ifCond .eq 7, 3) := by decide +kernel
theorem dX5_isCalled_33 : decode cX5_isCalled 33 = .ok (.iconst 1, 1) := by decide +kernel
theorem dX5_isCalled_34 : decode cX5_isCalled 34 = .ok (.goto 4, 3) := by decide +kernel
theorem dX5_isCalled_37 : decode cX5_isCalled 37 = .ok (.iconst 0, 1) := by decide +kernel
theorem dX5_isCalled_38 : decode cX5_isCalled 38 = .ok (.istore 6, 2) := by decide +kernel
theorem dX5_isCalled_40 : decode cX5_isCalled 40 = .ok (.iconst 0, 1) := by decide +kernel
theorem dX5_isCalled_41 : decode cX5_isCalled 41 = .ok (.istore 7, 2) := by decide +kernel
theorem dX5_isCalled_43 : decode cX5_isCalled 43 = .ok (.iload 7, 2) := by decide +kernel
theorem dX5_isCalled_45 : decode cX5_isCalled 45 = .ok (.aload_n 0, 1) := by decide +kernel
theorem dX5_isCalled_46 : decode cX5_isCalled 46 = .ok (.getfield 102, 3) := by decide +kernel
theorem dX5_isCalled_49 : decode cX5_isCalled 49 = .ok (.if_icmp .ge 57, 3) := by decide +kernel
theorem dX5_isCalled_52 : decode cX5_isCalled 52 = .ok (.iload 6, 2) := by decide +kernel
theorem dX5_isCalled_54 : decode cX5_isCalled 54 = .ok (.ifCond .eq 43, 3) := by decide +kernel
theorem dX5_isCalled_57 : decode cX5_isCalled 57 = .ok (.aload_n 0, 1) := by decide +kernel
theorem dX5_isCalled_58 : decode cX5_isCalled 58 = .ok (.getfield 47, 3) := by decide +kernel
theorem dX5_isCalled_61 : decode cX5_isCalled 61 = .ok (.iload 7, 2) := by decide +kernel
theorem dX5_isCalled_63 : decode cX5_isCalled 63 = .ok (.iaload, 1) := by decide +kernel
theorem dX5_isCalled_64 : decode cX5_isCalled 64 = .ok (.ifCond .ne 29, 3) := by decide +kernel
theorem dX5_isCalled_67 : decode cX5_isCalled 67 = .ok (.aload_n 0, 1) := by decide +kernel
theorem dX5_isCalled_68 : decode cX5_isCalled 68 = .ok (.getfield 32, 3) := by decide +kernel
theorem dX5_isCalled_71 : decode cX5_isCalled 71 = .ok (.iload 7, 2) := by decide +kernel
theorem dX5_isCalled_73 : decode cX5_isCalled 73 = .ok (.iaload, 1) := by decide +kernel
theorem dX5_isCalled_74 : decode cX5_isCalled 74 = .ok (.iload_n 1, 1) := by decide +kernel
theorem dX5_isCalled_75 : decode cX5_isCalled 75 = .ok (.if_icmp .ne 18, 3) := by decide +kernel
theorem dX5_isCalled_78 : decode cX5_isCalled 78 = .ok (.aload_n 0, 1) := by decide +kernel
theorem dX5_isCalled_79 : decode cX5_isCalled 79 = .ok (.aload_n 0, 1) := by decide +kernel
theorem dX5_isCalled_80 : decode cX5_isCalled 80 = .ok (.getfield 35, 3) := by decide +kernel
theorem dX5_isCalled_83 : decode cX5_isCalled 83 = .ok (.iload 7, 2) := by decide +kernel
theorem dX5_isCalled_85 : decode cX5_isCalled 85 = .ok (.iaload, 1) := by decide +kernel
theorem dX5_isCalled_86 : decode cX5_isCalled 86 = .ok (.iload_n 2, 1) := by decide +kernel
theorem dX5_isCalled_87 : decode cX5_isCalled 87 = .ok (.invokevirtual 166, 3) := by decide +kernel
theorem dX5_isCalled_90 : decode cX5_isCalled 90 = .ok (.ifCond .ne 7, 3) := by decide +kernel
theorem dX5_isCalled_93 : decode cX5_isCalled 93 = .ok (.iconst 1, 1) := by decide +kernel
theorem dX5_isCalled_94 : decode cX5_isCalled 94 = .ok (.goto 4, 3) := by decide +kernel
theorem dX5_isCalled_97 : decode cX5_isCalled 97 = .ok (.iconst 0, 1) := by decide +kernel
theorem dX5_isCalled_98 : decode cX5_isCalled 98 = .ok (.istore 6, 2) := by decide +kernel
theorem dX5_isCalled_100 : decode cX5_isCalled 100 = .ok (.iinc 7 1, 3) := by decide +kernel
theorem dX5_isCalled_103 : decode cX5_isCalled 103 = .ok (.goto (-60), 3) := by decide +kernel
theorem dX5_isCalled_106 : decode cX5_isCalled 106 = .ok (.iload 6, 2) := by decide +kernel
theorem dX5_isCalled_108 : decode cX5_isCalled 108 = .ok (.ireturn, 1) := by decide +kernel
set_option maxRecDepth 20000 in
theorem ggX5_isCall_X5_in : GoodIn wsX5_isCall wsX5_in := goodIn_r _ [7] (by decide +kernel) (by decide +kernel)
set_option maxRecDepth 20000 in
theorem gX5_isCall_X5_in : GoodIn wsX5_isCall (va_wsS RX5 66 yX5_in wsX5_in) := goodIn_app (goodIn_of _ (by decide +kernel)) ggX5_isCall_X5_in
theorem dX5_isCall_0 : decode cX5_isCall 0 = .ok (.iload_n 0, 1) := by decide +kernel
theorem dX5_isCall_1 : decode cX5_isCall 1 = .ok (.i2l, 1) := by decide +kernel
theorem dX5_isCall_2 : decode cX5_isCall 2 = .ok (.lconst 0, 1) := by decide +kernel
theorem dX5_isCall_3 : decode cX5_isCall 3 = .ok (.ldc2_w 109, 3) := by decide +kernel
theorem dX5_isCall_6 : decode cX5_isCall 6 = .ok (.invokestatic 66, 3) := by decide +kernel
theorem dX5_isCall_9 : decode cX5_isCall 9 = .ok (.ifCond .eq 44, 3) := by decide +kernel
theorem dX5_isCall_12 : decode cX5_isCall 12 = .ok (.iload_n 1, 1) := by decide +kernel
theorem dX5_isCall_13 : decode cX5_isCall 13 = .ok (.i2l, 1) := by decide +kernel
theorem dX5_isCall_14 : decode cX5_isCall 14 = .ok (.lconst 1, 1) := by decide +kernel
theorem dX5_isCall_15 : decode cX5_isCall 15 = .ok (.ldc2_w 183, 3) := by decide +kernel
theorem dX5_isCall_18 : decode cX5_isCall 18 = .ok (.invokestatic 66, 3) := by decide +kernel
theorem dX5_isCall_21 : decode cX5_isCall 21 = .ok (.ifCond .eq 32, 3) := by decide +kernel
theorem dX5_isCall_24 : decode cX5_isCall 24 = .ok (.iload_n 2, 1) := by decide +kernel
theorem dX5_isCall_25 : decode cX5_isCall 25 = .ok (.i2l, 1) := by decide +kernel
theorem dX5_isCall_26 : decode cX5_isCall 26 = .ok (.lconst 0, 1) := by decide +kernel
theorem dX5_isCall_27 : decode cX5_isCall 27 = .ok (.ldc2_w 75, 3) := by decide +kernel
theorem dX5_isCall_30 : decode cX5_isCall 30 = .ok (.invokestatic 66, 3) := by decide +kernel
theorem dX5_isCall_33 : decode cX5_isCall 33 = .ok (.ifCond .eq 20, 3) := by decide +kernel
theorem dX5_isCall_36 : decode cX5_isCall 36 = .ok (.iload_n 3, 1) := by decide +kernel
theorem dX5_isCall_37 : decode cX5_isCall 37 = .ok (.i2l, 1) := by decide +kernel
theorem dX5_isCall_38 : decode cX5_isCall 38 = .ok (.iload_n 2, 1) := by decide +kernel
theorem dX5_isCall_39 : decode cX5_isCall 39 = .ok (.i2l, 1) := by decide +kernel
theorem dX5_isCall_40 : decode cX5_isCall 40 = .ok (.ldc2_w 75, 3) := by decide +kernel
theorem dX5_isCall_43 : decode cX5_isCall 43 = .ok (.invokestatic 66, 3) := by decide +kernel
theorem dX5_isCall_46 : decode cX5_isCall 46 = .ok (.ifCond .eq 7, 3) := by decide +kernel
theorem dX5_isCall_49 : decode cX5_isCall 49 = .ok (.iconst 1, 1) := by decide +kernel
theorem dX5_isCall_50 : decode cX5_isCall 50 = .ok (.goto 4, 3) := by decide +kernel
theorem dX5_isCall_53 : decode cX5_isCall 53 = .ok (.iconst 0, 1) := by decide +kernel
theorem dX5_isCall_54 : decode cX5_isCall 54 = .ok (.ireturn, 1) := by decide +kernel
set_option maxRecDepth 20000 in
theorem ggX5_called_X5_isCall : GoodIn wsX5_called wsX5_isCall := goodIn_r _ [5, 6, 7, 8, 9, 10, 4, 11] (by decide +kernel) (by decide +kernel)
set_option maxRecDepth 20000 in
theorem gX5_called_X5_isCall : GoodIn wsX5_called (va_wsS RX5 185 yX5_isCall wsX5_isCall) := goodIn_app (goodIn_of _ (by decide +kernel)) ggX5_called_X5_isCall
set_option maxRecDepth 20000 in
theorem ggX5_called_X5_isCalled : GoodIn wsX5_called wsX5_isCalled := goodIn_r _ [15, 16, 17, 18, 19, 20, 21, 9, 10, 4, 11, 22, 23, 24, 25, 26, 27, 28, 29, 30, 31, 32, 33, 34, 35, 36, 37, 38, 39, 40, 41, 42, 43, 44, 45, 46, 47] (by decide +kernel) (by decide +kernel)
set_option maxRecDepth 20000 in
theorem gX5_called_X5_isCalled : GoodIn wsX5_called (wsV RX5 188 RX5 yX5_isCalled wsX5_isCalled) := goodIn_app (goodIn_of _ (by decide +kernel)) ggX5_called_X5_isCalled
theorem dX5_called_0 : decode cX5_called 0 = .ok (.iload_n 1, 1) := by decide +kernel
theorem dX5_called_1 : decode cX5_called 1 = .ok (.iload_n 2, 1) := by decide +kernel
theorem dX5_called_2 : decode cX5_called 2 = .ok (.iload_n 3, 1) := by decide +kernel
theorem dX5_called_3 : decode cX5_called 3 = .ok (.iload 4, 2) := by decide +kernel
theorem dX5_called_5 : decode cX5_called 5 = .ok (.invokestatic 185, 3) := by decide +kernel
theorem dX5_called_8 : decode cX5_called 8 = .ok (.ifCond .ne 6, 3) := by decide +kernel
theorem dX5_called_11 : decode cX5_called 11 = .ok (.bipush (-2), 2) := by decide +kernel
theorem dX5_called_13 : decode cX5_called 13 = .ok (.ireturn, 1) := by decide +kernel
theorem dX5_called_14 : decode cX5_called 14 = .ok (.iconst 0, 1) := by decide +kernel
theorem dX5_called_15 : decode cX5_called 15 = .ok (.istore 5, 2) := by decide +kernel
theorem dX5_called_17 : decode cX5_called 17 = .ok (.iconst 0, 1) := by decide +kernel
theorem dX5_called_18 : decode cX5_called 18 = .ok (.istore 6, 2) := by decide +kernel
theorem dX5_called_20 : decode cX5_called 20 = .ok (.iload 6, 2) := by decide +kernel
theorem dX5_called_22 : decode cX5_called 22 = .ok (.aload_n 0, 1) := by decide +kernel
theorem dX5_called_23 : decode cX5_called 23 = .ok (.getfield 70, 3) := by decide +kernel
theorem dX5_called_26 : decode cX5_called 26 = .ok (.if_icmp .ge 33, 3) := by decide +kernel
theorem dX5_called_29 : decode cX5_called 29 = .ok (.iload 5, 2) := by decide +kernel
theorem dX5_called_31 : decode cX5_called 31 = .ok (.aload_n 0, 1) := by decide +kernel
theorem dX5_called_32 : decode cX5_called 32 = .ok (.iload 6, 2) := by decide +kernel
theorem dX5_called_34 : decode cX5_called 34 = .ok (.iload_n 1, 1) := by decide +kernel
theorem dX5_called_35 : decode cX5_called 35 = .ok (.iload_n 2, 1) := by decide +kernel
theorem dX5_called_36 : decode cX5_called 36 = .ok (.iload_n 3, 1) := by decide +kernel
theorem dX5_called_37 : decode cX5_called 37 = .ok (.iload 4, 2) := by decide +kernel
theorem dX5_called_39 : decode cX5_called 39 = .ok (.invokevirtual 188, 3) := by decide +kernel
theorem dX5_called_42 : decode cX5_called 42 = .ok (.ifCond .eq 7, 3) := by decide +kernel
theorem dX5_called_45 : decode cX5_called 45 = .ok (.iconst 1, 1) := by decide +kernel
theorem dX5_called_46 : decode cX5_called 46 = .ok (.goto 4, 3) := by decide +kernel
theorem dX5_called_49 : decode cX5_called 49 = .ok (.iconst 0, 1) := by decide +kernel
theorem dX5_called_50 : decode cX5_called 50 = .ok (.iadd, 1) := by decide +kernel
theorem dX5_called_51 : decode cX5_called 51 = .ok (.istore 5, 2) := by decide +kernel
theorem dX5_called_53 : decode cX5_called 53 = .ok (.iinc 6 1, 3) := by decide +kernel
theorem dX5_called_56 : decode cX5_called 56 = .ok (.goto (-36), 3) := by decide +kernel
theorem dX5_called_59 : decode cX5_called 59 = .ok (.iload 5, 2) := by decide +kernel
theorem dX5_called_61 : decode cX5_called 61 = .ok (.ireturn, 1) := by decide +kernel
set_option maxRecDepth 20000 in
theorem ggX5_calledAt_X5_isCall : GoodIn wsX5_calledAt wsX5_isCall := goodIn_r _ [5, 6, 7, 8, 9, 10, 4, 11] (by decide +kernel) (by decide +kernel)
set_option maxRecDepth 20000 in
theorem gX5_calledAt_X5_isCall : GoodIn wsX5_calledAt (va_wsS RX5 185 yX5_isCall wsX5_isCall) := goodIn_app (goodIn_of _ (by decide +kernel)) ggX5_calledAt_X5_isCall
set_option maxRecDepth 20000 in
theorem ggX5_calledAt_X5_isCalled : GoodIn wsX5_calledAt wsX5_isCalled := goodIn_r _ [15, 16, 17, 18, 19, 20, 21, 9, 10, 4, 11, 22, 23, 24, 25, 26, 27, 28, 29, 30, 31, 32, 33, 34, 35, 36, 37, 38, 39, 40, 41, 42, 43, 44, 45, 46, 47] (by decide +kernel) (by decide +kernel)
set_option maxRecDepth 20000 in
theorem gX5_calledAt_X5_isCalled : GoodIn wsX5_calledAt (wsV RX5 188 RX5 yX5_isCalled wsX5_isCalled) := goodIn_app (goodIn_of _ (by decide +kernel)) ggX5_calledAt_X5_isCalled
theorem dX5_calledAt_0 : decode cX5_calledAt 0 = .ok (.iload_n 1, 1) := by decide +kernel
theorem dX5_calledAt_1 : decode cX5_calledAt 1 = .ok (.iload_n 2, 1) := by decide +kernel
theorem dX5_calledAt_2 : decode cX5_calledAt 2 = .ok (.iload_n 3, 1) := by decide +kernel
theorem dX5_calledAt_3 : decode cX5_calledAt 3 = .ok (.iload 4, 2) := by decide +kernel
theorem dX5_calledAt_5 : decode cX5_calledAt 5 = .ok (.invokestatic 185, 3) := by decide +kernel
theorem dX5_calledAt_8 : decode cX5_calledAt 8 = .ok (.ifCond .eq 8, 3) := by decide +kernel
theorem dX5_calledAt_11 : decode cX5_calledAt 11 = .ok (.iload 5, 2) := by decide +kernel
theorem dX5_calledAt_13 : decode cX5_calledAt 13 = .ok (.ifCond .ge 6, 3) := by decide +kernel
theorem dX5_calledAt_16 : decode cX5_calledAt 16 = .ok (.bipush (-2), 2) := by decide +kernel
theorem dX5_calledAt_18 : decode cX5_calledAt 18 = .ok (.ireturn, 1) := by decide +kernel
theorem dX5_calledAt_19 : decode cX5_calledAt 19 = .ok (.iconst 0, 1) := by decide +kernel
theorem dX5_calledAt_20 : decode cX5_calledAt 20 = .ok (.istore 6, 2) := by decide +kernel
theorem dX5_calledAt_22 : decode cX5_calledAt 22 = .ok (.iconst (-1), 1) := by decide +kernel
theorem dX5_calledAt_23 : decode cX5_calledAt 23 = .ok (.istore 7, 2) := by decide +kernel
theorem dX5_calledAt_25 : decode cX5_calledAt 25 = .ok (.iconst 0, 1) := by decide +kernel
theorem dX5_calledAt_26 : decode cX5_calledAt 26 = .ok (.istore 8, 2) := by decide +kernel
theorem dX5_calledAt_28 : decode cX5_calledAt 28 = .ok (.iload 8, 2) := by decide +kernel
theorem dX5_calledAt_30 : decode cX5_calledAt 30 = .ok (.aload_n 0, 1) := by decide +kernel
theorem dX5_calledAt_31 : decode cX5_calledAt 31 = .ok (.getfield 70, 3) := by decide +kernel
theorem dX5_calledAt_34 : decode cX5_calledAt 34 = .ok (.if_icmp .ge 42, 3) := by decide +kernel
theorem dX5_calledAt_37 : decode cX5_calledAt 37 = .ok (.aload_n 0, 1) := by decide +kernel
theorem dX5_calledAt_38 : decode cX5_calledAt 38 = .ok (.iload 8, 2) := by decide +kernel
theorem dX5_calledAt_40 : decode cX5_calledAt 40 = .ok (.iload_n 1, 1) := by decide +kernel
theorem dX5_calledAt_41 : decode cX5_calledAt 41 = .ok (.iload_n 2, 1) := by decide +kernel
theorem dX5_calledAt_42 : decode cX5_calledAt 42 = .ok (.iload_n 3, 1) := by decide +kernel
theorem dX5_calledAt_43 : decode cX5_calledAt 43 = .ok (.iload 4, 2) := by decide +kernel
theorem dX5_calledAt_45 : decode cX5_calledAt 45 = .ok (.invokevirtual 188, 3) := by decide +kernel
theorem dX5_calledAt_48 : decode cX5_calledAt 48 = .ok (.ifCond .eq 22, 3) := by decide +kernel
theorem dX5_calledAt_51 : decode cX5_calledAt 51 = .ok (.iload 6, 2) := by decide +kernel
theorem dX5_calledAt_53 : decode cX5_calledAt 53 = .ok (.iload 5, 2) := by decide +kernel
theorem dX5_calledAt_55 : decode cX5_calledAt 55 = .ok (.if_icmp .ne 8, 3) := by decide +kernel
theorem dX5_calledAt_58 : decode cX5_calledAt 58 = .ok (.iload 8, 2) := by decide +kernel
theorem dX5_calledAt_60 : decode cX5_calledAt 60 = .ok (.goto 5, 3) := by decide +kernel
theorem dX5_calledAt_63 : decode cX5_calledAt 63 = .ok (.iload 7, 2) := by decide +kernel
theorem dX5_calledAt_65 : decode cX5_calledAt 65 = .ok (.istore 7, 2) := by decide +kernel
theorem dX5_calledAt_67 : decode cX5_calledAt 67 = .ok (.iinc 6 1, 3) := by decide +kernel
theorem dX5_calledAt_70 : decode cX5_calledAt 70 = .ok (.iinc 8 1, 3) := by decide +kernel
theorem dX5_calledAt_73 : decode cX5_calledAt 73 = .ok (.goto (-45), 3) := by decide +kernel
theorem dX5_calledAt_76 : decode cX5_calledAt 76 = .ok (.iload 7, 2) := by decide +kernel
theorem dX5_calledAt_78 : decode cX5_calledAt 78 = .ok (.ireturn, 1) := by decide +kernel
theorem dX5_judgedAs_0 : decode cX5_judgedAs 0 = .ok (.iconst 0, 1) := by decide +kernel
theorem dX5_judgedAs_1 : decode cX5_judgedAs 1 = .ok (.istore_n 2, 1) := by decide +kernel
theorem dX5_judgedAs_2 : decode cX5_judgedAs 2 = .ok (.iconst 0, 1) := by decide +kernel
theorem dX5_judgedAs_3 : decode cX5_judgedAs 3 = .ok (.istore_n 3, 1) := by decide +kernel
theorem dX5_judgedAs_4 : decode cX5_judgedAs 4 = .ok (.iload_n 3, 1) := by decide +kernel
theorem dX5_judgedAs_5 : decode cX5_judgedAs 5 = .ok (.aload_n 0, 1) := by decide +kernel
theorem dX5_judgedAs_6 : decode cX5_judgedAs 6 = .ok (.getfield 102, 3) := by decide +kernel
theorem dX5_judgedAs_9 : decode cX5_judgedAs 9 = .ok (.if_icmp .ge 27, 3) := by decide +kernel
theorem dX5_judgedAs_12 : decode cX5_judgedAs 12 = .ok (.iload_n 2, 1) := by decide +kernel
theorem dX5_judgedAs_13 : decode cX5_judgedAs 13 = .ok (.aload_n 0, 1) := by decide +kernel
theorem dX5_judgedAs_14 : decode cX5_judgedAs 14 = .ok (.getfield 47, 3) := by decide +kernel
theorem dX5_judgedAs_17 : decode cX5_judgedAs 17 = .ok (.iload_n 3, 1) := by decide +kernel
theorem dX5_judgedAs_18 : decode cX5_judgedAs 18 = .ok (.iaload, 1) := by decide +kernel
theorem dX5_judgedAs_19 : decode cX5_judgedAs 19 = .ok (.iload_n 1, 1) := by decide +kernel
theorem dX5_judgedAs_20 : decode cX5_judgedAs 20 = .ok (.if_icmp .ne 7, 3) := by decide +kernel
theorem dX5_judgedAs_23 : decode cX5_judgedAs 23 = .ok (.iconst 1, 1) := by decide +kernel
theorem dX5_judgedAs_24 : decode cX5_judgedAs 24 = .ok (.goto 4, 3) := by decide +kernel
theorem dX5_judgedAs_27 : decode cX5_judgedAs 27 = .ok (.iconst 0, 1) := by decide +kernel
theorem dX5_judgedAs_28 : decode cX5_judgedAs 28 = .ok (.iadd, 1) := by decide +kernel
theorem dX5_judgedAs_29 : decode cX5_judgedAs 29 = .ok (.istore_n 2, 1) := by decide +kernel
theorem dX5_judgedAs_30 : decode cX5_judgedAs 30 = .ok (.iinc 3 1, 3) := by decide +kernel
theorem dX5_judgedAs_33 : decode cX5_judgedAs 33 = .ok (.goto (-29), 3) := by decide +kernel
theorem dX5_judgedAs_36 : decode cX5_judgedAs 36 = .ok (.iload_n 2, 1) := by decide +kernel
theorem dX5_judgedAs_37 : decode cX5_judgedAs 37 = .ok (.ireturn, 1) := by decide +kernel
theorem dX5_thingsWithClaims_0 : decode cX5_thingsWithClaims 0 = .ok (.iconst 0, 1) := by decide +kernel
theorem dX5_thingsWithClaims_1 : decode cX5_thingsWithClaims 1 = .ok (.istore_n 1, 1) := by decide +kernel
theorem dX5_thingsWithClaims_2 : decode cX5_thingsWithClaims 2 = .ok (.iconst 0, 1) := by decide +kernel
theorem dX5_thingsWithClaims_3 : decode cX5_thingsWithClaims 3 = .ok (.istore_n 2, 1) := by decide +kernel
theorem dX5_thingsWithClaims_4 : decode cX5_thingsWithClaims 4 = .ok (.iload_n 2, 1) := by decide +kernel
theorem dX5_thingsWithClaims_5 : decode cX5_thingsWithClaims 5 = .ok (.aload_n 0, 1) := by decide +kernel
theorem dX5_thingsWithClaims_6 : decode cX5_thingsWithClaims 6 = .ok (.getfield 70, 3) := by decide +kernel
theorem dX5_thingsWithClaims_9 : decode cX5_thingsWithClaims 9 = .ok (.if_icmp .ge 72, 3) := by decide +kernel
theorem dX5_thingsWithClaims_12 : decode cX5_thingsWithClaims 12 = .ok (.iconst 0, 1) := by decide +kernel
theorem dX5_thingsWithClaims_13 : decode cX5_thingsWithClaims 13 = .ok (.istore_n 3, 1) := by decide +kernel
theorem dX5_thingsWithClaims_14 : decode cX5_thingsWithClaims 14 = .ok (.iconst 0, 1) := by decide +kernel
theorem dX5_thingsWithClaims_15 : decode cX5_thingsWithClaims 15 = .ok (.istore 4, 2) := by decide +kernel
theorem dX5_thingsWithClaims_17 : decode cX5_thingsWithClaims 17 = .ok (.iload 4, 2) := by decide +kernel
theorem dX5_thingsWithClaims_19 : decode cX5_thingsWithClaims 19 = .ok (.aload_n 0, 1) := by decide +kernel
theorem dX5_thingsWithClaims_20 : decode cX5_thingsWithClaims 20 = .ok (.getfield 102, 3) := by decide +kernel
theorem dX5_thingsWithClaims_23 : decode cX5_thingsWithClaims 23 = .ok (.if_icmp .ge 40, 3) := by decide +kernel
theorem dX5_thingsWithClaims_26 : decode cX5_thingsWithClaims 26 = .ok (.iload_n 3, 1) := by decide +kernel
theorem dX5_thingsWithClaims_27 : decode cX5_thingsWithClaims 27 = .ok (.ifCond .ne 24, 3) := by decide +kernel
theorem dX5_thingsWithClaims_30 : decode cX5_thingsWithClaims 30 = .ok (.aload_n 0, 1) := by decide +kernel
theorem dX5_thingsWithClaims_31 : decode cX5_thingsWithClaims 31 = .ok (.getfield 47, 3) := by decide +kernel
theorem dX5_thingsWithClaims_34 : decode cX5_thingsWithClaims 34 = .ok (.iload 4, 2) := by decide +kernel
theorem dX5_thingsWithClaims_36 : decode cX5_thingsWithClaims 36 = .ok (.iaload, 1) := by decide +kernel
theorem dX5_thingsWithClaims_37 : decode cX5_thingsWithClaims 37 = .ok (.ifCond .ne 18, 3) := by decide +kernel
theorem dX5_thingsWithClaims_40 : decode cX5_thingsWithClaims 40 = .ok (.aload_n 0, 1) := by decide +kernel
theorem dX5_thingsWithClaims_41 : decode cX5_thingsWithClaims 41 = .ok (.getfield 32, 3) := by decide +kernel
theorem dX5_thingsWithClaims_44 : decode cX5_thingsWithClaims 44 = .ok (.iload 4, 2) := by decide +kernel
theorem dX5_thingsWithClaims_46 : decode cX5_thingsWithClaims 46 = .ok (.iaload, 1) := by decide +kernel
theorem dX5_thingsWithClaims_47 : decode cX5_thingsWithClaims 47 = .ok (.iload_n 2, 1) := by decide +kernel
theorem dX5_thingsWithClaims_48 : decode cX5_thingsWithClaims 48 = .ok (.if_icmp .ne 7, 3) := by decide +kernel
theorem dX5_thingsWithClaims_51 : decode cX5_thingsWithClaims 51 = .ok (.iconst 1, 1) := by decide +kernel
theorem dX5_thingsWithClaims_52 : decode cX5_thingsWithClaims 52 = .ok (.goto 4, 3) := by decide +kernel
theorem dX5_thingsWithClaims_55 : decode cX5_thingsWithClaims 55 = .ok (.iconst 0, 1) := by decide +kernel
theorem dX5_thingsWithClaims_56 : decode cX5_thingsWithClaims 56 = .ok (.istore_n 3, 1) := by decide +kernel
theorem dX5_thingsWithClaims_57 : decode cX5_thingsWithClaims 57 = .ok (.iinc 4 1, 3) := by decide +kernel
theorem dX5_thingsWithClaims_60 : decode cX5_thingsWithClaims 60 = .ok (.goto (-43), 3) := by decide +kernel
theorem dX5_thingsWithClaims_63 : decode cX5_thingsWithClaims 63 = .ok (.iload_n 1, 1) := by decide +kernel
theorem dX5_thingsWithClaims_64 : decode cX5_thingsWithClaims 64 = .ok (.iload_n 3, 1) := by decide +kernel
theorem dX5_thingsWithClaims_65 : decode cX5_thingsWithClaims 65 = .ok (.ifCond .eq 7, 3) := by decide +kernel
theorem dX5_thingsWithClaims_68 : decode cX5_thingsWithClaims 68 = .ok (.iconst 1, 1) := by decide +kernel
theorem dX5_thingsWithClaims_69 : decode cX5_thingsWithClaims 69 = .ok (.goto 4, 3) := by decide +kernel
theorem dX5_thingsWithClaims_72 : decode cX5_thingsWithClaims 72 = .ok (.iconst 0, 1) := by decide +kernel
theorem dX5_thingsWithClaims_73 : decode cX5_thingsWithClaims 73 = .ok (.iadd, 1) := by decide +kernel
theorem dX5_thingsWithClaims_74 : decode cX5_thingsWithClaims 74 = .ok (.istore_n 1, 1) := by decide +kernel
theorem dX5_thingsWithClaims_75 : decode cX5_thingsWithClaims 75 = .ok (.iinc 2 1, 3) := by decide +kernel
theorem dX5_thingsWithClaims_78 : decode cX5_thingsWithClaims 78 = .ok (.goto (-74), 3) := by decide +kernel
theorem dX5_thingsWithClaims_81 : decode cX5_thingsWithClaims 81 = .ok (.iload_n 1, 1) := by decide +kernel
theorem dX5_thingsWithClaims_82 : decode cX5_thingsWithClaims 82 = .ok (.ireturn, 1) := by decide +kernel
set_option maxRecDepth 20000 in
theorem ggX5_count_X5_judgedAs : GoodIn wsX5_count wsX5_judgedAs := goodIn_r _ [7, 2, 8, 19, 20, 21, 22, 23, 24, 25, 26, 27, 28, 29, 30, 31, 32, 33, 34, 35, 36, 37, 38, 39] (by decide +kernel) (by decide +kernel)
set_option maxRecDepth 20000 in
theorem gX5_count_X5_judgedAs : GoodIn wsX5_count (wsV RX5 192 RX5 yX5_judgedAs wsX5_judgedAs) := goodIn_app (goodIn_of _ (by decide +kernel)) ggX5_count_X5_judgedAs
set_option maxRecDepth 20000 in
theorem ggX5_count_X5_thingsWithClaims : GoodIn wsX5_count wsX5_thingsWithClaims := goodIn_r _ [12, 1, 2, 8, 13, 19, 20, 21, 22, 23, 24, 25, 26, 27, 28, 29, 30, 31, 32, 33, 34, 35, 36, 37, 38, 39] (by decide +kernel) (by decide +kernel)
set_option maxRecDepth 20000 in
theorem gX5_count_X5_thingsWithClaims : GoodIn wsX5_count (wsV RX5 195 RX5 yX5_thingsWithClaims wsX5_thingsWithClaims) := goodIn_app (goodIn_of _ (by decide +kernel)) ggX5_count_X5_thingsWithClaims
set_option maxRecDepth 20000 in
theorem ggX5_count_X5_letCosts : GoodIn wsX5_count wsX5_letCosts := goodIn_r _ [17, 2, 8, 18, 19, 20, 21, 22, 23, 24, 25, 26, 27, 28, 29, 30, 31, 32, 33, 34, 35, 36, 37, 38, 39] (by decide +kernel) (by decide +kernel)
set_option maxRecDepth 20000 in
theorem gX5_count_X5_letCosts : GoodIn wsX5_count (wsV RX5 179 RX5 yX5_letCosts wsX5_letCosts) := goodIn_app (goodIn_of _ (by decide +kernel)) ggX5_count_X5_letCosts
theorem dX5_count_0 : decode cX5_count 0 = .ok (.iload_n 1, 1) := by decide +kernel
theorem dX5_count_1 : decode cX5_count 1 = .ok (.tableswitch 101 0 8 #[51, 56, 61, 67, 73, 79, 85, 91, 96], 51) := by decide +kernel
theorem dX5_count_52 : decode cX5_count 52 = .ok (.aload_n 0, 1) := by decide +kernel
theorem dX5_count_53 : decode cX5_count 53 = .ok (.getfield 70, 3) := by decide +kernel
theorem dX5_count_56 : decode cX5_count 56 = .ok (.ireturn, 1) := by decide +kernel
theorem dX5_count_57 : decode cX5_count 57 = .ok (.aload_n 0, 1) := by decide +kernel
theorem dX5_count_58 : decode cX5_count 58 = .ok (.getfield 102, 3) := by decide +kernel
theorem dX5_count_61 : decode cX5_count 61 = .ok (.ireturn, 1) := by decide +kernel
theorem dX5_count_62 : decode cX5_count 62 = .ok (.aload_n 0, 1) := by decide +kernel
theorem dX5_count_63 : decode cX5_count 63 = .ok (.iconst 0, 1) := by decide +kernel
theorem dX5_count_64 : decode cX5_count 64 = .ok (.invokevirtual 192, 3) := by decide +kernel
theorem dX5_count_67 : decode cX5_count 67 = .ok (.ireturn, 1) := by decide +kernel
theorem dX5_count_68 : decode cX5_count 68 = .ok (.aload_n 0, 1) := by decide +kernel
theorem dX5_count_69 : decode cX5_count 69 = .ok (.iconst 1, 1) := by decide +kernel
theorem dX5_count_70 : decode cX5_count 70 = .ok (.invokevirtual 192, 3) := by decide +kernel
theorem dX5_count_73 : decode cX5_count 73 = .ok (.ireturn, 1) := by decide +kernel
theorem dX5_count_74 : decode cX5_count 74 = .ok (.aload_n 0, 1) := by decide +kernel
theorem dX5_count_75 : decode cX5_count 75 = .ok (.iconst 2, 1) := by decide +kernel
theorem dX5_count_76 : decode cX5_count 76 = .ok (.invokevirtual 192, 3) := by decide +kernel
theorem dX5_count_79 : decode cX5_count 79 = .ok (.ireturn, 1) := by decide +kernel
theorem dX5_count_80 : decode cX5_count 80 = .ok (.aload_n 0, 1) := by decide +kernel
theorem dX5_count_81 : decode cX5_count 81 = .ok (.iconst 3, 1) := by decide +kernel
theorem dX5_count_82 : decode cX5_count 82 = .ok (.invokevirtual 192, 3) := by decide +kernel
theorem dX5_count_85 : decode cX5_count 85 = .ok (.ireturn, 1) := by decide +kernel
theorem dX5_count_86 : decode cX5_count 86 = .ok (.aload_n 0, 1) := by decide +kernel
theorem dX5_count_87 : decode cX5_count 87 = .ok (.iconst 4, 1) := by decide +kernel
theorem dX5_count_88 : decode cX5_count 88 = .ok (.invokevirtual 192, 3) := by decide +kernel
theorem dX5_count_91 : decode cX5_count 91 = .ok (.ireturn, 1) := by decide +kernel
theorem dX5_count_92 : decode cX5_count 92 = .ok (.aload_n 0, 1) := by decide +kernel
theorem dX5_count_93 : decode cX5_count 93 = .ok (.invokevirtual 195, 3) := by decide +kernel
theorem dX5_count_96 : decode cX5_count 96 = .ok (.ireturn, 1) := by decide +kernel
theorem dX5_count_97 : decode cX5_count 97 = .ok (.aload_n 0, 1) := by decide +kernel
theorem dX5_count_98 : decode cX5_count 98 = .ok (.invokevirtual 179, 3) := by decide +kernel
theorem dX5_count_101 : decode cX5_count 101 = .ok (.ireturn, 1) := by decide +kernel
theorem dX5_count_102 : decode cX5_count 102 = .ok (.bipush (-2), 2) := by decide +kernel
theorem dX5_count_104 : decode cX5_count 104 = .ok (.ireturn, 1) := by decide +kernel
set_option maxRecDepth 20000 in
theorem ggX5_digest_X5_count : GoodIn wsX5_digest wsX5_count := goodIn_r _ [16, 3, 8, 17, 18, 19, 15, 20, 21, 22, 23, 24, 25, 26, 27, 28, 29, 30, 31, 49, 50, 51, 52, 53, 54, 55, 56, 57, 58, 59, 60, 61, 62, 63, 64, 65, 66, 67, 68, 69] (by decide +kernel) (by decide +kernel)
set_option maxRecDepth 20000 in
theorem gX5_digest_X5_count : GoodIn wsX5_digest (wsV RX5 202 RX5 yX5_count wsX5_count) := goodIn_app (goodIn_of _ (by decide +kernel)) ggX5_digest_X5_count
