theorem dX4_paidBy_19 : decode cX4_paidBy 19 = .ok (.getfield 215, 3) := by decide +kernel
theorem dX4_paidBy_22 : decode cX4_paidBy 22 = .ok (.iload_n 3, 1) := by decide +kernel
theorem dX4_paidBy_23 : decode cX4_paidBy 23 = .ok (.iaload, 1) := by decide +kernel
theorem dX4_paidBy_24 : decode cX4_paidBy 24 = .ok (.ifCond .eq 6, 3) := by decide +kernel
theorem dX4_paidBy_27 : decode cX4_paidBy 27 = .ok (.goto 69, 3) := by decide +kernel
theorem dX4_paidBy_30 : decode cX4_paidBy 30 = .ok (.aload_n 0, 1) := by decide +kernel
theorem dX4_paidBy_31 : decode cX4_paidBy 31 = .ok (.getfield 26, 3) := by decide +kernel
theorem dX4_paidBy_34 : decode cX4_paidBy 34 = .ok (.aload_n 0, 1) := by decide +kernel
theorem dX4_paidBy_35 : decode cX4_paidBy 35 = .ok (.getfield 19, 3) := by decide +kernel
theorem dX4_paidBy_38 : decode cX4_paidBy 38 = .ok (.getfield 218, 3) := by decide +kernel
theorem dX4_paidBy_41 : decode cX4_paidBy 41 = .ok (.iload_n 3, 1) := by decide +kernel
theorem dX4_paidBy_42 : decode cX4_paidBy 42 = .ok (.iaload, 1) := by decide +kernel
theorem dX4_paidBy_43 : decode cX4_paidBy 43 = .ok (.invokevirtual 162, 3) := by decide +kernel
theorem dX4_paidBy_46 : decode cX4_paidBy 46 = .ok (.istore 4, 2) := by decide +kernel
theorem dX4_paidBy_48 : decode cX4_paidBy 48 = .ok (.iload 4, 2) := by decide +kernel
theorem dX4_paidBy_50 : decode cX4_paidBy 50 = .ok (.invokestatic 81, 3) := by decide +kernel
theorem dX4_paidBy_53 : decode cX4_paidBy 53 = .ok (.ifCond .eq 43, 3) := by decide +kernel
theorem dX4_paidBy_56 : decode cX4_paidBy 56 = .ok (.aload_n 0, 1) := by decide +kernel
theorem dX4_paidBy_57 : decode cX4_paidBy 57 = .ok (.getfield 26, 3) := by decide +kernel
theorem dX4_paidBy_60 : decode cX4_paidBy 60 = .ok (.getfield 156, 3) := by decide +kernel
theorem dX4_paidBy_63 : decode cX4_paidBy 63 = .ok (.iload 4, 2) := by decide +kernel
theorem dX4_paidBy_65 : decode cX4_paidBy 65 = .ok (.iaload, 1) := by decide +kernel
theorem dX4_paidBy_66 : decode cX4_paidBy 66 = .ok (.iload_n 1, 1) := by decide +kernel
theorem dX4_paidBy_67 : decode cX4_paidBy 67 = .ok (.if_icmp .ne 29, 3) := by decide +kernel
theorem dX4_paidBy_70 : decode cX4_paidBy 70 = .ok (.iload_n 2, 1) := by decide +kernel
theorem dX4_paidBy_71 : decode cX4_paidBy 71 = .ok (.aload_n 0, 1) := by decide +kernel
theorem dX4_paidBy_72 : decode cX4_paidBy 72 = .ok (.getfield 19, 3) := by decide +kernel
theorem dX4_paidBy_75 : decode cX4_paidBy 75 = .ok (.getfield 221, 3) := by decide +kernel
theorem dX4_paidBy_78 : decode cX4_paidBy 78 = .ok (.iload_n 3, 1) := by decide +kernel
theorem dX4_paidBy_79 : decode cX4_paidBy 79 = .ok (.iaload, 1) := by decide +kernel
theorem dX4_paidBy_80 : decode cX4_paidBy 80 = .ok (.aload_n 0, 1) := by decide +kernel
theorem dX4_paidBy_81 : decode cX4_paidBy 81 = .ok (.getfield 26, 3) := by decide +kernel
theorem dX4_paidBy_84 : decode cX4_paidBy 84 = .ok (.getfield 159, 3) := by decide +kernel
theorem dX4_paidBy_87 : decode cX4_paidBy 87 = .ok (.iload 4, 2) := by decide +kernel
theorem dX4_paidBy_89 : decode cX4_paidBy 89 = .ok (.iaload, 1) := by decide +kernel
theorem dX4_paidBy_90 : decode cX4_paidBy 90 = .ok (.imul, 1) := by decide +kernel
theorem dX4_paidBy_91 : decode cX4_paidBy 91 = .ok (.bipush 100, 2) := by decide +kernel
theorem dX4_paidBy_93 : decode cX4_paidBy 93 = .ok (.idiv, 1) := by decide +kernel
theorem dX4_paidBy_94 : decode cX4_paidBy 94 = .ok (.iadd, 1) := by decide +kernel
theorem dX4_paidBy_95 : decode cX4_paidBy 95 = .ok (.istore_n 2, 1) := by decide +kernel
theorem dX4_paidBy_96 : decode cX4_paidBy 96 = .ok (.iinc 3 1, 3) := by decide +kernel
theorem dX4_paidBy_99 : decode cX4_paidBy 99 = .ok (.goto (-95), 3) := by decide +kernel
theorem dX4_paidBy_102 : decode cX4_paidBy 102 = .ok (.iload_n 2, 1) := by decide +kernel
theorem dX4_paidBy_103 : decode cX4_paidBy 103 = .ok (.ireturn, 1) := by decide +kernel
set_option maxRecDepth 20000 in
theorem ggX4_thingsCalled_X1_withAllUnder : GoodIn wsX4_thingsCalled wsX1_withAllUnder := goodIn_r _ [9, 10, 11, 12, 8, 13, 14, 15, 16, 17, 18, 19, 20, 50, 51, 52] (by decide +kernel) (by decide +kernel)
set_option maxRecDepth 20000 in
theorem gX4_thingsCalled_X1_withAllUnder : GoodIn wsX4_thingsCalled (wsV RX4 224 RX1 yX1_withAllUnder wsX1_withAllUnder) := goodIn_app (goodIn_of _ (by decide +kernel)) ggX4_thingsCalled_X1_withAllUnder
set_option maxRecDepth 20000 in
theorem ggX4_thingsCalled_X0_thingsLetFor : GoodIn wsX4_thingsCalled wsX0_thingsLetFor := goodIn_r _ [25, 26, 27, 28, 29, 30, 31, 24, 32, 33, 34, 35, 16, 36, 53, 54, 55, 56, 57, 58, 59, 60] (by decide +kernel) (by decide +kernel)
set_option maxRecDepth 20000 in
theorem gX4_thingsCalled_X0_thingsLetFor : GoodIn wsX4_thingsCalled (wsV RX4 131 RX0 yX0_thingsLetFor wsX0_thingsLetFor) := goodIn_app (goodIn_of _ (by decide +kernel)) ggX4_thingsCalled_X0_thingsLetFor
set_option maxRecDepth 20000 in
theorem ggX4_thingsCalled_X2_soldOf : GoodIn wsX4_thingsCalled wsX2_soldOf := goodIn_r _ [41, 42, 43, 44, 35, 16, 36, 61, 62, 63, 64, 65, 66, 67] (by decide +kernel) (by decide +kernel)
set_option maxRecDepth 20000 in
theorem gX4_thingsCalled_X2_soldOf : GoodIn wsX4_thingsCalled (wsV RX4 227 RX2 yX2_soldOf wsX2_soldOf) := goodIn_app (goodIn_of _ (by decide +kernel)) ggX4_thingsCalled_X2_soldOf
theorem dX4_thingsCalled_0 : decode cX4_thingsCalled 0 = .ok (.aload_n 0, 1) := by decide +kernel
theorem dX4_thingsCalled_1 : decode cX4_thingsCalled 1 = .ok (.getfield 19, 3) := by decide +kernel
theorem dX4_thingsCalled_4 : decode cX4_thingsCalled 4 = .ok (.aload_n 0, 1) := by decide +kernel
theorem dX4_thingsCalled_5 : decode cX4_thingsCalled 5 = .ok (.getfield 26, 3) := by decide +kernel
theorem dX4_thingsCalled_8 : decode cX4_thingsCalled 8 = .ok (.iload_n 1, 1) := by decide +kernel
theorem dX4_thingsCalled_9 : decode cX4_thingsCalled 9 = .ok (.invokevirtual 224, 3) := by decide +kernel
theorem dX4_thingsCalled_12 : decode cX4_thingsCalled 12 = .ok (.sipush 300, 3) := by decide +kernel
theorem dX4_thingsCalled_15 : decode cX4_thingsCalled 15 = .ok (.invokevirtual 131, 3) := by decide +kernel
theorem dX4_thingsCalled_18 : decode cX4_thingsCalled 18 = .ok (.lstore 5, 2) := by decide +kernel
theorem dX4_thingsCalled_20 : decode cX4_thingsCalled 20 = .ok (.aload_n 0, 1) := by decide +kernel
theorem dX4_thingsCalled_21 : decode cX4_thingsCalled 21 = .ok (.getfield 12, 3) := by decide +kernel
theorem dX4_thingsCalled_24 : decode cX4_thingsCalled 24 = .ok (.iload_n 2, 1) := by decide +kernel
theorem dX4_thingsCalled_25 : decode cX4_thingsCalled 25 = .ok (.iload_n 3, 1) := by decide +kernel
theorem dX4_thingsCalled_26 : decode cX4_thingsCalled 26 = .ok (.iload 4, 2) := by decide +kernel
theorem dX4_thingsCalled_28 : decode cX4_thingsCalled 28 = .ok (.invokevirtual 227, 3) := by decide +kernel
theorem dX4_thingsCalled_31 : decode cX4_thingsCalled 31 = .ok (.lload 5, 2) := by decide +kernel
theorem dX4_thingsCalled_33 : decode cX4_thingsCalled 33 = .ok (.ldc2_w 231, 3) := by decide +kernel
theorem dX4_thingsCalled_36 : decode cX4_thingsCalled 36 = .ok (.lxor, 1) := by decide +kernel
theorem dX4_thingsCalled_37 : decode cX4_thingsCalled 37 = .ok (.land, 1) := by decide +kernel
theorem dX4_thingsCalled_38 : decode cX4_thingsCalled 38 = .ok (.lreturn, 1) := by decide +kernel
set_option maxRecDepth 20000 in
theorem ggX4_ofLowestTerms_X4_greatestCommonDivisor : GoodIn wsX4_ofLowestTerms wsX4_greatestCommonDivisor := goodIn_r _ [5] (by decide +kernel) (by decide +kernel)
set_option maxRecDepth 20000 in
theorem gX4_ofLowestTerms_X4_greatestCommonDivisor : GoodIn wsX4_ofLowestTerms (va_wsS RX4 233 yX4_greatestCommonDivisor wsX4_greatestCommonDivisor) := goodIn_app (goodIn_of _ (by decide +kernel)) ggX4_ofLowestTerms_X4_greatestCommonDivisor
theorem dX4_ofLowestTerms_0 : decode cX4_ofLowestTerms 0 = .ok (.lload_n 0, 1) := by decide +kernel
theorem dX4_ofLowestTerms_1 : decode cX4_ofLowestTerms 1 = .ok (.lload_n 2, 1) := by decide +kernel
theorem dX4_ofLowestTerms_2 : decode cX4_ofLowestTerms 2 = .ok (.invokestatic 233, 3) := by decide +kernel
theorem dX4_ofLowestTerms_5 : decode cX4_ofLowestTerms 5 = .ok (.lstore 5, 2) := by decide +kernel
theorem dX4_ofLowestTerms_7 : decode cX4_ofLowestTerms 7 = .ok (.lload 5, 2) := by decide +kernel
theorem dX4_ofLowestTerms_9 : decode cX4_ofLowestTerms 9 = .ok (.lconst 0, 1) := by decide +kernel
theorem dX4_ofLowestTerms_10 : decode cX4_ofLowestTerms 10 = .ok (.lcmp, 1) := by decide +kernel
theorem dX4_ofLowestTerms_11 : decode cX4_ofLowestTerms 11 = .ok (.ifCond .gt 7, 3) := by decide +kernel
theorem dX4_ofLowestTerms_14 : decode cX4_ofLowestTerms 14 = .ok (.ldc2_w 129, 3) := by decide +kernel
theorem dX4_ofLowestTerms_17 : decode cX4_ofLowestTerms 17 = .ok (.lreturn, 1) := by decide +kernel
theorem dX4_ofLowestTerms_18 : decode cX4_ofLowestTerms 18 = .ok (.iload 4, 2) := by decide +kernel
theorem dX4_ofLowestTerms_20 : decode cX4_ofLowestTerms 20 = .ok (.ifCond .ne 7, 3) := by decide +kernel
theorem dX4_ofLowestTerms_23 : decode cX4_ofLowestTerms 23 = .ok (.lload_n 0, 1) := by decide +kernel
theorem dX4_ofLowestTerms_24 : decode cX4_ofLowestTerms 24 = .ok (.goto 4, 3) := by decide +kernel
theorem dX4_ofLowestTerms_27 : decode cX4_ofLowestTerms 27 = .ok (.lload_n 2, 1) := by decide +kernel
theorem dX4_ofLowestTerms_28 : decode cX4_ofLowestTerms 28 = .ok (.lload 5, 2) := by decide +kernel
theorem dX4_ofLowestTerms_30 : decode cX4_ofLowestTerms 30 = .ok (.ldiv, 1) := by decide +kernel
theorem dX4_ofLowestTerms_31 : decode cX4_ofLowestTerms 31 = .ok (.lreturn, 1) := by decide +kernel
theorem dX4_greatestCommonDivisor_0 : decode cX4_greatestCommonDivisor 0 = .ok (.lload_n 0, 1) := by decide +kernel
theorem dX4_greatestCommonDivisor_1 : decode cX4_greatestCommonDivisor 1 = .ok (.lstore 4, 2) := by decide +kernel
theorem dX4_greatestCommonDivisor_3 : decode cX4_greatestCommonDivisor 3 = .ok (.lload_n 2, 1) := by decide +kernel
theorem dX4_greatestCommonDivisor_4 : decode cX4_greatestCommonDivisor 4 = .ok (.lstore 6, 2) := by decide +kernel
theorem dX4_greatestCommonDivisor_6 : decode cX4_greatestCommonDivisor 6 = .ok (.iconst 0, 1) := by decide +kernel
theorem dX4_greatestCommonDivisor_7 : decode cX4_greatestCommonDivisor 7 = .ok (.istore 8, 2) := by decide +kernel
theorem dX4_greatestCommonDivisor_9 : decode cX4_greatestCommonDivisor 9 = .ok (.iload 8, 2) := by decide +kernel
theorem dX4_greatestCommonDivisor_11 : decode cX4_greatestCommonDivisor 11 = .ok (.sipush 200, 3) := by decide +kernel
theorem dX4_greatestCommonDivisor_14 : decode cX4_greatestCommonDivisor 14 = .ok (.if_icmp .ge 31, 3) := by decide +kernel
theorem dX4_greatestCommonDivisor_17 : decode cX4_greatestCommonDivisor 17 = .ok (.lload 6, 2) := by decide +kernel
theorem dX4_greatestCommonDivisor_19 : decode cX4_greatestCommonDivisor 19 = .ok (.lconst 0, 1) := by decide +kernel
theorem dX4_greatestCommonDivisor_20 : decode cX4_greatestCommonDivisor 20 = .ok (.lcmp, 1) := by decide +kernel
theorem dX4_greatestCommonDivisor_21 : decode cX4_greatestCommonDivisor 21 = .ok (.ifCond .eq 24, 3) := by decide +kernel
theorem dX4_greatestCommonDivisor_24 : decode cX4_greatestCommonDivisor 24 = .ok (.lload 4, 2) := by decide +kernel
theorem dX4_greatestCommonDivisor_26 : decode cX4_greatestCommonDivisor 26 = .ok (.lload 6, 2) := by decide +kernel
theorem dX4_greatestCommonDivisor_28 : decode cX4_greatestCommonDivisor 28 = .ok (.lrem, 1) := by decide +kernel
theorem dX4_greatestCommonDivisor_29 : decode cX4_greatestCommonDivisor 29 = .ok (.lstore 9, 2) := by decide +kernel
theorem dX4_greatestCommonDivisor_31 : decode cX4_greatestCommonDivisor 31 = .ok (.lload 6, 2) := by decide +kernel
theorem dX4_greatestCommonDivisor_33 : decode cX4_greatestCommonDivisor 33 = .ok (.lstore 4, 2) := by decide +kernel
theorem dX4_greatestCommonDivisor_35 : decode cX4_greatestCommonDivisor 35 = .ok (.lload 9, 2) := by decide +kernel
theorem dX4_greatestCommonDivisor_37 : decode cX4_greatestCommonDivisor 37 = .ok (.lstore 6, 2) := by decide +kernel
theorem dX4_greatestCommonDivisor_39 : decode cX4_greatestCommonDivisor 39 = .ok (.iinc 8 1, 3) := by decide +kernel
theorem dX4_greatestCommonDivisor_42 : decode cX4_greatestCommonDivisor 42 = .ok (.goto (-33), 3) := by decide +kernel
theorem dX4_greatestCommonDivisor_45 : decode cX4_greatestCommonDivisor 45 = .ok (.lload 4, 2) := by decide +kernel
theorem dX4_greatestCommonDivisor_47 : decode cX4_greatestCommonDivisor 47 = .ok (.lreturn, 1) := by decide +kernel
theorem dX4_isLess_0 : decode cX4_isLess 0 = .ok (.lload_n 0, 1) := by decide +kernel
theorem dX4_isLess_1 : decode cX4_isLess 1 = .ok (.lstore 8, 2) := by decide +kernel
theorem dX4_isLess_3 : decode cX4_isLess 3 = .ok (.lload_n 2, 1) := by decide +kernel
theorem dX4_isLess_4 : decode cX4_isLess 4 = .ok (.lstore 10, 2) := by decide +kernel
theorem dX4_isLess_6 : decode cX4_isLess 6 = .ok (.lload 4, 2) := by decide +kernel
theorem dX4_isLess_8 : decode cX4_isLess 8 = .ok (.lstore 12, 2) := by decide +kernel
theorem dX4_isLess_10 : decode cX4_isLess 10 = .ok (.lload 6, 2) := by decide +kernel
theorem dX4_isLess_12 : decode cX4_isLess 12 = .ok (.lstore 14, 2) := by decide +kernel
theorem dX4_isLess_14 : decode cX4_isLess 14 = .ok (.iconst 0, 1) := by decide +kernel
theorem dX4_isLess_15 : decode cX4_isLess 15 = .ok (.istore 16, 2) := by decide +kernel
theorem dX4_isLess_17 : decode cX4_isLess 17 = .ok (.iload 16, 2) := by decide +kernel
theorem dX4_isLess_19 : decode cX4_isLess 19 = .ok (.sipush 200, 3) := by decide +kernel
theorem dX4_isLess_22 : decode cX4_isLess 22 = .ok (.if_icmp .ge 116, 3) := by decide +kernel
theorem dX4_isLess_25 : decode cX4_isLess 25 = .ok (.lload 10, 2) := by decide +kernel
theorem dX4_isLess_27 : decode cX4_isLess 27 = .ok (.lconst 0, 1) := by decide +kernel
theorem dX4_isLess_28 : decode cX4_isLess 28 = .ok (.lcmp, 1) := by decide +kernel
theorem dX4_isLess_29 : decode cX4_isLess 29 = .ok (.ifCond .le 109, 3) := by decide +kernel
theorem dX4_isLess_32 : decode cX4_isLess 32 = .ok (.lload 14, 2) := by decide +kernel
theorem dX4_isLess_34 : decode cX4_isLess 34 = .ok (.lconst 0, 1) := by decide +kernel
theorem dX4_isLess_35 : decode cX4_isLess 35 = .ok (.lcmp, 1) := by decide +kernel
theorem dX4_isLess_36 : decode cX4_isLess 36 = .ok (.ifCond .le 102, 3) := by decide +kernel
theorem dX4_isLess_39 : decode cX4_isLess 39 = .ok (.lload 8, 2) := by decide +kernel
theorem dX4_isLess_41 : decode cX4_isLess 41 = .ok (.lload 10, 2) := by decide +kernel
theorem dX4_isLess_43 : decode cX4_isLess 43 = .ok (.ldiv, 1) := by decide +kernel
theorem dX4_isLess_44 : decode cX4_isLess 44 = .ok (.lstore 17, 2) := by decide +kernel
theorem dX4_isLess_46 : decode cX4_isLess 46 = .ok (.lload 12, 2) := by decide +kernel
theorem dX4_isLess_48 : decode cX4_isLess 48 = .ok (.lload 14, 2) := by decide +kernel
theorem dX4_isLess_50 : decode cX4_isLess 50 = .ok (.ldiv, 1) := by decide +kernel
theorem dX4_isLess_51 : decode cX4_isLess 51 = .ok (.lstore 19, 2) := by decide +kernel
theorem dX4_isLess_53 : decode cX4_isLess 53 = .ok (.lload 17, 2) := by decide +kernel
theorem dX4_isLess_55 : decode cX4_isLess 55 = .ok (.lload 19, 2) := by decide +kernel
theorem dX4_isLess_57 : decode cX4_isLess 57 = .ok (.lcmp, 1) := by decide +kernel
theorem dX4_isLess_58 : decode cX4_isLess 58 = .ok (.ifCond .eq 17, 3) := by decide +kernel
theorem dX4_isLess_61 : decode cX4_isLess 61 = .ok (.lload 17, 2) := by decide +kernel
theorem dX4_isLess_63 : decode cX4_isLess 63 = .ok (.lload 19, 2) := by decide +kernel
theorem dX4_isLess_65 : decode cX4_isLess 65 = .ok (.lcmp, 1) := by decide +kernel
theorem dX4_isLess_66 : decode cX4_isLess 66 = .ok (.ifCond .ge 7, 3) := by decide +kernel
theorem dX4_isLess_69 : decode cX4_isLess 69 = .ok (.iconst 1, 1) := by decide +kernel
theorem dX4_isLess_70 : decode cX4_isLess 70 = .ok (.goto 4, 3) := by decide +kernel
theorem dX4_isLess_73 : decode cX4_isLess 73 = .ok (.iconst 0, 1) := by decide +kernel
theorem dX4_isLess_74 : decode cX4_isLess 74 = .ok (.ireturn, 1) := by decide +kernel
theorem dX4_isLess_75 : decode cX4_isLess 75 = .ok (.lload 8, 2) := by decide +kernel
theorem dX4_isLess_77 : decode cX4_isLess 77 = .ok (.lload 10, 2) := by decide +kernel
theorem dX4_isLess_79 : decode cX4_isLess 79 = .ok (.lrem, 1) := by decide +kernel
theorem dX4_isLess_80 : decode cX4_isLess 80 = .ok (.lstore 21, 2) := by decide +kernel
theorem dX4_isLess_82 : decode cX4_isLess 82 = .ok (.lload 12, 2) := by decide +kernel
theorem dX4_isLess_84 : decode cX4_isLess 84 = .ok (.lload 14, 2) := by decide +kernel
theorem dX4_isLess_86 : decode cX4_isLess 86 = .ok (.lrem, 1) := by decide +kernel
theorem dX4_isLess_87 : decode cX4_isLess 87 = .ok (.lstore 23, 2) := by decide +kernel
theorem dX4_isLess_89 : decode cX4_isLess 89 = .ok (.lload 21, 2) := by decide +kernel
theorem dX4_isLess_91 : decode cX4_isLess 91 = .ok (.lconst 0, 1) := by decide +kernel
theorem dX4_isLess_92 : decode cX4_isLess 92 = .ok (.lcmp, 1) := by decide +kernel
theorem dX4_isLess_93 : decode cX4_isLess 93 = .ok (.ifCond .eq 10, 3) := by decide +kernel
theorem dX4_isLess_96 : decode cX4_isLess 96 = .ok (.lload 23, 2) := by decide +kernel
theorem dX4_isLess_98 : decode cX4_isLess 98 = .ok (.lconst 0, 1) := by decide +kernel
theorem dX4_isLess_99 : decode cX4_isLess 99 = .ok (.lcmp, 1) := by decide +kernel
theorem dX4_isLess_100 : decode cX4_isLess 100 = .ok (.ifCond .ne 16, 3) := by decide +kernel
theorem dX4_isLess_103 : decode cX4_isLess 103 = .ok (.lload 23, 2) := by decide +kernel
theorem dX4_isLess_105 : decode cX4_isLess 105 = .ok (.lconst 0, 1) := by decide +kernel
theorem dX4_isLess_106 : decode cX4_isLess 106 = .ok (.lcmp, 1) := by decide +kernel
theorem dX4_isLess_107 : decode cX4_isLess 107 = .ok (.ifCond .le 7, 3) := by decide +kernel
theorem dX4_isLess_110 : decode cX4_isLess 110 = .ok (.iconst 1, 1) := by decide +kernel
theorem dX4_isLess_111 : decode cX4_isLess 111 = .ok (.goto 4, 3) := by decide +kernel
theorem dX4_isLess_114 : decode cX4_isLess 114 = .ok (.iconst 0, 1) := by decide +kernel
theorem dX4_isLess_115 : decode cX4_isLess 115 = .ok (.ireturn, 1) := by decide +kernel
theorem dX4_isLess_116 : decode cX4_isLess 116 = .ok (.lload 14, 2) := by decide +kernel
theorem dX4_isLess_118 : decode cX4_isLess 118 = .ok (.lstore 8, 2) := by decide +kernel
theorem dX4_isLess_120 : decode cX4_isLess 120 = .ok (.lload 10, 2) := by decide +kernel
theorem dX4_isLess_122 : decode cX4_isLess 122 = .ok (.lstore 12, 2) := by decide +kernel
theorem dX4_isLess_124 : decode cX4_isLess 124 = .ok (.lload 23, 2) := by decide +kernel
theorem dX4_isLess_126 : decode cX4_isLess 126 = .ok (.lstore 10, 2) := by decide +kernel
theorem dX4_isLess_128 : decode cX4_isLess 128 = .ok (.lload 21, 2) := by decide +kernel
theorem dX4_isLess_130 : decode cX4_isLess 130 = .ok (.lstore 14, 2) := by decide +kernel
theorem dX4_isLess_132 : decode cX4_isLess 132 = .ok (.iinc 16 1, 3) := by decide +kernel
theorem dX4_isLess_135 : decode cX4_isLess 135 = .ok (.goto (-118), 3) := by decide +kernel
theorem dX4_isLess_138 : decode cX4_isLess 138 = .ok (.iconst 0, 1) := by decide +kernel
theorem dX4_isLess_139 : decode cX4_isLess 139 = .ok (.ireturn, 1) := by decide +kernel
theorem dX5_init_0 : decode cX5_init 0 = .ok (.aload_n 0, 1) := by decide +kernel
theorem dX5_init_1 : decode cX5_init 1 = .ok (.invokespecial 1, 3) := by decide +kernel
theorem dX5_init_4 : decode cX5_init 4 = .ok (.aload_n 0, 1) := by decide +kernel
theorem dX5_init_5 : decode cX5_init 5 = .ok (.iconst 4, 1) := by decide +kernel
theorem dX5_init_6 : decode cX5_init 6 = .ok (.newarray .int, 2) := by decide +kernel
theorem dX5_init_8 : decode cX5_init 8 = .ok (.putfield 7, 3) := by decide +kernel
theorem dX5_init_11 : decode cX5_init 11 = .ok (.aload_n 0, 1) := by decide +kernel
theorem dX5_init_12 : decode cX5_init 12 = .ok (.iconst 4, 1) := by decide +kernel
theorem dX5_init_13 : decode cX5_init 13 = .ok (.newarray .int, 2) := by decide +kernel
theorem dX5_init_15 : decode cX5_init 15 = .ok (.putfield 13, 3) := by decide +kernel
theorem dX5_init_18 : decode cX5_init 18 = .ok (.aload_n 0, 1) := by decide +kernel
theorem dX5_init_19 : decode cX5_init 19 = .ok (.bipush 60, 2) := by decide +kernel
theorem dX5_init_21 : decode cX5_init 21 = .ok (.newarray .int, 2) := by decide +kernel
theorem dX5_init_23 : decode cX5_init 23 = .ok (.putfield 16, 3) := by decide +kernel
theorem dX5_init_26 : decode cX5_init 26 = .ok (.aload_n 0, 1) := by decide +kernel
theorem dX5_init_27 : decode cX5_init 27 = .ok (.bipush 60, 2) := by decide +kernel
theorem dX5_init_29 : decode cX5_init 29 = .ok (.newarray .int, 2) := by decide +kernel
theorem dX5_init_31 : decode cX5_init 31 = .ok (.putfield 19, 3) := by decide +kernel
theorem dX5_init_34 : decode cX5_init 34 = .ok (.aload_n 0, 1) := by decide +kernel
theorem dX5_init_35 : decode cX5_init 35 = .ok (.bipush 60, 2) := by decide +kernel
theorem dX5_init_37 : decode cX5_init 37 = .ok (.newarray .int, 2) := by decide +kernel
theorem dX5_init_39 : decode cX5_init 39 = .ok (.putfield 22, 3) := by decide +kernel
theorem dX5_init_42 : decode cX5_init 42 = .ok (.aload_n 0, 1) := by decide +kernel
theorem dX5_init_43 : decode cX5_init 43 = .ok (.bipush 60, 2) := by decide +kernel
theorem dX5_init_45 : decode cX5_init 45 = .ok (.newarray .int, 2) := by decide +kernel
theorem dX5_init_47 : decode cX5_init 47 = .ok (.putfield 25, 3) := by decide +kernel
theorem dX5_init_50 : decode cX5_init 50 = .ok (.aload_n 0, 1) := by decide +kernel
theorem dX5_init_51 : decode cX5_init 51 = .ok (.iconst 1, 1) := by decide +kernel
theorem dX5_init_52 : decode cX5_init 52 = .ok (.putfield 28, 3) := by decide +kernel
theorem dX5_init_55 : decode cX5_init 55 = .ok (.aload_n 0, 1) := by decide +kernel
theorem dX5_init_56 : decode cX5_init 56 = .ok (.bipush 100, 2) := by decide +kernel
theorem dX5_init_58 : decode cX5_init 58 = .ok (.newarray .int, 2) := by decide +kernel
theorem dX5_init_60 : decode cX5_init 60 = .ok (.putfield 32, 3) := by decide +kernel
theorem dX5_init_63 : decode cX5_init 63 = .ok (.aload_n 0, 1) := by decide +kernel
theorem dX5_init_64 : decode cX5_init 64 = .ok (.bipush 100, 2) := by decide +kernel
theorem dX5_init_66 : decode cX5_init 66 = .ok (.newarray .int, 2) := by decide +kernel
theorem dX5_init_68 : decode cX5_init 68 = .ok (.putfield 35, 3) := by decide +kernel
theorem dX5_init_71 : decode cX5_init 71 = .ok (.aload_n 0, 1) := by decide +kernel
theorem dX5_init_72 : decode cX5_init 72 = .ok (.bipush 100, 2) := by decide +kernel
theorem dX5_init_74 : decode cX5_init 74 = .ok (.newarray .int, 2) := by decide +kernel
theorem dX5_init_76 : decode cX5_init 76 = .ok (.putfield 38, 3) := by decide +kernel
theorem dX5_init_79 : decode cX5_init 79 = .ok (.aload_n 0, 1) := by decide +kernel
theorem dX5_init_80 : decode cX5_init 80 = .ok (.bipush 100, 2) := by decide +kernel
theorem dX5_init_82 : decode cX5_init 82 = .ok (.newarray .int, 2) := by decide +kernel
theorem dX5_init_84 : decode cX5_init 84 = .ok (.putfield 41, 3) := by decide +kernel
theorem dX5_init_87 : decode cX5_init 87 = .ok (.aload_n 0, 1) := by decide +kernel
theorem dX5_init_88 : decode cX5_init 88 = .ok (.bipush 100, 2) := by decide +kernel
theorem dX5_init_90 : decode cX5_init 90 = .ok (.newarray .int, 2) := by decide +kernel
theorem dX5_init_92 : decode cX5_init 92 = .ok (.putfield 44, 3) := by decide +kernel
theorem dX5_init_95 : decode cX5_init 95 = .ok (.aload_n 0, 1) := by decide +kernel
theorem dX5_init_96 : decode cX5_init 96 = .ok (.bipush 100, 2) := by decide +kernel
theorem dX5_init_98 : decode cX5_init 98 = .ok (.newarray .int, 2) := by decide +kernel
theorem dX5_init_100 : decode cX5_init 100 = .ok (.putfield 47, 3) := by decide +kernel
theorem dX5_init_103 : decode cX5_init 103 = .ok (.aload_n 0, 1) := by decide +kernel
theorem dX5_init_104 : decode cX5_init 104 = .ok (.sipush 3721, 3) := by decide +kernel
theorem dX5_init_107 : decode cX5_init 107 = .ok (.newarray .long, 2) := by decide +kernel
theorem dX5_init_109 : decode cX5_init 109 = .ok (.putfield 50, 3) := by decide +kernel
theorem dX5_init_112 : decode cX5_init 112 = .ok (.aload_n 0, 1) := by decide +kernel
theorem dX5_init_113 : decode cX5_init 113 = .ok (.bipush 10, 2) := by decide +kernel
theorem dX5_init_115 : decode cX5_init 115 = .ok (.newarray .int, 2) := by decide +kernel
theorem dX5_init_117 : decode cX5_init 117 = .ok (.putfield 54, 3) := by decide +kernel
theorem dX5_init_120 : decode cX5_init 120 = .ok (.aload_n 0, 1) := by decide +kernel
theorem dX5_init_121 : decode cX5_init 121 = .ok (.bipush 10, 2) := by decide +kernel
theorem dX5_init_123 : decode cX5_init 123 = .ok (.newarray .int, 2) := by decide +kernel
theorem dX5_init_125 : decode cX5_init 125 = .ok (.putfield 57, 3) := by decide +kernel
theorem dX5_init_128 : decode cX5_init 128 = .ok (.aload_n 0, 1) := by decide +kernel
theorem dX5_init_129 : decode cX5_init 129 = .ok (.bipush 10, 2) := by decide +kernel
theorem dX5_init_131 : decode cX5_init 131 = .ok (.newarray .int, 2) := by decide +kernel
theorem dX5_init_133 : decode cX5_init 133 = .ok (.putfield 60, 3) := by decide +kernel
theorem dX5_init_136 : decode cX5_init 136 = .ok (.iconst 0, 1) := by decide +kernel
theorem dX5_init_137 : decode cX5_init 137 = .ok (.istore_n 1, 1) := by decide +kernel
theorem dX5_init_138 : decode cX5_init 138 = .ok (.iload_n 1, 1) := by decide +kernel
theorem dX5_init_139 : decode cX5_init 139 = .ok (.iconst 4, 1) := by decide +kernel
theorem dX5_init_140 : decode cX5_init 140 = .ok (.if_icmp .ge 25, 3) := by decide +kernel
theorem dX5_init_143 : decode cX5_init 143 = .ok (.aload_n 0, 1) := by decide +kernel
theorem dX5_init_144 : decode cX5_init 144 = .ok (.getfield 7, 3) := by decide +kernel
theorem dX5_init_147 : decode cX5_init 147 = .ok (.iload_n 1, 1) := by decide +kernel
theorem dX5_init_148 : decode cX5_init 148 = .ok (.bipush 24, 2) := by decide +kernel
theorem dX5_init_150 : decode cX5_init 150 = .ok (.iastore, 1) := by decide +kernel
theorem dX5_init_151 : decode cX5_init 151 = .ok (.aload_n 0, 1) := by decide +kernel
theorem dX5_init_152 : decode cX5_init 152 = .ok (.getfield 13, 3) := by decide +kernel
theorem dX5_init_155 : decode cX5_init 155 = .ok (.iload_n 1, 1) := by decide +kernel
theorem dX5_init_156 : decode cX5_init 156 = .ok (.ldc 63, 2) := by decide +kernel
theorem dX5_init_158 : decode cX5_init 158 = .ok (.iastore, 1) := by decide +kernel
theorem dX5_init_159 : decode cX5_init 159 = .ok (.iinc 1 1, 3) := by decide +kernel
theorem dX5_init_162 : decode cX5_init 162 = .ok (.goto (-24), 3) := by decide +kernel
theorem dX5_init_165 : decode cX5_init 165 = .ok (.iconst 0, 1) := by decide +kernel
theorem dX5_init_166 : decode cX5_init 166 = .ok (.istore_n 1, 1) := by decide +kernel
theorem dX5_init_167 : decode cX5_init 167 = .ok (.iload_n 1, 1) := by decide +kernel
theorem dX5_init_168 : decode cX5_init 168 = .ok (.bipush 10, 2) := by decide +kernel
theorem dX5_init_170 : decode cX5_init 170 = .ok (.if_icmp .ge 23, 3) := by decide +kernel
theorem dX5_init_173 : decode cX5_init 173 = .ok (.aload_n 0, 1) := by decide +kernel
theorem dX5_init_174 : decode cX5_init 174 = .ok (.getfield 54, 3) := by decide +kernel
theorem dX5_init_177 : decode cX5_init 177 = .ok (.iload_n 1, 1) := by decide +kernel
theorem dX5_init_178 : decode cX5_init 178 = .ok (.iconst (-1), 1) := by decide +kernel
theorem dX5_init_179 : decode cX5_init 179 = .ok (.iastore, 1) := by decide +kernel
theorem dX5_init_180 : decode cX5_init 180 = .ok (.aload_n 0, 1) := by decide +kernel
theorem dX5_init_181 : decode cX5_init 181 = .ok (.getfield 57, 3) := by decide +kernel
theorem dX5_init_184 : decode cX5_init 184 = .ok (.iload_n 1, 1) := by decide +kernel
theorem dX5_init_185 : decode cX5_init 185 = .ok (.iconst (-1), 1) := by decide +kernel
theorem dX5_init_186 : decode cX5_init 186 = .ok (.iastore, 1) := by decide +kernel
theorem dX5_init_187 : decode cX5_init 187 = .ok (.iinc 1 1, 3) := by decide +kernel
theorem dX5_init_190 : decode cX5_init 190 = .ok (.goto (-23), 3) := by decide +kernel
theorem dX5_init_193 : decode cX5_init 193 = .ok (.iconst 0, 1) := by decide +kernel
theorem dX5_init_194 : decode cX5_init 194 = .ok (.istore_n 1, 1) := by decide +kernel
theorem dX5_init_195 : decode cX5_init 195 = .ok (.iload_n 1, 1) := by decide +kernel
theorem dX5_init_196 : decode cX5_init 196 = .ok (.bipush 61, 2) := by decide +kernel
theorem dX5_init_198 : decode cX5_init 198 = .ok (.if_icmp .ge 75, 3) := by decide +kernel
theorem dX5_init_201 : decode cX5_init 201 = .ok (.iconst 0, 1) := by decide +kernel
theorem dX5_init_202 : decode cX5_init 202 = .ok (.istore_n 2, 1) := by decide +kernel
theorem dX5_init_203 : decode cX5_init 203 = .ok (.iload_n 2, 1) := by decide +kernel
theorem dX5_init_204 : decode cX5_init 204 = .ok (.iload_n 1, 1) := by decide +kernel
theorem dX5_init_205 : decode cX5_init 205 = .ok (.if_icmp .gt 62, 3) := by decide +kernel
theorem dX5_init_208 : decode cX5_init 208 = .ok (.aload_n 0, 1) := by decide +kernel
theorem dX5_init_209 : decode cX5_init 209 = .ok (.getfield 50, 3) := by decide +kernel
theorem dX5_init_212 : decode cX5_init 212 = .ok (.bipush 61, 2) := by decide +kernel
theorem dX5_init_214 : decode cX5_init 214 = .ok (.iload_n 1, 1) := by decide +kernel
theorem dX5_init_215 : decode cX5_init 215 = .ok (.imul, 1) := by decide +kernel
theorem dX5_init_216 : decode cX5_init 216 = .ok (.iload_n 2, 1) := by decide +kernel
theorem dX5_init_217 : decode cX5_init 217 = .ok (.iadd, 1) := by decide +kernel
theorem dX5_init_218 : decode cX5_init 218 = .ok (.iload_n 2, 1) := by decide +kernel
theorem dX5_init_219 : decode cX5_init 219 = .ok (.ifCond .eq 8, 3) := by decide +kernel
theorem dX5_init_222 : decode cX5_init 222 = .ok (.iload_n 2, 1) := by decide +kernel
theorem dX5_init_223 : decode cX5_init 223 = .ok (.iload_n 1, 1) := by decide +kernel
theorem dX5_init_224 : decode cX5_init 224 = .ok (.if_icmp .ne 7, 3) := by decide +kernel
theorem dX5_init_227 : decode cX5_init 227 = .ok (.lconst 1, 1) := by decide +kernel
theorem dX5_init_228 : decode cX5_init 228 = .ok (.goto 32, 3) := by decide +kernel
theorem dX5_init_231 : decode cX5_init 231 = .ok (.aload_n 0, 1) := by decide +kernel
theorem dX5_init_232 : decode cX5_init 232 = .ok (.getfield 50, 3) := by decide +kernel
theorem dX5_init_235 : decode cX5_init 235 = .ok (.bipush 61, 2) := by decide +kernel
theorem dX5_init_237 : decode cX5_init 237 = .ok (.iload_n 1, 1) := by decide +kernel
theorem dX5_init_238 : decode cX5_init 238 = .ok (.iconst 1, 1) := by decide +kernel
theorem dX5_init_239 : decode cX5_init 239 = .ok (.isub, 1) := by decide +kernel
theorem dX5_init_240 : decode cX5_init 240 = .ok (.imul, 1) := by decide +kernel
theorem dX5_init_241 : decode cX5_init 241 = .ok (.iload_n 2, 1) := by decide +kernel
theorem dX5_init_242 : decode cX5_init 242 = .ok (.iadd, 1) := by decide +kernel
theorem dX5_init_243 : decode cX5_init 243 = .ok (.iconst 1, 1) := by decide +kernel
theorem dX5_init_244 : decode cX5_init 244 = .ok (.isub, 1) := by decide +kernel
theorem dX5_init_245 : decode cX5_init 245 = .ok (.laload, 1) := by decide +kernel
theorem dX5_init_246 : decode cX5_init 246 = .ok (.aload_n 0, 1) := by decide +kernel
theorem dX5_init_247 : decode cX5_init 247 = .ok (.getfield 50, 3) := by decide +kernel
theorem dX5_init_250 : decode cX5_init 250 = .ok (.bipush 61, 2) := by decide +kernel
theorem dX5_init_252 : decode cX5_init 252 = .ok (.iload_n 1, 1) := by decide +kernel
theorem dX5_init_253 : decode cX5_init 253 = .ok (.iconst 1, 1) := by decide +kernel
theorem dX5_init_254 : decode cX5_init 254 = .ok (.isub, 1) := by decide +kernel
theorem dX5_init_255 : decode cX5_init 255 = .ok (.imul, 1) := by decide +kernel
theorem dX5_init_256 : decode cX5_init 256 = .ok (.iload_n 2, 1) := by decide +kernel
theorem dX5_init_257 : decode cX5_init 257 = .ok (.iadd, 1) := by decide +kernel
theorem dX5_init_258 : decode cX5_init 258 = .ok (.laload, 1) := by decide +kernel
theorem dX5_init_259 : decode cX5_init 259 = .ok (.ladd, 1) := by decide +kernel
theorem dX5_init_260 : decode cX5_init 260 = .ok (.lastore, 1) := by decide +kernel
theorem dX5_init_261 : decode cX5_init 261 = .ok (.iinc 2 1, 3) := by decide +kernel
theorem dX5_init_264 : decode cX5_init 264 = .ok (.goto (-61), 3) := by decide +kernel
theorem dX5_init_267 : decode cX5_init 267 = .ok (.iinc 1 1, 3) := by decide +kernel
theorem dX5_init_270 : decode cX5_init 270 = .ok (.goto (-75), 3) := by decide +kernel
theorem dX5_init_273 : decode cX5_init 273 = .ok (.return_, 1) := by decide +kernel
theorem dX5_in_0 : decode cX5_in 0 = .ok (.lload_n 0, 1) := by decide +kernel
theorem dX5_in_1 : decode cX5_in 1 = .ok (.lload_n 2, 1) := by decide +kernel
theorem dX5_in_2 : decode cX5_in 2 = .ok (.lcmp, 1) := by decide +kernel
theorem dX5_in_3 : decode cX5_in 3 = .ok (.ifCond .lt 14, 3) := by decide +kernel
theorem dX5_in_6 : decode cX5_in 6 = .ok (.lload_n 0, 1) := by decide +kernel
theorem dX5_in_7 : decode cX5_in 7 = .ok (.lload 4, 2) := by decide +kernel
theorem dX5_in_9 : decode cX5_in 9 = .ok (.lcmp, 1) := by decide +kernel
theorem dX5_in_10 : decode cX5_in 10 = .ok (.ifCond .gt 7, 3) := by decide +kernel
theorem dX5_in_13 : decode cX5_in 13 = .ok (.iconst 1, 1) := by decide +kernel
theorem dX5_in_14 : decode cX5_in 14 = .ok (.goto 4, 3) := by decide +kernel
theorem dX5_in_17 : decode cX5_in 17 = .ok (.iconst 0, 1) := by decide +kernel
theorem dX5_in_18 : decode cX5_in 18 = .ok (.ireturn, 1) := by decide +kernel
set_option maxRecDepth 20000 in
theorem ggX5_isMonth_X5_in : GoodIn wsX5_isMonth wsX5_in := goodIn_r _ [5] (by decide +kernel) (by decide +kernel)
set_option maxRecDepth 20000 in
theorem gX5_isMonth_X5_in : GoodIn wsX5_isMonth (va_wsS RX5 66 yX5_in wsX5_in) := goodIn_app (goodIn_of _ (by decide +kernel)) ggX5_isMonth_X5_in
theorem dX5_isMonth_0 : decode cX5_isMonth 0 = .ok (.iload_n 0, 1) := by decide +kernel
theorem dX5_isMonth_1 : decode cX5_isMonth 1 = .ok (.i2l, 1) := by decide +kernel
theorem dX5_isMonth_2 : decode cX5_isMonth 2 = .ok (.lconst 0, 1) := by decide +kernel
theorem dX5_isMonth_3 : decode cX5_isMonth 3 = .ok (.ldc2_w 64, 3) := by decide +kernel
theorem dX5_isMonth_6 : decode cX5_isMonth 6 = .ok (.invokestatic 66, 3) := by decide +kernel
theorem dX5_isMonth_9 : decode cX5_isMonth 9 = .ok (.ireturn, 1) := by decide +kernel
set_option maxRecDepth 20000 in
theorem ggX5_noThing_X5_in : GoodIn wsX5_noThing wsX5_in := goodIn_r _ [5] (by decide +kernel) (by decide +kernel)
set_option maxRecDepth 20000 in
theorem gX5_noThing_X5_in : GoodIn wsX5_noThing (va_wsS RX5 66 yX5_in wsX5_in) := goodIn_app (goodIn_of _ (by decide +kernel)) ggX5_noThing_X5_in
theorem dX5_noThing_0 : decode cX5_noThing 0 = .ok (.iload_n 1, 1) := by decide +kernel
theorem dX5_noThing_1 : decode cX5_noThing 1 = .ok (.i2l, 1) := by decide +kernel
theorem dX5_noThing_2 : decode cX5_noThing 2 = .ok (.lconst 0, 1) := by decide +kernel
theorem dX5_noThing_3 : decode cX5_noThing 3 = .ok (.aload_n 0, 1) := by decide +kernel
theorem dX5_noThing_4 : decode cX5_noThing 4 = .ok (.getfield 70, 3) := by decide +kernel
theorem dX5_noThing_7 : decode cX5_noThing 7 = .ok (.iconst 1, 1) := by decide +kernel
theorem dX5_noThing_8 : decode cX5_noThing 8 = .ok (.isub, 1) := by decide +kernel
theorem dX5_noThing_9 : decode cX5_noThing 9 = .ok (.i2l, 1) := by decide +kernel
theorem dX5_noThing_10 : decode cX5_noThing 10 = .ok (.invokestatic 66, 3) := by decide +kernel
theorem dX5_noThing_13 : decode cX5_noThing 13 = .ok (.ifCond .ne 7, 3) := by decide +kernel
theorem dX5_noThing_16 : decode cX5_noThing 16 = .ok (.iconst 1, 1) := by decide +kernel
theorem dX5_noThing_17 : decode cX5_noThing 17 = .ok (.goto 4, 3) := by decide +kernel
theorem dX5_noThing_20 : decode cX5_noThing 20 = .ok (.iconst 0, 1) := by decide +kernel
theorem dX5_noThing_21 : decode cX5_noThing 21 = .ok (.ireturn, 1) := by decide +kernel
set_option maxRecDepth 20000 in
theorem ggX5_thing_X5_in : GoodIn wsX5_thing wsX5_in := goodIn_r _ [13] (by decide +kernel) (by decide +kernel)
set_option maxRecDepth 20000 in
theorem gX5_thing_X5_in : GoodIn wsX5_thing (va_wsS RX5 66 yX5_in wsX5_in) := goodIn_app (goodIn_of _ (by decide +kernel)) ggX5_thing_X5_in
theorem dX5_thing_0 : decode cX5_thing 0 = .ok (.iload_n 1, 1) := by decide +kernel
theorem dX5_thing_1 : decode cX5_thing 1 = .ok (.i2l, 1) := by decide +kernel
theorem dX5_thing_2 : decode cX5_thing 2 = .ok (.lconst 0, 1) := by decide +kernel
theorem dX5_thing_3 : decode cX5_thing 3 = .ok (.ldc2_w 73, 3) := by decide +kernel
theorem dX5_thing_6 : decode cX5_thing 6 = .ok (.invokestatic 66, 3) := by decide +kernel
theorem dX5_thing_9 : decode cX5_thing 9 = .ok (.ifCond .eq 40, 3) := by decide +kernel
theorem dX5_thing_12 : decode cX5_thing 12 = .ok (.iload_n 2, 1) := by decide +kernel
theorem dX5_thing_13 : decode cX5_thing 13 = .ok (.i2l, 1) := by decide +kernel
theorem dX5_thing_14 : decode cX5_thing 14 = .ok (.lconst 0, 1) := by decide +kernel
theorem dX5_thing_15 : decode cX5_thing 15 = .ok (.ldc2_w 75, 3) := by decide +kernel
theorem dX5_thing_18 : decode cX5_thing 18 = .ok (.invokestatic 66, 3) := by decide +kernel
theorem dX5_thing_21 : decode cX5_thing 21 = .ok (.ifCond .eq 28, 3) := by decide +kernel
theorem dX5_thing_24 : decode cX5_thing 24 = .ok (.iload_n 3, 1) := by decide +kernel
theorem dX5_thing_25 : decode cX5_thing 25 = .ok (.i2l, 1) := by decide +kernel
theorem dX5_thing_26 : decode cX5_thing 26 = .ok (.lconst 0, 1) := by decide +kernel
theorem dX5_thing_27 : decode cX5_thing 27 = .ok (.ldc2_w 77, 3) := by decide +kernel
theorem dX5_thing_30 : decode cX5_thing 30 = .ok (.invokestatic 66, 3) := by decide +kernel
theorem dX5_thing_33 : decode cX5_thing 33 = .ok (.ifCond .eq 16, 3) := by decide +kernel
theorem dX5_thing_36 : decode cX5_thing 36 = .ok (.iload 4, 2) := by decide +kernel
theorem dX5_thing_38 : decode cX5_thing 38 = .ok (.i2l, 1) := by decide +kernel
theorem dX5_thing_39 : decode cX5_thing 39 = .ok (.lconst 0, 1) := by decide +kernel
theorem dX5_thing_40 : decode cX5_thing 40 = .ok (.ldc2_w 79, 3) := by decide +kernel
theorem dX5_thing_43 : decode cX5_thing 43 = .ok (.invokestatic 66, 3) := by decide +kernel
theorem dX5_thing_46 : decode cX5_thing 46 = .ok (.ifCond .ne 6, 3) := by decide +kernel
theorem dX5_thing_49 : decode cX5_thing 49 = .ok (.bipush (-2), 2) := by decide +kernel
theorem dX5_thing_51 : decode cX5_thing 51 = .ok (.ireturn, 1) := by decide +kernel
theorem dX5_thing_52 : decode cX5_thing 52 = .ok (.aload_n 0, 1) := by decide +kernel
theorem dX5_thing_53 : decode cX5_thing 53 = .ok (.getfield 70, 3) := by decide +kernel
theorem dX5_thing_56 : decode cX5_thing 56 = .ok (.bipush 60, 2) := by decide +kernel
theorem dX5_thing_58 : decode cX5_thing 58 = .ok (.if_icmp .ne 6, 3) := by decide +kernel
theorem dX5_thing_61 : decode cX5_thing 61 = .ok (.bipush (-4), 2) := by decide +kernel
theorem dX5_thing_63 : decode cX5_thing 63 = .ok (.ireturn, 1) := by decide +kernel
theorem dX5_thing_64 : decode cX5_thing 64 = .ok (.aload_n 0, 1) := by decide +kernel
theorem dX5_thing_65 : decode cX5_thing 65 = .ok (.getfield 16, 3) := by decide +kernel
theorem dX5_thing_68 : decode cX5_thing 68 = .ok (.aload_n 0, 1) := by decide +kernel
theorem dX5_thing_69 : decode cX5_thing 69 = .ok (.getfield 70, 3) := by decide +kernel
theorem dX5_thing_72 : decode cX5_thing 72 = .ok (.iload_n 1, 1) := by decide +kernel
theorem dX5_thing_73 : decode cX5_thing 73 = .ok (.iastore, 1) := by decide +kernel
theorem dX5_thing_74 : decode cX5_thing 74 = .ok (.aload_n 0, 1) := by decide +kernel
theorem dX5_thing_75 : decode cX5_thing 75 = .ok (.getfield 19, 3) := by decide +kernel
theorem dX5_thing_78 : decode cX5_thing 78 = .ok (.aload_n 0, 1) := by decide +kernel
theorem dX5_thing_79 : decode cX5_thing 79 = .ok (.getfield 70, 3) := by decide +kernel
theorem dX5_thing_82 : decode cX5_thing 82 = .ok (.iload_n 2, 1) := by decide +kernel
theorem dX5_thing_83 : decode cX5_thing 83 = .ok (.iastore, 1) := by decide +kernel
theorem dX5_thing_84 : decode cX5_thing 84 = .ok (.aload_n 0, 1) := by decide +kernel
theorem dX5_thing_85 : decode cX5_thing 85 = .ok (.getfield 22, 3) := by decide +kernel
theorem dX5_thing_88 : decode cX5_thing 88 = .ok (.aload_n 0, 1) := by decide +kernel
theorem dX5_thing_89 : decode cX5_thing 89 = .ok (.getfield 70, 3) := by decide +kernel
theorem dX5_thing_92 : decode cX5_thing 92 = .ok (.iload_n 3, 1) := by decide +kernel
theorem dX5_thing_93 : decode cX5_thing 93 = .ok (.iastore, 1) := by decide +kernel
theorem dX5_thing_94 : decode cX5_thing 94 = .ok (.aload_n 0, 1) := by decide +kernel
theorem dX5_thing_95 : decode cX5_thing 95 = .ok (.getfield 25, 3) := by decide +kernel
theorem dX5_thing_98 : decode cX5_thing 98 = .ok (.aload_n 0, 1) := by decide +kernel
theorem dX5_thing_99 : decode cX5_thing 99 = .ok (.getfield 70, 3) := by decide +kernel
theorem dX5_thing_102 : decode cX5_thing 102 = .ok (.iload 4, 2) := by decide +kernel
theorem dX5_thing_104 : decode cX5_thing 104 = .ok (.iastore, 1) := by decide +kernel
theorem dX5_thing_105 : decode cX5_thing 105 = .ok (.aload_n 0, 1) := by decide +kernel
theorem dX5_thing_106 : decode cX5_thing 106 = .ok (.dup, 1) := by decide +kernel
theorem dX5_thing_107 : decode cX5_thing 107 = .ok (.getfield 70, 3) := by decide +kernel
theorem dX5_thing_110 : decode cX5_thing 110 = .ok (.iconst 1, 1) := by decide +kernel
theorem dX5_thing_111 : decode cX5_thing 111 = .ok (.iadd, 1) := by decide +kernel
theorem dX5_thing_112 : decode cX5_thing 112 = .ok (.putfield 70, 3) := by decide +kernel
theorem dX5_thing_115 : decode cX5_thing 115 = .ok (.aload_n 0, 1) := by decide +kernel
theorem dX5_thing_116 : decode cX5_thing 116 = .ok (.getfield 70, 3) := by decide +kernel
theorem dX5_thing_119 : decode cX5_thing 119 = .ok (.iconst 1, 1) := by decide +kernel
theorem dX5_thing_120 : decode cX5_thing 120 = .ok (.isub, 1) := by decide +kernel
theorem dX5_thing_121 : decode cX5_thing 121 = .ok (.ireturn, 1) := by decide +kernel
set_option maxRecDepth 20000 in
theorem ggX5_promise_X5_in : GoodIn wsX5_promise wsX5_in := goodIn_r _ [9] (by decide +kernel) (by decide +kernel)
set_option maxRecDepth 20000 in
theorem gX5_promise_X5_in : GoodIn wsX5_promise (va_wsS RX5 66 yX5_in wsX5_in) := goodIn_app (goodIn_of _ (by decide +kernel)) ggX5_promise_X5_in
theorem dX5_promise_0 : decode cX5_promise 0 = .ok (.iload_n 1, 1) := by decide +kernel
theorem dX5_promise_1 : decode cX5_promise 1 = .ok (.i2l, 1) := by decide +kernel
theorem dX5_promise_2 : decode cX5_promise 2 = .ok (.lconst 0, 1) := by decide +kernel
theorem dX5_promise_3 : decode cX5_promise 3 = .ok (.ldc2_w 79, 3) := by decide +kernel
theorem dX5_promise_6 : decode cX5_promise 6 = .ok (.invokestatic 66, 3) := by decide +kernel
theorem dX5_promise_9 : decode cX5_promise 9 = .ok (.ifCond .eq 27, 3) := by decide +kernel
theorem dX5_promise_12 : decode cX5_promise 12 = .ok (.iload_n 2, 1) := by decide +kernel
theorem dX5_promise_13 : decode cX5_promise 13 = .ok (.i2l, 1) := by decide +kernel
theorem dX5_promise_14 : decode cX5_promise 14 = .ok (.lconst 0, 1) := by decide +kernel
theorem dX5_promise_15 : decode cX5_promise 15 = .ok (.ldc2_w 81, 3) := by decide +kernel
theorem dX5_promise_18 : decode cX5_promise 18 = .ok (.invokestatic 66, 3) := by decide +kernel
theorem dX5_promise_21 : decode cX5_promise 21 = .ok (.ifCond .eq 15, 3) := by decide +kernel
theorem dX5_promise_24 : decode cX5_promise 24 = .ok (.iload_n 3, 1) := by decide +kernel
theorem dX5_promise_25 : decode cX5_promise 25 = .ok (.i2l, 1) := by decide +kernel
theorem dX5_promise_26 : decode cX5_promise 26 = .ok (.lconst 0, 1) := by decide +kernel
theorem dX5_promise_27 : decode cX5_promise 27 = .ok (.ldc2_w 83, 3) := by decide +kernel
theorem dX5_promise_30 : decode cX5_promise 30 = .ok (.invokestatic 66, 3) := by decide +kernel
theorem dX5_promise_33 : decode cX5_promise 33 = .ok (.ifCond .ne 6, 3) := by decide +kernel
theorem dX5_promise_36 : decode cX5_promise 36 = .ok (.bipush (-2), 2) := by decide +kernel
theorem dX5_promise_38 : decode cX5_promise 38 = .ok (.ireturn, 1) := by decide +kernel
theorem dX5_promise_39 : decode cX5_promise 39 = .ok (.aload_n 0, 1) := by decide +kernel
theorem dX5_promise_40 : decode cX5_promise 40 = .ok (.getfield 7, 3) := by decide +kernel
theorem dX5_promise_43 : decode cX5_promise 43 = .ok (.iload_n 1, 1) := by decide +kernel
theorem dX5_promise_44 : decode cX5_promise 44 = .ok (.iload_n 2, 1) := by decide +kernel
theorem dX5_promise_45 : decode cX5_promise 45 = .ok (.iastore, 1) := by decide +kernel
theorem dX5_promise_46 : decode cX5_promise 46 = .ok (.aload_n 0, 1) := by decide +kernel
theorem dX5_promise_47 : decode cX5_promise 47 = .ok (.getfield 13, 3) := by decide +kernel
theorem dX5_promise_50 : decode cX5_promise 50 = .ok (.iload_n 1, 1) := by decide +kernel
theorem dX5_promise_51 : decode cX5_promise 51 = .ok (.iload_n 3, 1) := by decide +kernel
theorem dX5_promise_52 : decode cX5_promise 52 = .ok (.iastore, 1) := by decide +kernel
theorem dX5_promise_53 : decode cX5_promise 53 = .ok (.iconst 1, 1) := by decide +kernel
theorem dX5_promise_54 : decode cX5_promise 54 = .ok (.ireturn, 1) := by decide +kernel
set_option maxRecDepth 20000 in
theorem ggX5_again_X5_in : GoodIn wsX5_again wsX5_in := goodIn_r _ [6] (by decide +kernel) (by decide +kernel)
set_option maxRecDepth 20000 in
theorem gX5_again_X5_in : GoodIn wsX5_again (va_wsS RX5 66 yX5_in wsX5_in) := goodIn_app (goodIn_of _ (by decide +kernel)) ggX5_again_X5_in
theorem dX5_again_0 : decode cX5_again 0 = .ok (.iload_n 1, 1) := by decide +kernel
theorem dX5_again_1 : decode cX5_again 1 = .ok (.i2l, 1) := by decide +kernel
theorem dX5_again_2 : decode cX5_again 2 = .ok (.lconst 0, 1) := by decide +kernel
theorem dX5_again_3 : decode cX5_again 3 = .ok (.ldc2_w 85, 3) := by decide +kernel
theorem dX5_again_6 : decode cX5_again 6 = .ok (.invokestatic 66, 3) := by decide +kernel
theorem dX5_again_9 : decode cX5_again 9 = .ok (.ifCond .ne 6, 3) := by decide +kernel
theorem dX5_again_12 : decode cX5_again 12 = .ok (.bipush (-2), 2) := by decide +kernel
theorem dX5_again_14 : decode cX5_again 14 = .ok (.ireturn, 1) := by decide +kernel
theorem dX5_again_15 : decode cX5_again 15 = .ok (.aload_n 0, 1) := by decide +kernel
theorem dX5_again_16 : decode cX5_again 16 = .ok (.getfield 28, 3) := by decide +kernel
theorem dX5_again_19 : decode cX5_again 19 = .ok (.istore_n 2, 1) := by decide +kernel
theorem dX5_again_20 : decode cX5_again 20 = .ok (.aload_n 0, 1) := by decide +kernel
theorem dX5_again_21 : decode cX5_again 21 = .ok (.iload_n 1, 1) := by decide +kernel
theorem dX5_again_22 : decode cX5_again 22 = .ok (.putfield 28, 3) := by decide +kernel
theorem dX5_again_25 : decode cX5_again 25 = .ok (.iload_n 2, 1) := by decide +kernel
theorem dX5_again_26 : decode cX5_again 26 = .ok (.ireturn, 1) := by decide +kernel
theorem dX5_isPromised_0 : decode cX5_isPromised 0 = .ok (.iload_n 2, 1) := by decide +kernel
theorem dX5_isPromised_1 : decode cX5_isPromised 1 = .ok (.aload_n 0, 1) := by decide +kernel
theorem dX5_isPromised_2 : decode cX5_isPromised 2 = .ok (.getfield 19, 3) := by decide +kernel
theorem dX5_isPromised_5 : decode cX5_isPromised 5 = .ok (.iload_n 1, 1) := by decide +kernel
theorem dX5_isPromised_6 : decode cX5_isPromised 6 = .ok (.iaload, 1) := by decide +kernel
theorem dX5_isPromised_7 : decode cX5_isPromised 7 = .ok (.isub, 1) := by decide +kernel
theorem dX5_isPromised_8 : decode cX5_isPromised 8 = .ok (.istore_n 3, 1) := by decide +kernel
theorem dX5_isPromised_9 : decode cX5_isPromised 9 = .ok (.iload_n 3, 1) := by decide +kernel
theorem dX5_isPromised_10 : decode cX5_isPromised 10 = .ok (.ifCond .lt 44, 3) := by decide +kernel
theorem dX5_isPromised_13 : decode cX5_isPromised 13 = .ok (.iload_n 3, 1) := by decide +kernel
theorem dX5_isPromised_14 : decode cX5_isPromised 14 = .ok (.aload_n 0, 1) := by decide +kernel
theorem dX5_isPromised_15 : decode cX5_isPromised 15 = .ok (.getfield 7, 3) := by decide +kernel
theorem dX5_isPromised_18 : decode cX5_isPromised 18 = .ok (.aload_n 0, 1) := by decide +kernel
theorem dX5_isPromised_19 : decode cX5_isPromised 19 = .ok (.getfield 25, 3) := by decide +kernel
theorem dX5_isPromised_22 : decode cX5_isPromised 22 = .ok (.iload_n 1, 1) := by decide +kernel
theorem dX5_isPromised_23 : decode cX5_isPromised 23 = .ok (.iaload, 1) := by decide +kernel
theorem dX5_isPromised_24 : decode cX5_isPromised 24 = .ok (.iaload, 1) := by decide +kernel
theorem dX5_isPromised_25 : decode cX5_isPromised 25 = .ok (.if_icmp .ge 29, 3) := by decide +kernel
theorem dX5_isPromised_28 : decode cX5_isPromised 28 = .ok (.iload_n 3, 1) := by decide +kernel
theorem dX5_isPromised_29 : decode cX5_isPromised 29 = .ok (.aload_n 0, 1) := by decide +kernel
theorem dX5_isPromised_30 : decode cX5_isPromised 30 = .ok (.getfield 22, 3) := by decide +kernel
theorem dX5_isPromised_33 : decode cX5_isPromised 33 = .ok (.iload_n 1, 1) := by decide +kernel
theorem dX5_isPromised_34 : decode cX5_isPromised 34 = .ok (.iaload, 1) := by decide +kernel
theorem dX5_isPromised_35 : decode cX5_isPromised 35 = .ok (.imul, 1) := by decide +kernel
theorem dX5_isPromised_36 : decode cX5_isPromised 36 = .ok (.aload_n 0, 1) := by decide +kernel
theorem dX5_isPromised_37 : decode cX5_isPromised 37 = .ok (.getfield 13, 3) := by decide +kernel
theorem dX5_isPromised_40 : decode cX5_isPromised 40 = .ok (.aload_n 0, 1) := by decide +kernel
theorem dX5_isPromised_41 : decode cX5_isPromised 41 = .ok (.getfield 25, 3) := by decide +kernel
theorem dX5_isPromised_44 : decode cX5_isPromised 44 = .ok (.iload_n 1, 1) := by decide +kernel
theorem dX5_isPromised_45 : decode cX5_isPromised 45 = .ok (.iaload, 1) := by decide +kernel
theorem dX5_isPromised_46 : decode cX5_isPromised 46 = .ok (.iaload, 1) := by decide +kernel
theorem dX5_isPromised_47 : decode cX5_isPromised 47 = .ok (.if_icmp .ge 7, 3) := by decide +kernel
theorem dX5_isPromised_50 : decode cX5_isPromised 50 = .ok (.iconst 1, 1) := by decide +kernel
theorem dX5_isPromised_51 : decode cX5_isPromised 51 = .ok (.goto 4, 3) := by decide +kernel
theorem dX5_isPromised_54 : decode cX5_isPromised 54 = .ok (.iconst 0, 1) := by decide +kernel
theorem dX5_isPromised_55 : decode cX5_isPromised 55 = .ok (.ireturn, 1) := by decide +kernel
set_option maxRecDepth 20000 in
theorem ggX5_promised_X5_noThing : GoodIn wsX5_promised wsX5_noThing := goodIn_r _ [5, 6, 7, 8, 4, 9, 23, 24, 25, 26, 27, 28, 29, 30, 31, 32, 33, 34, 35, 36, 37, 38, 39, 40, 41, 42, 43] (by decide +kernel) (by decide +kernel)
set_option maxRecDepth 20000 in
theorem gX5_promised_X5_noThing : GoodIn wsX5_promised (wsV RX5 87 RX5 yX5_noThing wsX5_noThing) := goodIn_app (goodIn_of _ (by decide +kernel)) ggX5_promised_X5_noThing
set_option maxRecDepth 20000 in
theorem ggX5_promised_X5_isMonth : GoodIn wsX5_promised wsX5_isMonth := goodIn_r _ [12, 13, 7, 8, 4, 9] (by decide +kernel) (by decide +kernel)
set_option maxRecDepth 20000 in
theorem gX5_promised_X5_isMonth : GoodIn wsX5_promised (va_wsS RX5 91 yX5_isMonth wsX5_isMonth) := goodIn_app (goodIn_of _ (by decide +kernel)) ggX5_promised_X5_isMonth
set_option maxRecDepth 20000 in
theorem ggX5_promised_X5_isPromised : GoodIn wsX5_promised wsX5_isPromised := goodIn_r _ [17, 18, 19, 20, 21, 22, 23, 24, 25, 26, 27, 28, 29, 30, 31, 32, 33, 34, 35, 36, 37, 38, 39, 40, 41, 42, 43] (by decide +kernel) (by decide +kernel)
set_option maxRecDepth 20000 in
theorem gX5_promised_X5_isPromised : GoodIn wsX5_promised (wsV RX5 94 RX5 yX5_isPromised wsX5_isPromised) := goodIn_app (goodIn_of _ (by decide +kernel)) ggX5_promised_X5_isPromised
theorem dX5_promised_0 : decode cX5_promised 0 = .ok (.aload_n 0, 1) := by decide +kernel
theorem dX5_promised_1 : decode cX5_promised 1 = .ok (.iload_n 1, 1) := by decide +kernel
theorem dX5_promised_2 : decode cX5_promised 2 = .ok (.invokevirtual 87, 3) := by decide +kernel
theorem dX5_promised_5 : decode cX5_promised 5 = .ok (.ifCond .ne 10, 3) := by decide +kernel
theorem dX5_promised_8 : decode cX5_promised 8 = .ok (.iload_n 2, 1) := by decide +kernel
theorem dX5_promised_9 : decode cX5_promised 9 = .ok (.invokestatic 91, 3) := by decide +kernel
theorem dX5_promised_12 : decode cX5_promised 12 = .ok (.ifCond .ne 8, 3) := by decide +kernel
theorem dX5_promised_15 : decode cX5_promised 15 = .ok (.bipush (-2), 2) := by decide +kernel
theorem dX5_promised_17 : decode cX5_promised 17 = .ok (.goto 17, 3) := by decide +kernel
theorem dX5_promised_20 : decode cX5_promised 20 = .ok (.aload_n 0, 1) := by decide +kernel
theorem dX5_promised_21 : decode cX5_promised 21 = .ok (.iload_n 1, 1) := by decide +kernel
theorem dX5_promised_22 : decode cX5_promised 22 = .ok (.iload_n 2, 1) := by decide +kernel
theorem dX5_promised_23 : decode cX5_promised 23 = .ok (.invokevirtual 94, 3) := by decide +kernel
theorem dX5_promised_26 : decode cX5_promised 26 = .ok (.ifCond .eq 7, 3) := by decide +kernel
theorem dX5_promised_29 : decode cX5_promised 29 = .ok (.iconst 1, 1) := by decide +kernel
theorem dX5_promised_30 : decode cX5_promised 30 = .ok (.goto 4, 3) := by decide +kernel
theorem dX5_promised_33 : decode cX5_promised 33 = .ok (.iconst 0, 1) := by decide +kernel
theorem dX5_promised_34 : decode cX5_promised 34 = .ok (.ireturn, 1) := by decide +kernel
set_option maxRecDepth 20000 in
theorem ggX5_lastOf_X5_isPromised : GoodIn wsX5_lastOf wsX5_isPromised := goodIn_r _ [6, 1, 7, 8, 9, 10, 11, 12, 13, 14, 15, 16, 17, 18, 19, 20, 21, 22, 23, 24, 25, 26, 27, 28, 29, 30, 31] (by decide +kernel) (by decide +kernel)
set_option maxRecDepth 20000 in
theorem gX5_lastOf_X5_isPromised : GoodIn wsX5_lastOf (wsV RX5 94 RX5 yX5_isPromised wsX5_isPromised) := goodIn_app (goodIn_of _ (by decide +kernel)) ggX5_lastOf_X5_isPromised
theorem dX5_lastOf_0 : decode cX5_lastOf 0 = .ok (.iconst (-1), 1) := by decide +kernel
theorem dX5_lastOf_1 : decode cX5_lastOf 1 = .ok (.istore_n 2, 1) := by decide +kernel
theorem dX5_lastOf_2 : decode cX5_lastOf 2 = .ok (.aload_n 0, 1) := by decide +kernel
theorem dX5_lastOf_3 : decode cX5_lastOf 3 = .ok (.getfield 19, 3) := by decide +kernel
theorem dX5_lastOf_6 : decode cX5_lastOf 6 = .ok (.iload_n 1, 1) := by decide +kernel
theorem dX5_lastOf_7 : decode cX5_lastOf 7 = .ok (.iaload, 1) := by decide +kernel
theorem dX5_lastOf_8 : decode cX5_lastOf 8 = .ok (.istore_n 3, 1) := by decide +kernel
theorem dX5_lastOf_9 : decode cX5_lastOf 9 = .ok (.iload_n 3, 1) := by decide +kernel
theorem dX5_lastOf_10 : decode cX5_lastOf 10 = .ok (.aload_n 0, 1) := by decide +kernel
theorem dX5_lastOf_11 : decode cX5_lastOf 11 = .ok (.getfield 19, 3) := by decide +kernel
theorem dX5_lastOf_14 : decode cX5_lastOf 14 = .ok (.iload_n 1, 1) := by decide +kernel
theorem dX5_lastOf_15 : decode cX5_lastOf 15 = .ok (.iaload, 1) := by decide +kernel
theorem dX5_lastOf_16 : decode cX5_lastOf 16 = .ok (.bipush 120, 2) := by decide +kernel
theorem dX5_lastOf_18 : decode cX5_lastOf 18 = .ok (.iadd, 1) := by decide +kernel
theorem dX5_lastOf_19 : decode cX5_lastOf 19 = .ok (.if_icmp .gt 24, 3) := by decide +kernel
theorem dX5_lastOf_22 : decode cX5_lastOf 22 = .ok (.aload_n 0, 1) := by decide +kernel
theorem dX5_lastOf_23 : decode cX5_lastOf 23 = .ok (.iload_n 1, 1) := by decide +kernel
theorem dX5_lastOf_24 : decode cX5_lastOf 24 = .ok (.iload_n 3, 1) := by decide +kernel
theorem dX5_lastOf_25 : decode cX5_lastOf 25 = .ok (.invokevirtual 94, 3) := by decide +kernel
theorem dX5_lastOf_28 : decode cX5_lastOf 28 = .ok (.ifCond .eq 7, 3) := by decide +kernel
theorem dX5_lastOf_31 : decode cX5_lastOf 31 = .ok (.iload_n 3, 1) := by decide +kernel
theorem dX5_lastOf_32 : decode cX5_lastOf 32 = .ok (.goto 4, 3) := by decide +kernel
theorem dX5_lastOf_35 : decode cX5_lastOf 35 = .ok (.iload_n 2, 1) := by decide +kernel
theorem dX5_lastOf_36 : decode cX5_lastOf 36 = .ok (.istore_n 2, 1) := by decide +kernel
theorem dX5_lastOf_37 : decode cX5_lastOf 37 = .ok (.iinc 3 1, 3) := by decide +kernel
theorem dX5_lastOf_40 : decode cX5_lastOf 40 = .ok (.goto (-31), 3) := by decide +kernel
theorem dX5_lastOf_43 : decode cX5_lastOf 43 = .ok (.iload_n 2, 1) := by decide +kernel
theorem dX5_lastOf_44 : decode cX5_lastOf 44 = .ok (.ireturn, 1) := by decide +kernel
set_option maxRecDepth 20000 in
theorem ggX5_last_X5_noThing : GoodIn wsX5_last wsX5_noThing := goodIn_r _ [5, 6, 7, 8, 4, 9, 23, 24, 25, 26, 27, 28, 29, 30, 31, 32, 33, 34, 35, 36, 37, 38, 39, 40, 41, 42, 43] (by decide +kernel) (by decide +kernel)
set_option maxRecDepth 20000 in
theorem gX5_last_X5_noThing : GoodIn wsX5_last (wsV RX5 87 RX5 yX5_noThing wsX5_noThing) := goodIn_app (goodIn_of _ (by decide +kernel)) ggX5_last_X5_noThing
set_option maxRecDepth 20000 in
theorem ggX5_last_X5_lastOf : GoodIn wsX5_last wsX5_lastOf := goodIn_r _ [13, 14, 15, 16, 17, 4, 18, 19, 20, 21, 22, 23, 24, 25, 26, 27, 28, 29, 30, 31, 32, 33, 34, 35, 36, 37, 38, 39, 40, 41, 42, 43] (by decide +kernel) (by decide +kernel)
set_option maxRecDepth 20000 in
theorem gX5_last_X5_lastOf : GoodIn wsX5_last (wsV RX5 98 RX5 yX5_lastOf wsX5_lastOf) := goodIn_app (goodIn_of _ (by decide +kernel)) ggX5_last_X5_lastOf
theorem dX5_last_0 : decode cX5_last 0 = .ok (.aload_n 0, 1) := by decide +kernel
theorem dX5_last_1 : decode cX5_last 1 = .ok (.iload_n 1, 1) := by decide +kernel
theorem dX5_last_2 : decode cX5_last 2 = .ok (.invokevirtual 87, 3) := by decide +kernel
theorem dX5_last_5 : decode cX5_last 5 = .ok (.ifCond .eq 8, 3) := by decide +kernel
theorem dX5_last_8 : decode cX5_last 8 = .ok (.bipush (-2), 2) := by decide +kernel
theorem dX5_last_10 : decode cX5_last 10 = .ok (.goto 8, 3) := by decide +kernel
theorem dX5_last_13 : decode cX5_last 13 = .ok (.aload_n 0, 1) := by decide +kernel
theorem dX5_last_14 : decode cX5_last 14 = .ok (.iload_n 1, 1) := by decide +kernel
theorem dX5_last_15 : decode cX5_last 15 = .ok (.invokevirtual 98, 3) := by decide +kernel
theorem dX5_last_18 : decode cX5_last 18 = .ok (.ireturn, 1) := by decide +kernel
set_option maxRecDepth 20000 in
theorem ggX5_wasLet_X5_in : GoodIn wsX5_wasLet wsX5_in := goodIn_r _ [9] (by decide +kernel) (by decide +kernel)
set_option maxRecDepth 20000 in
theorem gX5_wasLet_X5_in : GoodIn wsX5_wasLet (va_wsS RX5 66 yX5_in wsX5_in) := goodIn_app (goodIn_of _ (by decide +kernel)) ggX5_wasLet_X5_in
theorem dX5_wasLet_0 : decode cX5_wasLet 0 = .ok (.iconst 0, 1) := by decide +kernel
theorem dX5_wasLet_1 : decode cX5_wasLet 1 = .ok (.istore 5, 2) := by decide +kernel
theorem dX5_wasLet_3 : decode cX5_wasLet 3 = .ok (.iconst 0, 1) := by decide +kernel
theorem dX5_wasLet_4 : decode cX5_wasLet 4 = .ok (.istore 6, 2) := by decide +kernel
theorem dX5_wasLet_6 : decode cX5_wasLet 6 = .ok (.iload 6, 2) := by decide +kernel
theorem dX5_wasLet_8 : decode cX5_wasLet 8 = .ok (.aload_n 0, 1) := by decide +kernel
theorem dX5_wasLet_9 : decode cX5_wasLet 9 = .ok (.getfield 102, 3) := by decide +kernel
theorem dX5_wasLet_12 : decode cX5_wasLet 12 = .ok (.if_icmp .ge 72, 3) := by decide +kernel
theorem dX5_wasLet_15 : decode cX5_wasLet 15 = .ok (.iload 5, 2) := by decide +kernel
theorem dX5_wasLet_17 : decode cX5_wasLet 17 = .ok (.ifCond .ne 54, 3) := by decide +kernel
theorem dX5_wasLet_20 : decode cX5_wasLet 20 = .ok (.aload_n 0, 1) := by decide +kernel
theorem dX5_wasLet_21 : decode cX5_wasLet 21 = .ok (.getfield 47, 3) := by decide +kernel
theorem dX5_wasLet_24 : decode cX5_wasLet 24 = .ok (.iload 6, 2) := by decide +kernel
theorem dX5_wasLet_26 : decode cX5_wasLet 26 = .ok (.iaload, 1) := by decide +kernel
theorem dX5_wasLet_27 : decode cX5_wasLet 27 = .ok (.ifCond .ne 48, 3) := by decide +kernel
theorem dX5_wasLet_30 : decode cX5_wasLet 30 = .ok (.aload_n 0, 1) := by decide +kernel
theorem dX5_wasLet_31 : decode cX5_wasLet 31 = .ok (.getfield 32, 3) := by decide +kernel
theorem dX5_wasLet_34 : decode cX5_wasLet 34 = .ok (.iload 6, 2) := by decide +kernel
theorem dX5_wasLet_36 : decode cX5_wasLet 36 = .ok (.iaload, 1) := by decide +kernel
theorem dX5_wasLet_37 : decode cX5_wasLet 37 = .ok (.iload_n 1, 1) := by decide +kernel
theorem dX5_wasLet_38 : decode cX5_wasLet 38 = .ok (.if_icmp .ne 37, 3) := by decide +kernel
theorem dX5_wasLet_41 : decode cX5_wasLet 41 = .ok (.aload_n 0, 1) := by decide +kernel
theorem dX5_wasLet_42 : decode cX5_wasLet 42 = .ok (.getfield 35, 3) := by decide +kernel
theorem dX5_wasLet_45 : decode cX5_wasLet 45 = .ok (.iload 6, 2) := by decide +kernel
theorem dX5_wasLet_47 : decode cX5_wasLet 47 = .ok (.iaload, 1) := by decide +kernel
theorem dX5_wasLet_48 : decode cX5_wasLet 48 = .ok (.iload_n 2, 1) := by decide +kernel
theorem dX5_wasLet_49 : decode cX5_wasLet 49 = .ok (.if_icmp .ne 26, 3) := by decide +kernel
theorem dX5_wasLet_52 : decode cX5_wasLet 52 = .ok (.aload_n 0, 1) := by decide +kernel
theorem dX5_wasLet_53 : decode cX5_wasLet 53 = .ok (.getfield 38, 3) := by decide +kernel
theorem dX5_wasLet_56 : decode cX5_wasLet 56 = .ok (.iload 6, 2) := by decide +kernel
theorem dX5_wasLet_58 : decode cX5_wasLet 58 = .ok (.iaload, 1) := by decide +kernel
theorem dX5_wasLet_59 : decode cX5_wasLet 59 = .ok (.i2l, 1) := by decide +kernel
theorem dX5_wasLet_60 : decode cX5_wasLet 60 = .ok (.iload_n 3, 1) := by decide +kernel
theorem dX5_wasLet_61 : decode cX5_wasLet 61 = .ok (.i2l, 1) := by decide +kernel
theorem dX5_wasLet_62 : decode cX5_wasLet 62 = .ok (.iload 4, 2) := by decide +kernel
theorem dX5_wasLet_64 : decode cX5_wasLet 64 = .ok (.i2l, 1) := by decide +kernel
theorem dX5_wasLet_65 : decode cX5_wasLet 65 = .ok (.invokestatic 66, 3) := by decide +kernel
theorem dX5_wasLet_68 : decode cX5_wasLet 68 = .ok (.ifCond .eq 7, 3) := by decide +kernel
theorem dX5_wasLet_71 : decode cX5_wasLet 71 = .ok (.iconst 1, 1) := by decide +kernel
theorem dX5_wasLet_72 : decode cX5_wasLet 72 = .ok (.goto 4, 3) := by decide +kernel
theorem dX5_wasLet_75 : decode cX5_wasLet 75 = .ok (.iconst 0, 1) := by decide +kernel
theorem dX5_wasLet_76 : decode cX5_wasLet 76 = .ok (.istore 5, 2) := by decide +kernel
theorem dX5_wasLet_78 : decode cX5_wasLet 78 = .ok (.iinc 6 1, 3) := by decide +kernel
theorem dX5_wasLet_81 : decode cX5_wasLet 81 = .ok (.goto (-75), 3) := by decide +kernel
theorem dX5_wasLet_84 : decode cX5_wasLet 84 = .ok (.iload 5, 2) := by decide +kernel
theorem dX5_wasLet_86 : decode cX5_wasLet 86 = .ok (.ireturn, 1) := by decide +kernel
set_option maxRecDepth 20000 in
theorem ggX5_judge_X5_wasLet : GoodIn wsX5_judge wsX5_wasLet := goodIn_r _ [7, 8, 9, 10, 11, 12, 13, 14, 6, 15, 24, 25, 26, 27, 28, 29, 30, 31, 32, 33, 34, 35, 36, 37, 38, 39, 40, 41, 42, 43, 44] (by decide +kernel) (by decide +kernel)
set_option maxRecDepth 20000 in
theorem gX5_judge_X5_wasLet : GoodIn wsX5_judge (wsV RX5 105 RX5 yX5_wasLet wsX5_wasLet) := goodIn_app (goodIn_of _ (by decide +kernel)) ggX5_judge_X5_wasLet
set_option maxRecDepth 20000 in
theorem ggX5_judge_X5_isPromised : GoodIn wsX5_judge wsX5_isPromised := goodIn_r _ [19, 1, 20, 21, 22, 23, 24, 25, 26, 27, 28, 29, 30, 31, 32, 33, 34, 35, 36, 37, 38, 39, 40, 41, 42, 43, 44] (by decide +kernel) (by decide +kernel)
set_option maxRecDepth 20000 in
theorem gX5_judge_X5_isPromised : GoodIn wsX5_judge (wsV RX5 94 RX5 yX5_isPromised wsX5_isPromised) := goodIn_app (goodIn_of _ (by decide +kernel)) ggX5_judge_X5_isPromised
theorem dX5_judge_0 : decode cX5_judge 0 = .ok (.iload_n 3, 1) := by decide +kernel
theorem dX5_judge_1 : decode cX5_judge 1 = .ok (.aload_n 0, 1) := by decide +kernel
theorem dX5_judge_2 : decode cX5_judge 2 = .ok (.getfield 19, 3) := by decide +kernel
theorem dX5_judge_5 : decode cX5_judge 5 = .ok (.iload_n 1, 1) := by decide +kernel
theorem dX5_judge_6 : decode cX5_judge 6 = .ok (.iaload, 1) := by decide +kernel
theorem dX5_judge_7 : decode cX5_judge 7 = .ok (.if_icmp .ge 5, 3) := by decide +kernel
theorem dX5_judge_10 : decode cX5_judge 10 = .ok (.iconst 1, 1) := by decide +kernel
theorem dX5_judge_11 : decode cX5_judge 11 = .ok (.ireturn, 1) := by decide +kernel
theorem dX5_judge_12 : decode cX5_judge 12 = .ok (.aload_n 0, 1) := by decide +kernel
theorem dX5_judge_13 : decode cX5_judge 13 = .ok (.iload_n 1, 1) := by decide +kernel
theorem dX5_judge_14 : decode cX5_judge 14 = .ok (.iload_n 2, 1) := by decide +kernel
theorem dX5_judge_15 : decode cX5_judge 15 = .ok (.iload_n 3, 1) := by decide +kernel
theorem dX5_judge_16 : decode cX5_judge 16 = .ok (.iload_n 3, 1) := by decide +kernel
theorem dX5_judge_17 : decode cX5_judge 17 = .ok (.invokevirtual 105, 3) := by decide +kernel
theorem dX5_judge_20 : decode cX5_judge 20 = .ok (.ifCond .eq 5, 3) := by decide +kernel
theorem dX5_judge_23 : decode cX5_judge 23 = .ok (.iconst 2, 1) := by decide +kernel
theorem dX5_judge_24 : decode cX5_judge 24 = .ok (.ireturn, 1) := by decide +kernel
theorem dX5_judge_25 : decode cX5_judge 25 = .ok (.aload_n 0, 1) := by decide +kernel
theorem dX5_judge_26 : decode cX5_judge 26 = .ok (.iload_n 1, 1) := by decide +kernel
theorem dX5_judge_27 : decode cX5_judge 27 = .ok (.iload_n 3, 1) := by decide +kernel
theorem dX5_judge_28 : decode cX5_judge 28 = .ok (.invokevirtual 94, 3) := by decide +kernel
theorem dX5_judge_31 : decode cX5_judge 31 = .ok (.ifCond .ne 5, 3) := by decide +kernel
theorem dX5_judge_34 : decode cX5_judge 34 = .ok (.iconst 3, 1) := by decide +kernel
theorem dX5_judge_35 : decode cX5_judge 35 = .ok (.ireturn, 1) := by decide +kernel
theorem dX5_judge_36 : decode cX5_judge 36 = .ok (.aload_n 0, 1) := by decide +kernel
theorem dX5_judge_37 : decode cX5_judge 37 = .ok (.iload_n 1, 1) := by decide +kernel
theorem dX5_judge_38 : decode cX5_judge 38 = .ok (.iload_n 2, 1) := by decide +kernel
theorem dX5_judge_39 : decode cX5_judge 39 = .ok (.iload_n 3, 1) := by decide +kernel
theorem dX5_judge_40 : decode cX5_judge 40 = .ok (.aload_n 0, 1) := by decide +kernel
theorem dX5_judge_41 : decode cX5_judge 41 = .ok (.getfield 28, 3) := by decide +kernel
theorem dX5_judge_44 : decode cX5_judge 44 = .ok (.isub, 1) := by decide +kernel
theorem dX5_judge_45 : decode cX5_judge 45 = .ok (.iload_n 3, 1) := by decide +kernel
theorem dX5_judge_46 : decode cX5_judge 46 = .ok (.iconst 1, 1) := by decide +kernel
theorem dX5_judge_47 : decode cX5_judge 47 = .ok (.isub, 1) := by decide +kernel
theorem dX5_judge_48 : decode cX5_judge 48 = .ok (.invokevirtual 105, 3) := by decide +kernel
theorem dX5_judge_51 : decode cX5_judge 51 = .ok (.ifCond .eq 7, 3) := by decide +kernel
theorem dX5_judge_54 : decode cX5_judge 54 = .ok (.iconst 4, 1) := by decide +kernel
theorem dX5_judge_55 : decode cX5_judge 55 = .ok (.goto 4, 3) := by decide +kernel
theorem dX5_judge_58 : decode cX5_judge 58 = .ok (.iconst 0, 1) := by decide +kernel
theorem dX5_judge_59 : decode cX5_judge 59 = .ok (.ireturn, 1) := by decide +kernel
set_option maxRecDepth 20000 in
theorem ggX5_claim_X5_noThing : GoodIn wsX5_claim wsX5_noThing := goodIn_r _ [14, 15, 16, 17, 13, 18, 41, 42, 43, 44, 45, 46, 47, 48, 49, 50, 51, 52, 53, 54, 55, 56, 57, 58, 59, 60, 61] (by decide +kernel) (by decide +kernel)
set_option maxRecDepth 20000 in
theorem gX5_claim_X5_noThing : GoodIn wsX5_claim (wsV RX5 87 RX5 yX5_noThing wsX5_noThing) := goodIn_app (goodIn_of _ (by decide +kernel)) ggX5_claim_X5_noThing
set_option maxRecDepth 20000 in
theorem ggX5_claim_X5_in : GoodIn wsX5_claim wsX5_in := goodIn_r _ [18] (by decide +kernel) (by decide +kernel)
set_option maxRecDepth 20000 in
theorem gX5_claim_X5_in : GoodIn wsX5_claim (va_wsS RX5 66 yX5_in wsX5_in) := goodIn_app (goodIn_of _ (by decide +kernel)) ggX5_claim_X5_in
set_option maxRecDepth 20000 in
theorem ggX5_claim_X5_isMonth : GoodIn wsX5_claim wsX5_isMonth := goodIn_r _ [21, 22, 16, 17, 13, 18] (by decide +kernel) (by decide +kernel)
set_option maxRecDepth 20000 in
theorem gX5_claim_X5_isMonth : GoodIn wsX5_claim (va_wsS RX5 91 yX5_isMonth wsX5_isMonth) := goodIn_app (goodIn_of _ (by decide +kernel)) ggX5_claim_X5_isMonth
set_option maxRecDepth 20000 in
theorem ggX5_claim_X5_judge : GoodIn wsX5_claim wsX5_judge := goodIn_r _ [26, 27, 28, 29, 30, 31, 13, 32, 3, 9, 4, 5, 6, 16, 17, 18, 33, 34, 35, 36, 37, 38, 39, 40, 41, 42, 43, 44, 45, 46, 47, 48, 49, 50, 51, 52, 53, 54, 55, 56, 57, 58, 59, 60, 61] (by decide +kernel) (by decide +kernel)
set_option maxRecDepth 20000 in
theorem gX5_claim_X5_judge : GoodIn wsX5_claim (wsV RX5 113 RX5 yX5_judge wsX5_judge) := goodIn_app (goodIn_of _ (by decide +kernel)) ggX5_claim_X5_judge
theorem dX5_claim_0 : decode cX5_claim 0 = .ok (.aload_n 0, 1) := by decide +kernel
theorem dX5_claim_1 : decode cX5_claim 1 = .ok (.iload_n 1, 1) := by decide +kernel
theorem dX5_claim_2 : decode cX5_claim 2 = .ok (.invokevirtual 87, 3) := by decide +kernel
theorem dX5_claim_5 : decode cX5_claim 5 = .ok (.ifCond .ne 49, 3) := by decide +kernel
theorem dX5_claim_8 : decode cX5_claim 8 = .ok (.iload_n 2, 1) := by decide +kernel
theorem dX5_claim_9 : decode cX5_claim 9 = .ok (.i2l, 1) := by decide +kernel
theorem dX5_claim_10 : decode cX5_claim 10 = .ok (.lconst 0, 1) := by decide +kernel
theorem dX5_claim_11 : decode cX5_claim 11 = .ok (.ldc2_w 109, 3) := by decide +kernel
theorem dX5_claim_14 : decode cX5_claim 14 = .ok (.invokestatic 66, 3) := by decide +kernel
theorem dX5_claim_17 : decode cX5_claim 17 = .ok (.ifCond .eq 37, 3) := by decide +kernel
theorem dX5_claim_20 : decode cX5_claim 20 = .ok (.iload_n 3, 1) := by decide +kernel
theorem dX5_claim_21 : decode cX5_claim 21 = .ok (.invokestatic 91, 3) := by decide +kernel
theorem dX5_claim_24 : decode cX5_claim 24 = .ok (.ifCond .eq 30, 3) := by decide +kernel
theorem dX5_claim_27 : decode cX5_claim 27 = .ok (.iload 4, 2) := by decide +kernel
theorem dX5_claim_29 : decode cX5_claim 29 = .ok (.invokestatic 91, 3) := by decide +kernel
theorem dX5_claim_32 : decode cX5_claim 32 = .ok (.ifCond .eq 22, 3) := by decide +kernel
theorem dX5_claim_35 : decode cX5_claim 35 = .ok (.iload 4, 2) := by decide +kernel
theorem dX5_claim_37 : decode cX5_claim 37 = .ok (.iload_n 3, 1) := by decide +kernel
theorem dX5_claim_38 : decode cX5_claim 38 = .ok (.if_icmp .lt 16, 3) := by decide +kernel
theorem dX5_claim_41 : decode cX5_claim 41 = .ok (.iload 5, 2) := by decide +kernel
theorem dX5_claim_43 : decode cX5_claim 43 = .ok (.i2l, 1) := by decide +kernel
theorem dX5_claim_44 : decode cX5_claim 44 = .ok (.lconst 0, 1) := by decide +kernel
theorem dX5_claim_45 : decode cX5_claim 45 = .ok (.ldc2_w 111, 3) := by decide +kernel
theorem dX5_claim_48 : decode cX5_claim 48 = .ok (.invokestatic 66, 3) := by decide +kernel
theorem dX5_claim_51 : decode cX5_claim 51 = .ok (.ifCond .ne 6, 3) := by decide +kernel
theorem dX5_claim_54 : decode cX5_claim 54 = .ok (.bipush (-2), 2) := by decide +kernel
theorem dX5_claim_56 : decode cX5_claim 56 = .ok (.ireturn, 1) := by decide +kernel
theorem dX5_claim_57 : decode cX5_claim 57 = .ok (.aload_n 0, 1) := by decide +kernel
theorem dX5_claim_58 : decode cX5_claim 58 = .ok (.getfield 102, 3) := by decide +kernel
theorem dX5_claim_61 : decode cX5_claim 61 = .ok (.bipush 100, 2) := by decide +kernel
theorem dX5_claim_63 : decode cX5_claim 63 = .ok (.if_icmp .ne 6, 3) := by decide +kernel
theorem dX5_claim_66 : decode cX5_claim 66 = .ok (.bipush (-4), 2) := by decide +kernel
theorem dX5_claim_68 : decode cX5_claim 68 = .ok (.ireturn, 1) := by decide +kernel
theorem dX5_claim_69 : decode cX5_claim 69 = .ok (.aload_n 0, 1) := by decide +kernel
theorem dX5_claim_70 : decode cX5_claim 70 = .ok (.iload_n 1, 1) := by decide +kernel
theorem dX5_claim_71 : decode cX5_claim 71 = .ok (.iload_n 2, 1) := by decide +kernel
theorem dX5_claim_72 : decode cX5_claim 72 = .ok (.iload_n 3, 1) := by decide +kernel
theorem dX5_claim_73 : decode cX5_claim 73 = .ok (.invokevirtual 113, 3) := by decide +kernel
theorem dX5_claim_76 : decode cX5_claim 76 = .ok (.istore 6, 2) := by decide +kernel
theorem dX5_claim_78 : decode cX5_claim 78 = .ok (.aload_n 0, 1) := by decide +kernel
theorem dX5_claim_79 : decode cX5_claim 79 = .ok (.getfield 32, 3) := by decide +kernel
theorem dX5_claim_82 : decode cX5_claim 82 = .ok (.aload_n 0, 1) := by decide +kernel
theorem dX5_claim_83 : decode cX5_claim 83 = .ok (.getfield 102, 3) := by decide +kernel
theorem dX5_claim_86 : decode cX5_claim 86 = .ok (.iload_n 1, 1) := by decide +kernel
theorem dX5_claim_87 : decode cX5_claim 87 = .ok (.iastore, 1) := by decide +kernel
theorem dX5_claim_88 : decode cX5_claim 88 = .ok (.aload_n 0, 1) := by decide +kernel
theorem dX5_claim_89 : decode cX5_claim 89 = .ok (.getfield 35, 3) := by decide +kernel
theorem dX5_claim_92 : decode cX5_claim 92 = .ok (.aload_n 0, 1) := by decide +kernel
theorem dX5_claim_93 : decode cX5_claim 93 = .ok (.getfield 102, 3) := by decide +kernel
theorem dX5_claim_96 : decode cX5_claim 96 = .ok (.iload_n 2, 1) := by decide +kernel
theorem dX5_claim_97 : decode cX5_claim 97 = .ok (.iastore, 1) := by decide +kernel
theorem dX5_claim_98 : decode cX5_claim 98 = .ok (.aload_n 0, 1) := by decide +kernel
theorem dX5_claim_99 : decode cX5_claim 99 = .ok (.getfield 38, 3) := by decide +kernel
theorem dX5_claim_102 : decode cX5_claim 102 = .ok (.aload_n 0, 1) := by decide +kernel
theorem dX5_claim_103 : decode cX5_claim 103 = .ok (.getfield 102, 3) := by decide +kernel
theorem dX5_claim_106 : decode cX5_claim 106 = .ok (.iload_n 3, 1) := by decide +kernel
theorem dX5_claim_107 : decode cX5_claim 107 = .ok (.iastore, 1) := by decide +kernel
theorem dX5_claim_108 : decode cX5_claim 108 = .ok (.aload_n 0, 1) := by decide +kernel
theorem dX5_claim_109 : decode cX5_claim 109 = .ok (.getfield 41, 3) := by decide +kernel
theorem dX5_claim_112 : decode cX5_claim 112 = .ok (.aload_n 0, 1) := by decide +kernel
theorem dX5_claim_113 : decode cX5_claim 113 = .ok (.getfield 102, 3) := by decide +kernel
theorem dX5_claim_116 : decode cX5_claim 116 = .ok (.iload 4, 2) := by decide +kernel
theorem dX5_claim_118 : decode cX5_claim 118 = .ok (.iastore, 1) := by decide +kernel
theorem dX5_claim_119 : decode cX5_claim 119 = .ok (.aload_n 0, 1) := by decide +kernel
theorem dX5_claim_120 : decode cX5_claim 120 = .ok (.getfield 44, 3) := by decide +kernel
theorem dX5_claim_123 : decode cX5_claim 123 = .ok (.aload_n 0, 1) := by decide +kernel
theorem dX5_claim_124 : decode cX5_claim 124 = .ok (.getfield 102, 3) := by decide +kernel
theorem dX5_claim_127 : decode cX5_claim 127 = .ok (.iload 5, 2) := by decide +kernel
theorem dX5_claim_129 : decode cX5_claim 129 = .ok (.iastore, 1) := by decide +kernel
theorem dX5_claim_130 : decode cX5_claim 130 = .ok (.aload_n 0, 1) := by decide +kernel
theorem dX5_claim_131 : decode cX5_claim 131 = .ok (.getfield 47, 3) := by decide +kernel
theorem dX5_claim_134 : decode cX5_claim 134 = .ok (.aload_n 0, 1) := by decide +kernel
theorem dX5_claim_135 : decode cX5_claim 135 = .ok (.getfield 102, 3) := by decide +kernel
theorem dX5_claim_138 : decode cX5_claim 138 = .ok (.iload 6, 2) := by decide +kernel
theorem dX5_claim_140 : decode cX5_claim 140 = .ok (.iastore, 1) := by decide +kernel
theorem dX5_claim_141 : decode cX5_claim 141 = .ok (.aload_n 0, 1) := by decide +kernel
theorem dX5_claim_142 : decode cX5_claim 142 = .ok (.dup, 1) := by decide +kernel
theorem dX5_claim_143 : decode cX5_claim 143 = .ok (.getfield 102, 3) := by decide +kernel
theorem dX5_claim_146 : decode cX5_claim 146 = .ok (.iconst 1, 1) := by decide +kernel
theorem dX5_claim_147 : decode cX5_claim 147 = .ok (.iadd, 1) := by decide +kernel
theorem dX5_claim_148 : decode cX5_claim 148 = .ok (.putfield 102, 3) := by decide +kernel
theorem dX5_claim_151 : decode cX5_claim 151 = .ok (.iload 6, 2) := by decide +kernel
theorem dX5_claim_153 : decode cX5_claim 153 = .ok (.ireturn, 1) := by decide +kernel
theorem dX5_aboutOf_0 : decode cX5_aboutOf 0 = .ok (.iload_n 2, 1) := by decide +kernel
theorem dX5_aboutOf_1 : decode cX5_aboutOf 1 = .ok (.tableswitch 81 0 5 #[39, 46, 53, 60, 67, 74], 39) := by decide +kernel
theorem dX5_aboutOf_40 : decode cX5_aboutOf 40 = .ok (.aload_n 0, 1) := by decide +kernel
theorem dX5_aboutOf_41 : decode cX5_aboutOf 41 = .ok (.getfield 32, 3) := by decide +kernel
theorem dX5_aboutOf_44 : decode cX5_aboutOf 44 = .ok (.iload_n 1, 1) := by decide +kernel
theorem dX5_aboutOf_45 : decode cX5_aboutOf 45 = .ok (.iaload, 1) := by decide +kernel
theorem dX5_aboutOf_46 : decode cX5_aboutOf 46 = .ok (.ireturn, 1) := by decide +kernel
theorem dX5_aboutOf_47 : decode cX5_aboutOf 47 = .ok (.aload_n 0, 1) := by decide +kernel
theorem dX5_aboutOf_48 : decode cX5_aboutOf 48 = .ok (.getfield 35, 3) := by decide +kernel
theorem dX5_aboutOf_51 : decode cX5_aboutOf 51 = .ok (.iload_n 1, 1) := by decide +kernel
theorem dX5_aboutOf_52 : decode cX5_aboutOf 52 = .ok (.iaload, 1) := by decide +kernel
theorem dX5_aboutOf_53 : decode cX5_aboutOf 53 = .ok (.ireturn, 1) := by decide +kernel
theorem dX5_aboutOf_54 : decode cX5_aboutOf 54 = .ok (.aload_n 0, 1) := by decide +kernel
theorem dX5_aboutOf_55 : decode cX5_aboutOf 55 = .ok (.getfield 38, 3) := by decide +kernel
theorem dX5_aboutOf_58 : decode cX5_aboutOf 58 = .ok (.iload_n 1, 1) := by decide +kernel
theorem dX5_aboutOf_59 : decode cX5_aboutOf 59 = .ok (.iaload, 1) := by decide +kernel
theorem dX5_aboutOf_60 : decode cX5_aboutOf 60 = .ok (.ireturn, 1) := by decide +kernel
theorem dX5_aboutOf_61 : decode cX5_aboutOf 61 = .ok (.aload_n 0, 1) := by decide +kernel
theorem dX5_aboutOf_62 : decode cX5_aboutOf 62 = .ok (.getfield 41, 3) := by decide +kernel
theorem dX5_aboutOf_65 : decode cX5_aboutOf 65 = .ok (.iload_n 1, 1) := by decide +kernel
theorem dX5_aboutOf_66 : decode cX5_aboutOf 66 = .ok (.iaload, 1) := by decide +kernel
theorem dX5_aboutOf_67 : decode cX5_aboutOf 67 = .ok (.ireturn, 1) := by decide +kernel
theorem dX5_aboutOf_68 : decode cX5_aboutOf 68 = .ok (.aload_n 0, 1) := by decide +kernel
theorem dX5_aboutOf_69 : decode cX5_aboutOf 69 = .ok (.getfield 44, 3) := by decide +kernel
theorem dX5_aboutOf_72 : decode cX5_aboutOf 72 = .ok (.iload_n 1, 1) := by decide +kernel
theorem dX5_aboutOf_73 : decode cX5_aboutOf 73 = .ok (.iaload, 1) := by decide +kernel
theorem dX5_aboutOf_74 : decode cX5_aboutOf 74 = .ok (.ireturn, 1) := by decide +kernel
theorem dX5_aboutOf_75 : decode cX5_aboutOf 75 = .ok (.aload_n 0, 1) := by decide +kernel
theorem dX5_aboutOf_76 : decode cX5_aboutOf 76 = .ok (.getfield 47, 3) := by decide +kernel
theorem dX5_aboutOf_79 : decode cX5_aboutOf 79 = .ok (.iload_n 1, 1) := by decide +kernel
theorem dX5_aboutOf_80 : decode cX5_aboutOf 80 = .ok (.iaload, 1) := by decide +kernel
theorem dX5_aboutOf_81 : decode cX5_aboutOf 81 = .ok (.ireturn, 1) := by decide +kernel
theorem dX5_aboutOf_82 : decode cX5_aboutOf 82 = .ok (.aload_n 0, 1) := by decide +kernel
theorem dX5_aboutOf_83 : decode cX5_aboutOf 83 = .ok (.getfield 41, 3) := by decide +kernel
theorem dX5_aboutOf_86 : decode cX5_aboutOf 86 = .ok (.iload_n 1, 1) := by decide +kernel
theorem dX5_aboutOf_87 : decode cX5_aboutOf 87 = .ok (.iaload, 1) := by decide +kernel
theorem dX5_aboutOf_88 : decode cX5_aboutOf 88 = .ok (.aload_n 0, 1) := by decide +kernel
theorem dX5_aboutOf_89 : decode cX5_aboutOf 89 = .ok (.getfield 38, 3) := by decide +kernel
theorem dX5_aboutOf_92 : decode cX5_aboutOf 92 = .ok (.iload_n 1, 1) := by decide +kernel
theorem dX5_aboutOf_93 : decode cX5_aboutOf 93 = .ok (.iaload, 1) := by decide +kernel
theorem dX5_aboutOf_94 : decode cX5_aboutOf 94 = .ok (.isub, 1) := by decide +kernel
theorem dX5_aboutOf_95 : decode cX5_aboutOf 95 = .ok (.ireturn, 1) := by decide +kernel
set_option maxRecDepth 20000 in
theorem ggX5_about_X5_in : GoodIn wsX5_about wsX5_in := goodIn_r _ [6] (by decide +kernel) (by decide +kernel)
set_option maxRecDepth 20000 in
theorem gX5_about_X5_in : GoodIn wsX5_about (va_wsS RX5 66 yX5_in wsX5_in) := goodIn_app (goodIn_of _ (by decide +kernel)) ggX5_about_X5_in
set_option maxRecDepth 20000 in
theorem ggX5_about_X5_aboutOf : GoodIn wsX5_about wsX5_aboutOf := goodIn_r _ [10, 11, 12, 13, 14, 15, 16, 17, 18, 19, 20, 21, 22, 23, 24, 25, 26, 27, 28, 29, 30, 31, 32, 33, 34, 35, 36, 37] (by decide +kernel) (by decide +kernel)
set_option maxRecDepth 20000 in
theorem gX5_about_X5_aboutOf : GoodIn wsX5_about (wsV RX5 119 RX5 yX5_aboutOf wsX5_aboutOf) := goodIn_app (goodIn_of _ (by decide +kernel)) ggX5_about_X5_aboutOf
theorem dX5_about_0 : decode cX5_about 0 = .ok (.iload_n 1, 1) := by decide +kernel
theorem dX5_about_1 : decode cX5_about 1 = .ok (.ifCond .lt 15, 3) := by decide +kernel
theorem dX5_about_4 : decode cX5_about 4 = .ok (.iload_n 2, 1) := by decide +kernel
theorem dX5_about_5 : decode cX5_about 5 = .ok (.i2l, 1) := by decide +kernel
theorem dX5_about_6 : decode cX5_about 6 = .ok (.lconst 0, 1) := by decide +kernel
theorem dX5_about_7 : decode cX5_about 7 = .ok (.ldc2_w 117, 3) := by decide +kernel
theorem dX5_about_10 : decode cX5_about 10 = .ok (.invokestatic 66, 3) := by decide +kernel
theorem dX5_about_13 : decode cX5_about 13 = .ok (.ifCond .ne 8, 3) := by decide +kernel
theorem dX5_about_16 : decode cX5_about 16 = .ok (.bipush (-2), 2) := by decide +kernel
theorem dX5_about_18 : decode cX5_about 18 = .ok (.goto 21, 3) := by decide +kernel
theorem dX5_about_21 : decode cX5_about 21 = .ok (.iload_n 1, 1) := by decide +kernel
theorem dX5_about_22 : decode cX5_about 22 = .ok (.aload_n 0, 1) := by decide +kernel
theorem dX5_about_23 : decode cX5_about 23 = .ok (.getfield 102, 3) := by decide +kernel
theorem dX5_about_26 : decode cX5_about 26 = .ok (.if_icmp .lt 7, 3) := by decide +kernel
theorem dX5_about_29 : decode cX5_about 29 = .ok (.iconst (-1), 1) := by decide +kernel
theorem dX5_about_30 : decode cX5_about 30 = .ok (.goto 9, 3) := by decide +kernel
theorem dX5_about_33 : decode cX5_about 33 = .ok (.aload_n 0, 1) := by decide +kernel
theorem dX5_about_34 : decode cX5_about 34 = .ok (.iload_n 1, 1) := by decide +kernel
theorem dX5_about_35 : decode cX5_about 35 = .ok (.iload_n 2, 1) := by decide +kernel
theorem dX5_about_36 : decode cX5_about 36 = .ok (.invokevirtual 119, 3) := by decide +kernel
theorem dX5_about_39 : decode cX5_about 39 = .ok (.ireturn, 1) := by decide +kernel
theorem dX5_counts_0 : decode cX5_counts 0 = .ok (.aload_n 0, 1) := by decide +kernel
theorem dX5_counts_1 : decode cX5_counts 1 = .ok (.getfield 47, 3) := by decide +kernel
theorem dX5_counts_4 : decode cX5_counts 4 = .ok (.iload_n 1, 1) := by decide +kernel
theorem dX5_counts_5 : decode cX5_counts 5 = .ok (.iaload, 1) := by decide +kernel
theorem dX5_counts_6 : decode cX5_counts 6 = .ok (.ifCond .ne 17, 3) := by decide +kernel
theorem dX5_counts_9 : decode cX5_counts 9 = .ok (.aload_n 0, 1) := by decide +kernel
theorem dX5_counts_10 : decode cX5_counts 10 = .ok (.getfield 41, 3) := by decide +kernel
theorem dX5_counts_13 : decode cX5_counts 13 = .ok (.iload_n 1, 1) := by decide +kernel
theorem dX5_counts_14 : decode cX5_counts 14 = .ok (.iaload, 1) := by decide +kernel
theorem dX5_counts_15 : decode cX5_counts 15 = .ok (.iload_n 2, 1) := by decide +kernel
theorem dX5_counts_16 : decode cX5_counts 16 = .ok (.if_icmp .gt 7, 3) := by decide +kernel
theorem dX5_counts_19 : decode cX5_counts 19 = .ok (.iconst 1, 1) := by decide +kernel
theorem dX5_counts_20 : decode cX5_counts 20 = .ok (.goto 4, 3) := by decide +kernel
theorem dX5_counts_23 : decode cX5_counts 23 = .ok (.iconst 0, 1) := by decide +kernel
theorem dX5_counts_24 : decode cX5_counts 24 = .ok (.ireturn, 1) := by decide +kernel
set_option maxRecDepth 20000 in
theorem ggX5_table_X5_in : GoodIn wsX5_table wsX5_in := goodIn_r _ [9] (by decide +kernel) (by decide +kernel)
set_option maxRecDepth 20000 in
theorem gX5_table_X5_in : GoodIn wsX5_table (va_wsS RX5 66 yX5_in wsX5_in) := goodIn_app (goodIn_of _ (by decide +kernel)) ggX5_table_X5_in
set_option maxRecDepth 20000 in
theorem ggX5_table_X5_isMonth : GoodIn wsX5_table wsX5_isMonth := goodIn_r _ [12, 13, 6, 7, 8, 9] (by decide +kernel) (by decide +kernel)
set_option maxRecDepth 20000 in
theorem gX5_table_X5_isMonth : GoodIn wsX5_table (va_wsS RX5 91 yX5_isMonth wsX5_isMonth) := goodIn_app (goodIn_of _ (by decide +kernel)) ggX5_table_X5_isMonth
set_option maxRecDepth 20000 in
theorem ggX5_table_X5_counts : GoodIn wsX5_table wsX5_counts := goodIn_r _ [17, 18, 19, 20, 21, 22, 23, 24, 25, 26, 27, 28, 29, 30, 31, 32, 33, 34, 35, 36, 37, 38, 39, 40] (by decide +kernel) (by decide +kernel)
set_option maxRecDepth 20000 in
theorem gX5_table_X5_counts : GoodIn wsX5_table (wsV RX5 123 RX5 yX5_counts wsX5_counts) := goodIn_app (goodIn_of _ (by decide +kernel)) ggX5_table_X5_counts
theorem dX5_table_0 : decode cX5_table 0 = .ok (.iload_n 1, 1) := by decide +kernel
theorem dX5_table_1 : decode cX5_table 1 = .ok (.i2l, 1) := by decide +kernel
theorem dX5_table_2 : decode cX5_table 2 = .ok (.lconst 0, 1) := by decide +kernel
theorem dX5_table_3 : decode cX5_table 3 = .ok (.ldc2_w 75, 3) := by decide +kernel
theorem dX5_table_6 : decode cX5_table 6 = .ok (.invokestatic 66, 3) := by decide +kernel
theorem dX5_table_9 : decode cX5_table 9 = .ok (.ifCond .eq 17, 3) := by decide +kernel
theorem dX5_table_12 : decode cX5_table 12 = .ok (.iload_n 2, 1) := by decide +kernel
theorem dX5_table_13 : decode cX5_table 13 = .ok (.invokestatic 91, 3) := by decide +kernel
theorem dX5_table_16 : decode cX5_table 16 = .ok (.ifCond .eq 10, 3) := by decide +kernel
theorem dX5_table_19 : decode cX5_table 19 = .ok (.iload_n 3, 1) := by decide +kernel
theorem dX5_table_20 : decode cX5_table 20 = .ok (.invokestatic 91, 3) := by decide +kernel
theorem dX5_table_23 : decode cX5_table 23 = .ok (.ifCond .ne 6, 3) := by decide +kernel
theorem dX5_table_26 : decode cX5_table 26 = .ok (.bipush (-2), 2) := by decide +kernel
theorem dX5_table_28 : decode cX5_table 28 = .ok (.ireturn, 1) := by decide +kernel
theorem dX5_table_29 : decode cX5_table 29 = .ok (.iconst 0, 1) := by decide +kernel
theorem dX5_table_30 : decode cX5_table 30 = .ok (.istore 4, 2) := by decide +kernel
theorem dX5_table_32 : decode cX5_table 32 = .ok (.iconst 0, 1) := by decide +kernel
theorem dX5_table_33 : decode cX5_table 33 = .ok (.istore 5, 2) := by decide +kernel
theorem dX5_table_35 : decode cX5_table 35 = .ok (.iload 5, 2) := by decide +kernel
theorem dX5_table_37 : decode cX5_table 37 = .ok (.aload_n 0, 1) := by decide +kernel
theorem dX5_table_38 : decode cX5_table 38 = .ok (.getfield 102, 3) := by decide +kernel
theorem dX5_table_41 : decode cX5_table 41 = .ok (.if_icmp .ge 58, 3) := by decide +kernel
theorem dX5_table_44 : decode cX5_table 44 = .ok (.iload 4, 2) := by decide +kernel
theorem dX5_table_46 : decode cX5_table 46 = .ok (.aload_n 0, 1) := by decide +kernel
theorem dX5_table_47 : decode cX5_table 47 = .ok (.iload 5, 2) := by decide +kernel
theorem dX5_table_49 : decode cX5_table 49 = .ok (.iload_n 3, 1) := by decide +kernel
theorem dX5_table_50 : decode cX5_table 50 = .ok (.invokevirtual 123, 3) := by decide +kernel
theorem dX5_table_53 : decode cX5_table 53 = .ok (.ifCond .eq 36, 3) := by decide +kernel
theorem dX5_table_56 : decode cX5_table 56 = .ok (.aload_n 0, 1) := by decide +kernel
theorem dX5_table_57 : decode cX5_table 57 = .ok (.getfield 19, 3) := by decide +kernel
theorem dX5_table_60 : decode cX5_table 60 = .ok (.aload_n 0, 1) := by decide +kernel
theorem dX5_table_61 : decode cX5_table 61 = .ok (.getfield 32, 3) := by decide +kernel
theorem dX5_table_64 : decode cX5_table 64 = .ok (.iload 5, 2) := by decide +kernel
theorem dX5_table_66 : decode cX5_table 66 = .ok (.iaload, 1) := by decide +kernel
theorem dX5_table_67 : decode cX5_table 67 = .ok (.iaload, 1) := by decide +kernel
theorem dX5_table_68 : decode cX5_table 68 = .ok (.iload_n 1, 1) := by decide +kernel
theorem dX5_table_69 : decode cX5_table 69 = .ok (.if_icmp .ne 20, 3) := by decide +kernel
theorem dX5_table_72 : decode cX5_table 72 = .ok (.aload_n 0, 1) := by decide +kernel
theorem dX5_table_73 : decode cX5_table 73 = .ok (.getfield 38, 3) := by decide +kernel
theorem dX5_table_76 : decode cX5_table 76 = .ok (.iload 5, 2) := by decide +kernel
theorem dX5_table_78 : decode cX5_table 78 = .ok (.iaload, 1) := by decide +kernel
theorem dX5_table_79 : decode cX5_table 79 = .ok (.iload_n 1, 1) := by decide +kernel
theorem dX5_table_80 : decode cX5_table 80 = .ok (.iload_n 2, 1) := by decide +kernel
theorem dX5_table_81 : decode cX5_table 81 = .ok (.iadd, 1) := by decide +kernel
theorem dX5_table_82 : decode cX5_table 82 = .ok (.if_icmp .ne 7, 3) := by decide +kernel
theorem dX5_table_85 : decode cX5_table 85 = .ok (.iconst 1, 1) := by decide +kernel
theorem dX5_table_86 : decode cX5_table 86 = .ok (.goto 4, 3) := by decide +kernel
theorem dX5_table_89 : decode cX5_table 89 = .ok (.iconst 0, 1) := by decide +kernel
theorem dX5_table_90 : decode cX5_table 90 = .ok (.iadd, 1) := by decide +kernel
theorem dX5_table_91 : decode cX5_table 91 = .ok (.istore 4, 2) := by decide +kernel
theorem dX5_table_93 : decode cX5_table 93 = .ok (.iinc 5 1, 3) := by decide +kernel
theorem dX5_table_96 : decode cX5_table 96 = .ok (.goto (-61), 3) := by decide +kernel
theorem dX5_table_99 : decode cX5_table 99 = .ok (.iload 4, 2) := by decide +kernel
theorem dX5_table_101 : decode cX5_table 101 = .ok (.ireturn, 1) := by decide +kernel
set_option maxRecDepth 20000 in
theorem ggX5_exposedAt_X5_isPromised : GoodIn wsX5_exposedAt wsX5_isPromised := goodIn_r _ [7, 2, 8, 9, 10, 11, 12, 13, 14, 15, 16, 17, 18, 19, 20, 21, 22, 23, 24, 25, 26, 27, 28, 29, 30, 31, 32] (by decide +kernel) (by decide +kernel)
set_option maxRecDepth 20000 in
theorem gX5_exposedAt_X5_isPromised : GoodIn wsX5_exposedAt (wsV RX5 94 RX5 yX5_isPromised wsX5_isPromised) := goodIn_app (goodIn_of _ (by decide +kernel)) ggX5_exposedAt_X5_isPromised
theorem dX5_exposedAt_0 : decode cX5_exposedAt 0 = .ok (.iconst 0, 1) := by decide +kernel
theorem dX5_exposedAt_1 : decode cX5_exposedAt 1 = .ok (.istore_n 3, 1) := by decide +kernel
theorem dX5_exposedAt_2 : decode cX5_exposedAt 2 = .ok (.iconst 0, 1) := by decide +kernel
theorem dX5_exposedAt_3 : decode cX5_exposedAt 3 = .ok (.istore 4, 2) := by decide +kernel
theorem dX5_exposedAt_5 : decode cX5_exposedAt 5 = .ok (.iload 4, 2) := by decide +kernel
theorem dX5_exposedAt_7 : decode cX5_exposedAt 7 = .ok (.aload_n 0, 1) := by decide +kernel
theorem dX5_exposedAt_8 : decode cX5_exposedAt 8 = .ok (.getfield 70, 3) := by decide +kernel
theorem dX5_exposedAt_11 : decode cX5_exposedAt 11 = .ok (.if_icmp .ge 48, 3) := by decide +kernel
theorem dX5_exposedAt_14 : decode cX5_exposedAt 14 = .ok (.iload_n 3, 1) := by decide +kernel
theorem dX5_exposedAt_15 : decode cX5_exposedAt 15 = .ok (.aload_n 0, 1) := by decide +kernel
theorem dX5_exposedAt_16 : decode cX5_exposedAt 16 = .ok (.getfield 19, 3) := by decide +kernel
theorem dX5_exposedAt_19 : decode cX5_exposedAt 19 = .ok (.iload 4, 2) := by decide +kernel
theorem dX5_exposedAt_21 : decode cX5_exposedAt 21 = .ok (.iaload, 1) := by decide +kernel
theorem dX5_exposedAt_22 : decode cX5_exposedAt 22 = .ok (.iload_n 1, 1) := by decide +kernel
theorem dX5_exposedAt_23 : decode cX5_exposedAt 23 = .ok (.iadd, 1) := by decide +kernel
theorem dX5_exposedAt_24 : decode cX5_exposedAt 24 = .ok (.iload_n 2, 1) := by decide +kernel
theorem dX5_exposedAt_25 : decode cX5_exposedAt 25 = .ok (.if_icmp .gt 25, 3) := by decide +kernel
theorem dX5_exposedAt_28 : decode cX5_exposedAt 28 = .ok (.aload_n 0, 1) := by decide +kernel
theorem dX5_exposedAt_29 : decode cX5_exposedAt 29 = .ok (.iload 4, 2) := by decide +kernel
theorem dX5_exposedAt_31 : decode cX5_exposedAt 31 = .ok (.aload_n 0, 1) := by decide +kernel
theorem dX5_exposedAt_32 : decode cX5_exposedAt 32 = .ok (.getfield 19, 3) := by decide +kernel
theorem dX5_exposedAt_35 : decode cX5_exposedAt 35 = .ok (.iload 4, 2) := by decide +kernel
theorem dX5_exposedAt_37 : decode cX5_exposedAt 37 = .ok (.iaload, 1) := by decide +kernel
theorem dX5_exposedAt_38 : decode cX5_exposedAt 38 = .ok (.iload_n 1, 1) := by decide +kernel
theorem dX5_exposedAt_39 : decode cX5_exposedAt 39 = .ok (.iadd, 1) := by decide +kernel
theorem dX5_exposedAt_40 : decode cX5_exposedAt 40 = .ok (.invokevirtual 94, 3) := by decide +kernel
theorem dX5_exposedAt_43 : decode cX5_exposedAt 43 = .ok (.ifCond .eq 7, 3) := by decide +kernel
theorem dX5_exposedAt_46 : decode cX5_exposedAt 46 = .ok (.iconst 1, 1) := by decide +kernel
theorem dX5_exposedAt_47 : decode cX5_exposedAt 47 = .ok (.goto 4, 3) := by decide +kernel
theorem dX5_exposedAt_50 : decode cX5_exposedAt 50 = .ok (.iconst 0, 1) := by decide +kernel
theorem dX5_exposedAt_51 : decode cX5_exposedAt 51 = .ok (.iadd, 1) := by decide +kernel
theorem dX5_exposedAt_52 : decode cX5_exposedAt 52 = .ok (.istore_n 3, 1) := by decide +kernel
theorem dX5_exposedAt_53 : decode cX5_exposedAt 53 = .ok (.iinc 4 1, 3) := by decide +kernel
theorem dX5_exposedAt_56 : decode cX5_exposedAt 56 = .ok (.goto (-51), 3) := by decide +kernel
theorem dX5_exposedAt_59 : decode cX5_exposedAt 59 = .ok (.iload_n 3, 1) := by decide +kernel
theorem dX5_exposedAt_60 : decode cX5_exposedAt 60 = .ok (.ireturn, 1) := by decide +kernel
set_option maxRecDepth 20000 in
theorem ggX5_exposed_X5_isMonth : GoodIn wsX5_exposed wsX5_isMonth := goodIn_r _ [4, 5, 6, 7, 3, 8] (by decide +kernel) (by decide +kernel)
set_option maxRecDepth 20000 in
theorem gX5_exposed_X5_isMonth : GoodIn wsX5_exposed (va_wsS RX5 91 yX5_isMonth wsX5_isMonth) := goodIn_app (goodIn_of _ (by decide +kernel)) ggX5_exposed_X5_isMonth
set_option maxRecDepth 20000 in
theorem ggX5_exposed_X5_exposedAt : GoodIn wsX5_exposed wsX5_exposedAt := goodIn_r _ [12, 13, 14, 15, 16, 17, 3, 18, 19, 20, 21, 22, 23, 24, 25, 26, 27, 28, 29, 30, 31, 32, 33, 34, 35, 36, 37, 38, 39, 40, 41, 42, 43] (by decide +kernel) (by decide +kernel)
set_option maxRecDepth 20000 in
theorem gX5_exposed_X5_exposedAt : GoodIn wsX5_exposed (wsV RX5 126 RX5 yX5_exposedAt wsX5_exposedAt) := goodIn_app (goodIn_of _ (by decide +kernel)) ggX5_exposed_X5_exposedAt
theorem dX5_exposed_0 : decode cX5_exposed 0 = .ok (.iload_n 1, 1) := by decide +kernel
theorem dX5_exposed_1 : decode cX5_exposed 1 = .ok (.invokestatic 91, 3) := by decide +kernel
theorem dX5_exposed_4 : decode cX5_exposed 4 = .ok (.ifCond .eq 10, 3) := by decide +kernel
theorem dX5_exposed_7 : decode cX5_exposed 7 = .ok (.iload_n 2, 1) := by decide +kernel
theorem dX5_exposed_8 : decode cX5_exposed 8 = .ok (.invokestatic 91, 3) := by decide +kernel
theorem dX5_exposed_11 : decode cX5_exposed 11 = .ok (.ifCond .ne 8, 3) := by decide +kernel
theorem dX5_exposed_14 : decode cX5_exposed 14 = .ok (.bipush (-2), 2) := by decide +kernel
theorem dX5_exposed_16 : decode cX5_exposed 16 = .ok (.goto 9, 3) := by decide +kernel
theorem dX5_exposed_19 : decode cX5_exposed 19 = .ok (.aload_n 0, 1) := by decide +kernel
theorem dX5_exposed_20 : decode cX5_exposed 20 = .ok (.iload_n 1, 1) := by decide +kernel
theorem dX5_exposed_21 : decode cX5_exposed 21 = .ok (.iload_n 2, 1) := by decide +kernel
theorem dX5_exposed_22 : decode cX5_exposed 22 = .ok (.invokevirtual 126, 3) := by decide +kernel
theorem dX5_exposed_25 : decode cX5_exposed 25 = .ok (.ireturn, 1) := by decide +kernel
theorem dX5_gcd_0 : decode cX5_gcd 0 = .ok (.lload_n 0, 1) := by decide +kernel
theorem dX5_gcd_1 : decode cX5_gcd 1 = .ok (.lstore 4, 2) := by decide +kernel
theorem dX5_gcd_3 : decode cX5_gcd 3 = .ok (.lload_n 2, 1) := by decide +kernel
theorem dX5_gcd_4 : decode cX5_gcd 4 = .ok (.lstore 6, 2) := by decide +kernel
theorem dX5_gcd_6 : decode cX5_gcd 6 = .ok (.lload 6, 2) := by decide +kernel
theorem dX5_gcd_8 : decode cX5_gcd 8 = .ok (.lconst 0, 1) := by decide +kernel
theorem dX5_gcd_9 : decode cX5_gcd 9 = .ok (.lcmp, 1) := by decide +kernel
theorem dX5_gcd_10 : decode cX5_gcd 10 = .ok (.ifCond .eq 21, 3) := by decide +kernel
theorem dX5_gcd_13 : decode cX5_gcd 13 = .ok (.lload 4, 2) := by decide +kernel
theorem dX5_gcd_15 : decode cX5_gcd 15 = .ok (.lload 6, 2) := by decide +kernel
theorem dX5_gcd_17 : decode cX5_gcd 17 = .ok (.lrem, 1) := by decide +kernel
theorem dX5_gcd_18 : decode cX5_gcd 18 = .ok (.lstore 8, 2) := by decide +kernel
theorem dX5_gcd_20 : decode cX5_gcd 20 = .ok (.lload 6, 2) := by decide +kernel
theorem dX5_gcd_22 : decode cX5_gcd 22 = .ok (.lstore 4, 2) := by decide +kernel
theorem dX5_gcd_24 : decode cX5_gcd 24 = .ok (.lload 8, 2) := by decide +kernel
theorem dX5_gcd_26 : decode cX5_gcd 26 = .ok (.lstore 6, 2) := by decide +kernel
theorem dX5_gcd_28 : decode cX5_gcd 28 = .ok (.goto (-22), 3) := by decide +kernel
theorem dX5_gcd_31 : decode cX5_gcd 31 = .ok (.lload 4, 2) := by decide +kernel
theorem dX5_gcd_33 : decode cX5_gcd 33 = .ok (.lreturn, 1) := by decide +kernel
set_option maxRecDepth 20000 in
theorem ggX5_rate_X5_isMonth : GoodIn wsX5_rate wsX5_isMonth := goodIn_r _ [8, 9, 10, 11, 7, 12] (by decide +kernel) (by decide +kernel)
set_option maxRecDepth 20000 in
theorem gX5_rate_X5_isMonth : GoodIn wsX5_rate (va_wsS RX5 91 yX5_isMonth wsX5_isMonth) := goodIn_app (goodIn_of _ (by decide +kernel)) ggX5_rate_X5_isMonth
set_option maxRecDepth 20000 in
theorem ggX5_rate_X5_in : GoodIn wsX5_rate wsX5_in := goodIn_r _ [12] (by decide +kernel) (by decide +kernel)
set_option maxRecDepth 20000 in
theorem gX5_rate_X5_in : GoodIn wsX5_rate (va_wsS RX5 66 yX5_in wsX5_in) := goodIn_app (goodIn_of _ (by decide +kernel)) ggX5_rate_X5_in
set_option maxRecDepth 20000 in
theorem ggX5_rate_X5_exposedAt : GoodIn wsX5_rate wsX5_exposedAt := goodIn_r _ [16, 17, 3, 18, 19, 20, 7, 21, 22, 23, 24, 25, 35, 36, 37, 38, 39, 40, 41, 42, 43, 44, 45, 46, 47, 48, 49, 50, 51, 52, 53, 54, 55] (by decide +kernel) (by decide +kernel)
set_option maxRecDepth 20000 in
theorem gX5_rate_X5_exposedAt : GoodIn wsX5_rate (wsV RX5 126 RX5 yX5_exposedAt wsX5_exposedAt) := goodIn_app (goodIn_of _ (by decide +kernel)) ggX5_rate_X5_exposedAt
set_option maxRecDepth 20000 in
theorem ggX5_rate_X5_counts : GoodIn wsX5_rate wsX5_counts := goodIn_r _ [29, 30, 31, 35, 36, 37, 38, 39, 40, 41, 42, 43, 44, 45, 46, 47, 48, 49, 50, 51, 52, 53, 54, 55] (by decide +kernel) (by decide +kernel)
set_option maxRecDepth 20000 in
theorem gX5_rate_X5_counts : GoodIn wsX5_rate (wsV RX5 123 RX5 yX5_counts wsX5_counts) := goodIn_app (goodIn_of _ (by decide +kernel)) ggX5_rate_X5_counts
set_option maxRecDepth 20000 in
theorem ggX5_rate_X5_gcd : GoodIn wsX5_rate wsX5_gcd := goodIn_r _ [34] (by decide +kernel) (by decide +kernel)
set_option maxRecDepth 20000 in
theorem gX5_rate_X5_gcd : GoodIn wsX5_rate (va_wsS RX5 129 yX5_gcd wsX5_gcd) := goodIn_app (goodIn_of _ (by decide +kernel)) ggX5_rate_X5_gcd
theorem dX5_rate_0 : decode cX5_rate 0 = .ok (.iload_n 1, 1) := by decide +kernel
theorem dX5_rate_1 : decode cX5_rate 1 = .ok (.invokestatic 91, 3) := by decide +kernel
theorem dX5_rate_4 : decode cX5_rate 4 = .ok (.ifCond .eq 20, 3) := by decide +kernel
theorem dX5_rate_7 : decode cX5_rate 7 = .ok (.iload_n 2, 1) := by decide +kernel
theorem dX5_rate_8 : decode cX5_rate 8 = .ok (.invokestatic 91, 3) := by decide +kernel
theorem dX5_rate_11 : decode cX5_rate 11 = .ok (.ifCond .eq 13, 3) := by decide +kernel
theorem dX5_rate_14 : decode cX5_rate 14 = .ok (.iload_n 3, 1) := by decide +kernel
theorem dX5_rate_15 : decode cX5_rate 15 = .ok (.i2l, 1) := by decide +kernel
theorem dX5_rate_16 : decode cX5_rate 16 = .ok (.lconst 0, 1) := by decide +kernel
theorem dX5_rate_17 : decode cX5_rate 17 = .ok (.lconst 1, 1) := by decide +kernel
theorem dX5_rate_18 : decode cX5_rate 18 = .ok (.invokestatic 66, 3) := by decide +kernel
theorem dX5_rate_21 : decode cX5_rate 21 = .ok (.ifCond .ne 6, 3) := by decide +kernel
theorem dX5_rate_24 : decode cX5_rate 24 = .ok (.bipush (-2), 2) := by decide +kernel
theorem dX5_rate_26 : decode cX5_rate 26 = .ok (.ireturn, 1) := by decide +kernel
theorem dX5_rate_27 : decode cX5_rate 27 = .ok (.aload_n 0, 1) := by decide +kernel
theorem dX5_rate_28 : decode cX5_rate 28 = .ok (.iload_n 1, 1) := by decide +kernel
theorem dX5_rate_29 : decode cX5_rate 29 = .ok (.iload_n 2, 1) := by decide +kernel
theorem dX5_rate_30 : decode cX5_rate 30 = .ok (.invokevirtual 126, 3) := by decide +kernel
theorem dX5_rate_33 : decode cX5_rate 33 = .ok (.istore 4, 2) := by decide +kernel
theorem dX5_rate_35 : decode cX5_rate 35 = .ok (.iload 4, 2) := by decide +kernel
theorem dX5_rate_37 : decode cX5_rate 37 = .ok (.ifCond .ne 6, 3) := by decide +kernel
theorem dX5_rate_40 : decode cX5_rate 40 = .ok (.bipush (-3), 2) := by decide +kernel
theorem dX5_rate_42 : decode cX5_rate 42 = .ok (.ireturn, 1) := by decide +kernel
theorem dX5_rate_43 : decode cX5_rate 43 = .ok (.iconst 0, 1) := by decide +kernel
theorem dX5_rate_44 : decode cX5_rate 44 = .ok (.istore 5, 2) := by decide +kernel
theorem dX5_rate_46 : decode cX5_rate 46 = .ok (.iconst 0, 1) := by decide +kernel
theorem dX5_rate_47 : decode cX5_rate 47 = .ok (.istore 6, 2) := by decide +kernel
theorem dX5_rate_49 : decode cX5_rate 49 = .ok (.iload 6, 2) := by decide +kernel
theorem dX5_rate_51 : decode cX5_rate 51 = .ok (.aload_n 0, 1) := by decide +kernel
theorem dX5_rate_52 : decode cX5_rate 52 = .ok (.getfield 102, 3) := by decide +kernel
theorem dX5_rate_55 : decode cX5_rate 55 = .ok (.if_icmp .ge 53, 3) := by decide +kernel
theorem dX5_rate_58 : decode cX5_rate 58 = .ok (.iload 5, 2) := by decide +kernel
theorem dX5_rate_60 : decode cX5_rate 60 = .ok (.aload_n 0, 1) := by decide +kernel
theorem dX5_rate_61 : decode cX5_rate 61 = .ok (.iload 6, 2) := by decide +kernel
theorem dX5_rate_63 : decode cX5_rate 63 = .ok (.iload_n 2, 1) := by decide +kernel
theorem dX5_rate_64 : decode cX5_rate 64 = .ok (.invokevirtual 123, 3) := by decide +kernel
theorem dX5_rate_67 : decode cX5_rate 67 = .ok (.ifCond .eq 31, 3) := by decide +kernel
theorem dX5_rate_70 : decode cX5_rate 70 = .ok (.aload_n 0, 1) := by decide +kernel
theorem dX5_rate_71 : decode cX5_rate 71 = .ok (.getfield 38, 3) := by decide +kernel
theorem dX5_rate_74 : decode cX5_rate 74 = .ok (.iload 6, 2) := by decide +kernel
theorem dX5_rate_76 : decode cX5_rate 76 = .ok (.iaload, 1) := by decide +kernel
theorem dX5_rate_77 : decode cX5_rate 77 = .ok (.aload_n 0, 1) := by decide +kernel
theorem dX5_rate_78 : decode cX5_rate 78 = .ok (.getfield 19, 3) := by decide +kernel
theorem dX5_rate_81 : decode cX5_rate 81 = .ok (.aload_n 0, 1) := by decide +kernel
theorem dX5_rate_82 : decode cX5_rate 82 = .ok (.getfield 32, 3) := by decide +kernel
theorem dX5_rate_85 : decode cX5_rate 85 = .ok (.iload 6, 2) := by decide +kernel
theorem dX5_rate_87 : decode cX5_rate 87 = .ok (.iaload, 1) := by decide +kernel
theorem dX5_rate_88 : decode cX5_rate 88 = .ok (.iaload, 1) := by decide +kernel
theorem dX5_rate_89 : decode cX5_rate 89 = .ok (.isub, 1) := by decide +kernel
theorem dX5_rate_90 : decode cX5_rate 90 = .ok (.iload_n 1, 1) := by decide +kernel
theorem dX5_rate_91 : decode cX5_rate 91 = .ok (.if_icmp .ne 7, 3) := by decide +kernel
theorem dX5_rate_94 : decode cX5_rate 94 = .ok (.iconst 1, 1) := by decide +kernel
theorem dX5_rate_95 : decode cX5_rate 95 = .ok (.goto 4, 3) := by decide +kernel
theorem dX5_rate_98 : decode cX5_rate 98 = .ok (.iconst 0, 1) := by decide +kernel
theorem dX5_rate_99 : decode cX5_rate 99 = .ok (.iadd, 1) := by decide +kernel
theorem dX5_rate_100 : decode cX5_rate 100 = .ok (.istore 5, 2) := by decide +kernel
theorem dX5_rate_102 : decode cX5_rate 102 = .ok (.iinc 6 1, 3) := by decide +kernel
theorem dX5_rate_105 : decode cX5_rate 105 = .ok (.goto (-56), 3) := by decide +kernel
theorem dX5_rate_108 : decode cX5_rate 108 = .ok (.iload 5, 2) := by decide +kernel
theorem dX5_rate_110 : decode cX5_rate 110 = .ok (.i2l, 1) := by decide +kernel
theorem dX5_rate_111 : decode cX5_rate 111 = .ok (.iload 4, 2) := by decide +kernel
theorem dX5_rate_113 : decode cX5_rate 113 = .ok (.i2l, 1) := by decide +kernel
