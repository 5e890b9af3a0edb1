set_option maxRecDepth 20000 in
theorem gX4_promise_X4_isWithin : GoodIn wsX4_promise (va_wsS RX4 48 yX4_isWithin wsX4_isWithin) := goodIn_app (goodIn_of _ (by decide +kernel)) ggX4_promise_X4_isWithin
theorem dX4_promise_0 : decode cX4_promise 0 = .ok (.iload_n 1, 1) := by decide +kernel
theorem dX4_promise_1 : decode cX4_promise 1 = .ok (.invokestatic 52, 3) := by decide +kernel
theorem dX4_promise_4 : decode cX4_promise 4 = .ok (.ifCond .eq 13, 3) := by decide +kernel
theorem dX4_promise_7 : decode cX4_promise 7 = .ok (.iload_n 2, 1) := by decide +kernel
theorem dX4_promise_8 : decode cX4_promise 8 = .ok (.iconst 0, 1) := by decide +kernel
theorem dX4_promise_9 : decode cX4_promise 9 = .ok (.bipush 120, 2) := by decide +kernel
theorem dX4_promise_11 : decode cX4_promise 11 = .ok (.invokestatic 48, 3) := by decide +kernel
theorem dX4_promise_14 : decode cX4_promise 14 = .ok (.ifCond .ne 6, 3) := by decide +kernel
theorem dX4_promise_17 : decode cX4_promise 17 = .ok (.bipush (-2), 2) := by decide +kernel
theorem dX4_promise_19 : decode cX4_promise 19 = .ok (.ireturn, 1) := by decide +kernel
theorem dX4_promise_20 : decode cX4_promise 20 = .ok (.iload_n 3, 1) := by decide +kernel
theorem dX4_promise_21 : decode cX4_promise 21 = .ok (.iconst 0, 1) := by decide +kernel
theorem dX4_promise_22 : decode cX4_promise 22 = .ok (.ldc 59, 2) := by decide +kernel
theorem dX4_promise_24 : decode cX4_promise 24 = .ok (.invokestatic 48, 3) := by decide +kernel
theorem dX4_promise_27 : decode cX4_promise 27 = .ok (.ifCond .ne 6, 3) := by decide +kernel
theorem dX4_promise_30 : decode cX4_promise 30 = .ok (.bipush (-2), 2) := by decide +kernel
theorem dX4_promise_32 : decode cX4_promise 32 = .ok (.ireturn, 1) := by decide +kernel
theorem dX4_promise_33 : decode cX4_promise 33 = .ok (.aload_n 0, 1) := by decide +kernel
theorem dX4_promise_34 : decode cX4_promise 34 = .ok (.getfield 12, 3) := by decide +kernel
theorem dX4_promise_37 : decode cX4_promise 37 = .ok (.getfield 60, 3) := by decide +kernel
theorem dX4_promise_40 : decode cX4_promise 40 = .ok (.iload_n 1, 1) := by decide +kernel
theorem dX4_promise_41 : decode cX4_promise 41 = .ok (.iload_n 2, 1) := by decide +kernel
theorem dX4_promise_42 : decode cX4_promise 42 = .ok (.iastore, 1) := by decide +kernel
theorem dX4_promise_43 : decode cX4_promise 43 = .ok (.aload_n 0, 1) := by decide +kernel
theorem dX4_promise_44 : decode cX4_promise 44 = .ok (.getfield 12, 3) := by decide +kernel
theorem dX4_promise_47 : decode cX4_promise 47 = .ok (.getfield 64, 3) := by decide +kernel
theorem dX4_promise_50 : decode cX4_promise 50 = .ok (.iload_n 1, 1) := by decide +kernel
theorem dX4_promise_51 : decode cX4_promise 51 = .ok (.iload_n 3, 1) := by decide +kernel
theorem dX4_promise_52 : decode cX4_promise 52 = .ok (.iastore, 1) := by decide +kernel
theorem dX4_promise_53 : decode cX4_promise 53 = .ok (.iconst 1, 1) := by decide +kernel
theorem dX4_promise_54 : decode cX4_promise 54 = .ok (.ireturn, 1) := by decide +kernel
set_option maxRecDepth 20000 in
theorem ggX4_again_X4_isWithin : GoodIn wsX4_again wsX4_isWithin := goodIn_r _ [5] (by decide +kernel) (by decide +kernel)
set_option maxRecDepth 20000 in
theorem gX4_again_X4_isWithin : GoodIn wsX4_again (va_wsS RX4 48 yX4_isWithin wsX4_isWithin) := goodIn_app (goodIn_of _ (by decide +kernel)) ggX4_again_X4_isWithin
theorem dX4_again_0 : decode cX4_again 0 = .ok (.iload_n 1, 1) := by decide +kernel
theorem dX4_again_1 : decode cX4_again 1 = .ok (.iconst 0, 1) := by decide +kernel
theorem dX4_again_2 : decode cX4_again 2 = .ok (.bipush 12, 2) := by decide +kernel
theorem dX4_again_4 : decode cX4_again 4 = .ok (.invokestatic 48, 3) := by decide +kernel
theorem dX4_again_7 : decode cX4_again 7 = .ok (.ifCond .ne 6, 3) := by decide +kernel
theorem dX4_again_10 : decode cX4_again 10 = .ok (.bipush (-2), 2) := by decide +kernel
theorem dX4_again_12 : decode cX4_again 12 = .ok (.ireturn, 1) := by decide +kernel
theorem dX4_again_13 : decode cX4_again 13 = .ok (.aload_n 0, 1) := by decide +kernel
theorem dX4_again_14 : decode cX4_again 14 = .ok (.getfield 37, 3) := by decide +kernel
theorem dX4_again_17 : decode cX4_again 17 = .ok (.istore_n 2, 1) := by decide +kernel
theorem dX4_again_18 : decode cX4_again 18 = .ok (.aload_n 0, 1) := by decide +kernel
theorem dX4_again_19 : decode cX4_again 19 = .ok (.iload_n 1, 1) := by decide +kernel
theorem dX4_again_20 : decode cX4_again 20 = .ok (.putfield 37, 3) := by decide +kernel
theorem dX4_again_23 : decode cX4_again 23 = .ok (.iload_n 2, 1) := by decide +kernel
theorem dX4_again_24 : decode cX4_again 24 = .ok (.ireturn, 1) := by decide +kernel
set_option maxRecDepth 20000 in
theorem ggX4_promised_X2_has : GoodIn wsX4_promised wsX2_has := goodIn_r _ [6, 7, 29, 30, 31, 32, 33, 34, 35] (by decide +kernel) (by decide +kernel)
set_option maxRecDepth 20000 in
theorem gX4_promised_X2_has : GoodIn wsX4_promised (wsV RX4 67 RX2 yX2_has wsX2_has) := goodIn_app (goodIn_of _ (by decide +kernel)) ggX4_promised_X2_has
set_option maxRecDepth 20000 in
theorem ggX4_promised_X4_isMonth : GoodIn wsX4_promised wsX4_isMonth := goodIn_r _ [11, 12, 13, 10, 14] (by decide +kernel) (by decide +kernel)
set_option maxRecDepth 20000 in
theorem gX4_promised_X4_isMonth : GoodIn wsX4_promised (va_wsS RX4 70 yX4_isMonth wsX4_isMonth) := goodIn_app (goodIn_of _ (by decide +kernel)) ggX4_promised_X4_isMonth
set_option maxRecDepth 20000 in
theorem ggX4_promised_X2_covers : GoodIn wsX4_promised wsX2_covers := goodIn_r _ [18, 19, 20, 21, 22, 23, 29, 30, 31, 32, 33, 34, 35] (by decide +kernel) (by decide +kernel)
set_option maxRecDepth 20000 in
theorem gX4_promised_X2_covers : GoodIn wsX4_promised (wsV RX4 73 RX2 yX2_covers wsX2_covers) := goodIn_app (goodIn_of _ (by decide +kernel)) ggX4_promised_X2_covers
theorem dX4_promised_0 : decode cX4_promised 0 = .ok (.aload_n 0, 1) := by decide +kernel
theorem dX4_promised_1 : decode cX4_promised 1 = .ok (.getfield 12, 3) := by decide +kernel
theorem dX4_promised_4 : decode cX4_promised 4 = .ok (.iload_n 1, 1) := by decide +kernel
theorem dX4_promised_5 : decode cX4_promised 5 = .ok (.invokevirtual 67, 3) := by decide +kernel
theorem dX4_promised_8 : decode cX4_promised 8 = .ok (.ifCond .eq 10, 3) := by decide +kernel
theorem dX4_promised_11 : decode cX4_promised 11 = .ok (.iload_n 2, 1) := by decide +kernel
theorem dX4_promised_12 : decode cX4_promised 12 = .ok (.invokestatic 70, 3) := by decide +kernel
theorem dX4_promised_15 : decode cX4_promised 15 = .ok (.ifCond .ne 6, 3) := by decide +kernel
theorem dX4_promised_18 : decode cX4_promised 18 = .ok (.bipush (-2), 2) := by decide +kernel
theorem dX4_promised_20 : decode cX4_promised 20 = .ok (.ireturn, 1) := by decide +kernel
theorem dX4_promised_21 : decode cX4_promised 21 = .ok (.aload_n 0, 1) := by decide +kernel
theorem dX4_promised_22 : decode cX4_promised 22 = .ok (.getfield 12, 3) := by decide +kernel
theorem dX4_promised_25 : decode cX4_promised 25 = .ok (.iload_n 1, 1) := by decide +kernel
theorem dX4_promised_26 : decode cX4_promised 26 = .ok (.iload_n 2, 1) := by decide +kernel
theorem dX4_promised_27 : decode cX4_promised 27 = .ok (.invokevirtual 73, 3) := by decide +kernel
theorem dX4_promised_30 : decode cX4_promised 30 = .ok (.ifCond .eq 7, 3) := by decide +kernel
theorem dX4_promised_33 : decode cX4_promised 33 = .ok (.iconst 1, 1) := by decide +kernel
theorem dX4_promised_34 : decode cX4_promised 34 = .ok (.goto 4, 3) := by decide +kernel
theorem dX4_promised_37 : decode cX4_promised 37 = .ok (.iconst 0, 1) := by decide +kernel
theorem dX4_promised_38 : decode cX4_promised 38 = .ok (.ireturn, 1) := by decide +kernel
set_option maxRecDepth 20000 in
theorem ggX4_last_X2_has : GoodIn wsX4_last wsX2_has := goodIn_r _ [6, 7, 26, 27, 28, 29, 30, 31, 32] (by decide +kernel) (by decide +kernel)
set_option maxRecDepth 20000 in
theorem gX4_last_X2_has : GoodIn wsX4_last (wsV RX4 67 RX2 yX2_has wsX2_has) := goodIn_app (goodIn_of _ (by decide +kernel)) ggX4_last_X2_has
set_option maxRecDepth 20000 in
theorem ggX4_last_X2_lastCovered : GoodIn wsX4_last wsX2_lastCovered := goodIn_r _ [11, 12, 13, 14, 15, 16, 17, 18, 19, 20, 26, 27, 28, 29, 30, 31, 32] (by decide +kernel) (by decide +kernel)
set_option maxRecDepth 20000 in
theorem gX4_last_X2_lastCovered : GoodIn wsX4_last (wsV RX4 77 RX2 yX2_lastCovered wsX2_lastCovered) := goodIn_app (goodIn_of _ (by decide +kernel)) ggX4_last_X2_lastCovered
theorem dX4_last_0 : decode cX4_last 0 = .ok (.aload_n 0, 1) := by decide +kernel
theorem dX4_last_1 : decode cX4_last 1 = .ok (.getfield 12, 3) := by decide +kernel
theorem dX4_last_4 : decode cX4_last 4 = .ok (.iload_n 1, 1) := by decide +kernel
theorem dX4_last_5 : decode cX4_last 5 = .ok (.invokevirtual 67, 3) := by decide +kernel
theorem dX4_last_8 : decode cX4_last 8 = .ok (.ifCond .eq 14, 3) := by decide +kernel
theorem dX4_last_11 : decode cX4_last 11 = .ok (.aload_n 0, 1) := by decide +kernel
theorem dX4_last_12 : decode cX4_last 12 = .ok (.getfield 12, 3) := by decide +kernel
theorem dX4_last_15 : decode cX4_last 15 = .ok (.iload_n 1, 1) := by decide +kernel
theorem dX4_last_16 : decode cX4_last 16 = .ok (.invokevirtual 77, 3) := by decide +kernel
theorem dX4_last_19 : decode cX4_last 19 = .ok (.goto 5, 3) := by decide +kernel
theorem dX4_last_22 : decode cX4_last 22 = .ok (.bipush (-2), 2) := by decide +kernel
theorem dX4_last_24 : decode cX4_last 24 = .ok (.ireturn, 1) := by decide +kernel
set_option maxRecDepth 20000 in
theorem ggX4_claim_X2_has : GoodIn wsX4_claim wsX2_has := goodIn_r _ [7, 8, 55, 56, 57, 58, 59, 60, 61] (by decide +kernel) (by decide +kernel)
set_option maxRecDepth 20000 in
theorem gX4_claim_X2_has : GoodIn wsX4_claim (wsV RX4 67 RX2 yX2_has wsX2_has) := goodIn_app (goodIn_of _ (by decide +kernel)) ggX4_claim_X2_has
set_option maxRecDepth 20000 in
theorem ggX4_claim_X4_isPart : GoodIn wsX4_claim wsX4_isPart := goodIn_r _ [12, 13, 14, 11, 15] (by decide +kernel) (by decide +kernel)
set_option maxRecDepth 20000 in
theorem gX4_claim_X4_isPart : GoodIn wsX4_claim (va_wsS RX4 81 yX4_isPart wsX4_isPart) := goodIn_app (goodIn_of _ (by decide +kernel)) ggX4_claim_X4_isPart
set_option maxRecDepth 20000 in
theorem ggX4_claim_X4_isMonth : GoodIn wsX4_claim wsX4_isMonth := goodIn_r _ [18, 13, 14, 11, 15] (by decide +kernel) (by decide +kernel)
set_option maxRecDepth 20000 in
theorem gX4_claim_X4_isMonth : GoodIn wsX4_claim (va_wsS RX4 70 yX4_isMonth wsX4_isMonth) := goodIn_app (goodIn_of _ (by decide +kernel)) ggX4_claim_X4_isMonth
set_option maxRecDepth 20000 in
theorem ggX4_claim_X4_isWithin : GoodIn wsX4_claim wsX4_isWithin := goodIn_r _ [15] (by decide +kernel) (by decide +kernel)
set_option maxRecDepth 20000 in
theorem gX4_claim_X4_isWithin : GoodIn wsX4_claim (va_wsS RX4 48 yX4_isWithin wsX4_isWithin) := goodIn_app (goodIn_of _ (by decide +kernel)) ggX4_claim_X4_isWithin
set_option maxRecDepth 20000 in
theorem ggX4_claim_X4_judge : GoodIn wsX4_claim wsX4_judge := goodIn_r _ [22, 1, 2, 23, 24, 25, 26, 27, 28, 29, 30, 31, 32, 33, 34, 35, 36, 6, 37, 38, 39, 40, 41, 42, 50, 51, 52, 53, 54, 55, 56, 57, 58, 59, 60, 61, 62, 63, 64, 65, 66, 67, 68, 69] (by decide +kernel) (by decide +kernel)
set_option maxRecDepth 20000 in
theorem gX4_claim_X4_judge : GoodIn wsX4_claim (wsV RX4 87 RX4 yX4_judge wsX4_judge) := goodIn_app (goodIn_of _ (by decide +kernel)) ggX4_claim_X4_judge
set_option maxRecDepth 20000 in
theorem ggX4_claim_X0_add : GoodIn wsX4_claim wsX0_add := goodIn_r _ [46, 29, 30, 31, 33, 47, 48, 49, 32, 62, 63, 64, 65, 66, 67, 68, 69] (by decide +kernel) (by decide +kernel)
set_option maxRecDepth 20000 in
theorem gX4_claim_X0_add : GoodIn wsX4_claim (wsV RX4 91 RX0 yX0_add wsX0_add) := goodIn_app (goodIn_of _ (by decide +kernel)) ggX4_claim_X0_add
theorem dX4_claim_0 : decode cX4_claim 0 = .ok (.aload_n 0, 1) := by decide +kernel
theorem dX4_claim_1 : decode cX4_claim 1 = .ok (.getfield 12, 3) := by decide +kernel
theorem dX4_claim_4 : decode cX4_claim 4 = .ok (.iload_n 1, 1) := by decide +kernel
theorem dX4_claim_5 : decode cX4_claim 5 = .ok (.invokevirtual 67, 3) := by decide +kernel
theorem dX4_claim_8 : decode cX4_claim 8 = .ok (.ifCond .eq 10, 3) := by decide +kernel
theorem dX4_claim_11 : decode cX4_claim 11 = .ok (.iload_n 2, 1) := by decide +kernel
theorem dX4_claim_12 : decode cX4_claim 12 = .ok (.invokestatic 81, 3) := by decide +kernel
theorem dX4_claim_15 : decode cX4_claim 15 = .ok (.ifCond .ne 6, 3) := by decide +kernel
theorem dX4_claim_18 : decode cX4_claim 18 = .ok (.bipush (-2), 2) := by decide +kernel
theorem dX4_claim_20 : decode cX4_claim 20 = .ok (.ireturn, 1) := by decide +kernel
theorem dX4_claim_21 : decode cX4_claim 21 = .ok (.iload_n 3, 1) := by decide +kernel
theorem dX4_claim_22 : decode cX4_claim 22 = .ok (.invokestatic 70, 3) := by decide +kernel
theorem dX4_claim_25 : decode cX4_claim 25 = .ok (.ifCond .eq 17, 3) := by decide +kernel
theorem dX4_claim_28 : decode cX4_claim 28 = .ok (.iload 4, 2) := by decide +kernel
theorem dX4_claim_30 : decode cX4_claim 30 = .ok (.invokestatic 70, 3) := by decide +kernel
theorem dX4_claim_33 : decode cX4_claim 33 = .ok (.ifCond .eq 9, 3) := by decide +kernel
theorem dX4_claim_36 : decode cX4_claim 36 = .ok (.iload 4, 2) := by decide +kernel
theorem dX4_claim_38 : decode cX4_claim 38 = .ok (.iload_n 3, 1) := by decide +kernel
theorem dX4_claim_39 : decode cX4_claim 39 = .ok (.if_icmp .ge 6, 3) := by decide +kernel
theorem dX4_claim_42 : decode cX4_claim 42 = .ok (.bipush (-2), 2) := by decide +kernel
theorem dX4_claim_44 : decode cX4_claim 44 = .ok (.ireturn, 1) := by decide +kernel
theorem dX4_claim_45 : decode cX4_claim 45 = .ok (.iload 5, 2) := by decide +kernel
theorem dX4_claim_47 : decode cX4_claim 47 = .ok (.iconst 0, 1) := by decide +kernel
theorem dX4_claim_48 : decode cX4_claim 48 = .ok (.sipush 10000, 3) := by decide +kernel
theorem dX4_claim_51 : decode cX4_claim 51 = .ok (.invokestatic 48, 3) := by decide +kernel
theorem dX4_claim_54 : decode cX4_claim 54 = .ok (.ifCond .ne 6, 3) := by decide +kernel
theorem dX4_claim_57 : decode cX4_claim 57 = .ok (.bipush (-2), 2) := by decide +kernel
theorem dX4_claim_59 : decode cX4_claim 59 = .ok (.ireturn, 1) := by decide +kernel
theorem dX4_claim_60 : decode cX4_claim 60 = .ok (.iload_n 3, 1) := by decide +kernel
theorem dX4_claim_61 : decode cX4_claim 61 = .ok (.aload_n 0, 1) := by decide +kernel
theorem dX4_claim_62 : decode cX4_claim 62 = .ok (.getfield 12, 3) := by decide +kernel
theorem dX4_claim_65 : decode cX4_claim 65 = .ok (.getfield 84, 3) := by decide +kernel
theorem dX4_claim_68 : decode cX4_claim 68 = .ok (.iload_n 1, 1) := by decide +kernel
theorem dX4_claim_69 : decode cX4_claim 69 = .ok (.iaload, 1) := by decide +kernel
theorem dX4_claim_70 : decode cX4_claim 70 = .ok (.isub, 1) := by decide +kernel
theorem dX4_claim_71 : decode cX4_claim 71 = .ok (.istore 6, 2) := by decide +kernel
theorem dX4_claim_73 : decode cX4_claim 73 = .ok (.aload_n 0, 1) := by decide +kernel
theorem dX4_claim_74 : decode cX4_claim 74 = .ok (.getfield 19, 3) := by decide +kernel
theorem dX4_claim_77 : decode cX4_claim 77 = .ok (.iload_n 1, 1) := by decide +kernel
theorem dX4_claim_78 : decode cX4_claim 78 = .ok (.iload_n 2, 1) := by decide +kernel
theorem dX4_claim_79 : decode cX4_claim 79 = .ok (.iload_n 3, 1) := by decide +kernel
theorem dX4_claim_80 : decode cX4_claim 80 = .ok (.iload 4, 2) := by decide +kernel
theorem dX4_claim_82 : decode cX4_claim 82 = .ok (.iload 5, 2) := by decide +kernel
theorem dX4_claim_84 : decode cX4_claim 84 = .ok (.iload 6, 2) := by decide +kernel
theorem dX4_claim_86 : decode cX4_claim 86 = .ok (.aload_n 0, 1) := by decide +kernel
theorem dX4_claim_87 : decode cX4_claim 87 = .ok (.iload_n 1, 1) := by decide +kernel
theorem dX4_claim_88 : decode cX4_claim 88 = .ok (.iload_n 2, 1) := by decide +kernel
theorem dX4_claim_89 : decode cX4_claim 89 = .ok (.iload_n 3, 1) := by decide +kernel
theorem dX4_claim_90 : decode cX4_claim 90 = .ok (.invokevirtual 87, 3) := by decide +kernel
theorem dX4_claim_93 : decode cX4_claim 93 = .ok (.invokevirtual 91, 3) := by decide +kernel
theorem dX4_claim_96 : decode cX4_claim 96 = .ok (.ireturn, 1) := by decide +kernel
set_option maxRecDepth 20000 in
theorem ggX4_about_X4_isWithin : GoodIn wsX4_about wsX4_isWithin := goodIn_r _ [5] (by decide +kernel) (by decide +kernel)
set_option maxRecDepth 20000 in
theorem gX4_about_X4_isWithin : GoodIn wsX4_about (va_wsS RX4 48 yX4_isWithin wsX4_isWithin) := goodIn_app (goodIn_of _ (by decide +kernel)) ggX4_about_X4_isWithin
set_option maxRecDepth 20000 in
theorem ggX4_about_X0_tell : GoodIn wsX4_about wsX0_tell := goodIn_r _ [10, 11, 12, 13, 14, 15, 16, 17, 18, 19, 9, 20, 26, 27, 28, 29, 30, 31, 32, 33] (by decide +kernel) (by decide +kernel)
set_option maxRecDepth 20000 in
theorem gX4_about_X0_tell : GoodIn wsX4_about (wsV RX4 97 RX0 yX0_tell wsX0_tell) := goodIn_app (goodIn_of _ (by decide +kernel)) ggX4_about_X0_tell
theorem dX4_about_0 : decode cX4_about 0 = .ok (.iload_n 1, 1) := by decide +kernel
theorem dX4_about_1 : decode cX4_about 1 = .ok (.ifCond .lt 13, 3) := by decide +kernel
theorem dX4_about_4 : decode cX4_about 4 = .ok (.iload_n 2, 1) := by decide +kernel
theorem dX4_about_5 : decode cX4_about 5 = .ok (.iconst 0, 1) := by decide +kernel
theorem dX4_about_6 : decode cX4_about 6 = .ok (.bipush 6, 2) := by decide +kernel
theorem dX4_about_8 : decode cX4_about 8 = .ok (.invokestatic 48, 3) := by decide +kernel
theorem dX4_about_11 : decode cX4_about 11 = .ok (.ifCond .ne 6, 3) := by decide +kernel
theorem dX4_about_14 : decode cX4_about 14 = .ok (.bipush (-2), 2) := by decide +kernel
theorem dX4_about_16 : decode cX4_about 16 = .ok (.ireturn, 1) := by decide +kernel
theorem dX4_about_17 : decode cX4_about 17 = .ok (.iload_n 1, 1) := by decide +kernel
theorem dX4_about_18 : decode cX4_about 18 = .ok (.aload_n 0, 1) := by decide +kernel
theorem dX4_about_19 : decode cX4_about 19 = .ok (.getfield 19, 3) := by decide +kernel
theorem dX4_about_22 : decode cX4_about 22 = .ok (.getfield 94, 3) := by decide +kernel
theorem dX4_about_25 : decode cX4_about 25 = .ok (.if_icmp .ge 15, 3) := by decide +kernel
theorem dX4_about_28 : decode cX4_about 28 = .ok (.aload_n 0, 1) := by decide +kernel
theorem dX4_about_29 : decode cX4_about 29 = .ok (.getfield 19, 3) := by decide +kernel
theorem dX4_about_32 : decode cX4_about 32 = .ok (.iload_n 1, 1) := by decide +kernel
theorem dX4_about_33 : decode cX4_about 33 = .ok (.iload_n 2, 1) := by decide +kernel
theorem dX4_about_34 : decode cX4_about 34 = .ok (.invokevirtual 97, 3) := by decide +kernel
theorem dX4_about_37 : decode cX4_about 37 = .ok (.goto 4, 3) := by decide +kernel
theorem dX4_about_40 : decode cX4_about 40 = .ok (.iconst (-1), 1) := by decide +kernel
theorem dX4_about_41 : decode cX4_about 41 = .ok (.ireturn, 1) := by decide +kernel
set_option maxRecDepth 20000 in
theorem ggX4_table_X4_isSaleMonth : GoodIn wsX4_table wsX4_isSaleMonth := goodIn_r _ [5, 6, 7, 4, 8] (by decide +kernel) (by decide +kernel)
set_option maxRecDepth 20000 in
theorem gX4_table_X4_isSaleMonth : GoodIn wsX4_table (va_wsS RX4 45 yX4_isSaleMonth wsX4_isSaleMonth) := goodIn_app (goodIn_of _ (by decide +kernel)) ggX4_table_X4_isSaleMonth
set_option maxRecDepth 20000 in
theorem ggX4_table_X4_isMonth : GoodIn wsX4_table wsX4_isMonth := goodIn_r _ [11, 6, 7, 4, 8] (by decide +kernel) (by decide +kernel)
set_option maxRecDepth 20000 in
theorem gX4_table_X4_isMonth : GoodIn wsX4_table (va_wsS RX4 70 yX4_isMonth wsX4_isMonth) := goodIn_app (goodIn_of _ (by decide +kernel)) ggX4_table_X4_isMonth
set_option maxRecDepth 20000 in
theorem ggX4_table_X0_letSoldInAtAge : GoodIn wsX4_table wsX0_letSoldInAtAge := goodIn_r _ [16, 17, 18, 19, 20, 21, 22, 15, 23, 24, 25, 31, 32, 33, 34, 35, 36, 37, 38] (by decide +kernel) (by decide +kernel)
set_option maxRecDepth 20000 in
theorem gX4_table_X0_letSoldInAtAge : GoodIn wsX4_table (wsV RX4 101 RX0 yX0_letSoldInAtAge wsX0_letSoldInAtAge) := goodIn_app (goodIn_of _ (by decide +kernel)) ggX4_table_X0_letSoldInAtAge
theorem dX4_table_0 : decode cX4_table 0 = .ok (.iload_n 1, 1) := by decide +kernel
theorem dX4_table_1 : decode cX4_table 1 = .ok (.invokestatic 45, 3) := by decide +kernel
theorem dX4_table_4 : decode cX4_table 4 = .ok (.ifCond .eq 17, 3) := by decide +kernel
theorem dX4_table_7 : decode cX4_table 7 = .ok (.iload_n 2, 1) := by decide +kernel
theorem dX4_table_8 : decode cX4_table 8 = .ok (.invokestatic 70, 3) := by decide +kernel
theorem dX4_table_11 : decode cX4_table 11 = .ok (.ifCond .eq 10, 3) := by decide +kernel
theorem dX4_table_14 : decode cX4_table 14 = .ok (.iload_n 3, 1) := by decide +kernel
theorem dX4_table_15 : decode cX4_table 15 = .ok (.invokestatic 70, 3) := by decide +kernel
theorem dX4_table_18 : decode cX4_table 18 = .ok (.ifCond .ne 6, 3) := by decide +kernel
theorem dX4_table_21 : decode cX4_table 21 = .ok (.bipush (-2), 2) := by decide +kernel
theorem dX4_table_23 : decode cX4_table 23 = .ok (.ireturn, 1) := by decide +kernel
theorem dX4_table_24 : decode cX4_table 24 = .ok (.aload_n 0, 1) := by decide +kernel
theorem dX4_table_25 : decode cX4_table 25 = .ok (.getfield 19, 3) := by decide +kernel
theorem dX4_table_28 : decode cX4_table 28 = .ok (.iload_n 1, 1) := by decide +kernel
theorem dX4_table_29 : decode cX4_table 29 = .ok (.iload_n 2, 1) := by decide +kernel
theorem dX4_table_30 : decode cX4_table 30 = .ok (.iload_n 3, 1) := by decide +kernel
theorem dX4_table_31 : decode cX4_table 31 = .ok (.invokevirtual 101, 3) := by decide +kernel
theorem dX4_table_34 : decode cX4_table 34 = .ok (.ireturn, 1) := by decide +kernel
set_option maxRecDepth 20000 in
theorem ggX4_exposed_X4_isMonth : GoodIn wsX4_exposed wsX4_isMonth := goodIn_r _ [5, 6, 7, 4, 8] (by decide +kernel) (by decide +kernel)
set_option maxRecDepth 20000 in
theorem gX4_exposed_X4_isMonth : GoodIn wsX4_exposed (va_wsS RX4 70 yX4_isMonth wsX4_isMonth) := goodIn_app (goodIn_of _ (by decide +kernel)) ggX4_exposed_X4_isMonth
set_option maxRecDepth 20000 in
theorem ggX4_exposed_X2_coveredAtAge : GoodIn wsX4_exposed wsX2_coveredAtAge := goodIn_r _ [13, 14, 15, 16, 17, 18, 12, 19, 20, 21, 22, 23, 29, 30, 31, 32, 33, 34, 35] (by decide +kernel) (by decide +kernel)
set_option maxRecDepth 20000 in
theorem gX4_exposed_X2_coveredAtAge : GoodIn wsX4_exposed (wsV RX4 104 RX2 yX2_coveredAtAge wsX2_coveredAtAge) := goodIn_app (goodIn_of _ (by decide +kernel)) ggX4_exposed_X2_coveredAtAge
theorem dX4_exposed_0 : decode cX4_exposed 0 = .ok (.iload_n 1, 1) := by decide +kernel
theorem dX4_exposed_1 : decode cX4_exposed 1 = .ok (.invokestatic 70, 3) := by decide +kernel
theorem dX4_exposed_4 : decode cX4_exposed 4 = .ok (.ifCond .eq 10, 3) := by decide +kernel
theorem dX4_exposed_7 : decode cX4_exposed 7 = .ok (.iload_n 2, 1) := by decide +kernel
theorem dX4_exposed_8 : decode cX4_exposed 8 = .ok (.invokestatic 70, 3) := by decide +kernel
theorem dX4_exposed_11 : decode cX4_exposed 11 = .ok (.ifCond .ne 6, 3) := by decide +kernel
theorem dX4_exposed_14 : decode cX4_exposed 14 = .ok (.bipush (-2), 2) := by decide +kernel
theorem dX4_exposed_16 : decode cX4_exposed 16 = .ok (.ireturn, 1) := by decide +kernel
theorem dX4_exposed_17 : decode cX4_exposed 17 = .ok (.aload_n 0, 1) := by decide +kernel
theorem dX4_exposed_18 : decode cX4_exposed 18 = .ok (.getfield 12, 3) := by decide +kernel
theorem dX4_exposed_21 : decode cX4_exposed 21 = .ok (.iload_n 1, 1) := by decide +kernel
theorem dX4_exposed_22 : decode cX4_exposed 22 = .ok (.iload_n 2, 1) := by decide +kernel
theorem dX4_exposed_23 : decode cX4_exposed 23 = .ok (.invokevirtual 104, 3) := by decide +kernel
theorem dX4_exposed_26 : decode cX4_exposed 26 = .ok (.ireturn, 1) := by decide +kernel
set_option maxRecDepth 20000 in
theorem ggX4_rate_X4_isMonth : GoodIn wsX4_rate wsX4_isMonth := goodIn_r _ [6, 7, 8, 5, 9] (by decide +kernel) (by decide +kernel)
set_option maxRecDepth 20000 in
theorem gX4_rate_X4_isMonth : GoodIn wsX4_rate (va_wsS RX4 70 yX4_isMonth wsX4_isMonth) := goodIn_app (goodIn_of _ (by decide +kernel)) ggX4_rate_X4_isMonth
set_option maxRecDepth 20000 in
theorem ggX4_rate_X4_isAboveOrBelow : GoodIn wsX4_rate wsX4_isAboveOrBelow := goodIn_r _ [12] (by decide +kernel) (by decide +kernel)
set_option maxRecDepth 20000 in
theorem gX4_rate_X4_isAboveOrBelow : GoodIn wsX4_rate (va_wsS RX4 107 yX4_isAboveOrBelow wsX4_isAboveOrBelow) := goodIn_app (goodIn_of _ (by decide +kernel)) ggX4_rate_X4_isAboveOrBelow
set_option maxRecDepth 20000 in
theorem ggX4_rate_X2_coveredAtAge : GoodIn wsX4_rate wsX2_coveredAtAge := goodIn_r _ [17, 18, 19, 20, 21, 22, 16, 23, 24, 25, 26, 27, 53, 54, 55, 56, 57, 58, 59] (by decide +kernel) (by decide +kernel)
set_option maxRecDepth 20000 in
theorem gX4_rate_X2_coveredAtAge : GoodIn wsX4_rate (wsV RX4 104 RX2 yX2_coveredAtAge wsX2_coveredAtAge) := goodIn_app (goodIn_of _ (by decide +kernel)) ggX4_rate_X2_coveredAtAge
set_option maxRecDepth 20000 in
theorem ggX4_rate_X0_letAtAge : GoodIn wsX4_rate wsX0_letAtAge := goodIn_r _ [32, 33, 34, 35, 36, 37, 31, 38, 39, 40, 60, 61, 62, 63, 64, 65, 66, 67] (by decide +kernel) (by decide +kernel)
set_option maxRecDepth 20000 in
theorem gX4_rate_X0_letAtAge : GoodIn wsX4_rate (wsV RX4 110 RX0 yX0_letAtAge wsX0_letAtAge) := goodIn_app (goodIn_of _ (by decide +kernel)) ggX4_rate_X0_letAtAge
set_option maxRecDepth 20000 in
theorem ggX4_rate_X4_ofLowestTerms : GoodIn wsX4_rate wsX4_ofLowestTerms := goodIn_r _ [43, 44, 45, 46, 5, 47] (by decide +kernel) (by decide +kernel)
set_option maxRecDepth 20000 in
theorem gX4_rate_X4_ofLowestTerms : GoodIn wsX4_rate (va_wsS RX4 113 yX4_ofLowestTerms wsX4_ofLowestTerms) := goodIn_app (goodIn_of _ (by decide +kernel)) ggX4_rate_X4_ofLowestTerms
theorem dX4_rate_0 : decode cX4_rate 0 = .ok (.iload_n 1, 1) := by decide +kernel
theorem dX4_rate_1 : decode cX4_rate 1 = .ok (.invokestatic 70, 3) := by decide +kernel
theorem dX4_rate_4 : decode cX4_rate 4 = .ok (.ifCond .eq 17, 3) := by decide +kernel
theorem dX4_rate_7 : decode cX4_rate 7 = .ok (.iload_n 2, 1) := by decide +kernel
theorem dX4_rate_8 : decode cX4_rate 8 = .ok (.invokestatic 70, 3) := by decide +kernel
theorem dX4_rate_11 : decode cX4_rate 11 = .ok (.ifCond .eq 10, 3) := by decide +kernel
theorem dX4_rate_14 : decode cX4_rate 14 = .ok (.iload_n 3, 1) := by decide +kernel
theorem dX4_rate_15 : decode cX4_rate 15 = .ok (.invokestatic 107, 3) := by decide +kernel
theorem dX4_rate_18 : decode cX4_rate 18 = .ok (.ifCond .ne 6, 3) := by decide +kernel
theorem dX4_rate_21 : decode cX4_rate 21 = .ok (.bipush (-2), 2) := by decide +kernel
theorem dX4_rate_23 : decode cX4_rate 23 = .ok (.ireturn, 1) := by decide +kernel
theorem dX4_rate_24 : decode cX4_rate 24 = .ok (.aload_n 0, 1) := by decide +kernel
theorem dX4_rate_25 : decode cX4_rate 25 = .ok (.getfield 12, 3) := by decide +kernel
theorem dX4_rate_28 : decode cX4_rate 28 = .ok (.iload_n 1, 1) := by decide +kernel
theorem dX4_rate_29 : decode cX4_rate 29 = .ok (.iload_n 2, 1) := by decide +kernel
theorem dX4_rate_30 : decode cX4_rate 30 = .ok (.invokevirtual 104, 3) := by decide +kernel
theorem dX4_rate_33 : decode cX4_rate 33 = .ok (.istore 4, 2) := by decide +kernel
theorem dX4_rate_35 : decode cX4_rate 35 = .ok (.iload 4, 2) := by decide +kernel
theorem dX4_rate_37 : decode cX4_rate 37 = .ok (.ifCond .ne 6, 3) := by decide +kernel
theorem dX4_rate_40 : decode cX4_rate 40 = .ok (.bipush (-3), 2) := by decide +kernel
theorem dX4_rate_42 : decode cX4_rate 42 = .ok (.ireturn, 1) := by decide +kernel
theorem dX4_rate_43 : decode cX4_rate 43 = .ok (.aload_n 0, 1) := by decide +kernel
theorem dX4_rate_44 : decode cX4_rate 44 = .ok (.getfield 19, 3) := by decide +kernel
theorem dX4_rate_47 : decode cX4_rate 47 = .ok (.iload_n 1, 1) := by decide +kernel
theorem dX4_rate_48 : decode cX4_rate 48 = .ok (.iload_n 2, 1) := by decide +kernel
theorem dX4_rate_49 : decode cX4_rate 49 = .ok (.invokevirtual 110, 3) := by decide +kernel
theorem dX4_rate_52 : decode cX4_rate 52 = .ok (.i2l, 1) := by decide +kernel
theorem dX4_rate_53 : decode cX4_rate 53 = .ok (.iload 4, 2) := by decide +kernel
theorem dX4_rate_55 : decode cX4_rate 55 = .ok (.i2l, 1) := by decide +kernel
theorem dX4_rate_56 : decode cX4_rate 56 = .ok (.iload_n 3, 1) := by decide +kernel
theorem dX4_rate_57 : decode cX4_rate 57 = .ok (.invokestatic 113, 3) := by decide +kernel
theorem dX4_rate_60 : decode cX4_rate 60 = .ok (.l2i, 1) := by decide +kernel
theorem dX4_rate_61 : decode cX4_rate 61 = .ok (.ireturn, 1) := by decide +kernel
set_option maxRecDepth 20000 in
theorem ggX4_delays_X4_isMonth : GoodIn wsX4_delays wsX4_isMonth := goodIn_r _ [5, 6, 7, 4, 8] (by decide +kernel) (by decide +kernel)
set_option maxRecDepth 20000 in
theorem gX4_delays_X4_isMonth : GoodIn wsX4_delays (va_wsS RX4 70 yX4_isMonth wsX4_isMonth) := goodIn_app (goodIn_of _ (by decide +kernel)) ggX4_delays_X4_isMonth
set_option maxRecDepth 20000 in
theorem ggX4_delays_X4_isWithin : GoodIn wsX4_delays wsX4_isWithin := goodIn_r _ [8] (by decide +kernel) (by decide +kernel)
set_option maxRecDepth 20000 in
theorem gX4_delays_X4_isWithin : GoodIn wsX4_delays (va_wsS RX4 48 yX4_isWithin wsX4_isWithin) := goodIn_app (goodIn_of _ (by decide +kernel)) ggX4_delays_X4_isWithin
set_option maxRecDepth 20000 in
theorem ggX4_delays_X0_letDelayed : GoodIn wsX4_delays wsX0_letDelayed := goodIn_r _ [13, 14, 15, 16, 17, 18, 12, 19, 20, 21, 22, 23, 24, 25, 31, 32, 33, 34, 35, 36, 37, 38] (by decide +kernel) (by decide +kernel)
set_option maxRecDepth 20000 in
theorem gX4_delays_X0_letDelayed : GoodIn wsX4_delays (wsV RX4 117 RX0 yX0_letDelayed wsX0_letDelayed) := goodIn_app (goodIn_of _ (by decide +kernel)) ggX4_delays_X0_letDelayed
theorem dX4_delays_0 : decode cX4_delays 0 = .ok (.iload_n 1, 1) := by decide +kernel
theorem dX4_delays_1 : decode cX4_delays 1 = .ok (.invokestatic 70, 3) := by decide +kernel
theorem dX4_delays_4 : decode cX4_delays 4 = .ok (.ifCond .eq 13, 3) := by decide +kernel
theorem dX4_delays_7 : decode cX4_delays 7 = .ok (.iload_n 2, 1) := by decide +kernel
theorem dX4_delays_8 : decode cX4_delays 8 = .ok (.iconst 0, 1) := by decide +kernel
theorem dX4_delays_9 : decode cX4_delays 9 = .ok (.bipush 11, 2) := by decide +kernel
theorem dX4_delays_11 : decode cX4_delays 11 = .ok (.invokestatic 48, 3) := by decide +kernel
theorem dX4_delays_14 : decode cX4_delays 14 = .ok (.ifCond .ne 6, 3) := by decide +kernel
theorem dX4_delays_17 : decode cX4_delays 17 = .ok (.bipush (-2), 2) := by decide +kernel
theorem dX4_delays_19 : decode cX4_delays 19 = .ok (.ireturn, 1) := by decide +kernel
theorem dX4_delays_20 : decode cX4_delays 20 = .ok (.aload_n 0, 1) := by decide +kernel
theorem dX4_delays_21 : decode cX4_delays 21 = .ok (.getfield 19, 3) := by decide +kernel
theorem dX4_delays_24 : decode cX4_delays 24 = .ok (.iload_n 2, 1) := by decide +kernel
theorem dX4_delays_25 : decode cX4_delays 25 = .ok (.iload_n 2, 1) := by decide +kernel
theorem dX4_delays_26 : decode cX4_delays 26 = .ok (.iload_n 1, 1) := by decide +kernel
theorem dX4_delays_27 : decode cX4_delays 27 = .ok (.invokevirtual 117, 3) := by decide +kernel
theorem dX4_delays_30 : decode cX4_delays 30 = .ok (.ireturn, 1) := by decide +kernel
set_option maxRecDepth 20000 in
theorem ggX4_undone_X4_isMonth : GoodIn wsX4_undone wsX4_isMonth := goodIn_r _ [5, 6, 7, 4, 8] (by decide +kernel) (by decide +kernel)
set_option maxRecDepth 20000 in
theorem gX4_undone_X4_isMonth : GoodIn wsX4_undone (va_wsS RX4 70 yX4_isMonth wsX4_isMonth) := goodIn_app (goodIn_of _ (by decide +kernel)) ggX4_undone_X4_isMonth
set_option maxRecDepth 20000 in
theorem ggX4_undone_X0_letFailedIn : GoodIn wsX4_undone wsX0_letFailedIn := goodIn_r _ [13, 14, 15, 16, 17, 18, 12, 19, 20, 21, 35, 36, 37, 38, 39, 40, 41, 42] (by decide +kernel) (by decide +kernel)
set_option maxRecDepth 20000 in
theorem gX4_undone_X0_letFailedIn : GoodIn wsX4_undone (wsV RX4 120 RX0 yX0_letFailedIn wsX0_letFailedIn) := goodIn_app (goodIn_of _ (by decide +kernel)) ggX4_undone_X0_letFailedIn
set_option maxRecDepth 20000 in
theorem ggX4_undone_X0_letDelayed : GoodIn wsX4_undone wsX0_letDelayed := goodIn_r _ [25, 14, 15, 16, 17, 18, 12, 19, 20, 21, 26, 27, 28, 29, 35, 36, 37, 38, 39, 40, 41, 42] (by decide +kernel) (by decide +kernel)
set_option maxRecDepth 20000 in
theorem gX4_undone_X0_letDelayed : GoodIn wsX4_undone (wsV RX4 117 RX0 yX0_letDelayed wsX0_letDelayed) := goodIn_app (goodIn_of _ (by decide +kernel)) ggX4_undone_X0_letDelayed
theorem dX4_undone_0 : decode cX4_undone 0 = .ok (.iload_n 1, 1) := by decide +kernel
theorem dX4_undone_1 : decode cX4_undone 1 = .ok (.invokestatic 70, 3) := by decide +kernel
theorem dX4_undone_4 : decode cX4_undone 4 = .ok (.ifCond .eq 15, 3) := by decide +kernel
theorem dX4_undone_7 : decode cX4_undone 7 = .ok (.iload_n 2, 1) := by decide +kernel
theorem dX4_undone_8 : decode cX4_undone 8 = .ok (.invokestatic 70, 3) := by decide +kernel
theorem dX4_undone_11 : decode cX4_undone 11 = .ok (.ifCond .eq 8, 3) := by decide +kernel
theorem dX4_undone_14 : decode cX4_undone 14 = .ok (.iload_n 1, 1) := by decide +kernel
theorem dX4_undone_15 : decode cX4_undone 15 = .ok (.iload_n 2, 1) := by decide +kernel
theorem dX4_undone_16 : decode cX4_undone 16 = .ok (.if_icmp .le 6, 3) := by decide +kernel
theorem dX4_undone_19 : decode cX4_undone 19 = .ok (.bipush (-2), 2) := by decide +kernel
theorem dX4_undone_21 : decode cX4_undone 21 = .ok (.ireturn, 1) := by decide +kernel
theorem dX4_undone_22 : decode cX4_undone 22 = .ok (.aload_n 0, 1) := by decide +kernel
theorem dX4_undone_23 : decode cX4_undone 23 = .ok (.getfield 19, 3) := by decide +kernel
theorem dX4_undone_26 : decode cX4_undone 26 = .ok (.iload_n 1, 1) := by decide +kernel
theorem dX4_undone_27 : decode cX4_undone 27 = .ok (.iload_n 2, 1) := by decide +kernel
theorem dX4_undone_28 : decode cX4_undone 28 = .ok (.invokevirtual 120, 3) := by decide +kernel
theorem dX4_undone_31 : decode cX4_undone 31 = .ok (.istore_n 3, 1) := by decide +kernel
theorem dX4_undone_32 : decode cX4_undone 32 = .ok (.iload_n 2, 1) := by decide +kernel
theorem dX4_undone_33 : decode cX4_undone 33 = .ok (.iload_n 1, 1) := by decide +kernel
theorem dX4_undone_34 : decode cX4_undone 34 = .ok (.isub, 1) := by decide +kernel
theorem dX4_undone_35 : decode cX4_undone 35 = .ok (.bipush 11, 2) := by decide +kernel
theorem dX4_undone_37 : decode cX4_undone 37 = .ok (.if_icmp .lt 5, 3) := by decide +kernel
theorem dX4_undone_40 : decode cX4_undone 40 = .ok (.iload_n 3, 1) := by decide +kernel
theorem dX4_undone_41 : decode cX4_undone 41 = .ok (.ireturn, 1) := by decide +kernel
theorem dX4_undone_42 : decode cX4_undone 42 = .ok (.aload_n 0, 1) := by decide +kernel
theorem dX4_undone_43 : decode cX4_undone 43 = .ok (.getfield 19, 3) := by decide +kernel
theorem dX4_undone_46 : decode cX4_undone 46 = .ok (.iconst 0, 1) := by decide +kernel
theorem dX4_undone_47 : decode cX4_undone 47 = .ok (.iload_n 2, 1) := by decide +kernel
theorem dX4_undone_48 : decode cX4_undone 48 = .ok (.iload_n 1, 1) := by decide +kernel
theorem dX4_undone_49 : decode cX4_undone 49 = .ok (.isub, 1) := by decide +kernel
theorem dX4_undone_50 : decode cX4_undone 50 = .ok (.iload_n 2, 1) := by decide +kernel
theorem dX4_undone_51 : decode cX4_undone 51 = .ok (.invokevirtual 117, 3) := by decide +kernel
theorem dX4_undone_54 : decode cX4_undone 54 = .ok (.istore 4, 2) := by decide +kernel
theorem dX4_undone_56 : decode cX4_undone 56 = .ok (.iload 4, 2) := by decide +kernel
theorem dX4_undone_58 : decode cX4_undone 58 = .ok (.ifCond .ne 5, 3) := by decide +kernel
theorem dX4_undone_61 : decode cX4_undone 61 = .ok (.iconst (-1), 1) := by decide +kernel
theorem dX4_undone_62 : decode cX4_undone 62 = .ok (.ireturn, 1) := by decide +kernel
theorem dX4_undone_63 : decode cX4_undone 63 = .ok (.iload_n 3, 1) := by decide +kernel
theorem dX4_undone_64 : decode cX4_undone 64 = .ok (.aload_n 0, 1) := by decide +kernel
theorem dX4_undone_65 : decode cX4_undone 65 = .ok (.getfield 19, 3) := by decide +kernel
theorem dX4_undone_68 : decode cX4_undone 68 = .ok (.iconst 0, 1) := by decide +kernel
theorem dX4_undone_69 : decode cX4_undone 69 = .ok (.bipush 11, 2) := by decide +kernel
theorem dX4_undone_71 : decode cX4_undone 71 = .ok (.iload_n 2, 1) := by decide +kernel
theorem dX4_undone_72 : decode cX4_undone 72 = .ok (.invokevirtual 117, 3) := by decide +kernel
theorem dX4_undone_75 : decode cX4_undone 75 = .ok (.imul, 1) := by decide +kernel
theorem dX4_undone_76 : decode cX4_undone 76 = .ok (.iload 4, 2) := by decide +kernel
theorem dX4_undone_78 : decode cX4_undone 78 = .ok (.idiv, 1) := by decide +kernel
theorem dX4_undone_79 : decode cX4_undone 79 = .ok (.ireturn, 1) := by decide +kernel
set_option maxRecDepth 20000 in
theorem ggX4_chance_X4_isBatch : GoodIn wsX4_chance wsX4_isBatch := goodIn_r _ [8, 9, 10, 7, 11] (by decide +kernel) (by decide +kernel)
set_option maxRecDepth 20000 in
theorem gX4_chance_X4_isBatch : GoodIn wsX4_chance (va_wsS RX4 41 yX4_isBatch wsX4_isBatch) := goodIn_app (goodIn_of _ (by decide +kernel)) ggX4_chance_X4_isBatch
set_option maxRecDepth 20000 in
theorem ggX4_chance_X4_isPart : GoodIn wsX4_chance wsX4_isPart := goodIn_r _ [14, 9, 10, 7, 11] (by decide +kernel) (by decide +kernel)
set_option maxRecDepth 20000 in
theorem gX4_chance_X4_isPart : GoodIn wsX4_chance (va_wsS RX4 81 yX4_isPart wsX4_isPart) := goodIn_app (goodIn_of _ (by decide +kernel)) ggX4_chance_X4_isPart
set_option maxRecDepth 20000 in
theorem ggX4_chance_X4_isMonth : GoodIn wsX4_chance wsX4_isMonth := goodIn_r _ [17, 9, 10, 7, 11] (by decide +kernel) (by decide +kernel)
set_option maxRecDepth 20000 in
theorem gX4_chance_X4_isMonth : GoodIn wsX4_chance (va_wsS RX4 70 yX4_isMonth wsX4_isMonth) := goodIn_app (goodIn_of _ (by decide +kernel)) ggX4_chance_X4_isMonth
set_option maxRecDepth 20000 in
theorem ggX4_chance_X4_isAboveOrBelow : GoodIn wsX4_chance wsX4_isAboveOrBelow := goodIn_r _ [20] (by decide +kernel) (by decide +kernel)
set_option maxRecDepth 20000 in
theorem gX4_chance_X4_isAboveOrBelow : GoodIn wsX4_chance (va_wsS RX4 107 yX4_isAboveOrBelow wsX4_isAboveOrBelow) := goodIn_app (goodIn_of _ (by decide +kernel)) ggX4_chance_X4_isAboveOrBelow
set_option maxRecDepth 20000 in
theorem ggX4_chance_X2_ofBatch : GoodIn wsX4_chance wsX2_ofBatch := goodIn_r _ [25, 26, 27, 28, 24, 29, 30, 31, 32, 33, 7, 34, 87, 88, 89, 90, 91, 92, 93] (by decide +kernel) (by decide +kernel)
set_option maxRecDepth 20000 in
theorem gX4_chance_X2_ofBatch : GoodIn wsX4_chance (wsV RX4 125 RX2 yX2_ofBatch wsX2_ofBatch) := goodIn_app (goodIn_of _ (by decide +kernel)) ggX4_chance_X2_ofBatch
set_option maxRecDepth 20000 in
theorem ggX4_chance_X0_thingsLetFor : GoodIn wsX4_chance wsX0_thingsLetFor := goodIn_r _ [39, 40, 41, 42, 43, 44, 45, 38, 46, 47, 48, 33, 7, 34, 94, 95, 96, 97, 98, 99, 100, 101] (by decide +kernel) (by decide +kernel)
set_option maxRecDepth 20000 in
theorem gX4_chance_X0_thingsLetFor : GoodIn wsX4_chance (wsV RX4 131 RX0 yX0_thingsLetFor wsX0_thingsLetFor) := goodIn_app (goodIn_of _ (by decide +kernel)) ggX4_chance_X0_thingsLetFor
set_option maxRecDepth 20000 in
theorem ggX4_chance_X4_waysAsOddOrOdder : GoodIn wsX4_chance wsX4_waysAsOddOrOdder := goodIn_r _ [52, 53, 2, 54, 55, 56, 57, 58, 59, 60, 61, 62, 63, 64, 65, 66, 67, 68, 69, 70, 82, 83, 84, 85, 86, 87, 88, 89, 90, 91, 92, 93, 102] (by decide +kernel) (by decide +kernel)
set_option maxRecDepth 20000 in
theorem gX4_chance_X4_waysAsOddOrOdder : GoodIn wsX4_chance (wsV RX4 135 RX4 yX4_waysAsOddOrOdder wsX4_waysAsOddOrOdder) := goodIn_app (goodIn_of _ (by decide +kernel)) ggX4_chance_X4_waysAsOddOrOdder
set_option maxRecDepth 20000 in
theorem ggX4_chance_X4_waysInAll : GoodIn wsX4_chance wsX4_waysInAll := goodIn_r _ [74, 53, 2, 54, 55, 56, 57, 58, 59, 60, 75, 67, 68, 64, 69, 70, 82, 83, 84, 85, 86, 87, 88, 89, 90, 91, 92, 93, 102] (by decide +kernel) (by decide +kernel)
set_option maxRecDepth 20000 in
theorem gX4_chance_X4_waysInAll : GoodIn wsX4_chance (wsV RX4 139 RX4 yX4_waysInAll wsX4_waysInAll) := goodIn_app (goodIn_of _ (by decide +kernel)) ggX4_chance_X4_waysInAll
set_option maxRecDepth 20000 in
theorem ggX4_chance_X4_ofLowestTerms : GoodIn wsX4_chance wsX4_ofLowestTerms := goodIn_r _ [78, 3, 79, 80, 7, 81] (by decide +kernel) (by decide +kernel)
set_option maxRecDepth 20000 in
theorem gX4_chance_X4_ofLowestTerms : GoodIn wsX4_chance (va_wsS RX4 113 yX4_ofLowestTerms wsX4_ofLowestTerms) := goodIn_app (goodIn_of _ (by decide +kernel)) ggX4_chance_X4_ofLowestTerms
theorem dX4_chance_0 : decode cX4_chance 0 = .ok (.iload_n 1, 1) := by decide +kernel
theorem dX4_chance_1 : decode cX4_chance 1 = .ok (.invokestatic 41, 3) := by decide +kernel
theorem dX4_chance_4 : decode cX4_chance 4 = .ok (.ifCond .eq 25, 3) := by decide +kernel
theorem dX4_chance_7 : decode cX4_chance 7 = .ok (.iload_n 2, 1) := by decide +kernel
theorem dX4_chance_8 : decode cX4_chance 8 = .ok (.invokestatic 81, 3) := by decide +kernel
theorem dX4_chance_11 : decode cX4_chance 11 = .ok (.ifCond .eq 18, 3) := by decide +kernel
theorem dX4_chance_14 : decode cX4_chance 14 = .ok (.iload_n 3, 1) := by decide +kernel
theorem dX4_chance_15 : decode cX4_chance 15 = .ok (.invokestatic 70, 3) := by decide +kernel
theorem dX4_chance_18 : decode cX4_chance 18 = .ok (.ifCond .eq 11, 3) := by decide +kernel
theorem dX4_chance_21 : decode cX4_chance 21 = .ok (.iload 4, 2) := by decide +kernel
theorem dX4_chance_23 : decode cX4_chance 23 = .ok (.invokestatic 107, 3) := by decide +kernel
theorem dX4_chance_26 : decode cX4_chance 26 = .ok (.ifCond .ne 7, 3) := by decide +kernel
theorem dX4_chance_29 : decode cX4_chance 29 = .ok (.ldc2_w 123, 3) := by decide +kernel
theorem dX4_chance_32 : decode cX4_chance 32 = .ok (.lreturn, 1) := by decide +kernel
theorem dX4_chance_33 : decode cX4_chance 33 = .ok (.aload_n 0, 1) := by decide +kernel
theorem dX4_chance_34 : decode cX4_chance 34 = .ok (.getfield 12, 3) := by decide +kernel
theorem dX4_chance_37 : decode cX4_chance 37 = .ok (.iload_n 1, 1) := by decide +kernel
theorem dX4_chance_38 : decode cX4_chance 38 = .ok (.invokevirtual 125, 3) := by decide +kernel
theorem dX4_chance_41 : decode cX4_chance 41 = .ok (.lstore 5, 2) := by decide +kernel
theorem dX4_chance_43 : decode cX4_chance 43 = .ok (.lload 5, 2) := by decide +kernel
theorem dX4_chance_45 : decode cX4_chance 45 = .ok (.lconst 0, 1) := by decide +kernel
theorem dX4_chance_46 : decode cX4_chance 46 = .ok (.lcmp, 1) := by decide +kernel
theorem dX4_chance_47 : decode cX4_chance 47 = .ok (.ifCond .ne 7, 3) := by decide +kernel
theorem dX4_chance_50 : decode cX4_chance 50 = .ok (.ldc2_w 129, 3) := by decide +kernel
theorem dX4_chance_53 : decode cX4_chance 53 = .ok (.lreturn, 1) := by decide +kernel
theorem dX4_chance_54 : decode cX4_chance 54 = .ok (.aload_n 0, 1) := by decide +kernel
theorem dX4_chance_55 : decode cX4_chance 55 = .ok (.getfield 19, 3) := by decide +kernel
theorem dX4_chance_58 : decode cX4_chance 58 = .ok (.iconst 1, 1) := by decide +kernel
theorem dX4_chance_59 : decode cX4_chance 59 = .ok (.iload_n 2, 1) := by decide +kernel
theorem dX4_chance_60 : decode cX4_chance 60 = .ok (.ishl, 1) := by decide +kernel
theorem dX4_chance_61 : decode cX4_chance 61 = .ok (.iload_n 3, 1) := by decide +kernel
theorem dX4_chance_62 : decode cX4_chance 62 = .ok (.invokevirtual 131, 3) := by decide +kernel
theorem dX4_chance_65 : decode cX4_chance 65 = .ok (.lstore 7, 2) := by decide +kernel
theorem dX4_chance_67 : decode cX4_chance 67 = .ok (.aload_n 0, 1) := by decide +kernel
theorem dX4_chance_68 : decode cX4_chance 68 = .ok (.lload 5, 2) := by decide +kernel
theorem dX4_chance_70 : decode cX4_chance 70 = .ok (.lload 7, 2) := by decide +kernel
theorem dX4_chance_72 : decode cX4_chance 72 = .ok (.invokevirtual 135, 3) := by decide +kernel
theorem dX4_chance_75 : decode cX4_chance 75 = .ok (.aload_n 0, 1) := by decide +kernel
theorem dX4_chance_76 : decode cX4_chance 76 = .ok (.lload 5, 2) := by decide +kernel
theorem dX4_chance_78 : decode cX4_chance 78 = .ok (.invokevirtual 139, 3) := by decide +kernel
theorem dX4_chance_81 : decode cX4_chance 81 = .ok (.iload 4, 2) := by decide +kernel
theorem dX4_chance_83 : decode cX4_chance 83 = .ok (.invokestatic 113, 3) := by decide +kernel
theorem dX4_chance_86 : decode cX4_chance 86 = .ok (.lreturn, 1) := by decide +kernel
set_option maxRecDepth 20000 in
theorem ggX4_oddest_X4_isPart : GoodIn wsX4_oddest wsX4_isPart := goodIn_r _ [6, 7, 8, 5, 9] (by decide +kernel) (by decide +kernel)
set_option maxRecDepth 20000 in
theorem gX4_oddest_X4_isPart : GoodIn wsX4_oddest (va_wsS RX4 81 yX4_isPart wsX4_isPart) := goodIn_app (goodIn_of _ (by decide +kernel)) ggX4_oddest_X4_isPart
set_option maxRecDepth 20000 in
theorem ggX4_oddest_X4_isMonth : GoodIn wsX4_oddest wsX4_isMonth := goodIn_r _ [12, 7, 8, 5, 9] (by decide +kernel) (by decide +kernel)
set_option maxRecDepth 20000 in
theorem gX4_oddest_X4_isMonth : GoodIn wsX4_oddest (va_wsS RX4 70 yX4_isMonth wsX4_isMonth) := goodIn_app (goodIn_of _ (by decide +kernel)) ggX4_oddest_X4_isMonth
set_option maxRecDepth 20000 in
theorem ggX4_oddest_X0_thingsLetFor : GoodIn wsX4_oddest wsX0_thingsLetFor := goodIn_r _ [17, 18, 19, 20, 21, 22, 23, 16, 24, 25, 26, 27, 5, 28, 76, 77, 78, 79, 80, 81, 82, 83] (by decide +kernel) (by decide +kernel)
set_option maxRecDepth 20000 in
theorem gX4_oddest_X0_thingsLetFor : GoodIn wsX4_oddest (wsV RX4 131 RX0 yX0_thingsLetFor wsX0_thingsLetFor) := goodIn_app (goodIn_of _ (by decide +kernel)) ggX4_oddest_X0_thingsLetFor
set_option maxRecDepth 20000 in
theorem ggX4_oddest_X2_ofBatch : GoodIn wsX4_oddest wsX2_ofBatch := goodIn_r _ [33, 34, 35, 36, 32, 37, 38, 39, 40, 27, 5, 28, 84, 85, 86, 87, 88, 89, 90] (by decide +kernel) (by decide +kernel)
set_option maxRecDepth 20000 in
theorem gX4_oddest_X2_ofBatch : GoodIn wsX4_oddest (wsV RX4 125 RX2 yX2_ofBatch wsX2_ofBatch) := goodIn_app (goodIn_of _ (by decide +kernel)) ggX4_oddest_X2_ofBatch
set_option maxRecDepth 20000 in
theorem ggX4_oddest_X4_waysAsOddOrOdder : GoodIn wsX4_oddest wsX4_waysAsOddOrOdder := goodIn_r _ [44, 45, 2, 46, 47, 48, 49, 50, 51, 52, 53, 54, 55, 56, 57, 58, 59, 60, 61, 62, 71, 72, 73, 74, 75, 84, 85, 86, 87, 88, 89, 90, 91] (by decide +kernel) (by decide +kernel)
set_option maxRecDepth 20000 in
theorem gX4_oddest_X4_waysAsOddOrOdder : GoodIn wsX4_oddest (wsV RX4 135 RX4 yX4_waysAsOddOrOdder wsX4_waysAsOddOrOdder) := goodIn_app (goodIn_of _ (by decide +kernel)) ggX4_oddest_X4_waysAsOddOrOdder
set_option maxRecDepth 20000 in
theorem ggX4_oddest_X4_waysInAll : GoodIn wsX4_oddest wsX4_waysInAll := goodIn_r _ [66, 45, 2, 46, 47, 48, 49, 50, 51, 52, 67, 59, 60, 56, 61, 62, 71, 72, 73, 74, 75, 84, 85, 86, 87, 88, 89, 90, 91] (by decide +kernel) (by decide +kernel)
set_option maxRecDepth 20000 in
theorem gX4_oddest_X4_waysInAll : GoodIn wsX4_oddest (wsV RX4 139 RX4 yX4_waysInAll wsX4_waysInAll) := goodIn_app (goodIn_of _ (by decide +kernel)) ggX4_oddest_X4_waysInAll
set_option maxRecDepth 20000 in
theorem ggX4_oddest_X4_isLess : GoodIn wsX4_oddest wsX4_isLess := goodIn_r _ [70] (by decide +kernel) (by decide +kernel)
set_option maxRecDepth 20000 in
theorem gX4_oddest_X4_isLess : GoodIn wsX4_oddest (va_wsS RX4 143 yX4_isLess wsX4_isLess) := goodIn_app (goodIn_of _ (by decide +kernel)) ggX4_oddest_X4_isLess
theorem dX4_oddest_0 : decode cX4_oddest 0 = .ok (.iload_n 1, 1) := by decide +kernel
theorem dX4_oddest_1 : decode cX4_oddest 1 = .ok (.invokestatic 81, 3) := by decide +kernel
theorem dX4_oddest_4 : decode cX4_oddest 4 = .ok (.ifCond .eq 10, 3) := by decide +kernel
theorem dX4_oddest_7 : decode cX4_oddest 7 = .ok (.iload_n 2, 1) := by decide +kernel
theorem dX4_oddest_8 : decode cX4_oddest 8 = .ok (.invokestatic 70, 3) := by decide +kernel
theorem dX4_oddest_11 : decode cX4_oddest 11 = .ok (.ifCond .ne 6, 3) := by decide +kernel
theorem dX4_oddest_14 : decode cX4_oddest 14 = .ok (.bipush (-2), 2) := by decide +kernel
theorem dX4_oddest_16 : decode cX4_oddest 16 = .ok (.ireturn, 1) := by decide +kernel
theorem dX4_oddest_17 : decode cX4_oddest 17 = .ok (.aload_n 0, 1) := by decide +kernel
theorem dX4_oddest_18 : decode cX4_oddest 18 = .ok (.getfield 19, 3) := by decide +kernel
theorem dX4_oddest_21 : decode cX4_oddest 21 = .ok (.iconst 1, 1) := by decide +kernel
theorem dX4_oddest_22 : decode cX4_oddest 22 = .ok (.iload_n 1, 1) := by decide +kernel
theorem dX4_oddest_23 : decode cX4_oddest 23 = .ok (.ishl, 1) := by decide +kernel
theorem dX4_oddest_24 : decode cX4_oddest 24 = .ok (.iload_n 2, 1) := by decide +kernel
theorem dX4_oddest_25 : decode cX4_oddest 25 = .ok (.invokevirtual 131, 3) := by decide +kernel
theorem dX4_oddest_28 : decode cX4_oddest 28 = .ok (.lstore_n 3, 1) := by decide +kernel
theorem dX4_oddest_29 : decode cX4_oddest 29 = .ok (.iconst (-1), 1) := by decide +kernel
theorem dX4_oddest_30 : decode cX4_oddest 30 = .ok (.istore 5, 2) := by decide +kernel
theorem dX4_oddest_32 : decode cX4_oddest 32 = .ok (.lconst 1, 1) := by decide +kernel
theorem dX4_oddest_33 : decode cX4_oddest 33 = .ok (.lstore 6, 2) := by decide +kernel
theorem dX4_oddest_35 : decode cX4_oddest 35 = .ok (.lconst 1, 1) := by decide +kernel
theorem dX4_oddest_36 : decode cX4_oddest 36 = .ok (.lstore 8, 2) := by decide +kernel
theorem dX4_oddest_38 : decode cX4_oddest 38 = .ok (.iconst 0, 1) := by decide +kernel
theorem dX4_oddest_39 : decode cX4_oddest 39 = .ok (.istore 10, 2) := by decide +kernel
theorem dX4_oddest_41 : decode cX4_oddest 41 = .ok (.iload 10, 2) := by decide +kernel
theorem dX4_oddest_43 : decode cX4_oddest 43 = .ok (.bipush 8, 2) := by decide +kernel
theorem dX4_oddest_45 : decode cX4_oddest 45 = .ok (.if_icmp .ge 79, 3) := by decide +kernel
theorem dX4_oddest_48 : decode cX4_oddest 48 = .ok (.aload_n 0, 1) := by decide +kernel
theorem dX4_oddest_49 : decode cX4_oddest 49 = .ok (.getfield 12, 3) := by decide +kernel
theorem dX4_oddest_52 : decode cX4_oddest 52 = .ok (.iload 10, 2) := by decide +kernel
theorem dX4_oddest_54 : decode cX4_oddest 54 = .ok (.invokevirtual 125, 3) := by decide +kernel
theorem dX4_oddest_57 : decode cX4_oddest 57 = .ok (.lstore 11, 2) := by decide +kernel
theorem dX4_oddest_59 : decode cX4_oddest 59 = .ok (.lload 11, 2) := by decide +kernel
theorem dX4_oddest_61 : decode cX4_oddest 61 = .ok (.lconst 0, 1) := by decide +kernel
theorem dX4_oddest_62 : decode cX4_oddest 62 = .ok (.lcmp, 1) := by decide +kernel
theorem dX4_oddest_63 : decode cX4_oddest 63 = .ok (.ifCond .ne 6, 3) := by decide +kernel
theorem dX4_oddest_66 : decode cX4_oddest 66 = .ok (.goto 52, 3) := by decide +kernel
theorem dX4_oddest_69 : decode cX4_oddest 69 = .ok (.aload_n 0, 1) := by decide +kernel
theorem dX4_oddest_70 : decode cX4_oddest 70 = .ok (.lload 11, 2) := by decide +kernel
theorem dX4_oddest_72 : decode cX4_oddest 72 = .ok (.lload_n 3, 1) := by decide +kernel
theorem dX4_oddest_73 : decode cX4_oddest 73 = .ok (.invokevirtual 135, 3) := by decide +kernel
theorem dX4_oddest_76 : decode cX4_oddest 76 = .ok (.lstore 13, 2) := by decide +kernel
theorem dX4_oddest_78 : decode cX4_oddest 78 = .ok (.aload_n 0, 1) := by decide +kernel
theorem dX4_oddest_79 : decode cX4_oddest 79 = .ok (.lload 11, 2) := by decide +kernel
theorem dX4_oddest_81 : decode cX4_oddest 81 = .ok (.invokevirtual 139, 3) := by decide +kernel
theorem dX4_oddest_84 : decode cX4_oddest 84 = .ok (.lstore 15, 2) := by decide +kernel
theorem dX4_oddest_86 : decode cX4_oddest 86 = .ok (.iload 5, 2) := by decide +kernel
theorem dX4_oddest_88 : decode cX4_oddest 88 = .ok (.iconst (-1), 1) := by decide +kernel
theorem dX4_oddest_89 : decode cX4_oddest 89 = .ok (.if_icmp .eq 17, 3) := by decide +kernel
theorem dX4_oddest_92 : decode cX4_oddest 92 = .ok (.lload 13, 2) := by decide +kernel
theorem dX4_oddest_94 : decode cX4_oddest 94 = .ok (.lload 15, 2) := by decide +kernel
theorem dX4_oddest_96 : decode cX4_oddest 96 = .ok (.lload 6, 2) := by decide +kernel
theorem dX4_oddest_98 : decode cX4_oddest 98 = .ok (.lload 8, 2) := by decide +kernel
theorem dX4_oddest_100 : decode cX4_oddest 100 = .ok (.invokestatic 143, 3) := by decide +kernel
theorem dX4_oddest_103 : decode cX4_oddest 103 = .ok (.ifCond .eq 15, 3) := by decide +kernel
theorem dX4_oddest_106 : decode cX4_oddest 106 = .ok (.iload 10, 2) := by decide +kernel
theorem dX4_oddest_108 : decode cX4_oddest 108 = .ok (.istore 5, 2) := by decide +kernel
theorem dX4_oddest_110 : decode cX4_oddest 110 = .ok (.lload 13, 2) := by decide +kernel
theorem dX4_oddest_112 : decode cX4_oddest 112 = .ok (.lstore 6, 2) := by decide +kernel
theorem dX4_oddest_114 : decode cX4_oddest 114 = .ok (.lload 15, 2) := by decide +kernel
theorem dX4_oddest_116 : decode cX4_oddest 116 = .ok (.lstore 8, 2) := by decide +kernel
theorem dX4_oddest_118 : decode cX4_oddest 118 = .ok (.iinc 10 1, 3) := by decide +kernel
theorem dX4_oddest_121 : decode cX4_oddest 121 = .ok (.goto (-80), 3) := by decide +kernel
theorem dX4_oddest_124 : decode cX4_oddest 124 = .ok (.iload 5, 2) := by decide +kernel
theorem dX4_oddest_126 : decode cX4_oddest 126 = .ok (.ireturn, 1) := by decide +kernel
set_option maxRecDepth 20000 in
theorem ggX4_under_X4_isPart : GoodIn wsX4_under wsX4_isPart := goodIn_r _ [5, 6, 7, 4, 8] (by decide +kernel) (by decide +kernel)
set_option maxRecDepth 20000 in
theorem gX4_under_X4_isPart : GoodIn wsX4_under (va_wsS RX4 81 yX4_isPart wsX4_isPart) := goodIn_app (goodIn_of _ (by decide +kernel)) ggX4_under_X4_isPart
set_option maxRecDepth 20000 in
theorem ggX4_under_X1_standsInRowOf : GoodIn wsX4_under wsX1_standsInRowOf := goodIn_r _ [13, 14, 3, 4, 5, 6, 7, 8, 20, 21, 22] (by decide +kernel) (by decide +kernel)
set_option maxRecDepth 20000 in
theorem gX4_under_X1_standsInRowOf : GoodIn wsX4_under (wsV RX4 147 RX1 yX1_standsInRowOf wsX1_standsInRowOf) := goodIn_app (goodIn_of _ (by decide +kernel)) ggX4_under_X1_standsInRowOf
theorem dX4_under_0 : decode cX4_under 0 = .ok (.iload_n 1, 1) := by decide +kernel
theorem dX4_under_1 : decode cX4_under 1 = .ok (.invokestatic 81, 3) := by decide +kernel
theorem dX4_under_4 : decode cX4_under 4 = .ok (.ifCond .eq 15, 3) := by decide +kernel
theorem dX4_under_7 : decode cX4_under 7 = .ok (.iload_n 2, 1) := by decide +kernel
theorem dX4_under_8 : decode cX4_under 8 = .ok (.invokestatic 81, 3) := by decide +kernel
theorem dX4_under_11 : decode cX4_under 11 = .ok (.ifCond .ne 11, 3) := by decide +kernel
theorem dX4_under_14 : decode cX4_under 14 = .ok (.iload_n 2, 1) := by decide +kernel
theorem dX4_under_15 : decode cX4_under 15 = .ok (.iconst (-1), 1) := by decide +kernel
theorem dX4_under_16 : decode cX4_under 16 = .ok (.if_icmp .eq 6, 3) := by decide +kernel
theorem dX4_under_19 : decode cX4_under 19 = .ok (.bipush (-2), 2) := by decide +kernel
theorem dX4_under_21 : decode cX4_under 21 = .ok (.ireturn, 1) := by decide +kernel
theorem dX4_under_22 : decode cX4_under 22 = .ok (.aload_n 0, 1) := by decide +kernel
theorem dX4_under_23 : decode cX4_under 23 = .ok (.getfield 26, 3) := by decide +kernel
theorem dX4_under_26 : decode cX4_under 26 = .ok (.iload_n 2, 1) := by decide +kernel
theorem dX4_under_27 : decode cX4_under 27 = .ok (.iload_n 1, 1) := by decide +kernel
theorem dX4_under_28 : decode cX4_under 28 = .ok (.invokevirtual 147, 3) := by decide +kernel
theorem dX4_under_31 : decode cX4_under 31 = .ok (.ifCond .eq 6, 3) := by decide +kernel
theorem dX4_under_34 : decode cX4_under 34 = .ok (.bipush (-3), 2) := by decide +kernel
theorem dX4_under_36 : decode cX4_under 36 = .ok (.ireturn, 1) := by decide +kernel
theorem dX4_under_37 : decode cX4_under 37 = .ok (.aload_n 0, 1) := by decide +kernel
theorem dX4_under_38 : decode cX4_under 38 = .ok (.getfield 26, 3) := by decide +kernel
theorem dX4_under_41 : decode cX4_under 41 = .ok (.getfield 150, 3) := by decide +kernel
theorem dX4_under_44 : decode cX4_under 44 = .ok (.iload_n 1, 1) := by decide +kernel
theorem dX4_under_45 : decode cX4_under 45 = .ok (.iload_n 2, 1) := by decide +kernel
theorem dX4_under_46 : decode cX4_under 46 = .ok (.iastore, 1) := by decide +kernel
theorem dX4_under_47 : decode cX4_under 47 = .ok (.iconst 1, 1) := by decide +kernel
theorem dX4_under_48 : decode cX4_under 48 = .ok (.ireturn, 1) := by decide +kernel
set_option maxRecDepth 20000 in
theorem ggX4_maker_X4_isPart : GoodIn wsX4_maker wsX4_isPart := goodIn_r _ [5, 6, 7, 4, 8] (by decide +kernel) (by decide +kernel)
set_option maxRecDepth 20000 in
theorem gX4_maker_X4_isPart : GoodIn wsX4_maker (va_wsS RX4 81 yX4_isPart wsX4_isPart) := goodIn_app (goodIn_of _ (by decide +kernel)) ggX4_maker_X4_isPart
set_option maxRecDepth 20000 in
theorem ggX4_maker_X4_isMaker : GoodIn wsX4_maker wsX4_isMaker := goodIn_r _ [11, 6, 7, 4, 8] (by decide +kernel) (by decide +kernel)
set_option maxRecDepth 20000 in
theorem gX4_maker_X4_isMaker : GoodIn wsX4_maker (va_wsS RX4 153 yX4_isMaker wsX4_isMaker) := goodIn_app (goodIn_of _ (by decide +kernel)) ggX4_maker_X4_isMaker
set_option maxRecDepth 20000 in
theorem ggX4_maker_X4_isWithin : GoodIn wsX4_maker wsX4_isWithin := goodIn_r _ [8] (by decide +kernel) (by decide +kernel)
set_option maxRecDepth 20000 in
theorem gX4_maker_X4_isWithin : GoodIn wsX4_maker (va_wsS RX4 48 yX4_isWithin wsX4_isWithin) := goodIn_app (goodIn_of _ (by decide +kernel)) ggX4_maker_X4_isWithin
theorem dX4_maker_0 : decode cX4_maker 0 = .ok (.iload_n 1, 1) := by decide +kernel
theorem dX4_maker_1 : decode cX4_maker 1 = .ok (.invokestatic 81, 3) := by decide +kernel
theorem dX4_maker_4 : decode cX4_maker 4 = .ok (.ifCond .eq 15, 3) := by decide +kernel
theorem dX4_maker_7 : decode cX4_maker 7 = .ok (.iload_n 2, 1) := by decide +kernel
theorem dX4_maker_8 : decode cX4_maker 8 = .ok (.invokestatic 153, 3) := by decide +kernel
theorem dX4_maker_11 : decode cX4_maker 11 = .ok (.ifCond .ne 11, 3) := by decide +kernel
theorem dX4_maker_14 : decode cX4_maker 14 = .ok (.iload_n 2, 1) := by decide +kernel
theorem dX4_maker_15 : decode cX4_maker 15 = .ok (.iconst (-1), 1) := by decide +kernel
theorem dX4_maker_16 : decode cX4_maker 16 = .ok (.if_icmp .eq 6, 3) := by decide +kernel
theorem dX4_maker_19 : decode cX4_maker 19 = .ok (.bipush (-2), 2) := by decide +kernel
theorem dX4_maker_21 : decode cX4_maker 21 = .ok (.ireturn, 1) := by decide +kernel
theorem dX4_maker_22 : decode cX4_maker 22 = .ok (.iload_n 3, 1) := by decide +kernel
theorem dX4_maker_23 : decode cX4_maker 23 = .ok (.iconst 0, 1) := by decide +kernel
theorem dX4_maker_24 : decode cX4_maker 24 = .ok (.bipush 100, 2) := by decide +kernel
theorem dX4_maker_26 : decode cX4_maker 26 = .ok (.invokestatic 48, 3) := by decide +kernel
theorem dX4_maker_29 : decode cX4_maker 29 = .ok (.ifCond .ne 6, 3) := by decide +kernel
theorem dX4_maker_32 : decode cX4_maker 32 = .ok (.bipush (-2), 2) := by decide +kernel
theorem dX4_maker_34 : decode cX4_maker 34 = .ok (.ireturn, 1) := by decide +kernel
theorem dX4_maker_35 : decode cX4_maker 35 = .ok (.aload_n 0, 1) := by decide +kernel
theorem dX4_maker_36 : decode cX4_maker 36 = .ok (.getfield 26, 3) := by decide +kernel
theorem dX4_maker_39 : decode cX4_maker 39 = .ok (.getfield 156, 3) := by decide +kernel
theorem dX4_maker_42 : decode cX4_maker 42 = .ok (.iload_n 1, 1) := by decide +kernel
theorem dX4_maker_43 : decode cX4_maker 43 = .ok (.iload_n 2, 1) := by decide +kernel
theorem dX4_maker_44 : decode cX4_maker 44 = .ok (.iastore, 1) := by decide +kernel
theorem dX4_maker_45 : decode cX4_maker 45 = .ok (.aload_n 0, 1) := by decide +kernel
theorem dX4_maker_46 : decode cX4_maker 46 = .ok (.getfield 26, 3) := by decide +kernel
theorem dX4_maker_49 : decode cX4_maker 49 = .ok (.getfield 159, 3) := by decide +kernel
theorem dX4_maker_52 : decode cX4_maker 52 = .ok (.iload_n 1, 1) := by decide +kernel
theorem dX4_maker_53 : decode cX4_maker 53 = .ok (.iload_n 3, 1) := by decide +kernel
theorem dX4_maker_54 : decode cX4_maker 54 = .ok (.iastore, 1) := by decide +kernel
theorem dX4_maker_55 : decode cX4_maker 55 = .ok (.iconst 1, 1) := by decide +kernel
theorem dX4_maker_56 : decode cX4_maker 56 = .ok (.ireturn, 1) := by decide +kernel
set_option maxRecDepth 20000 in
theorem ggX4_payer_X4_isPart : GoodIn wsX4_payer wsX4_isPart := goodIn_r _ [5, 6, 7, 4, 8] (by decide +kernel) (by decide +kernel)
set_option maxRecDepth 20000 in
theorem gX4_payer_X4_isPart : GoodIn wsX4_payer (va_wsS RX4 81 yX4_isPart wsX4_isPart) := goodIn_app (goodIn_of _ (by decide +kernel)) ggX4_payer_X4_isPart
set_option maxRecDepth 20000 in
theorem ggX4_payer_X1_firstWithMaker : GoodIn wsX4_payer wsX1_firstWithMaker := goodIn_r _ [13, 14, 15, 3, 4, 5, 6, 7, 8, 21, 22, 23] (by decide +kernel) (by decide +kernel)
set_option maxRecDepth 20000 in
theorem gX4_payer_X1_firstWithMaker : GoodIn wsX4_payer (wsV RX4 162 RX1 yX1_firstWithMaker wsX1_firstWithMaker) := goodIn_app (goodIn_of _ (by decide +kernel)) ggX4_payer_X1_firstWithMaker
theorem dX4_payer_0 : decode cX4_payer 0 = .ok (.iload_n 1, 1) := by decide +kernel
theorem dX4_payer_1 : decode cX4_payer 1 = .ok (.invokestatic 81, 3) := by decide +kernel
theorem dX4_payer_4 : decode cX4_payer 4 = .ok (.ifCond .ne 6, 3) := by decide +kernel
theorem dX4_payer_7 : decode cX4_payer 7 = .ok (.bipush (-2), 2) := by decide +kernel
theorem dX4_payer_9 : decode cX4_payer 9 = .ok (.ireturn, 1) := by decide +kernel
theorem dX4_payer_10 : decode cX4_payer 10 = .ok (.aload_n 0, 1) := by decide +kernel
theorem dX4_payer_11 : decode cX4_payer 11 = .ok (.getfield 26, 3) := by decide +kernel
theorem dX4_payer_14 : decode cX4_payer 14 = .ok (.iload_n 1, 1) := by decide +kernel
theorem dX4_payer_15 : decode cX4_payer 15 = .ok (.invokevirtual 162, 3) := by decide +kernel
theorem dX4_payer_18 : decode cX4_payer 18 = .ok (.istore_n 2, 1) := by decide +kernel
theorem dX4_payer_19 : decode cX4_payer 19 = .ok (.iload_n 2, 1) := by decide +kernel
theorem dX4_payer_20 : decode cX4_payer 20 = .ok (.invokestatic 81, 3) := by decide +kernel
theorem dX4_payer_23 : decode cX4_payer 23 = .ok (.ifCond .eq 15, 3) := by decide +kernel
theorem dX4_payer_26 : decode cX4_payer 26 = .ok (.aload_n 0, 1) := by decide +kernel
theorem dX4_payer_27 : decode cX4_payer 27 = .ok (.getfield 26, 3) := by decide +kernel
theorem dX4_payer_30 : decode cX4_payer 30 = .ok (.getfield 156, 3) := by decide +kernel
theorem dX4_payer_33 : decode cX4_payer 33 = .ok (.iload_n 2, 1) := by decide +kernel
theorem dX4_payer_34 : decode cX4_payer 34 = .ok (.iaload, 1) := by decide +kernel
theorem dX4_payer_35 : decode cX4_payer 35 = .ok (.goto 4, 3) := by decide +kernel
theorem dX4_payer_38 : decode cX4_payer 38 = .ok (.iconst (-1), 1) := by decide +kernel
theorem dX4_payer_39 : decode cX4_payer 39 = .ok (.ireturn, 1) := by decide +kernel
set_option maxRecDepth 20000 in
theorem ggX4_pays_X4_isMaker : GoodIn wsX4_pays wsX4_isMaker := goodIn_r _ [4, 5, 6, 3, 7] (by decide +kernel) (by decide +kernel)
set_option maxRecDepth 20000 in
theorem gX4_pays_X4_isMaker : GoodIn wsX4_pays (va_wsS RX4 153 yX4_isMaker wsX4_isMaker) := goodIn_app (goodIn_of _ (by decide +kernel)) ggX4_pays_X4_isMaker
set_option maxRecDepth 20000 in
theorem ggX4_pays_X4_paidBy : GoodIn wsX4_pays wsX4_paidBy := goodIn_r _ [11, 12, 13, 14, 15, 16, 17, 18, 19, 20, 21, 3, 22, 5, 6, 7, 23, 24, 25, 26, 27, 28, 29, 30, 31, 32, 33, 34, 35, 36, 37, 38, 39] (by decide +kernel) (by decide +kernel)
set_option maxRecDepth 20000 in
theorem gX4_pays_X4_paidBy : GoodIn wsX4_pays (wsV RX4 165 RX4 yX4_paidBy wsX4_paidBy) := goodIn_app (goodIn_of _ (by decide +kernel)) ggX4_pays_X4_paidBy
theorem dX4_pays_0 : decode cX4_pays 0 = .ok (.iload_n 1, 1) := by decide +kernel
theorem dX4_pays_1 : decode cX4_pays 1 = .ok (.invokestatic 153, 3) := by decide +kernel
theorem dX4_pays_4 : decode cX4_pays 4 = .ok (.ifCond .eq 11, 3) := by decide +kernel
theorem dX4_pays_7 : decode cX4_pays 7 = .ok (.aload_n 0, 1) := by decide +kernel
theorem dX4_pays_8 : decode cX4_pays 8 = .ok (.iload_n 1, 1) := by decide +kernel
theorem dX4_pays_9 : decode cX4_pays 9 = .ok (.invokevirtual 165, 3) := by decide +kernel
theorem dX4_pays_12 : decode cX4_pays 12 = .ok (.goto 5, 3) := by decide +kernel
theorem dX4_pays_15 : decode cX4_pays 15 = .ok (.bipush (-2), 2) := by decide +kernel
theorem dX4_pays_17 : decode cX4_pays 17 = .ok (.ireturn, 1) := by decide +kernel
set_option maxRecDepth 20000 in
theorem ggX4_left_X0_letCost : GoodIn wsX4_left wsX0_letCost := goodIn_r _ [6, 7, 8, 9, 34, 35, 36, 37, 38, 39, 40, 41] (by decide +kernel) (by decide +kernel)
set_option maxRecDepth 20000 in
theorem gX4_left_X0_letCost : GoodIn wsX4_left (wsV RX4 168 RX0 yX0_letCost wsX0_letCost) := goodIn_app (goodIn_of _ (by decide +kernel)) ggX4_left_X0_letCost
set_option maxRecDepth 20000 in
theorem ggX4_left_X4_paidBy : GoodIn wsX4_left wsX4_paidBy := goodIn_r _ [14, 1, 15, 16, 17, 18, 19, 20, 21, 22, 23, 13, 24, 25, 26, 27, 28, 29, 30, 31, 32, 33, 34, 35, 36, 37, 38, 39, 40, 41, 42, 43, 44] (by decide +kernel) (by decide +kernel)
set_option maxRecDepth 20000 in
theorem gX4_left_X4_paidBy : GoodIn wsX4_left (wsV RX4 165 RX4 yX4_paidBy wsX4_paidBy) := goodIn_app (goodIn_of _ (by decide +kernel)) ggX4_left_X4_paidBy
theorem dX4_left_0 : decode cX4_left 0 = .ok (.aload_n 0, 1) := by decide +kernel
theorem dX4_left_1 : decode cX4_left 1 = .ok (.getfield 19, 3) := by decide +kernel
theorem dX4_left_4 : decode cX4_left 4 = .ok (.invokevirtual 168, 3) := by decide +kernel
theorem dX4_left_7 : decode cX4_left 7 = .ok (.istore_n 1, 1) := by decide +kernel
theorem dX4_left_8 : decode cX4_left 8 = .ok (.iconst 0, 1) := by decide +kernel
theorem dX4_left_9 : decode cX4_left 9 = .ok (.istore_n 2, 1) := by decide +kernel
theorem dX4_left_10 : decode cX4_left 10 = .ok (.iload_n 2, 1) := by decide +kernel
theorem dX4_left_11 : decode cX4_left 11 = .ok (.bipush 6, 2) := by decide +kernel
theorem dX4_left_13 : decode cX4_left 13 = .ok (.if_icmp .ge 17, 3) := by decide +kernel
theorem dX4_left_16 : decode cX4_left 16 = .ok (.iload_n 1, 1) := by decide +kernel
theorem dX4_left_17 : decode cX4_left 17 = .ok (.aload_n 0, 1) := by decide +kernel
theorem dX4_left_18 : decode cX4_left 18 = .ok (.iload_n 2, 1) := by decide +kernel
theorem dX4_left_19 : decode cX4_left 19 = .ok (.invokevirtual 165, 3) := by decide +kernel
theorem dX4_left_22 : decode cX4_left 22 = .ok (.isub, 1) := by decide +kernel
theorem dX4_left_23 : decode cX4_left 23 = .ok (.istore_n 1, 1) := by decide +kernel
theorem dX4_left_24 : decode cX4_left 24 = .ok (.iinc 2 1, 3) := by decide +kernel
theorem dX4_left_27 : decode cX4_left 27 = .ok (.goto (-17), 3) := by decide +kernel
theorem dX4_left_30 : decode cX4_left 30 = .ok (.iload_n 1, 1) := by decide +kernel
theorem dX4_left_31 : decode cX4_left 31 = .ok (.ireturn, 1) := by decide +kernel
set_option maxRecDepth 20000 in
theorem ggX4_called_X4_canBeCalled : GoodIn wsX4_called wsX4_canBeCalled := goodIn_r _ [4, 5, 6, 3, 7, 8, 9, 10, 11, 12, 13] (by decide +kernel) (by decide +kernel)
set_option maxRecDepth 20000 in
theorem gX4_called_X4_canBeCalled : GoodIn wsX4_called (va_wsS RX4 172 yX4_canBeCalled wsX4_canBeCalled) := goodIn_app (goodIn_of _ (by decide +kernel)) ggX4_called_X4_canBeCalled
set_option maxRecDepth 20000 in
theorem ggX4_called_X4_thingsCalled : GoodIn wsX4_called wsX4_thingsCalled := goodIn_r _ [17, 18, 19, 20, 21, 22, 23, 24, 25, 26, 27, 28, 29, 30, 31, 6, 3, 7, 8, 9, 10, 32, 33, 34, 35, 36, 37, 38, 39, 40, 41, 42, 43, 44, 45, 46, 47, 48, 49, 50, 51, 52, 53, 54, 55, 63, 64, 65, 66, 67, 68, 69, 70, 71, 72, 73, 74, 75, 76, 77, 78, 79, 80, 81, 82, 83, 84, 85] (by decide +kernel) (by decide +kernel)
set_option maxRecDepth 20000 in
theorem gX4_called_X4_thingsCalled : GoodIn wsX4_called (wsV RX4 176 RX4 yX4_thingsCalled wsX4_thingsCalled) := goodIn_app (goodIn_of _ (by decide +kernel)) ggX4_called_X4_thingsCalled
set_option maxRecDepth 20000 in
theorem ggX4_called_J13_bitCount_95d88 : GoodIn wsX4_called wsJ13_bitCount_95d88 := goodIn_r _ [59, 60, 61, 62] (by decide +kernel) (by decide +kernel)
set_option maxRecDepth 20000 in
theorem gX4_called_J13_bitCount_95d88 : GoodIn wsX4_called (va_wsS RX4 180 yJ13_bitCount_95d88 wsJ13_bitCount_95d88) := goodIn_app (goodIn_of _ (by decide +kernel)) ggX4_called_J13_bitCount_95d88
theorem dX4_called_0 : decode cX4_called 0 = .ok (.iload_n 1, 1) := by decide +kernel
theorem dX4_called_1 : decode cX4_called 1 = .ok (.iload_n 2, 1) := by decide +kernel
theorem dX4_called_2 : decode cX4_called 2 = .ok (.iload_n 3, 1) := by decide +kernel
theorem dX4_called_3 : decode cX4_called 3 = .ok (.iload 4, 2) := by decide +kernel
theorem dX4_called_5 : decode cX4_called 5 = .ok (.invokestatic 172, 3) := by decide +kernel
theorem dX4_called_8 : decode cX4_called 8 = .ok (.ifCond .ne 6, 3) := by decide +kernel
theorem dX4_called_11 : decode cX4_called 11 = .ok (.bipush (-2), 2) := by decide +kernel
theorem dX4_called_13 : decode cX4_called 13 = .ok (.ireturn, 1) := by decide +kernel
theorem dX4_called_14 : decode cX4_called 14 = .ok (.aload_n 0, 1) := by decide +kernel
theorem dX4_called_15 : decode cX4_called 15 = .ok (.iload_n 1, 1) := by decide +kernel
theorem dX4_called_16 : decode cX4_called 16 = .ok (.iload_n 2, 1) := by decide +kernel
theorem dX4_called_17 : decode cX4_called 17 = .ok (.iload_n 3, 1) := by decide +kernel
theorem dX4_called_18 : decode cX4_called 18 = .ok (.iload 4, 2) := by decide +kernel
theorem dX4_called_20 : decode cX4_called 20 = .ok (.invokevirtual 176, 3) := by decide +kernel
theorem dX4_called_23 : decode cX4_called 23 = .ok (.invokestatic 180, 3) := by decide +kernel
theorem dX4_called_26 : decode cX4_called 26 = .ok (.ireturn, 1) := by decide +kernel
set_option maxRecDepth 20000 in
theorem ggX4_calledAt_X4_canBeCalled : GoodIn wsX4_calledAt wsX4_canBeCalled := goodIn_r _ [4, 5, 6, 3, 7, 8, 9, 10, 11, 12, 13] (by decide +kernel) (by decide +kernel)
set_option maxRecDepth 20000 in
theorem gX4_calledAt_X4_canBeCalled : GoodIn wsX4_calledAt (va_wsS RX4 172 yX4_canBeCalled wsX4_canBeCalled) := goodIn_app (goodIn_of _ (by decide +kernel)) ggX4_calledAt_X4_canBeCalled
set_option maxRecDepth 20000 in
theorem ggX4_calledAt_X4_thingsCalled : GoodIn wsX4_calledAt wsX4_thingsCalled := goodIn_r _ [17, 18, 19, 20, 21, 22, 23, 24, 25, 26, 27, 28, 29, 30, 31, 6, 3, 7, 8, 9, 10, 32, 33, 34, 35, 36, 37, 38, 39, 40, 41, 42, 43, 44, 45, 46, 47, 48, 49, 50, 51, 52, 53, 54, 55, 57, 58, 59, 60, 61, 62, 63, 64, 65, 66, 67, 68, 69, 70, 71, 72, 73, 74, 75, 76, 77, 78, 79] (by decide +kernel) (by decide +kernel)
set_option maxRecDepth 20000 in
theorem gX4_calledAt_X4_thingsCalled : GoodIn wsX4_calledAt (wsV RX4 176 RX4 yX4_thingsCalled wsX4_thingsCalled) := goodIn_app (goodIn_of _ (by decide +kernel)) ggX4_calledAt_X4_thingsCalled
set_option maxRecDepth 20000 in
theorem ggX4_calledAt_X4_hasBit : GoodIn wsX4_calledAt wsX4_hasBit := goodIn_r _ [47] (by decide +kernel) (by decide +kernel)
set_option maxRecDepth 20000 in
theorem gX4_calledAt_X4_hasBit : GoodIn wsX4_calledAt (va_wsS RX4 186 yX4_hasBit wsX4_hasBit) := goodIn_app (goodIn_of _ (by decide +kernel)) ggX4_calledAt_X4_hasBit
theorem dX4_calledAt_0 : decode cX4_calledAt 0 = .ok (.iload_n 1, 1) := by decide +kernel
theorem dX4_calledAt_1 : decode cX4_calledAt 1 = .ok (.iload_n 2, 1) := by decide +kernel
theorem dX4_calledAt_2 : decode cX4_calledAt 2 = .ok (.iload_n 3, 1) := by decide +kernel
theorem dX4_calledAt_3 : decode cX4_calledAt 3 = .ok (.iload 4, 2) := by decide +kernel
theorem dX4_calledAt_5 : decode cX4_calledAt 5 = .ok (.invokestatic 172, 3) := by decide +kernel
theorem dX4_calledAt_8 : decode cX4_calledAt 8 = .ok (.ifCond .eq 8, 3) := by decide +kernel
theorem dX4_calledAt_11 : decode cX4_calledAt 11 = .ok (.iload 5, 2) := by decide +kernel
theorem dX4_calledAt_13 : decode cX4_calledAt 13 = .ok (.ifCond .ge 6, 3) := by decide +kernel
theorem dX4_calledAt_16 : decode cX4_calledAt 16 = .ok (.bipush (-2), 2) := by decide +kernel
theorem dX4_calledAt_18 : decode cX4_calledAt 18 = .ok (.ireturn, 1) := by decide +kernel
theorem dX4_calledAt_19 : decode cX4_calledAt 19 = .ok (.aload_n 0, 1) := by decide +kernel
theorem dX4_calledAt_20 : decode cX4_calledAt 20 = .ok (.iload_n 1, 1) := by decide +kernel
theorem dX4_calledAt_21 : decode cX4_calledAt 21 = .ok (.iload_n 2, 1) := by decide +kernel
theorem dX4_calledAt_22 : decode cX4_calledAt 22 = .ok (.iload_n 3, 1) := by decide +kernel
theorem dX4_calledAt_23 : decode cX4_calledAt 23 = .ok (.iload 4, 2) := by decide +kernel
theorem dX4_calledAt_25 : decode cX4_calledAt 25 = .ok (.invokevirtual 176, 3) := by decide +kernel
theorem dX4_calledAt_28 : decode cX4_calledAt 28 = .ok (.lstore 6, 2) := by decide +kernel
theorem dX4_calledAt_30 : decode cX4_calledAt 30 = .ok (.iconst 0, 1) := by decide +kernel
theorem dX4_calledAt_31 : decode cX4_calledAt 31 = .ok (.istore 8, 2) := by decide +kernel
theorem dX4_calledAt_33 : decode cX4_calledAt 33 = .ok (.iconst 0, 1) := by decide +kernel
theorem dX4_calledAt_34 : decode cX4_calledAt 34 = .ok (.istore 9, 2) := by decide +kernel
theorem dX4_calledAt_36 : decode cX4_calledAt 36 = .ok (.iload 9, 2) := by decide +kernel
theorem dX4_calledAt_38 : decode cX4_calledAt 38 = .ok (.bipush 60, 2) := by decide +kernel
theorem dX4_calledAt_40 : decode cX4_calledAt 40 = .ok (.if_icmp .ge 35, 3) := by decide +kernel
theorem dX4_calledAt_43 : decode cX4_calledAt 43 = .ok (.lload 6, 2) := by decide +kernel
theorem dX4_calledAt_45 : decode cX4_calledAt 45 = .ok (.iload 9, 2) := by decide +kernel
theorem dX4_calledAt_47 : decode cX4_calledAt 47 = .ok (.invokestatic 186, 3) := by decide +kernel
theorem dX4_calledAt_50 : decode cX4_calledAt 50 = .ok (.ifCond .ne 6, 3) := by decide +kernel
theorem dX4_calledAt_53 : decode cX4_calledAt 53 = .ok (.goto 16, 3) := by decide +kernel
theorem dX4_calledAt_56 : decode cX4_calledAt 56 = .ok (.iload 8, 2) := by decide +kernel
theorem dX4_calledAt_58 : decode cX4_calledAt 58 = .ok (.iload 5, 2) := by decide +kernel
theorem dX4_calledAt_60 : decode cX4_calledAt 60 = .ok (.if_icmp .ne 6, 3) := by decide +kernel
theorem dX4_calledAt_63 : decode cX4_calledAt 63 = .ok (.iload 9, 2) := by decide +kernel
theorem dX4_calledAt_65 : decode cX4_calledAt 65 = .ok (.ireturn, 1) := by decide +kernel
theorem dX4_calledAt_66 : decode cX4_calledAt 66 = .ok (.iinc 8 1, 3) := by decide +kernel
theorem dX4_calledAt_69 : decode cX4_calledAt 69 = .ok (.iinc 9 1, 3) := by decide +kernel
theorem dX4_calledAt_72 : decode cX4_calledAt 72 = .ok (.goto (-36), 3) := by decide +kernel
theorem dX4_calledAt_75 : decode cX4_calledAt 75 = .ok (.iconst (-1), 1) := by decide +kernel
theorem dX4_calledAt_76 : decode cX4_calledAt 76 = .ok (.ireturn, 1) := by decide +kernel
set_option maxRecDepth 20000 in
theorem ggX4_count_X4_isWithin : GoodIn wsX4_count wsX4_isWithin := goodIn_r _ [6] (by decide +kernel) (by decide +kernel)
set_option maxRecDepth 20000 in
theorem gX4_count_X4_isWithin : GoodIn wsX4_count (va_wsS RX4 48 yX4_isWithin wsX4_isWithin) := goodIn_app (goodIn_of _ (by decide +kernel)) ggX4_count_X4_isWithin
set_option maxRecDepth 20000 in
theorem ggX4_count_X0_thingsLetFor : GoodIn wsX4_count wsX0_thingsLetFor := goodIn_r _ [11, 12, 13, 14, 15, 16, 17, 10, 18, 19, 20, 21, 5, 22, 51, 52, 53, 54, 55, 56, 57, 58] (by decide +kernel) (by decide +kernel)
set_option maxRecDepth 20000 in
theorem gX4_count_X0_thingsLetFor : GoodIn wsX4_count (wsV RX4 131 RX0 yX0_thingsLetFor wsX0_thingsLetFor) := goodIn_app (goodIn_of _ (by decide +kernel)) ggX4_count_X0_thingsLetFor
set_option maxRecDepth 20000 in
theorem ggX4_count_J13_bitCount_95d88 : GoodIn wsX4_count wsJ13_bitCount_95d88 := goodIn_r _ [26, 27, 28, 29] (by decide +kernel) (by decide +kernel)
set_option maxRecDepth 20000 in
theorem gX4_count_J13_bitCount_95d88 : GoodIn wsX4_count (va_wsS RX4 180 yJ13_bitCount_95d88 wsJ13_bitCount_95d88) := goodIn_app (goodIn_of _ (by decide +kernel)) ggX4_count_J13_bitCount_95d88
set_option maxRecDepth 20000 in
theorem ggX4_count_X0_letCost : GoodIn wsX4_count wsX0_letCost := goodIn_r _ [33, 12, 19, 34, 51, 52, 53, 54, 55, 56, 57, 58] (by decide +kernel) (by decide +kernel)
set_option maxRecDepth 20000 in
theorem gX4_count_X0_letCost : GoodIn wsX4_count (wsV RX4 168 RX0 yX0_letCost wsX0_letCost) := goodIn_app (goodIn_of _ (by decide +kernel)) ggX4_count_X0_letCost
set_option maxRecDepth 20000 in
theorem ggX4_count_X0_judgedAs : GoodIn wsX4_count wsX0_judgedAs := goodIn_r _ [38, 12, 19, 51, 52, 53, 54, 55, 56, 57, 58] (by decide +kernel) (by decide +kernel)
set_option maxRecDepth 20000 in
theorem gX4_count_X0_judgedAs : GoodIn wsX4_count (wsV RX4 191 RX0 yX0_judgedAs wsX0_judgedAs) := goodIn_app (goodIn_of _ (by decide +kernel)) ggX4_count_X0_judgedAs
theorem dX4_count_0 : decode cX4_count 0 = .ok (.iload_n 1, 1) := by decide +kernel
theorem dX4_count_1 : decode cX4_count 1 = .ok (.iconst 0, 1) := by decide +kernel
theorem dX4_count_2 : decode cX4_count 2 = .ok (.bipush 8, 2) := by decide +kernel
theorem dX4_count_4 : decode cX4_count 4 = .ok (.invokestatic 48, 3) := by decide +kernel
theorem dX4_count_7 : decode cX4_count 7 = .ok (.ifCond .ne 6, 3) := by decide +kernel
theorem dX4_count_10 : decode cX4_count 10 = .ok (.bipush (-2), 2) := by decide +kernel
theorem dX4_count_12 : decode cX4_count 12 = .ok (.ireturn, 1) := by decide +kernel
theorem dX4_count_13 : decode cX4_count 13 = .ok (.iload_n 1, 1) := by decide +kernel
theorem dX4_count_14 : decode cX4_count 14 = .ok (.ifCond .ne 11, 3) := by decide +kernel
theorem dX4_count_17 : decode cX4_count 17 = .ok (.aload_n 0, 1) := by decide +kernel
theorem dX4_count_18 : decode cX4_count 18 = .ok (.getfield 12, 3) := by decide +kernel
theorem dX4_count_21 : decode cX4_count 21 = .ok (.getfield 190, 3) := by decide +kernel
theorem dX4_count_24 : decode cX4_count 24 = .ok (.ireturn, 1) := by decide +kernel
theorem dX4_count_25 : decode cX4_count 25 = .ok (.iload_n 1, 1) := by decide +kernel
theorem dX4_count_26 : decode cX4_count 26 = .ok (.iconst 1, 1) := by decide +kernel
theorem dX4_count_27 : decode cX4_count 27 = .ok (.if_icmp .ne 11, 3) := by decide +kernel
theorem dX4_count_30 : decode cX4_count 30 = .ok (.aload_n 0, 1) := by decide +kernel
theorem dX4_count_31 : decode cX4_count 31 = .ok (.getfield 19, 3) := by decide +kernel
theorem dX4_count_34 : decode cX4_count 34 = .ok (.getfield 94, 3) := by decide +kernel
theorem dX4_count_37 : decode cX4_count 37 = .ok (.ireturn, 1) := by decide +kernel
theorem dX4_count_38 : decode cX4_count 38 = .ok (.iload_n 1, 1) := by decide +kernel
theorem dX4_count_39 : decode cX4_count 39 = .ok (.bipush 7, 2) := by decide +kernel
theorem dX4_count_41 : decode cX4_count 41 = .ok (.if_icmp .ne 20, 3) := by decide +kernel
theorem dX4_count_44 : decode cX4_count 44 = .ok (.aload_n 0, 1) := by decide +kernel
theorem dX4_count_45 : decode cX4_count 45 = .ok (.getfield 19, 3) := by decide +kernel
theorem dX4_count_48 : decode cX4_count 48 = .ok (.sipush 1023, 3) := by decide +kernel
theorem dX4_count_51 : decode cX4_count 51 = .ok (.sipush 300, 3) := by decide +kernel
theorem dX4_count_54 : decode cX4_count 54 = .ok (.invokevirtual 131, 3) := by decide +kernel
theorem dX4_count_57 : decode cX4_count 57 = .ok (.invokestatic 180, 3) := by decide +kernel
theorem dX4_count_60 : decode cX4_count 60 = .ok (.ireturn, 1) := by decide +kernel
theorem dX4_count_61 : decode cX4_count 61 = .ok (.iload_n 1, 1) := by decide +kernel
theorem dX4_count_62 : decode cX4_count 62 = .ok (.bipush 8, 2) := by decide +kernel
theorem dX4_count_64 : decode cX4_count 64 = .ok (.if_icmp .ne 11, 3) := by decide +kernel
theorem dX4_count_67 : decode cX4_count 67 = .ok (.aload_n 0, 1) := by decide +kernel
theorem dX4_count_68 : decode cX4_count 68 = .ok (.getfield 19, 3) := by decide +kernel
theorem dX4_count_71 : decode cX4_count 71 = .ok (.invokevirtual 168, 3) := by decide +kernel
theorem dX4_count_74 : decode cX4_count 74 = .ok (.ireturn, 1) := by decide +kernel
theorem dX4_count_75 : decode cX4_count 75 = .ok (.aload_n 0, 1) := by decide +kernel
theorem dX4_count_76 : decode cX4_count 76 = .ok (.getfield 19, 3) := by decide +kernel
theorem dX4_count_79 : decode cX4_count 79 = .ok (.iload_n 1, 1) := by decide +kernel
theorem dX4_count_80 : decode cX4_count 80 = .ok (.iconst 2, 1) := by decide +kernel
theorem dX4_count_81 : decode cX4_count 81 = .ok (.isub, 1) := by decide +kernel
theorem dX4_count_82 : decode cX4_count 82 = .ok (.invokevirtual 191, 3) := by decide +kernel
theorem dX4_count_85 : decode cX4_count 85 = .ok (.ireturn, 1) := by decide +kernel
set_option maxRecDepth 20000 in
theorem ggX4_digest_X4_count : GoodIn wsX4_digest wsX4_count := goodIn_r _ [10, 3, 4, 11, 12, 9, 13, 14, 15, 16, 17, 18, 19, 20, 21, 22, 23, 24, 25, 26, 27, 28, 29, 30, 31, 32, 33, 34, 35, 36, 37, 38, 39, 40, 41, 42, 43, 44, 45, 90, 91, 92, 93, 94, 95, 96, 97, 98, 99, 100, 101, 102, 103, 104, 105, 106, 107, 108, 109] (by decide +kernel) (by decide +kernel)
set_option maxRecDepth 20000 in
theorem gX4_digest_X4_count : GoodIn wsX4_digest (wsV RX4 198 RX4 yX4_count wsX4_count) := goodIn_app (goodIn_of _ (by decide +kernel)) ggX4_digest_X4_count
set_option maxRecDepth 20000 in
theorem ggX4_digest_X2_digestOnto : GoodIn wsX4_digest wsX2_digestOnto := goodIn_r _ [50, 51, 52, 53, 54, 55, 56, 57, 58, 59, 49, 60, 61, 62, 63, 64, 65, 66, 95, 96, 97, 98, 99, 100, 101] (by decide +kernel) (by decide +kernel)
set_option maxRecDepth 20000 in
theorem gX4_digest_X2_digestOnto : GoodIn wsX4_digest (wsV RX4 201 RX2 yX2_digestOnto wsX2_digestOnto) := goodIn_app (goodIn_of _ (by decide +kernel)) ggX4_digest_X2_digestOnto
set_option maxRecDepth 20000 in
theorem ggX4_digest_X0_digestOnto : GoodIn wsX4_digest wsX0_digestOnto := goodIn_r _ [70, 19, 71, 72, 73, 74, 17, 75, 21, 20, 76, 27, 41, 26, 77, 78, 79, 80, 102, 103, 104, 105, 106, 107, 108, 109] (by decide +kernel) (by decide +kernel)
set_option maxRecDepth 20000 in
theorem gX4_digest_X0_digestOnto : GoodIn wsX4_digest (wsV RX4 204 RX0 yX0_digestOnto wsX0_digestOnto) := goodIn_app (goodIn_of _ (by decide +kernel)) ggX4_digest_X0_digestOnto
set_option maxRecDepth 20000 in
theorem ggX4_digest_X1_digestOnto : GoodIn wsX4_digest wsX1_digestOnto := goodIn_r _ [85, 86, 87, 88, 89, 110, 111, 112] (by decide +kernel) (by decide +kernel)
set_option maxRecDepth 20000 in
theorem gX4_digest_X1_digestOnto : GoodIn wsX4_digest (wsV RX4 205 RX1 yX1_digestOnto wsX1_digestOnto) := goodIn_app (goodIn_of _ (by decide +kernel)) ggX4_digest_X1_digestOnto
theorem dX4_digest_0 : decode cX4_digest 0 = .ok (.ldc2_w 194, 3) := by decide +kernel
theorem dX4_digest_3 : decode cX4_digest 3 = .ok (.lstore_n 1, 1) := by decide +kernel
theorem dX4_digest_4 : decode cX4_digest 4 = .ok (.iconst 0, 1) := by decide +kernel
theorem dX4_digest_5 : decode cX4_digest 5 = .ok (.istore_n 3, 1) := by decide +kernel
theorem dX4_digest_6 : decode cX4_digest 6 = .ok (.iload_n 3, 1) := by decide +kernel
theorem dX4_digest_7 : decode cX4_digest 7 = .ok (.bipush 8, 2) := by decide +kernel
theorem dX4_digest_9 : decode cX4_digest 9 = .ok (.if_icmp .gt 22, 3) := by decide +kernel
theorem dX4_digest_12 : decode cX4_digest 12 = .ok (.ldc2_w 196, 3) := by decide +kernel
theorem dX4_digest_15 : decode cX4_digest 15 = .ok (.lload_n 1, 1) := by decide +kernel
theorem dX4_digest_16 : decode cX4_digest 16 = .ok (.lmul, 1) := by decide +kernel
theorem dX4_digest_17 : decode cX4_digest 17 = .ok (.aload_n 0, 1) := by decide +kernel
theorem dX4_digest_18 : decode cX4_digest 18 = .ok (.iload_n 3, 1) := by decide +kernel
theorem dX4_digest_19 : decode cX4_digest 19 = .ok (.invokevirtual 198, 3) := by decide +kernel
theorem dX4_digest_22 : decode cX4_digest 22 = .ok (.i2l, 1) := by decide +kernel
theorem dX4_digest_23 : decode cX4_digest 23 = .ok (.ladd, 1) := by decide +kernel
theorem dX4_digest_24 : decode cX4_digest 24 = .ok (.lstore_n 1, 1) := by decide +kernel
theorem dX4_digest_25 : decode cX4_digest 25 = .ok (.iinc 3 1, 3) := by decide +kernel
theorem dX4_digest_28 : decode cX4_digest 28 = .ok (.goto (-22), 3) := by decide +kernel
theorem dX4_digest_31 : decode cX4_digest 31 = .ok (.aload_n 0, 1) := by decide +kernel
theorem dX4_digest_32 : decode cX4_digest 32 = .ok (.getfield 12, 3) := by decide +kernel
theorem dX4_digest_35 : decode cX4_digest 35 = .ok (.lload_n 1, 1) := by decide +kernel
theorem dX4_digest_36 : decode cX4_digest 36 = .ok (.invokevirtual 201, 3) := by decide +kernel
theorem dX4_digest_39 : decode cX4_digest 39 = .ok (.lstore_n 1, 1) := by decide +kernel
theorem dX4_digest_40 : decode cX4_digest 40 = .ok (.aload_n 0, 1) := by decide +kernel
theorem dX4_digest_41 : decode cX4_digest 41 = .ok (.getfield 19, 3) := by decide +kernel
theorem dX4_digest_44 : decode cX4_digest 44 = .ok (.lload_n 1, 1) := by decide +kernel
theorem dX4_digest_45 : decode cX4_digest 45 = .ok (.invokevirtual 204, 3) := by decide +kernel
theorem dX4_digest_48 : decode cX4_digest 48 = .ok (.lstore_n 1, 1) := by decide +kernel
theorem dX4_digest_49 : decode cX4_digest 49 = .ok (.aload_n 0, 1) := by decide +kernel
theorem dX4_digest_50 : decode cX4_digest 50 = .ok (.getfield 26, 3) := by decide +kernel
theorem dX4_digest_53 : decode cX4_digest 53 = .ok (.lload_n 1, 1) := by decide +kernel
theorem dX4_digest_54 : decode cX4_digest 54 = .ok (.invokevirtual 205, 3) := by decide +kernel
theorem dX4_digest_57 : decode cX4_digest 57 = .ok (.lreturn, 1) := by decide +kernel
theorem dX4_isWithin_0 : decode cX4_isWithin 0 = .ok (.iload_n 0, 1) := by decide +kernel
theorem dX4_isWithin_1 : decode cX4_isWithin 1 = .ok (.iload_n 1, 1) := by decide +kernel
theorem dX4_isWithin_2 : decode cX4_isWithin 2 = .ok (.if_icmp .lt 12, 3) := by decide +kernel
theorem dX4_isWithin_5 : decode cX4_isWithin 5 = .ok (.iload_n 0, 1) := by decide +kernel
theorem dX4_isWithin_6 : decode cX4_isWithin 6 = .ok (.iload_n 2, 1) := by decide +kernel
theorem dX4_isWithin_7 : decode cX4_isWithin 7 = .ok (.if_icmp .gt 7, 3) := by decide +kernel
theorem dX4_isWithin_10 : decode cX4_isWithin 10 = .ok (.iconst 1, 1) := by decide +kernel
theorem dX4_isWithin_11 : decode cX4_isWithin 11 = .ok (.goto 4, 3) := by decide +kernel
theorem dX4_isWithin_14 : decode cX4_isWithin 14 = .ok (.iconst 0, 1) := by decide +kernel
theorem dX4_isWithin_15 : decode cX4_isWithin 15 = .ok (.ireturn, 1) := by decide +kernel
set_option maxRecDepth 20000 in
theorem ggX4_isBatch_X4_isWithin : GoodIn wsX4_isBatch wsX4_isWithin := goodIn_r _ [4] (by decide +kernel) (by decide +kernel)
set_option maxRecDepth 20000 in
theorem gX4_isBatch_X4_isWithin : GoodIn wsX4_isBatch (va_wsS RX4 48 yX4_isWithin wsX4_isWithin) := goodIn_app (goodIn_of _ (by decide +kernel)) ggX4_isBatch_X4_isWithin
theorem dX4_isBatch_0 : decode cX4_isBatch 0 = .ok (.iload_n 0, 1) := by decide +kernel
theorem dX4_isBatch_1 : decode cX4_isBatch 1 = .ok (.iconst 0, 1) := by decide +kernel
theorem dX4_isBatch_2 : decode cX4_isBatch 2 = .ok (.bipush 7, 2) := by decide +kernel
theorem dX4_isBatch_4 : decode cX4_isBatch 4 = .ok (.invokestatic 48, 3) := by decide +kernel
theorem dX4_isBatch_7 : decode cX4_isBatch 7 = .ok (.ireturn, 1) := by decide +kernel
set_option maxRecDepth 20000 in
theorem ggX4_isLand_X4_isWithin : GoodIn wsX4_isLand wsX4_isWithin := goodIn_r _ [4] (by decide +kernel) (by decide +kernel)
set_option maxRecDepth 20000 in
theorem gX4_isLand_X4_isWithin : GoodIn wsX4_isLand (va_wsS RX4 48 yX4_isWithin wsX4_isWithin) := goodIn_app (goodIn_of _ (by decide +kernel)) ggX4_isLand_X4_isWithin
theorem dX4_isLand_0 : decode cX4_isLand 0 = .ok (.iload_n 0, 1) := by decide +kernel
theorem dX4_isLand_1 : decode cX4_isLand 1 = .ok (.iconst 0, 1) := by decide +kernel
theorem dX4_isLand_2 : decode cX4_isLand 2 = .ok (.iconst 3, 1) := by decide +kernel
theorem dX4_isLand_3 : decode cX4_isLand 3 = .ok (.invokestatic 48, 3) := by decide +kernel
theorem dX4_isLand_6 : decode cX4_isLand 6 = .ok (.ireturn, 1) := by decide +kernel
set_option maxRecDepth 20000 in
theorem ggX4_isPart_X4_isWithin : GoodIn wsX4_isPart wsX4_isWithin := goodIn_r _ [4] (by decide +kernel) (by decide +kernel)
set_option maxRecDepth 20000 in
theorem gX4_isPart_X4_isWithin : GoodIn wsX4_isPart (va_wsS RX4 48 yX4_isWithin wsX4_isWithin) := goodIn_app (goodIn_of _ (by decide +kernel)) ggX4_isPart_X4_isWithin
theorem dX4_isPart_0 : decode cX4_isPart 0 = .ok (.iload_n 0, 1) := by decide +kernel
theorem dX4_isPart_1 : decode cX4_isPart 1 = .ok (.iconst 0, 1) := by decide +kernel
theorem dX4_isPart_2 : decode cX4_isPart 2 = .ok (.bipush 9, 2) := by decide +kernel
theorem dX4_isPart_4 : decode cX4_isPart 4 = .ok (.invokestatic 48, 3) := by decide +kernel
theorem dX4_isPart_7 : decode cX4_isPart 7 = .ok (.ireturn, 1) := by decide +kernel
set_option maxRecDepth 20000 in
theorem ggX4_isMaker_X4_isWithin : GoodIn wsX4_isMaker wsX4_isWithin := goodIn_r _ [4] (by decide +kernel) (by decide +kernel)
set_option maxRecDepth 20000 in
theorem gX4_isMaker_X4_isWithin : GoodIn wsX4_isMaker (va_wsS RX4 48 yX4_isWithin wsX4_isWithin) := goodIn_app (goodIn_of _ (by decide +kernel)) ggX4_isMaker_X4_isWithin
theorem dX4_isMaker_0 : decode cX4_isMaker 0 = .ok (.iload_n 0, 1) := by decide +kernel
theorem dX4_isMaker_1 : decode cX4_isMaker 1 = .ok (.iconst 0, 1) := by decide +kernel
theorem dX4_isMaker_2 : decode cX4_isMaker 2 = .ok (.iconst 5, 1) := by decide +kernel
theorem dX4_isMaker_3 : decode cX4_isMaker 3 = .ok (.invokestatic 48, 3) := by decide +kernel
theorem dX4_isMaker_6 : decode cX4_isMaker 6 = .ok (.ireturn, 1) := by decide +kernel
set_option maxRecDepth 20000 in
theorem ggX4_isSaleMonth_X4_isWithin : GoodIn wsX4_isSaleMonth wsX4_isWithin := goodIn_r _ [4] (by decide +kernel) (by decide +kernel)
set_option maxRecDepth 20000 in
theorem gX4_isSaleMonth_X4_isWithin : GoodIn wsX4_isSaleMonth (va_wsS RX4 48 yX4_isWithin wsX4_isWithin) := goodIn_app (goodIn_of _ (by decide +kernel)) ggX4_isSaleMonth_X4_isWithin
theorem dX4_isSaleMonth_0 : decode cX4_isSaleMonth 0 = .ok (.iload_n 0, 1) := by decide +kernel
theorem dX4_isSaleMonth_1 : decode cX4_isSaleMonth 1 = .ok (.iconst 0, 1) := by decide +kernel
theorem dX4_isSaleMonth_2 : decode cX4_isSaleMonth 2 = .ok (.bipush 119, 2) := by decide +kernel
theorem dX4_isSaleMonth_4 : decode cX4_isSaleMonth 4 = .ok (.invokestatic 48, 3) := by decide +kernel
theorem dX4_isSaleMonth_7 : decode cX4_isSaleMonth 7 = .ok (.ireturn, 1) := by decide +kernel
set_option maxRecDepth 20000 in
theorem ggX4_isMonth_X4_isWithin : GoodIn wsX4_isMonth wsX4_isWithin := goodIn_r _ [4] (by decide +kernel) (by decide +kernel)
set_option maxRecDepth 20000 in
theorem gX4_isMonth_X4_isWithin : GoodIn wsX4_isMonth (va_wsS RX4 48 yX4_isWithin wsX4_isWithin) := goodIn_app (goodIn_of _ (by decide +kernel)) ggX4_isMonth_X4_isWithin
theorem dX4_isMonth_0 : decode cX4_isMonth 0 = .ok (.iload_n 0, 1) := by decide +kernel
theorem dX4_isMonth_1 : decode cX4_isMonth 1 = .ok (.iconst 0, 1) := by decide +kernel
theorem dX4_isMonth_2 : decode cX4_isMonth 2 = .ok (.sipush 300, 3) := by decide +kernel
theorem dX4_isMonth_5 : decode cX4_isMonth 5 = .ok (.invokestatic 48, 3) := by decide +kernel
theorem dX4_isMonth_8 : decode cX4_isMonth 8 = .ok (.ireturn, 1) := by decide +kernel
theorem dX4_isAboveOrBelow_0 : decode cX4_isAboveOrBelow 0 = .ok (.iload_n 0, 1) := by decide +kernel
theorem dX4_isAboveOrBelow_1 : decode cX4_isAboveOrBelow 1 = .ok (.ifCond .eq 8, 3) := by decide +kernel
theorem dX4_isAboveOrBelow_4 : decode cX4_isAboveOrBelow 4 = .ok (.iload_n 0, 1) := by decide +kernel
theorem dX4_isAboveOrBelow_5 : decode cX4_isAboveOrBelow 5 = .ok (.iconst 1, 1) := by decide +kernel
theorem dX4_isAboveOrBelow_6 : decode cX4_isAboveOrBelow 6 = .ok (.if_icmp .ne 7, 3) := by decide +kernel
theorem dX4_isAboveOrBelow_9 : decode cX4_isAboveOrBelow 9 = .ok (.iconst 1, 1) := by decide +kernel
theorem dX4_isAboveOrBelow_10 : decode cX4_isAboveOrBelow 10 = .ok (.goto 4, 3) := by decide +kernel
theorem dX4_isAboveOrBelow_13 : decode cX4_isAboveOrBelow 13 = .ok (.iconst 0, 1) := by decide +kernel
theorem dX4_isAboveOrBelow_14 : decode cX4_isAboveOrBelow 14 = .ok (.ireturn, 1) := by decide +kernel
set_option maxRecDepth 20000 in
theorem ggX4_canBeCalled_X4_isPart : GoodIn wsX4_canBeCalled wsX4_isPart := goodIn_r _ [4, 5, 6, 3, 7] (by decide +kernel) (by decide +kernel)
set_option maxRecDepth 20000 in
theorem gX4_canBeCalled_X4_isPart : GoodIn wsX4_canBeCalled (va_wsS RX4 81 yX4_isPart wsX4_isPart) := goodIn_app (goodIn_of _ (by decide +kernel)) ggX4_canBeCalled_X4_isPart
set_option maxRecDepth 20000 in
theorem ggX4_canBeCalled_X4_isWithin : GoodIn wsX4_canBeCalled wsX4_isWithin := goodIn_r _ [7] (by decide +kernel) (by decide +kernel)
set_option maxRecDepth 20000 in
theorem gX4_canBeCalled_X4_isWithin : GoodIn wsX4_canBeCalled (va_wsS RX4 48 yX4_isWithin wsX4_isWithin) := goodIn_app (goodIn_of _ (by decide +kernel)) ggX4_canBeCalled_X4_isWithin
set_option maxRecDepth 20000 in
theorem ggX4_canBeCalled_X4_isSaleMonth : GoodIn wsX4_canBeCalled wsX4_isSaleMonth := goodIn_r _ [10, 5, 6, 3, 7] (by decide +kernel) (by decide +kernel)
set_option maxRecDepth 20000 in
theorem gX4_canBeCalled_X4_isSaleMonth : GoodIn wsX4_canBeCalled (va_wsS RX4 45 yX4_isSaleMonth wsX4_isSaleMonth) := goodIn_app (goodIn_of _ (by decide +kernel)) ggX4_canBeCalled_X4_isSaleMonth
theorem dX4_canBeCalled_0 : decode cX4_canBeCalled 0 = .ok (.iload_n 0, 1) := by decide +kernel
theorem dX4_canBeCalled_1 : decode cX4_canBeCalled 1 = .ok (.invokestatic 81, 3) := by decide +kernel
theorem dX4_canBeCalled_4 : decode cX4_canBeCalled 4 = .ok (.ifCond .eq 37, 3) := by decide +kernel
theorem dX4_canBeCalled_7 : decode cX4_canBeCalled 7 = .ok (.iload_n 1, 1) := by decide +kernel
theorem dX4_canBeCalled_8 : decode cX4_canBeCalled 8 = .ok (.iconst 1, 1) := by decide +kernel
theorem dX4_canBeCalled_9 : decode cX4_canBeCalled 9 = .ok (.sipush 255, 3) := by decide +kernel
theorem dX4_canBeCalled_12 : decode cX4_canBeCalled 12 = .ok (.invokestatic 48, 3) := by decide +kernel
theorem dX4_canBeCalled_15 : decode cX4_canBeCalled 15 = .ok (.ifCond .eq 26, 3) := by decide +kernel
theorem dX4_canBeCalled_18 : decode cX4_canBeCalled 18 = .ok (.iload_n 2, 1) := by decide +kernel
theorem dX4_canBeCalled_19 : decode cX4_canBeCalled 19 = .ok (.invokestatic 45, 3) := by decide +kernel
theorem dX4_canBeCalled_22 : decode cX4_canBeCalled 22 = .ok (.ifCond .eq 19, 3) := by decide +kernel
theorem dX4_canBeCalled_25 : decode cX4_canBeCalled 25 = .ok (.iload_n 3, 1) := by decide +kernel
theorem dX4_canBeCalled_26 : decode cX4_canBeCalled 26 = .ok (.invokestatic 45, 3) := by decide +kernel
theorem dX4_canBeCalled_29 : decode cX4_canBeCalled 29 = .ok (.ifCond .eq 12, 3) := by decide +kernel
theorem dX4_canBeCalled_32 : decode cX4_canBeCalled 32 = .ok (.iload_n 2, 1) := by decide +kernel
theorem dX4_canBeCalled_33 : decode cX4_canBeCalled 33 = .ok (.iload_n 3, 1) := by decide +kernel
theorem dX4_canBeCalled_34 : decode cX4_canBeCalled 34 = .ok (.if_icmp .gt 7, 3) := by decide +kernel
theorem dX4_canBeCalled_37 : decode cX4_canBeCalled 37 = .ok (.iconst 1, 1) := by decide +kernel
theorem dX4_canBeCalled_38 : decode cX4_canBeCalled 38 = .ok (.goto 4, 3) := by decide +kernel
theorem dX4_canBeCalled_41 : decode cX4_canBeCalled 41 = .ok (.iconst 0, 1) := by decide +kernel
theorem dX4_canBeCalled_42 : decode cX4_canBeCalled 42 = .ok (.ireturn, 1) := by decide +kernel
theorem dX4_hasBit_0 : decode cX4_hasBit 0 = .ok (.lload_n 0, 1) := by decide +kernel
theorem dX4_hasBit_1 : decode cX4_hasBit 1 = .ok (.iload_n 2, 1) := by decide +kernel
theorem dX4_hasBit_2 : decode cX4_hasBit 2 = .ok (.lushr, 1) := by decide +kernel
theorem dX4_hasBit_3 : decode cX4_hasBit 3 = .ok (.lconst 1, 1) := by decide +kernel
theorem dX4_hasBit_4 : decode cX4_hasBit 4 = .ok (.land, 1) := by decide +kernel
theorem dX4_hasBit_5 : decode cX4_hasBit 5 = .ok (.lconst 0, 1) := by decide +kernel
theorem dX4_hasBit_6 : decode cX4_hasBit 6 = .ok (.lcmp, 1) := by decide +kernel
theorem dX4_hasBit_7 : decode cX4_hasBit 7 = .ok (.ifCond .eq 7, 3) := by decide +kernel
theorem dX4_hasBit_10 : decode cX4_hasBit 10 = .ok (.iconst 1, 1) := by decide +kernel
theorem dX4_hasBit_11 : decode cX4_hasBit 11 = .ok (.goto 4, 3) := by decide +kernel
theorem dX4_hasBit_14 : decode cX4_hasBit 14 = .ok (.iconst 0, 1) := by decide +kernel
theorem dX4_hasBit_15 : decode cX4_hasBit 15 = .ok (.ireturn, 1) := by decide +kernel
set_option maxRecDepth 20000 in
theorem ggX4_judge_X0_anyLet : GoodIn wsX4_judge wsX0_anyLet := goodIn_r _ [8, 9, 10, 11, 12, 13, 36, 37, 38, 39, 40, 41, 42, 43] (by decide +kernel) (by decide +kernel)
set_option maxRecDepth 20000 in
theorem gX4_judge_X0_anyLet : GoodIn wsX4_judge (wsV RX4 206 RX0 yX0_anyLet wsX0_anyLet) := goodIn_app (goodIn_of _ (by decide +kernel)) ggX4_judge_X0_anyLet
set_option maxRecDepth 20000 in
theorem ggX4_judge_X2_covers : GoodIn wsX4_judge wsX2_covers := goodIn_r _ [18, 19, 20, 21, 22, 23, 29, 30, 31, 32, 33, 34, 35] (by decide +kernel) (by decide +kernel)
set_option maxRecDepth 20000 in
theorem gX4_judge_X2_covers : GoodIn wsX4_judge (wsV RX4 73 RX2 yX2_covers wsX2_covers) := goodIn_app (goodIn_of _ (by decide +kernel)) ggX4_judge_X2_covers
theorem dX4_judge_0 : decode cX4_judge 0 = .ok (.iload_n 3, 1) := by decide +kernel
theorem dX4_judge_1 : decode cX4_judge 1 = .ok (.aload_n 0, 1) := by decide +kernel
theorem dX4_judge_2 : decode cX4_judge 2 = .ok (.getfield 12, 3) := by decide +kernel
theorem dX4_judge_5 : decode cX4_judge 5 = .ok (.getfield 84, 3) := by decide +kernel
theorem dX4_judge_8 : decode cX4_judge 8 = .ok (.iload_n 1, 1) := by decide +kernel
theorem dX4_judge_9 : decode cX4_judge 9 = .ok (.iaload, 1) := by decide +kernel
theorem dX4_judge_10 : decode cX4_judge 10 = .ok (.if_icmp .ge 5, 3) := by decide +kernel
theorem dX4_judge_13 : decode cX4_judge 13 = .ok (.iconst 1, 1) := by decide +kernel
theorem dX4_judge_14 : decode cX4_judge 14 = .ok (.ireturn, 1) := by decide +kernel
theorem dX4_judge_15 : decode cX4_judge 15 = .ok (.aload_n 0, 1) := by decide +kernel
theorem dX4_judge_16 : decode cX4_judge 16 = .ok (.getfield 19, 3) := by decide +kernel
theorem dX4_judge_19 : decode cX4_judge 19 = .ok (.iload_n 1, 1) := by decide +kernel
theorem dX4_judge_20 : decode cX4_judge 20 = .ok (.iload_n 2, 1) := by decide +kernel
theorem dX4_judge_21 : decode cX4_judge 21 = .ok (.iload_n 3, 1) := by decide +kernel
theorem dX4_judge_22 : decode cX4_judge 22 = .ok (.iload_n 3, 1) := by decide +kernel
theorem dX4_judge_23 : decode cX4_judge 23 = .ok (.invokevirtual 206, 3) := by decide +kernel
theorem dX4_judge_26 : decode cX4_judge 26 = .ok (.ifCond .eq 5, 3) := by decide +kernel
theorem dX4_judge_29 : decode cX4_judge 29 = .ok (.iconst 2, 1) := by decide +kernel
theorem dX4_judge_30 : decode cX4_judge 30 = .ok (.ireturn, 1) := by decide +kernel
theorem dX4_judge_31 : decode cX4_judge 31 = .ok (.aload_n 0, 1) := by decide +kernel
theorem dX4_judge_32 : decode cX4_judge 32 = .ok (.getfield 12, 3) := by decide +kernel
theorem dX4_judge_35 : decode cX4_judge 35 = .ok (.iload_n 1, 1) := by decide +kernel
theorem dX4_judge_36 : decode cX4_judge 36 = .ok (.iload_n 3, 1) := by decide +kernel
theorem dX4_judge_37 : decode cX4_judge 37 = .ok (.invokevirtual 73, 3) := by decide +kernel
theorem dX4_judge_40 : decode cX4_judge 40 = .ok (.ifCond .ne 5, 3) := by decide +kernel
theorem dX4_judge_43 : decode cX4_judge 43 = .ok (.iconst 3, 1) := by decide +kernel
theorem dX4_judge_44 : decode cX4_judge 44 = .ok (.ireturn, 1) := by decide +kernel
theorem dX4_judge_45 : decode cX4_judge 45 = .ok (.aload_n 0, 1) := by decide +kernel
theorem dX4_judge_46 : decode cX4_judge 46 = .ok (.getfield 19, 3) := by decide +kernel
theorem dX4_judge_49 : decode cX4_judge 49 = .ok (.iload_n 1, 1) := by decide +kernel
theorem dX4_judge_50 : decode cX4_judge 50 = .ok (.iload_n 2, 1) := by decide +kernel
theorem dX4_judge_51 : decode cX4_judge 51 = .ok (.iload_n 3, 1) := by decide +kernel
theorem dX4_judge_52 : decode cX4_judge 52 = .ok (.aload_n 0, 1) := by decide +kernel
theorem dX4_judge_53 : decode cX4_judge 53 = .ok (.getfield 37, 3) := by decide +kernel
theorem dX4_judge_56 : decode cX4_judge 56 = .ok (.isub, 1) := by decide +kernel
theorem dX4_judge_57 : decode cX4_judge 57 = .ok (.iload_n 3, 1) := by decide +kernel
theorem dX4_judge_58 : decode cX4_judge 58 = .ok (.iconst 1, 1) := by decide +kernel
theorem dX4_judge_59 : decode cX4_judge 59 = .ok (.isub, 1) := by decide +kernel
theorem dX4_judge_60 : decode cX4_judge 60 = .ok (.invokevirtual 206, 3) := by decide +kernel
theorem dX4_judge_63 : decode cX4_judge 63 = .ok (.ifCond .eq 5, 3) := by decide +kernel
theorem dX4_judge_66 : decode cX4_judge 66 = .ok (.iconst 4, 1) := by decide +kernel
theorem dX4_judge_67 : decode cX4_judge 67 = .ok (.ireturn, 1) := by decide +kernel
theorem dX4_judge_68 : decode cX4_judge 68 = .ok (.iconst 0, 1) := by decide +kernel
theorem dX4_judge_69 : decode cX4_judge 69 = .ok (.ireturn, 1) := by decide +kernel
set_option maxRecDepth 20000 in
theorem ggX4_waysAsOddOrOdder_J13_bitCount_95d88 : GoodIn wsX4_waysAsOddOrOdder wsJ13_bitCount_95d88 := goodIn_r _ [6, 7, 8, 9] (by decide +kernel) (by decide +kernel)
set_option maxRecDepth 20000 in
theorem gX4_waysAsOddOrOdder_J13_bitCount_95d88 : GoodIn wsX4_waysAsOddOrOdder (va_wsS RX4 180 yJ13_bitCount_95d88 wsJ13_bitCount_95d88) := goodIn_app (goodIn_of _ (by decide +kernel)) ggX4_waysAsOddOrOdder_J13_bitCount_95d88
set_option maxRecDepth 20000 in
theorem ggX4_waysAsOddOrOdder_X3_withAtLeast : GoodIn wsX4_waysAsOddOrOdder wsX3_withAtLeast := goodIn_r _ [14, 15, 16, 17, 13, 18, 19, 32] (by decide +kernel) (by decide +kernel)
set_option maxRecDepth 20000 in
theorem gX4_waysAsOddOrOdder_X3_withAtLeast : GoodIn wsX4_waysAsOddOrOdder (wsV RX4 209 RX3 yX3_withAtLeast wsX3_withAtLeast) := goodIn_app (goodIn_of _ (by decide +kernel)) ggX4_waysAsOddOrOdder_X3_withAtLeast
theorem dX4_waysAsOddOrOdder_0 : decode cX4_waysAsOddOrOdder 0 = .ok (.lload_n 1, 1) := by decide +kernel
theorem dX4_waysAsOddOrOdder_1 : decode cX4_waysAsOddOrOdder 1 = .ok (.lload_n 3, 1) := by decide +kernel
theorem dX4_waysAsOddOrOdder_2 : decode cX4_waysAsOddOrOdder 2 = .ok (.land, 1) := by decide +kernel
theorem dX4_waysAsOddOrOdder_3 : decode cX4_waysAsOddOrOdder 3 = .ok (.invokestatic 180, 3) := by decide +kernel
theorem dX4_waysAsOddOrOdder_6 : decode cX4_waysAsOddOrOdder 6 = .ok (.istore 5, 2) := by decide +kernel
theorem dX4_waysAsOddOrOdder_8 : decode cX4_waysAsOddOrOdder 8 = .ok (.aload_n 0, 1) := by decide +kernel
theorem dX4_waysAsOddOrOdder_9 : decode cX4_waysAsOddOrOdder 9 = .ok (.getfield 33, 3) := by decide +kernel
theorem dX4_waysAsOddOrOdder_12 : decode cX4_waysAsOddOrOdder 12 = .ok (.iload 5, 2) := by decide +kernel
theorem dX4_waysAsOddOrOdder_14 : decode cX4_waysAsOddOrOdder 14 = .ok (.lload_n 1, 1) := by decide +kernel
theorem dX4_waysAsOddOrOdder_15 : decode cX4_waysAsOddOrOdder 15 = .ok (.invokestatic 180, 3) := by decide +kernel
theorem dX4_waysAsOddOrOdder_18 : decode cX4_waysAsOddOrOdder 18 = .ok (.lload_n 3, 1) := by decide +kernel
theorem dX4_waysAsOddOrOdder_19 : decode cX4_waysAsOddOrOdder 19 = .ok (.invokestatic 180, 3) := by decide +kernel
theorem dX4_waysAsOddOrOdder_22 : decode cX4_waysAsOddOrOdder 22 = .ok (.aload_n 0, 1) := by decide +kernel
theorem dX4_waysAsOddOrOdder_23 : decode cX4_waysAsOddOrOdder 23 = .ok (.getfield 12, 3) := by decide +kernel
theorem dX4_waysAsOddOrOdder_26 : decode cX4_waysAsOddOrOdder 26 = .ok (.getfield 190, 3) := by decide +kernel
theorem dX4_waysAsOddOrOdder_29 : decode cX4_waysAsOddOrOdder 29 = .ok (.invokevirtual 209, 3) := by decide +kernel
theorem dX4_waysAsOddOrOdder_32 : decode cX4_waysAsOddOrOdder 32 = .ok (.lreturn, 1) := by decide +kernel
set_option maxRecDepth 20000 in
theorem ggX4_waysInAll_J13_bitCount_95d88 : GoodIn wsX4_waysInAll wsJ13_bitCount_95d88 := goodIn_r _ [6, 7, 8, 9] (by decide +kernel) (by decide +kernel)
set_option maxRecDepth 20000 in
theorem gX4_waysInAll_J13_bitCount_95d88 : GoodIn wsX4_waysInAll (va_wsS RX4 180 yJ13_bitCount_95d88 wsJ13_bitCount_95d88) := goodIn_app (goodIn_of _ (by decide +kernel)) ggX4_waysInAll_J13_bitCount_95d88
set_option maxRecDepth 20000 in
theorem ggX4_waysInAll_X3_choose : GoodIn wsX4_waysInAll wsX3_choose := goodIn_r _ [14, 15, 28] (by decide +kernel) (by decide +kernel)
set_option maxRecDepth 20000 in
theorem gX4_waysInAll_X3_choose : GoodIn wsX4_waysInAll (wsV RX4 212 RX3 yX3_choose wsX3_choose) := goodIn_app (goodIn_of _ (by decide +kernel)) ggX4_waysInAll_X3_choose
theorem dX4_waysInAll_0 : decode cX4_waysInAll 0 = .ok (.aload_n 0, 1) := by decide +kernel
theorem dX4_waysInAll_1 : decode cX4_waysInAll 1 = .ok (.getfield 33, 3) := by decide +kernel
theorem dX4_waysInAll_4 : decode cX4_waysInAll 4 = .ok (.aload_n 0, 1) := by decide +kernel
theorem dX4_waysInAll_5 : decode cX4_waysInAll 5 = .ok (.getfield 12, 3) := by decide +kernel
theorem dX4_waysInAll_8 : decode cX4_waysInAll 8 = .ok (.getfield 190, 3) := by decide +kernel
theorem dX4_waysInAll_11 : decode cX4_waysInAll 11 = .ok (.lload_n 1, 1) := by decide +kernel
theorem dX4_waysInAll_12 : decode cX4_waysInAll 12 = .ok (.invokestatic 180, 3) := by decide +kernel
theorem dX4_waysInAll_15 : decode cX4_waysInAll 15 = .ok (.invokevirtual 212, 3) := by decide +kernel
theorem dX4_waysInAll_18 : decode cX4_waysInAll 18 = .ok (.lreturn, 1) := by decide +kernel
set_option maxRecDepth 20000 in
theorem ggX4_paidBy_X1_firstWithMaker : GoodIn wsX4_paidBy wsX1_firstWithMaker := goodIn_r _ [7, 8, 9, 10, 11, 12, 13, 14, 15, 30, 31, 32] (by decide +kernel) (by decide +kernel)
set_option maxRecDepth 20000 in
theorem gX4_paidBy_X1_firstWithMaker : GoodIn wsX4_paidBy (wsV RX4 162 RX1 yX1_firstWithMaker wsX1_firstWithMaker) := goodIn_app (goodIn_of _ (by decide +kernel)) ggX4_paidBy_X1_firstWithMaker
set_option maxRecDepth 20000 in
theorem ggX4_paidBy_X4_isPart : GoodIn wsX4_paidBy wsX4_isPart := goodIn_r _ [12, 13, 14, 11, 15] (by decide +kernel) (by decide +kernel)
set_option maxRecDepth 20000 in
theorem gX4_paidBy_X4_isPart : GoodIn wsX4_paidBy (va_wsS RX4 81 yX4_isPart wsX4_isPart) := goodIn_app (goodIn_of _ (by decide +kernel)) ggX4_paidBy_X4_isPart
theorem dX4_paidBy_0 : decode cX4_paidBy 0 = .ok (.iconst 0, 1) := by decide +kernel
theorem dX4_paidBy_1 : decode cX4_paidBy 1 = .ok (.istore_n 2, 1) := by decide +kernel
theorem dX4_paidBy_2 : decode cX4_paidBy 2 = .ok (.iconst 0, 1) := by decide +kernel
theorem dX4_paidBy_3 : decode cX4_paidBy 3 = .ok (.istore_n 3, 1) := by decide +kernel
theorem dX4_paidBy_4 : decode cX4_paidBy 4 = .ok (.iload_n 3, 1) := by decide +kernel
theorem dX4_paidBy_5 : decode cX4_paidBy 5 = .ok (.aload_n 0, 1) := by decide +kernel
theorem dX4_paidBy_6 : decode cX4_paidBy 6 = .ok (.getfield 19, 3) := by decide +kernel
theorem dX4_paidBy_9 : decode cX4_paidBy 9 = .ok (.getfield 94, 3) := by decide +kernel
theorem dX4_paidBy_12 : decode cX4_paidBy 12 = .ok (.if_icmp .ge 90, 3) := by decide +kernel
theorem dX4_paidBy_15 : decode cX4_paidBy 15 = .ok (.aload_n 0, 1) := by decide +kernel
theorem dX4_paidBy_16 : decode cX4_paidBy 16 = .ok (.getfield 19, 3) := by decide +kernel
