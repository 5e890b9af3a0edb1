theorem dX0_init_0 : decode cX0_init 0 = .ok (.aload_n 0, 1) := by decide +kernel
theorem dX0_init_1 : decode cX0_init 1 = .ok (.invokespecial 3, 3) := by decide +kernel
theorem dX0_init_4 : decode cX0_init 4 = .ok (.aload_n 0, 1) := by decide +kernel
theorem dX0_init_5 : decode cX0_init 5 = .ok (.bipush 100, 2) := by decide +kernel
theorem dX0_init_7 : decode cX0_init 7 = .ok (.newarray .int, 2) := by decide +kernel
theorem dX0_init_9 : decode cX0_init 9 = .ok (.putfield 9, 3) := by decide +kernel
theorem dX0_init_12 : decode cX0_init 12 = .ok (.aload_n 0, 1) := by decide +kernel
theorem dX0_init_13 : decode cX0_init 13 = .ok (.bipush 100, 2) := by decide +kernel
theorem dX0_init_15 : decode cX0_init 15 = .ok (.newarray .int, 2) := by decide +kernel
theorem dX0_init_17 : decode cX0_init 17 = .ok (.putfield 15, 3) := by decide +kernel
theorem dX0_init_20 : decode cX0_init 20 = .ok (.aload_n 0, 1) := by decide +kernel
theorem dX0_init_21 : decode cX0_init 21 = .ok (.bipush 100, 2) := by decide +kernel
theorem dX0_init_23 : decode cX0_init 23 = .ok (.newarray .int, 2) := by decide +kernel
theorem dX0_init_25 : decode cX0_init 25 = .ok (.putfield 18, 3) := by decide +kernel
theorem dX0_init_28 : decode cX0_init 28 = .ok (.aload_n 0, 1) := by decide +kernel
theorem dX0_init_29 : decode cX0_init 29 = .ok (.bipush 100, 2) := by decide +kernel
theorem dX0_init_31 : decode cX0_init 31 = .ok (.newarray .int, 2) := by decide +kernel
theorem dX0_init_33 : decode cX0_init 33 = .ok (.putfield 21, 3) := by decide +kernel
theorem dX0_init_36 : decode cX0_init 36 = .ok (.aload_n 0, 1) := by decide +kernel
theorem dX0_init_37 : decode cX0_init 37 = .ok (.bipush 100, 2) := by decide +kernel
theorem dX0_init_39 : decode cX0_init 39 = .ok (.newarray .int, 2) := by decide +kernel
theorem dX0_init_41 : decode cX0_init 41 = .ok (.putfield 24, 3) := by decide +kernel
theorem dX0_init_44 : decode cX0_init 44 = .ok (.aload_n 0, 1) := by decide +kernel
theorem dX0_init_45 : decode cX0_init 45 = .ok (.bipush 100, 2) := by decide +kernel
theorem dX0_init_47 : decode cX0_init 47 = .ok (.newarray .int, 2) := by decide +kernel
theorem dX0_init_49 : decode cX0_init 49 = .ok (.putfield 27, 3) := by decide +kernel
theorem dX0_init_52 : decode cX0_init 52 = .ok (.aload_n 0, 1) := by decide +kernel
theorem dX0_init_53 : decode cX0_init 53 = .ok (.bipush 100, 2) := by decide +kernel
theorem dX0_init_55 : decode cX0_init 55 = .ok (.newarray .int, 2) := by decide +kernel
theorem dX0_init_57 : decode cX0_init 57 = .ok (.putfield 30, 3) := by decide +kernel
theorem dX0_init_60 : decode cX0_init 60 = .ok (.aload_n 0, 1) := by decide +kernel
theorem dX0_init_61 : decode cX0_init 61 = .ok (.iconst 0, 1) := by decide +kernel
theorem dX0_init_62 : decode cX0_init 62 = .ok (.putfield 33, 3) := by decide +kernel
theorem dX0_init_65 : decode cX0_init 65 = .ok (.return_, 1) := by decide +kernel
theorem dX0_add_0 : decode cX0_add 0 = .ok (.aload_n 0, 1) := by decide +kernel
theorem dX0_add_1 : decode cX0_add 1 = .ok (.getfield 33, 3) := by decide +kernel
theorem dX0_add_4 : decode cX0_add 4 = .ok (.bipush 100, 2) := by decide +kernel
theorem dX0_add_6 : decode cX0_add 6 = .ok (.if_icmp .lt 6, 3) := by decide +kernel
theorem dX0_add_9 : decode cX0_add 9 = .ok (.bipush (-4), 2) := by decide +kernel
theorem dX0_add_11 : decode cX0_add 11 = .ok (.ireturn, 1) := by decide +kernel
theorem dX0_add_12 : decode cX0_add 12 = .ok (.aload_n 0, 1) := by decide +kernel
theorem dX0_add_13 : decode cX0_add 13 = .ok (.getfield 9, 3) := by decide +kernel
theorem dX0_add_16 : decode cX0_add 16 = .ok (.aload_n 0, 1) := by decide +kernel
theorem dX0_add_17 : decode cX0_add 17 = .ok (.getfield 33, 3) := by decide +kernel
theorem dX0_add_20 : decode cX0_add 20 = .ok (.iload_n 1, 1) := by decide +kernel
theorem dX0_add_21 : decode cX0_add 21 = .ok (.iastore, 1) := by decide +kernel
theorem dX0_add_22 : decode cX0_add 22 = .ok (.aload_n 0, 1) := by decide +kernel
theorem dX0_add_23 : decode cX0_add 23 = .ok (.getfield 15, 3) := by decide +kernel
theorem dX0_add_26 : decode cX0_add 26 = .ok (.aload_n 0, 1) := by decide +kernel
theorem dX0_add_27 : decode cX0_add 27 = .ok (.getfield 33, 3) := by decide +kernel
theorem dX0_add_30 : decode cX0_add 30 = .ok (.iload_n 2, 1) := by decide +kernel
theorem dX0_add_31 : decode cX0_add 31 = .ok (.iastore, 1) := by decide +kernel
theorem dX0_add_32 : decode cX0_add 32 = .ok (.aload_n 0, 1) := by decide +kernel
theorem dX0_add_33 : decode cX0_add 33 = .ok (.getfield 18, 3) := by decide +kernel
theorem dX0_add_36 : decode cX0_add 36 = .ok (.aload_n 0, 1) := by decide +kernel
theorem dX0_add_37 : decode cX0_add 37 = .ok (.getfield 33, 3) := by decide +kernel
theorem dX0_add_40 : decode cX0_add 40 = .ok (.iload_n 3, 1) := by decide +kernel
theorem dX0_add_41 : decode cX0_add 41 = .ok (.iastore, 1) := by decide +kernel
theorem dX0_add_42 : decode cX0_add 42 = .ok (.aload_n 0, 1) := by decide +kernel
theorem dX0_add_43 : decode cX0_add 43 = .ok (.getfield 21, 3) := by decide +kernel
theorem dX0_add_46 : decode cX0_add 46 = .ok (.aload_n 0, 1) := by decide +kernel
theorem dX0_add_47 : decode cX0_add 47 = .ok (.getfield 33, 3) := by decide +kernel
theorem dX0_add_50 : decode cX0_add 50 = .ok (.iload 4, 2) := by decide +kernel
theorem dX0_add_52 : decode cX0_add 52 = .ok (.iastore, 1) := by decide +kernel
theorem dX0_add_53 : decode cX0_add 53 = .ok (.aload_n 0, 1) := by decide +kernel
theorem dX0_add_54 : decode cX0_add 54 = .ok (.getfield 24, 3) := by decide +kernel
theorem dX0_add_57 : decode cX0_add 57 = .ok (.aload_n 0, 1) := by decide +kernel
theorem dX0_add_58 : decode cX0_add 58 = .ok (.getfield 33, 3) := by decide +kernel
theorem dX0_add_61 : decode cX0_add 61 = .ok (.iload 5, 2) := by decide +kernel
theorem dX0_add_63 : decode cX0_add 63 = .ok (.iastore, 1) := by decide +kernel
theorem dX0_add_64 : decode cX0_add 64 = .ok (.aload_n 0, 1) := by decide +kernel
theorem dX0_add_65 : decode cX0_add 65 = .ok (.getfield 27, 3) := by decide +kernel
theorem dX0_add_68 : decode cX0_add 68 = .ok (.aload_n 0, 1) := by decide +kernel
theorem dX0_add_69 : decode cX0_add 69 = .ok (.getfield 33, 3) := by decide +kernel
theorem dX0_add_72 : decode cX0_add 72 = .ok (.iload 6, 2) := by decide +kernel
theorem dX0_add_74 : decode cX0_add 74 = .ok (.iastore, 1) := by decide +kernel
theorem dX0_add_75 : decode cX0_add 75 = .ok (.aload_n 0, 1) := by decide +kernel
theorem dX0_add_76 : decode cX0_add 76 = .ok (.getfield 30, 3) := by decide +kernel
theorem dX0_add_79 : decode cX0_add 79 = .ok (.aload_n 0, 1) := by decide +kernel
theorem dX0_add_80 : decode cX0_add 80 = .ok (.getfield 33, 3) := by decide +kernel
theorem dX0_add_83 : decode cX0_add 83 = .ok (.iload 7, 2) := by decide +kernel
theorem dX0_add_85 : decode cX0_add 85 = .ok (.iastore, 1) := by decide +kernel
theorem dX0_add_86 : decode cX0_add 86 = .ok (.aload_n 0, 1) := by decide +kernel
theorem dX0_add_87 : decode cX0_add 87 = .ok (.dup, 1) := by decide +kernel
theorem dX0_add_88 : decode cX0_add 88 = .ok (.getfield 33, 3) := by decide +kernel
theorem dX0_add_91 : decode cX0_add 91 = .ok (.iconst 1, 1) := by decide +kernel
theorem dX0_add_92 : decode cX0_add 92 = .ok (.iadd, 1) := by decide +kernel
theorem dX0_add_93 : decode cX0_add 93 = .ok (.putfield 33, 3) := by decide +kernel
theorem dX0_add_96 : decode cX0_add 96 = .ok (.iload 7, 2) := by decide +kernel
theorem dX0_add_98 : decode cX0_add 98 = .ok (.ireturn, 1) := by decide +kernel
set_option maxRecDepth 20000 in
theorem ggX0_tell_X0_delay : GoodIn wsX0_tell wsX0_delay := goodIn_r _ [11, 4, 3, 12, 13, 14, 15, 16, 17, 18, 19] (by decide +kernel) (by decide +kernel)
set_option maxRecDepth 20000 in
theorem gX0_tell_X0_delay : GoodIn wsX0_tell (wsV RX0 37 RX0 yX0_delay wsX0_delay) := goodIn_app (goodIn_of _ (by decide +kernel)) ggX0_tell_X0_delay
theorem dX0_tell_0 : decode cX0_tell 0 = .ok (.iload_n 2, 1) := by decide +kernel
theorem dX0_tell_1 : decode cX0_tell 1 = .ok (.tableswitch 81 0 5 #[39, 46, 53, 60, 67, 74], 39) := by decide +kernel
theorem dX0_tell_40 : decode cX0_tell 40 = .ok (.aload_n 0, 1) := by decide +kernel
theorem dX0_tell_41 : decode cX0_tell 41 = .ok (.getfield 9, 3) := by decide +kernel
theorem dX0_tell_44 : decode cX0_tell 44 = .ok (.iload_n 1, 1) := by decide +kernel
theorem dX0_tell_45 : decode cX0_tell 45 = .ok (.iaload, 1) := by decide +kernel
theorem dX0_tell_46 : decode cX0_tell 46 = .ok (.ireturn, 1) := by decide +kernel
theorem dX0_tell_47 : decode cX0_tell 47 = .ok (.aload_n 0, 1) := by decide +kernel
theorem dX0_tell_48 : decode cX0_tell 48 = .ok (.getfield 15, 3) := by decide +kernel
theorem dX0_tell_51 : decode cX0_tell 51 = .ok (.iload_n 1, 1) := by decide +kernel
theorem dX0_tell_52 : decode cX0_tell 52 = .ok (.iaload, 1) := by decide +kernel
theorem dX0_tell_53 : decode cX0_tell 53 = .ok (.ireturn, 1) := by decide +kernel
theorem dX0_tell_54 : decode cX0_tell 54 = .ok (.aload_n 0, 1) := by decide +kernel
theorem dX0_tell_55 : decode cX0_tell 55 = .ok (.getfield 18, 3) := by decide +kernel
theorem dX0_tell_58 : decode cX0_tell 58 = .ok (.iload_n 1, 1) := by decide +kernel
theorem dX0_tell_59 : decode cX0_tell 59 = .ok (.iaload, 1) := by decide +kernel
theorem dX0_tell_60 : decode cX0_tell 60 = .ok (.ireturn, 1) := by decide +kernel
theorem dX0_tell_61 : decode cX0_tell 61 = .ok (.aload_n 0, 1) := by decide +kernel
theorem dX0_tell_62 : decode cX0_tell 62 = .ok (.getfield 21, 3) := by decide +kernel
theorem dX0_tell_65 : decode cX0_tell 65 = .ok (.iload_n 1, 1) := by decide +kernel
theorem dX0_tell_66 : decode cX0_tell 66 = .ok (.iaload, 1) := by decide +kernel
theorem dX0_tell_67 : decode cX0_tell 67 = .ok (.ireturn, 1) := by decide +kernel
theorem dX0_tell_68 : decode cX0_tell 68 = .ok (.aload_n 0, 1) := by decide +kernel
theorem dX0_tell_69 : decode cX0_tell 69 = .ok (.getfield 24, 3) := by decide +kernel
theorem dX0_tell_72 : decode cX0_tell 72 = .ok (.iload_n 1, 1) := by decide +kernel
theorem dX0_tell_73 : decode cX0_tell 73 = .ok (.iaload, 1) := by decide +kernel
theorem dX0_tell_74 : decode cX0_tell 74 = .ok (.ireturn, 1) := by decide +kernel
theorem dX0_tell_75 : decode cX0_tell 75 = .ok (.aload_n 0, 1) := by decide +kernel
theorem dX0_tell_76 : decode cX0_tell 76 = .ok (.getfield 30, 3) := by decide +kernel
theorem dX0_tell_79 : decode cX0_tell 79 = .ok (.iload_n 1, 1) := by decide +kernel
theorem dX0_tell_80 : decode cX0_tell 80 = .ok (.iaload, 1) := by decide +kernel
theorem dX0_tell_81 : decode cX0_tell 81 = .ok (.ireturn, 1) := by decide +kernel
theorem dX0_tell_82 : decode cX0_tell 82 = .ok (.aload_n 0, 1) := by decide +kernel
theorem dX0_tell_83 : decode cX0_tell 83 = .ok (.iload_n 1, 1) := by decide +kernel
theorem dX0_tell_84 : decode cX0_tell 84 = .ok (.invokevirtual 37, 3) := by decide +kernel
theorem dX0_tell_87 : decode cX0_tell 87 = .ok (.ireturn, 1) := by decide +kernel
theorem dX0_delay_0 : decode cX0_delay 0 = .ok (.aload_n 0, 1) := by decide +kernel
theorem dX0_delay_1 : decode cX0_delay 1 = .ok (.getfield 21, 3) := by decide +kernel
theorem dX0_delay_4 : decode cX0_delay 4 = .ok (.iload_n 1, 1) := by decide +kernel
theorem dX0_delay_5 : decode cX0_delay 5 = .ok (.iaload, 1) := by decide +kernel
theorem dX0_delay_6 : decode cX0_delay 6 = .ok (.aload_n 0, 1) := by decide +kernel
theorem dX0_delay_7 : decode cX0_delay 7 = .ok (.getfield 18, 3) := by decide +kernel
theorem dX0_delay_10 : decode cX0_delay 10 = .ok (.iload_n 1, 1) := by decide +kernel
theorem dX0_delay_11 : decode cX0_delay 11 = .ok (.iaload, 1) := by decide +kernel
theorem dX0_delay_12 : decode cX0_delay 12 = .ok (.isub, 1) := by decide +kernel
theorem dX0_delay_13 : decode cX0_delay 13 = .ok (.ireturn, 1) := by decide +kernel
theorem dX0_isLetBy_0 : decode cX0_isLetBy 0 = .ok (.aload_n 0, 1) := by decide +kernel
theorem dX0_isLetBy_1 : decode cX0_isLetBy 1 = .ok (.getfield 30, 3) := by decide +kernel
theorem dX0_isLetBy_4 : decode cX0_isLetBy 4 = .ok (.iload_n 1, 1) := by decide +kernel
theorem dX0_isLetBy_5 : decode cX0_isLetBy 5 = .ok (.iaload, 1) := by decide +kernel
theorem dX0_isLetBy_6 : decode cX0_isLetBy 6 = .ok (.ifCond .ne 17, 3) := by decide +kernel
theorem dX0_isLetBy_9 : decode cX0_isLetBy 9 = .ok (.aload_n 0, 1) := by decide +kernel
theorem dX0_isLetBy_10 : decode cX0_isLetBy 10 = .ok (.getfield 21, 3) := by decide +kernel
theorem dX0_isLetBy_13 : decode cX0_isLetBy 13 = .ok (.iload_n 1, 1) := by decide +kernel
theorem dX0_isLetBy_14 : decode cX0_isLetBy 14 = .ok (.iaload, 1) := by decide +kernel
theorem dX0_isLetBy_15 : decode cX0_isLetBy 15 = .ok (.iload_n 2, 1) := by decide +kernel
theorem dX0_isLetBy_16 : decode cX0_isLetBy 16 = .ok (.if_icmp .gt 7, 3) := by decide +kernel
theorem dX0_isLetBy_19 : decode cX0_isLetBy 19 = .ok (.iconst 1, 1) := by decide +kernel
theorem dX0_isLetBy_20 : decode cX0_isLetBy 20 = .ok (.goto 4, 3) := by decide +kernel
theorem dX0_isLetBy_23 : decode cX0_isLetBy 23 = .ok (.iconst 0, 1) := by decide +kernel
theorem dX0_isLetBy_24 : decode cX0_isLetBy 24 = .ok (.ireturn, 1) := by decide +kernel
theorem dX0_anyLet_0 : decode cX0_anyLet 0 = .ok (.iconst 0, 1) := by decide +kernel
theorem dX0_anyLet_1 : decode cX0_anyLet 1 = .ok (.istore 5, 2) := by decide +kernel
theorem dX0_anyLet_3 : decode cX0_anyLet 3 = .ok (.iload 5, 2) := by decide +kernel
theorem dX0_anyLet_5 : decode cX0_anyLet 5 = .ok (.aload_n 0, 1) := by decide +kernel
theorem dX0_anyLet_6 : decode cX0_anyLet 6 = .ok (.getfield 33, 3) := by decide +kernel
theorem dX0_anyLet_9 : decode cX0_anyLet 9 = .ok (.if_icmp .ge 78, 3) := by decide +kernel
theorem dX0_anyLet_12 : decode cX0_anyLet 12 = .ok (.aload_n 0, 1) := by decide +kernel
theorem dX0_anyLet_13 : decode cX0_anyLet 13 = .ok (.getfield 9, 3) := by decide +kernel
theorem dX0_anyLet_16 : decode cX0_anyLet 16 = .ok (.iload 5, 2) := by decide +kernel
theorem dX0_anyLet_18 : decode cX0_anyLet 18 = .ok (.iaload, 1) := by decide +kernel
theorem dX0_anyLet_19 : decode cX0_anyLet 19 = .ok (.iload_n 1, 1) := by decide +kernel
theorem dX0_anyLet_20 : decode cX0_anyLet 20 = .ok (.if_icmp .ne 18, 3) := by decide +kernel
theorem dX0_anyLet_23 : decode cX0_anyLet 23 = .ok (.aload_n 0, 1) := by decide +kernel
theorem dX0_anyLet_24 : decode cX0_anyLet 24 = .ok (.getfield 15, 3) := by decide +kernel
theorem dX0_anyLet_27 : decode cX0_anyLet 27 = .ok (.iload 5, 2) := by decide +kernel
theorem dX0_anyLet_29 : decode cX0_anyLet 29 = .ok (.iaload, 1) := by decide +kernel
theorem dX0_anyLet_30 : decode cX0_anyLet 30 = .ok (.iload_n 2, 1) := by decide +kernel
theorem dX0_anyLet_31 : decode cX0_anyLet 31 = .ok (.if_icmp .ne 7, 3) := by decide +kernel
theorem dX0_anyLet_34 : decode cX0_anyLet 34 = .ok (.iconst 1, 1) := by decide +kernel
theorem dX0_anyLet_35 : decode cX0_anyLet 35 = .ok (.goto 4, 3) := by decide +kernel
theorem dX0_anyLet_38 : decode cX0_anyLet 38 = .ok (.iconst 0, 1) := by decide +kernel
theorem dX0_anyLet_39 : decode cX0_anyLet 39 = .ok (.istore 6, 2) := by decide +kernel
theorem dX0_anyLet_41 : decode cX0_anyLet 41 = .ok (.iload 6, 2) := by decide +kernel
theorem dX0_anyLet_43 : decode cX0_anyLet 43 = .ok (.ifCond .eq 38, 3) := by decide +kernel
theorem dX0_anyLet_46 : decode cX0_anyLet 46 = .ok (.aload_n 0, 1) := by decide +kernel
theorem dX0_anyLet_47 : decode cX0_anyLet 47 = .ok (.getfield 30, 3) := by decide +kernel
theorem dX0_anyLet_50 : decode cX0_anyLet 50 = .ok (.iload 5, 2) := by decide +kernel
theorem dX0_anyLet_52 : decode cX0_anyLet 52 = .ok (.iaload, 1) := by decide +kernel
theorem dX0_anyLet_53 : decode cX0_anyLet 53 = .ok (.ifCond .ne 28, 3) := by decide +kernel
theorem dX0_anyLet_56 : decode cX0_anyLet 56 = .ok (.aload_n 0, 1) := by decide +kernel
theorem dX0_anyLet_57 : decode cX0_anyLet 57 = .ok (.getfield 18, 3) := by decide +kernel
theorem dX0_anyLet_60 : decode cX0_anyLet 60 = .ok (.iload 5, 2) := by decide +kernel
theorem dX0_anyLet_62 : decode cX0_anyLet 62 = .ok (.iaload, 1) := by decide +kernel
theorem dX0_anyLet_63 : decode cX0_anyLet 63 = .ok (.iload_n 3, 1) := by decide +kernel
theorem dX0_anyLet_64 : decode cX0_anyLet 64 = .ok (.if_icmp .lt 17, 3) := by decide +kernel
theorem dX0_anyLet_67 : decode cX0_anyLet 67 = .ok (.aload_n 0, 1) := by decide +kernel
theorem dX0_anyLet_68 : decode cX0_anyLet 68 = .ok (.getfield 18, 3) := by decide +kernel
theorem dX0_anyLet_71 : decode cX0_anyLet 71 = .ok (.iload 5, 2) := by decide +kernel
theorem dX0_anyLet_73 : decode cX0_anyLet 73 = .ok (.iaload, 1) := by decide +kernel
theorem dX0_anyLet_74 : decode cX0_anyLet 74 = .ok (.iload 4, 2) := by decide +kernel
theorem dX0_anyLet_76 : decode cX0_anyLet 76 = .ok (.if_icmp .gt 5, 3) := by decide +kernel
theorem dX0_anyLet_79 : decode cX0_anyLet 79 = .ok (.iconst 1, 1) := by decide +kernel
theorem dX0_anyLet_80 : decode cX0_anyLet 80 = .ok (.ireturn, 1) := by decide +kernel
theorem dX0_anyLet_81 : decode cX0_anyLet 81 = .ok (.iinc 5 1, 3) := by decide +kernel
theorem dX0_anyLet_84 : decode cX0_anyLet 84 = .ok (.goto (-81), 3) := by decide +kernel
theorem dX0_anyLet_87 : decode cX0_anyLet 87 = .ok (.iconst 0, 1) := by decide +kernel
theorem dX0_anyLet_88 : decode cX0_anyLet 88 = .ok (.ireturn, 1) := by decide +kernel
set_option maxRecDepth 20000 in
theorem ggX0_letAtAge_X0_isLetBy : GoodIn wsX0_letAtAge wsX0_isLetBy := goodIn_r _ [7, 8, 9, 10, 11, 12, 13, 14, 15, 16, 17] (by decide +kernel) (by decide +kernel)
set_option maxRecDepth 20000 in
theorem gX0_letAtAge_X0_isLetBy : GoodIn wsX0_letAtAge (wsV RX0 41 RX0 yX0_isLetBy wsX0_isLetBy) := goodIn_app (goodIn_of _ (by decide +kernel)) ggX0_letAtAge_X0_isLetBy
theorem dX0_letAtAge_0 : decode cX0_letAtAge 0 = .ok (.iconst 0, 1) := by decide +kernel
theorem dX0_letAtAge_1 : decode cX0_letAtAge 1 = .ok (.istore_n 3, 1) := by decide +kernel
theorem dX0_letAtAge_2 : decode cX0_letAtAge 2 = .ok (.iconst 0, 1) := by decide +kernel
theorem dX0_letAtAge_3 : decode cX0_letAtAge 3 = .ok (.istore 4, 2) := by decide +kernel
theorem dX0_letAtAge_5 : decode cX0_letAtAge 5 = .ok (.iload 4, 2) := by decide +kernel
theorem dX0_letAtAge_7 : decode cX0_letAtAge 7 = .ok (.aload_n 0, 1) := by decide +kernel
theorem dX0_letAtAge_8 : decode cX0_letAtAge 8 = .ok (.getfield 33, 3) := by decide +kernel
theorem dX0_letAtAge_11 : decode cX0_letAtAge 11 = .ok (.if_icmp .ge 33, 3) := by decide +kernel
theorem dX0_letAtAge_14 : decode cX0_letAtAge 14 = .ok (.aload_n 0, 1) := by decide +kernel
theorem dX0_letAtAge_15 : decode cX0_letAtAge 15 = .ok (.iload 4, 2) := by decide +kernel
theorem dX0_letAtAge_17 : decode cX0_letAtAge 17 = .ok (.iload_n 2, 1) := by decide +kernel
theorem dX0_letAtAge_18 : decode cX0_letAtAge 18 = .ok (.invokevirtual 41, 3) := by decide +kernel
theorem dX0_letAtAge_21 : decode cX0_letAtAge 21 = .ok (.ifCond .eq 17, 3) := by decide +kernel
theorem dX0_letAtAge_24 : decode cX0_letAtAge 24 = .ok (.aload_n 0, 1) := by decide +kernel
theorem dX0_letAtAge_25 : decode cX0_letAtAge 25 = .ok (.getfield 27, 3) := by decide +kernel
theorem dX0_letAtAge_28 : decode cX0_letAtAge 28 = .ok (.iload 4, 2) := by decide +kernel
theorem dX0_letAtAge_30 : decode cX0_letAtAge 30 = .ok (.iaload, 1) := by decide +kernel
theorem dX0_letAtAge_31 : decode cX0_letAtAge 31 = .ok (.iload_n 1, 1) := by decide +kernel
theorem dX0_letAtAge_32 : decode cX0_letAtAge 32 = .ok (.if_icmp .ne 6, 3) := by decide +kernel
theorem dX0_letAtAge_35 : decode cX0_letAtAge 35 = .ok (.iinc 3 1, 3) := by decide +kernel
theorem dX0_letAtAge_38 : decode cX0_letAtAge 38 = .ok (.iinc 4 1, 3) := by decide +kernel
theorem dX0_letAtAge_41 : decode cX0_letAtAge 41 = .ok (.goto (-36), 3) := by decide +kernel
theorem dX0_letAtAge_44 : decode cX0_letAtAge 44 = .ok (.iload_n 3, 1) := by decide +kernel
theorem dX0_letAtAge_45 : decode cX0_letAtAge 45 = .ok (.ireturn, 1) := by decide +kernel
set_option maxRecDepth 20000 in
theorem ggX0_letSoldInAtAge_X0_isLetBy : GoodIn wsX0_letSoldInAtAge wsX0_isLetBy := goodIn_r _ [8, 9, 10, 11, 12, 13, 14, 15, 16, 17, 18] (by decide +kernel) (by decide +kernel)
set_option maxRecDepth 20000 in
theorem gX0_letSoldInAtAge_X0_isLetBy : GoodIn wsX0_letSoldInAtAge (wsV RX0 41 RX0 yX0_isLetBy wsX0_isLetBy) := goodIn_app (goodIn_of _ (by decide +kernel)) ggX0_letSoldInAtAge_X0_isLetBy
theorem dX0_letSoldInAtAge_0 : decode cX0_letSoldInAtAge 0 = .ok (.iconst 0, 1) := by decide +kernel
theorem dX0_letSoldInAtAge_1 : decode cX0_letSoldInAtAge 1 = .ok (.istore 4, 2) := by decide +kernel
theorem dX0_letSoldInAtAge_3 : decode cX0_letSoldInAtAge 3 = .ok (.iconst 0, 1) := by decide +kernel
theorem dX0_letSoldInAtAge_4 : decode cX0_letSoldInAtAge 4 = .ok (.istore 5, 2) := by decide +kernel
theorem dX0_letSoldInAtAge_6 : decode cX0_letSoldInAtAge 6 = .ok (.iload 5, 2) := by decide +kernel
theorem dX0_letSoldInAtAge_8 : decode cX0_letSoldInAtAge 8 = .ok (.aload_n 0, 1) := by decide +kernel
theorem dX0_letSoldInAtAge_9 : decode cX0_letSoldInAtAge 9 = .ok (.getfield 33, 3) := by decide +kernel
theorem dX0_letSoldInAtAge_12 : decode cX0_letSoldInAtAge 12 = .ok (.if_icmp .ge 46, 3) := by decide +kernel
theorem dX0_letSoldInAtAge_15 : decode cX0_letSoldInAtAge 15 = .ok (.aload_n 0, 1) := by decide +kernel
theorem dX0_letSoldInAtAge_16 : decode cX0_letSoldInAtAge 16 = .ok (.iload 5, 2) := by decide +kernel
theorem dX0_letSoldInAtAge_18 : decode cX0_letSoldInAtAge 18 = .ok (.iload_n 3, 1) := by decide +kernel
theorem dX0_letSoldInAtAge_19 : decode cX0_letSoldInAtAge 19 = .ok (.invokevirtual 41, 3) := by decide +kernel
theorem dX0_letSoldInAtAge_22 : decode cX0_letSoldInAtAge 22 = .ok (.ifCond .eq 30, 3) := by decide +kernel
theorem dX0_letSoldInAtAge_25 : decode cX0_letSoldInAtAge 25 = .ok (.aload_n 0, 1) := by decide +kernel
theorem dX0_letSoldInAtAge_26 : decode cX0_letSoldInAtAge 26 = .ok (.getfield 27, 3) := by decide +kernel
theorem dX0_letSoldInAtAge_29 : decode cX0_letSoldInAtAge 29 = .ok (.iload 5, 2) := by decide +kernel
theorem dX0_letSoldInAtAge_31 : decode cX0_letSoldInAtAge 31 = .ok (.iaload, 1) := by decide +kernel
theorem dX0_letSoldInAtAge_32 : decode cX0_letSoldInAtAge 32 = .ok (.iload_n 2, 1) := by decide +kernel
theorem dX0_letSoldInAtAge_33 : decode cX0_letSoldInAtAge 33 = .ok (.if_icmp .ne 19, 3) := by decide +kernel
theorem dX0_letSoldInAtAge_36 : decode cX0_letSoldInAtAge 36 = .ok (.aload_n 0, 1) := by decide +kernel
theorem dX0_letSoldInAtAge_37 : decode cX0_letSoldInAtAge 37 = .ok (.getfield 18, 3) := by decide +kernel
theorem dX0_letSoldInAtAge_40 : decode cX0_letSoldInAtAge 40 = .ok (.iload 5, 2) := by decide +kernel
theorem dX0_letSoldInAtAge_42 : decode cX0_letSoldInAtAge 42 = .ok (.iaload, 1) := by decide +kernel
theorem dX0_letSoldInAtAge_43 : decode cX0_letSoldInAtAge 43 = .ok (.iload_n 1, 1) := by decide +kernel
theorem dX0_letSoldInAtAge_44 : decode cX0_letSoldInAtAge 44 = .ok (.iload_n 2, 1) := by decide +kernel
theorem dX0_letSoldInAtAge_45 : decode cX0_letSoldInAtAge 45 = .ok (.iadd, 1) := by decide +kernel
theorem dX0_letSoldInAtAge_46 : decode cX0_letSoldInAtAge 46 = .ok (.if_icmp .ne 6, 3) := by decide +kernel
theorem dX0_letSoldInAtAge_49 : decode cX0_letSoldInAtAge 49 = .ok (.iinc 4 1, 3) := by decide +kernel
theorem dX0_letSoldInAtAge_52 : decode cX0_letSoldInAtAge 52 = .ok (.iinc 5 1, 3) := by decide +kernel
theorem dX0_letSoldInAtAge_55 : decode cX0_letSoldInAtAge 55 = .ok (.goto (-49), 3) := by decide +kernel
theorem dX0_letSoldInAtAge_58 : decode cX0_letSoldInAtAge 58 = .ok (.iload 4, 2) := by decide +kernel
theorem dX0_letSoldInAtAge_60 : decode cX0_letSoldInAtAge 60 = .ok (.ireturn, 1) := by decide +kernel
set_option maxRecDepth 20000 in
theorem ggX0_letFailedIn_X0_isLetBy : GoodIn wsX0_letFailedIn wsX0_isLetBy := goodIn_r _ [7, 8, 9, 10, 11, 12, 13, 14, 15, 16, 17] (by decide +kernel) (by decide +kernel)
set_option maxRecDepth 20000 in
theorem gX0_letFailedIn_X0_isLetBy : GoodIn wsX0_letFailedIn (wsV RX0 41 RX0 yX0_isLetBy wsX0_isLetBy) := goodIn_app (goodIn_of _ (by decide +kernel)) ggX0_letFailedIn_X0_isLetBy
theorem dX0_letFailedIn_0 : decode cX0_letFailedIn 0 = .ok (.iconst 0, 1) := by decide +kernel
theorem dX0_letFailedIn_1 : decode cX0_letFailedIn 1 = .ok (.istore_n 3, 1) := by decide +kernel
theorem dX0_letFailedIn_2 : decode cX0_letFailedIn 2 = .ok (.iconst 0, 1) := by decide +kernel
theorem dX0_letFailedIn_3 : decode cX0_letFailedIn 3 = .ok (.istore 4, 2) := by decide +kernel
theorem dX0_letFailedIn_5 : decode cX0_letFailedIn 5 = .ok (.iload 4, 2) := by decide +kernel
theorem dX0_letFailedIn_7 : decode cX0_letFailedIn 7 = .ok (.aload_n 0, 1) := by decide +kernel
theorem dX0_letFailedIn_8 : decode cX0_letFailedIn 8 = .ok (.getfield 33, 3) := by decide +kernel
theorem dX0_letFailedIn_11 : decode cX0_letFailedIn 11 = .ok (.if_icmp .ge 33, 3) := by decide +kernel
theorem dX0_letFailedIn_14 : decode cX0_letFailedIn 14 = .ok (.aload_n 0, 1) := by decide +kernel
theorem dX0_letFailedIn_15 : decode cX0_letFailedIn 15 = .ok (.iload 4, 2) := by decide +kernel
theorem dX0_letFailedIn_17 : decode cX0_letFailedIn 17 = .ok (.iload_n 2, 1) := by decide +kernel
theorem dX0_letFailedIn_18 : decode cX0_letFailedIn 18 = .ok (.invokevirtual 41, 3) := by decide +kernel
theorem dX0_letFailedIn_21 : decode cX0_letFailedIn 21 = .ok (.ifCond .eq 17, 3) := by decide +kernel
theorem dX0_letFailedIn_24 : decode cX0_letFailedIn 24 = .ok (.aload_n 0, 1) := by decide +kernel
theorem dX0_letFailedIn_25 : decode cX0_letFailedIn 25 = .ok (.getfield 18, 3) := by decide +kernel
theorem dX0_letFailedIn_28 : decode cX0_letFailedIn 28 = .ok (.iload 4, 2) := by decide +kernel
theorem dX0_letFailedIn_30 : decode cX0_letFailedIn 30 = .ok (.iaload, 1) := by decide +kernel
theorem dX0_letFailedIn_31 : decode cX0_letFailedIn 31 = .ok (.iload_n 1, 1) := by decide +kernel
theorem dX0_letFailedIn_32 : decode cX0_letFailedIn 32 = .ok (.if_icmp .ne 6, 3) := by decide +kernel
theorem dX0_letFailedIn_35 : decode cX0_letFailedIn 35 = .ok (.iinc 3 1, 3) := by decide +kernel
theorem dX0_letFailedIn_38 : decode cX0_letFailedIn 38 = .ok (.iinc 4 1, 3) := by decide +kernel
theorem dX0_letFailedIn_41 : decode cX0_letFailedIn 41 = .ok (.goto (-36), 3) := by decide +kernel
theorem dX0_letFailedIn_44 : decode cX0_letFailedIn 44 = .ok (.iload_n 3, 1) := by decide +kernel
theorem dX0_letFailedIn_45 : decode cX0_letFailedIn 45 = .ok (.ireturn, 1) := by decide +kernel
set_option maxRecDepth 20000 in
theorem ggX0_letDelayed_X0_isLetBy : GoodIn wsX0_letDelayed wsX0_isLetBy := goodIn_r _ [7, 8, 9, 14, 15, 16, 17, 18, 19, 20, 21] (by decide +kernel) (by decide +kernel)
set_option maxRecDepth 20000 in
theorem gX0_letDelayed_X0_isLetBy : GoodIn wsX0_letDelayed (wsV RX0 41 RX0 yX0_isLetBy wsX0_isLetBy) := goodIn_app (goodIn_of _ (by decide +kernel)) ggX0_letDelayed_X0_isLetBy
set_option maxRecDepth 20000 in
theorem ggX0_letDelayed_X0_delay : GoodIn wsX0_letDelayed wsX0_delay := goodIn_r _ [13, 9, 2, 14, 15, 16, 17, 18, 19, 20, 21] (by decide +kernel) (by decide +kernel)
set_option maxRecDepth 20000 in
theorem gX0_letDelayed_X0_delay : GoodIn wsX0_letDelayed (wsV RX0 37 RX0 yX0_delay wsX0_delay) := goodIn_app (goodIn_of _ (by decide +kernel)) ggX0_letDelayed_X0_delay
theorem dX0_letDelayed_0 : decode cX0_letDelayed 0 = .ok (.iconst 0, 1) := by decide +kernel
theorem dX0_letDelayed_1 : decode cX0_letDelayed 1 = .ok (.istore 4, 2) := by decide +kernel
theorem dX0_letDelayed_3 : decode cX0_letDelayed 3 = .ok (.iconst 0, 1) := by decide +kernel
theorem dX0_letDelayed_4 : decode cX0_letDelayed 4 = .ok (.istore 5, 2) := by decide +kernel
theorem dX0_letDelayed_6 : decode cX0_letDelayed 6 = .ok (.iload 5, 2) := by decide +kernel
theorem dX0_letDelayed_8 : decode cX0_letDelayed 8 = .ok (.aload_n 0, 1) := by decide +kernel
theorem dX0_letDelayed_9 : decode cX0_letDelayed 9 = .ok (.getfield 33, 3) := by decide +kernel
theorem dX0_letDelayed_12 : decode cX0_letDelayed 12 = .ok (.if_icmp .ge 68, 3) := by decide +kernel
theorem dX0_letDelayed_15 : decode cX0_letDelayed 15 = .ok (.aload_n 0, 1) := by decide +kernel
theorem dX0_letDelayed_16 : decode cX0_letDelayed 16 = .ok (.getfield 18, 3) := by decide +kernel
theorem dX0_letDelayed_19 : decode cX0_letDelayed 19 = .ok (.iload 5, 2) := by decide +kernel
theorem dX0_letDelayed_21 : decode cX0_letDelayed 21 = .ok (.iaload, 1) := by decide +kernel
theorem dX0_letDelayed_22 : decode cX0_letDelayed 22 = .ok (.iload_n 3, 1) := by decide +kernel
theorem dX0_letDelayed_23 : decode cX0_letDelayed 23 = .ok (.bipush 11, 2) := by decide +kernel
theorem dX0_letDelayed_25 : decode cX0_letDelayed 25 = .ok (.isub, 1) := by decide +kernel
theorem dX0_letDelayed_26 : decode cX0_letDelayed 26 = .ok (.if_icmp .gt 7, 3) := by decide +kernel
theorem dX0_letDelayed_29 : decode cX0_letDelayed 29 = .ok (.iconst 1, 1) := by decide +kernel
theorem dX0_letDelayed_30 : decode cX0_letDelayed 30 = .ok (.goto 4, 3) := by decide +kernel
theorem dX0_letDelayed_33 : decode cX0_letDelayed 33 = .ok (.iconst 0, 1) := by decide +kernel
theorem dX0_letDelayed_34 : decode cX0_letDelayed 34 = .ok (.istore 6, 2) := by decide +kernel
theorem dX0_letDelayed_36 : decode cX0_letDelayed 36 = .ok (.iload 6, 2) := by decide +kernel
theorem dX0_letDelayed_38 : decode cX0_letDelayed 38 = .ok (.ifCond .eq 36, 3) := by decide +kernel
theorem dX0_letDelayed_41 : decode cX0_letDelayed 41 = .ok (.aload_n 0, 1) := by decide +kernel
theorem dX0_letDelayed_42 : decode cX0_letDelayed 42 = .ok (.iload 5, 2) := by decide +kernel
theorem dX0_letDelayed_44 : decode cX0_letDelayed 44 = .ok (.iload_n 3, 1) := by decide +kernel
theorem dX0_letDelayed_45 : decode cX0_letDelayed 45 = .ok (.invokevirtual 41, 3) := by decide +kernel
theorem dX0_letDelayed_48 : decode cX0_letDelayed 48 = .ok (.ifCond .eq 26, 3) := by decide +kernel
theorem dX0_letDelayed_51 : decode cX0_letDelayed 51 = .ok (.aload_n 0, 1) := by decide +kernel
theorem dX0_letDelayed_52 : decode cX0_letDelayed 52 = .ok (.iload 5, 2) := by decide +kernel
theorem dX0_letDelayed_54 : decode cX0_letDelayed 54 = .ok (.invokevirtual 37, 3) := by decide +kernel
theorem dX0_letDelayed_57 : decode cX0_letDelayed 57 = .ok (.iload_n 1, 1) := by decide +kernel
theorem dX0_letDelayed_58 : decode cX0_letDelayed 58 = .ok (.if_icmp .lt 16, 3) := by decide +kernel
theorem dX0_letDelayed_61 : decode cX0_letDelayed 61 = .ok (.aload_n 0, 1) := by decide +kernel
theorem dX0_letDelayed_62 : decode cX0_letDelayed 62 = .ok (.iload 5, 2) := by decide +kernel
theorem dX0_letDelayed_64 : decode cX0_letDelayed 64 = .ok (.invokevirtual 37, 3) := by decide +kernel
theorem dX0_letDelayed_67 : decode cX0_letDelayed 67 = .ok (.iload_n 2, 1) := by decide +kernel
theorem dX0_letDelayed_68 : decode cX0_letDelayed 68 = .ok (.if_icmp .gt 6, 3) := by decide +kernel
theorem dX0_letDelayed_71 : decode cX0_letDelayed 71 = .ok (.iinc 4 1, 3) := by decide +kernel
theorem dX0_letDelayed_74 : decode cX0_letDelayed 74 = .ok (.iinc 5 1, 3) := by decide +kernel
theorem dX0_letDelayed_77 : decode cX0_letDelayed 77 = .ok (.goto (-71), 3) := by decide +kernel
theorem dX0_letDelayed_80 : decode cX0_letDelayed 80 = .ok (.iload 4, 2) := by decide +kernel
theorem dX0_letDelayed_82 : decode cX0_letDelayed 82 = .ok (.ireturn, 1) := by decide +kernel
set_option maxRecDepth 20000 in
theorem ggX0_thingsLetFor_X0_isLetBy : GoodIn wsX0_thingsLetFor wsX0_isLetBy := goodIn_r _ [8, 9, 10, 14, 15, 16, 17, 18, 19, 20, 21] (by decide +kernel) (by decide +kernel)
set_option maxRecDepth 20000 in
theorem gX0_thingsLetFor_X0_isLetBy : GoodIn wsX0_thingsLetFor (wsV RX0 41 RX0 yX0_isLetBy wsX0_isLetBy) := goodIn_app (goodIn_of _ (by decide +kernel)) ggX0_thingsLetFor_X0_isLetBy
set_option maxRecDepth 20000 in
theorem ggX0_thingsLetFor_X4_hasBit : GoodIn wsX0_thingsLetFor wsX4_hasBit := goodIn_r _ [13] (by decide +kernel) (by decide +kernel)
set_option maxRecDepth 20000 in
theorem gX0_thingsLetFor_X4_hasBit_n45 : GoodIn wsX0_thingsLetFor (wsX4_hasBit) := ggX0_thingsLetFor_X4_hasBit
theorem dX0_thingsLetFor_0 : decode cX0_thingsLetFor 0 = .ok (.lconst 0, 1) := by decide +kernel
theorem dX0_thingsLetFor_1 : decode cX0_thingsLetFor 1 = .ok (.lstore_n 3, 1) := by decide +kernel
theorem dX0_thingsLetFor_2 : decode cX0_thingsLetFor 2 = .ok (.iconst 0, 1) := by decide +kernel
theorem dX0_thingsLetFor_3 : decode cX0_thingsLetFor 3 = .ok (.istore 5, 2) := by decide +kernel
theorem dX0_thingsLetFor_5 : decode cX0_thingsLetFor 5 = .ok (.iload 5, 2) := by decide +kernel
theorem dX0_thingsLetFor_7 : decode cX0_thingsLetFor 7 = .ok (.aload_n 0, 1) := by decide +kernel
theorem dX0_thingsLetFor_8 : decode cX0_thingsLetFor 8 = .ok (.getfield 33, 3) := by decide +kernel
theorem dX0_thingsLetFor_11 : decode cX0_thingsLetFor 11 = .ok (.if_icmp .ge 46, 3) := by decide +kernel
theorem dX0_thingsLetFor_14 : decode cX0_thingsLetFor 14 = .ok (.aload_n 0, 1) := by decide +kernel
theorem dX0_thingsLetFor_15 : decode cX0_thingsLetFor 15 = .ok (.iload 5, 2) := by decide +kernel
theorem dX0_thingsLetFor_17 : decode cX0_thingsLetFor 17 = .ok (.iload_n 2, 1) := by decide +kernel
theorem dX0_thingsLetFor_18 : decode cX0_thingsLetFor 18 = .ok (.invokevirtual 41, 3) := by decide +kernel
theorem dX0_thingsLetFor_21 : decode cX0_thingsLetFor 21 = .ok (.ifCond .eq 30, 3) := by decide +kernel
theorem dX0_thingsLetFor_24 : decode cX0_thingsLetFor 24 = .ok (.iload_n 1, 1) := by decide +kernel
theorem dX0_thingsLetFor_25 : decode cX0_thingsLetFor 25 = .ok (.i2l, 1) := by decide +kernel
theorem dX0_thingsLetFor_26 : decode cX0_thingsLetFor 26 = .ok (.aload_n 0, 1) := by decide +kernel
theorem dX0_thingsLetFor_27 : decode cX0_thingsLetFor 27 = .ok (.getfield 15, 3) := by decide +kernel
theorem dX0_thingsLetFor_30 : decode cX0_thingsLetFor 30 = .ok (.iload 5, 2) := by decide +kernel
theorem dX0_thingsLetFor_32 : decode cX0_thingsLetFor 32 = .ok (.iaload, 1) := by decide +kernel
theorem dX0_thingsLetFor_33 : decode cX0_thingsLetFor 33 = .ok (.invokestatic 45, 3) := by decide +kernel
theorem dX0_thingsLetFor_36 : decode cX0_thingsLetFor 36 = .ok (.ifCond .eq 15, 3) := by decide +kernel
theorem dX0_thingsLetFor_39 : decode cX0_thingsLetFor 39 = .ok (.lload_n 3, 1) := by decide +kernel
theorem dX0_thingsLetFor_40 : decode cX0_thingsLetFor 40 = .ok (.lconst 1, 1) := by decide +kernel
theorem dX0_thingsLetFor_41 : decode cX0_thingsLetFor 41 = .ok (.aload_n 0, 1) := by decide +kernel
theorem dX0_thingsLetFor_42 : decode cX0_thingsLetFor 42 = .ok (.getfield 9, 3) := by decide +kernel
theorem dX0_thingsLetFor_45 : decode cX0_thingsLetFor 45 = .ok (.iload 5, 2) := by decide +kernel
theorem dX0_thingsLetFor_47 : decode cX0_thingsLetFor 47 = .ok (.iaload, 1) := by decide +kernel
theorem dX0_thingsLetFor_48 : decode cX0_thingsLetFor 48 = .ok (.lshl, 1) := by decide +kernel
theorem dX0_thingsLetFor_49 : decode cX0_thingsLetFor 49 = .ok (.lor, 1) := by decide +kernel
theorem dX0_thingsLetFor_50 : decode cX0_thingsLetFor 50 = .ok (.lstore_n 3, 1) := by decide +kernel
theorem dX0_thingsLetFor_51 : decode cX0_thingsLetFor 51 = .ok (.iinc 5 1, 3) := by decide +kernel
theorem dX0_thingsLetFor_54 : decode cX0_thingsLetFor 54 = .ok (.goto (-49), 3) := by decide +kernel
theorem dX0_thingsLetFor_57 : decode cX0_thingsLetFor 57 = .ok (.lload_n 3, 1) := by decide +kernel
theorem dX0_thingsLetFor_58 : decode cX0_thingsLetFor 58 = .ok (.lreturn, 1) := by decide +kernel
theorem dX0_judgedAs_0 : decode cX0_judgedAs 0 = .ok (.iconst 0, 1) := by decide +kernel
theorem dX0_judgedAs_1 : decode cX0_judgedAs 1 = .ok (.istore_n 2, 1) := by decide +kernel
theorem dX0_judgedAs_2 : decode cX0_judgedAs 2 = .ok (.iconst 0, 1) := by decide +kernel
theorem dX0_judgedAs_3 : decode cX0_judgedAs 3 = .ok (.istore_n 3, 1) := by decide +kernel
theorem dX0_judgedAs_4 : decode cX0_judgedAs 4 = .ok (.iload_n 3, 1) := by decide +kernel
theorem dX0_judgedAs_5 : decode cX0_judgedAs 5 = .ok (.aload_n 0, 1) := by decide +kernel
theorem dX0_judgedAs_6 : decode cX0_judgedAs 6 = .ok (.getfield 33, 3) := by decide +kernel
theorem dX0_judgedAs_9 : decode cX0_judgedAs 9 = .ok (.if_icmp .ge 22, 3) := by decide +kernel
theorem dX0_judgedAs_12 : decode cX0_judgedAs 12 = .ok (.aload_n 0, 1) := by decide +kernel
theorem dX0_judgedAs_13 : decode cX0_judgedAs 13 = .ok (.getfield 30, 3) := by decide +kernel
theorem dX0_judgedAs_16 : decode cX0_judgedAs 16 = .ok (.iload_n 3, 1) := by decide +kernel
theorem dX0_judgedAs_17 : decode cX0_judgedAs 17 = .ok (.iaload, 1) := by decide +kernel
theorem dX0_judgedAs_18 : decode cX0_judgedAs 18 = .ok (.iload_n 1, 1) := by decide +kernel
theorem dX0_judgedAs_19 : decode cX0_judgedAs 19 = .ok (.if_icmp .ne 6, 3) := by decide +kernel
theorem dX0_judgedAs_22 : decode cX0_judgedAs 22 = .ok (.iinc 2 1, 3) := by decide +kernel
theorem dX0_judgedAs_25 : decode cX0_judgedAs 25 = .ok (.iinc 3 1, 3) := by decide +kernel
theorem dX0_judgedAs_28 : decode cX0_judgedAs 28 = .ok (.goto (-24), 3) := by decide +kernel
theorem dX0_judgedAs_31 : decode cX0_judgedAs 31 = .ok (.iload_n 2, 1) := by decide +kernel
theorem dX0_judgedAs_32 : decode cX0_judgedAs 32 = .ok (.ireturn, 1) := by decide +kernel
theorem dX0_letCost_0 : decode cX0_letCost 0 = .ok (.iconst 0, 1) := by decide +kernel
theorem dX0_letCost_1 : decode cX0_letCost 1 = .ok (.istore_n 1, 1) := by decide +kernel
theorem dX0_letCost_2 : decode cX0_letCost 2 = .ok (.iconst 0, 1) := by decide +kernel
theorem dX0_letCost_3 : decode cX0_letCost 3 = .ok (.istore_n 2, 1) := by decide +kernel
theorem dX0_letCost_4 : decode cX0_letCost 4 = .ok (.iload_n 2, 1) := by decide +kernel
theorem dX0_letCost_5 : decode cX0_letCost 5 = .ok (.aload_n 0, 1) := by decide +kernel
theorem dX0_letCost_6 : decode cX0_letCost 6 = .ok (.getfield 33, 3) := by decide +kernel
theorem dX0_letCost_9 : decode cX0_letCost 9 = .ok (.if_icmp .ge 27, 3) := by decide +kernel
theorem dX0_letCost_12 : decode cX0_letCost 12 = .ok (.aload_n 0, 1) := by decide +kernel
theorem dX0_letCost_13 : decode cX0_letCost 13 = .ok (.getfield 30, 3) := by decide +kernel
theorem dX0_letCost_16 : decode cX0_letCost 16 = .ok (.iload_n 2, 1) := by decide +kernel
theorem dX0_letCost_17 : decode cX0_letCost 17 = .ok (.iaload, 1) := by decide +kernel
theorem dX0_letCost_18 : decode cX0_letCost 18 = .ok (.ifCond .ne 12, 3) := by decide +kernel
theorem dX0_letCost_21 : decode cX0_letCost 21 = .ok (.iload_n 1, 1) := by decide +kernel
theorem dX0_letCost_22 : decode cX0_letCost 22 = .ok (.aload_n 0, 1) := by decide +kernel
theorem dX0_letCost_23 : decode cX0_letCost 23 = .ok (.getfield 24, 3) := by decide +kernel
theorem dX0_letCost_26 : decode cX0_letCost 26 = .ok (.iload_n 2, 1) := by decide +kernel
theorem dX0_letCost_27 : decode cX0_letCost 27 = .ok (.iaload, 1) := by decide +kernel
theorem dX0_letCost_28 : decode cX0_letCost 28 = .ok (.iadd, 1) := by decide +kernel
theorem dX0_letCost_29 : decode cX0_letCost 29 = .ok (.istore_n 1, 1) := by decide +kernel
theorem dX0_letCost_30 : decode cX0_letCost 30 = .ok (.iinc 2 1, 3) := by decide +kernel
theorem dX0_letCost_33 : decode cX0_letCost 33 = .ok (.goto (-29), 3) := by decide +kernel
theorem dX0_letCost_36 : decode cX0_letCost 36 = .ok (.iload_n 1, 1) := by decide +kernel
theorem dX0_letCost_37 : decode cX0_letCost 37 = .ok (.ireturn, 1) := by decide +kernel
set_option maxRecDepth 20000 in
theorem ggX0_digestOnto_X0_tell : GoodIn wsX0_digestOnto wsX0_tell := goodIn_r _ [7, 8, 9, 10, 11, 12, 13, 14, 15, 16, 6, 17, 18, 19, 20, 21, 22, 23, 24, 25] (by decide +kernel) (by decide +kernel)
set_option maxRecDepth 20000 in
theorem gX0_digestOnto_X0_tell : GoodIn wsX0_digestOnto (wsV RX0 51 RX0 yX0_tell wsX0_tell) := goodIn_app (goodIn_of _ (by decide +kernel)) ggX0_digestOnto_X0_tell
theorem dX0_digestOnto_0 : decode cX0_digestOnto 0 = .ok (.lload_n 1, 1) := by decide +kernel
theorem dX0_digestOnto_1 : decode cX0_digestOnto 1 = .ok (.lstore_n 3, 1) := by decide +kernel
theorem dX0_digestOnto_2 : decode cX0_digestOnto 2 = .ok (.iconst 0, 1) := by decide +kernel
theorem dX0_digestOnto_3 : decode cX0_digestOnto 3 = .ok (.istore 5, 2) := by decide +kernel
theorem dX0_digestOnto_5 : decode cX0_digestOnto 5 = .ok (.iload 5, 2) := by decide +kernel
theorem dX0_digestOnto_7 : decode cX0_digestOnto 7 = .ok (.aload_n 0, 1) := by decide +kernel
theorem dX0_digestOnto_8 : decode cX0_digestOnto 8 = .ok (.getfield 33, 3) := by decide +kernel
theorem dX0_digestOnto_11 : decode cX0_digestOnto 11 = .ok (.if_icmp .ge 41, 3) := by decide +kernel
theorem dX0_digestOnto_14 : decode cX0_digestOnto 14 = .ok (.iconst 0, 1) := by decide +kernel
theorem dX0_digestOnto_15 : decode cX0_digestOnto 15 = .ok (.istore 6, 2) := by decide +kernel
theorem dX0_digestOnto_17 : decode cX0_digestOnto 17 = .ok (.iload 6, 2) := by decide +kernel
theorem dX0_digestOnto_19 : decode cX0_digestOnto 19 = .ok (.bipush 6, 2) := by decide +kernel
theorem dX0_digestOnto_21 : decode cX0_digestOnto 21 = .ok (.if_icmp .gt 25, 3) := by decide +kernel
theorem dX0_digestOnto_24 : decode cX0_digestOnto 24 = .ok (.ldc2_w 49, 3) := by decide +kernel
theorem dX0_digestOnto_27 : decode cX0_digestOnto 27 = .ok (.lload_n 3, 1) := by decide +kernel
theorem dX0_digestOnto_28 : decode cX0_digestOnto 28 = .ok (.lmul, 1) := by decide +kernel
theorem dX0_digestOnto_29 : decode cX0_digestOnto 29 = .ok (.aload_n 0, 1) := by decide +kernel
theorem dX0_digestOnto_30 : decode cX0_digestOnto 30 = .ok (.iload 5, 2) := by decide +kernel
theorem dX0_digestOnto_32 : decode cX0_digestOnto 32 = .ok (.iload 6, 2) := by decide +kernel
theorem dX0_digestOnto_34 : decode cX0_digestOnto 34 = .ok (.invokevirtual 51, 3) := by decide +kernel
theorem dX0_digestOnto_37 : decode cX0_digestOnto 37 = .ok (.i2l, 1) := by decide +kernel
theorem dX0_digestOnto_38 : decode cX0_digestOnto 38 = .ok (.ladd, 1) := by decide +kernel
theorem dX0_digestOnto_39 : decode cX0_digestOnto 39 = .ok (.lstore_n 3, 1) := by decide +kernel
theorem dX0_digestOnto_40 : decode cX0_digestOnto 40 = .ok (.iinc 6 1, 3) := by decide +kernel
theorem dX0_digestOnto_43 : decode cX0_digestOnto 43 = .ok (.goto (-26), 3) := by decide +kernel
theorem dX0_digestOnto_46 : decode cX0_digestOnto 46 = .ok (.iinc 5 1, 3) := by decide +kernel
theorem dX0_digestOnto_49 : decode cX0_digestOnto 49 = .ok (.goto (-44), 3) := by decide +kernel
theorem dX0_digestOnto_52 : decode cX0_digestOnto 52 = .ok (.lload_n 3, 1) := by decide +kernel
theorem dX0_digestOnto_53 : decode cX0_digestOnto 53 = .ok (.lreturn, 1) := by decide +kernel
theorem dX1_init_0 : decode cX1_init 0 = .ok (.aload_n 0, 1) := by decide +kernel
theorem dX1_init_1 : decode cX1_init 1 = .ok (.invokespecial 3, 3) := by decide +kernel
theorem dX1_init_4 : decode cX1_init 4 = .ok (.aload_n 0, 1) := by decide +kernel
theorem dX1_init_5 : decode cX1_init 5 = .ok (.bipush 10, 2) := by decide +kernel
theorem dX1_init_7 : decode cX1_init 7 = .ok (.newarray .int, 2) := by decide +kernel
theorem dX1_init_9 : decode cX1_init 9 = .ok (.putfield 9, 3) := by decide +kernel
theorem dX1_init_12 : decode cX1_init 12 = .ok (.aload_n 0, 1) := by decide +kernel
theorem dX1_init_13 : decode cX1_init 13 = .ok (.bipush 10, 2) := by decide +kernel
theorem dX1_init_15 : decode cX1_init 15 = .ok (.newarray .int, 2) := by decide +kernel
theorem dX1_init_17 : decode cX1_init 17 = .ok (.putfield 15, 3) := by decide +kernel
theorem dX1_init_20 : decode cX1_init 20 = .ok (.aload_n 0, 1) := by decide +kernel
theorem dX1_init_21 : decode cX1_init 21 = .ok (.bipush 10, 2) := by decide +kernel
theorem dX1_init_23 : decode cX1_init 23 = .ok (.newarray .int, 2) := by decide +kernel
theorem dX1_init_25 : decode cX1_init 25 = .ok (.putfield 18, 3) := by decide +kernel
theorem dX1_init_28 : decode cX1_init 28 = .ok (.iconst 0, 1) := by decide +kernel
theorem dX1_init_29 : decode cX1_init 29 = .ok (.istore_n 1, 1) := by decide +kernel
theorem dX1_init_30 : decode cX1_init 30 = .ok (.iload_n 1, 1) := by decide +kernel
theorem dX1_init_31 : decode cX1_init 31 = .ok (.bipush 10, 2) := by decide +kernel
theorem dX1_init_33 : decode cX1_init 33 = .ok (.if_icmp .ge 23, 3) := by decide +kernel
theorem dX1_init_36 : decode cX1_init 36 = .ok (.aload_n 0, 1) := by decide +kernel
theorem dX1_init_37 : decode cX1_init 37 = .ok (.getfield 9, 3) := by decide +kernel
theorem dX1_init_40 : decode cX1_init 40 = .ok (.iload_n 1, 1) := by decide +kernel
theorem dX1_init_41 : decode cX1_init 41 = .ok (.iconst (-1), 1) := by decide +kernel
theorem dX1_init_42 : decode cX1_init 42 = .ok (.iastore, 1) := by decide +kernel
theorem dX1_init_43 : decode cX1_init 43 = .ok (.aload_n 0, 1) := by decide +kernel
theorem dX1_init_44 : decode cX1_init 44 = .ok (.getfield 15, 3) := by decide +kernel
theorem dX1_init_47 : decode cX1_init 47 = .ok (.iload_n 1, 1) := by decide +kernel
theorem dX1_init_48 : decode cX1_init 48 = .ok (.iconst (-1), 1) := by decide +kernel
theorem dX1_init_49 : decode cX1_init 49 = .ok (.iastore, 1) := by decide +kernel
theorem dX1_init_50 : decode cX1_init 50 = .ok (.iinc 1 1, 3) := by decide +kernel
theorem dX1_init_53 : decode cX1_init 53 = .ok (.goto (-23), 3) := by decide +kernel
theorem dX1_init_56 : decode cX1_init 56 = .ok (.return_, 1) := by decide +kernel
set_option maxRecDepth 20000 in
theorem ggX1_standsInRowOf_X4_isPart : GoodIn wsX1_standsInRowOf wsX4_isPart := goodIn_r _ [4, 5, 6, 3, 7] (by decide +kernel) (by decide +kernel)
set_option maxRecDepth 20000 in
theorem gX1_standsInRowOf_X4_isPart_n21 : GoodIn wsX1_standsInRowOf (wsX4_isPart) := ggX1_standsInRowOf_X4_isPart
theorem dX1_standsInRowOf_0 : decode cX1_standsInRowOf 0 = .ok (.iload_n 1, 1) := by decide +kernel
theorem dX1_standsInRowOf_1 : decode cX1_standsInRowOf 1 = .ok (.istore_n 3, 1) := by decide +kernel
theorem dX1_standsInRowOf_2 : decode cX1_standsInRowOf 2 = .ok (.iconst 0, 1) := by decide +kernel
theorem dX1_standsInRowOf_3 : decode cX1_standsInRowOf 3 = .ok (.istore 4, 2) := by decide +kernel
theorem dX1_standsInRowOf_5 : decode cX1_standsInRowOf 5 = .ok (.iload 4, 2) := by decide +kernel
theorem dX1_standsInRowOf_7 : decode cX1_standsInRowOf 7 = .ok (.bipush 10, 2) := by decide +kernel
theorem dX1_standsInRowOf_9 : decode cX1_standsInRowOf 9 = .ok (.if_icmp .ge 30, 3) := by decide +kernel
theorem dX1_standsInRowOf_12 : decode cX1_standsInRowOf 12 = .ok (.iload_n 3, 1) := by decide +kernel
theorem dX1_standsInRowOf_13 : decode cX1_standsInRowOf 13 = .ok (.invokestatic 21, 3) := by decide +kernel
theorem dX1_standsInRowOf_16 : decode cX1_standsInRowOf 16 = .ok (.ifCond .eq 23, 3) := by decide +kernel
theorem dX1_standsInRowOf_19 : decode cX1_standsInRowOf 19 = .ok (.iload_n 3, 1) := by decide +kernel
theorem dX1_standsInRowOf_20 : decode cX1_standsInRowOf 20 = .ok (.iload_n 2, 1) := by decide +kernel
theorem dX1_standsInRowOf_21 : decode cX1_standsInRowOf 21 = .ok (.if_icmp .ne 5, 3) := by decide +kernel
theorem dX1_standsInRowOf_24 : decode cX1_standsInRowOf 24 = .ok (.iconst 1, 1) := by decide +kernel
theorem dX1_standsInRowOf_25 : decode cX1_standsInRowOf 25 = .ok (.ireturn, 1) := by decide +kernel
theorem dX1_standsInRowOf_26 : decode cX1_standsInRowOf 26 = .ok (.aload_n 0, 1) := by decide +kernel
theorem dX1_standsInRowOf_27 : decode cX1_standsInRowOf 27 = .ok (.getfield 9, 3) := by decide +kernel
theorem dX1_standsInRowOf_30 : decode cX1_standsInRowOf 30 = .ok (.iload_n 3, 1) := by decide +kernel
theorem dX1_standsInRowOf_31 : decode cX1_standsInRowOf 31 = .ok (.iaload, 1) := by decide +kernel
theorem dX1_standsInRowOf_32 : decode cX1_standsInRowOf 32 = .ok (.istore_n 3, 1) := by decide +kernel
theorem dX1_standsInRowOf_33 : decode cX1_standsInRowOf 33 = .ok (.iinc 4 1, 3) := by decide +kernel
theorem dX1_standsInRowOf_36 : decode cX1_standsInRowOf 36 = .ok (.goto (-31), 3) := by decide +kernel
theorem dX1_standsInRowOf_39 : decode cX1_standsInRowOf 39 = .ok (.iconst 0, 1) := by decide +kernel
theorem dX1_standsInRowOf_40 : decode cX1_standsInRowOf 40 = .ok (.ireturn, 1) := by decide +kernel
set_option maxRecDepth 20000 in
theorem ggX1_withAllUnder_X1_standsInRowOf : GoodIn wsX1_withAllUnder wsX1_standsInRowOf := goodIn_r _ [5, 6, 7, 8, 9, 10, 11, 12, 13, 14, 15] (by decide +kernel) (by decide +kernel)
set_option maxRecDepth 20000 in
theorem gX1_withAllUnder_X1_standsInRowOf : GoodIn wsX1_withAllUnder (wsV RX1 25 RX1 yX1_standsInRowOf wsX1_standsInRowOf) := goodIn_app (goodIn_of _ (by decide +kernel)) ggX1_withAllUnder_X1_standsInRowOf
theorem dX1_withAllUnder_0 : decode cX1_withAllUnder 0 = .ok (.iconst 0, 1) := by decide +kernel
theorem dX1_withAllUnder_1 : decode cX1_withAllUnder 1 = .ok (.istore_n 2, 1) := by decide +kernel
theorem dX1_withAllUnder_2 : decode cX1_withAllUnder 2 = .ok (.iconst 0, 1) := by decide +kernel
theorem dX1_withAllUnder_3 : decode cX1_withAllUnder 3 = .ok (.istore_n 3, 1) := by decide +kernel
theorem dX1_withAllUnder_4 : decode cX1_withAllUnder 4 = .ok (.iload_n 3, 1) := by decide +kernel
theorem dX1_withAllUnder_5 : decode cX1_withAllUnder 5 = .ok (.bipush 10, 2) := by decide +kernel
theorem dX1_withAllUnder_7 : decode cX1_withAllUnder 7 = .ok (.if_icmp .ge 24, 3) := by decide +kernel
theorem dX1_withAllUnder_10 : decode cX1_withAllUnder 10 = .ok (.aload_n 0, 1) := by decide +kernel
theorem dX1_withAllUnder_11 : decode cX1_withAllUnder 11 = .ok (.iload_n 3, 1) := by decide +kernel
theorem dX1_withAllUnder_12 : decode cX1_withAllUnder 12 = .ok (.iload_n 1, 1) := by decide +kernel
theorem dX1_withAllUnder_13 : decode cX1_withAllUnder 13 = .ok (.invokevirtual 25, 3) := by decide +kernel
theorem dX1_withAllUnder_16 : decode cX1_withAllUnder 16 = .ok (.ifCond .eq 9, 3) := by decide +kernel
theorem dX1_withAllUnder_19 : decode cX1_withAllUnder 19 = .ok (.iload_n 2, 1) := by decide +kernel
theorem dX1_withAllUnder_20 : decode cX1_withAllUnder 20 = .ok (.iconst 1, 1) := by decide +kernel
theorem dX1_withAllUnder_21 : decode cX1_withAllUnder 21 = .ok (.iload_n 3, 1) := by decide +kernel
theorem dX1_withAllUnder_22 : decode cX1_withAllUnder 22 = .ok (.ishl, 1) := by decide +kernel
theorem dX1_withAllUnder_23 : decode cX1_withAllUnder 23 = .ok (.ior, 1) := by decide +kernel
theorem dX1_withAllUnder_24 : decode cX1_withAllUnder 24 = .ok (.istore_n 2, 1) := by decide +kernel
theorem dX1_withAllUnder_25 : decode cX1_withAllUnder 25 = .ok (.iinc 3 1, 3) := by decide +kernel
theorem dX1_withAllUnder_28 : decode cX1_withAllUnder 28 = .ok (.goto (-24), 3) := by decide +kernel
theorem dX1_withAllUnder_31 : decode cX1_withAllUnder 31 = .ok (.iload_n 2, 1) := by decide +kernel
theorem dX1_withAllUnder_32 : decode cX1_withAllUnder 32 = .ok (.ireturn, 1) := by decide +kernel
set_option maxRecDepth 20000 in
theorem ggX1_firstWithMaker_X4_isPart : GoodIn wsX1_firstWithMaker wsX4_isPart := goodIn_r _ [5, 6, 7, 4, 8] (by decide +kernel) (by decide +kernel)
set_option maxRecDepth 20000 in
theorem gX1_firstWithMaker_X4_isPart_n21 : GoodIn wsX1_firstWithMaker (wsX4_isPart) := ggX1_firstWithMaker_X4_isPart
theorem dX1_firstWithMaker_0 : decode cX1_firstWithMaker 0 = .ok (.iload_n 1, 1) := by decide +kernel
theorem dX1_firstWithMaker_1 : decode cX1_firstWithMaker 1 = .ok (.istore_n 2, 1) := by decide +kernel
theorem dX1_firstWithMaker_2 : decode cX1_firstWithMaker 2 = .ok (.iconst 0, 1) := by decide +kernel
theorem dX1_firstWithMaker_3 : decode cX1_firstWithMaker 3 = .ok (.istore_n 3, 1) := by decide +kernel
theorem dX1_firstWithMaker_4 : decode cX1_firstWithMaker 4 = .ok (.iload_n 3, 1) := by decide +kernel
theorem dX1_firstWithMaker_5 : decode cX1_firstWithMaker 5 = .ok (.bipush 10, 2) := by decide +kernel
theorem dX1_firstWithMaker_7 : decode cX1_firstWithMaker 7 = .ok (.if_icmp .ge 35, 3) := by decide +kernel
theorem dX1_firstWithMaker_10 : decode cX1_firstWithMaker 10 = .ok (.iload_n 2, 1) := by decide +kernel
theorem dX1_firstWithMaker_11 : decode cX1_firstWithMaker 11 = .ok (.invokestatic 21, 3) := by decide +kernel
theorem dX1_firstWithMaker_14 : decode cX1_firstWithMaker 14 = .ok (.ifCond .eq 28, 3) := by decide +kernel
theorem dX1_firstWithMaker_17 : decode cX1_firstWithMaker 17 = .ok (.aload_n 0, 1) := by decide +kernel
theorem dX1_firstWithMaker_18 : decode cX1_firstWithMaker 18 = .ok (.getfield 15, 3) := by decide +kernel
theorem dX1_firstWithMaker_21 : decode cX1_firstWithMaker 21 = .ok (.iload_n 2, 1) := by decide +kernel
theorem dX1_firstWithMaker_22 : decode cX1_firstWithMaker 22 = .ok (.iaload, 1) := by decide +kernel
theorem dX1_firstWithMaker_23 : decode cX1_firstWithMaker 23 = .ok (.iconst (-1), 1) := by decide +kernel
theorem dX1_firstWithMaker_24 : decode cX1_firstWithMaker 24 = .ok (.if_icmp .eq 5, 3) := by decide +kernel
theorem dX1_firstWithMaker_27 : decode cX1_firstWithMaker 27 = .ok (.iload_n 2, 1) := by decide +kernel
theorem dX1_firstWithMaker_28 : decode cX1_firstWithMaker 28 = .ok (.ireturn, 1) := by decide +kernel
theorem dX1_firstWithMaker_29 : decode cX1_firstWithMaker 29 = .ok (.aload_n 0, 1) := by decide +kernel
theorem dX1_firstWithMaker_30 : decode cX1_firstWithMaker 30 = .ok (.getfield 9, 3) := by decide +kernel
theorem dX1_firstWithMaker_33 : decode cX1_firstWithMaker 33 = .ok (.iload_n 2, 1) := by decide +kernel
theorem dX1_firstWithMaker_34 : decode cX1_firstWithMaker 34 = .ok (.iaload, 1) := by decide +kernel
theorem dX1_firstWithMaker_35 : decode cX1_firstWithMaker 35 = .ok (.istore_n 2, 1) := by decide +kernel
theorem dX1_firstWithMaker_36 : decode cX1_firstWithMaker 36 = .ok (.iinc 3 1, 3) := by decide +kernel
theorem dX1_firstWithMaker_39 : decode cX1_firstWithMaker 39 = .ok (.goto (-35), 3) := by decide +kernel
theorem dX1_firstWithMaker_42 : decode cX1_firstWithMaker 42 = .ok (.iconst (-1), 1) := by decide +kernel
theorem dX1_firstWithMaker_43 : decode cX1_firstWithMaker 43 = .ok (.ireturn, 1) := by decide +kernel
theorem dX1_digestOnto_0 : decode cX1_digestOnto 0 = .ok (.lload_n 1, 1) := by decide +kernel
theorem dX1_digestOnto_1 : decode cX1_digestOnto 1 = .ok (.lstore_n 3, 1) := by decide +kernel
theorem dX1_digestOnto_2 : decode cX1_digestOnto 2 = .ok (.iconst 0, 1) := by decide +kernel
theorem dX1_digestOnto_3 : decode cX1_digestOnto 3 = .ok (.istore 5, 2) := by decide +kernel
theorem dX1_digestOnto_5 : decode cX1_digestOnto 5 = .ok (.iload 5, 2) := by decide +kernel
theorem dX1_digestOnto_7 : decode cX1_digestOnto 7 = .ok (.bipush 10, 2) := by decide +kernel
theorem dX1_digestOnto_9 : decode cX1_digestOnto 9 = .ok (.if_icmp .ge 54, 3) := by decide +kernel
theorem dX1_digestOnto_12 : decode cX1_digestOnto 12 = .ok (.ldc2_w 29, 3) := by decide +kernel
theorem dX1_digestOnto_15 : decode cX1_digestOnto 15 = .ok (.lload_n 3, 1) := by decide +kernel
theorem dX1_digestOnto_16 : decode cX1_digestOnto 16 = .ok (.lmul, 1) := by decide +kernel
theorem dX1_digestOnto_17 : decode cX1_digestOnto 17 = .ok (.aload_n 0, 1) := by decide +kernel
theorem dX1_digestOnto_18 : decode cX1_digestOnto 18 = .ok (.getfield 9, 3) := by decide +kernel
theorem dX1_digestOnto_21 : decode cX1_digestOnto 21 = .ok (.iload 5, 2) := by decide +kernel
theorem dX1_digestOnto_23 : decode cX1_digestOnto 23 = .ok (.iaload, 1) := by decide +kernel
theorem dX1_digestOnto_24 : decode cX1_digestOnto 24 = .ok (.i2l, 1) := by decide +kernel
theorem dX1_digestOnto_25 : decode cX1_digestOnto 25 = .ok (.ladd, 1) := by decide +kernel
theorem dX1_digestOnto_26 : decode cX1_digestOnto 26 = .ok (.lstore_n 3, 1) := by decide +kernel
theorem dX1_digestOnto_27 : decode cX1_digestOnto 27 = .ok (.ldc2_w 29, 3) := by decide +kernel
theorem dX1_digestOnto_30 : decode cX1_digestOnto 30 = .ok (.lload_n 3, 1) := by decide +kernel
theorem dX1_digestOnto_31 : decode cX1_digestOnto 31 = .ok (.lmul, 1) := by decide +kernel
theorem dX1_digestOnto_32 : decode cX1_digestOnto 32 = .ok (.aload_n 0, 1) := by decide +kernel
theorem dX1_digestOnto_33 : decode cX1_digestOnto 33 = .ok (.getfield 15, 3) := by decide +kernel
theorem dX1_digestOnto_36 : decode cX1_digestOnto 36 = .ok (.iload 5, 2) := by decide +kernel
theorem dX1_digestOnto_38 : decode cX1_digestOnto 38 = .ok (.iaload, 1) := by decide +kernel
theorem dX1_digestOnto_39 : decode cX1_digestOnto 39 = .ok (.i2l, 1) := by decide +kernel
theorem dX1_digestOnto_40 : decode cX1_digestOnto 40 = .ok (.ladd, 1) := by decide +kernel
theorem dX1_digestOnto_41 : decode cX1_digestOnto 41 = .ok (.lstore_n 3, 1) := by decide +kernel
theorem dX1_digestOnto_42 : decode cX1_digestOnto 42 = .ok (.ldc2_w 29, 3) := by decide +kernel
theorem dX1_digestOnto_45 : decode cX1_digestOnto 45 = .ok (.lload_n 3, 1) := by decide +kernel
theorem dX1_digestOnto_46 : decode cX1_digestOnto 46 = .ok (.lmul, 1) := by decide +kernel
theorem dX1_digestOnto_47 : decode cX1_digestOnto 47 = .ok (.aload_n 0, 1) := by decide +kernel
theorem dX1_digestOnto_48 : decode cX1_digestOnto 48 = .ok (.getfield 18, 3) := by decide +kernel
theorem dX1_digestOnto_51 : decode cX1_digestOnto 51 = .ok (.iload 5, 2) := by decide +kernel
theorem dX1_digestOnto_53 : decode cX1_digestOnto 53 = .ok (.iaload, 1) := by decide +kernel
theorem dX1_digestOnto_54 : decode cX1_digestOnto 54 = .ok (.i2l, 1) := by decide +kernel
theorem dX1_digestOnto_55 : decode cX1_digestOnto 55 = .ok (.ladd, 1) := by decide +kernel
theorem dX1_digestOnto_56 : decode cX1_digestOnto 56 = .ok (.lstore_n 3, 1) := by decide +kernel
theorem dX1_digestOnto_57 : decode cX1_digestOnto 57 = .ok (.iinc 5 1, 3) := by decide +kernel
theorem dX1_digestOnto_60 : decode cX1_digestOnto 60 = .ok (.goto (-55), 3) := by decide +kernel
theorem dX1_digestOnto_63 : decode cX1_digestOnto 63 = .ok (.lload_n 3, 1) := by decide +kernel
theorem dX1_digestOnto_64 : decode cX1_digestOnto 64 = .ok (.lreturn, 1) := by decide +kernel
theorem dX2_init_0 : decode cX2_init 0 = .ok (.aload_n 0, 1) := by decide +kernel
theorem dX2_init_1 : decode cX2_init 1 = .ok (.invokespecial 3, 3) := by decide +kernel
theorem dX2_init_4 : decode cX2_init 4 = .ok (.aload_n 0, 1) := by decide +kernel
theorem dX2_init_5 : decode cX2_init 5 = .ok (.bipush 60, 2) := by decide +kernel
theorem dX2_init_7 : decode cX2_init 7 = .ok (.newarray .int, 2) := by decide +kernel
theorem dX2_init_9 : decode cX2_init 9 = .ok (.putfield 9, 3) := by decide +kernel
theorem dX2_init_12 : decode cX2_init 12 = .ok (.aload_n 0, 1) := by decide +kernel
theorem dX2_init_13 : decode cX2_init 13 = .ok (.bipush 60, 2) := by decide +kernel
theorem dX2_init_15 : decode cX2_init 15 = .ok (.newarray .int, 2) := by decide +kernel
theorem dX2_init_17 : decode cX2_init 17 = .ok (.putfield 15, 3) := by decide +kernel
theorem dX2_init_20 : decode cX2_init 20 = .ok (.aload_n 0, 1) := by decide +kernel
theorem dX2_init_21 : decode cX2_init 21 = .ok (.bipush 60, 2) := by decide +kernel
theorem dX2_init_23 : decode cX2_init 23 = .ok (.newarray .int, 2) := by decide +kernel
theorem dX2_init_25 : decode cX2_init 25 = .ok (.putfield 18, 3) := by decide +kernel
theorem dX2_init_28 : decode cX2_init 28 = .ok (.aload_n 0, 1) := by decide +kernel
theorem dX2_init_29 : decode cX2_init 29 = .ok (.bipush 60, 2) := by decide +kernel
theorem dX2_init_31 : decode cX2_init 31 = .ok (.newarray .int, 2) := by decide +kernel
theorem dX2_init_33 : decode cX2_init 33 = .ok (.putfield 21, 3) := by decide +kernel
theorem dX2_init_36 : decode cX2_init 36 = .ok (.aload_n 0, 1) := by decide +kernel
theorem dX2_init_37 : decode cX2_init 37 = .ok (.iconst 4, 1) := by decide +kernel
theorem dX2_init_38 : decode cX2_init 38 = .ok (.newarray .int, 2) := by decide +kernel
theorem dX2_init_40 : decode cX2_init 40 = .ok (.putfield 24, 3) := by decide +kernel
theorem dX2_init_43 : decode cX2_init 43 = .ok (.aload_n 0, 1) := by decide +kernel
theorem dX2_init_44 : decode cX2_init 44 = .ok (.iconst 4, 1) := by decide +kernel
theorem dX2_init_45 : decode cX2_init 45 = .ok (.newarray .int, 2) := by decide +kernel
theorem dX2_init_47 : decode cX2_init 47 = .ok (.putfield 27, 3) := by decide +kernel
theorem dX2_init_50 : decode cX2_init 50 = .ok (.aload_n 0, 1) := by decide +kernel
theorem dX2_init_51 : decode cX2_init 51 = .ok (.iconst 0, 1) := by decide +kernel
theorem dX2_init_52 : decode cX2_init 52 = .ok (.putfield 30, 3) := by decide +kernel
theorem dX2_init_55 : decode cX2_init 55 = .ok (.iconst 0, 1) := by decide +kernel
theorem dX2_init_56 : decode cX2_init 56 = .ok (.istore_n 1, 1) := by decide +kernel
theorem dX2_init_57 : decode cX2_init 57 = .ok (.iload_n 1, 1) := by decide +kernel
theorem dX2_init_58 : decode cX2_init 58 = .ok (.iconst 4, 1) := by decide +kernel
theorem dX2_init_59 : decode cX2_init 59 = .ok (.if_icmp .ge 25, 3) := by decide +kernel
theorem dX2_init_62 : decode cX2_init 62 = .ok (.aload_n 0, 1) := by decide +kernel
theorem dX2_init_63 : decode cX2_init 63 = .ok (.getfield 24, 3) := by decide +kernel
theorem dX2_init_66 : decode cX2_init 66 = .ok (.iload_n 1, 1) := by decide +kernel
theorem dX2_init_67 : decode cX2_init 67 = .ok (.bipush 24, 2) := by decide +kernel
theorem dX2_init_69 : decode cX2_init 69 = .ok (.iastore, 1) := by decide +kernel
theorem dX2_init_70 : decode cX2_init 70 = .ok (.aload_n 0, 1) := by decide +kernel
theorem dX2_init_71 : decode cX2_init 71 = .ok (.getfield 27, 3) := by decide +kernel
theorem dX2_init_74 : decode cX2_init 74 = .ok (.iload_n 1, 1) := by decide +kernel
theorem dX2_init_75 : decode cX2_init 75 = .ok (.ldc 34, 2) := by decide +kernel
theorem dX2_init_77 : decode cX2_init 77 = .ok (.iastore, 1) := by decide +kernel
theorem dX2_init_78 : decode cX2_init 78 = .ok (.iinc 1 1, 3) := by decide +kernel
theorem dX2_init_81 : decode cX2_init 81 = .ok (.goto (-24), 3) := by decide +kernel
theorem dX2_init_84 : decode cX2_init 84 = .ok (.return_, 1) := by decide +kernel
theorem dX2_has_0 : decode cX2_has 0 = .ok (.iload_n 1, 1) := by decide +kernel
theorem dX2_has_1 : decode cX2_has 1 = .ok (.ifCond .lt 15, 3) := by decide +kernel
theorem dX2_has_4 : decode cX2_has 4 = .ok (.iload_n 1, 1) := by decide +kernel
theorem dX2_has_5 : decode cX2_has 5 = .ok (.aload_n 0, 1) := by decide +kernel
theorem dX2_has_6 : decode cX2_has 6 = .ok (.getfield 30, 3) := by decide +kernel
theorem dX2_has_9 : decode cX2_has 9 = .ok (.if_icmp .ge 7, 3) := by decide +kernel
theorem dX2_has_12 : decode cX2_has 12 = .ok (.iconst 1, 1) := by decide +kernel
theorem dX2_has_13 : decode cX2_has 13 = .ok (.goto 4, 3) := by decide +kernel
theorem dX2_has_16 : decode cX2_has 16 = .ok (.iconst 0, 1) := by decide +kernel
theorem dX2_has_17 : decode cX2_has 17 = .ok (.ireturn, 1) := by decide +kernel
theorem dX2_add_0 : decode cX2_add 0 = .ok (.aload_n 0, 1) := by decide +kernel
theorem dX2_add_1 : decode cX2_add 1 = .ok (.getfield 30, 3) := by decide +kernel
theorem dX2_add_4 : decode cX2_add 4 = .ok (.bipush 60, 2) := by decide +kernel
theorem dX2_add_6 : decode cX2_add 6 = .ok (.if_icmp .lt 6, 3) := by decide +kernel
theorem dX2_add_9 : decode cX2_add 9 = .ok (.bipush (-4), 2) := by decide +kernel
theorem dX2_add_11 : decode cX2_add 11 = .ok (.ireturn, 1) := by decide +kernel
theorem dX2_add_12 : decode cX2_add 12 = .ok (.aload_n 0, 1) := by decide +kernel
theorem dX2_add_13 : decode cX2_add 13 = .ok (.getfield 30, 3) := by decide +kernel
theorem dX2_add_16 : decode cX2_add 16 = .ok (.istore 5, 2) := by decide +kernel
theorem dX2_add_18 : decode cX2_add 18 = .ok (.aload_n 0, 1) := by decide +kernel
theorem dX2_add_19 : decode cX2_add 19 = .ok (.getfield 9, 3) := by decide +kernel
theorem dX2_add_22 : decode cX2_add 22 = .ok (.iload 5, 2) := by decide +kernel
theorem dX2_add_24 : decode cX2_add 24 = .ok (.iload_n 1, 1) := by decide +kernel
theorem dX2_add_25 : decode cX2_add 25 = .ok (.iastore, 1) := by decide +kernel
theorem dX2_add_26 : decode cX2_add 26 = .ok (.aload_n 0, 1) := by decide +kernel
theorem dX2_add_27 : decode cX2_add 27 = .ok (.getfield 15, 3) := by decide +kernel
theorem dX2_add_30 : decode cX2_add 30 = .ok (.iload 5, 2) := by decide +kernel
theorem dX2_add_32 : decode cX2_add 32 = .ok (.iload_n 2, 1) := by decide +kernel
theorem dX2_add_33 : decode cX2_add 33 = .ok (.iastore, 1) := by decide +kernel
theorem dX2_add_34 : decode cX2_add 34 = .ok (.aload_n 0, 1) := by decide +kernel
theorem dX2_add_35 : decode cX2_add 35 = .ok (.getfield 18, 3) := by decide +kernel
theorem dX2_add_38 : decode cX2_add 38 = .ok (.iload 5, 2) := by decide +kernel
theorem dX2_add_40 : decode cX2_add 40 = .ok (.iload_n 3, 1) := by decide +kernel
theorem dX2_add_41 : decode cX2_add 41 = .ok (.iastore, 1) := by decide +kernel
theorem dX2_add_42 : decode cX2_add 42 = .ok (.aload_n 0, 1) := by decide +kernel
theorem dX2_add_43 : decode cX2_add 43 = .ok (.getfield 21, 3) := by decide +kernel
theorem dX2_add_46 : decode cX2_add 46 = .ok (.iload 5, 2) := by decide +kernel
theorem dX2_add_48 : decode cX2_add 48 = .ok (.iload 4, 2) := by decide +kernel
theorem dX2_add_50 : decode cX2_add 50 = .ok (.iastore, 1) := by decide +kernel
theorem dX2_add_51 : decode cX2_add 51 = .ok (.aload_n 0, 1) := by decide +kernel
theorem dX2_add_52 : decode cX2_add 52 = .ok (.dup, 1) := by decide +kernel
theorem dX2_add_53 : decode cX2_add 53 = .ok (.getfield 30, 3) := by decide +kernel
theorem dX2_add_56 : decode cX2_add 56 = .ok (.iconst 1, 1) := by decide +kernel
theorem dX2_add_57 : decode cX2_add 57 = .ok (.iadd, 1) := by decide +kernel
theorem dX2_add_58 : decode cX2_add 58 = .ok (.putfield 30, 3) := by decide +kernel
theorem dX2_add_61 : decode cX2_add 61 = .ok (.iload 5, 2) := by decide +kernel
theorem dX2_add_63 : decode cX2_add 63 = .ok (.ireturn, 1) := by decide +kernel
theorem dX2_covers_0 : decode cX2_covers 0 = .ok (.iload_n 2, 1) := by decide +kernel
theorem dX2_covers_1 : decode cX2_covers 1 = .ok (.aload_n 0, 1) := by decide +kernel
theorem dX2_covers_2 : decode cX2_covers 2 = .ok (.getfield 15, 3) := by decide +kernel
theorem dX2_covers_5 : decode cX2_covers 5 = .ok (.iload_n 1, 1) := by decide +kernel
theorem dX2_covers_6 : decode cX2_covers 6 = .ok (.iaload, 1) := by decide +kernel
theorem dX2_covers_7 : decode cX2_covers 7 = .ok (.isub, 1) := by decide +kernel
theorem dX2_covers_8 : decode cX2_covers 8 = .ok (.istore_n 3, 1) := by decide +kernel
theorem dX2_covers_9 : decode cX2_covers 9 = .ok (.iload_n 3, 1) := by decide +kernel
theorem dX2_covers_10 : decode cX2_covers 10 = .ok (.ifCond .lt 44, 3) := by decide +kernel
theorem dX2_covers_13 : decode cX2_covers 13 = .ok (.iload_n 3, 1) := by decide +kernel
theorem dX2_covers_14 : decode cX2_covers 14 = .ok (.aload_n 0, 1) := by decide +kernel
theorem dX2_covers_15 : decode cX2_covers 15 = .ok (.getfield 24, 3) := by decide +kernel
theorem dX2_covers_18 : decode cX2_covers 18 = .ok (.aload_n 0, 1) := by decide +kernel
theorem dX2_covers_19 : decode cX2_covers 19 = .ok (.getfield 21, 3) := by decide +kernel
theorem dX2_covers_22 : decode cX2_covers 22 = .ok (.iload_n 1, 1) := by decide +kernel
theorem dX2_covers_23 : decode cX2_covers 23 = .ok (.iaload, 1) := by decide +kernel
theorem dX2_covers_24 : decode cX2_covers 24 = .ok (.iaload, 1) := by decide +kernel
theorem dX2_covers_25 : decode cX2_covers 25 = .ok (.if_icmp .ge 29, 3) := by decide +kernel
theorem dX2_covers_28 : decode cX2_covers 28 = .ok (.iload_n 3, 1) := by decide +kernel
theorem dX2_covers_29 : decode cX2_covers 29 = .ok (.aload_n 0, 1) := by decide +kernel
theorem dX2_covers_30 : decode cX2_covers 30 = .ok (.getfield 18, 3) := by decide +kernel
theorem dX2_covers_33 : decode cX2_covers 33 = .ok (.iload_n 1, 1) := by decide +kernel
theorem dX2_covers_34 : decode cX2_covers 34 = .ok (.iaload, 1) := by decide +kernel
theorem dX2_covers_35 : decode cX2_covers 35 = .ok (.imul, 1) := by decide +kernel
theorem dX2_covers_36 : decode cX2_covers 36 = .ok (.aload_n 0, 1) := by decide +kernel
theorem dX2_covers_37 : decode cX2_covers 37 = .ok (.getfield 27, 3) := by decide +kernel
theorem dX2_covers_40 : decode cX2_covers 40 = .ok (.aload_n 0, 1) := by decide +kernel
theorem dX2_covers_41 : decode cX2_covers 41 = .ok (.getfield 21, 3) := by decide +kernel
theorem dX2_covers_44 : decode cX2_covers 44 = .ok (.iload_n 1, 1) := by decide +kernel
theorem dX2_covers_45 : decode cX2_covers 45 = .ok (.iaload, 1) := by decide +kernel
theorem dX2_covers_46 : decode cX2_covers 46 = .ok (.iaload, 1) := by decide +kernel
theorem dX2_covers_47 : decode cX2_covers 47 = .ok (.if_icmp .ge 7, 3) := by decide +kernel
theorem dX2_covers_50 : decode cX2_covers 50 = .ok (.iconst 1, 1) := by decide +kernel
theorem dX2_covers_51 : decode cX2_covers 51 = .ok (.goto 4, 3) := by decide +kernel
theorem dX2_covers_54 : decode cX2_covers 54 = .ok (.iconst 0, 1) := by decide +kernel
theorem dX2_covers_55 : decode cX2_covers 55 = .ok (.ireturn, 1) := by decide +kernel
theorem dX2_lastCovered_0 : decode cX2_lastCovered 0 = .ok (.aload_n 0, 1) := by decide +kernel
theorem dX2_lastCovered_1 : decode cX2_lastCovered 1 = .ok (.getfield 24, 3) := by decide +kernel
theorem dX2_lastCovered_4 : decode cX2_lastCovered 4 = .ok (.aload_n 0, 1) := by decide +kernel
theorem dX2_lastCovered_5 : decode cX2_lastCovered 5 = .ok (.getfield 21, 3) := by decide +kernel
theorem dX2_lastCovered_8 : decode cX2_lastCovered 8 = .ok (.iload_n 1, 1) := by decide +kernel
theorem dX2_lastCovered_9 : decode cX2_lastCovered 9 = .ok (.iaload, 1) := by decide +kernel
theorem dX2_lastCovered_10 : decode cX2_lastCovered 10 = .ok (.iaload, 1) := by decide +kernel
theorem dX2_lastCovered_11 : decode cX2_lastCovered 11 = .ok (.istore_n 2, 1) := by decide +kernel
theorem dX2_lastCovered_12 : decode cX2_lastCovered 12 = .ok (.aload_n 0, 1) := by decide +kernel
theorem dX2_lastCovered_13 : decode cX2_lastCovered 13 = .ok (.getfield 27, 3) := by decide +kernel
theorem dX2_lastCovered_16 : decode cX2_lastCovered 16 = .ok (.aload_n 0, 1) := by decide +kernel
theorem dX2_lastCovered_17 : decode cX2_lastCovered 17 = .ok (.getfield 21, 3) := by decide +kernel
theorem dX2_lastCovered_20 : decode cX2_lastCovered 20 = .ok (.iload_n 1, 1) := by decide +kernel
theorem dX2_lastCovered_21 : decode cX2_lastCovered 21 = .ok (.iaload, 1) := by decide +kernel
theorem dX2_lastCovered_22 : decode cX2_lastCovered 22 = .ok (.iaload, 1) := by decide +kernel
theorem dX2_lastCovered_23 : decode cX2_lastCovered 23 = .ok (.istore_n 3, 1) := by decide +kernel
theorem dX2_lastCovered_24 : decode cX2_lastCovered 24 = .ok (.iload_n 2, 1) := by decide +kernel
theorem dX2_lastCovered_25 : decode cX2_lastCovered 25 = .ok (.ifCond .eq 7, 3) := by decide +kernel
theorem dX2_lastCovered_28 : decode cX2_lastCovered 28 = .ok (.iload_n 3, 1) := by decide +kernel
theorem dX2_lastCovered_29 : decode cX2_lastCovered 29 = .ok (.ifCond .ne 5, 3) := by decide +kernel
theorem dX2_lastCovered_32 : decode cX2_lastCovered 32 = .ok (.iconst (-1), 1) := by decide +kernel
theorem dX2_lastCovered_33 : decode cX2_lastCovered 33 = .ok (.ireturn, 1) := by decide +kernel
theorem dX2_lastCovered_34 : decode cX2_lastCovered 34 = .ok (.iload_n 2, 1) := by decide +kernel
theorem dX2_lastCovered_35 : decode cX2_lastCovered 35 = .ok (.iconst 1, 1) := by decide +kernel
theorem dX2_lastCovered_36 : decode cX2_lastCovered 36 = .ok (.isub, 1) := by decide +kernel
theorem dX2_lastCovered_37 : decode cX2_lastCovered 37 = .ok (.istore 4, 2) := by decide +kernel
theorem dX2_lastCovered_39 : decode cX2_lastCovered 39 = .ok (.aload_n 0, 1) := by decide +kernel
theorem dX2_lastCovered_40 : decode cX2_lastCovered 40 = .ok (.getfield 18, 3) := by decide +kernel
theorem dX2_lastCovered_43 : decode cX2_lastCovered 43 = .ok (.iload_n 1, 1) := by decide +kernel
theorem dX2_lastCovered_44 : decode cX2_lastCovered 44 = .ok (.iaload, 1) := by decide +kernel
theorem dX2_lastCovered_45 : decode cX2_lastCovered 45 = .ok (.ifCond .le 20, 3) := by decide +kernel
theorem dX2_lastCovered_48 : decode cX2_lastCovered 48 = .ok (.iload 4, 2) := by decide +kernel
theorem dX2_lastCovered_50 : decode cX2_lastCovered 50 = .ok (.iload_n 3, 1) := by decide +kernel
theorem dX2_lastCovered_51 : decode cX2_lastCovered 51 = .ok (.iconst 1, 1) := by decide +kernel
theorem dX2_lastCovered_52 : decode cX2_lastCovered 52 = .ok (.isub, 1) := by decide +kernel
theorem dX2_lastCovered_53 : decode cX2_lastCovered 53 = .ok (.aload_n 0, 1) := by decide +kernel
theorem dX2_lastCovered_54 : decode cX2_lastCovered 54 = .ok (.getfield 18, 3) := by decide +kernel
theorem dX2_lastCovered_57 : decode cX2_lastCovered 57 = .ok (.iload_n 1, 1) := by decide +kernel
theorem dX2_lastCovered_58 : decode cX2_lastCovered 58 = .ok (.iaload, 1) := by decide +kernel
theorem dX2_lastCovered_59 : decode cX2_lastCovered 59 = .ok (.idiv, 1) := by decide +kernel
theorem dX2_lastCovered_60 : decode cX2_lastCovered 60 = .ok (.invokestatic 35, 3) := by decide +kernel
theorem dX2_lastCovered_63 : decode cX2_lastCovered 63 = .ok (.istore 4, 2) := by decide +kernel
theorem dX2_lastCovered_65 : decode cX2_lastCovered 65 = .ok (.aload_n 0, 1) := by decide +kernel
theorem dX2_lastCovered_66 : decode cX2_lastCovered 66 = .ok (.getfield 15, 3) := by decide +kernel
theorem dX2_lastCovered_69 : decode cX2_lastCovered 69 = .ok (.iload_n 1, 1) := by decide +kernel
theorem dX2_lastCovered_70 : decode cX2_lastCovered 70 = .ok (.iaload, 1) := by decide +kernel
theorem dX2_lastCovered_71 : decode cX2_lastCovered 71 = .ok (.iload 4, 2) := by decide +kernel
theorem dX2_lastCovered_73 : decode cX2_lastCovered 73 = .ok (.iadd, 1) := by decide +kernel
theorem dX2_lastCovered_74 : decode cX2_lastCovered 74 = .ok (.ireturn, 1) := by decide +kernel
set_option maxRecDepth 20000 in
theorem ggX2_coveredAtAge_X2_covers : GoodIn wsX2_coveredAtAge wsX2_covers := goodIn_r _ [7, 2, 8, 9, 10, 11, 12, 13, 14, 15, 16, 17, 18] (by decide +kernel) (by decide +kernel)
set_option maxRecDepth 20000 in
theorem gX2_coveredAtAge_X2_covers : GoodIn wsX2_coveredAtAge (wsV RX2 41 RX2 yX2_covers wsX2_covers) := goodIn_app (goodIn_of _ (by decide +kernel)) ggX2_coveredAtAge_X2_covers
theorem dX2_coveredAtAge_0 : decode cX2_coveredAtAge 0 = .ok (.iconst 0, 1) := by decide +kernel
theorem dX2_coveredAtAge_1 : decode cX2_coveredAtAge 1 = .ok (.istore_n 3, 1) := by decide +kernel
theorem dX2_coveredAtAge_2 : decode cX2_coveredAtAge 2 = .ok (.iconst 0, 1) := by decide +kernel
theorem dX2_coveredAtAge_3 : decode cX2_coveredAtAge 3 = .ok (.istore 4, 2) := by decide +kernel
theorem dX2_coveredAtAge_5 : decode cX2_coveredAtAge 5 = .ok (.iload 4, 2) := by decide +kernel
theorem dX2_coveredAtAge_7 : decode cX2_coveredAtAge 7 = .ok (.aload_n 0, 1) := by decide +kernel
theorem dX2_coveredAtAge_8 : decode cX2_coveredAtAge 8 = .ok (.getfield 30, 3) := by decide +kernel
theorem dX2_coveredAtAge_11 : decode cX2_coveredAtAge 11 = .ok (.if_icmp .ge 40, 3) := by decide +kernel
theorem dX2_coveredAtAge_14 : decode cX2_coveredAtAge 14 = .ok (.aload_n 0, 1) := by decide +kernel
theorem dX2_coveredAtAge_15 : decode cX2_coveredAtAge 15 = .ok (.getfield 15, 3) := by decide +kernel
theorem dX2_coveredAtAge_18 : decode cX2_coveredAtAge 18 = .ok (.iload 4, 2) := by decide +kernel
theorem dX2_coveredAtAge_20 : decode cX2_coveredAtAge 20 = .ok (.iaload, 1) := by decide +kernel
theorem dX2_coveredAtAge_21 : decode cX2_coveredAtAge 21 = .ok (.iload_n 1, 1) := by decide +kernel
theorem dX2_coveredAtAge_22 : decode cX2_coveredAtAge 22 = .ok (.iadd, 1) := by decide +kernel
theorem dX2_coveredAtAge_23 : decode cX2_coveredAtAge 23 = .ok (.istore 5, 2) := by decide +kernel
theorem dX2_coveredAtAge_25 : decode cX2_coveredAtAge 25 = .ok (.iload 5, 2) := by decide +kernel
theorem dX2_coveredAtAge_27 : decode cX2_coveredAtAge 27 = .ok (.iload_n 2, 1) := by decide +kernel
theorem dX2_coveredAtAge_28 : decode cX2_coveredAtAge 28 = .ok (.if_icmp .gt 17, 3) := by decide +kernel
theorem dX2_coveredAtAge_31 : decode cX2_coveredAtAge 31 = .ok (.aload_n 0, 1) := by decide +kernel
theorem dX2_coveredAtAge_32 : decode cX2_coveredAtAge 32 = .ok (.iload 4, 2) := by decide +kernel
theorem dX2_coveredAtAge_34 : decode cX2_coveredAtAge 34 = .ok (.iload 5, 2) := by decide +kernel
theorem dX2_coveredAtAge_36 : decode cX2_coveredAtAge 36 = .ok (.invokevirtual 41, 3) := by decide +kernel
theorem dX2_coveredAtAge_39 : decode cX2_coveredAtAge 39 = .ok (.ifCond .eq 6, 3) := by decide +kernel
theorem dX2_coveredAtAge_42 : decode cX2_coveredAtAge 42 = .ok (.iinc 3 1, 3) := by decide +kernel
theorem dX2_coveredAtAge_45 : decode cX2_coveredAtAge 45 = .ok (.iinc 4 1, 3) := by decide +kernel
theorem dX2_coveredAtAge_48 : decode cX2_coveredAtAge 48 = .ok (.goto (-43), 3) := by decide +kernel
theorem dX2_coveredAtAge_51 : decode cX2_coveredAtAge 51 = .ok (.iload_n 3, 1) := by decide +kernel
theorem dX2_coveredAtAge_52 : decode cX2_coveredAtAge 52 = .ok (.ireturn, 1) := by decide +kernel
set_option maxRecDepth 20000 in
theorem ggX2_ofBatch_X2_soldOf : GoodIn wsX2_ofBatch wsX2_soldOf := goodIn_r _ [5, 6, 7, 8, 9, 10, 11, 12, 13, 14, 15, 16, 17, 18] (by decide +kernel) (by decide +kernel)
set_option maxRecDepth 20000 in
theorem gX2_ofBatch_X2_soldOf : GoodIn wsX2_ofBatch (wsV RX2 45 RX2 yX2_soldOf wsX2_soldOf) := goodIn_app (goodIn_of _ (by decide +kernel)) ggX2_ofBatch_X2_soldOf
theorem dX2_ofBatch_0 : decode cX2_ofBatch 0 = .ok (.aload_n 0, 1) := by decide +kernel
theorem dX2_ofBatch_1 : decode cX2_ofBatch 1 = .ok (.iconst 1, 1) := by decide +kernel
theorem dX2_ofBatch_2 : decode cX2_ofBatch 2 = .ok (.iload_n 1, 1) := by decide +kernel
theorem dX2_ofBatch_3 : decode cX2_ofBatch 3 = .ok (.ishl, 1) := by decide +kernel
theorem dX2_ofBatch_4 : decode cX2_ofBatch 4 = .ok (.iconst 0, 1) := by decide +kernel
theorem dX2_ofBatch_5 : decode cX2_ofBatch 5 = .ok (.bipush 119, 2) := by decide +kernel
theorem dX2_ofBatch_7 : decode cX2_ofBatch 7 = .ok (.invokevirtual 45, 3) := by decide +kernel
theorem dX2_ofBatch_10 : decode cX2_ofBatch 10 = .ok (.lreturn, 1) := by decide +kernel
set_option maxRecDepth 20000 in
theorem ggX2_soldOf_X4_hasBit : GoodIn wsX2_soldOf wsX4_hasBit := goodIn_r _ [6] (by decide +kernel) (by decide +kernel)
set_option maxRecDepth 20000 in
theorem gX2_soldOf_X4_hasBit_n49 : GoodIn wsX2_soldOf (wsX4_hasBit) := ggX2_soldOf_X4_hasBit
theorem dX2_soldOf_0 : decode cX2_soldOf 0 = .ok (.lconst 0, 1) := by decide +kernel
theorem dX2_soldOf_1 : decode cX2_soldOf 1 = .ok (.lstore 4, 2) := by decide +kernel
theorem dX2_soldOf_3 : decode cX2_soldOf 3 = .ok (.iconst 0, 1) := by decide +kernel
theorem dX2_soldOf_4 : decode cX2_soldOf 4 = .ok (.istore 6, 2) := by decide +kernel
theorem dX2_soldOf_6 : decode cX2_soldOf 6 = .ok (.iload 6, 2) := by decide +kernel
theorem dX2_soldOf_8 : decode cX2_soldOf 8 = .ok (.aload_n 0, 1) := by decide +kernel
theorem dX2_soldOf_9 : decode cX2_soldOf 9 = .ok (.getfield 30, 3) := by decide +kernel
theorem dX2_soldOf_12 : decode cX2_soldOf 12 = .ok (.if_icmp .ge 55, 3) := by decide +kernel
theorem dX2_soldOf_15 : decode cX2_soldOf 15 = .ok (.iload_n 1, 1) := by decide +kernel
theorem dX2_soldOf_16 : decode cX2_soldOf 16 = .ok (.i2l, 1) := by decide +kernel
theorem dX2_soldOf_17 : decode cX2_soldOf 17 = .ok (.aload_n 0, 1) := by decide +kernel
theorem dX2_soldOf_18 : decode cX2_soldOf 18 = .ok (.getfield 9, 3) := by decide +kernel
theorem dX2_soldOf_21 : decode cX2_soldOf 21 = .ok (.iload 6, 2) := by decide +kernel
theorem dX2_soldOf_23 : decode cX2_soldOf 23 = .ok (.iaload, 1) := by decide +kernel
theorem dX2_soldOf_24 : decode cX2_soldOf 24 = .ok (.invokestatic 49, 3) := by decide +kernel
theorem dX2_soldOf_27 : decode cX2_soldOf 27 = .ok (.ifCond .eq 34, 3) := by decide +kernel
theorem dX2_soldOf_30 : decode cX2_soldOf 30 = .ok (.aload_n 0, 1) := by decide +kernel
theorem dX2_soldOf_31 : decode cX2_soldOf 31 = .ok (.getfield 15, 3) := by decide +kernel
theorem dX2_soldOf_34 : decode cX2_soldOf 34 = .ok (.iload 6, 2) := by decide +kernel
theorem dX2_soldOf_36 : decode cX2_soldOf 36 = .ok (.iaload, 1) := by decide +kernel
theorem dX2_soldOf_37 : decode cX2_soldOf 37 = .ok (.iload_n 2, 1) := by decide +kernel
theorem dX2_soldOf_38 : decode cX2_soldOf 38 = .ok (.if_icmp .lt 23, 3) := by decide +kernel
theorem dX2_soldOf_41 : decode cX2_soldOf 41 = .ok (.aload_n 0, 1) := by decide +kernel
theorem dX2_soldOf_42 : decode cX2_soldOf 42 = .ok (.getfield 15, 3) := by decide +kernel
theorem dX2_soldOf_45 : decode cX2_soldOf 45 = .ok (.iload 6, 2) := by decide +kernel
theorem dX2_soldOf_47 : decode cX2_soldOf 47 = .ok (.iaload, 1) := by decide +kernel
theorem dX2_soldOf_48 : decode cX2_soldOf 48 = .ok (.iload_n 3, 1) := by decide +kernel
theorem dX2_soldOf_49 : decode cX2_soldOf 49 = .ok (.if_icmp .gt 12, 3) := by decide +kernel
theorem dX2_soldOf_52 : decode cX2_soldOf 52 = .ok (.lload 4, 2) := by decide +kernel
theorem dX2_soldOf_54 : decode cX2_soldOf 54 = .ok (.lconst 1, 1) := by decide +kernel
theorem dX2_soldOf_55 : decode cX2_soldOf 55 = .ok (.iload 6, 2) := by decide +kernel
theorem dX2_soldOf_57 : decode cX2_soldOf 57 = .ok (.lshl, 1) := by decide +kernel
theorem dX2_soldOf_58 : decode cX2_soldOf 58 = .ok (.lor, 1) := by decide +kernel
theorem dX2_soldOf_59 : decode cX2_soldOf 59 = .ok (.lstore 4, 2) := by decide +kernel
theorem dX2_soldOf_61 : decode cX2_soldOf 61 = .ok (.iinc 6 1, 3) := by decide +kernel
theorem dX2_soldOf_64 : decode cX2_soldOf 64 = .ok (.goto (-58), 3) := by decide +kernel
theorem dX2_soldOf_67 : decode cX2_soldOf 67 = .ok (.lload 4, 2) := by decide +kernel
theorem dX2_soldOf_69 : decode cX2_soldOf 69 = .ok (.lreturn, 1) := by decide +kernel
set_option maxRecDepth 20000 in
theorem ggX2_digestOnto_X2_lastCovered : GoodIn wsX2_digestOnto wsX2_lastCovered := goodIn_r _ [11, 12, 6, 13, 5, 14, 15, 16, 17, 4, 18, 19, 20, 21, 22, 23, 24] (by decide +kernel) (by decide +kernel)
set_option maxRecDepth 20000 in
theorem gX2_digestOnto_X2_lastCovered : GoodIn wsX2_digestOnto (wsV RX2 55 RX2 yX2_lastCovered wsX2_lastCovered) := goodIn_app (goodIn_of _ (by decide +kernel)) ggX2_digestOnto_X2_lastCovered
theorem dX2_digestOnto_0 : decode cX2_digestOnto 0 = .ok (.lload_n 1, 1) := by decide +kernel
theorem dX2_digestOnto_1 : decode cX2_digestOnto 1 = .ok (.lstore_n 3, 1) := by decide +kernel
theorem dX2_digestOnto_2 : decode cX2_digestOnto 2 = .ok (.iconst 0, 1) := by decide +kernel
theorem dX2_digestOnto_3 : decode cX2_digestOnto 3 = .ok (.istore 5, 2) := by decide +kernel
theorem dX2_digestOnto_5 : decode cX2_digestOnto 5 = .ok (.iload 5, 2) := by decide +kernel
theorem dX2_digestOnto_7 : decode cX2_digestOnto 7 = .ok (.aload_n 0, 1) := by decide +kernel
theorem dX2_digestOnto_8 : decode cX2_digestOnto 8 = .ok (.getfield 30, 3) := by decide +kernel
theorem dX2_digestOnto_11 : decode cX2_digestOnto 11 = .ok (.if_icmp .ge 83, 3) := by decide +kernel
theorem dX2_digestOnto_14 : decode cX2_digestOnto 14 = .ok (.ldc2_w 53, 3) := by decide +kernel
theorem dX2_digestOnto_17 : decode cX2_digestOnto 17 = .ok (.lload_n 3, 1) := by decide +kernel
theorem dX2_digestOnto_18 : decode cX2_digestOnto 18 = .ok (.lmul, 1) := by decide +kernel
theorem dX2_digestOnto_19 : decode cX2_digestOnto 19 = .ok (.aload_n 0, 1) := by decide +kernel
theorem dX2_digestOnto_20 : decode cX2_digestOnto 20 = .ok (.getfield 9, 3) := by decide +kernel
theorem dX2_digestOnto_23 : decode cX2_digestOnto 23 = .ok (.iload 5, 2) := by decide +kernel
theorem dX2_digestOnto_25 : decode cX2_digestOnto 25 = .ok (.iaload, 1) := by decide +kernel
theorem dX2_digestOnto_26 : decode cX2_digestOnto 26 = .ok (.i2l, 1) := by decide +kernel
theorem dX2_digestOnto_27 : decode cX2_digestOnto 27 = .ok (.ladd, 1) := by decide +kernel
theorem dX2_digestOnto_28 : decode cX2_digestOnto 28 = .ok (.lstore_n 3, 1) := by decide +kernel
theorem dX2_digestOnto_29 : decode cX2_digestOnto 29 = .ok (.ldc2_w 53, 3) := by decide +kernel
theorem dX2_digestOnto_32 : decode cX2_digestOnto 32 = .ok (.lload_n 3, 1) := by decide +kernel
theorem dX2_digestOnto_33 : decode cX2_digestOnto 33 = .ok (.lmul, 1) := by decide +kernel
theorem dX2_digestOnto_34 : decode cX2_digestOnto 34 = .ok (.aload_n 0, 1) := by decide +kernel
theorem dX2_digestOnto_35 : decode cX2_digestOnto 35 = .ok (.getfield 15, 3) := by decide +kernel
theorem dX2_digestOnto_38 : decode cX2_digestOnto 38 = .ok (.iload 5, 2) := by decide +kernel
theorem dX2_digestOnto_40 : decode cX2_digestOnto 40 = .ok (.iaload, 1) := by decide +kernel
theorem dX2_digestOnto_41 : decode cX2_digestOnto 41 = .ok (.i2l, 1) := by decide +kernel
theorem dX2_digestOnto_42 : decode cX2_digestOnto 42 = .ok (.ladd, 1) := by decide +kernel
theorem dX2_digestOnto_43 : decode cX2_digestOnto 43 = .ok (.lstore_n 3, 1) := by decide +kernel
theorem dX2_digestOnto_44 : decode cX2_digestOnto 44 = .ok (.ldc2_w 53, 3) := by decide +kernel
theorem dX2_digestOnto_47 : decode cX2_digestOnto 47 = .ok (.lload_n 3, 1) := by decide +kernel
theorem dX2_digestOnto_48 : decode cX2_digestOnto 48 = .ok (.lmul, 1) := by decide +kernel
theorem dX2_digestOnto_49 : decode cX2_digestOnto 49 = .ok (.aload_n 0, 1) := by decide +kernel
theorem dX2_digestOnto_50 : decode cX2_digestOnto 50 = .ok (.getfield 18, 3) := by decide +kernel
theorem dX2_digestOnto_53 : decode cX2_digestOnto 53 = .ok (.iload 5, 2) := by decide +kernel
theorem dX2_digestOnto_55 : decode cX2_digestOnto 55 = .ok (.iaload, 1) := by decide +kernel
theorem dX2_digestOnto_56 : decode cX2_digestOnto 56 = .ok (.i2l, 1) := by decide +kernel
theorem dX2_digestOnto_57 : decode cX2_digestOnto 57 = .ok (.ladd, 1) := by decide +kernel
theorem dX2_digestOnto_58 : decode cX2_digestOnto 58 = .ok (.lstore_n 3, 1) := by decide +kernel
theorem dX2_digestOnto_59 : decode cX2_digestOnto 59 = .ok (.ldc2_w 53, 3) := by decide +kernel
theorem dX2_digestOnto_62 : decode cX2_digestOnto 62 = .ok (.lload_n 3, 1) := by decide +kernel
theorem dX2_digestOnto_63 : decode cX2_digestOnto 63 = .ok (.lmul, 1) := by decide +kernel
theorem dX2_digestOnto_64 : decode cX2_digestOnto 64 = .ok (.aload_n 0, 1) := by decide +kernel
theorem dX2_digestOnto_65 : decode cX2_digestOnto 65 = .ok (.getfield 21, 3) := by decide +kernel
theorem dX2_digestOnto_68 : decode cX2_digestOnto 68 = .ok (.iload 5, 2) := by decide +kernel
theorem dX2_digestOnto_70 : decode cX2_digestOnto 70 = .ok (.iaload, 1) := by decide +kernel
theorem dX2_digestOnto_71 : decode cX2_digestOnto 71 = .ok (.i2l, 1) := by decide +kernel
theorem dX2_digestOnto_72 : decode cX2_digestOnto 72 = .ok (.ladd, 1) := by decide +kernel
theorem dX2_digestOnto_73 : decode cX2_digestOnto 73 = .ok (.lstore_n 3, 1) := by decide +kernel
theorem dX2_digestOnto_74 : decode cX2_digestOnto 74 = .ok (.ldc2_w 53, 3) := by decide +kernel
theorem dX2_digestOnto_77 : decode cX2_digestOnto 77 = .ok (.lload_n 3, 1) := by decide +kernel
theorem dX2_digestOnto_78 : decode cX2_digestOnto 78 = .ok (.lmul, 1) := by decide +kernel
theorem dX2_digestOnto_79 : decode cX2_digestOnto 79 = .ok (.aload_n 0, 1) := by decide +kernel
theorem dX2_digestOnto_80 : decode cX2_digestOnto 80 = .ok (.iload 5, 2) := by decide +kernel
theorem dX2_digestOnto_82 : decode cX2_digestOnto 82 = .ok (.invokevirtual 55, 3) := by decide +kernel
theorem dX2_digestOnto_85 : decode cX2_digestOnto 85 = .ok (.i2l, 1) := by decide +kernel
theorem dX2_digestOnto_86 : decode cX2_digestOnto 86 = .ok (.ladd, 1) := by decide +kernel
theorem dX2_digestOnto_87 : decode cX2_digestOnto 87 = .ok (.lstore_n 3, 1) := by decide +kernel
theorem dX2_digestOnto_88 : decode cX2_digestOnto 88 = .ok (.iinc 5 1, 3) := by decide +kernel
theorem dX2_digestOnto_91 : decode cX2_digestOnto 91 = .ok (.goto (-86), 3) := by decide +kernel
theorem dX2_digestOnto_94 : decode cX2_digestOnto 94 = .ok (.lload_n 3, 1) := by decide +kernel
theorem dX2_digestOnto_95 : decode cX2_digestOnto 95 = .ok (.lreturn, 1) := by decide +kernel
theorem dX3_init_0 : decode cX3_init 0 = .ok (.aload_n 0, 1) := by decide +kernel
theorem dX3_init_1 : decode cX3_init 1 = .ok (.invokespecial 3, 3) := by decide +kernel
theorem dX3_init_4 : decode cX3_init 4 = .ok (.aload_n 0, 1) := by decide +kernel
theorem dX3_init_5 : decode cX3_init 5 = .ok (.bipush 61, 2) := by decide +kernel
theorem dX3_init_7 : decode cX3_init 7 = .ok (.bipush 61, 2) := by decide +kernel
theorem dX3_init_9 : decode cX3_init 9 = .ok (.multianewarray 9 2, 4) := by decide +kernel
theorem dX3_init_13 : decode cX3_init 13 = .ok (.putfield 11, 3) := by decide +kernel
theorem dX3_init_16 : decode cX3_init 16 = .ok (.iconst 0, 1) := by decide +kernel
theorem dX3_init_17 : decode cX3_init 17 = .ok (.istore_n 1, 1) := by decide +kernel
theorem dX3_init_18 : decode cX3_init 18 = .ok (.iload_n 1, 1) := by decide +kernel
theorem dX3_init_19 : decode cX3_init 19 = .ok (.bipush 60, 2) := by decide +kernel
theorem dX3_init_21 : decode cX3_init 21 = .ok (.if_icmp .gt 62, 3) := by decide +kernel
theorem dX3_init_24 : decode cX3_init 24 = .ok (.aload_n 0, 1) := by decide +kernel
theorem dX3_init_25 : decode cX3_init 25 = .ok (.getfield 11, 3) := by decide +kernel
theorem dX3_init_28 : decode cX3_init 28 = .ok (.iload_n 1, 1) := by decide +kernel
theorem dX3_init_29 : decode cX3_init 29 = .ok (.aaload, 1) := by decide +kernel
theorem dX3_init_30 : decode cX3_init 30 = .ok (.iconst 0, 1) := by decide +kernel
theorem dX3_init_31 : decode cX3_init 31 = .ok (.lconst 1, 1) := by decide +kernel
theorem dX3_init_32 : decode cX3_init 32 = .ok (.lastore, 1) := by decide +kernel
theorem dX3_init_33 : decode cX3_init 33 = .ok (.iconst 1, 1) := by decide +kernel
theorem dX3_init_34 : decode cX3_init 34 = .ok (.istore_n 2, 1) := by decide +kernel
theorem dX3_init_35 : decode cX3_init 35 = .ok (.iload_n 2, 1) := by decide +kernel
theorem dX3_init_36 : decode cX3_init 36 = .ok (.iload_n 1, 1) := by decide +kernel
theorem dX3_init_37 : decode cX3_init 37 = .ok (.if_icmp .gt 40, 3) := by decide +kernel
theorem dX3_init_40 : decode cX3_init 40 = .ok (.aload_n 0, 1) := by decide +kernel
theorem dX3_init_41 : decode cX3_init 41 = .ok (.getfield 11, 3) := by decide +kernel
theorem dX3_init_44 : decode cX3_init 44 = .ok (.iload_n 1, 1) := by decide +kernel
theorem dX3_init_45 : decode cX3_init 45 = .ok (.aaload, 1) := by decide +kernel
theorem dX3_init_46 : decode cX3_init 46 = .ok (.iload_n 2, 1) := by decide +kernel
theorem dX3_init_47 : decode cX3_init 47 = .ok (.aload_n 0, 1) := by decide +kernel
theorem dX3_init_48 : decode cX3_init 48 = .ok (.getfield 11, 3) := by decide +kernel
theorem dX3_init_51 : decode cX3_init 51 = .ok (.iload_n 1, 1) := by decide +kernel
theorem dX3_init_52 : decode cX3_init 52 = .ok (.iconst 1, 1) := by decide +kernel
theorem dX3_init_53 : decode cX3_init 53 = .ok (.isub, 1) := by decide +kernel
theorem dX3_init_54 : decode cX3_init 54 = .ok (.aaload, 1) := by decide +kernel
theorem dX3_init_55 : decode cX3_init 55 = .ok (.iload_n 2, 1) := by decide +kernel
theorem dX3_init_56 : decode cX3_init 56 = .ok (.iconst 1, 1) := by decide +kernel
theorem dX3_init_57 : decode cX3_init 57 = .ok (.isub, 1) := by decide +kernel
theorem dX3_init_58 : decode cX3_init 58 = .ok (.laload, 1) := by decide +kernel
theorem dX3_init_59 : decode cX3_init 59 = .ok (.aload_n 0, 1) := by decide +kernel
theorem dX3_init_60 : decode cX3_init 60 = .ok (.getfield 11, 3) := by decide +kernel
theorem dX3_init_63 : decode cX3_init 63 = .ok (.iload_n 1, 1) := by decide +kernel
theorem dX3_init_64 : decode cX3_init 64 = .ok (.iconst 1, 1) := by decide +kernel
theorem dX3_init_65 : decode cX3_init 65 = .ok (.isub, 1) := by decide +kernel
theorem dX3_init_66 : decode cX3_init 66 = .ok (.aaload, 1) := by decide +kernel
theorem dX3_init_67 : decode cX3_init 67 = .ok (.iload_n 2, 1) := by decide +kernel
theorem dX3_init_68 : decode cX3_init 68 = .ok (.laload, 1) := by decide +kernel
theorem dX3_init_69 : decode cX3_init 69 = .ok (.ladd, 1) := by decide +kernel
theorem dX3_init_70 : decode cX3_init 70 = .ok (.lastore, 1) := by decide +kernel
theorem dX3_init_71 : decode cX3_init 71 = .ok (.iinc 2 1, 3) := by decide +kernel
theorem dX3_init_74 : decode cX3_init 74 = .ok (.goto (-39), 3) := by decide +kernel
theorem dX3_init_77 : decode cX3_init 77 = .ok (.iinc 1 1, 3) := by decide +kernel
theorem dX3_init_80 : decode cX3_init 80 = .ok (.goto (-62), 3) := by decide +kernel
theorem dX3_init_83 : decode cX3_init 83 = .ok (.return_, 1) := by decide +kernel
theorem dX3_choose_0 : decode cX3_choose 0 = .ok (.iload_n 1, 1) := by decide +kernel
theorem dX3_choose_1 : decode cX3_choose 1 = .ok (.ifCond .lt 18, 3) := by decide +kernel
theorem dX3_choose_4 : decode cX3_choose 4 = .ok (.iload_n 1, 1) := by decide +kernel
theorem dX3_choose_5 : decode cX3_choose 5 = .ok (.bipush 60, 2) := by decide +kernel
theorem dX3_choose_7 : decode cX3_choose 7 = .ok (.if_icmp .gt 12, 3) := by decide +kernel
theorem dX3_choose_10 : decode cX3_choose 10 = .ok (.iload_n 2, 1) := by decide +kernel
theorem dX3_choose_11 : decode cX3_choose 11 = .ok (.ifCond .lt 8, 3) := by decide +kernel
theorem dX3_choose_14 : decode cX3_choose 14 = .ok (.iload_n 2, 1) := by decide +kernel
theorem dX3_choose_15 : decode cX3_choose 15 = .ok (.iload_n 1, 1) := by decide +kernel
theorem dX3_choose_16 : decode cX3_choose 16 = .ok (.if_icmp .le 5, 3) := by decide +kernel
theorem dX3_choose_19 : decode cX3_choose 19 = .ok (.lconst 0, 1) := by decide +kernel
theorem dX3_choose_20 : decode cX3_choose 20 = .ok (.lreturn, 1) := by decide +kernel
theorem dX3_choose_21 : decode cX3_choose 21 = .ok (.aload_n 0, 1) := by decide +kernel
theorem dX3_choose_22 : decode cX3_choose 22 = .ok (.getfield 11, 3) := by decide +kernel
theorem dX3_choose_25 : decode cX3_choose 25 = .ok (.iload_n 1, 1) := by decide +kernel
theorem dX3_choose_26 : decode cX3_choose 26 = .ok (.aaload, 1) := by decide +kernel
theorem dX3_choose_27 : decode cX3_choose 27 = .ok (.iload_n 2, 1) := by decide +kernel
theorem dX3_choose_28 : decode cX3_choose 28 = .ok (.laload, 1) := by decide +kernel
theorem dX3_choose_29 : decode cX3_choose 29 = .ok (.lreturn, 1) := by decide +kernel
set_option maxRecDepth 20000 in
theorem ggX3_withAtLeast_X3_choose : GoodIn wsX3_withAtLeast wsX3_choose := goodIn_r _ [5, 6, 7] (by decide +kernel) (by decide +kernel)
set_option maxRecDepth 20000 in
theorem gX3_withAtLeast_X3_choose : GoodIn wsX3_withAtLeast (wsV RX3 16 RX3 yX3_choose wsX3_choose) := goodIn_app (goodIn_of _ (by decide +kernel)) ggX3_withAtLeast_X3_choose
theorem dX3_withAtLeast_0 : decode cX3_withAtLeast 0 = .ok (.lconst 0, 1) := by decide +kernel
theorem dX3_withAtLeast_1 : decode cX3_withAtLeast 1 = .ok (.lstore 5, 2) := by decide +kernel
theorem dX3_withAtLeast_3 : decode cX3_withAtLeast 3 = .ok (.iload_n 1, 1) := by decide +kernel
theorem dX3_withAtLeast_4 : decode cX3_withAtLeast 4 = .ok (.istore 7, 2) := by decide +kernel
theorem dX3_withAtLeast_6 : decode cX3_withAtLeast 6 = .ok (.iload 7, 2) := by decide +kernel
theorem dX3_withAtLeast_8 : decode cX3_withAtLeast 8 = .ok (.iload_n 3, 1) := by decide +kernel
theorem dX3_withAtLeast_9 : decode cX3_withAtLeast 9 = .ok (.if_icmp .gt 40, 3) := by decide +kernel
theorem dX3_withAtLeast_12 : decode cX3_withAtLeast 12 = .ok (.iload 7, 2) := by decide +kernel
theorem dX3_withAtLeast_14 : decode cX3_withAtLeast 14 = .ok (.iload_n 2, 1) := by decide +kernel
theorem dX3_withAtLeast_15 : decode cX3_withAtLeast 15 = .ok (.if_icmp .gt 34, 3) := by decide +kernel
theorem dX3_withAtLeast_18 : decode cX3_withAtLeast 18 = .ok (.lload 5, 2) := by decide +kernel
theorem dX3_withAtLeast_20 : decode cX3_withAtLeast 20 = .ok (.aload_n 0, 1) := by decide +kernel
theorem dX3_withAtLeast_21 : decode cX3_withAtLeast 21 = .ok (.iload_n 3, 1) := by decide +kernel
theorem dX3_withAtLeast_22 : decode cX3_withAtLeast 22 = .ok (.iload 7, 2) := by decide +kernel
theorem dX3_withAtLeast_24 : decode cX3_withAtLeast 24 = .ok (.invokevirtual 16, 3) := by decide +kernel
theorem dX3_withAtLeast_27 : decode cX3_withAtLeast 27 = .ok (.aload_n 0, 1) := by decide +kernel
theorem dX3_withAtLeast_28 : decode cX3_withAtLeast 28 = .ok (.iload 4, 2) := by decide +kernel
theorem dX3_withAtLeast_30 : decode cX3_withAtLeast 30 = .ok (.iload_n 3, 1) := by decide +kernel
theorem dX3_withAtLeast_31 : decode cX3_withAtLeast 31 = .ok (.isub, 1) := by decide +kernel
theorem dX3_withAtLeast_32 : decode cX3_withAtLeast 32 = .ok (.iload_n 2, 1) := by decide +kernel
theorem dX3_withAtLeast_33 : decode cX3_withAtLeast 33 = .ok (.iload 7, 2) := by decide +kernel
theorem dX3_withAtLeast_35 : decode cX3_withAtLeast 35 = .ok (.isub, 1) := by decide +kernel
theorem dX3_withAtLeast_36 : decode cX3_withAtLeast 36 = .ok (.invokevirtual 16, 3) := by decide +kernel
theorem dX3_withAtLeast_39 : decode cX3_withAtLeast 39 = .ok (.lmul, 1) := by decide +kernel
theorem dX3_withAtLeast_40 : decode cX3_withAtLeast 40 = .ok (.ladd, 1) := by decide +kernel
theorem dX3_withAtLeast_41 : decode cX3_withAtLeast 41 = .ok (.lstore 5, 2) := by decide +kernel
theorem dX3_withAtLeast_43 : decode cX3_withAtLeast 43 = .ok (.iinc 7 1, 3) := by decide +kernel
theorem dX3_withAtLeast_46 : decode cX3_withAtLeast 46 = .ok (.goto (-40), 3) := by decide +kernel
theorem dX3_withAtLeast_49 : decode cX3_withAtLeast 49 = .ok (.lload 5, 2) := by decide +kernel
theorem dX3_withAtLeast_51 : decode cX3_withAtLeast 51 = .ok (.lreturn, 1) := by decide +kernel
set_option maxRecDepth 20000 in
theorem ggX4_init_X2_init : GoodIn wsX4_init wsX2_init := goodIn_r _ [23, 24, 2, 3, 25, 26, 27, 28, 29, 30, 31, 32, 33, 59, 60, 61, 62, 63, 64, 65] (by decide +kernel) (by decide +kernel)
set_option maxRecDepth 20000 in
theorem gX4_init_X2_init : GoodIn wsX4_init (wsX2_init) := ggX4_init_X2_init
set_option maxRecDepth 20000 in
theorem ggX4_init_X0_init : GoodIn wsX4_init wsX0_init := goodIn_r _ [35, 36, 2, 3, 25, 37, 38, 39, 40, 41, 42, 43, 44, 71, 72, 73, 74, 75, 76, 77, 78] (by decide +kernel) (by decide +kernel)
set_option maxRecDepth 20000 in
theorem gX4_init_X0_init_n18 : GoodIn wsX4_init (wsX0_init) := ggX4_init_X0_init
set_option maxRecDepth 20000 in
theorem ggX4_init_X1_init : GoodIn wsX4_init wsX1_init := goodIn_r _ [47, 48, 2, 3, 25, 49, 50, 51, 79, 80, 81] (by decide +kernel) (by decide +kernel)
set_option maxRecDepth 20000 in
theorem gX4_init_X1_init : GoodIn wsX4_init (wsX1_init) := ggX4_init_X1_init
set_option maxRecDepth 20000 in
theorem ggX4_init_X3_init : GoodIn wsX4_init wsX3_init := goodIn_r _ [54, 55, 2, 3, 56, 57, 58, 82] (by decide +kernel) (by decide +kernel)
set_option maxRecDepth 20000 in
theorem gX4_init_X3_init : GoodIn wsX4_init (wsX3_init) := ggX4_init_X3_init
theorem dX4_init_0 : decode cX4_init 0 = .ok (.aload_n 0, 1) := by decide +kernel
theorem dX4_init_1 : decode cX4_init 1 = .ok (.invokespecial 3, 3) := by decide +kernel
theorem dX4_init_4 : decode cX4_init 4 = .ok (.aload_n 0, 1) := by decide +kernel
theorem dX4_init_5 : decode cX4_init 5 = .ok (.new 9, 3) := by decide +kernel
theorem dX4_init_8 : decode cX4_init 8 = .ok (.dup, 1) := by decide +kernel
theorem dX4_init_9 : decode cX4_init 9 = .ok (.invokespecial 11, 3) := by decide +kernel
theorem dX4_init_12 : decode cX4_init 12 = .ok (.putfield 12, 3) := by decide +kernel
theorem dX4_init_15 : decode cX4_init 15 = .ok (.aload_n 0, 1) := by decide +kernel
theorem dX4_init_16 : decode cX4_init 16 = .ok (.new 16, 3) := by decide +kernel
theorem dX4_init_19 : decode cX4_init 19 = .ok (.dup, 1) := by decide +kernel
theorem dX4_init_20 : decode cX4_init 20 = .ok (.invokespecial 18, 3) := by decide +kernel
theorem dX4_init_23 : decode cX4_init 23 = .ok (.putfield 19, 3) := by decide +kernel
theorem dX4_init_26 : decode cX4_init 26 = .ok (.aload_n 0, 1) := by decide +kernel
theorem dX4_init_27 : decode cX4_init 27 = .ok (.new 23, 3) := by decide +kernel
theorem dX4_init_30 : decode cX4_init 30 = .ok (.dup, 1) := by decide +kernel
theorem dX4_init_31 : decode cX4_init 31 = .ok (.invokespecial 25, 3) := by decide +kernel
theorem dX4_init_34 : decode cX4_init 34 = .ok (.putfield 26, 3) := by decide +kernel
theorem dX4_init_37 : decode cX4_init 37 = .ok (.aload_n 0, 1) := by decide +kernel
theorem dX4_init_38 : decode cX4_init 38 = .ok (.new 30, 3) := by decide +kernel
theorem dX4_init_41 : decode cX4_init 41 = .ok (.dup, 1) := by decide +kernel
theorem dX4_init_42 : decode cX4_init 42 = .ok (.invokespecial 32, 3) := by decide +kernel
theorem dX4_init_45 : decode cX4_init 45 = .ok (.putfield 33, 3) := by decide +kernel
theorem dX4_init_48 : decode cX4_init 48 = .ok (.aload_n 0, 1) := by decide +kernel
theorem dX4_init_49 : decode cX4_init 49 = .ok (.iconst 1, 1) := by decide +kernel
theorem dX4_init_50 : decode cX4_init 50 = .ok (.putfield 37, 3) := by decide +kernel
theorem dX4_init_53 : decode cX4_init 53 = .ok (.return_, 1) := by decide +kernel
set_option maxRecDepth 20000 in
theorem ggX4_thing_X4_isBatch : GoodIn wsX4_thing wsX4_isBatch := goodIn_r _ [5, 6, 7, 4, 8] (by decide +kernel) (by decide +kernel)
set_option maxRecDepth 20000 in
theorem gX4_thing_X4_isBatch : GoodIn wsX4_thing (va_wsS RX4 41 yX4_isBatch wsX4_isBatch) := goodIn_app (goodIn_of _ (by decide +kernel)) ggX4_thing_X4_isBatch
set_option maxRecDepth 20000 in
theorem ggX4_thing_X4_isSaleMonth : GoodIn wsX4_thing wsX4_isSaleMonth := goodIn_r _ [11, 6, 7, 4, 8] (by decide +kernel) (by decide +kernel)
set_option maxRecDepth 20000 in
theorem gX4_thing_X4_isSaleMonth : GoodIn wsX4_thing (va_wsS RX4 45 yX4_isSaleMonth wsX4_isSaleMonth) := goodIn_app (goodIn_of _ (by decide +kernel)) ggX4_thing_X4_isSaleMonth
set_option maxRecDepth 20000 in
theorem ggX4_thing_X4_isWithin : GoodIn wsX4_thing wsX4_isWithin := goodIn_r _ [8] (by decide +kernel) (by decide +kernel)
set_option maxRecDepth 20000 in
theorem gX4_thing_X4_isWithin : GoodIn wsX4_thing (va_wsS RX4 48 yX4_isWithin wsX4_isWithin) := goodIn_app (goodIn_of _ (by decide +kernel)) ggX4_thing_X4_isWithin
set_option maxRecDepth 20000 in
theorem ggX4_thing_X4_isLand : GoodIn wsX4_thing wsX4_isLand := goodIn_r _ [14, 6, 7, 4, 8] (by decide +kernel) (by decide +kernel)
set_option maxRecDepth 20000 in
theorem gX4_thing_X4_isLand : GoodIn wsX4_thing (va_wsS RX4 52 yX4_isLand wsX4_isLand) := goodIn_app (goodIn_of _ (by decide +kernel)) ggX4_thing_X4_isLand
set_option maxRecDepth 20000 in
theorem ggX4_thing_X2_add : GoodIn wsX4_thing wsX2_add := goodIn_r _ [19, 20, 21, 22, 23, 24, 30, 31, 32, 33, 34, 35, 36] (by decide +kernel) (by decide +kernel)
set_option maxRecDepth 20000 in
theorem gX4_thing_X2_add : GoodIn wsX4_thing (wsV RX4 55 RX2 yX2_add wsX2_add) := goodIn_app (goodIn_of _ (by decide +kernel)) ggX4_thing_X2_add
theorem dX4_thing_0 : decode cX4_thing 0 = .ok (.iload_n 1, 1) := by decide +kernel
theorem dX4_thing_1 : decode cX4_thing 1 = .ok (.invokestatic 41, 3) := by decide +kernel
theorem dX4_thing_4 : decode cX4_thing 4 = .ok (.ifCond .eq 10, 3) := by decide +kernel
theorem dX4_thing_7 : decode cX4_thing 7 = .ok (.iload_n 2, 1) := by decide +kernel
theorem dX4_thing_8 : decode cX4_thing 8 = .ok (.invokestatic 45, 3) := by decide +kernel
theorem dX4_thing_11 : decode cX4_thing 11 = .ok (.ifCond .ne 6, 3) := by decide +kernel
theorem dX4_thing_14 : decode cX4_thing 14 = .ok (.bipush (-2), 2) := by decide +kernel
theorem dX4_thing_16 : decode cX4_thing 16 = .ok (.ireturn, 1) := by decide +kernel
theorem dX4_thing_17 : decode cX4_thing 17 = .ok (.iload_n 3, 1) := by decide +kernel
theorem dX4_thing_18 : decode cX4_thing 18 = .ok (.iconst 0, 1) := by decide +kernel
theorem dX4_thing_19 : decode cX4_thing 19 = .ok (.sipush 5000, 3) := by decide +kernel
theorem dX4_thing_22 : decode cX4_thing 22 = .ok (.invokestatic 48, 3) := by decide +kernel
theorem dX4_thing_25 : decode cX4_thing 25 = .ok (.ifCond .eq 11, 3) := by decide +kernel
theorem dX4_thing_28 : decode cX4_thing 28 = .ok (.iload 4, 2) := by decide +kernel
theorem dX4_thing_30 : decode cX4_thing 30 = .ok (.invokestatic 52, 3) := by decide +kernel
theorem dX4_thing_33 : decode cX4_thing 33 = .ok (.ifCond .ne 6, 3) := by decide +kernel
theorem dX4_thing_36 : decode cX4_thing 36 = .ok (.bipush (-2), 2) := by decide +kernel
theorem dX4_thing_38 : decode cX4_thing 38 = .ok (.ireturn, 1) := by decide +kernel
theorem dX4_thing_39 : decode cX4_thing 39 = .ok (.aload_n 0, 1) := by decide +kernel
theorem dX4_thing_40 : decode cX4_thing 40 = .ok (.getfield 12, 3) := by decide +kernel
theorem dX4_thing_43 : decode cX4_thing 43 = .ok (.iload_n 1, 1) := by decide +kernel
theorem dX4_thing_44 : decode cX4_thing 44 = .ok (.iload_n 2, 1) := by decide +kernel
theorem dX4_thing_45 : decode cX4_thing 45 = .ok (.iload_n 3, 1) := by decide +kernel
theorem dX4_thing_46 : decode cX4_thing 46 = .ok (.iload 4, 2) := by decide +kernel
theorem dX4_thing_48 : decode cX4_thing 48 = .ok (.invokevirtual 55, 3) := by decide +kernel
theorem dX4_thing_51 : decode cX4_thing 51 = .ok (.ireturn, 1) := by decide +kernel
set_option maxRecDepth 20000 in
theorem ggX4_promise_X4_isLand : GoodIn wsX4_promise wsX4_isLand := goodIn_r _ [6, 7, 8, 5, 9] (by decide +kernel) (by decide +kernel)
set_option maxRecDepth 20000 in
theorem gX4_promise_X4_isLand : GoodIn wsX4_promise (va_wsS RX4 52 yX4_isLand wsX4_isLand) := goodIn_app (goodIn_of _ (by decide +kernel)) ggX4_promise_X4_isLand
set_option maxRecDepth 20000 in
theorem ggX4_promise_X4_isWithin : GoodIn wsX4_promise wsX4_isWithin := goodIn_r _ [9] (by decide +kernel) (by decide +kernel)
