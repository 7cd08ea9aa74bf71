theorem dX1_horsesAlong_22 : decode cX1_horsesAlong 22 = .ok (.iload 4, 2) := by decide +kernel
theorem dX1_horsesAlong_24 : decode cX1_horsesAlong 24 = .ok (.bipush 12, 2) := by decide +kernel
theorem dX1_horsesAlong_26 : decode cX1_horsesAlong 26 = .ok (.if_icmp .ge 58, 3) := by decide +kernel
theorem dX1_horsesAlong_29 : decode cX1_horsesAlong 29 = .ok (.aload_n 0, 1) := by decide +kernel
theorem dX1_horsesAlong_30 : decode cX1_horsesAlong 30 = .ok (.getfield 23, 3) := by decide +kernel
theorem dX1_horsesAlong_33 : decode cX1_horsesAlong 33 = .ok (.iload_n 3, 1) := by decide +kernel
theorem dX1_horsesAlong_34 : decode cX1_horsesAlong 34 = .ok (.iaload, 1) := by decide +kernel
theorem dX1_horsesAlong_35 : decode cX1_horsesAlong 35 = .ok (.invokestatic 26, 3) := by decide +kernel
theorem dX1_horsesAlong_38 : decode cX1_horsesAlong 38 = .ok (.ifCond .eq 46, 3) := by decide +kernel
theorem dX1_horsesAlong_41 : decode cX1_horsesAlong 41 = .ok (.aload_n 0, 1) := by decide +kernel
theorem dX1_horsesAlong_42 : decode cX1_horsesAlong 42 = .ok (.getfield 23, 3) := by decide +kernel
theorem dX1_horsesAlong_45 : decode cX1_horsesAlong 45 = .ok (.iload_n 3, 1) := by decide +kernel
theorem dX1_horsesAlong_46 : decode cX1_horsesAlong 46 = .ok (.iaload, 1) := by decide +kernel
theorem dX1_horsesAlong_47 : decode cX1_horsesAlong 47 = .ok (.istore 5, 2) := by decide +kernel
theorem dX1_horsesAlong_49 : decode cX1_horsesAlong 49 = .ok (.aload_n 0, 1) := by decide +kernel
theorem dX1_horsesAlong_50 : decode cX1_horsesAlong 50 = .ok (.getfield 17, 3) := by decide +kernel
theorem dX1_horsesAlong_53 : decode cX1_horsesAlong 53 = .ok (.iload_n 3, 1) := by decide +kernel
theorem dX1_horsesAlong_54 : decode cX1_horsesAlong 54 = .ok (.aaload, 1) := by decide +kernel
theorem dX1_horsesAlong_55 : decode cX1_horsesAlong 55 = .ok (.iload 5, 2) := by decide +kernel
theorem dX1_horsesAlong_57 : decode cX1_horsesAlong 57 = .ok (.iaload, 1) := by decide +kernel
theorem dX1_horsesAlong_58 : decode cX1_horsesAlong 58 = .ok (.ifCond .le 17, 3) := by decide +kernel
theorem dX1_horsesAlong_61 : decode cX1_horsesAlong 61 = .ok (.iload_n 2, 1) := by decide +kernel
theorem dX1_horsesAlong_62 : decode cX1_horsesAlong 62 = .ok (.aload_n 0, 1) := by decide +kernel
theorem dX1_horsesAlong_63 : decode cX1_horsesAlong 63 = .ok (.getfield 17, 3) := by decide +kernel
theorem dX1_horsesAlong_66 : decode cX1_horsesAlong 66 = .ok (.iload_n 3, 1) := by decide +kernel
theorem dX1_horsesAlong_67 : decode cX1_horsesAlong 67 = .ok (.aaload, 1) := by decide +kernel
theorem dX1_horsesAlong_68 : decode cX1_horsesAlong 68 = .ok (.iload 5, 2) := by decide +kernel
theorem dX1_horsesAlong_70 : decode cX1_horsesAlong 70 = .ok (.iaload, 1) := by decide +kernel
theorem dX1_horsesAlong_71 : decode cX1_horsesAlong 71 = .ok (.invokestatic 71, 3) := by decide +kernel
theorem dX1_horsesAlong_74 : decode cX1_horsesAlong 74 = .ok (.istore_n 2, 1) := by decide +kernel
theorem dX1_horsesAlong_75 : decode cX1_horsesAlong 75 = .ok (.iload 5, 2) := by decide +kernel
theorem dX1_horsesAlong_77 : decode cX1_horsesAlong 77 = .ok (.istore_n 3, 1) := by decide +kernel
theorem dX1_horsesAlong_78 : decode cX1_horsesAlong 78 = .ok (.iinc 4 1, 3) := by decide +kernel
theorem dX1_horsesAlong_81 : decode cX1_horsesAlong 81 = .ok (.goto (-59), 3) := by decide +kernel
theorem dX1_horsesAlong_84 : decode cX1_horsesAlong 84 = .ok (.iload_n 2, 1) := by decide +kernel
theorem dX1_horsesAlong_85 : decode cX1_horsesAlong 85 = .ok (.aload_n 0, 1) := by decide +kernel
theorem dX1_horsesAlong_86 : decode cX1_horsesAlong 86 = .ok (.getfield 9, 3) := by decide +kernel
theorem dX1_horsesAlong_89 : decode cX1_horsesAlong 89 = .ok (.iload_n 3, 1) := by decide +kernel
theorem dX1_horsesAlong_90 : decode cX1_horsesAlong 90 = .ok (.iaload, 1) := by decide +kernel
theorem dX1_horsesAlong_91 : decode cX1_horsesAlong 91 = .ok (.invokestatic 71, 3) := by decide +kernel
theorem dX1_horsesAlong_94 : decode cX1_horsesAlong 94 = .ok (.ireturn, 1) := by decide +kernel
set_option maxRecDepth 20000 in
theorem ggX1_leadAlong_X8_isStation : GoodIn wsX1_leadAlong wsX8_isStation := lq_goor _ [6] rfl (by decide +kernel)
set_option maxRecDepth 20000 in
theorem gX1_leadAlong_X8_isStation_n26 : GoodIn wsX1_leadAlong (wsX8_isStation) := ggX1_leadAlong_X8_isStation
theorem dX1_leadAlong_0 : decode cX1_leadAlong 0 = .ok (.iload_n 1, 1) := by decide +kernel
theorem dX1_leadAlong_1 : decode cX1_leadAlong 1 = .ok (.invokestatic 26, 3) := by decide +kernel
theorem dX1_leadAlong_4 : decode cX1_leadAlong 4 = .ok (.ifCond .ne 4, 3) := by decide +kernel
theorem dX1_leadAlong_7 : decode cX1_leadAlong 7 = .ok (.return_, 1) := by decide +kernel
theorem dX1_leadAlong_8 : decode cX1_leadAlong 8 = .ok (.aload_n 0, 1) := by decide +kernel
theorem dX1_leadAlong_9 : decode cX1_leadAlong 9 = .ok (.getfield 9, 3) := by decide +kernel
theorem dX1_leadAlong_12 : decode cX1_leadAlong 12 = .ok (.iload_n 1, 1) := by decide +kernel
theorem dX1_leadAlong_13 : decode cX1_leadAlong 13 = .ok (.dup2, 1) := by decide +kernel
theorem dX1_leadAlong_14 : decode cX1_leadAlong 14 = .ok (.iaload, 1) := by decide +kernel
theorem dX1_leadAlong_15 : decode cX1_leadAlong 15 = .ok (.iload_n 2, 1) := by decide +kernel
theorem dX1_leadAlong_16 : decode cX1_leadAlong 16 = .ok (.iadd, 1) := by decide +kernel
theorem dX1_leadAlong_17 : decode cX1_leadAlong 17 = .ok (.iastore, 1) := by decide +kernel
theorem dX1_leadAlong_18 : decode cX1_leadAlong 18 = .ok (.iload_n 1, 1) := by decide +kernel
theorem dX1_leadAlong_19 : decode cX1_leadAlong 19 = .ok (.istore_n 3, 1) := by decide +kernel
theorem dX1_leadAlong_20 : decode cX1_leadAlong 20 = .ok (.iconst 0, 1) := by decide +kernel
theorem dX1_leadAlong_21 : decode cX1_leadAlong 21 = .ok (.istore 4, 2) := by decide +kernel
theorem dX1_leadAlong_23 : decode cX1_leadAlong 23 = .ok (.iload 4, 2) := by decide +kernel
theorem dX1_leadAlong_25 : decode cX1_leadAlong 25 = .ok (.bipush 12, 2) := by decide +kernel
theorem dX1_leadAlong_27 : decode cX1_leadAlong 27 = .ok (.if_icmp .ge 73, 3) := by decide +kernel
theorem dX1_leadAlong_30 : decode cX1_leadAlong 30 = .ok (.aload_n 0, 1) := by decide +kernel
theorem dX1_leadAlong_31 : decode cX1_leadAlong 31 = .ok (.getfield 23, 3) := by decide +kernel
theorem dX1_leadAlong_34 : decode cX1_leadAlong 34 = .ok (.iload_n 3, 1) := by decide +kernel
theorem dX1_leadAlong_35 : decode cX1_leadAlong 35 = .ok (.iaload, 1) := by decide +kernel
theorem dX1_leadAlong_36 : decode cX1_leadAlong 36 = .ok (.invokestatic 26, 3) := by decide +kernel
theorem dX1_leadAlong_39 : decode cX1_leadAlong 39 = .ok (.ifCond .eq 61, 3) := by decide +kernel
theorem dX1_leadAlong_42 : decode cX1_leadAlong 42 = .ok (.aload_n 0, 1) := by decide +kernel
theorem dX1_leadAlong_43 : decode cX1_leadAlong 43 = .ok (.getfield 23, 3) := by decide +kernel
theorem dX1_leadAlong_46 : decode cX1_leadAlong 46 = .ok (.iload_n 3, 1) := by decide +kernel
theorem dX1_leadAlong_47 : decode cX1_leadAlong 47 = .ok (.iaload, 1) := by decide +kernel
theorem dX1_leadAlong_48 : decode cX1_leadAlong 48 = .ok (.istore 5, 2) := by decide +kernel
theorem dX1_leadAlong_50 : decode cX1_leadAlong 50 = .ok (.aload_n 0, 1) := by decide +kernel
theorem dX1_leadAlong_51 : decode cX1_leadAlong 51 = .ok (.getfield 17, 3) := by decide +kernel
theorem dX1_leadAlong_54 : decode cX1_leadAlong 54 = .ok (.iload_n 3, 1) := by decide +kernel
theorem dX1_leadAlong_55 : decode cX1_leadAlong 55 = .ok (.aaload, 1) := by decide +kernel
theorem dX1_leadAlong_56 : decode cX1_leadAlong 56 = .ok (.iload 5, 2) := by decide +kernel
theorem dX1_leadAlong_58 : decode cX1_leadAlong 58 = .ok (.iaload, 1) := by decide +kernel
theorem dX1_leadAlong_59 : decode cX1_leadAlong 59 = .ok (.ifCond .le 19, 3) := by decide +kernel
theorem dX1_leadAlong_62 : decode cX1_leadAlong 62 = .ok (.aload_n 0, 1) := by decide +kernel
theorem dX1_leadAlong_63 : decode cX1_leadAlong 63 = .ok (.getfield 17, 3) := by decide +kernel
theorem dX1_leadAlong_66 : decode cX1_leadAlong 66 = .ok (.iload_n 3, 1) := by decide +kernel
theorem dX1_leadAlong_67 : decode cX1_leadAlong 67 = .ok (.aaload, 1) := by decide +kernel
theorem dX1_leadAlong_68 : decode cX1_leadAlong 68 = .ok (.iload 5, 2) := by decide +kernel
theorem dX1_leadAlong_70 : decode cX1_leadAlong 70 = .ok (.dup2, 1) := by decide +kernel
theorem dX1_leadAlong_71 : decode cX1_leadAlong 71 = .ok (.iaload, 1) := by decide +kernel
theorem dX1_leadAlong_72 : decode cX1_leadAlong 72 = .ok (.iload_n 2, 1) := by decide +kernel
theorem dX1_leadAlong_73 : decode cX1_leadAlong 73 = .ok (.isub, 1) := by decide +kernel
theorem dX1_leadAlong_74 : decode cX1_leadAlong 74 = .ok (.iastore, 1) := by decide +kernel
theorem dX1_leadAlong_75 : decode cX1_leadAlong 75 = .ok (.goto 16, 3) := by decide +kernel
theorem dX1_leadAlong_78 : decode cX1_leadAlong 78 = .ok (.aload_n 0, 1) := by decide +kernel
theorem dX1_leadAlong_79 : decode cX1_leadAlong 79 = .ok (.getfield 17, 3) := by decide +kernel
theorem dX1_leadAlong_82 : decode cX1_leadAlong 82 = .ok (.iload 5, 2) := by decide +kernel
theorem dX1_leadAlong_84 : decode cX1_leadAlong 84 = .ok (.aaload, 1) := by decide +kernel
theorem dX1_leadAlong_85 : decode cX1_leadAlong 85 = .ok (.iload_n 3, 1) := by decide +kernel
theorem dX1_leadAlong_86 : decode cX1_leadAlong 86 = .ok (.dup2, 1) := by decide +kernel
theorem dX1_leadAlong_87 : decode cX1_leadAlong 87 = .ok (.iaload, 1) := by decide +kernel
theorem dX1_leadAlong_88 : decode cX1_leadAlong 88 = .ok (.iload_n 2, 1) := by decide +kernel
theorem dX1_leadAlong_89 : decode cX1_leadAlong 89 = .ok (.iadd, 1) := by decide +kernel
theorem dX1_leadAlong_90 : decode cX1_leadAlong 90 = .ok (.iastore, 1) := by decide +kernel
theorem dX1_leadAlong_91 : decode cX1_leadAlong 91 = .ok (.iload 5, 2) := by decide +kernel
theorem dX1_leadAlong_93 : decode cX1_leadAlong 93 = .ok (.istore_n 3, 1) := by decide +kernel
theorem dX1_leadAlong_94 : decode cX1_leadAlong 94 = .ok (.iinc 4 1, 3) := by decide +kernel
theorem dX1_leadAlong_97 : decode cX1_leadAlong 97 = .ok (.goto (-74), 3) := by decide +kernel
theorem dX1_leadAlong_100 : decode cX1_leadAlong 100 = .ok (.aload_n 0, 1) := by decide +kernel
theorem dX1_leadAlong_101 : decode cX1_leadAlong 101 = .ok (.getfield 9, 3) := by decide +kernel
theorem dX1_leadAlong_104 : decode cX1_leadAlong 104 = .ok (.iload_n 3, 1) := by decide +kernel
theorem dX1_leadAlong_105 : decode cX1_leadAlong 105 = .ok (.dup2, 1) := by decide +kernel
theorem dX1_leadAlong_106 : decode cX1_leadAlong 106 = .ok (.iaload, 1) := by decide +kernel
theorem dX1_leadAlong_107 : decode cX1_leadAlong 107 = .ok (.iload_n 2, 1) := by decide +kernel
theorem dX1_leadAlong_108 : decode cX1_leadAlong 108 = .ok (.isub, 1) := by decide +kernel
theorem dX1_leadAlong_109 : decode cX1_leadAlong 109 = .ok (.iastore, 1) := by decide +kernel
theorem dX1_leadAlong_110 : decode cX1_leadAlong 110 = .ok (.return_, 1) := by decide +kernel
set_option maxRecDepth 20000 in
theorem ggX2_init_J7_fill_53178 : GoodIn wsX2_init wsJ7_fill_53178 := lq_goor _ [13] rfl (by decide +kernel)
set_option maxRecDepth 20000 in
theorem gX2_init_J7_fill_53178 : GoodIn wsX2_init (va_wsS RX2 28 yJ7_fill_53178 wsJ7_fill_53178) := goodIn_app (lq_goor _ [10, 11, 12] rfl (by decide +kernel)) ggX2_init_J7_fill_53178
theorem dX2_init_0 : decode cX2_init 0 = .ok (.aload_n 0, 1) := by decide +kernel
theorem dX2_init_1 : decode cX2_init 1 = .ok (.invokespecial 3, 3) := by decide +kernel
theorem dX2_init_4 : decode cX2_init 4 = .ok (.aload_n 0, 1) := by decide +kernel
theorem dX2_init_5 : decode cX2_init 5 = .ok (.bipush 12, 2) := by decide +kernel
theorem dX2_init_7 : decode cX2_init 7 = .ok (.newarray .int, 2) := by decide +kernel
theorem dX2_init_9 : decode cX2_init 9 = .ok (.putfield 9, 3) := by decide +kernel
theorem dX2_init_12 : decode cX2_init 12 = .ok (.aload_n 0, 1) := by decide +kernel
theorem dX2_init_13 : decode cX2_init 13 = .ok (.iconst 0, 1) := by decide +kernel
theorem dX2_init_14 : decode cX2_init 14 = .ok (.putfield 15, 3) := by decide +kernel
theorem dX2_init_17 : decode cX2_init 17 = .ok (.aload_n 0, 1) := by decide +kernel
theorem dX2_init_18 : decode cX2_init 18 = .ok (.iload_n 1, 1) := by decide +kernel
theorem dX2_init_19 : decode cX2_init 19 = .ok (.putfield 19, 3) := by decide +kernel
theorem dX2_init_22 : decode cX2_init 22 = .ok (.aload_n 0, 1) := by decide +kernel
theorem dX2_init_23 : decode cX2_init 23 = .ok (.iload_n 2, 1) := by decide +kernel
theorem dX2_init_24 : decode cX2_init 24 = .ok (.putfield 22, 3) := by decide +kernel
theorem dX2_init_27 : decode cX2_init 27 = .ok (.aload_n 0, 1) := by decide +kernel
theorem dX2_init_28 : decode cX2_init 28 = .ok (.aload_n 3, 1) := by decide +kernel
theorem dX2_init_29 : decode cX2_init 29 = .ok (.putfield 25, 3) := by decide +kernel
theorem dX2_init_32 : decode cX2_init 32 = .ok (.aload_n 0, 1) := by decide +kernel
theorem dX2_init_33 : decode cX2_init 33 = .ok (.getfield 9, 3) := by decide +kernel
theorem dX2_init_36 : decode cX2_init 36 = .ok (.iconst (-1), 1) := by decide +kernel
theorem dX2_init_37 : decode cX2_init 37 = .ok (.invokestatic 28, 3) := by decide +kernel
theorem dX2_init_40 : decode cX2_init 40 = .ok (.return_, 1) := by decide +kernel
theorem dX2_isUnderWay_0 : decode cX2_isUnderWay 0 = .ok (.aload_n 0, 1) := by decide +kernel
theorem dX2_isUnderWay_1 : decode cX2_isUnderWay 1 = .ok (.getfield 15, 3) := by decide +kernel
theorem dX2_isUnderWay_4 : decode cX2_isUnderWay 4 = .ok (.ifCond .eq 11, 3) := by decide +kernel
theorem dX2_isUnderWay_7 : decode cX2_isUnderWay 7 = .ok (.aload_n 0, 1) := by decide +kernel
theorem dX2_isUnderWay_8 : decode cX2_isUnderWay 8 = .ok (.getfield 15, 3) := by decide +kernel
theorem dX2_isUnderWay_11 : decode cX2_isUnderWay 11 = .ok (.iconst 1, 1) := by decide +kernel
theorem dX2_isUnderWay_12 : decode cX2_isUnderWay 12 = .ok (.if_icmp .ne 7, 3) := by decide +kernel
theorem dX2_isUnderWay_15 : decode cX2_isUnderWay 15 = .ok (.iconst 1, 1) := by decide +kernel
theorem dX2_isUnderWay_16 : decode cX2_isUnderWay 16 = .ok (.goto 4, 3) := by decide +kernel
theorem dX2_isUnderWay_19 : decode cX2_isUnderWay 19 = .ok (.iconst 0, 1) := by decide +kernel
theorem dX2_isUnderWay_20 : decode cX2_isUnderWay 20 = .ok (.ireturn, 1) := by decide +kernel
theorem dX2_stationOfWay_0 : decode cX2_stationOfWay 0 = .ok (.iload_n 1, 1) := by decide +kernel
theorem dX2_stationOfWay_1 : decode cX2_stationOfWay 1 = .ok (.ifCond .lt 21, 3) := by decide +kernel
theorem dX2_stationOfWay_4 : decode cX2_stationOfWay 4 = .ok (.iload_n 1, 1) := by decide +kernel
theorem dX2_stationOfWay_5 : decode cX2_stationOfWay 5 = .ok (.aload_n 0, 1) := by decide +kernel
theorem dX2_stationOfWay_6 : decode cX2_stationOfWay 6 = .ok (.getfield 25, 3) := by decide +kernel
theorem dX2_stationOfWay_9 : decode cX2_stationOfWay 9 = .ok (.arraylength, 1) := by decide +kernel
theorem dX2_stationOfWay_10 : decode cX2_stationOfWay 10 = .ok (.if_icmp .ge 12, 3) := by decide +kernel
theorem dX2_stationOfWay_13 : decode cX2_stationOfWay 13 = .ok (.aload_n 0, 1) := by decide +kernel
theorem dX2_stationOfWay_14 : decode cX2_stationOfWay 14 = .ok (.getfield 25, 3) := by decide +kernel
theorem dX2_stationOfWay_17 : decode cX2_stationOfWay 17 = .ok (.iload_n 1, 1) := by decide +kernel
theorem dX2_stationOfWay_18 : decode cX2_stationOfWay 18 = .ok (.iaload, 1) := by decide +kernel
theorem dX2_stationOfWay_19 : decode cX2_stationOfWay 19 = .ok (.goto 4, 3) := by decide +kernel
theorem dX2_stationOfWay_22 : decode cX2_stationOfWay 22 = .ok (.iconst (-1), 1) := by decide +kernel
theorem dX2_stationOfWay_23 : decode cX2_stationOfWay 23 = .ok (.ireturn, 1) := by decide +kernel
set_option maxRecDepth 20000 in
theorem ggX2_lastStation_X2_stationOfWay : GoodIn wsX2_lastStation wsX2_stationOfWay := goodIn_ca (lq_goor _ [6, 7] rfl (by decide +kernel)) (goodIn_sub (fun _ h => List.mem_cons_of_mem _ (List.mem_append_right _ h)) gw_wsX20)
set_option maxRecDepth 20000 in
theorem gX2_lastStation_X2_stationOfWay : GoodIn wsX2_lastStation (wsV RX2 37 RX2 yX2_stationOfWay wsX2_stationOfWay) := goodIn_app (lq_goor _ [2, 3, 4, 5] rfl (by decide +kernel)) ggX2_lastStation_X2_stationOfWay
theorem dX2_lastStation_0 : decode cX2_lastStation 0 = .ok (.aload_n 0, 1) := by decide +kernel
theorem dX2_lastStation_1 : decode cX2_lastStation 1 = .ok (.aload_n 0, 1) := by decide +kernel
theorem dX2_lastStation_2 : decode cX2_lastStation 2 = .ok (.getfield 34, 3) := by decide +kernel
theorem dX2_lastStation_5 : decode cX2_lastStation 5 = .ok (.iconst 1, 1) := by decide +kernel
theorem dX2_lastStation_6 : decode cX2_lastStation 6 = .ok (.isub, 1) := by decide +kernel
theorem dX2_lastStation_7 : decode cX2_lastStation 7 = .ok (.invokevirtual 37, 3) := by decide +kernel
theorem dX2_lastStation_10 : decode cX2_lastStation 10 = .ok (.ireturn, 1) := by decide +kernel
set_option maxRecDepth 20000 in
theorem ggX2_nextStation_X2_stationOfWay : GoodIn wsX2_nextStation wsX2_stationOfWay := goodIn_ca (lq_goor _ [6, 7] rfl (by decide +kernel)) (goodIn_sub (fun _ h => List.mem_cons_of_mem _ (List.mem_append_right _ h)) gw_wsX20)
set_option maxRecDepth 20000 in
theorem gX2_nextStation_X2_stationOfWay : GoodIn wsX2_nextStation (wsV RX2 37 RX2 yX2_stationOfWay wsX2_stationOfWay) := goodIn_app (lq_goor _ [2, 3, 4, 5] rfl (by decide +kernel)) ggX2_nextStation_X2_stationOfWay
theorem dX2_nextStation_0 : decode cX2_nextStation 0 = .ok (.aload_n 0, 1) := by decide +kernel
theorem dX2_nextStation_1 : decode cX2_nextStation 1 = .ok (.aload_n 0, 1) := by decide +kernel
theorem dX2_nextStation_2 : decode cX2_nextStation 2 = .ok (.getfield 34, 3) := by decide +kernel
theorem dX2_nextStation_5 : decode cX2_nextStation 5 = .ok (.invokevirtual 37, 3) := by decide +kernel
theorem dX2_nextStation_8 : decode cX2_nextStation 8 = .ok (.ireturn, 1) := by decide +kernel
set_option maxRecDepth 20000 in
theorem ggX2_newsKnownSince_X8_isStation : GoodIn wsX2_newsKnownSince wsX8_isStation := lq_goor _ [4] rfl (by decide +kernel)
set_option maxRecDepth 20000 in
theorem gX2_newsKnownSince_X8_isStation_n41 : GoodIn wsX2_newsKnownSince (wsX8_isStation) := ggX2_newsKnownSince_X8_isStation
theorem dX2_newsKnownSince_0 : decode cX2_newsKnownSince 0 = .ok (.iload_n 1, 1) := by decide +kernel
theorem dX2_newsKnownSince_1 : decode cX2_newsKnownSince 1 = .ok (.invokestatic 41, 3) := by decide +kernel
theorem dX2_newsKnownSince_4 : decode cX2_newsKnownSince 4 = .ok (.ifCond .eq 12, 3) := by decide +kernel
theorem dX2_newsKnownSince_7 : decode cX2_newsKnownSince 7 = .ok (.aload_n 0, 1) := by decide +kernel
theorem dX2_newsKnownSince_8 : decode cX2_newsKnownSince 8 = .ok (.getfield 9, 3) := by decide +kernel
theorem dX2_newsKnownSince_11 : decode cX2_newsKnownSince 11 = .ok (.iload_n 1, 1) := by decide +kernel
theorem dX2_newsKnownSince_12 : decode cX2_newsKnownSince 12 = .ok (.iaload, 1) := by decide +kernel
theorem dX2_newsKnownSince_13 : decode cX2_newsKnownSince 13 = .ok (.goto 4, 3) := by decide +kernel
theorem dX2_newsKnownSince_16 : decode cX2_newsKnownSince 16 = .ok (.iconst (-1), 1) := by decide +kernel
theorem dX2_newsKnownSince_17 : decode cX2_newsKnownSince 17 = .ok (.ireturn, 1) := by decide +kernel
theorem dX2_horseRidden_0 : decode cX2_horseRidden 0 = .ok (.aload_n 0, 1) := by decide +kernel
theorem dX2_horseRidden_1 : decode cX2_horseRidden 1 = .ok (.getfield 15, 3) := by decide +kernel
theorem dX2_horseRidden_4 : decode cX2_horseRidden 4 = .ok (.iconst 1, 1) := by decide +kernel
theorem dX2_horseRidden_5 : decode cX2_horseRidden 5 = .ok (.if_icmp .ne 20, 3) := by decide +kernel
theorem dX2_horseRidden_8 : decode cX2_horseRidden 8 = .ok (.aload_n 0, 1) := by decide +kernel
theorem dX2_horseRidden_9 : decode cX2_horseRidden 9 = .ok (.getfield 45, 3) := by decide +kernel
theorem dX2_horseRidden_12 : decode cX2_horseRidden 12 = .ok (.ifnull 13, 3) := by decide +kernel
theorem dX2_horseRidden_15 : decode cX2_horseRidden 15 = .ok (.aload_n 0, 1) := by decide +kernel
theorem dX2_horseRidden_16 : decode cX2_horseRidden 16 = .ok (.getfield 45, 3) := by decide +kernel
theorem dX2_horseRidden_19 : decode cX2_horseRidden 19 = .ok (.getfield 49, 3) := by decide +kernel
theorem dX2_horseRidden_22 : decode cX2_horseRidden 22 = .ok (.goto 4, 3) := by decide +kernel
theorem dX2_horseRidden_25 : decode cX2_horseRidden 25 = .ok (.iconst (-1), 1) := by decide +kernel
theorem dX2_horseRidden_26 : decode cX2_horseRidden 26 = .ok (.ireturn, 1) := by decide +kernel
theorem dX2_leaveOn_0 : decode cX2_leaveOn 0 = .ok (.aload_n 0, 1) := by decide +kernel
theorem dX2_leaveOn_1 : decode cX2_leaveOn 1 = .ok (.aload_n 1, 1) := by decide +kernel
theorem dX2_leaveOn_2 : decode cX2_leaveOn 2 = .ok (.putfield 45, 3) := by decide +kernel
theorem dX2_leaveOn_5 : decode cX2_leaveOn 5 = .ok (.aload_n 0, 1) := by decide +kernel
theorem dX2_leaveOn_6 : decode cX2_leaveOn 6 = .ok (.iload_n 2, 1) := by decide +kernel
theorem dX2_leaveOn_7 : decode cX2_leaveOn 7 = .ok (.putfield 54, 3) := by decide +kernel
theorem dX2_leaveOn_10 : decode cX2_leaveOn 10 = .ok (.aload_n 0, 1) := by decide +kernel
theorem dX2_leaveOn_11 : decode cX2_leaveOn 11 = .ok (.iload_n 3, 1) := by decide +kernel
theorem dX2_leaveOn_12 : decode cX2_leaveOn 12 = .ok (.putfield 57, 3) := by decide +kernel
theorem dX2_leaveOn_15 : decode cX2_leaveOn 15 = .ok (.aload_n 0, 1) := by decide +kernel
theorem dX2_leaveOn_16 : decode cX2_leaveOn 16 = .ok (.iconst 1, 1) := by decide +kernel
theorem dX2_leaveOn_17 : decode cX2_leaveOn 17 = .ok (.putfield 15, 3) := by decide +kernel
theorem dX2_leaveOn_20 : decode cX2_leaveOn 20 = .ok (.return_, 1) := by decide +kernel
set_option maxRecDepth 20000 in
theorem ggX2_comeToNextStation_X2_nextStation : GoodIn wsX2_comeToNextStation wsX2_nextStation := goodIn_ca (lq_goor _ [10, 3, 11, 12, 13, 9, 14, 4] rfl (by decide +kernel)) (goodIn_sub (fun _ h => List.mem_cons_of_mem _ (List.mem_append_right _ h)) gw_wsX20)
set_option maxRecDepth 20000 in
theorem gX2_comeToNextStation_X2_nextStation : GoodIn wsX2_comeToNextStation (wsV RX2 60 RX2 yX2_nextStation wsX2_nextStation) := goodIn_app (lq_goor _ [6, 7, 8, 9] rfl (by decide +kernel)) ggX2_comeToNextStation_X2_nextStation
set_option maxRecDepth 20000 in
theorem ggX2_comeToNextStation_X8_isStation : GoodIn wsX2_comeToNextStation wsX8_isStation := lq_goor _ [17] rfl (by decide +kernel)
set_option maxRecDepth 20000 in
theorem gX2_comeToNextStation_X8_isStation_n41 : GoodIn wsX2_comeToNextStation (wsX8_isStation) := ggX2_comeToNextStation_X8_isStation
theorem dX2_comeToNextStation_0 : decode cX2_comeToNextStation 0 = .ok (.aload_n 0, 1) := by decide +kernel
theorem dX2_comeToNextStation_1 : decode cX2_comeToNextStation 1 = .ok (.invokevirtual 60, 3) := by decide +kernel
theorem dX2_comeToNextStation_4 : decode cX2_comeToNextStation 4 = .ok (.istore_n 2, 1) := by decide +kernel
theorem dX2_comeToNextStation_5 : decode cX2_comeToNextStation 5 = .ok (.iload_n 2, 1) := by decide +kernel
theorem dX2_comeToNextStation_6 : decode cX2_comeToNextStation 6 = .ok (.invokestatic 41, 3) := by decide +kernel
theorem dX2_comeToNextStation_9 : decode cX2_comeToNextStation 9 = .ok (.ifCond .ne 4, 3) := by decide +kernel
theorem dX2_comeToNextStation_12 : decode cX2_comeToNextStation 12 = .ok (.return_, 1) := by decide +kernel
theorem dX2_comeToNextStation_13 : decode cX2_comeToNextStation 13 = .ok (.aload_n 0, 1) := by decide +kernel
theorem dX2_comeToNextStation_14 : decode cX2_comeToNextStation 14 = .ok (.getfield 9, 3) := by decide +kernel
theorem dX2_comeToNextStation_17 : decode cX2_comeToNextStation 17 = .ok (.iload_n 2, 1) := by decide +kernel
theorem dX2_comeToNextStation_18 : decode cX2_comeToNextStation 18 = .ok (.iload_n 1, 1) := by decide +kernel
theorem dX2_comeToNextStation_19 : decode cX2_comeToNextStation 19 = .ok (.iastore, 1) := by decide +kernel
theorem dX2_comeToNextStation_20 : decode cX2_comeToNextStation 20 = .ok (.aload_n 0, 1) := by decide +kernel
theorem dX2_comeToNextStation_21 : decode cX2_comeToNextStation 21 = .ok (.iload_n 1, 1) := by decide +kernel
theorem dX2_comeToNextStation_22 : decode cX2_comeToNextStation 22 = .ok (.putfield 64, 3) := by decide +kernel
theorem dX2_comeToNextStation_25 : decode cX2_comeToNextStation 25 = .ok (.aload_n 0, 1) := by decide +kernel
theorem dX2_comeToNextStation_26 : decode cX2_comeToNextStation 26 = .ok (.dup, 1) := by decide +kernel
theorem dX2_comeToNextStation_27 : decode cX2_comeToNextStation 27 = .ok (.getfield 34, 3) := by decide +kernel
theorem dX2_comeToNextStation_30 : decode cX2_comeToNextStation 30 = .ok (.iconst 1, 1) := by decide +kernel
theorem dX2_comeToNextStation_31 : decode cX2_comeToNextStation 31 = .ok (.iadd, 1) := by decide +kernel
theorem dX2_comeToNextStation_32 : decode cX2_comeToNextStation 32 = .ok (.putfield 34, 3) := by decide +kernel
theorem dX2_comeToNextStation_35 : decode cX2_comeToNextStation 35 = .ok (.aload_n 0, 1) := by decide +kernel
theorem dX2_comeToNextStation_36 : decode cX2_comeToNextStation 36 = .ok (.aload_n 0, 1) := by decide +kernel
theorem dX2_comeToNextStation_37 : decode cX2_comeToNextStation 37 = .ok (.getfield 34, 3) := by decide +kernel
