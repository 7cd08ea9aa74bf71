theorem dX1_leastPains_26 : decode cX1_leastPains 26 = .ok (.iconst 0, 1) := by decide +kernel
theorem dX1_leastPains_27 : decode cX1_leastPains 27 = .ok (.istore_n 3, 1) := by decide +kernel
theorem dX1_leastPains_28 : decode cX1_leastPains 28 = .ok (.iload_n 3, 1) := by decide +kernel
theorem dX1_leastPains_29 : decode cX1_leastPains 29 = .ok (.bipush 60, 2) := by decide +kernel
theorem dX1_leastPains_31 : decode cX1_leastPains 31 = .ok (.if_icmp .gt 67, 3) := by decide +kernel
theorem dX1_leastPains_34 : decode cX1_leastPains 34 = .ok (.aload_n 0, 1) := by decide +kernel
theorem dX1_leastPains_35 : decode cX1_leastPains 35 = .ok (.invokevirtual 36, 3) := by decide +kernel
theorem dX1_leastPains_38 : decode cX1_leastPains 38 = .ok (.ifCond .eq 60, 3) := by decide +kernel
theorem dX1_leastPains_41 : decode cX1_leastPains 41 = .ok (.aload_n 0, 1) := by decide +kernel
theorem dX1_leastPains_42 : decode cX1_leastPains 42 = .ok (.aload_n 1, 1) := by decide +kernel
theorem dX1_leastPains_43 : decode cX1_leastPains 43 = .ok (.invokevirtual 40, 3) := by decide +kernel
theorem dX1_leastPains_46 : decode cX1_leastPains 46 = .ok (.aload_n 0, 1) := by decide +kernel
theorem dX1_leastPains_47 : decode cX1_leastPains 47 = .ok (.invokevirtual 44, 3) := by decide +kernel
theorem dX1_leastPains_50 : decode cX1_leastPains 50 = .ok (.istore 4, 2) := by decide +kernel
theorem dX1_leastPains_52 : decode cX1_leastPains 52 = .ok (.iload 4, 2) := by decide +kernel
theorem dX1_leastPains_54 : decode cX1_leastPains 54 = .ok (.invokestatic 26, 3) := by decide +kernel
theorem dX1_leastPains_57 : decode cX1_leastPains 57 = .ok (.ifCond .ne 6, 3) := by decide +kernel
theorem dX1_leastPains_60 : decode cX1_leastPains 60 = .ok (.bipush (-2), 2) := by decide +kernel
theorem dX1_leastPains_62 : decode cX1_leastPains 62 = .ok (.ireturn, 1) := by decide +kernel
theorem dX1_leastPains_63 : decode cX1_leastPains 63 = .ok (.aload_n 0, 1) := by decide +kernel
theorem dX1_leastPains_64 : decode cX1_leastPains 64 = .ok (.iload 4, 2) := by decide +kernel
theorem dX1_leastPains_66 : decode cX1_leastPains 66 = .ok (.invokevirtual 48, 3) := by decide +kernel
theorem dX1_leastPains_69 : decode cX1_leastPains 69 = .ok (.istore 5, 2) := by decide +kernel
theorem dX1_leastPains_71 : decode cX1_leastPains 71 = .ok (.iload_n 2, 1) := by decide +kernel
theorem dX1_leastPains_72 : decode cX1_leastPains 72 = .ok (.iload 5, 2) := by decide +kernel
theorem dX1_leastPains_74 : decode cX1_leastPains 74 = .ok (.aload_n 0, 1) := by decide +kernel
theorem dX1_leastPains_75 : decode cX1_leastPains 75 = .ok (.getfield 20, 3) := by decide +kernel
theorem dX1_leastPains_78 : decode cX1_leastPains 78 = .ok (.iload 4, 2) := by decide +kernel
theorem dX1_leastPains_80 : decode cX1_leastPains 80 = .ok (.iaload, 1) := by decide +kernel
theorem dX1_leastPains_81 : decode cX1_leastPains 81 = .ok (.imul, 1) := by decide +kernel
theorem dX1_leastPains_82 : decode cX1_leastPains 82 = .ok (.iadd, 1) := by decide +kernel
theorem dX1_leastPains_83 : decode cX1_leastPains 83 = .ok (.istore_n 2, 1) := by decide +kernel
theorem dX1_leastPains_84 : decode cX1_leastPains 84 = .ok (.aload_n 0, 1) := by decide +kernel
theorem dX1_leastPains_85 : decode cX1_leastPains 85 = .ok (.iload 4, 2) := by decide +kernel
theorem dX1_leastPains_87 : decode cX1_leastPains 87 = .ok (.iload 5, 2) := by decide +kernel
theorem dX1_leastPains_89 : decode cX1_leastPains 89 = .ok (.invokevirtual 52, 3) := by decide +kernel
theorem dX1_leastPains_92 : decode cX1_leastPains 92 = .ok (.iinc 3 1, 3) := by decide +kernel
theorem dX1_leastPains_95 : decode cX1_leastPains 95 = .ok (.goto (-67), 3) := by decide +kernel
theorem dX1_leastPains_98 : decode cX1_leastPains 98 = .ok (.iload_n 2, 1) := by decide +kernel
theorem dX1_leastPains_99 : decode cX1_leastPains 99 = .ok (.ireturn, 1) := by decide +kernel
theorem dX1_isAnyShort_0 : decode cX1_isAnyShort 0 = .ok (.iconst 0, 1) := by decide +kernel
theorem dX1_isAnyShort_1 : decode cX1_isAnyShort 1 = .ok (.istore_n 1, 1) := by decide +kernel
theorem dX1_isAnyShort_2 : decode cX1_isAnyShort 2 = .ok (.iload_n 1, 1) := by decide +kernel
theorem dX1_isAnyShort_3 : decode cX1_isAnyShort 3 = .ok (.bipush 12, 2) := by decide +kernel
theorem dX1_isAnyShort_5 : decode cX1_isAnyShort 5 = .ok (.if_icmp .ge 20, 3) := by decide +kernel
theorem dX1_isAnyShort_8 : decode cX1_isAnyShort 8 = .ok (.aload_n 0, 1) := by decide +kernel
theorem dX1_isAnyShort_9 : decode cX1_isAnyShort 9 = .ok (.getfield 9, 3) := by decide +kernel
theorem dX1_isAnyShort_12 : decode cX1_isAnyShort 12 = .ok (.iload_n 1, 1) := by decide +kernel
theorem dX1_isAnyShort_13 : decode cX1_isAnyShort 13 = .ok (.iaload, 1) := by decide +kernel
theorem dX1_isAnyShort_14 : decode cX1_isAnyShort 14 = .ok (.ifCond .ge 5, 3) := by decide +kernel
theorem dX1_isAnyShort_17 : decode cX1_isAnyShort 17 = .ok (.iconst 1, 1) := by decide +kernel
theorem dX1_isAnyShort_18 : decode cX1_isAnyShort 18 = .ok (.ireturn, 1) := by decide +kernel
theorem dX1_isAnyShort_19 : decode cX1_isAnyShort 19 = .ok (.iinc 1 1, 3) := by decide +kernel
theorem dX1_isAnyShort_22 : decode cX1_isAnyShort 22 = .ok (.goto (-20), 3) := by decide +kernel
theorem dX1_isAnyShort_25 : decode cX1_isAnyShort 25 = .ok (.iconst 0, 1) := by decide +kernel
theorem dX1_isAnyShort_26 : decode cX1_isAnyShort 26 = .ok (.ireturn, 1) := by decide +kernel
set_option maxRecDepth 20000 in
theorem ggX1_spread_X1_spreadFrom : GoodIn wsX1_spread wsX1_spreadFrom := goodIn_ca (goodIn_ca (lq_goor _ [9, 1, 4, 10, 11, 12, 13, 14, 15, 16, 17, 18, 19, 20, 21, 22, 8, 23, 24] rfl (by decide +kernel)) (goodIn_sub (fun _ h => List.mem_cons_of_mem _ (List.mem_append_left _ (List.mem_append_right _ h))) gw_wsX10)) (goodIn_sub (fun _ h => List.mem_cons_of_mem _ (List.mem_append_right _ h)) gw_wsX30)
set_option maxRecDepth 20000 in
theorem gX1_spread_X1_spreadFrom : GoodIn wsX1_spread (wsV RX1 57 RX1 yX1_spreadFrom wsX1_spreadFrom) := goodIn_app (lq_goor _ [5, 6, 7, 8] rfl (by decide +kernel)) ggX1_spread_X1_spreadFrom
theorem dX1_spread_0 : decode cX1_spread 0 = .ok (.iconst 0, 1) := by decide +kernel
theorem dX1_spread_1 : decode cX1_spread 1 = .ok (.istore_n 2, 1) := by decide +kernel
theorem dX1_spread_2 : decode cX1_spread 2 = .ok (.iload_n 2, 1) := by decide +kernel
theorem dX1_spread_3 : decode cX1_spread 3 = .ok (.bipush 12, 2) := by decide +kernel
theorem dX1_spread_5 : decode cX1_spread 5 = .ok (.if_icmp .ge 37, 3) := by decide +kernel
theorem dX1_spread_8 : decode cX1_spread 8 = .ok (.aload_n 0, 1) := by decide +kernel
theorem dX1_spread_9 : decode cX1_spread 9 = .ok (.getfield 20, 3) := by decide +kernel
theorem dX1_spread_12 : decode cX1_spread 12 = .ok (.iload_n 2, 1) := by decide +kernel
theorem dX1_spread_13 : decode cX1_spread 13 = .ok (.aload_n 0, 1) := by decide +kernel
theorem dX1_spread_14 : decode cX1_spread 14 = .ok (.getfield 9, 3) := by decide +kernel
theorem dX1_spread_17 : decode cX1_spread 17 = .ok (.iload_n 2, 1) := by decide +kernel
theorem dX1_spread_18 : decode cX1_spread 18 = .ok (.iaload, 1) := by decide +kernel
theorem dX1_spread_19 : decode cX1_spread 19 = .ok (.ifCond .le 7, 3) := by decide +kernel
theorem dX1_spread_22 : decode cX1_spread 22 = .ok (.iconst 0, 1) := by decide +kernel
theorem dX1_spread_23 : decode cX1_spread 23 = .ok (.goto 5, 3) := by decide +kernel
theorem dX1_spread_26 : decode cX1_spread 26 = .ok (.ldc 56, 2) := by decide +kernel
theorem dX1_spread_28 : decode cX1_spread 28 = .ok (.iastore, 1) := by decide +kernel
theorem dX1_spread_29 : decode cX1_spread 29 = .ok (.aload_n 0, 1) := by decide +kernel
theorem dX1_spread_30 : decode cX1_spread 30 = .ok (.getfield 23, 3) := by decide +kernel
theorem dX1_spread_33 : decode cX1_spread 33 = .ok (.iload_n 2, 1) := by decide +kernel
theorem dX1_spread_34 : decode cX1_spread 34 = .ok (.iconst (-1), 1) := by decide +kernel
theorem dX1_spread_35 : decode cX1_spread 35 = .ok (.iastore, 1) := by decide +kernel
theorem dX1_spread_36 : decode cX1_spread 36 = .ok (.iinc 2 1, 3) := by decide +kernel
theorem dX1_spread_39 : decode cX1_spread 39 = .ok (.goto (-37), 3) := by decide +kernel
theorem dX1_spread_42 : decode cX1_spread 42 = .ok (.iconst 1, 1) := by decide +kernel
theorem dX1_spread_43 : decode cX1_spread 43 = .ok (.istore_n 2, 1) := by decide +kernel
theorem dX1_spread_44 : decode cX1_spread 44 = .ok (.iconst 0, 1) := by decide +kernel
theorem dX1_spread_45 : decode cX1_spread 45 = .ok (.istore_n 3, 1) := by decide +kernel
theorem dX1_spread_46 : decode cX1_spread 46 = .ok (.iload_n 3, 1) := by decide +kernel
theorem dX1_spread_47 : decode cX1_spread 47 = .ok (.bipush 12, 2) := by decide +kernel
theorem dX1_spread_49 : decode cX1_spread 49 = .ok (.if_icmp .ge 55, 3) := by decide +kernel
theorem dX1_spread_52 : decode cX1_spread 52 = .ok (.iload_n 2, 1) := by decide +kernel
theorem dX1_spread_53 : decode cX1_spread 53 = .ok (.ifCond .eq 51, 3) := by decide +kernel
theorem dX1_spread_56 : decode cX1_spread 56 = .ok (.iconst 0, 1) := by decide +kernel
theorem dX1_spread_57 : decode cX1_spread 57 = .ok (.istore_n 2, 1) := by decide +kernel
theorem dX1_spread_58 : decode cX1_spread 58 = .ok (.iconst 0, 1) := by decide +kernel
theorem dX1_spread_59 : decode cX1_spread 59 = .ok (.istore 4, 2) := by decide +kernel
theorem dX1_spread_61 : decode cX1_spread 61 = .ok (.iload 4, 2) := by decide +kernel
theorem dX1_spread_63 : decode cX1_spread 63 = .ok (.bipush 12, 2) := by decide +kernel
theorem dX1_spread_65 : decode cX1_spread 65 = .ok (.if_icmp .ge 33, 3) := by decide +kernel
theorem dX1_spread_68 : decode cX1_spread 68 = .ok (.aload_n 0, 1) := by decide +kernel
theorem dX1_spread_69 : decode cX1_spread 69 = .ok (.getfield 20, 3) := by decide +kernel
theorem dX1_spread_72 : decode cX1_spread 72 = .ok (.iload 4, 2) := by decide +kernel
theorem dX1_spread_74 : decode cX1_spread 74 = .ok (.iaload, 1) := by decide +kernel
theorem dX1_spread_75 : decode cX1_spread 75 = .ok (.ldc 56, 2) := by decide +kernel
theorem dX1_spread_77 : decode cX1_spread 77 = .ok (.if_icmp .ge 15, 3) := by decide +kernel
theorem dX1_spread_80 : decode cX1_spread 80 = .ok (.aload_n 0, 1) := by decide +kernel
theorem dX1_spread_81 : decode cX1_spread 81 = .ok (.iload 4, 2) := by decide +kernel
theorem dX1_spread_83 : decode cX1_spread 83 = .ok (.aload_n 1, 1) := by decide +kernel
theorem dX1_spread_84 : decode cX1_spread 84 = .ok (.invokevirtual 57, 3) := by decide +kernel
theorem dX1_spread_87 : decode cX1_spread 87 = .ok (.ifCond .eq 5, 3) := by decide +kernel
theorem dX1_spread_90 : decode cX1_spread 90 = .ok (.iconst 1, 1) := by decide +kernel
theorem dX1_spread_91 : decode cX1_spread 91 = .ok (.istore_n 2, 1) := by decide +kernel
theorem dX1_spread_92 : decode cX1_spread 92 = .ok (.iinc 4 1, 3) := by decide +kernel
theorem dX1_spread_95 : decode cX1_spread 95 = .ok (.goto (-34), 3) := by decide +kernel
theorem dX1_spread_98 : decode cX1_spread 98 = .ok (.iinc 3 1, 3) := by decide +kernel
theorem dX1_spread_101 : decode cX1_spread 101 = .ok (.goto (-55), 3) := by decide +kernel
theorem dX1_spread_104 : decode cX1_spread 104 = .ok (.return_, 1) := by decide +kernel
set_option maxRecDepth 20000 in
theorem ggX1_spreadFrom_X8_isStation : GoodIn wsX1_spreadFrom wsX8_isStation := lq_goor _ [5] rfl (by decide +kernel)
set_option maxRecDepth 20000 in
theorem gX1_spreadFrom_X8_isStation_n26 : GoodIn wsX1_spreadFrom (wsX8_isStation) := ggX1_spreadFrom_X8_isStation
set_option maxRecDepth 20000 in
theorem ggX1_spreadFrom_X3_timeBetween : GoodIn wsX1_spreadFrom wsX3_timeBetween := goodIn_ca (lq_goor _ [10, 11, 12, 3, 4, 5] rfl (by decide +kernel)) (goodIn_sub (fun _ h => List.mem_cons_of_mem _ (List.mem_append_right _ h)) gw_wsX30)
set_option maxRecDepth 20000 in
theorem gX1_spreadFrom_X3_timeBetween : GoodIn wsX1_spreadFrom (wsV RX1 61 RX3 yX3_timeBetween wsX3_timeBetween) := goodIn_app (lq_goor _ [6, 7, 8, 9] rfl (by decide +kernel)) ggX1_spreadFrom_X3_timeBetween
set_option maxRecDepth 20000 in
theorem ggX1_spreadFrom_X1_painsOver : GoodIn wsX1_spreadFrom wsX1_painsOver := goodIn_ca (lq_goor _ [17, 18, 3, 4, 5] rfl (by decide +kernel)) (goodIn_sub (fun _ h => List.mem_cons_of_mem _ (List.mem_append_left _ (List.mem_append_right _ h))) gw_wsX10)
set_option maxRecDepth 20000 in
theorem gX1_spreadFrom_X1_painsOver : GoodIn wsX1_spreadFrom (wsV RX1 67 RX1 yX1_painsOver wsX1_painsOver) := goodIn_app (lq_goor _ [13, 14, 15, 16] rfl (by decide +kernel)) ggX1_spreadFrom_X1_painsOver
theorem dX1_spreadFrom_0 : decode cX1_spreadFrom 0 = .ok (.iconst 0, 1) := by decide +kernel
theorem dX1_spreadFrom_1 : decode cX1_spreadFrom 1 = .ok (.istore_n 3, 1) := by decide +kernel
theorem dX1_spreadFrom_2 : decode cX1_spreadFrom 2 = .ok (.iconst 0, 1) := by decide +kernel
theorem dX1_spreadFrom_3 : decode cX1_spreadFrom 3 = .ok (.istore 4, 2) := by decide +kernel
theorem dX1_spreadFrom_5 : decode cX1_spreadFrom 5 = .ok (.iload 4, 2) := by decide +kernel
theorem dX1_spreadFrom_7 : decode cX1_spreadFrom 7 = .ok (.bipush 12, 2) := by decide +kernel
theorem dX1_spreadFrom_9 : decode cX1_spreadFrom 9 = .ok (.if_icmp .ge 90, 3) := by decide +kernel
theorem dX1_spreadFrom_12 : decode cX1_spreadFrom 12 = .ok (.iload_n 1, 1) := by decide +kernel
theorem dX1_spreadFrom_13 : decode cX1_spreadFrom 13 = .ok (.invokestatic 26, 3) := by decide +kernel
theorem dX1_spreadFrom_16 : decode cX1_spreadFrom 16 = .ok (.ifCond .eq 83, 3) := by decide +kernel
theorem dX1_spreadFrom_19 : decode cX1_spreadFrom 19 = .ok (.aload_n 2, 1) := by decide +kernel
theorem dX1_spreadFrom_20 : decode cX1_spreadFrom 20 = .ok (.iload_n 1, 1) := by decide +kernel
theorem dX1_spreadFrom_21 : decode cX1_spreadFrom 21 = .ok (.iload 4, 2) := by decide +kernel
theorem dX1_spreadFrom_23 : decode cX1_spreadFrom 23 = .ok (.invokevirtual 61, 3) := by decide +kernel
theorem dX1_spreadFrom_26 : decode cX1_spreadFrom 26 = .ok (.istore 5, 2) := by decide +kernel
theorem dX1_spreadFrom_28 : decode cX1_spreadFrom 28 = .ok (.iload 5, 2) := by decide +kernel
theorem dX1_spreadFrom_30 : decode cX1_spreadFrom 30 = .ok (.iconst (-1), 1) := by decide +kernel
theorem dX1_spreadFrom_31 : decode cX1_spreadFrom 31 = .ok (.if_icmp .eq 62, 3) := by decide +kernel
theorem dX1_spreadFrom_34 : decode cX1_spreadFrom 34 = .ok (.aload_n 0, 1) := by decide +kernel
theorem dX1_spreadFrom_35 : decode cX1_spreadFrom 35 = .ok (.getfield 20, 3) := by decide +kernel
theorem dX1_spreadFrom_38 : decode cX1_spreadFrom 38 = .ok (.iload_n 1, 1) := by decide +kernel
theorem dX1_spreadFrom_39 : decode cX1_spreadFrom 39 = .ok (.iaload, 1) := by decide +kernel
theorem dX1_spreadFrom_40 : decode cX1_spreadFrom 40 = .ok (.aload_n 0, 1) := by decide +kernel
theorem dX1_spreadFrom_41 : decode cX1_spreadFrom 41 = .ok (.iload_n 1, 1) := by decide +kernel
theorem dX1_spreadFrom_42 : decode cX1_spreadFrom 42 = .ok (.iload 4, 2) := by decide +kernel
theorem dX1_spreadFrom_44 : decode cX1_spreadFrom 44 = .ok (.iload 5, 2) := by decide +kernel
theorem dX1_spreadFrom_46 : decode cX1_spreadFrom 46 = .ok (.invokevirtual 67, 3) := by decide +kernel
theorem dX1_spreadFrom_49 : decode cX1_spreadFrom 49 = .ok (.iadd, 1) := by decide +kernel
theorem dX1_spreadFrom_50 : decode cX1_spreadFrom 50 = .ok (.aload_n 0, 1) := by decide +kernel
theorem dX1_spreadFrom_51 : decode cX1_spreadFrom 51 = .ok (.getfield 20, 3) := by decide +kernel
theorem dX1_spreadFrom_54 : decode cX1_spreadFrom 54 = .ok (.iload 4, 2) := by decide +kernel
theorem dX1_spreadFrom_56 : decode cX1_spreadFrom 56 = .ok (.iaload, 1) := by decide +kernel
theorem dX1_spreadFrom_57 : decode cX1_spreadFrom 57 = .ok (.if_icmp .ge 36, 3) := by decide +kernel
theorem dX1_spreadFrom_60 : decode cX1_spreadFrom 60 = .ok (.aload_n 0, 1) := by decide +kernel
theorem dX1_spreadFrom_61 : decode cX1_spreadFrom 61 = .ok (.getfield 20, 3) := by decide +kernel
theorem dX1_spreadFrom_64 : decode cX1_spreadFrom 64 = .ok (.iload 4, 2) := by decide +kernel
theorem dX1_spreadFrom_66 : decode cX1_spreadFrom 66 = .ok (.aload_n 0, 1) := by decide +kernel
theorem dX1_spreadFrom_67 : decode cX1_spreadFrom 67 = .ok (.getfield 20, 3) := by decide +kernel
theorem dX1_spreadFrom_70 : decode cX1_spreadFrom 70 = .ok (.iload_n 1, 1) := by decide +kernel
theorem dX1_spreadFrom_71 : decode cX1_spreadFrom 71 = .ok (.iaload, 1) := by decide +kernel
theorem dX1_spreadFrom_72 : decode cX1_spreadFrom 72 = .ok (.aload_n 0, 1) := by decide +kernel
theorem dX1_spreadFrom_73 : decode cX1_spreadFrom 73 = .ok (.iload_n 1, 1) := by decide +kernel
theorem dX1_spreadFrom_74 : decode cX1_spreadFrom 74 = .ok (.iload 4, 2) := by decide +kernel
theorem dX1_spreadFrom_76 : decode cX1_spreadFrom 76 = .ok (.iload 5, 2) := by decide +kernel
theorem dX1_spreadFrom_78 : decode cX1_spreadFrom 78 = .ok (.invokevirtual 67, 3) := by decide +kernel
theorem dX1_spreadFrom_81 : decode cX1_spreadFrom 81 = .ok (.iadd, 1) := by decide +kernel
theorem dX1_spreadFrom_82 : decode cX1_spreadFrom 82 = .ok (.iastore, 1) := by decide +kernel
theorem dX1_spreadFrom_83 : decode cX1_spreadFrom 83 = .ok (.aload_n 0, 1) := by decide +kernel
theorem dX1_spreadFrom_84 : decode cX1_spreadFrom 84 = .ok (.getfield 23, 3) := by decide +kernel
theorem dX1_spreadFrom_87 : decode cX1_spreadFrom 87 = .ok (.iload 4, 2) := by decide +kernel
theorem dX1_spreadFrom_89 : decode cX1_spreadFrom 89 = .ok (.iload_n 1, 1) := by decide +kernel
theorem dX1_spreadFrom_90 : decode cX1_spreadFrom 90 = .ok (.iastore, 1) := by decide +kernel
theorem dX1_spreadFrom_91 : decode cX1_spreadFrom 91 = .ok (.iconst 1, 1) := by decide +kernel
theorem dX1_spreadFrom_92 : decode cX1_spreadFrom 92 = .ok (.istore_n 3, 1) := by decide +kernel
theorem dX1_spreadFrom_93 : decode cX1_spreadFrom 93 = .ok (.iinc 4 1, 3) := by decide +kernel
theorem dX1_spreadFrom_96 : decode cX1_spreadFrom 96 = .ok (.goto (-91), 3) := by decide +kernel
theorem dX1_spreadFrom_99 : decode cX1_spreadFrom 99 = .ok (.iload_n 3, 1) := by decide +kernel
theorem dX1_spreadFrom_100 : decode cX1_spreadFrom 100 = .ok (.ireturn, 1) := by decide +kernel
set_option maxRecDepth 20000 in
theorem ggX1_painsOver_X8_isStation : GoodIn wsX1_painsOver wsX8_isStation := lq_goor _ [4] rfl (by decide +kernel)
set_option maxRecDepth 20000 in
theorem gX1_painsOver_X8_isStation_n26 : GoodIn wsX1_painsOver (wsX8_isStation) := ggX1_painsOver_X8_isStation
theorem dX1_painsOver_0 : decode cX1_painsOver 0 = .ok (.iload_n 1, 1) := by decide +kernel
theorem dX1_painsOver_1 : decode cX1_painsOver 1 = .ok (.invokestatic 26, 3) := by decide +kernel
theorem dX1_painsOver_4 : decode cX1_painsOver 4 = .ok (.ifCond .eq 26, 3) := by decide +kernel
theorem dX1_painsOver_7 : decode cX1_painsOver 7 = .ok (.iload_n 2, 1) := by decide +kernel
theorem dX1_painsOver_8 : decode cX1_painsOver 8 = .ok (.invokestatic 26, 3) := by decide +kernel
theorem dX1_painsOver_11 : decode cX1_painsOver 11 = .ok (.ifCond .eq 19, 3) := by decide +kernel
theorem dX1_painsOver_14 : decode cX1_painsOver 14 = .ok (.aload_n 0, 1) := by decide +kernel
theorem dX1_painsOver_15 : decode cX1_painsOver 15 = .ok (.getfield 17, 3) := by decide +kernel
theorem dX1_painsOver_18 : decode cX1_painsOver 18 = .ok (.iload_n 2, 1) := by decide +kernel
theorem dX1_painsOver_19 : decode cX1_painsOver 19 = .ok (.aaload, 1) := by decide +kernel
theorem dX1_painsOver_20 : decode cX1_painsOver 20 = .ok (.iload_n 1, 1) := by decide +kernel
theorem dX1_painsOver_21 : decode cX1_painsOver 21 = .ok (.iaload, 1) := by decide +kernel
theorem dX1_painsOver_22 : decode cX1_painsOver 22 = .ok (.ifCond .le 8, 3) := by decide +kernel
theorem dX1_painsOver_25 : decode cX1_painsOver 25 = .ok (.iload_n 3, 1) := by decide +kernel
theorem dX1_painsOver_26 : decode cX1_painsOver 26 = .ok (.ineg, 1) := by decide +kernel
theorem dX1_painsOver_27 : decode cX1_painsOver 27 = .ok (.goto 4, 3) := by decide +kernel
theorem dX1_painsOver_30 : decode cX1_painsOver 30 = .ok (.iload_n 3, 1) := by decide +kernel
theorem dX1_painsOver_31 : decode cX1_painsOver 31 = .ok (.ireturn, 1) := by decide +kernel
theorem dX1_nearestShort_0 : decode cX1_nearestShort 0 = .ok (.iconst (-1), 1) := by decide +kernel
theorem dX1_nearestShort_1 : decode cX1_nearestShort 1 = .ok (.istore_n 1, 1) := by decide +kernel
theorem dX1_nearestShort_2 : decode cX1_nearestShort 2 = .ok (.ldc 56, 2) := by decide +kernel
theorem dX1_nearestShort_4 : decode cX1_nearestShort 4 = .ok (.istore_n 2, 1) := by decide +kernel
theorem dX1_nearestShort_5 : decode cX1_nearestShort 5 = .ok (.iconst 0, 1) := by decide +kernel
theorem dX1_nearestShort_6 : decode cX1_nearestShort 6 = .ok (.istore_n 3, 1) := by decide +kernel
theorem dX1_nearestShort_7 : decode cX1_nearestShort 7 = .ok (.iload_n 3, 1) := by decide +kernel
theorem dX1_nearestShort_8 : decode cX1_nearestShort 8 = .ok (.bipush 12, 2) := by decide +kernel
theorem dX1_nearestShort_10 : decode cX1_nearestShort 10 = .ok (.if_icmp .ge 37, 3) := by decide +kernel
theorem dX1_nearestShort_13 : decode cX1_nearestShort 13 = .ok (.aload_n 0, 1) := by decide +kernel
theorem dX1_nearestShort_14 : decode cX1_nearestShort 14 = .ok (.getfield 9, 3) := by decide +kernel
theorem dX1_nearestShort_17 : decode cX1_nearestShort 17 = .ok (.iload_n 3, 1) := by decide +kernel
theorem dX1_nearestShort_18 : decode cX1_nearestShort 18 = .ok (.iaload, 1) := by decide +kernel
theorem dX1_nearestShort_19 : decode cX1_nearestShort 19 = .ok (.ifCond .ge 22, 3) := by decide +kernel
theorem dX1_nearestShort_22 : decode cX1_nearestShort 22 = .ok (.aload_n 0, 1) := by decide +kernel
theorem dX1_nearestShort_23 : decode cX1_nearestShort 23 = .ok (.getfield 20, 3) := by decide +kernel
theorem dX1_nearestShort_26 : decode cX1_nearestShort 26 = .ok (.iload_n 3, 1) := by decide +kernel
theorem dX1_nearestShort_27 : decode cX1_nearestShort 27 = .ok (.iaload, 1) := by decide +kernel
theorem dX1_nearestShort_28 : decode cX1_nearestShort 28 = .ok (.iload_n 2, 1) := by decide +kernel
theorem dX1_nearestShort_29 : decode cX1_nearestShort 29 = .ok (.if_icmp .ge 12, 3) := by decide +kernel
theorem dX1_nearestShort_32 : decode cX1_nearestShort 32 = .ok (.iload_n 3, 1) := by decide +kernel
theorem dX1_nearestShort_33 : decode cX1_nearestShort 33 = .ok (.istore_n 1, 1) := by decide +kernel
theorem dX1_nearestShort_34 : decode cX1_nearestShort 34 = .ok (.aload_n 0, 1) := by decide +kernel
theorem dX1_nearestShort_35 : decode cX1_nearestShort 35 = .ok (.getfield 20, 3) := by decide +kernel
theorem dX1_nearestShort_38 : decode cX1_nearestShort 38 = .ok (.iload_n 3, 1) := by decide +kernel
theorem dX1_nearestShort_39 : decode cX1_nearestShort 39 = .ok (.iaload, 1) := by decide +kernel
theorem dX1_nearestShort_40 : decode cX1_nearestShort 40 = .ok (.istore_n 2, 1) := by decide +kernel
theorem dX1_nearestShort_41 : decode cX1_nearestShort 41 = .ok (.iinc 3 1, 3) := by decide +kernel
theorem dX1_nearestShort_44 : decode cX1_nearestShort 44 = .ok (.goto (-37), 3) := by decide +kernel
theorem dX1_nearestShort_47 : decode cX1_nearestShort 47 = .ok (.iload_n 1, 1) := by decide +kernel
theorem dX1_nearestShort_48 : decode cX1_nearestShort 48 = .ok (.ireturn, 1) := by decide +kernel
set_option maxRecDepth 20000 in
theorem ggX1_horsesAlong_X8_isStation : GoodIn wsX1_horsesAlong wsX8_isStation := lq_goor _ [10] rfl (by decide +kernel)
set_option maxRecDepth 20000 in
theorem gX1_horsesAlong_X8_isStation_n26 : GoodIn wsX1_horsesAlong (wsX8_isStation) := ggX1_horsesAlong_X8_isStation
theorem dX1_horsesAlong_0 : decode cX1_horsesAlong 0 = .ok (.iload_n 1, 1) := by decide +kernel
theorem dX1_horsesAlong_1 : decode cX1_horsesAlong 1 = .ok (.invokestatic 26, 3) := by decide +kernel
theorem dX1_horsesAlong_4 : decode cX1_horsesAlong 4 = .ok (.ifCond .ne 5, 3) := by decide +kernel
theorem dX1_horsesAlong_7 : decode cX1_horsesAlong 7 = .ok (.iconst 0, 1) := by decide +kernel
theorem dX1_horsesAlong_8 : decode cX1_horsesAlong 8 = .ok (.ireturn, 1) := by decide +kernel
theorem dX1_horsesAlong_9 : decode cX1_horsesAlong 9 = .ok (.aload_n 0, 1) := by decide +kernel
theorem dX1_horsesAlong_10 : decode cX1_horsesAlong 10 = .ok (.getfield 9, 3) := by decide +kernel
theorem dX1_horsesAlong_13 : decode cX1_horsesAlong 13 = .ok (.iload_n 1, 1) := by decide +kernel
theorem dX1_horsesAlong_14 : decode cX1_horsesAlong 14 = .ok (.iaload, 1) := by decide +kernel
theorem dX1_horsesAlong_15 : decode cX1_horsesAlong 15 = .ok (.ineg, 1) := by decide +kernel
theorem dX1_horsesAlong_16 : decode cX1_horsesAlong 16 = .ok (.istore_n 2, 1) := by decide +kernel
theorem dX1_horsesAlong_17 : decode cX1_horsesAlong 17 = .ok (.iload_n 1, 1) := by decide +kernel
theorem dX1_horsesAlong_18 : decode cX1_horsesAlong 18 = .ok (.istore_n 3, 1) := by decide +kernel
theorem dX1_horsesAlong_19 : decode cX1_horsesAlong 19 = .ok (.iconst 0, 1) := by decide +kernel
theorem dX1_horsesAlong_20 : decode cX1_horsesAlong 20 = .ok (.istore 4, 2) := by decide +kernel
