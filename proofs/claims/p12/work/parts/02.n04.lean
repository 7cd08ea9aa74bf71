theorem dX2_comeToNextStation_40 : decode cX2_comeToNextStation 40 = .ok (.aload_n 0, 1) := by decide +kernel
theorem dX2_comeToNextStation_41 : decode cX2_comeToNextStation 41 = .ok (.getfield 25, 3) := by decide +kernel
theorem dX2_comeToNextStation_44 : decode cX2_comeToNextStation 44 = .ok (.arraylength, 1) := by decide +kernel
theorem dX2_comeToNextStation_45 : decode cX2_comeToNextStation 45 = .ok (.if_icmp .ge 7, 3) := by decide +kernel
theorem dX2_comeToNextStation_48 : decode cX2_comeToNextStation 48 = .ok (.iconst 0, 1) := by decide +kernel
theorem dX2_comeToNextStation_49 : decode cX2_comeToNextStation 49 = .ok (.goto 4, 3) := by decide +kernel
theorem dX2_comeToNextStation_52 : decode cX2_comeToNextStation 52 = .ok (.iconst 2, 1) := by decide +kernel
theorem dX2_comeToNextStation_53 : decode cX2_comeToNextStation 53 = .ok (.putfield 15, 3) := by decide +kernel
theorem dX2_comeToNextStation_56 : decode cX2_comeToNextStation 56 = .ok (.return_, 1) := by decide +kernel
theorem dX3_init_0 : decode cX3_init 0 = .ok (.aload_n 0, 1) := by decide +kernel
theorem dX3_init_1 : decode cX3_init 1 = .ok (.invokespecial 3, 3) := by decide +kernel
theorem dX3_init_4 : decode cX3_init 4 = .ok (.aload_n 0, 1) := by decide +kernel
theorem dX3_init_5 : decode cX3_init 5 = .ok (.bipush 12, 2) := by decide +kernel
theorem dX3_init_7 : decode cX3_init 7 = .ok (.bipush 12, 2) := by decide +kernel
theorem dX3_init_9 : decode cX3_init 9 = .ok (.multianewarray 9 2, 4) := by decide +kernel
theorem dX3_init_13 : decode cX3_init 13 = .ok (.putfield 11, 3) := by decide +kernel
theorem dX3_init_16 : decode cX3_init 16 = .ok (.aload_n 0, 1) := by decide +kernel
theorem dX3_init_17 : decode cX3_init 17 = .ok (.bipush 12, 2) := by decide +kernel
theorem dX3_init_19 : decode cX3_init 19 = .ok (.bipush 12, 2) := by decide +kernel
theorem dX3_init_21 : decode cX3_init 21 = .ok (.multianewarray 9 2, 4) := by decide +kernel
theorem dX3_init_25 : decode cX3_init 25 = .ok (.putfield 16, 3) := by decide +kernel
theorem dX3_init_28 : decode cX3_init 28 = .ok (.aload_n 0, 1) := by decide +kernel
theorem dX3_init_29 : decode cX3_init 29 = .ok (.bipush 12, 2) := by decide +kernel
theorem dX3_init_31 : decode cX3_init 31 = .ok (.newarray .int, 2) := by decide +kernel
theorem dX3_init_33 : decode cX3_init 33 = .ok (.putfield 19, 3) := by decide +kernel
theorem dX3_init_36 : decode cX3_init 36 = .ok (.aload_n 0, 1) := by decide +kernel
theorem dX3_init_37 : decode cX3_init 37 = .ok (.bipush 12, 2) := by decide +kernel
theorem dX3_init_39 : decode cX3_init 39 = .ok (.newarray .boolean, 2) := by decide +kernel
theorem dX3_init_41 : decode cX3_init 41 = .ok (.putfield 23, 3) := by decide +kernel
theorem dX3_init_44 : decode cX3_init 44 = .ok (.aload_n 0, 1) := by decide +kernel
theorem dX3_init_45 : decode cX3_init 45 = .ok (.bipush 12, 2) := by decide +kernel
theorem dX3_init_47 : decode cX3_init 47 = .ok (.newarray .int, 2) := by decide +kernel
theorem dX3_init_49 : decode cX3_init 49 = .ok (.putfield 27, 3) := by decide +kernel
theorem dX3_init_52 : decode cX3_init 52 = .ok (.return_, 1) := by decide +kernel
set_option maxRecDepth 20000 in
theorem ggX3_lay_X8_isStation : GoodIn wsX3_lay wsX8_isStation := lq_goor _ [4] rfl (by decide +kernel)
set_option maxRecDepth 20000 in
theorem gX3_lay_X8_isStation_n30 : GoodIn wsX3_lay (wsX8_isStation) := ggX3_lay_X8_isStation
set_option maxRecDepth 20000 in
theorem ggX3_lay_X3_setSnow : GoodIn wsX3_lay wsX3_setSnow := goodIn_ca (lq_goor _ [9, 10, 2, 3, 4] rfl (by decide +kernel)) (goodIn_sub (fun _ h => List.mem_cons_of_mem _ (List.mem_append_right _ h)) gw_wsX30)
set_option maxRecDepth 20000 in
theorem gX3_lay_X3_setSnow : GoodIn wsX3_lay (wsV RX3 34 RX3 yX3_setSnow wsX3_setSnow) := goodIn_app (lq_goor _ [5, 6, 7, 8] rfl (by decide +kernel)) ggX3_lay_X3_setSnow
theorem dX3_lay_0 : decode cX3_lay 0 = .ok (.iload_n 1, 1) := by decide +kernel
theorem dX3_lay_1 : decode cX3_lay 1 = .ok (.invokestatic 30, 3) := by decide +kernel
theorem dX3_lay_4 : decode cX3_lay 4 = .ok (.ifCond .eq 35, 3) := by decide +kernel
theorem dX3_lay_7 : decode cX3_lay 7 = .ok (.iload_n 2, 1) := by decide +kernel
theorem dX3_lay_8 : decode cX3_lay 8 = .ok (.invokestatic 30, 3) := by decide +kernel
theorem dX3_lay_11 : decode cX3_lay 11 = .ok (.ifCond .eq 28, 3) := by decide +kernel
theorem dX3_lay_14 : decode cX3_lay 14 = .ok (.aload_n 0, 1) := by decide +kernel
theorem dX3_lay_15 : decode cX3_lay 15 = .ok (.getfield 11, 3) := by decide +kernel
theorem dX3_lay_18 : decode cX3_lay 18 = .ok (.iload_n 1, 1) := by decide +kernel
theorem dX3_lay_19 : decode cX3_lay 19 = .ok (.aaload, 1) := by decide +kernel
theorem dX3_lay_20 : decode cX3_lay 20 = .ok (.iload_n 2, 1) := by decide +kernel
theorem dX3_lay_21 : decode cX3_lay 21 = .ok (.iload_n 3, 1) := by decide +kernel
theorem dX3_lay_22 : decode cX3_lay 22 = .ok (.iastore, 1) := by decide +kernel
theorem dX3_lay_23 : decode cX3_lay 23 = .ok (.aload_n 0, 1) := by decide +kernel
theorem dX3_lay_24 : decode cX3_lay 24 = .ok (.getfield 11, 3) := by decide +kernel
theorem dX3_lay_27 : decode cX3_lay 27 = .ok (.iload_n 2, 1) := by decide +kernel
theorem dX3_lay_28 : decode cX3_lay 28 = .ok (.aaload, 1) := by decide +kernel
theorem dX3_lay_29 : decode cX3_lay 29 = .ok (.iload_n 1, 1) := by decide +kernel
theorem dX3_lay_30 : decode cX3_lay 30 = .ok (.iload_n 3, 1) := by decide +kernel
theorem dX3_lay_31 : decode cX3_lay 31 = .ok (.iastore, 1) := by decide +kernel
theorem dX3_lay_32 : decode cX3_lay 32 = .ok (.aload_n 0, 1) := by decide +kernel
theorem dX3_lay_33 : decode cX3_lay 33 = .ok (.iload_n 1, 1) := by decide +kernel
theorem dX3_lay_34 : decode cX3_lay 34 = .ok (.iload_n 2, 1) := by decide +kernel
theorem dX3_lay_35 : decode cX3_lay 35 = .ok (.iconst 0, 1) := by decide +kernel
theorem dX3_lay_36 : decode cX3_lay 36 = .ok (.invokevirtual 34, 3) := by decide +kernel
theorem dX3_lay_39 : decode cX3_lay 39 = .ok (.return_, 1) := by decide +kernel
set_option maxRecDepth 20000 in
theorem ggX3_setSnow_X8_isStation : GoodIn wsX3_setSnow wsX8_isStation := lq_goor _ [4] rfl (by decide +kernel)
set_option maxRecDepth 20000 in
theorem gX3_setSnow_X8_isStation_n30 : GoodIn wsX3_setSnow (wsX8_isStation) := ggX3_setSnow_X8_isStation
theorem dX3_setSnow_0 : decode cX3_setSnow 0 = .ok (.iload_n 1, 1) := by decide +kernel
theorem dX3_setSnow_1 : decode cX3_setSnow 1 = .ok (.invokestatic 30, 3) := by decide +kernel
theorem dX3_setSnow_4 : decode cX3_setSnow 4 = .ok (.ifCond .eq 28, 3) := by decide +kernel
theorem dX3_setSnow_7 : decode cX3_setSnow 7 = .ok (.iload_n 2, 1) := by decide +kernel
theorem dX3_setSnow_8 : decode cX3_setSnow 8 = .ok (.invokestatic 30, 3) := by decide +kernel
theorem dX3_setSnow_11 : decode cX3_setSnow 11 = .ok (.ifCond .eq 21, 3) := by decide +kernel
theorem dX3_setSnow_14 : decode cX3_setSnow 14 = .ok (.aload_n 0, 1) := by decide +kernel
theorem dX3_setSnow_15 : decode cX3_setSnow 15 = .ok (.getfield 16, 3) := by decide +kernel
theorem dX3_setSnow_18 : decode cX3_setSnow 18 = .ok (.iload_n 1, 1) := by decide +kernel
theorem dX3_setSnow_19 : decode cX3_setSnow 19 = .ok (.aaload, 1) := by decide +kernel
theorem dX3_setSnow_20 : decode cX3_setSnow 20 = .ok (.iload_n 2, 1) := by decide +kernel
theorem dX3_setSnow_21 : decode cX3_setSnow 21 = .ok (.iload_n 3, 1) := by decide +kernel
theorem dX3_setSnow_22 : decode cX3_setSnow 22 = .ok (.iastore, 1) := by decide +kernel
theorem dX3_setSnow_23 : decode cX3_setSnow 23 = .ok (.aload_n 0, 1) := by decide +kernel
theorem dX3_setSnow_24 : decode cX3_setSnow 24 = .ok (.getfield 16, 3) := by decide +kernel
theorem dX3_setSnow_27 : decode cX3_setSnow 27 = .ok (.iload_n 2, 1) := by decide +kernel
theorem dX3_setSnow_28 : decode cX3_setSnow 28 = .ok (.aaload, 1) := by decide +kernel
theorem dX3_setSnow_29 : decode cX3_setSnow 29 = .ok (.iload_n 1, 1) := by decide +kernel
theorem dX3_setSnow_30 : decode cX3_setSnow 30 = .ok (.iload_n 3, 1) := by decide +kernel
theorem dX3_setSnow_31 : decode cX3_setSnow 31 = .ok (.iastore, 1) := by decide +kernel
theorem dX3_setSnow_32 : decode cX3_setSnow 32 = .ok (.return_, 1) := by decide +kernel
set_option maxRecDepth 20000 in
theorem ggX3_timeBetween_X8_isStation : GoodIn wsX3_timeBetween wsX8_isStation := lq_goor _ [5] rfl (by decide +kernel)
set_option maxRecDepth 20000 in
theorem gX3_timeBetween_X8_isStation_n30 : GoodIn wsX3_timeBetween (wsX8_isStation) := ggX3_timeBetween_X8_isStation
theorem dX3_timeBetween_0 : decode cX3_timeBetween 0 = .ok (.iload_n 1, 1) := by decide +kernel
theorem dX3_timeBetween_1 : decode cX3_timeBetween 1 = .ok (.invokestatic 30, 3) := by decide +kernel
theorem dX3_timeBetween_4 : decode cX3_timeBetween 4 = .ok (.ifCond .eq 21, 3) := by decide +kernel
theorem dX3_timeBetween_7 : decode cX3_timeBetween 7 = .ok (.iload_n 2, 1) := by decide +kernel
theorem dX3_timeBetween_8 : decode cX3_timeBetween 8 = .ok (.invokestatic 30, 3) := by decide +kernel
theorem dX3_timeBetween_11 : decode cX3_timeBetween 11 = .ok (.ifCond .eq 14, 3) := by decide +kernel
theorem dX3_timeBetween_14 : decode cX3_timeBetween 14 = .ok (.aload_n 0, 1) := by decide +kernel
theorem dX3_timeBetween_15 : decode cX3_timeBetween 15 = .ok (.getfield 11, 3) := by decide +kernel
theorem dX3_timeBetween_18 : decode cX3_timeBetween 18 = .ok (.iload_n 1, 1) := by decide +kernel
theorem dX3_timeBetween_19 : decode cX3_timeBetween 19 = .ok (.aaload, 1) := by decide +kernel
theorem dX3_timeBetween_20 : decode cX3_timeBetween 20 = .ok (.iload_n 2, 1) := by decide +kernel
theorem dX3_timeBetween_21 : decode cX3_timeBetween 21 = .ok (.iaload, 1) := by decide +kernel
theorem dX3_timeBetween_22 : decode cX3_timeBetween 22 = .ok (.ifCond .ne 5, 3) := by decide +kernel
theorem dX3_timeBetween_25 : decode cX3_timeBetween 25 = .ok (.iconst (-1), 1) := by decide +kernel
theorem dX3_timeBetween_26 : decode cX3_timeBetween 26 = .ok (.ireturn, 1) := by decide +kernel
theorem dX3_timeBetween_27 : decode cX3_timeBetween 27 = .ok (.aload_n 0, 1) := by decide +kernel
theorem dX3_timeBetween_28 : decode cX3_timeBetween 28 = .ok (.getfield 11, 3) := by decide +kernel
theorem dX3_timeBetween_31 : decode cX3_timeBetween 31 = .ok (.iload_n 1, 1) := by decide +kernel
theorem dX3_timeBetween_32 : decode cX3_timeBetween 32 = .ok (.aaload, 1) := by decide +kernel
theorem dX3_timeBetween_33 : decode cX3_timeBetween 33 = .ok (.iload_n 2, 1) := by decide +kernel
theorem dX3_timeBetween_34 : decode cX3_timeBetween 34 = .ok (.iaload, 1) := by decide +kernel
theorem dX3_timeBetween_35 : decode cX3_timeBetween 35 = .ok (.aload_n 0, 1) := by decide +kernel
theorem dX3_timeBetween_36 : decode cX3_timeBetween 36 = .ok (.getfield 16, 3) := by decide +kernel
theorem dX3_timeBetween_39 : decode cX3_timeBetween 39 = .ok (.iload_n 1, 1) := by decide +kernel
theorem dX3_timeBetween_40 : decode cX3_timeBetween 40 = .ok (.aaload, 1) := by decide +kernel
theorem dX3_timeBetween_41 : decode cX3_timeBetween 41 = .ok (.iload_n 2, 1) := by decide +kernel
theorem dX3_timeBetween_42 : decode cX3_timeBetween 42 = .ok (.iaload, 1) := by decide +kernel
theorem dX3_timeBetween_43 : decode cX3_timeBetween 43 = .ok (.iadd, 1) := by decide +kernel
theorem dX3_timeBetween_44 : decode cX3_timeBetween 44 = .ok (.ireturn, 1) := by decide +kernel
set_option maxRecDepth 20000 in
theorem ggX3_leastTime_X8_isStation : GoodIn wsX3_leastTime wsX8_isStation := lq_goor _ [5] rfl (by decide +kernel)
set_option maxRecDepth 20000 in
theorem gX3_leastTime_X8_isStation_n30 : GoodIn wsX3_leastTime (wsX8_isStation) := ggX3_leastTime_X8_isStation
set_option maxRecDepth 20000 in
theorem ggX3_leastTime_X3_measureTo : GoodIn wsX3_leastTime wsX3_measureTo := goodIn_ca (lq_goor _ [10, 1, 2, 11, 12, 13, 14, 9, 15, 16, 17, 18, 19, 3, 4, 5, 20, 21, 22, 23, 24, 25] rfl (by decide +kernel)) (goodIn_sub (fun _ h => List.mem_cons_of_mem _ (List.mem_append_right _ h)) gw_wsX30)
set_option maxRecDepth 20000 in
theorem gX3_leastTime_X3_measureTo : GoodIn wsX3_leastTime (wsV RX3 38 RX3 yX3_measureTo wsX3_measureTo) := goodIn_app (lq_goor _ [6, 7, 8, 9] rfl (by decide +kernel)) ggX3_leastTime_X3_measureTo
theorem dX3_leastTime_0 : decode cX3_leastTime 0 = .ok (.iload_n 1, 1) := by decide +kernel
theorem dX3_leastTime_1 : decode cX3_leastTime 1 = .ok (.invokestatic 30, 3) := by decide +kernel
theorem dX3_leastTime_4 : decode cX3_leastTime 4 = .ok (.ifCond .eq 10, 3) := by decide +kernel
theorem dX3_leastTime_7 : decode cX3_leastTime 7 = .ok (.iload_n 2, 1) := by decide +kernel
theorem dX3_leastTime_8 : decode cX3_leastTime 8 = .ok (.invokestatic 30, 3) := by decide +kernel
theorem dX3_leastTime_11 : decode cX3_leastTime 11 = .ok (.ifCond .ne 5, 3) := by decide +kernel
theorem dX3_leastTime_14 : decode cX3_leastTime 14 = .ok (.iconst (-1), 1) := by decide +kernel
theorem dX3_leastTime_15 : decode cX3_leastTime 15 = .ok (.ireturn, 1) := by decide +kernel
theorem dX3_leastTime_16 : decode cX3_leastTime 16 = .ok (.aload_n 0, 1) := by decide +kernel
theorem dX3_leastTime_17 : decode cX3_leastTime 17 = .ok (.iload_n 2, 1) := by decide +kernel
theorem dX3_leastTime_18 : decode cX3_leastTime 18 = .ok (.invokevirtual 38, 3) := by decide +kernel
theorem dX3_leastTime_21 : decode cX3_leastTime 21 = .ok (.aload_n 0, 1) := by decide +kernel
theorem dX3_leastTime_22 : decode cX3_leastTime 22 = .ok (.getfield 19, 3) := by decide +kernel
theorem dX3_leastTime_25 : decode cX3_leastTime 25 = .ok (.iload_n 1, 1) := by decide +kernel
theorem dX3_leastTime_26 : decode cX3_leastTime 26 = .ok (.iaload, 1) := by decide +kernel
theorem dX3_leastTime_27 : decode cX3_leastTime 27 = .ok (.ldc 42, 2) := by decide +kernel
theorem dX3_leastTime_29 : decode cX3_leastTime 29 = .ok (.if_icmp .ge 12, 3) := by decide +kernel
theorem dX3_leastTime_32 : decode cX3_leastTime 32 = .ok (.aload_n 0, 1) := by decide +kernel
theorem dX3_leastTime_33 : decode cX3_leastTime 33 = .ok (.getfield 19, 3) := by decide +kernel
theorem dX3_leastTime_36 : decode cX3_leastTime 36 = .ok (.iload_n 1, 1) := by decide +kernel
theorem dX3_leastTime_37 : decode cX3_leastTime 37 = .ok (.iaload, 1) := by decide +kernel
theorem dX3_leastTime_38 : decode cX3_leastTime 38 = .ok (.goto 4, 3) := by decide +kernel
theorem dX3_leastTime_41 : decode cX3_leastTime 41 = .ok (.iconst (-1), 1) := by decide +kernel
theorem dX3_leastTime_42 : decode cX3_leastTime 42 = .ok (.ireturn, 1) := by decide +kernel
set_option maxRecDepth 20000 in
theorem ggX3_findWay_X3_leastTime : GoodIn wsX3_findWay wsX3_leastTime := goodIn_ca (lq_goor _ [6, 7, 8, 9, 10, 11, 12, 13, 14, 5, 15, 16, 17, 18, 19, 20, 21, 22, 23, 24, 25, 26, 27, 28, 29, 30] rfl (by decide +kernel)) (goodIn_sub (fun _ h => List.mem_cons_of_mem _ (List.mem_append_right _ h)) gw_wsX30)
set_option maxRecDepth 20000 in
theorem gX3_findWay_X3_leastTime : GoodIn wsX3_findWay (wsV RX3 43 RX3 yX3_leastTime wsX3_leastTime) := goodIn_app (lq_goor _ [2, 3, 4, 5] rfl (by decide +kernel)) ggX3_findWay_X3_leastTime
set_option maxRecDepth 20000 in
theorem ggX3_findWay_X3_stepFrom : GoodIn wsX3_findWay wsX3_stepFrom := goodIn_ca (lq_goor _ [34, 7, 9, 10, 11, 25, 26, 27, 5, 28, 29, 30] rfl (by decide +kernel)) (goodIn_sub (fun _ h => List.mem_cons_of_mem _ (List.mem_append_right _ h)) gw_wsX30)
set_option maxRecDepth 20000 in
theorem gX3_findWay_X3_stepFrom : GoodIn wsX3_findWay (wsV RX3 47 RX3 yX3_stepFrom wsX3_stepFrom) := goodIn_app (lq_goor _ [31, 32, 33, 5] rfl (by decide +kernel)) ggX3_findWay_X3_stepFrom
set_option maxRecDepth 20000 in
theorem ggX3_findWay_J7_copyOf_59c91 : GoodIn wsX3_findWay wsJ7_copyOf_59c91 := lq_goor _ [38, 39, 40, 41, 42, 43, 44, 45, 46, 47, 48, 49, 50, 51, 52, 53] rfl (by decide +kernel)
set_option maxRecDepth 20000 in
theorem gX3_findWay_J7_copyOf_59c91 : GoodIn wsX3_findWay (va_wsS RX3 51 yJ7_copyOf_59c91 wsJ7_copyOf_59c91) := goodIn_app (lq_goor _ [35, 36, 37] rfl (by decide +kernel)) ggX3_findWay_J7_copyOf_59c91
theorem dX3_findWay_0 : decode cX3_findWay 0 = .ok (.aload_n 0, 1) := by decide +kernel
theorem dX3_findWay_1 : decode cX3_findWay 1 = .ok (.iload_n 1, 1) := by decide +kernel
theorem dX3_findWay_2 : decode cX3_findWay 2 = .ok (.iload_n 2, 1) := by decide +kernel
theorem dX3_findWay_3 : decode cX3_findWay 3 = .ok (.invokevirtual 43, 3) := by decide +kernel
theorem dX3_findWay_6 : decode cX3_findWay 6 = .ok (.iconst (-1), 1) := by decide +kernel
theorem dX3_findWay_7 : decode cX3_findWay 7 = .ok (.if_icmp .ne 5, 3) := by decide +kernel
theorem dX3_findWay_10 : decode cX3_findWay 10 = .ok (.aconst_null, 1) := by decide +kernel
theorem dX3_findWay_11 : decode cX3_findWay 11 = .ok (.areturn, 1) := by decide +kernel
theorem dX3_findWay_12 : decode cX3_findWay 12 = .ok (.iconst 0, 1) := by decide +kernel
theorem dX3_findWay_13 : decode cX3_findWay 13 = .ok (.istore_n 3, 1) := by decide +kernel
theorem dX3_findWay_14 : decode cX3_findWay 14 = .ok (.iload_n 1, 1) := by decide +kernel
theorem dX3_findWay_15 : decode cX3_findWay 15 = .ok (.istore 4, 2) := by decide +kernel
theorem dX3_findWay_17 : decode cX3_findWay 17 = .ok (.iload_n 3, 1) := by decide +kernel
theorem dX3_findWay_18 : decode cX3_findWay 18 = .ok (.bipush 11, 2) := by decide +kernel
theorem dX3_findWay_20 : decode cX3_findWay 20 = .ok (.if_icmp .ge 31, 3) := by decide +kernel
theorem dX3_findWay_23 : decode cX3_findWay 23 = .ok (.iload 4, 2) := by decide +kernel
theorem dX3_findWay_25 : decode cX3_findWay 25 = .ok (.iload_n 2, 1) := by decide +kernel
theorem dX3_findWay_26 : decode cX3_findWay 26 = .ok (.if_icmp .eq 25, 3) := by decide +kernel
theorem dX3_findWay_29 : decode cX3_findWay 29 = .ok (.aload_n 0, 1) := by decide +kernel
theorem dX3_findWay_30 : decode cX3_findWay 30 = .ok (.getfield 27, 3) := by decide +kernel
theorem dX3_findWay_33 : decode cX3_findWay 33 = .ok (.iload_n 3, 1) := by decide +kernel
theorem dX3_findWay_34 : decode cX3_findWay 34 = .ok (.iload 4, 2) := by decide +kernel
theorem dX3_findWay_36 : decode cX3_findWay 36 = .ok (.iastore, 1) := by decide +kernel
theorem dX3_findWay_37 : decode cX3_findWay 37 = .ok (.iinc 3 1, 3) := by decide +kernel
theorem dX3_findWay_40 : decode cX3_findWay 40 = .ok (.aload_n 0, 1) := by decide +kernel
theorem dX3_findWay_41 : decode cX3_findWay 41 = .ok (.iload 4, 2) := by decide +kernel
theorem dX3_findWay_43 : decode cX3_findWay 43 = .ok (.invokevirtual 47, 3) := by decide +kernel
theorem dX3_findWay_46 : decode cX3_findWay 46 = .ok (.istore 4, 2) := by decide +kernel
theorem dX3_findWay_48 : decode cX3_findWay 48 = .ok (.goto (-31), 3) := by decide +kernel
theorem dX3_findWay_51 : decode cX3_findWay 51 = .ok (.aload_n 0, 1) := by decide +kernel
theorem dX3_findWay_52 : decode cX3_findWay 52 = .ok (.getfield 27, 3) := by decide +kernel
theorem dX3_findWay_55 : decode cX3_findWay 55 = .ok (.iload_n 3, 1) := by decide +kernel
theorem dX3_findWay_56 : decode cX3_findWay 56 = .ok (.iload 4, 2) := by decide +kernel
theorem dX3_findWay_58 : decode cX3_findWay 58 = .ok (.iastore, 1) := by decide +kernel
theorem dX3_findWay_59 : decode cX3_findWay 59 = .ok (.aload_n 0, 1) := by decide +kernel
theorem dX3_findWay_60 : decode cX3_findWay 60 = .ok (.getfield 27, 3) := by decide +kernel
theorem dX3_findWay_63 : decode cX3_findWay 63 = .ok (.iload_n 3, 1) := by decide +kernel
theorem dX3_findWay_64 : decode cX3_findWay 64 = .ok (.iconst 1, 1) := by decide +kernel
theorem dX3_findWay_65 : decode cX3_findWay 65 = .ok (.iadd, 1) := by decide +kernel
theorem dX3_findWay_66 : decode cX3_findWay 66 = .ok (.invokestatic 51, 3) := by decide +kernel
theorem dX3_findWay_69 : decode cX3_findWay 69 = .ok (.areturn, 1) := by decide +kernel
set_option maxRecDepth 20000 in
theorem ggX3_stepFrom_X8_isStation : GoodIn wsX3_stepFrom wsX8_isStation := lq_goor _ [4] rfl (by decide +kernel)
set_option maxRecDepth 20000 in
theorem gX3_stepFrom_X8_isStation_n30 : GoodIn wsX3_stepFrom (wsX8_isStation) := ggX3_stepFrom_X8_isStation
set_option maxRecDepth 20000 in
theorem ggX3_stepFrom_X3_timeBetween : GoodIn wsX3_stepFrom wsX3_timeBetween := goodIn_ca (lq_goor _ [9, 10, 11, 2, 3, 4] rfl (by decide +kernel)) (goodIn_sub (fun _ h => List.mem_cons_of_mem _ (List.mem_append_right _ h)) gw_wsX30)
set_option maxRecDepth 20000 in
theorem gX3_stepFrom_X3_timeBetween : GoodIn wsX3_stepFrom (wsV RX3 57 RX3 yX3_timeBetween wsX3_timeBetween) := goodIn_app (lq_goor _ [5, 6, 7, 8] rfl (by decide +kernel)) ggX3_stepFrom_X3_timeBetween
theorem dX3_stepFrom_0 : decode cX3_stepFrom 0 = .ok (.iload_n 1, 1) := by decide +kernel
theorem dX3_stepFrom_1 : decode cX3_stepFrom 1 = .ok (.invokestatic 30, 3) := by decide +kernel
theorem dX3_stepFrom_4 : decode cX3_stepFrom 4 = .ok (.ifCond .eq 48, 3) := by decide +kernel
theorem dX3_stepFrom_7 : decode cX3_stepFrom 7 = .ok (.iconst 0, 1) := by decide +kernel
theorem dX3_stepFrom_8 : decode cX3_stepFrom 8 = .ok (.istore_n 2, 1) := by decide +kernel
theorem dX3_stepFrom_9 : decode cX3_stepFrom 9 = .ok (.iload_n 2, 1) := by decide +kernel
theorem dX3_stepFrom_10 : decode cX3_stepFrom 10 = .ok (.bipush 12, 2) := by decide +kernel
theorem dX3_stepFrom_12 : decode cX3_stepFrom 12 = .ok (.if_icmp .ge 40, 3) := by decide +kernel
theorem dX3_stepFrom_15 : decode cX3_stepFrom 15 = .ok (.aload_n 0, 1) := by decide +kernel
theorem dX3_stepFrom_16 : decode cX3_stepFrom 16 = .ok (.iload_n 1, 1) := by decide +kernel
theorem dX3_stepFrom_17 : decode cX3_stepFrom 17 = .ok (.iload_n 2, 1) := by decide +kernel
theorem dX3_stepFrom_18 : decode cX3_stepFrom 18 = .ok (.invokevirtual 57, 3) := by decide +kernel
theorem dX3_stepFrom_21 : decode cX3_stepFrom 21 = .ok (.istore_n 3, 1) := by decide +kernel
theorem dX3_stepFrom_22 : decode cX3_stepFrom 22 = .ok (.iload_n 3, 1) := by decide +kernel
theorem dX3_stepFrom_23 : decode cX3_stepFrom 23 = .ok (.iconst (-1), 1) := by decide +kernel
theorem dX3_stepFrom_24 : decode cX3_stepFrom 24 = .ok (.if_icmp .eq 22, 3) := by decide +kernel
theorem dX3_stepFrom_27 : decode cX3_stepFrom 27 = .ok (.aload_n 0, 1) := by decide +kernel
theorem dX3_stepFrom_28 : decode cX3_stepFrom 28 = .ok (.getfield 19, 3) := by decide +kernel
theorem dX3_stepFrom_31 : decode cX3_stepFrom 31 = .ok (.iload_n 2, 1) := by decide +kernel
theorem dX3_stepFrom_32 : decode cX3_stepFrom 32 = .ok (.iaload, 1) := by decide +kernel
theorem dX3_stepFrom_33 : decode cX3_stepFrom 33 = .ok (.iload_n 3, 1) := by decide +kernel
theorem dX3_stepFrom_34 : decode cX3_stepFrom 34 = .ok (.iadd, 1) := by decide +kernel
theorem dX3_stepFrom_35 : decode cX3_stepFrom 35 = .ok (.aload_n 0, 1) := by decide +kernel
theorem dX3_stepFrom_36 : decode cX3_stepFrom 36 = .ok (.getfield 19, 3) := by decide +kernel
theorem dX3_stepFrom_39 : decode cX3_stepFrom 39 = .ok (.iload_n 1, 1) := by decide +kernel
theorem dX3_stepFrom_40 : decode cX3_stepFrom 40 = .ok (.iaload, 1) := by decide +kernel
theorem dX3_stepFrom_41 : decode cX3_stepFrom 41 = .ok (.if_icmp .ne 5, 3) := by decide +kernel
theorem dX3_stepFrom_44 : decode cX3_stepFrom 44 = .ok (.iload_n 2, 1) := by decide +kernel
theorem dX3_stepFrom_45 : decode cX3_stepFrom 45 = .ok (.ireturn, 1) := by decide +kernel
theorem dX3_stepFrom_46 : decode cX3_stepFrom 46 = .ok (.iinc 2 1, 3) := by decide +kernel
theorem dX3_stepFrom_49 : decode cX3_stepFrom 49 = .ok (.goto (-40), 3) := by decide +kernel
theorem dX3_stepFrom_52 : decode cX3_stepFrom 52 = .ok (.iload_n 1, 1) := by decide +kernel
theorem dX3_stepFrom_53 : decode cX3_stepFrom 53 = .ok (.ireturn, 1) := by decide +kernel
set_option maxRecDepth 20000 in
theorem ggX3_measureTo_X3_nearestUnsettled : GoodIn wsX3_measureTo wsX3_nearestUnsettled := goodIn_ca (lq_goor _ [8, 2, 3, 1] rfl (by decide +kernel)) (goodIn_sub (fun _ h => List.mem_cons_of_mem _ (List.mem_append_right _ h)) gw_wsX30)
set_option maxRecDepth 20000 in
theorem gX3_measureTo_X3_nearestUnsettled : GoodIn wsX3_measureTo (wsV RX3 60 RX3 yX3_nearestUnsettled wsX3_nearestUnsettled) := goodIn_app (lq_goor _ [4, 5, 6, 7] rfl (by decide +kernel)) ggX3_measureTo_X3_nearestUnsettled
set_option maxRecDepth 20000 in
theorem ggX3_measureTo_X3_settle : GoodIn wsX3_measureTo wsX3_settle := goodIn_ca (lq_goor _ [12, 3, 1, 13, 14, 15, 16, 17, 18, 7, 19, 20, 21] rfl (by decide +kernel)) (goodIn_sub (fun _ h => List.mem_cons_of_mem _ (List.mem_append_right _ h)) gw_wsX30)
set_option maxRecDepth 20000 in
theorem gX3_measureTo_X3_settle : GoodIn wsX3_measureTo (wsV RX3 64 RX3 yX3_settle wsX3_settle) := goodIn_app (lq_goor _ [9, 10, 11, 7] rfl (by decide +kernel)) ggX3_measureTo_X3_settle
