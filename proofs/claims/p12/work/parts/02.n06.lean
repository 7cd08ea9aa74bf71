theorem dX8_ride_87 : decode cX8_ride 87 = .ok (.dup, 1) := by decide +kernel
theorem dX8_ride_88 : decode cX8_ride 88 = .ok (.getfield 124, 3) := by decide +kernel
theorem dX8_ride_91 : decode cX8_ride 91 = .ok (.iconst 1, 1) := by decide +kernel
theorem dX8_ride_92 : decode cX8_ride 92 = .ok (.iadd, 1) := by decide +kernel
theorem dX8_ride_93 : decode cX8_ride 93 = .ok (.putfield 124, 3) := by decide +kernel
theorem dX8_ride_96 : decode cX8_ride 96 = .ok (.aload_n 0, 1) := by decide +kernel
theorem dX8_ride_97 : decode cX8_ride 97 = .ok (.getfield 124, 3) := by decide +kernel
theorem dX8_ride_100 : decode cX8_ride 100 = .ok (.iconst 1, 1) := by decide +kernel
theorem dX8_ride_101 : decode cX8_ride 101 = .ok (.isub, 1) := by decide +kernel
theorem dX8_ride_102 : decode cX8_ride 102 = .ok (.ireturn, 1) := by decide +kernel
set_option maxRecDepth 20000 in
theorem ggX8_cancel_X8_tabletOf : GoodIn wsX8_cancel wsX8_tabletOf := goodIn_ca (lq_goor _ [6, 7] rfl (by decide +kernel)) (goodIn_sub (fun _ h => List.mem_cons_of_mem _ (List.mem_append_left _ (List.mem_append_right _ h))) gw_wsX80)
set_option maxRecDepth 20000 in
theorem gX8_cancel_X8_tabletOf : GoodIn wsX8_cancel (wsV RX8 120 RX8 yX8_tabletOf wsX8_tabletOf) := goodIn_app (lq_goor _ [2, 3, 4, 5] rfl (by decide +kernel)) ggX8_cancel_X8_tabletOf
set_option maxRecDepth 20000 in
theorem ggX8_cancel_X6_tellVoid : GoodIn wsX8_cancel wsX6_tellVoid := goodIn_ca (lq_goor _ [12, 13, 14, 5, 15] rfl (by decide +kernel)) (goodIn_sub (fun _ h => List.mem_cons_of_mem _ (List.mem_append_right _ h)) gw_wsX60)
set_option maxRecDepth 20000 in
theorem gX8_cancel_X6_tellVoid : GoodIn wsX8_cancel (wsV RX8 146 RX6 yX6_tellVoid wsX6_tellVoid) := goodIn_app (lq_goor _ [8, 9, 10, 11] rfl (by decide +kernel)) ggX8_cancel_X6_tellVoid
theorem dX8_cancel_0 : decode cX8_cancel 0 = .ok (.aload_n 0, 1) := by decide +kernel
theorem dX8_cancel_1 : decode cX8_cancel 1 = .ok (.iload_n 1, 1) := by decide +kernel
theorem dX8_cancel_2 : decode cX8_cancel 2 = .ok (.invokevirtual 120, 3) := by decide +kernel
theorem dX8_cancel_5 : decode cX8_cancel 5 = .ok (.astore_n 3, 1) := by decide +kernel
theorem dX8_cancel_6 : decode cX8_cancel 6 = .ok (.aload_n 3, 1) := by decide +kernel
theorem dX8_cancel_7 : decode cX8_cancel 7 = .ok (.ifnull 19, 3) := by decide +kernel
theorem dX8_cancel_10 : decode cX8_cancel 10 = .ok (.aload_n 3, 1) := by decide +kernel
theorem dX8_cancel_11 : decode cX8_cancel 11 = .ok (.iload_n 2, 1) := by decide +kernel
theorem dX8_cancel_12 : decode cX8_cancel 12 = .ok (.aload_n 0, 1) := by decide +kernel
theorem dX8_cancel_13 : decode cX8_cancel 13 = .ok (.getfield 140, 3) := by decide +kernel
theorem dX8_cancel_16 : decode cX8_cancel 16 = .ok (.invokevirtual 146, 3) := by decide +kernel
theorem dX8_cancel_19 : decode cX8_cancel 19 = .ok (.ifCond .eq 7, 3) := by decide +kernel
theorem dX8_cancel_22 : decode cX8_cancel 22 = .ok (.iconst 1, 1) := by decide +kernel
theorem dX8_cancel_23 : decode cX8_cancel 23 = .ok (.goto 4, 3) := by decide +kernel
theorem dX8_cancel_26 : decode cX8_cancel 26 = .ok (.iconst 0, 1) := by decide +kernel
theorem dX8_cancel_27 : decode cX8_cancel 27 = .ok (.ireturn, 1) := by decide +kernel
set_option maxRecDepth 20000 in
theorem ggX8_kill_X8_riderOf : GoodIn wsX8_kill wsX8_riderOf := goodIn_ca (lq_goor _ [5, 6] rfl (by decide +kernel)) (goodIn_sub (fun _ h => List.mem_cons_of_mem _ (List.mem_append_right _ h)) gw_wsX80)
set_option maxRecDepth 20000 in
theorem gX8_kill_X8_riderOf : GoodIn wsX8_kill (wsV RX8 150 RX8 yX8_riderOf wsX8_riderOf) := goodIn_app (lq_goor _ [1, 2, 3, 4] rfl (by decide +kernel)) ggX8_kill_X8_riderOf
set_option maxRecDepth 20000 in
theorem ggX8_kill_X2_isUnderWay : GoodIn wsX8_kill wsX2_isUnderWay := goodIn_ca (lq_goor _ [11, 12] rfl (by decide +kernel)) (goodIn_sub (fun _ h => List.mem_cons_of_mem _ (List.mem_append_left _ (List.mem_append_right _ h))) gw_wsX20)
set_option maxRecDepth 20000 in
theorem gX8_kill_X2_isUnderWay : GoodIn wsX8_kill (wsV RX8 154 RX2 yX2_isUnderWay wsX2_isUnderWay) := goodIn_app (lq_goor _ [7, 8, 9, 10] rfl (by decide +kernel)) ggX8_kill_X2_isUnderWay
theorem dX8_kill_0 : decode cX8_kill 0 = .ok (.aload_n 0, 1) := by decide +kernel
theorem dX8_kill_1 : decode cX8_kill 1 = .ok (.iload_n 1, 1) := by decide +kernel
theorem dX8_kill_2 : decode cX8_kill 2 = .ok (.invokevirtual 150, 3) := by decide +kernel
theorem dX8_kill_5 : decode cX8_kill 5 = .ok (.astore_n 2, 1) := by decide +kernel
theorem dX8_kill_6 : decode cX8_kill 6 = .ok (.aload_n 2, 1) := by decide +kernel
theorem dX8_kill_7 : decode cX8_kill 7 = .ok (.ifnull 10, 3) := by decide +kernel
theorem dX8_kill_10 : decode cX8_kill 10 = .ok (.aload_n 2, 1) := by decide +kernel
theorem dX8_kill_11 : decode cX8_kill 11 = .ok (.invokevirtual 154, 3) := by decide +kernel
theorem dX8_kill_14 : decode cX8_kill 14 = .ok (.ifCond .ne 5, 3) := by decide +kernel
theorem dX8_kill_17 : decode cX8_kill 17 = .ok (.iconst 0, 1) := by decide +kernel
theorem dX8_kill_18 : decode cX8_kill 18 = .ok (.ireturn, 1) := by decide +kernel
theorem dX8_kill_19 : decode cX8_kill 19 = .ok (.aload_n 2, 1) := by decide +kernel
theorem dX8_kill_20 : decode cX8_kill 20 = .ok (.iconst 4, 1) := by decide +kernel
theorem dX8_kill_21 : decode cX8_kill 21 = .ok (.putfield 158, 3) := by decide +kernel
theorem dX8_kill_24 : decode cX8_kill 24 = .ok (.iconst 1, 1) := by decide +kernel
theorem dX8_kill_25 : decode cX8_kill 25 = .ok (.ireturn, 1) := by decide +kernel
set_option maxRecDepth 20000 in
theorem ggX8_next_X8_careForHorses : GoodIn wsX8_next wsX8_careForHorses := goodIn_ca (goodIn_ca (goodIn_ca (lq_goor _ [6, 7, 8, 9, 5, 10, 11, 12, 13, 14, 15, 16, 17, 18, 19, 20, 21, 22, 23, 24, 25, 26, 27, 28, 29, 30, 31, 32, 33, 34, 35, 36, 37, 38, 39] rfl (by decide +kernel)) (goodIn_sub (fun _ h => List.mem_cons_of_mem _ (List.mem_append_left _ (List.mem_append_left _ (List.mem_append_left _ (List.mem_append_left _ (List.mem_append_left _ (List.mem_append_right _ h))))))) gw_wsX80)) (goodIn_sub (fun _ h => List.mem_cons_of_mem _ (List.mem_append_left _ (List.mem_append_left _ (List.mem_append_left _ (List.mem_append_left _ (List.mem_append_right _ h)))))) gw_wsX00)) (goodIn_sub (fun _ h => List.mem_cons_of_mem _ (List.mem_append_left _ (List.mem_append_left _ (List.mem_append_left _ (List.mem_append_right _ h))))) gw_wsX50)
set_option maxRecDepth 20000 in
theorem gX8_next_X8_careForHorses : GoodIn wsX8_next (wsV RX8 161 RX8 yX8_careForHorses wsX8_careForHorses) := goodIn_app (lq_goor _ [2, 3, 4, 5] rfl (by decide +kernel)) ggX8_next_X8_careForHorses
set_option maxRecDepth 20000 in
theorem ggX8_next_X8_lineUpWaiting : GoodIn wsX8_next wsX8_lineUpWaiting := goodIn_ca (goodIn_ca (lq_goor _ [43, 44, 45, 46, 47, 48, 5, 49, 50, 51, 52, 53, 54, 55, 56, 57, 58, 59, 60, 61, 62, 63, 64] rfl (by decide +kernel)) (goodIn_sub (fun _ h => List.mem_cons_of_mem _ (List.mem_append_left _ (List.mem_append_left _ (List.mem_append_left _ (List.mem_append_left _ (List.mem_append_left _ (List.mem_append_right _ h))))))) gw_wsX80)) (goodIn_sub (fun _ h => List.mem_cons_of_mem _ (List.mem_append_left _ (List.mem_append_left _ (List.mem_append_right _ h)))) gw_wsX20)
set_option maxRecDepth 20000 in
theorem gX8_next_X8_lineUpWaiting : GoodIn wsX8_next (wsV RX8 164 RX8 yX8_lineUpWaiting wsX8_lineUpWaiting) := goodIn_app (lq_goor _ [40, 41, 42, 5] rfl (by decide +kernel)) ggX8_next_X8_lineUpWaiting
set_option maxRecDepth 20000 in
theorem ggX8_next_X8_sendLine : GoodIn wsX8_next wsX8_sendLine := goodIn_ca (goodIn_ca (goodIn_ca (goodIn_ca (goodIn_ca (goodIn_ca (lq_goor _ [68, 44, 50, 69, 70, 71, 5, 72, 73, 16, 1, 54, 55, 56, 57, 58, 59, 60, 61, 62, 63, 64, 74, 75, 76, 77, 78, 79, 80, 81, 82, 83, 84, 85, 86, 87, 88, 9, 10, 89, 90, 91, 92, 93, 94, 95, 96, 97, 98, 99, 100, 101, 102, 103, 7, 104, 105, 106, 107, 108, 109, 110, 24, 111, 26, 112, 113, 114, 115, 116, 117, 118, 119, 120, 121, 122, 123] rfl (by decide +kernel)) (goodIn_sub (fun _ h => List.mem_cons_of_mem _ (List.mem_append_left _ (List.mem_append_left _ (List.mem_append_left _ (List.mem_append_left _ (List.mem_append_left _ (List.mem_append_right _ h))))))) gw_wsX80)) (goodIn_sub (fun _ h => List.mem_cons_of_mem _ (List.mem_append_left _ (List.mem_append_left _ (List.mem_append_right _ h)))) gw_wsX20)) (goodIn_sub (fun _ h => List.mem_cons_of_mem _ (List.mem_append_left _ (List.mem_append_left _ (List.mem_append_left _ (List.mem_append_left _ (List.mem_append_right _ h)))))) gw_wsX00)) (goodIn_sub (fun _ h => List.mem_cons_of_mem _ (List.mem_append_left _ (List.mem_append_right _ h))) gw_wsX60)) (goodIn_sub (fun _ h => List.mem_cons_of_mem _ (List.mem_append_right _ h)) gw_wsX30)) (goodIn_sub (fun _ h => List.mem_cons_of_mem _ (List.mem_append_left _ (List.mem_append_left _ (List.mem_append_left _ (List.mem_append_right _ h))))) gw_wsX50)
set_option maxRecDepth 20000 in
theorem gX8_next_X8_sendLine : GoodIn wsX8_next (wsV RX8 167 RX8 yX8_sendLine wsX8_sendLine) := goodIn_app (lq_goor _ [65, 66, 67, 5] rfl (by decide +kernel)) ggX8_next_X8_sendLine
set_option maxRecDepth 20000 in
theorem ggX8_next_X8_bringComers : GoodIn wsX8_next wsX8_bringComers := goodIn_ca (goodIn_ca (goodIn_ca (goodIn_ca (goodIn_ca (lq_goor _ [127, 45, 1, 128, 129, 130, 5, 131, 16, 89, 90, 91, 57, 92, 59, 60, 61, 62, 63, 64, 112, 113, 114, 24, 115, 26, 31, 32, 33, 34, 35, 36, 37, 38, 19, 39, 54, 55, 56, 58, 132, 133, 134, 135, 82, 136, 137, 138, 86, 139, 140, 84, 85, 87, 88, 9, 10, 141, 142, 143, 144, 145, 146, 147, 148, 149, 150, 123, 151] rfl (by decide +kernel)) (goodIn_sub (fun _ h => List.mem_cons_of_mem _ (List.mem_append_left _ (List.mem_append_left _ (List.mem_append_left _ (List.mem_append_left _ (List.mem_append_left _ (List.mem_append_right _ h))))))) gw_wsX80)) (goodIn_sub (fun _ h => List.mem_cons_of_mem _ (List.mem_append_left _ (List.mem_append_left _ (List.mem_append_right _ h)))) gw_wsX20)) (goodIn_sub (fun _ h => List.mem_cons_of_mem _ (List.mem_append_left _ (List.mem_append_left _ (List.mem_append_left _ (List.mem_append_left _ (List.mem_append_right _ h)))))) gw_wsX00)) (goodIn_sub (fun _ h => List.mem_cons_of_mem _ (List.mem_append_left _ (List.mem_append_left _ (List.mem_append_left _ (List.mem_append_right _ h))))) gw_wsX50)) (goodIn_sub (fun _ h => List.mem_cons_of_mem _ (List.mem_append_left _ (List.mem_append_right _ h))) gw_wsX60)
set_option maxRecDepth 20000 in
theorem gX8_next_X8_bringComers : GoodIn wsX8_next (wsV RX8 170 RX8 yX8_bringComers wsX8_bringComers) := goodIn_app (lq_goor _ [124, 125, 126, 5] rfl (by decide +kernel)) ggX8_next_X8_bringComers
theorem dX8_next_0 : decode cX8_next 0 = .ok (.aload_n 0, 1) := by decide +kernel
theorem dX8_next_1 : decode cX8_next 1 = .ok (.getfield 140, 3) := by decide +kernel
theorem dX8_next_4 : decode cX8_next 4 = .ok (.sipush 9999, 3) := by decide +kernel
theorem dX8_next_7 : decode cX8_next 7 = .ok (.if_icmp .lt 5, 3) := by decide +kernel
theorem dX8_next_10 : decode cX8_next 10 = .ok (.iconst (-1), 1) := by decide +kernel
theorem dX8_next_11 : decode cX8_next 11 = .ok (.ireturn, 1) := by decide +kernel
theorem dX8_next_12 : decode cX8_next 12 = .ok (.aload_n 0, 1) := by decide +kernel
theorem dX8_next_13 : decode cX8_next 13 = .ok (.invokevirtual 161, 3) := by decide +kernel
theorem dX8_next_16 : decode cX8_next 16 = .ok (.aload_n 0, 1) := by decide +kernel
theorem dX8_next_17 : decode cX8_next 17 = .ok (.invokevirtual 164, 3) := by decide +kernel
theorem dX8_next_20 : decode cX8_next 20 = .ok (.aload_n 0, 1) := by decide +kernel
theorem dX8_next_21 : decode cX8_next 21 = .ok (.invokevirtual 167, 3) := by decide +kernel
theorem dX8_next_24 : decode cX8_next 24 = .ok (.aload_n 0, 1) := by decide +kernel
theorem dX8_next_25 : decode cX8_next 25 = .ok (.dup, 1) := by decide +kernel
theorem dX8_next_26 : decode cX8_next 26 = .ok (.getfield 140, 3) := by decide +kernel
theorem dX8_next_29 : decode cX8_next 29 = .ok (.iconst 1, 1) := by decide +kernel
theorem dX8_next_30 : decode cX8_next 30 = .ok (.iadd, 1) := by decide +kernel
theorem dX8_next_31 : decode cX8_next 31 = .ok (.putfield 140, 3) := by decide +kernel
theorem dX8_next_34 : decode cX8_next 34 = .ok (.aload_n 0, 1) := by decide +kernel
theorem dX8_next_35 : decode cX8_next 35 = .ok (.invokevirtual 170, 3) := by decide +kernel
theorem dX8_next_38 : decode cX8_next 38 = .ok (.aload_n 0, 1) := by decide +kernel
theorem dX8_next_39 : decode cX8_next 39 = .ok (.getfield 140, 3) := by decide +kernel
theorem dX8_next_42 : decode cX8_next 42 = .ok (.ireturn, 1) := by decide +kernel
set_option maxRecDepth 20000 in
theorem ggX8_rider_X8_riderOf : GoodIn wsX8_rider wsX8_riderOf := goodIn_ca (lq_goor _ [7, 8] rfl (by decide +kernel)) (goodIn_sub (fun _ h => List.mem_cons_of_mem _ (List.mem_append_left _ (List.mem_append_left _ (List.mem_append_right _ h)))) gw_wsX80)
set_option maxRecDepth 20000 in
theorem gX8_rider_X8_riderOf : GoodIn wsX8_rider (wsV RX8 150 RX8 yX8_riderOf wsX8_riderOf) := goodIn_app (lq_goor _ [3, 4, 5, 6] rfl (by decide +kernel)) ggX8_rider_X8_riderOf
set_option maxRecDepth 20000 in
theorem ggX8_rider_X2_lastStation : GoodIn wsX8_rider wsX2_lastStation := goodIn_ca (lq_goor _ [13, 14, 15, 16, 17, 12, 18, 19] rfl (by decide +kernel)) (goodIn_sub (fun _ h => List.mem_cons_of_mem _ (List.mem_append_left _ (List.mem_append_left _ (List.mem_append_left _ (List.mem_append_right _ h))))) gw_wsX20)
set_option maxRecDepth 20000 in
theorem gX8_rider_X2_lastStation : GoodIn wsX8_rider (wsV RX8 180 RX2 yX2_lastStation wsX2_lastStation) := goodIn_app (lq_goor _ [9, 10, 11, 12] rfl (by decide +kernel)) ggX8_rider_X2_lastStation
set_option maxRecDepth 20000 in
theorem ggX8_rider_X2_horseRidden : GoodIn wsX8_rider wsX2_horseRidden := goodIn_ca (goodIn_ca (lq_goor _ [23, 24, 25] rfl (by decide +kernel)) (goodIn_sub (fun _ h => List.mem_cons_of_mem _ (List.mem_append_left _ (List.mem_append_left _ (List.mem_append_left _ (List.mem_append_right _ h))))) gw_wsX20)) (goodIn_sub (fun _ h => List.mem_cons_of_mem _ (List.mem_append_left _ (List.mem_append_right _ h))) gw_wsX00)
set_option maxRecDepth 20000 in
theorem gX8_rider_X2_horseRidden : GoodIn wsX8_rider (wsV RX8 187 RX2 yX2_horseRidden wsX2_horseRidden) := goodIn_app (lq_goor _ [20, 21, 22, 12] rfl (by decide +kernel)) ggX8_rider_X2_horseRidden
theorem dX8_rider_0 : decode cX8_rider 0 = .ok (.aload_n 0, 1) := by decide +kernel
theorem dX8_rider_1 : decode cX8_rider 1 = .ok (.iload_n 1, 1) := by decide +kernel
theorem dX8_rider_2 : decode cX8_rider 2 = .ok (.invokevirtual 150, 3) := by decide +kernel
theorem dX8_rider_5 : decode cX8_rider 5 = .ok (.astore_n 3, 1) := by decide +kernel
theorem dX8_rider_6 : decode cX8_rider 6 = .ok (.aload_n 3, 1) := by decide +kernel
theorem dX8_rider_7 : decode cX8_rider 7 = .ok (.ifnull 12, 3) := by decide +kernel
theorem dX8_rider_10 : decode cX8_rider 10 = .ok (.iload_n 2, 1) := by decide +kernel
theorem dX8_rider_11 : decode cX8_rider 11 = .ok (.ifCond .lt 8, 3) := by decide +kernel
theorem dX8_rider_14 : decode cX8_rider 14 = .ok (.iload_n 2, 1) := by decide +kernel
theorem dX8_rider_15 : decode cX8_rider 15 = .ok (.iconst 5, 1) := by decide +kernel
theorem dX8_rider_16 : decode cX8_rider 16 = .ok (.if_icmp .le 13, 3) := by decide +kernel
theorem dX8_rider_19 : decode cX8_rider 19 = .ok (.new 173, 3) := by decide +kernel
theorem dX8_rider_22 : decode cX8_rider 22 = .ok (.dup, 1) := by decide +kernel
theorem dX8_rider_23 : decode cX8_rider 23 = .ok (.ldc 175, 2) := by decide +kernel
theorem dX8_rider_25 : decode cX8_rider 25 = .ok (.invokespecial 177, 3) := by decide +kernel
theorem dX8_rider_28 : decode cX8_rider 28 = .ok (.athrow, 1) := by decide +kernel
theorem dX8_rider_29 : decode cX8_rider 29 = .ok (.iload_n 2, 1) := by decide +kernel
theorem dX8_rider_30 : decode cX8_rider 30 = .ok (.tableswitch 59 0 4 #[34, 39, 44, 49, 54], 34) := by decide +kernel
theorem dX8_rider_64 : decode cX8_rider 64 = .ok (.aload_n 3, 1) := by decide +kernel
theorem dX8_rider_65 : decode cX8_rider 65 = .ok (.getfield 158, 3) := by decide +kernel
theorem dX8_rider_68 : decode cX8_rider 68 = .ok (.ireturn, 1) := by decide +kernel
theorem dX8_rider_69 : decode cX8_rider 69 = .ok (.aload_n 3, 1) := by decide +kernel
theorem dX8_rider_70 : decode cX8_rider 70 = .ok (.invokevirtual 180, 3) := by decide +kernel
theorem dX8_rider_73 : decode cX8_rider 73 = .ok (.ireturn, 1) := by decide +kernel
theorem dX8_rider_74 : decode cX8_rider 74 = .ok (.aload_n 3, 1) := by decide +kernel
theorem dX8_rider_75 : decode cX8_rider 75 = .ok (.getfield 184, 3) := by decide +kernel
theorem dX8_rider_78 : decode cX8_rider 78 = .ok (.ireturn, 1) := by decide +kernel
theorem dX8_rider_79 : decode cX8_rider 79 = .ok (.aload_n 3, 1) := by decide +kernel
theorem dX8_rider_80 : decode cX8_rider 80 = .ok (.invokevirtual 187, 3) := by decide +kernel
theorem dX8_rider_83 : decode cX8_rider 83 = .ok (.ireturn, 1) := by decide +kernel
theorem dX8_rider_84 : decode cX8_rider 84 = .ok (.aload_n 3, 1) := by decide +kernel
theorem dX8_rider_85 : decode cX8_rider 85 = .ok (.getfield 190, 3) := by decide +kernel
theorem dX8_rider_88 : decode cX8_rider 88 = .ok (.ireturn, 1) := by decide +kernel
theorem dX8_rider_89 : decode cX8_rider 89 = .ok (.aload_n 3, 1) := by decide +kernel
theorem dX8_rider_90 : decode cX8_rider 90 = .ok (.getfield 193, 3) := by decide +kernel
theorem dX8_rider_93 : decode cX8_rider 93 = .ok (.ireturn, 1) := by decide +kernel
set_option maxRecDepth 20000 in
theorem ggX8_way_X8_riderOf : GoodIn wsX8_way wsX8_riderOf := goodIn_ca (lq_goor _ [5, 6] rfl (by decide +kernel)) (goodIn_sub (fun _ h => List.mem_cons_of_mem _ (List.mem_append_left _ (List.mem_append_right _ h))) gw_wsX80)
set_option maxRecDepth 20000 in
theorem gX8_way_X8_riderOf : GoodIn wsX8_way (wsV RX8 150 RX8 yX8_riderOf wsX8_riderOf) := goodIn_app (lq_goor _ [1, 2, 3, 4] rfl (by decide +kernel)) ggX8_way_X8_riderOf
set_option maxRecDepth 20000 in
theorem ggX8_way_X2_stationOfWay : GoodIn wsX8_way wsX2_stationOfWay := goodIn_ca (lq_goor _ [11, 12] rfl (by decide +kernel)) (goodIn_sub (fun _ h => List.mem_cons_of_mem _ (List.mem_append_right _ h)) gw_wsX20)
set_option maxRecDepth 20000 in
theorem gX8_way_X2_stationOfWay : GoodIn wsX8_way (wsV RX8 196 RX2 yX2_stationOfWay wsX2_stationOfWay) := goodIn_app (lq_goor _ [7, 8, 9, 10] rfl (by decide +kernel)) ggX8_way_X2_stationOfWay
theorem dX8_way_0 : decode cX8_way 0 = .ok (.aload_n 0, 1) := by decide +kernel
theorem dX8_way_1 : decode cX8_way 1 = .ok (.iload_n 1, 1) := by decide +kernel
theorem dX8_way_2 : decode cX8_way 2 = .ok (.invokevirtual 150, 3) := by decide +kernel
theorem dX8_way_5 : decode cX8_way 5 = .ok (.astore_n 3, 1) := by decide +kernel
theorem dX8_way_6 : decode cX8_way 6 = .ok (.aload_n 3, 1) := by decide +kernel
theorem dX8_way_7 : decode cX8_way 7 = .ok (.ifnonnull 7, 3) := by decide +kernel
theorem dX8_way_10 : decode cX8_way 10 = .ok (.iconst (-1), 1) := by decide +kernel
theorem dX8_way_11 : decode cX8_way 11 = .ok (.goto 8, 3) := by decide +kernel
theorem dX8_way_14 : decode cX8_way 14 = .ok (.aload_n 3, 1) := by decide +kernel
theorem dX8_way_15 : decode cX8_way 15 = .ok (.iload_n 2, 1) := by decide +kernel
theorem dX8_way_16 : decode cX8_way 16 = .ok (.invokevirtual 196, 3) := by decide +kernel
theorem dX8_way_19 : decode cX8_way 19 = .ok (.ireturn, 1) := by decide +kernel
set_option maxRecDepth 20000 in
theorem ggX8_steed_X8_horseOf : GoodIn wsX8_steed wsX8_horseOf := goodIn_ca (lq_goor _ [7, 8] rfl (by decide +kernel)) (goodIn_sub (fun _ h => List.mem_cons_of_mem _ (List.mem_append_left _ (List.mem_append_right _ h))) gw_wsX80)
set_option maxRecDepth 20000 in
theorem gX8_steed_X8_horseOf : GoodIn wsX8_steed (wsV RX8 200 RX8 yX8_horseOf wsX8_horseOf) := goodIn_app (lq_goor _ [3, 4, 5, 6] rfl (by decide +kernel)) ggX8_steed_X8_horseOf
theorem dX8_steed_0 : decode cX8_steed 0 = .ok (.aload_n 0, 1) := by decide +kernel
theorem dX8_steed_1 : decode cX8_steed 1 = .ok (.iload_n 1, 1) := by decide +kernel
theorem dX8_steed_2 : decode cX8_steed 2 = .ok (.invokevirtual 200, 3) := by decide +kernel
theorem dX8_steed_5 : decode cX8_steed 5 = .ok (.astore_n 3, 1) := by decide +kernel
theorem dX8_steed_6 : decode cX8_steed 6 = .ok (.aload_n 3, 1) := by decide +kernel
theorem dX8_steed_7 : decode cX8_steed 7 = .ok (.ifnull 12, 3) := by decide +kernel
theorem dX8_steed_10 : decode cX8_steed 10 = .ok (.iload_n 2, 1) := by decide +kernel
theorem dX8_steed_11 : decode cX8_steed 11 = .ok (.ifCond .lt 8, 3) := by decide +kernel
theorem dX8_steed_14 : decode cX8_steed 14 = .ok (.iload_n 2, 1) := by decide +kernel
theorem dX8_steed_15 : decode cX8_steed 15 = .ok (.iconst 1, 1) := by decide +kernel
theorem dX8_steed_16 : decode cX8_steed 16 = .ok (.if_icmp .le 13, 3) := by decide +kernel
theorem dX8_steed_19 : decode cX8_steed 19 = .ok (.new 173, 3) := by decide +kernel
theorem dX8_steed_22 : decode cX8_steed 22 = .ok (.dup, 1) := by decide +kernel
theorem dX8_steed_23 : decode cX8_steed 23 = .ok (.ldc 204, 2) := by decide +kernel
theorem dX8_steed_25 : decode cX8_steed 25 = .ok (.invokespecial 177, 3) := by decide +kernel
theorem dX8_steed_28 : decode cX8_steed 28 = .ok (.athrow, 1) := by decide +kernel
theorem dX8_steed_29 : decode cX8_steed 29 = .ok (.iload_n 2, 1) := by decide +kernel
theorem dX8_steed_30 : decode cX8_steed 30 = .ok (.ifCond .ne 10, 3) := by decide +kernel
theorem dX8_steed_33 : decode cX8_steed 33 = .ok (.aload_n 3, 1) := by decide +kernel
theorem dX8_steed_34 : decode cX8_steed 34 = .ok (.getfield 206, 3) := by decide +kernel
theorem dX8_steed_37 : decode cX8_steed 37 = .ok (.goto 7, 3) := by decide +kernel
theorem dX8_steed_40 : decode cX8_steed 40 = .ok (.aload_n 3, 1) := by decide +kernel
theorem dX8_steed_41 : decode cX8_steed 41 = .ok (.getfield 209, 3) := by decide +kernel
theorem dX8_steed_44 : decode cX8_steed 44 = .ok (.ireturn, 1) := by decide +kernel
set_option maxRecDepth 20000 in
theorem ggX8_at_X8_isStation : GoodIn wsX8_at wsX8_isStation := lq_goor _ [5] rfl (by decide +kernel)
set_option maxRecDepth 20000 in
theorem gX8_at_X8_isStation : GoodIn wsX8_at (va_wsS RX8 95 yX8_isStation wsX8_isStation) := goodIn_app (lq_goor _ [2, 3, 4] rfl (by decide +kernel)) ggX8_at_X8_isStation
set_option maxRecDepth 20000 in
theorem ggX8_at_X8_horsesAt : GoodIn wsX8_at wsX8_horsesAt := goodIn_ca (goodIn_ca (lq_goor _ [9, 10] rfl (by decide +kernel)) (goodIn_sub (fun _ h => List.mem_cons_of_mem _ (List.mem_append_left _ (List.mem_append_left _ (List.mem_append_right _ h)))) gw_wsX80)) (goodIn_sub (fun _ h => List.mem_cons_of_mem _ (List.mem_append_left _ (List.mem_append_right _ h))) gw_wsX00)
set_option maxRecDepth 20000 in
theorem gX8_at_X8_horsesAt : GoodIn wsX8_at (wsV RX8 212 RX8 yX8_horsesAt wsX8_horsesAt) := goodIn_app (lq_goor _ [6, 7, 8, 4] rfl (by decide +kernel)) ggX8_at_X8_horsesAt
set_option maxRecDepth 20000 in
theorem ggX8_at_X8_ridersWaitingAt : GoodIn wsX8_at wsX8_ridersWaitingAt := goodIn_ca (goodIn_ca (lq_goor _ [14, 15, 16, 17, 18, 19, 20, 21, 22, 23, 24, 25, 26] rfl (by decide +kernel)) (goodIn_sub (fun _ h => List.mem_cons_of_mem _ (List.mem_append_left _ (List.mem_append_left _ (List.mem_append_right _ h)))) gw_wsX80)) (goodIn_sub (fun _ h => List.mem_cons_of_mem _ (List.mem_append_right _ h)) gw_wsX20)
set_option maxRecDepth 20000 in
theorem gX8_at_X8_ridersWaitingAt : GoodIn wsX8_at (wsV RX8 215 RX8 yX8_ridersWaitingAt wsX8_ridersWaitingAt) := goodIn_app (lq_goor _ [11, 12, 13, 4] rfl (by decide +kernel)) ggX8_at_X8_ridersWaitingAt
theorem dX8_at_0 : decode cX8_at 0 = .ok (.iload_n 1, 1) := by decide +kernel
theorem dX8_at_1 : decode cX8_at 1 = .ok (.invokestatic 95, 3) := by decide +kernel
theorem dX8_at_4 : decode cX8_at 4 = .ok (.ifCond .ne 5, 3) := by decide +kernel
theorem dX8_at_7 : decode cX8_at 7 = .ok (.iconst (-1), 1) := by decide +kernel
theorem dX8_at_8 : decode cX8_at 8 = .ok (.ireturn, 1) := by decide +kernel
theorem dX8_at_9 : decode cX8_at 9 = .ok (.iload_n 2, 1) := by decide +kernel
theorem dX8_at_10 : decode cX8_at 10 = .ok (.tableswitch 45 0 2 #[26, 33, 39], 26) := by decide +kernel
theorem dX8_at_36 : decode cX8_at 36 = .ok (.aload_n 0, 1) := by decide +kernel
theorem dX8_at_37 : decode cX8_at 37 = .ok (.getfield 30, 3) := by decide +kernel
theorem dX8_at_40 : decode cX8_at 40 = .ok (.iload_n 1, 1) := by decide +kernel
theorem dX8_at_41 : decode cX8_at 41 = .ok (.iaload, 1) := by decide +kernel
theorem dX8_at_42 : decode cX8_at 42 = .ok (.ireturn, 1) := by decide +kernel
theorem dX8_at_43 : decode cX8_at 43 = .ok (.aload_n 0, 1) := by decide +kernel
theorem dX8_at_44 : decode cX8_at 44 = .ok (.iload_n 1, 1) := by decide +kernel
theorem dX8_at_45 : decode cX8_at 45 = .ok (.invokevirtual 212, 3) := by decide +kernel
theorem dX8_at_48 : decode cX8_at 48 = .ok (.ireturn, 1) := by decide +kernel
theorem dX8_at_49 : decode cX8_at 49 = .ok (.aload_n 0, 1) := by decide +kernel
theorem dX8_at_50 : decode cX8_at 50 = .ok (.iload_n 1, 1) := by decide +kernel
theorem dX8_at_51 : decode cX8_at 51 = .ok (.invokevirtual 215, 3) := by decide +kernel
theorem dX8_at_54 : decode cX8_at 54 = .ok (.ireturn, 1) := by decide +kernel
theorem dX8_at_55 : decode cX8_at 55 = .ok (.iconst (-1), 1) := by decide +kernel
theorem dX8_at_56 : decode cX8_at 56 = .ok (.ireturn, 1) := by decide +kernel
set_option maxRecDepth 20000 in
theorem ggX8_voided_X8_tabletOf : GoodIn wsX8_voided wsX8_tabletOf := goodIn_ca (lq_goor _ [5, 6] rfl (by decide +kernel)) (goodIn_sub (fun _ h => List.mem_cons_of_mem _ (List.mem_append_left _ (List.mem_append_right _ h))) gw_wsX80)
set_option maxRecDepth 20000 in
theorem gX8_voided_X8_tabletOf : GoodIn wsX8_voided (wsV RX8 120 RX8 yX8_tabletOf wsX8_tabletOf) := goodIn_app (lq_goor _ [1, 2, 3, 4] rfl (by decide +kernel)) ggX8_voided_X8_tabletOf
set_option maxRecDepth 20000 in
theorem ggX8_voided_X6_voidSince : GoodIn wsX8_voided wsX6_voidSince := goodIn_ca (lq_goor _ [11, 12, 13, 4, 14] rfl (by decide +kernel)) (goodIn_sub (fun _ h => List.mem_cons_of_mem _ (List.mem_append_right _ h)) gw_wsX60)
set_option maxRecDepth 20000 in
theorem gX8_voided_X6_voidSince : GoodIn wsX8_voided (wsV RX8 218 RX6 yX6_voidSince wsX6_voidSince) := goodIn_app (lq_goor _ [7, 8, 9, 10] rfl (by decide +kernel)) ggX8_voided_X6_voidSince
theorem dX8_voided_0 : decode cX8_voided 0 = .ok (.aload_n 0, 1) := by decide +kernel
theorem dX8_voided_1 : decode cX8_voided 1 = .ok (.iload_n 1, 1) := by decide +kernel
theorem dX8_voided_2 : decode cX8_voided 2 = .ok (.invokevirtual 120, 3) := by decide +kernel
theorem dX8_voided_5 : decode cX8_voided 5 = .ok (.astore_n 3, 1) := by decide +kernel
theorem dX8_voided_6 : decode cX8_voided 6 = .ok (.aload_n 3, 1) := by decide +kernel
theorem dX8_voided_7 : decode cX8_voided 7 = .ok (.ifnonnull 7, 3) := by decide +kernel
theorem dX8_voided_10 : decode cX8_voided 10 = .ok (.iconst (-1), 1) := by decide +kernel
theorem dX8_voided_11 : decode cX8_voided 11 = .ok (.goto 8, 3) := by decide +kernel
theorem dX8_voided_14 : decode cX8_voided 14 = .ok (.aload_n 3, 1) := by decide +kernel
theorem dX8_voided_15 : decode cX8_voided 15 = .ok (.iload_n 2, 1) := by decide +kernel
theorem dX8_voided_16 : decode cX8_voided 16 = .ok (.invokevirtual 218, 3) := by decide +kernel
theorem dX8_voided_19 : decode cX8_voided 19 = .ok (.ireturn, 1) := by decide +kernel
set_option maxRecDepth 20000 in
theorem ggX8_known_X8_riderOf : GoodIn wsX8_known wsX8_riderOf := goodIn_ca (lq_goor _ [5, 6] rfl (by decide +kernel)) (goodIn_sub (fun _ h => List.mem_cons_of_mem _ (List.mem_append_left _ (List.mem_append_right _ h))) gw_wsX80)
set_option maxRecDepth 20000 in
theorem gX8_known_X8_riderOf : GoodIn wsX8_known (wsV RX8 150 RX8 yX8_riderOf wsX8_riderOf) := goodIn_app (lq_goor _ [1, 2, 3, 4] rfl (by decide +kernel)) ggX8_known_X8_riderOf
set_option maxRecDepth 20000 in
theorem ggX8_known_X2_newsKnownSince : GoodIn wsX8_known wsX2_newsKnownSince := goodIn_ca (lq_goor _ [11, 12, 13, 4, 14] rfl (by decide +kernel)) (goodIn_sub (fun _ h => List.mem_cons_of_mem _ (List.mem_append_right _ h)) gw_wsX20)
set_option maxRecDepth 20000 in
theorem gX8_known_X2_newsKnownSince : GoodIn wsX8_known (wsV RX8 221 RX2 yX2_newsKnownSince wsX2_newsKnownSince) := goodIn_app (lq_goor _ [7, 8, 9, 10] rfl (by decide +kernel)) ggX8_known_X2_newsKnownSince
theorem dX8_known_0 : decode cX8_known 0 = .ok (.aload_n 0, 1) := by decide +kernel
theorem dX8_known_1 : decode cX8_known 1 = .ok (.iload_n 1, 1) := by decide +kernel
theorem dX8_known_2 : decode cX8_known 2 = .ok (.invokevirtual 150, 3) := by decide +kernel
theorem dX8_known_5 : decode cX8_known 5 = .ok (.astore_n 3, 1) := by decide +kernel
theorem dX8_known_6 : decode cX8_known 6 = .ok (.aload_n 3, 1) := by decide +kernel
theorem dX8_known_7 : decode cX8_known 7 = .ok (.ifnonnull 7, 3) := by decide +kernel
theorem dX8_known_10 : decode cX8_known 10 = .ok (.iconst (-1), 1) := by decide +kernel
theorem dX8_known_11 : decode cX8_known 11 = .ok (.goto 8, 3) := by decide +kernel
theorem dX8_known_14 : decode cX8_known 14 = .ok (.aload_n 3, 1) := by decide +kernel
theorem dX8_known_15 : decode cX8_known 15 = .ok (.iload_n 2, 1) := by decide +kernel
theorem dX8_known_16 : decode cX8_known 16 = .ok (.invokevirtual 221, 3) := by decide +kernel
theorem dX8_known_19 : decode cX8_known 19 = .ok (.ireturn, 1) := by decide +kernel
set_option maxRecDepth 20000 in
theorem ggX8_hours_X3_leastTime : GoodIn wsX8_hours wsX3_leastTime := goodIn_ca (lq_goor _ [6, 7, 8, 9, 10, 11, 12, 13, 14, 5, 15, 16, 17, 18, 19, 20, 21, 22, 23, 24, 25, 26, 27, 28, 29, 30] rfl (by decide +kernel)) (goodIn_sub (fun _ h => List.mem_cons_of_mem _ (List.mem_append_right _ h)) gw_wsX30)
set_option maxRecDepth 20000 in
theorem gX8_hours_X3_leastTime : GoodIn wsX8_hours (wsV RX8 224 RX3 yX3_leastTime wsX3_leastTime) := goodIn_app (lq_goor _ [2, 3, 4, 5] rfl (by decide +kernel)) ggX8_hours_X3_leastTime
theorem dX8_hours_0 : decode cX8_hours 0 = .ok (.aload_n 0, 1) := by decide +kernel
theorem dX8_hours_1 : decode cX8_hours 1 = .ok (.getfield 19, 3) := by decide +kernel
theorem dX8_hours_4 : decode cX8_hours 4 = .ok (.iload_n 1, 1) := by decide +kernel
theorem dX8_hours_5 : decode cX8_hours 5 = .ok (.iload_n 2, 1) := by decide +kernel
theorem dX8_hours_6 : decode cX8_hours 6 = .ok (.invokevirtual 224, 3) := by decide +kernel
theorem dX8_hours_9 : decode cX8_hours 9 = .ok (.ireturn, 1) := by decide +kernel
set_option maxRecDepth 20000 in
theorem ggX8_leading_X7_byteAt : GoodIn wsX8_leading wsX7_byteAt := goodIn_ca (lq_goor _ [8, 9, 10] rfl (by decide +kernel)) (goodIn_sub (fun _ h => List.mem_cons_of_mem _ (List.mem_append_left _ (List.mem_append_left _ (List.mem_append_left _ (List.mem_append_right _ h))))) gw_wsX70)
set_option maxRecDepth 20000 in
theorem gX8_leading_X7_byteAt : GoodIn wsX8_leading (wsV RX8 227 RX7 yX7_byteAt wsX7_byteAt) := goodIn_app (lq_goor _ [4, 5, 6, 7] rfl (by decide +kernel)) ggX8_leading_X7_byteAt
set_option maxRecDepth 20000 in
theorem ggX8_leading_X8_horsesAt : GoodIn wsX8_leading wsX8_horsesAt := goodIn_ca (goodIn_ca (lq_goor _ [15, 16] rfl (by decide +kernel)) (goodIn_sub (fun _ h => List.mem_cons_of_mem _ (List.mem_append_left _ (List.mem_append_left _ (List.mem_append_left _ (List.mem_append_left _ (List.mem_append_right _ h)))))) gw_wsX80)) (goodIn_sub (fun _ h => List.mem_cons_of_mem _ (List.mem_append_left _ (List.mem_append_left _ (List.mem_append_right _ h)))) gw_wsX00)
set_option maxRecDepth 20000 in
theorem gX8_leading_X8_horsesAt : GoodIn wsX8_leading (wsV RX8 212 RX8 yX8_horsesAt wsX8_horsesAt) := goodIn_app (lq_goor _ [11, 12, 13, 14] rfl (by decide +kernel)) ggX8_leading_X8_horsesAt
set_option maxRecDepth 20000 in
theorem ggX8_leading_X1_setSpare : GoodIn wsX8_leading wsX1_setSpare := goodIn_ca (lq_goor _ [21, 22, 23, 14, 24] rfl (by decide +kernel)) (goodIn_sub (fun _ h => List.mem_cons_of_mem _ (List.mem_append_left _ (List.mem_append_right _ h))) gw_wsX10)
set_option maxRecDepth 20000 in
theorem gX8_leading_X1_setSpare : GoodIn wsX8_leading (wsV RX8 230 RX1 yX1_setSpare wsX1_setSpare) := goodIn_app (lq_goor _ [17, 18, 19, 20] rfl (by decide +kernel)) ggX8_leading_X1_setSpare
set_option maxRecDepth 20000 in
theorem ggX8_leading_X1_leastPains : GoodIn wsX8_leading wsX1_leastPains := goodIn_ca (goodIn_ca (lq_goor _ [28, 29, 30, 31, 32, 33, 34, 35, 36, 37, 20, 38, 22, 39, 40, 41, 42, 43, 44, 45, 46, 47, 48, 23, 14, 24, 49, 50, 51, 52, 53, 54, 55, 56, 57, 58, 59, 60, 61, 62, 63, 64, 65, 66, 67, 68, 69, 70, 71, 72, 73, 74, 75] rfl (by decide +kernel)) (goodIn_sub (fun _ h => List.mem_cons_of_mem _ (List.mem_append_left _ (List.mem_append_right _ h))) gw_wsX10)) (goodIn_sub (fun _ h => List.mem_cons_of_mem _ (List.mem_append_right _ h)) gw_wsX30)
set_option maxRecDepth 20000 in
theorem gX8_leading_X1_leastPains : GoodIn wsX8_leading (wsV RX8 234 RX1 yX1_leastPains wsX1_leastPains) := goodIn_app (lq_goor _ [25, 26, 27, 20] rfl (by decide +kernel)) ggX8_leading_X1_leastPains
theorem dX8_leading_0 : decode cX8_leading 0 = .ok (.aload_n 0, 1) := by decide +kernel
theorem dX8_leading_1 : decode cX8_leading 1 = .ok (.getfield 10, 3) := by decide +kernel
theorem dX8_leading_4 : decode cX8_leading 4 = .ok (.getfield 70, 3) := by decide +kernel
theorem dX8_leading_7 : decode cX8_leading 7 = .ok (.bipush 12, 2) := by decide +kernel
theorem dX8_leading_9 : decode cX8_leading 9 = .ok (.if_icmp .ne 7, 3) := by decide +kernel
theorem dX8_leading_12 : decode cX8_leading 12 = .ok (.iconst 1, 1) := by decide +kernel
theorem dX8_leading_13 : decode cX8_leading 13 = .ok (.goto 4, 3) := by decide +kernel
theorem dX8_leading_16 : decode cX8_leading 16 = .ok (.iconst 0, 1) := by decide +kernel
theorem dX8_leading_17 : decode cX8_leading 17 = .ok (.istore_n 1, 1) := by decide +kernel
theorem dX8_leading_18 : decode cX8_leading 18 = .ok (.iconst 0, 1) := by decide +kernel
theorem dX8_leading_19 : decode cX8_leading 19 = .ok (.istore_n 2, 1) := by decide +kernel
theorem dX8_leading_20 : decode cX8_leading 20 = .ok (.iload_n 2, 1) := by decide +kernel
theorem dX8_leading_21 : decode cX8_leading 21 = .ok (.bipush 12, 2) := by decide +kernel
theorem dX8_leading_23 : decode cX8_leading 23 = .ok (.if_icmp .ge 49, 3) := by decide +kernel
theorem dX8_leading_26 : decode cX8_leading 26 = .ok (.iload_n 1, 1) := by decide +kernel
theorem dX8_leading_27 : decode cX8_leading 27 = .ok (.ifCond .eq 45, 3) := by decide +kernel
theorem dX8_leading_30 : decode cX8_leading 30 = .ok (.aload_n 0, 1) := by decide +kernel
theorem dX8_leading_31 : decode cX8_leading 31 = .ok (.getfield 10, 3) := by decide +kernel
theorem dX8_leading_34 : decode cX8_leading 34 = .ok (.iload_n 2, 1) := by decide +kernel
theorem dX8_leading_35 : decode cX8_leading 35 = .ok (.invokevirtual 227, 3) := by decide +kernel
theorem dX8_leading_38 : decode cX8_leading 38 = .ok (.istore_n 3, 1) := by decide +kernel
theorem dX8_leading_39 : decode cX8_leading 39 = .ok (.iload_n 3, 1) := by decide +kernel
theorem dX8_leading_40 : decode cX8_leading 40 = .ok (.bipush 60, 2) := by decide +kernel
theorem dX8_leading_42 : decode cX8_leading 42 = .ok (.if_icmp .gt 7, 3) := by decide +kernel
theorem dX8_leading_45 : decode cX8_leading 45 = .ok (.iconst 1, 1) := by decide +kernel
theorem dX8_leading_46 : decode cX8_leading 46 = .ok (.goto 4, 3) := by decide +kernel
theorem dX8_leading_49 : decode cX8_leading 49 = .ok (.iconst 0, 1) := by decide +kernel
theorem dX8_leading_50 : decode cX8_leading 50 = .ok (.istore_n 1, 1) := by decide +kernel
theorem dX8_leading_51 : decode cX8_leading 51 = .ok (.aload_n 0, 1) := by decide +kernel
theorem dX8_leading_52 : decode cX8_leading 52 = .ok (.getfield 26, 3) := by decide +kernel
theorem dX8_leading_55 : decode cX8_leading 55 = .ok (.iload_n 2, 1) := by decide +kernel
theorem dX8_leading_56 : decode cX8_leading 56 = .ok (.aload_n 0, 1) := by decide +kernel
theorem dX8_leading_57 : decode cX8_leading 57 = .ok (.iload_n 2, 1) := by decide +kernel
theorem dX8_leading_58 : decode cX8_leading 58 = .ok (.invokevirtual 212, 3) := by decide +kernel
theorem dX8_leading_61 : decode cX8_leading 61 = .ok (.iload_n 3, 1) := by decide +kernel
theorem dX8_leading_62 : decode cX8_leading 62 = .ok (.isub, 1) := by decide +kernel
theorem dX8_leading_63 : decode cX8_leading 63 = .ok (.invokevirtual 230, 3) := by decide +kernel
theorem dX8_leading_66 : decode cX8_leading 66 = .ok (.iinc 2 1, 3) := by decide +kernel
theorem dX8_leading_69 : decode cX8_leading 69 = .ok (.goto (-49), 3) := by decide +kernel
theorem dX8_leading_72 : decode cX8_leading 72 = .ok (.aload_n 0, 1) := by decide +kernel
theorem dX8_leading_73 : decode cX8_leading 73 = .ok (.getfield 10, 3) := by decide +kernel
theorem dX8_leading_76 : decode cX8_leading 76 = .ok (.iconst 0, 1) := by decide +kernel
theorem dX8_leading_77 : decode cX8_leading 77 = .ok (.putfield 70, 3) := by decide +kernel
theorem dX8_leading_80 : decode cX8_leading 80 = .ok (.iload_n 1, 1) := by decide +kernel
theorem dX8_leading_81 : decode cX8_leading 81 = .ok (.ifCond .eq 17, 3) := by decide +kernel
theorem dX8_leading_84 : decode cX8_leading 84 = .ok (.aload_n 0, 1) := by decide +kernel
theorem dX8_leading_85 : decode cX8_leading 85 = .ok (.getfield 26, 3) := by decide +kernel
theorem dX8_leading_88 : decode cX8_leading 88 = .ok (.aload_n 0, 1) := by decide +kernel
theorem dX8_leading_89 : decode cX8_leading 89 = .ok (.getfield 19, 3) := by decide +kernel
theorem dX8_leading_92 : decode cX8_leading 92 = .ok (.invokevirtual 234, 3) := by decide +kernel
theorem dX8_leading_95 : decode cX8_leading 95 = .ok (.goto 4, 3) := by decide +kernel
theorem dX8_leading_98 : decode cX8_leading 98 = .ok (.iconst (-1), 1) := by decide +kernel
theorem dX8_leading_99 : decode cX8_leading 99 = .ok (.ireturn, 1) := by decide +kernel
set_option maxRecDepth 20000 in
theorem ggX8_count_X8_ridersUnderWay : GoodIn wsX8_count wsX8_ridersUnderWay := goodIn_ca (goodIn_ca (lq_goor _ [10, 11, 12, 13, 14, 15, 16, 17] rfl (by decide +kernel)) (goodIn_sub (fun _ h => List.mem_cons_of_mem _ (List.mem_append_left _ (List.mem_append_left _ (List.mem_append_right _ h)))) gw_wsX80)) (goodIn_sub (fun _ h => List.mem_cons_of_mem _ (List.mem_append_right _ h)) gw_wsX20)
set_option maxRecDepth 20000 in
theorem gX8_count_X8_ridersUnderWay : GoodIn wsX8_count (wsV RX8 238 RX8 yX8_ridersUnderWay wsX8_ridersUnderWay) := goodIn_app (lq_goor _ [6, 7, 8, 9] rfl (by decide +kernel)) ggX8_count_X8_ridersUnderWay
theorem dX8_count_0 : decode cX8_count 0 = .ok (.iload_n 1, 1) := by decide +kernel
theorem dX8_count_1 : decode cX8_count 1 = .ok (.tableswitch 72 0 5 #[39, 44, 49, 54, 59, 64], 39) := by decide +kernel
theorem dX8_count_40 : decode cX8_count 40 = .ok (.aload_n 0, 1) := by decide +kernel
theorem dX8_count_41 : decode cX8_count 41 = .ok (.getfield 140, 3) := by decide +kernel
theorem dX8_count_44 : decode cX8_count 44 = .ok (.ireturn, 1) := by decide +kernel
theorem dX8_count_45 : decode cX8_count 45 = .ok (.aload_n 0, 1) := by decide +kernel
theorem dX8_count_46 : decode cX8_count 46 = .ok (.getfield 110, 3) := by decide +kernel
theorem dX8_count_49 : decode cX8_count 49 = .ok (.ireturn, 1) := by decide +kernel
theorem dX8_count_50 : decode cX8_count 50 = .ok (.aload_n 0, 1) := by decide +kernel
theorem dX8_count_51 : decode cX8_count 51 = .ok (.getfield 115, 3) := by decide +kernel
theorem dX8_count_54 : decode cX8_count 54 = .ok (.ireturn, 1) := by decide +kernel
theorem dX8_count_55 : decode cX8_count 55 = .ok (.aload_n 0, 1) := by decide +kernel
theorem dX8_count_56 : decode cX8_count 56 = .ok (.getfield 124, 3) := by decide +kernel
theorem dX8_count_59 : decode cX8_count 59 = .ok (.ireturn, 1) := by decide +kernel
theorem dX8_count_60 : decode cX8_count 60 = .ok (.aload_n 0, 1) := by decide +kernel
theorem dX8_count_61 : decode cX8_count 61 = .ok (.invokevirtual 238, 3) := by decide +kernel
theorem dX8_count_64 : decode cX8_count 64 = .ok (.ireturn, 1) := by decide +kernel
theorem dX8_count_65 : decode cX8_count 65 = .ok (.aload_n 0, 1) := by decide +kernel
theorem dX8_count_66 : decode cX8_count 66 = .ok (.getfield 10, 3) := by decide +kernel
theorem dX8_count_69 : decode cX8_count 69 = .ok (.getfield 70, 3) := by decide +kernel
theorem dX8_count_72 : decode cX8_count 72 = .ok (.ireturn, 1) := by decide +kernel
theorem dX8_count_73 : decode cX8_count 73 = .ok (.iconst (-1), 1) := by decide +kernel
theorem dX8_count_74 : decode cX8_count 74 = .ok (.ireturn, 1) := by decide +kernel
theorem dX8_isStation_0 : decode cX8_isStation 0 = .ok (.iload_n 0, 1) := by decide +kernel
theorem dX8_isStation_1 : decode cX8_isStation 1 = .ok (.ifCond .lt 13, 3) := by decide +kernel
theorem dX8_isStation_4 : decode cX8_isStation 4 = .ok (.iload_n 0, 1) := by decide +kernel
theorem dX8_isStation_5 : decode cX8_isStation 5 = .ok (.bipush 12, 2) := by decide +kernel
theorem dX8_isStation_7 : decode cX8_isStation 7 = .ok (.if_icmp .ge 7, 3) := by decide +kernel
theorem dX8_isStation_10 : decode cX8_isStation 10 = .ok (.iconst 1, 1) := by decide +kernel
theorem dX8_isStation_11 : decode cX8_isStation 11 = .ok (.goto 4, 3) := by decide +kernel
theorem dX8_isStation_14 : decode cX8_isStation 14 = .ok (.iconst 0, 1) := by decide +kernel
theorem dX8_isStation_15 : decode cX8_isStation 15 = .ok (.ireturn, 1) := by decide +kernel
theorem dX8_horseOf_0 : decode cX8_horseOf 0 = .ok (.iload_n 1, 1) := by decide +kernel
theorem dX8_horseOf_1 : decode cX8_horseOf 1 = .ok (.ifCond .lt 18, 3) := by decide +kernel
theorem dX8_horseOf_4 : decode cX8_horseOf 4 = .ok (.iload_n 1, 1) := by decide +kernel
theorem dX8_horseOf_5 : decode cX8_horseOf 5 = .ok (.bipush 60, 2) := by decide +kernel
theorem dX8_horseOf_7 : decode cX8_horseOf 7 = .ok (.if_icmp .ge 12, 3) := by decide +kernel
theorem dX8_horseOf_10 : decode cX8_horseOf 10 = .ok (.aload_n 0, 1) := by decide +kernel
theorem dX8_horseOf_11 : decode cX8_horseOf 11 = .ok (.getfield 36, 3) := by decide +kernel
theorem dX8_horseOf_14 : decode cX8_horseOf 14 = .ok (.iload_n 1, 1) := by decide +kernel
theorem dX8_horseOf_15 : decode cX8_horseOf 15 = .ok (.aaload, 1) := by decide +kernel
theorem dX8_horseOf_16 : decode cX8_horseOf 16 = .ok (.goto 4, 3) := by decide +kernel
theorem dX8_horseOf_19 : decode cX8_horseOf 19 = .ok (.aconst_null, 1) := by decide +kernel
theorem dX8_horseOf_20 : decode cX8_horseOf 20 = .ok (.areturn, 1) := by decide +kernel
theorem dX8_tabletOf_0 : decode cX8_tabletOf 0 = .ok (.iload_n 1, 1) := by decide +kernel
theorem dX8_tabletOf_1 : decode cX8_tabletOf 1 = .ok (.ifCond .lt 18, 3) := by decide +kernel
theorem dX8_tabletOf_4 : decode cX8_tabletOf 4 = .ok (.iload_n 1, 1) := by decide +kernel
theorem dX8_tabletOf_5 : decode cX8_tabletOf 5 = .ok (.bipush 20, 2) := by decide +kernel
theorem dX8_tabletOf_7 : decode cX8_tabletOf 7 = .ok (.if_icmp .ge 12, 3) := by decide +kernel
theorem dX8_tabletOf_10 : decode cX8_tabletOf 10 = .ok (.aload_n 0, 1) := by decide +kernel
theorem dX8_tabletOf_11 : decode cX8_tabletOf 11 = .ok (.getfield 42, 3) := by decide +kernel
theorem dX8_tabletOf_14 : decode cX8_tabletOf 14 = .ok (.iload_n 1, 1) := by decide +kernel
theorem dX8_tabletOf_15 : decode cX8_tabletOf 15 = .ok (.aaload, 1) := by decide +kernel
theorem dX8_tabletOf_16 : decode cX8_tabletOf 16 = .ok (.goto 4, 3) := by decide +kernel
theorem dX8_tabletOf_19 : decode cX8_tabletOf 19 = .ok (.aconst_null, 1) := by decide +kernel
theorem dX8_tabletOf_20 : decode cX8_tabletOf 20 = .ok (.areturn, 1) := by decide +kernel
theorem dX8_riderOf_0 : decode cX8_riderOf 0 = .ok (.iload_n 1, 1) := by decide +kernel
theorem dX8_riderOf_1 : decode cX8_riderOf 1 = .ok (.ifCond .lt 18, 3) := by decide +kernel
theorem dX8_riderOf_4 : decode cX8_riderOf 4 = .ok (.iload_n 1, 1) := by decide +kernel
theorem dX8_riderOf_5 : decode cX8_riderOf 5 = .ok (.bipush 60, 2) := by decide +kernel
theorem dX8_riderOf_7 : decode cX8_riderOf 7 = .ok (.if_icmp .ge 12, 3) := by decide +kernel
theorem dX8_riderOf_10 : decode cX8_riderOf 10 = .ok (.aload_n 0, 1) := by decide +kernel
theorem dX8_riderOf_11 : decode cX8_riderOf 11 = .ok (.getfield 48, 3) := by decide +kernel
theorem dX8_riderOf_14 : decode cX8_riderOf 14 = .ok (.iload_n 1, 1) := by decide +kernel
theorem dX8_riderOf_15 : decode cX8_riderOf 15 = .ok (.aaload, 1) := by decide +kernel
theorem dX8_riderOf_16 : decode cX8_riderOf 16 = .ok (.goto 4, 3) := by decide +kernel
theorem dX8_riderOf_19 : decode cX8_riderOf 19 = .ok (.aconst_null, 1) := by decide +kernel
theorem dX8_riderOf_20 : decode cX8_riderOf 20 = .ok (.areturn, 1) := by decide +kernel
set_option maxRecDepth 20000 in
theorem ggX8_isHad_X2_isUnderWay : GoodIn wsX8_isHad wsX2_isUnderWay := goodIn_ca (lq_goor _ [6, 7] rfl (by decide +kernel)) (goodIn_sub (fun _ h => List.mem_cons_of_mem _ (List.mem_append_right _ h)) gw_wsX20)
set_option maxRecDepth 20000 in
theorem gX8_isHad_X2_isUnderWay : GoodIn wsX8_isHad (wsV RX8 154 RX2 yX2_isUnderWay wsX2_isUnderWay) := goodIn_app (lq_goor _ [2, 3, 4, 5] rfl (by decide +kernel)) ggX8_isHad_X2_isUnderWay
theorem dX8_isHad_0 : decode cX8_isHad 0 = .ok (.aload_n 0, 1) := by decide +kernel
theorem dX8_isHad_1 : decode cX8_isHad 1 = .ok (.getfield 48, 3) := by decide +kernel
theorem dX8_isHad_4 : decode cX8_isHad 4 = .ok (.astore_n 2, 1) := by decide +kernel
theorem dX8_isHad_5 : decode cX8_isHad 5 = .ok (.aload_n 2, 1) := by decide +kernel
theorem dX8_isHad_6 : decode cX8_isHad 6 = .ok (.arraylength, 1) := by decide +kernel
theorem dX8_isHad_7 : decode cX8_isHad 7 = .ok (.istore_n 3, 1) := by decide +kernel
theorem dX8_isHad_8 : decode cX8_isHad 8 = .ok (.iconst 0, 1) := by decide +kernel
theorem dX8_isHad_9 : decode cX8_isHad 9 = .ok (.istore 4, 2) := by decide +kernel
theorem dX8_isHad_11 : decode cX8_isHad 11 = .ok (.iload 4, 2) := by decide +kernel
theorem dX8_isHad_13 : decode cX8_isHad 13 = .ok (.iload_n 3, 1) := by decide +kernel
theorem dX8_isHad_14 : decode cX8_isHad 14 = .ok (.if_icmp .ge 39, 3) := by decide +kernel
theorem dX8_isHad_17 : decode cX8_isHad 17 = .ok (.aload_n 2, 1) := by decide +kernel
theorem dX8_isHad_18 : decode cX8_isHad 18 = .ok (.iload 4, 2) := by decide +kernel
theorem dX8_isHad_20 : decode cX8_isHad 20 = .ok (.aaload, 1) := by decide +kernel
theorem dX8_isHad_21 : decode cX8_isHad 21 = .ok (.astore 5, 2) := by decide +kernel
theorem dX8_isHad_23 : decode cX8_isHad 23 = .ok (.aload 5, 2) := by decide +kernel
theorem dX8_isHad_25 : decode cX8_isHad 25 = .ok (.ifnull 22, 3) := by decide +kernel
theorem dX8_isHad_28 : decode cX8_isHad 28 = .ok (.aload 5, 2) := by decide +kernel
theorem dX8_isHad_30 : decode cX8_isHad 30 = .ok (.getfield 193, 3) := by decide +kernel
theorem dX8_isHad_33 : decode cX8_isHad 33 = .ok (.iload_n 1, 1) := by decide +kernel
theorem dX8_isHad_34 : decode cX8_isHad 34 = .ok (.if_icmp .ne 13, 3) := by decide +kernel
theorem dX8_isHad_37 : decode cX8_isHad 37 = .ok (.aload 5, 2) := by decide +kernel
theorem dX8_isHad_39 : decode cX8_isHad 39 = .ok (.invokevirtual 154, 3) := by decide +kernel
theorem dX8_isHad_42 : decode cX8_isHad 42 = .ok (.ifCond .eq 5, 3) := by decide +kernel
theorem dX8_isHad_45 : decode cX8_isHad 45 = .ok (.iconst 1, 1) := by decide +kernel
theorem dX8_isHad_46 : decode cX8_isHad 46 = .ok (.ireturn, 1) := by decide +kernel
theorem dX8_isHad_47 : decode cX8_isHad 47 = .ok (.iinc 4 1, 3) := by decide +kernel
theorem dX8_isHad_50 : decode cX8_isHad 50 = .ok (.goto (-39), 3) := by decide +kernel
theorem dX8_isHad_53 : decode cX8_isHad 53 = .ok (.iconst 0, 1) := by decide +kernel
theorem dX8_isHad_54 : decode cX8_isHad 54 = .ok (.ireturn, 1) := by decide +kernel
set_option maxRecDepth 20000 in
theorem ggX8_ridersUnderWay_X2_isUnderWay : GoodIn wsX8_ridersUnderWay wsX2_isUnderWay := goodIn_ca (lq_goor _ [6, 7] rfl (by decide +kernel)) (goodIn_sub (fun _ h => List.mem_cons_of_mem _ (List.mem_append_right _ h)) gw_wsX20)
set_option maxRecDepth 20000 in
theorem gX8_ridersUnderWay_X2_isUnderWay : GoodIn wsX8_ridersUnderWay (wsV RX8 154 RX2 yX2_isUnderWay wsX2_isUnderWay) := goodIn_app (lq_goor _ [2, 3, 4, 5] rfl (by decide +kernel)) ggX8_ridersUnderWay_X2_isUnderWay
theorem dX8_ridersUnderWay_0 : decode cX8_ridersUnderWay 0 = .ok (.iconst 0, 1) := by decide +kernel
theorem dX8_ridersUnderWay_1 : decode cX8_ridersUnderWay 1 = .ok (.istore_n 1, 1) := by decide +kernel
theorem dX8_ridersUnderWay_2 : decode cX8_ridersUnderWay 2 = .ok (.aload_n 0, 1) := by decide +kernel
theorem dX8_ridersUnderWay_3 : decode cX8_ridersUnderWay 3 = .ok (.getfield 48, 3) := by decide +kernel
theorem dX8_ridersUnderWay_6 : decode cX8_ridersUnderWay 6 = .ok (.astore_n 2, 1) := by decide +kernel
theorem dX8_ridersUnderWay_7 : decode cX8_ridersUnderWay 7 = .ok (.aload_n 2, 1) := by decide +kernel
theorem dX8_ridersUnderWay_8 : decode cX8_ridersUnderWay 8 = .ok (.arraylength, 1) := by decide +kernel
theorem dX8_ridersUnderWay_9 : decode cX8_ridersUnderWay 9 = .ok (.istore_n 3, 1) := by decide +kernel
theorem dX8_ridersUnderWay_10 : decode cX8_ridersUnderWay 10 = .ok (.iconst 0, 1) := by decide +kernel
theorem dX8_ridersUnderWay_11 : decode cX8_ridersUnderWay 11 = .ok (.istore 4, 2) := by decide +kernel
theorem dX8_ridersUnderWay_13 : decode cX8_ridersUnderWay 13 = .ok (.iload 4, 2) := by decide +kernel
theorem dX8_ridersUnderWay_15 : decode cX8_ridersUnderWay 15 = .ok (.iload_n 3, 1) := by decide +kernel
theorem dX8_ridersUnderWay_16 : decode cX8_ridersUnderWay 16 = .ok (.if_icmp .ge 31, 3) := by decide +kernel
theorem dX8_ridersUnderWay_19 : decode cX8_ridersUnderWay 19 = .ok (.aload_n 2, 1) := by decide +kernel
theorem dX8_ridersUnderWay_20 : decode cX8_ridersUnderWay 20 = .ok (.iload 4, 2) := by decide +kernel
theorem dX8_ridersUnderWay_22 : decode cX8_ridersUnderWay 22 = .ok (.aaload, 1) := by decide +kernel
theorem dX8_ridersUnderWay_23 : decode cX8_ridersUnderWay 23 = .ok (.astore 5, 2) := by decide +kernel
theorem dX8_ridersUnderWay_25 : decode cX8_ridersUnderWay 25 = .ok (.aload 5, 2) := by decide +kernel
theorem dX8_ridersUnderWay_27 : decode cX8_ridersUnderWay 27 = .ok (.ifnull 14, 3) := by decide +kernel
theorem dX8_ridersUnderWay_30 : decode cX8_ridersUnderWay 30 = .ok (.aload 5, 2) := by decide +kernel
theorem dX8_ridersUnderWay_32 : decode cX8_ridersUnderWay 32 = .ok (.invokevirtual 154, 3) := by decide +kernel
theorem dX8_ridersUnderWay_35 : decode cX8_ridersUnderWay 35 = .ok (.ifCond .eq 6, 3) := by decide +kernel
theorem dX8_ridersUnderWay_38 : decode cX8_ridersUnderWay 38 = .ok (.iinc 1 1, 3) := by decide +kernel
theorem dX8_ridersUnderWay_41 : decode cX8_ridersUnderWay 41 = .ok (.iinc 4 1, 3) := by decide +kernel
theorem dX8_ridersUnderWay_44 : decode cX8_ridersUnderWay 44 = .ok (.goto (-31), 3) := by decide +kernel
theorem dX8_ridersUnderWay_47 : decode cX8_ridersUnderWay 47 = .ok (.iload_n 1, 1) := by decide +kernel
theorem dX8_ridersUnderWay_48 : decode cX8_ridersUnderWay 48 = .ok (.ireturn, 1) := by decide +kernel
set_option maxRecDepth 20000 in
theorem ggX8_ridersWaitingAt_X2_lastStation : GoodIn wsX8_ridersWaitingAt wsX2_lastStation := goodIn_ca (lq_goor _ [6, 7, 8, 9, 10, 5, 11, 12] rfl (by decide +kernel)) (goodIn_sub (fun _ h => List.mem_cons_of_mem _ (List.mem_append_right _ h)) gw_wsX20)
set_option maxRecDepth 20000 in
theorem gX8_ridersWaitingAt_X2_lastStation : GoodIn wsX8_ridersWaitingAt (wsV RX8 180 RX2 yX2_lastStation wsX2_lastStation) := goodIn_app (lq_goor _ [2, 3, 4, 5] rfl (by decide +kernel)) ggX8_ridersWaitingAt_X2_lastStation
theorem dX8_ridersWaitingAt_0 : decode cX8_ridersWaitingAt 0 = .ok (.iconst 0, 1) := by decide +kernel
theorem dX8_ridersWaitingAt_1 : decode cX8_ridersWaitingAt 1 = .ok (.istore_n 2, 1) := by decide +kernel
theorem dX8_ridersWaitingAt_2 : decode cX8_ridersWaitingAt 2 = .ok (.aload_n 0, 1) := by decide +kernel
theorem dX8_ridersWaitingAt_3 : decode cX8_ridersWaitingAt 3 = .ok (.getfield 48, 3) := by decide +kernel
theorem dX8_ridersWaitingAt_6 : decode cX8_ridersWaitingAt 6 = .ok (.astore_n 3, 1) := by decide +kernel
theorem dX8_ridersWaitingAt_7 : decode cX8_ridersWaitingAt 7 = .ok (.aload_n 3, 1) := by decide +kernel
theorem dX8_ridersWaitingAt_8 : decode cX8_ridersWaitingAt 8 = .ok (.arraylength, 1) := by decide +kernel
theorem dX8_ridersWaitingAt_9 : decode cX8_ridersWaitingAt 9 = .ok (.istore 4, 2) := by decide +kernel
theorem dX8_ridersWaitingAt_11 : decode cX8_ridersWaitingAt 11 = .ok (.iconst 0, 1) := by decide +kernel
theorem dX8_ridersWaitingAt_12 : decode cX8_ridersWaitingAt 12 = .ok (.istore 5, 2) := by decide +kernel
theorem dX8_ridersWaitingAt_14 : decode cX8_ridersWaitingAt 14 = .ok (.iload 5, 2) := by decide +kernel
theorem dX8_ridersWaitingAt_16 : decode cX8_ridersWaitingAt 16 = .ok (.iload 4, 2) := by decide +kernel
theorem dX8_ridersWaitingAt_18 : decode cX8_ridersWaitingAt 18 = .ok (.if_icmp .ge 40, 3) := by decide +kernel
theorem dX8_ridersWaitingAt_21 : decode cX8_ridersWaitingAt 21 = .ok (.aload_n 3, 1) := by decide +kernel
theorem dX8_ridersWaitingAt_22 : decode cX8_ridersWaitingAt 22 = .ok (.iload 5, 2) := by decide +kernel
theorem dX8_ridersWaitingAt_24 : decode cX8_ridersWaitingAt 24 = .ok (.aaload, 1) := by decide +kernel
theorem dX8_ridersWaitingAt_25 : decode cX8_ridersWaitingAt 25 = .ok (.astore 6, 2) := by decide +kernel
theorem dX8_ridersWaitingAt_27 : decode cX8_ridersWaitingAt 27 = .ok (.aload 6, 2) := by decide +kernel
theorem dX8_ridersWaitingAt_29 : decode cX8_ridersWaitingAt 29 = .ok (.ifnull 23, 3) := by decide +kernel
theorem dX8_ridersWaitingAt_32 : decode cX8_ridersWaitingAt 32 = .ok (.aload 6, 2) := by decide +kernel
theorem dX8_ridersWaitingAt_34 : decode cX8_ridersWaitingAt 34 = .ok (.getfield 158, 3) := by decide +kernel
theorem dX8_ridersWaitingAt_37 : decode cX8_ridersWaitingAt 37 = .ok (.ifCond .ne 15, 3) := by decide +kernel
theorem dX8_ridersWaitingAt_40 : decode cX8_ridersWaitingAt 40 = .ok (.aload 6, 2) := by decide +kernel
theorem dX8_ridersWaitingAt_42 : decode cX8_ridersWaitingAt 42 = .ok (.invokevirtual 180, 3) := by decide +kernel
theorem dX8_ridersWaitingAt_45 : decode cX8_ridersWaitingAt 45 = .ok (.iload_n 1, 1) := by decide +kernel
theorem dX8_ridersWaitingAt_46 : decode cX8_ridersWaitingAt 46 = .ok (.if_icmp .ne 6, 3) := by decide +kernel
theorem dX8_ridersWaitingAt_49 : decode cX8_ridersWaitingAt 49 = .ok (.iinc 2 1, 3) := by decide +kernel
theorem dX8_ridersWaitingAt_52 : decode cX8_ridersWaitingAt 52 = .ok (.iinc 5 1, 3) := by decide +kernel
theorem dX8_ridersWaitingAt_55 : decode cX8_ridersWaitingAt 55 = .ok (.goto (-41), 3) := by decide +kernel
theorem dX8_ridersWaitingAt_58 : decode cX8_ridersWaitingAt 58 = .ok (.iload_n 2, 1) := by decide +kernel
theorem dX8_ridersWaitingAt_59 : decode cX8_ridersWaitingAt 59 = .ok (.ireturn, 1) := by decide +kernel
theorem dX8_horsesAt_0 : decode cX8_horsesAt 0 = .ok (.iconst 0, 1) := by decide +kernel
theorem dX8_horsesAt_1 : decode cX8_horsesAt 1 = .ok (.istore_n 2, 1) := by decide +kernel
theorem dX8_horsesAt_2 : decode cX8_horsesAt 2 = .ok (.aload_n 0, 1) := by decide +kernel
theorem dX8_horsesAt_3 : decode cX8_horsesAt 3 = .ok (.getfield 36, 3) := by decide +kernel
theorem dX8_horsesAt_6 : decode cX8_horsesAt 6 = .ok (.astore_n 3, 1) := by decide +kernel
theorem dX8_horsesAt_7 : decode cX8_horsesAt 7 = .ok (.aload_n 3, 1) := by decide +kernel
theorem dX8_horsesAt_8 : decode cX8_horsesAt 8 = .ok (.arraylength, 1) := by decide +kernel
theorem dX8_horsesAt_9 : decode cX8_horsesAt 9 = .ok (.istore 4, 2) := by decide +kernel
theorem dX8_horsesAt_11 : decode cX8_horsesAt 11 = .ok (.iconst 0, 1) := by decide +kernel
theorem dX8_horsesAt_12 : decode cX8_horsesAt 12 = .ok (.istore 5, 2) := by decide +kernel
theorem dX8_horsesAt_14 : decode cX8_horsesAt 14 = .ok (.iload 5, 2) := by decide +kernel
theorem dX8_horsesAt_16 : decode cX8_horsesAt 16 = .ok (.iload 4, 2) := by decide +kernel
theorem dX8_horsesAt_18 : decode cX8_horsesAt 18 = .ok (.if_icmp .ge 32, 3) := by decide +kernel
theorem dX8_horsesAt_21 : decode cX8_horsesAt 21 = .ok (.aload_n 3, 1) := by decide +kernel
theorem dX8_horsesAt_22 : decode cX8_horsesAt 22 = .ok (.iload 5, 2) := by decide +kernel
theorem dX8_horsesAt_24 : decode cX8_horsesAt 24 = .ok (.aaload, 1) := by decide +kernel
theorem dX8_horsesAt_25 : decode cX8_horsesAt 25 = .ok (.astore 6, 2) := by decide +kernel
theorem dX8_horsesAt_27 : decode cX8_horsesAt 27 = .ok (.aload 6, 2) := by decide +kernel
theorem dX8_horsesAt_29 : decode cX8_horsesAt 29 = .ok (.ifnull 15, 3) := by decide +kernel
theorem dX8_horsesAt_32 : decode cX8_horsesAt 32 = .ok (.aload 6, 2) := by decide +kernel
theorem dX8_horsesAt_34 : decode cX8_horsesAt 34 = .ok (.getfield 209, 3) := by decide +kernel
theorem dX8_horsesAt_37 : decode cX8_horsesAt 37 = .ok (.iload_n 1, 1) := by decide +kernel
theorem dX8_horsesAt_38 : decode cX8_horsesAt 38 = .ok (.if_icmp .ne 6, 3) := by decide +kernel
theorem dX8_horsesAt_41 : decode cX8_horsesAt 41 = .ok (.iinc 2 1, 3) := by decide +kernel
theorem dX8_horsesAt_44 : decode cX8_horsesAt 44 = .ok (.iinc 5 1, 3) := by decide +kernel
theorem dX8_horsesAt_47 : decode cX8_horsesAt 47 = .ok (.goto (-33), 3) := by decide +kernel
theorem dX8_horsesAt_50 : decode cX8_horsesAt 50 = .ok (.iload_n 2, 1) := by decide +kernel
theorem dX8_horsesAt_51 : decode cX8_horsesAt 51 = .ok (.ireturn, 1) := by decide +kernel
theorem dX8_strongestAt_0 : decode cX8_strongestAt 0 = .ok (.aconst_null, 1) := by decide +kernel
theorem dX8_strongestAt_1 : decode cX8_strongestAt 1 = .ok (.astore_n 2, 1) := by decide +kernel
theorem dX8_strongestAt_2 : decode cX8_strongestAt 2 = .ok (.aload_n 0, 1) := by decide +kernel
theorem dX8_strongestAt_3 : decode cX8_strongestAt 3 = .ok (.getfield 36, 3) := by decide +kernel
theorem dX8_strongestAt_6 : decode cX8_strongestAt 6 = .ok (.astore_n 3, 1) := by decide +kernel
theorem dX8_strongestAt_7 : decode cX8_strongestAt 7 = .ok (.aload_n 3, 1) := by decide +kernel
theorem dX8_strongestAt_8 : decode cX8_strongestAt 8 = .ok (.arraylength, 1) := by decide +kernel
theorem dX8_strongestAt_9 : decode cX8_strongestAt 9 = .ok (.istore 4, 2) := by decide +kernel
theorem dX8_strongestAt_11 : decode cX8_strongestAt 11 = .ok (.iconst 0, 1) := by decide +kernel
theorem dX8_strongestAt_12 : decode cX8_strongestAt 12 = .ok (.istore 5, 2) := by decide +kernel
theorem dX8_strongestAt_14 : decode cX8_strongestAt 14 = .ok (.iload 5, 2) := by decide +kernel
theorem dX8_strongestAt_16 : decode cX8_strongestAt 16 = .ok (.iload 4, 2) := by decide +kernel
theorem dX8_strongestAt_18 : decode cX8_strongestAt 18 = .ok (.if_icmp .ge 48, 3) := by decide +kernel
theorem dX8_strongestAt_21 : decode cX8_strongestAt 21 = .ok (.aload_n 3, 1) := by decide +kernel
theorem dX8_strongestAt_22 : decode cX8_strongestAt 22 = .ok (.iload 5, 2) := by decide +kernel
theorem dX8_strongestAt_24 : decode cX8_strongestAt 24 = .ok (.aaload, 1) := by decide +kernel
theorem dX8_strongestAt_25 : decode cX8_strongestAt 25 = .ok (.astore 6, 2) := by decide +kernel
theorem dX8_strongestAt_27 : decode cX8_strongestAt 27 = .ok (.aload 6, 2) := by decide +kernel
theorem dX8_strongestAt_29 : decode cX8_strongestAt 29 = .ok (.ifnull 31, 3) := by decide +kernel
theorem dX8_strongestAt_32 : decode cX8_strongestAt 32 = .ok (.aload 6, 2) := by decide +kernel
theorem dX8_strongestAt_34 : decode cX8_strongestAt 34 = .ok (.getfield 209, 3) := by decide +kernel
theorem dX8_strongestAt_37 : decode cX8_strongestAt 37 = .ok (.iload_n 1, 1) := by decide +kernel
theorem dX8_strongestAt_38 : decode cX8_strongestAt 38 = .ok (.if_icmp .ne 22, 3) := by decide +kernel
theorem dX8_strongestAt_41 : decode cX8_strongestAt 41 = .ok (.aload_n 2, 1) := by decide +kernel
theorem dX8_strongestAt_42 : decode cX8_strongestAt 42 = .ok (.ifnull 15, 3) := by decide +kernel
theorem dX8_strongestAt_45 : decode cX8_strongestAt 45 = .ok (.aload 6, 2) := by decide +kernel
theorem dX8_strongestAt_47 : decode cX8_strongestAt 47 = .ok (.getfield 206, 3) := by decide +kernel
theorem dX8_strongestAt_50 : decode cX8_strongestAt 50 = .ok (.aload_n 2, 1) := by decide +kernel
theorem dX8_strongestAt_51 : decode cX8_strongestAt 51 = .ok (.getfield 206, 3) := by decide +kernel
theorem dX8_strongestAt_54 : decode cX8_strongestAt 54 = .ok (.if_icmp .le 6, 3) := by decide +kernel
theorem dX8_strongestAt_57 : decode cX8_strongestAt 57 = .ok (.aload 6, 2) := by decide +kernel
theorem dX8_strongestAt_59 : decode cX8_strongestAt 59 = .ok (.astore_n 2, 1) := by decide +kernel
theorem dX8_strongestAt_60 : decode cX8_strongestAt 60 = .ok (.iinc 5 1, 3) := by decide +kernel
theorem dX8_strongestAt_63 : decode cX8_strongestAt 63 = .ok (.goto (-49), 3) := by decide +kernel
theorem dX8_strongestAt_66 : decode cX8_strongestAt 66 = .ok (.aload_n 2, 1) := by decide +kernel
theorem dX8_strongestAt_67 : decode cX8_strongestAt 67 = .ok (.areturn, 1) := by decide +kernel
set_option maxRecDepth 20000 in
theorem ggX8_careForHorses_X8_isStation : GoodIn wsX8_careForHorses wsX8_isStation := lq_goor _ [5] rfl (by decide +kernel)
set_option maxRecDepth 20000 in
theorem gX8_careForHorses_X8_isStation : GoodIn wsX8_careForHorses (va_wsS RX8 95 yX8_isStation wsX8_isStation) := goodIn_app (lq_goor _ [2, 3, 4] rfl (by decide +kernel)) ggX8_careForHorses_X8_isStation
set_option maxRecDepth 20000 in
theorem ggX8_careForHorses_X8_careFor : GoodIn wsX8_careForHorses wsX8_careFor := goodIn_ca (goodIn_ca (goodIn_ca (lq_goor _ [9, 10, 11, 12, 13, 14, 15, 16, 17, 18, 19, 20, 21, 22, 23, 24, 25, 26, 27, 28, 29, 30, 31, 32, 33, 34] rfl (by decide +kernel)) (goodIn_sub (fun _ h => List.mem_cons_of_mem _ (List.mem_append_left _ (List.mem_append_left _ (List.mem_append_right _ h)))) gw_wsX80)) (goodIn_sub (fun _ h => List.mem_cons_of_mem _ (List.mem_append_left _ (List.mem_append_right _ h))) gw_wsX00)) (goodIn_sub (fun _ h => List.mem_cons_of_mem _ (List.mem_append_right _ h)) gw_wsX50)
set_option maxRecDepth 20000 in
theorem gX8_careForHorses_X8_careFor : GoodIn wsX8_careForHorses (wsV RX8 241 RX8 yX8_careFor wsX8_careFor) := goodIn_app (lq_goor _ [6, 7, 8, 4] rfl (by decide +kernel)) ggX8_careForHorses_X8_careFor
theorem dX8_careForHorses_0 : decode cX8_careForHorses 0 = .ok (.aload_n 0, 1) := by decide +kernel
theorem dX8_careForHorses_1 : decode cX8_careForHorses 1 = .ok (.getfield 36, 3) := by decide +kernel
theorem dX8_careForHorses_4 : decode cX8_careForHorses 4 = .ok (.astore_n 1, 1) := by decide +kernel
theorem dX8_careForHorses_5 : decode cX8_careForHorses 5 = .ok (.aload_n 1, 1) := by decide +kernel
theorem dX8_careForHorses_6 : decode cX8_careForHorses 6 = .ok (.arraylength, 1) := by decide +kernel
theorem dX8_careForHorses_7 : decode cX8_careForHorses 7 = .ok (.istore_n 2, 1) := by decide +kernel
theorem dX8_careForHorses_8 : decode cX8_careForHorses 8 = .ok (.iconst 0, 1) := by decide +kernel
theorem dX8_careForHorses_9 : decode cX8_careForHorses 9 = .ok (.istore_n 3, 1) := by decide +kernel
theorem dX8_careForHorses_10 : decode cX8_careForHorses 10 = .ok (.iload_n 3, 1) := by decide +kernel
theorem dX8_careForHorses_11 : decode cX8_careForHorses 11 = .ok (.iload_n 2, 1) := by decide +kernel
theorem dX8_careForHorses_12 : decode cX8_careForHorses 12 = .ok (.if_icmp .ge 41, 3) := by decide +kernel
theorem dX8_careForHorses_15 : decode cX8_careForHorses 15 = .ok (.aload_n 1, 1) := by decide +kernel
theorem dX8_careForHorses_16 : decode cX8_careForHorses 16 = .ok (.iload_n 3, 1) := by decide +kernel
theorem dX8_careForHorses_17 : decode cX8_careForHorses 17 = .ok (.aaload, 1) := by decide +kernel
theorem dX8_careForHorses_18 : decode cX8_careForHorses 18 = .ok (.astore 4, 2) := by decide +kernel
theorem dX8_careForHorses_20 : decode cX8_careForHorses 20 = .ok (.aload 4, 2) := by decide +kernel
theorem dX8_careForHorses_22 : decode cX8_careForHorses 22 = .ok (.ifnull 25, 3) := by decide +kernel
theorem dX8_careForHorses_25 : decode cX8_careForHorses 25 = .ok (.aload 4, 2) := by decide +kernel
theorem dX8_careForHorses_27 : decode cX8_careForHorses 27 = .ok (.getfield 209, 3) := by decide +kernel
theorem dX8_careForHorses_30 : decode cX8_careForHorses 30 = .ok (.invokestatic 95, 3) := by decide +kernel
theorem dX8_careForHorses_33 : decode cX8_careForHorses 33 = .ok (.ifCond .eq 14, 3) := by decide +kernel
theorem dX8_careForHorses_36 : decode cX8_careForHorses 36 = .ok (.aload_n 0, 1) := by decide +kernel
theorem dX8_careForHorses_37 : decode cX8_careForHorses 37 = .ok (.aload 4, 2) := by decide +kernel
theorem dX8_careForHorses_39 : decode cX8_careForHorses 39 = .ok (.aload 4, 2) := by decide +kernel
theorem dX8_careForHorses_41 : decode cX8_careForHorses 41 = .ok (.getfield 209, 3) := by decide +kernel
theorem dX8_careForHorses_44 : decode cX8_careForHorses 44 = .ok (.invokevirtual 241, 3) := by decide +kernel
theorem dX8_careForHorses_47 : decode cX8_careForHorses 47 = .ok (.iinc 3 1, 3) := by decide +kernel
theorem dX8_careForHorses_50 : decode cX8_careForHorses 50 = .ok (.goto (-40), 3) := by decide +kernel
theorem dX8_careForHorses_53 : decode cX8_careForHorses 53 = .ok (.return_, 1) := by decide +kernel
set_option maxRecDepth 20000 in
theorem ggX8_careFor_X5_rest : GoodIn wsX8_careFor wsX5_rest := goodIn_ca (lq_goor _ [11, 12] rfl (by decide +kernel)) (goodIn_sub (fun _ h => List.mem_cons_of_mem _ (List.mem_append_right _ h)) gw_wsX50)
set_option maxRecDepth 20000 in
theorem gX8_careFor_X5_rest : GoodIn wsX8_careFor (wsV RX8 245 RX5 yX5_rest wsX5_rest) := goodIn_app (lq_goor _ [7, 8, 9, 10] rfl (by decide +kernel)) ggX8_careFor_X5_rest
set_option maxRecDepth 20000 in
theorem ggX8_careFor_X5_hunger : GoodIn wsX8_careFor wsX5_hunger := goodIn_ca (lq_goor _ [16, 12] rfl (by decide +kernel)) (goodIn_sub (fun _ h => List.mem_cons_of_mem _ (List.mem_append_right _ h)) gw_wsX50)
set_option maxRecDepth 20000 in
theorem gX8_careFor_X5_hunger : GoodIn wsX8_careFor (wsV RX8 253 RX5 yX5_hunger wsX5_hunger) := goodIn_app (lq_goor _ [13, 14, 15, 10] rfl (by decide +kernel)) ggX8_careFor_X5_hunger
set_option maxRecDepth 20000 in
theorem ggX8_careFor_X0_weaken : GoodIn wsX8_careFor wsX0_weaken := goodIn_ca (lq_goor _ [21, 22, 23, 24, 5, 25] rfl (by decide +kernel)) (goodIn_sub (fun _ h => List.mem_cons_of_mem _ (List.mem_append_left _ (List.mem_append_right _ h))) gw_wsX00)
set_option maxRecDepth 20000 in
theorem gX8_careFor_X0_weaken : GoodIn wsX8_careFor (wsV RX8 256 RX0 yX0_weaken wsX0_weaken) := goodIn_app (lq_goor _ [17, 18, 19, 20] rfl (by decide +kernel)) ggX8_careFor_X0_weaken
theorem dX8_careFor_0 : decode cX8_careFor 0 = .ok (.aload_n 0, 1) := by decide +kernel
theorem dX8_careFor_1 : decode cX8_careFor 1 = .ok (.getfield 30, 3) := by decide +kernel
theorem dX8_careFor_4 : decode cX8_careFor 4 = .ok (.iload_n 2, 1) := by decide +kernel
theorem dX8_careFor_5 : decode cX8_careFor 5 = .ok (.iaload, 1) := by decide +kernel
theorem dX8_careFor_6 : decode cX8_careFor 6 = .ok (.ifCond .le 37, 3) := by decide +kernel
theorem dX8_careFor_9 : decode cX8_careFor 9 = .ok (.aload_n 0, 1) := by decide +kernel
theorem dX8_careFor_10 : decode cX8_careFor 10 = .ok (.getfield 30, 3) := by decide +kernel
theorem dX8_careFor_13 : decode cX8_careFor 13 = .ok (.iload_n 2, 1) := by decide +kernel
theorem dX8_careFor_14 : decode cX8_careFor 14 = .ok (.dup2, 1) := by decide +kernel
theorem dX8_careFor_15 : decode cX8_careFor 15 = .ok (.iaload, 1) := by decide +kernel
theorem dX8_careFor_16 : decode cX8_careFor 16 = .ok (.iconst 1, 1) := by decide +kernel
theorem dX8_careFor_17 : decode cX8_careFor 17 = .ok (.isub, 1) := by decide +kernel
theorem dX8_careFor_18 : decode cX8_careFor 18 = .ok (.iastore, 1) := by decide +kernel
theorem dX8_careFor_19 : decode cX8_careFor 19 = .ok (.aload_n 1, 1) := by decide +kernel
theorem dX8_careFor_20 : decode cX8_careFor 20 = .ok (.bipush 100, 2) := by decide +kernel
theorem dX8_careFor_22 : decode cX8_careFor 22 = .ok (.aload_n 1, 1) := by decide +kernel
theorem dX8_careFor_23 : decode cX8_careFor 23 = .ok (.getfield 206, 3) := by decide +kernel
theorem dX8_careFor_26 : decode cX8_careFor 26 = .ok (.aload_n 0, 1) := by decide +kernel
theorem dX8_careFor_27 : decode cX8_careFor 27 = .ok (.getfield 58, 3) := by decide +kernel
theorem dX8_careFor_30 : decode cX8_careFor 30 = .ok (.invokevirtual 245, 3) := by decide +kernel
theorem dX8_careFor_33 : decode cX8_careFor 33 = .ok (.iadd, 1) := by decide +kernel
theorem dX8_careFor_34 : decode cX8_careFor 34 = .ok (.invokestatic 248, 3) := by decide +kernel
theorem dX8_careFor_37 : decode cX8_careFor 37 = .ok (.putfield 206, 3) := by decide +kernel
theorem dX8_careFor_40 : decode cX8_careFor 40 = .ok (.goto 14, 3) := by decide +kernel
theorem dX8_careFor_43 : decode cX8_careFor 43 = .ok (.aload_n 1, 1) := by decide +kernel
theorem dX8_careFor_44 : decode cX8_careFor 44 = .ok (.aload_n 0, 1) := by decide +kernel
theorem dX8_careFor_45 : decode cX8_careFor 45 = .ok (.getfield 58, 3) := by decide +kernel
theorem dX8_careFor_48 : decode cX8_careFor 48 = .ok (.invokevirtual 253, 3) := by decide +kernel
theorem dX8_careFor_51 : decode cX8_careFor 51 = .ok (.invokevirtual 256, 3) := by decide +kernel
theorem dX8_careFor_54 : decode cX8_careFor 54 = .ok (.return_, 1) := by decide +kernel
set_option maxRecDepth 20000 in
theorem ggX8_lineUpWaiting_X8_putInLine : GoodIn wsX8_lineUpWaiting wsX8_putInLine := goodIn_ca (goodIn_ca (lq_goor _ [7, 1, 8, 9, 10, 6, 11, 12, 13, 14, 15, 16, 17, 18, 19, 20, 21, 22] rfl (by decide +kernel)) (goodIn_sub (fun _ h => List.mem_cons_of_mem _ (List.mem_append_left _ (List.mem_append_right _ h))) gw_wsX80)) (goodIn_sub (fun _ h => List.mem_cons_of_mem _ (List.mem_append_right _ h)) gw_wsX20)
set_option maxRecDepth 20000 in
theorem gX8_lineUpWaiting_X8_putInLine : GoodIn wsX8_lineUpWaiting (wsV RX8 262 RX8 yX8_putInLine wsX8_putInLine) := goodIn_app (lq_goor _ [3, 4, 5, 6] rfl (by decide +kernel)) ggX8_lineUpWaiting_X8_putInLine
theorem dX8_lineUpWaiting_0 : decode cX8_lineUpWaiting 0 = .ok (.aload_n 0, 1) := by decide +kernel
theorem dX8_lineUpWaiting_1 : decode cX8_lineUpWaiting 1 = .ok (.iconst 0, 1) := by decide +kernel
theorem dX8_lineUpWaiting_2 : decode cX8_lineUpWaiting 2 = .ok (.putfield 259, 3) := by decide +kernel
theorem dX8_lineUpWaiting_5 : decode cX8_lineUpWaiting 5 = .ok (.aload_n 0, 1) := by decide +kernel
theorem dX8_lineUpWaiting_6 : decode cX8_lineUpWaiting 6 = .ok (.getfield 48, 3) := by decide +kernel
theorem dX8_lineUpWaiting_9 : decode cX8_lineUpWaiting 9 = .ok (.astore_n 1, 1) := by decide +kernel
theorem dX8_lineUpWaiting_10 : decode cX8_lineUpWaiting 10 = .ok (.aload_n 1, 1) := by decide +kernel
theorem dX8_lineUpWaiting_11 : decode cX8_lineUpWaiting 11 = .ok (.arraylength, 1) := by decide +kernel
theorem dX8_lineUpWaiting_12 : decode cX8_lineUpWaiting 12 = .ok (.istore_n 2, 1) := by decide +kernel
theorem dX8_lineUpWaiting_13 : decode cX8_lineUpWaiting 13 = .ok (.iconst 0, 1) := by decide +kernel
theorem dX8_lineUpWaiting_14 : decode cX8_lineUpWaiting 14 = .ok (.istore_n 3, 1) := by decide +kernel
theorem dX8_lineUpWaiting_15 : decode cX8_lineUpWaiting 15 = .ok (.iload_n 3, 1) := by decide +kernel
theorem dX8_lineUpWaiting_16 : decode cX8_lineUpWaiting 16 = .ok (.iload_n 2, 1) := by decide +kernel
theorem dX8_lineUpWaiting_17 : decode cX8_lineUpWaiting 17 = .ok (.if_icmp .ge 33, 3) := by decide +kernel
theorem dX8_lineUpWaiting_20 : decode cX8_lineUpWaiting 20 = .ok (.aload_n 1, 1) := by decide +kernel
theorem dX8_lineUpWaiting_21 : decode cX8_lineUpWaiting 21 = .ok (.iload_n 3, 1) := by decide +kernel
theorem dX8_lineUpWaiting_22 : decode cX8_lineUpWaiting 22 = .ok (.aaload, 1) := by decide +kernel
theorem dX8_lineUpWaiting_23 : decode cX8_lineUpWaiting 23 = .ok (.astore 4, 2) := by decide +kernel
theorem dX8_lineUpWaiting_25 : decode cX8_lineUpWaiting 25 = .ok (.aload 4, 2) := by decide +kernel
theorem dX8_lineUpWaiting_27 : decode cX8_lineUpWaiting 27 = .ok (.ifnull 17, 3) := by decide +kernel
theorem dX8_lineUpWaiting_30 : decode cX8_lineUpWaiting 30 = .ok (.aload 4, 2) := by decide +kernel
theorem dX8_lineUpWaiting_32 : decode cX8_lineUpWaiting 32 = .ok (.getfield 158, 3) := by decide +kernel
theorem dX8_lineUpWaiting_35 : decode cX8_lineUpWaiting 35 = .ok (.ifCond .ne 9, 3) := by decide +kernel
theorem dX8_lineUpWaiting_38 : decode cX8_lineUpWaiting 38 = .ok (.aload_n 0, 1) := by decide +kernel
theorem dX8_lineUpWaiting_39 : decode cX8_lineUpWaiting 39 = .ok (.aload 4, 2) := by decide +kernel
theorem dX8_lineUpWaiting_41 : decode cX8_lineUpWaiting 41 = .ok (.invokevirtual 262, 3) := by decide +kernel
theorem dX8_lineUpWaiting_44 : decode cX8_lineUpWaiting 44 = .ok (.iinc 3 1, 3) := by decide +kernel
theorem dX8_lineUpWaiting_47 : decode cX8_lineUpWaiting 47 = .ok (.goto (-32), 3) := by decide +kernel
theorem dX8_lineUpWaiting_50 : decode cX8_lineUpWaiting 50 = .ok (.return_, 1) := by decide +kernel
set_option maxRecDepth 20000 in
theorem ggX8_putInLine_X8_goesBefore : GoodIn wsX8_putInLine wsX8_goesBefore := goodIn_ca (lq_goor _ [6, 7, 8, 9, 10, 11, 12, 13, 14, 15, 16, 17] rfl (by decide +kernel)) (goodIn_sub (fun _ h => List.mem_cons_of_mem _ (List.mem_append_right _ h)) gw_wsX20)
set_option maxRecDepth 20000 in
theorem gX8_putInLine_X8_goesBefore : GoodIn wsX8_putInLine (va_wsS RX8 266 yX8_goesBefore wsX8_goesBefore) := goodIn_app (lq_goor _ [3, 4, 5] rfl (by decide +kernel)) ggX8_putInLine_X8_goesBefore
theorem dX8_putInLine_0 : decode cX8_putInLine 0 = .ok (.aload_n 0, 1) := by decide +kernel
theorem dX8_putInLine_1 : decode cX8_putInLine 1 = .ok (.getfield 259, 3) := by decide +kernel
theorem dX8_putInLine_4 : decode cX8_putInLine 4 = .ok (.bipush 60, 2) := by decide +kernel
theorem dX8_putInLine_6 : decode cX8_putInLine 6 = .ok (.if_icmp .lt 4, 3) := by decide +kernel
theorem dX8_putInLine_9 : decode cX8_putInLine 9 = .ok (.return_, 1) := by decide +kernel
theorem dX8_putInLine_10 : decode cX8_putInLine 10 = .ok (.aload_n 0, 1) := by decide +kernel
theorem dX8_putInLine_11 : decode cX8_putInLine 11 = .ok (.getfield 259, 3) := by decide +kernel
theorem dX8_putInLine_14 : decode cX8_putInLine 14 = .ok (.istore_n 2, 1) := by decide +kernel
theorem dX8_putInLine_15 : decode cX8_putInLine 15 = .ok (.iload_n 2, 1) := by decide +kernel
theorem dX8_putInLine_16 : decode cX8_putInLine 16 = .ok (.ifCond .le 38, 3) := by decide +kernel
theorem dX8_putInLine_19 : decode cX8_putInLine 19 = .ok (.aload_n 1, 1) := by decide +kernel
theorem dX8_putInLine_20 : decode cX8_putInLine 20 = .ok (.aload_n 0, 1) := by decide +kernel
theorem dX8_putInLine_21 : decode cX8_putInLine 21 = .ok (.getfield 52, 3) := by decide +kernel
theorem dX8_putInLine_24 : decode cX8_putInLine 24 = .ok (.iload_n 2, 1) := by decide +kernel
theorem dX8_putInLine_25 : decode cX8_putInLine 25 = .ok (.iconst 1, 1) := by decide +kernel
theorem dX8_putInLine_26 : decode cX8_putInLine 26 = .ok (.isub, 1) := by decide +kernel
theorem dX8_putInLine_27 : decode cX8_putInLine 27 = .ok (.aaload, 1) := by decide +kernel
theorem dX8_putInLine_28 : decode cX8_putInLine 28 = .ok (.invokestatic 266, 3) := by decide +kernel
theorem dX8_putInLine_31 : decode cX8_putInLine 31 = .ok (.ifCond .eq 23, 3) := by decide +kernel
theorem dX8_putInLine_34 : decode cX8_putInLine 34 = .ok (.aload_n 0, 1) := by decide +kernel
theorem dX8_putInLine_35 : decode cX8_putInLine 35 = .ok (.getfield 52, 3) := by decide +kernel
theorem dX8_putInLine_38 : decode cX8_putInLine 38 = .ok (.iload_n 2, 1) := by decide +kernel
theorem dX8_putInLine_39 : decode cX8_putInLine 39 = .ok (.aload_n 0, 1) := by decide +kernel
theorem dX8_putInLine_40 : decode cX8_putInLine 40 = .ok (.getfield 52, 3) := by decide +kernel
theorem dX8_putInLine_43 : decode cX8_putInLine 43 = .ok (.iload_n 2, 1) := by decide +kernel
theorem dX8_putInLine_44 : decode cX8_putInLine 44 = .ok (.iconst 1, 1) := by decide +kernel
theorem dX8_putInLine_45 : decode cX8_putInLine 45 = .ok (.isub, 1) := by decide +kernel
theorem dX8_putInLine_46 : decode cX8_putInLine 46 = .ok (.aaload, 1) := by decide +kernel
theorem dX8_putInLine_47 : decode cX8_putInLine 47 = .ok (.aastore, 1) := by decide +kernel
theorem dX8_putInLine_48 : decode cX8_putInLine 48 = .ok (.iinc 2 (-1), 3) := by decide +kernel
theorem dX8_putInLine_51 : decode cX8_putInLine 51 = .ok (.goto (-36), 3) := by decide +kernel
theorem dX8_putInLine_54 : decode cX8_putInLine 54 = .ok (.aload_n 0, 1) := by decide +kernel
theorem dX8_putInLine_55 : decode cX8_putInLine 55 = .ok (.getfield 52, 3) := by decide +kernel
theorem dX8_putInLine_58 : decode cX8_putInLine 58 = .ok (.iload_n 2, 1) := by decide +kernel
theorem dX8_putInLine_59 : decode cX8_putInLine 59 = .ok (.aload_n 1, 1) := by decide +kernel
theorem dX8_putInLine_60 : decode cX8_putInLine 60 = .ok (.aastore, 1) := by decide +kernel
theorem dX8_putInLine_61 : decode cX8_putInLine 61 = .ok (.aload_n 0, 1) := by decide +kernel
theorem dX8_putInLine_62 : decode cX8_putInLine 62 = .ok (.dup, 1) := by decide +kernel
theorem dX8_putInLine_63 : decode cX8_putInLine 63 = .ok (.getfield 259, 3) := by decide +kernel
theorem dX8_putInLine_66 : decode cX8_putInLine 66 = .ok (.iconst 1, 1) := by decide +kernel
theorem dX8_putInLine_67 : decode cX8_putInLine 67 = .ok (.iadd, 1) := by decide +kernel
theorem dX8_putInLine_68 : decode cX8_putInLine 68 = .ok (.putfield 259, 3) := by decide +kernel
theorem dX8_putInLine_71 : decode cX8_putInLine 71 = .ok (.return_, 1) := by decide +kernel
set_option maxRecDepth 20000 in
theorem ggX8_goesBefore_X2_lastStation : GoodIn wsX8_goesBefore wsX2_lastStation := goodIn_ca (lq_goor _ [5, 6, 7, 8, 9, 4, 10, 11] rfl (by decide +kernel)) (goodIn_sub (fun _ h => List.mem_cons_of_mem _ (List.mem_append_right _ h)) gw_wsX20)
set_option maxRecDepth 20000 in
theorem gX8_goesBefore_X2_lastStation : GoodIn wsX8_goesBefore (wsV RX8 180 RX2 yX2_lastStation wsX2_lastStation) := goodIn_app (lq_goor _ [1, 2, 3, 4] rfl (by decide +kernel)) ggX8_goesBefore_X2_lastStation
theorem dX8_goesBefore_0 : decode cX8_goesBefore 0 = .ok (.aload_n 0, 1) := by decide +kernel
theorem dX8_goesBefore_1 : decode cX8_goesBefore 1 = .ok (.ifnull 7, 3) := by decide +kernel
theorem dX8_goesBefore_4 : decode cX8_goesBefore 4 = .ok (.aload_n 1, 1) := by decide +kernel
theorem dX8_goesBefore_5 : decode cX8_goesBefore 5 = .ok (.ifnonnull 5, 3) := by decide +kernel
theorem dX8_goesBefore_8 : decode cX8_goesBefore 8 = .ok (.iconst 0, 1) := by decide +kernel
theorem dX8_goesBefore_9 : decode cX8_goesBefore 9 = .ok (.ireturn, 1) := by decide +kernel
theorem dX8_goesBefore_10 : decode cX8_goesBefore 10 = .ok (.aload_n 0, 1) := by decide +kernel
theorem dX8_goesBefore_11 : decode cX8_goesBefore 11 = .ok (.invokevirtual 180, 3) := by decide +kernel
theorem dX8_goesBefore_14 : decode cX8_goesBefore 14 = .ok (.aload_n 1, 1) := by decide +kernel
theorem dX8_goesBefore_15 : decode cX8_goesBefore 15 = .ok (.invokevirtual 180, 3) := by decide +kernel
theorem dX8_goesBefore_18 : decode cX8_goesBefore 18 = .ok (.if_icmp .eq 20, 3) := by decide +kernel
theorem dX8_goesBefore_21 : decode cX8_goesBefore 21 = .ok (.aload_n 0, 1) := by decide +kernel
theorem dX8_goesBefore_22 : decode cX8_goesBefore 22 = .ok (.invokevirtual 180, 3) := by decide +kernel
theorem dX8_goesBefore_25 : decode cX8_goesBefore 25 = .ok (.aload_n 1, 1) := by decide +kernel
theorem dX8_goesBefore_26 : decode cX8_goesBefore 26 = .ok (.invokevirtual 180, 3) := by decide +kernel
theorem dX8_goesBefore_29 : decode cX8_goesBefore 29 = .ok (.if_icmp .ge 7, 3) := by decide +kernel
theorem dX8_goesBefore_32 : decode cX8_goesBefore 32 = .ok (.iconst 1, 1) := by decide +kernel
theorem dX8_goesBefore_33 : decode cX8_goesBefore 33 = .ok (.goto 4, 3) := by decide +kernel
theorem dX8_goesBefore_36 : decode cX8_goesBefore 36 = .ok (.iconst 0, 1) := by decide +kernel
theorem dX8_goesBefore_37 : decode cX8_goesBefore 37 = .ok (.ireturn, 1) := by decide +kernel
theorem dX8_goesBefore_38 : decode cX8_goesBefore 38 = .ok (.aload_n 0, 1) := by decide +kernel
theorem dX8_goesBefore_39 : decode cX8_goesBefore 39 = .ok (.getfield 270, 3) := by decide +kernel
theorem dX8_goesBefore_42 : decode cX8_goesBefore 42 = .ok (.aload_n 1, 1) := by decide +kernel
theorem dX8_goesBefore_43 : decode cX8_goesBefore 43 = .ok (.getfield 270, 3) := by decide +kernel
theorem dX8_goesBefore_46 : decode cX8_goesBefore 46 = .ok (.if_icmp .eq 20, 3) := by decide +kernel
theorem dX8_goesBefore_49 : decode cX8_goesBefore 49 = .ok (.aload_n 0, 1) := by decide +kernel
theorem dX8_goesBefore_50 : decode cX8_goesBefore 50 = .ok (.getfield 270, 3) := by decide +kernel
theorem dX8_goesBefore_53 : decode cX8_goesBefore 53 = .ok (.aload_n 1, 1) := by decide +kernel
theorem dX8_goesBefore_54 : decode cX8_goesBefore 54 = .ok (.getfield 270, 3) := by decide +kernel
theorem dX8_goesBefore_57 : decode cX8_goesBefore 57 = .ok (.if_icmp .ge 7, 3) := by decide +kernel
theorem dX8_goesBefore_60 : decode cX8_goesBefore 60 = .ok (.iconst 1, 1) := by decide +kernel
theorem dX8_goesBefore_61 : decode cX8_goesBefore 61 = .ok (.goto 4, 3) := by decide +kernel
theorem dX8_goesBefore_64 : decode cX8_goesBefore 64 = .ok (.iconst 0, 1) := by decide +kernel
theorem dX8_goesBefore_65 : decode cX8_goesBefore 65 = .ok (.ireturn, 1) := by decide +kernel
theorem dX8_goesBefore_66 : decode cX8_goesBefore 66 = .ok (.aload_n 0, 1) := by decide +kernel
theorem dX8_goesBefore_67 : decode cX8_goesBefore 67 = .ok (.getfield 184, 3) := by decide +kernel
theorem dX8_goesBefore_70 : decode cX8_goesBefore 70 = .ok (.aload_n 1, 1) := by decide +kernel
theorem dX8_goesBefore_71 : decode cX8_goesBefore 71 = .ok (.getfield 184, 3) := by decide +kernel
theorem dX8_goesBefore_74 : decode cX8_goesBefore 74 = .ok (.if_icmp .ge 7, 3) := by decide +kernel
theorem dX8_goesBefore_77 : decode cX8_goesBefore 77 = .ok (.iconst 1, 1) := by decide +kernel
theorem dX8_goesBefore_78 : decode cX8_goesBefore 78 = .ok (.goto 4, 3) := by decide +kernel
theorem dX8_goesBefore_81 : decode cX8_goesBefore 81 = .ok (.iconst 0, 1) := by decide +kernel
theorem dX8_goesBefore_82 : decode cX8_goesBefore 82 = .ok (.ireturn, 1) := by decide +kernel
set_option maxRecDepth 20000 in
theorem ggX8_sendLine_X8_send : GoodIn wsX8_sendLine wsX8_send := goodIn_ca (goodIn_ca (goodIn_ca (goodIn_ca (goodIn_ca (goodIn_ca (lq_goor _ [7, 8, 9, 10, 11, 12, 13, 14, 15, 16, 17, 18, 19, 20, 21, 22, 23, 24, 6, 25, 26, 27, 28, 29, 30, 31, 32, 33, 34, 35, 36, 37, 38, 39, 40, 41, 42, 43, 44, 45, 46, 47, 48, 49, 50, 51, 52, 53, 54, 55, 56, 57, 58, 59, 60, 61, 62, 63, 64, 65, 66, 67, 68, 69, 70, 71, 72, 73, 74, 75, 76] rfl (by decide +kernel)) (goodIn_sub (fun _ h => List.mem_cons_of_mem _ (List.mem_append_left _ (List.mem_append_left _ (List.mem_append_left _ (List.mem_append_left _ (List.mem_append_right _ h)))))) gw_wsX20)) (goodIn_sub (fun _ h => List.mem_cons_of_mem _ (List.mem_append_left _ (List.mem_append_left _ (List.mem_append_left _ (List.mem_append_left _ (List.mem_append_left _ (List.mem_append_right _ h))))))) gw_wsX80)) (goodIn_sub (fun _ h => List.mem_cons_of_mem _ (List.mem_append_left _ (List.mem_append_left _ (List.mem_append_left _ (List.mem_append_right _ h))))) gw_wsX00)) (goodIn_sub (fun _ h => List.mem_cons_of_mem _ (List.mem_append_left _ (List.mem_append_left _ (List.mem_append_right _ h)))) gw_wsX60)) (goodIn_sub (fun _ h => List.mem_cons_of_mem _ (List.mem_append_left _ (List.mem_append_right _ h))) gw_wsX30)) (goodIn_sub (fun _ h => List.mem_cons_of_mem _ (List.mem_append_right _ h)) gw_wsX50)
set_option maxRecDepth 20000 in
theorem gX8_sendLine_X8_send : GoodIn wsX8_sendLine (wsV RX8 271 RX8 yX8_send wsX8_send) := goodIn_app (lq_goor _ [3, 4, 5, 6] rfl (by decide +kernel)) ggX8_sendLine_X8_send
theorem dX8_sendLine_0 : decode cX8_sendLine 0 = .ok (.iconst 0, 1) := by decide +kernel
theorem dX8_sendLine_1 : decode cX8_sendLine 1 = .ok (.istore_n 1, 1) := by decide +kernel
theorem dX8_sendLine_2 : decode cX8_sendLine 2 = .ok (.iload_n 1, 1) := by decide +kernel
theorem dX8_sendLine_3 : decode cX8_sendLine 3 = .ok (.aload_n 0, 1) := by decide +kernel
theorem dX8_sendLine_4 : decode cX8_sendLine 4 = .ok (.getfield 259, 3) := by decide +kernel
theorem dX8_sendLine_7 : decode cX8_sendLine 7 = .ok (.if_icmp .ge 31, 3) := by decide +kernel
theorem dX8_sendLine_10 : decode cX8_sendLine 10 = .ok (.iload_n 1, 1) := by decide +kernel
theorem dX8_sendLine_11 : decode cX8_sendLine 11 = .ok (.bipush 60, 2) := by decide +kernel
theorem dX8_sendLine_13 : decode cX8_sendLine 13 = .ok (.if_icmp .ge 25, 3) := by decide +kernel
theorem dX8_sendLine_16 : decode cX8_sendLine 16 = .ok (.aload_n 0, 1) := by decide +kernel
theorem dX8_sendLine_17 : decode cX8_sendLine 17 = .ok (.getfield 52, 3) := by decide +kernel
theorem dX8_sendLine_20 : decode cX8_sendLine 20 = .ok (.iload_n 1, 1) := by decide +kernel
theorem dX8_sendLine_21 : decode cX8_sendLine 21 = .ok (.aaload, 1) := by decide +kernel
theorem dX8_sendLine_22 : decode cX8_sendLine 22 = .ok (.astore_n 2, 1) := by decide +kernel
theorem dX8_sendLine_23 : decode cX8_sendLine 23 = .ok (.aload_n 2, 1) := by decide +kernel
theorem dX8_sendLine_24 : decode cX8_sendLine 24 = .ok (.ifnull 8, 3) := by decide +kernel
theorem dX8_sendLine_27 : decode cX8_sendLine 27 = .ok (.aload_n 0, 1) := by decide +kernel
theorem dX8_sendLine_28 : decode cX8_sendLine 28 = .ok (.aload_n 2, 1) := by decide +kernel
theorem dX8_sendLine_29 : decode cX8_sendLine 29 = .ok (.invokevirtual 271, 3) := by decide +kernel
theorem dX8_sendLine_32 : decode cX8_sendLine 32 = .ok (.iinc 1 1, 3) := by decide +kernel
theorem dX8_sendLine_35 : decode cX8_sendLine 35 = .ok (.goto (-33), 3) := by decide +kernel
theorem dX8_sendLine_38 : decode cX8_sendLine 38 = .ok (.return_, 1) := by decide +kernel
set_option maxRecDepth 20000 in
theorem ggX8_send_X2_lastStation : GoodIn wsX8_send wsX2_lastStation := goodIn_ca (lq_goor _ [8, 9, 10, 11, 12, 7, 13, 14] rfl (by decide +kernel)) (goodIn_sub (fun _ h => List.mem_cons_of_mem _ (List.mem_append_left _ (List.mem_append_left _ (List.mem_append_left _ (List.mem_append_left _ (List.mem_append_left _ (List.mem_append_right _ h))))))) gw_wsX20)
set_option maxRecDepth 20000 in
theorem gX8_send_X2_lastStation : GoodIn wsX8_send (wsV RX8 180 RX2 yX2_lastStation wsX2_lastStation) := goodIn_app (lq_goor _ [4, 5, 6, 7] rfl (by decide +kernel)) ggX8_send_X2_lastStation
set_option maxRecDepth 20000 in
theorem ggX8_send_X8_voided : GoodIn wsX8_send wsX8_voided := goodIn_ca (goodIn_ca (lq_goor _ [19, 20, 21, 22, 18, 23, 24, 25, 26, 27, 28, 29, 30, 31, 32] rfl (by decide +kernel)) (goodIn_sub (fun _ h => List.mem_cons_of_mem _ (List.mem_append_left _ (List.mem_append_left _ (List.mem_append_left _ (List.mem_append_left _ (List.mem_append_right _ h)))))) gw_wsX80)) (goodIn_sub (fun _ h => List.mem_cons_of_mem _ (List.mem_append_left _ (List.mem_append_left _ (List.mem_append_right _ h)))) gw_wsX60)
set_option maxRecDepth 20000 in
theorem gX8_send_X8_voided : GoodIn wsX8_send (wsV RX8 274 RX8 yX8_voided wsX8_voided) := goodIn_app (lq_goor _ [15, 16, 17, 18] rfl (by decide +kernel)) ggX8_send_X8_voided
set_option maxRecDepth 20000 in
theorem ggX8_send_X2_nextStation : GoodIn wsX8_send wsX2_nextStation := goodIn_ca (lq_goor _ [36, 9, 10, 11, 12, 7, 13, 14] rfl (by decide +kernel)) (goodIn_sub (fun _ h => List.mem_cons_of_mem _ (List.mem_append_left _ (List.mem_append_left _ (List.mem_append_left _ (List.mem_append_left _ (List.mem_append_left _ (List.mem_append_right _ h))))))) gw_wsX20)
set_option maxRecDepth 20000 in
theorem gX8_send_X2_nextStation : GoodIn wsX8_send (wsV RX8 277 RX2 yX2_nextStation wsX2_nextStation) := goodIn_app (lq_goor _ [33, 34, 35, 7] rfl (by decide +kernel)) ggX8_send_X2_nextStation
set_option maxRecDepth 20000 in
theorem ggX8_send_X3_timeBetween : GoodIn wsX8_send wsX3_timeBetween := goodIn_ca (lq_goor _ [41, 42, 43, 31, 18, 32] rfl (by decide +kernel)) (goodIn_sub (fun _ h => List.mem_cons_of_mem _ (List.mem_append_left _ (List.mem_append_right _ h))) gw_wsX30)
set_option maxRecDepth 20000 in
theorem gX8_send_X3_timeBetween : GoodIn wsX8_send (wsV RX8 102 RX3 yX3_timeBetween wsX3_timeBetween) := goodIn_app (lq_goor _ [37, 38, 39, 40] rfl (by decide +kernel)) ggX8_send_X3_timeBetween
set_option maxRecDepth 20000 in
theorem ggX8_send_X8_strongestAt : GoodIn wsX8_send wsX8_strongestAt := goodIn_ca (goodIn_ca (lq_goor _ [47, 48] rfl (by decide +kernel)) (goodIn_sub (fun _ h => List.mem_cons_of_mem _ (List.mem_append_left _ (List.mem_append_left _ (List.mem_append_left _ (List.mem_append_left _ (List.mem_append_right _ h)))))) gw_wsX80)) (goodIn_sub (fun _ h => List.mem_cons_of_mem _ (List.mem_append_left _ (List.mem_append_left _ (List.mem_append_left _ (List.mem_append_right _ h))))) gw_wsX00)
set_option maxRecDepth 20000 in
theorem gX8_send_X8_strongestAt : GoodIn wsX8_send (wsV RX8 280 RX8 yX8_strongestAt wsX8_strongestAt) := goodIn_app (lq_goor _ [44, 45, 46, 18] rfl (by decide +kernel)) ggX8_send_X8_strongestAt
set_option maxRecDepth 20000 in
theorem ggX8_send_X8_horsesAt : GoodIn wsX8_send wsX8_horsesAt := goodIn_ca (goodIn_ca (lq_goor _ [52, 48] rfl (by decide +kernel)) (goodIn_sub (fun _ h => List.mem_cons_of_mem _ (List.mem_append_left _ (List.mem_append_left _ (List.mem_append_left _ (List.mem_append_left _ (List.mem_append_right _ h)))))) gw_wsX80)) (goodIn_sub (fun _ h => List.mem_cons_of_mem _ (List.mem_append_left _ (List.mem_append_left _ (List.mem_append_left _ (List.mem_append_right _ h))))) gw_wsX00)
set_option maxRecDepth 20000 in
theorem gX8_send_X8_horsesAt : GoodIn wsX8_send (wsV RX8 212 RX8 yX8_horsesAt wsX8_horsesAt) := goodIn_app (lq_goor _ [49, 50, 51, 18] rfl (by decide +kernel)) ggX8_send_X8_horsesAt
set_option maxRecDepth 20000 in
theorem ggX8_send_X5_keepFor : GoodIn wsX8_send wsX5_keepFor := goodIn_ca (lq_goor _ [57, 58] rfl (by decide +kernel)) (goodIn_sub (fun _ h => List.mem_cons_of_mem _ (List.mem_append_right _ h)) gw_wsX50)
set_option maxRecDepth 20000 in
theorem gX8_send_X5_keepFor : GoodIn wsX8_send (wsV RX8 283 RX5 yX5_keepFor wsX5_keepFor) := goodIn_app (lq_goor _ [53, 54, 55, 56] rfl (by decide +kernel)) ggX8_send_X5_keepFor
set_option maxRecDepth 20000 in
theorem ggX8_send_X5_tire : GoodIn wsX8_send wsX5_tire := goodIn_ca (lq_goor _ [62, 58] rfl (by decide +kernel)) (goodIn_sub (fun _ h => List.mem_cons_of_mem _ (List.mem_append_right _ h)) gw_wsX50)
set_option maxRecDepth 20000 in
theorem gX8_send_X5_tire : GoodIn wsX8_send (wsV RX8 286 RX5 yX5_tire wsX5_tire) := goodIn_app (lq_goor _ [59, 60, 61, 56] rfl (by decide +kernel)) ggX8_send_X5_tire
set_option maxRecDepth 20000 in
theorem ggX8_send_X2_leaveOn : GoodIn wsX8_send wsX2_leaveOn := goodIn_ca (lq_goor _ [66, 67, 68, 69, 70] rfl (by decide +kernel)) (goodIn_sub (fun _ h => List.mem_cons_of_mem _ (List.mem_append_left _ (List.mem_append_left _ (List.mem_append_left _ (List.mem_append_left _ (List.mem_append_left _ (List.mem_append_right _ h))))))) gw_wsX20)
set_option maxRecDepth 20000 in
theorem gX8_send_X2_leaveOn : GoodIn wsX8_send (wsV RX8 289 RX2 yX2_leaveOn wsX2_leaveOn) := goodIn_app (lq_goor _ [63, 64, 65, 7] rfl (by decide +kernel)) ggX8_send_X2_leaveOn
theorem dX8_send_0 : decode cX8_send 0 = .ok (.aload_n 1, 1) := by decide +kernel
theorem dX8_send_1 : decode cX8_send 1 = .ok (.invokevirtual 180, 3) := by decide +kernel
theorem dX8_send_4 : decode cX8_send 4 = .ok (.istore_n 2, 1) := by decide +kernel
theorem dX8_send_5 : decode cX8_send 5 = .ok (.aload_n 0, 1) := by decide +kernel
theorem dX8_send_6 : decode cX8_send 6 = .ok (.aload_n 1, 1) := by decide +kernel
theorem dX8_send_7 : decode cX8_send 7 = .ok (.getfield 193, 3) := by decide +kernel
theorem dX8_send_10 : decode cX8_send 10 = .ok (.iload_n 2, 1) := by decide +kernel
theorem dX8_send_11 : decode cX8_send 11 = .ok (.invokevirtual 274, 3) := by decide +kernel
theorem dX8_send_14 : decode cX8_send 14 = .ok (.iconst (-1), 1) := by decide +kernel
theorem dX8_send_15 : decode cX8_send 15 = .ok (.if_icmp .eq 9, 3) := by decide +kernel
theorem dX8_send_18 : decode cX8_send 18 = .ok (.aload_n 1, 1) := by decide +kernel
theorem dX8_send_19 : decode cX8_send 19 = .ok (.iconst 3, 1) := by decide +kernel
theorem dX8_send_20 : decode cX8_send 20 = .ok (.putfield 158, 3) := by decide +kernel
theorem dX8_send_23 : decode cX8_send 23 = .ok (.return_, 1) := by decide +kernel
theorem dX8_send_24 : decode cX8_send 24 = .ok (.aload_n 0, 1) := by decide +kernel
theorem dX8_send_25 : decode cX8_send 25 = .ok (.getfield 19, 3) := by decide +kernel
theorem dX8_send_28 : decode cX8_send 28 = .ok (.iload_n 2, 1) := by decide +kernel
theorem dX8_send_29 : decode cX8_send 29 = .ok (.aload_n 1, 1) := by decide +kernel
theorem dX8_send_30 : decode cX8_send 30 = .ok (.invokevirtual 277, 3) := by decide +kernel
theorem dX8_send_33 : decode cX8_send 33 = .ok (.invokevirtual 102, 3) := by decide +kernel
theorem dX8_send_36 : decode cX8_send 36 = .ok (.istore_n 3, 1) := by decide +kernel
theorem dX8_send_37 : decode cX8_send 37 = .ok (.aload_n 0, 1) := by decide +kernel
theorem dX8_send_38 : decode cX8_send 38 = .ok (.iload_n 2, 1) := by decide +kernel
theorem dX8_send_39 : decode cX8_send 39 = .ok (.invokevirtual 280, 3) := by decide +kernel
theorem dX8_send_42 : decode cX8_send 42 = .ok (.astore 4, 2) := by decide +kernel
theorem dX8_send_44 : decode cX8_send 44 = .ok (.iload_n 3, 1) := by decide +kernel
theorem dX8_send_45 : decode cX8_send 45 = .ok (.iconst (-1), 1) := by decide +kernel
theorem dX8_send_46 : decode cX8_send 46 = .ok (.if_icmp .eq 44, 3) := by decide +kernel
theorem dX8_send_49 : decode cX8_send 49 = .ok (.aload 4, 2) := by decide +kernel
theorem dX8_send_51 : decode cX8_send 51 = .ok (.ifnull 39, 3) := by decide +kernel
theorem dX8_send_54 : decode cX8_send 54 = .ok (.aload_n 0, 1) := by decide +kernel
theorem dX8_send_55 : decode cX8_send 55 = .ok (.iload_n 2, 1) := by decide +kernel
theorem dX8_send_56 : decode cX8_send 56 = .ok (.invokevirtual 212, 3) := by decide +kernel
theorem dX8_send_59 : decode cX8_send 59 = .ok (.aload_n 0, 1) := by decide +kernel
theorem dX8_send_60 : decode cX8_send 60 = .ok (.getfield 58, 3) := by decide +kernel
theorem dX8_send_63 : decode cX8_send 63 = .ok (.aload_n 1, 1) := by decide +kernel
theorem dX8_send_64 : decode cX8_send 64 = .ok (.getfield 270, 3) := by decide +kernel
theorem dX8_send_67 : decode cX8_send 67 = .ok (.invokevirtual 283, 3) := by decide +kernel
theorem dX8_send_70 : decode cX8_send 70 = .ok (.if_icmp .le 20, 3) := by decide +kernel
theorem dX8_send_73 : decode cX8_send 73 = .ok (.aload 4, 2) := by decide +kernel
theorem dX8_send_75 : decode cX8_send 75 = .ok (.getfield 206, 3) := by decide +kernel
theorem dX8_send_78 : decode cX8_send 78 = .ok (.aload_n 0, 1) := by decide +kernel
theorem dX8_send_79 : decode cX8_send 79 = .ok (.getfield 58, 3) := by decide +kernel
theorem dX8_send_82 : decode cX8_send 82 = .ok (.invokevirtual 286, 3) := by decide +kernel
theorem dX8_send_85 : decode cX8_send 85 = .ok (.iload_n 3, 1) := by decide +kernel
theorem dX8_send_86 : decode cX8_send 86 = .ok (.imul, 1) := by decide +kernel
theorem dX8_send_87 : decode cX8_send 87 = .ok (.if_icmp .ge 4, 3) := by decide +kernel
theorem dX8_send_90 : decode cX8_send 90 = .ok (.return_, 1) := by decide +kernel
theorem dX8_send_91 : decode cX8_send 91 = .ok (.aload 4, 2) := by decide +kernel
theorem dX8_send_93 : decode cX8_send 93 = .ok (.iconst (-1), 1) := by decide +kernel
theorem dX8_send_94 : decode cX8_send 94 = .ok (.putfield 209, 3) := by decide +kernel
theorem dX8_send_97 : decode cX8_send 97 = .ok (.aload_n 1, 1) := by decide +kernel
theorem dX8_send_98 : decode cX8_send 98 = .ok (.aload 4, 2) := by decide +kernel
theorem dX8_send_100 : decode cX8_send 100 = .ok (.aload_n 0, 1) := by decide +kernel
theorem dX8_send_101 : decode cX8_send 101 = .ok (.getfield 140, 3) := by decide +kernel
theorem dX8_send_104 : decode cX8_send 104 = .ok (.iload_n 3, 1) := by decide +kernel
theorem dX8_send_105 : decode cX8_send 105 = .ok (.invokevirtual 289, 3) := by decide +kernel
theorem dX8_send_108 : decode cX8_send 108 = .ok (.return_, 1) := by decide +kernel
set_option maxRecDepth 20000 in
theorem ggX8_bringComers_X8_bring : GoodIn wsX8_bringComers wsX8_bring := goodIn_ca (goodIn_ca (goodIn_ca (goodIn_ca (goodIn_ca (lq_goor _ [7, 8, 2, 9, 10, 11, 12, 13, 14, 15, 16, 17, 18, 19, 20, 21, 22, 23, 24, 25, 26, 27, 28, 29, 30, 31, 32, 33, 34, 35, 36, 37, 38, 39, 40, 41, 42, 6, 43, 44, 45, 46, 47, 48, 49, 50, 51, 52, 53, 54, 55, 56, 57, 58, 59, 60, 61, 62, 63, 64, 65, 66, 67, 68] rfl (by decide +kernel)) (goodIn_sub (fun _ h => List.mem_cons_of_mem _ (List.mem_append_left _ (List.mem_append_left _ (List.mem_append_left _ (List.mem_append_left _ (List.mem_append_right _ h)))))) gw_wsX80)) (goodIn_sub (fun _ h => List.mem_cons_of_mem _ (List.mem_append_left _ (List.mem_append_left _ (List.mem_append_left _ (List.mem_append_right _ h))))) gw_wsX20)) (goodIn_sub (fun _ h => List.mem_cons_of_mem _ (List.mem_append_left _ (List.mem_append_left _ (List.mem_append_right _ h)))) gw_wsX00)) (goodIn_sub (fun _ h => List.mem_cons_of_mem _ (List.mem_append_left _ (List.mem_append_right _ h))) gw_wsX50)) (goodIn_sub (fun _ h => List.mem_cons_of_mem _ (List.mem_append_right _ h)) gw_wsX60)
set_option maxRecDepth 20000 in
theorem gX8_bringComers_X8_bring : GoodIn wsX8_bringComers (wsV RX8 303 RX8 yX8_bring wsX8_bring) := goodIn_app (lq_goor _ [3, 4, 5, 6] rfl (by decide +kernel)) ggX8_bringComers_X8_bring
theorem dX8_bringComers_0 : decode cX8_bringComers 0 = .ok (.aload_n 0, 1) := by decide +kernel
theorem dX8_bringComers_1 : decode cX8_bringComers 1 = .ok (.getfield 48, 3) := by decide +kernel
theorem dX8_bringComers_4 : decode cX8_bringComers 4 = .ok (.astore_n 1, 1) := by decide +kernel
theorem dX8_bringComers_5 : decode cX8_bringComers 5 = .ok (.aload_n 1, 1) := by decide +kernel
theorem dX8_bringComers_6 : decode cX8_bringComers 6 = .ok (.arraylength, 1) := by decide +kernel
theorem dX8_bringComers_7 : decode cX8_bringComers 7 = .ok (.istore_n 2, 1) := by decide +kernel
theorem dX8_bringComers_8 : decode cX8_bringComers 8 = .ok (.iconst 0, 1) := by decide +kernel
theorem dX8_bringComers_9 : decode cX8_bringComers 9 = .ok (.istore_n 3, 1) := by decide +kernel
theorem dX8_bringComers_10 : decode cX8_bringComers 10 = .ok (.iload_n 3, 1) := by decide +kernel
theorem dX8_bringComers_11 : decode cX8_bringComers 11 = .ok (.iload_n 2, 1) := by decide +kernel
theorem dX8_bringComers_12 : decode cX8_bringComers 12 = .ok (.if_icmp .ge 56, 3) := by decide +kernel
theorem dX8_bringComers_15 : decode cX8_bringComers 15 = .ok (.aload_n 1, 1) := by decide +kernel
theorem dX8_bringComers_16 : decode cX8_bringComers 16 = .ok (.iload_n 3, 1) := by decide +kernel
theorem dX8_bringComers_17 : decode cX8_bringComers 17 = .ok (.aaload, 1) := by decide +kernel
theorem dX8_bringComers_18 : decode cX8_bringComers 18 = .ok (.astore 4, 2) := by decide +kernel
theorem dX8_bringComers_20 : decode cX8_bringComers 20 = .ok (.aload 4, 2) := by decide +kernel
theorem dX8_bringComers_22 : decode cX8_bringComers 22 = .ok (.ifnull 40, 3) := by decide +kernel
theorem dX8_bringComers_25 : decode cX8_bringComers 25 = .ok (.aload 4, 2) := by decide +kernel
theorem dX8_bringComers_27 : decode cX8_bringComers 27 = .ok (.getfield 293, 3) := by decide +kernel
theorem dX8_bringComers_30 : decode cX8_bringComers 30 = .ok (.ifnull 32, 3) := by decide +kernel
theorem dX8_bringComers_33 : decode cX8_bringComers 33 = .ok (.aload 4, 2) := by decide +kernel
theorem dX8_bringComers_35 : decode cX8_bringComers 35 = .ok (.getfield 297, 3) := by decide +kernel
theorem dX8_bringComers_38 : decode cX8_bringComers 38 = .ok (.aload 4, 2) := by decide +kernel
theorem dX8_bringComers_40 : decode cX8_bringComers 40 = .ok (.getfield 300, 3) := by decide +kernel
theorem dX8_bringComers_43 : decode cX8_bringComers 43 = .ok (.iadd, 1) := by decide +kernel
theorem dX8_bringComers_44 : decode cX8_bringComers 44 = .ok (.aload_n 0, 1) := by decide +kernel
theorem dX8_bringComers_45 : decode cX8_bringComers 45 = .ok (.getfield 140, 3) := by decide +kernel
theorem dX8_bringComers_48 : decode cX8_bringComers 48 = .ok (.if_icmp .gt 14, 3) := by decide +kernel
theorem dX8_bringComers_51 : decode cX8_bringComers 51 = .ok (.aload_n 0, 1) := by decide +kernel
theorem dX8_bringComers_52 : decode cX8_bringComers 52 = .ok (.aload 4, 2) := by decide +kernel
theorem dX8_bringComers_54 : decode cX8_bringComers 54 = .ok (.aload 4, 2) := by decide +kernel
theorem dX8_bringComers_56 : decode cX8_bringComers 56 = .ok (.getfield 293, 3) := by decide +kernel
theorem dX8_bringComers_59 : decode cX8_bringComers 59 = .ok (.invokevirtual 303, 3) := by decide +kernel
theorem dX8_bringComers_62 : decode cX8_bringComers 62 = .ok (.iinc 3 1, 3) := by decide +kernel
theorem dX8_bringComers_65 : decode cX8_bringComers 65 = .ok (.goto (-55), 3) := by decide +kernel
theorem dX8_bringComers_68 : decode cX8_bringComers 68 = .ok (.return_, 1) := by decide +kernel
set_option maxRecDepth 20000 in
theorem ggX8_bring_X2_nextStation : GoodIn wsX8_bring wsX2_nextStation := goodIn_ca (lq_goor _ [7, 8, 9, 10, 11, 6, 12, 13] rfl (by decide +kernel)) (goodIn_sub (fun _ h => List.mem_cons_of_mem _ (List.mem_append_left _ (List.mem_append_left _ (List.mem_append_left _ (List.mem_append_right _ h))))) gw_wsX20)
set_option maxRecDepth 20000 in
theorem gX8_bring_X2_nextStation : GoodIn wsX8_bring (wsV RX8 277 RX2 yX2_nextStation wsX2_nextStation) := goodIn_app (lq_goor _ [3, 4, 5, 6] rfl (by decide +kernel)) ggX8_bring_X2_nextStation
set_option maxRecDepth 20000 in
theorem ggX8_bring_X5_tire : GoodIn wsX8_bring wsX5_tire := goodIn_ca (lq_goor _ [18, 19] rfl (by decide +kernel)) (goodIn_sub (fun _ h => List.mem_cons_of_mem _ (List.mem_append_left _ (List.mem_append_right _ h))) gw_wsX50)
set_option maxRecDepth 20000 in
theorem gX8_bring_X5_tire : GoodIn wsX8_bring (wsV RX8 286 RX5 yX5_tire wsX5_tire) := goodIn_app (lq_goor _ [14, 15, 16, 17] rfl (by decide +kernel)) ggX8_bring_X5_tire
set_option maxRecDepth 20000 in
theorem ggX8_bring_X0_weaken : GoodIn wsX8_bring wsX0_weaken := goodIn_ca (lq_goor _ [24, 25, 26, 27, 28, 29] rfl (by decide +kernel)) (goodIn_sub (fun _ h => List.mem_cons_of_mem _ (List.mem_append_left _ (List.mem_append_left _ (List.mem_append_right _ h)))) gw_wsX00)
set_option maxRecDepth 20000 in
theorem gX8_bring_X0_weaken : GoodIn wsX8_bring (wsV RX8 256 RX0 yX0_weaken wsX0_weaken) := goodIn_app (lq_goor _ [20, 21, 22, 23] rfl (by decide +kernel)) ggX8_bring_X0_weaken
set_option maxRecDepth 20000 in
theorem ggX8_bring_X2_lastStation : GoodIn wsX8_bring wsX2_lastStation := goodIn_ca (lq_goor _ [33, 8, 9, 10, 11, 6, 12, 13] rfl (by decide +kernel)) (goodIn_sub (fun _ h => List.mem_cons_of_mem _ (List.mem_append_left _ (List.mem_append_left _ (List.mem_append_left _ (List.mem_append_right _ h))))) gw_wsX20)
set_option maxRecDepth 20000 in
theorem gX8_bring_X2_lastStation : GoodIn wsX8_bring (wsV RX8 180 RX2 yX2_lastStation wsX2_lastStation) := goodIn_app (lq_goor _ [30, 31, 32, 6] rfl (by decide +kernel)) ggX8_bring_X2_lastStation
set_option maxRecDepth 20000 in
theorem ggX8_bring_X8_carryVoids : GoodIn wsX8_bring wsX8_carryVoids := goodIn_ca (goodIn_ca (lq_goor _ [38, 39, 2, 40, 41, 42, 43, 44, 45, 46, 47, 48, 49, 50, 37, 51, 52, 53, 54, 55] rfl (by decide +kernel)) (goodIn_sub (fun _ h => List.mem_cons_of_mem _ (List.mem_append_left _ (List.mem_append_left _ (List.mem_append_left _ (List.mem_append_left _ (List.mem_append_right _ h)))))) gw_wsX80)) (goodIn_sub (fun _ h => List.mem_cons_of_mem _ (List.mem_append_right _ h)) gw_wsX60)
set_option maxRecDepth 20000 in
theorem gX8_bring_X8_carryVoids : GoodIn wsX8_bring (wsV RX8 307 RX8 yX8_carryVoids wsX8_carryVoids) := goodIn_app (lq_goor _ [34, 35, 36, 37] rfl (by decide +kernel)) ggX8_bring_X8_carryVoids
set_option maxRecDepth 20000 in
theorem ggX8_bring_X2_comeToNextStation : GoodIn wsX8_bring wsX2_comeToNextStation := goodIn_ca (lq_goor _ [59, 60, 61, 8, 13, 62, 63, 4, 5, 6, 7, 9, 10, 11, 12, 50, 37, 51] rfl (by decide +kernel)) (goodIn_sub (fun _ h => List.mem_cons_of_mem _ (List.mem_append_left _ (List.mem_append_left _ (List.mem_append_left _ (List.mem_append_right _ h))))) gw_wsX20)
set_option maxRecDepth 20000 in
theorem gX8_bring_X2_comeToNextStation : GoodIn wsX8_bring (wsV RX8 143 RX2 yX2_comeToNextStation wsX2_comeToNextStation) := goodIn_app (lq_goor _ [56, 57, 58, 6] rfl (by decide +kernel)) ggX8_bring_X2_comeToNextStation
theorem dX8_bring_0 : decode cX8_bring 0 = .ok (.aload_n 1, 1) := by decide +kernel
theorem dX8_bring_1 : decode cX8_bring 1 = .ok (.invokevirtual 277, 3) := by decide +kernel
theorem dX8_bring_4 : decode cX8_bring 4 = .ok (.istore_n 3, 1) := by decide +kernel
theorem dX8_bring_5 : decode cX8_bring 5 = .ok (.aload_n 2, 1) := by decide +kernel
theorem dX8_bring_6 : decode cX8_bring 6 = .ok (.aload_n 0, 1) := by decide +kernel
theorem dX8_bring_7 : decode cX8_bring 7 = .ok (.getfield 58, 3) := by decide +kernel
theorem dX8_bring_10 : decode cX8_bring 10 = .ok (.invokevirtual 286, 3) := by decide +kernel
theorem dX8_bring_13 : decode cX8_bring 13 = .ok (.aload_n 1, 1) := by decide +kernel
theorem dX8_bring_14 : decode cX8_bring 14 = .ok (.getfield 300, 3) := by decide +kernel
theorem dX8_bring_17 : decode cX8_bring 17 = .ok (.imul, 1) := by decide +kernel
theorem dX8_bring_18 : decode cX8_bring 18 = .ok (.invokevirtual 256, 3) := by decide +kernel
theorem dX8_bring_21 : decode cX8_bring 21 = .ok (.aload_n 2, 1) := by decide +kernel
theorem dX8_bring_22 : decode cX8_bring 22 = .ok (.iload_n 3, 1) := by decide +kernel
theorem dX8_bring_23 : decode cX8_bring 23 = .ok (.putfield 209, 3) := by decide +kernel
theorem dX8_bring_26 : decode cX8_bring 26 = .ok (.aload_n 1, 1) := by decide +kernel
theorem dX8_bring_27 : decode cX8_bring 27 = .ok (.aconst_null, 1) := by decide +kernel
theorem dX8_bring_28 : decode cX8_bring 28 = .ok (.putfield 293, 3) := by decide +kernel
theorem dX8_bring_31 : decode cX8_bring 31 = .ok (.aload_n 1, 1) := by decide +kernel
theorem dX8_bring_32 : decode cX8_bring 32 = .ok (.getfield 158, 3) := by decide +kernel
theorem dX8_bring_35 : decode cX8_bring 35 = .ok (.iconst 1, 1) := by decide +kernel
theorem dX8_bring_36 : decode cX8_bring 36 = .ok (.if_icmp .ne 24, 3) := by decide +kernel
theorem dX8_bring_39 : decode cX8_bring 39 = .ok (.aload_n 0, 1) := by decide +kernel
theorem dX8_bring_40 : decode cX8_bring 40 = .ok (.aload_n 1, 1) := by decide +kernel
theorem dX8_bring_41 : decode cX8_bring 41 = .ok (.invokevirtual 180, 3) := by decide +kernel
theorem dX8_bring_44 : decode cX8_bring 44 = .ok (.iload_n 3, 1) := by decide +kernel
theorem dX8_bring_45 : decode cX8_bring 45 = .ok (.aload_n 1, 1) := by decide +kernel
theorem dX8_bring_46 : decode cX8_bring 46 = .ok (.getfield 297, 3) := by decide +kernel
theorem dX8_bring_49 : decode cX8_bring 49 = .ok (.invokevirtual 307, 3) := by decide +kernel
theorem dX8_bring_52 : decode cX8_bring 52 = .ok (.aload_n 1, 1) := by decide +kernel
theorem dX8_bring_53 : decode cX8_bring 53 = .ok (.aload_n 0, 1) := by decide +kernel
theorem dX8_bring_54 : decode cX8_bring 54 = .ok (.getfield 140, 3) := by decide +kernel
theorem dX8_bring_57 : decode cX8_bring 57 = .ok (.invokevirtual 143, 3) := by decide +kernel
theorem dX8_bring_60 : decode cX8_bring 60 = .ok (.return_, 1) := by decide +kernel
set_option maxRecDepth 20000 in
theorem ggX8_carryVoids_X6_wasVoid : GoodIn wsX8_carryVoids wsX6_wasVoid := goodIn_ca (lq_goor _ [7, 8, 9, 10, 6, 11, 12, 13, 14, 15] rfl (by decide +kernel)) (goodIn_sub (fun _ h => List.mem_cons_of_mem _ (List.mem_append_right _ h)) gw_wsX60)
set_option maxRecDepth 20000 in
theorem gX8_carryVoids_X6_wasVoid : GoodIn wsX8_carryVoids (wsV RX8 310 RX6 yX6_wasVoid wsX6_wasVoid) := goodIn_app (lq_goor _ [3, 4, 5, 6] rfl (by decide +kernel)) ggX8_carryVoids_X6_wasVoid
set_option maxRecDepth 20000 in
theorem ggX8_carryVoids_X6_tellVoid : GoodIn wsX8_carryVoids wsX6_tellVoid := goodIn_ca (lq_goor _ [19, 12, 13, 14, 15] rfl (by decide +kernel)) (goodIn_sub (fun _ h => List.mem_cons_of_mem _ (List.mem_append_right _ h)) gw_wsX60)
set_option maxRecDepth 20000 in
theorem gX8_carryVoids_X6_tellVoid : GoodIn wsX8_carryVoids (wsV RX8 146 RX6 yX6_tellVoid wsX6_tellVoid) := goodIn_app (lq_goor _ [16, 17, 18, 6] rfl (by decide +kernel)) ggX8_carryVoids_X6_tellVoid
theorem dX8_carryVoids_0 : decode cX8_carryVoids 0 = .ok (.aload_n 0, 1) := by decide +kernel
theorem dX8_carryVoids_1 : decode cX8_carryVoids 1 = .ok (.getfield 42, 3) := by decide +kernel
theorem dX8_carryVoids_4 : decode cX8_carryVoids 4 = .ok (.astore 4, 2) := by decide +kernel
theorem dX8_carryVoids_6 : decode cX8_carryVoids 6 = .ok (.aload 4, 2) := by decide +kernel
theorem dX8_carryVoids_8 : decode cX8_carryVoids 8 = .ok (.arraylength, 1) := by decide +kernel
theorem dX8_carryVoids_9 : decode cX8_carryVoids 9 = .ok (.istore 5, 2) := by decide +kernel
theorem dX8_carryVoids_11 : decode cX8_carryVoids 11 = .ok (.iconst 0, 1) := by decide +kernel
theorem dX8_carryVoids_12 : decode cX8_carryVoids 12 = .ok (.istore 6, 2) := by decide +kernel
theorem dX8_carryVoids_14 : decode cX8_carryVoids 14 = .ok (.iload 6, 2) := by decide +kernel
theorem dX8_carryVoids_16 : decode cX8_carryVoids 16 = .ok (.iload 5, 2) := by decide +kernel
theorem dX8_carryVoids_18 : decode cX8_carryVoids 18 = .ok (.if_icmp .ge 42, 3) := by decide +kernel
theorem dX8_carryVoids_21 : decode cX8_carryVoids 21 = .ok (.aload 4, 2) := by decide +kernel
theorem dX8_carryVoids_23 : decode cX8_carryVoids 23 = .ok (.iload 6, 2) := by decide +kernel
theorem dX8_carryVoids_25 : decode cX8_carryVoids 25 = .ok (.aaload, 1) := by decide +kernel
theorem dX8_carryVoids_26 : decode cX8_carryVoids 26 = .ok (.astore 7, 2) := by decide +kernel
theorem dX8_carryVoids_28 : decode cX8_carryVoids 28 = .ok (.aload 7, 2) := by decide +kernel
theorem dX8_carryVoids_30 : decode cX8_carryVoids 30 = .ok (.ifnull 24, 3) := by decide +kernel
theorem dX8_carryVoids_33 : decode cX8_carryVoids 33 = .ok (.aload 7, 2) := by decide +kernel
theorem dX8_carryVoids_35 : decode cX8_carryVoids 35 = .ok (.iload_n 1, 1) := by decide +kernel
theorem dX8_carryVoids_36 : decode cX8_carryVoids 36 = .ok (.iload_n 3, 1) := by decide +kernel
theorem dX8_carryVoids_37 : decode cX8_carryVoids 37 = .ok (.invokevirtual 310, 3) := by decide +kernel
theorem dX8_carryVoids_40 : decode cX8_carryVoids 40 = .ok (.ifCond .eq 14, 3) := by decide +kernel
theorem dX8_carryVoids_43 : decode cX8_carryVoids 43 = .ok (.aload 7, 2) := by decide +kernel
theorem dX8_carryVoids_45 : decode cX8_carryVoids 45 = .ok (.iload_n 2, 1) := by decide +kernel
theorem dX8_carryVoids_46 : decode cX8_carryVoids 46 = .ok (.aload_n 0, 1) := by decide +kernel
theorem dX8_carryVoids_47 : decode cX8_carryVoids 47 = .ok (.getfield 140, 3) := by decide +kernel
theorem dX8_carryVoids_50 : decode cX8_carryVoids 50 = .ok (.invokevirtual 146, 3) := by decide +kernel
theorem dX8_carryVoids_53 : decode cX8_carryVoids 53 = .ok (.pop, 1) := by decide +kernel
theorem dX8_carryVoids_54 : decode cX8_carryVoids 54 = .ok (.iinc 6 1, 3) := by decide +kernel
theorem dX8_carryVoids_57 : decode cX8_carryVoids 57 = .ok (.goto (-43), 3) := by decide +kernel
theorem dX8_carryVoids_60 : decode cX8_carryVoids 60 = .ok (.return_, 1) := by decide +kernel
theorem dX9_init_0 : decode cX9_init 0 = .ok (.aload_n 0, 1) := by decide +kernel
theorem dX9_init_1 : decode cX9_init 1 = .ok (.invokespecial 1, 3) := by decide +kernel
theorem dX9_init_4 : decode cX9_init 4 = .ok (.aload_n 0, 1) := by decide +kernel
theorem dX9_init_5 : decode cX9_init 5 = .ok (.sipush 200, 3) := by decide +kernel
theorem dX9_init_8 : decode cX9_init 8 = .ok (.newarray .byte, 2) := by decide +kernel
theorem dX9_init_10 : decode cX9_init 10 = .ok (.putfield 7, 3) := by decide +kernel
theorem dX9_init_13 : decode cX9_init 13 = .ok (.aload_n 0, 1) := by decide +kernel
theorem dX9_init_14 : decode cX9_init 14 = .ok (.bipush 6, 2) := by decide +kernel
theorem dX9_init_16 : decode cX9_init 16 = .ok (.newarray .int, 2) := by decide +kernel
theorem dX9_init_18 : decode cX9_init 18 = .ok (.dup, 1) := by decide +kernel
theorem dX9_init_19 : decode cX9_init 19 = .ok (.iconst 0, 1) := by decide +kernel
theorem dX9_init_20 : decode cX9_init 20 = .ok (.iconst 2, 1) := by decide +kernel
theorem dX9_init_21 : decode cX9_init 21 = .ok (.iastore, 1) := by decide +kernel
theorem dX9_init_22 : decode cX9_init 22 = .ok (.dup, 1) := by decide +kernel
theorem dX9_init_23 : decode cX9_init 23 = .ok (.iconst 1, 1) := by decide +kernel
theorem dX9_init_24 : decode cX9_init 24 = .ok (.iconst 3, 1) := by decide +kernel
theorem dX9_init_25 : decode cX9_init 25 = .ok (.iastore, 1) := by decide +kernel
theorem dX9_init_26 : decode cX9_init 26 = .ok (.dup, 1) := by decide +kernel
theorem dX9_init_27 : decode cX9_init 27 = .ok (.iconst 2, 1) := by decide +kernel
theorem dX9_init_28 : decode cX9_init 28 = .ok (.iconst 1, 1) := by decide +kernel
theorem dX9_init_29 : decode cX9_init 29 = .ok (.iastore, 1) := by decide +kernel
theorem dX9_init_30 : decode cX9_init 30 = .ok (.dup, 1) := by decide +kernel
theorem dX9_init_31 : decode cX9_init 31 = .ok (.iconst 3, 1) := by decide +kernel
theorem dX9_init_32 : decode cX9_init 32 = .ok (.iconst 0, 1) := by decide +kernel
theorem dX9_init_33 : decode cX9_init 33 = .ok (.iastore, 1) := by decide +kernel
theorem dX9_init_34 : decode cX9_init 34 = .ok (.dup, 1) := by decide +kernel
theorem dX9_init_35 : decode cX9_init 35 = .ok (.iconst 4, 1) := by decide +kernel
theorem dX9_init_36 : decode cX9_init 36 = .ok (.iconst 0, 1) := by decide +kernel
theorem dX9_init_37 : decode cX9_init 37 = .ok (.iastore, 1) := by decide +kernel
theorem dX9_init_38 : decode cX9_init 38 = .ok (.dup, 1) := by decide +kernel
theorem dX9_init_39 : decode cX9_init 39 = .ok (.iconst 5, 1) := by decide +kernel
theorem dX9_init_40 : decode cX9_init 40 = .ok (.iconst 0, 1) := by decide +kernel
theorem dX9_init_41 : decode cX9_init 41 = .ok (.iastore, 1) := by decide +kernel
theorem dX9_init_42 : decode cX9_init 42 = .ok (.putfield 13, 3) := by decide +kernel
theorem dX9_init_45 : decode cX9_init 45 = .ok (.aload_n 0, 1) := by decide +kernel
theorem dX9_init_46 : decode cX9_init 46 = .ok (.bipush 6, 2) := by decide +kernel
theorem dX9_init_48 : decode cX9_init 48 = .ok (.newarray .int, 2) := by decide +kernel
theorem dX9_init_50 : decode cX9_init 50 = .ok (.putfield 17, 3) := by decide +kernel
theorem dX9_init_53 : decode cX9_init 53 = .ok (.aload_n 0, 1) := by decide +kernel
theorem dX9_init_54 : decode cX9_init 54 = .ok (.bipush 6, 2) := by decide +kernel
theorem dX9_init_56 : decode cX9_init 56 = .ok (.newarray .boolean, 2) := by decide +kernel
theorem dX9_init_58 : decode cX9_init 58 = .ok (.putfield 20, 3) := by decide +kernel
theorem dX9_init_61 : decode cX9_init 61 = .ok (.aload_n 0, 1) := by decide +kernel
theorem dX9_init_62 : decode cX9_init 62 = .ok (.sipush 144, 3) := by decide +kernel
theorem dX9_init_65 : decode cX9_init 65 = .ok (.newarray .int, 2) := by decide +kernel
theorem dX9_init_67 : decode cX9_init 67 = .ok (.putfield 24, 3) := by decide +kernel
theorem dX9_init_70 : decode cX9_init 70 = .ok (.aload_n 0, 1) := by decide +kernel
theorem dX9_init_71 : decode cX9_init 71 = .ok (.sipush 144, 3) := by decide +kernel
theorem dX9_init_74 : decode cX9_init 74 = .ok (.newarray .int, 2) := by decide +kernel
theorem dX9_init_76 : decode cX9_init 76 = .ok (.putfield 27, 3) := by decide +kernel
theorem dX9_init_79 : decode cX9_init 79 = .ok (.aload_n 0, 1) := by decide +kernel
theorem dX9_init_80 : decode cX9_init 80 = .ok (.bipush 12, 2) := by decide +kernel
theorem dX9_init_82 : decode cX9_init 82 = .ok (.newarray .int, 2) := by decide +kernel
theorem dX9_init_84 : decode cX9_init 84 = .ok (.putfield 30, 3) := by decide +kernel
theorem dX9_init_87 : decode cX9_init 87 = .ok (.aload_n 0, 1) := by decide +kernel
theorem dX9_init_88 : decode cX9_init 88 = .ok (.bipush 12, 2) := by decide +kernel
theorem dX9_init_90 : decode cX9_init 90 = .ok (.newarray .int, 2) := by decide +kernel
theorem dX9_init_92 : decode cX9_init 92 = .ok (.putfield 33, 3) := by decide +kernel
theorem dX9_init_95 : decode cX9_init 95 = .ok (.aload_n 0, 1) := by decide +kernel
theorem dX9_init_96 : decode cX9_init 96 = .ok (.bipush 60, 2) := by decide +kernel
theorem dX9_init_98 : decode cX9_init 98 = .ok (.newarray .int, 2) := by decide +kernel
theorem dX9_init_100 : decode cX9_init 100 = .ok (.putfield 36, 3) := by decide +kernel
theorem dX9_init_103 : decode cX9_init 103 = .ok (.aload_n 0, 1) := by decide +kernel
theorem dX9_init_104 : decode cX9_init 104 = .ok (.bipush 60, 2) := by decide +kernel
theorem dX9_init_106 : decode cX9_init 106 = .ok (.newarray .int, 2) := by decide +kernel
theorem dX9_init_108 : decode cX9_init 108 = .ok (.putfield 39, 3) := by decide +kernel
theorem dX9_init_111 : decode cX9_init 111 = .ok (.aload_n 0, 1) := by decide +kernel
theorem dX9_init_112 : decode cX9_init 112 = .ok (.bipush 20, 2) := by decide +kernel
theorem dX9_init_114 : decode cX9_init 114 = .ok (.newarray .int, 2) := by decide +kernel
theorem dX9_init_116 : decode cX9_init 116 = .ok (.putfield 42, 3) := by decide +kernel
theorem dX9_init_119 : decode cX9_init 119 = .ok (.aload_n 0, 1) := by decide +kernel
theorem dX9_init_120 : decode cX9_init 120 = .ok (.sipush 240, 3) := by decide +kernel
theorem dX9_init_123 : decode cX9_init 123 = .ok (.newarray .int, 2) := by decide +kernel
theorem dX9_init_125 : decode cX9_init 125 = .ok (.putfield 45, 3) := by decide +kernel
theorem dX9_init_128 : decode cX9_init 128 = .ok (.aload_n 0, 1) := by decide +kernel
theorem dX9_init_129 : decode cX9_init 129 = .ok (.sipush 720, 3) := by decide +kernel
theorem dX9_init_132 : decode cX9_init 132 = .ok (.newarray .int, 2) := by decide +kernel
theorem dX9_init_134 : decode cX9_init 134 = .ok (.putfield 48, 3) := by decide +kernel
theorem dX9_init_137 : decode cX9_init 137 = .ok (.aload_n 0, 1) := by decide +kernel
theorem dX9_init_138 : decode cX9_init 138 = .ok (.sipush 720, 3) := by decide +kernel
theorem dX9_init_141 : decode cX9_init 141 = .ok (.newarray .int, 2) := by decide +kernel
theorem dX9_init_143 : decode cX9_init 143 = .ok (.putfield 51, 3) := by decide +kernel
theorem dX9_init_146 : decode cX9_init 146 = .ok (.aload_n 0, 1) := by decide +kernel
theorem dX9_init_147 : decode cX9_init 147 = .ok (.bipush 60, 2) := by decide +kernel
theorem dX9_init_149 : decode cX9_init 149 = .ok (.newarray .int, 2) := by decide +kernel
theorem dX9_init_151 : decode cX9_init 151 = .ok (.putfield 54, 3) := by decide +kernel
theorem dX9_init_154 : decode cX9_init 154 = .ok (.aload_n 0, 1) := by decide +kernel
theorem dX9_init_155 : decode cX9_init 155 = .ok (.bipush 60, 2) := by decide +kernel
theorem dX9_init_157 : decode cX9_init 157 = .ok (.newarray .int, 2) := by decide +kernel
theorem dX9_init_159 : decode cX9_init 159 = .ok (.putfield 57, 3) := by decide +kernel
theorem dX9_init_162 : decode cX9_init 162 = .ok (.aload_n 0, 1) := by decide +kernel
theorem dX9_init_163 : decode cX9_init 163 = .ok (.bipush 60, 2) := by decide +kernel
theorem dX9_init_165 : decode cX9_init 165 = .ok (.newarray .int, 2) := by decide +kernel
theorem dX9_init_167 : decode cX9_init 167 = .ok (.putfield 60, 3) := by decide +kernel
theorem dX9_init_170 : decode cX9_init 170 = .ok (.aload_n 0, 1) := by decide +kernel
theorem dX9_init_171 : decode cX9_init 171 = .ok (.bipush 60, 2) := by decide +kernel
theorem dX9_init_173 : decode cX9_init 173 = .ok (.newarray .int, 2) := by decide +kernel
theorem dX9_init_175 : decode cX9_init 175 = .ok (.putfield 63, 3) := by decide +kernel
theorem dX9_init_178 : decode cX9_init 178 = .ok (.aload_n 0, 1) := by decide +kernel
theorem dX9_init_179 : decode cX9_init 179 = .ok (.bipush 60, 2) := by decide +kernel
theorem dX9_init_181 : decode cX9_init 181 = .ok (.newarray .int, 2) := by decide +kernel
theorem dX9_init_183 : decode cX9_init 183 = .ok (.putfield 66, 3) := by decide +kernel
theorem dX9_init_186 : decode cX9_init 186 = .ok (.aload_n 0, 1) := by decide +kernel
theorem dX9_init_187 : decode cX9_init 187 = .ok (.bipush 60, 2) := by decide +kernel
theorem dX9_init_189 : decode cX9_init 189 = .ok (.newarray .int, 2) := by decide +kernel
theorem dX9_init_191 : decode cX9_init 191 = .ok (.putfield 69, 3) := by decide +kernel
theorem dX9_init_194 : decode cX9_init 194 = .ok (.aload_n 0, 1) := by decide +kernel
theorem dX9_init_195 : decode cX9_init 195 = .ok (.bipush 60, 2) := by decide +kernel
theorem dX9_init_197 : decode cX9_init 197 = .ok (.newarray .int, 2) := by decide +kernel
theorem dX9_init_199 : decode cX9_init 199 = .ok (.putfield 72, 3) := by decide +kernel
theorem dX9_init_202 : decode cX9_init 202 = .ok (.aload_n 0, 1) := by decide +kernel
theorem dX9_init_203 : decode cX9_init 203 = .ok (.bipush 60, 2) := by decide +kernel
theorem dX9_init_205 : decode cX9_init 205 = .ok (.newarray .int, 2) := by decide +kernel
theorem dX9_init_207 : decode cX9_init 207 = .ok (.putfield 75, 3) := by decide +kernel
theorem dX9_init_210 : decode cX9_init 210 = .ok (.aload_n 0, 1) := by decide +kernel
theorem dX9_init_211 : decode cX9_init 211 = .ok (.bipush 60, 2) := by decide +kernel
theorem dX9_init_213 : decode cX9_init 213 = .ok (.newarray .int, 2) := by decide +kernel
theorem dX9_init_215 : decode cX9_init 215 = .ok (.putfield 78, 3) := by decide +kernel
theorem dX9_init_218 : decode cX9_init 218 = .ok (.aload_n 0, 1) := by decide +kernel
theorem dX9_init_219 : decode cX9_init 219 = .ok (.bipush 60, 2) := by decide +kernel
theorem dX9_init_221 : decode cX9_init 221 = .ok (.newarray .boolean, 2) := by decide +kernel
theorem dX9_init_223 : decode cX9_init 223 = .ok (.putfield 81, 3) := by decide +kernel
theorem dX9_init_226 : decode cX9_init 226 = .ok (.aload_n 0, 1) := by decide +kernel
theorem dX9_init_227 : decode cX9_init 227 = .ok (.bipush 60, 2) := by decide +kernel
theorem dX9_init_229 : decode cX9_init 229 = .ok (.newarray .boolean, 2) := by decide +kernel
theorem dX9_init_231 : decode cX9_init 231 = .ok (.putfield 84, 3) := by decide +kernel
theorem dX9_init_234 : decode cX9_init 234 = .ok (.aload_n 0, 1) := by decide +kernel
theorem dX9_init_235 : decode cX9_init 235 = .ok (.sipush 144, 3) := by decide +kernel
theorem dX9_init_238 : decode cX9_init 238 = .ok (.newarray .int, 2) := by decide +kernel
theorem dX9_init_240 : decode cX9_init 240 = .ok (.putfield 87, 3) := by decide +kernel
theorem dX9_init_243 : decode cX9_init 243 = .ok (.aload_n 0, 1) := by decide +kernel
theorem dX9_init_244 : decode cX9_init 244 = .ok (.sipush 144, 3) := by decide +kernel
theorem dX9_init_247 : decode cX9_init 247 = .ok (.newarray .int, 2) := by decide +kernel
theorem dX9_init_249 : decode cX9_init 249 = .ok (.putfield 90, 3) := by decide +kernel
theorem dX9_init_252 : decode cX9_init 252 = .ok (.aload_n 0, 1) := by decide +kernel
theorem dX9_init_253 : decode cX9_init 253 = .ok (.bipush 12, 2) := by decide +kernel
theorem dX9_init_255 : decode cX9_init 255 = .ok (.newarray .int, 2) := by decide +kernel
theorem dX9_init_257 : decode cX9_init 257 = .ok (.putfield 93, 3) := by decide +kernel
theorem dX9_init_260 : decode cX9_init 260 = .ok (.aload_n 0, 1) := by decide +kernel
theorem dX9_init_261 : decode cX9_init 261 = .ok (.bipush 12, 2) := by decide +kernel
theorem dX9_init_263 : decode cX9_init 263 = .ok (.newarray .int, 2) := by decide +kernel
theorem dX9_init_265 : decode cX9_init 265 = .ok (.putfield 96, 3) := by decide +kernel
theorem dX9_init_268 : decode cX9_init 268 = .ok (.aload_n 0, 1) := by decide +kernel
theorem dX9_init_269 : decode cX9_init 269 = .ok (.bipush 12, 2) := by decide +kernel
theorem dX9_init_271 : decode cX9_init 271 = .ok (.newarray .int, 2) := by decide +kernel
theorem dX9_init_273 : decode cX9_init 273 = .ok (.putfield 99, 3) := by decide +kernel
theorem dX9_init_276 : decode cX9_init 276 = .ok (.aload_n 0, 1) := by decide +kernel
theorem dX9_init_277 : decode cX9_init 277 = .ok (.bipush 12, 2) := by decide +kernel
theorem dX9_init_279 : decode cX9_init 279 = .ok (.newarray .int, 2) := by decide +kernel
theorem dX9_init_281 : decode cX9_init 281 = .ok (.putfield 102, 3) := by decide +kernel
theorem dX9_init_284 : decode cX9_init 284 = .ok (.aload_n 0, 1) := by decide +kernel
theorem dX9_init_285 : decode cX9_init 285 = .ok (.bipush 12, 2) := by decide +kernel
theorem dX9_init_287 : decode cX9_init 287 = .ok (.newarray .int, 2) := by decide +kernel
theorem dX9_init_289 : decode cX9_init 289 = .ok (.putfield 105, 3) := by decide +kernel
theorem dX9_init_292 : decode cX9_init 292 = .ok (.aload_n 0, 1) := by decide +kernel
theorem dX9_init_293 : decode cX9_init 293 = .ok (.bipush 12, 2) := by decide +kernel
theorem dX9_init_295 : decode cX9_init 295 = .ok (.newarray .int, 2) := by decide +kernel
theorem dX9_init_297 : decode cX9_init 297 = .ok (.putfield 108, 3) := by decide +kernel
theorem dX9_init_300 : decode cX9_init 300 = .ok (.return_, 1) := by decide +kernel
theorem dX9_throwsIf_0 : decode cX9_throwsIf 0 = .ok (.aload_n 0, 1) := by decide +kernel
theorem dX9_throwsIf_1 : decode cX9_throwsIf 1 = .ok (.iload_n 1, 1) := by decide +kernel
theorem dX9_throwsIf_2 : decode cX9_throwsIf 2 = .ok (.ifCond .eq 7, 3) := by decide +kernel
theorem dX9_throwsIf_5 : decode cX9_throwsIf 5 = .ok (.iconst 1, 1) := by decide +kernel
theorem dX9_throwsIf_6 : decode cX9_throwsIf 6 = .ok (.goto 4, 3) := by decide +kernel
theorem dX9_throwsIf_9 : decode cX9_throwsIf 9 = .ok (.iconst 0, 1) := by decide +kernel
theorem dX9_throwsIf_10 : decode cX9_throwsIf 10 = .ok (.putfield 111, 3) := by decide +kernel
theorem dX9_throwsIf_13 : decode cX9_throwsIf 13 = .ok (.iload_n 1, 1) := by decide +kernel
theorem dX9_throwsIf_14 : decode cX9_throwsIf 14 = .ok (.ireturn, 1) := by decide +kernel
set_option maxRecDepth 20000 in
theorem ggX9_feed_X9_four : GoodIn wsX9_feed wsX9_four := goodIn_ca (lq_goor _ [7, 8, 2] rfl (by decide +kernel)) (goodIn_sub (fun _ h => List.mem_cons_of_mem _ (List.mem_append_right _ h)) gw_wsX90)
set_option maxRecDepth 20000 in
theorem gX9_feed_X9_four : GoodIn wsX9_feed (wsV RX9 118 RX9 yX9_four wsX9_four) := goodIn_app (lq_goor _ [3, 4, 5, 6] rfl (by decide +kernel)) ggX9_feed_X9_four
theorem dX9_feed_0 : decode cX9_feed 0 = .ok (.aload_n 0, 1) := by decide +kernel
theorem dX9_feed_1 : decode cX9_feed 1 = .ok (.iconst 0, 1) := by decide +kernel
theorem dX9_feed_2 : decode cX9_feed 2 = .ok (.putfield 111, 3) := by decide +kernel
theorem dX9_feed_5 : decode cX9_feed 5 = .ok (.aload_n 0, 1) := by decide +kernel
theorem dX9_feed_6 : decode cX9_feed 6 = .ok (.getfield 115, 3) := by decide +kernel
theorem dX9_feed_9 : decode cX9_feed 9 = .ok (.bipush 20, 2) := by decide +kernel
theorem dX9_feed_11 : decode cX9_feed 11 = .ok (.iadd, 1) := by decide +kernel
theorem dX9_feed_12 : decode cX9_feed 12 = .ok (.sipush 200, 3) := by decide +kernel
theorem dX9_feed_15 : decode cX9_feed 15 = .ok (.if_icmp .le 5, 3) := by decide +kernel
theorem dX9_feed_18 : decode cX9_feed 18 = .ok (.iconst (-1), 1) := by decide +kernel
theorem dX9_feed_19 : decode cX9_feed 19 = .ok (.ireturn, 1) := by decide +kernel
theorem dX9_feed_20 : decode cX9_feed 20 = .ok (.aload_n 0, 1) := by decide +kernel
theorem dX9_feed_21 : decode cX9_feed 21 = .ok (.iload_n 1, 1) := by decide +kernel
theorem dX9_feed_22 : decode cX9_feed 22 = .ok (.invokevirtual 118, 3) := by decide +kernel
theorem dX9_feed_25 : decode cX9_feed 25 = .ok (.aload_n 0, 1) := by decide +kernel
theorem dX9_feed_26 : decode cX9_feed 26 = .ok (.iload_n 2, 1) := by decide +kernel
theorem dX9_feed_27 : decode cX9_feed 27 = .ok (.invokevirtual 118, 3) := by decide +kernel
theorem dX9_feed_30 : decode cX9_feed 30 = .ok (.aload_n 0, 1) := by decide +kernel
theorem dX9_feed_31 : decode cX9_feed 31 = .ok (.iload_n 3, 1) := by decide +kernel
theorem dX9_feed_32 : decode cX9_feed 32 = .ok (.invokevirtual 118, 3) := by decide +kernel
theorem dX9_feed_35 : decode cX9_feed 35 = .ok (.aload_n 0, 1) := by decide +kernel
theorem dX9_feed_36 : decode cX9_feed 36 = .ok (.iload 4, 2) := by decide +kernel
theorem dX9_feed_38 : decode cX9_feed 38 = .ok (.invokevirtual 118, 3) := by decide +kernel
theorem dX9_feed_41 : decode cX9_feed 41 = .ok (.aload_n 0, 1) := by decide +kernel
theorem dX9_feed_42 : decode cX9_feed 42 = .ok (.iload 5, 2) := by decide +kernel
theorem dX9_feed_44 : decode cX9_feed 44 = .ok (.invokevirtual 118, 3) := by decide +kernel
theorem dX9_feed_47 : decode cX9_feed 47 = .ok (.aload_n 0, 1) := by decide +kernel
theorem dX9_feed_48 : decode cX9_feed 48 = .ok (.getfield 115, 3) := by decide +kernel
theorem dX9_feed_51 : decode cX9_feed 51 = .ok (.ireturn, 1) := by decide +kernel
theorem dX9_four_0 : decode cX9_four 0 = .ok (.bipush 24, 2) := by decide +kernel
theorem dX9_four_2 : decode cX9_four 2 = .ok (.istore_n 2, 1) := by decide +kernel
theorem dX9_four_3 : decode cX9_four 3 = .ok (.iload_n 2, 1) := by decide +kernel
theorem dX9_four_4 : decode cX9_four 4 = .ok (.ifCond .lt 32, 3) := by decide +kernel
theorem dX9_four_7 : decode cX9_four 7 = .ok (.aload_n 0, 1) := by decide +kernel
theorem dX9_four_8 : decode cX9_four 8 = .ok (.getfield 7, 3) := by decide +kernel
theorem dX9_four_11 : decode cX9_four 11 = .ok (.aload_n 0, 1) := by decide +kernel
theorem dX9_four_12 : decode cX9_four 12 = .ok (.getfield 115, 3) := by decide +kernel
theorem dX9_four_15 : decode cX9_four 15 = .ok (.iload_n 1, 1) := by decide +kernel
theorem dX9_four_16 : decode cX9_four 16 = .ok (.iload_n 2, 1) := by decide +kernel
theorem dX9_four_17 : decode cX9_four 17 = .ok (.ishr, 1) := by decide +kernel
theorem dX9_four_18 : decode cX9_four 18 = .ok (.i2b, 1) := by decide +kernel
theorem dX9_four_19 : decode cX9_four 19 = .ok (.bastore, 1) := by decide +kernel
theorem dX9_four_20 : decode cX9_four 20 = .ok (.aload_n 0, 1) := by decide +kernel
theorem dX9_four_21 : decode cX9_four 21 = .ok (.dup, 1) := by decide +kernel
theorem dX9_four_22 : decode cX9_four 22 = .ok (.getfield 115, 3) := by decide +kernel
theorem dX9_four_25 : decode cX9_four 25 = .ok (.iconst 1, 1) := by decide +kernel
theorem dX9_four_26 : decode cX9_four 26 = .ok (.iadd, 1) := by decide +kernel
theorem dX9_four_27 : decode cX9_four 27 = .ok (.putfield 115, 3) := by decide +kernel
theorem dX9_four_30 : decode cX9_four 30 = .ok (.iinc 2 (-8), 3) := by decide +kernel
theorem dX9_four_33 : decode cX9_four 33 = .ok (.goto (-30), 3) := by decide +kernel
theorem dX9_four_36 : decode cX9_four 36 = .ok (.return_, 1) := by decide +kernel
theorem dX9_end_0 : decode cX9_end 0 = .ok (.aload_n 0, 1) := by decide +kernel
theorem dX9_end_1 : decode cX9_end 1 = .ok (.iconst 0, 1) := by decide +kernel
theorem dX9_end_2 : decode cX9_end 2 = .ok (.putfield 111, 3) := by decide +kernel
theorem dX9_end_5 : decode cX9_end 5 = .ok (.iload_n 1, 1) := by decide +kernel
theorem dX9_end_6 : decode cX9_end 6 = .ok (.ifCond .lt 11, 3) := by decide +kernel
theorem dX9_end_9 : decode cX9_end 9 = .ok (.iload_n 1, 1) := by decide +kernel
theorem dX9_end_10 : decode cX9_end 10 = .ok (.aload_n 0, 1) := by decide +kernel
theorem dX9_end_11 : decode cX9_end 11 = .ok (.getfield 115, 3) := by decide +kernel
theorem dX9_end_14 : decode cX9_end 14 = .ok (.if_icmp .le 5, 3) := by decide +kernel
theorem dX9_end_17 : decode cX9_end 17 = .ok (.iconst 0, 1) := by decide +kernel
theorem dX9_end_18 : decode cX9_end 18 = .ok (.ireturn, 1) := by decide +kernel
theorem dX9_end_19 : decode cX9_end 19 = .ok (.aload_n 0, 1) := by decide +kernel
theorem dX9_end_20 : decode cX9_end 20 = .ok (.iload_n 1, 1) := by decide +kernel
theorem dX9_end_21 : decode cX9_end 21 = .ok (.putfield 115, 3) := by decide +kernel
theorem dX9_end_24 : decode cX9_end 24 = .ok (.iconst 1, 1) := by decide +kernel
theorem dX9_end_25 : decode cX9_end 25 = .ok (.ireturn, 1) := by decide +kernel
theorem dX9_taken_0 : decode cX9_taken 0 = .ok (.aload_n 0, 1) := by decide +kernel
theorem dX9_taken_1 : decode cX9_taken 1 = .ok (.aload_n 0, 1) := by decide +kernel
theorem dX9_taken_2 : decode cX9_taken 2 = .ok (.getfield 115, 3) := by decide +kernel
theorem dX9_taken_5 : decode cX9_taken 5 = .ok (.putfield 122, 3) := by decide +kernel
theorem dX9_taken_8 : decode cX9_taken 8 = .ok (.aload_n 0, 1) := by decide +kernel
theorem dX9_taken_9 : decode cX9_taken 9 = .ok (.iconst 0, 1) := by decide +kernel
theorem dX9_taken_10 : decode cX9_taken 10 = .ok (.putfield 115, 3) := by decide +kernel
theorem dX9_taken_13 : decode cX9_taken 13 = .ok (.aload_n 0, 1) := by decide +kernel
theorem dX9_taken_14 : decode cX9_taken 14 = .ok (.iconst 0, 1) := by decide +kernel
theorem dX9_taken_15 : decode cX9_taken 15 = .ok (.putfield 125, 3) := by decide +kernel
theorem dX9_taken_18 : decode cX9_taken 18 = .ok (.return_, 1) := by decide +kernel
theorem dX9_peek_0 : decode cX9_peek 0 = .ok (.aload_n 0, 1) := by decide +kernel
theorem dX9_peek_1 : decode cX9_peek 1 = .ok (.getfield 125, 3) := by decide +kernel
theorem dX9_peek_4 : decode cX9_peek 4 = .ok (.aload_n 0, 1) := by decide +kernel
theorem dX9_peek_5 : decode cX9_peek 5 = .ok (.getfield 122, 3) := by decide +kernel
theorem dX9_peek_8 : decode cX9_peek 8 = .ok (.if_icmp .ge 19, 3) := by decide +kernel
theorem dX9_peek_11 : decode cX9_peek 11 = .ok (.aload_n 0, 1) := by decide +kernel
