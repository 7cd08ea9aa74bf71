theorem dX8_known_7 : decode cX8_known 7 = .ok (.ifnonnull 7, 3) := by decide +kernel
theorem dX8_known_10 : decode cX8_known 10 = .ok (.iconst (-1), 1) := by decide +kernel
theorem dX8_known_11 : decode cX8_known 11 = .ok (.goto 8, 3) := by decide +kernel
theorem dX8_known_14 : decode cX8_known 14 = .ok (.aload_n 3, 1) := by decide +kernel
theorem dX8_known_15 : decode cX8_known 15 = .ok (.iload_n 2, 1) := by decide +kernel
theorem dX8_known_16 : decode cX8_known 16 = .ok (.invokevirtual 221, 3) := by decide +kernel
theorem dX8_known_19 : decode cX8_known 19 = .ok (.ireturn, 1) := by decide +kernel
set_option maxRecDepth 20000 in
theorem ggX8_hours_X3_leastTime : GoodIn wsX8_hours wsX3_leastTime := goodIn_ca (lq_goor _ [6, 7, 8, 9, 10, 11, 12, 13, 14, 5, 15, 16, 17, 18, 19, 20, 21, 22, 23, 24, 25, 26, 27, 28, 29, 30] rfl (by decide +kernel)) (goodIn_sub (fun _ h => List.mem_cons_of_mem _ (List.mem_append_right _ h)) gw_wsX30)
set_option maxRecDepth 20000 in
theorem gX8_hours_X3_leastTime : GoodIn wsX8_hours (wsV RX8 224 RX3 yX3_leastTime wsX3_leastTime) := goodIn_app (lq_goor _ [2, 3, 4, 5] rfl (by decide +kernel)) ggX8_hours_X3_leastTime
theorem dX8_hours_0 : decode cX8_hours 0 = .ok (.aload_n 0, 1) := by decide +kernel
theorem dX8_hours_1 : decode cX8_hours 1 = .ok (.getfield 19, 3) := by decide +kernel
theorem dX8_hours_4 : decode cX8_hours 4 = .ok (.iload_n 1, 1) := by decide +kernel
theorem dX8_hours_5 : decode cX8_hours 5 = .ok (.iload_n 2, 1) := by decide +kernel
theorem dX8_hours_6 : decode cX8_hours 6 = .ok (.invokevirtual 224, 3) := by decide +kernel
theorem dX8_hours_9 : decode cX8_hours 9 = .ok (.ireturn, 1) := by decide +kernel
set_option maxRecDepth 20000 in
theorem ggX8_leading_X7_byteAt : GoodIn wsX8_leading wsX7_byteAt := goodIn_ca (lq_goor _ [8, 9, 10] rfl (by decide +kernel)) (goodIn_sub (fun _ h => List.mem_cons_of_mem _ (List.mem_append_left _ (List.mem_append_left _ (List.mem_append_left _ (List.mem_append_right _ h))))) gw_wsX70)
set_option maxRecDepth 20000 in
theorem gX8_leading_X7_byteAt : GoodIn wsX8_leading (wsV RX8 227 RX7 yX7_byteAt wsX7_byteAt) := goodIn_app (lq_goor _ [4, 5, 6, 7] rfl (by decide +kernel)) ggX8_leading_X7_byteAt
set_option maxRecDepth 20000 in
theorem ggX8_leading_X8_horsesAt : GoodIn wsX8_leading wsX8_horsesAt := goodIn_ca (goodIn_ca (lq_goor _ [15, 16] rfl (by decide +kernel)) (goodIn_sub (fun _ h => List.mem_cons_of_mem _ (List.mem_append_left _ (List.mem_append_left _ (List.mem_append_left _ (List.mem_append_left _ (List.mem_append_right _ h)))))) gw_wsX80)) (goodIn_sub (fun _ h => List.mem_cons_of_mem _ (List.mem_append_left _ (List.mem_append_left _ (List.mem_append_right _ h)))) gw_wsX00)
set_option maxRecDepth 20000 in
theorem gX8_leading_X8_horsesAt : GoodIn wsX8_leading (wsV RX8 212 RX8 yX8_horsesAt wsX8_horsesAt) := goodIn_app (lq_goor _ [11, 12, 13, 14] rfl (by decide +kernel)) ggX8_leading_X8_horsesAt
set_option maxRecDepth 20000 in
theorem ggX8_leading_X1_setSpare : GoodIn wsX8_leading wsX1_setSpare := goodIn_ca (lq_goor _ [21, 22, 23, 14, 24] rfl (by decide +kernel)) (goodIn_sub (fun _ h => List.mem_cons_of_mem _ (List.mem_append_left _ (List.mem_append_right _ h))) gw_wsX10)
set_option maxRecDepth 20000 in
theorem gX8_leading_X1_setSpare : GoodIn wsX8_leading (wsV RX8 230 RX1 yX1_setSpare wsX1_setSpare) := goodIn_app (lq_goor _ [17, 18, 19, 20] rfl (by decide +kernel)) ggX8_leading_X1_setSpare
set_option maxRecDepth 20000 in
theorem ggX8_leading_X1_leastPains : GoodIn wsX8_leading wsX1_leastPains := goodIn_ca (goodIn_ca (lq_goor _ [28, 29, 30, 31, 32, 33, 34, 35, 36, 37, 20, 38, 22, 39, 40, 41, 42, 43, 44, 45, 46, 47, 48, 23, 14, 24, 49, 50, 51, 52, 53, 54, 55, 56, 57, 58, 59, 60, 61, 62, 63, 64, 65, 66, 67, 68, 69, 70, 71, 72, 73, 74, 75] rfl (by decide +kernel)) (goodIn_sub (fun _ h => List.mem_cons_of_mem _ (List.mem_append_left _ (List.mem_append_right _ h))) gw_wsX10)) (goodIn_sub (fun _ h => List.mem_cons_of_mem _ (List.mem_append_right _ h)) gw_wsX30)
set_option maxRecDepth 20000 in
theorem gX8_leading_X1_leastPains : GoodIn wsX8_leading (wsV RX8 234 RX1 yX1_leastPains wsX1_leastPains) := goodIn_app (lq_goor _ [25, 26, 27, 20] rfl (by decide +kernel)) ggX8_leading_X1_leastPains
theorem dX8_leading_0 : decode cX8_leading 0 = .ok (.aload_n 0, 1) := by decide +kernel
theorem dX8_leading_1 : decode cX8_leading 1 = .ok (.getfield 10, 3) := by decide +kernel
theorem dX8_leading_4 : decode cX8_leading 4 = .ok (.getfield 70, 3) := by decide +kernel
theorem dX8_leading_7 : decode cX8_leading 7 = .ok (.bipush 12, 2) := by decide +kernel
theorem dX8_leading_9 : decode cX8_leading 9 = .ok (.if_icmp .ne 7, 3) := by decide +kernel
theorem dX8_leading_12 : decode cX8_leading 12 = .ok (.iconst 1, 1) := by decide +kernel
theorem dX8_leading_13 : decode cX8_leading 13 = .ok (.goto 4, 3) := by decide +kernel
theorem dX8_leading_16 : decode cX8_leading 16 = .ok (.iconst 0, 1) := by decide +kernel
theorem dX8_leading_17 : decode cX8_leading 17 = .ok (.istore_n 1, 1) := by decide +kernel
theorem dX8_leading_18 : decode cX8_leading 18 = .ok (.iconst 0, 1) := by decide +kernel
theorem dX8_leading_19 : decode cX8_leading 19 = .ok (.istore_n 2, 1) := by decide +kernel
theorem dX8_leading_20 : decode cX8_leading 20 = .ok (.iload_n 2, 1) := by decide +kernel
theorem dX8_leading_21 : decode cX8_leading 21 = .ok (.bipush 12, 2) := by decide +kernel
theorem dX8_leading_23 : decode cX8_leading 23 = .ok (.if_icmp .ge 49, 3) := by decide +kernel
theorem dX8_leading_26 : decode cX8_leading 26 = .ok (.iload_n 1, 1) := by decide +kernel
theorem dX8_leading_27 : decode cX8_leading 27 = .ok (.ifCond .eq 45, 3) := by decide +kernel
theorem dX8_leading_30 : decode cX8_leading 30 = .ok (.aload_n 0, 1) := by decide +kernel
theorem dX8_leading_31 : decode cX8_leading 31 = .ok (.getfield 10, 3) := by decide +kernel
theorem dX8_leading_34 : decode cX8_leading 34 = .ok (.iload_n 2, 1) := by decide +kernel
theorem dX8_leading_35 : decode cX8_leading 35 = .ok (.invokevirtual 227, 3) := by decide +kernel
theorem dX8_leading_38 : decode cX8_leading 38 = .ok (.istore_n 3, 1) := by decide +kernel
theorem dX8_leading_39 : decode cX8_leading 39 = .ok (.iload_n 3, 1) := by decide +kernel
theorem dX8_leading_40 : decode cX8_leading 40 = .ok (.bipush 60, 2) := by decide +kernel
theorem dX8_leading_42 : decode cX8_leading 42 = .ok (.if_icmp .gt 7, 3) := by decide +kernel
theorem dX8_leading_45 : decode cX8_leading 45 = .ok (.iconst 1, 1) := by decide +kernel
theorem dX8_leading_46 : decode cX8_leading 46 = .ok (.goto 4, 3) := by decide +kernel
theorem dX8_leading_49 : decode cX8_leading 49 = .ok (.iconst 0, 1) := by decide +kernel
theorem dX8_leading_50 : decode cX8_leading 50 = .ok (.istore_n 1, 1) := by decide +kernel
theorem dX8_leading_51 : decode cX8_leading 51 = .ok (.aload_n 0, 1) := by decide +kernel
theorem dX8_leading_52 : decode cX8_leading 52 = .ok (.getfield 26, 3) := by decide +kernel
theorem dX8_leading_55 : decode cX8_leading 55 = .ok (.iload_n 2, 1) := by decide +kernel
theorem dX8_leading_56 : decode cX8_leading 56 = .ok (.aload_n 0, 1) := by decide +kernel
theorem dX8_leading_57 : decode cX8_leading 57 = .ok (.iload_n 2, 1) := by decide +kernel
theorem dX8_leading_58 : decode cX8_leading 58 = .ok (.invokevirtual 212, 3) := by decide +kernel
theorem dX8_leading_61 : decode cX8_leading 61 = .ok (.iload_n 3, 1) := by decide +kernel
theorem dX8_leading_62 : decode cX8_leading 62 = .ok (.isub, 1) := by decide +kernel
theorem dX8_leading_63 : decode cX8_leading 63 = .ok (.invokevirtual 230, 3) := by decide +kernel
theorem dX8_leading_66 : decode cX8_leading 66 = .ok (.iinc 2 1, 3) := by decide +kernel
theorem dX8_leading_69 : decode cX8_leading 69 = .ok (.goto (-49), 3) := by decide +kernel
theorem dX8_leading_72 : decode cX8_leading 72 = .ok (.aload_n 0, 1) := by decide +kernel
theorem dX8_leading_73 : decode cX8_leading 73 = .ok (.getfield 10, 3) := by decide +kernel
theorem dX8_leading_76 : decode cX8_leading 76 = .ok (.iconst 0, 1) := by decide +kernel
theorem dX8_leading_77 : decode cX8_leading 77 = .ok (.putfield 70, 3) := by decide +kernel
theorem dX8_leading_80 : decode cX8_leading 80 = .ok (.iload_n 1, 1) := by decide +kernel
theorem dX8_leading_81 : decode cX8_leading 81 = .ok (.ifCond .eq 17, 3) := by decide +kernel
theorem dX8_leading_84 : decode cX8_leading 84 = .ok (.aload_n 0, 1) := by decide +kernel
theorem dX8_leading_85 : decode cX8_leading 85 = .ok (.getfield 26, 3) := by decide +kernel
theorem dX8_leading_88 : decode cX8_leading 88 = .ok (.aload_n 0, 1) := by decide +kernel
theorem dX8_leading_89 : decode cX8_leading 89 = .ok (.getfield 19, 3) := by decide +kernel
theorem dX8_leading_92 : decode cX8_leading 92 = .ok (.invokevirtual 234, 3) := by decide +kernel
theorem dX8_leading_95 : decode cX8_leading 95 = .ok (.goto 4, 3) := by decide +kernel
theorem dX8_leading_98 : decode cX8_leading 98 = .ok (.iconst (-1), 1) := by decide +kernel
theorem dX8_leading_99 : decode cX8_leading 99 = .ok (.ireturn, 1) := by decide +kernel
set_option maxRecDepth 20000 in
theorem ggX8_count_X8_ridersUnderWay : GoodIn wsX8_count wsX8_ridersUnderWay := goodIn_ca (goodIn_ca (lq_goor _ [10, 11, 12, 13, 14, 15, 16, 17] rfl (by decide +kernel)) (goodIn_sub (fun _ h => List.mem_cons_of_mem _ (List.mem_append_left _ (List.mem_append_left _ (List.mem_append_right _ h)))) gw_wsX80)) (goodIn_sub (fun _ h => List.mem_cons_of_mem _ (List.mem_append_right _ h)) gw_wsX20)
set_option maxRecDepth 20000 in
theorem gX8_count_X8_ridersUnderWay : GoodIn wsX8_count (wsV RX8 238 RX8 yX8_ridersUnderWay wsX8_ridersUnderWay) := goodIn_app (lq_goor _ [6, 7, 8, 9] rfl (by decide +kernel)) ggX8_count_X8_ridersUnderWay
theorem dX8_count_0 : decode cX8_count 0 = .ok (.iload_n 1, 1) := by decide +kernel
theorem dX8_count_1 : decode cX8_count 1 = .ok (.tableswitch 72 0 5 #[39, 44, 49, 54, 59, 64], 39) := by decide +kernel
theorem dX8_count_40 : decode cX8_count 40 = .ok (.aload_n 0, 1) := by decide +kernel
theorem dX8_count_41 : decode cX8_count 41 = .ok (.getfield 140, 3) := by decide +kernel
theorem dX8_count_44 : decode cX8_count 44 = .ok (.ireturn, 1) := by decide +kernel
theorem dX8_count_45 : decode cX8_count 45 = .ok (.aload_n 0, 1) := by decide +kernel
theorem dX8_count_46 : decode cX8_count 46 = .ok (.getfield 110, 3) := by decide +kernel
theorem dX8_count_49 : decode cX8_count 49 = .ok (.ireturn, 1) := by decide +kernel
theorem dX8_count_50 : decode cX8_count 50 = .ok (.aload_n 0, 1) := by decide +kernel
theorem dX8_count_51 : decode cX8_count 51 = .ok (.getfield 115, 3) := by decide +kernel
theorem dX8_count_54 : decode cX8_count 54 = .ok (.ireturn, 1) := by decide +kernel
theorem dX8_count_55 : decode cX8_count 55 = .ok (.aload_n 0, 1) := by decide +kernel
theorem dX8_count_56 : decode cX8_count 56 = .ok (.getfield 124, 3) := by decide +kernel
theorem dX8_count_59 : decode cX8_count 59 = .ok (.ireturn, 1) := by decide +kernel
theorem dX8_count_60 : decode cX8_count 60 = .ok (.aload_n 0, 1) := by decide +kernel
theorem dX8_count_61 : decode cX8_count 61 = .ok (.invokevirtual 238, 3) := by decide +kernel
theorem dX8_count_64 : decode cX8_count 64 = .ok (.ireturn, 1) := by decide +kernel
theorem dX8_count_65 : decode cX8_count 65 = .ok (.aload_n 0, 1) := by decide +kernel
theorem dX8_count_66 : decode cX8_count 66 = .ok (.getfield 10, 3) := by decide +kernel
theorem dX8_count_69 : decode cX8_count 69 = .ok (.getfield 70, 3) := by decide +kernel
theorem dX8_count_72 : decode cX8_count 72 = .ok (.ireturn, 1) := by decide +kernel
theorem dX8_count_73 : decode cX8_count 73 = .ok (.iconst (-1), 1) := by decide +kernel
theorem dX8_count_74 : decode cX8_count 74 = .ok (.ireturn, 1) := by decide +kernel
theorem dX8_isStation_0 : decode cX8_isStation 0 = .ok (.iload_n 0, 1) := by decide +kernel
theorem dX8_isStation_1 : decode cX8_isStation 1 = .ok (.ifCond .lt 13, 3) := by decide +kernel
theorem dX8_isStation_4 : decode cX8_isStation 4 = .ok (.iload_n 0, 1) := by decide +kernel
theorem dX8_isStation_5 : decode cX8_isStation 5 = .ok (.bipush 12, 2) := by decide +kernel
theorem dX8_isStation_7 : decode cX8_isStation 7 = .ok (.if_icmp .ge 7, 3) := by decide +kernel
theorem dX8_isStation_10 : decode cX8_isStation 10 = .ok (.iconst 1, 1) := by decide +kernel
theorem dX8_isStation_11 : decode cX8_isStation 11 = .ok (.goto 4, 3) := by decide +kernel
theorem dX8_isStation_14 : decode cX8_isStation 14 = .ok (.iconst 0, 1) := by decide +kernel
theorem dX8_isStation_15 : decode cX8_isStation 15 = .ok (.ireturn, 1) := by decide +kernel
theorem dX8_horseOf_0 : decode cX8_horseOf 0 = .ok (.iload_n 1, 1) := by decide +kernel
theorem dX8_horseOf_1 : decode cX8_horseOf 1 = .ok (.ifCond .lt 18, 3) := by decide +kernel
theorem dX8_horseOf_4 : decode cX8_horseOf 4 = .ok (.iload_n 1, 1) := by decide +kernel
theorem dX8_horseOf_5 : decode cX8_horseOf 5 = .ok (.bipush 60, 2) := by decide +kernel
theorem dX8_horseOf_7 : decode cX8_horseOf 7 = .ok (.if_icmp .ge 12, 3) := by decide +kernel
theorem dX8_horseOf_10 : decode cX8_horseOf 10 = .ok (.aload_n 0, 1) := by decide +kernel
theorem dX8_horseOf_11 : decode cX8_horseOf 11 = .ok (.getfield 36, 3) := by decide +kernel
theorem dX8_horseOf_14 : decode cX8_horseOf 14 = .ok (.iload_n 1, 1) := by decide +kernel
theorem dX8_horseOf_15 : decode cX8_horseOf 15 = .ok (.aaload, 1) := by decide +kernel
theorem dX8_horseOf_16 : decode cX8_horseOf 16 = .ok (.goto 4, 3) := by decide +kernel
theorem dX8_horseOf_19 : decode cX8_horseOf 19 = .ok (.aconst_null, 1) := by decide +kernel
theorem dX8_horseOf_20 : decode cX8_horseOf 20 = .ok (.areturn, 1) := by decide +kernel
theorem dX8_tabletOf_0 : decode cX8_tabletOf 0 = .ok (.iload_n 1, 1) := by decide +kernel
theorem dX8_tabletOf_1 : decode cX8_tabletOf 1 = .ok (.ifCond .lt 18, 3) := by decide +kernel
theorem dX8_tabletOf_4 : decode cX8_tabletOf 4 = .ok (.iload_n 1, 1) := by decide +kernel
theorem dX8_tabletOf_5 : decode cX8_tabletOf 5 = .ok (.bipush 20, 2) := by decide +kernel
theorem dX8_tabletOf_7 : decode cX8_tabletOf 7 = .ok (.if_icmp .ge 12, 3) := by decide +kernel
theorem dX8_tabletOf_10 : decode cX8_tabletOf 10 = .ok (.aload_n 0, 1) := by decide +kernel
theorem dX8_tabletOf_11 : decode cX8_tabletOf 11 = .ok (.getfield 42, 3) := by decide +kernel
theorem dX8_tabletOf_14 : decode cX8_tabletOf 14 = .ok (.iload_n 1, 1) := by decide +kernel
theorem dX8_tabletOf_15 : decode cX8_tabletOf 15 = .ok (.aaload, 1) := by decide +kernel
theorem dX8_tabletOf_16 : decode cX8_tabletOf 16 = .ok (.goto 4, 3) := by decide +kernel
theorem dX8_tabletOf_19 : decode cX8_tabletOf 19 = .ok (.aconst_null, 1) := by decide +kernel
theorem dX8_tabletOf_20 : decode cX8_tabletOf 20 = .ok (.areturn, 1) := by decide +kernel
theorem dX8_riderOf_0 : decode cX8_riderOf 0 = .ok (.iload_n 1, 1) := by decide +kernel
theorem dX8_riderOf_1 : decode cX8_riderOf 1 = .ok (.ifCond .lt 18, 3) := by decide +kernel
theorem dX8_riderOf_4 : decode cX8_riderOf 4 = .ok (.iload_n 1, 1) := by decide +kernel
theorem dX8_riderOf_5 : decode cX8_riderOf 5 = .ok (.bipush 60, 2) := by decide +kernel
theorem dX8_riderOf_7 : decode cX8_riderOf 7 = .ok (.if_icmp .ge 12, 3) := by decide +kernel
theorem dX8_riderOf_10 : decode cX8_riderOf 10 = .ok (.aload_n 0, 1) := by decide +kernel
theorem dX8_riderOf_11 : decode cX8_riderOf 11 = .ok (.getfield 48, 3) := by decide +kernel
theorem dX8_riderOf_14 : decode cX8_riderOf 14 = .ok (.iload_n 1, 1) := by decide +kernel
theorem dX8_riderOf_15 : decode cX8_riderOf 15 = .ok (.aaload, 1) := by decide +kernel
theorem dX8_riderOf_16 : decode cX8_riderOf 16 = .ok (.goto 4, 3) := by decide +kernel
theorem dX8_riderOf_19 : decode cX8_riderOf 19 = .ok (.aconst_null, 1) := by decide +kernel
theorem dX8_riderOf_20 : decode cX8_riderOf 20 = .ok (.areturn, 1) := by decide +kernel
set_option maxRecDepth 20000 in
theorem ggX8_isHad_X2_isUnderWay : GoodIn wsX8_isHad wsX2_isUnderWay := goodIn_ca (lq_goor _ [6, 7] rfl (by decide +kernel)) (goodIn_sub (fun _ h => List.mem_cons_of_mem _ (List.mem_append_right _ h)) gw_wsX20)
set_option maxRecDepth 20000 in
theorem gX8_isHad_X2_isUnderWay : GoodIn wsX8_isHad (wsV RX8 154 RX2 yX2_isUnderWay wsX2_isUnderWay) := goodIn_app (lq_goor _ [2, 3, 4, 5] rfl (by decide +kernel)) ggX8_isHad_X2_isUnderWay
theorem dX8_isHad_0 : decode cX8_isHad 0 = .ok (.aload_n 0, 1) := by decide +kernel
theorem dX8_isHad_1 : decode cX8_isHad 1 = .ok (.getfield 48, 3) := by decide +kernel
theorem dX8_isHad_4 : decode cX8_isHad 4 = .ok (.astore_n 2, 1) := by decide +kernel
theorem dX8_isHad_5 : decode cX8_isHad 5 = .ok (.aload_n 2, 1) := by decide +kernel
theorem dX8_isHad_6 : decode cX8_isHad 6 = .ok (.arraylength, 1) := by decide +kernel
theorem dX8_isHad_7 : decode cX8_isHad 7 = .ok (.istore_n 3, 1) := by decide +kernel
theorem dX8_isHad_8 : decode cX8_isHad 8 = .ok (.iconst 0, 1) := by decide +kernel
theorem dX8_isHad_9 : decode cX8_isHad 9 = .ok (.istore 4, 2) := by decide +kernel
theorem dX8_isHad_11 : decode cX8_isHad 11 = .ok (.iload 4, 2) := by decide +kernel
theorem dX8_isHad_13 : decode cX8_isHad 13 = .ok (.iload_n 3, 1) := by decide +kernel
theorem dX8_isHad_14 : decode cX8_isHad 14 = .ok (.if_icmp .ge 39, 3) := by decide +kernel
theorem dX8_isHad_17 : decode cX8_isHad 17 = .ok (.aload_n 2, 1) := by decide +kernel
theorem dX8_isHad_18 : decode cX8_isHad 18 = .ok (.iload 4, 2) := by decide +kernel
theorem dX8_isHad_20 : decode cX8_isHad 20 = .ok (.aaload, 1) := by decide +kernel
theorem dX8_isHad_21 : decode cX8_isHad 21 = .ok (.astore 5, 2) := by decide +kernel
theorem dX8_isHad_23 : decode cX8_isHad 23 = .ok (.aload 5, 2) := by decide +kernel
theorem dX8_isHad_25 : decode cX8_isHad 25 = .ok (.ifnull 22, 3) := by decide +kernel
theorem dX8_isHad_28 : decode cX8_isHad 28 = .ok (.aload 5, 2) := by decide +kernel
theorem dX8_isHad_30 : decode cX8_isHad 30 = .ok (.getfield 193, 3) := by decide +kernel
theorem dX8_isHad_33 : decode cX8_isHad 33 = .ok (.iload_n 1, 1) := by decide +kernel
theorem dX8_isHad_34 : decode cX8_isHad 34 = .ok (.if_icmp .ne 13, 3) := by decide +kernel
theorem dX8_isHad_37 : decode cX8_isHad 37 = .ok (.aload 5, 2) := by decide +kernel
theorem dX8_isHad_39 : decode cX8_isHad 39 = .ok (.invokevirtual 154, 3) := by decide +kernel
theorem dX8_isHad_42 : decode cX8_isHad 42 = .ok (.ifCond .eq 5, 3) := by decide +kernel
theorem dX8_isHad_45 : decode cX8_isHad 45 = .ok (.iconst 1, 1) := by decide +kernel
theorem dX8_isHad_46 : decode cX8_isHad 46 = .ok (.ireturn, 1) := by decide +kernel
theorem dX8_isHad_47 : decode cX8_isHad 47 = .ok (.iinc 4 1, 3) := by decide +kernel
theorem dX8_isHad_50 : decode cX8_isHad 50 = .ok (.goto (-39), 3) := by decide +kernel
theorem dX8_isHad_53 : decode cX8_isHad 53 = .ok (.iconst 0, 1) := by decide +kernel
theorem dX8_isHad_54 : decode cX8_isHad 54 = .ok (.ireturn, 1) := by decide +kernel
set_option maxRecDepth 20000 in
theorem ggX8_ridersUnderWay_X2_isUnderWay : GoodIn wsX8_ridersUnderWay wsX2_isUnderWay := goodIn_ca (lq_goor _ [6, 7] rfl (by decide +kernel)) (goodIn_sub (fun _ h => List.mem_cons_of_mem _ (List.mem_append_right _ h)) gw_wsX20)
set_option maxRecDepth 20000 in
theorem gX8_ridersUnderWay_X2_isUnderWay : GoodIn wsX8_ridersUnderWay (wsV RX8 154 RX2 yX2_isUnderWay wsX2_isUnderWay) := goodIn_app (lq_goor _ [2, 3, 4, 5] rfl (by decide +kernel)) ggX8_ridersUnderWay_X2_isUnderWay
theorem dX8_ridersUnderWay_0 : decode cX8_ridersUnderWay 0 = .ok (.iconst 0, 1) := by decide +kernel
theorem dX8_ridersUnderWay_1 : decode cX8_ridersUnderWay 1 = .ok (.istore_n 1, 1) := by decide +kernel
theorem dX8_ridersUnderWay_2 : decode cX8_ridersUnderWay 2 = .ok (.aload_n 0, 1) := by decide +kernel
theorem dX8_ridersUnderWay_3 : decode cX8_ridersUnderWay 3 = .ok (.getfield 48, 3) := by decide +kernel
theorem dX8_ridersUnderWay_6 : decode cX8_ridersUnderWay 6 = .ok (.astore_n 2, 1) := by decide +kernel
theorem dX8_ridersUnderWay_7 : decode cX8_ridersUnderWay 7 = .ok (.aload_n 2, 1) := by decide +kernel
theorem dX8_ridersUnderWay_8 : decode cX8_ridersUnderWay 8 = .ok (.arraylength, 1) := by decide +kernel
theorem dX8_ridersUnderWay_9 : decode cX8_ridersUnderWay 9 = .ok (.istore_n 3, 1) := by decide +kernel
theorem dX8_ridersUnderWay_10 : decode cX8_ridersUnderWay 10 = .ok (.iconst 0, 1) := by decide +kernel
theorem dX8_ridersUnderWay_11 : decode cX8_ridersUnderWay 11 = .ok (.istore 4, 2) := by decide +kernel
theorem dX8_ridersUnderWay_13 : decode cX8_ridersUnderWay 13 = .ok (.iload 4, 2) := by decide +kernel
theorem dX8_ridersUnderWay_15 : decode cX8_ridersUnderWay 15 = .ok (.iload_n 3, 1) := by decide +kernel
theorem dX8_ridersUnderWay_16 : decode cX8_ridersUnderWay 16 = .ok (.if_icmp .ge 31, 3) := by decide +kernel
theorem dX8_ridersUnderWay_19 : decode cX8_ridersUnderWay 19 = .ok (.aload_n 2, 1) := by decide +kernel
theorem dX8_ridersUnderWay_20 : decode cX8_ridersUnderWay 20 = .ok (.iload 4, 2) := by decide +kernel
theorem dX8_ridersUnderWay_22 : decode cX8_ridersUnderWay 22 = .ok (.aaload, 1) := by decide +kernel
theorem dX8_ridersUnderWay_23 : decode cX8_ridersUnderWay 23 = .ok (.astore 5, 2) := by decide +kernel
theorem dX8_ridersUnderWay_25 : decode cX8_ridersUnderWay 25 = .ok (.aload 5, 2) := by decide +kernel
theorem dX8_ridersUnderWay_27 : decode cX8_ridersUnderWay 27 = .ok (.ifnull 14, 3) := by decide +kernel
theorem dX8_ridersUnderWay_30 : decode cX8_ridersUnderWay 30 = .ok (.aload 5, 2) := by decide +kernel
theorem dX8_ridersUnderWay_32 : decode cX8_ridersUnderWay 32 = .ok (.invokevirtual 154, 3) := by decide +kernel
theorem dX8_ridersUnderWay_35 : decode cX8_ridersUnderWay 35 = .ok (.ifCond .eq 6, 3) := by decide +kernel
theorem dX8_ridersUnderWay_38 : decode cX8_ridersUnderWay 38 = .ok (.iinc 1 1, 3) := by decide +kernel
theorem dX8_ridersUnderWay_41 : decode cX8_ridersUnderWay 41 = .ok (.iinc 4 1, 3) := by decide +kernel
theorem dX8_ridersUnderWay_44 : decode cX8_ridersUnderWay 44 = .ok (.goto (-31), 3) := by decide +kernel
theorem dX8_ridersUnderWay_47 : decode cX8_ridersUnderWay 47 = .ok (.iload_n 1, 1) := by decide +kernel
theorem dX8_ridersUnderWay_48 : decode cX8_ridersUnderWay 48 = .ok (.ireturn, 1) := by decide +kernel
set_option maxRecDepth 20000 in
theorem ggX8_ridersWaitingAt_X2_lastStation : GoodIn wsX8_ridersWaitingAt wsX2_lastStation := goodIn_ca (lq_goor _ [6, 7, 8, 9, 10, 5, 11, 12] rfl (by decide +kernel)) (goodIn_sub (fun _ h => List.mem_cons_of_mem _ (List.mem_append_right _ h)) gw_wsX20)
set_option maxRecDepth 20000 in
theorem gX8_ridersWaitingAt_X2_lastStation : GoodIn wsX8_ridersWaitingAt (wsV RX8 180 RX2 yX2_lastStation wsX2_lastStation) := goodIn_app (lq_goor _ [2, 3, 4, 5] rfl (by decide +kernel)) ggX8_ridersWaitingAt_X2_lastStation
theorem dX8_ridersWaitingAt_0 : decode cX8_ridersWaitingAt 0 = .ok (.iconst 0, 1) := by decide +kernel
theorem dX8_ridersWaitingAt_1 : decode cX8_ridersWaitingAt 1 = .ok (.istore_n 2, 1) := by decide +kernel
theorem dX8_ridersWaitingAt_2 : decode cX8_ridersWaitingAt 2 = .ok (.aload_n 0, 1) := by decide +kernel
theorem dX8_ridersWaitingAt_3 : decode cX8_ridersWaitingAt 3 = .ok (.getfield 48, 3) := by decide +kernel
theorem dX8_ridersWaitingAt_6 : decode cX8_ridersWaitingAt 6 = .ok (.astore_n 3, 1) := by decide +kernel
theorem dX8_ridersWaitingAt_7 : decode cX8_ridersWaitingAt 7 = .ok (.aload_n 3, 1) := by decide +kernel
theorem dX8_ridersWaitingAt_8 : decode cX8_ridersWaitingAt 8 = .ok (.arraylength, 1) := by decide +kernel
theorem dX8_ridersWaitingAt_9 : decode cX8_ridersWaitingAt 9 = .ok (.istore 4, 2) := by decide +kernel
theorem dX8_ridersWaitingAt_11 : decode cX8_ridersWaitingAt 11 = .ok (.iconst 0, 1) := by decide +kernel
theorem dX8_ridersWaitingAt_12 : decode cX8_ridersWaitingAt 12 = .ok (.istore 5, 2) := by decide +kernel
theorem dX8_ridersWaitingAt_14 : decode cX8_ridersWaitingAt 14 = .ok (.iload 5, 2) := by decide +kernel
theorem dX8_ridersWaitingAt_16 : decode cX8_ridersWaitingAt 16 = .ok (.iload 4, 2) := by decide +kernel
theorem dX8_ridersWaitingAt_18 : decode cX8_ridersWaitingAt 18 = .ok (.if_icmp .ge 40, 3) := by decide +kernel
theorem dX8_ridersWaitingAt_21 : decode cX8_ridersWaitingAt 21 = .ok (.aload_n 3, 1) := by decide +kernel
theorem dX8_ridersWaitingAt_22 : decode cX8_ridersWaitingAt 22 = .ok (.iload 5, 2) := by decide +kernel
theorem dX8_ridersWaitingAt_24 : decode cX8_ridersWaitingAt 24 = .ok (.aaload, 1) := by decide +kernel
theorem dX8_ridersWaitingAt_25 : decode cX8_ridersWaitingAt 25 = .ok (.astore 6, 2) := by decide +kernel
theorem dX8_ridersWaitingAt_27 : decode cX8_ridersWaitingAt 27 = .ok (.aload 6, 2) := by decide +kernel
theorem dX8_ridersWaitingAt_29 : decode cX8_ridersWaitingAt 29 = .ok (.ifnull 23, 3) := by decide +kernel
theorem dX8_ridersWaitingAt_32 : decode cX8_ridersWaitingAt 32 = .ok (.aload 6, 2) := by decide +kernel
theorem dX8_ridersWaitingAt_34 : decode cX8_ridersWaitingAt 34 = .ok (.getfield 158, 3) := by decide +kernel
theorem dX8_ridersWaitingAt_37 : decode cX8_ridersWaitingAt 37 = .ok (.ifCond .ne 15, 3) := by decide +kernel
theorem dX8_ridersWaitingAt_40 : decode cX8_ridersWaitingAt 40 = .ok (.aload 6, 2) := by decide +kernel
theorem dX8_ridersWaitingAt_42 : decode cX8_ridersWaitingAt 42 = .ok (.invokevirtual 180, 3) := by decide +kernel
theorem dX8_ridersWaitingAt_45 : decode cX8_ridersWaitingAt 45 = .ok (.iload_n 1, 1) := by decide +kernel
theorem dX8_ridersWaitingAt_46 : decode cX8_ridersWaitingAt 46 = .ok (.if_icmp .ne 6, 3) := by decide +kernel
theorem dX8_ridersWaitingAt_49 : decode cX8_ridersWaitingAt 49 = .ok (.iinc 2 1, 3) := by decide +kernel
theorem dX8_ridersWaitingAt_52 : decode cX8_ridersWaitingAt 52 = .ok (.iinc 5 1, 3) := by decide +kernel
theorem dX8_ridersWaitingAt_55 : decode cX8_ridersWaitingAt 55 = .ok (.goto (-41), 3) := by decide +kernel
theorem dX8_ridersWaitingAt_58 : decode cX8_ridersWaitingAt 58 = .ok (.iload_n 2, 1) := by decide +kernel
theorem dX8_ridersWaitingAt_59 : decode cX8_ridersWaitingAt 59 = .ok (.ireturn, 1) := by decide +kernel
theorem dX8_horsesAt_0 : decode cX8_horsesAt 0 = .ok (.iconst 0, 1) := by decide +kernel
theorem dX8_horsesAt_1 : decode cX8_horsesAt 1 = .ok (.istore_n 2, 1) := by decide +kernel
theorem dX8_horsesAt_2 : decode cX8_horsesAt 2 = .ok (.aload_n 0, 1) := by decide +kernel
theorem dX8_horsesAt_3 : decode cX8_horsesAt 3 = .ok (.getfield 36, 3) := by decide +kernel
theorem dX8_horsesAt_6 : decode cX8_horsesAt 6 = .ok (.astore_n 3, 1) := by decide +kernel
theorem dX8_horsesAt_7 : decode cX8_horsesAt 7 = .ok (.aload_n 3, 1) := by decide +kernel
theorem dX8_horsesAt_8 : decode cX8_horsesAt 8 = .ok (.arraylength, 1) := by decide +kernel
theorem dX8_horsesAt_9 : decode cX8_horsesAt 9 = .ok (.istore 4, 2) := by decide +kernel
theorem dX8_horsesAt_11 : decode cX8_horsesAt 11 = .ok (.iconst 0, 1) := by decide +kernel
theorem dX8_horsesAt_12 : decode cX8_horsesAt 12 = .ok (.istore 5, 2) := by decide +kernel
theorem dX8_horsesAt_14 : decode cX8_horsesAt 14 = .ok (.iload 5, 2) := by decide +kernel
theorem dX8_horsesAt_16 : decode cX8_horsesAt 16 = .ok (.iload 4, 2) := by decide +kernel
theorem dX8_horsesAt_18 : decode cX8_horsesAt 18 = .ok (.if_icmp .ge 32, 3) := by decide +kernel
theorem dX8_horsesAt_21 : decode cX8_horsesAt 21 = .ok (.aload_n 3, 1) := by decide +kernel
theorem dX8_horsesAt_22 : decode cX8_horsesAt 22 = .ok (.iload 5, 2) := by decide +kernel
theorem dX8_horsesAt_24 : decode cX8_horsesAt 24 = .ok (.aaload, 1) := by decide +kernel
theorem dX8_horsesAt_25 : decode cX8_horsesAt 25 = .ok (.astore 6, 2) := by decide +kernel
theorem dX8_horsesAt_27 : decode cX8_horsesAt 27 = .ok (.aload 6, 2) := by decide +kernel
theorem dX8_horsesAt_29 : decode cX8_horsesAt 29 = .ok (.ifnull 15, 3) := by decide +kernel
theorem dX8_horsesAt_32 : decode cX8_horsesAt 32 = .ok (.aload 6, 2) := by decide +kernel
theorem dX8_horsesAt_34 : decode cX8_horsesAt 34 = .ok (.getfield 209, 3) := by decide +kernel
theorem dX8_horsesAt_37 : decode cX8_horsesAt 37 = .ok (.iload_n 1, 1) := by decide +kernel
theorem dX8_horsesAt_38 : decode cX8_horsesAt 38 = .ok (.if_icmp .ne 6, 3) := by decide +kernel
theorem dX8_horsesAt_41 : decode cX8_horsesAt 41 = .ok (.iinc 2 1, 3) := by decide +kernel
theorem dX8_horsesAt_44 : decode cX8_horsesAt 44 = .ok (.iinc 5 1, 3) := by decide +kernel
theorem dX8_horsesAt_47 : decode cX8_horsesAt 47 = .ok (.goto (-33), 3) := by decide +kernel
theorem dX8_horsesAt_50 : decode cX8_horsesAt 50 = .ok (.iload_n 2, 1) := by decide +kernel
theorem dX8_horsesAt_51 : decode cX8_horsesAt 51 = .ok (.ireturn, 1) := by decide +kernel
theorem dX8_strongestAt_0 : decode cX8_strongestAt 0 = .ok (.aconst_null, 1) := by decide +kernel
theorem dX8_strongestAt_1 : decode cX8_strongestAt 1 = .ok (.astore_n 2, 1) := by decide +kernel
theorem dX8_strongestAt_2 : decode cX8_strongestAt 2 = .ok (.aload_n 0, 1) := by decide +kernel
theorem dX8_strongestAt_3 : decode cX8_strongestAt 3 = .ok (.getfield 36, 3) := by decide +kernel
theorem dX8_strongestAt_6 : decode cX8_strongestAt 6 = .ok (.astore_n 3, 1) := by decide +kernel
theorem dX8_strongestAt_7 : decode cX8_strongestAt 7 = .ok (.aload_n 3, 1) := by decide +kernel
theorem dX8_strongestAt_8 : decode cX8_strongestAt 8 = .ok (.arraylength, 1) := by decide +kernel
theorem dX8_strongestAt_9 : decode cX8_strongestAt 9 = .ok (.istore 4, 2) := by decide +kernel
theorem dX8_strongestAt_11 : decode cX8_strongestAt 11 = .ok (.iconst 0, 1) := by decide +kernel
theorem dX8_strongestAt_12 : decode cX8_strongestAt 12 = .ok (.istore 5, 2) := by decide +kernel
theorem dX8_strongestAt_14 : decode cX8_strongestAt 14 = .ok (.iload 5, 2) := by decide +kernel
theorem dX8_strongestAt_16 : decode cX8_strongestAt 16 = .ok (.iload 4, 2) := by decide +kernel
theorem dX8_strongestAt_18 : decode cX8_strongestAt 18 = .ok (.if_icmp .ge 48, 3) := by decide +kernel
theorem dX8_strongestAt_21 : decode cX8_strongestAt 21 = .ok (.aload_n 3, 1) := by decide +kernel
theorem dX8_strongestAt_22 : decode cX8_strongestAt 22 = .ok (.iload 5, 2) := by decide +kernel
theorem dX8_strongestAt_24 : decode cX8_strongestAt 24 = .ok (.aaload, 1) := by decide +kernel
theorem dX8_strongestAt_25 : decode cX8_strongestAt 25 = .ok (.astore 6, 2) := by decide +kernel
theorem dX8_strongestAt_27 : decode cX8_strongestAt 27 = .ok (.aload 6, 2) := by decide +kernel
theorem dX8_strongestAt_29 : decode cX8_strongestAt 29 = .ok (.ifnull 31, 3) := by decide +kernel
theorem dX8_strongestAt_32 : decode cX8_strongestAt 32 = .ok (.aload 6, 2) := by decide +kernel
theorem dX8_strongestAt_34 : decode cX8_strongestAt 34 = .ok (.getfield 209, 3) := by decide +kernel
theorem dX8_strongestAt_37 : decode cX8_strongestAt 37 = .ok (.iload_n 1, 1) := by decide +kernel
theorem dX8_strongestAt_38 : decode cX8_strongestAt 38 = .ok (.if_icmp .ne 22, 3) := by decide +kernel
theorem dX8_strongestAt_41 : decode cX8_strongestAt 41 = .ok (.aload_n 2, 1) := by decide +kernel
theorem dX8_strongestAt_42 : decode cX8_strongestAt 42 = .ok (.ifnull 15, 3) := by decide +kernel
theorem dX8_strongestAt_45 : decode cX8_strongestAt 45 = .ok (.aload 6, 2) := by decide +kernel
theorem dX8_strongestAt_47 : decode cX8_strongestAt 47 = .ok (.getfield 206, 3) := by decide +kernel
theorem dX8_strongestAt_50 : decode cX8_strongestAt 50 = .ok (.aload_n 2, 1) := by decide +kernel
theorem dX8_strongestAt_51 : decode cX8_strongestAt 51 = .ok (.getfield 206, 3) := by decide +kernel
theorem dX8_strongestAt_54 : decode cX8_strongestAt 54 = .ok (.if_icmp .le 6, 3) := by decide +kernel
theorem dX8_strongestAt_57 : decode cX8_strongestAt 57 = .ok (.aload 6, 2) := by decide +kernel
theorem dX8_strongestAt_59 : decode cX8_strongestAt 59 = .ok (.astore_n 2, 1) := by decide +kernel
theorem dX8_strongestAt_60 : decode cX8_strongestAt 60 = .ok (.iinc 5 1, 3) := by decide +kernel
theorem dX8_strongestAt_63 : decode cX8_strongestAt 63 = .ok (.goto (-49), 3) := by decide +kernel
theorem dX8_strongestAt_66 : decode cX8_strongestAt 66 = .ok (.aload_n 2, 1) := by decide +kernel
theorem dX8_strongestAt_67 : decode cX8_strongestAt 67 = .ok (.areturn, 1) := by decide +kernel
set_option maxRecDepth 20000 in
theorem ggX8_careForHorses_X8_isStation : GoodIn wsX8_careForHorses wsX8_isStation := lq_goor _ [5] rfl (by decide +kernel)
set_option maxRecDepth 20000 in
theorem gX8_careForHorses_X8_isStation : GoodIn wsX8_careForHorses (va_wsS RX8 95 yX8_isStation wsX8_isStation) := goodIn_app (lq_goor _ [2, 3, 4] rfl (by decide +kernel)) ggX8_careForHorses_X8_isStation
set_option maxRecDepth 20000 in
theorem ggX8_careForHorses_X8_careFor : GoodIn wsX8_careForHorses wsX8_careFor := goodIn_ca (goodIn_ca (goodIn_ca (lq_goor _ [9, 10, 11, 12, 13, 14, 15, 16, 17, 18, 19, 20, 21, 22, 23, 24, 25, 26, 27, 28, 29, 30, 31, 32, 33, 34] rfl (by decide +kernel)) (goodIn_sub (fun _ h => List.mem_cons_of_mem _ (List.mem_append_left _ (List.mem_append_left _ (List.mem_append_right _ h)))) gw_wsX80)) (goodIn_sub (fun _ h => List.mem_cons_of_mem _ (List.mem_append_left _ (List.mem_append_right _ h))) gw_wsX00)) (goodIn_sub (fun _ h => List.mem_cons_of_mem _ (List.mem_append_right _ h)) gw_wsX50)
set_option maxRecDepth 20000 in
theorem gX8_careForHorses_X8_careFor : GoodIn wsX8_careForHorses (wsV RX8 241 RX8 yX8_careFor wsX8_careFor) := goodIn_app (lq_goor _ [6, 7, 8, 4] rfl (by decide +kernel)) ggX8_careForHorses_X8_careFor
theorem dX8_careForHorses_0 : decode cX8_careForHorses 0 = .ok (.aload_n 0, 1) := by decide +kernel
theorem dX8_careForHorses_1 : decode cX8_careForHorses 1 = .ok (.getfield 36, 3) := by decide +kernel
theorem dX8_careForHorses_4 : decode cX8_careForHorses 4 = .ok (.astore_n 1, 1) := by decide +kernel
theorem dX8_careForHorses_5 : decode cX8_careForHorses 5 = .ok (.aload_n 1, 1) := by decide +kernel
theorem dX8_careForHorses_6 : decode cX8_careForHorses 6 = .ok (.arraylength, 1) := by decide +kernel
theorem dX8_careForHorses_7 : decode cX8_careForHorses 7 = .ok (.istore_n 2, 1) := by decide +kernel
theorem dX8_careForHorses_8 : decode cX8_careForHorses 8 = .ok (.iconst 0, 1) := by decide +kernel
theorem dX8_careForHorses_9 : decode cX8_careForHorses 9 = .ok (.istore_n 3, 1) := by decide +kernel
theorem dX8_careForHorses_10 : decode cX8_careForHorses 10 = .ok (.iload_n 3, 1) := by decide +kernel
theorem dX8_careForHorses_11 : decode cX8_careForHorses 11 = .ok (.iload_n 2, 1) := by decide +kernel
theorem dX8_careForHorses_12 : decode cX8_careForHorses 12 = .ok (.if_icmp .ge 41, 3) := by decide +kernel
theorem dX8_careForHorses_15 : decode cX8_careForHorses 15 = .ok (.aload_n 1, 1) := by decide +kernel
theorem dX8_careForHorses_16 : decode cX8_careForHorses 16 = .ok (.iload_n 3, 1) := by decide +kernel
theorem dX8_careForHorses_17 : decode cX8_careForHorses 17 = .ok (.aaload, 1) := by decide +kernel
theorem dX8_careForHorses_18 : decode cX8_careForHorses 18 = .ok (.astore 4, 2) := by decide +kernel
theorem dX8_careForHorses_20 : decode cX8_careForHorses 20 = .ok (.aload 4, 2) := by decide +kernel
theorem dX8_careForHorses_22 : decode cX8_careForHorses 22 = .ok (.ifnull 25, 3) := by decide +kernel
theorem dX8_careForHorses_25 : decode cX8_careForHorses 25 = .ok (.aload 4, 2) := by decide +kernel
theorem dX8_careForHorses_27 : decode cX8_careForHorses 27 = .ok (.getfield 209, 3) := by decide +kernel
theorem dX8_careForHorses_30 : decode cX8_careForHorses 30 = .ok (.invokestatic 95, 3) := by decide +kernel
theorem dX8_careForHorses_33 : decode cX8_careForHorses 33 = .ok (.ifCond .eq 14, 3) := by decide +kernel
theorem dX8_careForHorses_36 : decode cX8_careForHorses 36 = .ok (.aload_n 0, 1) := by decide +kernel
theorem dX8_careForHorses_37 : decode cX8_careForHorses 37 = .ok (.aload 4, 2) := by decide +kernel
theorem dX8_careForHorses_39 : decode cX8_careForHorses 39 = .ok (.aload 4, 2) := by decide +kernel
theorem dX8_careForHorses_41 : decode cX8_careForHorses 41 = .ok (.getfield 209, 3) := by decide +kernel
theorem dX8_careForHorses_44 : decode cX8_careForHorses 44 = .ok (.invokevirtual 241, 3) := by decide +kernel
theorem dX8_careForHorses_47 : decode cX8_careForHorses 47 = .ok (.iinc 3 1, 3) := by decide +kernel
theorem dX8_careForHorses_50 : decode cX8_careForHorses 50 = .ok (.goto (-40), 3) := by decide +kernel
theorem dX8_careForHorses_53 : decode cX8_careForHorses 53 = .ok (.return_, 1) := by decide +kernel
set_option maxRecDepth 20000 in
theorem ggX8_careFor_X5_rest : GoodIn wsX8_careFor wsX5_rest := goodIn_ca (lq_goor _ [11, 12] rfl (by decide +kernel)) (goodIn_sub (fun _ h => List.mem_cons_of_mem _ (List.mem_append_right _ h)) gw_wsX50)
set_option maxRecDepth 20000 in
theorem gX8_careFor_X5_rest : GoodIn wsX8_careFor (wsV RX8 245 RX5 yX5_rest wsX5_rest) := goodIn_app (lq_goor _ [7, 8, 9, 10] rfl (by decide +kernel)) ggX8_careFor_X5_rest
set_option maxRecDepth 20000 in
theorem ggX8_careFor_X5_hunger : GoodIn wsX8_careFor wsX5_hunger := goodIn_ca (lq_goor _ [16, 12] rfl (by decide +kernel)) (goodIn_sub (fun _ h => List.mem_cons_of_mem _ (List.mem_append_right _ h)) gw_wsX50)
set_option maxRecDepth 20000 in
theorem gX8_careFor_X5_hunger : GoodIn wsX8_careFor (wsV RX8 253 RX5 yX5_hunger wsX5_hunger) := goodIn_app (lq_goor _ [13, 14, 15, 10] rfl (by decide +kernel)) ggX8_careFor_X5_hunger
set_option maxRecDepth 20000 in
theorem ggX8_careFor_X0_weaken : GoodIn wsX8_careFor wsX0_weaken := goodIn_ca (lq_goor _ [21, 22, 23, 24, 5, 25] rfl (by decide +kernel)) (goodIn_sub (fun _ h => List.mem_cons_of_mem _ (List.mem_append_left _ (List.mem_append_right _ h))) gw_wsX00)
set_option maxRecDepth 20000 in
theorem gX8_careFor_X0_weaken : GoodIn wsX8_careFor (wsV RX8 256 RX0 yX0_weaken wsX0_weaken) := goodIn_app (lq_goor _ [17, 18, 19, 20] rfl (by decide +kernel)) ggX8_careFor_X0_weaken
theorem dX8_careFor_0 : decode cX8_careFor 0 = .ok (.aload_n 0, 1) := by decide +kernel
theorem dX8_careFor_1 : decode cX8_careFor 1 = .ok (.getfield 30, 3) := by decide +kernel
theorem dX8_careFor_4 : decode cX8_careFor 4 = .ok (.iload_n 2, 1) := by decide +kernel
theorem dX8_careFor_5 : decode cX8_careFor 5 = .ok (.iaload, 1) := by decide +kernel
theorem dX8_careFor_6 : decode cX8_careFor 6 = .ok (.ifCond .le 37, 3) := by decide +kernel
theorem dX8_careFor_9 : decode cX8_careFor 9 = .ok (.aload_n 0, 1) := by decide +kernel
theorem dX8_careFor_10 : decode cX8_careFor 10 = .ok (.getfield 30, 3) := by decide +kernel
theorem dX8_careFor_13 : decode cX8_careFor 13 = .ok (.iload_n 2, 1) := by decide +kernel
theorem dX8_careFor_14 : decode cX8_careFor 14 = .ok (.dup2, 1) := by decide +kernel
theorem dX8_careFor_15 : decode cX8_careFor 15 = .ok (.iaload, 1) := by decide +kernel
theorem dX8_careFor_16 : decode cX8_careFor 16 = .ok (.iconst 1, 1) := by decide +kernel
theorem dX8_careFor_17 : decode cX8_careFor 17 = .ok (.isub, 1) := by decide +kernel
theorem dX8_careFor_18 : decode cX8_careFor 18 = .ok (.iastore, 1) := by decide +kernel
theorem dX8_careFor_19 : decode cX8_careFor 19 = .ok (.aload_n 1, 1) := by decide +kernel
theorem dX8_careFor_20 : decode cX8_careFor 20 = .ok (.bipush 100, 2) := by decide +kernel
theorem dX8_careFor_22 : decode cX8_careFor 22 = .ok (.aload_n 1, 1) := by decide +kernel
theorem dX8_careFor_23 : decode cX8_careFor 23 = .ok (.getfield 206, 3) := by decide +kernel
theorem dX8_careFor_26 : decode cX8_careFor 26 = .ok (.aload_n 0, 1) := by decide +kernel
theorem dX8_careFor_27 : decode cX8_careFor 27 = .ok (.getfield 58, 3) := by decide +kernel
theorem dX8_careFor_30 : decode cX8_careFor 30 = .ok (.invokevirtual 245, 3) := by decide +kernel
theorem dX8_careFor_33 : decode cX8_careFor 33 = .ok (.iadd, 1) := by decide +kernel
theorem dX8_careFor_34 : decode cX8_careFor 34 = .ok (.invokestatic 248, 3) := by decide +kernel
theorem dX8_careFor_37 : decode cX8_careFor 37 = .ok (.putfield 206, 3) := by decide +kernel
theorem dX8_careFor_40 : decode cX8_careFor 40 = .ok (.goto 14, 3) := by decide +kernel
theorem dX8_careFor_43 : decode cX8_careFor 43 = .ok (.aload_n 1, 1) := by decide +kernel
theorem dX8_careFor_44 : decode cX8_careFor 44 = .ok (.aload_n 0, 1) := by decide +kernel
theorem dX8_careFor_45 : decode cX8_careFor 45 = .ok (.getfield 58, 3) := by decide +kernel
theorem dX8_careFor_48 : decode cX8_careFor 48 = .ok (.invokevirtual 253, 3) := by decide +kernel
theorem dX8_careFor_51 : decode cX8_careFor 51 = .ok (.invokevirtual 256, 3) := by decide +kernel
theorem dX8_careFor_54 : decode cX8_careFor 54 = .ok (.return_, 1) := by decide +kernel
set_option maxRecDepth 20000 in
theorem ggX8_lineUpWaiting_X8_putInLine : GoodIn wsX8_lineUpWaiting wsX8_putInLine := goodIn_ca (goodIn_ca (lq_goor _ [7, 1, 8, 9, 10, 6, 11, 12, 13, 14, 15, 16, 17, 18, 19, 20, 21, 22] rfl (by decide +kernel)) (goodIn_sub (fun _ h => List.mem_cons_of_mem _ (List.mem_append_left _ (List.mem_append_right _ h))) gw_wsX80)) (goodIn_sub (fun _ h => List.mem_cons_of_mem _ (List.mem_append_right _ h)) gw_wsX20)
set_option maxRecDepth 20000 in
theorem gX8_lineUpWaiting_X8_putInLine : GoodIn wsX8_lineUpWaiting (wsV RX8 262 RX8 yX8_putInLine wsX8_putInLine) := goodIn_app (lq_goor _ [3, 4, 5, 6] rfl (by decide +kernel)) ggX8_lineUpWaiting_X8_putInLine
theorem dX8_lineUpWaiting_0 : decode cX8_lineUpWaiting 0 = .ok (.aload_n 0, 1) := by decide +kernel
theorem dX8_lineUpWaiting_1 : decode cX8_lineUpWaiting 1 = .ok (.iconst 0, 1) := by decide +kernel
theorem dX8_lineUpWaiting_2 : decode cX8_lineUpWaiting 2 = .ok (.putfield 259, 3) := by decide +kernel
theorem dX8_lineUpWaiting_5 : decode cX8_lineUpWaiting 5 = .ok (.aload_n 0, 1) := by decide +kernel
theorem dX8_lineUpWaiting_6 : decode cX8_lineUpWaiting 6 = .ok (.getfield 48, 3) := by decide +kernel
theorem dX8_lineUpWaiting_9 : decode cX8_lineUpWaiting 9 = .ok (.astore_n 1, 1) := by decide +kernel
theorem dX8_lineUpWaiting_10 : decode cX8_lineUpWaiting 10 = .ok (.aload_n 1, 1) := by decide +kernel
theorem dX8_lineUpWaiting_11 : decode cX8_lineUpWaiting 11 = .ok (.arraylength, 1) := by decide +kernel
theorem dX8_lineUpWaiting_12 : decode cX8_lineUpWaiting 12 = .ok (.istore_n 2, 1) := by decide +kernel
theorem dX8_lineUpWaiting_13 : decode cX8_lineUpWaiting 13 = .ok (.iconst 0, 1) := by decide +kernel
theorem dX8_lineUpWaiting_14 : decode cX8_lineUpWaiting 14 = .ok (.istore_n 3, 1) := by decide +kernel
theorem dX8_lineUpWaiting_15 : decode cX8_lineUpWaiting 15 = .ok (.iload_n 3, 1) := by decide +kernel
theorem dX8_lineUpWaiting_16 : decode cX8_lineUpWaiting 16 = .ok (.iload_n 2, 1) := by decide +kernel
theorem dX8_lineUpWaiting_17 : decode cX8_lineUpWaiting 17 = .ok (.if_icmp .ge 33, 3) := by decide +kernel
theorem dX8_lineUpWaiting_20 : decode cX8_lineUpWaiting 20 = .ok (.aload_n 1, 1) := by decide +kernel
theorem dX8_lineUpWaiting_21 : decode cX8_lineUpWaiting 21 = .ok (.iload_n 3, 1) := by decide +kernel
theorem dX8_lineUpWaiting_22 : decode cX8_lineUpWaiting 22 = .ok (.aaload, 1) := by decide +kernel
theorem dX8_lineUpWaiting_23 : decode cX8_lineUpWaiting 23 = .ok (.astore 4, 2) := by decide +kernel
theorem dX8_lineUpWaiting_25 : decode cX8_lineUpWaiting 25 = .ok (.aload 4, 2) := by decide +kernel
theorem dX8_lineUpWaiting_27 : decode cX8_lineUpWaiting 27 = .ok (.ifnull 17, 3) := by decide +kernel
theorem dX8_lineUpWaiting_30 : decode cX8_lineUpWaiting 30 = .ok (.aload 4, 2) := by decide +kernel
theorem dX8_lineUpWaiting_32 : decode cX8_lineUpWaiting 32 = .ok (.getfield 158, 3) := by decide +kernel
theorem dX8_lineUpWaiting_35 : decode cX8_lineUpWaiting 35 = .ok (.ifCond .ne 9, 3) := by decide +kernel
theorem dX8_lineUpWaiting_38 : decode cX8_lineUpWaiting 38 = .ok (.aload_n 0, 1) := by decide +kernel
theorem dX8_lineUpWaiting_39 : decode cX8_lineUpWaiting 39 = .ok (.aload 4, 2) := by decide +kernel
theorem dX8_lineUpWaiting_41 : decode cX8_lineUpWaiting 41 = .ok (.invokevirtual 262, 3) := by decide +kernel
theorem dX8_lineUpWaiting_44 : decode cX8_lineUpWaiting 44 = .ok (.iinc 3 1, 3) := by decide +kernel
theorem dX8_lineUpWaiting_47 : decode cX8_lineUpWaiting 47 = .ok (.goto (-32), 3) := by decide +kernel
theorem dX8_lineUpWaiting_50 : decode cX8_lineUpWaiting 50 = .ok (.return_, 1) := by decide +kernel
set_option maxRecDepth 20000 in
theorem ggX8_putInLine_X8_goesBefore : GoodIn wsX8_putInLine wsX8_goesBefore := goodIn_ca (lq_goor _ [6, 7, 8, 9, 10, 11, 12, 13, 14, 15, 16, 17] rfl (by decide +kernel)) (goodIn_sub (fun _ h => List.mem_cons_of_mem _ (List.mem_append_right _ h)) gw_wsX20)
set_option maxRecDepth 20000 in
theorem gX8_putInLine_X8_goesBefore : GoodIn wsX8_putInLine (va_wsS RX8 266 yX8_goesBefore wsX8_goesBefore) := goodIn_app (lq_goor _ [3, 4, 5] rfl (by decide +kernel)) ggX8_putInLine_X8_goesBefore
theorem dX8_putInLine_0 : decode cX8_putInLine 0 = .ok (.aload_n 0, 1) := by decide +kernel
theorem dX8_putInLine_1 : decode cX8_putInLine 1 = .ok (.getfield 259, 3) := by decide +kernel
theorem dX8_putInLine_4 : decode cX8_putInLine 4 = .ok (.bipush 60, 2) := by decide +kernel
theorem dX8_putInLine_6 : decode cX8_putInLine 6 = .ok (.if_icmp .lt 4, 3) := by decide +kernel
theorem dX8_putInLine_9 : decode cX8_putInLine 9 = .ok (.return_, 1) := by decide +kernel
theorem dX8_putInLine_10 : decode cX8_putInLine 10 = .ok (.aload_n 0, 1) := by decide +kernel
theorem dX8_putInLine_11 : decode cX8_putInLine 11 = .ok (.getfield 259, 3) := by decide +kernel
theorem dX8_putInLine_14 : decode cX8_putInLine 14 = .ok (.istore_n 2, 1) := by decide +kernel
theorem dX8_putInLine_15 : decode cX8_putInLine 15 = .ok (.iload_n 2, 1) := by decide +kernel
theorem dX8_putInLine_16 : decode cX8_putInLine 16 = .ok (.ifCond .le 38, 3) := by decide +kernel
theorem dX8_putInLine_19 : decode cX8_putInLine 19 = .ok (.aload_n 1, 1) := by decide +kernel
theorem dX8_putInLine_20 : decode cX8_putInLine 20 = .ok (.aload_n 0, 1) := by decide +kernel
theorem dX8_putInLine_21 : decode cX8_putInLine 21 = .ok (.getfield 52, 3) := by decide +kernel
theorem dX8_putInLine_24 : decode cX8_putInLine 24 = .ok (.iload_n 2, 1) := by decide +kernel
theorem dX8_putInLine_25 : decode cX8_putInLine 25 = .ok (.iconst 1, 1) := by decide +kernel
theorem dX8_putInLine_26 : decode cX8_putInLine 26 = .ok (.isub, 1) := by decide +kernel
theorem dX8_putInLine_27 : decode cX8_putInLine 27 = .ok (.aaload, 1) := by decide +kernel
theorem dX8_putInLine_28 : decode cX8_putInLine 28 = .ok (.invokestatic 266, 3) := by decide +kernel
theorem dX8_putInLine_31 : decode cX8_putInLine 31 = .ok (.ifCond .eq 23, 3) := by decide +kernel
theorem dX8_putInLine_34 : decode cX8_putInLine 34 = .ok (.aload_n 0, 1) := by decide +kernel
theorem dX8_putInLine_35 : decode cX8_putInLine 35 = .ok (.getfield 52, 3) := by decide +kernel
theorem dX8_putInLine_38 : decode cX8_putInLine 38 = .ok (.iload_n 2, 1) := by decide +kernel
theorem dX8_putInLine_39 : decode cX8_putInLine 39 = .ok (.aload_n 0, 1) := by decide +kernel
theorem dX8_putInLine_40 : decode cX8_putInLine 40 = .ok (.getfield 52, 3) := by decide +kernel
theorem dX8_putInLine_43 : decode cX8_putInLine 43 = .ok (.iload_n 2, 1) := by decide +kernel
theorem dX8_putInLine_44 : decode cX8_putInLine 44 = .ok (.iconst 1, 1) := by decide +kernel
theorem dX8_putInLine_45 : decode cX8_putInLine 45 = .ok (.isub, 1) := by decide +kernel
theorem dX8_putInLine_46 : decode cX8_putInLine 46 = .ok (.aaload, 1) := by decide +kernel
theorem dX8_putInLine_47 : decode cX8_putInLine 47 = .ok (.aastore, 1) := by decide +kernel
theorem dX8_putInLine_48 : decode cX8_putInLine 48 = .ok (.iinc 2 (-1), 3) := by decide +kernel
theorem dX8_putInLine_51 : decode cX8_putInLine 51 = .ok (.goto (-36), 3) := by decide +kernel
theorem dX8_putInLine_54 : decode cX8_putInLine 54 = .ok (.aload_n 0, 1) := by decide +kernel
theorem dX8_putInLine_55 : decode cX8_putInLine 55 = .ok (.getfield 52, 3) := by decide +kernel
theorem dX8_putInLine_58 : decode cX8_putInLine 58 = .ok (.iload_n 2, 1) := by decide +kernel
theorem dX8_putInLine_59 : decode cX8_putInLine 59 = .ok (.aload_n 1, 1) := by decide +kernel
theorem dX8_putInLine_60 : decode cX8_putInLine 60 = .ok (.aastore, 1) := by decide +kernel
theorem dX8_putInLine_61 : decode cX8_putInLine 61 = .ok (.aload_n 0, 1) := by decide +kernel
theorem dX8_putInLine_62 : decode cX8_putInLine 62 = .ok (.dup, 1) := by decide +kernel
theorem dX8_putInLine_63 : decode cX8_putInLine 63 = .ok (.getfield 259, 3) := by decide +kernel
theorem dX8_putInLine_66 : decode cX8_putInLine 66 = .ok (.iconst 1, 1) := by decide +kernel
theorem dX8_putInLine_67 : decode cX8_putInLine 67 = .ok (.iadd, 1) := by decide +kernel
theorem dX8_putInLine_68 : decode cX8_putInLine 68 = .ok (.putfield 259, 3) := by decide +kernel
theorem dX8_putInLine_71 : decode cX8_putInLine 71 = .ok (.return_, 1) := by decide +kernel
set_option maxRecDepth 20000 in
theorem ggX8_goesBefore_X2_lastStation : GoodIn wsX8_goesBefore wsX2_lastStation := goodIn_ca (lq_goor _ [5, 6, 7, 8, 9, 4, 10, 11] rfl (by decide +kernel)) (goodIn_sub (fun _ h => List.mem_cons_of_mem _ (List.mem_append_right _ h)) gw_wsX20)
set_option maxRecDepth 20000 in
theorem gX8_goesBefore_X2_lastStation : GoodIn wsX8_goesBefore (wsV RX8 180 RX2 yX2_lastStation wsX2_lastStation) := goodIn_app (lq_goor _ [1, 2, 3, 4] rfl (by decide +kernel)) ggX8_goesBefore_X2_lastStation
theorem dX8_goesBefore_0 : decode cX8_goesBefore 0 = .ok (.aload_n 0, 1) := by decide +kernel
theorem dX8_goesBefore_1 : decode cX8_goesBefore 1 = .ok (.ifnull 7, 3) := by decide +kernel
theorem dX8_goesBefore_4 : decode cX8_goesBefore 4 = .ok (.aload_n 1, 1) := by decide +kernel
theorem dX8_goesBefore_5 : decode cX8_goesBefore 5 = .ok (.ifnonnull 5, 3) := by decide +kernel
theorem dX8_goesBefore_8 : decode cX8_goesBefore 8 = .ok (.iconst 0, 1) := by decide +kernel
theorem dX8_goesBefore_9 : decode cX8_goesBefore 9 = .ok (.ireturn, 1) := by decide +kernel
theorem dX8_goesBefore_10 : decode cX8_goesBefore 10 = .ok (.aload_n 0, 1) := by decide +kernel
theorem dX8_goesBefore_11 : decode cX8_goesBefore 11 = .ok (.invokevirtual 180, 3) := by decide +kernel
theorem dX8_goesBefore_14 : decode cX8_goesBefore 14 = .ok (.aload_n 1, 1) := by decide +kernel
theorem dX8_goesBefore_15 : decode cX8_goesBefore 15 = .ok (.invokevirtual 180, 3) := by decide +kernel
theorem dX8_goesBefore_18 : decode cX8_goesBefore 18 = .ok (.if_icmp .eq 20, 3) := by decide +kernel
theorem dX8_goesBefore_21 : decode cX8_goesBefore 21 = .ok (.aload_n 0, 1) := by decide +kernel
theorem dX8_goesBefore_22 : decode cX8_goesBefore 22 = .ok (.invokevirtual 180, 3) := by decide +kernel
theorem dX8_goesBefore_25 : decode cX8_goesBefore 25 = .ok (.aload_n 1, 1) := by decide +kernel
theorem dX8_goesBefore_26 : decode cX8_goesBefore 26 = .ok (.invokevirtual 180, 3) := by decide +kernel
theorem dX8_goesBefore_29 : decode cX8_goesBefore 29 = .ok (.if_icmp .ge 7, 3) := by decide +kernel
theorem dX8_goesBefore_32 : decode cX8_goesBefore 32 = .ok (.iconst 1, 1) := by decide +kernel
theorem dX8_goesBefore_33 : decode cX8_goesBefore 33 = .ok (.goto 4, 3) := by decide +kernel
theorem dX8_goesBefore_36 : decode cX8_goesBefore 36 = .ok (.iconst 0, 1) := by decide +kernel
theorem dX8_goesBefore_37 : decode cX8_goesBefore 37 = .ok (.ireturn, 1) := by decide +kernel
theorem dX8_goesBefore_38 : decode cX8_goesBefore 38 = .ok (.aload_n 0, 1) := by decide +kernel
theorem dX8_goesBefore_39 : decode cX8_goesBefore 39 = .ok (.getfield 270, 3) := by decide +kernel
theorem dX8_goesBefore_42 : decode cX8_goesBefore 42 = .ok (.aload_n 1, 1) := by decide +kernel
theorem dX8_goesBefore_43 : decode cX8_goesBefore 43 = .ok (.getfield 270, 3) := by decide +kernel
theorem dX8_goesBefore_46 : decode cX8_goesBefore 46 = .ok (.if_icmp .eq 20, 3) := by decide +kernel
theorem dX8_goesBefore_49 : decode cX8_goesBefore 49 = .ok (.aload_n 0, 1) := by decide +kernel
theorem dX8_goesBefore_50 : decode cX8_goesBefore 50 = .ok (.getfield 270, 3) := by decide +kernel
theorem dX8_goesBefore_53 : decode cX8_goesBefore 53 = .ok (.aload_n 1, 1) := by decide +kernel
theorem dX8_goesBefore_54 : decode cX8_goesBefore 54 = .ok (.getfield 270, 3) := by decide +kernel
theorem dX8_goesBefore_57 : decode cX8_goesBefore 57 = .ok (.if_icmp .ge 7, 3) := by decide +kernel
theorem dX8_goesBefore_60 : decode cX8_goesBefore 60 = .ok (.iconst 1, 1) := by decide +kernel
theorem dX8_goesBefore_61 : decode cX8_goesBefore 61 = .ok (.goto 4, 3) := by decide +kernel
theorem dX8_goesBefore_64 : decode cX8_goesBefore 64 = .ok (.iconst 0, 1) := by decide +kernel
theorem dX8_goesBefore_65 : decode cX8_goesBefore 65 = .ok (.ireturn, 1) := by decide +kernel
theorem dX8_goesBefore_66 : decode cX8_goesBefore 66 = .ok (.aload_n 0, 1) := by decide +kernel
theorem dX8_goesBefore_67 : decode cX8_goesBefore 67 = .ok (.getfield 184, 3) := by decide +kernel
theorem dX8_goesBefore_70 : decode cX8_goesBefore 70 = .ok (.aload_n 1, 1) := by decide +kernel
theorem dX8_goesBefore_71 : decode cX8_goesBefore 71 = .ok (.getfield 184, 3) := by decide +kernel
theorem dX8_goesBefore_74 : decode cX8_goesBefore 74 = .ok (.if_icmp .ge 7, 3) := by decide +kernel
theorem dX8_goesBefore_77 : decode cX8_goesBefore 77 = .ok (.iconst 1, 1) := by decide +kernel
theorem dX8_goesBefore_78 : decode cX8_goesBefore 78 = .ok (.goto 4, 3) := by decide +kernel
theorem dX8_goesBefore_81 : decode cX8_goesBefore 81 = .ok (.iconst 0, 1) := by decide +kernel
theorem dX8_goesBefore_82 : decode cX8_goesBefore 82 = .ok (.ireturn, 1) := by decide +kernel
set_option maxRecDepth 20000 in
theorem ggX8_sendLine_X8_send : GoodIn wsX8_sendLine wsX8_send := goodIn_ca (goodIn_ca (goodIn_ca (goodIn_ca (goodIn_ca (goodIn_ca (lq_goor _ [7, 8, 9, 10, 11, 12, 13, 14, 15, 16, 17, 18, 19, 20, 21, 22, 23, 24, 6, 25, 26, 27, 28, 29, 30, 31, 32, 33, 34, 35, 36, 37, 38, 39, 40, 41, 42, 43, 44, 45, 46, 47, 48, 49, 50, 51, 52, 53, 54, 55, 56, 57, 58, 59, 60, 61, 62, 63, 64, 65, 66, 67, 68, 69, 70, 71, 72, 73, 74, 75, 76] rfl (by decide +kernel)) (goodIn_sub (fun _ h => List.mem_cons_of_mem _ (List.mem_append_left _ (List.mem_append_left _ (List.mem_append_left _ (List.mem_append_left _ (List.mem_append_right _ h)))))) gw_wsX20)) (goodIn_sub (fun _ h => List.mem_cons_of_mem _ (List.mem_append_left _ (List.mem_append_left _ (List.mem_append_left _ (List.mem_append_left _ (List.mem_append_left _ (List.mem_append_right _ h))))))) gw_wsX80)) (goodIn_sub (fun _ h => List.mem_cons_of_mem _ (List.mem_append_left _ (List.mem_append_left _ (List.mem_append_left _ (List.mem_append_right _ h))))) gw_wsX00)) (goodIn_sub (fun _ h => List.mem_cons_of_mem _ (List.mem_append_left _ (List.mem_append_left _ (List.mem_append_right _ h)))) gw_wsX60)) (goodIn_sub (fun _ h => List.mem_cons_of_mem _ (List.mem_append_left _ (List.mem_append_right _ h))) gw_wsX30)) (goodIn_sub (fun _ h => List.mem_cons_of_mem _ (List.mem_append_right _ h)) gw_wsX50)
set_option maxRecDepth 20000 in
theorem gX8_sendLine_X8_send : GoodIn wsX8_sendLine (wsV RX8 271 RX8 yX8_send wsX8_send) := goodIn_app (lq_goor _ [3, 4, 5, 6] rfl (by decide +kernel)) ggX8_sendLine_X8_send
theorem dX8_sendLine_0 : decode cX8_sendLine 0 = .ok (.iconst 0, 1) := by decide +kernel
theorem dX8_sendLine_1 : decode cX8_sendLine 1 = .ok (.istore_n 1, 1) := by decide +kernel
theorem dX8_sendLine_2 : decode cX8_sendLine 2 = .ok (.iload_n 1, 1) := by decide +kernel
theorem dX8_sendLine_3 : decode cX8_sendLine 3 = .ok (.aload_n 0, 1) := by decide +kernel
theorem dX8_sendLine_4 : decode cX8_sendLine 4 = .ok (.getfield 259, 3) := by decide +kernel
theorem dX8_sendLine_7 : decode cX8_sendLine 7 = .ok (.if_icmp .ge 31, 3) := by decide +kernel
theorem dX8_sendLine_10 : decode cX8_sendLine 10 = .ok (.iload_n 1, 1) := by decide +kernel
theorem dX8_sendLine_11 : decode cX8_sendLine 11 = .ok (.bipush 60, 2) := by decide +kernel
theorem dX8_sendLine_13 : decode cX8_sendLine 13 = .ok (.if_icmp .ge 25, 3) := by decide +kernel
theorem dX8_sendLine_16 : decode cX8_sendLine 16 = .ok (.aload_n 0, 1) := by decide +kernel
theorem dX8_sendLine_17 : decode cX8_sendLine 17 = .ok (.getfield 52, 3) := by decide +kernel
theorem dX8_sendLine_20 : decode cX8_sendLine 20 = .ok (.iload_n 1, 1) := by decide +kernel
theorem dX8_sendLine_21 : decode cX8_sendLine 21 = .ok (.aaload, 1) := by decide +kernel
theorem dX8_sendLine_22 : decode cX8_sendLine 22 = .ok (.astore_n 2, 1) := by decide +kernel
theorem dX8_sendLine_23 : decode cX8_sendLine 23 = .ok (.aload_n 2, 1) := by decide +kernel
theorem dX8_sendLine_24 : decode cX8_sendLine 24 = .ok (.ifnull 8, 3) := by decide +kernel
theorem dX8_sendLine_27 : decode cX8_sendLine 27 = .ok (.aload_n 0, 1) := by decide +kernel
theorem dX8_sendLine_28 : decode cX8_sendLine 28 = .ok (.aload_n 2, 1) := by decide +kernel
theorem dX8_sendLine_29 : decode cX8_sendLine 29 = .ok (.invokevirtual 271, 3) := by decide +kernel
theorem dX8_sendLine_32 : decode cX8_sendLine 32 = .ok (.iinc 1 1, 3) := by decide +kernel
theorem dX8_sendLine_35 : decode cX8_sendLine 35 = .ok (.goto (-33), 3) := by decide +kernel
theorem dX8_sendLine_38 : decode cX8_sendLine 38 = .ok (.return_, 1) := by decide +kernel
set_option maxRecDepth 20000 in
theorem ggX8_send_X2_lastStation : GoodIn wsX8_send wsX2_lastStation := goodIn_ca (lq_goor _ [8, 9, 10, 11, 12, 7, 13, 14] rfl (by decide +kernel)) (goodIn_sub (fun _ h => List.mem_cons_of_mem _ (List.mem_append_left _ (List.mem_append_left _ (List.mem_append_left _ (List.mem_append_left _ (List.mem_append_left _ (List.mem_append_right _ h))))))) gw_wsX20)
set_option maxRecDepth 20000 in
theorem gX8_send_X2_lastStation : GoodIn wsX8_send (wsV RX8 180 RX2 yX2_lastStation wsX2_lastStation) := goodIn_app (lq_goor _ [4, 5, 6, 7] rfl (by decide +kernel)) ggX8_send_X2_lastStation
set_option maxRecDepth 20000 in
theorem ggX8_send_X8_voided : GoodIn wsX8_send wsX8_voided := goodIn_ca (goodIn_ca (lq_goor _ [19, 20, 21, 22, 18, 23, 24, 25, 26, 27, 28, 29, 30, 31, 32] rfl (by decide +kernel)) (goodIn_sub (fun _ h => List.mem_cons_of_mem _ (List.mem_append_left _ (List.mem_append_left _ (List.mem_append_left _ (List.mem_append_left _ (List.mem_append_right _ h)))))) gw_wsX80)) (goodIn_sub (fun _ h => List.mem_cons_of_mem _ (List.mem_append_left _ (List.mem_append_left _ (List.mem_append_right _ h)))) gw_wsX60)
set_option maxRecDepth 20000 in
theorem gX8_send_X8_voided : GoodIn wsX8_send (wsV RX8 274 RX8 yX8_voided wsX8_voided) := goodIn_app (lq_goor _ [15, 16, 17, 18] rfl (by decide +kernel)) ggX8_send_X8_voided
set_option maxRecDepth 20000 in
theorem ggX8_send_X2_nextStation : GoodIn wsX8_send wsX2_nextStation := goodIn_ca (lq_goor _ [36, 9, 10, 11, 12, 7, 13, 14] rfl (by decide +kernel)) (goodIn_sub (fun _ h => List.mem_cons_of_mem _ (List.mem_append_left _ (List.mem_append_left _ (List.mem_append_left _ (List.mem_append_left _ (List.mem_append_left _ (List.mem_append_right _ h))))))) gw_wsX20)
set_option maxRecDepth 20000 in
theorem gX8_send_X2_nextStation : GoodIn wsX8_send (wsV RX8 277 RX2 yX2_nextStation wsX2_nextStation) := goodIn_app (lq_goor _ [33, 34, 35, 7] rfl (by decide +kernel)) ggX8_send_X2_nextStation
set_option maxRecDepth 20000 in
theorem ggX8_send_X3_timeBetween : GoodIn wsX8_send wsX3_timeBetween := goodIn_ca (lq_goor _ [41, 42, 43, 31, 18, 32] rfl (by decide +kernel)) (goodIn_sub (fun _ h => List.mem_cons_of_mem _ (List.mem_append_left _ (List.mem_append_right _ h))) gw_wsX30)
set_option maxRecDepth 20000 in
theorem gX8_send_X3_timeBetween : GoodIn wsX8_send (wsV RX8 102 RX3 yX3_timeBetween wsX3_timeBetween) := goodIn_app (lq_goor _ [37, 38, 39, 40] rfl (by decide +kernel)) ggX8_send_X3_timeBetween
set_option maxRecDepth 20000 in
theorem ggX8_send_X8_strongestAt : GoodIn wsX8_send wsX8_strongestAt := goodIn_ca (goodIn_ca (lq_goor _ [47, 48] rfl (by decide +kernel)) (goodIn_sub (fun _ h => List.mem_cons_of_mem _ (List.mem_append_left _ (List.mem_append_left _ (List.mem_append_left _ (List.mem_append_left _ (List.mem_append_right _ h)))))) gw_wsX80)) (goodIn_sub (fun _ h => List.mem_cons_of_mem _ (List.mem_append_left _ (List.mem_append_left _ (List.mem_append_left _ (List.mem_append_right _ h))))) gw_wsX00)
set_option maxRecDepth 20000 in
theorem gX8_send_X8_strongestAt : GoodIn wsX8_send (wsV RX8 280 RX8 yX8_strongestAt wsX8_strongestAt) := goodIn_app (lq_goor _ [44, 45, 46, 18] rfl (by decide +kernel)) ggX8_send_X8_strongestAt
set_option maxRecDepth 20000 in
theorem ggX8_send_X8_horsesAt : GoodIn wsX8_send wsX8_horsesAt := goodIn_ca (goodIn_ca (lq_goor _ [52, 48] rfl (by decide +kernel)) (goodIn_sub (fun _ h => List.mem_cons_of_mem _ (List.mem_append_left _ (List.mem_append_left _ (List.mem_append_left _ (List.mem_append_left _ (List.mem_append_right _ h)))))) gw_wsX80)) (goodIn_sub (fun _ h => List.mem_cons_of_mem _ (List.mem_append_left _ (List.mem_append_left _ (List.mem_append_left _ (List.mem_append_right _ h))))) gw_wsX00)
set_option maxRecDepth 20000 in
theorem gX8_send_X8_horsesAt : GoodIn wsX8_send (wsV RX8 212 RX8 yX8_horsesAt wsX8_horsesAt) := goodIn_app (lq_goor _ [49, 50, 51, 18] rfl (by decide +kernel)) ggX8_send_X8_horsesAt
set_option maxRecDepth 20000 in
theorem ggX8_send_X5_keepFor : GoodIn wsX8_send wsX5_keepFor := goodIn_ca (lq_goor _ [57, 58] rfl (by decide +kernel)) (goodIn_sub (fun _ h => List.mem_cons_of_mem _ (List.mem_append_right _ h)) gw_wsX50)
set_option maxRecDepth 20000 in
theorem gX8_send_X5_keepFor : GoodIn wsX8_send (wsV RX8 283 RX5 yX5_keepFor wsX5_keepFor) := goodIn_app (lq_goor _ [53, 54, 55, 56] rfl (by decide +kernel)) ggX8_send_X5_keepFor
set_option maxRecDepth 20000 in
theorem ggX8_send_X5_tire : GoodIn wsX8_send wsX5_tire := goodIn_ca (lq_goor _ [62, 58] rfl (by decide +kernel)) (goodIn_sub (fun _ h => List.mem_cons_of_mem _ (List.mem_append_right _ h)) gw_wsX50)
set_option maxRecDepth 20000 in
theorem gX8_send_X5_tire : GoodIn wsX8_send (wsV RX8 286 RX5 yX5_tire wsX5_tire) := goodIn_app (lq_goor _ [59, 60, 61, 56] rfl (by decide +kernel)) ggX8_send_X5_tire
set_option maxRecDepth 20000 in
theorem ggX8_send_X2_leaveOn : GoodIn wsX8_send wsX2_leaveOn := goodIn_ca (lq_goor _ [66, 67, 68, 69, 70] rfl (by decide +kernel)) (goodIn_sub (fun _ h => List.mem_cons_of_mem _ (List.mem_append_left _ (List.mem_append_left _ (List.mem_append_left _ (List.mem_append_left _ (List.mem_append_left _ (List.mem_append_right _ h))))))) gw_wsX20)
set_option maxRecDepth 20000 in
theorem gX8_send_X2_leaveOn : GoodIn wsX8_send (wsV RX8 289 RX2 yX2_leaveOn wsX2_leaveOn) := goodIn_app (lq_goor _ [63, 64, 65, 7] rfl (by decide +kernel)) ggX8_send_X2_leaveOn
theorem dX8_send_0 : decode cX8_send 0 = .ok (.aload_n 1, 1) := by decide +kernel
theorem dX8_send_1 : decode cX8_send 1 = .ok (.invokevirtual 180, 3) := by decide +kernel
theorem dX8_send_4 : decode cX8_send 4 = .ok (.istore_n 2, 1) := by decide +kernel
theorem dX8_send_5 : decode cX8_send 5 = .ok (.aload_n 0, 1) := by decide +kernel
theorem dX8_send_6 : decode cX8_send 6 = .ok (.aload_n 1, 1) := by decide +kernel
theorem dX8_send_7 : decode cX8_send 7 = .ok (.getfield 193, 3) := by decide +kernel
theorem dX8_send_10 : decode cX8_send 10 = .ok (.iload_n 2, 1) := by decide +kernel
theorem dX8_send_11 : decode cX8_send 11 = .ok (.invokevirtual 274, 3) := by decide +kernel
theorem dX8_send_14 : decode cX8_send 14 = .ok (.iconst (-1), 1) := by decide +kernel
theorem dX8_send_15 : decode cX8_send 15 = .ok (.if_icmp .eq 9, 3) := by decide +kernel
theorem dX8_send_18 : decode cX8_send 18 = .ok (.aload_n 1, 1) := by decide +kernel
theorem dX8_send_19 : decode cX8_send 19 = .ok (.iconst 3, 1) := by decide +kernel
theorem dX8_send_20 : decode cX8_send 20 = .ok (.putfield 158, 3) := by decide +kernel
theorem dX8_send_23 : decode cX8_send 23 = .ok (.return_, 1) := by decide +kernel
theorem dX8_send_24 : decode cX8_send 24 = .ok (.aload_n 0, 1) := by decide +kernel
theorem dX8_send_25 : decode cX8_send 25 = .ok (.getfield 19, 3) := by decide +kernel
theorem dX8_send_28 : decode cX8_send 28 = .ok (.iload_n 2, 1) := by decide +kernel
theorem dX8_send_29 : decode cX8_send 29 = .ok (.aload_n 1, 1) := by decide +kernel
theorem dX8_send_30 : decode cX8_send 30 = .ok (.invokevirtual 277, 3) := by decide +kernel
theorem dX8_send_33 : decode cX8_send 33 = .ok (.invokevirtual 102, 3) := by decide +kernel
theorem dX8_send_36 : decode cX8_send 36 = .ok (.istore_n 3, 1) := by decide +kernel
theorem dX8_send_37 : decode cX8_send 37 = .ok (.aload_n 0, 1) := by decide +kernel
theorem dX8_send_38 : decode cX8_send 38 = .ok (.iload_n 2, 1) := by decide +kernel
theorem dX8_send_39 : decode cX8_send 39 = .ok (.invokevirtual 280, 3) := by decide +kernel
theorem dX8_send_42 : decode cX8_send 42 = .ok (.astore 4, 2) := by decide +kernel
theorem dX8_send_44 : decode cX8_send 44 = .ok (.iload_n 3, 1) := by decide +kernel
theorem dX8_send_45 : decode cX8_send 45 = .ok (.iconst (-1), 1) := by decide +kernel
theorem dX8_send_46 : decode cX8_send 46 = .ok (.if_icmp .eq 44, 3) := by decide +kernel
theorem dX8_send_49 : decode cX8_send 49 = .ok (.aload 4, 2) := by decide +kernel
theorem dX8_send_51 : decode cX8_send 51 = .ok (.ifnull 39, 3) := by decide +kernel
theorem dX8_send_54 : decode cX8_send 54 = .ok (.aload_n 0, 1) := by decide +kernel
theorem dX8_send_55 : decode cX8_send 55 = .ok (.iload_n 2, 1) := by decide +kernel
theorem dX8_send_56 : decode cX8_send 56 = .ok (.invokevirtual 212, 3) := by decide +kernel
theorem dX8_send_59 : decode cX8_send 59 = .ok (.aload_n 0, 1) := by decide +kernel
theorem dX8_send_60 : decode cX8_send 60 = .ok (.getfield 58, 3) := by decide +kernel
theorem dX8_send_63 : decode cX8_send 63 = .ok (.aload_n 1, 1) := by decide +kernel
theorem dX8_send_64 : decode cX8_send 64 = .ok (.getfield 270, 3) := by decide +kernel
theorem dX8_send_67 : decode cX8_send 67 = .ok (.invokevirtual 283, 3) := by decide +kernel
theorem dX8_send_70 : decode cX8_send 70 = .ok (.if_icmp .le 20, 3) := by decide +kernel
theorem dX8_send_73 : decode cX8_send 73 = .ok (.aload 4, 2) := by decide +kernel
theorem dX8_send_75 : decode cX8_send 75 = .ok (.getfield 206, 3) := by decide +kernel
theorem dX8_send_78 : decode cX8_send 78 = .ok (.aload_n 0, 1) := by decide +kernel
theorem dX8_send_79 : decode cX8_send 79 = .ok (.getfield 58, 3) := by decide +kernel
theorem dX8_send_82 : decode cX8_send 82 = .ok (.invokevirtual 286, 3) := by decide +kernel
theorem dX8_send_85 : decode cX8_send 85 = .ok (.iload_n 3, 1) := by decide +kernel
theorem dX8_send_86 : decode cX8_send 86 = .ok (.imul, 1) := by decide +kernel
theorem dX8_send_87 : decode cX8_send 87 = .ok (.if_icmp .ge 4, 3) := by decide +kernel
theorem dX8_send_90 : decode cX8_send 90 = .ok (.return_, 1) := by decide +kernel
theorem dX8_send_91 : decode cX8_send 91 = .ok (.aload 4, 2) := by decide +kernel
theorem dX8_send_93 : decode cX8_send 93 = .ok (.iconst (-1), 1) := by decide +kernel
theorem dX8_send_94 : decode cX8_send 94 = .ok (.putfield 209, 3) := by decide +kernel
theorem dX8_send_97 : decode cX8_send 97 = .ok (.aload_n 1, 1) := by decide +kernel
theorem dX8_send_98 : decode cX8_send 98 = .ok (.aload 4, 2) := by decide +kernel
theorem dX8_send_100 : decode cX8_send 100 = .ok (.aload_n 0, 1) := by decide +kernel
theorem dX8_send_101 : decode cX8_send 101 = .ok (.getfield 140, 3) := by decide +kernel
theorem dX8_send_104 : decode cX8_send 104 = .ok (.iload_n 3, 1) := by decide +kernel
theorem dX8_send_105 : decode cX8_send 105 = .ok (.invokevirtual 289, 3) := by decide +kernel
theorem dX8_send_108 : decode cX8_send 108 = .ok (.return_, 1) := by decide +kernel
set_option maxRecDepth 20000 in
theorem ggX8_bringComers_X8_bring : GoodIn wsX8_bringComers wsX8_bring := goodIn_ca (goodIn_ca (goodIn_ca (goodIn_ca (goodIn_ca (lq_goor _ [7, 8, 2, 9, 10, 11, 12, 13, 14, 15, 16, 17, 18, 19, 20, 21, 22, 23, 24, 25, 26, 27, 28, 29, 30, 31, 32, 33, 34, 35, 36, 37, 38, 39, 40, 41, 42, 6, 43, 44, 45, 46, 47, 48, 49, 50, 51, 52, 53, 54, 55, 56, 57, 58, 59, 60, 61, 62, 63, 64, 65, 66, 67, 68] rfl (by decide +kernel)) (goodIn_sub (fun _ h => List.mem_cons_of_mem _ (List.mem_append_left _ (List.mem_append_left _ (List.mem_append_left _ (List.mem_append_left _ (List.mem_append_right _ h)))))) gw_wsX80)) (goodIn_sub (fun _ h => List.mem_cons_of_mem _ (List.mem_append_left _ (List.mem_append_left _ (List.mem_append_left _ (List.mem_append_right _ h))))) gw_wsX20)) (goodIn_sub (fun _ h => List.mem_cons_of_mem _ (List.mem_append_left _ (List.mem_append_left _ (List.mem_append_right _ h)))) gw_wsX00)) (goodIn_sub (fun _ h => List.mem_cons_of_mem _ (List.mem_append_left _ (List.mem_append_right _ h))) gw_wsX50)) (goodIn_sub (fun _ h => List.mem_cons_of_mem _ (List.mem_append_right _ h)) gw_wsX60)
set_option maxRecDepth 20000 in
theorem gX8_bringComers_X8_bring : GoodIn wsX8_bringComers (wsV RX8 303 RX8 yX8_bring wsX8_bring) := goodIn_app (lq_goor _ [3, 4, 5, 6] rfl (by decide +kernel)) ggX8_bringComers_X8_bring
theorem dX8_bringComers_0 : decode cX8_bringComers 0 = .ok (.aload_n 0, 1) := by decide +kernel
theorem dX8_bringComers_1 : decode cX8_bringComers 1 = .ok (.getfield 48, 3) := by decide +kernel
theorem dX8_bringComers_4 : decode cX8_bringComers 4 = .ok (.astore_n 1, 1) := by decide +kernel
theorem dX8_bringComers_5 : decode cX8_bringComers 5 = .ok (.aload_n 1, 1) := by decide +kernel
theorem dX8_bringComers_6 : decode cX8_bringComers 6 = .ok (.arraylength, 1) := by decide +kernel
theorem dX8_bringComers_7 : decode cX8_bringComers 7 = .ok (.istore_n 2, 1) := by decide +kernel
theorem dX8_bringComers_8 : decode cX8_bringComers 8 = .ok (.iconst 0, 1) := by decide +kernel
theorem dX8_bringComers_9 : decode cX8_bringComers 9 = .ok (.istore_n 3, 1) := by decide +kernel
theorem dX8_bringComers_10 : decode cX8_bringComers 10 = .ok (.iload_n 3, 1) := by decide +kernel
theorem dX8_bringComers_11 : decode cX8_bringComers 11 = .ok (.iload_n 2, 1) := by decide +kernel
theorem dX8_bringComers_12 : decode cX8_bringComers 12 = .ok (.if_icmp .ge 56, 3) := by decide +kernel
theorem dX8_bringComers_15 : decode cX8_bringComers 15 = .ok (.aload_n 1, 1) := by decide +kernel
theorem dX8_bringComers_16 : decode cX8_bringComers 16 = .ok (.iload_n 3, 1) := by decide +kernel
theorem dX8_bringComers_17 : decode cX8_bringComers 17 = .ok (.aaload, 1) := by decide +kernel
theorem dX8_bringComers_18 : decode cX8_bringComers 18 = .ok (.astore 4, 2) := by decide +kernel
theorem dX8_bringComers_20 : decode cX8_bringComers 20 = .ok (.aload 4, 2) := by decide +kernel
theorem dX8_bringComers_22 : decode cX8_bringComers 22 = .ok (.ifnull 40, 3) := by decide +kernel
theorem dX8_bringComers_25 : decode cX8_bringComers 25 = .ok (.aload 4, 2) := by decide +kernel
theorem dX8_bringComers_27 : decode cX8_bringComers 27 = .ok (.getfield 293, 3) := by decide +kernel
theorem dX8_bringComers_30 : decode cX8_bringComers 30 = .ok (.ifnull 32, 3) := by decide +kernel
theorem dX8_bringComers_33 : decode cX8_bringComers 33 = .ok (.aload 4, 2) := by decide +kernel
theorem dX8_bringComers_35 : decode cX8_bringComers 35 = .ok (.getfield 297, 3) := by decide +kernel
theorem dX8_bringComers_38 : decode cX8_bringComers 38 = .ok (.aload 4, 2) := by decide +kernel
theorem dX8_bringComers_40 : decode cX8_bringComers 40 = .ok (.getfield 300, 3) := by decide +kernel
theorem dX8_bringComers_43 : decode cX8_bringComers 43 = .ok (.iadd, 1) := by decide +kernel
theorem dX8_bringComers_44 : decode cX8_bringComers 44 = .ok (.aload_n 0, 1) := by decide +kernel
theorem dX8_bringComers_45 : decode cX8_bringComers 45 = .ok (.getfield 140, 3) := by decide +kernel
theorem dX8_bringComers_48 : decode cX8_bringComers 48 = .ok (.if_icmp .gt 14, 3) := by decide +kernel
theorem dX8_bringComers_51 : decode cX8_bringComers 51 = .ok (.aload_n 0, 1) := by decide +kernel
theorem dX8_bringComers_52 : decode cX8_bringComers 52 = .ok (.aload 4, 2) := by decide +kernel
theorem dX8_bringComers_54 : decode cX8_bringComers 54 = .ok (.aload 4, 2) := by decide +kernel
theorem dX8_bringComers_56 : decode cX8_bringComers 56 = .ok (.getfield 293, 3) := by decide +kernel
theorem dX8_bringComers_59 : decode cX8_bringComers 59 = .ok (.invokevirtual 303, 3) := by decide +kernel
theorem dX8_bringComers_62 : decode cX8_bringComers 62 = .ok (.iinc 3 1, 3) := by decide +kernel
theorem dX8_bringComers_65 : decode cX8_bringComers 65 = .ok (.goto (-55), 3) := by decide +kernel
theorem dX8_bringComers_68 : decode cX8_bringComers 68 = .ok (.return_, 1) := by decide +kernel
set_option maxRecDepth 20000 in
theorem ggX8_bring_X2_nextStation : GoodIn wsX8_bring wsX2_nextStation := goodIn_ca (lq_goor _ [7, 8, 9, 10, 11, 6, 12, 13] rfl (by decide +kernel)) (goodIn_sub (fun _ h => List.mem_cons_of_mem _ (List.mem_append_left _ (List.mem_append_left _ (List.mem_append_left _ (List.mem_append_right _ h))))) gw_wsX20)
set_option maxRecDepth 20000 in
theorem gX8_bring_X2_nextStation : GoodIn wsX8_bring (wsV RX8 277 RX2 yX2_nextStation wsX2_nextStation) := goodIn_app (lq_goor _ [3, 4, 5, 6] rfl (by decide +kernel)) ggX8_bring_X2_nextStation
set_option maxRecDepth 20000 in
theorem ggX8_bring_X5_tire : GoodIn wsX8_bring wsX5_tire := goodIn_ca (lq_goor _ [18, 19] rfl (by decide +kernel)) (goodIn_sub (fun _ h => List.mem_cons_of_mem _ (List.mem_append_left _ (List.mem_append_right _ h))) gw_wsX50)
set_option maxRecDepth 20000 in
theorem gX8_bring_X5_tire : GoodIn wsX8_bring (wsV RX8 286 RX5 yX5_tire wsX5_tire) := goodIn_app (lq_goor _ [14, 15, 16, 17] rfl (by decide +kernel)) ggX8_bring_X5_tire
set_option maxRecDepth 20000 in
theorem ggX8_bring_X0_weaken : GoodIn wsX8_bring wsX0_weaken := goodIn_ca (lq_goor _ [24, 25, 26, 27, 28, 29] rfl (by decide +kernel)) (goodIn_sub (fun _ h => List.mem_cons_of_mem _ (List.mem_append_left _ (List.mem_append_left _ (List.mem_append_right _ h)))) gw_wsX00)
set_option maxRecDepth 20000 in
theorem gX8_bring_X0_weaken : GoodIn wsX8_bring (wsV RX8 256 RX0 yX0_weaken wsX0_weaken) := goodIn_app (lq_goor _ [20, 21, 22, 23] rfl (by decide +kernel)) ggX8_bring_X0_weaken
set_option maxRecDepth 20000 in
theorem ggX8_bring_X2_lastStation : GoodIn wsX8_bring wsX2_lastStation := goodIn_ca (lq_goor _ [33, 8, 9, 10, 11, 6, 12, 13] rfl (by decide +kernel)) (goodIn_sub (fun _ h => List.mem_cons_of_mem _ (List.mem_append_left _ (List.mem_append_left _ (List.mem_append_left _ (List.mem_append_right _ h))))) gw_wsX20)
set_option maxRecDepth 20000 in
theorem gX8_bring_X2_lastStation : GoodIn wsX8_bring (wsV RX8 180 RX2 yX2_lastStation wsX2_lastStation) := goodIn_app (lq_goor _ [30, 31, 32, 6] rfl (by decide +kernel)) ggX8_bring_X2_lastStation
set_option maxRecDepth 20000 in
theorem ggX8_bring_X8_carryVoids : GoodIn wsX8_bring wsX8_carryVoids := goodIn_ca (goodIn_ca (lq_goor _ [38, 39, 2, 40, 41, 42, 43, 44, 45, 46, 47, 48, 49, 50, 37, 51, 52, 53, 54, 55] rfl (by decide +kernel)) (goodIn_sub (fun _ h => List.mem_cons_of_mem _ (List.mem_append_left _ (List.mem_append_left _ (List.mem_append_left _ (List.mem_append_left _ (List.mem_append_right _ h)))))) gw_wsX80)) (goodIn_sub (fun _ h => List.mem_cons_of_mem _ (List.mem_append_right _ h)) gw_wsX60)
set_option maxRecDepth 20000 in
theorem gX8_bring_X8_carryVoids : GoodIn wsX8_bring (wsV RX8 307 RX8 yX8_carryVoids wsX8_carryVoids) := goodIn_app (lq_goor _ [34, 35, 36, 37] rfl (by decide +kernel)) ggX8_bring_X8_carryVoids
set_option maxRecDepth 20000 in
theorem ggX8_bring_X2_comeToNextStation : GoodIn wsX8_bring wsX2_comeToNextStation := goodIn_ca (lq_goor _ [59, 60, 61, 8, 13, 62, 63, 4, 5, 6, 7, 9, 10, 11, 12, 50, 37, 51] rfl (by decide +kernel)) (goodIn_sub (fun _ h => List.mem_cons_of_mem _ (List.mem_append_left _ (List.mem_append_left _ (List.mem_append_left _ (List.mem_append_right _ h))))) gw_wsX20)
set_option maxRecDepth 20000 in
theorem gX8_bring_X2_comeToNextStation : GoodIn wsX8_bring (wsV RX8 143 RX2 yX2_comeToNextStation wsX2_comeToNextStation) := goodIn_app (lq_goor _ [56, 57, 58, 6] rfl (by decide +kernel)) ggX8_bring_X2_comeToNextStation
theorem dX8_bring_0 : decode cX8_bring 0 = .ok (.aload_n 1, 1) := by decide +kernel
theorem dX8_bring_1 : decode cX8_bring 1 = .ok (.invokevirtual 277, 3) := by decide +kernel
theorem dX8_bring_4 : decode cX8_bring 4 = .ok (.istore_n 3, 1) := by decide +kernel
theorem dX8_bring_5 : decode cX8_bring 5 = .ok (.aload_n 2, 1) := by decide +kernel
theorem dX8_bring_6 : decode cX8_bring 6 = .ok (.aload_n 0, 1) := by decide +kernel
theorem dX8_bring_7 : decode cX8_bring 7 = .ok (.getfield 58, 3) := by decide +kernel
theorem dX8_bring_10 : decode cX8_bring 10 = .ok (.invokevirtual 286, 3) := by decide +kernel
theorem dX8_bring_13 : decode cX8_bring 13 = .ok (.aload_n 1, 1) := by decide +kernel
theorem dX8_bring_14 : decode cX8_bring 14 = .ok (.getfield 300, 3) := by decide +kernel
theorem dX8_bring_17 : decode cX8_bring 17 = .ok (.imul, 1) := by decide +kernel
theorem dX8_bring_18 : decode cX8_bring 18 = .ok (.invokevirtual 256, 3) := by decide +kernel
theorem dX8_bring_21 : decode cX8_bring 21 = .ok (.aload_n 2, 1) := by decide +kernel
theorem dX8_bring_22 : decode cX8_bring 22 = .ok (.iload_n 3, 1) := by decide +kernel
theorem dX8_bring_23 : decode cX8_bring 23 = .ok (.putfield 209, 3) := by decide +kernel
theorem dX8_bring_26 : decode cX8_bring 26 = .ok (.aload_n 1, 1) := by decide +kernel
theorem dX8_bring_27 : decode cX8_bring 27 = .ok (.aconst_null, 1) := by decide +kernel
theorem dX8_bring_28 : decode cX8_bring 28 = .ok (.putfield 293, 3) := by decide +kernel
theorem dX8_bring_31 : decode cX8_bring 31 = .ok (.aload_n 1, 1) := by decide +kernel
theorem dX8_bring_32 : decode cX8_bring 32 = .ok (.getfield 158, 3) := by decide +kernel
theorem dX8_bring_35 : decode cX8_bring 35 = .ok (.iconst 1, 1) := by decide +kernel
theorem dX8_bring_36 : decode cX8_bring 36 = .ok (.if_icmp .ne 24, 3) := by decide +kernel
theorem dX8_bring_39 : decode cX8_bring 39 = .ok (.aload_n 0, 1) := by decide +kernel
theorem dX8_bring_40 : decode cX8_bring 40 = .ok (.aload_n 1, 1) := by decide +kernel
theorem dX8_bring_41 : decode cX8_bring 41 = .ok (.invokevirtual 180, 3) := by decide +kernel
theorem dX8_bring_44 : decode cX8_bring 44 = .ok (.iload_n 3, 1) := by decide +kernel
theorem dX8_bring_45 : decode cX8_bring 45 = .ok (.aload_n 1, 1) := by decide +kernel
theorem dX8_bring_46 : decode cX8_bring 46 = .ok (.getfield 297, 3) := by decide +kernel
theorem dX8_bring_49 : decode cX8_bring 49 = .ok (.invokevirtual 307, 3) := by decide +kernel
theorem dX8_bring_52 : decode cX8_bring 52 = .ok (.aload_n 1, 1) := by decide +kernel
theorem dX8_bring_53 : decode cX8_bring 53 = .ok (.aload_n 0, 1) := by decide +kernel
theorem dX8_bring_54 : decode cX8_bring 54 = .ok (.getfield 140, 3) := by decide +kernel
theorem dX8_bring_57 : decode cX8_bring 57 = .ok (.invokevirtual 143, 3) := by decide +kernel
theorem dX8_bring_60 : decode cX8_bring 60 = .ok (.return_, 1) := by decide +kernel
set_option maxRecDepth 20000 in
theorem ggX8_carryVoids_X6_wasVoid : GoodIn wsX8_carryVoids wsX6_wasVoid := goodIn_ca (lq_goor _ [7, 8, 9, 10, 6, 11, 12, 13, 14, 15] rfl (by decide +kernel)) (goodIn_sub (fun _ h => List.mem_cons_of_mem _ (List.mem_append_right _ h)) gw_wsX60)
set_option maxRecDepth 20000 in
theorem gX8_carryVoids_X6_wasVoid : GoodIn wsX8_carryVoids (wsV RX8 310 RX6 yX6_wasVoid wsX6_wasVoid) := goodIn_app (lq_goor _ [3, 4, 5, 6] rfl (by decide +kernel)) ggX8_carryVoids_X6_wasVoid
set_option maxRecDepth 20000 in
theorem ggX8_carryVoids_X6_tellVoid : GoodIn wsX8_carryVoids wsX6_tellVoid := goodIn_ca (lq_goor _ [19, 12, 13, 14, 15] rfl (by decide +kernel)) (goodIn_sub (fun _ h => List.mem_cons_of_mem _ (List.mem_append_right _ h)) gw_wsX60)
set_option maxRecDepth 20000 in
theorem gX8_carryVoids_X6_tellVoid : GoodIn wsX8_carryVoids (wsV RX8 146 RX6 yX6_tellVoid wsX6_tellVoid) := goodIn_app (lq_goor _ [16, 17, 18, 6] rfl (by decide +kernel)) ggX8_carryVoids_X6_tellVoid
theorem dX8_carryVoids_0 : decode cX8_carryVoids 0 = .ok (.aload_n 0, 1) := by decide +kernel
theorem dX8_carryVoids_1 : decode cX8_carryVoids 1 = .ok (.getfield 42, 3) := by decide +kernel
theorem dX8_carryVoids_4 : decode cX8_carryVoids 4 = .ok (.astore 4, 2) := by decide +kernel
theorem dX8_carryVoids_6 : decode cX8_carryVoids 6 = .ok (.aload 4, 2) := by decide +kernel
theorem dX8_carryVoids_8 : decode cX8_carryVoids 8 = .ok (.arraylength, 1) := by decide +kernel
theorem dX8_carryVoids_9 : decode cX8_carryVoids 9 = .ok (.istore 5, 2) := by decide +kernel
theorem dX8_carryVoids_11 : decode cX8_carryVoids 11 = .ok (.iconst 0, 1) := by decide +kernel
theorem dX8_carryVoids_12 : decode cX8_carryVoids 12 = .ok (.istore 6, 2) := by decide +kernel
theorem dX8_carryVoids_14 : decode cX8_carryVoids 14 = .ok (.iload 6, 2) := by decide +kernel
theorem dX8_carryVoids_16 : decode cX8_carryVoids 16 = .ok (.iload 5, 2) := by decide +kernel
theorem dX8_carryVoids_18 : decode cX8_carryVoids 18 = .ok (.if_icmp .ge 42, 3) := by decide +kernel
theorem dX8_carryVoids_21 : decode cX8_carryVoids 21 = .ok (.aload 4, 2) := by decide +kernel
theorem dX8_carryVoids_23 : decode cX8_carryVoids 23 = .ok (.iload 6, 2) := by decide +kernel
theorem dX8_carryVoids_25 : decode cX8_carryVoids 25 = .ok (.aaload, 1) := by decide +kernel
theorem dX8_carryVoids_26 : decode cX8_carryVoids 26 = .ok (.astore 7, 2) := by decide +kernel
theorem dX8_carryVoids_28 : decode cX8_carryVoids 28 = .ok (.aload 7, 2) := by decide +kernel
theorem dX8_carryVoids_30 : decode cX8_carryVoids 30 = .ok (.ifnull 24, 3) := by decide +kernel
theorem dX8_carryVoids_33 : decode cX8_carryVoids 33 = .ok (.aload 7, 2) := by decide +kernel
theorem dX8_carryVoids_35 : decode cX8_carryVoids 35 = .ok (.iload_n 1, 1) := by decide +kernel
theorem dX8_carryVoids_36 : decode cX8_carryVoids 36 = .ok (.iload_n 3, 1) := by decide +kernel
theorem dX8_carryVoids_37 : decode cX8_carryVoids 37 = .ok (.invokevirtual 310, 3) := by decide +kernel
theorem dX8_carryVoids_40 : decode cX8_carryVoids 40 = .ok (.ifCond .eq 14, 3) := by decide +kernel
theorem dX8_carryVoids_43 : decode cX8_carryVoids 43 = .ok (.aload 7, 2) := by decide +kernel
theorem dX8_carryVoids_45 : decode cX8_carryVoids 45 = .ok (.iload_n 2, 1) := by decide +kernel
theorem dX8_carryVoids_46 : decode cX8_carryVoids 46 = .ok (.aload_n 0, 1) := by decide +kernel
theorem dX8_carryVoids_47 : decode cX8_carryVoids 47 = .ok (.getfield 140, 3) := by decide +kernel
theorem dX8_carryVoids_50 : decode cX8_carryVoids 50 = .ok (.invokevirtual 146, 3) := by decide +kernel
theorem dX8_carryVoids_53 : decode cX8_carryVoids 53 = .ok (.pop, 1) := by decide +kernel
theorem dX8_carryVoids_54 : decode cX8_carryVoids 54 = .ok (.iinc 6 1, 3) := by decide +kernel
theorem dX8_carryVoids_57 : decode cX8_carryVoids 57 = .ok (.goto (-43), 3) := by decide +kernel
theorem dX8_carryVoids_60 : decode cX8_carryVoids 60 = .ok (.return_, 1) := by decide +kernel
theorem dX9_init_0 : decode cX9_init 0 = .ok (.aload_n 0, 1) := by decide +kernel
theorem dX9_init_1 : decode cX9_init 1 = .ok (.invokespecial 1, 3) := by decide +kernel
theorem dX9_init_4 : decode cX9_init 4 = .ok (.aload_n 0, 1) := by decide +kernel
theorem dX9_init_5 : decode cX9_init 5 = .ok (.sipush 200, 3) := by decide +kernel
theorem dX9_init_8 : decode cX9_init 8 = .ok (.newarray .byte, 2) := by decide +kernel
theorem dX9_init_10 : decode cX9_init 10 = .ok (.putfield 7, 3) := by decide +kernel
theorem dX9_init_13 : decode cX9_init 13 = .ok (.aload_n 0, 1) := by decide +kernel
theorem dX9_init_14 : decode cX9_init 14 = .ok (.bipush 6, 2) := by decide +kernel
theorem dX9_init_16 : decode cX9_init 16 = .ok (.newarray .int, 2) := by decide +kernel
theorem dX9_init_18 : decode cX9_init 18 = .ok (.dup, 1) := by decide +kernel
theorem dX9_init_19 : decode cX9_init 19 = .ok (.iconst 0, 1) := by decide +kernel
theorem dX9_init_20 : decode cX9_init 20 = .ok (.iconst 2, 1) := by decide +kernel
theorem dX9_init_21 : decode cX9_init 21 = .ok (.iastore, 1) := by decide +kernel
theorem dX9_init_22 : decode cX9_init 22 = .ok (.dup, 1) := by decide +kernel
theorem dX9_init_23 : decode cX9_init 23 = .ok (.iconst 1, 1) := by decide +kernel
theorem dX9_init_24 : decode cX9_init 24 = .ok (.iconst 3, 1) := by decide +kernel
theorem dX9_init_25 : decode cX9_init 25 = .ok (.iastore, 1) := by decide +kernel
theorem dX9_init_26 : decode cX9_init 26 = .ok (.dup, 1) := by decide +kernel
theorem dX9_init_27 : decode cX9_init 27 = .ok (.iconst 2, 1) := by decide +kernel
theorem dX9_init_28 : decode cX9_init 28 = .ok (.iconst 1, 1) := by decide +kernel
theorem dX9_init_29 : decode cX9_init 29 = .ok (.iastore, 1) := by decide +kernel
theorem dX9_init_30 : decode cX9_init 30 = .ok (.dup, 1) := by decide +kernel
theorem dX9_init_31 : decode cX9_init 31 = .ok (.iconst 3, 1) := by decide +kernel
theorem dX9_init_32 : decode cX9_init 32 = .ok (.iconst 0, 1) := by decide +kernel
theorem dX9_init_33 : decode cX9_init 33 = .ok (.iastore, 1) := by decide +kernel
theorem dX9_init_34 : decode cX9_init 34 = .ok (.dup, 1) := by decide +kernel
theorem dX9_init_35 : decode cX9_init 35 = .ok (.iconst 4, 1) := by decide +kernel
theorem dX9_init_36 : decode cX9_init 36 = .ok (.iconst 0, 1) := by decide +kernel
theorem dX9_init_37 : decode cX9_init 37 = .ok (.iastore, 1) := by decide +kernel
theorem dX9_init_38 : decode cX9_init 38 = .ok (.dup, 1) := by decide +kernel
theorem dX9_init_39 : decode cX9_init 39 = .ok (.iconst 5, 1) := by decide +kernel
theorem dX9_init_40 : decode cX9_init 40 = .ok (.iconst 0, 1) := by decide +kernel
theorem dX9_init_41 : decode cX9_init 41 = .ok (.iastore, 1) := by decide +kernel
theorem dX9_init_42 : decode cX9_init 42 = .ok (.putfield 13, 3) := by decide +kernel
theorem dX9_init_45 : decode cX9_init 45 = .ok (.aload_n 0, 1) := by decide +kernel
theorem dX9_init_46 : decode cX9_init 46 = .ok (.bipush 6, 2) := by decide +kernel
theorem dX9_init_48 : decode cX9_init 48 = .ok (.newarray .int, 2) := by decide +kernel
theorem dX9_init_50 : decode cX9_init 50 = .ok (.putfield 17, 3) := by decide +kernel
theorem dX9_init_53 : decode cX9_init 53 = .ok (.aload_n 0, 1) := by decide +kernel
theorem dX9_init_54 : decode cX9_init 54 = .ok (.bipush 6, 2) := by decide +kernel
theorem dX9_init_56 : decode cX9_init 56 = .ok (.newarray .boolean, 2) := by decide +kernel
theorem dX9_init_58 : decode cX9_init 58 = .ok (.putfield 20, 3) := by decide +kernel
theorem dX9_init_61 : decode cX9_init 61 = .ok (.aload_n 0, 1) := by decide +kernel
theorem dX9_init_62 : decode cX9_init 62 = .ok (.sipush 144, 3) := by decide +kernel
theorem dX9_init_65 : decode cX9_init 65 = .ok (.newarray .int, 2) := by decide +kernel
theorem dX9_init_67 : decode cX9_init 67 = .ok (.putfield 24, 3) := by decide +kernel
theorem dX9_init_70 : decode cX9_init 70 = .ok (.aload_n 0, 1) := by decide +kernel
theorem dX9_init_71 : decode cX9_init 71 = .ok (.sipush 144, 3) := by decide +kernel
theorem dX9_init_74 : decode cX9_init 74 = .ok (.newarray .int, 2) := by decide +kernel
theorem dX9_init_76 : decode cX9_init 76 = .ok (.putfield 27, 3) := by decide +kernel
theorem dX9_init_79 : decode cX9_init 79 = .ok (.aload_n 0, 1) := by decide +kernel
theorem dX9_init_80 : decode cX9_init 80 = .ok (.bipush 12, 2) := by decide +kernel
theorem dX9_init_82 : decode cX9_init 82 = .ok (.newarray .int, 2) := by decide +kernel
theorem dX9_init_84 : decode cX9_init 84 = .ok (.putfield 30, 3) := by decide +kernel
theorem dX9_init_87 : decode cX9_init 87 = .ok (.aload_n 0, 1) := by decide +kernel
theorem dX9_init_88 : decode cX9_init 88 = .ok (.bipush 12, 2) := by decide +kernel
theorem dX9_init_90 : decode cX9_init 90 = .ok (.newarray .int, 2) := by decide +kernel
theorem dX9_init_92 : decode cX9_init 92 = .ok (.putfield 33, 3) := by decide +kernel
theorem dX9_init_95 : decode cX9_init 95 = .ok (.aload_n 0, 1) := by decide +kernel
theorem dX9_init_96 : decode cX9_init 96 = .ok (.bipush 60, 2) := by decide +kernel
theorem dX9_init_98 : decode cX9_init 98 = .ok (.newarray .int, 2) := by decide +kernel
theorem dX9_init_100 : decode cX9_init 100 = .ok (.putfield 36, 3) := by decide +kernel
theorem dX9_init_103 : decode cX9_init 103 = .ok (.aload_n 0, 1) := by decide +kernel
theorem dX9_init_104 : decode cX9_init 104 = .ok (.bipush 60, 2) := by decide +kernel
theorem dX9_init_106 : decode cX9_init 106 = .ok (.newarray .int, 2) := by decide +kernel
theorem dX9_init_108 : decode cX9_init 108 = .ok (.putfield 39, 3) := by decide +kernel
theorem dX9_init_111 : decode cX9_init 111 = .ok (.aload_n 0, 1) := by decide +kernel
theorem dX9_init_112 : decode cX9_init 112 = .ok (.bipush 20, 2) := by decide +kernel
theorem dX9_init_114 : decode cX9_init 114 = .ok (.newarray .int, 2) := by decide +kernel
theorem dX9_init_116 : decode cX9_init 116 = .ok (.putfield 42, 3) := by decide +kernel
theorem dX9_init_119 : decode cX9_init 119 = .ok (.aload_n 0, 1) := by decide +kernel
theorem dX9_init_120 : decode cX9_init 120 = .ok (.sipush 240, 3) := by decide +kernel
theorem dX9_init_123 : decode cX9_init 123 = .ok (.newarray .int, 2) := by decide +kernel
theorem dX9_init_125 : decode cX9_init 125 = .ok (.putfield 45, 3) := by decide +kernel
theorem dX9_init_128 : decode cX9_init 128 = .ok (.aload_n 0, 1) := by decide +kernel
theorem dX9_init_129 : decode cX9_init 129 = .ok (.sipush 720, 3) := by decide +kernel
theorem dX9_init_132 : decode cX9_init 132 = .ok (.newarray .int, 2) := by decide +kernel
theorem dX9_init_134 : decode cX9_init 134 = .ok (.putfield 48, 3) := by decide +kernel
theorem dX9_init_137 : decode cX9_init 137 = .ok (.aload_n 0, 1) := by decide +kernel
theorem dX9_init_138 : decode cX9_init 138 = .ok (.sipush 720, 3) := by decide +kernel
theorem dX9_init_141 : decode cX9_init 141 = .ok (.newarray .int, 2) := by decide +kernel
theorem dX9_init_143 : decode cX9_init 143 = .ok (.putfield 51, 3) := by decide +kernel
theorem dX9_init_146 : decode cX9_init 146 = .ok (.aload_n 0, 1) := by decide +kernel
theorem dX9_init_147 : decode cX9_init 147 = .ok (.bipush 60, 2) := by decide +kernel
theorem dX9_init_149 : decode cX9_init 149 = .ok (.newarray .int, 2) := by decide +kernel
theorem dX9_init_151 : decode cX9_init 151 = .ok (.putfield 54, 3) := by decide +kernel
theorem dX9_init_154 : decode cX9_init 154 = .ok (.aload_n 0, 1) := by decide +kernel
theorem dX9_init_155 : decode cX9_init 155 = .ok (.bipush 60, 2) := by decide +kernel
theorem dX9_init_157 : decode cX9_init 157 = .ok (.newarray .int, 2) := by decide +kernel
theorem dX9_init_159 : decode cX9_init 159 = .ok (.putfield 57, 3) := by decide +kernel
theorem dX9_init_162 : decode cX9_init 162 = .ok (.aload_n 0, 1) := by decide +kernel
theorem dX9_init_163 : decode cX9_init 163 = .ok (.bipush 60, 2) := by decide +kernel
theorem dX9_init_165 : decode cX9_init 165 = .ok (.newarray .int, 2) := by decide +kernel
theorem dX9_init_167 : decode cX9_init 167 = .ok (.putfield 60, 3) := by decide +kernel
theorem dX9_init_170 : decode cX9_init 170 = .ok (.aload_n 0, 1) := by decide +kernel
theorem dX9_init_171 : decode cX9_init 171 = .ok (.bipush 60, 2) := by decide +kernel
theorem dX9_init_173 : decode cX9_init 173 = .ok (.newarray .int, 2) := by decide +kernel
theorem dX9_init_175 : decode cX9_init 175 = .ok (.putfield 63, 3) := by decide +kernel
theorem dX9_init_178 : decode cX9_init 178 = .ok (.aload_n 0, 1) := by decide +kernel
theorem dX9_init_179 : decode cX9_init 179 = .ok (.bipush 60, 2) := by decide +kernel
theorem dX9_init_181 : decode cX9_init 181 = .ok (.newarray .int, 2) := by decide +kernel
theorem dX9_init_183 : decode cX9_init 183 = .ok (.putfield 66, 3) := by decide +kernel
theorem dX9_init_186 : decode cX9_init 186 = .ok (.aload_n 0, 1) := by decide +kernel
theorem dX9_init_187 : decode cX9_init 187 = .ok (.bipush 60, 2) := by decide +kernel
theorem dX9_init_189 : decode cX9_init 189 = .ok (.newarray .int, 2) := by decide +kernel
theorem dX9_init_191 : decode cX9_init 191 = .ok (.putfield 69, 3) := by decide +kernel
theorem dX9_init_194 : decode cX9_init 194 = .ok (.aload_n 0, 1) := by decide +kernel
theorem dX9_init_195 : decode cX9_init 195 = .ok (.bipush 60, 2) := by decide +kernel
theorem dX9_init_197 : decode cX9_init 197 = .ok (.newarray .int, 2) := by decide +kernel
theorem dX9_init_199 : decode cX9_init 199 = .ok (.putfield 72, 3) := by decide +kernel
theorem dX9_init_202 : decode cX9_init 202 = .ok (.aload_n 0, 1) := by decide +kernel
theorem dX9_init_203 : decode cX9_init 203 = .ok (.bipush 60, 2) := by decide +kernel
theorem dX9_init_205 : decode cX9_init 205 = .ok (.newarray .int, 2) := by decide +kernel
theorem dX9_init_207 : decode cX9_init 207 = .ok (.putfield 75, 3) := by decide +kernel
theorem dX9_init_210 : decode cX9_init 210 = .ok (.aload_n 0, 1) := by decide +kernel
theorem dX9_init_211 : decode cX9_init 211 = .ok (.bipush 60, 2) := by decide +kernel
theorem dX9_init_213 : decode cX9_init 213 = .ok (.newarray .int, 2) := by decide +kernel
theorem dX9_init_215 : decode cX9_init 215 = .ok (.putfield 78, 3) := by decide +kernel
theorem dX9_init_218 : decode cX9_init 218 = .ok (.aload_n 0, 1) := by decide +kernel
theorem dX9_init_219 : decode cX9_init 219 = .ok (.bipush 60, 2) := by decide +kernel
theorem dX9_init_221 : decode cX9_init 221 = .ok (.newarray .boolean, 2) := by decide +kernel
theorem dX9_init_223 : decode cX9_init 223 = .ok (.putfield 81, 3) := by decide +kernel
theorem dX9_init_226 : decode cX9_init 226 = .ok (.aload_n 0, 1) := by decide +kernel
theorem dX9_init_227 : decode cX9_init 227 = .ok (.bipush 60, 2) := by decide +kernel
theorem dX9_init_229 : decode cX9_init 229 = .ok (.newarray .boolean, 2) := by decide +kernel
theorem dX9_init_231 : decode cX9_init 231 = .ok (.putfield 84, 3) := by decide +kernel
theorem dX9_init_234 : decode cX9_init 234 = .ok (.aload_n 0, 1) := by decide +kernel
theorem dX9_init_235 : decode cX9_init 235 = .ok (.sipush 144, 3) := by decide +kernel
theorem dX9_init_238 : decode cX9_init 238 = .ok (.newarray .int, 2) := by decide +kernel
theorem dX9_init_240 : decode cX9_init 240 = .ok (.putfield 87, 3) := by decide +kernel
theorem dX9_init_243 : decode cX9_init 243 = .ok (.aload_n 0, 1) := by decide +kernel
theorem dX9_init_244 : decode cX9_init 244 = .ok (.sipush 144, 3) := by decide +kernel
theorem dX9_init_247 : decode cX9_init 247 = .ok (.newarray .int, 2) := by decide +kernel
theorem dX9_init_249 : decode cX9_init 249 = .ok (.putfield 90, 3) := by decide +kernel
theorem dX9_init_252 : decode cX9_init 252 = .ok (.aload_n 0, 1) := by decide +kernel
theorem dX9_init_253 : decode cX9_init 253 = .ok (.bipush 12, 2) := by decide +kernel
theorem dX9_init_255 : decode cX9_init 255 = .ok (.newarray .int, 2) := by decide +kernel
theorem dX9_init_257 : decode cX9_init 257 = .ok (.putfield 93, 3) := by decide +kernel
theorem dX9_init_260 : decode cX9_init 260 = .ok (.aload_n 0, 1) := by decide +kernel
theorem dX9_init_261 : decode cX9_init 261 = .ok (.bipush 12, 2) := by decide +kernel
theorem dX9_init_263 : decode cX9_init 263 = .ok (.newarray .int, 2) := by decide +kernel
theorem dX9_init_265 : decode cX9_init 265 = .ok (.putfield 96, 3) := by decide +kernel
theorem dX9_init_268 : decode cX9_init 268 = .ok (.aload_n 0, 1) := by decide +kernel
theorem dX9_init_269 : decode cX9_init 269 = .ok (.bipush 12, 2) := by decide +kernel
theorem dX9_init_271 : decode cX9_init 271 = .ok (.newarray .int, 2) := by decide +kernel
theorem dX9_init_273 : decode cX9_init 273 = .ok (.putfield 99, 3) := by decide +kernel
theorem dX9_init_276 : decode cX9_init 276 = .ok (.aload_n 0, 1) := by decide +kernel
theorem dX9_init_277 : decode cX9_init 277 = .ok (.bipush 12, 2) := by decide +kernel
theorem dX9_init_279 : decode cX9_init 279 = .ok (.newarray .int, 2) := by decide +kernel
theorem dX9_init_281 : decode cX9_init 281 = .ok (.putfield 102, 3) := by decide +kernel
theorem dX9_init_284 : decode cX9_init 284 = .ok (.aload_n 0, 1) := by decide +kernel
theorem dX9_init_285 : decode cX9_init 285 = .ok (.bipush 12, 2) := by decide +kernel
theorem dX9_init_287 : decode cX9_init 287 = .ok (.newarray .int, 2) := by decide +kernel
theorem dX9_init_289 : decode cX9_init 289 = .ok (.putfield 105, 3) := by decide +kernel
theorem dX9_init_292 : decode cX9_init 292 = .ok (.aload_n 0, 1) := by decide +kernel
theorem dX9_init_293 : decode cX9_init 293 = .ok (.bipush 12, 2) := by decide +kernel
theorem dX9_init_295 : decode cX9_init 295 = .ok (.newarray .int, 2) := by decide +kernel
theorem dX9_init_297 : decode cX9_init 297 = .ok (.putfield 108, 3) := by decide +kernel
theorem dX9_init_300 : decode cX9_init 300 = .ok (.return_, 1) := by decide +kernel
theorem dX9_thrown_0 : decode cX9_thrown 0 = .ok (.aload_n 0, 1) := by decide +kernel
theorem dX9_thrown_1 : decode cX9_thrown 1 = .ok (.getfield 111, 3) := by decide +kernel
theorem dX9_thrown_4 : decode cX9_thrown 4 = .ok (.ireturn, 1) := by decide +kernel
theorem dX9_throwsIf_0 : decode cX9_throwsIf 0 = .ok (.aload_n 0, 1) := by decide +kernel
theorem dX9_throwsIf_1 : decode cX9_throwsIf 1 = .ok (.iload_n 1, 1) := by decide +kernel
theorem dX9_throwsIf_2 : decode cX9_throwsIf 2 = .ok (.ifCond .eq 7, 3) := by decide +kernel
theorem dX9_throwsIf_5 : decode cX9_throwsIf 5 = .ok (.iconst 1, 1) := by decide +kernel
theorem dX9_throwsIf_6 : decode cX9_throwsIf 6 = .ok (.goto 4, 3) := by decide +kernel
theorem dX9_throwsIf_9 : decode cX9_throwsIf 9 = .ok (.iconst 0, 1) := by decide +kernel
theorem dX9_throwsIf_10 : decode cX9_throwsIf 10 = .ok (.putfield 111, 3) := by decide +kernel
theorem dX9_throwsIf_13 : decode cX9_throwsIf 13 = .ok (.iload_n 1, 1) := by decide +kernel
theorem dX9_throwsIf_14 : decode cX9_throwsIf 14 = .ok (.ireturn, 1) := by decide +kernel
set_option maxRecDepth 20000 in
theorem ggX9_feed_X9_four : GoodIn wsX9_feed wsX9_four := goodIn_ca (lq_goor _ [7, 8, 2] rfl (by decide +kernel)) (goodIn_sub (fun _ h => List.mem_cons_of_mem _ (List.mem_append_right _ h)) gw_wsX90)
set_option maxRecDepth 20000 in
theorem gX9_feed_X9_four : GoodIn wsX9_feed (wsV RX9 118 RX9 yX9_four wsX9_four) := goodIn_app (lq_goor _ [3, 4, 5, 6] rfl (by decide +kernel)) ggX9_feed_X9_four
theorem dX9_feed_0 : decode cX9_feed 0 = .ok (.aload_n 0, 1) := by decide +kernel
theorem dX9_feed_1 : decode cX9_feed 1 = .ok (.iconst 0, 1) := by decide +kernel
theorem dX9_feed_2 : decode cX9_feed 2 = .ok (.putfield 111, 3) := by decide +kernel
theorem dX9_feed_5 : decode cX9_feed 5 = .ok (.aload_n 0, 1) := by decide +kernel
theorem dX9_feed_6 : decode cX9_feed 6 = .ok (.getfield 115, 3) := by decide +kernel
theorem dX9_feed_9 : decode cX9_feed 9 = .ok (.bipush 20, 2) := by decide +kernel
theorem dX9_feed_11 : decode cX9_feed 11 = .ok (.iadd, 1) := by decide +kernel
theorem dX9_feed_12 : decode cX9_feed 12 = .ok (.sipush 200, 3) := by decide +kernel
theorem dX9_feed_15 : decode cX9_feed 15 = .ok (.if_icmp .le 5, 3) := by decide +kernel
theorem dX9_feed_18 : decode cX9_feed 18 = .ok (.iconst (-1), 1) := by decide +kernel
theorem dX9_feed_19 : decode cX9_feed 19 = .ok (.ireturn, 1) := by decide +kernel
theorem dX9_feed_20 : decode cX9_feed 20 = .ok (.aload_n 0, 1) := by decide +kernel
theorem dX9_feed_21 : decode cX9_feed 21 = .ok (.iload_n 1, 1) := by decide +kernel
theorem dX9_feed_22 : decode cX9_feed 22 = .ok (.invokevirtual 118, 3) := by decide +kernel
theorem dX9_feed_25 : decode cX9_feed 25 = .ok (.aload_n 0, 1) := by decide +kernel
theorem dX9_feed_26 : decode cX9_feed 26 = .ok (.iload_n 2, 1) := by decide +kernel
theorem dX9_feed_27 : decode cX9_feed 27 = .ok (.invokevirtual 118, 3) := by decide +kernel
theorem dX9_feed_30 : decode cX9_feed 30 = .ok (.aload_n 0, 1) := by decide +kernel
theorem dX9_feed_31 : decode cX9_feed 31 = .ok (.iload_n 3, 1) := by decide +kernel
theorem dX9_feed_32 : decode cX9_feed 32 = .ok (.invokevirtual 118, 3) := by decide +kernel
theorem dX9_feed_35 : decode cX9_feed 35 = .ok (.aload_n 0, 1) := by decide +kernel
theorem dX9_feed_36 : decode cX9_feed 36 = .ok (.iload 4, 2) := by decide +kernel
theorem dX9_feed_38 : decode cX9_feed 38 = .ok (.invokevirtual 118, 3) := by decide +kernel
theorem dX9_feed_41 : decode cX9_feed 41 = .ok (.aload_n 0, 1) := by decide +kernel
theorem dX9_feed_42 : decode cX9_feed 42 = .ok (.iload 5, 2) := by decide +kernel
theorem dX9_feed_44 : decode cX9_feed 44 = .ok (.invokevirtual 118, 3) := by decide +kernel
theorem dX9_feed_47 : decode cX9_feed 47 = .ok (.aload_n 0, 1) := by decide +kernel
theorem dX9_feed_48 : decode cX9_feed 48 = .ok (.getfield 115, 3) := by decide +kernel
theorem dX9_feed_51 : decode cX9_feed 51 = .ok (.ireturn, 1) := by decide +kernel
theorem dX9_four_0 : decode cX9_four 0 = .ok (.bipush 24, 2) := by decide +kernel
theorem dX9_four_2 : decode cX9_four 2 = .ok (.istore_n 2, 1) := by decide +kernel
theorem dX9_four_3 : decode cX9_four 3 = .ok (.iload_n 2, 1) := by decide +kernel
theorem dX9_four_4 : decode cX9_four 4 = .ok (.ifCond .lt 32, 3) := by decide +kernel
theorem dX9_four_7 : decode cX9_four 7 = .ok (.aload_n 0, 1) := by decide +kernel
theorem dX9_four_8 : decode cX9_four 8 = .ok (.getfield 7, 3) := by decide +kernel
theorem dX9_four_11 : decode cX9_four 11 = .ok (.aload_n 0, 1) := by decide +kernel
theorem dX9_four_12 : decode cX9_four 12 = .ok (.getfield 115, 3) := by decide +kernel
theorem dX9_four_15 : decode cX9_four 15 = .ok (.iload_n 1, 1) := by decide +kernel
theorem dX9_four_16 : decode cX9_four 16 = .ok (.iload_n 2, 1) := by decide +kernel
theorem dX9_four_17 : decode cX9_four 17 = .ok (.ishr, 1) := by decide +kernel
theorem dX9_four_18 : decode cX9_four 18 = .ok (.i2b, 1) := by decide +kernel
theorem dX9_four_19 : decode cX9_four 19 = .ok (.bastore, 1) := by decide +kernel
theorem dX9_four_20 : decode cX9_four 20 = .ok (.aload_n 0, 1) := by decide +kernel
theorem dX9_four_21 : decode cX9_four 21 = .ok (.dup, 1) := by decide +kernel
theorem dX9_four_22 : decode cX9_four 22 = .ok (.getfield 115, 3) := by decide +kernel
theorem dX9_four_25 : decode cX9_four 25 = .ok (.iconst 1, 1) := by decide +kernel
theorem dX9_four_26 : decode cX9_four 26 = .ok (.iadd, 1) := by decide +kernel
theorem dX9_four_27 : decode cX9_four 27 = .ok (.putfield 115, 3) := by decide +kernel
theorem dX9_four_30 : decode cX9_four 30 = .ok (.iinc 2 (-8), 3) := by decide +kernel
theorem dX9_four_33 : decode cX9_four 33 = .ok (.goto (-30), 3) := by decide +kernel
theorem dX9_four_36 : decode cX9_four 36 = .ok (.return_, 1) := by decide +kernel
theorem dX9_end_0 : decode cX9_end 0 = .ok (.aload_n 0, 1) := by decide +kernel
theorem dX9_end_1 : decode cX9_end 1 = .ok (.iconst 0, 1) := by decide +kernel
theorem dX9_end_2 : decode cX9_end 2 = .ok (.putfield 111, 3) := by decide +kernel
theorem dX9_end_5 : decode cX9_end 5 = .ok (.iload_n 1, 1) := by decide +kernel
theorem dX9_end_6 : decode cX9_end 6 = .ok (.ifCond .lt 11, 3) := by decide +kernel
theorem dX9_end_9 : decode cX9_end 9 = .ok (.iload_n 1, 1) := by decide +kernel
theorem dX9_end_10 : decode cX9_end 10 = .ok (.aload_n 0, 1) := by decide +kernel
theorem dX9_end_11 : decode cX9_end 11 = .ok (.getfield 115, 3) := by decide +kernel
theorem dX9_end_14 : decode cX9_end 14 = .ok (.if_icmp .le 5, 3) := by decide +kernel
theorem dX9_end_17 : decode cX9_end 17 = .ok (.iconst 0, 1) := by decide +kernel
theorem dX9_end_18 : decode cX9_end 18 = .ok (.ireturn, 1) := by decide +kernel
theorem dX9_end_19 : decode cX9_end 19 = .ok (.aload_n 0, 1) := by decide +kernel
theorem dX9_end_20 : decode cX9_end 20 = .ok (.iload_n 1, 1) := by decide +kernel
theorem dX9_end_21 : decode cX9_end 21 = .ok (.putfield 115, 3) := by decide +kernel
theorem dX9_end_24 : decode cX9_end 24 = .ok (.iconst 1, 1) := by decide +kernel
theorem dX9_end_25 : decode cX9_end 25 = .ok (.ireturn, 1) := by decide +kernel
theorem dX9_taken_0 : decode cX9_taken 0 = .ok (.aload_n 0, 1) := by decide +kernel
theorem dX9_taken_1 : decode cX9_taken 1 = .ok (.aload_n 0, 1) := by decide +kernel
theorem dX9_taken_2 : decode cX9_taken 2 = .ok (.getfield 115, 3) := by decide +kernel
theorem dX9_taken_5 : decode cX9_taken 5 = .ok (.putfield 122, 3) := by decide +kernel
theorem dX9_taken_8 : decode cX9_taken 8 = .ok (.aload_n 0, 1) := by decide +kernel
theorem dX9_taken_9 : decode cX9_taken 9 = .ok (.iconst 0, 1) := by decide +kernel
theorem dX9_taken_10 : decode cX9_taken 10 = .ok (.putfield 115, 3) := by decide +kernel
theorem dX9_taken_13 : decode cX9_taken 13 = .ok (.aload_n 0, 1) := by decide +kernel
theorem dX9_taken_14 : decode cX9_taken 14 = .ok (.iconst 0, 1) := by decide +kernel
theorem dX9_taken_15 : decode cX9_taken 15 = .ok (.putfield 125, 3) := by decide +kernel
theorem dX9_taken_18 : decode cX9_taken 18 = .ok (.return_, 1) := by decide +kernel
theorem dX9_peek_0 : decode cX9_peek 0 = .ok (.aload_n 0, 1) := by decide +kernel
theorem dX9_peek_1 : decode cX9_peek 1 = .ok (.getfield 125, 3) := by decide +kernel
theorem dX9_peek_4 : decode cX9_peek 4 = .ok (.aload_n 0, 1) := by decide +kernel
theorem dX9_peek_5 : decode cX9_peek 5 = .ok (.getfield 122, 3) := by decide +kernel
theorem dX9_peek_8 : decode cX9_peek 8 = .ok (.if_icmp .ge 19, 3) := by decide +kernel
theorem dX9_peek_11 : decode cX9_peek 11 = .ok (.aload_n 0, 1) := by decide +kernel
theorem dX9_peek_12 : decode cX9_peek 12 = .ok (.getfield 7, 3) := by decide +kernel
theorem dX9_peek_15 : decode cX9_peek 15 = .ok (.aload_n 0, 1) := by decide +kernel
theorem dX9_peek_16 : decode cX9_peek 16 = .ok (.getfield 125, 3) := by decide +kernel
theorem dX9_peek_19 : decode cX9_peek 19 = .ok (.baload, 1) := by decide +kernel
theorem dX9_peek_20 : decode cX9_peek 20 = .ok (.sipush 255, 3) := by decide +kernel
theorem dX9_peek_23 : decode cX9_peek 23 = .ok (.iand, 1) := by decide +kernel
theorem dX9_peek_24 : decode cX9_peek 24 = .ok (.goto 4, 3) := by decide +kernel
theorem dX9_peek_27 : decode cX9_peek 27 = .ok (.iconst (-1), 1) := by decide +kernel
theorem dX9_peek_28 : decode cX9_peek 28 = .ok (.ireturn, 1) := by decide +kernel
theorem dX9_isSmall_0 : decode cX9_isSmall 0 = .ok (.iload_n 0, 1) := by decide +kernel
theorem dX9_isSmall_1 : decode cX9_isSmall 1 = .ok (.bipush 97, 2) := by decide +kernel
theorem dX9_isSmall_3 : decode cX9_isSmall 3 = .ok (.if_icmp .lt 13, 3) := by decide +kernel
theorem dX9_isSmall_6 : decode cX9_isSmall 6 = .ok (.iload_n 0, 1) := by decide +kernel
theorem dX9_isSmall_7 : decode cX9_isSmall 7 = .ok (.bipush 122, 2) := by decide +kernel
theorem dX9_isSmall_9 : decode cX9_isSmall 9 = .ok (.if_icmp .gt 7, 3) := by decide +kernel
theorem dX9_isSmall_12 : decode cX9_isSmall 12 = .ok (.iconst 1, 1) := by decide +kernel
theorem dX9_isSmall_13 : decode cX9_isSmall 13 = .ok (.goto 4, 3) := by decide +kernel
theorem dX9_isSmall_16 : decode cX9_isSmall 16 = .ok (.iconst 0, 1) := by decide +kernel
theorem dX9_isSmall_17 : decode cX9_isSmall 17 = .ok (.ireturn, 1) := by decide +kernel
theorem dX9_isDigit_0 : decode cX9_isDigit 0 = .ok (.iload_n 0, 1) := by decide +kernel
theorem dX9_isDigit_1 : decode cX9_isDigit 1 = .ok (.bipush 48, 2) := by decide +kernel
theorem dX9_isDigit_3 : decode cX9_isDigit 3 = .ok (.if_icmp .lt 13, 3) := by decide +kernel
theorem dX9_isDigit_6 : decode cX9_isDigit 6 = .ok (.iload_n 0, 1) := by decide +kernel
theorem dX9_isDigit_7 : decode cX9_isDigit 7 = .ok (.bipush 57, 2) := by decide +kernel
theorem dX9_isDigit_9 : decode cX9_isDigit 9 = .ok (.if_icmp .gt 7, 3) := by decide +kernel
theorem dX9_isDigit_12 : decode cX9_isDigit 12 = .ok (.iconst 1, 1) := by decide +kernel
theorem dX9_isDigit_13 : decode cX9_isDigit 13 = .ok (.goto 4, 3) := by decide +kernel
theorem dX9_isDigit_16 : decode cX9_isDigit 16 = .ok (.iconst 0, 1) := by decide +kernel
theorem dX9_isDigit_17 : decode cX9_isDigit 17 = .ok (.ireturn, 1) := by decide +kernel
set_option maxRecDepth 20000 in
theorem ggX9_next0_X9_peek : GoodIn wsX9_next0 wsX9_peek := goodIn_ca (lq_goor _ [10, 1, 11, 12] rfl (by decide +kernel)) (goodIn_sub (fun _ h => List.mem_cons_of_mem _ (List.mem_append_right _ h)) gw_wsX90)
set_option maxRecDepth 20000 in
theorem gX9_next0_X9_peek : GoodIn wsX9_next0 (wsV RX9 128 RX9 yX9_peek wsX9_peek) := goodIn_app (lq_goor _ [6, 7, 8, 9] rfl (by decide +kernel)) ggX9_next0_X9_peek
set_option maxRecDepth 20000 in
theorem ggX9_next0_X9_isSmall : GoodIn wsX9_next0 wsX9_isSmall := lq_goor _ [15] rfl (by decide +kernel)
set_option maxRecDepth 20000 in
theorem gX9_next0_X9_isSmall : GoodIn wsX9_next0 (va_wsS RX9 138 yX9_isSmall wsX9_isSmall) := goodIn_app (lq_goor _ [13, 14, 9] rfl (by decide +kernel)) ggX9_next0_X9_isSmall
set_option maxRecDepth 20000 in
theorem ggX9_next0_X9_isDigit : GoodIn wsX9_next0 wsX9_isDigit := lq_goor _ [18] rfl (by decide +kernel)
set_option maxRecDepth 20000 in
theorem gX9_next0_X9_isDigit : GoodIn wsX9_next0 (va_wsS RX9 142 yX9_isDigit wsX9_isDigit) := goodIn_app (lq_goor _ [16, 17, 9] rfl (by decide +kernel)) ggX9_next0_X9_isDigit
theorem dX9_next0_0 : decode cX9_next0 0 = .ok (.aload_n 0, 1) := by decide +kernel
theorem dX9_next0_1 : decode cX9_next0 1 = .ok (.invokevirtual 128, 3) := by decide +kernel
theorem dX9_next0_4 : decode cX9_next0 4 = .ok (.bipush 32, 2) := by decide +kernel
theorem dX9_next0_6 : decode cX9_next0 6 = .ok (.if_icmp .eq 12, 3) := by decide +kernel
theorem dX9_next0_9 : decode cX9_next0 9 = .ok (.aload_n 0, 1) := by decide +kernel
theorem dX9_next0_10 : decode cX9_next0 10 = .ok (.invokevirtual 128, 3) := by decide +kernel
theorem dX9_next0_13 : decode cX9_next0 13 = .ok (.bipush 10, 2) := by decide +kernel
theorem dX9_next0_15 : decode cX9_next0 15 = .ok (.if_icmp .ne 16, 3) := by decide +kernel
theorem dX9_next0_18 : decode cX9_next0 18 = .ok (.aload_n 0, 1) := by decide +kernel
theorem dX9_next0_19 : decode cX9_next0 19 = .ok (.dup, 1) := by decide +kernel
theorem dX9_next0_20 : decode cX9_next0 20 = .ok (.getfield 125, 3) := by decide +kernel
theorem dX9_next0_23 : decode cX9_next0 23 = .ok (.iconst 1, 1) := by decide +kernel
theorem dX9_next0_24 : decode cX9_next0 24 = .ok (.iadd, 1) := by decide +kernel
theorem dX9_next0_25 : decode cX9_next0 25 = .ok (.putfield 125, 3) := by decide +kernel
theorem dX9_next0_28 : decode cX9_next0 28 = .ok (.goto (-28), 3) := by decide +kernel
theorem dX9_next0_31 : decode cX9_next0 31 = .ok (.aload_n 0, 1) := by decide +kernel
theorem dX9_next0_32 : decode cX9_next0 32 = .ok (.aload_n 0, 1) := by decide +kernel
theorem dX9_next0_33 : decode cX9_next0 33 = .ok (.getfield 125, 3) := by decide +kernel
theorem dX9_next0_36 : decode cX9_next0 36 = .ok (.putfield 132, 3) := by decide +kernel
theorem dX9_next0_39 : decode cX9_next0 39 = .ok (.aload_n 0, 1) := by decide +kernel
theorem dX9_next0_40 : decode cX9_next0 40 = .ok (.invokevirtual 128, 3) := by decide +kernel
theorem dX9_next0_43 : decode cX9_next0 43 = .ok (.istore_n 1, 1) := by decide +kernel
theorem dX9_next0_44 : decode cX9_next0 44 = .ok (.iload_n 1, 1) := by decide +kernel
theorem dX9_next0_45 : decode cX9_next0 45 = .ok (.ifCond .ge 9, 3) := by decide +kernel
theorem dX9_next0_48 : decode cX9_next0 48 = .ok (.aload_n 0, 1) := by decide +kernel
theorem dX9_next0_49 : decode cX9_next0 49 = .ok (.iconst 0, 1) := by decide +kernel
theorem dX9_next0_50 : decode cX9_next0 50 = .ok (.putfield 135, 3) := by decide +kernel
theorem dX9_next0_53 : decode cX9_next0 53 = .ok (.return_, 1) := by decide +kernel
theorem dX9_next0_54 : decode cX9_next0 54 = .ok (.iload_n 1, 1) := by decide +kernel
theorem dX9_next0_55 : decode cX9_next0 55 = .ok (.invokestatic 138, 3) := by decide +kernel
theorem dX9_next0_58 : decode cX9_next0 58 = .ok (.ifCond .ne 36, 3) := by decide +kernel
theorem dX9_next0_61 : decode cX9_next0 61 = .ok (.iload_n 1, 1) := by decide +kernel
theorem dX9_next0_62 : decode cX9_next0 62 = .ok (.invokestatic 142, 3) := by decide +kernel
theorem dX9_next0_65 : decode cX9_next0 65 = .ok (.ifCond .ne 29, 3) := by decide +kernel
theorem dX9_next0_68 : decode cX9_next0 68 = .ok (.aload_n 0, 1) := by decide +kernel
theorem dX9_next0_69 : decode cX9_next0 69 = .ok (.iload_n 1, 1) := by decide +kernel
theorem dX9_next0_70 : decode cX9_next0 70 = .ok (.bipush 59, 2) := by decide +kernel
theorem dX9_next0_72 : decode cX9_next0 72 = .ok (.if_icmp .ne 7, 3) := by decide +kernel
theorem dX9_next0_75 : decode cX9_next0 75 = .ok (.iconst 3, 1) := by decide +kernel
theorem dX9_next0_76 : decode cX9_next0 76 = .ok (.goto 4, 3) := by decide +kernel
theorem dX9_next0_79 : decode cX9_next0 79 = .ok (.iconst 4, 1) := by decide +kernel
theorem dX9_next0_80 : decode cX9_next0 80 = .ok (.putfield 135, 3) := by decide +kernel
theorem dX9_next0_83 : decode cX9_next0 83 = .ok (.aload_n 0, 1) := by decide +kernel
theorem dX9_next0_84 : decode cX9_next0 84 = .ok (.dup, 1) := by decide +kernel
theorem dX9_next0_85 : decode cX9_next0 85 = .ok (.getfield 125, 3) := by decide +kernel
theorem dX9_next0_88 : decode cX9_next0 88 = .ok (.iconst 1, 1) := by decide +kernel
theorem dX9_next0_89 : decode cX9_next0 89 = .ok (.iadd, 1) := by decide +kernel
theorem dX9_next0_90 : decode cX9_next0 90 = .ok (.putfield 125, 3) := by decide +kernel
theorem dX9_next0_93 : decode cX9_next0 93 = .ok (.return_, 1) := by decide +kernel
theorem dX9_next0_94 : decode cX9_next0 94 = .ok (.iload_n 1, 1) := by decide +kernel
theorem dX9_next0_95 : decode cX9_next0 95 = .ok (.invokestatic 138, 3) := by decide +kernel
theorem dX9_next0_98 : decode cX9_next0 98 = .ok (.istore_n 2, 1) := by decide +kernel
theorem dX9_next0_99 : decode cX9_next0 99 = .ok (.iconst 1, 1) := by decide +kernel
theorem dX9_next0_100 : decode cX9_next0 100 = .ok (.istore_n 3, 1) := by decide +kernel
theorem dX9_next0_101 : decode cX9_next0 101 = .ok (.iconst 0, 1) := by decide +kernel
theorem dX9_next0_102 : decode cX9_next0 102 = .ok (.istore 4, 2) := by decide +kernel
theorem dX9_next0_104 : decode cX9_next0 104 = .ok (.aload_n 0, 1) := by decide +kernel
theorem dX9_next0_105 : decode cX9_next0 105 = .ok (.lconst 0, 1) := by decide +kernel
theorem dX9_next0_106 : decode cX9_next0 106 = .ok (.putfield 145, 3) := by decide +kernel
theorem dX9_next0_109 : decode cX9_next0 109 = .ok (.aload_n 0, 1) := by decide +kernel
theorem dX9_next0_110 : decode cX9_next0 110 = .ok (.iconst 0, 1) := by decide +kernel
theorem dX9_next0_111 : decode cX9_next0 111 = .ok (.putfield 149, 3) := by decide +kernel
theorem dX9_next0_114 : decode cX9_next0 114 = .ok (.aload_n 0, 1) := by decide +kernel
theorem dX9_next0_115 : decode cX9_next0 115 = .ok (.invokevirtual 128, 3) := by decide +kernel
theorem dX9_next0_118 : decode cX9_next0 118 = .ok (.invokestatic 138, 3) := by decide +kernel
theorem dX9_next0_121 : decode cX9_next0 121 = .ok (.ifCond .ne 13, 3) := by decide +kernel
theorem dX9_next0_124 : decode cX9_next0 124 = .ok (.aload_n 0, 1) := by decide +kernel
theorem dX9_next0_125 : decode cX9_next0 125 = .ok (.invokevirtual 128, 3) := by decide +kernel
theorem dX9_next0_128 : decode cX9_next0 128 = .ok (.invokestatic 142, 3) := by decide +kernel
theorem dX9_next0_131 : decode cX9_next0 131 = .ok (.ifCond .eq 89, 3) := by decide +kernel
theorem dX9_next0_134 : decode cX9_next0 134 = .ok (.iload_n 3, 1) := by decide +kernel
theorem dX9_next0_135 : decode cX9_next0 135 = .ok (.ifCond .eq 18, 3) := by decide +kernel
theorem dX9_next0_138 : decode cX9_next0 138 = .ok (.aload_n 0, 1) := by decide +kernel
theorem dX9_next0_139 : decode cX9_next0 139 = .ok (.invokevirtual 128, 3) := by decide +kernel
theorem dX9_next0_142 : decode cX9_next0 142 = .ok (.invokestatic 138, 3) := by decide +kernel
theorem dX9_next0_145 : decode cX9_next0 145 = .ok (.iload_n 2, 1) := by decide +kernel
theorem dX9_next0_146 : decode cX9_next0 146 = .ok (.if_icmp .ne 7, 3) := by decide +kernel
theorem dX9_next0_149 : decode cX9_next0 149 = .ok (.iconst 1, 1) := by decide +kernel
theorem dX9_next0_150 : decode cX9_next0 150 = .ok (.goto 4, 3) := by decide +kernel
theorem dX9_next0_153 : decode cX9_next0 153 = .ok (.iconst 0, 1) := by decide +kernel
theorem dX9_next0_154 : decode cX9_next0 154 = .ok (.istore_n 3, 1) := by decide +kernel
theorem dX9_next0_155 : decode cX9_next0 155 = .ok (.iload 4, 2) := by decide +kernel
theorem dX9_next0_157 : decode cX9_next0 157 = .ok (.bipush 7, 2) := by decide +kernel
theorem dX9_next0_159 : decode cX9_next0 159 = .ok (.if_icmp .ge 20, 3) := by decide +kernel
theorem dX9_next0_162 : decode cX9_next0 162 = .ok (.aload_n 0, 1) := by decide +kernel
theorem dX9_next0_163 : decode cX9_next0 163 = .ok (.aload_n 0, 1) := by decide +kernel
theorem dX9_next0_164 : decode cX9_next0 164 = .ok (.getfield 145, 3) := by decide +kernel
theorem dX9_next0_167 : decode cX9_next0 167 = .ok (.bipush 8, 2) := by decide +kernel
theorem dX9_next0_169 : decode cX9_next0 169 = .ok (.lshl, 1) := by decide +kernel
theorem dX9_next0_170 : decode cX9_next0 170 = .ok (.aload_n 0, 1) := by decide +kernel
theorem dX9_next0_171 : decode cX9_next0 171 = .ok (.invokevirtual 128, 3) := by decide +kernel
theorem dX9_next0_174 : decode cX9_next0 174 = .ok (.i2l, 1) := by decide +kernel
theorem dX9_next0_175 : decode cX9_next0 175 = .ok (.lor, 1) := by decide +kernel
theorem dX9_next0_176 : decode cX9_next0 176 = .ok (.putfield 145, 3) := by decide +kernel
theorem dX9_next0_179 : decode cX9_next0 179 = .ok (.iload 4, 2) := by decide +kernel
theorem dX9_next0_181 : decode cX9_next0 181 = .ok (.iconst 3, 1) := by decide +kernel
theorem dX9_next0_182 : decode cX9_next0 182 = .ok (.if_icmp .ge 22, 3) := by decide +kernel
theorem dX9_next0_185 : decode cX9_next0 185 = .ok (.aload_n 0, 1) := by decide +kernel
theorem dX9_next0_186 : decode cX9_next0 186 = .ok (.bipush 10, 2) := by decide +kernel
theorem dX9_next0_188 : decode cX9_next0 188 = .ok (.aload_n 0, 1) := by decide +kernel
theorem dX9_next0_189 : decode cX9_next0 189 = .ok (.getfield 149, 3) := by decide +kernel
theorem dX9_next0_192 : decode cX9_next0 192 = .ok (.imul, 1) := by decide +kernel
theorem dX9_next0_193 : decode cX9_next0 193 = .ok (.aload_n 0, 1) := by decide +kernel
theorem dX9_next0_194 : decode cX9_next0 194 = .ok (.invokevirtual 128, 3) := by decide +kernel
theorem dX9_next0_197 : decode cX9_next0 197 = .ok (.iadd, 1) := by decide +kernel
theorem dX9_next0_198 : decode cX9_next0 198 = .ok (.bipush 48, 2) := by decide +kernel
theorem dX9_next0_200 : decode cX9_next0 200 = .ok (.isub, 1) := by decide +kernel
theorem dX9_next0_201 : decode cX9_next0 201 = .ok (.putfield 149, 3) := by decide +kernel
theorem dX9_next0_204 : decode cX9_next0 204 = .ok (.iinc 4 1, 3) := by decide +kernel
theorem dX9_next0_207 : decode cX9_next0 207 = .ok (.aload_n 0, 1) := by decide +kernel
theorem dX9_next0_208 : decode cX9_next0 208 = .ok (.dup, 1) := by decide +kernel
theorem dX9_next0_209 : decode cX9_next0 209 = .ok (.getfield 125, 3) := by decide +kernel
theorem dX9_next0_212 : decode cX9_next0 212 = .ok (.iconst 1, 1) := by decide +kernel
theorem dX9_next0_213 : decode cX9_next0 213 = .ok (.iadd, 1) := by decide +kernel
theorem dX9_next0_214 : decode cX9_next0 214 = .ok (.putfield 125, 3) := by decide +kernel
theorem dX9_next0_217 : decode cX9_next0 217 = .ok (.goto (-103), 3) := by decide +kernel
theorem dX9_next0_220 : decode cX9_next0 220 = .ok (.iload 4, 2) := by decide +kernel
theorem dX9_next0_222 : decode cX9_next0 222 = .ok (.bipush 7, 2) := by decide +kernel
theorem dX9_next0_224 : decode cX9_next0 224 = .ok (.if_icmp .le 8, 3) := by decide +kernel
theorem dX9_next0_227 : decode cX9_next0 227 = .ok (.aload_n 0, 1) := by decide +kernel
theorem dX9_next0_228 : decode cX9_next0 228 = .ok (.lconst 0, 1) := by decide +kernel
theorem dX9_next0_229 : decode cX9_next0 229 = .ok (.putfield 145, 3) := by decide +kernel
theorem dX9_next0_232 : decode cX9_next0 232 = .ok (.aload_n 0, 1) := by decide +kernel
theorem dX9_next0_233 : decode cX9_next0 233 = .ok (.iload_n 3, 1) := by decide +kernel
theorem dX9_next0_234 : decode cX9_next0 234 = .ok (.ifCond .eq 13, 3) := by decide +kernel
theorem dX9_next0_237 : decode cX9_next0 237 = .ok (.iload_n 2, 1) := by decide +kernel
theorem dX9_next0_238 : decode cX9_next0 238 = .ok (.ifCond .ne 13, 3) := by decide +kernel
theorem dX9_next0_241 : decode cX9_next0 241 = .ok (.iload 4, 2) := by decide +kernel
theorem dX9_next0_243 : decode cX9_next0 243 = .ok (.iconst 3, 1) := by decide +kernel
theorem dX9_next0_244 : decode cX9_next0 244 = .ok (.if_icmp .le 7, 3) := by decide +kernel
theorem dX9_next0_247 : decode cX9_next0 247 = .ok (.iconst 4, 1) := by decide +kernel
theorem dX9_next0_248 : decode cX9_next0 248 = .ok (.goto 12, 3) := by decide +kernel
theorem dX9_next0_251 : decode cX9_next0 251 = .ok (.iload_n 2, 1) := by decide +kernel
theorem dX9_next0_252 : decode cX9_next0 252 = .ok (.ifCond .eq 7, 3) := by decide +kernel
theorem dX9_next0_255 : decode cX9_next0 255 = .ok (.iconst 1, 1) := by decide +kernel
theorem dX9_next0_256 : decode cX9_next0 256 = .ok (.goto 4, 3) := by decide +kernel
theorem dX9_next0_259 : decode cX9_next0 259 = .ok (.iconst 2, 1) := by decide +kernel
theorem dX9_next0_260 : decode cX9_next0 260 = .ok (.putfield 135, 3) := by decide +kernel
theorem dX9_next0_263 : decode cX9_next0 263 = .ok (.return_, 1) := by decide +kernel
theorem dX9_wrong_0 : decode cX9_wrong 0 = .ok (.aload_n 0, 1) := by decide +kernel
theorem dX9_wrong_1 : decode cX9_wrong 1 = .ok (.iload_n 1, 1) := by decide +kernel
theorem dX9_wrong_2 : decode cX9_wrong 2 = .ok (.putfield 152, 3) := by decide +kernel
theorem dX9_wrong_5 : decode cX9_wrong 5 = .ok (.aload_n 0, 1) := by decide +kernel
theorem dX9_wrong_6 : decode cX9_wrong 6 = .ok (.iload_n 2, 1) := by decide +kernel
theorem dX9_wrong_7 : decode cX9_wrong 7 = .ok (.putfield 155, 3) := by decide +kernel
theorem dX9_wrong_10 : decode cX9_wrong 10 = .ok (.iconst 0, 1) := by decide +kernel
theorem dX9_wrong_11 : decode cX9_wrong 11 = .ok (.ireturn, 1) := by decide +kernel
set_option maxRecDepth 20000 in
theorem ggX9_cant_X9_wrong : GoodIn wsX9_cant wsX9_wrong := goodIn_ca (lq_goor _ [7, 8, 9] rfl (by decide +kernel)) (goodIn_sub (fun _ h => List.mem_cons_of_mem _ (List.mem_append_right _ h)) gw_wsX90)
set_option maxRecDepth 20000 in
theorem gX9_cant_X9_wrong : GoodIn wsX9_cant (wsV RX9 158 RX9 yX9_wrong wsX9_wrong) := goodIn_app (lq_goor _ [3, 4, 5, 6] rfl (by decide +kernel)) ggX9_cant_X9_wrong
theorem dX9_cant_0 : decode cX9_cant 0 = .ok (.aload_n 0, 1) := by decide +kernel
theorem dX9_cant_1 : decode cX9_cant 1 = .ok (.aload_n 0, 1) := by decide +kernel
theorem dX9_cant_2 : decode cX9_cant 2 = .ok (.getfield 135, 3) := by decide +kernel
theorem dX9_cant_5 : decode cX9_cant 5 = .ok (.iconst 4, 1) := by decide +kernel
theorem dX9_cant_6 : decode cX9_cant 6 = .ok (.if_icmp .ne 7, 3) := by decide +kernel
theorem dX9_cant_9 : decode cX9_cant 9 = .ok (.iconst 1, 1) := by decide +kernel
theorem dX9_cant_10 : decode cX9_cant 10 = .ok (.goto 4, 3) := by decide +kernel
theorem dX9_cant_13 : decode cX9_cant 13 = .ok (.iconst 2, 1) := by decide +kernel
theorem dX9_cant_14 : decode cX9_cant 14 = .ok (.aload_n 0, 1) := by decide +kernel
theorem dX9_cant_15 : decode cX9_cant 15 = .ok (.getfield 132, 3) := by decide +kernel
theorem dX9_cant_18 : decode cX9_cant 18 = .ok (.invokevirtual 158, 3) := by decide +kernel
theorem dX9_cant_21 : decode cX9_cant 21 = .ok (.ireturn, 1) := by decide +kernel
theorem dX9_isWord_0 : decode cX9_isWord 0 = .ok (.aload_n 0, 1) := by decide +kernel
theorem dX9_isWord_1 : decode cX9_isWord 1 = .ok (.getfield 135, 3) := by decide +kernel
theorem dX9_isWord_4 : decode cX9_isWord 4 = .ok (.iconst 1, 1) := by decide +kernel
theorem dX9_isWord_5 : decode cX9_isWord 5 = .ok (.if_icmp .ne 16, 3) := by decide +kernel
theorem dX9_isWord_8 : decode cX9_isWord 8 = .ok (.aload_n 0, 1) := by decide +kernel
theorem dX9_isWord_9 : decode cX9_isWord 9 = .ok (.getfield 145, 3) := by decide +kernel
theorem dX9_isWord_12 : decode cX9_isWord 12 = .ok (.lload_n 1, 1) := by decide +kernel
theorem dX9_isWord_13 : decode cX9_isWord 13 = .ok (.lcmp, 1) := by decide +kernel
theorem dX9_isWord_14 : decode cX9_isWord 14 = .ok (.ifCond .ne 7, 3) := by decide +kernel
theorem dX9_isWord_17 : decode cX9_isWord 17 = .ok (.iconst 1, 1) := by decide +kernel
theorem dX9_isWord_18 : decode cX9_isWord 18 = .ok (.goto 4, 3) := by decide +kernel
theorem dX9_isWord_21 : decode cX9_isWord 21 = .ok (.iconst 0, 1) := by decide +kernel
theorem dX9_isWord_22 : decode cX9_isWord 22 = .ok (.ireturn, 1) := by decide +kernel
set_option maxRecDepth 20000 in
theorem ggX9_statutes_X9_taken : GoodIn wsX9_statutes wsX9_taken := goodIn_ca (lq_goor _ [12, 13, 14, 15] rfl (by decide +kernel)) (goodIn_sub (fun _ h => List.mem_cons_of_mem _ (List.mem_append_right _ h)) gw_wsX90)
set_option maxRecDepth 20000 in
theorem gX9_statutes_X9_taken : GoodIn wsX9_statutes (wsV RX9 162 RX9 yX9_taken wsX9_taken) := goodIn_app (lq_goor _ [8, 9, 10, 11] rfl (by decide +kernel)) ggX9_statutes_X9_taken
set_option maxRecDepth 20000 in
theorem ggX9_statutes_X9_next0 : GoodIn wsX9_statutes wsX9_next0 := goodIn_ca (lq_goor _ [19, 15, 20, 5, 21, 22, 23, 24, 25, 11, 26, 14, 27, 28, 29, 30, 31, 32, 33] rfl (by decide +kernel)) (goodIn_sub (fun _ h => List.mem_cons_of_mem _ (List.mem_append_right _ h)) gw_wsX90)
set_option maxRecDepth 20000 in
theorem gX9_statutes_X9_next0 : GoodIn wsX9_statutes (wsV RX9 165 RX9 yX9_next0 wsX9_next0) := goodIn_app (lq_goor _ [16, 17, 18, 11] rfl (by decide +kernel)) ggX9_statutes_X9_next0
set_option maxRecDepth 20000 in
theorem ggX9_statutes_X9_rule : GoodIn wsX9_statutes wsX9_rule := goodIn_ca (lq_goor _ [37, 38, 39, 40, 41, 3, 20, 5, 22, 4, 42, 43, 44, 11, 45, 21, 46, 47, 48, 49, 50, 51, 52, 53, 2, 6, 16, 17, 18, 19, 15, 23, 24, 25, 26, 14, 27, 28, 29, 30, 31, 32, 33] rfl (by decide +kernel)) (goodIn_sub (fun _ h => List.mem_cons_of_mem _ (List.mem_append_right _ h)) gw_wsX90)
set_option maxRecDepth 20000 in
theorem gX9_statutes_X9_rule : GoodIn wsX9_statutes (wsV RX9 168 RX9 yX9_rule wsX9_rule) := goodIn_app (lq_goor _ [34, 35, 36, 11] rfl (by decide +kernel)) ggX9_statutes_X9_rule
theorem dX9_statutes_0 : decode cX9_statutes 0 = .ok (.aload_n 0, 1) := by decide +kernel
theorem dX9_statutes_1 : decode cX9_statutes 1 = .ok (.iconst 0, 1) := by decide +kernel
theorem dX9_statutes_2 : decode cX9_statutes 2 = .ok (.putfield 111, 3) := by decide +kernel
theorem dX9_statutes_5 : decode cX9_statutes 5 = .ok (.aload_n 0, 1) := by decide +kernel
theorem dX9_statutes_6 : decode cX9_statutes 6 = .ok (.invokevirtual 162, 3) := by decide +kernel
theorem dX9_statutes_9 : decode cX9_statutes 9 = .ok (.aload_n 0, 1) := by decide +kernel
theorem dX9_statutes_10 : decode cX9_statutes 10 = .ok (.iconst 0, 1) := by decide +kernel
theorem dX9_statutes_11 : decode cX9_statutes 11 = .ok (.putfield 152, 3) := by decide +kernel
theorem dX9_statutes_14 : decode cX9_statutes 14 = .ok (.iconst 0, 1) := by decide +kernel
theorem dX9_statutes_15 : decode cX9_statutes 15 = .ok (.istore_n 1, 1) := by decide +kernel
theorem dX9_statutes_16 : decode cX9_statutes 16 = .ok (.iload_n 1, 1) := by decide +kernel
theorem dX9_statutes_17 : decode cX9_statutes 17 = .ok (.bipush 6, 2) := by decide +kernel
theorem dX9_statutes_19 : decode cX9_statutes 19 = .ok (.if_icmp .ge 49, 3) := by decide +kernel
theorem dX9_statutes_22 : decode cX9_statutes 22 = .ok (.aload_n 0, 1) := by decide +kernel
theorem dX9_statutes_23 : decode cX9_statutes 23 = .ok (.getfield 20, 3) := by decide +kernel
theorem dX9_statutes_26 : decode cX9_statutes 26 = .ok (.iload_n 1, 1) := by decide +kernel
theorem dX9_statutes_27 : decode cX9_statutes 27 = .ok (.iconst 0, 1) := by decide +kernel
theorem dX9_statutes_28 : decode cX9_statutes 28 = .ok (.bastore, 1) := by decide +kernel
theorem dX9_statutes_29 : decode cX9_statutes 29 = .ok (.aload_n 0, 1) := by decide +kernel
theorem dX9_statutes_30 : decode cX9_statutes 30 = .ok (.getfield 17, 3) := by decide +kernel
theorem dX9_statutes_33 : decode cX9_statutes 33 = .ok (.iload_n 1, 1) := by decide +kernel
theorem dX9_statutes_34 : decode cX9_statutes 34 = .ok (.iload_n 1, 1) := by decide +kernel
theorem dX9_statutes_35 : decode cX9_statutes 35 = .ok (.ifCond .ne 7, 3) := by decide +kernel
theorem dX9_statutes_38 : decode cX9_statutes 38 = .ok (.iconst 2, 1) := by decide +kernel
theorem dX9_statutes_39 : decode cX9_statutes 39 = .ok (.goto 22, 3) := by decide +kernel
theorem dX9_statutes_42 : decode cX9_statutes 42 = .ok (.iload_n 1, 1) := by decide +kernel
theorem dX9_statutes_43 : decode cX9_statutes 43 = .ok (.iconst 1, 1) := by decide +kernel
theorem dX9_statutes_44 : decode cX9_statutes 44 = .ok (.if_icmp .ne 7, 3) := by decide +kernel
