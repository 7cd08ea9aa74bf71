theorem dX4_ruleOfWord_17 : decode cX4_ruleOfWord 17 = .ok (.ifCond .eq 5, 3) := by decide +kernel
theorem dX4_ruleOfWord_20 : decode cX4_ruleOfWord 20 = .ok (.iconst 1, 1) := by decide +kernel
theorem dX4_ruleOfWord_21 : decode cX4_ruleOfWord 21 = .ok (.ireturn, 1) := by decide +kernel
theorem dX4_ruleOfWord_22 : decode cX4_ruleOfWord 22 = .ok (.aload_n 0, 1) := by decide +kernel
theorem dX4_ruleOfWord_23 : decode cX4_ruleOfWord 23 = .ok (.ldc 72, 2) := by decide +kernel
theorem dX4_ruleOfWord_25 : decode cX4_ruleOfWord 25 = .ok (.invokevirtual 66, 3) := by decide +kernel
theorem dX4_ruleOfWord_28 : decode cX4_ruleOfWord 28 = .ok (.ifCond .eq 5, 3) := by decide +kernel
theorem dX4_ruleOfWord_31 : decode cX4_ruleOfWord 31 = .ok (.iconst 2, 1) := by decide +kernel
theorem dX4_ruleOfWord_32 : decode cX4_ruleOfWord 32 = .ok (.ireturn, 1) := by decide +kernel
theorem dX4_ruleOfWord_33 : decode cX4_ruleOfWord 33 = .ok (.aload_n 0, 1) := by decide +kernel
theorem dX4_ruleOfWord_34 : decode cX4_ruleOfWord 34 = .ok (.ldc 74, 2) := by decide +kernel
theorem dX4_ruleOfWord_36 : decode cX4_ruleOfWord 36 = .ok (.invokevirtual 66, 3) := by decide +kernel
theorem dX4_ruleOfWord_39 : decode cX4_ruleOfWord 39 = .ok (.ifCond .eq 7, 3) := by decide +kernel
theorem dX4_ruleOfWord_42 : decode cX4_ruleOfWord 42 = .ok (.iconst 3, 1) := by decide +kernel
theorem dX4_ruleOfWord_43 : decode cX4_ruleOfWord 43 = .ok (.goto 4, 3) := by decide +kernel
theorem dX4_ruleOfWord_46 : decode cX4_ruleOfWord 46 = .ok (.iconst (-1), 1) := by decide +kernel
theorem dX4_ruleOfWord_47 : decode cX4_ruleOfWord 47 = .ok (.ireturn, 1) := by decide +kernel
set_option maxRecDepth 20000 in
theorem ggX4_isFirstOf_X4_stopAtToken : GoodIn wsX4_isFirstOf wsX4_stopAtToken := goodIn_ca (lq_goor _ [6, 7, 8, 9, 10] rfl (by decide +kernel)) (goodIn_sub (fun _ h => List.mem_cons_of_mem _ (List.mem_append_right _ h)) gw_wsX40)
set_option maxRecDepth 20000 in
theorem gX4_isFirstOf_X4_stopAtToken : GoodIn wsX4_isFirstOf (wsV RX4 44 RX4 yX4_stopAtToken wsX4_stopAtToken) := goodIn_app (lq_goor _ [2, 3, 4, 5] rfl (by decide +kernel)) ggX4_isFirstOf_X4_stopAtToken
theorem dX4_isFirstOf_0 : decode cX4_isFirstOf 0 = .ok (.iload_n 1, 1) := by decide +kernel
theorem dX4_isFirstOf_1 : decode cX4_isFirstOf 1 = .ok (.ifCond .lt 18, 3) := by decide +kernel
theorem dX4_isFirstOf_4 : decode cX4_isFirstOf 4 = .ok (.iload_n 1, 1) := by decide +kernel
theorem dX4_isFirstOf_5 : decode cX4_isFirstOf 5 = .ok (.bipush 6, 2) := by decide +kernel
theorem dX4_isFirstOf_7 : decode cX4_isFirstOf 7 = .ok (.if_icmp .ge 12, 3) := by decide +kernel
theorem dX4_isFirstOf_10 : decode cX4_isFirstOf 10 = .ok (.aload_n 0, 1) := by decide +kernel
theorem dX4_isFirstOf_11 : decode cX4_isFirstOf 11 = .ok (.getfield 18, 3) := by decide +kernel
theorem dX4_isFirstOf_14 : decode cX4_isFirstOf 14 = .ok (.iload_n 1, 1) := by decide +kernel
theorem dX4_isFirstOf_15 : decode cX4_isFirstOf 15 = .ok (.baload, 1) := by decide +kernel
theorem dX4_isFirstOf_16 : decode cX4_isFirstOf 16 = .ok (.ifCond .eq 9, 3) := by decide +kernel
theorem dX4_isFirstOf_19 : decode cX4_isFirstOf 19 = .ok (.aload_n 0, 1) := by decide +kernel
theorem dX4_isFirstOf_20 : decode cX4_isFirstOf 20 = .ok (.iconst 4, 1) := by decide +kernel
theorem dX4_isFirstOf_21 : decode cX4_isFirstOf 21 = .ok (.invokevirtual 44, 3) := by decide +kernel
theorem dX4_isFirstOf_24 : decode cX4_isFirstOf 24 = .ok (.ireturn, 1) := by decide +kernel
theorem dX4_isFirstOf_25 : decode cX4_isFirstOf 25 = .ok (.aload_n 0, 1) := by decide +kernel
theorem dX4_isFirstOf_26 : decode cX4_isFirstOf 26 = .ok (.getfield 18, 3) := by decide +kernel
theorem dX4_isFirstOf_29 : decode cX4_isFirstOf 29 = .ok (.iload_n 1, 1) := by decide +kernel
theorem dX4_isFirstOf_30 : decode cX4_isFirstOf 30 = .ok (.iconst 1, 1) := by decide +kernel
theorem dX4_isFirstOf_31 : decode cX4_isFirstOf 31 = .ok (.bastore, 1) := by decide +kernel
theorem dX4_isFirstOf_32 : decode cX4_isFirstOf 32 = .ok (.iconst 1, 1) := by decide +kernel
theorem dX4_isFirstOf_33 : decode cX4_isFirstOf 33 = .ok (.ireturn, 1) := by decide +kernel
set_option maxRecDepth 20000 in
theorem ggX4_readNumberOf_X4_readToken : GoodIn wsX4_readNumberOf wsX4_readToken := goodIn_ca (goodIn_ca (lq_goor _ [7, 8, 9, 10, 11, 12, 13, 14, 15, 16, 17, 18, 19, 20, 6, 21, 22, 23, 24, 25, 2, 26, 27, 28, 29, 30, 31, 32, 33, 34] rfl (by decide +kernel)) (goodIn_sub (fun _ h => List.mem_cons_of_mem _ (List.mem_append_left _ (List.mem_append_left _ (List.mem_append_right _ h)))) gw_wsX40)) (goodIn_sub (fun _ h => List.mem_cons_of_mem _ (List.mem_append_left _ (List.mem_append_right _ h))) gw_wsX70)
set_option maxRecDepth 20000 in
theorem gX4_readNumberOf_X4_readToken : GoodIn wsX4_readNumberOf (wsV RX4 26 RX4 yX4_readToken wsX4_readToken) := goodIn_app (lq_goor _ [3, 4, 5, 6] rfl (by decide +kernel)) ggX4_readNumberOf_X4_readToken
set_option maxRecDepth 20000 in
theorem ggX4_readNumberOf_X5_leastFor : GoodIn wsX4_readNumberOf wsX5_leastFor := lq_goor _ [38] rfl (by decide +kernel)
set_option maxRecDepth 20000 in
theorem gX4_readNumberOf_X5_leastFor : GoodIn wsX4_readNumberOf (va_wsS RX4 76 yX5_leastFor wsX5_leastFor) := goodIn_app (lq_goor _ [35, 36, 37] rfl (by decide +kernel)) ggX4_readNumberOf_X5_leastFor
set_option maxRecDepth 20000 in
theorem ggX4_readNumberOf_X5_mostFor : GoodIn wsX4_readNumberOf wsX5_mostFor := lq_goor _ [41] rfl (by decide +kernel)
set_option maxRecDepth 20000 in
theorem gX4_readNumberOf_X5_mostFor : GoodIn wsX4_readNumberOf (va_wsS RX4 80 yX5_mostFor wsX5_mostFor) := goodIn_app (lq_goor _ [39, 40, 37] rfl (by decide +kernel)) ggX4_readNumberOf_X5_mostFor
set_option maxRecDepth 20000 in
theorem ggX4_readNumberOf_X4_isNumberWithin : GoodIn wsX4_readNumberOf wsX4_isNumberWithin := goodIn_ca (lq_goor _ [45, 11, 2, 46, 47, 48, 6, 49, 50, 10, 51] rfl (by decide +kernel)) (goodIn_sub (fun _ h => List.mem_cons_of_mem _ (List.mem_append_left _ (List.mem_append_left _ (List.mem_append_right _ h)))) gw_wsX40)
set_option maxRecDepth 20000 in
theorem gX4_readNumberOf_X4_isNumberWithin : GoodIn wsX4_readNumberOf (wsV RX4 48 RX4 yX4_isNumberWithin wsX4_isNumberWithin) := goodIn_app (lq_goor _ [42, 43, 44, 6] rfl (by decide +kernel)) ggX4_readNumberOf_X4_isNumberWithin
set_option maxRecDepth 20000 in
theorem ggX4_readNumberOf_X5_tell : GoodIn wsX4_readNumberOf wsX5_tell := goodIn_ca (lq_goor _ [55, 56] rfl (by decide +kernel)) (goodIn_sub (fun _ h => List.mem_cons_of_mem _ (List.mem_append_right _ h)) gw_wsX50)
set_option maxRecDepth 20000 in
theorem gX4_readNumberOf_X5_tell : GoodIn wsX4_readNumberOf (wsV RX4 83 RX5 yX5_tell wsX5_tell) := goodIn_app (lq_goor _ [52, 53, 54, 37] rfl (by decide +kernel)) ggX4_readNumberOf_X5_tell
theorem dX4_readNumberOf_0 : decode cX4_readNumberOf 0 = .ok (.aload_n 0, 1) := by decide +kernel
theorem dX4_readNumberOf_1 : decode cX4_readNumberOf 1 = .ok (.invokevirtual 26, 3) := by decide +kernel
theorem dX4_readNumberOf_4 : decode cX4_readNumberOf 4 = .ok (.aload_n 0, 1) := by decide +kernel
theorem dX4_readNumberOf_5 : decode cX4_readNumberOf 5 = .ok (.iload_n 1, 1) := by decide +kernel
theorem dX4_readNumberOf_6 : decode cX4_readNumberOf 6 = .ok (.invokestatic 76, 3) := by decide +kernel
theorem dX4_readNumberOf_9 : decode cX4_readNumberOf 9 = .ok (.iload_n 1, 1) := by decide +kernel
theorem dX4_readNumberOf_10 : decode cX4_readNumberOf 10 = .ok (.invokestatic 80, 3) := by decide +kernel
theorem dX4_readNumberOf_13 : decode cX4_readNumberOf 13 = .ok (.invokevirtual 48, 3) := by decide +kernel
theorem dX4_readNumberOf_16 : decode cX4_readNumberOf 16 = .ok (.ifCond .ne 5, 3) := by decide +kernel
theorem dX4_readNumberOf_19 : decode cX4_readNumberOf 19 = .ok (.iconst 0, 1) := by decide +kernel
theorem dX4_readNumberOf_20 : decode cX4_readNumberOf 20 = .ok (.ireturn, 1) := by decide +kernel
theorem dX4_readNumberOf_21 : decode cX4_readNumberOf 21 = .ok (.aload_n 0, 1) := by decide +kernel
theorem dX4_readNumberOf_22 : decode cX4_readNumberOf 22 = .ok (.getfield 12, 3) := by decide +kernel
theorem dX4_readNumberOf_25 : decode cX4_readNumberOf 25 = .ok (.iload_n 1, 1) := by decide +kernel
theorem dX4_readNumberOf_26 : decode cX4_readNumberOf 26 = .ok (.aload_n 0, 1) := by decide +kernel
theorem dX4_readNumberOf_27 : decode cX4_readNumberOf 27 = .ok (.getfield 52, 3) := by decide +kernel
theorem dX4_readNumberOf_30 : decode cX4_readNumberOf 30 = .ok (.invokevirtual 83, 3) := by decide +kernel
theorem dX4_readNumberOf_33 : decode cX4_readNumberOf 33 = .ok (.iconst 1, 1) := by decide +kernel
theorem dX4_readNumberOf_34 : decode cX4_readNumberOf 34 = .ok (.ireturn, 1) := by decide +kernel
set_option maxRecDepth 20000 in
theorem ggX4_readSemicolon_X4_readToken : GoodIn wsX4_readSemicolon wsX4_readToken := goodIn_ca (goodIn_ca (lq_goor _ [6, 7, 8, 9, 1, 10, 11, 12, 13, 14, 15, 16, 17, 18, 5, 19, 20, 21, 22, 23, 24, 25, 26, 27, 28, 29, 30, 31, 32, 33] rfl (by decide +kernel)) (goodIn_sub (fun _ h => List.mem_cons_of_mem _ (List.mem_append_left _ (List.mem_append_right _ h))) gw_wsX40)) (goodIn_sub (fun _ h => List.mem_cons_of_mem _ (List.mem_append_right _ h)) gw_wsX70)
set_option maxRecDepth 20000 in
theorem gX4_readSemicolon_X4_readToken : GoodIn wsX4_readSemicolon (wsV RX4 26 RX4 yX4_readToken wsX4_readToken) := goodIn_app (lq_goor _ [2, 3, 4, 5] rfl (by decide +kernel)) ggX4_readSemicolon_X4_readToken
set_option maxRecDepth 20000 in
theorem ggX4_readSemicolon_X4_stopAtToken : GoodIn wsX4_readSemicolon wsX4_stopAtToken := goodIn_ca (lq_goor _ [37, 1, 38, 9, 39] rfl (by decide +kernel)) (goodIn_sub (fun _ h => List.mem_cons_of_mem _ (List.mem_append_left _ (List.mem_append_right _ h))) gw_wsX40)
set_option maxRecDepth 20000 in
theorem gX4_readSemicolon_X4_stopAtToken : GoodIn wsX4_readSemicolon (wsV RX4 44 RX4 yX4_stopAtToken wsX4_stopAtToken) := goodIn_app (lq_goor _ [34, 35, 36, 5] rfl (by decide +kernel)) ggX4_readSemicolon_X4_stopAtToken
theorem dX4_readSemicolon_0 : decode cX4_readSemicolon 0 = .ok (.aload_n 0, 1) := by decide +kernel
theorem dX4_readSemicolon_1 : decode cX4_readSemicolon 1 = .ok (.invokevirtual 26, 3) := by decide +kernel
theorem dX4_readSemicolon_4 : decode cX4_readSemicolon 4 = .ok (.aload_n 0, 1) := by decide +kernel
theorem dX4_readSemicolon_5 : decode cX4_readSemicolon 5 = .ok (.getfield 29, 3) := by decide +kernel
theorem dX4_readSemicolon_8 : decode cX4_readSemicolon 8 = .ok (.iconst 3, 1) := by decide +kernel
theorem dX4_readSemicolon_9 : decode cX4_readSemicolon 9 = .ok (.if_icmp .eq 9, 3) := by decide +kernel
theorem dX4_readSemicolon_12 : decode cX4_readSemicolon 12 = .ok (.aload_n 0, 1) := by decide +kernel
theorem dX4_readSemicolon_13 : decode cX4_readSemicolon 13 = .ok (.iconst 2, 1) := by decide +kernel
theorem dX4_readSemicolon_14 : decode cX4_readSemicolon 14 = .ok (.invokevirtual 44, 3) := by decide +kernel
theorem dX4_readSemicolon_17 : decode cX4_readSemicolon 17 = .ok (.ireturn, 1) := by decide +kernel
theorem dX4_readSemicolon_18 : decode cX4_readSemicolon 18 = .ok (.aload_n 0, 1) := by decide +kernel
theorem dX4_readSemicolon_19 : decode cX4_readSemicolon 19 = .ok (.invokevirtual 26, 3) := by decide +kernel
theorem dX4_readSemicolon_22 : decode cX4_readSemicolon 22 = .ok (.iconst 1, 1) := by decide +kernel
theorem dX4_readSemicolon_23 : decode cX4_readSemicolon 23 = .ok (.ireturn, 1) := by decide +kernel
set_option maxRecDepth 20000 in
theorem ggX4_isNumberWithin_X4_stopAtToken : GoodIn wsX4_isNumberWithin wsX4_stopAtToken := goodIn_ca (lq_goor _ [7, 1, 8, 9, 10] rfl (by decide +kernel)) (goodIn_sub (fun _ h => List.mem_cons_of_mem _ (List.mem_append_right _ h)) gw_wsX40)
set_option maxRecDepth 20000 in
theorem gX4_isNumberWithin_X4_stopAtToken : GoodIn wsX4_isNumberWithin (wsV RX4 44 RX4 yX4_stopAtToken wsX4_stopAtToken) := goodIn_app (lq_goor _ [3, 4, 5, 6] rfl (by decide +kernel)) ggX4_isNumberWithin_X4_stopAtToken
theorem dX4_isNumberWithin_0 : decode cX4_isNumberWithin 0 = .ok (.aload_n 0, 1) := by decide +kernel
theorem dX4_isNumberWithin_1 : decode cX4_isNumberWithin 1 = .ok (.getfield 29, 3) := by decide +kernel
theorem dX4_isNumberWithin_4 : decode cX4_isNumberWithin 4 = .ok (.iconst 2, 1) := by decide +kernel
theorem dX4_isNumberWithin_5 : decode cX4_isNumberWithin 5 = .ok (.if_icmp .eq 9, 3) := by decide +kernel
theorem dX4_isNumberWithin_8 : decode cX4_isNumberWithin 8 = .ok (.aload_n 0, 1) := by decide +kernel
theorem dX4_isNumberWithin_9 : decode cX4_isNumberWithin 9 = .ok (.iconst 2, 1) := by decide +kernel
theorem dX4_isNumberWithin_10 : decode cX4_isNumberWithin 10 = .ok (.invokevirtual 44, 3) := by decide +kernel
theorem dX4_isNumberWithin_13 : decode cX4_isNumberWithin 13 = .ok (.ireturn, 1) := by decide +kernel
theorem dX4_isNumberWithin_14 : decode cX4_isNumberWithin 14 = .ok (.aload_n 0, 1) := by decide +kernel
theorem dX4_isNumberWithin_15 : decode cX4_isNumberWithin 15 = .ok (.getfield 52, 3) := by decide +kernel
theorem dX4_isNumberWithin_18 : decode cX4_isNumberWithin 18 = .ok (.iload_n 1, 1) := by decide +kernel
theorem dX4_isNumberWithin_19 : decode cX4_isNumberWithin 19 = .ok (.if_icmp .lt 11, 3) := by decide +kernel
theorem dX4_isNumberWithin_22 : decode cX4_isNumberWithin 22 = .ok (.aload_n 0, 1) := by decide +kernel
theorem dX4_isNumberWithin_23 : decode cX4_isNumberWithin 23 = .ok (.getfield 52, 3) := by decide +kernel
theorem dX4_isNumberWithin_26 : decode cX4_isNumberWithin 26 = .ok (.iload_n 2, 1) := by decide +kernel
theorem dX4_isNumberWithin_27 : decode cX4_isNumberWithin 27 = .ok (.if_icmp .le 9, 3) := by decide +kernel
theorem dX4_isNumberWithin_30 : decode cX4_isNumberWithin 30 = .ok (.aload_n 0, 1) := by decide +kernel
theorem dX4_isNumberWithin_31 : decode cX4_isNumberWithin 31 = .ok (.iconst 3, 1) := by decide +kernel
theorem dX4_isNumberWithin_32 : decode cX4_isNumberWithin 32 = .ok (.invokevirtual 44, 3) := by decide +kernel
theorem dX4_isNumberWithin_35 : decode cX4_isNumberWithin 35 = .ok (.ireturn, 1) := by decide +kernel
theorem dX4_isNumberWithin_36 : decode cX4_isNumberWithin 36 = .ok (.iconst 1, 1) := by decide +kernel
theorem dX4_isNumberWithin_37 : decode cX4_isNumberWithin 37 = .ok (.ireturn, 1) := by decide +kernel
theorem dX4_stopAtToken_0 : decode cX4_stopAtToken 0 = .ok (.aload_n 0, 1) := by decide +kernel
theorem dX4_stopAtToken_1 : decode cX4_stopAtToken 1 = .ok (.aload_n 0, 1) := by decide +kernel
theorem dX4_stopAtToken_2 : decode cX4_stopAtToken 2 = .ok (.getfield 29, 3) := by decide +kernel
theorem dX4_stopAtToken_5 : decode cX4_stopAtToken 5 = .ok (.iconst 4, 1) := by decide +kernel
theorem dX4_stopAtToken_6 : decode cX4_stopAtToken 6 = .ok (.if_icmp .ne 7, 3) := by decide +kernel
theorem dX4_stopAtToken_9 : decode cX4_stopAtToken 9 = .ok (.iconst 1, 1) := by decide +kernel
theorem dX4_stopAtToken_10 : decode cX4_stopAtToken 10 = .ok (.goto 4, 3) := by decide +kernel
theorem dX4_stopAtToken_13 : decode cX4_stopAtToken 13 = .ok (.iload_n 1, 1) := by decide +kernel
theorem dX4_stopAtToken_14 : decode cX4_stopAtToken 14 = .ok (.putfield 87, 3) := by decide +kernel
theorem dX4_stopAtToken_17 : decode cX4_stopAtToken 17 = .ok (.aload_n 0, 1) := by decide +kernel
theorem dX4_stopAtToken_18 : decode cX4_stopAtToken 18 = .ok (.aload_n 0, 1) := by decide +kernel
theorem dX4_stopAtToken_19 : decode cX4_stopAtToken 19 = .ok (.getfield 90, 3) := by decide +kernel
theorem dX4_stopAtToken_22 : decode cX4_stopAtToken 22 = .ok (.putfield 93, 3) := by decide +kernel
theorem dX4_stopAtToken_25 : decode cX4_stopAtToken 25 = .ok (.iconst 0, 1) := by decide +kernel
theorem dX4_stopAtToken_26 : decode cX4_stopAtToken 26 = .ok (.ireturn, 1) := by decide +kernel
set_option maxRecDepth 20000 in
theorem ggX4_readToken_X7_byteAt : GoodIn wsX4_readToken wsX7_byteAt := goodIn_ca (lq_goor _ [9, 10, 11] rfl (by decide +kernel)) (goodIn_sub (fun _ h => List.mem_cons_of_mem _ (List.mem_append_right _ h)) gw_wsX70)
set_option maxRecDepth 20000 in
theorem gX4_readToken_X7_byteAt : GoodIn wsX4_readToken (wsV RX4 104 RX7 yX7_byteAt wsX7_byteAt) := goodIn_app (lq_goor _ [5, 6, 7, 8] rfl (by decide +kernel)) ggX4_readToken_X7_byteAt
set_option maxRecDepth 20000 in
theorem ggX4_readToken_X4_isBlank : GoodIn wsX4_readToken wsX4_isBlank := lq_goor _ [15] rfl (by decide +kernel)
set_option maxRecDepth 20000 in
theorem gX4_readToken_X4_isBlank : GoodIn wsX4_readToken (va_wsS RX4 107 yX4_isBlank wsX4_isBlank) := goodIn_app (lq_goor _ [12, 13, 14] rfl (by decide +kernel)) ggX4_readToken_X4_isBlank
set_option maxRecDepth 20000 in
theorem ggX4_readToken_X4_readWordOrNumber : GoodIn wsX4_readToken wsX4_readWordOrNumber := goodIn_ca (goodIn_ca (lq_goor _ [19, 20, 1, 2, 3, 4, 5, 6, 7, 8, 9, 10, 11, 21, 22, 14, 23, 24, 25, 26, 27, 28, 29] rfl (by decide +kernel)) (goodIn_sub (fun _ h => List.mem_cons_of_mem _ (List.mem_append_left _ (List.mem_append_right _ h))) gw_wsX40)) (goodIn_sub (fun _ h => List.mem_cons_of_mem _ (List.mem_append_right _ h)) gw_wsX70)
set_option maxRecDepth 20000 in
theorem gX4_readToken_X4_readWordOrNumber : GoodIn wsX4_readToken (wsV RX4 110 RX4 yX4_readWordOrNumber wsX4_readWordOrNumber) := goodIn_app (lq_goor _ [16, 17, 18, 14] rfl (by decide +kernel)) ggX4_readToken_X4_readWordOrNumber
theorem dX4_readToken_0 : decode cX4_readToken 0 = .ok (.aload_n 0, 1) := by decide +kernel
theorem dX4_readToken_1 : decode cX4_readToken 1 = .ok (.getfield 96, 3) := by decide +kernel
theorem dX4_readToken_4 : decode cX4_readToken 4 = .ok (.aload_n 0, 1) := by decide +kernel
theorem dX4_readToken_5 : decode cX4_readToken 5 = .ok (.getfield 22, 3) := by decide +kernel
theorem dX4_readToken_8 : decode cX4_readToken 8 = .ok (.getfield 99, 3) := by decide +kernel
theorem dX4_readToken_11 : decode cX4_readToken 11 = .ok (.if_icmp .ge 33, 3) := by decide +kernel
theorem dX4_readToken_14 : decode cX4_readToken 14 = .ok (.aload_n 0, 1) := by decide +kernel
theorem dX4_readToken_15 : decode cX4_readToken 15 = .ok (.getfield 22, 3) := by decide +kernel
theorem dX4_readToken_18 : decode cX4_readToken 18 = .ok (.aload_n 0, 1) := by decide +kernel
theorem dX4_readToken_19 : decode cX4_readToken 19 = .ok (.getfield 96, 3) := by decide +kernel
theorem dX4_readToken_22 : decode cX4_readToken 22 = .ok (.invokevirtual 104, 3) := by decide +kernel
theorem dX4_readToken_25 : decode cX4_readToken 25 = .ok (.invokestatic 107, 3) := by decide +kernel
theorem dX4_readToken_28 : decode cX4_readToken 28 = .ok (.ifCond .eq 16, 3) := by decide +kernel
theorem dX4_readToken_31 : decode cX4_readToken 31 = .ok (.aload_n 0, 1) := by decide +kernel
theorem dX4_readToken_32 : decode cX4_readToken 32 = .ok (.dup, 1) := by decide +kernel
theorem dX4_readToken_33 : decode cX4_readToken 33 = .ok (.getfield 96, 3) := by decide +kernel
theorem dX4_readToken_36 : decode cX4_readToken 36 = .ok (.iconst 1, 1) := by decide +kernel
theorem dX4_readToken_37 : decode cX4_readToken 37 = .ok (.iadd, 1) := by decide +kernel
theorem dX4_readToken_38 : decode cX4_readToken 38 = .ok (.putfield 96, 3) := by decide +kernel
theorem dX4_readToken_41 : decode cX4_readToken 41 = .ok (.goto (-41), 3) := by decide +kernel
theorem dX4_readToken_44 : decode cX4_readToken 44 = .ok (.aload_n 0, 1) := by decide +kernel
theorem dX4_readToken_45 : decode cX4_readToken 45 = .ok (.aload_n 0, 1) := by decide +kernel
theorem dX4_readToken_46 : decode cX4_readToken 46 = .ok (.getfield 96, 3) := by decide +kernel
theorem dX4_readToken_49 : decode cX4_readToken 49 = .ok (.putfield 90, 3) := by decide +kernel
theorem dX4_readToken_52 : decode cX4_readToken 52 = .ok (.aload_n 0, 1) := by decide +kernel
theorem dX4_readToken_53 : decode cX4_readToken 53 = .ok (.getfield 96, 3) := by decide +kernel
theorem dX4_readToken_56 : decode cX4_readToken 56 = .ok (.aload_n 0, 1) := by decide +kernel
theorem dX4_readToken_57 : decode cX4_readToken 57 = .ok (.getfield 22, 3) := by decide +kernel
theorem dX4_readToken_60 : decode cX4_readToken 60 = .ok (.getfield 99, 3) := by decide +kernel
theorem dX4_readToken_63 : decode cX4_readToken 63 = .ok (.if_icmp .lt 11, 3) := by decide +kernel
theorem dX4_readToken_66 : decode cX4_readToken 66 = .ok (.aload_n 0, 1) := by decide +kernel
theorem dX4_readToken_67 : decode cX4_readToken 67 = .ok (.iconst 0, 1) := by decide +kernel
theorem dX4_readToken_68 : decode cX4_readToken 68 = .ok (.putfield 29, 3) := by decide +kernel
theorem dX4_readToken_71 : decode cX4_readToken 71 = .ok (.goto 41, 3) := by decide +kernel
theorem dX4_readToken_74 : decode cX4_readToken 74 = .ok (.aload_n 0, 1) := by decide +kernel
theorem dX4_readToken_75 : decode cX4_readToken 75 = .ok (.getfield 22, 3) := by decide +kernel
theorem dX4_readToken_78 : decode cX4_readToken 78 = .ok (.aload_n 0, 1) := by decide +kernel
theorem dX4_readToken_79 : decode cX4_readToken 79 = .ok (.getfield 96, 3) := by decide +kernel
theorem dX4_readToken_82 : decode cX4_readToken 82 = .ok (.invokevirtual 104, 3) := by decide +kernel
theorem dX4_readToken_85 : decode cX4_readToken 85 = .ok (.bipush 59, 2) := by decide +kernel
theorem dX4_readToken_87 : decode cX4_readToken 87 = .ok (.if_icmp .ne 21, 3) := by decide +kernel
theorem dX4_readToken_90 : decode cX4_readToken 90 = .ok (.aload_n 0, 1) := by decide +kernel
theorem dX4_readToken_91 : decode cX4_readToken 91 = .ok (.iconst 3, 1) := by decide +kernel
theorem dX4_readToken_92 : decode cX4_readToken 92 = .ok (.putfield 29, 3) := by decide +kernel
theorem dX4_readToken_95 : decode cX4_readToken 95 = .ok (.aload_n 0, 1) := by decide +kernel
theorem dX4_readToken_96 : decode cX4_readToken 96 = .ok (.dup, 1) := by decide +kernel
theorem dX4_readToken_97 : decode cX4_readToken 97 = .ok (.getfield 96, 3) := by decide +kernel
theorem dX4_readToken_100 : decode cX4_readToken 100 = .ok (.iconst 1, 1) := by decide +kernel
theorem dX4_readToken_101 : decode cX4_readToken 101 = .ok (.iadd, 1) := by decide +kernel
theorem dX4_readToken_102 : decode cX4_readToken 102 = .ok (.putfield 96, 3) := by decide +kernel
theorem dX4_readToken_105 : decode cX4_readToken 105 = .ok (.goto 7, 3) := by decide +kernel
theorem dX4_readToken_108 : decode cX4_readToken 108 = .ok (.aload_n 0, 1) := by decide +kernel
theorem dX4_readToken_109 : decode cX4_readToken 109 = .ok (.invokevirtual 110, 3) := by decide +kernel
theorem dX4_readToken_112 : decode cX4_readToken 112 = .ok (.return_, 1) := by decide +kernel
set_option maxRecDepth 20000 in
theorem ggX4_readWordOrNumber_X7_byteAt : GoodIn wsX4_readWordOrNumber wsX7_byteAt := goodIn_ca (lq_goor _ [10, 11, 12] rfl (by decide +kernel)) (goodIn_sub (fun _ h => List.mem_cons_of_mem _ (List.mem_append_right _ h)) gw_wsX70)
set_option maxRecDepth 20000 in
theorem gX4_readWordOrNumber_X7_byteAt : GoodIn wsX4_readWordOrNumber (wsV RX4 104 RX7 yX7_byteAt wsX7_byteAt) := goodIn_app (lq_goor _ [6, 7, 8, 9] rfl (by decide +kernel)) ggX4_readWordOrNumber_X7_byteAt
set_option maxRecDepth 20000 in
theorem ggX4_readWordOrNumber_X4_isLetterOrDigit : GoodIn wsX4_readWordOrNumber wsX4_isLetterOrDigit := lq_goor _ [16] rfl (by decide +kernel)
set_option maxRecDepth 20000 in
theorem gX4_readWordOrNumber_X4_isLetterOrDigit : GoodIn wsX4_readWordOrNumber (va_wsS RX4 113 yX4_isLetterOrDigit wsX4_isLetterOrDigit) := goodIn_app (lq_goor _ [13, 14, 15] rfl (by decide +kernel)) ggX4_readWordOrNumber_X4_isLetterOrDigit
set_option maxRecDepth 20000 in
theorem ggX4_readWordOrNumber_X4_isSmallLetter : GoodIn wsX4_readWordOrNumber wsX4_isSmallLetter := lq_goor _ [19] rfl (by decide +kernel)
set_option maxRecDepth 20000 in
theorem gX4_readWordOrNumber_X4_isSmallLetter : GoodIn wsX4_readWordOrNumber (va_wsS RX4 116 yX4_isSmallLetter wsX4_isSmallLetter) := goodIn_app (lq_goor _ [17, 18, 15] rfl (by decide +kernel)) ggX4_readWordOrNumber_X4_isSmallLetter
set_option maxRecDepth 20000 in
theorem ggX4_readWordOrNumber_X4_isDigit : GoodIn wsX4_readWordOrNumber wsX4_isDigit := lq_goor _ [22] rfl (by decide +kernel)
set_option maxRecDepth 20000 in
theorem gX4_readWordOrNumber_X4_isDigit : GoodIn wsX4_readWordOrNumber (va_wsS RX4 119 yX4_isDigit wsX4_isDigit) := goodIn_app (lq_goor _ [20, 21, 15] rfl (by decide +kernel)) ggX4_readWordOrNumber_X4_isDigit
theorem dX4_readWordOrNumber_0 : decode cX4_readWordOrNumber 0 = .ok (.iconst 0, 1) := by decide +kernel
theorem dX4_readWordOrNumber_1 : decode cX4_readWordOrNumber 1 = .ok (.istore_n 1, 1) := by decide +kernel
theorem dX4_readWordOrNumber_2 : decode cX4_readWordOrNumber 2 = .ok (.iconst 0, 1) := by decide +kernel
theorem dX4_readWordOrNumber_3 : decode cX4_readWordOrNumber 3 = .ok (.istore_n 2, 1) := by decide +kernel
theorem dX4_readWordOrNumber_4 : decode cX4_readWordOrNumber 4 = .ok (.aload_n 0, 1) := by decide +kernel
theorem dX4_readWordOrNumber_5 : decode cX4_readWordOrNumber 5 = .ok (.iconst 0, 1) := by decide +kernel
theorem dX4_readWordOrNumber_6 : decode cX4_readWordOrNumber 6 = .ok (.putfield 52, 3) := by decide +kernel
theorem dX4_readWordOrNumber_9 : decode cX4_readWordOrNumber 9 = .ok (.aload_n 0, 1) := by decide +kernel
theorem dX4_readWordOrNumber_10 : decode cX4_readWordOrNumber 10 = .ok (.getfield 96, 3) := by decide +kernel
theorem dX4_readWordOrNumber_13 : decode cX4_readWordOrNumber 13 = .ok (.aload_n 0, 1) := by decide +kernel
theorem dX4_readWordOrNumber_14 : decode cX4_readWordOrNumber 14 = .ok (.getfield 22, 3) := by decide +kernel
theorem dX4_readWordOrNumber_17 : decode cX4_readWordOrNumber 17 = .ok (.getfield 99, 3) := by decide +kernel
theorem dX4_readWordOrNumber_20 : decode cX4_readWordOrNumber 20 = .ok (.if_icmp .ge 93, 3) := by decide +kernel
theorem dX4_readWordOrNumber_23 : decode cX4_readWordOrNumber 23 = .ok (.aload_n 0, 1) := by decide +kernel
theorem dX4_readWordOrNumber_24 : decode cX4_readWordOrNumber 24 = .ok (.getfield 22, 3) := by decide +kernel
theorem dX4_readWordOrNumber_27 : decode cX4_readWordOrNumber 27 = .ok (.aload_n 0, 1) := by decide +kernel
theorem dX4_readWordOrNumber_28 : decode cX4_readWordOrNumber 28 = .ok (.getfield 96, 3) := by decide +kernel
theorem dX4_readWordOrNumber_31 : decode cX4_readWordOrNumber 31 = .ok (.invokevirtual 104, 3) := by decide +kernel
theorem dX4_readWordOrNumber_34 : decode cX4_readWordOrNumber 34 = .ok (.invokestatic 113, 3) := by decide +kernel
theorem dX4_readWordOrNumber_37 : decode cX4_readWordOrNumber 37 = .ok (.ifCond .eq 76, 3) := by decide +kernel
theorem dX4_readWordOrNumber_40 : decode cX4_readWordOrNumber 40 = .ok (.aload_n 0, 1) := by decide +kernel
theorem dX4_readWordOrNumber_41 : decode cX4_readWordOrNumber 41 = .ok (.getfield 22, 3) := by decide +kernel
theorem dX4_readWordOrNumber_44 : decode cX4_readWordOrNumber 44 = .ok (.aload_n 0, 1) := by decide +kernel
theorem dX4_readWordOrNumber_45 : decode cX4_readWordOrNumber 45 = .ok (.getfield 96, 3) := by decide +kernel
theorem dX4_readWordOrNumber_48 : decode cX4_readWordOrNumber 48 = .ok (.invokevirtual 104, 3) := by decide +kernel
theorem dX4_readWordOrNumber_51 : decode cX4_readWordOrNumber 51 = .ok (.istore_n 3, 1) := by decide +kernel
theorem dX4_readWordOrNumber_52 : decode cX4_readWordOrNumber 52 = .ok (.iload_n 3, 1) := by decide +kernel
theorem dX4_readWordOrNumber_53 : decode cX4_readWordOrNumber 53 = .ok (.invokestatic 116, 3) := by decide +kernel
theorem dX4_readWordOrNumber_56 : decode cX4_readWordOrNumber 56 = .ok (.ifCond .eq 9, 3) := by decide +kernel
theorem dX4_readWordOrNumber_59 : decode cX4_readWordOrNumber 59 = .ok (.iinc 1 1, 3) := by decide +kernel
theorem dX4_readWordOrNumber_62 : decode cX4_readWordOrNumber 62 = .ok (.goto 38, 3) := by decide +kernel
theorem dX4_readWordOrNumber_65 : decode cX4_readWordOrNumber 65 = .ok (.iload_n 3, 1) := by decide +kernel
theorem dX4_readWordOrNumber_66 : decode cX4_readWordOrNumber 66 = .ok (.invokestatic 119, 3) := by decide +kernel
theorem dX4_readWordOrNumber_69 : decode cX4_readWordOrNumber 69 = .ok (.ifCond .eq 31, 3) := by decide +kernel
theorem dX4_readWordOrNumber_72 : decode cX4_readWordOrNumber 72 = .ok (.iinc 2 1, 3) := by decide +kernel
theorem dX4_readWordOrNumber_75 : decode cX4_readWordOrNumber 75 = .ok (.aload_n 0, 1) := by decide +kernel
theorem dX4_readWordOrNumber_76 : decode cX4_readWordOrNumber 76 = .ok (.iload_n 2, 1) := by decide +kernel
theorem dX4_readWordOrNumber_77 : decode cX4_readWordOrNumber 77 = .ok (.iconst 3, 1) := by decide +kernel
theorem dX4_readWordOrNumber_78 : decode cX4_readWordOrNumber 78 = .ok (.if_icmp .gt 18, 3) := by decide +kernel
theorem dX4_readWordOrNumber_81 : decode cX4_readWordOrNumber 81 = .ok (.aload_n 0, 1) := by decide +kernel
theorem dX4_readWordOrNumber_82 : decode cX4_readWordOrNumber 82 = .ok (.getfield 52, 3) := by decide +kernel
theorem dX4_readWordOrNumber_85 : decode cX4_readWordOrNumber 85 = .ok (.bipush 10, 2) := by decide +kernel
theorem dX4_readWordOrNumber_87 : decode cX4_readWordOrNumber 87 = .ok (.imul, 1) := by decide +kernel
theorem dX4_readWordOrNumber_88 : decode cX4_readWordOrNumber 88 = .ok (.iload_n 3, 1) := by decide +kernel
theorem dX4_readWordOrNumber_89 : decode cX4_readWordOrNumber 89 = .ok (.iadd, 1) := by decide +kernel
theorem dX4_readWordOrNumber_90 : decode cX4_readWordOrNumber 90 = .ok (.bipush 48, 2) := by decide +kernel
theorem dX4_readWordOrNumber_92 : decode cX4_readWordOrNumber 92 = .ok (.isub, 1) := by decide +kernel
theorem dX4_readWordOrNumber_93 : decode cX4_readWordOrNumber 93 = .ok (.goto 4, 3) := by decide +kernel
theorem dX4_readWordOrNumber_96 : decode cX4_readWordOrNumber 96 = .ok (.iconst 0, 1) := by decide +kernel
theorem dX4_readWordOrNumber_97 : decode cX4_readWordOrNumber 97 = .ok (.putfield 52, 3) := by decide +kernel
theorem dX4_readWordOrNumber_100 : decode cX4_readWordOrNumber 100 = .ok (.aload_n 0, 1) := by decide +kernel
theorem dX4_readWordOrNumber_101 : decode cX4_readWordOrNumber 101 = .ok (.dup, 1) := by decide +kernel
theorem dX4_readWordOrNumber_102 : decode cX4_readWordOrNumber 102 = .ok (.getfield 96, 3) := by decide +kernel
theorem dX4_readWordOrNumber_105 : decode cX4_readWordOrNumber 105 = .ok (.iconst 1, 1) := by decide +kernel
theorem dX4_readWordOrNumber_106 : decode cX4_readWordOrNumber 106 = .ok (.iadd, 1) := by decide +kernel
theorem dX4_readWordOrNumber_107 : decode cX4_readWordOrNumber 107 = .ok (.putfield 96, 3) := by decide +kernel
theorem dX4_readWordOrNumber_110 : decode cX4_readWordOrNumber 110 = .ok (.goto (-101), 3) := by decide +kernel
theorem dX4_readWordOrNumber_113 : decode cX4_readWordOrNumber 113 = .ok (.aload_n 0, 1) := by decide +kernel
theorem dX4_readWordOrNumber_114 : decode cX4_readWordOrNumber 114 = .ok (.getfield 96, 3) := by decide +kernel
theorem dX4_readWordOrNumber_117 : decode cX4_readWordOrNumber 117 = .ok (.aload_n 0, 1) := by decide +kernel
theorem dX4_readWordOrNumber_118 : decode cX4_readWordOrNumber 118 = .ok (.getfield 90, 3) := by decide +kernel
theorem dX4_readWordOrNumber_121 : decode cX4_readWordOrNumber 121 = .ok (.isub, 1) := by decide +kernel
theorem dX4_readWordOrNumber_122 : decode cX4_readWordOrNumber 122 = .ok (.istore_n 3, 1) := by decide +kernel
theorem dX4_readWordOrNumber_123 : decode cX4_readWordOrNumber 123 = .ok (.iload_n 3, 1) := by decide +kernel
theorem dX4_readWordOrNumber_124 : decode cX4_readWordOrNumber 124 = .ok (.ifCond .le 16, 3) := by decide +kernel
theorem dX4_readWordOrNumber_127 : decode cX4_readWordOrNumber 127 = .ok (.iload_n 1, 1) := by decide +kernel
theorem dX4_readWordOrNumber_128 : decode cX4_readWordOrNumber 128 = .ok (.iload_n 3, 1) := by decide +kernel
theorem dX4_readWordOrNumber_129 : decode cX4_readWordOrNumber 129 = .ok (.if_icmp .ne 11, 3) := by decide +kernel
theorem dX4_readWordOrNumber_132 : decode cX4_readWordOrNumber 132 = .ok (.aload_n 0, 1) := by decide +kernel
theorem dX4_readWordOrNumber_133 : decode cX4_readWordOrNumber 133 = .ok (.iconst 1, 1) := by decide +kernel
theorem dX4_readWordOrNumber_134 : decode cX4_readWordOrNumber 134 = .ok (.putfield 29, 3) := by decide +kernel
theorem dX4_readWordOrNumber_137 : decode cX4_readWordOrNumber 137 = .ok (.goto 30, 3) := by decide +kernel
theorem dX4_readWordOrNumber_140 : decode cX4_readWordOrNumber 140 = .ok (.iload_n 3, 1) := by decide +kernel
theorem dX4_readWordOrNumber_141 : decode cX4_readWordOrNumber 141 = .ok (.ifCond .le 21, 3) := by decide +kernel
theorem dX4_readWordOrNumber_144 : decode cX4_readWordOrNumber 144 = .ok (.iload_n 3, 1) := by decide +kernel
theorem dX4_readWordOrNumber_145 : decode cX4_readWordOrNumber 145 = .ok (.iconst 3, 1) := by decide +kernel
theorem dX4_readWordOrNumber_146 : decode cX4_readWordOrNumber 146 = .ok (.if_icmp .gt 16, 3) := by decide +kernel
theorem dX4_readWordOrNumber_149 : decode cX4_readWordOrNumber 149 = .ok (.iload_n 2, 1) := by decide +kernel
theorem dX4_readWordOrNumber_150 : decode cX4_readWordOrNumber 150 = .ok (.iload_n 3, 1) := by decide +kernel
theorem dX4_readWordOrNumber_151 : decode cX4_readWordOrNumber 151 = .ok (.if_icmp .ne 11, 3) := by decide +kernel
theorem dX4_readWordOrNumber_154 : decode cX4_readWordOrNumber 154 = .ok (.aload_n 0, 1) := by decide +kernel
theorem dX4_readWordOrNumber_155 : decode cX4_readWordOrNumber 155 = .ok (.iconst 2, 1) := by decide +kernel
theorem dX4_readWordOrNumber_156 : decode cX4_readWordOrNumber 156 = .ok (.putfield 29, 3) := by decide +kernel
theorem dX4_readWordOrNumber_159 : decode cX4_readWordOrNumber 159 = .ok (.goto 8, 3) := by decide +kernel
theorem dX4_readWordOrNumber_162 : decode cX4_readWordOrNumber 162 = .ok (.aload_n 0, 1) := by decide +kernel
theorem dX4_readWordOrNumber_163 : decode cX4_readWordOrNumber 163 = .ok (.iconst 4, 1) := by decide +kernel
theorem dX4_readWordOrNumber_164 : decode cX4_readWordOrNumber 164 = .ok (.putfield 29, 3) := by decide +kernel
theorem dX4_readWordOrNumber_167 : decode cX4_readWordOrNumber 167 = .ok (.return_, 1) := by decide +kernel
set_option maxRecDepth 20000 in
theorem ggX4_isWord_J0_length_8abf5 : GoodIn wsX4_isWord wsJ0_length_8abf5 := lq_goor _ [9, 10, 11, 12, 13, 8, 14, 15, 16] rfl (by decide +kernel)
set_option maxRecDepth 20000 in
theorem gX4_isWord_J0_length_8abf5 : GoodIn wsX4_isWord (wsV RX4 122 RJ0 yJ0_length_8abf5 wsJ0_length_8abf5) := goodIn_app (lq_goor _ [5, 6, 7, 8] rfl (by decide +kernel)) ggX4_isWord_J0_length_8abf5
set_option maxRecDepth 20000 in
theorem ggX4_isWord_X7_byteAt : GoodIn wsX4_isWord wsX7_byteAt := goodIn_ca (lq_goor _ [21, 22, 23] rfl (by decide +kernel)) (goodIn_sub (fun _ h => List.mem_cons_of_mem _ (List.mem_append_right _ h)) gw_wsX70)
set_option maxRecDepth 20000 in
theorem gX4_isWord_X7_byteAt : GoodIn wsX4_isWord (wsV RX4 104 RX7 yX7_byteAt wsX7_byteAt) := goodIn_app (lq_goor _ [17, 18, 19, 20] rfl (by decide +kernel)) ggX4_isWord_X7_byteAt
set_option maxRecDepth 20000 in
theorem ggX4_isWord_J0_charAt_5068e : GoodIn wsX4_isWord wsJ0_charAt_5068e := lq_goor _ [27, 10, 28, 29, 30, 8, 31, 15, 16, 32, 33, 34, 35, 36, 37, 38, 39, 40, 41, 42, 43, 44, 45, 46, 47, 48, 49, 50, 51, 52, 53, 54, 55, 56, 57, 58, 59, 60] rfl (by decide +kernel)
set_option maxRecDepth 20000 in
theorem gX4_isWord_J0_charAt_5068e : GoodIn wsX4_isWord (wsV RX4 126 RJ0 yJ0_charAt_5068e wsJ0_charAt_5068e) := goodIn_app (lq_goor _ [24, 25, 26, 8] rfl (by decide +kernel)) ggX4_isWord_J0_charAt_5068e
theorem dX4_isWord_0 : decode cX4_isWord 0 = .ok (.aload_n 0, 1) := by decide +kernel
theorem dX4_isWord_1 : decode cX4_isWord 1 = .ok (.getfield 29, 3) := by decide +kernel
theorem dX4_isWord_4 : decode cX4_isWord 4 = .ok (.iconst 1, 1) := by decide +kernel
theorem dX4_isWord_5 : decode cX4_isWord 5 = .ok (.if_icmp .ne 19, 3) := by decide +kernel
theorem dX4_isWord_8 : decode cX4_isWord 8 = .ok (.aload_n 0, 1) := by decide +kernel
theorem dX4_isWord_9 : decode cX4_isWord 9 = .ok (.getfield 96, 3) := by decide +kernel
theorem dX4_isWord_12 : decode cX4_isWord 12 = .ok (.aload_n 0, 1) := by decide +kernel
theorem dX4_isWord_13 : decode cX4_isWord 13 = .ok (.getfield 90, 3) := by decide +kernel
theorem dX4_isWord_16 : decode cX4_isWord 16 = .ok (.isub, 1) := by decide +kernel
theorem dX4_isWord_17 : decode cX4_isWord 17 = .ok (.aload_n 1, 1) := by decide +kernel
theorem dX4_isWord_18 : decode cX4_isWord 18 = .ok (.invokevirtual 122, 3) := by decide +kernel
theorem dX4_isWord_21 : decode cX4_isWord 21 = .ok (.if_icmp .eq 5, 3) := by decide +kernel
theorem dX4_isWord_24 : decode cX4_isWord 24 = .ok (.iconst 0, 1) := by decide +kernel
theorem dX4_isWord_25 : decode cX4_isWord 25 = .ok (.ireturn, 1) := by decide +kernel
theorem dX4_isWord_26 : decode cX4_isWord 26 = .ok (.iconst 0, 1) := by decide +kernel
theorem dX4_isWord_27 : decode cX4_isWord 27 = .ok (.istore_n 2, 1) := by decide +kernel
theorem dX4_isWord_28 : decode cX4_isWord 28 = .ok (.iload_n 2, 1) := by decide +kernel
theorem dX4_isWord_29 : decode cX4_isWord 29 = .ok (.aload_n 1, 1) := by decide +kernel
theorem dX4_isWord_30 : decode cX4_isWord 30 = .ok (.invokevirtual 122, 3) := by decide +kernel
theorem dX4_isWord_33 : decode cX4_isWord 33 = .ok (.if_icmp .ge 32, 3) := by decide +kernel
theorem dX4_isWord_36 : decode cX4_isWord 36 = .ok (.aload_n 0, 1) := by decide +kernel
theorem dX4_isWord_37 : decode cX4_isWord 37 = .ok (.getfield 22, 3) := by decide +kernel
theorem dX4_isWord_40 : decode cX4_isWord 40 = .ok (.aload_n 0, 1) := by decide +kernel
theorem dX4_isWord_41 : decode cX4_isWord 41 = .ok (.getfield 90, 3) := by decide +kernel
theorem dX4_isWord_44 : decode cX4_isWord 44 = .ok (.iload_n 2, 1) := by decide +kernel
theorem dX4_isWord_45 : decode cX4_isWord 45 = .ok (.iadd, 1) := by decide +kernel
theorem dX4_isWord_46 : decode cX4_isWord 46 = .ok (.invokevirtual 104, 3) := by decide +kernel
theorem dX4_isWord_49 : decode cX4_isWord 49 = .ok (.aload_n 1, 1) := by decide +kernel
theorem dX4_isWord_50 : decode cX4_isWord 50 = .ok (.iload_n 2, 1) := by decide +kernel
theorem dX4_isWord_51 : decode cX4_isWord 51 = .ok (.invokevirtual 126, 3) := by decide +kernel
theorem dX4_isWord_54 : decode cX4_isWord 54 = .ok (.if_icmp .eq 5, 3) := by decide +kernel
theorem dX4_isWord_57 : decode cX4_isWord 57 = .ok (.iconst 0, 1) := by decide +kernel
theorem dX4_isWord_58 : decode cX4_isWord 58 = .ok (.ireturn, 1) := by decide +kernel
theorem dX4_isWord_59 : decode cX4_isWord 59 = .ok (.iinc 2 1, 3) := by decide +kernel
theorem dX4_isWord_62 : decode cX4_isWord 62 = .ok (.goto (-34), 3) := by decide +kernel
theorem dX4_isWord_65 : decode cX4_isWord 65 = .ok (.iconst 1, 1) := by decide +kernel
theorem dX4_isWord_66 : decode cX4_isWord 66 = .ok (.ireturn, 1) := by decide +kernel
theorem dX4_isBlank_0 : decode cX4_isBlank 0 = .ok (.iload_n 0, 1) := by decide +kernel
theorem dX4_isBlank_1 : decode cX4_isBlank 1 = .ok (.bipush 32, 2) := by decide +kernel
theorem dX4_isBlank_3 : decode cX4_isBlank 3 = .ok (.if_icmp .eq 9, 3) := by decide +kernel
theorem dX4_isBlank_6 : decode cX4_isBlank 6 = .ok (.iload_n 0, 1) := by decide +kernel
theorem dX4_isBlank_7 : decode cX4_isBlank 7 = .ok (.bipush 10, 2) := by decide +kernel
theorem dX4_isBlank_9 : decode cX4_isBlank 9 = .ok (.if_icmp .ne 7, 3) := by decide +kernel
theorem dX4_isBlank_12 : decode cX4_isBlank 12 = .ok (.iconst 1, 1) := by decide +kernel
theorem dX4_isBlank_13 : decode cX4_isBlank 13 = .ok (.goto 4, 3) := by decide +kernel
theorem dX4_isBlank_16 : decode cX4_isBlank 16 = .ok (.iconst 0, 1) := by decide +kernel
theorem dX4_isBlank_17 : decode cX4_isBlank 17 = .ok (.ireturn, 1) := by decide +kernel
theorem dX4_isSmallLetter_0 : decode cX4_isSmallLetter 0 = .ok (.iload_n 0, 1) := by decide +kernel
theorem dX4_isSmallLetter_1 : decode cX4_isSmallLetter 1 = .ok (.bipush 97, 2) := by decide +kernel
theorem dX4_isSmallLetter_3 : decode cX4_isSmallLetter 3 = .ok (.if_icmp .lt 13, 3) := by decide +kernel
theorem dX4_isSmallLetter_6 : decode cX4_isSmallLetter 6 = .ok (.iload_n 0, 1) := by decide +kernel
theorem dX4_isSmallLetter_7 : decode cX4_isSmallLetter 7 = .ok (.bipush 122, 2) := by decide +kernel
theorem dX4_isSmallLetter_9 : decode cX4_isSmallLetter 9 = .ok (.if_icmp .gt 7, 3) := by decide +kernel
theorem dX4_isSmallLetter_12 : decode cX4_isSmallLetter 12 = .ok (.iconst 1, 1) := by decide +kernel
theorem dX4_isSmallLetter_13 : decode cX4_isSmallLetter 13 = .ok (.goto 4, 3) := by decide +kernel
theorem dX4_isSmallLetter_16 : decode cX4_isSmallLetter 16 = .ok (.iconst 0, 1) := by decide +kernel
theorem dX4_isSmallLetter_17 : decode cX4_isSmallLetter 17 = .ok (.ireturn, 1) := by decide +kernel
theorem dX4_isDigit_0 : decode cX4_isDigit 0 = .ok (.iload_n 0, 1) := by decide +kernel
theorem dX4_isDigit_1 : decode cX4_isDigit 1 = .ok (.bipush 48, 2) := by decide +kernel
theorem dX4_isDigit_3 : decode cX4_isDigit 3 = .ok (.if_icmp .lt 13, 3) := by decide +kernel
theorem dX4_isDigit_6 : decode cX4_isDigit 6 = .ok (.iload_n 0, 1) := by decide +kernel
theorem dX4_isDigit_7 : decode cX4_isDigit 7 = .ok (.bipush 57, 2) := by decide +kernel
theorem dX4_isDigit_9 : decode cX4_isDigit 9 = .ok (.if_icmp .gt 7, 3) := by decide +kernel
theorem dX4_isDigit_12 : decode cX4_isDigit 12 = .ok (.iconst 1, 1) := by decide +kernel
theorem dX4_isDigit_13 : decode cX4_isDigit 13 = .ok (.goto 4, 3) := by decide +kernel
theorem dX4_isDigit_16 : decode cX4_isDigit 16 = .ok (.iconst 0, 1) := by decide +kernel
theorem dX4_isDigit_17 : decode cX4_isDigit 17 = .ok (.ireturn, 1) := by decide +kernel
theorem dX4_isLetterOrDigit_0 : decode cX4_isLetterOrDigit 0 = .ok (.iload_n 0, 1) := by decide +kernel
theorem dX4_isLetterOrDigit_1 : decode cX4_isLetterOrDigit 1 = .ok (.bipush 97, 2) := by decide +kernel
theorem dX4_isLetterOrDigit_3 : decode cX4_isLetterOrDigit 3 = .ok (.if_icmp .lt 9, 3) := by decide +kernel
theorem dX4_isLetterOrDigit_6 : decode cX4_isLetterOrDigit 6 = .ok (.iload_n 0, 1) := by decide +kernel
theorem dX4_isLetterOrDigit_7 : decode cX4_isLetterOrDigit 7 = .ok (.bipush 122, 2) := by decide +kernel
theorem dX4_isLetterOrDigit_9 : decode cX4_isLetterOrDigit 9 = .ok (.if_icmp .le 27, 3) := by decide +kernel
theorem dX4_isLetterOrDigit_12 : decode cX4_isLetterOrDigit 12 = .ok (.iload_n 0, 1) := by decide +kernel
theorem dX4_isLetterOrDigit_13 : decode cX4_isLetterOrDigit 13 = .ok (.bipush 65, 2) := by decide +kernel
theorem dX4_isLetterOrDigit_15 : decode cX4_isLetterOrDigit 15 = .ok (.if_icmp .lt 9, 3) := by decide +kernel
theorem dX4_isLetterOrDigit_18 : decode cX4_isLetterOrDigit 18 = .ok (.iload_n 0, 1) := by decide +kernel
theorem dX4_isLetterOrDigit_19 : decode cX4_isLetterOrDigit 19 = .ok (.bipush 90, 2) := by decide +kernel
theorem dX4_isLetterOrDigit_21 : decode cX4_isLetterOrDigit 21 = .ok (.if_icmp .le 15, 3) := by decide +kernel
theorem dX4_isLetterOrDigit_24 : decode cX4_isLetterOrDigit 24 = .ok (.iload_n 0, 1) := by decide +kernel
theorem dX4_isLetterOrDigit_25 : decode cX4_isLetterOrDigit 25 = .ok (.bipush 48, 2) := by decide +kernel
theorem dX4_isLetterOrDigit_27 : decode cX4_isLetterOrDigit 27 = .ok (.if_icmp .lt 13, 3) := by decide +kernel
theorem dX4_isLetterOrDigit_30 : decode cX4_isLetterOrDigit 30 = .ok (.iload_n 0, 1) := by decide +kernel
theorem dX4_isLetterOrDigit_31 : decode cX4_isLetterOrDigit 31 = .ok (.bipush 57, 2) := by decide +kernel
theorem dX4_isLetterOrDigit_33 : decode cX4_isLetterOrDigit 33 = .ok (.if_icmp .gt 7, 3) := by decide +kernel
theorem dX4_isLetterOrDigit_36 : decode cX4_isLetterOrDigit 36 = .ok (.iconst 1, 1) := by decide +kernel
theorem dX4_isLetterOrDigit_37 : decode cX4_isLetterOrDigit 37 = .ok (.goto 4, 3) := by decide +kernel
theorem dX4_isLetterOrDigit_40 : decode cX4_isLetterOrDigit 40 = .ok (.iconst 0, 1) := by decide +kernel
theorem dX4_isLetterOrDigit_41 : decode cX4_isLetterOrDigit 41 = .ok (.ireturn, 1) := by decide +kernel
theorem dX5_init_0 : decode cX5_init 0 = .ok (.aload_n 0, 1) := by decide +kernel
theorem dX5_init_1 : decode cX5_init 1 = .ok (.invokespecial 5, 3) := by decide +kernel
theorem dX5_init_4 : decode cX5_init 4 = .ok (.aload_n 0, 1) := by decide +kernel
theorem dX5_init_5 : decode cX5_init 5 = .ok (.bipush 6, 2) := by decide +kernel
theorem dX5_init_7 : decode cX5_init 7 = .ok (.newarray .int, 2) := by decide +kernel
theorem dX5_init_9 : decode cX5_init 9 = .ok (.dup, 1) := by decide +kernel
theorem dX5_init_10 : decode cX5_init 10 = .ok (.iconst 0, 1) := by decide +kernel
theorem dX5_init_11 : decode cX5_init 11 = .ok (.iconst 2, 1) := by decide +kernel
theorem dX5_init_12 : decode cX5_init 12 = .ok (.iastore, 1) := by decide +kernel
theorem dX5_init_13 : decode cX5_init 13 = .ok (.dup, 1) := by decide +kernel
theorem dX5_init_14 : decode cX5_init 14 = .ok (.iconst 1, 1) := by decide +kernel
theorem dX5_init_15 : decode cX5_init 15 = .ok (.iconst 3, 1) := by decide +kernel
theorem dX5_init_16 : decode cX5_init 16 = .ok (.iastore, 1) := by decide +kernel
theorem dX5_init_17 : decode cX5_init 17 = .ok (.dup, 1) := by decide +kernel
theorem dX5_init_18 : decode cX5_init 18 = .ok (.iconst 2, 1) := by decide +kernel
theorem dX5_init_19 : decode cX5_init 19 = .ok (.iconst 1, 1) := by decide +kernel
theorem dX5_init_20 : decode cX5_init 20 = .ok (.iastore, 1) := by decide +kernel
theorem dX5_init_21 : decode cX5_init 21 = .ok (.dup, 1) := by decide +kernel
theorem dX5_init_22 : decode cX5_init 22 = .ok (.iconst 3, 1) := by decide +kernel
theorem dX5_init_23 : decode cX5_init 23 = .ok (.iconst 0, 1) := by decide +kernel
theorem dX5_init_24 : decode cX5_init 24 = .ok (.iastore, 1) := by decide +kernel
theorem dX5_init_25 : decode cX5_init 25 = .ok (.dup, 1) := by decide +kernel
theorem dX5_init_26 : decode cX5_init 26 = .ok (.iconst 4, 1) := by decide +kernel
theorem dX5_init_27 : decode cX5_init 27 = .ok (.iconst 0, 1) := by decide +kernel
theorem dX5_init_28 : decode cX5_init 28 = .ok (.iastore, 1) := by decide +kernel
theorem dX5_init_29 : decode cX5_init 29 = .ok (.dup, 1) := by decide +kernel
theorem dX5_init_30 : decode cX5_init 30 = .ok (.iconst 5, 1) := by decide +kernel
theorem dX5_init_31 : decode cX5_init 31 = .ok (.iconst 0, 1) := by decide +kernel
theorem dX5_init_32 : decode cX5_init 32 = .ok (.iastore, 1) := by decide +kernel
theorem dX5_init_33 : decode cX5_init 33 = .ok (.putfield 11, 3) := by decide +kernel
theorem dX5_init_36 : decode cX5_init 36 = .ok (.return_, 1) := by decide +kernel
theorem dX5_tire_0 : decode cX5_tire 0 = .ok (.aload_n 0, 1) := by decide +kernel
theorem dX5_tire_1 : decode cX5_tire 1 = .ok (.getfield 11, 3) := by decide +kernel
theorem dX5_tire_4 : decode cX5_tire 4 = .ok (.iconst 0, 1) := by decide +kernel
theorem dX5_tire_5 : decode cX5_tire 5 = .ok (.iaload, 1) := by decide +kernel
theorem dX5_tire_6 : decode cX5_tire 6 = .ok (.ireturn, 1) := by decide +kernel
theorem dX5_rest_0 : decode cX5_rest 0 = .ok (.aload_n 0, 1) := by decide +kernel
theorem dX5_rest_1 : decode cX5_rest 1 = .ok (.getfield 11, 3) := by decide +kernel
theorem dX5_rest_4 : decode cX5_rest 4 = .ok (.iconst 1, 1) := by decide +kernel
theorem dX5_rest_5 : decode cX5_rest 5 = .ok (.iaload, 1) := by decide +kernel
theorem dX5_rest_6 : decode cX5_rest 6 = .ok (.ireturn, 1) := by decide +kernel
theorem dX5_hunger_0 : decode cX5_hunger 0 = .ok (.aload_n 0, 1) := by decide +kernel
theorem dX5_hunger_1 : decode cX5_hunger 1 = .ok (.getfield 11, 3) := by decide +kernel
theorem dX5_hunger_4 : decode cX5_hunger 4 = .ok (.iconst 2, 1) := by decide +kernel
theorem dX5_hunger_5 : decode cX5_hunger 5 = .ok (.iaload, 1) := by decide +kernel
theorem dX5_hunger_6 : decode cX5_hunger 6 = .ok (.ireturn, 1) := by decide +kernel
theorem dX5_keepFor_0 : decode cX5_keepFor 0 = .ok (.iload_n 1, 1) := by decide +kernel
theorem dX5_keepFor_1 : decode cX5_keepFor 1 = .ok (.iconst 1, 1) := by decide +kernel
theorem dX5_keepFor_2 : decode cX5_keepFor 2 = .ok (.if_icmp .lt 21, 3) := by decide +kernel
theorem dX5_keepFor_5 : decode cX5_keepFor 5 = .ok (.iload_n 1, 1) := by decide +kernel
theorem dX5_keepFor_6 : decode cX5_keepFor 6 = .ok (.iconst 3, 1) := by decide +kernel
theorem dX5_keepFor_7 : decode cX5_keepFor 7 = .ok (.if_icmp .gt 16, 3) := by decide +kernel
theorem dX5_keepFor_10 : decode cX5_keepFor 10 = .ok (.aload_n 0, 1) := by decide +kernel
theorem dX5_keepFor_11 : decode cX5_keepFor 11 = .ok (.getfield 11, 3) := by decide +kernel
theorem dX5_keepFor_14 : decode cX5_keepFor 14 = .ok (.iconst 3, 1) := by decide +kernel
theorem dX5_keepFor_15 : decode cX5_keepFor 15 = .ok (.iload_n 1, 1) := by decide +kernel
theorem dX5_keepFor_16 : decode cX5_keepFor 16 = .ok (.iadd, 1) := by decide +kernel
theorem dX5_keepFor_17 : decode cX5_keepFor 17 = .ok (.iconst 1, 1) := by decide +kernel
theorem dX5_keepFor_18 : decode cX5_keepFor 18 = .ok (.isub, 1) := by decide +kernel
theorem dX5_keepFor_19 : decode cX5_keepFor 19 = .ok (.iaload, 1) := by decide +kernel
theorem dX5_keepFor_20 : decode cX5_keepFor 20 = .ok (.goto 4, 3) := by decide +kernel
theorem dX5_keepFor_23 : decode cX5_keepFor 23 = .ok (.iconst 0, 1) := by decide +kernel
theorem dX5_keepFor_24 : decode cX5_keepFor 24 = .ok (.ireturn, 1) := by decide +kernel
theorem dX5_tell_0 : decode cX5_tell 0 = .ok (.iload_n 1, 1) := by decide +kernel
theorem dX5_tell_1 : decode cX5_tell 1 = .ok (.ifCond .lt 16, 3) := by decide +kernel
theorem dX5_tell_4 : decode cX5_tell 4 = .ok (.iload_n 1, 1) := by decide +kernel
theorem dX5_tell_5 : decode cX5_tell 5 = .ok (.bipush 6, 2) := by decide +kernel
theorem dX5_tell_7 : decode cX5_tell 7 = .ok (.if_icmp .ge 10, 3) := by decide +kernel
theorem dX5_tell_10 : decode cX5_tell 10 = .ok (.aload_n 0, 1) := by decide +kernel
theorem dX5_tell_11 : decode cX5_tell 11 = .ok (.getfield 11, 3) := by decide +kernel
theorem dX5_tell_14 : decode cX5_tell 14 = .ok (.iload_n 1, 1) := by decide +kernel
theorem dX5_tell_15 : decode cX5_tell 15 = .ok (.iload_n 2, 1) := by decide +kernel
theorem dX5_tell_16 : decode cX5_tell 16 = .ok (.iastore, 1) := by decide +kernel
theorem dX5_tell_17 : decode cX5_tell 17 = .ok (.return_, 1) := by decide +kernel
theorem dX5_leastFor_0 : decode cX5_leastFor 0 = .ok (.iload_n 0, 1) := by decide +kernel
theorem dX5_leastFor_1 : decode cX5_leastFor 1 = .ok (.ifCond .ne 7, 3) := by decide +kernel
theorem dX5_leastFor_4 : decode cX5_leastFor 4 = .ok (.iconst 1, 1) := by decide +kernel
theorem dX5_leastFor_5 : decode cX5_leastFor 5 = .ok (.goto 4, 3) := by decide +kernel
theorem dX5_leastFor_8 : decode cX5_leastFor 8 = .ok (.iconst 0, 1) := by decide +kernel
theorem dX5_leastFor_9 : decode cX5_leastFor 9 = .ok (.ireturn, 1) := by decide +kernel
theorem dX5_mostFor_0 : decode cX5_mostFor 0 = .ok (.iload_n 0, 1) := by decide +kernel
theorem dX5_mostFor_1 : decode cX5_mostFor 1 = .ok (.ifCond .ne 6, 3) := by decide +kernel
theorem dX5_mostFor_4 : decode cX5_mostFor 4 = .ok (.bipush 9, 2) := by decide +kernel
theorem dX5_mostFor_6 : decode cX5_mostFor 6 = .ok (.ireturn, 1) := by decide +kernel
theorem dX5_mostFor_7 : decode cX5_mostFor 7 = .ok (.iload_n 0, 1) := by decide +kernel
theorem dX5_mostFor_8 : decode cX5_mostFor 8 = .ok (.iconst 3, 1) := by decide +kernel
theorem dX5_mostFor_9 : decode cX5_mostFor 9 = .ok (.if_icmp .ge 8, 3) := by decide +kernel
theorem dX5_mostFor_12 : decode cX5_mostFor 12 = .ok (.bipush 50, 2) := by decide +kernel
theorem dX5_mostFor_14 : decode cX5_mostFor 14 = .ok (.goto 5, 3) := by decide +kernel
theorem dX5_mostFor_17 : decode cX5_mostFor 17 = .ok (.bipush 20, 2) := by decide +kernel
theorem dX5_mostFor_19 : decode cX5_mostFor 19 = .ok (.ireturn, 1) := by decide +kernel
set_option maxRecDepth 20000 in
theorem ggX6_init_J7_fill_53178 : GoodIn wsX6_init wsJ7_fill_53178 := lq_goor _ [10] rfl (by decide +kernel)
set_option maxRecDepth 20000 in
theorem gX6_init_J7_fill_53178 : GoodIn wsX6_init (va_wsS RX6 19 yJ7_fill_53178 wsJ7_fill_53178) := goodIn_app (lq_goor _ [7, 8, 9] rfl (by decide +kernel)) ggX6_init_J7_fill_53178
theorem dX6_init_0 : decode cX6_init 0 = .ok (.aload_n 0, 1) := by decide +kernel
theorem dX6_init_1 : decode cX6_init 1 = .ok (.invokespecial 3, 3) := by decide +kernel
theorem dX6_init_4 : decode cX6_init 4 = .ok (.aload_n 0, 1) := by decide +kernel
theorem dX6_init_5 : decode cX6_init 5 = .ok (.bipush 12, 2) := by decide +kernel
theorem dX6_init_7 : decode cX6_init 7 = .ok (.newarray .int, 2) := by decide +kernel
theorem dX6_init_9 : decode cX6_init 9 = .ok (.putfield 9, 3) := by decide +kernel
theorem dX6_init_12 : decode cX6_init 12 = .ok (.aload_n 0, 1) := by decide +kernel
theorem dX6_init_13 : decode cX6_init 13 = .ok (.iload_n 1, 1) := by decide +kernel
theorem dX6_init_14 : decode cX6_init 14 = .ok (.putfield 15, 3) := by decide +kernel
theorem dX6_init_17 : decode cX6_init 17 = .ok (.aload_n 0, 1) := by decide +kernel
theorem dX6_init_18 : decode cX6_init 18 = .ok (.getfield 9, 3) := by decide +kernel
theorem dX6_init_21 : decode cX6_init 21 = .ok (.iconst (-1), 1) := by decide +kernel
theorem dX6_init_22 : decode cX6_init 22 = .ok (.invokestatic 19, 3) := by decide +kernel
theorem dX6_init_25 : decode cX6_init 25 = .ok (.return_, 1) := by decide +kernel
set_option maxRecDepth 20000 in
theorem ggX6_voidSince_X8_isStation : GoodIn wsX6_voidSince wsX8_isStation := lq_goor _ [4] rfl (by decide +kernel)
set_option maxRecDepth 20000 in
theorem gX6_voidSince_X8_isStation_n25 : GoodIn wsX6_voidSince (wsX8_isStation) := ggX6_voidSince_X8_isStation
theorem dX6_voidSince_0 : decode cX6_voidSince 0 = .ok (.iload_n 1, 1) := by decide +kernel
theorem dX6_voidSince_1 : decode cX6_voidSince 1 = .ok (.invokestatic 25, 3) := by decide +kernel
theorem dX6_voidSince_4 : decode cX6_voidSince 4 = .ok (.ifCond .eq 12, 3) := by decide +kernel
theorem dX6_voidSince_7 : decode cX6_voidSince 7 = .ok (.aload_n 0, 1) := by decide +kernel
theorem dX6_voidSince_8 : decode cX6_voidSince 8 = .ok (.getfield 9, 3) := by decide +kernel
theorem dX6_voidSince_11 : decode cX6_voidSince 11 = .ok (.iload_n 1, 1) := by decide +kernel
theorem dX6_voidSince_12 : decode cX6_voidSince 12 = .ok (.iaload, 1) := by decide +kernel
theorem dX6_voidSince_13 : decode cX6_voidSince 13 = .ok (.goto 4, 3) := by decide +kernel
theorem dX6_voidSince_16 : decode cX6_voidSince 16 = .ok (.iconst (-1), 1) := by decide +kernel
theorem dX6_voidSince_17 : decode cX6_voidSince 17 = .ok (.ireturn, 1) := by decide +kernel
set_option maxRecDepth 20000 in
theorem ggX6_wasVoid_X6_voidSince : GoodIn wsX6_wasVoid wsX6_voidSince := goodIn_ca (lq_goor _ [5, 6, 7, 8, 9] rfl (by decide +kernel)) (goodIn_sub (fun _ h => List.mem_cons_of_mem _ (List.mem_append_right _ h)) gw_wsX60)
set_option maxRecDepth 20000 in
theorem gX6_wasVoid_X6_voidSince : GoodIn wsX6_wasVoid (wsV RX6 29 RX6 yX6_voidSince wsX6_voidSince) := goodIn_app (lq_goor _ [1, 2, 3, 4] rfl (by decide +kernel)) ggX6_wasVoid_X6_voidSince
theorem dX6_wasVoid_0 : decode cX6_wasVoid 0 = .ok (.aload_n 0, 1) := by decide +kernel
theorem dX6_wasVoid_1 : decode cX6_wasVoid 1 = .ok (.iload_n 1, 1) := by decide +kernel
theorem dX6_wasVoid_2 : decode cX6_wasVoid 2 = .ok (.invokevirtual 29, 3) := by decide +kernel
theorem dX6_wasVoid_5 : decode cX6_wasVoid 5 = .ok (.istore_n 3, 1) := by decide +kernel
theorem dX6_wasVoid_6 : decode cX6_wasVoid 6 = .ok (.iload_n 3, 1) := by decide +kernel
theorem dX6_wasVoid_7 : decode cX6_wasVoid 7 = .ok (.iconst (-1), 1) := by decide +kernel
theorem dX6_wasVoid_8 : decode cX6_wasVoid 8 = .ok (.if_icmp .eq 12, 3) := by decide +kernel
theorem dX6_wasVoid_11 : decode cX6_wasVoid 11 = .ok (.iload_n 3, 1) := by decide +kernel
theorem dX6_wasVoid_12 : decode cX6_wasVoid 12 = .ok (.iload_n 2, 1) := by decide +kernel
theorem dX6_wasVoid_13 : decode cX6_wasVoid 13 = .ok (.if_icmp .gt 7, 3) := by decide +kernel
theorem dX6_wasVoid_16 : decode cX6_wasVoid 16 = .ok (.iconst 1, 1) := by decide +kernel
theorem dX6_wasVoid_17 : decode cX6_wasVoid 17 = .ok (.goto 4, 3) := by decide +kernel
theorem dX6_wasVoid_20 : decode cX6_wasVoid 20 = .ok (.iconst 0, 1) := by decide +kernel
theorem dX6_wasVoid_21 : decode cX6_wasVoid 21 = .ok (.ireturn, 1) := by decide +kernel
set_option maxRecDepth 20000 in
theorem ggX6_tellVoid_X8_isStation : GoodIn wsX6_tellVoid wsX8_isStation := lq_goor _ [4] rfl (by decide +kernel)
set_option maxRecDepth 20000 in
theorem gX6_tellVoid_X8_isStation_n25 : GoodIn wsX6_tellVoid (wsX8_isStation) := ggX6_tellVoid_X8_isStation
theorem dX6_tellVoid_0 : decode cX6_tellVoid 0 = .ok (.iload_n 1, 1) := by decide +kernel
theorem dX6_tellVoid_1 : decode cX6_tellVoid 1 = .ok (.invokestatic 25, 3) := by decide +kernel
theorem dX6_tellVoid_4 : decode cX6_tellVoid 4 = .ok (.ifCond .eq 13, 3) := by decide +kernel
theorem dX6_tellVoid_7 : decode cX6_tellVoid 7 = .ok (.aload_n 0, 1) := by decide +kernel
theorem dX6_tellVoid_8 : decode cX6_tellVoid 8 = .ok (.getfield 9, 3) := by decide +kernel
theorem dX6_tellVoid_11 : decode cX6_tellVoid 11 = .ok (.iload_n 1, 1) := by decide +kernel
theorem dX6_tellVoid_12 : decode cX6_tellVoid 12 = .ok (.iaload, 1) := by decide +kernel
theorem dX6_tellVoid_13 : decode cX6_tellVoid 13 = .ok (.iconst (-1), 1) := by decide +kernel
theorem dX6_tellVoid_14 : decode cX6_tellVoid 14 = .ok (.if_icmp .eq 5, 3) := by decide +kernel
theorem dX6_tellVoid_17 : decode cX6_tellVoid 17 = .ok (.iconst 0, 1) := by decide +kernel
theorem dX6_tellVoid_18 : decode cX6_tellVoid 18 = .ok (.ireturn, 1) := by decide +kernel
theorem dX6_tellVoid_19 : decode cX6_tellVoid 19 = .ok (.aload_n 0, 1) := by decide +kernel
theorem dX6_tellVoid_20 : decode cX6_tellVoid 20 = .ok (.getfield 9, 3) := by decide +kernel
theorem dX6_tellVoid_23 : decode cX6_tellVoid 23 = .ok (.iload_n 1, 1) := by decide +kernel
theorem dX6_tellVoid_24 : decode cX6_tellVoid 24 = .ok (.iload_n 2, 1) := by decide +kernel
theorem dX6_tellVoid_25 : decode cX6_tellVoid 25 = .ok (.iastore, 1) := by decide +kernel
theorem dX6_tellVoid_26 : decode cX6_tellVoid 26 = .ok (.iconst 1, 1) := by decide +kernel
theorem dX6_tellVoid_27 : decode cX6_tellVoid 27 = .ok (.ireturn, 1) := by decide +kernel
theorem dX7_init_0 : decode cX7_init 0 = .ok (.aload_n 0, 1) := by decide +kernel
theorem dX7_init_1 : decode cX7_init 1 = .ok (.invokespecial 3, 3) := by decide +kernel
theorem dX7_init_4 : decode cX7_init 4 = .ok (.aload_n 0, 1) := by decide +kernel
theorem dX7_init_5 : decode cX7_init 5 = .ok (.sipush 200, 3) := by decide +kernel
theorem dX7_init_8 : decode cX7_init 8 = .ok (.newarray .int, 2) := by decide +kernel
theorem dX7_init_10 : decode cX7_init 10 = .ok (.putfield 9, 3) := by decide +kernel
theorem dX7_init_13 : decode cX7_init 13 = .ok (.return_, 1) := by decide +kernel
theorem dX7_hasRoomFor_0 : decode cX7_hasRoomFor 0 = .ok (.aload_n 0, 1) := by decide +kernel
theorem dX7_hasRoomFor_1 : decode cX7_hasRoomFor 1 = .ok (.getfield 15, 3) := by decide +kernel
theorem dX7_hasRoomFor_4 : decode cX7_hasRoomFor 4 = .ok (.iload_n 1, 1) := by decide +kernel
theorem dX7_hasRoomFor_5 : decode cX7_hasRoomFor 5 = .ok (.iadd, 1) := by decide +kernel
theorem dX7_hasRoomFor_6 : decode cX7_hasRoomFor 6 = .ok (.sipush 200, 3) := by decide +kernel
theorem dX7_hasRoomFor_9 : decode cX7_hasRoomFor 9 = .ok (.if_icmp .gt 7, 3) := by decide +kernel
theorem dX7_hasRoomFor_12 : decode cX7_hasRoomFor 12 = .ok (.iconst 1, 1) := by decide +kernel
theorem dX7_hasRoomFor_13 : decode cX7_hasRoomFor 13 = .ok (.goto 4, 3) := by decide +kernel
theorem dX7_hasRoomFor_16 : decode cX7_hasRoomFor 16 = .ok (.iconst 0, 1) := by decide +kernel
theorem dX7_hasRoomFor_17 : decode cX7_hasRoomFor 17 = .ok (.ireturn, 1) := by decide +kernel
theorem dX7_addNumber_0 : decode cX7_addNumber 0 = .ok (.bipush 24, 2) := by decide +kernel
theorem dX7_addNumber_2 : decode cX7_addNumber 2 = .ok (.istore_n 2, 1) := by decide +kernel
theorem dX7_addNumber_3 : decode cX7_addNumber 3 = .ok (.iload_n 2, 1) := by decide +kernel
theorem dX7_addNumber_4 : decode cX7_addNumber 4 = .ok (.ifCond .lt 52, 3) := by decide +kernel
theorem dX7_addNumber_7 : decode cX7_addNumber 7 = .ok (.aload_n 0, 1) := by decide +kernel
theorem dX7_addNumber_8 : decode cX7_addNumber 8 = .ok (.getfield 15, 3) := by decide +kernel
theorem dX7_addNumber_11 : decode cX7_addNumber 11 = .ok (.ifCond .lt 39, 3) := by decide +kernel
theorem dX7_addNumber_14 : decode cX7_addNumber 14 = .ok (.aload_n 0, 1) := by decide +kernel
theorem dX7_addNumber_15 : decode cX7_addNumber 15 = .ok (.getfield 15, 3) := by decide +kernel
theorem dX7_addNumber_18 : decode cX7_addNumber 18 = .ok (.sipush 200, 3) := by decide +kernel
theorem dX7_addNumber_21 : decode cX7_addNumber 21 = .ok (.if_icmp .ge 29, 3) := by decide +kernel
theorem dX7_addNumber_24 : decode cX7_addNumber 24 = .ok (.aload_n 0, 1) := by decide +kernel
theorem dX7_addNumber_25 : decode cX7_addNumber 25 = .ok (.getfield 9, 3) := by decide +kernel
theorem dX7_addNumber_28 : decode cX7_addNumber 28 = .ok (.aload_n 0, 1) := by decide +kernel
theorem dX7_addNumber_29 : decode cX7_addNumber 29 = .ok (.getfield 15, 3) := by decide +kernel
theorem dX7_addNumber_32 : decode cX7_addNumber 32 = .ok (.iload_n 1, 1) := by decide +kernel
theorem dX7_addNumber_33 : decode cX7_addNumber 33 = .ok (.iload_n 2, 1) := by decide +kernel
theorem dX7_addNumber_34 : decode cX7_addNumber 34 = .ok (.iushr, 1) := by decide +kernel
theorem dX7_addNumber_35 : decode cX7_addNumber 35 = .ok (.sipush 255, 3) := by decide +kernel
theorem dX7_addNumber_38 : decode cX7_addNumber 38 = .ok (.iand, 1) := by decide +kernel
theorem dX7_addNumber_39 : decode cX7_addNumber 39 = .ok (.iastore, 1) := by decide +kernel
theorem dX7_addNumber_40 : decode cX7_addNumber 40 = .ok (.aload_n 0, 1) := by decide +kernel
theorem dX7_addNumber_41 : decode cX7_addNumber 41 = .ok (.dup, 1) := by decide +kernel
theorem dX7_addNumber_42 : decode cX7_addNumber 42 = .ok (.getfield 15, 3) := by decide +kernel
theorem dX7_addNumber_45 : decode cX7_addNumber 45 = .ok (.iconst 1, 1) := by decide +kernel
theorem dX7_addNumber_46 : decode cX7_addNumber 46 = .ok (.iadd, 1) := by decide +kernel
theorem dX7_addNumber_47 : decode cX7_addNumber 47 = .ok (.putfield 15, 3) := by decide +kernel
theorem dX7_addNumber_50 : decode cX7_addNumber 50 = .ok (.iinc 2 (-8), 3) := by decide +kernel
theorem dX7_addNumber_53 : decode cX7_addNumber 53 = .ok (.goto (-50), 3) := by decide +kernel
theorem dX7_addNumber_56 : decode cX7_addNumber 56 = .ok (.return_, 1) := by decide +kernel
theorem dX7_byteAt_0 : decode cX7_byteAt 0 = .ok (.iload_n 1, 1) := by decide +kernel
theorem dX7_byteAt_1 : decode cX7_byteAt 1 = .ok (.ifCond .lt 27, 3) := by decide +kernel
theorem dX7_byteAt_4 : decode cX7_byteAt 4 = .ok (.iload_n 1, 1) := by decide +kernel
theorem dX7_byteAt_5 : decode cX7_byteAt 5 = .ok (.aload_n 0, 1) := by decide +kernel
theorem dX7_byteAt_6 : decode cX7_byteAt 6 = .ok (.getfield 15, 3) := by decide +kernel
theorem dX7_byteAt_9 : decode cX7_byteAt 9 = .ok (.if_icmp .ge 19, 3) := by decide +kernel
theorem dX7_byteAt_12 : decode cX7_byteAt 12 = .ok (.iload_n 1, 1) := by decide +kernel
theorem dX7_byteAt_13 : decode cX7_byteAt 13 = .ok (.sipush 200, 3) := by decide +kernel
theorem dX7_byteAt_16 : decode cX7_byteAt 16 = .ok (.if_icmp .ge 12, 3) := by decide +kernel
theorem dX7_byteAt_19 : decode cX7_byteAt 19 = .ok (.aload_n 0, 1) := by decide +kernel
theorem dX7_byteAt_20 : decode cX7_byteAt 20 = .ok (.getfield 9, 3) := by decide +kernel
theorem dX7_byteAt_23 : decode cX7_byteAt 23 = .ok (.iload_n 1, 1) := by decide +kernel
theorem dX7_byteAt_24 : decode cX7_byteAt 24 = .ok (.iaload, 1) := by decide +kernel
theorem dX7_byteAt_25 : decode cX7_byteAt 25 = .ok (.goto 4, 3) := by decide +kernel
theorem dX7_byteAt_28 : decode cX7_byteAt 28 = .ok (.iconst (-1), 1) := by decide +kernel
theorem dX7_byteAt_29 : decode cX7_byteAt 29 = .ok (.ireturn, 1) := by decide +kernel
set_option maxRecDepth 20000 in
theorem ggX8_init_X7_init : GoodIn wsX8_init wsX7_init := goodIn_ca (lq_goor _ [30, 31, 2, 3, 16, 32] rfl (by decide +kernel)) (goodIn_sub (fun _ h => List.mem_cons_of_mem _ (List.mem_append_left _ (List.mem_append_left _ (List.mem_append_left _ (List.mem_append_left _ (List.mem_append_right _ h)))))) gw_wsX70)
set_option maxRecDepth 20000 in
theorem gX8_init_X7_init_n9 : GoodIn wsX8_init (wsX7_init) := ggX8_init_X7_init
set_option maxRecDepth 20000 in
theorem ggX8_init_X3_init : GoodIn wsX8_init wsX3_init := goodIn_ca (lq_goor _ [34, 35, 2, 3, 36, 16, 37, 38, 39, 40, 41, 42] rfl (by decide +kernel)) (goodIn_sub (fun _ h => List.mem_cons_of_mem _ (List.mem_append_left _ (List.mem_append_left _ (List.mem_append_right _ h)))) gw_wsX30)
set_option maxRecDepth 20000 in
theorem gX8_init_X3_init_n18 : GoodIn wsX8_init (wsX3_init) := ggX8_init_X3_init
set_option maxRecDepth 20000 in
theorem ggX8_init_X1_init : GoodIn wsX8_init wsX1_init := goodIn_ca (lq_goor _ [44, 45, 2, 3, 16, 46, 47, 48, 49, 50] rfl (by decide +kernel)) (goodIn_sub (fun _ h => List.mem_cons_of_mem _ (List.mem_append_left _ (List.mem_append_right _ h))) gw_wsX10)
set_option maxRecDepth 20000 in
theorem gX8_init_X1_init_n25 : GoodIn wsX8_init (wsX1_init) := ggX8_init_X1_init
set_option maxRecDepth 20000 in
theorem ggX8_init_X5_init : GoodIn wsX8_init wsX5_init := goodIn_ca (lq_goor _ [52, 53, 2, 3, 16, 54] rfl (by decide +kernel)) (goodIn_sub (fun _ h => List.mem_cons_of_mem _ (List.mem_append_right _ h)) gw_wsX50)
set_option maxRecDepth 20000 in
theorem gX8_init_X5_init_n57 : GoodIn wsX8_init (wsX5_init) := ggX8_init_X5_init
theorem dX8_init_0 : decode cX8_init 0 = .ok (.aload_n 0, 1) := by decide +kernel
theorem dX8_init_1 : decode cX8_init 1 = .ok (.invokespecial 1, 3) := by decide +kernel
theorem dX8_init_4 : decode cX8_init 4 = .ok (.aload_n 0, 1) := by decide +kernel
theorem dX8_init_5 : decode cX8_init 5 = .ok (.new 7, 3) := by decide +kernel
theorem dX8_init_8 : decode cX8_init 8 = .ok (.dup, 1) := by decide +kernel
theorem dX8_init_9 : decode cX8_init 9 = .ok (.invokespecial 9, 3) := by decide +kernel
theorem dX8_init_12 : decode cX8_init 12 = .ok (.putfield 10, 3) := by decide +kernel
theorem dX8_init_15 : decode cX8_init 15 = .ok (.aload_n 0, 1) := by decide +kernel
theorem dX8_init_16 : decode cX8_init 16 = .ok (.new 16, 3) := by decide +kernel
theorem dX8_init_19 : decode cX8_init 19 = .ok (.dup, 1) := by decide +kernel
theorem dX8_init_20 : decode cX8_init 20 = .ok (.invokespecial 18, 3) := by decide +kernel
theorem dX8_init_23 : decode cX8_init 23 = .ok (.putfield 19, 3) := by decide +kernel
theorem dX8_init_26 : decode cX8_init 26 = .ok (.aload_n 0, 1) := by decide +kernel
theorem dX8_init_27 : decode cX8_init 27 = .ok (.new 23, 3) := by decide +kernel
theorem dX8_init_30 : decode cX8_init 30 = .ok (.dup, 1) := by decide +kernel
theorem dX8_init_31 : decode cX8_init 31 = .ok (.invokespecial 25, 3) := by decide +kernel
theorem dX8_init_34 : decode cX8_init 34 = .ok (.putfield 26, 3) := by decide +kernel
theorem dX8_init_37 : decode cX8_init 37 = .ok (.aload_n 0, 1) := by decide +kernel
theorem dX8_init_38 : decode cX8_init 38 = .ok (.bipush 12, 2) := by decide +kernel
theorem dX8_init_40 : decode cX8_init 40 = .ok (.newarray .int, 2) := by decide +kernel
theorem dX8_init_42 : decode cX8_init 42 = .ok (.putfield 30, 3) := by decide +kernel
theorem dX8_init_45 : decode cX8_init 45 = .ok (.aload_n 0, 1) := by decide +kernel
theorem dX8_init_46 : decode cX8_init 46 = .ok (.bipush 60, 2) := by decide +kernel
theorem dX8_init_48 : decode cX8_init 48 = .ok (.anewarray 34, 3) := by decide +kernel
theorem dX8_init_51 : decode cX8_init 51 = .ok (.putfield 36, 3) := by decide +kernel
theorem dX8_init_54 : decode cX8_init 54 = .ok (.aload_n 0, 1) := by decide +kernel
theorem dX8_init_55 : decode cX8_init 55 = .ok (.bipush 20, 2) := by decide +kernel
theorem dX8_init_57 : decode cX8_init 57 = .ok (.anewarray 40, 3) := by decide +kernel
theorem dX8_init_60 : decode cX8_init 60 = .ok (.putfield 42, 3) := by decide +kernel
theorem dX8_init_63 : decode cX8_init 63 = .ok (.aload_n 0, 1) := by decide +kernel
theorem dX8_init_64 : decode cX8_init 64 = .ok (.bipush 60, 2) := by decide +kernel
theorem dX8_init_66 : decode cX8_init 66 = .ok (.anewarray 46, 3) := by decide +kernel
theorem dX8_init_69 : decode cX8_init 69 = .ok (.putfield 48, 3) := by decide +kernel
theorem dX8_init_72 : decode cX8_init 72 = .ok (.aload_n 0, 1) := by decide +kernel
theorem dX8_init_73 : decode cX8_init 73 = .ok (.bipush 60, 2) := by decide +kernel
theorem dX8_init_75 : decode cX8_init 75 = .ok (.anewarray 46, 3) := by decide +kernel
theorem dX8_init_78 : decode cX8_init 78 = .ok (.putfield 52, 3) := by decide +kernel
theorem dX8_init_81 : decode cX8_init 81 = .ok (.aload_n 0, 1) := by decide +kernel
theorem dX8_init_82 : decode cX8_init 82 = .ok (.new 55, 3) := by decide +kernel
theorem dX8_init_85 : decode cX8_init 85 = .ok (.dup, 1) := by decide +kernel
theorem dX8_init_86 : decode cX8_init 86 = .ok (.invokespecial 57, 3) := by decide +kernel
theorem dX8_init_89 : decode cX8_init 89 = .ok (.putfield 58, 3) := by decide +kernel
theorem dX8_init_92 : decode cX8_init 92 = .ok (.return_, 1) := by decide +kernel
set_option maxRecDepth 20000 in
theorem ggX8_feed_X7_hasRoomFor : GoodIn wsX8_feed wsX7_hasRoomFor := goodIn_ca (lq_goor _ [6, 7] rfl (by decide +kernel)) (goodIn_sub (fun _ h => List.mem_cons_of_mem _ (List.mem_append_right _ h)) gw_wsX70)
set_option maxRecDepth 20000 in
theorem gX8_feed_X7_hasRoomFor : GoodIn wsX8_feed (wsV RX8 62 RX7 yX7_hasRoomFor wsX7_hasRoomFor) := goodIn_app (lq_goor _ [2, 3, 4, 5] rfl (by decide +kernel)) ggX8_feed_X7_hasRoomFor
set_option maxRecDepth 20000 in
theorem ggX8_feed_X7_addNumber : GoodIn wsX8_feed wsX7_addNumber := goodIn_ca (lq_goor _ [11, 7, 12] rfl (by decide +kernel)) (goodIn_sub (fun _ h => List.mem_cons_of_mem _ (List.mem_append_right _ h)) gw_wsX70)
set_option maxRecDepth 20000 in
theorem gX8_feed_X7_addNumber : GoodIn wsX8_feed (wsV RX8 66 RX7 yX7_addNumber wsX7_addNumber) := goodIn_app (lq_goor _ [8, 9, 10, 5] rfl (by decide +kernel)) ggX8_feed_X7_addNumber
theorem dX8_feed_0 : decode cX8_feed 0 = .ok (.aload_n 0, 1) := by decide +kernel
theorem dX8_feed_1 : decode cX8_feed 1 = .ok (.getfield 10, 3) := by decide +kernel
theorem dX8_feed_4 : decode cX8_feed 4 = .ok (.bipush 20, 2) := by decide +kernel
theorem dX8_feed_6 : decode cX8_feed 6 = .ok (.invokevirtual 62, 3) := by decide +kernel
theorem dX8_feed_9 : decode cX8_feed 9 = .ok (.ifCond .ne 5, 3) := by decide +kernel
theorem dX8_feed_12 : decode cX8_feed 12 = .ok (.iconst (-1), 1) := by decide +kernel
theorem dX8_feed_13 : decode cX8_feed 13 = .ok (.ireturn, 1) := by decide +kernel
theorem dX8_feed_14 : decode cX8_feed 14 = .ok (.aload_n 0, 1) := by decide +kernel
theorem dX8_feed_15 : decode cX8_feed 15 = .ok (.getfield 10, 3) := by decide +kernel
theorem dX8_feed_18 : decode cX8_feed 18 = .ok (.iload_n 1, 1) := by decide +kernel
theorem dX8_feed_19 : decode cX8_feed 19 = .ok (.invokevirtual 66, 3) := by decide +kernel
theorem dX8_feed_22 : decode cX8_feed 22 = .ok (.aload_n 0, 1) := by decide +kernel
theorem dX8_feed_23 : decode cX8_feed 23 = .ok (.getfield 10, 3) := by decide +kernel
theorem dX8_feed_26 : decode cX8_feed 26 = .ok (.iload_n 2, 1) := by decide +kernel
theorem dX8_feed_27 : decode cX8_feed 27 = .ok (.invokevirtual 66, 3) := by decide +kernel
theorem dX8_feed_30 : decode cX8_feed 30 = .ok (.aload_n 0, 1) := by decide +kernel
theorem dX8_feed_31 : decode cX8_feed 31 = .ok (.getfield 10, 3) := by decide +kernel
theorem dX8_feed_34 : decode cX8_feed 34 = .ok (.iload_n 3, 1) := by decide +kernel
theorem dX8_feed_35 : decode cX8_feed 35 = .ok (.invokevirtual 66, 3) := by decide +kernel
theorem dX8_feed_38 : decode cX8_feed 38 = .ok (.aload_n 0, 1) := by decide +kernel
theorem dX8_feed_39 : decode cX8_feed 39 = .ok (.getfield 10, 3) := by decide +kernel
theorem dX8_feed_42 : decode cX8_feed 42 = .ok (.iload 4, 2) := by decide +kernel
theorem dX8_feed_44 : decode cX8_feed 44 = .ok (.invokevirtual 66, 3) := by decide +kernel
theorem dX8_feed_47 : decode cX8_feed 47 = .ok (.aload_n 0, 1) := by decide +kernel
theorem dX8_feed_48 : decode cX8_feed 48 = .ok (.getfield 10, 3) := by decide +kernel
theorem dX8_feed_51 : decode cX8_feed 51 = .ok (.iload 5, 2) := by decide +kernel
theorem dX8_feed_53 : decode cX8_feed 53 = .ok (.invokevirtual 66, 3) := by decide +kernel
theorem dX8_feed_56 : decode cX8_feed 56 = .ok (.aload_n 0, 1) := by decide +kernel
theorem dX8_feed_57 : decode cX8_feed 57 = .ok (.getfield 10, 3) := by decide +kernel
theorem dX8_feed_60 : decode cX8_feed 60 = .ok (.getfield 70, 3) := by decide +kernel
theorem dX8_feed_63 : decode cX8_feed 63 = .ok (.ireturn, 1) := by decide +kernel
theorem dX8_end_0 : decode cX8_end 0 = .ok (.iload_n 1, 1) := by decide +kernel
theorem dX8_end_1 : decode cX8_end 1 = .ok (.ifCond .lt 14, 3) := by decide +kernel
theorem dX8_end_4 : decode cX8_end 4 = .ok (.iload_n 1, 1) := by decide +kernel
theorem dX8_end_5 : decode cX8_end 5 = .ok (.aload_n 0, 1) := by decide +kernel
theorem dX8_end_6 : decode cX8_end 6 = .ok (.getfield 10, 3) := by decide +kernel
theorem dX8_end_9 : decode cX8_end 9 = .ok (.getfield 70, 3) := by decide +kernel
theorem dX8_end_12 : decode cX8_end 12 = .ok (.if_icmp .le 5, 3) := by decide +kernel
theorem dX8_end_15 : decode cX8_end 15 = .ok (.iconst 0, 1) := by decide +kernel
theorem dX8_end_16 : decode cX8_end 16 = .ok (.ireturn, 1) := by decide +kernel
theorem dX8_end_17 : decode cX8_end 17 = .ok (.aload_n 0, 1) := by decide +kernel
theorem dX8_end_18 : decode cX8_end 18 = .ok (.getfield 10, 3) := by decide +kernel
theorem dX8_end_21 : decode cX8_end 21 = .ok (.iload_n 1, 1) := by decide +kernel
theorem dX8_end_22 : decode cX8_end 22 = .ok (.putfield 70, 3) := by decide +kernel
theorem dX8_end_25 : decode cX8_end 25 = .ok (.iconst 1, 1) := by decide +kernel
theorem dX8_end_26 : decode cX8_end 26 = .ok (.ireturn, 1) := by decide +kernel
set_option maxRecDepth 20000 in
theorem ggX8_statutes_X4_init : GoodIn wsX8_statutes wsX4_init := goodIn_ca (goodIn_ca (lq_goor _ [9, 10, 11, 12, 13, 14, 15, 16, 17, 18, 19, 20, 21, 22, 23, 24] rfl (by decide +kernel)) (goodIn_sub (fun _ h => List.mem_cons_of_mem _ (List.mem_append_right _ h)) gw_wsX50)) (goodIn_sub (fun _ h => List.mem_cons_of_mem _ (List.mem_append_left _ (List.mem_append_left _ (List.mem_append_left _ (List.mem_append_right _ h))))) gw_wsX40)
set_option maxRecDepth 20000 in
theorem gX8_statutes_X4_init : GoodIn wsX8_statutes (wsX4_init) := ggX8_statutes_X4_init
set_option maxRecDepth 20000 in
theorem ggX8_statutes_X4_readText : GoodIn wsX8_statutes wsX4_readText := goodIn_ca (goodIn_ca (goodIn_ca (lq_goor _ [28, 29, 30, 31, 32, 33, 3, 34, 35, 19, 36, 37, 38, 39, 40, 41, 42, 43, 44, 45, 46, 47, 48, 49, 50, 51, 52, 53, 54, 55, 56, 57, 58, 59, 60, 61, 62, 63, 64, 65, 66, 67, 68, 69, 70, 71, 72, 73, 74, 75, 76, 77, 78, 79, 80, 81, 82, 83, 84, 85, 86, 87, 88, 89, 90, 91, 92, 93, 94, 95, 96, 97, 98, 99, 100, 101, 102, 103, 104, 105, 106, 107, 108, 109, 110, 111, 112, 113, 114, 115, 116, 117, 118, 119, 120, 121, 122, 123, 124, 125, 126, 127, 128, 129, 130, 131, 132, 133, 134, 135, 18, 136, 137, 138, 139, 16, 140, 141, 15, 142, 143, 144, 145, 146, 147, 148, 149, 24, 150, 151, 152, 153] rfl (by decide +kernel)) (goodIn_sub (fun _ h => List.mem_cons_of_mem _ (List.mem_append_left _ (List.mem_append_left _ (List.mem_append_left _ (List.mem_append_right _ h))))) gw_wsX40)) (goodIn_sub (fun _ h => List.mem_cons_of_mem _ (List.mem_append_left _ (List.mem_append_right _ h))) gw_wsX70)) (goodIn_sub (fun _ h => List.mem_cons_of_mem _ (List.mem_append_right _ h)) gw_wsX50)
set_option maxRecDepth 20000 in
theorem gX8_statutes_X4_readText : GoodIn wsX8_statutes (wsV RX8 79 RX4 yX4_readText wsX4_readText) := goodIn_app (lq_goor _ [25, 26, 27, 3] rfl (by decide +kernel)) ggX8_statutes_X4_readText
theorem dX8_statutes_0 : decode cX8_statutes 0 = .ok (.new 74, 3) := by decide +kernel
theorem dX8_statutes_3 : decode cX8_statutes 3 = .ok (.dup, 1) := by decide +kernel
theorem dX8_statutes_4 : decode cX8_statutes 4 = .ok (.aload_n 0, 1) := by decide +kernel
theorem dX8_statutes_5 : decode cX8_statutes 5 = .ok (.getfield 10, 3) := by decide +kernel
theorem dX8_statutes_8 : decode cX8_statutes 8 = .ok (.invokespecial 76, 3) := by decide +kernel
theorem dX8_statutes_11 : decode cX8_statutes 11 = .ok (.astore_n 1, 1) := by decide +kernel
theorem dX8_statutes_12 : decode cX8_statutes 12 = .ok (.aload_n 1, 1) := by decide +kernel
theorem dX8_statutes_13 : decode cX8_statutes 13 = .ok (.invokevirtual 79, 3) := by decide +kernel
theorem dX8_statutes_16 : decode cX8_statutes 16 = .ok (.aload_n 0, 1) := by decide +kernel
theorem dX8_statutes_17 : decode cX8_statutes 17 = .ok (.getfield 10, 3) := by decide +kernel
theorem dX8_statutes_20 : decode cX8_statutes 20 = .ok (.iconst 0, 1) := by decide +kernel
theorem dX8_statutes_21 : decode cX8_statutes 21 = .ok (.putfield 70, 3) := by decide +kernel
theorem dX8_statutes_24 : decode cX8_statutes 24 = .ok (.aload_n 0, 1) := by decide +kernel
theorem dX8_statutes_25 : decode cX8_statutes 25 = .ok (.aload_n 1, 1) := by decide +kernel
theorem dX8_statutes_26 : decode cX8_statutes 26 = .ok (.getfield 82, 3) := by decide +kernel
theorem dX8_statutes_29 : decode cX8_statutes 29 = .ok (.putfield 85, 3) := by decide +kernel
theorem dX8_statutes_32 : decode cX8_statutes 32 = .ok (.aload_n 0, 1) := by decide +kernel
theorem dX8_statutes_33 : decode cX8_statutes 33 = .ok (.getfield 85, 3) := by decide +kernel
theorem dX8_statutes_36 : decode cX8_statutes 36 = .ok (.ifCond .eq 10, 3) := by decide +kernel
theorem dX8_statutes_39 : decode cX8_statutes 39 = .ok (.iconst (-1), 1) := by decide +kernel
theorem dX8_statutes_40 : decode cX8_statutes 40 = .ok (.aload_n 1, 1) := by decide +kernel
theorem dX8_statutes_41 : decode cX8_statutes 41 = .ok (.getfield 86, 3) := by decide +kernel
theorem dX8_statutes_44 : decode cX8_statutes 44 = .ok (.isub, 1) := by decide +kernel
theorem dX8_statutes_45 : decode cX8_statutes 45 = .ok (.ireturn, 1) := by decide +kernel
theorem dX8_statutes_46 : decode cX8_statutes 46 = .ok (.aload_n 0, 1) := by decide +kernel
theorem dX8_statutes_47 : decode cX8_statutes 47 = .ok (.aload_n 1, 1) := by decide +kernel
theorem dX8_statutes_48 : decode cX8_statutes 48 = .ok (.getfield 89, 3) := by decide +kernel
theorem dX8_statutes_51 : decode cX8_statutes 51 = .ok (.putfield 58, 3) := by decide +kernel
theorem dX8_statutes_54 : decode cX8_statutes 54 = .ok (.aload_n 1, 1) := by decide +kernel
theorem dX8_statutes_55 : decode cX8_statutes 55 = .ok (.getfield 92, 3) := by decide +kernel
theorem dX8_statutes_58 : decode cX8_statutes 58 = .ok (.ireturn, 1) := by decide +kernel
theorem dX8_fault_0 : decode cX8_fault 0 = .ok (.aload_n 0, 1) := by decide +kernel
theorem dX8_fault_1 : decode cX8_fault 1 = .ok (.getfield 85, 3) := by decide +kernel
theorem dX8_fault_4 : decode cX8_fault 4 = .ok (.ireturn, 1) := by decide +kernel
set_option maxRecDepth 20000 in
theorem ggX8_road_X8_isStation : GoodIn wsX8_road wsX8_isStation := lq_goor _ [5] rfl (by decide +kernel)
set_option maxRecDepth 20000 in
theorem gX8_road_X8_isStation : GoodIn wsX8_road (va_wsS RX8 95 yX8_isStation wsX8_isStation) := goodIn_app (lq_goor _ [2, 3, 4] rfl (by decide +kernel)) ggX8_road_X8_isStation
set_option maxRecDepth 20000 in
theorem ggX8_road_X3_lay : GoodIn wsX8_road wsX3_lay := goodIn_ca (lq_goor _ [10, 11, 3, 4, 5, 12, 13, 14, 9, 15, 16] rfl (by decide +kernel)) (goodIn_sub (fun _ h => List.mem_cons_of_mem _ (List.mem_append_right _ h)) gw_wsX30)
set_option maxRecDepth 20000 in
theorem gX8_road_X3_lay : GoodIn wsX8_road (wsV RX8 98 RX3 yX3_lay wsX3_lay) := goodIn_app (lq_goor _ [6, 7, 8, 9] rfl (by decide +kernel)) ggX8_road_X3_lay
theorem dX8_road_0 : decode cX8_road 0 = .ok (.iload_n 1, 1) := by decide +kernel
theorem dX8_road_1 : decode cX8_road 1 = .ok (.invokestatic 95, 3) := by decide +kernel
theorem dX8_road_4 : decode cX8_road 4 = .ok (.ifCond .eq 25, 3) := by decide +kernel
theorem dX8_road_7 : decode cX8_road 7 = .ok (.iload_n 2, 1) := by decide +kernel
theorem dX8_road_8 : decode cX8_road 8 = .ok (.invokestatic 95, 3) := by decide +kernel
theorem dX8_road_11 : decode cX8_road 11 = .ok (.ifCond .eq 18, 3) := by decide +kernel
theorem dX8_road_14 : decode cX8_road 14 = .ok (.iload_n 1, 1) := by decide +kernel
theorem dX8_road_15 : decode cX8_road 15 = .ok (.iload_n 2, 1) := by decide +kernel
theorem dX8_road_16 : decode cX8_road 16 = .ok (.if_icmp .eq 13, 3) := by decide +kernel
theorem dX8_road_19 : decode cX8_road 19 = .ok (.iload_n 3, 1) := by decide +kernel
theorem dX8_road_20 : decode cX8_road 20 = .ok (.ifCond .lt 9, 3) := by decide +kernel
theorem dX8_road_23 : decode cX8_road 23 = .ok (.iload_n 3, 1) := by decide +kernel
theorem dX8_road_24 : decode cX8_road 24 = .ok (.bipush 24, 2) := by decide +kernel
theorem dX8_road_26 : decode cX8_road 26 = .ok (.if_icmp .le 5, 3) := by decide +kernel
theorem dX8_road_29 : decode cX8_road 29 = .ok (.iconst 0, 1) := by decide +kernel
theorem dX8_road_30 : decode cX8_road 30 = .ok (.ireturn, 1) := by decide +kernel
theorem dX8_road_31 : decode cX8_road 31 = .ok (.aload_n 0, 1) := by decide +kernel
theorem dX8_road_32 : decode cX8_road 32 = .ok (.getfield 19, 3) := by decide +kernel
theorem dX8_road_35 : decode cX8_road 35 = .ok (.iload_n 1, 1) := by decide +kernel
theorem dX8_road_36 : decode cX8_road 36 = .ok (.iload_n 2, 1) := by decide +kernel
theorem dX8_road_37 : decode cX8_road 37 = .ok (.iload_n 3, 1) := by decide +kernel
theorem dX8_road_38 : decode cX8_road 38 = .ok (.invokevirtual 98, 3) := by decide +kernel
theorem dX8_road_41 : decode cX8_road 41 = .ok (.iconst 1, 1) := by decide +kernel
theorem dX8_road_42 : decode cX8_road 42 = .ok (.ireturn, 1) := by decide +kernel
set_option maxRecDepth 20000 in
theorem ggX8_snow_X3_timeBetween : GoodIn wsX8_snow wsX3_timeBetween := goodIn_ca (lq_goor _ [6, 7, 8, 9, 10, 11] rfl (by decide +kernel)) (goodIn_sub (fun _ h => List.mem_cons_of_mem _ (List.mem_append_right _ h)) gw_wsX30)
set_option maxRecDepth 20000 in
theorem gX8_snow_X3_timeBetween : GoodIn wsX8_snow (wsV RX8 102 RX3 yX3_timeBetween wsX3_timeBetween) := goodIn_app (lq_goor _ [2, 3, 4, 5] rfl (by decide +kernel)) ggX8_snow_X3_timeBetween
set_option maxRecDepth 20000 in
theorem ggX8_snow_X3_setSnow : GoodIn wsX8_snow wsX3_setSnow := goodIn_ca (lq_goor _ [15, 8, 9, 10, 11] rfl (by decide +kernel)) (goodIn_sub (fun _ h => List.mem_cons_of_mem _ (List.mem_append_right _ h)) gw_wsX30)
set_option maxRecDepth 20000 in
theorem gX8_snow_X3_setSnow : GoodIn wsX8_snow (wsV RX8 106 RX3 yX3_setSnow wsX3_setSnow) := goodIn_app (lq_goor _ [12, 13, 14, 5] rfl (by decide +kernel)) ggX8_snow_X3_setSnow
theorem dX8_snow_0 : decode cX8_snow 0 = .ok (.aload_n 0, 1) := by decide +kernel
theorem dX8_snow_1 : decode cX8_snow 1 = .ok (.getfield 19, 3) := by decide +kernel
theorem dX8_snow_4 : decode cX8_snow 4 = .ok (.iload_n 1, 1) := by decide +kernel
theorem dX8_snow_5 : decode cX8_snow 5 = .ok (.iload_n 2, 1) := by decide +kernel
theorem dX8_snow_6 : decode cX8_snow 6 = .ok (.invokevirtual 102, 3) := by decide +kernel
theorem dX8_snow_9 : decode cX8_snow 9 = .ok (.iconst (-1), 1) := by decide +kernel
theorem dX8_snow_10 : decode cX8_snow 10 = .ok (.if_icmp .eq 13, 3) := by decide +kernel
theorem dX8_snow_13 : decode cX8_snow 13 = .ok (.iload_n 3, 1) := by decide +kernel
theorem dX8_snow_14 : decode cX8_snow 14 = .ok (.ifCond .lt 9, 3) := by decide +kernel
theorem dX8_snow_17 : decode cX8_snow 17 = .ok (.iload_n 3, 1) := by decide +kernel
theorem dX8_snow_18 : decode cX8_snow 18 = .ok (.bipush 24, 2) := by decide +kernel
theorem dX8_snow_20 : decode cX8_snow 20 = .ok (.if_icmp .le 5, 3) := by decide +kernel
theorem dX8_snow_23 : decode cX8_snow 23 = .ok (.iconst 0, 1) := by decide +kernel
theorem dX8_snow_24 : decode cX8_snow 24 = .ok (.ireturn, 1) := by decide +kernel
theorem dX8_snow_25 : decode cX8_snow 25 = .ok (.aload_n 0, 1) := by decide +kernel
theorem dX8_snow_26 : decode cX8_snow 26 = .ok (.getfield 19, 3) := by decide +kernel
theorem dX8_snow_29 : decode cX8_snow 29 = .ok (.iload_n 1, 1) := by decide +kernel
theorem dX8_snow_30 : decode cX8_snow 30 = .ok (.iload_n 2, 1) := by decide +kernel
theorem dX8_snow_31 : decode cX8_snow 31 = .ok (.iload_n 3, 1) := by decide +kernel
theorem dX8_snow_32 : decode cX8_snow 32 = .ok (.invokevirtual 106, 3) := by decide +kernel
theorem dX8_snow_35 : decode cX8_snow 35 = .ok (.iconst 1, 1) := by decide +kernel
theorem dX8_snow_36 : decode cX8_snow 36 = .ok (.ireturn, 1) := by decide +kernel
set_option maxRecDepth 20000 in
theorem ggX8_fodder_X8_isStation : GoodIn wsX8_fodder wsX8_isStation := lq_goor _ [6] rfl (by decide +kernel)
set_option maxRecDepth 20000 in
theorem gX8_fodder_X8_isStation : GoodIn wsX8_fodder (va_wsS RX8 95 yX8_isStation wsX8_isStation) := goodIn_app (lq_goor _ [3, 4, 5] rfl (by decide +kernel)) ggX8_fodder_X8_isStation
theorem dX8_fodder_0 : decode cX8_fodder 0 = .ok (.iload_n 1, 1) := by decide +kernel
theorem dX8_fodder_1 : decode cX8_fodder 1 = .ok (.invokestatic 95, 3) := by decide +kernel
theorem dX8_fodder_4 : decode cX8_fodder 4 = .ok (.ifCond .eq 28, 3) := by decide +kernel
theorem dX8_fodder_7 : decode cX8_fodder 7 = .ok (.iload_n 2, 1) := by decide +kernel
theorem dX8_fodder_8 : decode cX8_fodder 8 = .ok (.iconst 1, 1) := by decide +kernel
theorem dX8_fodder_9 : decode cX8_fodder 9 = .ok (.if_icmp .lt 23, 3) := by decide +kernel
theorem dX8_fodder_12 : decode cX8_fodder 12 = .ok (.iload_n 2, 1) := by decide +kernel
theorem dX8_fodder_13 : decode cX8_fodder 13 = .ok (.sipush 10000, 3) := by decide +kernel
theorem dX8_fodder_16 : decode cX8_fodder 16 = .ok (.if_icmp .gt 16, 3) := by decide +kernel
theorem dX8_fodder_19 : decode cX8_fodder 19 = .ok (.aload_n 0, 1) := by decide +kernel
theorem dX8_fodder_20 : decode cX8_fodder 20 = .ok (.getfield 30, 3) := by decide +kernel
theorem dX8_fodder_23 : decode cX8_fodder 23 = .ok (.iload_n 1, 1) := by decide +kernel
theorem dX8_fodder_24 : decode cX8_fodder 24 = .ok (.iaload, 1) := by decide +kernel
theorem dX8_fodder_25 : decode cX8_fodder 25 = .ok (.iload_n 2, 1) := by decide +kernel
theorem dX8_fodder_26 : decode cX8_fodder 26 = .ok (.iadd, 1) := by decide +kernel
theorem dX8_fodder_27 : decode cX8_fodder 27 = .ok (.ldc 109, 2) := by decide +kernel
theorem dX8_fodder_29 : decode cX8_fodder 29 = .ok (.if_icmp .le 5, 3) := by decide +kernel
theorem dX8_fodder_32 : decode cX8_fodder 32 = .ok (.iconst (-1), 1) := by decide +kernel
theorem dX8_fodder_33 : decode cX8_fodder 33 = .ok (.ireturn, 1) := by decide +kernel
theorem dX8_fodder_34 : decode cX8_fodder 34 = .ok (.aload_n 0, 1) := by decide +kernel
theorem dX8_fodder_35 : decode cX8_fodder 35 = .ok (.getfield 30, 3) := by decide +kernel
theorem dX8_fodder_38 : decode cX8_fodder 38 = .ok (.iload_n 1, 1) := by decide +kernel
theorem dX8_fodder_39 : decode cX8_fodder 39 = .ok (.dup2, 1) := by decide +kernel
theorem dX8_fodder_40 : decode cX8_fodder 40 = .ok (.iaload, 1) := by decide +kernel
theorem dX8_fodder_41 : decode cX8_fodder 41 = .ok (.iload_n 2, 1) := by decide +kernel
theorem dX8_fodder_42 : decode cX8_fodder 42 = .ok (.iadd, 1) := by decide +kernel
theorem dX8_fodder_43 : decode cX8_fodder 43 = .ok (.iastore, 1) := by decide +kernel
theorem dX8_fodder_44 : decode cX8_fodder 44 = .ok (.aload_n 0, 1) := by decide +kernel
theorem dX8_fodder_45 : decode cX8_fodder 45 = .ok (.getfield 30, 3) := by decide +kernel
theorem dX8_fodder_48 : decode cX8_fodder 48 = .ok (.iload_n 1, 1) := by decide +kernel
theorem dX8_fodder_49 : decode cX8_fodder 49 = .ok (.iaload, 1) := by decide +kernel
theorem dX8_fodder_50 : decode cX8_fodder 50 = .ok (.ireturn, 1) := by decide +kernel
set_option maxRecDepth 20000 in
theorem ggX8_horse_X8_isStation : GoodIn wsX8_horse wsX8_isStation := lq_goor _ [9] rfl (by decide +kernel)
set_option maxRecDepth 20000 in
theorem gX8_horse_X8_isStation : GoodIn wsX8_horse (va_wsS RX8 95 yX8_isStation wsX8_isStation) := goodIn_app (lq_goor _ [6, 7, 8] rfl (by decide +kernel)) ggX8_horse_X8_isStation
set_option maxRecDepth 20000 in
theorem ggX8_horse_X0_init : GoodIn wsX8_horse wsX0_init := goodIn_ca (lq_goor _ [12, 13, 14, 15, 16, 17, 18] rfl (by decide +kernel)) (goodIn_sub (fun _ h => List.mem_cons_of_mem _ (List.mem_append_right _ h)) gw_wsX00)
set_option maxRecDepth 20000 in
theorem gX8_horse_X0_init : GoodIn wsX8_horse (wsX0_init) := ggX8_horse_X0_init
theorem dX8_horse_0 : decode cX8_horse 0 = .ok (.aload_n 0, 1) := by decide +kernel
theorem dX8_horse_1 : decode cX8_horse 1 = .ok (.getfield 110, 3) := by decide +kernel
theorem dX8_horse_4 : decode cX8_horse 4 = .ok (.bipush 60, 2) := by decide +kernel
theorem dX8_horse_6 : decode cX8_horse 6 = .ok (.if_icmp .ge 20, 3) := by decide +kernel
theorem dX8_horse_9 : decode cX8_horse 9 = .ok (.iload_n 1, 1) := by decide +kernel
theorem dX8_horse_10 : decode cX8_horse 10 = .ok (.invokestatic 95, 3) := by decide +kernel
theorem dX8_horse_13 : decode cX8_horse 13 = .ok (.ifCond .eq 13, 3) := by decide +kernel
theorem dX8_horse_16 : decode cX8_horse 16 = .ok (.iload_n 2, 1) := by decide +kernel
theorem dX8_horse_17 : decode cX8_horse 17 = .ok (.ifCond .lt 9, 3) := by decide +kernel
theorem dX8_horse_20 : decode cX8_horse 20 = .ok (.iload_n 2, 1) := by decide +kernel
theorem dX8_horse_21 : decode cX8_horse 21 = .ok (.bipush 100, 2) := by decide +kernel
theorem dX8_horse_23 : decode cX8_horse 23 = .ok (.if_icmp .le 5, 3) := by decide +kernel
theorem dX8_horse_26 : decode cX8_horse 26 = .ok (.iconst (-1), 1) := by decide +kernel
theorem dX8_horse_27 : decode cX8_horse 27 = .ok (.ireturn, 1) := by decide +kernel
theorem dX8_horse_28 : decode cX8_horse 28 = .ok (.aload_n 0, 1) := by decide +kernel
theorem dX8_horse_29 : decode cX8_horse 29 = .ok (.getfield 36, 3) := by decide +kernel
theorem dX8_horse_32 : decode cX8_horse 32 = .ok (.aload_n 0, 1) := by decide +kernel
theorem dX8_horse_33 : decode cX8_horse 33 = .ok (.getfield 110, 3) := by decide +kernel
theorem dX8_horse_36 : decode cX8_horse 36 = .ok (.new 34, 3) := by decide +kernel
theorem dX8_horse_39 : decode cX8_horse 39 = .ok (.dup, 1) := by decide +kernel
theorem dX8_horse_40 : decode cX8_horse 40 = .ok (.aload_n 0, 1) := by decide +kernel
theorem dX8_horse_41 : decode cX8_horse 41 = .ok (.getfield 110, 3) := by decide +kernel
theorem dX8_horse_44 : decode cX8_horse 44 = .ok (.iload_n 1, 1) := by decide +kernel
theorem dX8_horse_45 : decode cX8_horse 45 = .ok (.iload_n 2, 1) := by decide +kernel
theorem dX8_horse_46 : decode cX8_horse 46 = .ok (.invokespecial 113, 3) := by decide +kernel
theorem dX8_horse_49 : decode cX8_horse 49 = .ok (.aastore, 1) := by decide +kernel
theorem dX8_horse_50 : decode cX8_horse 50 = .ok (.aload_n 0, 1) := by decide +kernel
theorem dX8_horse_51 : decode cX8_horse 51 = .ok (.dup, 1) := by decide +kernel
theorem dX8_horse_52 : decode cX8_horse 52 = .ok (.getfield 110, 3) := by decide +kernel
theorem dX8_horse_55 : decode cX8_horse 55 = .ok (.iconst 1, 1) := by decide +kernel
theorem dX8_horse_56 : decode cX8_horse 56 = .ok (.iadd, 1) := by decide +kernel
theorem dX8_horse_57 : decode cX8_horse 57 = .ok (.putfield 110, 3) := by decide +kernel
theorem dX8_horse_60 : decode cX8_horse 60 = .ok (.aload_n 0, 1) := by decide +kernel
theorem dX8_horse_61 : decode cX8_horse 61 = .ok (.getfield 110, 3) := by decide +kernel
theorem dX8_horse_64 : decode cX8_horse 64 = .ok (.iconst 1, 1) := by decide +kernel
theorem dX8_horse_65 : decode cX8_horse 65 = .ok (.isub, 1) := by decide +kernel
theorem dX8_horse_66 : decode cX8_horse 66 = .ok (.ireturn, 1) := by decide +kernel
set_option maxRecDepth 20000 in
theorem ggX8_tablet_X6_init : GoodIn wsX8_tablet wsX6_init := goodIn_ca (lq_goor _ [8, 9, 10, 11, 12, 13, 14, 15, 16, 17, 18] rfl (by decide +kernel)) (goodIn_sub (fun _ h => List.mem_cons_of_mem _ (List.mem_append_right _ h)) gw_wsX60)
set_option maxRecDepth 20000 in
theorem gX8_tablet_X6_init : GoodIn wsX8_tablet (wsX6_init) := ggX8_tablet_X6_init
theorem dX8_tablet_0 : decode cX8_tablet 0 = .ok (.aload_n 0, 1) := by decide +kernel
theorem dX8_tablet_1 : decode cX8_tablet 1 = .ok (.getfield 115, 3) := by decide +kernel
theorem dX8_tablet_4 : decode cX8_tablet 4 = .ok (.bipush 20, 2) := by decide +kernel
theorem dX8_tablet_6 : decode cX8_tablet 6 = .ok (.if_icmp .ge 13, 3) := by decide +kernel
theorem dX8_tablet_9 : decode cX8_tablet 9 = .ok (.iload_n 1, 1) := by decide +kernel
theorem dX8_tablet_10 : decode cX8_tablet 10 = .ok (.iconst 1, 1) := by decide +kernel
theorem dX8_tablet_11 : decode cX8_tablet 11 = .ok (.if_icmp .lt 8, 3) := by decide +kernel
theorem dX8_tablet_14 : decode cX8_tablet 14 = .ok (.iload_n 1, 1) := by decide +kernel
theorem dX8_tablet_15 : decode cX8_tablet 15 = .ok (.iconst 3, 1) := by decide +kernel
theorem dX8_tablet_16 : decode cX8_tablet 16 = .ok (.if_icmp .le 5, 3) := by decide +kernel
theorem dX8_tablet_19 : decode cX8_tablet 19 = .ok (.iconst (-1), 1) := by decide +kernel
theorem dX8_tablet_20 : decode cX8_tablet 20 = .ok (.ireturn, 1) := by decide +kernel
theorem dX8_tablet_21 : decode cX8_tablet 21 = .ok (.aload_n 0, 1) := by decide +kernel
theorem dX8_tablet_22 : decode cX8_tablet 22 = .ok (.getfield 42, 3) := by decide +kernel
theorem dX8_tablet_25 : decode cX8_tablet 25 = .ok (.aload_n 0, 1) := by decide +kernel
theorem dX8_tablet_26 : decode cX8_tablet 26 = .ok (.getfield 115, 3) := by decide +kernel
theorem dX8_tablet_29 : decode cX8_tablet 29 = .ok (.new 40, 3) := by decide +kernel
theorem dX8_tablet_32 : decode cX8_tablet 32 = .ok (.dup, 1) := by decide +kernel
theorem dX8_tablet_33 : decode cX8_tablet 33 = .ok (.iload_n 1, 1) := by decide +kernel
theorem dX8_tablet_34 : decode cX8_tablet 34 = .ok (.invokespecial 118, 3) := by decide +kernel
theorem dX8_tablet_37 : decode cX8_tablet 37 = .ok (.aastore, 1) := by decide +kernel
theorem dX8_tablet_38 : decode cX8_tablet 38 = .ok (.aload_n 0, 1) := by decide +kernel
theorem dX8_tablet_39 : decode cX8_tablet 39 = .ok (.dup, 1) := by decide +kernel
theorem dX8_tablet_40 : decode cX8_tablet 40 = .ok (.getfield 115, 3) := by decide +kernel
theorem dX8_tablet_43 : decode cX8_tablet 43 = .ok (.iconst 1, 1) := by decide +kernel
theorem dX8_tablet_44 : decode cX8_tablet 44 = .ok (.iadd, 1) := by decide +kernel
theorem dX8_tablet_45 : decode cX8_tablet 45 = .ok (.putfield 115, 3) := by decide +kernel
theorem dX8_tablet_48 : decode cX8_tablet 48 = .ok (.aload_n 0, 1) := by decide +kernel
theorem dX8_tablet_49 : decode cX8_tablet 49 = .ok (.getfield 115, 3) := by decide +kernel
theorem dX8_tablet_52 : decode cX8_tablet 52 = .ok (.iconst 1, 1) := by decide +kernel
theorem dX8_tablet_53 : decode cX8_tablet 53 = .ok (.isub, 1) := by decide +kernel
theorem dX8_tablet_54 : decode cX8_tablet 54 = .ok (.ireturn, 1) := by decide +kernel
set_option maxRecDepth 20000 in
theorem ggX8_ride_X8_tabletOf : GoodIn wsX8_ride wsX8_tabletOf := goodIn_ca (lq_goor _ [12, 13] rfl (by decide +kernel)) (goodIn_sub (fun _ h => List.mem_cons_of_mem _ (List.mem_append_left _ (List.mem_append_left _ (List.mem_append_left _ (List.mem_append_right _ h))))) gw_wsX80)
set_option maxRecDepth 20000 in
theorem gX8_ride_X8_tabletOf : GoodIn wsX8_ride (wsV RX8 120 RX8 yX8_tabletOf wsX8_tabletOf) := goodIn_app (lq_goor _ [8, 9, 10, 11] rfl (by decide +kernel)) ggX8_ride_X8_tabletOf
set_option maxRecDepth 20000 in
theorem ggX8_ride_X8_isHad : GoodIn wsX8_ride wsX8_isHad := goodIn_ca (goodIn_ca (lq_goor _ [17, 7, 18, 19, 20, 5, 21, 22] rfl (by decide +kernel)) (goodIn_sub (fun _ h => List.mem_cons_of_mem _ (List.mem_append_left _ (List.mem_append_left _ (List.mem_append_left _ (List.mem_append_right _ h))))) gw_wsX80)) (goodIn_sub (fun _ h => List.mem_cons_of_mem _ (List.mem_append_left _ (List.mem_append_left _ (List.mem_append_right _ h)))) gw_wsX20)
set_option maxRecDepth 20000 in
theorem gX8_ride_X8_isHad : GoodIn wsX8_ride (wsV RX8 127 RX8 yX8_isHad wsX8_isHad) := goodIn_app (lq_goor _ [14, 15, 16, 11] rfl (by decide +kernel)) ggX8_ride_X8_isHad
set_option maxRecDepth 20000 in
theorem ggX8_ride_X3_findWay : GoodIn wsX8_ride wsX3_findWay := goodIn_ca (lq_goor _ [27, 28, 29, 30, 31, 26, 32, 33, 34, 35, 11, 36, 37, 38, 39, 40, 41, 42, 43, 44, 45, 46, 47, 48, 49, 50, 51, 52, 53, 54, 55, 56, 57, 58, 59, 60, 61, 62, 63, 64, 65, 66, 67, 68, 69, 70, 71, 72, 73, 74, 75, 76, 77, 78] rfl (by decide +kernel)) (goodIn_sub (fun _ h => List.mem_cons_of_mem _ (List.mem_append_right _ h)) gw_wsX30)
set_option maxRecDepth 20000 in
theorem gX8_ride_X3_findWay : GoodIn wsX8_ride (wsV RX8 130 RX3 yX3_findWay wsX3_findWay) := goodIn_app (lq_goor _ [23, 24, 25, 26] rfl (by decide +kernel)) ggX8_ride_X3_findWay
set_option maxRecDepth 20000 in
theorem ggX8_ride_X2_init : GoodIn wsX8_ride wsX2_init := goodIn_ca (lq_goor _ [81, 82, 83, 84, 70, 85, 22, 86, 87, 88, 89, 90, 62, 91] rfl (by decide +kernel)) (goodIn_sub (fun _ h => List.mem_cons_of_mem _ (List.mem_append_left _ (List.mem_append_left _ (List.mem_append_right _ h)))) gw_wsX20)
set_option maxRecDepth 20000 in
theorem gX8_ride_X2_init : GoodIn wsX8_ride (wsX2_init) := ggX8_ride_X2_init
set_option maxRecDepth 20000 in
theorem ggX8_ride_X2_comeToNextStation : GoodIn wsX8_ride wsX2_comeToNextStation := goodIn_ca (lq_goor _ [95, 85, 96, 97, 88, 22, 98, 99, 100, 5, 101, 102, 103, 104, 105, 35, 11, 36] rfl (by decide +kernel)) (goodIn_sub (fun _ h => List.mem_cons_of_mem _ (List.mem_append_left _ (List.mem_append_left _ (List.mem_append_right _ h)))) gw_wsX20)
set_option maxRecDepth 20000 in
theorem gX8_ride_X2_comeToNextStation : GoodIn wsX8_ride (wsV RX8 143 RX2 yX2_comeToNextStation wsX2_comeToNextStation) := goodIn_app (lq_goor _ [92, 93, 94, 5] rfl (by decide +kernel)) ggX8_ride_X2_comeToNextStation
theorem dX8_ride_0 : decode cX8_ride 0 = .ok (.aload_n 0, 1) := by decide +kernel
theorem dX8_ride_1 : decode cX8_ride 1 = .ok (.iload_n 1, 1) := by decide +kernel
theorem dX8_ride_2 : decode cX8_ride 2 = .ok (.invokevirtual 120, 3) := by decide +kernel
theorem dX8_ride_5 : decode cX8_ride 5 = .ok (.astore 4, 2) := by decide +kernel
theorem dX8_ride_7 : decode cX8_ride 7 = .ok (.aload_n 0, 1) := by decide +kernel
theorem dX8_ride_8 : decode cX8_ride 8 = .ok (.getfield 124, 3) := by decide +kernel
theorem dX8_ride_11 : decode cX8_ride 11 = .ok (.bipush 60, 2) := by decide +kernel
theorem dX8_ride_13 : decode cX8_ride 13 = .ok (.if_icmp .ge 16, 3) := by decide +kernel
theorem dX8_ride_16 : decode cX8_ride 16 = .ok (.aload 4, 2) := by decide +kernel
theorem dX8_ride_18 : decode cX8_ride 18 = .ok (.ifnull 11, 3) := by decide +kernel
theorem dX8_ride_21 : decode cX8_ride 21 = .ok (.aload_n 0, 1) := by decide +kernel
theorem dX8_ride_22 : decode cX8_ride 22 = .ok (.iload_n 1, 1) := by decide +kernel
theorem dX8_ride_23 : decode cX8_ride 23 = .ok (.invokevirtual 127, 3) := by decide +kernel
theorem dX8_ride_26 : decode cX8_ride 26 = .ok (.ifCond .eq 5, 3) := by decide +kernel
theorem dX8_ride_29 : decode cX8_ride 29 = .ok (.iconst (-1), 1) := by decide +kernel
theorem dX8_ride_30 : decode cX8_ride 30 = .ok (.ireturn, 1) := by decide +kernel
theorem dX8_ride_31 : decode cX8_ride 31 = .ok (.aload_n 0, 1) := by decide +kernel
theorem dX8_ride_32 : decode cX8_ride 32 = .ok (.getfield 19, 3) := by decide +kernel
theorem dX8_ride_35 : decode cX8_ride 35 = .ok (.iload_n 2, 1) := by decide +kernel
theorem dX8_ride_36 : decode cX8_ride 36 = .ok (.iload_n 3, 1) := by decide +kernel
theorem dX8_ride_37 : decode cX8_ride 37 = .ok (.invokevirtual 130, 3) := by decide +kernel
theorem dX8_ride_40 : decode cX8_ride 40 = .ok (.astore 5, 2) := by decide +kernel
theorem dX8_ride_42 : decode cX8_ride 42 = .ok (.aload 5, 2) := by decide +kernel
theorem dX8_ride_44 : decode cX8_ride 44 = .ok (.ifnonnull 5, 3) := by decide +kernel
theorem dX8_ride_47 : decode cX8_ride 47 = .ok (.iconst (-1), 1) := by decide +kernel
theorem dX8_ride_48 : decode cX8_ride 48 = .ok (.ireturn, 1) := by decide +kernel
theorem dX8_ride_49 : decode cX8_ride 49 = .ok (.new 46, 3) := by decide +kernel
theorem dX8_ride_52 : decode cX8_ride 52 = .ok (.dup, 1) := by decide +kernel
theorem dX8_ride_53 : decode cX8_ride 53 = .ok (.iload_n 1, 1) := by decide +kernel
theorem dX8_ride_54 : decode cX8_ride 54 = .ok (.aload 4, 2) := by decide +kernel
theorem dX8_ride_56 : decode cX8_ride 56 = .ok (.getfield 134, 3) := by decide +kernel
theorem dX8_ride_59 : decode cX8_ride 59 = .ok (.aload 5, 2) := by decide +kernel
theorem dX8_ride_61 : decode cX8_ride 61 = .ok (.invokespecial 137, 3) := by decide +kernel
theorem dX8_ride_64 : decode cX8_ride 64 = .ok (.astore 6, 2) := by decide +kernel
theorem dX8_ride_66 : decode cX8_ride 66 = .ok (.aload 6, 2) := by decide +kernel
theorem dX8_ride_68 : decode cX8_ride 68 = .ok (.aload_n 0, 1) := by decide +kernel
theorem dX8_ride_69 : decode cX8_ride 69 = .ok (.getfield 140, 3) := by decide +kernel
theorem dX8_ride_72 : decode cX8_ride 72 = .ok (.invokevirtual 143, 3) := by decide +kernel
theorem dX8_ride_75 : decode cX8_ride 75 = .ok (.aload_n 0, 1) := by decide +kernel
theorem dX8_ride_76 : decode cX8_ride 76 = .ok (.getfield 48, 3) := by decide +kernel
theorem dX8_ride_79 : decode cX8_ride 79 = .ok (.aload_n 0, 1) := by decide +kernel
theorem dX8_ride_80 : decode cX8_ride 80 = .ok (.getfield 124, 3) := by decide +kernel
theorem dX8_ride_83 : decode cX8_ride 83 = .ok (.aload 6, 2) := by decide +kernel
theorem dX8_ride_85 : decode cX8_ride 85 = .ok (.aastore, 1) := by decide +kernel
theorem dX8_ride_86 : decode cX8_ride 86 = .ok (.aload_n 0, 1) := by decide +kernel
theorem dX8_ride_87 : decode cX8_ride 87 = .ok (.dup, 1) := by decide +kernel
theorem dX8_ride_88 : decode cX8_ride 88 = .ok (.getfield 124, 3) := by decide +kernel
theorem dX8_ride_91 : decode cX8_ride 91 = .ok (.iconst 1, 1) := by decide +kernel
theorem dX8_ride_92 : decode cX8_ride 92 = .ok (.iadd, 1) := by decide +kernel
theorem dX8_ride_93 : decode cX8_ride 93 = .ok (.putfield 124, 3) := by decide +kernel
theorem dX8_ride_96 : decode cX8_ride 96 = .ok (.aload_n 0, 1) := by decide +kernel
theorem dX8_ride_97 : decode cX8_ride 97 = .ok (.getfield 124, 3) := by decide +kernel
theorem dX8_ride_100 : decode cX8_ride 100 = .ok (.iconst 1, 1) := by decide +kernel
theorem dX8_ride_101 : decode cX8_ride 101 = .ok (.isub, 1) := by decide +kernel
theorem dX8_ride_102 : decode cX8_ride 102 = .ok (.ireturn, 1) := by decide +kernel
set_option maxRecDepth 20000 in
theorem ggX8_cancel_X8_tabletOf : GoodIn wsX8_cancel wsX8_tabletOf := goodIn_ca (lq_goor _ [6, 7] rfl (by decide +kernel)) (goodIn_sub (fun _ h => List.mem_cons_of_mem _ (List.mem_append_left _ (List.mem_append_right _ h))) gw_wsX80)
set_option maxRecDepth 20000 in
theorem gX8_cancel_X8_tabletOf : GoodIn wsX8_cancel (wsV RX8 120 RX8 yX8_tabletOf wsX8_tabletOf) := goodIn_app (lq_goor _ [2, 3, 4, 5] rfl (by decide +kernel)) ggX8_cancel_X8_tabletOf
set_option maxRecDepth 20000 in
theorem ggX8_cancel_X6_tellVoid : GoodIn wsX8_cancel wsX6_tellVoid := goodIn_ca (lq_goor _ [12, 13, 14, 5, 15] rfl (by decide +kernel)) (goodIn_sub (fun _ h => List.mem_cons_of_mem _ (List.mem_append_right _ h)) gw_wsX60)
set_option maxRecDepth 20000 in
theorem gX8_cancel_X6_tellVoid : GoodIn wsX8_cancel (wsV RX8 146 RX6 yX6_tellVoid wsX6_tellVoid) := goodIn_app (lq_goor _ [8, 9, 10, 11] rfl (by decide +kernel)) ggX8_cancel_X6_tellVoid
theorem dX8_cancel_0 : decode cX8_cancel 0 = .ok (.aload_n 0, 1) := by decide +kernel
theorem dX8_cancel_1 : decode cX8_cancel 1 = .ok (.iload_n 1, 1) := by decide +kernel
theorem dX8_cancel_2 : decode cX8_cancel 2 = .ok (.invokevirtual 120, 3) := by decide +kernel
theorem dX8_cancel_5 : decode cX8_cancel 5 = .ok (.astore_n 3, 1) := by decide +kernel
theorem dX8_cancel_6 : decode cX8_cancel 6 = .ok (.aload_n 3, 1) := by decide +kernel
theorem dX8_cancel_7 : decode cX8_cancel 7 = .ok (.ifnull 19, 3) := by decide +kernel
theorem dX8_cancel_10 : decode cX8_cancel 10 = .ok (.aload_n 3, 1) := by decide +kernel
theorem dX8_cancel_11 : decode cX8_cancel 11 = .ok (.iload_n 2, 1) := by decide +kernel
theorem dX8_cancel_12 : decode cX8_cancel 12 = .ok (.aload_n 0, 1) := by decide +kernel
theorem dX8_cancel_13 : decode cX8_cancel 13 = .ok (.getfield 140, 3) := by decide +kernel
theorem dX8_cancel_16 : decode cX8_cancel 16 = .ok (.invokevirtual 146, 3) := by decide +kernel
theorem dX8_cancel_19 : decode cX8_cancel 19 = .ok (.ifCond .eq 7, 3) := by decide +kernel
theorem dX8_cancel_22 : decode cX8_cancel 22 = .ok (.iconst 1, 1) := by decide +kernel
theorem dX8_cancel_23 : decode cX8_cancel 23 = .ok (.goto 4, 3) := by decide +kernel
theorem dX8_cancel_26 : decode cX8_cancel 26 = .ok (.iconst 0, 1) := by decide +kernel
theorem dX8_cancel_27 : decode cX8_cancel 27 = .ok (.ireturn, 1) := by decide +kernel
set_option maxRecDepth 20000 in
theorem ggX8_kill_X8_riderOf : GoodIn wsX8_kill wsX8_riderOf := goodIn_ca (lq_goor _ [5, 6] rfl (by decide +kernel)) (goodIn_sub (fun _ h => List.mem_cons_of_mem _ (List.mem_append_right _ h)) gw_wsX80)
set_option maxRecDepth 20000 in
theorem gX8_kill_X8_riderOf : GoodIn wsX8_kill (wsV RX8 150 RX8 yX8_riderOf wsX8_riderOf) := goodIn_app (lq_goor _ [1, 2, 3, 4] rfl (by decide +kernel)) ggX8_kill_X8_riderOf
set_option maxRecDepth 20000 in
theorem ggX8_kill_X2_isUnderWay : GoodIn wsX8_kill wsX2_isUnderWay := goodIn_ca (lq_goor _ [11, 12] rfl (by decide +kernel)) (goodIn_sub (fun _ h => List.mem_cons_of_mem _ (List.mem_append_left _ (List.mem_append_right _ h))) gw_wsX20)
set_option maxRecDepth 20000 in
theorem gX8_kill_X2_isUnderWay : GoodIn wsX8_kill (wsV RX8 154 RX2 yX2_isUnderWay wsX2_isUnderWay) := goodIn_app (lq_goor _ [7, 8, 9, 10] rfl (by decide +kernel)) ggX8_kill_X2_isUnderWay
theorem dX8_kill_0 : decode cX8_kill 0 = .ok (.aload_n 0, 1) := by decide +kernel
theorem dX8_kill_1 : decode cX8_kill 1 = .ok (.iload_n 1, 1) := by decide +kernel
theorem dX8_kill_2 : decode cX8_kill 2 = .ok (.invokevirtual 150, 3) := by decide +kernel
theorem dX8_kill_5 : decode cX8_kill 5 = .ok (.astore_n 2, 1) := by decide +kernel
theorem dX8_kill_6 : decode cX8_kill 6 = .ok (.aload_n 2, 1) := by decide +kernel
theorem dX8_kill_7 : decode cX8_kill 7 = .ok (.ifnull 10, 3) := by decide +kernel
theorem dX8_kill_10 : decode cX8_kill 10 = .ok (.aload_n 2, 1) := by decide +kernel
theorem dX8_kill_11 : decode cX8_kill 11 = .ok (.invokevirtual 154, 3) := by decide +kernel
theorem dX8_kill_14 : decode cX8_kill 14 = .ok (.ifCond .ne 5, 3) := by decide +kernel
theorem dX8_kill_17 : decode cX8_kill 17 = .ok (.iconst 0, 1) := by decide +kernel
theorem dX8_kill_18 : decode cX8_kill 18 = .ok (.ireturn, 1) := by decide +kernel
theorem dX8_kill_19 : decode cX8_kill 19 = .ok (.aload_n 2, 1) := by decide +kernel
theorem dX8_kill_20 : decode cX8_kill 20 = .ok (.iconst 4, 1) := by decide +kernel
theorem dX8_kill_21 : decode cX8_kill 21 = .ok (.putfield 158, 3) := by decide +kernel
theorem dX8_kill_24 : decode cX8_kill 24 = .ok (.iconst 1, 1) := by decide +kernel
theorem dX8_kill_25 : decode cX8_kill 25 = .ok (.ireturn, 1) := by decide +kernel
set_option maxRecDepth 20000 in
theorem ggX8_next_X8_careForHorses : GoodIn wsX8_next wsX8_careForHorses := goodIn_ca (goodIn_ca (goodIn_ca (lq_goor _ [6, 7, 8, 9, 5, 10, 11, 12, 13, 14, 15, 16, 17, 18, 19, 20, 21, 22, 23, 24, 25, 26, 27, 28, 29, 30, 31, 32, 33, 34, 35, 36, 37, 38, 39] rfl (by decide +kernel)) (goodIn_sub (fun _ h => List.mem_cons_of_mem _ (List.mem_append_left _ (List.mem_append_left _ (List.mem_append_left _ (List.mem_append_left _ (List.mem_append_left _ (List.mem_append_right _ h))))))) gw_wsX80)) (goodIn_sub (fun _ h => List.mem_cons_of_mem _ (List.mem_append_left _ (List.mem_append_left _ (List.mem_append_left _ (List.mem_append_left _ (List.mem_append_right _ h)))))) gw_wsX00)) (goodIn_sub (fun _ h => List.mem_cons_of_mem _ (List.mem_append_left _ (List.mem_append_left _ (List.mem_append_left _ (List.mem_append_right _ h))))) gw_wsX50)
set_option maxRecDepth 20000 in
theorem gX8_next_X8_careForHorses : GoodIn wsX8_next (wsV RX8 161 RX8 yX8_careForHorses wsX8_careForHorses) := goodIn_app (lq_goor _ [2, 3, 4, 5] rfl (by decide +kernel)) ggX8_next_X8_careForHorses
set_option maxRecDepth 20000 in
theorem ggX8_next_X8_lineUpWaiting : GoodIn wsX8_next wsX8_lineUpWaiting := goodIn_ca (goodIn_ca (lq_goor _ [43, 44, 45, 46, 47, 48, 5, 49, 50, 51, 52, 53, 54, 55, 56, 57, 58, 59, 60, 61, 62, 63, 64] rfl (by decide +kernel)) (goodIn_sub (fun _ h => List.mem_cons_of_mem _ (List.mem_append_left _ (List.mem_append_left _ (List.mem_append_left _ (List.mem_append_left _ (List.mem_append_left _ (List.mem_append_right _ h))))))) gw_wsX80)) (goodIn_sub (fun _ h => List.mem_cons_of_mem _ (List.mem_append_left _ (List.mem_append_left _ (List.mem_append_right _ h)))) gw_wsX20)
set_option maxRecDepth 20000 in
theorem gX8_next_X8_lineUpWaiting : GoodIn wsX8_next (wsV RX8 164 RX8 yX8_lineUpWaiting wsX8_lineUpWaiting) := goodIn_app (lq_goor _ [40, 41, 42, 5] rfl (by decide +kernel)) ggX8_next_X8_lineUpWaiting
set_option maxRecDepth 20000 in
theorem ggX8_next_X8_sendLine : GoodIn wsX8_next wsX8_sendLine := goodIn_ca (goodIn_ca (goodIn_ca (goodIn_ca (goodIn_ca (goodIn_ca (lq_goor _ [68, 44, 50, 69, 70, 71, 5, 72, 73, 16, 1, 54, 55, 56, 57, 58, 59, 60, 61, 62, 63, 64, 74, 75, 76, 77, 78, 79, 80, 81, 82, 83, 84, 85, 86, 87, 88, 9, 10, 89, 90, 91, 92, 93, 94, 95, 96, 97, 98, 99, 100, 101, 102, 103, 7, 104, 105, 106, 107, 108, 109, 110, 24, 111, 26, 112, 113, 114, 115, 116, 117, 118, 119, 120, 121, 122, 123] rfl (by decide +kernel)) (goodIn_sub (fun _ h => List.mem_cons_of_mem _ (List.mem_append_left _ (List.mem_append_left _ (List.mem_append_left _ (List.mem_append_left _ (List.mem_append_left _ (List.mem_append_right _ h))))))) gw_wsX80)) (goodIn_sub (fun _ h => List.mem_cons_of_mem _ (List.mem_append_left _ (List.mem_append_left _ (List.mem_append_right _ h)))) gw_wsX20)) (goodIn_sub (fun _ h => List.mem_cons_of_mem _ (List.mem_append_left _ (List.mem_append_left _ (List.mem_append_left _ (List.mem_append_left _ (List.mem_append_right _ h)))))) gw_wsX00)) (goodIn_sub (fun _ h => List.mem_cons_of_mem _ (List.mem_append_left _ (List.mem_append_right _ h))) gw_wsX60)) (goodIn_sub (fun _ h => List.mem_cons_of_mem _ (List.mem_append_right _ h)) gw_wsX30)) (goodIn_sub (fun _ h => List.mem_cons_of_mem _ (List.mem_append_left _ (List.mem_append_left _ (List.mem_append_left _ (List.mem_append_right _ h))))) gw_wsX50)
set_option maxRecDepth 20000 in
theorem gX8_next_X8_sendLine : GoodIn wsX8_next (wsV RX8 167 RX8 yX8_sendLine wsX8_sendLine) := goodIn_app (lq_goor _ [65, 66, 67, 5] rfl (by decide +kernel)) ggX8_next_X8_sendLine
set_option maxRecDepth 20000 in
theorem ggX8_next_X8_bringComers : GoodIn wsX8_next wsX8_bringComers := goodIn_ca (goodIn_ca (goodIn_ca (goodIn_ca (goodIn_ca (lq_goor _ [127, 45, 1, 128, 129, 130, 5, 131, 16, 89, 90, 91, 57, 92, 59, 60, 61, 62, 63, 64, 112, 113, 114, 24, 115, 26, 31, 32, 33, 34, 35, 36, 37, 38, 19, 39, 54, 55, 56, 58, 132, 133, 134, 135, 82, 136, 137, 138, 86, 139, 140, 84, 85, 87, 88, 9, 10, 141, 142, 143, 144, 145, 146, 147, 148, 149, 150, 123, 151] rfl (by decide +kernel)) (goodIn_sub (fun _ h => List.mem_cons_of_mem _ (List.mem_append_left _ (List.mem_append_left _ (List.mem_append_left _ (List.mem_append_left _ (List.mem_append_left _ (List.mem_append_right _ h))))))) gw_wsX80)) (goodIn_sub (fun _ h => List.mem_cons_of_mem _ (List.mem_append_left _ (List.mem_append_left _ (List.mem_append_right _ h)))) gw_wsX20)) (goodIn_sub (fun _ h => List.mem_cons_of_mem _ (List.mem_append_left _ (List.mem_append_left _ (List.mem_append_left _ (List.mem_append_left _ (List.mem_append_right _ h)))))) gw_wsX00)) (goodIn_sub (fun _ h => List.mem_cons_of_mem _ (List.mem_append_left _ (List.mem_append_left _ (List.mem_append_left _ (List.mem_append_right _ h))))) gw_wsX50)) (goodIn_sub (fun _ h => List.mem_cons_of_mem _ (List.mem_append_left _ (List.mem_append_right _ h))) gw_wsX60)
set_option maxRecDepth 20000 in
theorem gX8_next_X8_bringComers : GoodIn wsX8_next (wsV RX8 170 RX8 yX8_bringComers wsX8_bringComers) := goodIn_app (lq_goor _ [124, 125, 126, 5] rfl (by decide +kernel)) ggX8_next_X8_bringComers
theorem dX8_next_0 : decode cX8_next 0 = .ok (.aload_n 0, 1) := by decide +kernel
theorem dX8_next_1 : decode cX8_next 1 = .ok (.getfield 140, 3) := by decide +kernel
theorem dX8_next_4 : decode cX8_next 4 = .ok (.sipush 9999, 3) := by decide +kernel
theorem dX8_next_7 : decode cX8_next 7 = .ok (.if_icmp .lt 5, 3) := by decide +kernel
theorem dX8_next_10 : decode cX8_next 10 = .ok (.iconst (-1), 1) := by decide +kernel
theorem dX8_next_11 : decode cX8_next 11 = .ok (.ireturn, 1) := by decide +kernel
theorem dX8_next_12 : decode cX8_next 12 = .ok (.aload_n 0, 1) := by decide +kernel
theorem dX8_next_13 : decode cX8_next 13 = .ok (.invokevirtual 161, 3) := by decide +kernel
theorem dX8_next_16 : decode cX8_next 16 = .ok (.aload_n 0, 1) := by decide +kernel
theorem dX8_next_17 : decode cX8_next 17 = .ok (.invokevirtual 164, 3) := by decide +kernel
theorem dX8_next_20 : decode cX8_next 20 = .ok (.aload_n 0, 1) := by decide +kernel
theorem dX8_next_21 : decode cX8_next 21 = .ok (.invokevirtual 167, 3) := by decide +kernel
theorem dX8_next_24 : decode cX8_next 24 = .ok (.aload_n 0, 1) := by decide +kernel
theorem dX8_next_25 : decode cX8_next 25 = .ok (.dup, 1) := by decide +kernel
theorem dX8_next_26 : decode cX8_next 26 = .ok (.getfield 140, 3) := by decide +kernel
theorem dX8_next_29 : decode cX8_next 29 = .ok (.iconst 1, 1) := by decide +kernel
theorem dX8_next_30 : decode cX8_next 30 = .ok (.iadd, 1) := by decide +kernel
theorem dX8_next_31 : decode cX8_next 31 = .ok (.putfield 140, 3) := by decide +kernel
theorem dX8_next_34 : decode cX8_next 34 = .ok (.aload_n 0, 1) := by decide +kernel
theorem dX8_next_35 : decode cX8_next 35 = .ok (.invokevirtual 170, 3) := by decide +kernel
theorem dX8_next_38 : decode cX8_next 38 = .ok (.aload_n 0, 1) := by decide +kernel
theorem dX8_next_39 : decode cX8_next 39 = .ok (.getfield 140, 3) := by decide +kernel
theorem dX8_next_42 : decode cX8_next 42 = .ok (.ireturn, 1) := by decide +kernel
set_option maxRecDepth 20000 in
theorem ggX8_rider_X8_riderOf : GoodIn wsX8_rider wsX8_riderOf := goodIn_ca (lq_goor _ [7, 8] rfl (by decide +kernel)) (goodIn_sub (fun _ h => List.mem_cons_of_mem _ (List.mem_append_left _ (List.mem_append_left _ (List.mem_append_right _ h)))) gw_wsX80)
set_option maxRecDepth 20000 in
theorem gX8_rider_X8_riderOf : GoodIn wsX8_rider (wsV RX8 150 RX8 yX8_riderOf wsX8_riderOf) := goodIn_app (lq_goor _ [3, 4, 5, 6] rfl (by decide +kernel)) ggX8_rider_X8_riderOf
set_option maxRecDepth 20000 in
theorem ggX8_rider_X2_lastStation : GoodIn wsX8_rider wsX2_lastStation := goodIn_ca (lq_goor _ [13, 14, 15, 16, 17, 12, 18, 19] rfl (by decide +kernel)) (goodIn_sub (fun _ h => List.mem_cons_of_mem _ (List.mem_append_left _ (List.mem_append_left _ (List.mem_append_left _ (List.mem_append_right _ h))))) gw_wsX20)
set_option maxRecDepth 20000 in
theorem gX8_rider_X2_lastStation : GoodIn wsX8_rider (wsV RX8 180 RX2 yX2_lastStation wsX2_lastStation) := goodIn_app (lq_goor _ [9, 10, 11, 12] rfl (by decide +kernel)) ggX8_rider_X2_lastStation
set_option maxRecDepth 20000 in
theorem ggX8_rider_X2_horseRidden : GoodIn wsX8_rider wsX2_horseRidden := goodIn_ca (goodIn_ca (lq_goor _ [23, 24, 25] rfl (by decide +kernel)) (goodIn_sub (fun _ h => List.mem_cons_of_mem _ (List.mem_append_left _ (List.mem_append_left _ (List.mem_append_left _ (List.mem_append_right _ h))))) gw_wsX20)) (goodIn_sub (fun _ h => List.mem_cons_of_mem _ (List.mem_append_left _ (List.mem_append_right _ h))) gw_wsX00)
set_option maxRecDepth 20000 in
theorem gX8_rider_X2_horseRidden : GoodIn wsX8_rider (wsV RX8 187 RX2 yX2_horseRidden wsX2_horseRidden) := goodIn_app (lq_goor _ [20, 21, 22, 12] rfl (by decide +kernel)) ggX8_rider_X2_horseRidden
theorem dX8_rider_0 : decode cX8_rider 0 = .ok (.aload_n 0, 1) := by decide +kernel
theorem dX8_rider_1 : decode cX8_rider 1 = .ok (.iload_n 1, 1) := by decide +kernel
theorem dX8_rider_2 : decode cX8_rider 2 = .ok (.invokevirtual 150, 3) := by decide +kernel
theorem dX8_rider_5 : decode cX8_rider 5 = .ok (.astore_n 3, 1) := by decide +kernel
theorem dX8_rider_6 : decode cX8_rider 6 = .ok (.aload_n 3, 1) := by decide +kernel
theorem dX8_rider_7 : decode cX8_rider 7 = .ok (.ifnull 12, 3) := by decide +kernel
theorem dX8_rider_10 : decode cX8_rider 10 = .ok (.iload_n 2, 1) := by decide +kernel
theorem dX8_rider_11 : decode cX8_rider 11 = .ok (.ifCond .lt 8, 3) := by decide +kernel
theorem dX8_rider_14 : decode cX8_rider 14 = .ok (.iload_n 2, 1) := by decide +kernel
theorem dX8_rider_15 : decode cX8_rider 15 = .ok (.iconst 5, 1) := by decide +kernel
theorem dX8_rider_16 : decode cX8_rider 16 = .ok (.if_icmp .le 13, 3) := by decide +kernel
theorem dX8_rider_19 : decode cX8_rider 19 = .ok (.new 173, 3) := by decide +kernel
theorem dX8_rider_22 : decode cX8_rider 22 = .ok (.dup, 1) := by decide +kernel
theorem dX8_rider_23 : decode cX8_rider 23 = .ok (.ldc 175, 2) := by decide +kernel
theorem dX8_rider_25 : decode cX8_rider 25 = .ok (.invokespecial 177, 3) := by decide +kernel
theorem dX8_rider_28 : decode cX8_rider 28 = .ok (.athrow, 1) := by decide +kernel
theorem dX8_rider_29 : decode cX8_rider 29 = .ok (.iload_n 2, 1) := by decide +kernel
theorem dX8_rider_30 : decode cX8_rider 30 = .ok (.tableswitch 59 0 4 #[34, 39, 44, 49, 54], 34) := by decide +kernel
theorem dX8_rider_64 : decode cX8_rider 64 = .ok (.aload_n 3, 1) := by decide +kernel
theorem dX8_rider_65 : decode cX8_rider 65 = .ok (.getfield 158, 3) := by decide +kernel
theorem dX8_rider_68 : decode cX8_rider 68 = .ok (.ireturn, 1) := by decide +kernel
theorem dX8_rider_69 : decode cX8_rider 69 = .ok (.aload_n 3, 1) := by decide +kernel
theorem dX8_rider_70 : decode cX8_rider 70 = .ok (.invokevirtual 180, 3) := by decide +kernel
theorem dX8_rider_73 : decode cX8_rider 73 = .ok (.ireturn, 1) := by decide +kernel
theorem dX8_rider_74 : decode cX8_rider 74 = .ok (.aload_n 3, 1) := by decide +kernel
theorem dX8_rider_75 : decode cX8_rider 75 = .ok (.getfield 184, 3) := by decide +kernel
theorem dX8_rider_78 : decode cX8_rider 78 = .ok (.ireturn, 1) := by decide +kernel
theorem dX8_rider_79 : decode cX8_rider 79 = .ok (.aload_n 3, 1) := by decide +kernel
theorem dX8_rider_80 : decode cX8_rider 80 = .ok (.invokevirtual 187, 3) := by decide +kernel
theorem dX8_rider_83 : decode cX8_rider 83 = .ok (.ireturn, 1) := by decide +kernel
theorem dX8_rider_84 : decode cX8_rider 84 = .ok (.aload_n 3, 1) := by decide +kernel
theorem dX8_rider_85 : decode cX8_rider 85 = .ok (.getfield 190, 3) := by decide +kernel
theorem dX8_rider_88 : decode cX8_rider 88 = .ok (.ireturn, 1) := by decide +kernel
theorem dX8_rider_89 : decode cX8_rider 89 = .ok (.aload_n 3, 1) := by decide +kernel
theorem dX8_rider_90 : decode cX8_rider 90 = .ok (.getfield 193, 3) := by decide +kernel
theorem dX8_rider_93 : decode cX8_rider 93 = .ok (.ireturn, 1) := by decide +kernel
set_option maxRecDepth 20000 in
theorem ggX8_way_X8_riderOf : GoodIn wsX8_way wsX8_riderOf := goodIn_ca (lq_goor _ [5, 6] rfl (by decide +kernel)) (goodIn_sub (fun _ h => List.mem_cons_of_mem _ (List.mem_append_left _ (List.mem_append_right _ h))) gw_wsX80)
set_option maxRecDepth 20000 in
theorem gX8_way_X8_riderOf : GoodIn wsX8_way (wsV RX8 150 RX8 yX8_riderOf wsX8_riderOf) := goodIn_app (lq_goor _ [1, 2, 3, 4] rfl (by decide +kernel)) ggX8_way_X8_riderOf
set_option maxRecDepth 20000 in
theorem ggX8_way_X2_stationOfWay : GoodIn wsX8_way wsX2_stationOfWay := goodIn_ca (lq_goor _ [11, 12] rfl (by decide +kernel)) (goodIn_sub (fun _ h => List.mem_cons_of_mem _ (List.mem_append_right _ h)) gw_wsX20)
set_option maxRecDepth 20000 in
theorem gX8_way_X2_stationOfWay : GoodIn wsX8_way (wsV RX8 196 RX2 yX2_stationOfWay wsX2_stationOfWay) := goodIn_app (lq_goor _ [7, 8, 9, 10] rfl (by decide +kernel)) ggX8_way_X2_stationOfWay
theorem dX8_way_0 : decode cX8_way 0 = .ok (.aload_n 0, 1) := by decide +kernel
theorem dX8_way_1 : decode cX8_way 1 = .ok (.iload_n 1, 1) := by decide +kernel
theorem dX8_way_2 : decode cX8_way 2 = .ok (.invokevirtual 150, 3) := by decide +kernel
theorem dX8_way_5 : decode cX8_way 5 = .ok (.astore_n 3, 1) := by decide +kernel
theorem dX8_way_6 : decode cX8_way 6 = .ok (.aload_n 3, 1) := by decide +kernel
theorem dX8_way_7 : decode cX8_way 7 = .ok (.ifnonnull 7, 3) := by decide +kernel
theorem dX8_way_10 : decode cX8_way 10 = .ok (.iconst (-1), 1) := by decide +kernel
theorem dX8_way_11 : decode cX8_way 11 = .ok (.goto 8, 3) := by decide +kernel
theorem dX8_way_14 : decode cX8_way 14 = .ok (.aload_n 3, 1) := by decide +kernel
theorem dX8_way_15 : decode cX8_way 15 = .ok (.iload_n 2, 1) := by decide +kernel
theorem dX8_way_16 : decode cX8_way 16 = .ok (.invokevirtual 196, 3) := by decide +kernel
theorem dX8_way_19 : decode cX8_way 19 = .ok (.ireturn, 1) := by decide +kernel
set_option maxRecDepth 20000 in
theorem ggX8_steed_X8_horseOf : GoodIn wsX8_steed wsX8_horseOf := goodIn_ca (lq_goor _ [7, 8] rfl (by decide +kernel)) (goodIn_sub (fun _ h => List.mem_cons_of_mem _ (List.mem_append_left _ (List.mem_append_right _ h))) gw_wsX80)
set_option maxRecDepth 20000 in
theorem gX8_steed_X8_horseOf : GoodIn wsX8_steed (wsV RX8 200 RX8 yX8_horseOf wsX8_horseOf) := goodIn_app (lq_goor _ [3, 4, 5, 6] rfl (by decide +kernel)) ggX8_steed_X8_horseOf
theorem dX8_steed_0 : decode cX8_steed 0 = .ok (.aload_n 0, 1) := by decide +kernel
theorem dX8_steed_1 : decode cX8_steed 1 = .ok (.iload_n 1, 1) := by decide +kernel
theorem dX8_steed_2 : decode cX8_steed 2 = .ok (.invokevirtual 200, 3) := by decide +kernel
theorem dX8_steed_5 : decode cX8_steed 5 = .ok (.astore_n 3, 1) := by decide +kernel
theorem dX8_steed_6 : decode cX8_steed 6 = .ok (.aload_n 3, 1) := by decide +kernel
theorem dX8_steed_7 : decode cX8_steed 7 = .ok (.ifnull 12, 3) := by decide +kernel
theorem dX8_steed_10 : decode cX8_steed 10 = .ok (.iload_n 2, 1) := by decide +kernel
theorem dX8_steed_11 : decode cX8_steed 11 = .ok (.ifCond .lt 8, 3) := by decide +kernel
theorem dX8_steed_14 : decode cX8_steed 14 = .ok (.iload_n 2, 1) := by decide +kernel
theorem dX8_steed_15 : decode cX8_steed 15 = .ok (.iconst 1, 1) := by decide +kernel
theorem dX8_steed_16 : decode cX8_steed 16 = .ok (.if_icmp .le 13, 3) := by decide +kernel
theorem dX8_steed_19 : decode cX8_steed 19 = .ok (.new 173, 3) := by decide +kernel
theorem dX8_steed_22 : decode cX8_steed 22 = .ok (.dup, 1) := by decide +kernel
theorem dX8_steed_23 : decode cX8_steed 23 = .ok (.ldc 204, 2) := by decide +kernel
theorem dX8_steed_25 : decode cX8_steed 25 = .ok (.invokespecial 177, 3) := by decide +kernel
theorem dX8_steed_28 : decode cX8_steed 28 = .ok (.athrow, 1) := by decide +kernel
theorem dX8_steed_29 : decode cX8_steed 29 = .ok (.iload_n 2, 1) := by decide +kernel
theorem dX8_steed_30 : decode cX8_steed 30 = .ok (.ifCond .ne 10, 3) := by decide +kernel
theorem dX8_steed_33 : decode cX8_steed 33 = .ok (.aload_n 3, 1) := by decide +kernel
theorem dX8_steed_34 : decode cX8_steed 34 = .ok (.getfield 206, 3) := by decide +kernel
theorem dX8_steed_37 : decode cX8_steed 37 = .ok (.goto 7, 3) := by decide +kernel
theorem dX8_steed_40 : decode cX8_steed 40 = .ok (.aload_n 3, 1) := by decide +kernel
theorem dX8_steed_41 : decode cX8_steed 41 = .ok (.getfield 209, 3) := by decide +kernel
theorem dX8_steed_44 : decode cX8_steed 44 = .ok (.ireturn, 1) := by decide +kernel
set_option maxRecDepth 20000 in
theorem ggX8_at_X8_isStation : GoodIn wsX8_at wsX8_isStation := lq_goor _ [5] rfl (by decide +kernel)
set_option maxRecDepth 20000 in
theorem gX8_at_X8_isStation : GoodIn wsX8_at (va_wsS RX8 95 yX8_isStation wsX8_isStation) := goodIn_app (lq_goor _ [2, 3, 4] rfl (by decide +kernel)) ggX8_at_X8_isStation
set_option maxRecDepth 20000 in
theorem ggX8_at_X8_horsesAt : GoodIn wsX8_at wsX8_horsesAt := goodIn_ca (goodIn_ca (lq_goor _ [9, 10] rfl (by decide +kernel)) (goodIn_sub (fun _ h => List.mem_cons_of_mem _ (List.mem_append_left _ (List.mem_append_left _ (List.mem_append_right _ h)))) gw_wsX80)) (goodIn_sub (fun _ h => List.mem_cons_of_mem _ (List.mem_append_left _ (List.mem_append_right _ h))) gw_wsX00)
set_option maxRecDepth 20000 in
theorem gX8_at_X8_horsesAt : GoodIn wsX8_at (wsV RX8 212 RX8 yX8_horsesAt wsX8_horsesAt) := goodIn_app (lq_goor _ [6, 7, 8, 4] rfl (by decide +kernel)) ggX8_at_X8_horsesAt
set_option maxRecDepth 20000 in
theorem ggX8_at_X8_ridersWaitingAt : GoodIn wsX8_at wsX8_ridersWaitingAt := goodIn_ca (goodIn_ca (lq_goor _ [14, 15, 16, 17, 18, 19, 20, 21, 22, 23, 24, 25, 26] rfl (by decide +kernel)) (goodIn_sub (fun _ h => List.mem_cons_of_mem _ (List.mem_append_left _ (List.mem_append_left _ (List.mem_append_right _ h)))) gw_wsX80)) (goodIn_sub (fun _ h => List.mem_cons_of_mem _ (List.mem_append_right _ h)) gw_wsX20)
set_option maxRecDepth 20000 in
theorem gX8_at_X8_ridersWaitingAt : GoodIn wsX8_at (wsV RX8 215 RX8 yX8_ridersWaitingAt wsX8_ridersWaitingAt) := goodIn_app (lq_goor _ [11, 12, 13, 4] rfl (by decide +kernel)) ggX8_at_X8_ridersWaitingAt
theorem dX8_at_0 : decode cX8_at 0 = .ok (.iload_n 1, 1) := by decide +kernel
theorem dX8_at_1 : decode cX8_at 1 = .ok (.invokestatic 95, 3) := by decide +kernel
theorem dX8_at_4 : decode cX8_at 4 = .ok (.ifCond .ne 5, 3) := by decide +kernel
theorem dX8_at_7 : decode cX8_at 7 = .ok (.iconst (-1), 1) := by decide +kernel
theorem dX8_at_8 : decode cX8_at 8 = .ok (.ireturn, 1) := by decide +kernel
theorem dX8_at_9 : decode cX8_at 9 = .ok (.iload_n 2, 1) := by decide +kernel
theorem dX8_at_10 : decode cX8_at 10 = .ok (.tableswitch 45 0 2 #[26, 33, 39], 26) := by decide +kernel
theorem dX8_at_36 : decode cX8_at 36 = .ok (.aload_n 0, 1) := by decide +kernel
theorem dX8_at_37 : decode cX8_at 37 = .ok (.getfield 30, 3) := by decide +kernel
theorem dX8_at_40 : decode cX8_at 40 = .ok (.iload_n 1, 1) := by decide +kernel
theorem dX8_at_41 : decode cX8_at 41 = .ok (.iaload, 1) := by decide +kernel
theorem dX8_at_42 : decode cX8_at 42 = .ok (.ireturn, 1) := by decide +kernel
theorem dX8_at_43 : decode cX8_at 43 = .ok (.aload_n 0, 1) := by decide +kernel
theorem dX8_at_44 : decode cX8_at 44 = .ok (.iload_n 1, 1) := by decide +kernel
theorem dX8_at_45 : decode cX8_at 45 = .ok (.invokevirtual 212, 3) := by decide +kernel
theorem dX8_at_48 : decode cX8_at 48 = .ok (.ireturn, 1) := by decide +kernel
theorem dX8_at_49 : decode cX8_at 49 = .ok (.aload_n 0, 1) := by decide +kernel
theorem dX8_at_50 : decode cX8_at 50 = .ok (.iload_n 1, 1) := by decide +kernel
theorem dX8_at_51 : decode cX8_at 51 = .ok (.invokevirtual 215, 3) := by decide +kernel
theorem dX8_at_54 : decode cX8_at 54 = .ok (.ireturn, 1) := by decide +kernel
theorem dX8_at_55 : decode cX8_at 55 = .ok (.iconst (-1), 1) := by decide +kernel
theorem dX8_at_56 : decode cX8_at 56 = .ok (.ireturn, 1) := by decide +kernel
set_option maxRecDepth 20000 in
theorem ggX8_voided_X8_tabletOf : GoodIn wsX8_voided wsX8_tabletOf := goodIn_ca (lq_goor _ [5, 6] rfl (by decide +kernel)) (goodIn_sub (fun _ h => List.mem_cons_of_mem _ (List.mem_append_left _ (List.mem_append_right _ h))) gw_wsX80)
set_option maxRecDepth 20000 in
theorem gX8_voided_X8_tabletOf : GoodIn wsX8_voided (wsV RX8 120 RX8 yX8_tabletOf wsX8_tabletOf) := goodIn_app (lq_goor _ [1, 2, 3, 4] rfl (by decide +kernel)) ggX8_voided_X8_tabletOf
set_option maxRecDepth 20000 in
theorem ggX8_voided_X6_voidSince : GoodIn wsX8_voided wsX6_voidSince := goodIn_ca (lq_goor _ [11, 12, 13, 4, 14] rfl (by decide +kernel)) (goodIn_sub (fun _ h => List.mem_cons_of_mem _ (List.mem_append_right _ h)) gw_wsX60)
set_option maxRecDepth 20000 in
theorem gX8_voided_X6_voidSince : GoodIn wsX8_voided (wsV RX8 218 RX6 yX6_voidSince wsX6_voidSince) := goodIn_app (lq_goor _ [7, 8, 9, 10] rfl (by decide +kernel)) ggX8_voided_X6_voidSince
theorem dX8_voided_0 : decode cX8_voided 0 = .ok (.aload_n 0, 1) := by decide +kernel
theorem dX8_voided_1 : decode cX8_voided 1 = .ok (.iload_n 1, 1) := by decide +kernel
theorem dX8_voided_2 : decode cX8_voided 2 = .ok (.invokevirtual 120, 3) := by decide +kernel
theorem dX8_voided_5 : decode cX8_voided 5 = .ok (.astore_n 3, 1) := by decide +kernel
theorem dX8_voided_6 : decode cX8_voided 6 = .ok (.aload_n 3, 1) := by decide +kernel
theorem dX8_voided_7 : decode cX8_voided 7 = .ok (.ifnonnull 7, 3) := by decide +kernel
theorem dX8_voided_10 : decode cX8_voided 10 = .ok (.iconst (-1), 1) := by decide +kernel
theorem dX8_voided_11 : decode cX8_voided 11 = .ok (.goto 8, 3) := by decide +kernel
theorem dX8_voided_14 : decode cX8_voided 14 = .ok (.aload_n 3, 1) := by decide +kernel
theorem dX8_voided_15 : decode cX8_voided 15 = .ok (.iload_n 2, 1) := by decide +kernel
theorem dX8_voided_16 : decode cX8_voided 16 = .ok (.invokevirtual 218, 3) := by decide +kernel
theorem dX8_voided_19 : decode cX8_voided 19 = .ok (.ireturn, 1) := by decide +kernel
set_option maxRecDepth 20000 in
theorem ggX8_known_X8_riderOf : GoodIn wsX8_known wsX8_riderOf := goodIn_ca (lq_goor _ [5, 6] rfl (by decide +kernel)) (goodIn_sub (fun _ h => List.mem_cons_of_mem _ (List.mem_append_left _ (List.mem_append_right _ h))) gw_wsX80)
set_option maxRecDepth 20000 in
theorem gX8_known_X8_riderOf : GoodIn wsX8_known (wsV RX8 150 RX8 yX8_riderOf wsX8_riderOf) := goodIn_app (lq_goor _ [1, 2, 3, 4] rfl (by decide +kernel)) ggX8_known_X8_riderOf
set_option maxRecDepth 20000 in
theorem ggX8_known_X2_newsKnownSince : GoodIn wsX8_known wsX2_newsKnownSince := goodIn_ca (lq_goor _ [11, 12, 13, 4, 14] rfl (by decide +kernel)) (goodIn_sub (fun _ h => List.mem_cons_of_mem _ (List.mem_append_right _ h)) gw_wsX20)
set_option maxRecDepth 20000 in
theorem gX8_known_X2_newsKnownSince : GoodIn wsX8_known (wsV RX8 221 RX2 yX2_newsKnownSince wsX2_newsKnownSince) := goodIn_app (lq_goor _ [7, 8, 9, 10] rfl (by decide +kernel)) ggX8_known_X2_newsKnownSince
theorem dX8_known_0 : decode cX8_known 0 = .ok (.aload_n 0, 1) := by decide +kernel
theorem dX8_known_1 : decode cX8_known 1 = .ok (.iload_n 1, 1) := by decide +kernel
theorem dX8_known_2 : decode cX8_known 2 = .ok (.invokevirtual 150, 3) := by decide +kernel
theorem dX8_known_5 : decode cX8_known 5 = .ok (.astore_n 3, 1) := by decide +kernel
theorem dX8_known_6 : decode cX8_known 6 = .ok (.aload_n 3, 1) := by decide +kernel
