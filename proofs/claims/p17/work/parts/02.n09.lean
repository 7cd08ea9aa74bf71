theorem tq_c {b : Bool} {A B big : List Cond} (hA : ∀ w ∈ A, w ∈ big) (hB : ∀ w ∈ B, w ∈ big) : ∀ w ∈ cond b A B, w ∈ big := by
  cases b
  · exact hB
  · exact hA
noncomputable def tq_ch (c : Nat) : List Cond := (cond (Nat.ble 3 c) (cond (Nat.ble 4 c) (cond (Nat.ble 5 c) tables_1_5 tables_1_4) tables_1_3) (cond (Nat.ble 1 c) (cond (Nat.ble 2 c) tables_1_2 tables_1_1) (k2_sels lw_privs)))
theorem tq_in (c : Nat) : ∀ w ∈ tq_ch c, w ∈ lw_tbl := (tq_c (tq_c (tq_c (fun _ h => List.mem_append_right _ (List.mem_append_right _ (List.mem_append_right _ (List.mem_append_right _ (List.mem_append_right _ h))))) (fun _ h => List.mem_append_right _ (List.mem_append_right _ (List.mem_append_right _ (List.mem_append_right _ (List.mem_append_left _ h)))))) (fun _ h => List.mem_append_right _ (List.mem_append_right _ (List.mem_append_right _ (List.mem_append_left _ h))))) (tq_c (tq_c (fun _ h => List.mem_append_right _ (List.mem_append_right _ (List.mem_append_left _ h))) (fun _ h => List.mem_append_right _ (List.mem_append_left _ h))) (fun _ h => List.mem_append_left _ h)))
theorem mem_pq {ws : List Cond} (ps : List (Nat × Nat)) (hp : ws.map some = ps.map (fun i => lq_n (tq_ch i.1) i.2)) : ∀ w ∈ ws, w ∈ lw_tbl := lq_all (fun i w e => tq_in i.1 w (lq_nm _ _ _ e)) ws ps hp
theorem mem_pl {big ws : List Cond} (ps : List Nat) (hp : ws = ps.filterMap (fun i => big[i]?)) : ∀ w ∈ ws, w ∈ big := by
  intro w hw
  rw [hp] at hw
  obtain ⟨i, -, hi⟩ := List.mem_filterMap.mp hw
  exact List.mem_of_getElem? hi
theorem mem_app {big a b : List Cond} (ha : ∀ w ∈ a, w ∈ big) (hb : ∀ w ∈ b, w ∈ big) : ∀ w ∈ a ++ b, w ∈ big := fun w h => (List.mem_append.mp h).elim (ha w) (hb w)
set_option maxRecDepth 20000 in
theorem wsL_law0_r1_in : ∀ w ∈ wsL_law0_r1, w ∈ lw_tbl := mem_pq [(1, 22), (1, 23), (1, 1), (4, 95), (4, 96), (1, 6), (5, 210), (1, 24), (1, 25), (1, 26), (1, 27), (1, 28), (1, 29), (1, 30), (1, 31), (1, 2), (1, 107), (1, 46), (1, 47), (1, 3), (1, 108), (1, 71), (1, 72), (1, 4)] rfl
set_option maxRecDepth 20000 in
theorem wsL_law0_r2_in : ∀ w ∈ wsL_law0_r2, w ∈ lw_tbl := mem_pq [(1, 109), (1, 45), (1, 110), (1, 91), (1, 111), (1, 93), (1, 112), (1, 95), (1, 113), (1, 114), (1, 97), (1, 98), (1, 5), (1, 115), (1, 33), (1, 34), (1, 35), (1, 36), (1, 49), (1, 50), (1, 51), (1, 52), (1, 54), (1, 55)] rfl
set_option maxRecDepth 20000 in
theorem wsL_law0_r3_in : ∀ w ∈ wsL_law0_r3, w ∈ lw_tbl := mem_pq [(1, 56), (1, 70), (1, 57), (1, 58), (1, 74), (1, 75), (1, 76), (1, 78), (1, 77), (1, 79), (1, 80), (1, 81), (1, 100), (1, 101), (1, 102), (1, 103), (4, 97), (4, 98), (4, 99), (4, 100), (2, 98), (4, 102), (4, 106), (4, 107)] rfl
set_option maxRecDepth 20000 in
theorem wsL_law0_r4_in : ∀ w ∈ wsL_law0_r4, w ∈ lw_tbl := mem_pq [(4, 108), (4, 116), (4, 117), (4, 118), (4, 119), (4, 120), (4, 121), (4, 123), (4, 124), (4, 125), (4, 126), (4, 127), (4, 128), (4, 129), (4, 130), (4, 131), (4, 132), (4, 133), (4, 134), (4, 135), (4, 138), (4, 139), (4, 140), (4, 141)] rfl
set_option maxRecDepth 20000 in
theorem wsL_law0_r5_in : ∀ w ∈ wsL_law0_r5, w ∈ lw_tbl := mem_pq [(4, 142), (4, 143), (4, 144), (4, 145), (4, 146), (4, 147), (1, 153), (1, 154), (1, 155), (1, 156), (1, 157), (1, 158), (1, 159), (1, 160), (1, 37), (1, 161), (1, 162), (1, 163), (1, 164), (5, 7), (5, 8), (5, 9), (5, 10), (4, 101)] rfl
set_option maxRecDepth 20000 in
theorem wsL_law0_r6_in : ∀ w ∈ wsL_law0_r6, w ∈ lw_tbl := mem_pq [(4, 103), (5, 11), (5, 13), (0, 39), (5, 14), (1, 165), (1, 166), (1, 167), (1, 168), (5, 15), (5, 16), (5, 17), (5, 18), (1, 169), (1, 170), (1, 171), (1, 172), (1, 173), (1, 174), (1, 7), (1, 116), (1, 175), (1, 176), (1, 177)] rfl
set_option maxRecDepth 20000 in
theorem wsL_law0_r7_in : ∀ w ∈ wsL_law0_r7, w ∈ lw_tbl := mem_pq [(1, 178), (1, 179), (1, 182), (1, 184), (1, 181), (1, 216), (1, 217), (1, 218), (1, 219), (1, 192), (1, 185), (1, 220), (1, 222), (0, 0), (1, 223), (1, 191), (1, 193), (1, 224), (1, 225), (1, 226), (1, 227), (1, 228), (1, 229), (1, 230)] rfl
set_option maxRecDepth 20000 in
theorem wsL_law0_r8_in : ∀ w ∈ wsL_law0_r8, w ∈ lw_tbl := mem_pq [(1, 231), (1, 233), (0, 1), (1, 234), (1, 194), (1, 235), (1, 236), (1, 237), (1, 238), (1, 239), (2, 0), (2, 1), (2, 2), (2, 3), (2, 4), (2, 6), (0, 2), (2, 7), (2, 8), (2, 10), (0, 3), (2, 11), (2, 13), (2, 15)] rfl
set_option maxRecDepth 20000 in
theorem wsL_law0_r9_in : ∀ w ∈ wsL_law0_r9, w ∈ lw_tbl := mem_pq [(0, 4), (2, 16), (2, 17), (2, 18), (2, 19), (1, 8), (2, 20), (5, 225), (2, 21), (2, 22), (2, 23), (2, 24), (2, 25), (5, 226), (2, 27), (2, 28), (2, 29), (2, 30), (2, 31), (2, 32), (2, 33), (2, 34), (2, 35), (2, 36)] rfl
set_option maxRecDepth 20000 in
theorem wsL_law0_r10_in : ∀ w ∈ wsL_law0_r10, w ∈ lw_tbl := mem_pq [(1, 9), (2, 37), (2, 38), (2, 39), (2, 40), (2, 41), (2, 43), (2, 44), (1, 10), (2, 45), (2, 46), (2, 47), (1, 11), (2, 48), (2, 49), (2, 50), (2, 51), (2, 52), (2, 53), (2, 54), (2, 55), (2, 56), (2, 57), (2, 58)] rfl
set_option maxRecDepth 20000 in
theorem wsL_law0_r11_in : ∀ w ∈ wsL_law0_r11, w ∈ lw_tbl := mem_pq [(2, 59), (2, 61), (2, 63), (2, 68), (2, 70), (0, 5), (2, 71), (1, 188), (1, 190), (2, 72), (2, 74), (0, 6), (2, 75), (2, 76), (2, 78), (0, 7), (2, 79), (2, 80), (2, 82), (0, 8), (2, 83), (2, 84), (2, 85), (2, 86)] rfl
set_option maxRecDepth 20000 in
theorem wsL_law0_r12_in : ∀ w ∈ wsL_law0_r12, w ∈ lw_tbl := mem_pq [(2, 87), (2, 88), (2, 89), (2, 90), (2, 91), (2, 92), (2, 93), (2, 94), (2, 96), (0, 9), (2, 97), (5, 19), (5, 20), (5, 21), (5, 22), (4, 112), (4, 109), (4, 113), (5, 23), (5, 25), (0, 40), (5, 26), (4, 104), (4, 105)] rfl
set_option maxRecDepth 20000 in
theorem wsL_law0_r13_in : ∀ w ∈ wsL_law0_r13, w ∈ lw_tbl := mem_pq [(5, 27), (5, 29), (0, 41), (5, 30), (4, 110), (4, 115), (4, 111), (5, 31), (5, 33), (0, 42), (5, 34), (5, 35), (5, 36), (5, 37), (5, 38), (5, 39), (5, 40), (5, 41), (5, 43), (0, 43), (5, 44), (5, 45), (5, 50), (5, 51)] rfl
set_option maxRecDepth 20000 in
theorem wsL_law0_r14_in : ∀ w ∈ wsL_law0_r14, w ∈ lw_tbl := mem_pq [(5, 52), (5, 46), (5, 48), (0, 44), (5, 49), (5, 53), (5, 55), (0, 45), (5, 56), (5, 57), (5, 59), (0, 46), (5, 60), (2, 99), (2, 100), (2, 101), (2, 102), (5, 61), (5, 62), (5, 63), (5, 64), (2, 103), (2, 104), (2, 105)] rfl
set_option maxRecDepth 20000 in
theorem wsL_law0_r15_in : ∀ w ∈ wsL_law0_r15, w ∈ lw_tbl := mem_pq [(2, 106), (2, 107), (2, 108), (2, 109), (2, 110), (2, 111), (2, 112), (2, 113), (2, 115), (2, 116), (2, 117), (2, 118), (5, 65), (5, 66), (5, 67), (5, 68), (5, 69), (5, 70), (5, 71), (2, 119), (2, 120), (2, 121), (2, 122), (2, 123)] rfl
set_option maxRecDepth 20000 in
theorem wsL_law0_r16_in : ∀ w ∈ wsL_law0_r16, w ∈ lw_tbl := mem_pq [(2, 124), (2, 125), (2, 126), (2, 127), (5, 72), (5, 73), (5, 74), (5, 75), (5, 76), (5, 78), (0, 47), (5, 79), (2, 128), (2, 129), (2, 130), (2, 131), (2, 132), (5, 93), (5, 94), (5, 95), (5, 96), (5, 97), (2, 133), (2, 134)] rfl
set_option maxRecDepth 20000 in
theorem wsL_law0_r17_in : ∀ w ∈ wsL_law0_r17, w ∈ lw_tbl := mem_pq [(2, 135), (2, 136), (1, 117), (2, 137), (1, 12), (2, 138), (2, 139), (2, 140), (2, 141), (2, 142), (2, 144), (2, 146), (5, 98), (5, 99), (5, 100), (5, 101), (4, 122), (2, 155), (2, 156), (2, 157), (2, 158), (1, 118), (2, 159), (1, 13)] rfl
set_option maxRecDepth 20000 in
theorem wsL_law0_r18_in : ∀ w ∈ wsL_law0_r18, w ∈ lw_tbl := mem_pq [(2, 160), (2, 161), (2, 162), (2, 163), (2, 169), (2, 167), (2, 164), (2, 165), (1, 14), (2, 166), (5, 102), (5, 103), (5, 104), (5, 105), (4, 136), (2, 175), (2, 176), (2, 177), (2, 178), (1, 119), (2, 233), (1, 17), (1, 121), (2, 179)] rfl
set_option maxRecDepth 20000 in
theorem wsL_law0_r19_in : ∀ w ∈ wsL_law0_r19, w ∈ lw_tbl := mem_pq [(2, 181), (0, 10), (2, 182), (2, 183), (2, 185), (0, 11), (2, 186), (2, 187), (2, 188), (2, 189), (2, 190), (3, 5), (2, 191), (2, 192), (2, 193), (2, 194), (2, 195), (2, 196), (2, 197), (2, 198), (2, 203), (2, 199), (2, 201), (0, 12)] rfl
set_option maxRecDepth 20000 in
theorem wsL_law0_r20_in : ∀ w ∈ wsL_law0_r20, w ∈ lw_tbl := mem_pq [(2, 202), (2, 204), (2, 206), (0, 13), (2, 207), (2, 208), (2, 210), (0, 14), (2, 211), (2, 212), (2, 213), (2, 215), (0, 15), (2, 216), (2, 217), (2, 218), (2, 219), (2, 220), (2, 221), (2, 222), (2, 223), (2, 224), (2, 226), (2, 227)] rfl
set_option maxRecDepth 20000 in
theorem wsL_law0_r21_in : ∀ w ∈ wsL_law0_r21, w ∈ lw_tbl := mem_pq [(2, 228), (1, 15), (2, 229), (2, 230), (2, 232), (2, 231), (1, 16), (2, 234), (2, 235), (2, 236), (2, 237), (3, 4), (2, 239), (3, 1), (3, 3), (2, 238), (3, 38), (3, 39), (3, 40), (3, 41), (3, 9), (3, 7), (3, 42), (3, 43)] rfl
set_option maxRecDepth 20000 in
theorem wsL_law0_r22_in : ∀ w ∈ wsL_law0_r22, w ∈ lw_tbl := mem_pq [(3, 44), (3, 45), (3, 46), (3, 47), (3, 48), (3, 49), (5, 106), (5, 107), (5, 108), (5, 109), (4, 137), (5, 88), (4, 114), (5, 110), (5, 112), (0, 50), (5, 113), (5, 114), (5, 116), (0, 51), (5, 117), (5, 84), (5, 86), (0, 48)] rfl
set_option maxRecDepth 20000 in
theorem wsL_law0_r23_in : ∀ w ∈ wsL_law0_r23, w ∈ lw_tbl := mem_pq [(5, 87), (5, 89), (5, 91), (0, 49), (5, 92), (3, 51), (3, 52), (3, 53), (3, 54), (3, 55), (3, 56), (3, 57), (3, 58), (5, 118), (5, 119), (5, 120), (5, 121), (3, 60), (3, 61), (3, 62), (3, 63), (3, 64), (3, 66), (0, 16)] rfl
set_option maxRecDepth 20000 in
theorem wsL_law0_r24_in : ∀ w ∈ wsL_law0_r24, w ∈ lw_tbl := mem_pq [(3, 67), (5, 122), (5, 123), (5, 124), (5, 125), (5, 126), (5, 128), (0, 52), (5, 129), (3, 68), (3, 69), (3, 70), (3, 71), (3, 72), (3, 74), (0, 17), (3, 75), (3, 76), (3, 78), (0, 18), (3, 79), (3, 84), (3, 80), (3, 81)] rfl
set_option maxRecDepth 20000 in
theorem wsL_law0_r25_in : ∀ w ∈ wsL_law0_r25, w ∈ lw_tbl := mem_pq [(3, 82), (3, 83), (3, 85), (3, 86), (3, 87), (3, 88), (3, 89), (3, 90), (3, 91), (3, 92), (3, 93), (3, 94), (3, 95), (3, 96), (3, 98), (0, 19), (3, 99), (1, 120), (3, 100), (3, 102), (0, 20), (3, 103), (3, 104), (3, 105)] rfl
set_option maxRecDepth 20000 in
theorem wsL_law0_r26_in : ∀ w ∈ wsL_law0_r26, w ∈ lw_tbl := mem_pq [(3, 106), (3, 107), (3, 108), (3, 109), (3, 110), (3, 111), (3, 113), (0, 21), (3, 114), (3, 115), (3, 117), (0, 22), (3, 118), (3, 119), (3, 120), (3, 121), (3, 122), (3, 123), (3, 124), (3, 125), (3, 126), (3, 127), (3, 128), (3, 130)] rfl
set_option maxRecDepth 20000 in
theorem wsL_law0_r27_in : ∀ w ∈ wsL_law0_r27, w ∈ lw_tbl := mem_pq [(0, 23), (3, 131), (3, 132), (3, 134), (0, 24), (3, 135), (3, 136), (3, 137), (3, 138), (3, 139), (3, 140), (3, 141), (3, 142), (3, 143), (3, 144), (3, 145), (3, 146), (3, 147), (3, 11), (3, 13), (3, 15), (3, 148), (3, 150), (0, 25)] rfl
set_option maxRecDepth 20000 in
theorem wsL_law0_r28_in : ∀ w ∈ wsL_law0_r28, w ∈ lw_tbl := mem_pq [(3, 151), (3, 152), (3, 154), (0, 26), (3, 155), (3, 156), (3, 158), (0, 27), (3, 159), (3, 160), (3, 161), (3, 162), (3, 163), (3, 164), (5, 130), (5, 131), (5, 132), (5, 133), (5, 134), (5, 136), (0, 53), (5, 137), (5, 138), (5, 140)] rfl
set_option maxRecDepth 20000 in
theorem wsL_law0_r29_in : ∀ w ∈ wsL_law0_r29, w ∈ lw_tbl := mem_pq [(0, 54), (5, 141), (5, 142), (5, 144), (0, 55), (5, 145), (5, 146), (5, 148), (0, 56), (5, 149), (5, 150), (5, 152), (0, 57), (5, 153), (5, 154), (5, 156), (0, 58), (5, 157), (5, 158), (5, 160), (0, 59), (5, 161), (5, 162), (5, 164)] rfl
set_option maxRecDepth 20000 in
theorem wsL_law0_r30_in : ∀ w ∈ wsL_law0_r30, w ∈ lw_tbl := mem_pq [(0, 60), (5, 165), (4, 6), (4, 7), (1, 0), (4, 8), (4, 9), (4, 10), (4, 11), (4, 12), (4, 13), (4, 14), (1, 21), (4, 79), (4, 80), (4, 81), (4, 82), (5, 166), (5, 167), (5, 168), (5, 169), (5, 170), (5, 172), (0, 61)] rfl
set_option maxRecDepth 20000 in
theorem wsL_law0_r31_in : ∀ w ∈ wsL_law0_r31, w ∈ lw_tbl := mem_pq [(5, 173), (3, 165), (3, 166), (3, 167), (3, 168), (3, 169), (5, 174), (5, 175), (5, 176), (5, 177), (4, 83), (4, 84), (4, 85), (4, 86), (4, 87), (4, 88), (4, 89), (4, 90), (4, 92), (0, 38), (4, 93), (5, 178), (5, 179), (5, 180)] rfl
set_option maxRecDepth 20000 in
theorem wsL_law0_r32_in : ∀ w ∈ wsL_law0_r32, w ∈ lw_tbl := mem_pq [(5, 181), (5, 3), (5, 4), (5, 5), (5, 6), (3, 170), (3, 171), (3, 172), (3, 173), (3, 174), (3, 176), (0, 28), (3, 177), (5, 182), (5, 183), (5, 184), (5, 185), (3, 178), (5, 186), (5, 187), (5, 188), (5, 189), (3, 179), (3, 180)] rfl
set_option maxRecDepth 20000 in
theorem wsL_law0_r33_in : ∀ w ∈ wsL_law0_r33, w ∈ lw_tbl := mem_pq [(3, 181), (3, 182), (3, 183), (3, 184), (3, 185), (3, 186), (5, 190), (5, 191), (5, 192), (5, 193), (3, 187), (3, 188), (3, 189), (3, 190), (3, 191), (5, 80), (5, 81), (5, 82), (5, 83), (3, 192), (3, 193), (3, 194), (3, 195), (3, 196)] rfl
set_option maxRecDepth 20000 in
theorem wsL_law0_r34_in : ∀ w ∈ wsL_law0_r34, w ∈ lw_tbl := mem_pq [(3, 197), (3, 198), (3, 199), (3, 200), (3, 202), (3, 203), (3, 204), (3, 205), (3, 206), (3, 207), (3, 209), (0, 29), (3, 210), (3, 211), (3, 213), (0, 30), (3, 214), (3, 215), (3, 216), (3, 218), (0, 31), (3, 219), (3, 220), (3, 221)] rfl
set_option maxRecDepth 20000 in
theorem wsL_law0_r35_in : ∀ w ∈ wsL_law0_r35, w ∈ lw_tbl := mem_pq [(3, 223), (0, 32), (3, 224), (3, 225), (3, 227), (0, 33), (3, 228), (3, 229), (3, 231), (0, 34), (3, 232), (3, 233), (3, 234), (3, 236), (0, 35), (3, 237), (5, 194), (5, 195), (5, 196), (5, 197), (5, 198), (5, 200), (0, 62), (5, 201)] rfl
set_option maxRecDepth 20000 in
theorem wsL_law0_r36_in : ∀ w ∈ wsL_law0_r36, w ∈ lw_tbl := mem_pq [(5, 202), (5, 204), (0, 63), (5, 205), (3, 238), (3, 239), (4, 0), (4, 1), (4, 2), (4, 4), (0, 36), (4, 5), (5, 206), (5, 207), (5, 208), (5, 209)] rfl
set_option maxRecDepth 20000 in
theorem wsX80_in : ∀ w ∈ wsX80, w ∈ lw_tbl := mem_pq [(1, 122), (1, 124), (1, 126), (1, 128), (1, 130), (1, 132), (1, 134), (1, 136), (1, 138), (1, 140), (1, 142), (1, 144), (1, 146), (1, 148), (1, 150)] rfl
set_option maxRecDepth 20000 in
theorem wsX90_in : ∀ w ∈ wsX90, w ∈ lw_tbl := mem_pq [(4, 148), (4, 150), (4, 152), (4, 154), (4, 156), (4, 158), (4, 160), (4, 162), (4, 164), (4, 166), (4, 168), (4, 170), (4, 172), (4, 174), (4, 176), (4, 178), (4, 180), (4, 182), (4, 184), (4, 186), (4, 188), (4, 190), (4, 192), (4, 194), (4, 196), (4, 198), (4, 200), (4, 202), (4, 204), (4, 206), (4, 208), (4, 210), (4, 212), (4, 214), (4, 216), (4, 218), (4, 220), (4, 222), (4, 224), (4, 226), (4, 228), (4, 230), (4, 232), (4, 234), (4, 236), (4, 238), (5, 0)] rfl
set_option maxRecDepth 20000 in
theorem wsX70_in : ∀ w ∈ wsX70, w ∈ lw_tbl := mem_pq [(1, 40), (1, 42)] rfl
set_option maxRecDepth 20000 in
theorem wsX30_in : ∀ w ∈ wsX30, w ∈ lw_tbl := mem_pq [(1, 59), (1, 61), (1, 63), (1, 65), (1, 67)] rfl
set_option maxRecDepth 20000 in
theorem wsX10_in : ∀ w ∈ wsX10, w ∈ lw_tbl := mem_pq [(1, 82), (1, 84), (1, 86), (1, 88)] rfl
set_option maxRecDepth 20000 in
theorem wsX50_in : ∀ w ∈ wsX50, w ∈ lw_tbl := mem_pq [(1, 104)] rfl
set_option maxRecDepth 20000 in
theorem wsX40_in : ∀ w ∈ wsX40, w ∈ lw_tbl := mem_pq [(1, 195), (1, 197), (1, 199), (1, 201), (1, 203), (1, 205), (1, 207), (1, 209), (1, 211), (1, 213)] rfl
set_option maxRecDepth 20000 in
theorem wsX00_in : ∀ w ∈ wsX00, w ∈ lw_tbl := mem_pq [(2, 148), (2, 150), (2, 152)] rfl
set_option maxRecDepth 20000 in
theorem wsX60_in : ∀ w ∈ wsX60, w ∈ lw_tbl := mem_pq [(2, 170), (2, 172)] rfl
set_option maxRecDepth 20000 in
theorem wsX20_in : ∀ w ∈ wsX20, w ∈ lw_tbl := mem_pq [(3, 17), (3, 19), (3, 21), (3, 23), (3, 25), (3, 27), (3, 29), (3, 31), (3, 33), (3, 35)] rfl
theorem wsL_law_in0 : ∀ w ∈ wsL_law0, w ∈ lw_tbl := mem_app (mem_app (mem_app (mem_app (mem_app (mem_app (mem_app (mem_app (mem_app (mem_app (mem_app (mem_app wsL_law0_r1_in (mem_app wsL_law0_r2_in (mem_app wsL_law0_r3_in (mem_app wsL_law0_r4_in (mem_app wsL_law0_r5_in (mem_app wsL_law0_r6_in (mem_app wsL_law0_r7_in (mem_app wsL_law0_r8_in (mem_app wsL_law0_r9_in (mem_app wsL_law0_r10_in (mem_app wsL_law0_r11_in (mem_app wsL_law0_r12_in (mem_app wsL_law0_r13_in (mem_app wsL_law0_r14_in (mem_app wsL_law0_r15_in (mem_app wsL_law0_r16_in (mem_app wsL_law0_r17_in (mem_app wsL_law0_r18_in (mem_app wsL_law0_r19_in (mem_app wsL_law0_r20_in (mem_app wsL_law0_r21_in (mem_app wsL_law0_r22_in (mem_app wsL_law0_r23_in (mem_app wsL_law0_r24_in (mem_app wsL_law0_r25_in (mem_app wsL_law0_r26_in (mem_app wsL_law0_r27_in (mem_app wsL_law0_r28_in (mem_app wsL_law0_r29_in (mem_app wsL_law0_r30_in (mem_app wsL_law0_r31_in (mem_app wsL_law0_r32_in (mem_app wsL_law0_r33_in (mem_app wsL_law0_r34_in (mem_app wsL_law0_r35_in (wsL_law0_r36_in)))))))))))))))))))))))))))))))))))) wsX80_in) wsX90_in) wsX70_in) wsX30_in) wsX10_in) wsX50_in) wsX40_in) wsX00_in) wsX60_in) wsX20_in) (fun _ h => nomatch h)
theorem wsL_law_x0 : ∀ w ∈ ([] : List Cond), w ∈ lw_tbl := fun _ h => nomatch h
theorem wsL_law_in : ∀ w ∈ wsL_law, w ∈ lw_tbl := fun w h => (List.mem_append.mp h).elim (fun h => wsL_law_in0 w h) (fun h => wsL_law_x0 w h)
theorem inlX0 : ∀ w ∈ wsX00, w ∈ wsL_law := fun _ h => List.mem_append_left _ (List.mem_append_left _ (List.mem_append_left _ (List.mem_append_left _ (List.mem_append_right _ h))))
theorem inX0 : ∀ w ∈ wsX00, w ∈ lw_tbl := fun w h => wsL_law_in w (inlX0 w h)
theorem inlX1 : ∀ w ∈ wsX10, w ∈ wsL_law := fun _ h => List.mem_append_left _ (List.mem_append_left _ (List.mem_append_left _ (List.mem_append_left _ (List.mem_append_left _ (List.mem_append_left _ (List.mem_append_left _ (List.mem_append_right _ h)))))))
theorem inX1 : ∀ w ∈ wsX10, w ∈ lw_tbl := fun w h => wsL_law_in w (inlX1 w h)
theorem inlX2 : ∀ w ∈ wsX20, w ∈ wsL_law := fun _ h => List.mem_append_left _ (List.mem_append_left _ (List.mem_append_right _ h))
theorem inX2 : ∀ w ∈ wsX20, w ∈ lw_tbl := fun w h => wsL_law_in w (inlX2 w h)
theorem inlX3 : ∀ w ∈ wsX30, w ∈ wsL_law := fun _ h => List.mem_append_left _ (List.mem_append_left _ (List.mem_append_left _ (List.mem_append_left _ (List.mem_append_left _ (List.mem_append_left _ (List.mem_append_left _ (List.mem_append_left _ (List.mem_append_right _ h))))))))
theorem inX3 : ∀ w ∈ wsX30, w ∈ lw_tbl := fun w h => wsL_law_in w (inlX3 w h)
theorem inlX4 : ∀ w ∈ wsX40, w ∈ wsL_law := fun _ h => List.mem_append_left _ (List.mem_append_left _ (List.mem_append_left _ (List.mem_append_left _ (List.mem_append_left _ (List.mem_append_right _ h)))))
theorem inX4 : ∀ w ∈ wsX40, w ∈ lw_tbl := fun w h => wsL_law_in w (inlX4 w h)
theorem inlX5 : ∀ w ∈ wsX50, w ∈ wsL_law := fun _ h => List.mem_append_left _ (List.mem_append_left _ (List.mem_append_left _ (List.mem_append_left _ (List.mem_append_left _ (List.mem_append_left _ (List.mem_append_right _ h))))))
theorem inX5 : ∀ w ∈ wsX50, w ∈ lw_tbl := fun w h => wsL_law_in w (inlX5 w h)
theorem inlX6 : ∀ w ∈ wsX60, w ∈ wsL_law := fun _ h => List.mem_append_left _ (List.mem_append_left _ (List.mem_append_left _ (List.mem_append_right _ h)))
theorem inX6 : ∀ w ∈ wsX60, w ∈ lw_tbl := fun w h => wsL_law_in w (inlX6 w h)
theorem inlX7 : ∀ w ∈ wsX70, w ∈ wsL_law := fun _ h => List.mem_append_left _ (List.mem_append_left _ (List.mem_append_left _ (List.mem_append_left _ (List.mem_append_left _ (List.mem_append_left _ (List.mem_append_left _ (List.mem_append_left _ (List.mem_append_left _ (List.mem_append_right _ h)))))))))
theorem inX7 : ∀ w ∈ wsX70, w ∈ lw_tbl := fun w h => wsL_law_in w (inlX7 w h)
theorem inlX8 : ∀ w ∈ wsX80, w ∈ wsL_law := fun _ h => List.mem_append_left _ (List.mem_append_left _ (List.mem_append_left _ (List.mem_append_left _ (List.mem_append_left _ (List.mem_append_left _ (List.mem_append_left _ (List.mem_append_left _ (List.mem_append_left _ (List.mem_append_left _ (List.mem_append_left _ (List.mem_append_right _ h)))))))))))
theorem inX8 : ∀ w ∈ wsX80, w ∈ lw_tbl := fun w h => wsL_law_in w (inlX8 w h)
theorem inlX9 : ∀ w ∈ wsX90, w ∈ wsL_law := fun _ h => List.mem_append_left _ (List.mem_append_left _ (List.mem_append_left _ (List.mem_append_left _ (List.mem_append_left _ (List.mem_append_left _ (List.mem_append_left _ (List.mem_append_left _ (List.mem_append_left _ (List.mem_append_left _ (List.mem_append_right _ h))))))))))
theorem lq_c {b : Bool} {A B big : List Cond} (hA : ∀ w ∈ A, w ∈ big) (hB : ∀ w ∈ B, w ∈ big) : ∀ w ∈ cond b A B, w ∈ big := by
  cases b
  · exact hB
  · exact hA
noncomputable def lq_ch (c : Nat) : List Cond := (cond (Nat.ble 23 c) (cond (Nat.ble 34 c) (cond (Nat.ble 40 c) (cond (Nat.ble 43 c) (cond (Nat.ble 44 c) (cond (Nat.ble 45 c) wsX20 wsX60) wsX00) (cond (Nat.ble 41 c) (cond (Nat.ble 42 c) wsX40 wsX50) wsX10)) (cond (Nat.ble 37 c) (cond (Nat.ble 38 c) (cond (Nat.ble 39 c) wsX30 wsX70) wsX90) (cond (Nat.ble 35 c) (cond (Nat.ble 36 c) wsX80 wsL_law0_r36) wsL_law0_r35))) (cond (Nat.ble 28 c) (cond (Nat.ble 31 c) (cond (Nat.ble 32 c) (cond (Nat.ble 33 c) wsL_law0_r34 wsL_law0_r33) wsL_law0_r32) (cond (Nat.ble 29 c) (cond (Nat.ble 30 c) wsL_law0_r31 wsL_law0_r30) wsL_law0_r29)) (cond (Nat.ble 25 c) (cond (Nat.ble 26 c) (cond (Nat.ble 27 c) wsL_law0_r28 wsL_law0_r27) wsL_law0_r26) (cond (Nat.ble 24 c) wsL_law0_r25 wsL_law0_r24)))) (cond (Nat.ble 11 c) (cond (Nat.ble 17 c) (cond (Nat.ble 20 c) (cond (Nat.ble 21 c) (cond (Nat.ble 22 c) wsL_law0_r23 wsL_law0_r22) wsL_law0_r21) (cond (Nat.ble 18 c) (cond (Nat.ble 19 c) wsL_law0_r20 wsL_law0_r19) wsL_law0_r18)) (cond (Nat.ble 14 c) (cond (Nat.ble 15 c) (cond (Nat.ble 16 c) wsL_law0_r17 wsL_law0_r16) wsL_law0_r15) (cond (Nat.ble 12 c) (cond (Nat.ble 13 c) wsL_law0_r14 wsL_law0_r13) wsL_law0_r12))) (cond (Nat.ble 5 c) (cond (Nat.ble 8 c) (cond (Nat.ble 9 c) (cond (Nat.ble 10 c) wsL_law0_r11 wsL_law0_r10) wsL_law0_r9) (cond (Nat.ble 6 c) (cond (Nat.ble 7 c) wsL_law0_r8 wsL_law0_r7) wsL_law0_r6)) (cond (Nat.ble 2 c) (cond (Nat.ble 3 c) (cond (Nat.ble 4 c) wsL_law0_r5 wsL_law0_r4) wsL_law0_r3) (cond (Nat.ble 1 c) wsL_law0_r2 wsL_law0_r1)))))
theorem lq_in (c : Nat) : ∀ w ∈ lq_ch c, w ∈ wsL_law := (lq_c (lq_c (lq_c (lq_c (lq_c (lq_c inlX2 inlX6) inlX0) (lq_c (lq_c inlX4 inlX5) inlX1)) (lq_c (lq_c (lq_c inlX3 inlX7) inlX9) (lq_c (lq_c inlX8 (fun _ h => (List.mem_append_left _ (List.mem_append_left _ (List.mem_append_left _ (List.mem_append_left _ (List.mem_append_left _ (List.mem_append_left _ (List.mem_append_left _ (List.mem_append_left _ (List.mem_append_left _ (List.mem_append_left _ (List.mem_append_left _ (List.mem_append_left _ (List.mem_append_right _ (List.mem_append_right _ (List.mem_append_right _ (List.mem_append_right _ (List.mem_append_right _ (List.mem_append_right _ (List.mem_append_right _ (List.mem_append_right _ (List.mem_append_right _ (List.mem_append_right _ (List.mem_append_right _ (List.mem_append_right _ (List.mem_append_right _ (List.mem_append_right _ (List.mem_append_right _ (List.mem_append_right _ (List.mem_append_right _ (List.mem_append_right _ (List.mem_append_right _ (List.mem_append_right _ (List.mem_append_right _ (List.mem_append_right _ (List.mem_append_right _ (List.mem_append_right _ (List.mem_append_right _ (List.mem_append_right _ (List.mem_append_right _ (List.mem_append_right _ (List.mem_append_right _ (List.mem_append_right _ (List.mem_append_right _ (List.mem_append_right _ (List.mem_append_right _ (List.mem_append_right _ (List.mem_append_right _ h))))))))))))))))))))))))))))))))))))))))))))))))) (fun _ h => (List.mem_append_left _ (List.mem_append_left _ (List.mem_append_left _ (List.mem_append_left _ (List.mem_append_left _ (List.mem_append_left _ (List.mem_append_left _ (List.mem_append_left _ (List.mem_append_left _ (List.mem_append_left _ (List.mem_append_left _ (List.mem_append_left _ (List.mem_append_right _ (List.mem_append_right _ (List.mem_append_right _ (List.mem_append_right _ (List.mem_append_right _ (List.mem_append_right _ (List.mem_append_right _ (List.mem_append_right _ (List.mem_append_right _ (List.mem_append_right _ (List.mem_append_right _ (List.mem_append_right _ (List.mem_append_right _ (List.mem_append_right _ (List.mem_append_right _ (List.mem_append_right _ (List.mem_append_right _ (List.mem_append_right _ (List.mem_append_right _ (List.mem_append_right _ (List.mem_append_right _ (List.mem_append_right _ (List.mem_append_right _ (List.mem_append_right _ (List.mem_append_right _ (List.mem_append_right _ (List.mem_append_right _ (List.mem_append_right _ (List.mem_append_right _ (List.mem_append_right _ (List.mem_append_right _ (List.mem_append_right _ (List.mem_append_right _ (List.mem_append_right _ (List.mem_append_left _ h))))))))))))))))))))))))))))))))))))))))))))))))))) (lq_c (lq_c (lq_c (lq_c (fun _ h => (List.mem_append_left _ (List.mem_append_left _ (List.mem_append_left _ (List.mem_append_left _ (List.mem_append_left _ (List.mem_append_left _ (List.mem_append_left _ (List.mem_append_left _ (List.mem_append_left _ (List.mem_append_left _ (List.mem_append_left _ (List.mem_append_left _ (List.mem_append_right _ (List.mem_append_right _ (List.mem_append_right _ (List.mem_append_right _ (List.mem_append_right _ (List.mem_append_right _ (List.mem_append_right _ (List.mem_append_right _ (List.mem_append_right _ (List.mem_append_right _ (List.mem_append_right _ (List.mem_append_right _ (List.mem_append_right _ (List.mem_append_right _ (List.mem_append_right _ (List.mem_append_right _ (List.mem_append_right _ (List.mem_append_right _ (List.mem_append_right _ (List.mem_append_right _ (List.mem_append_right _ (List.mem_append_right _ (List.mem_append_right _ (List.mem_append_right _ (List.mem_append_right _ (List.mem_append_right _ (List.mem_append_right _ (List.mem_append_right _ (List.mem_append_right _ (List.mem_append_right _ (List.mem_append_right _ (List.mem_append_right _ (List.mem_append_right _ (List.mem_append_left _ h))))))))))))))))))))))))))))))))))))))))))))))) (fun _ h => (List.mem_append_left _ (List.mem_append_left _ (List.mem_append_left _ (List.mem_append_left _ (List.mem_append_left _ (List.mem_append_left _ (List.mem_append_left _ (List.mem_append_left _ (List.mem_append_left _ (List.mem_append_left _ (List.mem_append_left _ (List.mem_append_left _ (List.mem_append_right _ (List.mem_append_right _ (List.mem_append_right _ (List.mem_append_right _ (List.mem_append_right _ (List.mem_append_right _ (List.mem_append_right _ (List.mem_append_right _ (List.mem_append_right _ (List.mem_append_right _ (List.mem_append_right _ (List.mem_append_right _ (List.mem_append_right _ (List.mem_append_right _ (List.mem_append_right _ (List.mem_append_right _ (List.mem_append_right _ (List.mem_append_right _ (List.mem_append_right _ (List.mem_append_right _ (List.mem_append_right _ (List.mem_append_right _ (List.mem_append_right _ (List.mem_append_right _ (List.mem_append_right _ (List.mem_append_right _ (List.mem_append_right _ (List.mem_append_right _ (List.mem_append_right _ (List.mem_append_right _ (List.mem_append_right _ (List.mem_append_right _ (List.mem_append_left _ h))))))))))))))))))))))))))))))))))))))))))))))) (fun _ h => (List.mem_append_left _ (List.mem_append_left _ (List.mem_append_left _ (List.mem_append_left _ (List.mem_append_left _ (List.mem_append_left _ (List.mem_append_left _ (List.mem_append_left _ (List.mem_append_left _ (List.mem_append_left _ (List.mem_append_left _ (List.mem_append_left _ (List.mem_append_right _ (List.mem_append_right _ (List.mem_append_right _ (List.mem_append_right _ (List.mem_append_right _ (List.mem_append_right _ (List.mem_append_right _ (List.mem_append_right _ (List.mem_append_right _ (List.mem_append_right _ (List.mem_append_right _ (List.mem_append_right _ (List.mem_append_right _ (List.mem_append_right _ (List.mem_append_right _ (List.mem_append_right _ (List.mem_append_right _ (List.mem_append_right _ (List.mem_append_right _ (List.mem_append_right _ (List.mem_append_right _ (List.mem_append_right _ (List.mem_append_right _ (List.mem_append_right _ (List.mem_append_right _ (List.mem_append_right _ (List.mem_append_right _ (List.mem_append_right _ (List.mem_append_right _ (List.mem_append_right _ (List.mem_append_right _ (List.mem_append_left _ h)))))))))))))))))))))))))))))))))))))))))))))) (lq_c (lq_c (fun _ h => (List.mem_append_left _ (List.mem_append_left _ (List.mem_append_left _ (List.mem_append_left _ (List.mem_append_left _ (List.mem_append_left _ (List.mem_append_left _ (List.mem_append_left _ (List.mem_append_left _ (List.mem_append_left _ (List.mem_append_left _ (List.mem_append_left _ (List.mem_append_right _ (List.mem_append_right _ (List.mem_append_right _ (List.mem_append_right _ (List.mem_append_right _ (List.mem_append_right _ (List.mem_append_right _ (List.mem_append_right _ (List.mem_append_right _ (List.mem_append_right _ (List.mem_append_right _ (List.mem_append_right _ (List.mem_append_right _ (List.mem_append_right _ (List.mem_append_right _ (List.mem_append_right _ (List.mem_append_right _ (List.mem_append_right _ (List.mem_append_right _ (List.mem_append_right _ (List.mem_append_right _ (List.mem_append_right _ (List.mem_append_right _ (List.mem_append_right _ (List.mem_append_right _ (List.mem_append_right _ (List.mem_append_right _ (List.mem_append_right _ (List.mem_append_right _ (List.mem_append_right _ (List.mem_append_left _ h)))))))))))))))))))))))))))))))))))))))))))) (fun _ h => (List.mem_append_left _ (List.mem_append_left _ (List.mem_append_left _ (List.mem_append_left _ (List.mem_append_left _ (List.mem_append_left _ (List.mem_append_left _ (List.mem_append_left _ (List.mem_append_left _ (List.mem_append_left _ (List.mem_append_left _ (List.mem_append_left _ (List.mem_append_right _ (List.mem_append_right _ (List.mem_append_right _ (List.mem_append_right _ (List.mem_append_right _ (List.mem_append_right _ (List.mem_append_right _ (List.mem_append_right _ (List.mem_append_right _ (List.mem_append_right _ (List.mem_append_right _ (List.mem_append_right _ (List.mem_append_right _ (List.mem_append_right _ (List.mem_append_right _ (List.mem_append_right _ (List.mem_append_right _ (List.mem_append_right _ (List.mem_append_right _ (List.mem_append_right _ (List.mem_append_right _ (List.mem_append_right _ (List.mem_append_right _ (List.mem_append_right _ (List.mem_append_right _ (List.mem_append_right _ (List.mem_append_right _ (List.mem_append_right _ (List.mem_append_right _ (List.mem_append_left _ h)))))))))))))))))))))))))))))))))))))))))))) (fun _ h => (List.mem_append_left _ (List.mem_append_left _ (List.mem_append_left _ (List.mem_append_left _ (List.mem_append_left _ (List.mem_append_left _ (List.mem_append_left _ (List.mem_append_left _ (List.mem_append_left _ (List.mem_append_left _ (List.mem_append_left _ (List.mem_append_left _ (List.mem_append_right _ (List.mem_append_right _ (List.mem_append_right _ (List.mem_append_right _ (List.mem_append_right _ (List.mem_append_right _ (List.mem_append_right _ (List.mem_append_right _ (List.mem_append_right _ (List.mem_append_right _ (List.mem_append_right _ (List.mem_append_right _ (List.mem_append_right _ (List.mem_append_right _ (List.mem_append_right _ (List.mem_append_right _ (List.mem_append_right _ (List.mem_append_right _ (List.mem_append_right _ (List.mem_append_right _ (List.mem_append_right _ (List.mem_append_right _ (List.mem_append_right _ (List.mem_append_right _ (List.mem_append_right _ (List.mem_append_right _ (List.mem_append_right _ (List.mem_append_right _ (List.mem_append_left _ h)))))))))))))))))))))))))))))))))))))))))))) (lq_c (lq_c (lq_c (fun _ h => (List.mem_append_left _ (List.mem_append_left _ (List.mem_append_left _ (List.mem_append_left _ (List.mem_append_left _ (List.mem_append_left _ (List.mem_append_left _ (List.mem_append_left _ (List.mem_append_left _ (List.mem_append_left _ (List.mem_append_left _ (List.mem_append_left _ (List.mem_append_right _ (List.mem_append_right _ (List.mem_append_right _ (List.mem_append_right _ (List.mem_append_right _ (List.mem_append_right _ (List.mem_append_right _ (List.mem_append_right _ (List.mem_append_right _ (List.mem_append_right _ (List.mem_append_right _ (List.mem_append_right _ (List.mem_append_right _ (List.mem_append_right _ (List.mem_append_right _ (List.mem_append_right _ (List.mem_append_right _ (List.mem_append_right _ (List.mem_append_right _ (List.mem_append_right _ (List.mem_append_right _ (List.mem_append_right _ (List.mem_append_right _ (List.mem_append_right _ (List.mem_append_right _ (List.mem_append_right _ (List.mem_append_right _ (List.mem_append_left _ h))))))))))))))))))))))))))))))))))))))))) (fun _ h => (List.mem_append_left _ (List.mem_append_left _ (List.mem_append_left _ (List.mem_append_left _ (List.mem_append_left _ (List.mem_append_left _ (List.mem_append_left _ (List.mem_append_left _ (List.mem_append_left _ (List.mem_append_left _ (List.mem_append_left _ (List.mem_append_left _ (List.mem_append_right _ (List.mem_append_right _ (List.mem_append_right _ (List.mem_append_right _ (List.mem_append_right _ (List.mem_append_right _ (List.mem_append_right _ (List.mem_append_right _ (List.mem_append_right _ (List.mem_append_right _ (List.mem_append_right _ (List.mem_append_right _ (List.mem_append_right _ (List.mem_append_right _ (List.mem_append_right _ (List.mem_append_right _ (List.mem_append_right _ (List.mem_append_right _ (List.mem_append_right _ (List.mem_append_right _ (List.mem_append_right _ (List.mem_append_right _ (List.mem_append_right _ (List.mem_append_right _ (List.mem_append_right _ (List.mem_append_right _ (List.mem_append_left _ h))))))))))))))))))))))))))))))))))))))))) (fun _ h => (List.mem_append_left _ (List.mem_append_left _ (List.mem_append_left _ (List.mem_append_left _ (List.mem_append_left _ (List.mem_append_left _ (List.mem_append_left _ (List.mem_append_left _ (List.mem_append_left _ (List.mem_append_left _ (List.mem_append_left _ (List.mem_append_left _ (List.mem_append_right _ (List.mem_append_right _ (List.mem_append_right _ (List.mem_append_right _ (List.mem_append_right _ (List.mem_append_right _ (List.mem_append_right _ (List.mem_append_right _ (List.mem_append_right _ (List.mem_append_right _ (List.mem_append_right _ (List.mem_append_right _ (List.mem_append_right _ (List.mem_append_right _ (List.mem_append_right _ (List.mem_append_right _ (List.mem_append_right _ (List.mem_append_right _ (List.mem_append_right _ (List.mem_append_right _ (List.mem_append_right _ (List.mem_append_right _ (List.mem_append_right _ (List.mem_append_right _ (List.mem_append_right _ (List.mem_append_left _ h)))))))))))))))))))))))))))))))))))))))) (lq_c (fun _ h => (List.mem_append_left _ (List.mem_append_left _ (List.mem_append_left _ (List.mem_append_left _ (List.mem_append_left _ (List.mem_append_left _ (List.mem_append_left _ (List.mem_append_left _ (List.mem_append_left _ (List.mem_append_left _ (List.mem_append_left _ (List.mem_append_left _ (List.mem_append_right _ (List.mem_append_right _ (List.mem_append_right _ (List.mem_append_right _ (List.mem_append_right _ (List.mem_append_right _ (List.mem_append_right _ (List.mem_append_right _ (List.mem_append_right _ (List.mem_append_right _ (List.mem_append_right _ (List.mem_append_right _ (List.mem_append_right _ (List.mem_append_right _ (List.mem_append_right _ (List.mem_append_right _ (List.mem_append_right _ (List.mem_append_right _ (List.mem_append_right _ (List.mem_append_right _ (List.mem_append_right _ (List.mem_append_right _ (List.mem_append_right _ (List.mem_append_right _ (List.mem_append_left _ h)))))))))))))))))))))))))))))))))))))) (fun _ h => (List.mem_append_left _ (List.mem_append_left _ (List.mem_append_left _ (List.mem_append_left _ (List.mem_append_left _ (List.mem_append_left _ (List.mem_append_left _ (List.mem_append_left _ (List.mem_append_left _ (List.mem_append_left _ (List.mem_append_left _ (List.mem_append_left _ (List.mem_append_right _ (List.mem_append_right _ (List.mem_append_right _ (List.mem_append_right _ (List.mem_append_right _ (List.mem_append_right _ (List.mem_append_right _ (List.mem_append_right _ (List.mem_append_right _ (List.mem_append_right _ (List.mem_append_right _ (List.mem_append_right _ (List.mem_append_right _ (List.mem_append_right _ (List.mem_append_right _ (List.mem_append_right _ (List.mem_append_right _ (List.mem_append_right _ (List.mem_append_right _ (List.mem_append_right _ (List.mem_append_right _ (List.mem_append_right _ (List.mem_append_right _ (List.mem_append_left _ h))))))))))))))))))))))))))))))))))))))))) (lq_c (lq_c (lq_c (lq_c (lq_c (fun _ h => (List.mem_append_left _ (List.mem_append_left _ (List.mem_append_left _ (List.mem_append_left _ (List.mem_append_left _ (List.mem_append_left _ (List.mem_append_left _ (List.mem_append_left _ (List.mem_append_left _ (List.mem_append_left _ (List.mem_append_left _ (List.mem_append_left _ (List.mem_append_right _ (List.mem_append_right _ (List.mem_append_right _ (List.mem_append_right _ (List.mem_append_right _ (List.mem_append_right _ (List.mem_append_right _ (List.mem_append_right _ (List.mem_append_right _ (List.mem_append_right _ (List.mem_append_right _ (List.mem_append_right _ (List.mem_append_right _ (List.mem_append_right _ (List.mem_append_right _ (List.mem_append_right _ (List.mem_append_right _ (List.mem_append_right _ (List.mem_append_right _ (List.mem_append_right _ (List.mem_append_right _ (List.mem_append_right _ (List.mem_append_left _ h)))))))))))))))))))))))))))))))))))) (fun _ h => (List.mem_append_left _ (List.mem_append_left _ (List.mem_append_left _ (List.mem_append_left _ (List.mem_append_left _ (List.mem_append_left _ (List.mem_append_left _ (List.mem_append_left _ (List.mem_append_left _ (List.mem_append_left _ (List.mem_append_left _ (List.mem_append_left _ (List.mem_append_right _ (List.mem_append_right _ (List.mem_append_right _ (List.mem_append_right _ (List.mem_append_right _ (List.mem_append_right _ (List.mem_append_right _ (List.mem_append_right _ (List.mem_append_right _ (List.mem_append_right _ (List.mem_append_right _ (List.mem_append_right _ (List.mem_append_right _ (List.mem_append_right _ (List.mem_append_right _ (List.mem_append_right _ (List.mem_append_right _ (List.mem_append_right _ (List.mem_append_right _ (List.mem_append_right _ (List.mem_append_right _ (List.mem_append_left _ h)))))))))))))))))))))))))))))))))))) (fun _ h => (List.mem_append_left _ (List.mem_append_left _ (List.mem_append_left _ (List.mem_append_left _ (List.mem_append_left _ (List.mem_append_left _ (List.mem_append_left _ (List.mem_append_left _ (List.mem_append_left _ (List.mem_append_left _ (List.mem_append_left _ (List.mem_append_left _ (List.mem_append_right _ (List.mem_append_right _ (List.mem_append_right _ (List.mem_append_right _ (List.mem_append_right _ (List.mem_append_right _ (List.mem_append_right _ (List.mem_append_right _ (List.mem_append_right _ (List.mem_append_right _ (List.mem_append_right _ (List.mem_append_right _ (List.mem_append_right _ (List.mem_append_right _ (List.mem_append_right _ (List.mem_append_right _ (List.mem_append_right _ (List.mem_append_right _ (List.mem_append_right _ (List.mem_append_right _ (List.mem_append_left _ h))))))))))))))))))))))))))))))))))) (lq_c (lq_c (fun _ h => (List.mem_append_left _ (List.mem_append_left _ (List.mem_append_left _ (List.mem_append_left _ (List.mem_append_left _ (List.mem_append_left _ (List.mem_append_left _ (List.mem_append_left _ (List.mem_append_left _ (List.mem_append_left _ (List.mem_append_left _ (List.mem_append_left _ (List.mem_append_right _ (List.mem_append_right _ (List.mem_append_right _ (List.mem_append_right _ (List.mem_append_right _ (List.mem_append_right _ (List.mem_append_right _ (List.mem_append_right _ (List.mem_append_right _ (List.mem_append_right _ (List.mem_append_right _ (List.mem_append_right _ (List.mem_append_right _ (List.mem_append_right _ (List.mem_append_right _ (List.mem_append_right _ (List.mem_append_right _ (List.mem_append_right _ (List.mem_append_right _ (List.mem_append_left _ h))))))))))))))))))))))))))))))))) (fun _ h => (List.mem_append_left _ (List.mem_append_left _ (List.mem_append_left _ (List.mem_append_left _ (List.mem_append_left _ (List.mem_append_left _ (List.mem_append_left _ (List.mem_append_left _ (List.mem_append_left _ (List.mem_append_left _ (List.mem_append_left _ (List.mem_append_left _ (List.mem_append_right _ (List.mem_append_right _ (List.mem_append_right _ (List.mem_append_right _ (List.mem_append_right _ (List.mem_append_right _ (List.mem_append_right _ (List.mem_append_right _ (List.mem_append_right _ (List.mem_append_right _ (List.mem_append_right _ (List.mem_append_right _ (List.mem_append_right _ (List.mem_append_right _ (List.mem_append_right _ (List.mem_append_right _ (List.mem_append_right _ (List.mem_append_right _ (List.mem_append_left _ h))))))))))))))))))))))))))))))))) (fun _ h => (List.mem_append_left _ (List.mem_append_left _ (List.mem_append_left _ (List.mem_append_left _ (List.mem_append_left _ (List.mem_append_left _ (List.mem_append_left _ (List.mem_append_left _ (List.mem_append_left _ (List.mem_append_left _ (List.mem_append_left _ (List.mem_append_left _ (List.mem_append_right _ (List.mem_append_right _ (List.mem_append_right _ (List.mem_append_right _ (List.mem_append_right _ (List.mem_append_right _ (List.mem_append_right _ (List.mem_append_right _ (List.mem_append_right _ (List.mem_append_right _ (List.mem_append_right _ (List.mem_append_right _ (List.mem_append_right _ (List.mem_append_right _ (List.mem_append_right _ (List.mem_append_right _ (List.mem_append_right _ (List.mem_append_left _ h))))))))))))))))))))))))))))))))) (lq_c (lq_c (lq_c (fun _ h => (List.mem_append_left _ (List.mem_append_left _ (List.mem_append_left _ (List.mem_append_left _ (List.mem_append_left _ (List.mem_append_left _ (List.mem_append_left _ (List.mem_append_left _ (List.mem_append_left _ (List.mem_append_left _ (List.mem_append_left _ (List.mem_append_left _ (List.mem_append_right _ (List.mem_append_right _ (List.mem_append_right _ (List.mem_append_right _ (List.mem_append_right _ (List.mem_append_right _ (List.mem_append_right _ (List.mem_append_right _ (List.mem_append_right _ (List.mem_append_right _ (List.mem_append_right _ (List.mem_append_right _ (List.mem_append_right _ (List.mem_append_right _ (List.mem_append_right _ (List.mem_append_right _ (List.mem_append_left _ h)))))))))))))))))))))))))))))) (fun _ h => (List.mem_append_left _ (List.mem_append_left _ (List.mem_append_left _ (List.mem_append_left _ (List.mem_append_left _ (List.mem_append_left _ (List.mem_append_left _ (List.mem_append_left _ (List.mem_append_left _ (List.mem_append_left _ (List.mem_append_left _ (List.mem_append_left _ (List.mem_append_right _ (List.mem_append_right _ (List.mem_append_right _ (List.mem_append_right _ (List.mem_append_right _ (List.mem_append_right _ (List.mem_append_right _ (List.mem_append_right _ (List.mem_append_right _ (List.mem_append_right _ (List.mem_append_right _ (List.mem_append_right _ (List.mem_append_right _ (List.mem_append_right _ (List.mem_append_right _ (List.mem_append_left _ h)))))))))))))))))))))))))))))) (fun _ h => (List.mem_append_left _ (List.mem_append_left _ (List.mem_append_left _ (List.mem_append_left _ (List.mem_append_left _ (List.mem_append_left _ (List.mem_append_left _ (List.mem_append_left _ (List.mem_append_left _ (List.mem_append_left _ (List.mem_append_left _ (List.mem_append_left _ (List.mem_append_right _ (List.mem_append_right _ (List.mem_append_right _ (List.mem_append_right _ (List.mem_append_right _ (List.mem_append_right _ (List.mem_append_right _ (List.mem_append_right _ (List.mem_append_right _ (List.mem_append_right _ (List.mem_append_right _ (List.mem_append_right _ (List.mem_append_right _ (List.mem_append_right _ (List.mem_append_left _ h))))))))))))))))))))))))))))) (lq_c (lq_c (fun _ h => (List.mem_append_left _ (List.mem_append_left _ (List.mem_append_left _ (List.mem_append_left _ (List.mem_append_left _ (List.mem_append_left _ (List.mem_append_left _ (List.mem_append_left _ (List.mem_append_left _ (List.mem_append_left _ (List.mem_append_left _ (List.mem_append_left _ (List.mem_append_right _ (List.mem_append_right _ (List.mem_append_right _ (List.mem_append_right _ (List.mem_append_right _ (List.mem_append_right _ (List.mem_append_right _ (List.mem_append_right _ (List.mem_append_right _ (List.mem_append_right _ (List.mem_append_right _ (List.mem_append_right _ (List.mem_append_right _ (List.mem_append_left _ h))))))))))))))))))))))))))) (fun _ h => (List.mem_append_left _ (List.mem_append_left _ (List.mem_append_left _ (List.mem_append_left _ (List.mem_append_left _ (List.mem_append_left _ (List.mem_append_left _ (List.mem_append_left _ (List.mem_append_left _ (List.mem_append_left _ (List.mem_append_left _ (List.mem_append_left _ (List.mem_append_right _ (List.mem_append_right _ (List.mem_append_right _ (List.mem_append_right _ (List.mem_append_right _ (List.mem_append_right _ (List.mem_append_right _ (List.mem_append_right _ (List.mem_append_right _ (List.mem_append_right _ (List.mem_append_right _ (List.mem_append_right _ (List.mem_append_left _ h))))))))))))))))))))))))))) (fun _ h => (List.mem_append_left _ (List.mem_append_left _ (List.mem_append_left _ (List.mem_append_left _ (List.mem_append_left _ (List.mem_append_left _ (List.mem_append_left _ (List.mem_append_left _ (List.mem_append_left _ (List.mem_append_left _ (List.mem_append_left _ (List.mem_append_left _ (List.mem_append_right _ (List.mem_append_right _ (List.mem_append_right _ (List.mem_append_right _ (List.mem_append_right _ (List.mem_append_right _ (List.mem_append_right _ (List.mem_append_right _ (List.mem_append_right _ (List.mem_append_right _ (List.mem_append_right _ (List.mem_append_left _ h)))))))))))))))))))))))))))) (lq_c (lq_c (lq_c (lq_c (fun _ h => (List.mem_append_left _ (List.mem_append_left _ (List.mem_append_left _ (List.mem_append_left _ (List.mem_append_left _ (List.mem_append_left _ (List.mem_append_left _ (List.mem_append_left _ (List.mem_append_left _ (List.mem_append_left _ (List.mem_append_left _ (List.mem_append_left _ (List.mem_append_right _ (List.mem_append_right _ (List.mem_append_right _ (List.mem_append_right _ (List.mem_append_right _ (List.mem_append_right _ (List.mem_append_right _ (List.mem_append_right _ (List.mem_append_right _ (List.mem_append_right _ (List.mem_append_left _ h)))))))))))))))))))))))) (fun _ h => (List.mem_append_left _ (List.mem_append_left _ (List.mem_append_left _ (List.mem_append_left _ (List.mem_append_left _ (List.mem_append_left _ (List.mem_append_left _ (List.mem_append_left _ (List.mem_append_left _ (List.mem_append_left _ (List.mem_append_left _ (List.mem_append_left _ (List.mem_append_right _ (List.mem_append_right _ (List.mem_append_right _ (List.mem_append_right _ (List.mem_append_right _ (List.mem_append_right _ (List.mem_append_right _ (List.mem_append_right _ (List.mem_append_right _ (List.mem_append_left _ h)))))))))))))))))))))))) (fun _ h => (List.mem_append_left _ (List.mem_append_left _ (List.mem_append_left _ (List.mem_append_left _ (List.mem_append_left _ (List.mem_append_left _ (List.mem_append_left _ (List.mem_append_left _ (List.mem_append_left _ (List.mem_append_left _ (List.mem_append_left _ (List.mem_append_left _ (List.mem_append_right _ (List.mem_append_right _ (List.mem_append_right _ (List.mem_append_right _ (List.mem_append_right _ (List.mem_append_right _ (List.mem_append_right _ (List.mem_append_right _ (List.mem_append_left _ h))))))))))))))))))))))) (lq_c (lq_c (fun _ h => (List.mem_append_left _ (List.mem_append_left _ (List.mem_append_left _ (List.mem_append_left _ (List.mem_append_left _ (List.mem_append_left _ (List.mem_append_left _ (List.mem_append_left _ (List.mem_append_left _ (List.mem_append_left _ (List.mem_append_left _ (List.mem_append_left _ (List.mem_append_right _ (List.mem_append_right _ (List.mem_append_right _ (List.mem_append_right _ (List.mem_append_right _ (List.mem_append_right _ (List.mem_append_right _ (List.mem_append_left _ h))))))))))))))))))))) (fun _ h => (List.mem_append_left _ (List.mem_append_left _ (List.mem_append_left _ (List.mem_append_left _ (List.mem_append_left _ (List.mem_append_left _ (List.mem_append_left _ (List.mem_append_left _ (List.mem_append_left _ (List.mem_append_left _ (List.mem_append_left _ (List.mem_append_left _ (List.mem_append_right _ (List.mem_append_right _ (List.mem_append_right _ (List.mem_append_right _ (List.mem_append_right _ (List.mem_append_right _ (List.mem_append_left _ h))))))))))))))))))))) (fun _ h => (List.mem_append_left _ (List.mem_append_left _ (List.mem_append_left _ (List.mem_append_left _ (List.mem_append_left _ (List.mem_append_left _ (List.mem_append_left _ (List.mem_append_left _ (List.mem_append_left _ (List.mem_append_left _ (List.mem_append_left _ (List.mem_append_left _ (List.mem_append_right _ (List.mem_append_right _ (List.mem_append_right _ (List.mem_append_right _ (List.mem_append_right _ (List.mem_append_left _ h))))))))))))))))))))) (lq_c (lq_c (lq_c (fun _ h => (List.mem_append_left _ (List.mem_append_left _ (List.mem_append_left _ (List.mem_append_left _ (List.mem_append_left _ (List.mem_append_left _ (List.mem_append_left _ (List.mem_append_left _ (List.mem_append_left _ (List.mem_append_left _ (List.mem_append_left _ (List.mem_append_left _ (List.mem_append_right _ (List.mem_append_right _ (List.mem_append_right _ (List.mem_append_right _ (List.mem_append_left _ h)))))))))))))))))) (fun _ h => (List.mem_append_left _ (List.mem_append_left _ (List.mem_append_left _ (List.mem_append_left _ (List.mem_append_left _ (List.mem_append_left _ (List.mem_append_left _ (List.mem_append_left _ (List.mem_append_left _ (List.mem_append_left _ (List.mem_append_left _ (List.mem_append_left _ (List.mem_append_right _ (List.mem_append_right _ (List.mem_append_right _ (List.mem_append_left _ h)))))))))))))))))) (fun _ h => (List.mem_append_left _ (List.mem_append_left _ (List.mem_append_left _ (List.mem_append_left _ (List.mem_append_left _ (List.mem_append_left _ (List.mem_append_left _ (List.mem_append_left _ (List.mem_append_left _ (List.mem_append_left _ (List.mem_append_left _ (List.mem_append_left _ (List.mem_append_right _ (List.mem_append_right _ (List.mem_append_left _ h))))))))))))))))) (lq_c (fun _ h => (List.mem_append_left _ (List.mem_append_left _ (List.mem_append_left _ (List.mem_append_left _ (List.mem_append_left _ (List.mem_append_left _ (List.mem_append_left _ (List.mem_append_left _ (List.mem_append_left _ (List.mem_append_left _ (List.mem_append_left _ (List.mem_append_left _ (List.mem_append_right _ (List.mem_append_left _ h))))))))))))))) (fun _ h => (List.mem_append_left _ (List.mem_append_left _ (List.mem_append_left _ (List.mem_append_left _ (List.mem_append_left _ (List.mem_append_left _ (List.mem_append_left _ (List.mem_append_left _ (List.mem_append_left _ (List.mem_append_left _ (List.mem_append_left _ (List.mem_append_left _ (List.mem_append_left _ h)))))))))))))))))))
theorem lq_good (ws : List Cond) (ps : List (Nat × Nat)) (hp : ws.map some = ps.map (fun i => lq_n (lq_ch i.1) i.2)) (h : ws.all goodWord = true) : GoodIn wsL_law ws := goodIn_sub (lq_all (fun i w e => lq_in i.1 w (lq_nm _ _ _ e)) ws ps hp) h
set_option maxRecDepth 20000 in
theorem gw_wsX00 : wsX00.all goodWord = true := by decide +kernel
set_option maxRecDepth 20000 in
theorem gw_wsX10 : wsX10.all goodWord = true := by decide +kernel
set_option maxRecDepth 20000 in
theorem gw_wsX20 : wsX20.all goodWord = true := by decide +kernel
set_option maxRecDepth 20000 in
theorem gw_wsX30 : wsX30.all goodWord = true := by decide +kernel
set_option maxRecDepth 20000 in
theorem gw_wsX40 : wsX40.all goodWord = true := by decide +kernel
set_option maxRecDepth 20000 in
theorem gw_wsX50 : wsX50.all goodWord = true := by decide +kernel
set_option maxRecDepth 20000 in
theorem gw_wsX60 : wsX60.all goodWord = true := by decide +kernel
set_option maxRecDepth 20000 in
theorem gw_wsX70 : wsX70.all goodWord = true := by decide +kernel
set_option maxRecDepth 20000 in
theorem gw_wsX80 : wsX80.all goodWord = true := by decide +kernel
set_option maxRecDepth 20000 in
theorem gw_wsX90 : wsX90.all goodWord = true := by decide +kernel
theorem inX9 : ∀ w ∈ wsX90, w ∈ lw_tbl := fun w h => wsL_law_in w (inlX9 w h)
theorem inJx8e188 : ∀ w ∈ wsJx8e1880, w ∈ lw_tbl := by decide +kernel
theorem inJ9 : ∀ w ∈ wsJ90, w ∈ lw_tbl := by decide +kernel
theorem inJ0 : ∀ w ∈ wsJ00, w ∈ lw_tbl := by decide +kernel
theorem inJ1 : ∀ w ∈ wsJ10, w ∈ lw_tbl := by decide +kernel
theorem inJ2 : ∀ w ∈ wsJ20, w ∈ lw_tbl := by decide +kernel
theorem inJ10 : ∀ w ∈ wsJ100, w ∈ lw_tbl := by decide +kernel
theorem inJ7 : ∀ w ∈ wsJ70, w ∈ lw_tbl := by decide +kernel
theorem inJ3 : ∀ w ∈ wsJ30, w ∈ lw_tbl := by decide +kernel
theorem dX0_init_0 : decode cX0_init 0 = .ok (.aload_n 0, 1) := by decide +kernel
theorem dX0_init_1 : decode cX0_init 1 = .ok (.invokespecial 1, 3) := by decide +kernel
theorem dX0_init_4 : decode cX0_init 4 = .ok (.aload_n 0, 1) := by decide +kernel
theorem dX0_init_5 : decode cX0_init 5 = .ok (.iload_n 1, 1) := by decide +kernel
theorem dX0_init_6 : decode cX0_init 6 = .ok (.putfield 7, 3) := by decide +kernel
theorem dX0_init_9 : decode cX0_init 9 = .ok (.aload_n 0, 1) := by decide +kernel
theorem dX0_init_10 : decode cX0_init 10 = .ok (.iload_n 2, 1) := by decide +kernel
theorem dX0_init_11 : decode cX0_init 11 = .ok (.putfield 13, 3) := by decide +kernel
theorem dX0_init_14 : decode cX0_init 14 = .ok (.aload_n 0, 1) := by decide +kernel
theorem dX0_init_15 : decode cX0_init 15 = .ok (.iload_n 3, 1) := by decide +kernel
theorem dX0_init_16 : decode cX0_init 16 = .ok (.putfield 16, 3) := by decide +kernel
theorem dX0_init_19 : decode cX0_init 19 = .ok (.return_, 1) := by decide +kernel
theorem dX0_weaken_0 : decode cX0_weaken 0 = .ok (.aload_n 0, 1) := by decide +kernel
theorem dX0_weaken_1 : decode cX0_weaken 1 = .ok (.iconst 0, 1) := by decide +kernel
theorem dX0_weaken_2 : decode cX0_weaken 2 = .ok (.aload_n 0, 1) := by decide +kernel
theorem dX0_weaken_3 : decode cX0_weaken 3 = .ok (.getfield 16, 3) := by decide +kernel
theorem dX0_weaken_6 : decode cX0_weaken 6 = .ok (.iload_n 1, 1) := by decide +kernel
theorem dX0_weaken_7 : decode cX0_weaken 7 = .ok (.isub, 1) := by decide +kernel
theorem dX0_weaken_8 : decode cX0_weaken 8 = .ok (.invokestatic 19, 3) := by decide +kernel
theorem dX0_weaken_11 : decode cX0_weaken 11 = .ok (.putfield 16, 3) := by decide +kernel
theorem dX0_weaken_14 : decode cX0_weaken 14 = .ok (.return_, 1) := by decide +kernel
theorem dX1_init_0 : decode cX1_init 0 = .ok (.aload_n 0, 1) := by decide +kernel
theorem dX1_init_1 : decode cX1_init 1 = .ok (.invokespecial 3, 3) := by decide +kernel
theorem dX1_init_4 : decode cX1_init 4 = .ok (.aload_n 0, 1) := by decide +kernel
theorem dX1_init_5 : decode cX1_init 5 = .ok (.bipush 12, 2) := by decide +kernel
theorem dX1_init_7 : decode cX1_init 7 = .ok (.newarray .int, 2) := by decide +kernel
theorem dX1_init_9 : decode cX1_init 9 = .ok (.putfield 9, 3) := by decide +kernel
theorem dX1_init_12 : decode cX1_init 12 = .ok (.aload_n 0, 1) := by decide +kernel
theorem dX1_init_13 : decode cX1_init 13 = .ok (.bipush 12, 2) := by decide +kernel
theorem dX1_init_15 : decode cX1_init 15 = .ok (.bipush 12, 2) := by decide +kernel
theorem dX1_init_17 : decode cX1_init 17 = .ok (.multianewarray 15 2, 4) := by decide +kernel
theorem dX1_init_21 : decode cX1_init 21 = .ok (.putfield 17, 3) := by decide +kernel
theorem dX1_init_24 : decode cX1_init 24 = .ok (.aload_n 0, 1) := by decide +kernel
theorem dX1_init_25 : decode cX1_init 25 = .ok (.bipush 12, 2) := by decide +kernel
theorem dX1_init_27 : decode cX1_init 27 = .ok (.newarray .int, 2) := by decide +kernel
theorem dX1_init_29 : decode cX1_init 29 = .ok (.putfield 20, 3) := by decide +kernel
theorem dX1_init_32 : decode cX1_init 32 = .ok (.aload_n 0, 1) := by decide +kernel
theorem dX1_init_33 : decode cX1_init 33 = .ok (.bipush 12, 2) := by decide +kernel
theorem dX1_init_35 : decode cX1_init 35 = .ok (.newarray .int, 2) := by decide +kernel
theorem dX1_init_37 : decode cX1_init 37 = .ok (.putfield 23, 3) := by decide +kernel
theorem dX1_init_40 : decode cX1_init 40 = .ok (.return_, 1) := by decide +kernel
set_option maxRecDepth 20000 in
theorem ggX1_setSpare_X8_isStation : GoodIn wsX1_setSpare wsX8_isStation := lq_goor _ [4] rfl (by decide +kernel)
set_option maxRecDepth 20000 in
theorem gX1_setSpare_X8_isStation_n26 : GoodIn wsX1_setSpare (wsX8_isStation) := ggX1_setSpare_X8_isStation
theorem dX1_setSpare_0 : decode cX1_setSpare 0 = .ok (.iload_n 1, 1) := by decide +kernel
theorem dX1_setSpare_1 : decode cX1_setSpare 1 = .ok (.invokestatic 26, 3) := by decide +kernel
theorem dX1_setSpare_4 : decode cX1_setSpare 4 = .ok (.ifCond .eq 10, 3) := by decide +kernel
theorem dX1_setSpare_7 : decode cX1_setSpare 7 = .ok (.aload_n 0, 1) := by decide +kernel
theorem dX1_setSpare_8 : decode cX1_setSpare 8 = .ok (.getfield 9, 3) := by decide +kernel
theorem dX1_setSpare_11 : decode cX1_setSpare 11 = .ok (.iload_n 1, 1) := by decide +kernel
theorem dX1_setSpare_12 : decode cX1_setSpare 12 = .ok (.iload_n 2, 1) := by decide +kernel
theorem dX1_setSpare_13 : decode cX1_setSpare 13 = .ok (.iastore, 1) := by decide +kernel
theorem dX1_setSpare_14 : decode cX1_setSpare 14 = .ok (.return_, 1) := by decide +kernel
set_option maxRecDepth 20000 in
theorem ggX1_leastPains_J7_fill_53178 : GoodIn wsX1_leastPains wsJ7_fill_53178 := lq_goor _ [6] rfl (by decide +kernel)
set_option maxRecDepth 20000 in
theorem gX1_leastPains_J7_fill_53178 : GoodIn wsX1_leastPains (va_wsS RX1 30 yJ7_fill_53178 wsJ7_fill_53178) := goodIn_app (lq_goor _ [3, 4, 5] rfl (by decide +kernel)) ggX1_leastPains_J7_fill_53178
set_option maxRecDepth 20000 in
theorem ggX1_leastPains_X1_isAnyShort : GoodIn wsX1_leastPains wsX1_isAnyShort := goodIn_ca (lq_goor _ [11, 12] rfl (by decide +kernel)) (goodIn_sub (fun _ h => List.mem_cons_of_mem _ (List.mem_append_left _ (List.mem_append_right _ h))) gw_wsX10)
set_option maxRecDepth 20000 in
theorem gX1_leastPains_X1_isAnyShort : GoodIn wsX1_leastPains (wsV RX1 36 RX1 yX1_isAnyShort wsX1_isAnyShort) := goodIn_app (lq_goor _ [7, 8, 9, 10] rfl (by decide +kernel)) ggX1_leastPains_X1_isAnyShort
set_option maxRecDepth 20000 in
theorem ggX1_leastPains_X1_spread : GoodIn wsX1_leastPains wsX1_spread := goodIn_ca (goodIn_ca (lq_goor _ [16, 2, 12, 17, 18, 19, 20, 21, 10, 22, 23, 24, 25, 26, 27, 28, 29, 30, 31, 32, 33, 34, 35, 36, 1] rfl (by decide +kernel)) (goodIn_sub (fun _ h => List.mem_cons_of_mem _ (List.mem_append_left _ (List.mem_append_right _ h))) gw_wsX10)) (goodIn_sub (fun _ h => List.mem_cons_of_mem _ (List.mem_append_right _ h)) gw_wsX30)
set_option maxRecDepth 20000 in
theorem gX1_leastPains_X1_spread : GoodIn wsX1_leastPains (wsV RX1 40 RX1 yX1_spread wsX1_spread) := goodIn_app (lq_goor _ [13, 14, 15, 10] rfl (by decide +kernel)) ggX1_leastPains_X1_spread
set_option maxRecDepth 20000 in
theorem ggX1_leastPains_X1_nearestShort : GoodIn wsX1_leastPains wsX1_nearestShort := goodIn_ca (lq_goor _ [40, 17, 12, 2] rfl (by decide +kernel)) (goodIn_sub (fun _ h => List.mem_cons_of_mem _ (List.mem_append_left _ (List.mem_append_right _ h))) gw_wsX10)
set_option maxRecDepth 20000 in
theorem gX1_leastPains_X1_nearestShort : GoodIn wsX1_leastPains (wsV RX1 44 RX1 yX1_nearestShort wsX1_nearestShort) := goodIn_app (lq_goor _ [37, 38, 39, 10] rfl (by decide +kernel)) ggX1_leastPains_X1_nearestShort
set_option maxRecDepth 20000 in
theorem ggX1_leastPains_X8_isStation : GoodIn wsX1_leastPains wsX8_isStation := lq_goor _ [25] rfl (by decide +kernel)
set_option maxRecDepth 20000 in
theorem gX1_leastPains_X8_isStation_n26 : GoodIn wsX1_leastPains (wsX8_isStation) := ggX1_leastPains_X8_isStation
set_option maxRecDepth 20000 in
theorem ggX1_leastPains_X1_horsesAlong : GoodIn wsX1_leastPains wsX1_horsesAlong := goodIn_ca (lq_goor _ [44, 12, 18, 1, 45, 46, 47, 48, 23, 24, 25] rfl (by decide +kernel)) (goodIn_sub (fun _ h => List.mem_cons_of_mem _ (List.mem_append_left _ (List.mem_append_right _ h))) gw_wsX10)
set_option maxRecDepth 20000 in
theorem gX1_leastPains_X1_horsesAlong : GoodIn wsX1_leastPains (wsV RX1 48 RX1 yX1_horsesAlong wsX1_horsesAlong) := goodIn_app (lq_goor _ [41, 42, 43, 10] rfl (by decide +kernel)) ggX1_leastPains_X1_horsesAlong
set_option maxRecDepth 20000 in
theorem ggX1_leastPains_X1_leadAlong : GoodIn wsX1_leastPains wsX1_leadAlong := goodIn_ca (lq_goor _ [52, 12, 18, 1, 23, 24, 25] rfl (by decide +kernel)) (goodIn_sub (fun _ h => List.mem_cons_of_mem _ (List.mem_append_left _ (List.mem_append_right _ h))) gw_wsX10)
set_option maxRecDepth 20000 in
theorem gX1_leastPains_X1_leadAlong : GoodIn wsX1_leastPains (wsV RX1 52 RX1 yX1_leadAlong wsX1_leadAlong) := goodIn_app (lq_goor _ [49, 50, 51, 10] rfl (by decide +kernel)) ggX1_leastPains_X1_leadAlong
theorem dX1_leastPains_0 : decode cX1_leastPains 0 = .ok (.iconst 0, 1) := by decide +kernel
theorem dX1_leastPains_1 : decode cX1_leastPains 1 = .ok (.istore_n 2, 1) := by decide +kernel
theorem dX1_leastPains_2 : decode cX1_leastPains 2 = .ok (.iload_n 2, 1) := by decide +kernel
theorem dX1_leastPains_3 : decode cX1_leastPains 3 = .ok (.bipush 12, 2) := by decide +kernel
theorem dX1_leastPains_5 : decode cX1_leastPains 5 = .ok (.if_icmp .ge 19, 3) := by decide +kernel
theorem dX1_leastPains_8 : decode cX1_leastPains 8 = .ok (.aload_n 0, 1) := by decide +kernel
theorem dX1_leastPains_9 : decode cX1_leastPains 9 = .ok (.getfield 17, 3) := by decide +kernel
theorem dX1_leastPains_12 : decode cX1_leastPains 12 = .ok (.iload_n 2, 1) := by decide +kernel
theorem dX1_leastPains_13 : decode cX1_leastPains 13 = .ok (.aaload, 1) := by decide +kernel
theorem dX1_leastPains_14 : decode cX1_leastPains 14 = .ok (.iconst 0, 1) := by decide +kernel
theorem dX1_leastPains_15 : decode cX1_leastPains 15 = .ok (.invokestatic 30, 3) := by decide +kernel
theorem dX1_leastPains_18 : decode cX1_leastPains 18 = .ok (.iinc 2 1, 3) := by decide +kernel
theorem dX1_leastPains_21 : decode cX1_leastPains 21 = .ok (.goto (-19), 3) := by decide +kernel
theorem dX1_leastPains_24 : decode cX1_leastPains 24 = .ok (.iconst 0, 1) := by decide +kernel
theorem dX1_leastPains_25 : decode cX1_leastPains 25 = .ok (.istore_n 2, 1) := by decide +kernel
theorem dX1_leastPains_26 : decode cX1_leastPains 26 = .ok (.iconst 0, 1) := by decide +kernel
theorem dX1_leastPains_27 : decode cX1_leastPains 27 = .ok (.istore_n 3, 1) := by decide +kernel
theorem dX1_leastPains_28 : decode cX1_leastPains 28 = .ok (.iload_n 3, 1) := by decide +kernel
theorem dX1_leastPains_29 : decode cX1_leastPains 29 = .ok (.bipush 60, 2) := by decide +kernel
theorem dX1_leastPains_31 : decode cX1_leastPains 31 = .ok (.if_icmp .gt 67, 3) := by decide +kernel
theorem dX1_leastPains_34 : decode cX1_leastPains 34 = .ok (.aload_n 0, 1) := by decide +kernel
theorem dX1_leastPains_35 : decode cX1_leastPains 35 = .ok (.invokevirtual 36, 3) := by decide +kernel
theorem dX1_leastPains_38 : decode cX1_leastPains 38 = .ok (.ifCond .eq 60, 3) := by decide +kernel
theorem dX1_leastPains_41 : decode cX1_leastPains 41 = .ok (.aload_n 0, 1) := by decide +kernel
theorem dX1_leastPains_42 : decode cX1_leastPains 42 = .ok (.aload_n 1, 1) := by decide +kernel
theorem dX1_leastPains_43 : decode cX1_leastPains 43 = .ok (.invokevirtual 40, 3) := by decide +kernel
theorem dX1_leastPains_46 : decode cX1_leastPains 46 = .ok (.aload_n 0, 1) := by decide +kernel
theorem dX1_leastPains_47 : decode cX1_leastPains 47 = .ok (.invokevirtual 44, 3) := by decide +kernel
theorem dX1_leastPains_50 : decode cX1_leastPains 50 = .ok (.istore 4, 2) := by decide +kernel
theorem dX1_leastPains_52 : decode cX1_leastPains 52 = .ok (.iload 4, 2) := by decide +kernel
theorem dX1_leastPains_54 : decode cX1_leastPains 54 = .ok (.invokestatic 26, 3) := by decide +kernel
theorem dX1_leastPains_57 : decode cX1_leastPains 57 = .ok (.ifCond .ne 6, 3) := by decide +kernel
theorem dX1_leastPains_60 : decode cX1_leastPains 60 = .ok (.bipush (-2), 2) := by decide +kernel
theorem dX1_leastPains_62 : decode cX1_leastPains 62 = .ok (.ireturn, 1) := by decide +kernel
theorem dX1_leastPains_63 : decode cX1_leastPains 63 = .ok (.aload_n 0, 1) := by decide +kernel
theorem dX1_leastPains_64 : decode cX1_leastPains 64 = .ok (.iload 4, 2) := by decide +kernel
theorem dX1_leastPains_66 : decode cX1_leastPains 66 = .ok (.invokevirtual 48, 3) := by decide +kernel
theorem dX1_leastPains_69 : decode cX1_leastPains 69 = .ok (.istore 5, 2) := by decide +kernel
theorem dX1_leastPains_71 : decode cX1_leastPains 71 = .ok (.iload_n 2, 1) := by decide +kernel
theorem dX1_leastPains_72 : decode cX1_leastPains 72 = .ok (.iload 5, 2) := by decide +kernel
theorem dX1_leastPains_74 : decode cX1_leastPains 74 = .ok (.aload_n 0, 1) := by decide +kernel
theorem dX1_leastPains_75 : decode cX1_leastPains 75 = .ok (.getfield 20, 3) := by decide +kernel
theorem dX1_leastPains_78 : decode cX1_leastPains 78 = .ok (.iload 4, 2) := by decide +kernel
theorem dX1_leastPains_80 : decode cX1_leastPains 80 = .ok (.iaload, 1) := by decide +kernel
theorem dX1_leastPains_81 : decode cX1_leastPains 81 = .ok (.imul, 1) := by decide +kernel
theorem dX1_leastPains_82 : decode cX1_leastPains 82 = .ok (.iadd, 1) := by decide +kernel
theorem dX1_leastPains_83 : decode cX1_leastPains 83 = .ok (.istore_n 2, 1) := by decide +kernel
theorem dX1_leastPains_84 : decode cX1_leastPains 84 = .ok (.aload_n 0, 1) := by decide +kernel
theorem dX1_leastPains_85 : decode cX1_leastPains 85 = .ok (.iload 4, 2) := by decide +kernel
theorem dX1_leastPains_87 : decode cX1_leastPains 87 = .ok (.iload 5, 2) := by decide +kernel
theorem dX1_leastPains_89 : decode cX1_leastPains 89 = .ok (.invokevirtual 52, 3) := by decide +kernel
theorem dX1_leastPains_92 : decode cX1_leastPains 92 = .ok (.iinc 3 1, 3) := by decide +kernel
theorem dX1_leastPains_95 : decode cX1_leastPains 95 = .ok (.goto (-67), 3) := by decide +kernel
theorem dX1_leastPains_98 : decode cX1_leastPains 98 = .ok (.iload_n 2, 1) := by decide +kernel
theorem dX1_leastPains_99 : decode cX1_leastPains 99 = .ok (.ireturn, 1) := by decide +kernel
theorem dX1_isAnyShort_0 : decode cX1_isAnyShort 0 = .ok (.iconst 0, 1) := by decide +kernel
theorem dX1_isAnyShort_1 : decode cX1_isAnyShort 1 = .ok (.istore_n 1, 1) := by decide +kernel
theorem dX1_isAnyShort_2 : decode cX1_isAnyShort 2 = .ok (.iload_n 1, 1) := by decide +kernel
theorem dX1_isAnyShort_3 : decode cX1_isAnyShort 3 = .ok (.bipush 12, 2) := by decide +kernel
theorem dX1_isAnyShort_5 : decode cX1_isAnyShort 5 = .ok (.if_icmp .ge 20, 3) := by decide +kernel
theorem dX1_isAnyShort_8 : decode cX1_isAnyShort 8 = .ok (.aload_n 0, 1) := by decide +kernel
theorem dX1_isAnyShort_9 : decode cX1_isAnyShort 9 = .ok (.getfield 9, 3) := by decide +kernel
theorem dX1_isAnyShort_12 : decode cX1_isAnyShort 12 = .ok (.iload_n 1, 1) := by decide +kernel
theorem dX1_isAnyShort_13 : decode cX1_isAnyShort 13 = .ok (.iaload, 1) := by decide +kernel
theorem dX1_isAnyShort_14 : decode cX1_isAnyShort 14 = .ok (.ifCond .ge 5, 3) := by decide +kernel
theorem dX1_isAnyShort_17 : decode cX1_isAnyShort 17 = .ok (.iconst 1, 1) := by decide +kernel
theorem dX1_isAnyShort_18 : decode cX1_isAnyShort 18 = .ok (.ireturn, 1) := by decide +kernel
theorem dX1_isAnyShort_19 : decode cX1_isAnyShort 19 = .ok (.iinc 1 1, 3) := by decide +kernel
theorem dX1_isAnyShort_22 : decode cX1_isAnyShort 22 = .ok (.goto (-20), 3) := by decide +kernel
theorem dX1_isAnyShort_25 : decode cX1_isAnyShort 25 = .ok (.iconst 0, 1) := by decide +kernel
theorem dX1_isAnyShort_26 : decode cX1_isAnyShort 26 = .ok (.ireturn, 1) := by decide +kernel
set_option maxRecDepth 20000 in
theorem ggX1_spread_X1_spreadFrom : GoodIn wsX1_spread wsX1_spreadFrom := goodIn_ca (goodIn_ca (lq_goor _ [9, 1, 4, 10, 11, 12, 13, 14, 15, 16, 17, 18, 19, 20, 21, 22, 8, 23, 24] rfl (by decide +kernel)) (goodIn_sub (fun _ h => List.mem_cons_of_mem _ (List.mem_append_left _ (List.mem_append_right _ h))) gw_wsX10)) (goodIn_sub (fun _ h => List.mem_cons_of_mem _ (List.mem_append_right _ h)) gw_wsX30)
set_option maxRecDepth 20000 in
theorem gX1_spread_X1_spreadFrom : GoodIn wsX1_spread (wsV RX1 57 RX1 yX1_spreadFrom wsX1_spreadFrom) := goodIn_app (lq_goor _ [5, 6, 7, 8] rfl (by decide +kernel)) ggX1_spread_X1_spreadFrom
theorem dX1_spread_0 : decode cX1_spread 0 = .ok (.iconst 0, 1) := by decide +kernel
theorem dX1_spread_1 : decode cX1_spread 1 = .ok (.istore_n 2, 1) := by decide +kernel
theorem dX1_spread_2 : decode cX1_spread 2 = .ok (.iload_n 2, 1) := by decide +kernel
theorem dX1_spread_3 : decode cX1_spread 3 = .ok (.bipush 12, 2) := by decide +kernel
theorem dX1_spread_5 : decode cX1_spread 5 = .ok (.if_icmp .ge 37, 3) := by decide +kernel
theorem dX1_spread_8 : decode cX1_spread 8 = .ok (.aload_n 0, 1) := by decide +kernel
theorem dX1_spread_9 : decode cX1_spread 9 = .ok (.getfield 20, 3) := by decide +kernel
theorem dX1_spread_12 : decode cX1_spread 12 = .ok (.iload_n 2, 1) := by decide +kernel
theorem dX1_spread_13 : decode cX1_spread 13 = .ok (.aload_n 0, 1) := by decide +kernel
theorem dX1_spread_14 : decode cX1_spread 14 = .ok (.getfield 9, 3) := by decide +kernel
theorem dX1_spread_17 : decode cX1_spread 17 = .ok (.iload_n 2, 1) := by decide +kernel
theorem dX1_spread_18 : decode cX1_spread 18 = .ok (.iaload, 1) := by decide +kernel
theorem dX1_spread_19 : decode cX1_spread 19 = .ok (.ifCond .le 7, 3) := by decide +kernel
theorem dX1_spread_22 : decode cX1_spread 22 = .ok (.iconst 0, 1) := by decide +kernel
theorem dX1_spread_23 : decode cX1_spread 23 = .ok (.goto 5, 3) := by decide +kernel
theorem dX1_spread_26 : decode cX1_spread 26 = .ok (.ldc 56, 2) := by decide +kernel
theorem dX1_spread_28 : decode cX1_spread 28 = .ok (.iastore, 1) := by decide +kernel
theorem dX1_spread_29 : decode cX1_spread 29 = .ok (.aload_n 0, 1) := by decide +kernel
theorem dX1_spread_30 : decode cX1_spread 30 = .ok (.getfield 23, 3) := by decide +kernel
theorem dX1_spread_33 : decode cX1_spread 33 = .ok (.iload_n 2, 1) := by decide +kernel
theorem dX1_spread_34 : decode cX1_spread 34 = .ok (.iconst (-1), 1) := by decide +kernel
theorem dX1_spread_35 : decode cX1_spread 35 = .ok (.iastore, 1) := by decide +kernel
theorem dX1_spread_36 : decode cX1_spread 36 = .ok (.iinc 2 1, 3) := by decide +kernel
theorem dX1_spread_39 : decode cX1_spread 39 = .ok (.goto (-37), 3) := by decide +kernel
theorem dX1_spread_42 : decode cX1_spread 42 = .ok (.iconst 1, 1) := by decide +kernel
theorem dX1_spread_43 : decode cX1_spread 43 = .ok (.istore_n 2, 1) := by decide +kernel
theorem dX1_spread_44 : decode cX1_spread 44 = .ok (.iconst 0, 1) := by decide +kernel
theorem dX1_spread_45 : decode cX1_spread 45 = .ok (.istore_n 3, 1) := by decide +kernel
theorem dX1_spread_46 : decode cX1_spread 46 = .ok (.iload_n 3, 1) := by decide +kernel
theorem dX1_spread_47 : decode cX1_spread 47 = .ok (.bipush 12, 2) := by decide +kernel
theorem dX1_spread_49 : decode cX1_spread 49 = .ok (.if_icmp .ge 55, 3) := by decide +kernel
theorem dX1_spread_52 : decode cX1_spread 52 = .ok (.iload_n 2, 1) := by decide +kernel
theorem dX1_spread_53 : decode cX1_spread 53 = .ok (.ifCond .eq 51, 3) := by decide +kernel
theorem dX1_spread_56 : decode cX1_spread 56 = .ok (.iconst 0, 1) := by decide +kernel
theorem dX1_spread_57 : decode cX1_spread 57 = .ok (.istore_n 2, 1) := by decide +kernel
theorem dX1_spread_58 : decode cX1_spread 58 = .ok (.iconst 0, 1) := by decide +kernel
theorem dX1_spread_59 : decode cX1_spread 59 = .ok (.istore 4, 2) := by decide +kernel
theorem dX1_spread_61 : decode cX1_spread 61 = .ok (.iload 4, 2) := by decide +kernel
theorem dX1_spread_63 : decode cX1_spread 63 = .ok (.bipush 12, 2) := by decide +kernel
theorem dX1_spread_65 : decode cX1_spread 65 = .ok (.if_icmp .ge 33, 3) := by decide +kernel
theorem dX1_spread_68 : decode cX1_spread 68 = .ok (.aload_n 0, 1) := by decide +kernel
theorem dX1_spread_69 : decode cX1_spread 69 = .ok (.getfield 20, 3) := by decide +kernel
theorem dX1_spread_72 : decode cX1_spread 72 = .ok (.iload 4, 2) := by decide +kernel
theorem dX1_spread_74 : decode cX1_spread 74 = .ok (.iaload, 1) := by decide +kernel
theorem dX1_spread_75 : decode cX1_spread 75 = .ok (.ldc 56, 2) := by decide +kernel
theorem dX1_spread_77 : decode cX1_spread 77 = .ok (.if_icmp .ge 15, 3) := by decide +kernel
theorem dX1_spread_80 : decode cX1_spread 80 = .ok (.aload_n 0, 1) := by decide +kernel
theorem dX1_spread_81 : decode cX1_spread 81 = .ok (.iload 4, 2) := by decide +kernel
theorem dX1_spread_83 : decode cX1_spread 83 = .ok (.aload_n 1, 1) := by decide +kernel
theorem dX1_spread_84 : decode cX1_spread 84 = .ok (.invokevirtual 57, 3) := by decide +kernel
theorem dX1_spread_87 : decode cX1_spread 87 = .ok (.ifCond .eq 5, 3) := by decide +kernel
theorem dX1_spread_90 : decode cX1_spread 90 = .ok (.iconst 1, 1) := by decide +kernel
theorem dX1_spread_91 : decode cX1_spread 91 = .ok (.istore_n 2, 1) := by decide +kernel
theorem dX1_spread_92 : decode cX1_spread 92 = .ok (.iinc 4 1, 3) := by decide +kernel
theorem dX1_spread_95 : decode cX1_spread 95 = .ok (.goto (-34), 3) := by decide +kernel
theorem dX1_spread_98 : decode cX1_spread 98 = .ok (.iinc 3 1, 3) := by decide +kernel
theorem dX1_spread_101 : decode cX1_spread 101 = .ok (.goto (-55), 3) := by decide +kernel
theorem dX1_spread_104 : decode cX1_spread 104 = .ok (.return_, 1) := by decide +kernel
set_option maxRecDepth 20000 in
theorem ggX1_spreadFrom_X8_isStation : GoodIn wsX1_spreadFrom wsX8_isStation := lq_goor _ [5] rfl (by decide +kernel)
set_option maxRecDepth 20000 in
theorem gX1_spreadFrom_X8_isStation_n26 : GoodIn wsX1_spreadFrom (wsX8_isStation) := ggX1_spreadFrom_X8_isStation
set_option maxRecDepth 20000 in
theorem ggX1_spreadFrom_X3_timeBetween : GoodIn wsX1_spreadFrom wsX3_timeBetween := goodIn_ca (lq_goor _ [10, 11, 12, 3, 4, 5] rfl (by decide +kernel)) (goodIn_sub (fun _ h => List.mem_cons_of_mem _ (List.mem_append_right _ h)) gw_wsX30)
set_option maxRecDepth 20000 in
theorem gX1_spreadFrom_X3_timeBetween : GoodIn wsX1_spreadFrom (wsV RX1 61 RX3 yX3_timeBetween wsX3_timeBetween) := goodIn_app (lq_goor _ [6, 7, 8, 9] rfl (by decide +kernel)) ggX1_spreadFrom_X3_timeBetween
set_option maxRecDepth 20000 in
theorem ggX1_spreadFrom_X1_painsOver : GoodIn wsX1_spreadFrom wsX1_painsOver := goodIn_ca (lq_goor _ [17, 18, 3, 4, 5] rfl (by decide +kernel)) (goodIn_sub (fun _ h => List.mem_cons_of_mem _ (List.mem_append_left _ (List.mem_append_right _ h))) gw_wsX10)
set_option maxRecDepth 20000 in
theorem gX1_spreadFrom_X1_painsOver : GoodIn wsX1_spreadFrom (wsV RX1 67 RX1 yX1_painsOver wsX1_painsOver) := goodIn_app (lq_goor _ [13, 14, 15, 16] rfl (by decide +kernel)) ggX1_spreadFrom_X1_painsOver
theorem dX1_spreadFrom_0 : decode cX1_spreadFrom 0 = .ok (.iconst 0, 1) := by decide +kernel
theorem dX1_spreadFrom_1 : decode cX1_spreadFrom 1 = .ok (.istore_n 3, 1) := by decide +kernel
theorem dX1_spreadFrom_2 : decode cX1_spreadFrom 2 = .ok (.iconst 0, 1) := by decide +kernel
theorem dX1_spreadFrom_3 : decode cX1_spreadFrom 3 = .ok (.istore 4, 2) := by decide +kernel
theorem dX1_spreadFrom_5 : decode cX1_spreadFrom 5 = .ok (.iload 4, 2) := by decide +kernel
theorem dX1_spreadFrom_7 : decode cX1_spreadFrom 7 = .ok (.bipush 12, 2) := by decide +kernel
theorem dX1_spreadFrom_9 : decode cX1_spreadFrom 9 = .ok (.if_icmp .ge 90, 3) := by decide +kernel
theorem dX1_spreadFrom_12 : decode cX1_spreadFrom 12 = .ok (.iload_n 1, 1) := by decide +kernel
theorem dX1_spreadFrom_13 : decode cX1_spreadFrom 13 = .ok (.invokestatic 26, 3) := by decide +kernel
theorem dX1_spreadFrom_16 : decode cX1_spreadFrom 16 = .ok (.ifCond .eq 83, 3) := by decide +kernel
theorem dX1_spreadFrom_19 : decode cX1_spreadFrom 19 = .ok (.aload_n 2, 1) := by decide +kernel
theorem dX1_spreadFrom_20 : decode cX1_spreadFrom 20 = .ok (.iload_n 1, 1) := by decide +kernel
theorem dX1_spreadFrom_21 : decode cX1_spreadFrom 21 = .ok (.iload 4, 2) := by decide +kernel
theorem dX1_spreadFrom_23 : decode cX1_spreadFrom 23 = .ok (.invokevirtual 61, 3) := by decide +kernel
theorem dX1_spreadFrom_26 : decode cX1_spreadFrom 26 = .ok (.istore 5, 2) := by decide +kernel
theorem dX1_spreadFrom_28 : decode cX1_spreadFrom 28 = .ok (.iload 5, 2) := by decide +kernel
theorem dX1_spreadFrom_30 : decode cX1_spreadFrom 30 = .ok (.iconst (-1), 1) := by decide +kernel
theorem dX1_spreadFrom_31 : decode cX1_spreadFrom 31 = .ok (.if_icmp .eq 62, 3) := by decide +kernel
theorem dX1_spreadFrom_34 : decode cX1_spreadFrom 34 = .ok (.aload_n 0, 1) := by decide +kernel
theorem dX1_spreadFrom_35 : decode cX1_spreadFrom 35 = .ok (.getfield 20, 3) := by decide +kernel
theorem dX1_spreadFrom_38 : decode cX1_spreadFrom 38 = .ok (.iload_n 1, 1) := by decide +kernel
theorem dX1_spreadFrom_39 : decode cX1_spreadFrom 39 = .ok (.iaload, 1) := by decide +kernel
theorem dX1_spreadFrom_40 : decode cX1_spreadFrom 40 = .ok (.aload_n 0, 1) := by decide +kernel
theorem dX1_spreadFrom_41 : decode cX1_spreadFrom 41 = .ok (.iload_n 1, 1) := by decide +kernel
theorem dX1_spreadFrom_42 : decode cX1_spreadFrom 42 = .ok (.iload 4, 2) := by decide +kernel
theorem dX1_spreadFrom_44 : decode cX1_spreadFrom 44 = .ok (.iload 5, 2) := by decide +kernel
theorem dX1_spreadFrom_46 : decode cX1_spreadFrom 46 = .ok (.invokevirtual 67, 3) := by decide +kernel
theorem dX1_spreadFrom_49 : decode cX1_spreadFrom 49 = .ok (.iadd, 1) := by decide +kernel
theorem dX1_spreadFrom_50 : decode cX1_spreadFrom 50 = .ok (.aload_n 0, 1) := by decide +kernel
theorem dX1_spreadFrom_51 : decode cX1_spreadFrom 51 = .ok (.getfield 20, 3) := by decide +kernel
theorem dX1_spreadFrom_54 : decode cX1_spreadFrom 54 = .ok (.iload 4, 2) := by decide +kernel
theorem dX1_spreadFrom_56 : decode cX1_spreadFrom 56 = .ok (.iaload, 1) := by decide +kernel
theorem dX1_spreadFrom_57 : decode cX1_spreadFrom 57 = .ok (.if_icmp .ge 36, 3) := by decide +kernel
theorem dX1_spreadFrom_60 : decode cX1_spreadFrom 60 = .ok (.aload_n 0, 1) := by decide +kernel
theorem dX1_spreadFrom_61 : decode cX1_spreadFrom 61 = .ok (.getfield 20, 3) := by decide +kernel
theorem dX1_spreadFrom_64 : decode cX1_spreadFrom 64 = .ok (.iload 4, 2) := by decide +kernel
theorem dX1_spreadFrom_66 : decode cX1_spreadFrom 66 = .ok (.aload_n 0, 1) := by decide +kernel
theorem dX1_spreadFrom_67 : decode cX1_spreadFrom 67 = .ok (.getfield 20, 3) := by decide +kernel
theorem dX1_spreadFrom_70 : decode cX1_spreadFrom 70 = .ok (.iload_n 1, 1) := by decide +kernel
theorem dX1_spreadFrom_71 : decode cX1_spreadFrom 71 = .ok (.iaload, 1) := by decide +kernel
theorem dX1_spreadFrom_72 : decode cX1_spreadFrom 72 = .ok (.aload_n 0, 1) := by decide +kernel
theorem dX1_spreadFrom_73 : decode cX1_spreadFrom 73 = .ok (.iload_n 1, 1) := by decide +kernel
theorem dX1_spreadFrom_74 : decode cX1_spreadFrom 74 = .ok (.iload 4, 2) := by decide +kernel
theorem dX1_spreadFrom_76 : decode cX1_spreadFrom 76 = .ok (.iload 5, 2) := by decide +kernel
theorem dX1_spreadFrom_78 : decode cX1_spreadFrom 78 = .ok (.invokevirtual 67, 3) := by decide +kernel
theorem dX1_spreadFrom_81 : decode cX1_spreadFrom 81 = .ok (.iadd, 1) := by decide +kernel
theorem dX1_spreadFrom_82 : decode cX1_spreadFrom 82 = .ok (.iastore, 1) := by decide +kernel
theorem dX1_spreadFrom_83 : decode cX1_spreadFrom 83 = .ok (.aload_n 0, 1) := by decide +kernel
theorem dX1_spreadFrom_84 : decode cX1_spreadFrom 84 = .ok (.getfield 23, 3) := by decide +kernel
theorem dX1_spreadFrom_87 : decode cX1_spreadFrom 87 = .ok (.iload 4, 2) := by decide +kernel
theorem dX1_spreadFrom_89 : decode cX1_spreadFrom 89 = .ok (.iload_n 1, 1) := by decide +kernel
theorem dX1_spreadFrom_90 : decode cX1_spreadFrom 90 = .ok (.iastore, 1) := by decide +kernel
theorem dX1_spreadFrom_91 : decode cX1_spreadFrom 91 = .ok (.iconst 1, 1) := by decide +kernel
theorem dX1_spreadFrom_92 : decode cX1_spreadFrom 92 = .ok (.istore_n 3, 1) := by decide +kernel
theorem dX1_spreadFrom_93 : decode cX1_spreadFrom 93 = .ok (.iinc 4 1, 3) := by decide +kernel
theorem dX1_spreadFrom_96 : decode cX1_spreadFrom 96 = .ok (.goto (-91), 3) := by decide +kernel
theorem dX1_spreadFrom_99 : decode cX1_spreadFrom 99 = .ok (.iload_n 3, 1) := by decide +kernel
theorem dX1_spreadFrom_100 : decode cX1_spreadFrom 100 = .ok (.ireturn, 1) := by decide +kernel
set_option maxRecDepth 20000 in
theorem ggX1_painsOver_X8_isStation : GoodIn wsX1_painsOver wsX8_isStation := lq_goor _ [4] rfl (by decide +kernel)
set_option maxRecDepth 20000 in
theorem gX1_painsOver_X8_isStation_n26 : GoodIn wsX1_painsOver (wsX8_isStation) := ggX1_painsOver_X8_isStation
theorem dX1_painsOver_0 : decode cX1_painsOver 0 = .ok (.iload_n 1, 1) := by decide +kernel
theorem dX1_painsOver_1 : decode cX1_painsOver 1 = .ok (.invokestatic 26, 3) := by decide +kernel
theorem dX1_painsOver_4 : decode cX1_painsOver 4 = .ok (.ifCond .eq 26, 3) := by decide +kernel
theorem dX1_painsOver_7 : decode cX1_painsOver 7 = .ok (.iload_n 2, 1) := by decide +kernel
theorem dX1_painsOver_8 : decode cX1_painsOver 8 = .ok (.invokestatic 26, 3) := by decide +kernel
theorem dX1_painsOver_11 : decode cX1_painsOver 11 = .ok (.ifCond .eq 19, 3) := by decide +kernel
theorem dX1_painsOver_14 : decode cX1_painsOver 14 = .ok (.aload_n 0, 1) := by decide +kernel
theorem dX1_painsOver_15 : decode cX1_painsOver 15 = .ok (.getfield 17, 3) := by decide +kernel
theorem dX1_painsOver_18 : decode cX1_painsOver 18 = .ok (.iload_n 2, 1) := by decide +kernel
theorem dX1_painsOver_19 : decode cX1_painsOver 19 = .ok (.aaload, 1) := by decide +kernel
theorem dX1_painsOver_20 : decode cX1_painsOver 20 = .ok (.iload_n 1, 1) := by decide +kernel
theorem dX1_painsOver_21 : decode cX1_painsOver 21 = .ok (.iaload, 1) := by decide +kernel
theorem dX1_painsOver_22 : decode cX1_painsOver 22 = .ok (.ifCond .le 8, 3) := by decide +kernel
theorem dX1_painsOver_25 : decode cX1_painsOver 25 = .ok (.iload_n 3, 1) := by decide +kernel
theorem dX1_painsOver_26 : decode cX1_painsOver 26 = .ok (.ineg, 1) := by decide +kernel
theorem dX1_painsOver_27 : decode cX1_painsOver 27 = .ok (.goto 4, 3) := by decide +kernel
theorem dX1_painsOver_30 : decode cX1_painsOver 30 = .ok (.iload_n 3, 1) := by decide +kernel
theorem dX1_painsOver_31 : decode cX1_painsOver 31 = .ok (.ireturn, 1) := by decide +kernel
theorem dX1_nearestShort_0 : decode cX1_nearestShort 0 = .ok (.iconst (-1), 1) := by decide +kernel
theorem dX1_nearestShort_1 : decode cX1_nearestShort 1 = .ok (.istore_n 1, 1) := by decide +kernel
theorem dX1_nearestShort_2 : decode cX1_nearestShort 2 = .ok (.ldc 56, 2) := by decide +kernel
theorem dX1_nearestShort_4 : decode cX1_nearestShort 4 = .ok (.istore_n 2, 1) := by decide +kernel
theorem dX1_nearestShort_5 : decode cX1_nearestShort 5 = .ok (.iconst 0, 1) := by decide +kernel
theorem dX1_nearestShort_6 : decode cX1_nearestShort 6 = .ok (.istore_n 3, 1) := by decide +kernel
theorem dX1_nearestShort_7 : decode cX1_nearestShort 7 = .ok (.iload_n 3, 1) := by decide +kernel
theorem dX1_nearestShort_8 : decode cX1_nearestShort 8 = .ok (.bipush 12, 2) := by decide +kernel
theorem dX1_nearestShort_10 : decode cX1_nearestShort 10 = .ok (.if_icmp .ge 37, 3) := by decide +kernel
theorem dX1_nearestShort_13 : decode cX1_nearestShort 13 = .ok (.aload_n 0, 1) := by decide +kernel
theorem dX1_nearestShort_14 : decode cX1_nearestShort 14 = .ok (.getfield 9, 3) := by decide +kernel
theorem dX1_nearestShort_17 : decode cX1_nearestShort 17 = .ok (.iload_n 3, 1) := by decide +kernel
theorem dX1_nearestShort_18 : decode cX1_nearestShort 18 = .ok (.iaload, 1) := by decide +kernel
theorem dX1_nearestShort_19 : decode cX1_nearestShort 19 = .ok (.ifCond .ge 22, 3) := by decide +kernel
theorem dX1_nearestShort_22 : decode cX1_nearestShort 22 = .ok (.aload_n 0, 1) := by decide +kernel
theorem dX1_nearestShort_23 : decode cX1_nearestShort 23 = .ok (.getfield 20, 3) := by decide +kernel
theorem dX1_nearestShort_26 : decode cX1_nearestShort 26 = .ok (.iload_n 3, 1) := by decide +kernel
theorem dX1_nearestShort_27 : decode cX1_nearestShort 27 = .ok (.iaload, 1) := by decide +kernel
theorem dX1_nearestShort_28 : decode cX1_nearestShort 28 = .ok (.iload_n 2, 1) := by decide +kernel
theorem dX1_nearestShort_29 : decode cX1_nearestShort 29 = .ok (.if_icmp .ge 12, 3) := by decide +kernel
theorem dX1_nearestShort_32 : decode cX1_nearestShort 32 = .ok (.iload_n 3, 1) := by decide +kernel
theorem dX1_nearestShort_33 : decode cX1_nearestShort 33 = .ok (.istore_n 1, 1) := by decide +kernel
theorem dX1_nearestShort_34 : decode cX1_nearestShort 34 = .ok (.aload_n 0, 1) := by decide +kernel
theorem dX1_nearestShort_35 : decode cX1_nearestShort 35 = .ok (.getfield 20, 3) := by decide +kernel
theorem dX1_nearestShort_38 : decode cX1_nearestShort 38 = .ok (.iload_n 3, 1) := by decide +kernel
theorem dX1_nearestShort_39 : decode cX1_nearestShort 39 = .ok (.iaload, 1) := by decide +kernel
theorem dX1_nearestShort_40 : decode cX1_nearestShort 40 = .ok (.istore_n 2, 1) := by decide +kernel
theorem dX1_nearestShort_41 : decode cX1_nearestShort 41 = .ok (.iinc 3 1, 3) := by decide +kernel
theorem dX1_nearestShort_44 : decode cX1_nearestShort 44 = .ok (.goto (-37), 3) := by decide +kernel
theorem dX1_nearestShort_47 : decode cX1_nearestShort 47 = .ok (.iload_n 1, 1) := by decide +kernel
theorem dX1_nearestShort_48 : decode cX1_nearestShort 48 = .ok (.ireturn, 1) := by decide +kernel
set_option maxRecDepth 20000 in
theorem ggX1_horsesAlong_X8_isStation : GoodIn wsX1_horsesAlong wsX8_isStation := lq_goor _ [10] rfl (by decide +kernel)
set_option maxRecDepth 20000 in
theorem gX1_horsesAlong_X8_isStation_n26 : GoodIn wsX1_horsesAlong (wsX8_isStation) := ggX1_horsesAlong_X8_isStation
theorem dX1_horsesAlong_0 : decode cX1_horsesAlong 0 = .ok (.iload_n 1, 1) := by decide +kernel
theorem dX1_horsesAlong_1 : decode cX1_horsesAlong 1 = .ok (.invokestatic 26, 3) := by decide +kernel
theorem dX1_horsesAlong_4 : decode cX1_horsesAlong 4 = .ok (.ifCond .ne 5, 3) := by decide +kernel
theorem dX1_horsesAlong_7 : decode cX1_horsesAlong 7 = .ok (.iconst 0, 1) := by decide +kernel
theorem dX1_horsesAlong_8 : decode cX1_horsesAlong 8 = .ok (.ireturn, 1) := by decide +kernel
theorem dX1_horsesAlong_9 : decode cX1_horsesAlong 9 = .ok (.aload_n 0, 1) := by decide +kernel
theorem dX1_horsesAlong_10 : decode cX1_horsesAlong 10 = .ok (.getfield 9, 3) := by decide +kernel
theorem dX1_horsesAlong_13 : decode cX1_horsesAlong 13 = .ok (.iload_n 1, 1) := by decide +kernel
theorem dX1_horsesAlong_14 : decode cX1_horsesAlong 14 = .ok (.iaload, 1) := by decide +kernel
theorem dX1_horsesAlong_15 : decode cX1_horsesAlong 15 = .ok (.ineg, 1) := by decide +kernel
theorem dX1_horsesAlong_16 : decode cX1_horsesAlong 16 = .ok (.istore_n 2, 1) := by decide +kernel
theorem dX1_horsesAlong_17 : decode cX1_horsesAlong 17 = .ok (.iload_n 1, 1) := by decide +kernel
theorem dX1_horsesAlong_18 : decode cX1_horsesAlong 18 = .ok (.istore_n 3, 1) := by decide +kernel
theorem dX1_horsesAlong_19 : decode cX1_horsesAlong 19 = .ok (.iconst 0, 1) := by decide +kernel
theorem dX1_horsesAlong_20 : decode cX1_horsesAlong 20 = .ok (.istore 4, 2) := by decide +kernel
theorem dX1_horsesAlong_22 : decode cX1_horsesAlong 22 = .ok (.iload 4, 2) := by decide +kernel
theorem dX1_horsesAlong_24 : decode cX1_horsesAlong 24 = .ok (.bipush 12, 2) := by decide +kernel
theorem dX1_horsesAlong_26 : decode cX1_horsesAlong 26 = .ok (.if_icmp .ge 58, 3) := by decide +kernel
theorem dX1_horsesAlong_29 : decode cX1_horsesAlong 29 = .ok (.aload_n 0, 1) := by decide +kernel
theorem dX1_horsesAlong_30 : decode cX1_horsesAlong 30 = .ok (.getfield 23, 3) := by decide +kernel
theorem dX1_horsesAlong_33 : decode cX1_horsesAlong 33 = .ok (.iload_n 3, 1) := by decide +kernel
theorem dX1_horsesAlong_34 : decode cX1_horsesAlong 34 = .ok (.iaload, 1) := by decide +kernel
theorem dX1_horsesAlong_35 : decode cX1_horsesAlong 35 = .ok (.invokestatic 26, 3) := by decide +kernel
theorem dX1_horsesAlong_38 : decode cX1_horsesAlong 38 = .ok (.ifCond .eq 46, 3) := by decide +kernel
theorem dX1_horsesAlong_41 : decode cX1_horsesAlong 41 = .ok (.aload_n 0, 1) := by decide +kernel
theorem dX1_horsesAlong_42 : decode cX1_horsesAlong 42 = .ok (.getfield 23, 3) := by decide +kernel
theorem dX1_horsesAlong_45 : decode cX1_horsesAlong 45 = .ok (.iload_n 3, 1) := by decide +kernel
theorem dX1_horsesAlong_46 : decode cX1_horsesAlong 46 = .ok (.iaload, 1) := by decide +kernel
theorem dX1_horsesAlong_47 : decode cX1_horsesAlong 47 = .ok (.istore 5, 2) := by decide +kernel
theorem dX1_horsesAlong_49 : decode cX1_horsesAlong 49 = .ok (.aload_n 0, 1) := by decide +kernel
theorem dX1_horsesAlong_50 : decode cX1_horsesAlong 50 = .ok (.getfield 17, 3) := by decide +kernel
theorem dX1_horsesAlong_53 : decode cX1_horsesAlong 53 = .ok (.iload_n 3, 1) := by decide +kernel
theorem dX1_horsesAlong_54 : decode cX1_horsesAlong 54 = .ok (.aaload, 1) := by decide +kernel
theorem dX1_horsesAlong_55 : decode cX1_horsesAlong 55 = .ok (.iload 5, 2) := by decide +kernel
theorem dX1_horsesAlong_57 : decode cX1_horsesAlong 57 = .ok (.iaload, 1) := by decide +kernel
theorem dX1_horsesAlong_58 : decode cX1_horsesAlong 58 = .ok (.ifCond .le 17, 3) := by decide +kernel
theorem dX1_horsesAlong_61 : decode cX1_horsesAlong 61 = .ok (.iload_n 2, 1) := by decide +kernel
theorem dX1_horsesAlong_62 : decode cX1_horsesAlong 62 = .ok (.aload_n 0, 1) := by decide +kernel
theorem dX1_horsesAlong_63 : decode cX1_horsesAlong 63 = .ok (.getfield 17, 3) := by decide +kernel
theorem dX1_horsesAlong_66 : decode cX1_horsesAlong 66 = .ok (.iload_n 3, 1) := by decide +kernel
theorem dX1_horsesAlong_67 : decode cX1_horsesAlong 67 = .ok (.aaload, 1) := by decide +kernel
theorem dX1_horsesAlong_68 : decode cX1_horsesAlong 68 = .ok (.iload 5, 2) := by decide +kernel
theorem dX1_horsesAlong_70 : decode cX1_horsesAlong 70 = .ok (.iaload, 1) := by decide +kernel
theorem dX1_horsesAlong_71 : decode cX1_horsesAlong 71 = .ok (.invokestatic 71, 3) := by decide +kernel
theorem dX1_horsesAlong_74 : decode cX1_horsesAlong 74 = .ok (.istore_n 2, 1) := by decide +kernel
theorem dX1_horsesAlong_75 : decode cX1_horsesAlong 75 = .ok (.iload 5, 2) := by decide +kernel
theorem dX1_horsesAlong_77 : decode cX1_horsesAlong 77 = .ok (.istore_n 3, 1) := by decide +kernel
theorem dX1_horsesAlong_78 : decode cX1_horsesAlong 78 = .ok (.iinc 4 1, 3) := by decide +kernel
theorem dX1_horsesAlong_81 : decode cX1_horsesAlong 81 = .ok (.goto (-59), 3) := by decide +kernel
theorem dX1_horsesAlong_84 : decode cX1_horsesAlong 84 = .ok (.iload_n 2, 1) := by decide +kernel
theorem dX1_horsesAlong_85 : decode cX1_horsesAlong 85 = .ok (.aload_n 0, 1) := by decide +kernel
theorem dX1_horsesAlong_86 : decode cX1_horsesAlong 86 = .ok (.getfield 9, 3) := by decide +kernel
theorem dX1_horsesAlong_89 : decode cX1_horsesAlong 89 = .ok (.iload_n 3, 1) := by decide +kernel
theorem dX1_horsesAlong_90 : decode cX1_horsesAlong 90 = .ok (.iaload, 1) := by decide +kernel
theorem dX1_horsesAlong_91 : decode cX1_horsesAlong 91 = .ok (.invokestatic 71, 3) := by decide +kernel
theorem dX1_horsesAlong_94 : decode cX1_horsesAlong 94 = .ok (.ireturn, 1) := by decide +kernel
set_option maxRecDepth 20000 in
theorem ggX1_leadAlong_X8_isStation : GoodIn wsX1_leadAlong wsX8_isStation := lq_goor _ [6] rfl (by decide +kernel)
set_option maxRecDepth 20000 in
theorem gX1_leadAlong_X8_isStation_n26 : GoodIn wsX1_leadAlong (wsX8_isStation) := ggX1_leadAlong_X8_isStation
theorem dX1_leadAlong_0 : decode cX1_leadAlong 0 = .ok (.iload_n 1, 1) := by decide +kernel
theorem dX1_leadAlong_1 : decode cX1_leadAlong 1 = .ok (.invokestatic 26, 3) := by decide +kernel
theorem dX1_leadAlong_4 : decode cX1_leadAlong 4 = .ok (.ifCond .ne 4, 3) := by decide +kernel
theorem dX1_leadAlong_7 : decode cX1_leadAlong 7 = .ok (.return_, 1) := by decide +kernel
theorem dX1_leadAlong_8 : decode cX1_leadAlong 8 = .ok (.aload_n 0, 1) := by decide +kernel
theorem dX1_leadAlong_9 : decode cX1_leadAlong 9 = .ok (.getfield 9, 3) := by decide +kernel
theorem dX1_leadAlong_12 : decode cX1_leadAlong 12 = .ok (.iload_n 1, 1) := by decide +kernel
theorem dX1_leadAlong_13 : decode cX1_leadAlong 13 = .ok (.dup2, 1) := by decide +kernel
theorem dX1_leadAlong_14 : decode cX1_leadAlong 14 = .ok (.iaload, 1) := by decide +kernel
theorem dX1_leadAlong_15 : decode cX1_leadAlong 15 = .ok (.iload_n 2, 1) := by decide +kernel
theorem dX1_leadAlong_16 : decode cX1_leadAlong 16 = .ok (.iadd, 1) := by decide +kernel
theorem dX1_leadAlong_17 : decode cX1_leadAlong 17 = .ok (.iastore, 1) := by decide +kernel
theorem dX1_leadAlong_18 : decode cX1_leadAlong 18 = .ok (.iload_n 1, 1) := by decide +kernel
theorem dX1_leadAlong_19 : decode cX1_leadAlong 19 = .ok (.istore_n 3, 1) := by decide +kernel
theorem dX1_leadAlong_20 : decode cX1_leadAlong 20 = .ok (.iconst 0, 1) := by decide +kernel
theorem dX1_leadAlong_21 : decode cX1_leadAlong 21 = .ok (.istore 4, 2) := by decide +kernel
theorem dX1_leadAlong_23 : decode cX1_leadAlong 23 = .ok (.iload 4, 2) := by decide +kernel
theorem dX1_leadAlong_25 : decode cX1_leadAlong 25 = .ok (.bipush 12, 2) := by decide +kernel
theorem dX1_leadAlong_27 : decode cX1_leadAlong 27 = .ok (.if_icmp .ge 73, 3) := by decide +kernel
theorem dX1_leadAlong_30 : decode cX1_leadAlong 30 = .ok (.aload_n 0, 1) := by decide +kernel
theorem dX1_leadAlong_31 : decode cX1_leadAlong 31 = .ok (.getfield 23, 3) := by decide +kernel
theorem dX1_leadAlong_34 : decode cX1_leadAlong 34 = .ok (.iload_n 3, 1) := by decide +kernel
theorem dX1_leadAlong_35 : decode cX1_leadAlong 35 = .ok (.iaload, 1) := by decide +kernel
theorem dX1_leadAlong_36 : decode cX1_leadAlong 36 = .ok (.invokestatic 26, 3) := by decide +kernel
theorem dX1_leadAlong_39 : decode cX1_leadAlong 39 = .ok (.ifCond .eq 61, 3) := by decide +kernel
theorem dX1_leadAlong_42 : decode cX1_leadAlong 42 = .ok (.aload_n 0, 1) := by decide +kernel
theorem dX1_leadAlong_43 : decode cX1_leadAlong 43 = .ok (.getfield 23, 3) := by decide +kernel
theorem dX1_leadAlong_46 : decode cX1_leadAlong 46 = .ok (.iload_n 3, 1) := by decide +kernel
theorem dX1_leadAlong_47 : decode cX1_leadAlong 47 = .ok (.iaload, 1) := by decide +kernel
theorem dX1_leadAlong_48 : decode cX1_leadAlong 48 = .ok (.istore 5, 2) := by decide +kernel
theorem dX1_leadAlong_50 : decode cX1_leadAlong 50 = .ok (.aload_n 0, 1) := by decide +kernel
theorem dX1_leadAlong_51 : decode cX1_leadAlong 51 = .ok (.getfield 17, 3) := by decide +kernel
theorem dX1_leadAlong_54 : decode cX1_leadAlong 54 = .ok (.iload_n 3, 1) := by decide +kernel
theorem dX1_leadAlong_55 : decode cX1_leadAlong 55 = .ok (.aaload, 1) := by decide +kernel
theorem dX1_leadAlong_56 : decode cX1_leadAlong 56 = .ok (.iload 5, 2) := by decide +kernel
theorem dX1_leadAlong_58 : decode cX1_leadAlong 58 = .ok (.iaload, 1) := by decide +kernel
theorem dX1_leadAlong_59 : decode cX1_leadAlong 59 = .ok (.ifCond .le 19, 3) := by decide +kernel
theorem dX1_leadAlong_62 : decode cX1_leadAlong 62 = .ok (.aload_n 0, 1) := by decide +kernel
theorem dX1_leadAlong_63 : decode cX1_leadAlong 63 = .ok (.getfield 17, 3) := by decide +kernel
theorem dX1_leadAlong_66 : decode cX1_leadAlong 66 = .ok (.iload_n 3, 1) := by decide +kernel
theorem dX1_leadAlong_67 : decode cX1_leadAlong 67 = .ok (.aaload, 1) := by decide +kernel
theorem dX1_leadAlong_68 : decode cX1_leadAlong 68 = .ok (.iload 5, 2) := by decide +kernel
theorem dX1_leadAlong_70 : decode cX1_leadAlong 70 = .ok (.dup2, 1) := by decide +kernel
theorem dX1_leadAlong_71 : decode cX1_leadAlong 71 = .ok (.iaload, 1) := by decide +kernel
theorem dX1_leadAlong_72 : decode cX1_leadAlong 72 = .ok (.iload_n 2, 1) := by decide +kernel
theorem dX1_leadAlong_73 : decode cX1_leadAlong 73 = .ok (.isub, 1) := by decide +kernel
theorem dX1_leadAlong_74 : decode cX1_leadAlong 74 = .ok (.iastore, 1) := by decide +kernel
theorem dX1_leadAlong_75 : decode cX1_leadAlong 75 = .ok (.goto 16, 3) := by decide +kernel
theorem dX1_leadAlong_78 : decode cX1_leadAlong 78 = .ok (.aload_n 0, 1) := by decide +kernel
theorem dX1_leadAlong_79 : decode cX1_leadAlong 79 = .ok (.getfield 17, 3) := by decide +kernel
theorem dX1_leadAlong_82 : decode cX1_leadAlong 82 = .ok (.iload 5, 2) := by decide +kernel
theorem dX1_leadAlong_84 : decode cX1_leadAlong 84 = .ok (.aaload, 1) := by decide +kernel
theorem dX1_leadAlong_85 : decode cX1_leadAlong 85 = .ok (.iload_n 3, 1) := by decide +kernel
theorem dX1_leadAlong_86 : decode cX1_leadAlong 86 = .ok (.dup2, 1) := by decide +kernel
theorem dX1_leadAlong_87 : decode cX1_leadAlong 87 = .ok (.iaload, 1) := by decide +kernel
theorem dX1_leadAlong_88 : decode cX1_leadAlong 88 = .ok (.iload_n 2, 1) := by decide +kernel
theorem dX1_leadAlong_89 : decode cX1_leadAlong 89 = .ok (.iadd, 1) := by decide +kernel
theorem dX1_leadAlong_90 : decode cX1_leadAlong 90 = .ok (.iastore, 1) := by decide +kernel
theorem dX1_leadAlong_91 : decode cX1_leadAlong 91 = .ok (.iload 5, 2) := by decide +kernel
theorem dX1_leadAlong_93 : decode cX1_leadAlong 93 = .ok (.istore_n 3, 1) := by decide +kernel
theorem dX1_leadAlong_94 : decode cX1_leadAlong 94 = .ok (.iinc 4 1, 3) := by decide +kernel
theorem dX1_leadAlong_97 : decode cX1_leadAlong 97 = .ok (.goto (-74), 3) := by decide +kernel
theorem dX1_leadAlong_100 : decode cX1_leadAlong 100 = .ok (.aload_n 0, 1) := by decide +kernel
theorem dX1_leadAlong_101 : decode cX1_leadAlong 101 = .ok (.getfield 9, 3) := by decide +kernel
theorem dX1_leadAlong_104 : decode cX1_leadAlong 104 = .ok (.iload_n 3, 1) := by decide +kernel
theorem dX1_leadAlong_105 : decode cX1_leadAlong 105 = .ok (.dup2, 1) := by decide +kernel
theorem dX1_leadAlong_106 : decode cX1_leadAlong 106 = .ok (.iaload, 1) := by decide +kernel
theorem dX1_leadAlong_107 : decode cX1_leadAlong 107 = .ok (.iload_n 2, 1) := by decide +kernel
theorem dX1_leadAlong_108 : decode cX1_leadAlong 108 = .ok (.isub, 1) := by decide +kernel
theorem dX1_leadAlong_109 : decode cX1_leadAlong 109 = .ok (.iastore, 1) := by decide +kernel
theorem dX1_leadAlong_110 : decode cX1_leadAlong 110 = .ok (.return_, 1) := by decide +kernel
set_option maxRecDepth 20000 in
theorem ggX2_init_J7_fill_53178 : GoodIn wsX2_init wsJ7_fill_53178 := lq_goor _ [13] rfl (by decide +kernel)
set_option maxRecDepth 20000 in
theorem gX2_init_J7_fill_53178 : GoodIn wsX2_init (va_wsS RX2 28 yJ7_fill_53178 wsJ7_fill_53178) := goodIn_app (lq_goor _ [10, 11, 12] rfl (by decide +kernel)) ggX2_init_J7_fill_53178
theorem dX2_init_0 : decode cX2_init 0 = .ok (.aload_n 0, 1) := by decide +kernel
theorem dX2_init_1 : decode cX2_init 1 = .ok (.invokespecial 3, 3) := by decide +kernel
theorem dX2_init_4 : decode cX2_init 4 = .ok (.aload_n 0, 1) := by decide +kernel
theorem dX2_init_5 : decode cX2_init 5 = .ok (.bipush 12, 2) := by decide +kernel
theorem dX2_init_7 : decode cX2_init 7 = .ok (.newarray .int, 2) := by decide +kernel
theorem dX2_init_9 : decode cX2_init 9 = .ok (.putfield 9, 3) := by decide +kernel
theorem dX2_init_12 : decode cX2_init 12 = .ok (.aload_n 0, 1) := by decide +kernel
theorem dX2_init_13 : decode cX2_init 13 = .ok (.iconst 0, 1) := by decide +kernel
theorem dX2_init_14 : decode cX2_init 14 = .ok (.putfield 15, 3) := by decide +kernel
theorem dX2_init_17 : decode cX2_init 17 = .ok (.aload_n 0, 1) := by decide +kernel
theorem dX2_init_18 : decode cX2_init 18 = .ok (.iload_n 1, 1) := by decide +kernel
theorem dX2_init_19 : decode cX2_init 19 = .ok (.putfield 19, 3) := by decide +kernel
theorem dX2_init_22 : decode cX2_init 22 = .ok (.aload_n 0, 1) := by decide +kernel
theorem dX2_init_23 : decode cX2_init 23 = .ok (.iload_n 2, 1) := by decide +kernel
theorem dX2_init_24 : decode cX2_init 24 = .ok (.putfield 22, 3) := by decide +kernel
theorem dX2_init_27 : decode cX2_init 27 = .ok (.aload_n 0, 1) := by decide +kernel
theorem dX2_init_28 : decode cX2_init 28 = .ok (.aload_n 3, 1) := by decide +kernel
theorem dX2_init_29 : decode cX2_init 29 = .ok (.putfield 25, 3) := by decide +kernel
theorem dX2_init_32 : decode cX2_init 32 = .ok (.aload_n 0, 1) := by decide +kernel
theorem dX2_init_33 : decode cX2_init 33 = .ok (.getfield 9, 3) := by decide +kernel
theorem dX2_init_36 : decode cX2_init 36 = .ok (.iconst (-1), 1) := by decide +kernel
theorem dX2_init_37 : decode cX2_init 37 = .ok (.invokestatic 28, 3) := by decide +kernel
theorem dX2_init_40 : decode cX2_init 40 = .ok (.return_, 1) := by decide +kernel
theorem dX2_isUnderWay_0 : decode cX2_isUnderWay 0 = .ok (.aload_n 0, 1) := by decide +kernel
theorem dX2_isUnderWay_1 : decode cX2_isUnderWay 1 = .ok (.getfield 15, 3) := by decide +kernel
theorem dX2_isUnderWay_4 : decode cX2_isUnderWay 4 = .ok (.ifCond .eq 11, 3) := by decide +kernel
theorem dX2_isUnderWay_7 : decode cX2_isUnderWay 7 = .ok (.aload_n 0, 1) := by decide +kernel
theorem dX2_isUnderWay_8 : decode cX2_isUnderWay 8 = .ok (.getfield 15, 3) := by decide +kernel
theorem dX2_isUnderWay_11 : decode cX2_isUnderWay 11 = .ok (.iconst 1, 1) := by decide +kernel
theorem dX2_isUnderWay_12 : decode cX2_isUnderWay 12 = .ok (.if_icmp .ne 7, 3) := by decide +kernel
theorem dX2_isUnderWay_15 : decode cX2_isUnderWay 15 = .ok (.iconst 1, 1) := by decide +kernel
theorem dX2_isUnderWay_16 : decode cX2_isUnderWay 16 = .ok (.goto 4, 3) := by decide +kernel
theorem dX2_isUnderWay_19 : decode cX2_isUnderWay 19 = .ok (.iconst 0, 1) := by decide +kernel
theorem dX2_isUnderWay_20 : decode cX2_isUnderWay 20 = .ok (.ireturn, 1) := by decide +kernel
theorem dX2_stationOfWay_0 : decode cX2_stationOfWay 0 = .ok (.iload_n 1, 1) := by decide +kernel
theorem dX2_stationOfWay_1 : decode cX2_stationOfWay 1 = .ok (.ifCond .lt 21, 3) := by decide +kernel
theorem dX2_stationOfWay_4 : decode cX2_stationOfWay 4 = .ok (.iload_n 1, 1) := by decide +kernel
theorem dX2_stationOfWay_5 : decode cX2_stationOfWay 5 = .ok (.aload_n 0, 1) := by decide +kernel
theorem dX2_stationOfWay_6 : decode cX2_stationOfWay 6 = .ok (.getfield 25, 3) := by decide +kernel
theorem dX2_stationOfWay_9 : decode cX2_stationOfWay 9 = .ok (.arraylength, 1) := by decide +kernel
theorem dX2_stationOfWay_10 : decode cX2_stationOfWay 10 = .ok (.if_icmp .ge 12, 3) := by decide +kernel
theorem dX2_stationOfWay_13 : decode cX2_stationOfWay 13 = .ok (.aload_n 0, 1) := by decide +kernel
theorem dX2_stationOfWay_14 : decode cX2_stationOfWay 14 = .ok (.getfield 25, 3) := by decide +kernel
theorem dX2_stationOfWay_17 : decode cX2_stationOfWay 17 = .ok (.iload_n 1, 1) := by decide +kernel
theorem dX2_stationOfWay_18 : decode cX2_stationOfWay 18 = .ok (.iaload, 1) := by decide +kernel
theorem dX2_stationOfWay_19 : decode cX2_stationOfWay 19 = .ok (.goto 4, 3) := by decide +kernel
theorem dX2_stationOfWay_22 : decode cX2_stationOfWay 22 = .ok (.iconst (-1), 1) := by decide +kernel
theorem dX2_stationOfWay_23 : decode cX2_stationOfWay 23 = .ok (.ireturn, 1) := by decide +kernel
set_option maxRecDepth 20000 in
theorem ggX2_lastStation_X2_stationOfWay : GoodIn wsX2_lastStation wsX2_stationOfWay := goodIn_ca (lq_goor _ [6, 7] rfl (by decide +kernel)) (goodIn_sub (fun _ h => List.mem_cons_of_mem _ (List.mem_append_right _ h)) gw_wsX20)
set_option maxRecDepth 20000 in
theorem gX2_lastStation_X2_stationOfWay : GoodIn wsX2_lastStation (wsV RX2 37 RX2 yX2_stationOfWay wsX2_stationOfWay) := goodIn_app (lq_goor _ [2, 3, 4, 5] rfl (by decide +kernel)) ggX2_lastStation_X2_stationOfWay
theorem dX2_lastStation_0 : decode cX2_lastStation 0 = .ok (.aload_n 0, 1) := by decide +kernel
theorem dX2_lastStation_1 : decode cX2_lastStation 1 = .ok (.aload_n 0, 1) := by decide +kernel
theorem dX2_lastStation_2 : decode cX2_lastStation 2 = .ok (.getfield 34, 3) := by decide +kernel
theorem dX2_lastStation_5 : decode cX2_lastStation 5 = .ok (.iconst 1, 1) := by decide +kernel
theorem dX2_lastStation_6 : decode cX2_lastStation 6 = .ok (.isub, 1) := by decide +kernel
theorem dX2_lastStation_7 : decode cX2_lastStation 7 = .ok (.invokevirtual 37, 3) := by decide +kernel
theorem dX2_lastStation_10 : decode cX2_lastStation 10 = .ok (.ireturn, 1) := by decide +kernel
set_option maxRecDepth 20000 in
theorem ggX2_nextStation_X2_stationOfWay : GoodIn wsX2_nextStation wsX2_stationOfWay := goodIn_ca (lq_goor _ [6, 7] rfl (by decide +kernel)) (goodIn_sub (fun _ h => List.mem_cons_of_mem _ (List.mem_append_right _ h)) gw_wsX20)
set_option maxRecDepth 20000 in
theorem gX2_nextStation_X2_stationOfWay : GoodIn wsX2_nextStation (wsV RX2 37 RX2 yX2_stationOfWay wsX2_stationOfWay) := goodIn_app (lq_goor _ [2, 3, 4, 5] rfl (by decide +kernel)) ggX2_nextStation_X2_stationOfWay
theorem dX2_nextStation_0 : decode cX2_nextStation 0 = .ok (.aload_n 0, 1) := by decide +kernel
theorem dX2_nextStation_1 : decode cX2_nextStation 1 = .ok (.aload_n 0, 1) := by decide +kernel
theorem dX2_nextStation_2 : decode cX2_nextStation 2 = .ok (.getfield 34, 3) := by decide +kernel
theorem dX2_nextStation_5 : decode cX2_nextStation 5 = .ok (.invokevirtual 37, 3) := by decide +kernel
theorem dX2_nextStation_8 : decode cX2_nextStation 8 = .ok (.ireturn, 1) := by decide +kernel
set_option maxRecDepth 20000 in
theorem ggX2_newsKnownSince_X8_isStation : GoodIn wsX2_newsKnownSince wsX8_isStation := lq_goor _ [4] rfl (by decide +kernel)
set_option maxRecDepth 20000 in
theorem gX2_newsKnownSince_X8_isStation_n41 : GoodIn wsX2_newsKnownSince (wsX8_isStation) := ggX2_newsKnownSince_X8_isStation
theorem dX2_newsKnownSince_0 : decode cX2_newsKnownSince 0 = .ok (.iload_n 1, 1) := by decide +kernel
theorem dX2_newsKnownSince_1 : decode cX2_newsKnownSince 1 = .ok (.invokestatic 41, 3) := by decide +kernel
theorem dX2_newsKnownSince_4 : decode cX2_newsKnownSince 4 = .ok (.ifCond .eq 12, 3) := by decide +kernel
theorem dX2_newsKnownSince_7 : decode cX2_newsKnownSince 7 = .ok (.aload_n 0, 1) := by decide +kernel
theorem dX2_newsKnownSince_8 : decode cX2_newsKnownSince 8 = .ok (.getfield 9, 3) := by decide +kernel
theorem dX2_newsKnownSince_11 : decode cX2_newsKnownSince 11 = .ok (.iload_n 1, 1) := by decide +kernel
theorem dX2_newsKnownSince_12 : decode cX2_newsKnownSince 12 = .ok (.iaload, 1) := by decide +kernel
theorem dX2_newsKnownSince_13 : decode cX2_newsKnownSince 13 = .ok (.goto 4, 3) := by decide +kernel
theorem dX2_newsKnownSince_16 : decode cX2_newsKnownSince 16 = .ok (.iconst (-1), 1) := by decide +kernel
theorem dX2_newsKnownSince_17 : decode cX2_newsKnownSince 17 = .ok (.ireturn, 1) := by decide +kernel
theorem dX2_horseRidden_0 : decode cX2_horseRidden 0 = .ok (.aload_n 0, 1) := by decide +kernel
theorem dX2_horseRidden_1 : decode cX2_horseRidden 1 = .ok (.getfield 15, 3) := by decide +kernel
theorem dX2_horseRidden_4 : decode cX2_horseRidden 4 = .ok (.iconst 1, 1) := by decide +kernel
theorem dX2_horseRidden_5 : decode cX2_horseRidden 5 = .ok (.if_icmp .ne 20, 3) := by decide +kernel
theorem dX2_horseRidden_8 : decode cX2_horseRidden 8 = .ok (.aload_n 0, 1) := by decide +kernel
theorem dX2_horseRidden_9 : decode cX2_horseRidden 9 = .ok (.getfield 45, 3) := by decide +kernel
theorem dX2_horseRidden_12 : decode cX2_horseRidden 12 = .ok (.ifnull 13, 3) := by decide +kernel
theorem dX2_horseRidden_15 : decode cX2_horseRidden 15 = .ok (.aload_n 0, 1) := by decide +kernel
theorem dX2_horseRidden_16 : decode cX2_horseRidden 16 = .ok (.getfield 45, 3) := by decide +kernel
theorem dX2_horseRidden_19 : decode cX2_horseRidden 19 = .ok (.getfield 49, 3) := by decide +kernel
theorem dX2_horseRidden_22 : decode cX2_horseRidden 22 = .ok (.goto 4, 3) := by decide +kernel
theorem dX2_horseRidden_25 : decode cX2_horseRidden 25 = .ok (.iconst (-1), 1) := by decide +kernel
theorem dX2_horseRidden_26 : decode cX2_horseRidden 26 = .ok (.ireturn, 1) := by decide +kernel
theorem dX2_leaveOn_0 : decode cX2_leaveOn 0 = .ok (.aload_n 0, 1) := by decide +kernel
theorem dX2_leaveOn_1 : decode cX2_leaveOn 1 = .ok (.aload_n 1, 1) := by decide +kernel
theorem dX2_leaveOn_2 : decode cX2_leaveOn 2 = .ok (.putfield 45, 3) := by decide +kernel
theorem dX2_leaveOn_5 : decode cX2_leaveOn 5 = .ok (.aload_n 0, 1) := by decide +kernel
theorem dX2_leaveOn_6 : decode cX2_leaveOn 6 = .ok (.iload_n 2, 1) := by decide +kernel
theorem dX2_leaveOn_7 : decode cX2_leaveOn 7 = .ok (.putfield 54, 3) := by decide +kernel
theorem dX2_leaveOn_10 : decode cX2_leaveOn 10 = .ok (.aload_n 0, 1) := by decide +kernel
theorem dX2_leaveOn_11 : decode cX2_leaveOn 11 = .ok (.iload_n 3, 1) := by decide +kernel
theorem dX2_leaveOn_12 : decode cX2_leaveOn 12 = .ok (.putfield 57, 3) := by decide +kernel
theorem dX2_leaveOn_15 : decode cX2_leaveOn 15 = .ok (.aload_n 0, 1) := by decide +kernel
theorem dX2_leaveOn_16 : decode cX2_leaveOn 16 = .ok (.iconst 1, 1) := by decide +kernel
theorem dX2_leaveOn_17 : decode cX2_leaveOn 17 = .ok (.putfield 15, 3) := by decide +kernel
theorem dX2_leaveOn_20 : decode cX2_leaveOn 20 = .ok (.return_, 1) := by decide +kernel
set_option maxRecDepth 20000 in
theorem ggX2_comeToNextStation_X2_nextStation : GoodIn wsX2_comeToNextStation wsX2_nextStation := goodIn_ca (lq_goor _ [10, 3, 11, 12, 13, 9, 14, 4] rfl (by decide +kernel)) (goodIn_sub (fun _ h => List.mem_cons_of_mem _ (List.mem_append_right _ h)) gw_wsX20)
set_option maxRecDepth 20000 in
theorem gX2_comeToNextStation_X2_nextStation : GoodIn wsX2_comeToNextStation (wsV RX2 60 RX2 yX2_nextStation wsX2_nextStation) := goodIn_app (lq_goor _ [6, 7, 8, 9] rfl (by decide +kernel)) ggX2_comeToNextStation_X2_nextStation
set_option maxRecDepth 20000 in
theorem ggX2_comeToNextStation_X8_isStation : GoodIn wsX2_comeToNextStation wsX8_isStation := lq_goor _ [17] rfl (by decide +kernel)
set_option maxRecDepth 20000 in
theorem gX2_comeToNextStation_X8_isStation_n41 : GoodIn wsX2_comeToNextStation (wsX8_isStation) := ggX2_comeToNextStation_X8_isStation
theorem dX2_comeToNextStation_0 : decode cX2_comeToNextStation 0 = .ok (.aload_n 0, 1) := by decide +kernel
theorem dX2_comeToNextStation_1 : decode cX2_comeToNextStation 1 = .ok (.invokevirtual 60, 3) := by decide +kernel
theorem dX2_comeToNextStation_4 : decode cX2_comeToNextStation 4 = .ok (.istore_n 2, 1) := by decide +kernel
theorem dX2_comeToNextStation_5 : decode cX2_comeToNextStation 5 = .ok (.iload_n 2, 1) := by decide +kernel
theorem dX2_comeToNextStation_6 : decode cX2_comeToNextStation 6 = .ok (.invokestatic 41, 3) := by decide +kernel
theorem dX2_comeToNextStation_9 : decode cX2_comeToNextStation 9 = .ok (.ifCond .ne 4, 3) := by decide +kernel
theorem dX2_comeToNextStation_12 : decode cX2_comeToNextStation 12 = .ok (.return_, 1) := by decide +kernel
theorem dX2_comeToNextStation_13 : decode cX2_comeToNextStation 13 = .ok (.aload_n 0, 1) := by decide +kernel
theorem dX2_comeToNextStation_14 : decode cX2_comeToNextStation 14 = .ok (.getfield 9, 3) := by decide +kernel
theorem dX2_comeToNextStation_17 : decode cX2_comeToNextStation 17 = .ok (.iload_n 2, 1) := by decide +kernel
theorem dX2_comeToNextStation_18 : decode cX2_comeToNextStation 18 = .ok (.iload_n 1, 1) := by decide +kernel
theorem dX2_comeToNextStation_19 : decode cX2_comeToNextStation 19 = .ok (.iastore, 1) := by decide +kernel
theorem dX2_comeToNextStation_20 : decode cX2_comeToNextStation 20 = .ok (.aload_n 0, 1) := by decide +kernel
theorem dX2_comeToNextStation_21 : decode cX2_comeToNextStation 21 = .ok (.iload_n 1, 1) := by decide +kernel
theorem dX2_comeToNextStation_22 : decode cX2_comeToNextStation 22 = .ok (.putfield 64, 3) := by decide +kernel
theorem dX2_comeToNextStation_25 : decode cX2_comeToNextStation 25 = .ok (.aload_n 0, 1) := by decide +kernel
theorem dX2_comeToNextStation_26 : decode cX2_comeToNextStation 26 = .ok (.dup, 1) := by decide +kernel
theorem dX2_comeToNextStation_27 : decode cX2_comeToNextStation 27 = .ok (.getfield 34, 3) := by decide +kernel
theorem dX2_comeToNextStation_30 : decode cX2_comeToNextStation 30 = .ok (.iconst 1, 1) := by decide +kernel
theorem dX2_comeToNextStation_31 : decode cX2_comeToNextStation 31 = .ok (.iadd, 1) := by decide +kernel
theorem dX2_comeToNextStation_32 : decode cX2_comeToNextStation 32 = .ok (.putfield 34, 3) := by decide +kernel
theorem dX2_comeToNextStation_35 : decode cX2_comeToNextStation 35 = .ok (.aload_n 0, 1) := by decide +kernel
theorem dX2_comeToNextStation_36 : decode cX2_comeToNextStation 36 = .ok (.aload_n 0, 1) := by decide +kernel
theorem dX2_comeToNextStation_37 : decode cX2_comeToNextStation 37 = .ok (.getfield 34, 3) := by decide +kernel
theorem dX2_comeToNextStation_40 : decode cX2_comeToNextStation 40 = .ok (.aload_n 0, 1) := by decide +kernel
theorem dX2_comeToNextStation_41 : decode cX2_comeToNextStation 41 = .ok (.getfield 25, 3) := by decide +kernel
theorem dX2_comeToNextStation_44 : decode cX2_comeToNextStation 44 = .ok (.arraylength, 1) := by decide +kernel
theorem dX2_comeToNextStation_45 : decode cX2_comeToNextStation 45 = .ok (.if_icmp .ge 7, 3) := by decide +kernel
theorem dX2_comeToNextStation_48 : decode cX2_comeToNextStation 48 = .ok (.iconst 0, 1) := by decide +kernel
theorem dX2_comeToNextStation_49 : decode cX2_comeToNextStation 49 = .ok (.goto 4, 3) := by decide +kernel
theorem dX2_comeToNextStation_52 : decode cX2_comeToNextStation 52 = .ok (.iconst 2, 1) := by decide +kernel
theorem dX2_comeToNextStation_53 : decode cX2_comeToNextStation 53 = .ok (.putfield 15, 3) := by decide +kernel
theorem dX2_comeToNextStation_56 : decode cX2_comeToNextStation 56 = .ok (.return_, 1) := by decide +kernel
theorem dX3_init_0 : decode cX3_init 0 = .ok (.aload_n 0, 1) := by decide +kernel
theorem dX3_init_1 : decode cX3_init 1 = .ok (.invokespecial 3, 3) := by decide +kernel
theorem dX3_init_4 : decode cX3_init 4 = .ok (.aload_n 0, 1) := by decide +kernel
theorem dX3_init_5 : decode cX3_init 5 = .ok (.bipush 12, 2) := by decide +kernel
theorem dX3_init_7 : decode cX3_init 7 = .ok (.bipush 12, 2) := by decide +kernel
theorem dX3_init_9 : decode cX3_init 9 = .ok (.multianewarray 9 2, 4) := by decide +kernel
theorem dX3_init_13 : decode cX3_init 13 = .ok (.putfield 11, 3) := by decide +kernel
theorem dX3_init_16 : decode cX3_init 16 = .ok (.aload_n 0, 1) := by decide +kernel
theorem dX3_init_17 : decode cX3_init 17 = .ok (.bipush 12, 2) := by decide +kernel
theorem dX3_init_19 : decode cX3_init 19 = .ok (.bipush 12, 2) := by decide +kernel
theorem dX3_init_21 : decode cX3_init 21 = .ok (.multianewarray 9 2, 4) := by decide +kernel
theorem dX3_init_25 : decode cX3_init 25 = .ok (.putfield 16, 3) := by decide +kernel
theorem dX3_init_28 : decode cX3_init 28 = .ok (.aload_n 0, 1) := by decide +kernel
theorem dX3_init_29 : decode cX3_init 29 = .ok (.bipush 12, 2) := by decide +kernel
theorem dX3_init_31 : decode cX3_init 31 = .ok (.newarray .int, 2) := by decide +kernel
theorem dX3_init_33 : decode cX3_init 33 = .ok (.putfield 19, 3) := by decide +kernel
theorem dX3_init_36 : decode cX3_init 36 = .ok (.aload_n 0, 1) := by decide +kernel
theorem dX3_init_37 : decode cX3_init 37 = .ok (.bipush 12, 2) := by decide +kernel
theorem dX3_init_39 : decode cX3_init 39 = .ok (.newarray .boolean, 2) := by decide +kernel
theorem dX3_init_41 : decode cX3_init 41 = .ok (.putfield 23, 3) := by decide +kernel
theorem dX3_init_44 : decode cX3_init 44 = .ok (.aload_n 0, 1) := by decide +kernel
theorem dX3_init_45 : decode cX3_init 45 = .ok (.bipush 12, 2) := by decide +kernel
theorem dX3_init_47 : decode cX3_init 47 = .ok (.newarray .int, 2) := by decide +kernel
theorem dX3_init_49 : decode cX3_init 49 = .ok (.putfield 27, 3) := by decide +kernel
theorem dX3_init_52 : decode cX3_init 52 = .ok (.return_, 1) := by decide +kernel
set_option maxRecDepth 20000 in
theorem ggX3_lay_X8_isStation : GoodIn wsX3_lay wsX8_isStation := lq_goor _ [4] rfl (by decide +kernel)
set_option maxRecDepth 20000 in
theorem gX3_lay_X8_isStation_n30 : GoodIn wsX3_lay (wsX8_isStation) := ggX3_lay_X8_isStation
set_option maxRecDepth 20000 in
theorem ggX3_lay_X3_setSnow : GoodIn wsX3_lay wsX3_setSnow := goodIn_ca (lq_goor _ [9, 10, 2, 3, 4] rfl (by decide +kernel)) (goodIn_sub (fun _ h => List.mem_cons_of_mem _ (List.mem_append_right _ h)) gw_wsX30)
set_option maxRecDepth 20000 in
theorem gX3_lay_X3_setSnow : GoodIn wsX3_lay (wsV RX3 34 RX3 yX3_setSnow wsX3_setSnow) := goodIn_app (lq_goor _ [5, 6, 7, 8] rfl (by decide +kernel)) ggX3_lay_X3_setSnow
theorem dX3_lay_0 : decode cX3_lay 0 = .ok (.iload_n 1, 1) := by decide +kernel
theorem dX3_lay_1 : decode cX3_lay 1 = .ok (.invokestatic 30, 3) := by decide +kernel
theorem dX3_lay_4 : decode cX3_lay 4 = .ok (.ifCond .eq 35, 3) := by decide +kernel
theorem dX3_lay_7 : decode cX3_lay 7 = .ok (.iload_n 2, 1) := by decide +kernel
theorem dX3_lay_8 : decode cX3_lay 8 = .ok (.invokestatic 30, 3) := by decide +kernel
theorem dX3_lay_11 : decode cX3_lay 11 = .ok (.ifCond .eq 28, 3) := by decide +kernel
theorem dX3_lay_14 : decode cX3_lay 14 = .ok (.aload_n 0, 1) := by decide +kernel
theorem dX3_lay_15 : decode cX3_lay 15 = .ok (.getfield 11, 3) := by decide +kernel
theorem dX3_lay_18 : decode cX3_lay 18 = .ok (.iload_n 1, 1) := by decide +kernel
theorem dX3_lay_19 : decode cX3_lay 19 = .ok (.aaload, 1) := by decide +kernel
theorem dX3_lay_20 : decode cX3_lay 20 = .ok (.iload_n 2, 1) := by decide +kernel
theorem dX3_lay_21 : decode cX3_lay 21 = .ok (.iload_n 3, 1) := by decide +kernel
theorem dX3_lay_22 : decode cX3_lay 22 = .ok (.iastore, 1) := by decide +kernel
theorem dX3_lay_23 : decode cX3_lay 23 = .ok (.aload_n 0, 1) := by decide +kernel
theorem dX3_lay_24 : decode cX3_lay 24 = .ok (.getfield 11, 3) := by decide +kernel
theorem dX3_lay_27 : decode cX3_lay 27 = .ok (.iload_n 2, 1) := by decide +kernel
theorem dX3_lay_28 : decode cX3_lay 28 = .ok (.aaload, 1) := by decide +kernel
theorem dX3_lay_29 : decode cX3_lay 29 = .ok (.iload_n 1, 1) := by decide +kernel
theorem dX3_lay_30 : decode cX3_lay 30 = .ok (.iload_n 3, 1) := by decide +kernel
theorem dX3_lay_31 : decode cX3_lay 31 = .ok (.iastore, 1) := by decide +kernel
theorem dX3_lay_32 : decode cX3_lay 32 = .ok (.aload_n 0, 1) := by decide +kernel
theorem dX3_lay_33 : decode cX3_lay 33 = .ok (.iload_n 1, 1) := by decide +kernel
theorem dX3_lay_34 : decode cX3_lay 34 = .ok (.iload_n 2, 1) := by decide +kernel
theorem dX3_lay_35 : decode cX3_lay 35 = .ok (.iconst 0, 1) := by decide +kernel
theorem dX3_lay_36 : decode cX3_lay 36 = .ok (.invokevirtual 34, 3) := by decide +kernel
theorem dX3_lay_39 : decode cX3_lay 39 = .ok (.return_, 1) := by decide +kernel
set_option maxRecDepth 20000 in
theorem ggX3_setSnow_X8_isStation : GoodIn wsX3_setSnow wsX8_isStation := lq_goor _ [4] rfl (by decide +kernel)
set_option maxRecDepth 20000 in
theorem gX3_setSnow_X8_isStation_n30 : GoodIn wsX3_setSnow (wsX8_isStation) := ggX3_setSnow_X8_isStation
theorem dX3_setSnow_0 : decode cX3_setSnow 0 = .ok (.iload_n 1, 1) := by decide +kernel
theorem dX3_setSnow_1 : decode cX3_setSnow 1 = .ok (.invokestatic 30, 3) := by decide +kernel
theorem dX3_setSnow_4 : decode cX3_setSnow 4 = .ok (.ifCond .eq 28, 3) := by decide +kernel
theorem dX3_setSnow_7 : decode cX3_setSnow 7 = .ok (.iload_n 2, 1) := by decide +kernel
theorem dX3_setSnow_8 : decode cX3_setSnow 8 = .ok (.invokestatic 30, 3) := by decide +kernel
theorem dX3_setSnow_11 : decode cX3_setSnow 11 = .ok (.ifCond .eq 21, 3) := by decide +kernel
theorem dX3_setSnow_14 : decode cX3_setSnow 14 = .ok (.aload_n 0, 1) := by decide +kernel
theorem dX3_setSnow_15 : decode cX3_setSnow 15 = .ok (.getfield 16, 3) := by decide +kernel
theorem dX3_setSnow_18 : decode cX3_setSnow 18 = .ok (.iload_n 1, 1) := by decide +kernel
theorem dX3_setSnow_19 : decode cX3_setSnow 19 = .ok (.aaload, 1) := by decide +kernel
theorem dX3_setSnow_20 : decode cX3_setSnow 20 = .ok (.iload_n 2, 1) := by decide +kernel
theorem dX3_setSnow_21 : decode cX3_setSnow 21 = .ok (.iload_n 3, 1) := by decide +kernel
theorem dX3_setSnow_22 : decode cX3_setSnow 22 = .ok (.iastore, 1) := by decide +kernel
theorem dX3_setSnow_23 : decode cX3_setSnow 23 = .ok (.aload_n 0, 1) := by decide +kernel
theorem dX3_setSnow_24 : decode cX3_setSnow 24 = .ok (.getfield 16, 3) := by decide +kernel
theorem dX3_setSnow_27 : decode cX3_setSnow 27 = .ok (.iload_n 2, 1) := by decide +kernel
theorem dX3_setSnow_28 : decode cX3_setSnow 28 = .ok (.aaload, 1) := by decide +kernel
theorem dX3_setSnow_29 : decode cX3_setSnow 29 = .ok (.iload_n 1, 1) := by decide +kernel
theorem dX3_setSnow_30 : decode cX3_setSnow 30 = .ok (.iload_n 3, 1) := by decide +kernel
theorem dX3_setSnow_31 : decode cX3_setSnow 31 = .ok (.iastore, 1) := by decide +kernel
theorem dX3_setSnow_32 : decode cX3_setSnow 32 = .ok (.return_, 1) := by decide +kernel
set_option maxRecDepth 20000 in
theorem ggX3_timeBetween_X8_isStation : GoodIn wsX3_timeBetween wsX8_isStation := lq_goor _ [5] rfl (by decide +kernel)
set_option maxRecDepth 20000 in
theorem gX3_timeBetween_X8_isStation_n30 : GoodIn wsX3_timeBetween (wsX8_isStation) := ggX3_timeBetween_X8_isStation
theorem dX3_timeBetween_0 : decode cX3_timeBetween 0 = .ok (.iload_n 1, 1) := by decide +kernel
theorem dX3_timeBetween_1 : decode cX3_timeBetween 1 = .ok (.invokestatic 30, 3) := by decide +kernel
theorem dX3_timeBetween_4 : decode cX3_timeBetween 4 = .ok (.ifCond .eq 21, 3) := by decide +kernel
theorem dX3_timeBetween_7 : decode cX3_timeBetween 7 = .ok (.iload_n 2, 1) := by decide +kernel
theorem dX3_timeBetween_8 : decode cX3_timeBetween 8 = .ok (.invokestatic 30, 3) := by decide +kernel
theorem dX3_timeBetween_11 : decode cX3_timeBetween 11 = .ok (.ifCond .eq 14, 3) := by decide +kernel
theorem dX3_timeBetween_14 : decode cX3_timeBetween 14 = .ok (.aload_n 0, 1) := by decide +kernel
theorem dX3_timeBetween_15 : decode cX3_timeBetween 15 = .ok (.getfield 11, 3) := by decide +kernel
theorem dX3_timeBetween_18 : decode cX3_timeBetween 18 = .ok (.iload_n 1, 1) := by decide +kernel
theorem dX3_timeBetween_19 : decode cX3_timeBetween 19 = .ok (.aaload, 1) := by decide +kernel
theorem dX3_timeBetween_20 : decode cX3_timeBetween 20 = .ok (.iload_n 2, 1) := by decide +kernel
theorem dX3_timeBetween_21 : decode cX3_timeBetween 21 = .ok (.iaload, 1) := by decide +kernel
theorem dX3_timeBetween_22 : decode cX3_timeBetween 22 = .ok (.ifCond .ne 5, 3) := by decide +kernel
theorem dX3_timeBetween_25 : decode cX3_timeBetween 25 = .ok (.iconst (-1), 1) := by decide +kernel
theorem dX3_timeBetween_26 : decode cX3_timeBetween 26 = .ok (.ireturn, 1) := by decide +kernel
theorem dX3_timeBetween_27 : decode cX3_timeBetween 27 = .ok (.aload_n 0, 1) := by decide +kernel
theorem dX3_timeBetween_28 : decode cX3_timeBetween 28 = .ok (.getfield 11, 3) := by decide +kernel
theorem dX3_timeBetween_31 : decode cX3_timeBetween 31 = .ok (.iload_n 1, 1) := by decide +kernel
theorem dX3_timeBetween_32 : decode cX3_timeBetween 32 = .ok (.aaload, 1) := by decide +kernel
theorem dX3_timeBetween_33 : decode cX3_timeBetween 33 = .ok (.iload_n 2, 1) := by decide +kernel
theorem dX3_timeBetween_34 : decode cX3_timeBetween 34 = .ok (.iaload, 1) := by decide +kernel
theorem dX3_timeBetween_35 : decode cX3_timeBetween 35 = .ok (.aload_n 0, 1) := by decide +kernel
theorem dX3_timeBetween_36 : decode cX3_timeBetween 36 = .ok (.getfield 16, 3) := by decide +kernel
theorem dX3_timeBetween_39 : decode cX3_timeBetween 39 = .ok (.iload_n 1, 1) := by decide +kernel
theorem dX3_timeBetween_40 : decode cX3_timeBetween 40 = .ok (.aaload, 1) := by decide +kernel
theorem dX3_timeBetween_41 : decode cX3_timeBetween 41 = .ok (.iload_n 2, 1) := by decide +kernel
theorem dX3_timeBetween_42 : decode cX3_timeBetween 42 = .ok (.iaload, 1) := by decide +kernel
theorem dX3_timeBetween_43 : decode cX3_timeBetween 43 = .ok (.iadd, 1) := by decide +kernel
theorem dX3_timeBetween_44 : decode cX3_timeBetween 44 = .ok (.ireturn, 1) := by decide +kernel
set_option maxRecDepth 20000 in
theorem ggX3_leastTime_X8_isStation : GoodIn wsX3_leastTime wsX8_isStation := lq_goor _ [5] rfl (by decide +kernel)
set_option maxRecDepth 20000 in
theorem gX3_leastTime_X8_isStation_n30 : GoodIn wsX3_leastTime (wsX8_isStation) := ggX3_leastTime_X8_isStation
set_option maxRecDepth 20000 in
theorem ggX3_leastTime_X3_measureTo : GoodIn wsX3_leastTime wsX3_measureTo := goodIn_ca (lq_goor _ [10, 1, 2, 11, 12, 13, 14, 9, 15, 16, 17, 18, 19, 3, 4, 5, 20, 21, 22, 23, 24, 25] rfl (by decide +kernel)) (goodIn_sub (fun _ h => List.mem_cons_of_mem _ (List.mem_append_right _ h)) gw_wsX30)
set_option maxRecDepth 20000 in
theorem gX3_leastTime_X3_measureTo : GoodIn wsX3_leastTime (wsV RX3 38 RX3 yX3_measureTo wsX3_measureTo) := goodIn_app (lq_goor _ [6, 7, 8, 9] rfl (by decide +kernel)) ggX3_leastTime_X3_measureTo
theorem dX3_leastTime_0 : decode cX3_leastTime 0 = .ok (.iload_n 1, 1) := by decide +kernel
theorem dX3_leastTime_1 : decode cX3_leastTime 1 = .ok (.invokestatic 30, 3) := by decide +kernel
theorem dX3_leastTime_4 : decode cX3_leastTime 4 = .ok (.ifCond .eq 10, 3) := by decide +kernel
theorem dX3_leastTime_7 : decode cX3_leastTime 7 = .ok (.iload_n 2, 1) := by decide +kernel
theorem dX3_leastTime_8 : decode cX3_leastTime 8 = .ok (.invokestatic 30, 3) := by decide +kernel
theorem dX3_leastTime_11 : decode cX3_leastTime 11 = .ok (.ifCond .ne 5, 3) := by decide +kernel
theorem dX3_leastTime_14 : decode cX3_leastTime 14 = .ok (.iconst (-1), 1) := by decide +kernel
theorem dX3_leastTime_15 : decode cX3_leastTime 15 = .ok (.ireturn, 1) := by decide +kernel
theorem dX3_leastTime_16 : decode cX3_leastTime 16 = .ok (.aload_n 0, 1) := by decide +kernel
theorem dX3_leastTime_17 : decode cX3_leastTime 17 = .ok (.iload_n 2, 1) := by decide +kernel
theorem dX3_leastTime_18 : decode cX3_leastTime 18 = .ok (.invokevirtual 38, 3) := by decide +kernel
theorem dX3_leastTime_21 : decode cX3_leastTime 21 = .ok (.aload_n 0, 1) := by decide +kernel
theorem dX3_leastTime_22 : decode cX3_leastTime 22 = .ok (.getfield 19, 3) := by decide +kernel
theorem dX3_leastTime_25 : decode cX3_leastTime 25 = .ok (.iload_n 1, 1) := by decide +kernel
theorem dX3_leastTime_26 : decode cX3_leastTime 26 = .ok (.iaload, 1) := by decide +kernel
theorem dX3_leastTime_27 : decode cX3_leastTime 27 = .ok (.ldc 42, 2) := by decide +kernel
theorem dX3_leastTime_29 : decode cX3_leastTime 29 = .ok (.if_icmp .ge 12, 3) := by decide +kernel
theorem dX3_leastTime_32 : decode cX3_leastTime 32 = .ok (.aload_n 0, 1) := by decide +kernel
theorem dX3_leastTime_33 : decode cX3_leastTime 33 = .ok (.getfield 19, 3) := by decide +kernel
theorem dX3_leastTime_36 : decode cX3_leastTime 36 = .ok (.iload_n 1, 1) := by decide +kernel
theorem dX3_leastTime_37 : decode cX3_leastTime 37 = .ok (.iaload, 1) := by decide +kernel
theorem dX3_leastTime_38 : decode cX3_leastTime 38 = .ok (.goto 4, 3) := by decide +kernel
theorem dX3_leastTime_41 : decode cX3_leastTime 41 = .ok (.iconst (-1), 1) := by decide +kernel
theorem dX3_leastTime_42 : decode cX3_leastTime 42 = .ok (.ireturn, 1) := by decide +kernel
set_option maxRecDepth 20000 in
theorem ggX3_findWay_X3_leastTime : GoodIn wsX3_findWay wsX3_leastTime := goodIn_ca (lq_goor _ [6, 7, 8, 9, 10, 11, 12, 13, 14, 5, 15, 16, 17, 18, 19, 20, 21, 22, 23, 24, 25, 26, 27, 28, 29, 30] rfl (by decide +kernel)) (goodIn_sub (fun _ h => List.mem_cons_of_mem _ (List.mem_append_right _ h)) gw_wsX30)
set_option maxRecDepth 20000 in
theorem gX3_findWay_X3_leastTime : GoodIn wsX3_findWay (wsV RX3 43 RX3 yX3_leastTime wsX3_leastTime) := goodIn_app (lq_goor _ [2, 3, 4, 5] rfl (by decide +kernel)) ggX3_findWay_X3_leastTime
set_option maxRecDepth 20000 in
theorem ggX3_findWay_X3_stepFrom : GoodIn wsX3_findWay wsX3_stepFrom := goodIn_ca (lq_goor _ [34, 7, 9, 10, 11, 25, 26, 27, 5, 28, 29, 30] rfl (by decide +kernel)) (goodIn_sub (fun _ h => List.mem_cons_of_mem _ (List.mem_append_right _ h)) gw_wsX30)
set_option maxRecDepth 20000 in
theorem gX3_findWay_X3_stepFrom : GoodIn wsX3_findWay (wsV RX3 47 RX3 yX3_stepFrom wsX3_stepFrom) := goodIn_app (lq_goor _ [31, 32, 33, 5] rfl (by decide +kernel)) ggX3_findWay_X3_stepFrom
set_option maxRecDepth 20000 in
theorem ggX3_findWay_J7_copyOf_59c91 : GoodIn wsX3_findWay wsJ7_copyOf_59c91 := lq_goor _ [38, 39, 40, 41, 42, 43, 44, 45, 46, 47, 48, 49, 50, 51, 52, 53] rfl (by decide +kernel)
set_option maxRecDepth 20000 in
theorem gX3_findWay_J7_copyOf_59c91 : GoodIn wsX3_findWay (va_wsS RX3 51 yJ7_copyOf_59c91 wsJ7_copyOf_59c91) := goodIn_app (lq_goor _ [35, 36, 37] rfl (by decide +kernel)) ggX3_findWay_J7_copyOf_59c91
theorem dX3_findWay_0 : decode cX3_findWay 0 = .ok (.aload_n 0, 1) := by decide +kernel
theorem dX3_findWay_1 : decode cX3_findWay 1 = .ok (.iload_n 1, 1) := by decide +kernel
theorem dX3_findWay_2 : decode cX3_findWay 2 = .ok (.iload_n 2, 1) := by decide +kernel
theorem dX3_findWay_3 : decode cX3_findWay 3 = .ok (.invokevirtual 43, 3) := by decide +kernel
theorem dX3_findWay_6 : decode cX3_findWay 6 = .ok (.iconst (-1), 1) := by decide +kernel
theorem dX3_findWay_7 : decode cX3_findWay 7 = .ok (.if_icmp .ne 5, 3) := by decide +kernel
theorem dX3_findWay_10 : decode cX3_findWay 10 = .ok (.aconst_null, 1) := by decide +kernel
theorem dX3_findWay_11 : decode cX3_findWay 11 = .ok (.areturn, 1) := by decide +kernel
theorem dX3_findWay_12 : decode cX3_findWay 12 = .ok (.iconst 0, 1) := by decide +kernel
theorem dX3_findWay_13 : decode cX3_findWay 13 = .ok (.istore_n 3, 1) := by decide +kernel
theorem dX3_findWay_14 : decode cX3_findWay 14 = .ok (.iload_n 1, 1) := by decide +kernel
theorem dX3_findWay_15 : decode cX3_findWay 15 = .ok (.istore 4, 2) := by decide +kernel
theorem dX3_findWay_17 : decode cX3_findWay 17 = .ok (.iload_n 3, 1) := by decide +kernel
theorem dX3_findWay_18 : decode cX3_findWay 18 = .ok (.bipush 11, 2) := by decide +kernel
theorem dX3_findWay_20 : decode cX3_findWay 20 = .ok (.if_icmp .ge 31, 3) := by decide +kernel
theorem dX3_findWay_23 : decode cX3_findWay 23 = .ok (.iload 4, 2) := by decide +kernel
theorem dX3_findWay_25 : decode cX3_findWay 25 = .ok (.iload_n 2, 1) := by decide +kernel
theorem dX3_findWay_26 : decode cX3_findWay 26 = .ok (.if_icmp .eq 25, 3) := by decide +kernel
theorem dX3_findWay_29 : decode cX3_findWay 29 = .ok (.aload_n 0, 1) := by decide +kernel
theorem dX3_findWay_30 : decode cX3_findWay 30 = .ok (.getfield 27, 3) := by decide +kernel
theorem dX3_findWay_33 : decode cX3_findWay 33 = .ok (.iload_n 3, 1) := by decide +kernel
theorem dX3_findWay_34 : decode cX3_findWay 34 = .ok (.iload 4, 2) := by decide +kernel
theorem dX3_findWay_36 : decode cX3_findWay 36 = .ok (.iastore, 1) := by decide +kernel
theorem dX3_findWay_37 : decode cX3_findWay 37 = .ok (.iinc 3 1, 3) := by decide +kernel
theorem dX3_findWay_40 : decode cX3_findWay 40 = .ok (.aload_n 0, 1) := by decide +kernel
theorem dX3_findWay_41 : decode cX3_findWay 41 = .ok (.iload 4, 2) := by decide +kernel
theorem dX3_findWay_43 : decode cX3_findWay 43 = .ok (.invokevirtual 47, 3) := by decide +kernel
theorem dX3_findWay_46 : decode cX3_findWay 46 = .ok (.istore 4, 2) := by decide +kernel
theorem dX3_findWay_48 : decode cX3_findWay 48 = .ok (.goto (-31), 3) := by decide +kernel
theorem dX3_findWay_51 : decode cX3_findWay 51 = .ok (.aload_n 0, 1) := by decide +kernel
theorem dX3_findWay_52 : decode cX3_findWay 52 = .ok (.getfield 27, 3) := by decide +kernel
theorem dX3_findWay_55 : decode cX3_findWay 55 = .ok (.iload_n 3, 1) := by decide +kernel
theorem dX3_findWay_56 : decode cX3_findWay 56 = .ok (.iload 4, 2) := by decide +kernel
theorem dX3_findWay_58 : decode cX3_findWay 58 = .ok (.iastore, 1) := by decide +kernel
theorem dX3_findWay_59 : decode cX3_findWay 59 = .ok (.aload_n 0, 1) := by decide +kernel
theorem dX3_findWay_60 : decode cX3_findWay 60 = .ok (.getfield 27, 3) := by decide +kernel
theorem dX3_findWay_63 : decode cX3_findWay 63 = .ok (.iload_n 3, 1) := by decide +kernel
theorem dX3_findWay_64 : decode cX3_findWay 64 = .ok (.iconst 1, 1) := by decide +kernel
theorem dX3_findWay_65 : decode cX3_findWay 65 = .ok (.iadd, 1) := by decide +kernel
theorem dX3_findWay_66 : decode cX3_findWay 66 = .ok (.invokestatic 51, 3) := by decide +kernel
theorem dX3_findWay_69 : decode cX3_findWay 69 = .ok (.areturn, 1) := by decide +kernel
set_option maxRecDepth 20000 in
theorem ggX3_stepFrom_X8_isStation : GoodIn wsX3_stepFrom wsX8_isStation := lq_goor _ [4] rfl (by decide +kernel)
set_option maxRecDepth 20000 in
theorem gX3_stepFrom_X8_isStation_n30 : GoodIn wsX3_stepFrom (wsX8_isStation) := ggX3_stepFrom_X8_isStation
set_option maxRecDepth 20000 in
theorem ggX3_stepFrom_X3_timeBetween : GoodIn wsX3_stepFrom wsX3_timeBetween := goodIn_ca (lq_goor _ [9, 10, 11, 2, 3, 4] rfl (by decide +kernel)) (goodIn_sub (fun _ h => List.mem_cons_of_mem _ (List.mem_append_right _ h)) gw_wsX30)
set_option maxRecDepth 20000 in
theorem gX3_stepFrom_X3_timeBetween : GoodIn wsX3_stepFrom (wsV RX3 57 RX3 yX3_timeBetween wsX3_timeBetween) := goodIn_app (lq_goor _ [5, 6, 7, 8] rfl (by decide +kernel)) ggX3_stepFrom_X3_timeBetween
theorem dX3_stepFrom_0 : decode cX3_stepFrom 0 = .ok (.iload_n 1, 1) := by decide +kernel
theorem dX3_stepFrom_1 : decode cX3_stepFrom 1 = .ok (.invokestatic 30, 3) := by decide +kernel
theorem dX3_stepFrom_4 : decode cX3_stepFrom 4 = .ok (.ifCond .eq 48, 3) := by decide +kernel
theorem dX3_stepFrom_7 : decode cX3_stepFrom 7 = .ok (.iconst 0, 1) := by decide +kernel
theorem dX3_stepFrom_8 : decode cX3_stepFrom 8 = .ok (.istore_n 2, 1) := by decide +kernel
theorem dX3_stepFrom_9 : decode cX3_stepFrom 9 = .ok (.iload_n 2, 1) := by decide +kernel
theorem dX3_stepFrom_10 : decode cX3_stepFrom 10 = .ok (.bipush 12, 2) := by decide +kernel
theorem dX3_stepFrom_12 : decode cX3_stepFrom 12 = .ok (.if_icmp .ge 40, 3) := by decide +kernel
theorem dX3_stepFrom_15 : decode cX3_stepFrom 15 = .ok (.aload_n 0, 1) := by decide +kernel
theorem dX3_stepFrom_16 : decode cX3_stepFrom 16 = .ok (.iload_n 1, 1) := by decide +kernel
theorem dX3_stepFrom_17 : decode cX3_stepFrom 17 = .ok (.iload_n 2, 1) := by decide +kernel
theorem dX3_stepFrom_18 : decode cX3_stepFrom 18 = .ok (.invokevirtual 57, 3) := by decide +kernel
theorem dX3_stepFrom_21 : decode cX3_stepFrom 21 = .ok (.istore_n 3, 1) := by decide +kernel
theorem dX3_stepFrom_22 : decode cX3_stepFrom 22 = .ok (.iload_n 3, 1) := by decide +kernel
theorem dX3_stepFrom_23 : decode cX3_stepFrom 23 = .ok (.iconst (-1), 1) := by decide +kernel
theorem dX3_stepFrom_24 : decode cX3_stepFrom 24 = .ok (.if_icmp .eq 22, 3) := by decide +kernel
theorem dX3_stepFrom_27 : decode cX3_stepFrom 27 = .ok (.aload_n 0, 1) := by decide +kernel
theorem dX3_stepFrom_28 : decode cX3_stepFrom 28 = .ok (.getfield 19, 3) := by decide +kernel
theorem dX3_stepFrom_31 : decode cX3_stepFrom 31 = .ok (.iload_n 2, 1) := by decide +kernel
theorem dX3_stepFrom_32 : decode cX3_stepFrom 32 = .ok (.iaload, 1) := by decide +kernel
theorem dX3_stepFrom_33 : decode cX3_stepFrom 33 = .ok (.iload_n 3, 1) := by decide +kernel
theorem dX3_stepFrom_34 : decode cX3_stepFrom 34 = .ok (.iadd, 1) := by decide +kernel
theorem dX3_stepFrom_35 : decode cX3_stepFrom 35 = .ok (.aload_n 0, 1) := by decide +kernel
theorem dX3_stepFrom_36 : decode cX3_stepFrom 36 = .ok (.getfield 19, 3) := by decide +kernel
theorem dX3_stepFrom_39 : decode cX3_stepFrom 39 = .ok (.iload_n 1, 1) := by decide +kernel
theorem dX3_stepFrom_40 : decode cX3_stepFrom 40 = .ok (.iaload, 1) := by decide +kernel
theorem dX3_stepFrom_41 : decode cX3_stepFrom 41 = .ok (.if_icmp .ne 5, 3) := by decide +kernel
theorem dX3_stepFrom_44 : decode cX3_stepFrom 44 = .ok (.iload_n 2, 1) := by decide +kernel
theorem dX3_stepFrom_45 : decode cX3_stepFrom 45 = .ok (.ireturn, 1) := by decide +kernel
theorem dX3_stepFrom_46 : decode cX3_stepFrom 46 = .ok (.iinc 2 1, 3) := by decide +kernel
theorem dX3_stepFrom_49 : decode cX3_stepFrom 49 = .ok (.goto (-40), 3) := by decide +kernel
theorem dX3_stepFrom_52 : decode cX3_stepFrom 52 = .ok (.iload_n 1, 1) := by decide +kernel
theorem dX3_stepFrom_53 : decode cX3_stepFrom 53 = .ok (.ireturn, 1) := by decide +kernel
set_option maxRecDepth 20000 in
theorem ggX3_measureTo_X3_nearestUnsettled : GoodIn wsX3_measureTo wsX3_nearestUnsettled := goodIn_ca (lq_goor _ [8, 2, 3, 1] rfl (by decide +kernel)) (goodIn_sub (fun _ h => List.mem_cons_of_mem _ (List.mem_append_right _ h)) gw_wsX30)
set_option maxRecDepth 20000 in
theorem gX3_measureTo_X3_nearestUnsettled : GoodIn wsX3_measureTo (wsV RX3 60 RX3 yX3_nearestUnsettled wsX3_nearestUnsettled) := goodIn_app (lq_goor _ [4, 5, 6, 7] rfl (by decide +kernel)) ggX3_measureTo_X3_nearestUnsettled
set_option maxRecDepth 20000 in
theorem ggX3_measureTo_X3_settle : GoodIn wsX3_measureTo wsX3_settle := goodIn_ca (lq_goor _ [12, 3, 1, 13, 14, 15, 16, 17, 18, 7, 19, 20, 21] rfl (by decide +kernel)) (goodIn_sub (fun _ h => List.mem_cons_of_mem _ (List.mem_append_right _ h)) gw_wsX30)
set_option maxRecDepth 20000 in
theorem gX3_measureTo_X3_settle : GoodIn wsX3_measureTo (wsV RX3 64 RX3 yX3_settle wsX3_settle) := goodIn_app (lq_goor _ [9, 10, 11, 7] rfl (by decide +kernel)) ggX3_measureTo_X3_settle
theorem dX3_measureTo_0 : decode cX3_measureTo 0 = .ok (.iconst 0, 1) := by decide +kernel
theorem dX3_measureTo_1 : decode cX3_measureTo 1 = .ok (.istore_n 2, 1) := by decide +kernel
theorem dX3_measureTo_2 : decode cX3_measureTo 2 = .ok (.iload_n 2, 1) := by decide +kernel
theorem dX3_measureTo_3 : decode cX3_measureTo 3 = .ok (.bipush 12, 2) := by decide +kernel
theorem dX3_measureTo_5 : decode cX3_measureTo 5 = .ok (.if_icmp .ge 33, 3) := by decide +kernel
theorem dX3_measureTo_8 : decode cX3_measureTo 8 = .ok (.aload_n 0, 1) := by decide +kernel
theorem dX3_measureTo_9 : decode cX3_measureTo 9 = .ok (.getfield 19, 3) := by decide +kernel
theorem dX3_measureTo_12 : decode cX3_measureTo 12 = .ok (.iload_n 2, 1) := by decide +kernel
theorem dX3_measureTo_13 : decode cX3_measureTo 13 = .ok (.iload_n 2, 1) := by decide +kernel
theorem dX3_measureTo_14 : decode cX3_measureTo 14 = .ok (.iload_n 1, 1) := by decide +kernel
theorem dX3_measureTo_15 : decode cX3_measureTo 15 = .ok (.if_icmp .ne 7, 3) := by decide +kernel
theorem dX3_measureTo_18 : decode cX3_measureTo 18 = .ok (.iconst 0, 1) := by decide +kernel
theorem dX3_measureTo_19 : decode cX3_measureTo 19 = .ok (.goto 5, 3) := by decide +kernel
theorem dX3_measureTo_22 : decode cX3_measureTo 22 = .ok (.ldc 42, 2) := by decide +kernel
theorem dX3_measureTo_24 : decode cX3_measureTo 24 = .ok (.iastore, 1) := by decide +kernel
theorem dX3_measureTo_25 : decode cX3_measureTo 25 = .ok (.aload_n 0, 1) := by decide +kernel
theorem dX3_measureTo_26 : decode cX3_measureTo 26 = .ok (.getfield 23, 3) := by decide +kernel
theorem dX3_measureTo_29 : decode cX3_measureTo 29 = .ok (.iload_n 2, 1) := by decide +kernel
theorem dX3_measureTo_30 : decode cX3_measureTo 30 = .ok (.iconst 0, 1) := by decide +kernel
theorem dX3_measureTo_31 : decode cX3_measureTo 31 = .ok (.bastore, 1) := by decide +kernel
theorem dX3_measureTo_32 : decode cX3_measureTo 32 = .ok (.iinc 2 1, 3) := by decide +kernel
theorem dX3_measureTo_35 : decode cX3_measureTo 35 = .ok (.goto (-33), 3) := by decide +kernel
theorem dX3_measureTo_38 : decode cX3_measureTo 38 = .ok (.iconst 0, 1) := by decide +kernel
theorem dX3_measureTo_39 : decode cX3_measureTo 39 = .ok (.istore_n 2, 1) := by decide +kernel
theorem dX3_measureTo_40 : decode cX3_measureTo 40 = .ok (.iload_n 2, 1) := by decide +kernel
theorem dX3_measureTo_41 : decode cX3_measureTo 41 = .ok (.bipush 12, 2) := by decide +kernel
theorem dX3_measureTo_43 : decode cX3_measureTo 43 = .ok (.if_icmp .ge 25, 3) := by decide +kernel
theorem dX3_measureTo_46 : decode cX3_measureTo 46 = .ok (.aload_n 0, 1) := by decide +kernel
theorem dX3_measureTo_47 : decode cX3_measureTo 47 = .ok (.invokevirtual 60, 3) := by decide +kernel
theorem dX3_measureTo_50 : decode cX3_measureTo 50 = .ok (.istore_n 3, 1) := by decide +kernel
theorem dX3_measureTo_51 : decode cX3_measureTo 51 = .ok (.iload_n 3, 1) := by decide +kernel
theorem dX3_measureTo_52 : decode cX3_measureTo 52 = .ok (.iconst (-1), 1) := by decide +kernel
theorem dX3_measureTo_53 : decode cX3_measureTo 53 = .ok (.if_icmp .ne 4, 3) := by decide +kernel
theorem dX3_measureTo_56 : decode cX3_measureTo 56 = .ok (.return_, 1) := by decide +kernel
theorem dX3_measureTo_57 : decode cX3_measureTo 57 = .ok (.aload_n 0, 1) := by decide +kernel
theorem dX3_measureTo_58 : decode cX3_measureTo 58 = .ok (.iload_n 3, 1) := by decide +kernel
theorem dX3_measureTo_59 : decode cX3_measureTo 59 = .ok (.invokevirtual 64, 3) := by decide +kernel
theorem dX3_measureTo_62 : decode cX3_measureTo 62 = .ok (.iinc 2 1, 3) := by decide +kernel
theorem dX3_measureTo_65 : decode cX3_measureTo 65 = .ok (.goto (-25), 3) := by decide +kernel
theorem dX3_measureTo_68 : decode cX3_measureTo 68 = .ok (.return_, 1) := by decide +kernel
theorem dX3_nearestUnsettled_0 : decode cX3_nearestUnsettled 0 = .ok (.iconst (-1), 1) := by decide +kernel
theorem dX3_nearestUnsettled_1 : decode cX3_nearestUnsettled 1 = .ok (.istore_n 1, 1) := by decide +kernel
theorem dX3_nearestUnsettled_2 : decode cX3_nearestUnsettled 2 = .ok (.ldc 42, 2) := by decide +kernel
theorem dX3_nearestUnsettled_4 : decode cX3_nearestUnsettled 4 = .ok (.istore_n 2, 1) := by decide +kernel
theorem dX3_nearestUnsettled_5 : decode cX3_nearestUnsettled 5 = .ok (.iconst 0, 1) := by decide +kernel
theorem dX3_nearestUnsettled_6 : decode cX3_nearestUnsettled 6 = .ok (.istore_n 3, 1) := by decide +kernel
theorem dX3_nearestUnsettled_7 : decode cX3_nearestUnsettled 7 = .ok (.iload_n 3, 1) := by decide +kernel
theorem dX3_nearestUnsettled_8 : decode cX3_nearestUnsettled 8 = .ok (.bipush 12, 2) := by decide +kernel
theorem dX3_nearestUnsettled_10 : decode cX3_nearestUnsettled 10 = .ok (.if_icmp .ge 37, 3) := by decide +kernel
theorem dX3_nearestUnsettled_13 : decode cX3_nearestUnsettled 13 = .ok (.aload_n 0, 1) := by decide +kernel
theorem dX3_nearestUnsettled_14 : decode cX3_nearestUnsettled 14 = .ok (.getfield 23, 3) := by decide +kernel
theorem dX3_nearestUnsettled_17 : decode cX3_nearestUnsettled 17 = .ok (.iload_n 3, 1) := by decide +kernel
theorem dX3_nearestUnsettled_18 : decode cX3_nearestUnsettled 18 = .ok (.baload, 1) := by decide +kernel
theorem dX3_nearestUnsettled_19 : decode cX3_nearestUnsettled 19 = .ok (.ifCond .ne 22, 3) := by decide +kernel
theorem dX3_nearestUnsettled_22 : decode cX3_nearestUnsettled 22 = .ok (.aload_n 0, 1) := by decide +kernel
theorem dX3_nearestUnsettled_23 : decode cX3_nearestUnsettled 23 = .ok (.getfield 19, 3) := by decide +kernel
theorem dX3_nearestUnsettled_26 : decode cX3_nearestUnsettled 26 = .ok (.iload_n 3, 1) := by decide +kernel
theorem dX3_nearestUnsettled_27 : decode cX3_nearestUnsettled 27 = .ok (.iaload, 1) := by decide +kernel
theorem dX3_nearestUnsettled_28 : decode cX3_nearestUnsettled 28 = .ok (.iload_n 2, 1) := by decide +kernel
theorem dX3_nearestUnsettled_29 : decode cX3_nearestUnsettled 29 = .ok (.if_icmp .ge 12, 3) := by decide +kernel
theorem dX3_nearestUnsettled_32 : decode cX3_nearestUnsettled 32 = .ok (.iload_n 3, 1) := by decide +kernel
theorem dX3_nearestUnsettled_33 : decode cX3_nearestUnsettled 33 = .ok (.istore_n 1, 1) := by decide +kernel
theorem dX3_nearestUnsettled_34 : decode cX3_nearestUnsettled 34 = .ok (.aload_n 0, 1) := by decide +kernel
theorem dX3_nearestUnsettled_35 : decode cX3_nearestUnsettled 35 = .ok (.getfield 19, 3) := by decide +kernel
theorem dX3_nearestUnsettled_38 : decode cX3_nearestUnsettled 38 = .ok (.iload_n 3, 1) := by decide +kernel
theorem dX3_nearestUnsettled_39 : decode cX3_nearestUnsettled 39 = .ok (.iaload, 1) := by decide +kernel
theorem dX3_nearestUnsettled_40 : decode cX3_nearestUnsettled 40 = .ok (.istore_n 2, 1) := by decide +kernel
theorem dX3_nearestUnsettled_41 : decode cX3_nearestUnsettled 41 = .ok (.iinc 3 1, 3) := by decide +kernel
theorem dX3_nearestUnsettled_44 : decode cX3_nearestUnsettled 44 = .ok (.goto (-37), 3) := by decide +kernel
theorem dX3_nearestUnsettled_47 : decode cX3_nearestUnsettled 47 = .ok (.iload_n 1, 1) := by decide +kernel
theorem dX3_nearestUnsettled_48 : decode cX3_nearestUnsettled 48 = .ok (.ireturn, 1) := by decide +kernel
set_option maxRecDepth 20000 in
theorem ggX3_settle_X8_isStation : GoodIn wsX3_settle wsX8_isStation := lq_goor _ [5] rfl (by decide +kernel)
set_option maxRecDepth 20000 in
theorem gX3_settle_X8_isStation_n30 : GoodIn wsX3_settle (wsX8_isStation) := ggX3_settle_X8_isStation
set_option maxRecDepth 20000 in
theorem ggX3_settle_X3_timeBetween : GoodIn wsX3_settle wsX3_timeBetween := goodIn_ca (lq_goor _ [10, 11, 12, 3, 4, 5] rfl (by decide +kernel)) (goodIn_sub (fun _ h => List.mem_cons_of_mem _ (List.mem_append_right _ h)) gw_wsX30)
set_option maxRecDepth 20000 in
theorem gX3_settle_X3_timeBetween : GoodIn wsX3_settle (wsV RX3 57 RX3 yX3_timeBetween wsX3_timeBetween) := goodIn_app (lq_goor _ [6, 7, 8, 9] rfl (by decide +kernel)) ggX3_settle_X3_timeBetween
theorem dX3_settle_0 : decode cX3_settle 0 = .ok (.iload_n 1, 1) := by decide +kernel
theorem dX3_settle_1 : decode cX3_settle 1 = .ok (.invokestatic 30, 3) := by decide +kernel
theorem dX3_settle_4 : decode cX3_settle 4 = .ok (.ifCond .ne 4, 3) := by decide +kernel
theorem dX3_settle_7 : decode cX3_settle 7 = .ok (.return_, 1) := by decide +kernel
theorem dX3_settle_8 : decode cX3_settle 8 = .ok (.aload_n 0, 1) := by decide +kernel
theorem dX3_settle_9 : decode cX3_settle 9 = .ok (.getfield 23, 3) := by decide +kernel
theorem dX3_settle_12 : decode cX3_settle 12 = .ok (.iload_n 1, 1) := by decide +kernel
theorem dX3_settle_13 : decode cX3_settle 13 = .ok (.iconst 1, 1) := by decide +kernel
theorem dX3_settle_14 : decode cX3_settle 14 = .ok (.bastore, 1) := by decide +kernel
theorem dX3_settle_15 : decode cX3_settle 15 = .ok (.iconst 0, 1) := by decide +kernel
theorem dX3_settle_16 : decode cX3_settle 16 = .ok (.istore_n 2, 1) := by decide +kernel
theorem dX3_settle_17 : decode cX3_settle 17 = .ok (.iload_n 2, 1) := by decide +kernel
theorem dX3_settle_18 : decode cX3_settle 18 = .ok (.bipush 12, 2) := by decide +kernel
theorem dX3_settle_20 : decode cX3_settle 20 = .ok (.if_icmp .ge 52, 3) := by decide +kernel
theorem dX3_settle_23 : decode cX3_settle 23 = .ok (.aload_n 0, 1) := by decide +kernel
theorem dX3_settle_24 : decode cX3_settle 24 = .ok (.iload_n 1, 1) := by decide +kernel
theorem dX3_settle_25 : decode cX3_settle 25 = .ok (.iload_n 2, 1) := by decide +kernel
theorem dX3_settle_26 : decode cX3_settle 26 = .ok (.invokevirtual 57, 3) := by decide +kernel
theorem dX3_settle_29 : decode cX3_settle 29 = .ok (.istore_n 3, 1) := by decide +kernel
theorem dX3_settle_30 : decode cX3_settle 30 = .ok (.iload_n 3, 1) := by decide +kernel
theorem dX3_settle_31 : decode cX3_settle 31 = .ok (.iconst (-1), 1) := by decide +kernel
theorem dX3_settle_32 : decode cX3_settle 32 = .ok (.if_icmp .eq 34, 3) := by decide +kernel
theorem dX3_settle_35 : decode cX3_settle 35 = .ok (.aload_n 0, 1) := by decide +kernel
theorem dX3_settle_36 : decode cX3_settle 36 = .ok (.getfield 19, 3) := by decide +kernel
theorem dX3_settle_39 : decode cX3_settle 39 = .ok (.iload_n 1, 1) := by decide +kernel
theorem dX3_settle_40 : decode cX3_settle 40 = .ok (.iaload, 1) := by decide +kernel
theorem dX3_settle_41 : decode cX3_settle 41 = .ok (.iload_n 3, 1) := by decide +kernel
theorem dX3_settle_42 : decode cX3_settle 42 = .ok (.iadd, 1) := by decide +kernel
theorem dX3_settle_43 : decode cX3_settle 43 = .ok (.aload_n 0, 1) := by decide +kernel
theorem dX3_settle_44 : decode cX3_settle 44 = .ok (.getfield 19, 3) := by decide +kernel
theorem dX3_settle_47 : decode cX3_settle 47 = .ok (.iload_n 2, 1) := by decide +kernel
theorem dX3_settle_48 : decode cX3_settle 48 = .ok (.iaload, 1) := by decide +kernel
theorem dX3_settle_49 : decode cX3_settle 49 = .ok (.if_icmp .ge 17, 3) := by decide +kernel
theorem dX3_settle_52 : decode cX3_settle 52 = .ok (.aload_n 0, 1) := by decide +kernel
theorem dX3_settle_53 : decode cX3_settle 53 = .ok (.getfield 19, 3) := by decide +kernel
theorem dX3_settle_56 : decode cX3_settle 56 = .ok (.iload_n 2, 1) := by decide +kernel
theorem dX3_settle_57 : decode cX3_settle 57 = .ok (.aload_n 0, 1) := by decide +kernel
theorem dX3_settle_58 : decode cX3_settle 58 = .ok (.getfield 19, 3) := by decide +kernel
theorem dX3_settle_61 : decode cX3_settle 61 = .ok (.iload_n 1, 1) := by decide +kernel
theorem dX3_settle_62 : decode cX3_settle 62 = .ok (.iaload, 1) := by decide +kernel
theorem dX3_settle_63 : decode cX3_settle 63 = .ok (.iload_n 3, 1) := by decide +kernel
theorem dX3_settle_64 : decode cX3_settle 64 = .ok (.iadd, 1) := by decide +kernel
theorem dX3_settle_65 : decode cX3_settle 65 = .ok (.iastore, 1) := by decide +kernel
theorem dX3_settle_66 : decode cX3_settle 66 = .ok (.iinc 2 1, 3) := by decide +kernel
theorem dX3_settle_69 : decode cX3_settle 69 = .ok (.goto (-52), 3) := by decide +kernel
theorem dX3_settle_72 : decode cX3_settle 72 = .ok (.return_, 1) := by decide +kernel
set_option maxRecDepth 20000 in
theorem ggX4_init_X5_init : GoodIn wsX4_init wsX5_init := goodIn_ca (lq_goor _ [12, 13, 2, 3, 14, 15] rfl (by decide +kernel)) (goodIn_sub (fun _ h => List.mem_cons_of_mem _ (List.mem_append_left _ (List.mem_append_right _ h))) gw_wsX50)
set_option maxRecDepth 20000 in
theorem gX4_init_X5_init_n11 : GoodIn wsX4_init (wsX5_init) := ggX4_init_X5_init
theorem dX4_init_0 : decode cX4_init 0 = .ok (.aload_n 0, 1) := by decide +kernel
theorem dX4_init_1 : decode cX4_init 1 = .ok (.invokespecial 3, 3) := by decide +kernel
theorem dX4_init_4 : decode cX4_init 4 = .ok (.aload_n 0, 1) := by decide +kernel
theorem dX4_init_5 : decode cX4_init 5 = .ok (.new 9, 3) := by decide +kernel
theorem dX4_init_8 : decode cX4_init 8 = .ok (.dup, 1) := by decide +kernel
theorem dX4_init_9 : decode cX4_init 9 = .ok (.invokespecial 11, 3) := by decide +kernel
theorem dX4_init_12 : decode cX4_init 12 = .ok (.putfield 12, 3) := by decide +kernel
theorem dX4_init_15 : decode cX4_init 15 = .ok (.aload_n 0, 1) := by decide +kernel
theorem dX4_init_16 : decode cX4_init 16 = .ok (.bipush 6, 2) := by decide +kernel
theorem dX4_init_18 : decode cX4_init 18 = .ok (.newarray .boolean, 2) := by decide +kernel
theorem dX4_init_20 : decode cX4_init 20 = .ok (.putfield 18, 3) := by decide +kernel
theorem dX4_init_23 : decode cX4_init 23 = .ok (.aload_n 0, 1) := by decide +kernel
theorem dX4_init_24 : decode cX4_init 24 = .ok (.aload_n 1, 1) := by decide +kernel
theorem dX4_init_25 : decode cX4_init 25 = .ok (.putfield 22, 3) := by decide +kernel
theorem dX4_init_28 : decode cX4_init 28 = .ok (.return_, 1) := by decide +kernel
set_option maxRecDepth 20000 in
theorem ggX4_readText_X4_readToken : GoodIn wsX4_readText wsX4_readToken := goodIn_ca (goodIn_ca (lq_goor _ [7, 8, 9, 10, 1, 11, 12, 13, 14, 15, 16, 17, 18, 19, 6, 20, 21, 22, 23, 24, 25, 26, 27, 28, 29, 30, 31, 32, 33, 34] rfl (by decide +kernel)) (goodIn_sub (fun _ h => List.mem_cons_of_mem _ (List.mem_append_left _ (List.mem_append_left _ (List.mem_append_right _ h)))) gw_wsX40)) (goodIn_sub (fun _ h => List.mem_cons_of_mem _ (List.mem_append_left _ (List.mem_append_right _ h))) gw_wsX70)
set_option maxRecDepth 20000 in
theorem gX4_readText_X4_readToken : GoodIn wsX4_readText (wsV RX4 26 RX4 yX4_readToken wsX4_readToken) := goodIn_app (lq_goor _ [3, 4, 5, 6] rfl (by decide +kernel)) ggX4_readText_X4_readToken
set_option maxRecDepth 20000 in
theorem ggX4_readText_X4_readRule : GoodIn wsX4_readText wsX4_readRule := goodIn_ca (goodIn_ca (goodIn_ca (lq_goor _ [38, 25, 39, 40, 41, 6, 42, 43, 44, 45, 46, 1, 8, 10, 9, 47, 48, 49, 50, 51, 52, 53, 54, 55, 56, 57, 58, 11, 12, 13, 14, 15, 16, 17, 59, 60, 61, 62, 63, 64, 65, 66, 67, 68, 69, 70, 71, 72, 73, 74, 75, 76, 77, 78, 79, 80, 81, 82, 83, 84, 85, 86, 87, 88, 89, 90, 91, 92, 93, 94, 95, 96, 97, 98, 99, 100, 101, 3, 4, 5, 7, 18, 19, 20, 21, 22, 23, 24, 26, 27, 28, 29, 30, 31, 32, 33, 34, 102, 103, 104, 105, 106, 107, 108, 109, 110, 111, 112, 113, 114, 115, 116, 117, 118, 119, 120, 121, 122, 123, 124, 125, 126, 127, 128, 129, 130, 131] rfl (by decide +kernel)) (goodIn_sub (fun _ h => List.mem_cons_of_mem _ (List.mem_append_left _ (List.mem_append_left _ (List.mem_append_right _ h)))) gw_wsX40)) (goodIn_sub (fun _ h => List.mem_cons_of_mem _ (List.mem_append_left _ (List.mem_append_right _ h))) gw_wsX70)) (goodIn_sub (fun _ h => List.mem_cons_of_mem _ (List.mem_append_right _ h)) gw_wsX50)
set_option maxRecDepth 20000 in
theorem gX4_readText_X4_readRule : GoodIn wsX4_readText (wsV RX4 33 RX4 yX4_readRule wsX4_readRule) := goodIn_app (lq_goor _ [35, 36, 37, 6] rfl (by decide +kernel)) ggX4_readText_X4_readRule
theorem dX4_readText_0 : decode cX4_readText 0 = .ok (.aload_n 0, 1) := by decide +kernel
theorem dX4_readText_1 : decode cX4_readText 1 = .ok (.invokevirtual 26, 3) := by decide +kernel
theorem dX4_readText_4 : decode cX4_readText 4 = .ok (.iconst 0, 1) := by decide +kernel
theorem dX4_readText_5 : decode cX4_readText 5 = .ok (.istore_n 1, 1) := by decide +kernel
theorem dX4_readText_6 : decode cX4_readText 6 = .ok (.iload_n 1, 1) := by decide +kernel
theorem dX4_readText_7 : decode cX4_readText 7 = .ok (.bipush 6, 2) := by decide +kernel
theorem dX4_readText_9 : decode cX4_readText 9 = .ok (.if_icmp .gt 34, 3) := by decide +kernel
theorem dX4_readText_12 : decode cX4_readText 12 = .ok (.aload_n 0, 1) := by decide +kernel
theorem dX4_readText_13 : decode cX4_readText 13 = .ok (.getfield 29, 3) := by decide +kernel
theorem dX4_readText_16 : decode cX4_readText 16 = .ok (.ifCond .eq 10, 3) := by decide +kernel
theorem dX4_readText_19 : decode cX4_readText 19 = .ok (.aload_n 0, 1) := by decide +kernel
theorem dX4_readText_20 : decode cX4_readText 20 = .ok (.invokevirtual 33, 3) := by decide +kernel
theorem dX4_readText_23 : decode cX4_readText 23 = .ok (.ifCond .ne 4, 3) := by decide +kernel
theorem dX4_readText_26 : decode cX4_readText 26 = .ok (.return_, 1) := by decide +kernel
theorem dX4_readText_27 : decode cX4_readText 27 = .ok (.aload_n 0, 1) := by decide +kernel
theorem dX4_readText_28 : decode cX4_readText 28 = .ok (.dup, 1) := by decide +kernel
theorem dX4_readText_29 : decode cX4_readText 29 = .ok (.getfield 37, 3) := by decide +kernel
theorem dX4_readText_32 : decode cX4_readText 32 = .ok (.iconst 1, 1) := by decide +kernel
theorem dX4_readText_33 : decode cX4_readText 33 = .ok (.iadd, 1) := by decide +kernel
theorem dX4_readText_34 : decode cX4_readText 34 = .ok (.putfield 37, 3) := by decide +kernel
theorem dX4_readText_37 : decode cX4_readText 37 = .ok (.iinc 1 1, 3) := by decide +kernel
theorem dX4_readText_40 : decode cX4_readText 40 = .ok (.goto (-34), 3) := by decide +kernel
theorem dX4_readText_43 : decode cX4_readText 43 = .ok (.return_, 1) := by decide +kernel
set_option maxRecDepth 20000 in
theorem ggX4_readRule_X4_ruleOfWord : GoodIn wsX4_readRule wsX4_ruleOfWord := goodIn_ca (goodIn_ca (lq_goor _ [6, 7, 8, 9, 5, 10, 11, 12, 13, 14, 15, 16, 17, 18, 19, 20, 21, 22, 23, 24, 25, 26, 27, 28, 29, 30, 31, 32, 33, 34, 35, 36, 37, 38, 39, 40, 41, 42, 43, 44, 45, 46, 47, 48, 49, 50, 51, 52, 53, 54, 55, 56, 57, 58, 59, 60, 61, 62, 63, 64, 65, 66, 67, 68, 69, 70] rfl (by decide +kernel)) (goodIn_sub (fun _ h => List.mem_cons_of_mem _ (List.mem_append_left _ (List.mem_append_left _ (List.mem_append_right _ h)))) gw_wsX40)) (goodIn_sub (fun _ h => List.mem_cons_of_mem _ (List.mem_append_left _ (List.mem_append_right _ h))) gw_wsX70)
set_option maxRecDepth 20000 in
theorem gX4_readRule_X4_ruleOfWord : GoodIn wsX4_readRule (wsV RX4 40 RX4 yX4_ruleOfWord wsX4_ruleOfWord) := goodIn_app (lq_goor _ [2, 3, 4, 5] rfl (by decide +kernel)) ggX4_readRule_X4_ruleOfWord
set_option maxRecDepth 20000 in
theorem ggX4_readRule_X4_stopAtToken : GoodIn wsX4_readRule wsX4_stopAtToken := goodIn_ca (lq_goor _ [74, 11, 75, 13, 76] rfl (by decide +kernel)) (goodIn_sub (fun _ h => List.mem_cons_of_mem _ (List.mem_append_left _ (List.mem_append_left _ (List.mem_append_right _ h)))) gw_wsX40)
set_option maxRecDepth 20000 in
theorem gX4_readRule_X4_stopAtToken : GoodIn wsX4_readRule (wsV RX4 44 RX4 yX4_stopAtToken wsX4_stopAtToken) := goodIn_app (lq_goor _ [71, 72, 73, 5] rfl (by decide +kernel)) ggX4_readRule_X4_stopAtToken
set_option maxRecDepth 20000 in
theorem ggX4_readRule_X4_readToken : GoodIn wsX4_readRule wsX4_readToken := goodIn_ca (goodIn_ca (lq_goor _ [80, 12, 14, 13, 11, 27, 28, 29, 30, 31, 32, 33, 81, 82, 5, 83, 84, 85, 86, 87, 1, 88, 89, 90, 91, 92, 93, 94, 95, 96] rfl (by decide +kernel)) (goodIn_sub (fun _ h => List.mem_cons_of_mem _ (List.mem_append_left _ (List.mem_append_left _ (List.mem_append_right _ h)))) gw_wsX40)) (goodIn_sub (fun _ h => List.mem_cons_of_mem _ (List.mem_append_left _ (List.mem_append_right _ h))) gw_wsX70)
set_option maxRecDepth 20000 in
theorem gX4_readRule_X4_readToken : GoodIn wsX4_readRule (wsV RX4 26 RX4 yX4_readToken wsX4_readToken) := goodIn_app (lq_goor _ [77, 78, 79, 5] rfl (by decide +kernel)) ggX4_readRule_X4_readToken
set_option maxRecDepth 20000 in
theorem ggX4_readRule_X4_isNumberWithin : GoodIn wsX4_readRule wsX4_isNumberWithin := goodIn_ca (lq_goor _ [100, 11, 1, 71, 72, 73, 5, 74, 75, 13, 76] rfl (by decide +kernel)) (goodIn_sub (fun _ h => List.mem_cons_of_mem _ (List.mem_append_left _ (List.mem_append_left _ (List.mem_append_right _ h)))) gw_wsX40)
set_option maxRecDepth 20000 in
theorem gX4_readRule_X4_isNumberWithin : GoodIn wsX4_readRule (wsV RX4 48 RX4 yX4_isNumberWithin wsX4_isNumberWithin) := goodIn_app (lq_goor _ [97, 98, 99, 5] rfl (by decide +kernel)) ggX4_readRule_X4_isNumberWithin
set_option maxRecDepth 20000 in
theorem ggX4_readRule_X4_isFirstOf : GoodIn wsX4_readRule wsX4_isFirstOf := goodIn_ca (lq_goor _ [104, 105, 71, 72, 73, 5, 74, 11, 75, 13, 76] rfl (by decide +kernel)) (goodIn_sub (fun _ h => List.mem_cons_of_mem _ (List.mem_append_left _ (List.mem_append_left _ (List.mem_append_right _ h)))) gw_wsX40)
set_option maxRecDepth 20000 in
theorem gX4_readRule_X4_isFirstOf : GoodIn wsX4_readRule (wsV RX4 55 RX4 yX4_isFirstOf wsX4_isFirstOf) := goodIn_app (lq_goor _ [101, 102, 103, 5] rfl (by decide +kernel)) ggX4_readRule_X4_isFirstOf
set_option maxRecDepth 20000 in
theorem ggX4_readRule_X4_readNumberOf : GoodIn wsX4_readRule wsX4_readNumberOf := goodIn_ca (goodIn_ca (goodIn_ca (lq_goor _ [109, 110, 1, 77, 78, 79, 5, 80, 12, 14, 13, 11, 27, 28, 29, 30, 31, 32, 33, 81, 82, 83, 84, 85, 86, 87, 88, 89, 90, 91, 92, 93, 94, 95, 96, 111, 112, 113, 114, 115, 116, 117, 97, 98, 99, 100, 71, 72, 73, 74, 75, 76, 118, 119, 120, 121, 122] rfl (by decide +kernel)) (goodIn_sub (fun _ h => List.mem_cons_of_mem _ (List.mem_append_left _ (List.mem_append_left _ (List.mem_append_right _ h)))) gw_wsX40)) (goodIn_sub (fun _ h => List.mem_cons_of_mem _ (List.mem_append_left _ (List.mem_append_right _ h))) gw_wsX70)) (goodIn_sub (fun _ h => List.mem_cons_of_mem _ (List.mem_append_right _ h)) gw_wsX50)
set_option maxRecDepth 20000 in
theorem gX4_readRule_X4_readNumberOf : GoodIn wsX4_readRule (wsV RX4 58 RX4 yX4_readNumberOf wsX4_readNumberOf) := goodIn_app (lq_goor _ [106, 107, 108, 5] rfl (by decide +kernel)) ggX4_readRule_X4_readNumberOf
set_option maxRecDepth 20000 in
theorem ggX4_readRule_X4_readSemicolon : GoodIn wsX4_readRule wsX4_readSemicolon := goodIn_ca (goodIn_ca (lq_goor _ [126, 11, 77, 78, 79, 5, 80, 12, 14, 13, 27, 28, 29, 30, 31, 32, 33, 81, 82, 83, 84, 85, 86, 87, 1, 88, 89, 90, 91, 92, 93, 94, 95, 96, 71, 72, 73, 74, 75, 76] rfl (by decide +kernel)) (goodIn_sub (fun _ h => List.mem_cons_of_mem _ (List.mem_append_left _ (List.mem_append_left _ (List.mem_append_right _ h)))) gw_wsX40)) (goodIn_sub (fun _ h => List.mem_cons_of_mem _ (List.mem_append_left _ (List.mem_append_right _ h))) gw_wsX70)
set_option maxRecDepth 20000 in
theorem gX4_readRule_X4_readSemicolon : GoodIn wsX4_readRule (wsV RX4 61 RX4 yX4_readSemicolon wsX4_readSemicolon) := goodIn_app (lq_goor _ [123, 124, 125, 5] rfl (by decide +kernel)) ggX4_readRule_X4_readSemicolon
theorem dX4_readRule_0 : decode cX4_readRule 0 = .ok (.aload_n 0, 1) := by decide +kernel
theorem dX4_readRule_1 : decode cX4_readRule 1 = .ok (.invokevirtual 40, 3) := by decide +kernel
theorem dX4_readRule_4 : decode cX4_readRule 4 = .ok (.istore_n 1, 1) := by decide +kernel
theorem dX4_readRule_5 : decode cX4_readRule 5 = .ok (.iload_n 1, 1) := by decide +kernel
theorem dX4_readRule_6 : decode cX4_readRule 6 = .ok (.iconst (-1), 1) := by decide +kernel
theorem dX4_readRule_7 : decode cX4_readRule 7 = .ok (.if_icmp .ne 9, 3) := by decide +kernel
theorem dX4_readRule_10 : decode cX4_readRule 10 = .ok (.aload_n 0, 1) := by decide +kernel
theorem dX4_readRule_11 : decode cX4_readRule 11 = .ok (.iconst 2, 1) := by decide +kernel
theorem dX4_readRule_12 : decode cX4_readRule 12 = .ok (.invokevirtual 44, 3) := by decide +kernel
theorem dX4_readRule_15 : decode cX4_readRule 15 = .ok (.ireturn, 1) := by decide +kernel
theorem dX4_readRule_16 : decode cX4_readRule 16 = .ok (.iload_n 1, 1) := by decide +kernel
theorem dX4_readRule_17 : decode cX4_readRule 17 = .ok (.iconst 3, 1) := by decide +kernel
theorem dX4_readRule_18 : decode cX4_readRule 18 = .ok (.if_icmp .ne 27, 3) := by decide +kernel
theorem dX4_readRule_21 : decode cX4_readRule 21 = .ok (.aload_n 0, 1) := by decide +kernel
theorem dX4_readRule_22 : decode cX4_readRule 22 = .ok (.invokevirtual 26, 3) := by decide +kernel
theorem dX4_readRule_25 : decode cX4_readRule 25 = .ok (.aload_n 0, 1) := by decide +kernel
theorem dX4_readRule_26 : decode cX4_readRule 26 = .ok (.iconst 1, 1) := by decide +kernel
theorem dX4_readRule_27 : decode cX4_readRule 27 = .ok (.iconst 3, 1) := by decide +kernel
theorem dX4_readRule_28 : decode cX4_readRule 28 = .ok (.invokevirtual 48, 3) := by decide +kernel
theorem dX4_readRule_31 : decode cX4_readRule 31 = .ok (.ifCond .ne 5, 3) := by decide +kernel
theorem dX4_readRule_34 : decode cX4_readRule 34 = .ok (.iconst 0, 1) := by decide +kernel
theorem dX4_readRule_35 : decode cX4_readRule 35 = .ok (.ireturn, 1) := by decide +kernel
theorem dX4_readRule_36 : decode cX4_readRule 36 = .ok (.iconst 3, 1) := by decide +kernel
theorem dX4_readRule_37 : decode cX4_readRule 37 = .ok (.aload_n 0, 1) := by decide +kernel
theorem dX4_readRule_38 : decode cX4_readRule 38 = .ok (.getfield 52, 3) := by decide +kernel
theorem dX4_readRule_41 : decode cX4_readRule 41 = .ok (.iadd, 1) := by decide +kernel
theorem dX4_readRule_42 : decode cX4_readRule 42 = .ok (.iconst 1, 1) := by decide +kernel
theorem dX4_readRule_43 : decode cX4_readRule 43 = .ok (.isub, 1) := by decide +kernel
theorem dX4_readRule_44 : decode cX4_readRule 44 = .ok (.istore_n 1, 1) := by decide +kernel
theorem dX4_readRule_45 : decode cX4_readRule 45 = .ok (.aload_n 0, 1) := by decide +kernel
theorem dX4_readRule_46 : decode cX4_readRule 46 = .ok (.iload_n 1, 1) := by decide +kernel
theorem dX4_readRule_47 : decode cX4_readRule 47 = .ok (.invokevirtual 55, 3) := by decide +kernel
theorem dX4_readRule_50 : decode cX4_readRule 50 = .ok (.ifCond .eq 22, 3) := by decide +kernel
theorem dX4_readRule_53 : decode cX4_readRule 53 = .ok (.aload_n 0, 1) := by decide +kernel
theorem dX4_readRule_54 : decode cX4_readRule 54 = .ok (.iload_n 1, 1) := by decide +kernel
theorem dX4_readRule_55 : decode cX4_readRule 55 = .ok (.invokevirtual 58, 3) := by decide +kernel
theorem dX4_readRule_58 : decode cX4_readRule 58 = .ok (.ifCond .eq 14, 3) := by decide +kernel
theorem dX4_readRule_61 : decode cX4_readRule 61 = .ok (.aload_n 0, 1) := by decide +kernel
theorem dX4_readRule_62 : decode cX4_readRule 62 = .ok (.invokevirtual 61, 3) := by decide +kernel
theorem dX4_readRule_65 : decode cX4_readRule 65 = .ok (.ifCond .eq 7, 3) := by decide +kernel
theorem dX4_readRule_68 : decode cX4_readRule 68 = .ok (.iconst 1, 1) := by decide +kernel
theorem dX4_readRule_69 : decode cX4_readRule 69 = .ok (.goto 4, 3) := by decide +kernel
theorem dX4_readRule_72 : decode cX4_readRule 72 = .ok (.iconst 0, 1) := by decide +kernel
theorem dX4_readRule_73 : decode cX4_readRule 73 = .ok (.ireturn, 1) := by decide +kernel
set_option maxRecDepth 20000 in
theorem ggX4_ruleOfWord_X4_isWord : GoodIn wsX4_ruleOfWord wsX4_isWord := goodIn_ca (goodIn_ca (lq_goor _ [5, 6, 7, 8, 9, 10, 11, 12, 13, 14, 15, 16, 17, 18, 19, 20, 21, 22, 23, 24, 25, 26, 27, 28, 29, 30, 31, 32, 33, 34, 35, 36, 37, 38, 39, 40, 41, 42, 43, 44, 45, 46, 47, 48, 49, 50, 51, 52, 53, 54, 55, 56, 57, 58, 59, 60, 61, 62, 63, 64, 65] rfl (by decide +kernel)) (goodIn_sub (fun _ h => List.mem_cons_of_mem _ (List.mem_append_left _ (List.mem_append_right _ h))) gw_wsX40)) (goodIn_sub (fun _ h => List.mem_cons_of_mem _ (List.mem_append_right _ h)) gw_wsX70)
set_option maxRecDepth 20000 in
theorem gX4_ruleOfWord_X4_isWord : GoodIn wsX4_ruleOfWord (wsV RX4 66 RX4 yX4_isWord wsX4_isWord) := goodIn_app (lq_goor _ [1, 2, 3, 4] rfl (by decide +kernel)) ggX4_ruleOfWord_X4_isWord
theorem dX4_ruleOfWord_0 : decode cX4_ruleOfWord 0 = .ok (.aload_n 0, 1) := by decide +kernel
theorem dX4_ruleOfWord_1 : decode cX4_ruleOfWord 1 = .ok (.ldc 64, 2) := by decide +kernel
theorem dX4_ruleOfWord_3 : decode cX4_ruleOfWord 3 = .ok (.invokevirtual 66, 3) := by decide +kernel
theorem dX4_ruleOfWord_6 : decode cX4_ruleOfWord 6 = .ok (.ifCond .eq 5, 3) := by decide +kernel
theorem dX4_ruleOfWord_9 : decode cX4_ruleOfWord 9 = .ok (.iconst 0, 1) := by decide +kernel
theorem dX4_ruleOfWord_10 : decode cX4_ruleOfWord 10 = .ok (.ireturn, 1) := by decide +kernel
theorem dX4_ruleOfWord_11 : decode cX4_ruleOfWord 11 = .ok (.aload_n 0, 1) := by decide +kernel
theorem dX4_ruleOfWord_12 : decode cX4_ruleOfWord 12 = .ok (.ldc 70, 2) := by decide +kernel
theorem dX4_ruleOfWord_14 : decode cX4_ruleOfWord 14 = .ok (.invokevirtual 66, 3) := by decide +kernel
