theorem dL_cell_0 : decode cL_cell 0 = .ok (.iload_n 1, 1) := by decide +kernel
theorem dL_cell_1 : decode cL_cell 1 = .ok (.aload_n 0, 1) := by decide +kernel
theorem dL_cell_2 : decode cL_cell 2 = .ok (.arraylength, 1) := by decide +kernel
theorem dL_cell_3 : decode cL_cell 3 = .ok (.if_icmp .ge 9, 3) := by decide +kernel
theorem dL_cell_6 : decode cL_cell 6 = .ok (.aload_n 0, 1) := by decide +kernel
theorem dL_cell_7 : decode cL_cell 7 = .ok (.iload_n 1, 1) := by decide +kernel
theorem dL_cell_8 : decode cL_cell 8 = .ok (.iaload, 1) := by decide +kernel
theorem dL_cell_9 : decode cL_cell 9 = .ok (.goto 18, 3) := by decide +kernel
theorem dL_cell_12 : decode cL_cell 12 = .ok (.sipush 7919, 3) := by decide +kernel
theorem dL_cell_15 : decode cL_cell 15 = .ok (.iload_n 1, 1) := by decide +kernel
theorem dL_cell_16 : decode cL_cell 16 = .ok (.sipush 587, 3) := by decide +kernel
theorem dL_cell_19 : decode cL_cell 19 = .ok (.iadd, 1) := by decide +kernel
theorem dL_cell_20 : decode cL_cell 20 = .ok (.imul, 1) := by decide +kernel
theorem dL_cell_21 : decode cL_cell 21 = .ok (.iload_n 1, 1) := by decide +kernel
theorem dL_cell_22 : decode cL_cell 22 = .ok (.sipush 1279, 3) := by decide +kernel
theorem dL_cell_25 : decode cL_cell 25 = .ok (.iadd, 1) := by decide +kernel
theorem dL_cell_26 : decode cL_cell 26 = .ok (.imul, 1) := by decide +kernel
theorem dL_cell_27 : decode cL_cell 27 = .ok (.ireturn, 1) := by decide +kernel
theorem dL_low_0 : decode cL_low 0 = .ok (.iload_n 0, 1) := by decide +kernel
theorem dL_low_1 : decode cL_low 1 = .ok (.ldc 7, 2) := by decide +kernel
theorem dL_low_3 : decode cL_low 3 = .ok (.iand, 1) := by decide +kernel
theorem dL_low_4 : decode cL_low 4 = .ok (.iload_n 1, 1) := by decide +kernel
theorem dL_low_5 : decode cL_low 5 = .ok (.irem, 1) := by decide +kernel
theorem dL_low_6 : decode cL_low 6 = .ok (.ireturn, 1) := by decide +kernel
set_option maxRecDepth 20000 in
theorem ggL_begin_X3_begin : GoodIn wsL_begin wsX3_begin := goodIn_ca (goodIn_r _ [7, 8, 9, 10, 11, 12, 6, 13, 14, 15, 16, 17, 18, 19, 20, 21, 22, 23, 24, 25, 26, 27, 28, 29, 30, 31, 32, 33, 34, 35, 36, 37, 38, 39, 40, 41, 42, 43, 44, 45, 46, 47, 48, 49, 50, 51, 52, 53, 54, 55, 56] (by decide +kernel) (by decide +kernel)) (goodIn_sub (fun _ h => List.mem_cons_of_mem _ (List.mem_append_right _ h)) (by decide +kernel))
set_option maxRecDepth 20000 in
theorem gL_begin_X3_begin : GoodIn wsL_begin (wsV RL 8 RX3 yX3_begin wsX3_begin) := goodIn_app (goodIn_of _ (by decide +kernel)) ggL_begin_X3_begin
theorem dL_begin_0 : decode cL_begin 0 = .ok (.aload_n 0, 1) := by decide +kernel
theorem dL_begin_1 : decode cL_begin 1 = .ok (.iload_n 1, 1) := by decide +kernel
theorem dL_begin_2 : decode cL_begin 2 = .ok (.iload_n 2, 1) := by decide +kernel
theorem dL_begin_3 : decode cL_begin 3 = .ok (.iload_n 3, 1) := by decide +kernel
theorem dL_begin_4 : decode cL_begin 4 = .ok (.iload 4, 2) := by decide +kernel
theorem dL_begin_6 : decode cL_begin 6 = .ok (.iload 5, 2) := by decide +kernel
theorem dL_begin_8 : decode cL_begin 8 = .ok (.invokevirtual 8, 3) := by decide +kernel
theorem dL_begin_11 : decode cL_begin 11 = .ok (.ireturn, 1) := by decide +kernel
theorem dL_begin_12 : decode cL_begin 12 = .ok (.astore 6, 2) := by decide +kernel
theorem dL_begin_14 : decode cL_begin 14 = .ok (.ldc 16, 2) := by decide +kernel
theorem dL_begin_16 : decode cL_begin 16 = .ok (.ireturn, 1) := by decide +kernel
set_option maxRecDepth 20000 in
theorem ggL_place_X3_place : GoodIn wsL_place wsX3_place := goodIn_ca (goodIn_ca (goodIn_r _ [8, 9, 10, 11, 12, 13, 14, 7, 15, 16, 17, 18, 19, 20, 21, 22, 23, 24, 25, 26, 27, 28, 29, 30, 31, 32, 33, 34, 35, 36, 37, 38, 39, 40, 41, 42, 43, 44, 45, 46, 47, 48, 49, 50, 51, 52, 53, 54, 55, 56, 57, 58, 59, 60, 61, 62, 63, 64, 65, 66, 67, 68, 69, 70, 71, 72, 73, 74, 75, 76, 77, 78, 79, 80, 81, 82, 83, 84, 85, 86, 87, 88, 89, 90, 91, 92, 93, 94, 95, 96, 97, 98, 99, 100, 101, 102, 103, 104, 105, 106, 107, 108, 109, 110, 111, 112, 113, 114] (by decide +kernel) (by decide +kernel)) (goodIn_sub (fun _ h => List.mem_cons_of_mem _ (List.mem_append_left _ (List.mem_append_right _ h))) (by decide +kernel))) (goodIn_sub (fun _ h => List.mem_cons_of_mem _ (List.mem_append_right _ h)) (by decide +kernel))
set_option maxRecDepth 20000 in
theorem gL_place_X3_place : GoodIn wsL_place (wsV RL 17 RX3 yX3_place wsX3_place) := goodIn_app (goodIn_of _ (by decide +kernel)) ggL_place_X3_place
theorem dL_place_0 : decode cL_place 0 = .ok (.aload_n 0, 1) := by decide +kernel
theorem dL_place_1 : decode cL_place 1 = .ok (.iload_n 1, 1) := by decide +kernel
theorem dL_place_2 : decode cL_place 2 = .ok (.invokevirtual 17, 3) := by decide +kernel
theorem dL_place_5 : decode cL_place 5 = .ok (.ireturn, 1) := by decide +kernel
theorem dL_place_6 : decode cL_place 6 = .ok (.astore_n 2, 1) := by decide +kernel
theorem dL_place_7 : decode cL_place 7 = .ok (.ldc 16, 2) := by decide +kernel
theorem dL_place_9 : decode cL_place 9 = .ok (.ireturn, 1) := by decide +kernel
theorem dL_place_10 : decode cL_place 10 = .ok (.astore_n 2, 1) := by decide +kernel
theorem dL_place_11 : decode cL_place 11 = .ok (.ldc 16, 2) := by decide +kernel
theorem dL_place_13 : decode cL_place 13 = .ok (.ireturn, 1) := by decide +kernel
set_option maxRecDepth 20000 in
theorem ggL_raise_X3_raise : GoodIn wsL_raise wsX3_raise := goodIn_ca (goodIn_ca (goodIn_ca (goodIn_r _ [9, 10, 11, 12, 13, 14, 15, 16, 17, 8, 18, 19, 20, 21, 22, 23, 24, 25, 26, 27, 28, 29, 30, 31, 32, 33, 34, 35, 36, 37, 38, 39, 40, 41, 42, 43, 44, 45, 46, 47, 48, 49, 50, 51, 52, 53, 54, 55, 56, 57, 58, 59, 60] (by decide +kernel) (by decide +kernel)) (goodIn_sub (fun _ h => List.mem_cons_of_mem _ (List.mem_append_left _ (List.mem_append_left _ (List.mem_append_right _ h)))) (by decide +kernel))) (goodIn_sub (fun _ h => List.mem_cons_of_mem _ (List.mem_append_left _ (List.mem_append_right _ h))) (by decide +kernel))) (goodIn_sub (fun _ h => List.mem_cons_of_mem _ (List.mem_append_right _ h)) (by decide +kernel))
set_option maxRecDepth 20000 in
theorem gL_raise_X3_raise : GoodIn wsL_raise (wsV RL 25 RX3 yX3_raise wsX3_raise) := goodIn_app (goodIn_of _ (by decide +kernel)) ggL_raise_X3_raise
theorem dL_raise_0 : decode cL_raise 0 = .ok (.aload_n 0, 1) := by decide +kernel
theorem dL_raise_1 : decode cL_raise 1 = .ok (.iload_n 1, 1) := by decide +kernel
theorem dL_raise_2 : decode cL_raise 2 = .ok (.iload_n 2, 1) := by decide +kernel
theorem dL_raise_3 : decode cL_raise 3 = .ok (.invokevirtual 25, 3) := by decide +kernel
theorem dL_raise_6 : decode cL_raise 6 = .ok (.ireturn, 1) := by decide +kernel
theorem dL_raise_7 : decode cL_raise 7 = .ok (.astore_n 3, 1) := by decide +kernel
theorem dL_raise_8 : decode cL_raise 8 = .ok (.ldc 16, 2) := by decide +kernel
theorem dL_raise_10 : decode cL_raise 10 = .ok (.ireturn, 1) := by decide +kernel
theorem dL_raise_11 : decode cL_raise 11 = .ok (.astore_n 3, 1) := by decide +kernel
theorem dL_raise_12 : decode cL_raise 12 = .ok (.ldc 16, 2) := by decide +kernel
theorem dL_raise_14 : decode cL_raise 14 = .ok (.ireturn, 1) := by decide +kernel
theorem dL_raise_15 : decode cL_raise 15 = .ok (.astore_n 3, 1) := by decide +kernel
theorem dL_raise_16 : decode cL_raise 16 = .ok (.ldc 16, 2) := by decide +kernel
theorem dL_raise_18 : decode cL_raise 18 = .ok (.ireturn, 1) := by decide +kernel
set_option maxRecDepth 20000 in
theorem ggL_turnCount_X3_turnCount : GoodIn wsL_turnCount wsX3_turnCount := goodIn_ca (goodIn_r _ [6, 7, 8, 9, 10, 11, 5, 12, 13, 14, 15, 16, 17, 18, 19, 20, 21, 22, 23, 24, 25, 26, 27, 28, 29, 30, 31, 32, 33, 34, 35, 36, 37, 38, 39, 40, 41, 42, 43, 44, 45, 46, 47, 48, 49, 50, 51, 52, 53, 54, 55, 56, 57, 58, 59, 60, 61, 62, 63, 64, 65, 66, 67, 68, 69, 70, 71, 72, 73, 74, 75, 76, 77, 78, 79, 80, 81, 82, 83, 84, 85, 86, 87, 88, 89, 90, 91, 92, 93, 94, 95, 96, 97, 98, 99, 100, 101, 102, 103, 104, 105, 106, 107, 108, 109, 110, 111, 112] (by decide +kernel) (by decide +kernel)) (goodIn_sub (fun _ h => List.mem_cons_of_mem _ (List.mem_append_right _ h)) (by decide +kernel))
set_option maxRecDepth 20000 in
theorem gL_turnCount_X3_turnCount : GoodIn wsL_turnCount (wsV RL 29 RX3 yX3_turnCount wsX3_turnCount) := goodIn_app (goodIn_of _ (by decide +kernel)) ggL_turnCount_X3_turnCount
theorem dL_turnCount_0 : decode cL_turnCount 0 = .ok (.aload_n 0, 1) := by decide +kernel
theorem dL_turnCount_1 : decode cL_turnCount 1 = .ok (.invokevirtual 29, 3) := by decide +kernel
theorem dL_turnCount_4 : decode cL_turnCount 4 = .ok (.ireturn, 1) := by decide +kernel
theorem dL_turnCount_5 : decode cL_turnCount 5 = .ok (.astore_n 1, 1) := by decide +kernel
theorem dL_turnCount_6 : decode cL_turnCount 6 = .ok (.iconst (-1), 1) := by decide +kernel
theorem dL_turnCount_7 : decode cL_turnCount 7 = .ok (.ireturn, 1) := by decide +kernel
set_option maxRecDepth 20000 in
theorem ggL_turnAt_X3_turnAt : GoodIn wsL_turnAt wsX3_turnAt := goodIn_ca (goodIn_ca (goodIn_r _ [7, 8, 9, 10, 11, 12, 13, 14, 6, 15, 16, 17, 18, 19, 20, 21, 22, 23, 24, 25, 26, 27, 28, 29, 30, 31, 32, 33, 34, 35, 36, 37, 38, 39, 40, 41, 42, 43, 44, 45, 46, 47, 48, 49, 50, 51, 52, 53, 54, 55, 56, 57, 58, 59, 60, 61, 62, 63, 64, 65, 66, 67, 68, 69, 70, 71, 72, 73, 74, 75, 76, 77, 78, 79, 80, 81, 82, 83, 84, 85, 86, 87, 88, 89, 90, 91, 92, 93, 94, 95, 96, 97, 98, 99, 100, 101, 102, 103, 104, 105, 106, 107, 108, 109, 110, 111, 112, 113, 114, 115, 116, 117, 118, 119, 120, 121, 122] (by decide +kernel) (by decide +kernel)) (goodIn_sub (fun _ h => List.mem_cons_of_mem _ (List.mem_append_left _ (List.mem_append_right _ h))) (by decide +kernel))) (goodIn_sub (fun _ h => List.mem_cons_of_mem _ (List.mem_append_right _ h)) (by decide +kernel))
set_option maxRecDepth 20000 in
theorem gL_turnAt_X3_turnAt : GoodIn wsL_turnAt (wsV RL 33 RX3 yX3_turnAt wsX3_turnAt) := goodIn_app (goodIn_of _ (by decide +kernel)) ggL_turnAt_X3_turnAt
theorem dL_turnAt_0 : decode cL_turnAt 0 = .ok (.aload_n 0, 1) := by decide +kernel
theorem dL_turnAt_1 : decode cL_turnAt 1 = .ok (.iload_n 1, 1) := by decide +kernel
theorem dL_turnAt_2 : decode cL_turnAt 2 = .ok (.invokevirtual 33, 3) := by decide +kernel
theorem dL_turnAt_5 : decode cL_turnAt 5 = .ok (.ireturn, 1) := by decide +kernel
theorem dL_turnAt_6 : decode cL_turnAt 6 = .ok (.astore_n 2, 1) := by decide +kernel
theorem dL_turnAt_7 : decode cL_turnAt 7 = .ok (.iconst (-1), 1) := by decide +kernel
theorem dL_turnAt_8 : decode cL_turnAt 8 = .ok (.ireturn, 1) := by decide +kernel
theorem dL_turnAt_9 : decode cL_turnAt 9 = .ok (.astore_n 2, 1) := by decide +kernel
theorem dL_turnAt_10 : decode cL_turnAt 10 = .ok (.bipush (-2), 2) := by decide +kernel
theorem dL_turnAt_12 : decode cL_turnAt 12 = .ok (.ireturn, 1) := by decide +kernel
set_option maxRecDepth 20000 in
theorem ggL_play_X3_play : GoodIn wsL_play wsX3_play := goodIn_ca (goodIn_r _ [7, 8, 9, 10, 11, 12, 13, 14, 6, 15, 16, 17, 18, 19, 20, 21, 22, 23, 24, 25, 26, 27, 28, 29, 30, 31, 32, 33, 34, 35, 36, 37, 38, 39, 40, 41, 42, 43, 44, 45, 46, 47, 48, 49, 50, 51, 52, 53, 54, 55, 56, 57, 58, 59, 60, 61, 62, 63, 64, 65, 66, 67, 68, 69, 70, 71, 72, 73, 74, 75, 76, 77, 78, 79, 80, 81, 82, 83, 84, 85, 86, 87, 88, 89, 90, 91, 92, 93, 94, 95, 96, 97, 98, 99, 100, 101, 102, 103, 104, 105, 106, 107, 108, 109, 110, 111, 112, 113, 114, 115, 116, 117, 118, 119, 120, 121, 122, 123, 124, 125, 126, 127, 128, 129, 130, 131, 132, 133, 134, 135, 136, 137, 138, 139, 140, 141, 142, 143, 144, 145, 146, 147, 148, 149, 150, 151, 152, 153, 154, 155, 156, 157, 158, 159, 160] (by decide +kernel) (by decide +kernel)) (goodIn_sub (fun _ h => List.mem_cons_of_mem _ (List.mem_append_right _ h)) (by decide +kernel))
set_option maxRecDepth 20000 in
theorem gL_play_X3_play : GoodIn wsL_play (wsV RL 36 RX3 yX3_play wsX3_play) := goodIn_app (goodIn_of _ (by decide +kernel)) ggL_play_X3_play
theorem dL_play_0 : decode cL_play 0 = .ok (.aload_n 0, 1) := by decide +kernel
theorem dL_play_1 : decode cL_play 1 = .ok (.iload_n 1, 1) := by decide +kernel
theorem dL_play_2 : decode cL_play 2 = .ok (.invokevirtual 36, 3) := by decide +kernel
theorem dL_play_5 : decode cL_play 5 = .ok (.ireturn, 1) := by decide +kernel
theorem dL_play_6 : decode cL_play 6 = .ok (.astore_n 2, 1) := by decide +kernel
theorem dL_play_7 : decode cL_play 7 = .ok (.ldc 16, 2) := by decide +kernel
theorem dL_play_9 : decode cL_play 9 = .ok (.ireturn, 1) := by decide +kernel
set_option maxRecDepth 20000 in
theorem ggL_takeBack_X3_takeBack : GoodIn wsL_takeBack wsX3_takeBack := goodIn_ca (goodIn_r _ [7, 8, 9, 10, 11, 12, 13, 14, 15, 16, 17, 18, 19, 20, 21, 22, 23, 24, 25, 26, 27, 28, 29, 30, 31, 32, 33, 34, 35, 36, 37, 38, 39, 40, 41, 42, 43, 44, 45, 46, 47, 48, 49, 50, 51, 52, 53, 54, 55, 56, 57, 58, 59, 60, 61, 62, 63, 64] (by decide +kernel) (by decide +kernel)) (goodIn_sub (fun _ h => List.mem_cons_of_mem _ (List.mem_append_right _ h)) (by decide +kernel))
set_option maxRecDepth 20000 in
theorem gL_takeBack_X3_takeBack : GoodIn wsL_takeBack (wsV RL 39 RX3 yX3_takeBack wsX3_takeBack) := goodIn_app (goodIn_of _ (by decide +kernel)) ggL_takeBack_X3_takeBack
theorem dL_takeBack_0 : decode cL_takeBack 0 = .ok (.aload_n 0, 1) := by decide +kernel
theorem dL_takeBack_1 : decode cL_takeBack 1 = .ok (.invokevirtual 39, 3) := by decide +kernel
theorem dL_takeBack_4 : decode cL_takeBack 4 = .ok (.ireturn, 1) := by decide +kernel
theorem dL_takeBack_5 : decode cL_takeBack 5 = .ok (.astore_n 1, 1) := by decide +kernel
theorem dL_takeBack_6 : decode cL_takeBack 6 = .ok (.ldc 16, 2) := by decide +kernel
theorem dL_takeBack_8 : decode cL_takeBack 8 = .ok (.ireturn, 1) := by decide +kernel
set_option maxRecDepth 20000 in
theorem ggL_worth_X3_worth : GoodIn wsL_worth wsX3_worth := goodIn_ca (goodIn_ca (goodIn_r _ [9, 10, 11, 12, 13, 14, 8, 15, 16, 17, 18, 19, 20, 21, 22, 23, 24, 25, 26, 27, 28, 29, 30, 31, 32, 33, 34, 35, 36, 37, 38, 39, 40, 41, 42, 43, 44, 45, 46, 47, 48, 49, 50, 51, 52, 53, 54, 55, 56, 57, 58, 59, 60, 61, 62, 63, 64, 65, 66, 67, 68, 69, 70, 71, 72, 73, 74, 75, 76, 77, 78, 79, 80, 81, 82, 83, 84, 85, 86, 87, 88, 89, 90, 91, 92, 93, 94, 95, 96, 97, 98, 99, 100, 101, 102, 103, 104, 105, 106, 107, 108, 109, 110, 111, 112, 113, 114, 115, 116, 117, 118, 119, 120, 121, 122, 123, 124, 125, 126, 127, 128, 129, 130, 131, 132, 133, 134, 135, 136, 137, 138, 139, 140, 141, 142, 143, 144, 145, 146, 147, 148, 149, 150, 151, 152, 153, 154, 155, 156, 157, 158, 159, 160, 161, 162, 163, 164, 165, 166, 167, 168, 169, 170, 171, 172, 173, 174, 175, 176, 177, 178, 179, 180, 181, 182, 183, 184, 185, 186, 187, 188, 189, 190, 191, 192, 193, 194, 195, 196, 197, 198] (by decide +kernel) (by decide +kernel)) (goodIn_sub (fun _ h => List.mem_cons_of_mem _ (List.mem_append_left _ (List.mem_append_right _ h))) (by decide +kernel))) (goodIn_sub (fun _ h => List.mem_cons_of_mem _ (List.mem_append_right _ h)) (by decide +kernel))
set_option maxRecDepth 20000 in
theorem gL_worth_X3_worth : GoodIn wsL_worth (wsV RL 42 RX3 yX3_worth wsX3_worth) := goodIn_app (goodIn_of _ (by decide +kernel)) ggL_worth_X3_worth
theorem dL_worth_0 : decode cL_worth 0 = .ok (.aload_n 0, 1) := by decide +kernel
theorem dL_worth_1 : decode cL_worth 1 = .ok (.iload_n 1, 1) := by decide +kernel
theorem dL_worth_2 : decode cL_worth 2 = .ok (.invokevirtual 42, 3) := by decide +kernel
theorem dL_worth_5 : decode cL_worth 5 = .ok (.ireturn, 1) := by decide +kernel
theorem dL_worth_6 : decode cL_worth 6 = .ok (.astore_n 2, 1) := by decide +kernel
theorem dL_worth_7 : decode cL_worth 7 = .ok (.ldc 16, 2) := by decide +kernel
theorem dL_worth_9 : decode cL_worth 9 = .ok (.ireturn, 1) := by decide +kernel
theorem dL_worth_10 : decode cL_worth 10 = .ok (.astore_n 2, 1) := by decide +kernel
theorem dL_worth_11 : decode cL_worth 11 = .ok (.ldc 45, 2) := by decide +kernel
theorem dL_worth_13 : decode cL_worth 13 = .ok (.ireturn, 1) := by decide +kernel
set_option maxRecDepth 20000 in
theorem ggL_act_L_low : GoodIn wsL_act wsL_low := goodIn_r _ [4, 5] (by decide +kernel) (by decide +kernel)
set_option maxRecDepth 20000 in
theorem gL_act_L_low : GoodIn wsL_act (va_wsS RL 46 yL_low wsL_low) := goodIn_app (goodIn_of _ (by decide +kernel)) ggL_act_L_low
set_option maxRecDepth 20000 in
theorem ggL_act_L_turnCount : GoodIn wsL_act wsL_turnCount := goodIn_ca (goodIn_r _ [8, 9, 10, 11, 12, 13, 14, 15, 16, 17, 18, 19, 20, 21, 22, 23, 24, 25, 26, 27, 28, 29, 30, 31, 32, 33, 34, 35, 36, 37, 38, 39, 40, 41, 42, 43, 44, 45, 46, 47, 48, 49, 50, 51, 52, 53, 54, 55, 56, 57, 58, 59, 60, 61, 62, 63, 64, 65, 66, 67, 68, 69, 70, 71, 72, 73, 74, 75, 76, 77, 78, 79, 80, 81, 82, 83, 84, 85, 86, 87, 88, 89, 90, 91, 92, 93, 94, 95, 96, 97, 98, 99, 100, 101, 102, 242, 243, 244, 245, 246, 247, 248, 249, 250, 251, 252, 253, 254, 255, 256, 257, 258, 259] (by decide +kernel) (by decide +kernel)) (goodIn_sub (fun _ h => List.mem_cons_of_mem _ (List.mem_append_left _ (List.mem_append_left _ (List.mem_append_right _ h)))) (by decide +kernel))
set_option maxRecDepth 20000 in
theorem gL_act_L_turnCount : GoodIn wsL_act (va_wsS RL 51 yL_turnCount wsL_turnCount) := goodIn_app (goodIn_of _ (by decide +kernel)) ggL_act_L_turnCount
set_option maxRecDepth 20000 in
theorem ggL_act_L_begin : GoodIn wsL_act wsL_begin := goodIn_ca (goodIn_r _ [105, 106, 107, 108, 109, 110, 13, 111, 112, 113, 15, 114, 115, 116, 117, 118, 119, 26, 120, 36, 29, 84, 85, 28, 35, 34, 56, 66, 75, 47, 121, 122, 123, 124, 125, 126, 127, 128, 129, 130, 61, 242, 243, 244, 247, 248, 249, 250, 251, 252, 253, 254, 255, 256, 257, 258, 259] (by decide +kernel) (by decide +kernel)) (goodIn_sub (fun _ h => List.mem_cons_of_mem _ (List.mem_append_left _ (List.mem_append_right _ h))) (by decide +kernel))
set_option maxRecDepth 20000 in
theorem gL_act_L_begin : GoodIn wsL_act (va_wsS RL 54 yL_begin wsL_begin) := goodIn_app (goodIn_of _ (by decide +kernel)) ggL_act_L_begin
set_option maxRecDepth 20000 in
theorem ggL_act_L_takeBack : GoodIn wsL_act wsL_takeBack := goodIn_ca (goodIn_r _ [133, 9, 107, 134, 135, 136, 13, 137, 21, 22, 15, 138, 139, 140, 26, 141, 35, 142, 34, 56, 143, 144, 145, 146, 147, 148, 149, 66, 150, 151, 152, 153, 154, 155, 156, 71, 72, 73, 74, 75, 157, 158, 159, 160, 161, 162, 163, 164, 47, 242, 243, 244, 247, 248, 249, 250, 251, 252, 253, 254, 255, 256, 257, 258, 259] (by decide +kernel) (by decide +kernel)) (goodIn_sub (fun _ h => List.mem_cons_of_mem _ (List.mem_append_left _ (List.mem_append_left _ (List.mem_append_right _ h)))) (by decide +kernel))
set_option maxRecDepth 20000 in
theorem gL_act_L_takeBack : GoodIn wsL_act (va_wsS RL 57 yL_takeBack wsL_takeBack) := goodIn_app (goodIn_of _ (by decide +kernel)) ggL_act_L_takeBack
set_option maxRecDepth 20000 in
theorem ggL_act_L_raise : GoodIn wsL_act wsL_raise := goodIn_ca (goodIn_ca (goodIn_ca (goodIn_r _ [167, 168, 106, 9, 107, 169, 170, 171, 13, 172, 112, 113, 21, 22, 15, 173, 174, 175, 176, 177, 178, 114, 115, 116, 23, 24, 25, 26, 27, 28, 29, 179, 72, 73, 74, 75, 180, 63, 64, 65, 66, 181, 147, 148, 149, 242, 243, 244, 247, 248, 249, 250, 251, 252, 253, 254, 255, 256, 257, 258, 259] (by decide +kernel) (by decide +kernel)) (goodIn_sub (fun _ h => List.mem_cons_of_mem _ (List.mem_append_left _ (List.mem_append_right _ h))) (by decide +kernel))) (goodIn_sub (fun _ h => List.mem_cons_of_mem _ (List.mem_append_left _ (List.mem_append_left _ (List.mem_append_right _ h)))) (by decide +kernel))) (goodIn_sub (fun _ h => List.mem_cons_of_mem _ (List.mem_append_right _ h)) (by decide +kernel))
set_option maxRecDepth 20000 in
theorem gL_act_L_raise : GoodIn wsL_act (va_wsS RL 59 yL_raise wsL_raise) := goodIn_app (goodIn_of _ (by decide +kernel)) ggL_act_L_raise
set_option maxRecDepth 20000 in
theorem ggL_act_L_place : GoodIn wsL_act wsL_place := goodIn_ca (goodIn_ca (goodIn_r _ [184, 168, 9, 107, 185, 186, 187, 13, 188, 21, 22, 15, 173, 174, 175, 176, 177, 178, 114, 115, 116, 23, 24, 25, 26, 27, 28, 29, 189, 77, 78, 79, 75, 66, 190, 191, 192, 193, 34, 161, 162, 163, 164, 47, 194, 195, 196, 197, 198, 43, 44, 45, 46, 52, 53, 54, 55, 56, 57, 58, 59, 60, 61, 62, 63, 64, 65, 67, 68, 69, 70, 71, 72, 73, 74, 76, 80, 81, 82, 83, 84, 85, 199, 200, 201, 202, 90, 91, 92, 93, 94, 95, 96, 97, 203, 204, 205, 206, 35, 242, 243, 244, 247, 248, 249, 250, 251, 252, 253, 254, 255, 256, 257, 258, 259] (by decide +kernel) (by decide +kernel)) (goodIn_sub (fun _ h => List.mem_cons_of_mem _ (List.mem_append_left _ (List.mem_append_left _ (List.mem_append_right _ h)))) (by decide +kernel))) (goodIn_sub (fun _ h => List.mem_cons_of_mem _ (List.mem_append_right _ h)) (by decide +kernel))
set_option maxRecDepth 20000 in
theorem gL_act_L_place : GoodIn wsL_act (va_wsS RL 62 yL_place wsL_place) := goodIn_app (goodIn_of _ (by decide +kernel)) ggL_act_L_place
set_option maxRecDepth 20000 in
theorem ggL_act_L_turnAt : GoodIn wsL_act wsL_turnAt := goodIn_ca (goodIn_ca (goodIn_r _ [209, 168, 9, 210, 211, 212, 13, 213, 177, 178, 15, 16, 17, 18, 19, 20, 21, 22, 23, 24, 25, 26, 27, 28, 29, 30, 31, 32, 33, 34, 35, 36, 37, 38, 39, 40, 41, 42, 43, 44, 45, 46, 47, 48, 49, 50, 51, 52, 53, 54, 55, 56, 57, 58, 59, 60, 61, 62, 63, 64, 65, 66, 67, 68, 69, 70, 71, 72, 73, 74, 75, 76, 77, 78, 79, 80, 81, 82, 83, 84, 85, 86, 87, 88, 89, 90, 91, 92, 93, 94, 95, 96, 97, 98, 99, 100, 101, 102, 114, 115, 116, 214, 215, 216, 217, 242, 243, 244, 245, 246, 247, 248, 249, 250, 251, 252, 253, 254, 255, 256, 257, 258, 259] (by decide +kernel) (by decide +kernel)) (goodIn_sub (fun _ h => List.mem_cons_of_mem _ (List.mem_append_right _ h)) (by decide +kernel))) (goodIn_sub (fun _ h => List.mem_cons_of_mem _ (List.mem_append_left _ (List.mem_append_left _ (List.mem_append_right _ h)))) (by decide +kernel))
set_option maxRecDepth 20000 in
theorem gL_act_L_turnAt : GoodIn wsL_act (va_wsS RL 65 yL_turnAt wsL_turnAt) := goodIn_app (goodIn_of _ (by decide +kernel)) ggL_act_L_turnAt
set_option maxRecDepth 20000 in
theorem ggL_act_L_play : GoodIn wsL_act wsL_play := goodIn_ca (goodIn_r _ [220, 9, 107, 221, 222, 223, 13, 224, 21, 22, 15, 16, 17, 18, 19, 20, 23, 24, 25, 26, 27, 28, 29, 30, 31, 32, 33, 34, 35, 36, 37, 38, 39, 40, 41, 42, 43, 44, 45, 46, 47, 48, 49, 50, 51, 52, 53, 54, 55, 56, 57, 58, 59, 60, 61, 62, 63, 64, 65, 66, 67, 68, 69, 70, 71, 72, 73, 74, 75, 76, 77, 78, 79, 80, 81, 82, 83, 84, 85, 86, 87, 88, 89, 90, 91, 92, 93, 94, 95, 96, 97, 98, 99, 100, 101, 102, 225, 226, 227, 228, 229, 215, 216, 217, 230, 231, 232, 233, 150, 151, 152, 234, 235, 236, 237, 142, 143, 144, 145, 238, 239, 240, 241, 157, 158, 159, 160, 161, 162, 163, 164, 146, 147, 148, 149, 195, 196, 197, 198, 199, 200, 201, 202, 242, 243, 244, 247, 248, 249, 250, 251, 252, 253, 254, 255, 256, 257, 258, 259, 245, 246] (by decide +kernel) (by decide +kernel)) (goodIn_sub (fun _ h => List.mem_cons_of_mem _ (List.mem_append_left _ (List.mem_append_left _ (List.mem_append_right _ h)))) (by decide +kernel))
set_option maxRecDepth 20000 in
theorem gL_act_L_play : GoodIn wsL_act (va_wsS RL 67 yL_play wsL_play) := goodIn_app (goodIn_of _ (by decide +kernel)) ggL_act_L_play
theorem dL_act_0 : decode cL_act 0 = .ok (.iload_n 1, 1) := by decide +kernel
theorem dL_act_1 : decode cL_act 1 = .ok (.bipush 24, 2) := by decide +kernel
theorem dL_act_3 : decode cL_act 3 = .ok (.ishr, 1) := by decide +kernel
theorem dL_act_4 : decode cL_act 4 = .ok (.bipush 9, 2) := by decide +kernel
theorem dL_act_6 : decode cL_act 6 = .ok (.invokestatic 46, 3) := by decide +kernel
theorem dL_act_9 : decode cL_act 9 = .ok (.ifCond .ne 7, 3) := by decide +kernel
theorem dL_act_12 : decode cL_act 12 = .ok (.iconst 1, 1) := by decide +kernel
theorem dL_act_13 : decode cL_act 13 = .ok (.goto 4, 3) := by decide +kernel
theorem dL_act_16 : decode cL_act 16 = .ok (.iconst 0, 1) := by decide +kernel
theorem dL_act_17 : decode cL_act 17 = .ok (.istore_n 2, 1) := by decide +kernel
theorem dL_act_18 : decode cL_act 18 = .ok (.aload_n 0, 1) := by decide +kernel
theorem dL_act_19 : decode cL_act 19 = .ok (.invokestatic 51, 3) := by decide +kernel
theorem dL_act_22 : decode cL_act 22 = .ok (.istore_n 3, 1) := by decide +kernel
theorem dL_act_23 : decode cL_act 23 = .ok (.iload_n 2, 1) := by decide +kernel
theorem dL_act_24 : decode cL_act 24 = .ok (.ifCond .eq 16, 3) := by decide +kernel
theorem dL_act_27 : decode cL_act 27 = .ok (.iload_n 1, 1) := by decide +kernel
theorem dL_act_28 : decode cL_act 28 = .ok (.iconst 4, 1) := by decide +kernel
theorem dL_act_29 : decode cL_act 29 = .ok (.ishr, 1) := by decide +kernel
theorem dL_act_30 : decode cL_act 30 = .ok (.bipush 27, 2) := by decide +kernel
theorem dL_act_32 : decode cL_act 32 = .ok (.invokestatic 46, 3) := by decide +kernel
theorem dL_act_35 : decode cL_act 35 = .ok (.iconst 1, 1) := by decide +kernel
theorem dL_act_36 : decode cL_act 36 = .ok (.isub, 1) := by decide +kernel
theorem dL_act_37 : decode cL_act 37 = .ok (.goto 11, 3) := by decide +kernel
theorem dL_act_40 : decode cL_act 40 = .ok (.iload_n 1, 1) := by decide +kernel
theorem dL_act_41 : decode cL_act 41 = .ok (.iconst 4, 1) := by decide +kernel
theorem dL_act_42 : decode cL_act 42 = .ok (.ishr, 1) := by decide +kernel
theorem dL_act_43 : decode cL_act 43 = .ok (.bipush 9, 2) := by decide +kernel
theorem dL_act_45 : decode cL_act 45 = .ok (.invokestatic 46, 3) := by decide +kernel
theorem dL_act_48 : decode cL_act 48 = .ok (.istore 4, 2) := by decide +kernel
theorem dL_act_50 : decode cL_act 50 = .ok (.iload_n 1, 1) := by decide +kernel
theorem dL_act_51 : decode cL_act 51 = .ok (.bipush 24, 2) := by decide +kernel
theorem dL_act_53 : decode cL_act 53 = .ok (.invokestatic 46, 3) := by decide +kernel
theorem dL_act_56 : decode cL_act 56 = .ok (.tableswitch 195 0 5 #[40, 157, 162, 162, 162, 162], 40) := by decide +kernel
theorem dL_act_96 : decode cL_act 96 = .ok (.aload_n 0, 1) := by decide +kernel
theorem dL_act_97 : decode cL_act 97 = .ok (.iload_n 2, 1) := by decide +kernel
theorem dL_act_98 : decode cL_act 98 = .ok (.ifCond .eq 14, 3) := by decide +kernel
theorem dL_act_101 : decode cL_act 101 = .ok (.iload_n 1, 1) := by decide +kernel
theorem dL_act_102 : decode cL_act 102 = .ok (.iconst 4, 1) := by decide +kernel
theorem dL_act_103 : decode cL_act 103 = .ok (.ishr, 1) := by decide +kernel
theorem dL_act_104 : decode cL_act 104 = .ok (.bipush 7, 2) := by decide +kernel
theorem dL_act_106 : decode cL_act 106 = .ok (.invokestatic 46, 3) := by decide +kernel
theorem dL_act_109 : decode cL_act 109 = .ok (.goto 12, 3) := by decide +kernel
theorem dL_act_112 : decode cL_act 112 = .ok (.iconst 2, 1) := by decide +kernel
theorem dL_act_113 : decode cL_act 113 = .ok (.iload_n 1, 1) := by decide +kernel
theorem dL_act_114 : decode cL_act 114 = .ok (.iconst 4, 1) := by decide +kernel
theorem dL_act_115 : decode cL_act 115 = .ok (.ishr, 1) := by decide +kernel
theorem dL_act_116 : decode cL_act 116 = .ok (.iconst 3, 1) := by decide +kernel
theorem dL_act_117 : decode cL_act 117 = .ok (.invokestatic 46, 3) := by decide +kernel
theorem dL_act_120 : decode cL_act 120 = .ok (.iadd, 1) := by decide +kernel
theorem dL_act_121 : decode cL_act 121 = .ok (.iload_n 2, 1) := by decide +kernel
theorem dL_act_122 : decode cL_act 122 = .ok (.ifCond .eq 15, 3) := by decide +kernel
theorem dL_act_125 : decode cL_act 125 = .ok (.iload_n 1, 1) := by decide +kernel
theorem dL_act_126 : decode cL_act 126 = .ok (.bipush 7, 2) := by decide +kernel
theorem dL_act_128 : decode cL_act 128 = .ok (.ishr, 1) := by decide +kernel
theorem dL_act_129 : decode cL_act 129 = .ok (.bipush 7, 2) := by decide +kernel
theorem dL_act_131 : decode cL_act 131 = .ok (.invokestatic 46, 3) := by decide +kernel
theorem dL_act_134 : decode cL_act 134 = .ok (.goto 13, 3) := by decide +kernel
theorem dL_act_137 : decode cL_act 137 = .ok (.iconst 3, 1) := by decide +kernel
theorem dL_act_138 : decode cL_act 138 = .ok (.iload_n 1, 1) := by decide +kernel
theorem dL_act_139 : decode cL_act 139 = .ok (.bipush 7, 2) := by decide +kernel
theorem dL_act_141 : decode cL_act 141 = .ok (.ishr, 1) := by decide +kernel
theorem dL_act_142 : decode cL_act 142 = .ok (.iconst 2, 1) := by decide +kernel
theorem dL_act_143 : decode cL_act 143 = .ok (.invokestatic 46, 3) := by decide +kernel
theorem dL_act_146 : decode cL_act 146 = .ok (.iadd, 1) := by decide +kernel
theorem dL_act_147 : decode cL_act 147 = .ok (.iload_n 2, 1) := by decide +kernel
theorem dL_act_148 : decode cL_act 148 = .ok (.ifCond .eq 14, 3) := by decide +kernel
theorem dL_act_151 : decode cL_act 151 = .ok (.iload_n 1, 1) := by decide +kernel
theorem dL_act_152 : decode cL_act 152 = .ok (.bipush 10, 2) := by decide +kernel
theorem dL_act_154 : decode cL_act 154 = .ok (.ishr, 1) := by decide +kernel
theorem dL_act_155 : decode cL_act 155 = .ok (.iconst 4, 1) := by decide +kernel
theorem dL_act_156 : decode cL_act 156 = .ok (.invokestatic 46, 3) := by decide +kernel
theorem dL_act_159 : decode cL_act 159 = .ok (.goto 13, 3) := by decide +kernel
theorem dL_act_162 : decode cL_act 162 = .ok (.iconst 1, 1) := by decide +kernel
theorem dL_act_163 : decode cL_act 163 = .ok (.iload_n 1, 1) := by decide +kernel
theorem dL_act_164 : decode cL_act 164 = .ok (.bipush 10, 2) := by decide +kernel
theorem dL_act_166 : decode cL_act 166 = .ok (.ishr, 1) := by decide +kernel
theorem dL_act_167 : decode cL_act 167 = .ok (.iconst 2, 1) := by decide +kernel
theorem dL_act_168 : decode cL_act 168 = .ok (.invokestatic 46, 3) := by decide +kernel
theorem dL_act_171 : decode cL_act 171 = .ok (.iadd, 1) := by decide +kernel
theorem dL_act_172 : decode cL_act 172 = .ok (.iload_n 1, 1) := by decide +kernel
theorem dL_act_173 : decode cL_act 173 = .ok (.bipush 12, 2) := by decide +kernel
theorem dL_act_175 : decode cL_act 175 = .ok (.ishr, 1) := by decide +kernel
theorem dL_act_176 : decode cL_act 176 = .ok (.iload_n 2, 1) := by decide +kernel
theorem dL_act_177 : decode cL_act 177 = .ok (.ifCond .eq 8, 3) := by decide +kernel
theorem dL_act_180 : decode cL_act 180 = .ok (.bipush 9, 2) := by decide +kernel
theorem dL_act_182 : decode cL_act 182 = .ok (.goto 5, 3) := by decide +kernel
theorem dL_act_185 : decode cL_act 185 = .ok (.bipush 7, 2) := by decide +kernel
theorem dL_act_187 : decode cL_act 187 = .ok (.invokestatic 46, 3) := by decide +kernel
theorem dL_act_190 : decode cL_act 190 = .ok (.iload_n 2, 1) := by decide +kernel
theorem dL_act_191 : decode cL_act 191 = .ok (.ifCond .eq 7, 3) := by decide +kernel
theorem dL_act_194 : decode cL_act 194 = .ok (.iconst 1, 1) := by decide +kernel
theorem dL_act_195 : decode cL_act 195 = .ok (.goto 4, 3) := by decide +kernel
theorem dL_act_198 : decode cL_act 198 = .ok (.iconst 0, 1) := by decide +kernel
theorem dL_act_199 : decode cL_act 199 = .ok (.isub, 1) := by decide +kernel
theorem dL_act_200 : decode cL_act 200 = .ok (.iload_n 1, 1) := by decide +kernel
theorem dL_act_201 : decode cL_act 201 = .ok (.bipush 15, 2) := by decide +kernel
theorem dL_act_203 : decode cL_act 203 = .ok (.ishr, 1) := by decide +kernel
theorem dL_act_204 : decode cL_act 204 = .ok (.bipush 7, 2) := by decide +kernel
theorem dL_act_206 : decode cL_act 206 = .ok (.invokestatic 46, 3) := by decide +kernel
theorem dL_act_209 : decode cL_act 209 = .ok (.invokestatic 54, 3) := by decide +kernel
theorem dL_act_212 : decode cL_act 212 = .ok (.ireturn, 1) := by decide +kernel
theorem dL_act_213 : decode cL_act 213 = .ok (.aload_n 0, 1) := by decide +kernel
theorem dL_act_214 : decode cL_act 214 = .ok (.invokestatic 57, 3) := by decide +kernel
theorem dL_act_217 : decode cL_act 217 = .ok (.ireturn, 1) := by decide +kernel
theorem dL_act_218 : decode cL_act 218 = .ok (.aload_n 0, 1) := by decide +kernel
theorem dL_act_219 : decode cL_act 219 = .ok (.iload 4, 2) := by decide +kernel
theorem dL_act_221 : decode cL_act 221 = .ok (.iload_n 2, 1) := by decide +kernel
theorem dL_act_222 : decode cL_act 222 = .ok (.ifCond .eq 17, 3) := by decide +kernel
theorem dL_act_225 : decode cL_act 225 = .ok (.iload_n 1, 1) := by decide +kernel
theorem dL_act_226 : decode cL_act 226 = .ok (.bipush 9, 2) := by decide +kernel
theorem dL_act_228 : decode cL_act 228 = .ok (.ishr, 1) := by decide +kernel
theorem dL_act_229 : decode cL_act 229 = .ok (.bipush 7, 2) := by decide +kernel
theorem dL_act_231 : decode cL_act 231 = .ok (.invokestatic 46, 3) := by decide +kernel
theorem dL_act_234 : decode cL_act 234 = .ok (.iconst 1, 1) := by decide +kernel
theorem dL_act_235 : decode cL_act 235 = .ok (.isub, 1) := by decide +kernel
theorem dL_act_236 : decode cL_act 236 = .ok (.goto 11, 3) := by decide +kernel
theorem dL_act_239 : decode cL_act 239 = .ok (.iload_n 1, 1) := by decide +kernel
theorem dL_act_240 : decode cL_act 240 = .ok (.bipush 9, 2) := by decide +kernel
theorem dL_act_242 : decode cL_act 242 = .ok (.ishr, 1) := by decide +kernel
theorem dL_act_243 : decode cL_act 243 = .ok (.iconst 4, 1) := by decide +kernel
theorem dL_act_244 : decode cL_act 244 = .ok (.invokestatic 46, 3) := by decide +kernel
theorem dL_act_247 : decode cL_act 247 = .ok (.invokestatic 59, 3) := by decide +kernel
theorem dL_act_250 : decode cL_act 250 = .ok (.ireturn, 1) := by decide +kernel
theorem dL_act_251 : decode cL_act 251 = .ok (.iload_n 3, 1) := by decide +kernel
theorem dL_act_252 : decode cL_act 252 = .ok (.ifCond .ge 12, 3) := by decide +kernel
theorem dL_act_255 : decode cL_act 255 = .ok (.aload_n 0, 1) := by decide +kernel
theorem dL_act_256 : decode cL_act 256 = .ok (.iload 4, 2) := by decide +kernel
theorem dL_act_258 : decode cL_act 258 = .ok (.invokestatic 62, 3) := by decide +kernel
theorem dL_act_261 : decode cL_act 261 = .ok (.goto 41, 3) := by decide +kernel
theorem dL_act_264 : decode cL_act 264 = .ok (.aload_n 0, 1) := by decide +kernel
theorem dL_act_265 : decode cL_act 265 = .ok (.iload_n 2, 1) := by decide +kernel
theorem dL_act_266 : decode cL_act 266 = .ok (.ifCond .ne 7, 3) := by decide +kernel
theorem dL_act_269 : decode cL_act 269 = .ok (.iload_n 3, 1) := by decide +kernel
theorem dL_act_270 : decode cL_act 270 = .ok (.ifCond .ne 18, 3) := by decide +kernel
theorem dL_act_273 : decode cL_act 273 = .ok (.iload_n 1, 1) := by decide +kernel
theorem dL_act_274 : decode cL_act 274 = .ok (.iconst 4, 1) := by decide +kernel
theorem dL_act_275 : decode cL_act 275 = .ok (.ishr, 1) := by decide +kernel
theorem dL_act_276 : decode cL_act 276 = .ok (.sipush 20000, 3) := by decide +kernel
theorem dL_act_279 : decode cL_act 279 = .ok (.invokestatic 46, 3) := by decide +kernel
theorem dL_act_282 : decode cL_act 282 = .ok (.bipush 100, 2) := by decide +kernel
theorem dL_act_284 : decode cL_act 284 = .ok (.isub, 1) := by decide +kernel
theorem dL_act_285 : decode cL_act 285 = .ok (.goto 14, 3) := by decide +kernel
theorem dL_act_288 : decode cL_act 288 = .ok (.aload_n 0, 1) := by decide +kernel
theorem dL_act_289 : decode cL_act 289 = .ok (.iload_n 1, 1) := by decide +kernel
theorem dL_act_290 : decode cL_act 290 = .ok (.iconst 4, 1) := by decide +kernel
theorem dL_act_291 : decode cL_act 291 = .ok (.ishr, 1) := by decide +kernel
theorem dL_act_292 : decode cL_act 292 = .ok (.iload_n 3, 1) := by decide +kernel
theorem dL_act_293 : decode cL_act 293 = .ok (.invokestatic 46, 3) := by decide +kernel
theorem dL_act_296 : decode cL_act 296 = .ok (.invokestatic 65, 3) := by decide +kernel
theorem dL_act_299 : decode cL_act 299 = .ok (.invokestatic 67, 3) := by decide +kernel
theorem dL_act_302 : decode cL_act 302 = .ok (.ireturn, 1) := by decide +kernel
set_option maxRecDepth 20000 in
theorem ggL_areAlike_X3_onTurn : GoodIn wsL_areAlike wsX3_onTurn := goodIn_r _ [5, 6, 7, 8, 9, 10, 11, 12, 13, 14, 15, 16, 17, 18, 19, 143, 144, 145, 146, 147, 148, 149, 150, 151, 152, 153, 154, 155, 156, 157, 158] (by decide +kernel) (by decide +kernel)
set_option maxRecDepth 20000 in
theorem gL_areAlike_X3_onTurn : GoodIn wsL_areAlike (wsV RL 69 RX3 yX3_onTurn wsX3_onTurn) := goodIn_app (goodIn_of _ (by decide +kernel)) ggL_areAlike_X3_onTurn
set_option maxRecDepth 20000 in
theorem ggL_areAlike_X3_winner : GoodIn wsL_areAlike wsX3_winner := goodIn_r _ [23, 6, 143, 144, 145, 146, 147, 148, 149, 150, 151, 152, 153, 154, 155, 156, 157, 158] (by decide +kernel) (by decide +kernel)
set_option maxRecDepth 20000 in
theorem gL_areAlike_X3_winner : GoodIn wsL_areAlike (wsV RL 72 RX3 yX3_winner wsX3_winner) := goodIn_app (goodIn_of _ (by decide +kernel)) ggL_areAlike_X3_winner
set_option maxRecDepth 20000 in
theorem ggL_areAlike_X3_played : GoodIn wsL_areAlike wsX3_played := goodIn_r _ [27, 6, 143, 144, 145, 146, 147, 148, 149, 150, 151, 152, 153, 154, 155, 156, 157, 158] (by decide +kernel) (by decide +kernel)
set_option maxRecDepth 20000 in
theorem gL_areAlike_X3_played : GoodIn wsL_areAlike (wsV RL 75 RX3 yX3_played wsX3_played) := goodIn_app (goodIn_of _ (by decide +kernel)) ggL_areAlike_X3_played
set_option maxRecDepth 20000 in
theorem ggL_areAlike_L_turnCount : GoodIn wsL_areAlike wsL_turnCount := goodIn_ca (goodIn_r _ [31, 32, 33, 34, 35, 4, 36, 6, 37, 38, 39, 40, 41, 42, 43, 44, 17, 18, 10, 19, 14, 15, 45, 46, 47, 48, 12, 13, 49, 50, 51, 52, 53, 54, 55, 56, 57, 58, 59, 60, 61, 62, 63, 64, 65, 66, 67, 68, 69, 70, 71, 72, 73, 74, 75, 76, 77, 78, 79, 80, 81, 82, 83, 84, 85, 86, 87, 88, 89, 90, 91, 92, 93, 94, 95, 96, 97, 98, 99, 100, 101, 102, 103, 104, 105, 106, 107, 108, 109, 110, 111, 112, 113, 114, 115, 143, 144, 145, 159, 160, 146, 147, 148, 149, 150, 151, 152, 153, 154, 155, 156, 157, 158] (by decide +kernel) (by decide +kernel)) (goodIn_sub (fun _ h => List.mem_cons_of_mem _ (List.mem_append_left _ (List.mem_append_right _ h))) (by decide +kernel))
set_option maxRecDepth 20000 in
theorem gL_areAlike_L_turnCount : GoodIn wsL_areAlike (va_wsS RL 51 yL_turnCount wsL_turnCount) := goodIn_app (goodIn_of _ (by decide +kernel)) ggL_areAlike_L_turnCount
set_option maxRecDepth 20000 in
theorem ggL_areAlike_X3_reached : GoodIn wsL_areAlike wsX3_reached := goodIn_ca (goodIn_r _ [119, 120, 121, 6, 122, 123, 4, 124, 125, 126, 127, 10, 128, 15, 56, 57, 58, 59, 60, 75, 76, 77, 78, 79, 143, 144, 145, 146, 147, 148, 149, 150, 151, 152, 153, 154, 155, 156, 157, 158] (by decide +kernel) (by decide +kernel)) (goodIn_sub (fun _ h => List.mem_cons_of_mem _ (List.mem_append_right _ h)) (by decide +kernel))
set_option maxRecDepth 20000 in
theorem gL_areAlike_X3_reached : GoodIn wsL_areAlike (wsV RL 78 RX3 yX3_reached wsX3_reached) := goodIn_app (goodIn_of _ (by decide +kernel)) ggL_areAlike_X3_reached
set_option maxRecDepth 20000 in
theorem ggL_areAlike_X3_height : GoodIn wsL_areAlike wsX3_height := goodIn_ca (goodIn_r _ [132, 6, 133, 134, 135, 4, 136, 120, 121, 122, 123, 124, 137, 76, 77, 10, 78, 79, 143, 144, 145, 146, 147, 148, 149, 150, 151, 152, 153, 154, 155, 156, 157, 158] (by decide +kernel) (by decide +kernel)) (goodIn_sub (fun _ h => List.mem_cons_of_mem _ (List.mem_append_right _ h)) (by decide +kernel))
set_option maxRecDepth 20000 in
theorem gL_areAlike_X3_height : GoodIn wsL_areAlike (wsV RL 81 RX3 yX3_height wsX3_height) := goodIn_app (goodIn_of _ (by decide +kernel)) ggL_areAlike_X3_height
set_option maxRecDepth 20000 in
theorem ggL_areAlike_X3_builderAt : GoodIn wsL_areAlike wsX3_builderAt := goodIn_ca (goodIn_r _ [141, 6, 133, 134, 135, 4, 136, 120, 121, 122, 123, 124, 142, 85, 86, 10, 87, 88, 143, 144, 145, 146, 147, 148, 149, 150, 151, 152, 153, 154, 155, 156, 157, 158] (by decide +kernel) (by decide +kernel)) (goodIn_sub (fun _ h => List.mem_cons_of_mem _ (List.mem_append_right _ h)) (by decide +kernel))
set_option maxRecDepth 20000 in
theorem gL_areAlike_X3_builderAt : GoodIn wsL_areAlike (wsV RL 84 RX3 yX3_builderAt wsX3_builderAt) := goodIn_app (goodIn_of _ (by decide +kernel)) ggL_areAlike_X3_builderAt
theorem dL_areAlike_0 : decode cL_areAlike 0 = .ok (.aload_n 0, 1) := by decide +kernel
theorem dL_areAlike_1 : decode cL_areAlike 1 = .ok (.invokevirtual 69, 3) := by decide +kernel
theorem dL_areAlike_4 : decode cL_areAlike 4 = .ok (.aload_n 1, 1) := by decide +kernel
theorem dL_areAlike_5 : decode cL_areAlike 5 = .ok (.invokevirtual 69, 3) := by decide +kernel
theorem dL_areAlike_8 : decode cL_areAlike 8 = .ok (.if_icmp .ne 66, 3) := by decide +kernel
theorem dL_areAlike_11 : decode cL_areAlike 11 = .ok (.aload_n 0, 1) := by decide +kernel
theorem dL_areAlike_12 : decode cL_areAlike 12 = .ok (.invokevirtual 72, 3) := by decide +kernel
theorem dL_areAlike_15 : decode cL_areAlike 15 = .ok (.aload_n 1, 1) := by decide +kernel
theorem dL_areAlike_16 : decode cL_areAlike 16 = .ok (.invokevirtual 72, 3) := by decide +kernel
theorem dL_areAlike_19 : decode cL_areAlike 19 = .ok (.if_icmp .ne 55, 3) := by decide +kernel
theorem dL_areAlike_22 : decode cL_areAlike 22 = .ok (.aload_n 0, 1) := by decide +kernel
theorem dL_areAlike_23 : decode cL_areAlike 23 = .ok (.invokevirtual 75, 3) := by decide +kernel
theorem dL_areAlike_26 : decode cL_areAlike 26 = .ok (.aload_n 1, 1) := by decide +kernel
theorem dL_areAlike_27 : decode cL_areAlike 27 = .ok (.invokevirtual 75, 3) := by decide +kernel
theorem dL_areAlike_30 : decode cL_areAlike 30 = .ok (.if_icmp .ne 44, 3) := by decide +kernel
theorem dL_areAlike_33 : decode cL_areAlike 33 = .ok (.aload_n 0, 1) := by decide +kernel
theorem dL_areAlike_34 : decode cL_areAlike 34 = .ok (.invokestatic 51, 3) := by decide +kernel
theorem dL_areAlike_37 : decode cL_areAlike 37 = .ok (.aload_n 1, 1) := by decide +kernel
theorem dL_areAlike_38 : decode cL_areAlike 38 = .ok (.invokestatic 51, 3) := by decide +kernel
theorem dL_areAlike_41 : decode cL_areAlike 41 = .ok (.if_icmp .ne 33, 3) := by decide +kernel
theorem dL_areAlike_44 : decode cL_areAlike 44 = .ok (.aload_n 0, 1) := by decide +kernel
theorem dL_areAlike_45 : decode cL_areAlike 45 = .ok (.iconst 0, 1) := by decide +kernel
theorem dL_areAlike_46 : decode cL_areAlike 46 = .ok (.invokevirtual 78, 3) := by decide +kernel
theorem dL_areAlike_49 : decode cL_areAlike 49 = .ok (.aload_n 1, 1) := by decide +kernel
theorem dL_areAlike_50 : decode cL_areAlike 50 = .ok (.iconst 0, 1) := by decide +kernel
theorem dL_areAlike_51 : decode cL_areAlike 51 = .ok (.invokevirtual 78, 3) := by decide +kernel
theorem dL_areAlike_54 : decode cL_areAlike 54 = .ok (.if_icmp .ne 20, 3) := by decide +kernel
theorem dL_areAlike_57 : decode cL_areAlike 57 = .ok (.aload_n 0, 1) := by decide +kernel
theorem dL_areAlike_58 : decode cL_areAlike 58 = .ok (.iconst 1, 1) := by decide +kernel
theorem dL_areAlike_59 : decode cL_areAlike 59 = .ok (.invokevirtual 78, 3) := by decide +kernel
theorem dL_areAlike_62 : decode cL_areAlike 62 = .ok (.aload_n 1, 1) := by decide +kernel
theorem dL_areAlike_63 : decode cL_areAlike 63 = .ok (.iconst 1, 1) := by decide +kernel
theorem dL_areAlike_64 : decode cL_areAlike 64 = .ok (.invokevirtual 78, 3) := by decide +kernel
theorem dL_areAlike_67 : decode cL_areAlike 67 = .ok (.if_icmp .ne 7, 3) := by decide +kernel
theorem dL_areAlike_70 : decode cL_areAlike 70 = .ok (.iconst 1, 1) := by decide +kernel
theorem dL_areAlike_71 : decode cL_areAlike 71 = .ok (.goto 4, 3) := by decide +kernel
theorem dL_areAlike_74 : decode cL_areAlike 74 = .ok (.iconst 0, 1) := by decide +kernel
theorem dL_areAlike_75 : decode cL_areAlike 75 = .ok (.istore_n 3, 1) := by decide +kernel
theorem dL_areAlike_76 : decode cL_areAlike 76 = .ok (.iconst 0, 1) := by decide +kernel
theorem dL_areAlike_77 : decode cL_areAlike 77 = .ok (.istore 4, 2) := by decide +kernel
theorem dL_areAlike_79 : decode cL_areAlike 79 = .ok (.iload 4, 2) := by decide +kernel
theorem dL_areAlike_81 : decode cL_areAlike 81 = .ok (.iload_n 2, 1) := by decide +kernel
theorem dL_areAlike_82 : decode cL_areAlike 82 = .ok (.if_icmp .ge 49, 3) := by decide +kernel
theorem dL_areAlike_85 : decode cL_areAlike 85 = .ok (.iload_n 3, 1) := by decide +kernel
theorem dL_areAlike_86 : decode cL_areAlike 86 = .ok (.ifCond .eq 45, 3) := by decide +kernel
theorem dL_areAlike_89 : decode cL_areAlike 89 = .ok (.aload_n 0, 1) := by decide +kernel
theorem dL_areAlike_90 : decode cL_areAlike 90 = .ok (.iload 4, 2) := by decide +kernel
theorem dL_areAlike_92 : decode cL_areAlike 92 = .ok (.invokevirtual 81, 3) := by decide +kernel
theorem dL_areAlike_95 : decode cL_areAlike 95 = .ok (.aload_n 1, 1) := by decide +kernel
theorem dL_areAlike_96 : decode cL_areAlike 96 = .ok (.iload 4, 2) := by decide +kernel
theorem dL_areAlike_98 : decode cL_areAlike 98 = .ok (.invokevirtual 81, 3) := by decide +kernel
theorem dL_areAlike_101 : decode cL_areAlike 101 = .ok (.if_icmp .ne 22, 3) := by decide +kernel
theorem dL_areAlike_104 : decode cL_areAlike 104 = .ok (.aload_n 0, 1) := by decide +kernel
theorem dL_areAlike_105 : decode cL_areAlike 105 = .ok (.iload 4, 2) := by decide +kernel
theorem dL_areAlike_107 : decode cL_areAlike 107 = .ok (.invokevirtual 84, 3) := by decide +kernel
theorem dL_areAlike_110 : decode cL_areAlike 110 = .ok (.aload_n 1, 1) := by decide +kernel
theorem dL_areAlike_111 : decode cL_areAlike 111 = .ok (.iload 4, 2) := by decide +kernel
theorem dL_areAlike_113 : decode cL_areAlike 113 = .ok (.invokevirtual 84, 3) := by decide +kernel
theorem dL_areAlike_116 : decode cL_areAlike 116 = .ok (.if_icmp .ne 7, 3) := by decide +kernel
theorem dL_areAlike_119 : decode cL_areAlike 119 = .ok (.iconst 1, 1) := by decide +kernel
theorem dL_areAlike_120 : decode cL_areAlike 120 = .ok (.goto 4, 3) := by decide +kernel
theorem dL_areAlike_123 : decode cL_areAlike 123 = .ok (.iconst 0, 1) := by decide +kernel
theorem dL_areAlike_124 : decode cL_areAlike 124 = .ok (.istore_n 3, 1) := by decide +kernel
theorem dL_areAlike_125 : decode cL_areAlike 125 = .ok (.iinc 4 1, 3) := by decide +kernel
theorem dL_areAlike_128 : decode cL_areAlike 128 = .ok (.goto (-49), 3) := by decide +kernel
theorem dL_areAlike_131 : decode cL_areAlike 131 = .ok (.iload_n 3, 1) := by decide +kernel
theorem dL_areAlike_132 : decode cL_areAlike 132 = .ok (.ireturn, 1) := by decide +kernel
set_option maxRecDepth 20000 in
theorem ggL_isBoardSo_X3_builderAt : GoodIn wsL_isBoardSo wsX3_builderAt := goodIn_ca (goodIn_r _ [5, 6, 7, 8, 9, 4, 10, 11, 12, 13, 14, 15, 16, 17, 18, 19, 20, 21, 143, 144, 145, 146, 147, 148, 149, 150, 151, 152, 153, 154, 155, 156, 157, 158] (by decide +kernel) (by decide +kernel)) (goodIn_sub (fun _ h => List.mem_cons_of_mem _ (List.mem_append_left _ (List.mem_append_right _ h))) (by decide +kernel))
set_option maxRecDepth 20000 in
theorem gL_isBoardSo_X3_builderAt : GoodIn wsL_isBoardSo (wsV RL 84 RX3 yX3_builderAt wsX3_builderAt) := goodIn_app (goodIn_of _ (by decide +kernel)) ggL_isBoardSo_X3_builderAt
set_option maxRecDepth 20000 in
theorem ggL_isBoardSo_X3_height : GoodIn wsL_isBoardSo wsX3_height := goodIn_ca (goodIn_r _ [25, 6, 7, 8, 9, 4, 10, 11, 12, 13, 14, 15, 26, 27, 28, 19, 29, 30, 143, 144, 145, 146, 147, 148, 149, 150, 151, 152, 153, 154, 155, 156, 157, 158] (by decide +kernel) (by decide +kernel)) (goodIn_sub (fun _ h => List.mem_cons_of_mem _ (List.mem_append_left _ (List.mem_append_right _ h))) (by decide +kernel))
set_option maxRecDepth 20000 in
theorem gL_isBoardSo_X3_height : GoodIn wsL_isBoardSo (wsV RL 81 RX3 yX3_height wsX3_height) := goodIn_app (goodIn_of _ (by decide +kernel)) ggL_isBoardSo_X3_height
set_option maxRecDepth 20000 in
theorem ggL_isBoardSo_L_turnCount : GoodIn wsL_isBoardSo wsL_turnCount := goodIn_ca (goodIn_r _ [34, 35, 36, 37, 38, 4, 39, 6, 40, 41, 42, 43, 44, 45, 46, 47, 48, 49, 19, 50, 51, 52, 53, 54, 55, 56, 57, 58, 59, 60, 61, 62, 63, 64, 65, 66, 67, 68, 69, 70, 71, 72, 73, 74, 75, 76, 77, 78, 79, 80, 81, 82, 83, 84, 85, 27, 28, 29, 30, 86, 87, 88, 89, 90, 17, 18, 20, 21, 91, 92, 93, 94, 95, 96, 97, 98, 99, 100, 101, 102, 103, 104, 105, 106, 107, 108, 109, 110, 111, 112, 113, 114, 115, 116, 117, 143, 144, 145, 159, 160, 146, 147, 148, 149, 150, 151, 152, 153, 154, 155, 156, 157, 158] (by decide +kernel) (by decide +kernel)) (goodIn_sub (fun _ h => List.mem_cons_of_mem _ (List.mem_append_right _ h)) (by decide +kernel))
set_option maxRecDepth 20000 in
theorem gL_isBoardSo_L_turnCount : GoodIn wsL_isBoardSo (va_wsS RL 51 yL_turnCount wsL_turnCount) := goodIn_app (goodIn_of _ (by decide +kernel)) ggL_isBoardSo_L_turnCount
set_option maxRecDepth 20000 in
theorem ggL_isBoardSo_X3_winner : GoodIn wsL_isBoardSo wsX3_winner := goodIn_r _ [121, 6, 143, 144, 145, 146, 147, 148, 149, 150, 151, 152, 153, 154, 155, 156, 157, 158] (by decide +kernel) (by decide +kernel)
set_option maxRecDepth 20000 in
theorem gL_isBoardSo_X3_winner : GoodIn wsL_isBoardSo (wsV RL 72 RX3 yX3_winner wsX3_winner) := goodIn_app (goodIn_of _ (by decide +kernel)) ggL_isBoardSo_X3_winner
set_option maxRecDepth 20000 in
theorem ggL_isBoardSo_X3_reached : GoodIn wsL_isBoardSo wsX3_reached := goodIn_ca (goodIn_r _ [125, 11, 12, 6, 13, 14, 4, 15, 126, 127, 128, 19, 129, 52, 66, 67, 68, 69, 70, 85, 27, 28, 29, 30, 143, 144, 145, 146, 147, 148, 149, 150, 151, 152, 153, 154, 155, 156, 157, 158] (by decide +kernel) (by decide +kernel)) (goodIn_sub (fun _ h => List.mem_cons_of_mem _ (List.mem_append_left _ (List.mem_append_right _ h))) (by decide +kernel))
set_option maxRecDepth 20000 in
theorem gL_isBoardSo_X3_reached : GoodIn wsL_isBoardSo (wsV RL 78 RX3 yX3_reached wsX3_reached) := goodIn_app (goodIn_of _ (by decide +kernel)) ggL_isBoardSo_X3_reached
set_option maxRecDepth 20000 in
theorem ggL_isBoardSo_X3_onTurn : GoodIn wsL_isBoardSo wsX3_onTurn := goodIn_r _ [133, 6, 134, 135, 136, 19, 137, 57, 58, 51, 52, 138, 48, 49, 50, 143, 144, 145, 146, 147, 148, 149, 150, 151, 152, 153, 154, 155, 156, 157, 158] (by decide +kernel) (by decide +kernel)
set_option maxRecDepth 20000 in
theorem gL_isBoardSo_X3_onTurn : GoodIn wsL_isBoardSo (wsV RL 69 RX3 yX3_onTurn wsX3_onTurn) := goodIn_app (goodIn_of _ (by decide +kernel)) ggL_isBoardSo_X3_onTurn
set_option maxRecDepth 20000 in
theorem ggL_isBoardSo_X3_played : GoodIn wsL_isBoardSo wsX3_played := goodIn_r _ [142, 6, 143, 144, 145, 146, 147, 148, 149, 150, 151, 152, 153, 154, 155, 156, 157, 158] (by decide +kernel) (by decide +kernel)
set_option maxRecDepth 20000 in
theorem gL_isBoardSo_X3_played : GoodIn wsL_isBoardSo (wsV RL 75 RX3 yX3_played wsX3_played) := goodIn_app (goodIn_of _ (by decide +kernel)) ggL_isBoardSo_X3_played
theorem dL_isBoardSo_0 : decode cL_isBoardSo 0 = .ok (.iconst 0, 1) := by decide +kernel
theorem dL_isBoardSo_1 : decode cL_isBoardSo 1 = .ok (.istore_n 2, 1) := by decide +kernel
theorem dL_isBoardSo_2 : decode cL_isBoardSo 2 = .ok (.iconst 0, 1) := by decide +kernel
theorem dL_isBoardSo_3 : decode cL_isBoardSo 3 = .ok (.istore_n 3, 1) := by decide +kernel
theorem dL_isBoardSo_4 : decode cL_isBoardSo 4 = .ok (.iconst 0, 1) := by decide +kernel
theorem dL_isBoardSo_5 : decode cL_isBoardSo 5 = .ok (.istore 4, 2) := by decide +kernel
theorem dL_isBoardSo_7 : decode cL_isBoardSo 7 = .ok (.iload 4, 2) := by decide +kernel
theorem dL_isBoardSo_9 : decode cL_isBoardSo 9 = .ok (.iload_n 1, 1) := by decide +kernel
theorem dL_isBoardSo_10 : decode cL_isBoardSo 10 = .ok (.if_icmp .ge 105, 3) := by decide +kernel
theorem dL_isBoardSo_13 : decode cL_isBoardSo 13 = .ok (.aload_n 0, 1) := by decide +kernel
theorem dL_isBoardSo_14 : decode cL_isBoardSo 14 = .ok (.iload 4, 2) := by decide +kernel
theorem dL_isBoardSo_16 : decode cL_isBoardSo 16 = .ok (.invokevirtual 84, 3) := by decide +kernel
theorem dL_isBoardSo_19 : decode cL_isBoardSo 19 = .ok (.istore 5, 2) := by decide +kernel
theorem dL_isBoardSo_21 : decode cL_isBoardSo 21 = .ok (.aload_n 0, 1) := by decide +kernel
theorem dL_isBoardSo_22 : decode cL_isBoardSo 22 = .ok (.iload 4, 2) := by decide +kernel
theorem dL_isBoardSo_24 : decode cL_isBoardSo 24 = .ok (.invokevirtual 81, 3) := by decide +kernel
theorem dL_isBoardSo_27 : decode cL_isBoardSo 27 = .ok (.istore 6, 2) := by decide +kernel
theorem dL_isBoardSo_29 : decode cL_isBoardSo 29 = .ok (.iload 6, 2) := by decide +kernel
theorem dL_isBoardSo_31 : decode cL_isBoardSo 31 = .ok (.ifCond .lt 40, 3) := by decide +kernel
theorem dL_isBoardSo_34 : decode cL_isBoardSo 34 = .ok (.iload 6, 2) := by decide +kernel
theorem dL_isBoardSo_36 : decode cL_isBoardSo 36 = .ok (.iconst 4, 1) := by decide +kernel
theorem dL_isBoardSo_37 : decode cL_isBoardSo 37 = .ok (.if_icmp .gt 34, 3) := by decide +kernel
theorem dL_isBoardSo_40 : decode cL_isBoardSo 40 = .ok (.iload 5, 2) := by decide +kernel
theorem dL_isBoardSo_42 : decode cL_isBoardSo 42 = .ok (.ifCond .lt 9, 3) := by decide +kernel
theorem dL_isBoardSo_45 : decode cL_isBoardSo 45 = .ok (.iload 6, 2) := by decide +kernel
theorem dL_isBoardSo_47 : decode cL_isBoardSo 47 = .ok (.iconst 4, 1) := by decide +kernel
theorem dL_isBoardSo_48 : decode cL_isBoardSo 48 = .ok (.if_icmp .eq 23, 3) := by decide +kernel
theorem dL_isBoardSo_51 : decode cL_isBoardSo 51 = .ok (.iload 5, 2) := by decide +kernel
theorem dL_isBoardSo_53 : decode cL_isBoardSo 53 = .ok (.bipush 11, 2) := by decide +kernel
theorem dL_isBoardSo_55 : decode cL_isBoardSo 55 = .ok (.if_icmp .gt 16, 3) := by decide +kernel
theorem dL_isBoardSo_58 : decode cL_isBoardSo 58 = .ok (.iload 5, 2) := by decide +kernel
theorem dL_isBoardSo_60 : decode cL_isBoardSo 60 = .ok (.iconst 1, 1) := by decide +kernel
theorem dL_isBoardSo_61 : decode cL_isBoardSo 61 = .ok (.if_icmp .le 12, 3) := by decide +kernel
theorem dL_isBoardSo_64 : decode cL_isBoardSo 64 = .ok (.iload 5, 2) := by decide +kernel
theorem dL_isBoardSo_66 : decode cL_isBoardSo 66 = .ok (.bipush 10, 2) := by decide +kernel
theorem dL_isBoardSo_68 : decode cL_isBoardSo 68 = .ok (.if_icmp .ge 5, 3) := by decide +kernel
theorem dL_isBoardSo_71 : decode cL_isBoardSo 71 = .ok (.iconst 0, 1) := by decide +kernel
theorem dL_isBoardSo_72 : decode cL_isBoardSo 72 = .ok (.ireturn, 1) := by decide +kernel
theorem dL_isBoardSo_73 : decode cL_isBoardSo 73 = .ok (.iload_n 2, 1) := by decide +kernel
theorem dL_isBoardSo_74 : decode cL_isBoardSo 74 = .ok (.iload 5, 2) := by decide +kernel
theorem dL_isBoardSo_76 : decode cL_isBoardSo 76 = .ok (.ifCond .lt 14, 3) := by decide +kernel
theorem dL_isBoardSo_79 : decode cL_isBoardSo 79 = .ok (.iload 5, 2) := by decide +kernel
theorem dL_isBoardSo_81 : decode cL_isBoardSo 81 = .ok (.iconst 2, 1) := by decide +kernel
theorem dL_isBoardSo_82 : decode cL_isBoardSo 82 = .ok (.if_icmp .ge 8, 3) := by decide +kernel
theorem dL_isBoardSo_85 : decode cL_isBoardSo 85 = .ok (.iload 6, 2) := by decide +kernel
theorem dL_isBoardSo_87 : decode cL_isBoardSo 87 = .ok (.goto 4, 3) := by decide +kernel
theorem dL_isBoardSo_90 : decode cL_isBoardSo 90 = .ok (.iconst 0, 1) := by decide +kernel
theorem dL_isBoardSo_91 : decode cL_isBoardSo 91 = .ok (.iadd, 1) := by decide +kernel
theorem dL_isBoardSo_92 : decode cL_isBoardSo 92 = .ok (.istore_n 2, 1) := by decide +kernel
theorem dL_isBoardSo_93 : decode cL_isBoardSo 93 = .ok (.iload_n 3, 1) := by decide +kernel
theorem dL_isBoardSo_94 : decode cL_isBoardSo 94 = .ok (.iload 5, 2) := by decide +kernel
theorem dL_isBoardSo_96 : decode cL_isBoardSo 96 = .ok (.bipush 10, 2) := by decide +kernel
theorem dL_isBoardSo_98 : decode cL_isBoardSo 98 = .ok (.if_icmp .lt 8, 3) := by decide +kernel
theorem dL_isBoardSo_101 : decode cL_isBoardSo 101 = .ok (.iload 6, 2) := by decide +kernel
theorem dL_isBoardSo_103 : decode cL_isBoardSo 103 = .ok (.goto 4, 3) := by decide +kernel
theorem dL_isBoardSo_106 : decode cL_isBoardSo 106 = .ok (.iconst 0, 1) := by decide +kernel
theorem dL_isBoardSo_107 : decode cL_isBoardSo 107 = .ok (.iadd, 1) := by decide +kernel
theorem dL_isBoardSo_108 : decode cL_isBoardSo 108 = .ok (.istore_n 3, 1) := by decide +kernel
theorem dL_isBoardSo_109 : decode cL_isBoardSo 109 = .ok (.iinc 4 1, 3) := by decide +kernel
theorem dL_isBoardSo_112 : decode cL_isBoardSo 112 = .ok (.goto (-105), 3) := by decide +kernel
theorem dL_isBoardSo_115 : decode cL_isBoardSo 115 = .ok (.aload_n 0, 1) := by decide +kernel
theorem dL_isBoardSo_116 : decode cL_isBoardSo 116 = .ok (.invokestatic 51, 3) := by decide +kernel
theorem dL_isBoardSo_119 : decode cL_isBoardSo 119 = .ok (.istore 4, 2) := by decide +kernel
theorem dL_isBoardSo_121 : decode cL_isBoardSo 121 = .ok (.aload_n 0, 1) := by decide +kernel
theorem dL_isBoardSo_122 : decode cL_isBoardSo 122 = .ok (.invokevirtual 72, 3) := by decide +kernel
theorem dL_isBoardSo_125 : decode cL_isBoardSo 125 = .ok (.ifCond .lt 7, 3) := by decide +kernel
theorem dL_isBoardSo_128 : decode cL_isBoardSo 128 = .ok (.iconst 1, 1) := by decide +kernel
theorem dL_isBoardSo_129 : decode cL_isBoardSo 129 = .ok (.goto 4, 3) := by decide +kernel
theorem dL_isBoardSo_132 : decode cL_isBoardSo 132 = .ok (.iconst 0, 1) := by decide +kernel
theorem dL_isBoardSo_133 : decode cL_isBoardSo 133 = .ok (.istore 5, 2) := by decide +kernel
theorem dL_isBoardSo_135 : decode cL_isBoardSo 135 = .ok (.aload_n 0, 1) := by decide +kernel
theorem dL_isBoardSo_136 : decode cL_isBoardSo 136 = .ok (.iconst 0, 1) := by decide +kernel
theorem dL_isBoardSo_137 : decode cL_isBoardSo 137 = .ok (.invokevirtual 78, 3) := by decide +kernel
theorem dL_isBoardSo_140 : decode cL_isBoardSo 140 = .ok (.iload_n 2, 1) := by decide +kernel
theorem dL_isBoardSo_141 : decode cL_isBoardSo 141 = .ok (.if_icmp .ne 51, 3) := by decide +kernel
theorem dL_isBoardSo_144 : decode cL_isBoardSo 144 = .ok (.aload_n 0, 1) := by decide +kernel
theorem dL_isBoardSo_145 : decode cL_isBoardSo 145 = .ok (.iconst 1, 1) := by decide +kernel
theorem dL_isBoardSo_146 : decode cL_isBoardSo 146 = .ok (.invokevirtual 78, 3) := by decide +kernel
theorem dL_isBoardSo_149 : decode cL_isBoardSo 149 = .ok (.iload_n 3, 1) := by decide +kernel
theorem dL_isBoardSo_150 : decode cL_isBoardSo 150 = .ok (.if_icmp .ne 42, 3) := by decide +kernel
theorem dL_isBoardSo_153 : decode cL_isBoardSo 153 = .ok (.aload_n 0, 1) := by decide +kernel
theorem dL_isBoardSo_154 : decode cL_isBoardSo 154 = .ok (.invokevirtual 69, 3) := by decide +kernel
theorem dL_isBoardSo_157 : decode cL_isBoardSo 157 = .ok (.iconst (-1), 1) := by decide +kernel
theorem dL_isBoardSo_158 : decode cL_isBoardSo 158 = .ok (.if_icmp .ne 7, 3) := by decide +kernel
theorem dL_isBoardSo_161 : decode cL_isBoardSo 161 = .ok (.iconst 1, 1) := by decide +kernel
theorem dL_isBoardSo_162 : decode cL_isBoardSo 162 = .ok (.goto 4, 3) := by decide +kernel
theorem dL_isBoardSo_165 : decode cL_isBoardSo 165 = .ok (.iconst 0, 1) := by decide +kernel
theorem dL_isBoardSo_166 : decode cL_isBoardSo 166 = .ok (.iload 5, 2) := by decide +kernel
theorem dL_isBoardSo_168 : decode cL_isBoardSo 168 = .ok (.if_icmp .ne 24, 3) := by decide +kernel
theorem dL_isBoardSo_171 : decode cL_isBoardSo 171 = .ok (.iload 4, 2) := by decide +kernel
theorem dL_isBoardSo_173 : decode cL_isBoardSo 173 = .ok (.ifCond .ge 15, 3) := by decide +kernel
theorem dL_isBoardSo_176 : decode cL_isBoardSo 176 = .ok (.iload 5, 2) := by decide +kernel
theorem dL_isBoardSo_178 : decode cL_isBoardSo 178 = .ok (.ifCond .ne 14, 3) := by decide +kernel
theorem dL_isBoardSo_181 : decode cL_isBoardSo 181 = .ok (.aload_n 0, 1) := by decide +kernel
theorem dL_isBoardSo_182 : decode cL_isBoardSo 182 = .ok (.invokevirtual 75, 3) := by decide +kernel
theorem dL_isBoardSo_185 : decode cL_isBoardSo 185 = .ok (.ifCond .ne 7, 3) := by decide +kernel
theorem dL_isBoardSo_188 : decode cL_isBoardSo 188 = .ok (.iconst 1, 1) := by decide +kernel
theorem dL_isBoardSo_189 : decode cL_isBoardSo 189 = .ok (.goto 4, 3) := by decide +kernel
theorem dL_isBoardSo_192 : decode cL_isBoardSo 192 = .ok (.iconst 0, 1) := by decide +kernel
theorem dL_isBoardSo_193 : decode cL_isBoardSo 193 = .ok (.istore 6, 2) := by decide +kernel
theorem dL_isBoardSo_195 : decode cL_isBoardSo 195 = .ok (.iload 6, 2) := by decide +kernel
theorem dL_isBoardSo_197 : decode cL_isBoardSo 197 = .ok (.ifCond .eq 27, 3) := by decide +kernel
theorem dL_isBoardSo_200 : decode cL_isBoardSo 200 = .ok (.iload 4, 2) := by decide +kernel
theorem dL_isBoardSo_202 : decode cL_isBoardSo 202 = .ok (.ifCond .ne 8, 3) := by decide +kernel
theorem dL_isBoardSo_205 : decode cL_isBoardSo 205 = .ok (.iload 5, 2) := by decide +kernel
theorem dL_isBoardSo_207 : decode cL_isBoardSo 207 = .ok (.ifCond .eq 17, 3) := by decide +kernel
theorem dL_isBoardSo_210 : decode cL_isBoardSo 210 = .ok (.iload 5, 2) := by decide +kernel
theorem dL_isBoardSo_212 : decode cL_isBoardSo 212 = .ok (.ifCond .eq 8, 3) := by decide +kernel
theorem dL_isBoardSo_215 : decode cL_isBoardSo 215 = .ok (.iload 4, 2) := by decide +kernel
theorem dL_isBoardSo_217 : decode cL_isBoardSo 217 = .ok (.ifCond .ne 7, 3) := by decide +kernel
theorem dL_isBoardSo_220 : decode cL_isBoardSo 220 = .ok (.iconst 1, 1) := by decide +kernel
theorem dL_isBoardSo_221 : decode cL_isBoardSo 221 = .ok (.goto 4, 3) := by decide +kernel
theorem dL_isBoardSo_224 : decode cL_isBoardSo 224 = .ok (.iconst 0, 1) := by decide +kernel
theorem dL_isBoardSo_225 : decode cL_isBoardSo 225 = .ok (.ireturn, 1) := by decide +kernel
set_option maxRecDepth 20000 in
theorem ggL_areTurnsSo_L_turnCount : GoodIn wsL_areTurnsSo wsL_turnCount := goodIn_ca (goodIn_r _ [4, 5, 6, 7, 8, 9, 10, 11, 12, 13, 14, 15, 16, 17, 18, 19, 20, 21, 22, 23, 24, 25, 26, 27, 28, 29, 30, 31, 32, 33, 34, 35, 36, 37, 38, 39, 40, 41, 42, 43, 44, 45, 46, 47, 48, 49, 50, 51, 52, 53, 54, 55, 56, 57, 58, 59, 60, 61, 62, 63, 64, 65, 66, 67, 68, 69, 70, 71, 72, 73, 74, 75, 76, 77, 78, 79, 80, 81, 82, 83, 84, 85, 86, 87, 88, 89, 90, 91, 92, 93, 94, 95, 96, 97, 98, 206, 207, 208, 209, 210, 211, 212, 213, 214, 215, 216, 217, 218, 219, 220, 221, 222, 223] (by decide +kernel) (by decide +kernel)) (goodIn_sub (fun _ h => List.mem_cons_of_mem _ (List.mem_append_left _ (List.mem_append_right _ h))) (by decide +kernel))
set_option maxRecDepth 20000 in
theorem gL_areTurnsSo_L_turnCount : GoodIn wsL_areTurnsSo (va_wsS RL 51 yL_turnCount wsL_turnCount) := goodIn_app (goodIn_of _ (by decide +kernel)) ggL_areTurnsSo_L_turnCount
set_option maxRecDepth 20000 in
theorem ggL_areTurnsSo_X3_turnAt : GoodIn wsL_areTurnsSo wsX3_turnAt := goodIn_ca (goodIn_ca (goodIn_r _ [102, 103, 104, 11, 12, 13, 14, 15, 9, 16, 17, 18, 19, 20, 21, 22, 23, 24, 25, 26, 27, 28, 29, 30, 31, 32, 33, 34, 35, 36, 37, 38, 39, 40, 41, 42, 43, 44, 45, 46, 47, 48, 49, 50, 51, 52, 53, 54, 55, 56, 57, 58, 59, 60, 61, 62, 63, 64, 65, 66, 67, 68, 69, 70, 71, 72, 73, 74, 75, 76, 77, 78, 79, 80, 81, 82, 83, 84, 85, 86, 87, 88, 89, 90, 91, 92, 93, 94, 95, 96, 97, 98, 105, 106, 107, 108, 109, 110, 111, 206, 207, 208, 209, 210, 211, 212, 213, 214, 215, 216, 217, 218, 219, 220, 221, 222, 223] (by decide +kernel) (by decide +kernel)) (goodIn_sub (fun _ h => List.mem_cons_of_mem _ (List.mem_append_right _ h)) (by decide +kernel))) (goodIn_sub (fun _ h => List.mem_cons_of_mem _ (List.mem_append_left _ (List.mem_append_right _ h))) (by decide +kernel))
set_option maxRecDepth 20000 in
theorem gL_areTurnsSo_X3_turnAt : GoodIn wsL_areTurnsSo (wsV RL 33 RX3 yX3_turnAt wsX3_turnAt) := goodIn_app (goodIn_of _ (by decide +kernel)) ggL_areTurnsSo_X3_turnAt
set_option maxRecDepth 20000 in
theorem ggL_areTurnsSo_L_turnAt : GoodIn wsL_areTurnsSo wsL_turnAt := goodIn_ca (goodIn_ca (goodIn_r _ [114, 115, 5, 99, 100, 101, 9, 102, 103, 104, 11, 12, 13, 14, 15, 16, 17, 18, 19, 20, 21, 22, 23, 24, 25, 26, 27, 28, 29, 30, 31, 32, 33, 34, 35, 36, 37, 38, 39, 40, 41, 42, 43, 44, 45, 46, 47, 48, 49, 50, 51, 52, 53, 54, 55, 56, 57, 58, 59, 60, 61, 62, 63, 64, 65, 66, 67, 68, 69, 70, 71, 72, 73, 74, 75, 76, 77, 78, 79, 80, 81, 82, 83, 84, 85, 86, 87, 88, 89, 90, 91, 92, 93, 94, 95, 96, 97, 98, 105, 106, 107, 108, 109, 110, 111, 206, 207, 208, 209, 210, 211, 212, 213, 214, 215, 216, 217, 218, 219, 220, 221, 222, 223] (by decide +kernel) (by decide +kernel)) (goodIn_sub (fun _ h => List.mem_cons_of_mem _ (List.mem_append_right _ h)) (by decide +kernel))) (goodIn_sub (fun _ h => List.mem_cons_of_mem _ (List.mem_append_left _ (List.mem_append_right _ h))) (by decide +kernel))
set_option maxRecDepth 20000 in
theorem gL_areTurnsSo_L_turnAt : GoodIn wsL_areTurnsSo (va_wsS RL 65 yL_turnAt wsL_turnAt) := goodIn_app (goodIn_of _ (by decide +kernel)) ggL_areTurnsSo_L_turnAt
set_option maxRecDepth 20000 in
theorem ggL_areTurnsSo_L_low : GoodIn wsL_areTurnsSo wsL_low := goodIn_r _ [118, 119] (by decide +kernel) (by decide +kernel)
set_option maxRecDepth 20000 in
theorem gL_areTurnsSo_L_low : GoodIn wsL_areTurnsSo (va_wsS RL 46 yL_low wsL_low) := goodIn_app (goodIn_of _ (by decide +kernel)) ggL_areTurnsSo_L_low
set_option maxRecDepth 20000 in
theorem ggL_areTurnsSo_X3_onTurn : GoodIn wsL_areTurnsSo wsX3_onTurn := goodIn_r _ [123, 11, 124, 125, 126, 22, 127, 30, 31, 24, 25, 128, 20, 21, 23, 206, 207, 208, 211, 212, 213, 214, 215, 216, 217, 218, 219, 220, 221, 222, 223] (by decide +kernel) (by decide +kernel)
set_option maxRecDepth 20000 in
theorem gL_areTurnsSo_X3_onTurn : GoodIn wsL_areTurnsSo (wsV RL 69 RX3 yX3_onTurn wsX3_onTurn) := goodIn_app (goodIn_of _ (by decide +kernel)) ggL_areTurnsSo_X3_onTurn
set_option maxRecDepth 20000 in
theorem ggL_areTurnsSo_X3_played : GoodIn wsL_areTurnsSo wsX3_played := goodIn_r _ [132, 11, 206, 207, 208, 211, 212, 213, 214, 215, 216, 217, 218, 219, 220, 221, 222, 223] (by decide +kernel) (by decide +kernel)
set_option maxRecDepth 20000 in
theorem gL_areTurnsSo_X3_played : GoodIn wsL_areTurnsSo (wsV RL 75 RX3 yX3_played wsX3_played) := goodIn_app (goodIn_of _ (by decide +kernel)) ggL_areTurnsSo_X3_played
set_option maxRecDepth 20000 in
theorem ggL_areTurnsSo_X3_play : GoodIn wsL_areTurnsSo wsX3_play := goodIn_ca (goodIn_r _ [136, 17, 18, 11, 12, 13, 14, 15, 9, 16, 19, 20, 21, 22, 23, 24, 25, 26, 27, 28, 29, 30, 31, 32, 33, 34, 35, 36, 37, 38, 39, 40, 41, 42, 43, 44, 45, 46, 47, 48, 49, 50, 51, 52, 53, 54, 55, 56, 57, 58, 59, 60, 61, 62, 63, 64, 65, 66, 67, 68, 69, 70, 71, 72, 73, 74, 75, 76, 77, 78, 79, 80, 81, 82, 83, 84, 85, 86, 87, 88, 89, 90, 91, 92, 93, 94, 95, 96, 97, 98, 137, 138, 139, 140, 141, 109, 110, 111, 142, 143, 144, 145, 146, 147, 148, 149, 150, 151, 152, 153, 154, 155, 156, 157, 158, 159, 160, 161, 162, 163, 164, 165, 166, 167, 168, 169, 170, 171, 172, 173, 174, 175, 176, 177, 178, 179, 180, 206, 207, 208, 211, 212, 213, 214, 215, 216, 217, 218, 219, 220, 221, 222, 223, 209, 210] (by decide +kernel) (by decide +kernel)) (goodIn_sub (fun _ h => List.mem_cons_of_mem _ (List.mem_append_left _ (List.mem_append_right _ h))) (by decide +kernel))
set_option maxRecDepth 20000 in
theorem gL_areTurnsSo_X3_play : GoodIn wsL_areTurnsSo (wsV RL 36 RX3 yX3_play wsX3_play) := goodIn_app (goodIn_of _ (by decide +kernel)) ggL_areTurnsSo_X3_play
set_option maxRecDepth 20000 in
theorem ggL_areTurnsSo_X3_builderAt : GoodIn wsL_areTurnsSo wsX3_builderAt := goodIn_ca (goodIn_r _ [184, 11, 185, 186, 187, 9, 188, 103, 104, 105, 106, 107, 189, 68, 69, 22, 70, 71, 206, 207, 208, 211, 212, 213, 214, 215, 216, 217, 218, 219, 220, 221, 222, 223] (by decide +kernel) (by decide +kernel)) (goodIn_sub (fun _ h => List.mem_cons_of_mem _ (List.mem_append_right _ h)) (by decide +kernel))
set_option maxRecDepth 20000 in
theorem gL_areTurnsSo_X3_builderAt : GoodIn wsL_areTurnsSo (wsV RL 84 RX3 yX3_builderAt wsX3_builderAt) := goodIn_app (goodIn_of _ (by decide +kernel)) ggL_areTurnsSo_X3_builderAt
set_option maxRecDepth 20000 in
theorem ggL_areTurnsSo_X3_winner : GoodIn wsL_areTurnsSo wsX3_winner := goodIn_r _ [193, 11, 206, 207, 208, 211, 212, 213, 214, 215, 216, 217, 218, 219, 220, 221, 222, 223] (by decide +kernel) (by decide +kernel)
set_option maxRecDepth 20000 in
theorem gL_areTurnsSo_X3_winner : GoodIn wsL_areTurnsSo (wsV RL 72 RX3 yX3_winner wsX3_winner) := goodIn_app (goodIn_of _ (by decide +kernel)) ggL_areTurnsSo_X3_winner
set_option maxRecDepth 20000 in
theorem ggL_areTurnsSo_X3_takeBack : GoodIn wsL_areTurnsSo wsX3_takeBack := goodIn_ca (goodIn_r _ [197, 17, 18, 11, 198, 199, 200, 22, 201, 31, 153, 30, 52, 154, 155, 156, 169, 170, 171, 172, 62, 146, 147, 148, 202, 203, 204, 205, 67, 68, 69, 70, 71, 161, 162, 163, 164, 165, 166, 167, 168, 43, 206, 207, 208, 211, 212, 213, 214, 215, 216, 217, 218, 219, 220, 221, 222, 223] (by decide +kernel) (by decide +kernel)) (goodIn_sub (fun _ h => List.mem_cons_of_mem _ (List.mem_append_left _ (List.mem_append_right _ h))) (by decide +kernel))
set_option maxRecDepth 20000 in
theorem gL_areTurnsSo_X3_takeBack : GoodIn wsL_areTurnsSo (wsV RL 39 RX3 yX3_takeBack wsX3_takeBack) := goodIn_app (goodIn_of _ (by decide +kernel)) ggL_areTurnsSo_X3_takeBack
theorem dL_areTurnsSo_0 : decode cL_areTurnsSo 0 = .ok (.aload_n 0, 1) := by decide +kernel
theorem dL_areTurnsSo_1 : decode cL_areTurnsSo 1 = .ok (.invokestatic 51, 3) := by decide +kernel
theorem dL_areTurnsSo_4 : decode cL_areTurnsSo 4 = .ok (.istore_n 3, 1) := by decide +kernel
theorem dL_areTurnsSo_5 : decode cL_areTurnsSo 5 = .ok (.iconst (-1), 1) := by decide +kernel
theorem dL_areTurnsSo_6 : decode cL_areTurnsSo 6 = .ok (.istore 4, 2) := by decide +kernel
theorem dL_areTurnsSo_8 : decode cL_areTurnsSo 8 = .ok (.iconst 0, 1) := by decide +kernel
theorem dL_areTurnsSo_9 : decode cL_areTurnsSo 9 = .ok (.istore 5, 2) := by decide +kernel
theorem dL_areTurnsSo_11 : decode cL_areTurnsSo 11 = .ok (.iload 5, 2) := by decide +kernel
theorem dL_areTurnsSo_13 : decode cL_areTurnsSo 13 = .ok (.iload_n 3, 1) := by decide +kernel
theorem dL_areTurnsSo_14 : decode cL_areTurnsSo 14 = .ok (.if_icmp .ge 30, 3) := by decide +kernel
theorem dL_areTurnsSo_17 : decode cL_areTurnsSo 17 = .ok (.aload_n 0, 1) := by decide +kernel
theorem dL_areTurnsSo_18 : decode cL_areTurnsSo 18 = .ok (.iload 5, 2) := by decide +kernel
theorem dL_areTurnsSo_20 : decode cL_areTurnsSo 20 = .ok (.invokevirtual 33, 3) := by decide +kernel
theorem dL_areTurnsSo_23 : decode cL_areTurnsSo 23 = .ok (.istore 6, 2) := by decide +kernel
theorem dL_areTurnsSo_25 : decode cL_areTurnsSo 25 = .ok (.iload 6, 2) := by decide +kernel
theorem dL_areTurnsSo_27 : decode cL_areTurnsSo 27 = .ok (.iload 4, 2) := by decide +kernel
theorem dL_areTurnsSo_29 : decode cL_areTurnsSo 29 = .ok (.if_icmp .gt 5, 3) := by decide +kernel
theorem dL_areTurnsSo_32 : decode cL_areTurnsSo 32 = .ok (.iconst 0, 1) := by decide +kernel
theorem dL_areTurnsSo_33 : decode cL_areTurnsSo 33 = .ok (.ireturn, 1) := by decide +kernel
theorem dL_areTurnsSo_34 : decode cL_areTurnsSo 34 = .ok (.iload 6, 2) := by decide +kernel
theorem dL_areTurnsSo_36 : decode cL_areTurnsSo 36 = .ok (.istore 4, 2) := by decide +kernel
theorem dL_areTurnsSo_38 : decode cL_areTurnsSo 38 = .ok (.iinc 5 1, 3) := by decide +kernel
theorem dL_areTurnsSo_41 : decode cL_areTurnsSo 41 = .ok (.goto (-30), 3) := by decide +kernel
theorem dL_areTurnsSo_44 : decode cL_areTurnsSo 44 = .ok (.aload_n 0, 1) := by decide +kernel
theorem dL_areTurnsSo_45 : decode cL_areTurnsSo 45 = .ok (.iload_n 3, 1) := by decide +kernel
theorem dL_areTurnsSo_46 : decode cL_areTurnsSo 46 = .ok (.ifCond .ge 7, 3) := by decide +kernel
theorem dL_areTurnsSo_49 : decode cL_areTurnsSo 49 = .ok (.iconst 0, 1) := by decide +kernel
theorem dL_areTurnsSo_50 : decode cL_areTurnsSo 50 = .ok (.goto 4, 3) := by decide +kernel
theorem dL_areTurnsSo_53 : decode cL_areTurnsSo 53 = .ok (.iload_n 3, 1) := by decide +kernel
theorem dL_areTurnsSo_54 : decode cL_areTurnsSo 54 = .ok (.invokestatic 65, 3) := by decide +kernel
theorem dL_areTurnsSo_57 : decode cL_areTurnsSo 57 = .ok (.iload_n 3, 1) := by decide +kernel
theorem dL_areTurnsSo_58 : decode cL_areTurnsSo 58 = .ok (.ifCond .ge 8, 3) := by decide +kernel
theorem dL_areTurnsSo_61 : decode cL_areTurnsSo 61 = .ok (.bipush (-2), 2) := by decide +kernel
theorem dL_areTurnsSo_63 : decode cL_areTurnsSo 63 = .ok (.goto 4, 3) := by decide +kernel
theorem dL_areTurnsSo_66 : decode cL_areTurnsSo 66 = .ok (.iconst (-1), 1) := by decide +kernel
theorem dL_areTurnsSo_67 : decode cL_areTurnsSo 67 = .ok (.if_icmp .ne 8, 3) := by decide +kernel
theorem dL_areTurnsSo_70 : decode cL_areTurnsSo 70 = .ok (.iload_n 3, 1) := by decide +kernel
theorem dL_areTurnsSo_71 : decode cL_areTurnsSo 71 = .ok (.iconst 1, 1) := by decide +kernel
theorem dL_areTurnsSo_72 : decode cL_areTurnsSo 72 = .ok (.if_icmp .ge 14, 3) := by decide +kernel
theorem dL_areTurnsSo_75 : decode cL_areTurnsSo 75 = .ok (.iload_n 3, 1) := by decide +kernel
theorem dL_areTurnsSo_76 : decode cL_areTurnsSo 76 = .ok (.iconst 1, 1) := by decide +kernel
theorem dL_areTurnsSo_77 : decode cL_areTurnsSo 77 = .ok (.if_icmp .ge 7, 3) := by decide +kernel
theorem dL_areTurnsSo_80 : decode cL_areTurnsSo 80 = .ok (.iconst 1, 1) := by decide +kernel
theorem dL_areTurnsSo_81 : decode cL_areTurnsSo 81 = .ok (.goto 4, 3) := by decide +kernel
theorem dL_areTurnsSo_84 : decode cL_areTurnsSo 84 = .ok (.iconst 0, 1) := by decide +kernel
theorem dL_areTurnsSo_85 : decode cL_areTurnsSo 85 = .ok (.ireturn, 1) := by decide +kernel
theorem dL_areTurnsSo_86 : decode cL_areTurnsSo 86 = .ok (.aload_n 0, 1) := by decide +kernel
theorem dL_areTurnsSo_87 : decode cL_areTurnsSo 87 = .ok (.iload_n 2, 1) := by decide +kernel
theorem dL_areTurnsSo_88 : decode cL_areTurnsSo 88 = .ok (.iload_n 3, 1) := by decide +kernel
theorem dL_areTurnsSo_89 : decode cL_areTurnsSo 89 = .ok (.invokestatic 46, 3) := by decide +kernel
theorem dL_areTurnsSo_92 : decode cL_areTurnsSo 92 = .ok (.invokevirtual 33, 3) := by decide +kernel
theorem dL_areTurnsSo_95 : decode cL_areTurnsSo 95 = .ok (.istore 5, 2) := by decide +kernel
theorem dL_areTurnsSo_97 : decode cL_areTurnsSo 97 = .ok (.iload 5, 2) := by decide +kernel
theorem dL_areTurnsSo_99 : decode cL_areTurnsSo 99 = .ok (.bipush 100, 2) := by decide +kernel
theorem dL_areTurnsSo_101 : decode cL_areTurnsSo 101 = .ok (.idiv, 1) := by decide +kernel
theorem dL_areTurnsSo_102 : decode cL_areTurnsSo 102 = .ok (.bipush 100, 2) := by decide +kernel
theorem dL_areTurnsSo_104 : decode cL_areTurnsSo 104 = .ok (.irem, 1) := by decide +kernel
theorem dL_areTurnsSo_105 : decode cL_areTurnsSo 105 = .ok (.istore 6, 2) := by decide +kernel
theorem dL_areTurnsSo_107 : decode cL_areTurnsSo 107 = .ok (.aload_n 0, 1) := by decide +kernel
theorem dL_areTurnsSo_108 : decode cL_areTurnsSo 108 = .ok (.invokevirtual 69, 3) := by decide +kernel
theorem dL_areTurnsSo_111 : decode cL_areTurnsSo 111 = .ok (.istore 7, 2) := by decide +kernel
theorem dL_areTurnsSo_113 : decode cL_areTurnsSo 113 = .ok (.aload_n 0, 1) := by decide +kernel
theorem dL_areTurnsSo_114 : decode cL_areTurnsSo 114 = .ok (.invokevirtual 75, 3) := by decide +kernel
theorem dL_areTurnsSo_117 : decode cL_areTurnsSo 117 = .ok (.istore 8, 2) := by decide +kernel
theorem dL_areTurnsSo_119 : decode cL_areTurnsSo 119 = .ok (.aload_n 0, 1) := by decide +kernel
theorem dL_areTurnsSo_120 : decode cL_areTurnsSo 120 = .ok (.iload 5, 2) := by decide +kernel
theorem dL_areTurnsSo_122 : decode cL_areTurnsSo 122 = .ok (.invokevirtual 36, 3) := by decide +kernel
theorem dL_areTurnsSo_125 : decode cL_areTurnsSo 125 = .ok (.istore 9, 2) := by decide +kernel
theorem dL_areTurnsSo_127 : decode cL_areTurnsSo 127 = .ok (.aload_n 0, 1) := by decide +kernel
theorem dL_areTurnsSo_128 : decode cL_areTurnsSo 128 = .ok (.iload 6, 2) := by decide +kernel
theorem dL_areTurnsSo_130 : decode cL_areTurnsSo 130 = .ok (.invokevirtual 84, 3) := by decide +kernel
theorem dL_areTurnsSo_133 : decode cL_areTurnsSo 133 = .ok (.bipush 10, 2) := by decide +kernel
theorem dL_areTurnsSo_135 : decode cL_areTurnsSo 135 = .ok (.iload 7, 2) := by decide +kernel
theorem dL_areTurnsSo_137 : decode cL_areTurnsSo 137 = .ok (.imul, 1) := by decide +kernel
theorem dL_areTurnsSo_138 : decode cL_areTurnsSo 138 = .ok (.iload 5, 2) := by decide +kernel
theorem dL_areTurnsSo_140 : decode cL_areTurnsSo 140 = .ok (.sipush 10000, 3) := by decide +kernel
theorem dL_areTurnsSo_143 : decode cL_areTurnsSo 143 = .ok (.idiv, 1) := by decide +kernel
theorem dL_areTurnsSo_144 : decode cL_areTurnsSo 144 = .ok (.iadd, 1) := by decide +kernel
theorem dL_areTurnsSo_145 : decode cL_areTurnsSo 145 = .ok (.if_icmp .ne 76, 3) := by decide +kernel
theorem dL_areTurnsSo_148 : decode cL_areTurnsSo 148 = .ok (.aload_n 0, 1) := by decide +kernel
theorem dL_areTurnsSo_149 : decode cL_areTurnsSo 149 = .ok (.invokevirtual 72, 3) := by decide +kernel
theorem dL_areTurnsSo_152 : decode cL_areTurnsSo 152 = .ok (.iload 9, 2) := by decide +kernel
theorem dL_areTurnsSo_154 : decode cL_areTurnsSo 154 = .ok (.if_icmp .ne 67, 3) := by decide +kernel
theorem dL_areTurnsSo_157 : decode cL_areTurnsSo 157 = .ok (.aload_n 0, 1) := by decide +kernel
theorem dL_areTurnsSo_158 : decode cL_areTurnsSo 158 = .ok (.invokevirtual 75, 3) := by decide +kernel
theorem dL_areTurnsSo_161 : decode cL_areTurnsSo 161 = .ok (.iload 8, 2) := by decide +kernel
theorem dL_areTurnsSo_163 : decode cL_areTurnsSo 163 = .ok (.iconst 1, 1) := by decide +kernel
theorem dL_areTurnsSo_164 : decode cL_areTurnsSo 164 = .ok (.iadd, 1) := by decide +kernel
theorem dL_areTurnsSo_165 : decode cL_areTurnsSo 165 = .ok (.if_icmp .ne 56, 3) := by decide +kernel
theorem dL_areTurnsSo_168 : decode cL_areTurnsSo 168 = .ok (.iload 5, 2) := by decide +kernel
theorem dL_areTurnsSo_170 : decode cL_areTurnsSo 170 = .ok (.bipush 100, 2) := by decide +kernel
theorem dL_areTurnsSo_172 : decode cL_areTurnsSo 172 = .ok (.irem, 1) := by decide +kernel
theorem dL_areTurnsSo_173 : decode cL_areTurnsSo 173 = .ok (.bipush 99, 2) := by decide +kernel
theorem dL_areTurnsSo_175 : decode cL_areTurnsSo 175 = .ok (.if_icmp .ne 13, 3) := by decide +kernel
theorem dL_areTurnsSo_178 : decode cL_areTurnsSo 178 = .ok (.iload 9, 2) := by decide +kernel
theorem dL_areTurnsSo_180 : decode cL_areTurnsSo 180 = .ok (.iload 7, 2) := by decide +kernel
theorem dL_areTurnsSo_182 : decode cL_areTurnsSo 182 = .ok (.if_icmp .ne 39, 3) := by decide +kernel
theorem dL_areTurnsSo_185 : decode cL_areTurnsSo 185 = .ok (.goto 16, 3) := by decide +kernel
theorem dL_areTurnsSo_188 : decode cL_areTurnsSo 188 = .ok (.iload 9, 2) := by decide +kernel
theorem dL_areTurnsSo_190 : decode cL_areTurnsSo 190 = .ok (.iconst (-1), 1) := by decide +kernel
theorem dL_areTurnsSo_191 : decode cL_areTurnsSo 191 = .ok (.if_icmp .eq 10, 3) := by decide +kernel
theorem dL_areTurnsSo_194 : decode cL_areTurnsSo 194 = .ok (.iload 9, 2) := by decide +kernel
theorem dL_areTurnsSo_196 : decode cL_areTurnsSo 196 = .ok (.iload 7, 2) := by decide +kernel
theorem dL_areTurnsSo_198 : decode cL_areTurnsSo 198 = .ok (.if_icmp .ne 23, 3) := by decide +kernel
theorem dL_areTurnsSo_201 : decode cL_areTurnsSo 201 = .ok (.iload 9, 2) := by decide +kernel
theorem dL_areTurnsSo_203 : decode cL_areTurnsSo 203 = .ok (.ifCond .ge 14, 3) := by decide +kernel
theorem dL_areTurnsSo_206 : decode cL_areTurnsSo 206 = .ok (.aload_n 0, 1) := by decide +kernel
theorem dL_areTurnsSo_207 : decode cL_areTurnsSo 207 = .ok (.invokevirtual 69, 3) := by decide +kernel
theorem dL_areTurnsSo_210 : decode cL_areTurnsSo 210 = .ok (.iconst 1, 1) := by decide +kernel
theorem dL_areTurnsSo_211 : decode cL_areTurnsSo 211 = .ok (.iload 7, 2) := by decide +kernel
theorem dL_areTurnsSo_213 : decode cL_areTurnsSo 213 = .ok (.isub, 1) := by decide +kernel
theorem dL_areTurnsSo_214 : decode cL_areTurnsSo 214 = .ok (.if_icmp .ne 7, 3) := by decide +kernel
theorem dL_areTurnsSo_217 : decode cL_areTurnsSo 217 = .ok (.iconst 1, 1) := by decide +kernel
theorem dL_areTurnsSo_218 : decode cL_areTurnsSo 218 = .ok (.goto 4, 3) := by decide +kernel
theorem dL_areTurnsSo_221 : decode cL_areTurnsSo 221 = .ok (.iconst 0, 1) := by decide +kernel
theorem dL_areTurnsSo_222 : decode cL_areTurnsSo 222 = .ok (.istore 10, 2) := by decide +kernel
theorem dL_areTurnsSo_224 : decode cL_areTurnsSo 224 = .ok (.iload 10, 2) := by decide +kernel
theorem dL_areTurnsSo_226 : decode cL_areTurnsSo 226 = .ok (.ifCond .eq 41, 3) := by decide +kernel
theorem dL_areTurnsSo_229 : decode cL_areTurnsSo 229 = .ok (.aload_n 0, 1) := by decide +kernel
theorem dL_areTurnsSo_230 : decode cL_areTurnsSo 230 = .ok (.invokevirtual 39, 3) := by decide +kernel
theorem dL_areTurnsSo_233 : decode cL_areTurnsSo 233 = .ok (.iload 8, 2) := by decide +kernel
theorem dL_areTurnsSo_235 : decode cL_areTurnsSo 235 = .ok (.if_icmp .ne 32, 3) := by decide +kernel
theorem dL_areTurnsSo_238 : decode cL_areTurnsSo 238 = .ok (.aload_n 0, 1) := by decide +kernel
theorem dL_areTurnsSo_239 : decode cL_areTurnsSo 239 = .ok (.invokevirtual 69, 3) := by decide +kernel
theorem dL_areTurnsSo_242 : decode cL_areTurnsSo 242 = .ok (.iload 7, 2) := by decide +kernel
theorem dL_areTurnsSo_244 : decode cL_areTurnsSo 244 = .ok (.if_icmp .ne 23, 3) := by decide +kernel
theorem dL_areTurnsSo_247 : decode cL_areTurnsSo 247 = .ok (.aload_n 0, 1) := by decide +kernel
theorem dL_areTurnsSo_248 : decode cL_areTurnsSo 248 = .ok (.invokestatic 51, 3) := by decide +kernel
theorem dL_areTurnsSo_251 : decode cL_areTurnsSo 251 = .ok (.iload_n 3, 1) := by decide +kernel
theorem dL_areTurnsSo_252 : decode cL_areTurnsSo 252 = .ok (.if_icmp .ne 15, 3) := by decide +kernel
theorem dL_areTurnsSo_255 : decode cL_areTurnsSo 255 = .ok (.aload_n 0, 1) := by decide +kernel
theorem dL_areTurnsSo_256 : decode cL_areTurnsSo 256 = .ok (.invokevirtual 72, 3) := by decide +kernel
theorem dL_areTurnsSo_259 : decode cL_areTurnsSo 259 = .ok (.iconst (-1), 1) := by decide +kernel
theorem dL_areTurnsSo_260 : decode cL_areTurnsSo 260 = .ok (.if_icmp .ne 7, 3) := by decide +kernel
theorem dL_areTurnsSo_263 : decode cL_areTurnsSo 263 = .ok (.iconst 1, 1) := by decide +kernel
theorem dL_areTurnsSo_264 : decode cL_areTurnsSo 264 = .ok (.goto 4, 3) := by decide +kernel
theorem dL_areTurnsSo_267 : decode cL_areTurnsSo 267 = .ok (.iconst 0, 1) := by decide +kernel
theorem dL_areTurnsSo_268 : decode cL_areTurnsSo 268 = .ok (.ireturn, 1) := by decide +kernel
set_option maxRecDepth 20000 in
theorem ggL_isWorthSo_L_turnCount : GoodIn wsL_isWorthSo wsL_turnCount := goodIn_ca (goodIn_r _ [6, 7, 8, 9, 10, 11, 12, 13, 14, 15, 16, 17, 18, 19, 20, 21, 22, 23, 24, 25, 26, 27, 28, 29, 30, 31, 32, 33, 34, 35, 36, 37, 38, 39, 40, 41, 42, 43, 44, 45, 46, 47, 48, 49, 50, 51, 52, 53, 54, 55, 56, 57, 58, 59, 60, 61, 62, 63, 64, 65, 66, 67, 68, 69, 70, 71, 72, 73, 74, 75, 76, 77, 78, 79, 80, 81, 82, 83, 84, 85, 86, 87, 88, 89, 90, 91, 92, 93, 94, 95, 96, 97, 98, 99, 100, 217, 218, 219, 220, 221, 222, 223, 224, 225, 226, 227, 228, 229, 230, 231, 232, 233, 234] (by decide +kernel) (by decide +kernel)) (goodIn_sub (fun _ h => List.mem_cons_of_mem _ (List.mem_append_left _ (List.mem_append_left _ (List.mem_append_right _ h)))) (by decide +kernel))
set_option maxRecDepth 20000 in
theorem gL_isWorthSo_L_turnCount : GoodIn wsL_isWorthSo (va_wsS RL 51 yL_turnCount wsL_turnCount) := goodIn_app (goodIn_of _ (by decide +kernel)) ggL_isWorthSo_L_turnCount
set_option maxRecDepth 20000 in
theorem ggL_isWorthSo_L_worth : GoodIn wsL_isWorthSo wsL_worth := goodIn_ca (goodIn_ca (goodIn_r _ [103, 104, 7, 2, 1, 105, 106, 107, 11, 108, 109, 13, 110, 111, 112, 113, 114, 115, 19, 20, 116, 117, 118, 15, 16, 17, 18, 21, 22, 23, 24, 25, 26, 27, 119, 120, 121, 122, 123, 124, 125, 126, 127, 128, 129, 130, 131, 132, 133, 134, 29, 30, 31, 32, 33, 34, 35, 36, 37, 38, 39, 40, 41, 42, 43, 44, 45, 46, 47, 48, 49, 50, 51, 52, 53, 54, 55, 56, 57, 58, 59, 60, 61, 62, 63, 64, 65, 66, 67, 68, 69, 70, 71, 72, 73, 74, 75, 76, 77, 78, 79, 80, 81, 82, 83, 84, 85, 86, 87, 88, 89, 90, 91, 92, 93, 94, 95, 96, 97, 98, 99, 100, 135, 136, 137, 138, 139, 140, 141, 142, 143, 144, 145, 146, 147, 148, 149, 150, 151, 152, 153, 154, 155, 156, 157, 158, 159, 160, 161, 162, 163, 164, 165, 166, 167, 168, 169, 170, 171, 172, 173, 174, 175, 176, 177, 178, 179, 180, 181, 182, 183, 184, 185, 186, 187, 188, 189, 190, 217, 218, 219, 222, 223, 224, 225, 226, 227, 228, 229, 230, 231, 232, 233, 234, 220, 221, 235, 236, 237] (by decide +kernel) (by decide +kernel)) (goodIn_sub (fun _ h => List.mem_cons_of_mem _ (List.mem_append_left _ (List.mem_append_right _ h))) (by decide +kernel))) (goodIn_sub (fun _ h => List.mem_cons_of_mem _ (List.mem_append_left _ (List.mem_append_left _ (List.mem_append_right _ h)))) (by decide +kernel))
set_option maxRecDepth 20000 in
theorem gL_isWorthSo_L_worth : GoodIn wsL_isWorthSo (va_wsS RL 87 yL_worth wsL_worth) := goodIn_app (goodIn_of _ (by decide +kernel)) ggL_isWorthSo_L_worth
set_option maxRecDepth 20000 in
theorem ggL_isWorthSo_X3_turnAt : GoodIn wsL_isWorthSo wsX3_turnAt := goodIn_ca (goodIn_ca (goodIn_r _ [194, 195, 196, 13, 14, 15, 16, 17, 11, 18, 19, 20, 21, 22, 23, 24, 25, 26, 27, 28, 29, 30, 31, 32, 33, 34, 35, 36, 37, 38, 39, 40, 41, 42, 43, 44, 45, 46, 47, 48, 49, 50, 51, 52, 53, 54, 55, 56, 57, 58, 59, 60, 61, 62, 63, 64, 65, 66, 67, 68, 69, 70, 71, 72, 73, 74, 75, 76, 77, 78, 79, 80, 81, 82, 83, 84, 85, 86, 87, 88, 89, 90, 91, 92, 93, 94, 95, 96, 97, 98, 99, 100, 116, 117, 118, 197, 136, 137, 138, 217, 218, 219, 220, 221, 222, 223, 224, 225, 226, 227, 228, 229, 230, 231, 232, 233, 234] (by decide +kernel) (by decide +kernel)) (goodIn_sub (fun _ h => List.mem_cons_of_mem _ (List.mem_append_right _ h)) (by decide +kernel))) (goodIn_sub (fun _ h => List.mem_cons_of_mem _ (List.mem_append_left _ (List.mem_append_left _ (List.mem_append_right _ h)))) (by decide +kernel))
set_option maxRecDepth 20000 in
theorem gL_isWorthSo_X3_turnAt : GoodIn wsL_isWorthSo (wsV RL 33 RX3 yX3_turnAt wsX3_turnAt) := goodIn_app (goodIn_of _ (by decide +kernel)) ggL_isWorthSo_X3_turnAt
set_option maxRecDepth 20000 in
theorem ggL_isWorthSo_X3_play : GoodIn wsL_isWorthSo wsX3_play := goodIn_ca (goodIn_r _ [201, 19, 20, 13, 14, 15, 16, 17, 11, 18, 21, 22, 23, 24, 25, 26, 27, 28, 29, 30, 31, 32, 33, 34, 35, 36, 37, 38, 39, 40, 41, 42, 43, 44, 45, 46, 47, 48, 49, 50, 51, 52, 53, 54, 55, 56, 57, 58, 59, 60, 61, 62, 63, 64, 65, 66, 67, 68, 69, 70, 71, 72, 73, 74, 75, 76, 77, 78, 79, 80, 81, 82, 83, 84, 85, 86, 87, 88, 89, 90, 91, 92, 93, 94, 95, 96, 97, 98, 99, 100, 202, 203, 204, 205, 206, 136, 137, 138, 207, 144, 145, 146, 147, 148, 149, 150, 151, 152, 153, 154, 155, 156, 157, 158, 159, 160, 161, 162, 163, 164, 165, 166, 167, 168, 169, 170, 171, 172, 173, 174, 175, 176, 177, 178, 179, 180, 181, 217, 218, 219, 222, 223, 224, 225, 226, 227, 228, 229, 230, 231, 232, 233, 234, 220, 221] (by decide +kernel) (by decide +kernel)) (goodIn_sub (fun _ h => List.mem_cons_of_mem _ (List.mem_append_left _ (List.mem_append_left _ (List.mem_append_right _ h)))) (by decide +kernel))
set_option maxRecDepth 20000 in
theorem gL_isWorthSo_X3_play : GoodIn wsL_isWorthSo (wsV RL 36 RX3 yX3_play wsX3_play) := goodIn_app (goodIn_of _ (by decide +kernel)) ggL_isWorthSo_X3_play
set_option maxRecDepth 20000 in
theorem ggL_isWorthSo_X3_takeBack : GoodIn wsL_isWorthSo wsX3_takeBack := goodIn_ca (goodIn_r _ [211, 19, 20, 13, 212, 184, 185, 24, 186, 33, 154, 32, 54, 155, 156, 157, 170, 171, 172, 173, 64, 147, 148, 149, 187, 188, 189, 190, 69, 70, 71, 72, 73, 162, 163, 164, 165, 166, 167, 168, 169, 45, 217, 218, 219, 222, 223, 224, 225, 226, 227, 228, 229, 230, 231, 232, 233, 234] (by decide +kernel) (by decide +kernel)) (goodIn_sub (fun _ h => List.mem_cons_of_mem _ (List.mem_append_left _ (List.mem_append_left _ (List.mem_append_right _ h)))) (by decide +kernel))
set_option maxRecDepth 20000 in
theorem gL_isWorthSo_X3_takeBack : GoodIn wsL_isWorthSo (wsV RL 39 RX3 yX3_takeBack wsX3_takeBack) := goodIn_app (goodIn_of _ (by decide +kernel)) ggL_isWorthSo_X3_takeBack
set_option maxRecDepth 20000 in
theorem ggL_isWorthSo_X3_best : GoodIn wsL_isWorthSo wsX3_best := goodIn_ca (goodIn_ca (goodIn_r _ [216, 109, 13, 14, 110, 111, 112, 11, 113, 114, 115, 19, 20, 116, 117, 118, 15, 16, 17, 18, 21, 22, 23, 24, 25, 26, 27, 119, 120, 121, 122, 123, 124, 125, 126, 127, 128, 129, 130, 131, 132, 133, 134, 29, 30, 31, 32, 33, 34, 35, 36, 37, 38, 39, 40, 41, 42, 43, 44, 45, 46, 47, 48, 49, 50, 51, 52, 53, 54, 55, 56, 57, 58, 59, 60, 61, 62, 63, 64, 65, 66, 67, 68, 69, 70, 71, 72, 73, 74, 75, 76, 77, 78, 79, 80, 81, 82, 83, 84, 85, 86, 87, 88, 89, 90, 91, 92, 93, 94, 95, 96, 97, 98, 99, 100, 135, 136, 137, 138, 139, 140, 141, 142, 143, 144, 145, 146, 147, 148, 149, 150, 151, 152, 153, 154, 155, 156, 157, 158, 159, 160, 161, 162, 163, 164, 165, 166, 167, 168, 169, 170, 171, 172, 173, 174, 175, 176, 177, 178, 179, 180, 181, 182, 183, 184, 185, 186, 187, 188, 189, 190, 28, 197, 217, 218, 219, 220, 221, 222, 223, 224, 225, 226, 227, 228, 229, 230, 231, 232, 233, 234, 235, 236, 237] (by decide +kernel) (by decide +kernel)) (goodIn_sub (fun _ h => List.mem_cons_of_mem _ (List.mem_append_left _ (List.mem_append_right _ h))) (by decide +kernel))) (goodIn_sub (fun _ h => List.mem_cons_of_mem _ (List.mem_append_left _ (List.mem_append_left _ (List.mem_append_right _ h)))) (by decide +kernel))
set_option maxRecDepth 20000 in
theorem gL_isWorthSo_X3_best : GoodIn wsL_isWorthSo (wsV RL 89 RX3 yX3_best wsX3_best) := goodIn_app (goodIn_of _ (by decide +kernel)) ggL_isWorthSo_X3_best
theorem dL_isWorthSo_0 : decode cL_isWorthSo 0 = .ok (.aload_n 0, 1) := by decide +kernel
theorem dL_isWorthSo_1 : decode cL_isWorthSo 1 = .ok (.invokestatic 51, 3) := by decide +kernel
theorem dL_isWorthSo_4 : decode cL_isWorthSo 4 = .ok (.istore_n 1, 1) := by decide +kernel
theorem dL_isWorthSo_5 : decode cL_isWorthSo 5 = .ok (.iload_n 1, 1) := by decide +kernel
theorem dL_isWorthSo_6 : decode cL_isWorthSo 6 = .ok (.iconst 1, 1) := by decide +kernel
theorem dL_isWorthSo_7 : decode cL_isWorthSo 7 = .ok (.if_icmp .ge 29, 3) := by decide +kernel
theorem dL_isWorthSo_10 : decode cL_isWorthSo 10 = .ok (.aload_n 0, 1) := by decide +kernel
theorem dL_isWorthSo_11 : decode cL_isWorthSo 11 = .ok (.iconst 1, 1) := by decide +kernel
theorem dL_isWorthSo_12 : decode cL_isWorthSo 12 = .ok (.invokestatic 87, 3) := by decide +kernel
theorem dL_isWorthSo_15 : decode cL_isWorthSo 15 = .ok (.ldc 45, 2) := by decide +kernel
theorem dL_isWorthSo_17 : decode cL_isWorthSo 17 = .ok (.if_icmp .ne 17, 3) := by decide +kernel
theorem dL_isWorthSo_20 : decode cL_isWorthSo 20 = .ok (.aload_n 0, 1) := by decide +kernel
theorem dL_isWorthSo_21 : decode cL_isWorthSo 21 = .ok (.iconst 4, 1) := by decide +kernel
theorem dL_isWorthSo_22 : decode cL_isWorthSo 22 = .ok (.invokestatic 87, 3) := by decide +kernel
theorem dL_isWorthSo_25 : decode cL_isWorthSo 25 = .ok (.ldc 16, 2) := by decide +kernel
theorem dL_isWorthSo_27 : decode cL_isWorthSo 27 = .ok (.if_icmp .ne 7, 3) := by decide +kernel
theorem dL_isWorthSo_30 : decode cL_isWorthSo 30 = .ok (.iconst 1, 1) := by decide +kernel
theorem dL_isWorthSo_31 : decode cL_isWorthSo 31 = .ok (.goto 4, 3) := by decide +kernel
theorem dL_isWorthSo_34 : decode cL_isWorthSo 34 = .ok (.iconst 0, 1) := by decide +kernel
theorem dL_isWorthSo_35 : decode cL_isWorthSo 35 = .ok (.ireturn, 1) := by decide +kernel
theorem dL_isWorthSo_36 : decode cL_isWorthSo 36 = .ok (.iconst (-1), 1) := by decide +kernel
theorem dL_isWorthSo_37 : decode cL_isWorthSo 37 = .ok (.istore_n 2, 1) := by decide +kernel
theorem dL_isWorthSo_38 : decode cL_isWorthSo 38 = .ok (.iload_n 1, 1) := by decide +kernel
theorem dL_isWorthSo_39 : decode cL_isWorthSo 39 = .ok (.iconst 1, 1) := by decide +kernel
theorem dL_isWorthSo_40 : decode cL_isWorthSo 40 = .ok (.isub, 1) := by decide +kernel
theorem dL_isWorthSo_41 : decode cL_isWorthSo 41 = .ok (.istore_n 3, 1) := by decide +kernel
theorem dL_isWorthSo_42 : decode cL_isWorthSo 42 = .ok (.iload_n 3, 1) := by decide +kernel
theorem dL_isWorthSo_43 : decode cL_isWorthSo 43 = .ok (.ifCond .lt 38, 3) := by decide +kernel
theorem dL_isWorthSo_46 : decode cL_isWorthSo 46 = .ok (.aload_n 0, 1) := by decide +kernel
theorem dL_isWorthSo_47 : decode cL_isWorthSo 47 = .ok (.iload_n 3, 1) := by decide +kernel
theorem dL_isWorthSo_48 : decode cL_isWorthSo 48 = .ok (.invokevirtual 33, 3) := by decide +kernel
theorem dL_isWorthSo_51 : decode cL_isWorthSo 51 = .ok (.istore 4, 2) := by decide +kernel
theorem dL_isWorthSo_53 : decode cL_isWorthSo 53 = .ok (.aload_n 0, 1) := by decide +kernel
theorem dL_isWorthSo_54 : decode cL_isWorthSo 54 = .ok (.iload 4, 2) := by decide +kernel
theorem dL_isWorthSo_56 : decode cL_isWorthSo 56 = .ok (.invokevirtual 36, 3) := by decide +kernel
theorem dL_isWorthSo_59 : decode cL_isWorthSo 59 = .ok (.ifCond .lt 8, 3) := by decide +kernel
theorem dL_isWorthSo_62 : decode cL_isWorthSo 62 = .ok (.iload 4, 2) := by decide +kernel
theorem dL_isWorthSo_64 : decode cL_isWorthSo 64 = .ok (.goto 4, 3) := by decide +kernel
theorem dL_isWorthSo_67 : decode cL_isWorthSo 67 = .ok (.iload_n 2, 1) := by decide +kernel
theorem dL_isWorthSo_68 : decode cL_isWorthSo 68 = .ok (.istore_n 2, 1) := by decide +kernel
theorem dL_isWorthSo_69 : decode cL_isWorthSo 69 = .ok (.aload_n 0, 1) := by decide +kernel
theorem dL_isWorthSo_70 : decode cL_isWorthSo 70 = .ok (.invokevirtual 39, 3) := by decide +kernel
theorem dL_isWorthSo_73 : decode cL_isWorthSo 73 = .ok (.istore 5, 2) := by decide +kernel
theorem dL_isWorthSo_75 : decode cL_isWorthSo 75 = .ok (.iinc 3 (-1), 3) := by decide +kernel
theorem dL_isWorthSo_78 : decode cL_isWorthSo 78 = .ok (.goto (-36), 3) := by decide +kernel
theorem dL_isWorthSo_81 : decode cL_isWorthSo 81 = .ok (.aload_n 0, 1) := by decide +kernel
theorem dL_isWorthSo_82 : decode cL_isWorthSo 82 = .ok (.iconst 0, 1) := by decide +kernel
theorem dL_isWorthSo_83 : decode cL_isWorthSo 83 = .ok (.invokestatic 87, 3) := by decide +kernel
theorem dL_isWorthSo_86 : decode cL_isWorthSo 86 = .ok (.ifCond .ne 45, 3) := by decide +kernel
theorem dL_isWorthSo_89 : decode cL_isWorthSo 89 = .ok (.aload_n 0, 1) := by decide +kernel
theorem dL_isWorthSo_90 : decode cL_isWorthSo 90 = .ok (.iconst 1, 1) := by decide +kernel
theorem dL_isWorthSo_91 : decode cL_isWorthSo 91 = .ok (.invokestatic 87, 3) := by decide +kernel
theorem dL_isWorthSo_94 : decode cL_isWorthSo 94 = .ok (.iload_n 2, 1) := by decide +kernel
theorem dL_isWorthSo_95 : decode cL_isWorthSo 95 = .ok (.ifCond .lt 7, 3) := by decide +kernel
theorem dL_isWorthSo_98 : decode cL_isWorthSo 98 = .ok (.iconst 1, 1) := by decide +kernel
theorem dL_isWorthSo_99 : decode cL_isWorthSo 99 = .ok (.goto 4, 3) := by decide +kernel
theorem dL_isWorthSo_102 : decode cL_isWorthSo 102 = .ok (.iconst 0, 1) := by decide +kernel
theorem dL_isWorthSo_103 : decode cL_isWorthSo 103 = .ok (.if_icmp .ne 28, 3) := by decide +kernel
theorem dL_isWorthSo_106 : decode cL_isWorthSo 106 = .ok (.aload_n 0, 1) := by decide +kernel
theorem dL_isWorthSo_107 : decode cL_isWorthSo 107 = .ok (.iconst 1, 1) := by decide +kernel
theorem dL_isWorthSo_108 : decode cL_isWorthSo 108 = .ok (.invokevirtual 89, 3) := by decide +kernel
theorem dL_isWorthSo_111 : decode cL_isWorthSo 111 = .ok (.iload_n 2, 1) := by decide +kernel
theorem dL_isWorthSo_112 : decode cL_isWorthSo 112 = .ok (.ifCond .lt 7, 3) := by decide +kernel
theorem dL_isWorthSo_115 : decode cL_isWorthSo 115 = .ok (.iload_n 2, 1) := by decide +kernel
theorem dL_isWorthSo_116 : decode cL_isWorthSo 116 = .ok (.goto 8, 3) := by decide +kernel
theorem dL_isWorthSo_119 : decode cL_isWorthSo 119 = .ok (.aload_n 0, 1) := by decide +kernel
theorem dL_isWorthSo_120 : decode cL_isWorthSo 120 = .ok (.iconst 0, 1) := by decide +kernel
theorem dL_isWorthSo_121 : decode cL_isWorthSo 121 = .ok (.invokevirtual 33, 3) := by decide +kernel
theorem dL_isWorthSo_124 : decode cL_isWorthSo 124 = .ok (.if_icmp .ne 7, 3) := by decide +kernel
theorem dL_isWorthSo_127 : decode cL_isWorthSo 127 = .ok (.iconst 1, 1) := by decide +kernel
theorem dL_isWorthSo_128 : decode cL_isWorthSo 128 = .ok (.goto 4, 3) := by decide +kernel
theorem dL_isWorthSo_131 : decode cL_isWorthSo 131 = .ok (.iconst 0, 1) := by decide +kernel
theorem dL_isWorthSo_132 : decode cL_isWorthSo 132 = .ok (.ireturn, 1) := by decide +kernel
set_option maxRecDepth 20000 in
theorem ggL_law_X3_init : GoodIn wsL_law wsX3_init := goodIn_r _ [6, 7, 8, 9, 10, 11, 12, 13, 14, 15, 16, 17, 18, 19, 20, 21, 22, 23, 24, 25, 26, 27, 28, 29, 30, 31, 32, 33, 34, 35, 36, 37, 38, 39, 40, 41, 42, 43, 44, 45, 46, 47, 48, 49, 50, 51, 52, 53, 54, 55, 56, 57, 58, 59, 60, 61, 62, 63, 356, 357, 358, 359, 360, 361, 362, 363, 364, 365, 366, 367, 368, 353, 354, 355, 369, 370, 371, 372, 373] (by decide +kernel) (by decide +kernel)
set_option maxRecDepth 20000 in
theorem gL_law_X3_init : GoodIn wsL_law (wsX3_init) := ggL_law_X3_init
set_option maxRecDepth 20000 in
theorem ggL_law_L_cell : GoodIn wsL_law wsL_cell := goodIn_r _ [67] (by decide +kernel) (by decide +kernel)
set_option maxRecDepth 20000 in
theorem gL_law_L_cell : GoodIn wsL_law (va_wsS RL 93 yL_cell wsL_cell) := goodIn_app (goodIn_of _ (by decide +kernel)) ggL_law_L_cell
set_option maxRecDepth 20000 in
theorem ggL_law_L_low : GoodIn wsL_law wsL_low := goodIn_r _ [70, 71] (by decide +kernel) (by decide +kernel)
set_option maxRecDepth 20000 in
theorem gL_law_L_low : GoodIn wsL_law (va_wsS RL 46 yL_low wsL_low) := goodIn_app (goodIn_of _ (by decide +kernel)) ggL_law_L_low
set_option maxRecDepth 20000 in
theorem ggL_law_L_begin : GoodIn wsL_law wsL_begin := goodIn_ca (goodIn_r _ [74, 75, 3, 76, 77, 78, 2, 79, 80, 81, 13, 82, 83, 84, 42, 43, 44, 12, 45, 46, 47, 48, 49, 50, 51, 52, 53, 27, 28, 29, 54, 55, 56, 57, 58, 59, 60, 61, 62, 63, 26, 353, 354, 355, 356, 357, 358, 359, 360, 361, 362, 363, 364, 365, 366, 367, 368] (by decide +kernel) (by decide +kernel)) (goodIn_sub (fun _ h => List.mem_append_left _ (List.mem_append_left _ (List.mem_append_right _ h))) (by decide +kernel))
set_option maxRecDepth 20000 in
theorem gL_law_L_begin : GoodIn wsL_law (va_wsS RL 54 yL_begin wsL_begin) := goodIn_app (goodIn_of _ (by decide +kernel)) ggL_law_L_begin
set_option maxRecDepth 20000 in
theorem ggL_law_X3_begin : GoodIn wsL_law wsX3_begin := goodIn_ca (goodIn_r _ [79, 80, 81, 13, 82, 83, 2, 84, 42, 43, 44, 12, 45, 46, 47, 48, 49, 50, 51, 52, 53, 27, 28, 29, 54, 55, 56, 57, 58, 59, 60, 61, 62, 63, 26, 353, 354, 355, 356, 357, 358, 359, 360, 361, 362, 363, 364, 365, 366, 367, 368] (by decide +kernel) (by decide +kernel)) (goodIn_sub (fun _ h => List.mem_append_left _ (List.mem_append_left _ (List.mem_append_right _ h))) (by decide +kernel))
set_option maxRecDepth 20000 in
theorem gL_law_X3_begin : GoodIn wsL_law (wsV RL 8 RX3 yX3_begin wsX3_begin) := goodIn_app (goodIn_of _ (by decide +kernel)) ggL_law_X3_begin
set_option maxRecDepth 20000 in
theorem ggL_law_L_act : GoodIn wsL_law wsL_act := goodIn_ca (goodIn_ca (goodIn_ca (goodIn_r _ [87, 68, 69, 66, 70, 71, 88, 89, 90, 91, 92, 93, 94, 2, 95, 13, 17, 96, 97, 98, 99, 100, 101, 102, 103, 104, 12, 105, 50, 47, 106, 107, 108, 109, 52, 51, 46, 110, 111, 112, 16, 113, 114, 115, 116, 117, 118, 29, 119, 120, 121, 122, 123, 124, 125, 126, 53, 127, 128, 129, 130, 26, 131, 132, 133, 134, 27, 135, 136, 137, 138, 139, 140, 141, 142, 28, 143, 144, 145, 146, 147, 148, 149, 150, 48, 49, 151, 152, 153, 154, 155, 156, 157, 158, 159, 160, 161, 162, 163, 164, 165, 166, 34, 72, 73, 74, 75, 3, 76, 77, 78, 79, 80, 81, 82, 83, 84, 42, 43, 44, 45, 54, 55, 56, 57, 58, 59, 60, 61, 62, 63, 167, 168, 169, 170, 171, 172, 173, 174, 175, 176, 177, 30, 178, 179, 180, 181, 182, 183, 184, 185, 186, 187, 188, 189, 190, 191, 192, 193, 194, 195, 196, 197, 198, 199, 200, 201, 202, 203, 204, 205, 206, 207, 208, 209, 210, 211, 212, 213, 214, 215, 216, 217, 218, 219, 220, 221, 222, 223, 224, 225, 226, 227, 228, 229, 230, 231, 232, 233, 234, 235, 236, 237, 238, 239, 240, 241, 242, 243, 244, 245, 246, 247, 248, 249, 250, 251, 252, 253, 254, 255, 256, 257, 258, 259, 260, 261, 262, 263, 264, 265, 266, 267, 268, 269, 270, 271, 272, 273, 274, 275, 276, 353, 354, 355, 369, 370, 356, 357, 358, 359, 360, 361, 362, 363, 364, 365, 366, 367, 368] (by decide +kernel) (by decide +kernel)) (goodIn_sub (fun _ h => List.mem_append_left _ (List.mem_append_right _ h)) (by decide +kernel))) (goodIn_sub (fun _ h => List.mem_append_left _ (List.mem_append_left _ (List.mem_append_right _ h))) (by decide +kernel))) (goodIn_sub (fun _ h => List.mem_append_right _ h) (by decide +kernel))
set_option maxRecDepth 20000 in
theorem gL_law_L_act : GoodIn wsL_law (va_wsS RL 97 yL_act wsL_act) := goodIn_app (goodIn_of _ (by decide +kernel)) ggL_law_L_act
set_option maxRecDepth 20000 in
theorem ggL_law_L_areAlike : GoodIn wsL_law wsL_areAlike := goodIn_ca (goodIn_ca (goodIn_r _ [279, 280, 281, 282, 2, 283, 13, 238, 239, 240, 12, 241, 52, 51, 50, 47, 229, 103, 104, 105, 284, 285, 286, 287, 288, 289, 290, 291, 88, 89, 66, 90, 91, 92, 93, 94, 95, 17, 96, 97, 98, 99, 100, 101, 102, 106, 107, 108, 109, 46, 110, 111, 112, 16, 113, 114, 115, 116, 117, 118, 29, 119, 120, 121, 122, 123, 124, 125, 126, 53, 127, 128, 129, 130, 26, 131, 132, 133, 134, 27, 135, 136, 137, 138, 139, 140, 141, 142, 28, 143, 144, 145, 146, 147, 148, 149, 150, 48, 49, 151, 152, 153, 154, 155, 156, 157, 158, 159, 160, 161, 162, 163, 164, 165, 166, 34, 292, 293, 294, 295, 212, 213, 82, 83, 84, 296, 297, 298, 299, 300, 301, 302, 303, 208, 209, 210, 211, 215, 304, 305, 306, 307, 214, 353, 354, 355, 356, 357, 358, 359, 360, 361, 362, 363, 364, 365, 366, 367, 368, 369, 370] (by decide +kernel) (by decide +kernel)) (goodIn_sub (fun _ h => List.mem_append_left _ (List.mem_append_right _ h)) (by decide +kernel))) (goodIn_sub (fun _ h => List.mem_append_right _ h) (by decide +kernel))
set_option maxRecDepth 20000 in
theorem gL_law_L_areAlike : GoodIn wsL_law (va_wsS RL 100 yL_areAlike wsL_areAlike) := goodIn_app (goodIn_of _ (by decide +kernel)) ggL_law_L_areAlike
set_option maxRecDepth 20000 in
theorem ggL_law_L_isBoardSo : GoodIn wsL_law wsL_isBoardSo := goodIn_ca (goodIn_ca (goodIn_r _ [310, 304, 305, 306, 2, 307, 13, 208, 209, 210, 211, 212, 213, 82, 83, 84, 214, 140, 141, 12, 142, 28, 300, 301, 302, 303, 215, 132, 133, 134, 27, 88, 89, 66, 90, 91, 92, 93, 94, 95, 17, 96, 97, 98, 99, 100, 101, 102, 103, 104, 105, 50, 47, 106, 107, 108, 109, 52, 51, 46, 110, 111, 112, 16, 113, 114, 115, 116, 117, 118, 29, 119, 120, 121, 122, 123, 124, 125, 126, 53, 127, 128, 129, 130, 26, 131, 135, 136, 137, 138, 139, 143, 144, 145, 146, 147, 148, 149, 150, 48, 49, 151, 152, 153, 154, 155, 156, 157, 158, 159, 160, 161, 162, 163, 164, 165, 166, 34, 284, 285, 286, 287, 292, 293, 294, 295, 296, 297, 298, 299, 280, 281, 282, 283, 238, 239, 240, 241, 229, 288, 289, 290, 291, 353, 354, 355, 356, 357, 358, 359, 360, 361, 362, 363, 364, 365, 366, 367, 368, 369, 370] (by decide +kernel) (by decide +kernel)) (goodIn_sub (fun _ h => List.mem_append_right _ h) (by decide +kernel))) (goodIn_sub (fun _ h => List.mem_append_left _ (List.mem_append_right _ h)) (by decide +kernel))
set_option maxRecDepth 20000 in
theorem gL_law_L_isBoardSo : GoodIn wsL_law (va_wsS RL 104 yL_isBoardSo wsL_isBoardSo) := goodIn_app (goodIn_of _ (by decide +kernel)) ggL_law_L_isBoardSo
set_option maxRecDepth 20000 in
theorem ggL_law_L_areTurnsSo : GoodIn wsL_law wsL_areTurnsSo := goodIn_ca (goodIn_ca (goodIn_r _ [313, 88, 89, 66, 90, 91, 92, 93, 94, 2, 95, 13, 17, 96, 97, 98, 99, 100, 101, 102, 103, 104, 12, 105, 50, 47, 106, 107, 108, 109, 52, 51, 46, 110, 111, 112, 16, 113, 114, 115, 116, 117, 118, 29, 119, 120, 121, 122, 123, 124, 125, 126, 53, 127, 128, 129, 130, 26, 131, 132, 133, 134, 27, 135, 136, 137, 138, 139, 140, 141, 142, 28, 143, 144, 145, 146, 147, 148, 149, 150, 48, 49, 151, 152, 153, 154, 155, 156, 157, 158, 159, 160, 161, 162, 163, 164, 165, 166, 34, 245, 246, 247, 248, 212, 213, 82, 83, 84, 249, 250, 251, 252, 242, 243, 244, 203, 68, 69, 70, 71, 280, 281, 282, 283, 238, 239, 240, 241, 229, 288, 289, 290, 291, 256, 257, 258, 259, 260, 261, 262, 263, 264, 265, 266, 267, 268, 185, 186, 187, 269, 270, 271, 272, 30, 178, 179, 180, 273, 274, 275, 276, 192, 193, 194, 195, 196, 197, 198, 199, 181, 182, 183, 184, 230, 231, 232, 233, 234, 235, 236, 237, 304, 305, 306, 307, 208, 209, 210, 211, 214, 284, 285, 286, 287, 170, 171, 172, 173, 174, 175, 176, 177, 188, 189, 190, 191, 353, 354, 355, 369, 370, 356, 357, 358, 359, 360, 361, 362, 363, 364, 365, 366, 367, 368] (by decide +kernel) (by decide +kernel)) (goodIn_sub (fun _ h => List.mem_append_left _ (List.mem_append_right _ h)) (by decide +kernel))) (goodIn_sub (fun _ h => List.mem_append_right _ h) (by decide +kernel))
set_option maxRecDepth 20000 in
theorem gL_law_L_areTurnsSo : GoodIn wsL_law (va_wsS RL 108 yL_areTurnsSo wsL_areTurnsSo) := goodIn_app (goodIn_of _ (by decide +kernel)) ggL_law_L_areTurnsSo
set_option maxRecDepth 20000 in
theorem ggL_law_L_isWorthSo : GoodIn wsL_law wsL_isWorthSo := goodIn_ca (goodIn_ca (goodIn_ca (goodIn_r _ [316, 317, 3, 88, 89, 66, 90, 91, 92, 93, 94, 2, 95, 13, 17, 96, 97, 98, 99, 100, 101, 102, 103, 104, 12, 105, 50, 47, 106, 107, 108, 109, 52, 51, 46, 110, 111, 112, 16, 113, 114, 115, 116, 117, 118, 29, 119, 120, 121, 122, 123, 124, 125, 126, 53, 127, 128, 129, 130, 26, 131, 132, 133, 134, 27, 135, 136, 137, 138, 139, 140, 141, 142, 28, 143, 144, 145, 146, 147, 148, 149, 150, 48, 49, 151, 152, 153, 154, 155, 156, 157, 158, 159, 160, 161, 162, 163, 164, 165, 166, 34, 318, 319, 320, 75, 321, 322, 323, 324, 21, 325, 326, 327, 328, 80, 81, 82, 83, 84, 329, 20, 330, 331, 332, 333, 334, 335, 336, 337, 338, 339, 39, 40, 41, 340, 341, 250, 251, 252, 342, 343, 344, 345, 346, 266, 267, 268, 185, 186, 187, 269, 270, 271, 272, 30, 178, 179, 180, 273, 274, 275, 276, 192, 193, 194, 195, 196, 197, 198, 199, 181, 182, 183, 184, 230, 231, 232, 233, 234, 235, 236, 237, 347, 348, 175, 176, 177, 188, 189, 190, 191, 245, 246, 247, 248, 212, 213, 249, 256, 257, 258, 259, 260, 261, 262, 263, 264, 265, 170, 171, 172, 173, 174, 349, 350, 351, 352, 353, 354, 355, 369, 370, 356, 357, 358, 359, 360, 361, 362, 363, 364, 365, 366, 367, 368, 371, 372, 373] (by decide +kernel) (by decide +kernel)) (goodIn_sub (fun _ h => List.mem_append_left _ (List.mem_append_right _ h)) (by decide +kernel))) (goodIn_sub (fun _ h => List.mem_append_left _ (List.mem_append_left _ (List.mem_append_right _ h))) (by decide +kernel))) (goodIn_sub (fun _ h => List.mem_append_right _ h) (by decide +kernel))
set_option maxRecDepth 20000 in
theorem gL_law_L_isWorthSo : GoodIn wsL_law (va_wsS RL 112 yL_isWorthSo wsL_isWorthSo) := goodIn_app (goodIn_of _ (by decide +kernel)) ggL_law_L_isWorthSo
theorem dL_law_0 : decode cL_law 0 = .ok (.new 9, 3) := by decide +kernel
theorem dL_law_3 : decode cL_law 3 = .ok (.dup, 1) := by decide +kernel
theorem dL_law_4 : decode cL_law 4 = .ok (.invokespecial 92, 3) := by decide +kernel
theorem dL_law_7 : decode cL_law 7 = .ok (.astore_n 1, 1) := by decide +kernel
theorem dL_law_8 : decode cL_law 8 = .ok (.new 9, 3) := by decide +kernel
theorem dL_law_11 : decode cL_law 11 = .ok (.dup, 1) := by decide +kernel
theorem dL_law_12 : decode cL_law 12 = .ok (.invokespecial 92, 3) := by decide +kernel
theorem dL_law_15 : decode cL_law 15 = .ok (.astore_n 2, 1) := by decide +kernel
theorem dL_law_16 : decode cL_law 16 = .ok (.iconst 2, 1) := by decide +kernel
theorem dL_law_17 : decode cL_law 17 = .ok (.aload_n 0, 1) := by decide +kernel
theorem dL_law_18 : decode cL_law 18 = .ok (.iconst 0, 1) := by decide +kernel
theorem dL_law_19 : decode cL_law 19 = .ok (.invokestatic 93, 3) := by decide +kernel
theorem dL_law_22 : decode cL_law 22 = .ok (.iconst 3, 1) := by decide +kernel
theorem dL_law_23 : decode cL_law 23 = .ok (.invokestatic 46, 3) := by decide +kernel
theorem dL_law_26 : decode cL_law 26 = .ok (.iadd, 1) := by decide +kernel
theorem dL_law_27 : decode cL_law 27 = .ok (.istore_n 3, 1) := by decide +kernel
theorem dL_law_28 : decode cL_law 28 = .ok (.iconst 3, 1) := by decide +kernel
theorem dL_law_29 : decode cL_law 29 = .ok (.aload_n 0, 1) := by decide +kernel
theorem dL_law_30 : decode cL_law 30 = .ok (.iconst 0, 1) := by decide +kernel
theorem dL_law_31 : decode cL_law 31 = .ok (.invokestatic 93, 3) := by decide +kernel
theorem dL_law_34 : decode cL_law 34 = .ok (.iconst 3, 1) := by decide +kernel
theorem dL_law_35 : decode cL_law 35 = .ok (.ishr, 1) := by decide +kernel
theorem dL_law_36 : decode cL_law 36 = .ok (.iconst 2, 1) := by decide +kernel
theorem dL_law_37 : decode cL_law 37 = .ok (.invokestatic 46, 3) := by decide +kernel
theorem dL_law_40 : decode cL_law 40 = .ok (.iadd, 1) := by decide +kernel
theorem dL_law_41 : decode cL_law 41 = .ok (.istore 4, 2) := by decide +kernel
theorem dL_law_43 : decode cL_law 43 = .ok (.iload_n 3, 1) := by decide +kernel
theorem dL_law_44 : decode cL_law 44 = .ok (.iload 4, 2) := by decide +kernel
theorem dL_law_46 : decode cL_law 46 = .ok (.imul, 1) := by decide +kernel
theorem dL_law_47 : decode cL_law 47 = .ok (.istore 5, 2) := by decide +kernel
theorem dL_law_49 : decode cL_law 49 = .ok (.iconst 1, 1) := by decide +kernel
theorem dL_law_50 : decode cL_law 50 = .ok (.aload_n 0, 1) := by decide +kernel
theorem dL_law_51 : decode cL_law 51 = .ok (.iconst 0, 1) := by decide +kernel
theorem dL_law_52 : decode cL_law 52 = .ok (.invokestatic 93, 3) := by decide +kernel
theorem dL_law_55 : decode cL_law 55 = .ok (.iconst 5, 1) := by decide +kernel
theorem dL_law_56 : decode cL_law 56 = .ok (.ishr, 1) := by decide +kernel
theorem dL_law_57 : decode cL_law 57 = .ok (.iconst 2, 1) := by decide +kernel
theorem dL_law_58 : decode cL_law 58 = .ok (.invokestatic 46, 3) := by decide +kernel
theorem dL_law_61 : decode cL_law 61 = .ok (.iadd, 1) := by decide +kernel
theorem dL_law_62 : decode cL_law 62 = .ok (.istore 6, 2) := by decide +kernel
theorem dL_law_64 : decode cL_law 64 = .ok (.aload_n 1, 1) := by decide +kernel
theorem dL_law_65 : decode cL_law 65 = .ok (.iload_n 3, 1) := by decide +kernel
theorem dL_law_66 : decode cL_law 66 = .ok (.iload 4, 2) := by decide +kernel
theorem dL_law_68 : decode cL_law 68 = .ok (.iload 6, 2) := by decide +kernel
theorem dL_law_70 : decode cL_law 70 = .ok (.aload_n 0, 1) := by decide +kernel
theorem dL_law_71 : decode cL_law 71 = .ok (.iconst 0, 1) := by decide +kernel
theorem dL_law_72 : decode cL_law 72 = .ok (.invokestatic 93, 3) := by decide +kernel
theorem dL_law_75 : decode cL_law 75 = .ok (.bipush 7, 2) := by decide +kernel
theorem dL_law_77 : decode cL_law 77 = .ok (.ishr, 1) := by decide +kernel
theorem dL_law_78 : decode cL_law 78 = .ok (.bipush 7, 2) := by decide +kernel
theorem dL_law_80 : decode cL_law 80 = .ok (.invokestatic 46, 3) := by decide +kernel
theorem dL_law_83 : decode cL_law 83 = .ok (.aload_n 0, 1) := by decide +kernel
theorem dL_law_84 : decode cL_law 84 = .ok (.iconst 0, 1) := by decide +kernel
theorem dL_law_85 : decode cL_law 85 = .ok (.invokestatic 93, 3) := by decide +kernel
theorem dL_law_88 : decode cL_law 88 = .ok (.bipush 11, 2) := by decide +kernel
theorem dL_law_90 : decode cL_law 90 = .ok (.ishr, 1) := by decide +kernel
theorem dL_law_91 : decode cL_law 91 = .ok (.bipush 7, 2) := by decide +kernel
theorem dL_law_93 : decode cL_law 93 = .ok (.invokestatic 46, 3) := by decide +kernel
theorem dL_law_96 : decode cL_law 96 = .ok (.invokestatic 54, 3) := by decide +kernel
theorem dL_law_99 : decode cL_law 99 = .ok (.iload 5, 2) := by decide +kernel
theorem dL_law_101 : decode cL_law 101 = .ok (.if_icmp .ne 43, 3) := by decide +kernel
theorem dL_law_104 : decode cL_law 104 = .ok (.aload_n 2, 1) := by decide +kernel
theorem dL_law_105 : decode cL_law 105 = .ok (.iload_n 3, 1) := by decide +kernel
theorem dL_law_106 : decode cL_law 106 = .ok (.iload 4, 2) := by decide +kernel
theorem dL_law_108 : decode cL_law 108 = .ok (.iload 6, 2) := by decide +kernel
theorem dL_law_110 : decode cL_law 110 = .ok (.aload_n 0, 1) := by decide +kernel
theorem dL_law_111 : decode cL_law 111 = .ok (.iconst 0, 1) := by decide +kernel
theorem dL_law_112 : decode cL_law 112 = .ok (.invokestatic 93, 3) := by decide +kernel
theorem dL_law_115 : decode cL_law 115 = .ok (.bipush 7, 2) := by decide +kernel
theorem dL_law_117 : decode cL_law 117 = .ok (.ishr, 1) := by decide +kernel
theorem dL_law_118 : decode cL_law 118 = .ok (.bipush 7, 2) := by decide +kernel
theorem dL_law_120 : decode cL_law 120 = .ok (.invokestatic 46, 3) := by decide +kernel
theorem dL_law_123 : decode cL_law 123 = .ok (.aload_n 0, 1) := by decide +kernel
theorem dL_law_124 : decode cL_law 124 = .ok (.iconst 0, 1) := by decide +kernel
theorem dL_law_125 : decode cL_law 125 = .ok (.invokestatic 93, 3) := by decide +kernel
theorem dL_law_128 : decode cL_law 128 = .ok (.bipush 11, 2) := by decide +kernel
theorem dL_law_130 : decode cL_law 130 = .ok (.ishr, 1) := by decide +kernel
theorem dL_law_131 : decode cL_law 131 = .ok (.bipush 7, 2) := by decide +kernel
theorem dL_law_133 : decode cL_law 133 = .ok (.invokestatic 46, 3) := by decide +kernel
theorem dL_law_136 : decode cL_law 136 = .ok (.invokevirtual 8, 3) := by decide +kernel
theorem dL_law_139 : decode cL_law 139 = .ok (.iload 5, 2) := by decide +kernel
theorem dL_law_141 : decode cL_law 141 = .ok (.if_icmp .eq 5, 3) := by decide +kernel
theorem dL_law_144 : decode cL_law 144 = .ok (.iconst 0, 1) := by decide +kernel
theorem dL_law_145 : decode cL_law 145 = .ok (.ireturn, 1) := by decide +kernel
theorem dL_law_146 : decode cL_law 146 = .ok (.iconst 1, 1) := by decide +kernel
theorem dL_law_147 : decode cL_law 147 = .ok (.istore 7, 2) := by decide +kernel
theorem dL_law_149 : decode cL_law 149 = .ok (.iload 7, 2) := by decide +kernel
theorem dL_law_151 : decode cL_law 151 = .ok (.bipush 60, 2) := by decide +kernel
theorem dL_law_153 : decode cL_law 153 = .ok (.if_icmp .ge 141, 3) := by decide +kernel
theorem dL_law_156 : decode cL_law 156 = .ok (.aload_n 0, 1) := by decide +kernel
theorem dL_law_157 : decode cL_law 157 = .ok (.iload 7, 2) := by decide +kernel
theorem dL_law_159 : decode cL_law 159 = .ok (.invokestatic 93, 3) := by decide +kernel
theorem dL_law_162 : decode cL_law 162 = .ok (.istore 8, 2) := by decide +kernel
theorem dL_law_164 : decode cL_law 164 = .ok (.aload_n 1, 1) := by decide +kernel
theorem dL_law_165 : decode cL_law 165 = .ok (.iload 8, 2) := by decide +kernel
theorem dL_law_167 : decode cL_law 167 = .ok (.invokestatic 97, 3) := by decide +kernel
theorem dL_law_170 : decode cL_law 170 = .ok (.istore 9, 2) := by decide +kernel
theorem dL_law_172 : decode cL_law 172 = .ok (.iload 9, 2) := by decide +kernel
theorem dL_law_174 : decode cL_law 174 = .ok (.ldc 16, 2) := by decide +kernel
theorem dL_law_176 : decode cL_law 176 = .ok (.if_icmp .eq 16, 3) := by decide +kernel
theorem dL_law_179 : decode cL_law 179 = .ok (.aload_n 2, 1) := by decide +kernel
theorem dL_law_180 : decode cL_law 180 = .ok (.iload 8, 2) := by decide +kernel
theorem dL_law_182 : decode cL_law 182 = .ok (.invokestatic 97, 3) := by decide +kernel
theorem dL_law_185 : decode cL_law 185 = .ok (.iload 9, 2) := by decide +kernel
theorem dL_law_187 : decode cL_law 187 = .ok (.if_icmp .eq 5, 3) := by decide +kernel
theorem dL_law_190 : decode cL_law 190 = .ok (.iconst 0, 1) := by decide +kernel
theorem dL_law_191 : decode cL_law 191 = .ok (.ireturn, 1) := by decide +kernel
theorem dL_law_192 : decode cL_law 192 = .ok (.iload 9, 2) := by decide +kernel
theorem dL_law_194 : decode cL_law 194 = .ok (.ldc 16, 2) := by decide +kernel
theorem dL_law_196 : decode cL_law 196 = .ok (.if_icmp .eq 18, 3) := by decide +kernel
theorem dL_law_199 : decode cL_law 199 = .ok (.iload 8, 2) := by decide +kernel
theorem dL_law_201 : decode cL_law 201 = .ok (.bipush 24, 2) := by decide +kernel
theorem dL_law_203 : decode cL_law 203 = .ok (.invokestatic 46, 3) := by decide +kernel
theorem dL_law_206 : decode cL_law 206 = .ok (.ifCond .ne 8, 3) := by decide +kernel
theorem dL_law_209 : decode cL_law 209 = .ok (.iload 9, 2) := by decide +kernel
theorem dL_law_211 : decode cL_law 211 = .ok (.goto 5, 3) := by decide +kernel
theorem dL_law_214 : decode cL_law 214 = .ok (.iload 5, 2) := by decide +kernel
theorem dL_law_216 : decode cL_law 216 = .ok (.istore 5, 2) := by decide +kernel
theorem dL_law_218 : decode cL_law 218 = .ok (.aload_n 1, 1) := by decide +kernel
theorem dL_law_219 : decode cL_law 219 = .ok (.aload_n 2, 1) := by decide +kernel
theorem dL_law_220 : decode cL_law 220 = .ok (.iload 5, 2) := by decide +kernel
theorem dL_law_222 : decode cL_law 222 = .ok (.invokestatic 100, 3) := by decide +kernel
theorem dL_law_225 : decode cL_law 225 = .ok (.ifCond .eq 61, 3) := by decide +kernel
theorem dL_law_228 : decode cL_law 228 = .ok (.aload_n 1, 1) := by decide +kernel
theorem dL_law_229 : decode cL_law 229 = .ok (.iload 5, 2) := by decide +kernel
theorem dL_law_231 : decode cL_law 231 = .ok (.invokestatic 104, 3) := by decide +kernel
theorem dL_law_234 : decode cL_law 234 = .ok (.ifCond .eq 52, 3) := by decide +kernel
theorem dL_law_237 : decode cL_law 237 = .ok (.iload 7, 2) := by decide +kernel
theorem dL_law_239 : decode cL_law 239 = .ok (.bipush 6, 2) := by decide +kernel
theorem dL_law_241 : decode cL_law 241 = .ok (.irem, 1) := by decide +kernel
theorem dL_law_242 : decode cL_law 242 = .ok (.iconst 5, 1) := by decide +kernel
theorem dL_law_243 : decode cL_law 243 = .ok (.if_icmp .ne 26, 3) := by decide +kernel
theorem dL_law_246 : decode cL_law 246 = .ok (.aload_n 1, 1) := by decide +kernel
theorem dL_law_247 : decode cL_law 247 = .ok (.iload 5, 2) := by decide +kernel
theorem dL_law_249 : decode cL_law 249 = .ok (.iload 8, 2) := by decide +kernel
theorem dL_law_251 : decode cL_law 251 = .ok (.iconst 5, 1) := by decide +kernel
theorem dL_law_252 : decode cL_law 252 = .ok (.ishr, 1) := by decide +kernel
theorem dL_law_253 : decode cL_law 253 = .ok (.invokestatic 108, 3) := by decide +kernel
theorem dL_law_256 : decode cL_law 256 = .ok (.ifCond .eq 30, 3) := by decide +kernel
theorem dL_law_259 : decode cL_law 259 = .ok (.aload_n 1, 1) := by decide +kernel
theorem dL_law_260 : decode cL_law 260 = .ok (.aload_n 2, 1) := by decide +kernel
theorem dL_law_261 : decode cL_law 261 = .ok (.iload 5, 2) := by decide +kernel
theorem dL_law_263 : decode cL_law 263 = .ok (.invokestatic 100, 3) := by decide +kernel
theorem dL_law_266 : decode cL_law 266 = .ok (.ifCond .eq 20, 3) := by decide +kernel
theorem dL_law_269 : decode cL_law 269 = .ok (.iload 7, 2) := by decide +kernel
theorem dL_law_271 : decode cL_law 271 = .ok (.bipush 15, 2) := by decide +kernel
theorem dL_law_273 : decode cL_law 273 = .ok (.irem, 1) := by decide +kernel
theorem dL_law_274 : decode cL_law 274 = .ok (.bipush 14, 2) := by decide +kernel
theorem dL_law_276 : decode cL_law 276 = .ok (.if_icmp .ne 12, 3) := by decide +kernel
theorem dL_law_279 : decode cL_law 279 = .ok (.aload_n 1, 1) := by decide +kernel
theorem dL_law_280 : decode cL_law 280 = .ok (.invokestatic 112, 3) := by decide +kernel
theorem dL_law_283 : decode cL_law 283 = .ok (.ifCond .ne 5, 3) := by decide +kernel
theorem dL_law_286 : decode cL_law 286 = .ok (.iconst 0, 1) := by decide +kernel
theorem dL_law_287 : decode cL_law 287 = .ok (.ireturn, 1) := by decide +kernel
theorem dL_law_288 : decode cL_law 288 = .ok (.iinc 7 1, 3) := by decide +kernel
theorem dL_law_291 : decode cL_law 291 = .ok (.goto (-142), 3) := by decide +kernel
theorem dL_law_294 : decode cL_law 294 = .ok (.aload_n 1, 1) := by decide +kernel
theorem dL_law_295 : decode cL_law 295 = .ok (.aload_n 2, 1) := by decide +kernel
theorem dL_law_296 : decode cL_law 296 = .ok (.iload 5, 2) := by decide +kernel
theorem dL_law_298 : decode cL_law 298 = .ok (.invokestatic 100, 3) := by decide +kernel
theorem dL_law_301 : decode cL_law 301 = .ok (.ireturn, 1) := by decide +kernel
